-- X12_held
def f_X12_held (g : ob_St) (n0 : Nat) (x1 : Int32) (x2 : Int32) (x3 : Int32) (x4 : Int32) : Option (Int64 × ob_St) :=
  (ob_ck 12 n0 (f_X12_isNone g n0 x1 x2 x3 x4)).bind fun v1 => (if v1.1 = 0 then ((ob_gR 12 n0 20).bind fun v2 => (ob_ck 12 n0 (f_X12_heldOf v1.2 n0 v2 x1 x2 x3)).bind fun v3 => (ob_ck 12 n0 (f_X12_powerAt v1.2 n0 x2)).bind fun v4 => (f_X12_told v3 v4 x4).bind fun v5 => some (v5, v1.2)) else (some (0, v1.2)))
theorem b_X12_held_0 {C : ob_Cx} (F : ob_Fx C cX12_held 5 RX12 (some .long) 8 198) {g : ob_St} {n0 : Nat} {x1 : Int32} {x2 : Int32} {x3 : Int32} {x4 : Int32} {r : (Int64 × ob_St)} (h : f_X12_held g n0 x1 x2 x3 x4 = some r) (k : ob_Rt C (some (.long r.1)) r.2) : ob_Ev C 0 [(0, ob_rv C n0), (1, .int x1), (2, .int x2), (3, .int x3), (4, .int x4)] [] g := by
  unfold f_X12_held at h
  refine ob_rload_n F 0 dX12_held_0 rfl ?_
  refine ob_iload_n F 1 dX12_held_1 rfl ?_
  refine ob_iload_n F 2 dX12_held_2 rfl ?_
  refine ob_iload_n F 3 dX12_held_3 rfl ?_
  refine ob_iload F 4 dX12_held_4 rfl ?_
  refine ob_cViS F dX12_held_6 im_X12_isNone tw6_178 h (fun b hb => t_X12_isNone hb) rfl rfl (Nat.le_of_ble_eq_true rfl) (by decide) fun v1 h => ?_
  refine ob_if_eq F 16 dX12_held_9 (by decide) h (fun h => ?_) (fun h => ?_)
  · refine ob_rload_n F 0 dX12_held_16 rfl ?_
    refine ob_rload_n F 0 dX12_held_17 rfl ?_
    refine ob_getR F dX12_held_18 fl_X12_40 h fun v2 h => ?_
    refine ob_iload_n F 1 dX12_held_21 rfl ?_
    refine ob_iload_n F 2 dX12_held_22 rfl ?_
    refine ob_iload_n F 3 dX12_held_23 rfl ?_
    refine ob_cVl F dX12_held_24 im_X12_heldOf tw6_205 h (fun b hb => t_X12_heldOf hb) rfl rfl (Nat.le_of_ble_eq_true rfl) (by decide) fun v3 h => ?_
    refine ob_rload_n F 0 dX12_held_27 rfl ?_
    refine ob_iload_n F 2 dX12_held_28 rfl ?_
    refine ob_cVl F dX12_held_29 im_X12_powerAt tw6_219 h (fun b hb => t_X12_powerAt hb) rfl rfl (Nat.le_of_ble_eq_true rfl) (by decide) fun v4 h => ?_
    refine ob_iload F 4 dX12_held_32 rfl ?_
    refine ob_cSl F dX12_held_34 im_X12_told tw6_231 h (fun b hb => t_X12_told hb) rfl rfl (Nat.le_of_ble_eq_true rfl) (by decide) fun v5 h => ?_
    obtain rfl := Option.some.inj h
    exact ob_lret F dX12_held_37 k
  · refine ob_lconst F (v := 0) dX12_held_12 (by decide) ?_
    refine ob_goto F 37 dX12_held_13 (by decide) ?_
    obtain rfl := Option.some.inj h
    exact ob_lret F dX12_held_37 k
theorem t_X12_held {cf : ob_Cf} {g : ob_St} {n0 : Nat} {x1 : Int32} {x2 : Int32} {x3 : Int32} {x4 : Int32} {r : (Int64 × ob_St)} (h : f_X12_held g n0 x1 x2 x3 x4 = some r) : ob_Mt cf yX12_held cX12_held 5 (some .long) 8 198 [ob_rw cf n0, .int x1, .int x2, .int x3, .int x4] g (some (.long r.1)) r.2 := by
  refine ob_enter (by decide) (Nat.le_of_ble_eq_true rfl) rfl ?_
  intro C hC F k
  subst hC
  exact b_X12_held_0 F h k
-- X12_does
def f_X12_does (g : ob_St) (n0 : Nat) (x1 : Int32) (x2 : Int32) (x3 : Int32) : Option (Int32 × ob_St) :=
  (ob_pI g 12 n0 0 0).bind fun g1 => (ob_ck 12 n0 (f_X12_isOption g1 n0 x1)).bind fun v2 => (if v2 = 0 then (some ((-1), g1)) else ((ob_ck 12 n0 (f_X12_isNode g1 n0 x2 x3)).bind fun v3 => (if v3 = 0 then (some ((-1), g1)) else ((ob_ck 12 n0 (f_X12_lays g1 n0)).bind fun g4 => (ob_gR 12 n0 23).bind fun v5 => (f_X12_cell x1 x2 x3).bind fun v6 => (ob_rI g4 13 v5 v6).bind fun v7 => some (v7, g4)))))
theorem b_X12_does_0 {C : ob_Cx} (F : ob_Fx C cX12_does 4 RX12 (some .int) 7 174) {g : ob_St} {n0 : Nat} {x1 : Int32} {x2 : Int32} {x3 : Int32} {r : (Int32 × ob_St)} (h : f_X12_does g n0 x1 x2 x3 = some r) (k : ob_Rt C (some (.int r.1)) r.2) : ob_Ev C 0 [(0, ob_rv C n0), (1, .int x1), (2, .int x2), (3, .int x3)] [] g := by
  unfold f_X12_does at h
  refine ob_rload_n F 0 dX12_does_0 rfl ?_
  refine ob_iconst F (v := 0) dX12_does_1 (by decide) ?_
  refine ob_putI F dX12_does_2 fp_X12_1 h fun g1 h => ?_
  refine ob_rload_n F 0 dX12_does_5 rfl ?_
  refine ob_iload_n F 1 dX12_does_6 rfl ?_
  refine ob_cVi F dX12_does_7 im_X12_isOption tw6_145 h (fun b hb => t_X12_isOption hb) rfl rfl (Nat.le_of_ble_eq_true rfl) (by decide) fun v2 h => ?_
  refine ob_if_eq F 22 dX12_does_10 (by decide) h (fun h => ?_) (fun h => ?_)
  · refine ob_iconst F (v := (-1)) dX12_does_22 (by decide) ?_
    obtain rfl := Option.some.inj h
    exact ob_iret F dX12_does_23 k
  · refine ob_rload_n F 0 dX12_does_13 rfl ?_
    refine ob_iload_n F 2 dX12_does_14 rfl ?_
    refine ob_iload_n F 3 dX12_does_15 rfl ?_
    refine ob_cVi F dX12_does_16 im_X12_isNode tw6_162 h (fun b hb => t_X12_isNode hb) rfl rfl (Nat.le_of_ble_eq_true rfl) (by decide) fun v3 h => ?_
    refine ob_if_ne F 24 dX12_does_19 (by decide) h (fun h => ?_) (fun h => ?_)
    · refine ob_rload_n F 0 dX12_does_24 rfl ?_
      refine ob_cVvS F dX12_does_25 im_X12_lays tw6_189 h (fun b hb => t_X12_lays hb) rfl rfl (Nat.le_of_ble_eq_true rfl) (by decide) fun g4 h => ?_
      refine ob_rload_n F 0 dX12_does_28 rfl ?_
      refine ob_getR F dX12_does_29 fl_X12_50 h fun v5 h => ?_
      refine ob_iload_n F 1 dX12_does_32 rfl ?_
      refine ob_iload_n F 2 dX12_does_33 rfl ?_
      refine ob_iload_n F 3 dX12_does_34 rfl ?_
      refine ob_cSi F dX12_does_35 im_X12_cell tw6_209 h (fun b hb => t_X12_cell hb) rfl rfl (Nat.le_of_ble_eq_true rfl) (by decide) fun v6 h => ?_
      refine ob_bald F dX12_does_38 h fun v7 h => ?_
      obtain rfl := Option.some.inj h
      exact ob_iret F dX12_does_39 k
    · refine ob_iconst F (v := (-1)) dX12_does_22 (by decide) ?_
      obtain rfl := Option.some.inj h
      exact ob_iret F dX12_does_23 k
theorem t_X12_does {cf : ob_Cf} {g : ob_St} {n0 : Nat} {x1 : Int32} {x2 : Int32} {x3 : Int32} {r : (Int32 × ob_St)} (h : f_X12_does g n0 x1 x2 x3 = some r) : ob_Mt cf yX12_does cX12_does 4 (some .int) 7 174 [ob_rw cf n0, .int x1, .int x2, .int x3] g (some (.int r.1)) r.2 := by
  refine ob_enter (by decide) (Nat.le_of_ble_eq_true rfl) (Or.inl rfl) ?_
  intro C hC F k
  subst hC
  exact b_X12_does_0 F h k
-- X12_standsBy
def f_X12_standsBy (g : ob_St) (n0 : Nat) (n1 : Nat) (x2 : Int32) (x3 : Int32) (x4 : Int32) : Option Int64 :=
  (ob_gR 12 n0 1).bind fun v1 => (ob_rI g 14 v1 2).bind fun v2 => (if x3 = v2 then (some 0) else ((f_X12_cell x2 (x3 + 1) (x4 + 1)).bind fun v3 => (ob_rL g n1 v3).bind fun v4 => (f_X12_cell x2 (x3 + 1) x4).bind fun v5 => (ob_rL g n1 v5).bind fun v6 => some (v4 - v6)))
theorem b_X12_standsBy_0 {C : ob_Cx} (F : ob_Fx C cX12_standsBy 5 RX12 (some .long) 1 22) {g : ob_St} {n0 : Nat} {n1 : Nat} {x2 : Int32} {x3 : Int32} {x4 : Int32} {r : Int64} (h : f_X12_standsBy g n0 n1 x2 x3 x4 = some r) (k : ob_Rt C (some (.long r)) g) : ob_Ev C 0 [(0, ob_rv C n0), (1, ob_rv C n1), (2, .int x2), (3, .int x3), (4, .int x4)] [] g := by
  unfold f_X12_standsBy at h
  refine ob_iload_n F 3 dX12_standsBy_0 rfl ?_
  refine ob_rload_n F 0 dX12_standsBy_1 rfl ?_
  refine ob_getR F dX12_standsBy_2 fl_X12_13 h fun v1 h => ?_
  refine ob_iconst F (v := 2) dX12_standsBy_5 (by decide) ?_
  refine ob_iald F dX12_standsBy_6 h fun v2 h => ?_
  refine ob_icmp_ne F 14 dX12_standsBy_7 (by decide) h (fun h => ?_) (fun h => ?_)
  · refine ob_rload_n F 1 dX12_standsBy_14 rfl ?_
    refine ob_iload_n F 2 dX12_standsBy_15 rfl ?_
    refine ob_iload_n F 3 dX12_standsBy_16 rfl ?_
    refine ob_iconst F (v := 1) dX12_standsBy_17 (by decide) ?_
    refine ob_iadd F dX12_standsBy_18 ?_
    refine ob_iload F 4 dX12_standsBy_19 rfl ?_
    refine ob_iconst F (v := 1) dX12_standsBy_21 (by decide) ?_
    refine ob_iadd F dX12_standsBy_22 ?_
    refine ob_cSi F dX12_standsBy_23 im_X12_cell tw6_209 h (fun b hb => t_X12_cell hb) rfl rfl (Nat.le_of_ble_eq_true rfl) (by decide) fun v3 h => ?_
    refine ob_lald F dX12_standsBy_26 h fun v4 h => ?_
    refine ob_rload_n F 1 dX12_standsBy_27 rfl ?_
    refine ob_iload_n F 2 dX12_standsBy_28 rfl ?_
    refine ob_iload_n F 3 dX12_standsBy_29 rfl ?_
    refine ob_iconst F (v := 1) dX12_standsBy_30 (by decide) ?_
    refine ob_iadd F dX12_standsBy_31 ?_
    refine ob_iload F 4 dX12_standsBy_32 rfl ?_
    refine ob_cSi F dX12_standsBy_34 im_X12_cell tw6_209 h (fun b hb => t_X12_cell hb) rfl rfl (Nat.le_of_ble_eq_true rfl) (by decide) fun v5 h => ?_
    refine ob_lald F dX12_standsBy_37 h fun v6 h => ?_
    refine ob_lsub F dX12_standsBy_38 ?_
    obtain rfl := Option.some.inj h
    exact ob_lret F dX12_standsBy_39 k
  · refine ob_lconst F (v := 0) dX12_standsBy_10 (by decide) ?_
    refine ob_goto F 39 dX12_standsBy_11 (by decide) ?_
    obtain rfl := Option.some.inj h
    exact ob_lret F dX12_standsBy_39 k
theorem t_X12_standsBy {cf : ob_Cf} {g : ob_St} {n0 : Nat} {n1 : Nat} {x2 : Int32} {x3 : Int32} {x4 : Int32} {r : Int64} (h : f_X12_standsBy g n0 n1 x2 x3 x4 = some r) : ob_Mt cf yX12_standsBy cX12_standsBy 5 (some .long) 1 22 [ob_rw cf n0, ob_rw cf n1, .int x2, .int x3, .int x4] g (some (.long r)) g := by
  refine ob_enter (by decide) (Nat.le_of_ble_eq_true rfl) rfl ?_
  intro C hC F k
  subst hC
  exact b_X12_standsBy_0 F h k
-- X12_standsAt
def B_X12_standsAt_41 (g : ob_St) (x1 : Int32) (x2 : Int32) (x3 : Int32) (s0 : Nat) (s1 : Nat) : Option Int64 :=
  (ob_ck 12 s0 (f_X12_standsBy g s0 s1 x1 x2 x3)).bind fun v5 => some v5
theorem b_X12_standsAt_41 {C : ob_Cx} (F : ob_Fx C cX12_standsAt 5 RX12 (some .long) 2 46) {g : ob_St} {x1 : Int32} {x2 : Int32} {x3 : Int32} {s0 : Nat} {s1 : Nat} {r : Int64} (h : B_X12_standsAt_41 g x1 x2 x3 s0 s1 = some r) (k : ob_Rt C (some (.long r)) g) : ob_Ev C 41 [(1, .int x1), (2, .int x2), (3, .int x3)] [ob_rv C s1, ob_rv C s0] g := by
  unfold B_X12_standsAt_41 at h
  refine ob_iload_n F 0 dX12_standsAt_41 rfl ?_
  refine ob_iload_n F 1 dX12_standsAt_42 rfl ?_
  refine ob_iload_n F 2 dX12_standsAt_43 rfl ?_
  refine ob_cVl F dX12_standsAt_44 im_X12_standsBy tw7_21 h (fun b hb => t_X12_standsBy hb) rfl rfl (Nat.le_of_ble_eq_true rfl) (by decide) fun v5 h => ?_
  obtain rfl := Option.some.inj h
  exact ob_lret F dX12_standsAt_47 k
def f_X12_standsAt (g : ob_St) (n0 : Nat) (x1 : Int32) (x2 : Int32) (x3 : Int32) : Option Int64 :=
  (ob_gR 12 n0 23).bind fun v1 => (f_X12_cell x1 x2 x3).bind fun v2 => (ob_rI g 13 v1 v2).bind fun v3 => (if v3 = 2 then (some 0) else ((if v3 = 3 then ((ob_gR 12 n0 21).bind fun v6 => B_X12_standsAt_41 g x1 x2 x3 n0 v6) else ((ob_gR 12 n0 20).bind fun v4 => B_X12_standsAt_41 g x1 x2 x3 n0 v4))))
theorem b_X12_standsAt_0 {C : ob_Cx} (F : ob_Fx C cX12_standsAt 5 RX12 (some .long) 2 46) {g : ob_St} {n0 : Nat} {x1 : Int32} {x2 : Int32} {x3 : Int32} {r : Int64} (h : f_X12_standsAt g n0 x1 x2 x3 = some r) (k : ob_Rt C (some (.long r)) g) : ob_Ev C 0 [(0, ob_rv C n0), (1, .int x1), (2, .int x2), (3, .int x3)] [] g := by
  unfold f_X12_standsAt at h
  refine ob_rload_n F 0 dX12_standsAt_0 rfl ?_
  refine ob_getR F dX12_standsAt_1 fl_X12_50 h fun v1 h => ?_
  refine ob_iload_n F 1 dX12_standsAt_4 rfl ?_
  refine ob_iload_n F 2 dX12_standsAt_5 rfl ?_
  refine ob_iload_n F 3 dX12_standsAt_6 rfl ?_
  refine ob_cSi F dX12_standsAt_7 im_X12_cell tw6_209 h (fun b hb => t_X12_cell hb) rfl rfl (Nat.le_of_ble_eq_true rfl) (by decide) fun v2 h => ?_
  refine ob_bald F dX12_standsAt_10 h fun v3 h => ?_
  refine ob_istore F (ls2 := [(4, .int v3), (0, ob_rv C n0), (1, .int x1), (2, .int x2), (3, .int x3)]) dX12_standsAt_11 (by decide) rfl ?_
  refine ob_iload F 0 dX12_standsAt_13 rfl ?_
  refine ob_iconst F (v := 2) dX12_standsAt_15 (by decide) ?_
  refine ob_icmp_ne F 23 dX12_standsAt_16 (by decide) h (fun h => ?_) (fun h => ?_)
  · refine ob_rload_n F 1 dX12_standsAt_23 rfl ?_
    refine ob_iload F 0 dX12_standsAt_24 rfl ?_
    refine ob_iconst F (v := 3) dX12_standsAt_26 (by decide) ?_
    refine ob_icmp_ne F 37 dX12_standsAt_27 (by decide) h (fun h => ?_) (fun h => ?_)
    · refine ob_rload_n F 1 dX12_standsAt_37 rfl ?_
      refine ob_getR F dX12_standsAt_38 fl_X12_40 h fun v4 h => ?_
      exact ob_sub [2, 3, 4] rfl (b_X12_standsAt_41 F h k)
    · refine ob_rload_n F 1 dX12_standsAt_30 rfl ?_
      refine ob_getR F dX12_standsAt_31 fl_X12_44 h fun v6 h => ?_
      refine ob_goto F 41 dX12_standsAt_34 (by decide) ?_
      exact ob_sub [2, 3, 4] rfl (b_X12_standsAt_41 F h k)
  · refine ob_lconst F (v := 0) dX12_standsAt_19 (by decide) ?_
    refine ob_goto F 47 dX12_standsAt_20 (by decide) ?_
    obtain rfl := Option.some.inj h
    exact ob_lret F dX12_standsAt_47 k
theorem t_X12_standsAt {cf : ob_Cf} {g : ob_St} {n0 : Nat} {x1 : Int32} {x2 : Int32} {x3 : Int32} {r : Int64} (h : f_X12_standsAt g n0 x1 x2 x3 = some r) : ob_Mt cf yX12_standsAt cX12_standsAt 5 (some .long) 2 46 [ob_rw cf n0, .int x1, .int x2, .int x3] g (some (.long r)) g := by
  refine ob_enter (by decide) (Nat.le_of_ble_eq_true rfl) rfl ?_
  intro C hC F k
  subst hC
  exact b_X12_standsAt_0 F h k
-- X12_stands
def f_X12_stands (g : ob_St) (n0 : Nat) (x1 : Int32) (x2 : Int32) (x3 : Int32) (x4 : Int32) : Option (Int64 × ob_St) :=
  (ob_ck 12 n0 (f_X12_isNone g n0 x1 x2 x3 x4)).bind fun v1 => (if v1.1 = 0 then ((ob_ck 12 n0 (f_X12_standsAt v1.2 n0 x1 x2 x3)).bind fun v2 => (ob_ck 12 n0 (f_X12_powerAt v1.2 n0 x2)).bind fun v3 => (f_X12_told v2 v3 x4).bind fun v4 => some (v4, v1.2)) else (some (0, v1.2)))
theorem b_X12_stands_0 {C : ob_Cx} (F : ob_Fx C cX12_stands 5 RX12 (some .long) 8 198) {g : ob_St} {n0 : Nat} {x1 : Int32} {x2 : Int32} {x3 : Int32} {x4 : Int32} {r : (Int64 × ob_St)} (h : f_X12_stands g n0 x1 x2 x3 x4 = some r) (k : ob_Rt C (some (.long r.1)) r.2) : ob_Ev C 0 [(0, ob_rv C n0), (1, .int x1), (2, .int x2), (3, .int x3), (4, .int x4)] [] g := by
  unfold f_X12_stands at h
  refine ob_rload_n F 0 dX12_stands_0 rfl ?_
  refine ob_iload_n F 1 dX12_stands_1 rfl ?_
  refine ob_iload_n F 2 dX12_stands_2 rfl ?_
  refine ob_iload_n F 3 dX12_stands_3 rfl ?_
  refine ob_iload F 4 dX12_stands_4 rfl ?_
  refine ob_cViS F dX12_stands_6 im_X12_isNone tw6_178 h (fun b hb => t_X12_isNone hb) rfl rfl (Nat.le_of_ble_eq_true rfl) (by decide) fun v1 h => ?_
  refine ob_if_eq F 16 dX12_stands_9 (by decide) h (fun h => ?_) (fun h => ?_)
  · refine ob_rload_n F 0 dX12_stands_16 rfl ?_
    refine ob_iload_n F 1 dX12_stands_17 rfl ?_
    refine ob_iload_n F 2 dX12_stands_18 rfl ?_
    refine ob_iload_n F 3 dX12_stands_19 rfl ?_
    refine ob_cVl F dX12_stands_20 im_X12_standsAt tw7_17 h (fun b hb => t_X12_standsAt hb) rfl rfl (Nat.le_of_ble_eq_true rfl) (by decide) fun v2 h => ?_
    refine ob_rload_n F 0 dX12_stands_23 rfl ?_
    refine ob_iload_n F 2 dX12_stands_24 rfl ?_
    refine ob_cVl F dX12_stands_25 im_X12_powerAt tw6_219 h (fun b hb => t_X12_powerAt hb) rfl rfl (Nat.le_of_ble_eq_true rfl) (by decide) fun v3 h => ?_
    refine ob_iload F 4 dX12_stands_28 rfl ?_
    refine ob_cSl F dX12_stands_30 im_X12_told tw6_231 h (fun b hb => t_X12_told hb) rfl rfl (Nat.le_of_ble_eq_true rfl) (by decide) fun v4 h => ?_
    obtain rfl := Option.some.inj h
    exact ob_lret F dX12_stands_33 k
  · refine ob_lconst F (v := 0) dX12_stands_12 (by decide) ?_
    refine ob_goto F 33 dX12_stands_13 (by decide) ?_
    obtain rfl := Option.some.inj h
    exact ob_lret F dX12_stands_33 k
theorem t_X12_stands {cf : ob_Cf} {g : ob_St} {n0 : Nat} {x1 : Int32} {x2 : Int32} {x3 : Int32} {x4 : Int32} {r : (Int64 × ob_St)} (h : f_X12_stands g n0 x1 x2 x3 x4 = some r) : ob_Mt cf yX12_stands cX12_stands 5 (some .long) 8 198 [ob_rw cf n0, .int x1, .int x2, .int x3, .int x4] g (some (.long r.1)) r.2 := by
  refine ob_enter (by decide) (Nat.le_of_ble_eq_true rfl) rfl ?_
  intro C hC F k
  subst hC
  exact b_X12_stands_0 F h k
-- X12_frontier
def B_X12_frontier_69 (rec : Int32 → Int32 → Option (Int32)) (g : ob_St) (n0 : Nat) (x1 : Int32) (x2 : Int32) (x4 : Int32) (s0 : Int32) (s1 : Int32) : Option (Int32) :=
  rec (s0 ||| s1) (x4 + 1)
theorem b_X12_frontier_69 {C : ob_Cx} {rec : Int32 → Int32 → Option (Int32)} (F : ob_Fx C cX12_frontier 5 RX12 (some .int) 7 174) {g : ob_St} {n0 : Nat} {x1 : Int32} {x2 : Int32} {x4 : Int32} {s0 : Int32} {s1 : Int32} {x : (Int32)} (hr : ∀ {x3 : Int32} {x4 : Int32} {x : (Int32)}, rec x3 x4 = some x → ob_Ev C 77 [(3, .int x)] [] g → ob_Ev C 38 [(0, ob_rv C n0), (1, .int x1), (2, .int x2), (3, .int x3), (4, .int x4)] [] g) (h : B_X12_frontier_69 rec g n0 x1 x2 x4 s0 s1 = some x) (k0 : ob_Ev C 77 [(3, .int x)] [] g) : ob_Ev C 69 [(0, ob_rv C n0), (1, .int x1), (2, .int x2), (4, .int x4)] [.int s1, .int s0] g := by
  unfold B_X12_frontier_69 at h
  refine ob_ior F dX12_frontier_69 ?_
  refine ob_istore_n F (ls2 := [(3, .int (s0 ||| s1)), (0, ob_rv C n0), (1, .int x1), (2, .int x2), (4, .int x4)]) dX12_frontier_70 (by decide) rfl ?_
  refine ob_iinc F (v := (x4 + 1)) (ls2 := [(4, .int (x4 + 1)), (3, .int (s0 ||| s1)), (0, ob_rv C n0), (1, .int x1), (2, .int x2)]) 4 dX12_frontier_71 rfl rfl (by decide) rfl ?_
  refine ob_goto F 38 dX12_frontier_74 (by decide) ?_
  exact ob_sub [2, 3, 4, 1, 0] rfl (hr h k0)
def Lb_X12_frontier_38 (rec : Int32 → Int32 → Option (Int32)) (g : ob_St) (n0 : Nat) (x1 : Int32) (x2 : Int32) (x3 : Int32) (x4 : Int32) : Option (Int32) :=
  (if x2 < x4 then (some x3) else ((ob_gR 12 n0 23).bind fun v7 => (f_X12_cell x1 x2 x4).bind fun v8 => (ob_rI g 13 v7 v8).bind fun v9 => (if v9 = 1 then (B_X12_frontier_69 rec g n0 x1 x2 x4 x3 (1 <<< (x4 &&& 31))) else (B_X12_frontier_69 rec g n0 x1 x2 x4 x3 0))))
def L_X12_frontier_38 (g : ob_St) (n0 : Nat) (x1 : Int32) (x2 : Int32) : Nat → Int32 → Int32 → Option (Int32)
  | 0, _, _ => none
  | n + 1, x3, x4 => Lb_X12_frontier_38 (L_X12_frontier_38 g n0 x1 x2 n) g n0 x1 x2 x3 x4
theorem lb_X12_frontier_38 {C : ob_Cx} {rec : Int32 → Int32 → Option (Int32)} (F : ob_Fx C cX12_frontier 5 RX12 (some .int) 7 174) {g : ob_St} {n0 : Nat} {x1 : Int32} {x2 : Int32} {x3 : Int32} {x4 : Int32} {x : (Int32)} (hr : ∀ {x3 : Int32} {x4 : Int32} {x : (Int32)}, rec x3 x4 = some x → ob_Ev C 77 [(3, .int x)] [] g → ob_Ev C 38 [(0, ob_rv C n0), (1, .int x1), (2, .int x2), (3, .int x3), (4, .int x4)] [] g) (h : Lb_X12_frontier_38 rec g n0 x1 x2 x3 x4 = some x) (k0 : ob_Ev C 77 [(3, .int x)] [] g) : ob_Ev C 38 [(0, ob_rv C n0), (1, .int x1), (2, .int x2), (3, .int x3), (4, .int x4)] [] g := by
  unfold Lb_X12_frontier_38 at h
  refine ob_iload F 4 dX12_frontier_38 rfl ?_
  refine ob_iload_n F 2 dX12_frontier_40 rfl ?_
  refine ob_icmp_gt F 77 dX12_frontier_41 (by decide) h (fun h => ?_) (fun h => ?_)
  · obtain rfl := Option.some.inj h
    exact ob_sub [3] rfl (k0)
  · refine ob_iload_n F 3 dX12_frontier_44 rfl ?_
    refine ob_rload_n F 0 dX12_frontier_45 rfl ?_
    refine ob_getR F dX12_frontier_46 fl_X12_50 h fun v7 h => ?_
    refine ob_iload_n F 1 dX12_frontier_49 rfl ?_
    refine ob_iload_n F 2 dX12_frontier_50 rfl ?_
    refine ob_iload F 4 dX12_frontier_51 rfl ?_
    refine ob_cSi F dX12_frontier_53 im_X12_cell tw6_209 h (fun b hb => t_X12_cell hb) rfl rfl (Nat.le_of_ble_eq_true rfl) (by decide) fun v8 h => ?_
    refine ob_bald F dX12_frontier_56 h fun v9 h => ?_
    refine ob_iconst F (v := 1) dX12_frontier_57 (by decide) ?_
    refine ob_icmp_ne F 68 dX12_frontier_58 (by decide) h (fun h => ?_) (fun h => ?_)
    · refine ob_iconst F (v := 0) dX12_frontier_68 (by decide) ?_
      exact ob_sub [0, 1, 2, 4] rfl (b_X12_frontier_69 F hr h k0)
    · refine ob_iconst F (v := 1) dX12_frontier_61 (by decide) ?_
      refine ob_iload F 4 dX12_frontier_62 rfl ?_
      refine ob_ishl F dX12_frontier_64 ?_
      refine ob_goto F 69 dX12_frontier_65 (by decide) ?_
      exact ob_sub [0, 1, 2, 4] rfl (b_X12_frontier_69 F hr h k0)
theorem l_X12_frontier_38 {C : ob_Cx} (F : ob_Fx C cX12_frontier 5 RX12 (some .int) 7 174) {g : ob_St} {n0 : Nat} {x1 : Int32} {x2 : Int32} : ∀ (n : Nat) {x3 : Int32} {x4 : Int32} {x : (Int32)}, L_X12_frontier_38 g n0 x1 x2 n x3 x4 = some x → ob_Ev C 77 [(3, .int x)] [] g → ob_Ev C 38 [(0, ob_rv C n0), (1, .int x1), (2, .int x2), (3, .int x3), (4, .int x4)] [] g := by
  intro n
  induction n with
  | zero => intro x3 x4 x h; exact ob_no h
  | succ n ih => intro x3 x4 x h k0; exact lb_X12_frontier_38 F ih h k0
def f_X12_frontier (g : ob_St) (n0 : Nat) (x1 : Int32) (x2 : Int32) : Option (Int32 × ob_St) :=
  (ob_pI g 12 n0 0 0).bind fun g1 => (ob_ck 12 n0 (f_X12_isOption g1 n0 x1)).bind fun v2 => (if v2 = 0 then (some ((-1), g1)) else ((ob_gR 12 n0 1).bind fun v3 => (ob_rI g1 14 v3 2).bind fun v4 => (f_X12_isIn x2 0 v4).bind fun v5 => (if v5 = 0 then (some ((-1), g1)) else ((ob_ck 12 n0 (f_X12_lays g1 n0)).bind fun g6 => (L_X12_frontier_38 g6 n0 x1 x2 ob_FU 0 0).bind fun x_10 => some (x_10, g6)))))
theorem b_X12_frontier_0 {C : ob_Cx} (F : ob_Fx C cX12_frontier 5 RX12 (some .int) 7 174) {g : ob_St} {n0 : Nat} {x1 : Int32} {x2 : Int32} {r : (Int32 × ob_St)} (h : f_X12_frontier g n0 x1 x2 = some r) (k : ob_Rt C (some (.int r.1)) r.2) : ob_Ev C 0 [(0, ob_rv C n0), (1, .int x1), (2, .int x2)] [] g := by
  unfold f_X12_frontier at h
  refine ob_rload_n F 0 dX12_frontier_0 rfl ?_
  refine ob_iconst F (v := 0) dX12_frontier_1 (by decide) ?_
  refine ob_putI F dX12_frontier_2 fp_X12_1 h fun g1 h => ?_
  refine ob_rload_n F 0 dX12_frontier_5 rfl ?_
  refine ob_iload_n F 1 dX12_frontier_6 rfl ?_
  refine ob_cVi F dX12_frontier_7 im_X12_isOption tw6_145 h (fun b hb => t_X12_isOption hb) rfl rfl (Nat.le_of_ble_eq_true rfl) (by decide) fun v2 h => ?_
  refine ob_if_eq F 27 dX12_frontier_10 (by decide) h (fun h => ?_) (fun h => ?_)
  · refine ob_iconst F (v := (-1)) dX12_frontier_27 (by decide) ?_
    obtain rfl := Option.some.inj h
    exact ob_iret F dX12_frontier_28 k
  · refine ob_iload_n F 2 dX12_frontier_13 rfl ?_
    refine ob_iconst F (v := 0) dX12_frontier_14 (by decide) ?_
    refine ob_rload_n F 0 dX12_frontier_15 rfl ?_
    refine ob_getR F dX12_frontier_16 fl_X12_13 h fun v3 h => ?_
    refine ob_iconst F (v := 2) dX12_frontier_19 (by decide) ?_
    refine ob_iald F dX12_frontier_20 h fun v4 h => ?_
    refine ob_cSi F dX12_frontier_21 im_X12_isIn tw6_67 h (fun b hb => t_X12_isIn hb) rfl rfl (Nat.le_of_ble_eq_true rfl) (by decide) fun v5 h => ?_
    refine ob_if_ne F 29 dX12_frontier_24 (by decide) h (fun h => ?_) (fun h => ?_)
    · refine ob_rload_n F 0 dX12_frontier_29 rfl ?_
      refine ob_cVvS F dX12_frontier_30 im_X12_lays tw6_189 h (fun b hb => t_X12_lays hb) rfl rfl (Nat.le_of_ble_eq_true rfl) (by decide) fun g6 h => ?_
      refine ob_iconst F (v := 0) dX12_frontier_33 (by decide) ?_
      refine ob_istore_n F (ls2 := [(3, .int 0), (0, ob_rv C n0), (1, .int x1), (2, .int x2)]) dX12_frontier_34 (by decide) rfl ?_
      refine ob_iconst F (v := 0) dX12_frontier_35 (by decide) ?_
      refine ob_istore F (ls2 := [(4, .int 0), (3, .int 0), (0, ob_rv C n0), (1, .int x1), (2, .int x2)]) dX12_frontier_36 (by decide) rfl ?_
      obtain ⟨x_10, hx, h⟩ := Option.bind_eq_some_iff.mp h
      refine ob_sub [2, 3, 4, 1, 0] rfl (l_X12_frontier_38 F ob_FU hx ?_)
      refine ob_iload_n F 0 dX12_frontier_77 rfl ?_
      obtain rfl := Option.some.inj h
      exact ob_iret F dX12_frontier_78 k
    · refine ob_iconst F (v := (-1)) dX12_frontier_27 (by decide) ?_
      obtain rfl := Option.some.inj h
      exact ob_iret F dX12_frontier_28 k
theorem t_X12_frontier {cf : ob_Cf} {g : ob_St} {n0 : Nat} {x1 : Int32} {x2 : Int32} {r : (Int32 × ob_St)} (h : f_X12_frontier g n0 x1 x2 = some r) : ob_Mt cf yX12_frontier cX12_frontier 5 (some .int) 7 174 [ob_rw cf n0, .int x1, .int x2] g (some (.int r.1)) r.2 := by
  refine ob_enter (by decide) (Nat.le_of_ble_eq_true rfl) (Or.inl rfl) ?_
  intro C hC F k
  subst hC
  exact b_X12_frontier_0 F h k
-- X12_spot
def f_X12_spot (x0 : Int32) (x1 : Int32) (x2 : Int32) : Option Int32 :=
  some (((169 * x0) + (13 * x1)) + x2)
theorem b_X12_spot_0 {C : ob_Cx} (F : ob_Fx C cX12_spot 3 RX12 (some .int) 0 0) {g : ob_St} {x0 : Int32} {x1 : Int32} {x2 : Int32} {r : Int32} (h : f_X12_spot x0 x1 x2 = some r) (k : ob_Rt C (some (.int r)) g) : ob_Ev C 0 [(0, .int x0), (1, .int x1), (2, .int x2)] [] g := by
  unfold f_X12_spot at h
  refine ob_sipush F (v := 169) dX12_spot_0 (by decide) ?_
  refine ob_iload_n F 0 dX12_spot_3 rfl ?_
  refine ob_imul F dX12_spot_4 ?_
  refine ob_bipush F (v := 13) dX12_spot_5 (by decide) ?_
  refine ob_iload_n F 1 dX12_spot_7 rfl ?_
  refine ob_imul F dX12_spot_8 ?_
  refine ob_iadd F dX12_spot_9 ?_
  refine ob_iload_n F 2 dX12_spot_10 rfl ?_
  refine ob_iadd F dX12_spot_11 ?_
  obtain rfl := Option.some.inj h
  exact ob_iret F dX12_spot_12 k
theorem t_X12_spot {cf : ob_Cf} {g : ob_St} {x0 : Int32} {x1 : Int32} {x2 : Int32} {r : Int32} (h : f_X12_spot x0 x1 x2 = some r) : ob_Mt cf yX12_spot cX12_spot 3 (some .int) 0 0 [.int x0, .int x1, .int x2] g (some (.int r)) g := by
  refine ob_enter (by decide) (Nat.le_of_ble_eq_true rfl) (Or.inl rfl) ?_
  intro C hC F k
  subst hC
  exact b_X12_spot_0 F h k
-- X12_comes
def f_X12_comes (g : ob_St) (n0 : Nat) (x1 : Int32) (x2 : Int32) (x3 : Int32) : Option ob_St :=
  (ob_gR 12 n0 25).bind fun v1 => (ob_rL g v1 x2).bind fun v2 => (ob_gR 12 n0 25).bind fun v3 => (ob_rL g v3 x1).bind fun v4 => (ob_wL g v1 x2 (v2 + (v4 * (Int32.toInt64 x3)))).bind fun g5 => (ob_gR 12 n0 26).bind fun v6 => (ob_rL g5 v6 x2).bind fun v7 => (ob_gR 12 n0 26).bind fun v8 => (ob_rL g5 v8 x1).bind fun v9 => (ob_wL g5 v6 x2 (v7 + v9)).bind fun g10 => some g10
theorem b_X12_comes_0 {C : ob_Cx} (F : ob_Fx C cX12_comes 4 RX12 none 0 0) {g : ob_St} {n0 : Nat} {x1 : Int32} {x2 : Int32} {x3 : Int32} {r : ob_St} (h : f_X12_comes g n0 x1 x2 x3 = some r) (k : ob_Rt C none r) : ob_Ev C 0 [(0, ob_rv C n0), (1, .int x1), (2, .int x2), (3, .int x3)] [] g := by
  unfold f_X12_comes at h
  refine ob_rload_n F 0 dX12_comes_0 rfl ?_
  refine ob_getR F dX12_comes_1 fl_X12_56 h fun v1 h => ?_
  refine ob_iload_n F 2 dX12_comes_4 rfl ?_
  refine ob_dup2 F dX12_comes_5 rfl rfl ?_
  refine ob_lald F dX12_comes_6 h fun v2 h => ?_
  refine ob_rload_n F 0 dX12_comes_7 rfl ?_
  refine ob_getR F dX12_comes_8 fl_X12_56 h fun v3 h => ?_
  refine ob_iload_n F 1 dX12_comes_11 rfl ?_
  refine ob_lald F dX12_comes_12 h fun v4 h => ?_
  refine ob_iload_n F 3 dX12_comes_13 rfl ?_
  refine ob_i2l F dX12_comes_14 ?_
  refine ob_lmul F dX12_comes_15 ?_
  refine ob_ladd F dX12_comes_16 ?_
  refine ob_last F dX12_comes_17 h fun g5 h => ?_
  refine ob_rload_n F 0 dX12_comes_18 rfl ?_
  refine ob_getR F dX12_comes_19 fl_X12_59 h fun v6 h => ?_
  refine ob_iload_n F 2 dX12_comes_22 rfl ?_
  refine ob_dup2 F dX12_comes_23 rfl rfl ?_
  refine ob_lald F dX12_comes_24 h fun v7 h => ?_
  refine ob_rload_n F 0 dX12_comes_25 rfl ?_
  refine ob_getR F dX12_comes_26 fl_X12_59 h fun v8 h => ?_
  refine ob_iload_n F 1 dX12_comes_29 rfl ?_
  refine ob_lald F dX12_comes_30 h fun v9 h => ?_
  refine ob_ladd F dX12_comes_31 ?_
  refine ob_last F dX12_comes_32 h fun g10 h => ?_
  obtain rfl := Option.some.inj h
  exact ob_vret F dX12_comes_33 k
theorem t_X12_comes {cf : ob_Cf} {g : ob_St} {n0 : Nat} {x1 : Int32} {x2 : Int32} {x3 : Int32} {r : ob_St} (h : f_X12_comes g n0 x1 x2 x3 = some r) : ob_Mt cf yX12_comes cX12_comes 4 none 0 0 [ob_rw cf n0, .int x1, .int x2, .int x3] g none r := by
  refine ob_enter (by decide) (Nat.le_of_ble_eq_true rfl) rfl ?_
  intro C hC F k
  subst hC
  exact b_X12_comes_0 F h k
-- X12_leaves
def B_X12_leaves_123 (g : ob_St) (n0 : Nat) (x3 : Int32) (x5 : Int32) (s0 : Int32) : Option ob_St :=
  (ob_gR 12 n0 27).bind fun v7 => (ob_rL g v7 ((13 * s0) + x3)).bind fun v8 => (ob_gR 12 n0 25).bind fun v9 => (ob_rL g v9 x5).bind fun v10 => (ob_wL g v7 ((13 * s0) + x3) (v8 + v10)).bind fun g11 => some g11
theorem b_X12_leaves_123 {C : ob_Cx} (F : ob_Fx C cX12_leaves 8 RX12 none 1 23) {g : ob_St} {n0 : Nat} {x3 : Int32} {x5 : Int32} {s0 : Int32} {r : ob_St} (h : B_X12_leaves_123 g n0 x3 x5 s0 = some r) (k : ob_Rt C none r) : ob_Ev C 123 [(0, ob_rv C n0), (3, .int x3), (5, .int x5)] [.int s0] g := by
  unfold B_X12_leaves_123 at h
  refine ob_istore F (ls2 := [(7, .int s0), (0, ob_rv C n0), (3, .int x3), (5, .int x5)]) dX12_leaves_123 (by decide) rfl ?_
  refine ob_rload_n F 1 dX12_leaves_125 rfl ?_
  refine ob_getR F dX12_leaves_126 fl_X12_62 h fun v7 h => ?_
  refine ob_bipush F (v := 13) dX12_leaves_129 (by decide) ?_
  refine ob_iload F 0 dX12_leaves_131 rfl ?_
  refine ob_imul F dX12_leaves_133 ?_
  refine ob_iload_n F 2 dX12_leaves_134 rfl ?_
  refine ob_iadd F dX12_leaves_135 ?_
  refine ob_dup2 F dX12_leaves_136 rfl rfl ?_
  refine ob_lald F dX12_leaves_137 h fun v8 h => ?_
  refine ob_rload_n F 1 dX12_leaves_138 rfl ?_
  refine ob_getR F dX12_leaves_139 fl_X12_56 h fun v9 h => ?_
  refine ob_iload F 3 dX12_leaves_142 rfl ?_
  refine ob_lald F dX12_leaves_144 h fun v10 h => ?_
  refine ob_ladd F dX12_leaves_145 ?_
  refine ob_last F dX12_leaves_146 h fun g11 h => ?_
  obtain rfl := Option.some.inj h
  exact ob_vret F dX12_leaves_147 k
def B_X12_leaves_92 (g : ob_St) (n0 : Nat) (x3 : Int32) (x5 : Int32) (x6 : Int32) : Option ob_St :=
  (if x6 = 1 then (B_X12_leaves_123 g n0 x3 x5 0) else ((if x6 = 2 then (B_X12_leaves_123 g n0 x3 x5 1) else ((if x6 = 4 then (B_X12_leaves_123 g n0 x3 x5 3) else (B_X12_leaves_123 g n0 x3 x5 2))))))
theorem b_X12_leaves_92 {C : ob_Cx} (F : ob_Fx C cX12_leaves 8 RX12 none 1 23) {g : ob_St} {n0 : Nat} {x3 : Int32} {x5 : Int32} {x6 : Int32} {r : ob_St} (h : B_X12_leaves_92 g n0 x3 x5 x6 = some r) (k : ob_Rt C none r) : ob_Ev C 92 [(0, ob_rv C n0), (3, .int x3), (5, .int x5), (6, .int x6)] [] g := by
  unfold B_X12_leaves_92 at h
  refine ob_iload F 3 dX12_leaves_92 rfl ?_
  refine ob_iconst F (v := 1) dX12_leaves_94 (by decide) ?_
  refine ob_icmp_ne F 102 dX12_leaves_95 (by decide) h (fun h => ?_) (fun h => ?_)
  · refine ob_iload F 3 dX12_leaves_102 rfl ?_
    refine ob_iconst F (v := 2) dX12_leaves_104 (by decide) ?_
    refine ob_icmp_ne F 112 dX12_leaves_105 (by decide) h (fun h => ?_) (fun h => ?_)
    · refine ob_iload F 3 dX12_leaves_112 rfl ?_
      refine ob_iconst F (v := 4) dX12_leaves_114 (by decide) ?_
      refine ob_icmp_ne F 122 dX12_leaves_115 (by decide) h (fun h => ?_) (fun h => ?_)
      · refine ob_iconst F (v := 2) dX12_leaves_122 (by decide) ?_
        exact ob_sub [0, 1, 2] rfl (b_X12_leaves_123 F h k)
      · refine ob_iconst F (v := 3) dX12_leaves_118 (by decide) ?_
        refine ob_goto F 123 dX12_leaves_119 (by decide) ?_
        exact ob_sub [0, 1, 2] rfl (b_X12_leaves_123 F h k)
    · refine ob_iconst F (v := 1) dX12_leaves_108 (by decide) ?_
      refine ob_goto F 123 dX12_leaves_109 (by decide) ?_
      exact ob_sub [0, 1, 2] rfl (b_X12_leaves_123 F h k)
  · refine ob_iconst F (v := 0) dX12_leaves_98 (by decide) ?_
    refine ob_goto F 123 dX12_leaves_99 (by decide) ?_
    exact ob_sub [0, 1, 2] rfl (b_X12_leaves_123 F h k)
def B_X12_leaves_54 (g : ob_St) (n0 : Nat) (x2 : Int32) (x3 : Int32) (x4 : Int32) (x5 : Int32) (s0 : Int32) : Option ob_St :=
  (if s0 = 3 then ((f_X12_spot 1 x3 x4).bind fun v22 => (ob_ck 12 n0 (f_X12_comes g n0 x5 v22 1)).bind fun g23 => some g23) else ((if 0 < s0 then (B_X12_leaves_92 g n0 x3 x5 s0) else ((ob_gR 12 n0 1).bind fun v12 => (ob_rI g 14 v12 2).bind fun v13 => (if x3 = v13 then (B_X12_leaves_92 g n0 x3 x5 s0) else ((ob_gR 12 n0 1).bind fun v14 => (ob_rI g 14 v14 ((3 + x3) + 1)).bind fun v15 => (f_X12_spot x2 (x3 + 1) (x4 + 1)).bind fun v16 => (ob_ck 12 n0 (f_X12_comes g n0 x5 v16 v15)).bind fun g17 => (f_X12_spot x2 (x3 + 1) x4).bind fun v18 => (ob_gR 12 n0 1).bind fun v19 => (ob_rI g17 14 v19 1).bind fun v20 => (ob_ck 12 n0 (f_X12_comes g17 n0 x5 v18 (v20 - v15))).bind fun g21 => some g21))))))
theorem b_X12_leaves_54 {C : ob_Cx} (F : ob_Fx C cX12_leaves 8 RX12 none 1 23) {g : ob_St} {n0 : Nat} {x2 : Int32} {x3 : Int32} {x4 : Int32} {x5 : Int32} {s0 : Int32} {r : ob_St} (h : B_X12_leaves_54 g n0 x2 x3 x4 x5 s0 = some r) (k : ob_Rt C none r) : ob_Ev C 54 [(0, ob_rv C n0), (2, .int x2), (3, .int x3), (4, .int x4), (5, .int x5)] [.int s0] g := by
  unfold B_X12_leaves_54 at h
  refine ob_istore F (ls2 := [(6, .int s0), (0, ob_rv C n0), (2, .int x2), (3, .int x3), (4, .int x4), (5, .int x5)]) dX12_leaves_54 (by decide) rfl ?_
  refine ob_iload F 0 dX12_leaves_56 rfl ?_
  refine ob_iconst F (v := 3) dX12_leaves_58 (by decide) ?_
  refine ob_icmp_ne F 77 dX12_leaves_59 (by decide) h (fun h => ?_) (fun h => ?_)
  · refine ob_iload F 0 dX12_leaves_77 rfl ?_
    refine ob_if_gt F 92 dX12_leaves_79 (by decide) h (fun h => ?_) (fun h => ?_)
    · exact ob_sub [1, 3, 5, 0] rfl (b_X12_leaves_92 F h k)
    · refine ob_iload_n F 3 dX12_leaves_82 rfl ?_
      refine ob_rload_n F 1 dX12_leaves_83 rfl ?_
      refine ob_getR F dX12_leaves_84 fl_X12_13 h fun v12 h => ?_
      refine ob_iconst F (v := 2) dX12_leaves_87 (by decide) ?_
      refine ob_iald F dX12_leaves_88 h fun v13 h => ?_
      refine ob_icmp_ne F 148 dX12_leaves_89 (by decide) h (fun h => ?_) (fun h => ?_)
      · refine ob_rload_n F 1 dX12_leaves_148 rfl ?_
        refine ob_getR F dX12_leaves_149 fl_X12_13 h fun v14 h => ?_
        refine ob_iconst F (v := 3) dX12_leaves_152 (by decide) ?_
        refine ob_iload_n F 3 dX12_leaves_153 rfl ?_
        refine ob_iadd F dX12_leaves_154 ?_
        refine ob_iconst F (v := 1) dX12_leaves_155 (by decide) ?_
        refine ob_iadd F dX12_leaves_156 ?_
        refine ob_iald F dX12_leaves_157 h fun v15 h => ?_
        refine ob_istore F (ls2 := [(7, .int v15), (6, .int s0), (0, ob_rv C n0), (2, .int x2), (3, .int x3), (4, .int x4), (5, .int x5)]) dX12_leaves_158 (by decide) rfl ?_
        refine ob_rload_n F 2 dX12_leaves_160 rfl ?_
        refine ob_iload F 6 dX12_leaves_161 rfl ?_
        refine ob_iload_n F 3 dX12_leaves_163 rfl ?_
        refine ob_iload_n F 4 dX12_leaves_164 rfl ?_
        refine ob_iconst F (v := 1) dX12_leaves_165 (by decide) ?_
        refine ob_iadd F dX12_leaves_166 ?_
        refine ob_iload F 5 dX12_leaves_167 rfl ?_
        refine ob_iconst F (v := 1) dX12_leaves_169 (by decide) ?_
        refine ob_iadd F dX12_leaves_170 ?_
        refine ob_cSi F dX12_leaves_171 im_X12_spot tw7_41 h (fun b hb => t_X12_spot hb) rfl rfl (Nat.le_of_ble_eq_true rfl) (by decide) fun v16 h => ?_
        refine ob_iload F 0 dX12_leaves_174 rfl ?_
        refine ob_cVvS F dX12_leaves_176 im_X12_comes tw7_44 h (fun b hb => t_X12_comes hb) rfl rfl (Nat.le_of_ble_eq_true rfl) (by decide) fun g17 h => ?_
        refine ob_rload_n F 2 dX12_leaves_179 rfl ?_
        refine ob_iload F 6 dX12_leaves_180 rfl ?_
        refine ob_iload_n F 3 dX12_leaves_182 rfl ?_
        refine ob_iload_n F 4 dX12_leaves_183 rfl ?_
        refine ob_iconst F (v := 1) dX12_leaves_184 (by decide) ?_
        refine ob_iadd F dX12_leaves_185 ?_
        refine ob_iload F 5 dX12_leaves_186 rfl ?_
        refine ob_cSi F dX12_leaves_188 im_X12_spot tw7_41 h (fun b hb => t_X12_spot hb) rfl rfl (Nat.le_of_ble_eq_true rfl) (by decide) fun v18 h => ?_
        refine ob_rload_n F 2 dX12_leaves_191 rfl ?_
        refine ob_getR F dX12_leaves_192 fl_X12_13 h fun v19 h => ?_
        refine ob_iconst F (v := 1) dX12_leaves_195 (by decide) ?_
        refine ob_iald F dX12_leaves_196 h fun v20 h => ?_
        refine ob_iload F 0 dX12_leaves_197 rfl ?_
        refine ob_isub F dX12_leaves_199 ?_
        refine ob_cVvS F dX12_leaves_200 im_X12_comes tw7_44 h (fun b hb => t_X12_comes hb) rfl rfl (Nat.le_of_ble_eq_true rfl) (by decide) fun g21 h => ?_
        obtain rfl := Option.some.inj h
        exact ob_vret F dX12_leaves_203 k
      · exact ob_sub [1, 3, 5, 0] rfl (b_X12_leaves_92 F h k)
  · refine ob_rload_n F 1 dX12_leaves_62 rfl ?_
    refine ob_iload F 5 dX12_leaves_63 rfl ?_
    refine ob_iconst F (v := 1) dX12_leaves_65 (by decide) ?_
    refine ob_iload_n F 3 dX12_leaves_66 rfl ?_
    refine ob_iload F 4 dX12_leaves_67 rfl ?_
    refine ob_cSi F dX12_leaves_69 im_X12_spot tw7_41 h (fun b hb => t_X12_spot hb) rfl rfl (Nat.le_of_ble_eq_true rfl) (by decide) fun v22 h => ?_
    refine ob_iconst F (v := 1) dX12_leaves_72 (by decide) ?_
    refine ob_cVvS F dX12_leaves_73 im_X12_comes tw7_44 h (fun b hb => t_X12_comes hb) rfl rfl (Nat.le_of_ble_eq_true rfl) (by decide) fun g23 h => ?_
    obtain rfl := Option.some.inj h
    exact ob_vret F dX12_leaves_76 k
def f_X12_leaves (g : ob_St) (n0 : Nat) (x1 : Int32) (x2 : Int32) (x3 : Int32) (x4 : Int32) : Option ob_St :=
  (f_X12_spot x2 x3 x4).bind fun v1 => (ob_gR 12 n0 26).bind fun v2 => (ob_rL g v2 v1).bind fun v3 => (if v3 = 0 then (some g) else ((if x2 = 1 then ((ob_gR 12 n0 24).bind fun v24 => (f_X12_cell x1 x3 x4).bind fun v25 => (ob_rI g 13 v24 v25).bind fun v26 => B_X12_leaves_54 g n0 x2 x3 x4 v1 v26) else ((ob_gR 12 n0 23).bind fun v4 => (f_X12_cell x1 x3 x4).bind fun v5 => (ob_rI g 13 v4 v5).bind fun v6 => B_X12_leaves_54 g n0 x2 x3 x4 v1 v6))))
theorem b_X12_leaves_0 {C : ob_Cx} (F : ob_Fx C cX12_leaves 8 RX12 none 1 23) {g : ob_St} {n0 : Nat} {x1 : Int32} {x2 : Int32} {x3 : Int32} {x4 : Int32} {r : ob_St} (h : f_X12_leaves g n0 x1 x2 x3 x4 = some r) (k : ob_Rt C none r) : ob_Ev C 0 [(0, ob_rv C n0), (1, .int x1), (2, .int x2), (3, .int x3), (4, .int x4)] [] g := by
  unfold f_X12_leaves at h
  refine ob_iload_n F 2 dX12_leaves_0 rfl ?_
  refine ob_iload_n F 3 dX12_leaves_1 rfl ?_
  refine ob_iload F 4 dX12_leaves_2 rfl ?_
  refine ob_cSi F dX12_leaves_4 im_X12_spot tw7_41 h (fun b hb => t_X12_spot hb) rfl rfl (Nat.le_of_ble_eq_true rfl) (by decide) fun v1 h => ?_
  refine ob_istore F (ls2 := [(5, .int v1), (0, ob_rv C n0), (1, .int x1), (2, .int x2), (3, .int x3), (4, .int x4)]) dX12_leaves_7 (by decide) rfl ?_
  refine ob_rload_n F 1 dX12_leaves_9 rfl ?_
  refine ob_getR F dX12_leaves_10 fl_X12_59 h fun v2 h => ?_
  refine ob_iload F 0 dX12_leaves_13 rfl ?_
  refine ob_lald F dX12_leaves_15 h fun v3 h => ?_
  refine ob_lconst F (v := 0) dX12_leaves_16 (by decide) ?_
  refine ob_lcmp_ne F 22 dX12_leaves_17 dX12_leaves_18 (by decide) h (fun h => ?_) (fun h => ?_)
  · refine ob_iload_n F 3 dX12_leaves_22 rfl ?_
    refine ob_iconst F (v := 1) dX12_leaves_23 (by decide) ?_
    refine ob_icmp_ne F 42 dX12_leaves_24 (by decide) h (fun h => ?_) (fun h => ?_)
    · refine ob_rload_n F 1 dX12_leaves_42 rfl ?_
      refine ob_getR F dX12_leaves_43 fl_X12_50 h fun v4 h => ?_
      refine ob_iload_n F 2 dX12_leaves_46 rfl ?_
      refine ob_iload_n F 4 dX12_leaves_47 rfl ?_
      refine ob_iload F 5 dX12_leaves_48 rfl ?_
      refine ob_cSi F dX12_leaves_50 im_X12_cell tw6_209 h (fun b hb => t_X12_cell hb) rfl rfl (Nat.le_of_ble_eq_true rfl) (by decide) fun v5 h => ?_
      refine ob_bald F dX12_leaves_53 h fun v6 h => ?_
      exact ob_sub [1, 3, 4, 5, 0] rfl (b_X12_leaves_54 F h k)
    · refine ob_rload_n F 1 dX12_leaves_27 rfl ?_
      refine ob_getR F dX12_leaves_28 fl_X12_53 h fun v24 h => ?_
      refine ob_iload_n F 2 dX12_leaves_31 rfl ?_
      refine ob_iload_n F 4 dX12_leaves_32 rfl ?_
      refine ob_iload F 5 dX12_leaves_33 rfl ?_
      refine ob_cSi F dX12_leaves_35 im_X12_cell tw6_209 h (fun b hb => t_X12_cell hb) rfl rfl (Nat.le_of_ble_eq_true rfl) (by decide) fun v25 h => ?_
      refine ob_bald F dX12_leaves_38 h fun v26 h => ?_
      refine ob_goto F 54 dX12_leaves_39 (by decide) ?_
      exact ob_sub [1, 3, 4, 5, 0] rfl (b_X12_leaves_54 F h k)
  · obtain rfl := Option.some.inj h
    exact ob_vret F dX12_leaves_21 k
theorem t_X12_leaves {cf : ob_Cf} {g : ob_St} {n0 : Nat} {x1 : Int32} {x2 : Int32} {x3 : Int32} {x4 : Int32} {r : ob_St} (h : f_X12_leaves g n0 x1 x2 x3 x4 = some r) : ob_Mt cf yX12_leaves cX12_leaves 8 none 1 23 [ob_rw cf n0, .int x1, .int x2, .int x3, .int x4] g none r := by
  refine ob_enter (by decide) (Nat.le_of_ble_eq_true rfl) rfl ?_
  intro C hC F k
  subst hC
  exact b_X12_leaves_0 F h k
-- X12_goes
def Lb_X12_goes_6 (rec : ob_St → Int32 → Option (ob_St)) (g : ob_St) (n0 : Nat) (x1 : Int32) (x2 : Int32) : Option (ob_St) :=
  (if 338 ≤ x2 then (some g) else ((ob_gR 12 n0 25).bind fun v2 => (ob_wL g v2 x2 0).bind fun g3 => (ob_gR 12 n0 26).bind fun v4 => (ob_wL g3 v4 x2 0).bind fun g5 => rec g5 (x2 + 1)))
def L_X12_goes_6 (n0 : Nat) (x1 : Int32) : Nat → ob_St → Int32 → Option (ob_St)
  | 0, _, _ => none
  | n + 1, g, x2 => Lb_X12_goes_6 (L_X12_goes_6 n0 x1 n) g n0 x1 x2
theorem lb_X12_goes_6 {C : ob_Cx} {rec : ob_St → Int32 → Option (ob_St)} (F : ob_Fx C cX12_goes 4 RX12 none 7 174) {g : ob_St} {n0 : Nat} {x1 : Int32} {x2 : Int32} {x : (ob_St)} (hr : ∀ {g : ob_St} {x2 : Int32} {x : (ob_St)}, rec g x2 = some x → ob_Ev C 33 [(0, ob_rv C n0), (1, .int x1)] [] x → ob_Ev C 6 [(0, ob_rv C n0), (1, .int x1), (2, .int x2)] [] g) (h : Lb_X12_goes_6 rec g n0 x1 x2 = some x) (k0 : ob_Ev C 33 [(0, ob_rv C n0), (1, .int x1)] [] x) : ob_Ev C 6 [(0, ob_rv C n0), (1, .int x1), (2, .int x2)] [] g := by
  unfold Lb_X12_goes_6 at h
  refine ob_iload_n F 2 dX12_goes_6 rfl ?_
  refine ob_sipush F (v := 338) dX12_goes_7 (by decide) ?_
  refine ob_icmp_ge F 33 dX12_goes_10 (by decide) h (fun h => ?_) (fun h => ?_)
  · obtain rfl := Option.some.inj h
    exact ob_sub [0, 1] rfl (k0)
  · refine ob_rload_n F 0 dX12_goes_13 rfl ?_
    refine ob_getR F dX12_goes_14 fl_X12_56 h fun v2 h => ?_
    refine ob_iload_n F 2 dX12_goes_17 rfl ?_
    refine ob_lconst F (v := 0) dX12_goes_18 (by decide) ?_
    refine ob_last F dX12_goes_19 h fun g3 h => ?_
    refine ob_rload_n F 0 dX12_goes_20 rfl ?_
    refine ob_getR F dX12_goes_21 fl_X12_59 h fun v4 h => ?_
    refine ob_iload_n F 2 dX12_goes_24 rfl ?_
    refine ob_lconst F (v := 0) dX12_goes_25 (by decide) ?_
    refine ob_last F dX12_goes_26 h fun g5 h => ?_
    refine ob_iinc F (v := (x2 + 1)) (ls2 := [(2, .int (x2 + 1)), (0, ob_rv C n0), (1, .int x1)]) 2 dX12_goes_27 rfl rfl (by decide) rfl ?_
    refine ob_goto F 6 dX12_goes_30 (by decide) ?_
    exact ob_sub [1, 2, 0] rfl (hr h k0)
theorem l_X12_goes_6 {C : ob_Cx} (F : ob_Fx C cX12_goes 4 RX12 none 7 174) {n0 : Nat} {x1 : Int32} : ∀ (n : Nat) {g : ob_St} {x2 : Int32} {x : (ob_St)}, L_X12_goes_6 n0 x1 n g x2 = some x → ob_Ev C 33 [(0, ob_rv C n0), (1, .int x1)] [] x → ob_Ev C 6 [(0, ob_rv C n0), (1, .int x1), (2, .int x2)] [] g := by
  intro n
  induction n with
  | zero => intro g x2 x h; exact ob_no h
  | succ n ih => intro g x2 x h k0; exact lb_X12_goes_6 F ih h k0
def Lb_X12_goes_35 (rec : ob_St → Int32 → Option (ob_St)) (g : ob_St) (n0 : Nat) (x1 : Int32) (x2 : Int32) : Option (ob_St) :=
  (if 52 ≤ x2 then (some g) else ((ob_gR 12 n0 27).bind fun v7 => (ob_wL g v7 x2 0).bind fun g8 => rec g8 (x2 + 1)))
def L_X12_goes_35 (n0 : Nat) (x1 : Int32) : Nat → ob_St → Int32 → Option (ob_St)
  | 0, _, _ => none
  | n + 1, g, x2 => Lb_X12_goes_35 (L_X12_goes_35 n0 x1 n) g n0 x1 x2
theorem lb_X12_goes_35 {C : ob_Cx} {rec : ob_St → Int32 → Option (ob_St)} (F : ob_Fx C cX12_goes 4 RX12 none 7 174) {g : ob_St} {n0 : Nat} {x1 : Int32} {x2 : Int32} {x : (ob_St)} (hr : ∀ {g : ob_St} {x2 : Int32} {x : (ob_St)}, rec g x2 = some x → ob_Ev C 54 [(0, ob_rv C n0), (1, .int x1)] [] x → ob_Ev C 35 [(0, ob_rv C n0), (1, .int x1), (2, .int x2)] [] g) (h : Lb_X12_goes_35 rec g n0 x1 x2 = some x) (k0 : ob_Ev C 54 [(0, ob_rv C n0), (1, .int x1)] [] x) : ob_Ev C 35 [(0, ob_rv C n0), (1, .int x1), (2, .int x2)] [] g := by
  unfold Lb_X12_goes_35 at h
  refine ob_iload_n F 2 dX12_goes_35 rfl ?_
  refine ob_bipush F (v := 52) dX12_goes_36 (by decide) ?_
  refine ob_icmp_ge F 54 dX12_goes_38 (by decide) h (fun h => ?_) (fun h => ?_)
  · obtain rfl := Option.some.inj h
    exact ob_sub [0, 1] rfl (k0)
  · refine ob_rload_n F 0 dX12_goes_41 rfl ?_
    refine ob_getR F dX12_goes_42 fl_X12_62 h fun v7 h => ?_
    refine ob_iload_n F 2 dX12_goes_45 rfl ?_
    refine ob_lconst F (v := 0) dX12_goes_46 (by decide) ?_
    refine ob_last F dX12_goes_47 h fun g8 h => ?_
    refine ob_iinc F (v := (x2 + 1)) (ls2 := [(2, .int (x2 + 1)), (0, ob_rv C n0), (1, .int x1)]) 2 dX12_goes_48 rfl rfl (by decide) rfl ?_
    refine ob_goto F 35 dX12_goes_51 (by decide) ?_
    exact ob_sub [1, 2, 0] rfl (hr h k0)
theorem l_X12_goes_35 {C : ob_Cx} (F : ob_Fx C cX12_goes 4 RX12 none 7 174) {n0 : Nat} {x1 : Int32} : ∀ (n : Nat) {g : ob_St} {x2 : Int32} {x : (ob_St)}, L_X12_goes_35 n0 x1 n g x2 = some x → ob_Ev C 54 [(0, ob_rv C n0), (1, .int x1)] [] x → ob_Ev C 35 [(0, ob_rv C n0), (1, .int x1), (2, .int x2)] [] g := by
  intro n
  induction n with
  | zero => intro g x2 x h; exact ob_no h
  | succ n ih => intro g x2 x h k0; exact lb_X12_goes_35 F ih h k0
def Lb_X12_goes_82 (rec : ob_St → Int32 → Option (ob_St)) (g : ob_St) (n0 : Nat) (x1 : Int32) (x2 : Int32) (x3 : Int32) : Option (ob_St) :=
  (if x2 < x3 then (some g) else ((ob_ck 12 n0 (f_X12_leaves g n0 x1 0 x2 x3)).bind fun g16 => (ob_ck 12 n0 (f_X12_leaves g16 n0 x1 1 x2 x3)).bind fun g17 => rec g17 (x3 + 1)))
def L_X12_goes_82 (n0 : Nat) (x1 : Int32) (x2 : Int32) : Nat → ob_St → Int32 → Option (ob_St)
  | 0, _, _ => none
  | n + 1, g, x3 => Lb_X12_goes_82 (L_X12_goes_82 n0 x1 x2 n) g n0 x1 x2 x3
theorem lb_X12_goes_82 {C : ob_Cx} {rec : ob_St → Int32 → Option (ob_St)} (F : ob_Fx C cX12_goes 4 RX12 none 7 174) {g : ob_St} {n0 : Nat} {x1 : Int32} {x2 : Int32} {x3 : Int32} {x : (ob_St)} (hr : ∀ {g : ob_St} {x3 : Int32} {x : (ob_St)}, rec g x3 = some x → ob_Ev C 109 [(0, ob_rv C n0), (1, .int x1), (2, .int x2)] [] x → ob_Ev C 82 [(0, ob_rv C n0), (1, .int x1), (2, .int x2), (3, .int x3)] [] g) (h : Lb_X12_goes_82 rec g n0 x1 x2 x3 = some x) (k0 : ob_Ev C 109 [(0, ob_rv C n0), (1, .int x1), (2, .int x2)] [] x) : ob_Ev C 82 [(0, ob_rv C n0), (1, .int x1), (2, .int x2), (3, .int x3)] [] g := by
  unfold Lb_X12_goes_82 at h
  refine ob_iload_n F 3 dX12_goes_82 rfl ?_
  refine ob_iload_n F 2 dX12_goes_83 rfl ?_
  refine ob_icmp_gt F 109 dX12_goes_84 (by decide) h (fun h => ?_) (fun h => ?_)
  · obtain rfl := Option.some.inj h
    exact ob_sub [0, 1, 2] rfl (k0)
  · refine ob_rload_n F 0 dX12_goes_87 rfl ?_
    refine ob_iload_n F 1 dX12_goes_88 rfl ?_
    refine ob_iconst F (v := 0) dX12_goes_89 (by decide) ?_
    refine ob_iload_n F 2 dX12_goes_90 rfl ?_
    refine ob_iload_n F 3 dX12_goes_91 rfl ?_
    refine ob_cVvS F dX12_goes_92 im_X12_leaves tw7_37 h (fun b hb => t_X12_leaves hb) rfl rfl (Nat.le_of_ble_eq_true rfl) (by decide) fun g16 h => ?_
    refine ob_rload_n F 0 dX12_goes_95 rfl ?_
    refine ob_iload_n F 1 dX12_goes_96 rfl ?_
    refine ob_iconst F (v := 1) dX12_goes_97 (by decide) ?_
    refine ob_iload_n F 2 dX12_goes_98 rfl ?_
    refine ob_iload_n F 3 dX12_goes_99 rfl ?_
    refine ob_cVvS F dX12_goes_100 im_X12_leaves tw7_37 h (fun b hb => t_X12_leaves hb) rfl rfl (Nat.le_of_ble_eq_true rfl) (by decide) fun g17 h => ?_
    refine ob_iinc F (v := (x3 + 1)) (ls2 := [(3, .int (x3 + 1)), (0, ob_rv C n0), (1, .int x1), (2, .int x2)]) 3 dX12_goes_103 rfl rfl (by decide) rfl ?_
    refine ob_goto F 82 dX12_goes_106 (by decide) ?_
    exact ob_sub [1, 2, 3, 0] rfl (hr h k0)
theorem l_X12_goes_82 {C : ob_Cx} (F : ob_Fx C cX12_goes 4 RX12 none 7 174) {n0 : Nat} {x1 : Int32} {x2 : Int32} : ∀ (n : Nat) {g : ob_St} {x3 : Int32} {x : (ob_St)}, L_X12_goes_82 n0 x1 x2 n g x3 = some x → ob_Ev C 109 [(0, ob_rv C n0), (1, .int x1), (2, .int x2)] [] x → ob_Ev C 82 [(0, ob_rv C n0), (1, .int x1), (2, .int x2), (3, .int x3)] [] g := by
  intro n
  induction n with
  | zero => intro g x3 x h; exact ob_no h
  | succ n ih => intro g x3 x h k0; exact lb_X12_goes_82 F ih h k0
def Lb_X12_goes_70 (rec : ob_St → Int32 → Option (ob_St)) (g : ob_St) (n0 : Nat) (x1 : Int32) (x2 : Int32) : Option (ob_St) :=
  (ob_gR 12 n0 1).bind fun v14 => (ob_rI g 14 v14 2).bind fun v15 => (if v15 < x2 then (some g) else ((L_X12_goes_82 n0 x1 x2 ob_FU g 0).bind fun x_18 => rec x_18 (x2 + 1)))
def L_X12_goes_70 (n0 : Nat) (x1 : Int32) : Nat → ob_St → Int32 → Option (ob_St)
  | 0, _, _ => none
  | n + 1, g, x2 => Lb_X12_goes_70 (L_X12_goes_70 n0 x1 n) g n0 x1 x2
theorem lb_X12_goes_70 {C : ob_Cx} {rec : ob_St → Int32 → Option (ob_St)} (F : ob_Fx C cX12_goes 4 RX12 none 7 174) {g : ob_St} {n0 : Nat} {x1 : Int32} {x2 : Int32} {x : (ob_St)} (hr : ∀ {g : ob_St} {x2 : Int32} {x : (ob_St)}, rec g x2 = some x → ob_Ev C 115 [] [] x → ob_Ev C 70 [(0, ob_rv C n0), (1, .int x1), (2, .int x2)] [] g) (h : Lb_X12_goes_70 rec g n0 x1 x2 = some x) (k0 : ob_Ev C 115 [] [] x) : ob_Ev C 70 [(0, ob_rv C n0), (1, .int x1), (2, .int x2)] [] g := by
  unfold Lb_X12_goes_70 at h
  refine ob_iload_n F 2 dX12_goes_70 rfl ?_
  refine ob_rload_n F 0 dX12_goes_71 rfl ?_
  refine ob_getR F dX12_goes_72 fl_X12_13 h fun v14 h => ?_
  refine ob_iconst F (v := 2) dX12_goes_75 (by decide) ?_
  refine ob_iald F dX12_goes_76 h fun v15 h => ?_
  refine ob_icmp_gt F 115 dX12_goes_77 (by decide) h (fun h => ?_) (fun h => ?_)
  · obtain rfl := Option.some.inj h
    exact ob_sub [] rfl (k0)
  · refine ob_iconst F (v := 0) dX12_goes_80 (by decide) ?_
    refine ob_istore_n F (ls2 := [(3, .int 0), (0, ob_rv C n0), (1, .int x1), (2, .int x2)]) dX12_goes_81 (by decide) rfl ?_
    obtain ⟨x_18, hx, h⟩ := Option.bind_eq_some_iff.mp h
    refine ob_sub [1, 2, 3, 0] rfl (l_X12_goes_82 F ob_FU hx ?_)
    refine ob_iinc F (v := (x2 + 1)) (ls2 := [(2, .int (x2 + 1)), (0, ob_rv C n0), (1, .int x1)]) 2 dX12_goes_109 rfl rfl (by decide) rfl ?_
    refine ob_goto F 70 dX12_goes_112 (by decide) ?_
    exact ob_sub [1, 2, 0] rfl (hr h k0)
theorem l_X12_goes_70 {C : ob_Cx} (F : ob_Fx C cX12_goes 4 RX12 none 7 174) {n0 : Nat} {x1 : Int32} : ∀ (n : Nat) {g : ob_St} {x2 : Int32} {x : (ob_St)}, L_X12_goes_70 n0 x1 n g x2 = some x → ob_Ev C 115 [] [] x → ob_Ev C 70 [(0, ob_rv C n0), (1, .int x1), (2, .int x2)] [] g := by
  intro n
  induction n with
  | zero => intro g x2 x h; exact ob_no h
  | succ n ih => intro g x2 x h k0; exact lb_X12_goes_70 F ih h k0
def f_X12_goes (g : ob_St) (n0 : Nat) (x1 : Int32) : Option ob_St :=
  (ob_ck 12 n0 (f_X12_lays g n0)).bind fun g1 => (L_X12_goes_6 n0 x1 ob_FU g1 0).bind fun x_6 => (L_X12_goes_35 n0 x1 ob_FU x_6 0).bind fun x_9 => (ob_gR 12 n0 25).bind fun v10 => (ob_wL x_9 v10 0 1).bind fun g11 => (ob_gR 12 n0 26).bind fun v12 => (ob_wL g11 v12 0 1).bind fun g13 => (L_X12_goes_70 n0 x1 ob_FU g13 0).bind fun x_19 => some x_19
theorem b_X12_goes_0 {C : ob_Cx} (F : ob_Fx C cX12_goes 4 RX12 none 7 174) {g : ob_St} {n0 : Nat} {x1 : Int32} {r : ob_St} (h : f_X12_goes g n0 x1 = some r) (k : ob_Rt C none r) : ob_Ev C 0 [(0, ob_rv C n0), (1, .int x1)] [] g := by
  unfold f_X12_goes at h
  refine ob_rload_n F 0 dX12_goes_0 rfl ?_
  refine ob_cVvS F dX12_goes_1 im_X12_lays tw6_189 h (fun b hb => t_X12_lays hb) rfl rfl (Nat.le_of_ble_eq_true rfl) (by decide) fun g1 h => ?_
  refine ob_iconst F (v := 0) dX12_goes_4 (by decide) ?_
  refine ob_istore_n F (ls2 := [(2, .int 0), (0, ob_rv C n0), (1, .int x1)]) dX12_goes_5 (by decide) rfl ?_
  obtain ⟨x_6, hx, h⟩ := Option.bind_eq_some_iff.mp h
  refine ob_sub [1, 2, 0] rfl (l_X12_goes_6 F ob_FU hx ?_)
  refine ob_iconst F (v := 0) dX12_goes_33 (by decide) ?_
  refine ob_istore_n F (ls2 := [(2, .int 0), (0, ob_rv C n0), (1, .int x1)]) dX12_goes_34 (by decide) rfl ?_
  obtain ⟨x_9, hx, h⟩ := Option.bind_eq_some_iff.mp h
  refine ob_sub [1, 2, 0] rfl (l_X12_goes_35 F ob_FU hx ?_)
  refine ob_rload_n F 0 dX12_goes_54 rfl ?_
  refine ob_getR F dX12_goes_55 fl_X12_56 h fun v10 h => ?_
  refine ob_iconst F (v := 0) dX12_goes_58 (by decide) ?_
  refine ob_lconst F (v := 1) dX12_goes_59 (by decide) ?_
  refine ob_last F dX12_goes_60 h fun g11 h => ?_
  refine ob_rload_n F 0 dX12_goes_61 rfl ?_
  refine ob_getR F dX12_goes_62 fl_X12_59 h fun v12 h => ?_
  refine ob_iconst F (v := 0) dX12_goes_65 (by decide) ?_
  refine ob_lconst F (v := 1) dX12_goes_66 (by decide) ?_
  refine ob_last F dX12_goes_67 h fun g13 h => ?_
  refine ob_iconst F (v := 0) dX12_goes_68 (by decide) ?_
  refine ob_istore_n F (ls2 := [(2, .int 0), (0, ob_rv C n0), (1, .int x1)]) dX12_goes_69 (by decide) rfl ?_
  obtain ⟨x_19, hx, h⟩ := Option.bind_eq_some_iff.mp h
  refine ob_sub [1, 2, 0] rfl (l_X12_goes_70 F ob_FU hx ?_)
  obtain rfl := Option.some.inj h
  exact ob_vret F dX12_goes_115 k
theorem t_X12_goes {cf : ob_Cf} {g : ob_St} {n0 : Nat} {x1 : Int32} {r : ob_St} (h : f_X12_goes g n0 x1 = some r) : ob_Mt cf yX12_goes cX12_goes 4 none 7 174 [ob_rw cf n0, .int x1] g none r := by
  refine ob_enter (by decide) (Nat.le_of_ble_eq_true rfl) rfl ?_
  intro C hC F k
  subst hC
  exact b_X12_goes_0 F h k
-- X12_ways
def f_X12_ways (g : ob_St) (n0 : Nat) (x1 : Int32) (x2 : Int32) (x3 : Int32) : Option (Int32 × ob_St) :=
  (ob_pI g 12 n0 0 0).bind fun g1 => (ob_ck 12 n0 (f_X12_isOption g1 n0 x1)).bind fun v2 => (if v2 = 0 then (some ((-1), g1)) else ((ob_ck 12 n0 (f_X12_isNode g1 n0 x2 x3)).bind fun v3 => (if v3 = 0 then (some ((-1), g1)) else ((ob_ck 12 n0 (f_X12_goes g1 n0 x1)).bind fun g4 => (ob_gR 12 n0 26).bind fun v5 => (f_X12_spot 0 x2 x3).bind fun v6 => (ob_rL g4 v5 v6).bind fun v7 => (ob_gR 12 n0 26).bind fun v8 => (f_X12_spot 1 x2 x3).bind fun v9 => (ob_rL g4 v8 v9).bind fun v10 => (ob_gR 12 n0 23).bind fun v11 => (f_X12_cell x1 x2 x3).bind fun v12 => (ob_rI g4 13 v11 v12).bind fun v13 => (if v13 = 3 then ((ob_gR 12 n0 26).bind fun v14 => (f_X12_spot 0 x2 x3).bind fun v15 => (ob_rL g4 v14 v15).bind fun v16 => some ((Int64.toInt32 ((v7 + v10) - v16)), g4)) else (some ((Int64.toInt32 (v7 + v10)), g4)))))))
theorem b_X12_ways_0 {C : ob_Cx} (F : ob_Fx C cX12_ways 6 RX12 (some .int) 8 197) {g : ob_St} {n0 : Nat} {x1 : Int32} {x2 : Int32} {x3 : Int32} {r : (Int32 × ob_St)} (h : f_X12_ways g n0 x1 x2 x3 = some r) (k : ob_Rt C (some (.int r.1)) r.2) : ob_Ev C 0 [(0, ob_rv C n0), (1, .int x1), (2, .int x2), (3, .int x3)] [] g := by
  unfold f_X12_ways at h
  refine ob_rload_n F 0 dX12_ways_0 rfl ?_
  refine ob_iconst F (v := 0) dX12_ways_1 (by decide) ?_
  refine ob_putI F dX12_ways_2 fp_X12_1 h fun g1 h => ?_
  refine ob_rload_n F 0 dX12_ways_5 rfl ?_
  refine ob_iload_n F 1 dX12_ways_6 rfl ?_
  refine ob_cVi F dX12_ways_7 im_X12_isOption tw6_145 h (fun b hb => t_X12_isOption hb) rfl rfl (Nat.le_of_ble_eq_true rfl) (by decide) fun v2 h => ?_
  refine ob_if_eq F 22 dX12_ways_10 (by decide) h (fun h => ?_) (fun h => ?_)
  · refine ob_iconst F (v := (-1)) dX12_ways_22 (by decide) ?_
    obtain rfl := Option.some.inj h
    exact ob_iret F dX12_ways_23 k
  · refine ob_rload_n F 0 dX12_ways_13 rfl ?_
    refine ob_iload_n F 2 dX12_ways_14 rfl ?_
    refine ob_iload_n F 3 dX12_ways_15 rfl ?_
    refine ob_cVi F dX12_ways_16 im_X12_isNode tw6_162 h (fun b hb => t_X12_isNode hb) rfl rfl (Nat.le_of_ble_eq_true rfl) (by decide) fun v3 h => ?_
    refine ob_if_ne F 24 dX12_ways_19 (by decide) h (fun h => ?_) (fun h => ?_)
    · refine ob_rload_n F 0 dX12_ways_24 rfl ?_
      refine ob_iload_n F 1 dX12_ways_25 rfl ?_
      refine ob_cVvS F dX12_ways_26 im_X12_goes tw7_33 h (fun b hb => t_X12_goes hb) rfl rfl (Nat.le_of_ble_eq_true rfl) (by decide) fun g4 h => ?_
      refine ob_rload_n F 0 dX12_ways_29 rfl ?_
      refine ob_getR F dX12_ways_30 fl_X12_59 h fun v5 h => ?_
      refine ob_iconst F (v := 0) dX12_ways_33 (by decide) ?_
      refine ob_iload_n F 2 dX12_ways_34 rfl ?_
      refine ob_iload_n F 3 dX12_ways_35 rfl ?_
      refine ob_cSi F dX12_ways_36 im_X12_spot tw7_41 h (fun b hb => t_X12_spot hb) rfl rfl (Nat.le_of_ble_eq_true rfl) (by decide) fun v6 h => ?_
      refine ob_lald F dX12_ways_39 h fun v7 h => ?_
      refine ob_rload_n F 0 dX12_ways_40 rfl ?_
      refine ob_getR F dX12_ways_41 fl_X12_59 h fun v8 h => ?_
      refine ob_iconst F (v := 1) dX12_ways_44 (by decide) ?_
      refine ob_iload_n F 2 dX12_ways_45 rfl ?_
      refine ob_iload_n F 3 dX12_ways_46 rfl ?_
      refine ob_cSi F dX12_ways_47 im_X12_spot tw7_41 h (fun b hb => t_X12_spot hb) rfl rfl (Nat.le_of_ble_eq_true rfl) (by decide) fun v9 h => ?_
      refine ob_lald F dX12_ways_50 h fun v10 h => ?_
      refine ob_ladd F dX12_ways_51 ?_
      refine ob_lstore F (ls2 := [(4, .long (v7 + v10)), (0, ob_rv C n0), (1, .int x1), (2, .int x2), (3, .int x3)]) dX12_ways_52 (by decide) rfl ?_
      refine ob_rload_n F 1 dX12_ways_54 rfl ?_
      refine ob_getR F dX12_ways_55 fl_X12_50 h fun v11 h => ?_
      refine ob_iload_n F 2 dX12_ways_58 rfl ?_
      refine ob_iload_n F 3 dX12_ways_59 rfl ?_
      refine ob_iload_n F 4 dX12_ways_60 rfl ?_
      refine ob_cSi F dX12_ways_61 im_X12_cell tw6_209 h (fun b hb => t_X12_cell hb) rfl rfl (Nat.le_of_ble_eq_true rfl) (by decide) fun v12 h => ?_
      refine ob_bald F dX12_ways_64 h fun v13 h => ?_
      refine ob_iconst F (v := 3) dX12_ways_65 (by decide) ?_
      refine ob_icmp_ne F 86 dX12_ways_66 (by decide) h (fun h => ?_) (fun h => ?_)
      · refine ob_lload F 0 dX12_ways_86 rfl ?_
        refine ob_l2i F dX12_ways_88 ?_
        obtain rfl := Option.some.inj h
        exact ob_iret F dX12_ways_89 k
      · refine ob_lload F 0 dX12_ways_69 rfl ?_
        refine ob_rload_n F 1 dX12_ways_71 rfl ?_
        refine ob_getR F dX12_ways_72 fl_X12_59 h fun v14 h => ?_
        refine ob_iconst F (v := 0) dX12_ways_75 (by decide) ?_
        refine ob_iload_n F 3 dX12_ways_76 rfl ?_
        refine ob_iload_n F 4 dX12_ways_77 rfl ?_
        refine ob_cSi F dX12_ways_78 im_X12_spot tw7_41 h (fun b hb => t_X12_spot hb) rfl rfl (Nat.le_of_ble_eq_true rfl) (by decide) fun v15 h => ?_
        refine ob_lald F dX12_ways_81 h fun v16 h => ?_
        refine ob_lsub F dX12_ways_82 ?_
        refine ob_goto F 88 dX12_ways_83 (by decide) ?_
        refine ob_l2i F dX12_ways_88 ?_
        obtain rfl := Option.some.inj h
        exact ob_iret F dX12_ways_89 k
    · refine ob_iconst F (v := (-1)) dX12_ways_22 (by decide) ?_
      obtain rfl := Option.some.inj h
      exact ob_iret F dX12_ways_23 k
theorem t_X12_ways {cf : ob_Cf} {g : ob_St} {n0 : Nat} {x1 : Int32} {x2 : Int32} {x3 : Int32} {r : (Int32 × ob_St)} (h : f_X12_ways g n0 x1 x2 x3 = some r) : ob_Mt cf yX12_ways cX12_ways 6 (some .int) 8 197 [ob_rw cf n0, .int x1, .int x2, .int x3] g (some (.int r.1)) r.2 := by
  refine ob_enter (by decide) (Nat.le_of_ble_eq_true rfl) (Or.inl rfl) ?_
  intro C hC F k
  subst hC
  exact b_X12_ways_0 F h k
-- X12_ending
def B_X12_ending_45 (g : ob_St) (n0 : Nat) (x1 : Int32) (x2 : Int32) (x3 : Int32) (x4 : Int32) (s0 : Nat) (s1 : Int32) : Option (Int64 × ob_St) :=
  (ob_ck 12 s0 (f_X12_throwsIf g s0 s1)).bind fun v2 => (if v2.1 = 0 then ((ob_ck 12 n0 (f_X12_goes v2.2 n0 x1)).bind fun g3 => (ob_gR 12 n0 27).bind fun v4 => (ob_rL g3 v4 ((13 * x3) + x2)).bind fun v5 => (ob_gR 12 n0 22).bind fun v6 => (ob_rL g3 v6 x2).bind fun v7 => (f_X12_told v5 v7 x4).bind fun v8 => some (v8, g3)) else (some (0, v2.2)))
theorem b_X12_ending_45 {C : ob_Cx} (F : ob_Fx C cX12_ending 5 RX12 (some .long) 8 197) {g : ob_St} {n0 : Nat} {x1 : Int32} {x2 : Int32} {x3 : Int32} {x4 : Int32} {s0 : Nat} {s1 : Int32} {r : (Int64 × ob_St)} (h : B_X12_ending_45 g n0 x1 x2 x3 x4 s0 s1 = some r) (k : ob_Rt C (some (.long r.1)) r.2) : ob_Ev C 45 [(0, ob_rv C n0), (1, .int x1), (2, .int x2), (3, .int x3), (4, .int x4)] [.int s1, ob_rv C s0] g := by
  unfold B_X12_ending_45 at h
  refine ob_cViS F dX12_ending_45 im_X12_throwsIf tw6_185 h (fun b hb => t_X12_throwsIf hb) rfl rfl (Nat.le_of_ble_eq_true rfl) (by decide) fun v2 h => ?_
  refine ob_if_eq F 53 dX12_ending_48 (by decide) h (fun h => ?_) (fun h => ?_)
  · refine ob_rload_n F 0 dX12_ending_53 rfl ?_
    refine ob_iload_n F 1 dX12_ending_54 rfl ?_
    refine ob_cVvS F dX12_ending_55 im_X12_goes tw7_33 h (fun b hb => t_X12_goes hb) rfl rfl (Nat.le_of_ble_eq_true rfl) (by decide) fun g3 h => ?_
    refine ob_rload_n F 0 dX12_ending_58 rfl ?_
    refine ob_getR F dX12_ending_59 fl_X12_62 h fun v4 h => ?_
    refine ob_bipush F (v := 13) dX12_ending_62 (by decide) ?_
    refine ob_iload_n F 3 dX12_ending_64 rfl ?_
    refine ob_imul F dX12_ending_65 ?_
    refine ob_iload_n F 2 dX12_ending_66 rfl ?_
    refine ob_iadd F dX12_ending_67 ?_
    refine ob_lald F dX12_ending_68 h fun v5 h => ?_
    refine ob_rload_n F 0 dX12_ending_69 rfl ?_
    refine ob_getR F dX12_ending_70 fl_X12_47 h fun v6 h => ?_
    refine ob_iload_n F 2 dX12_ending_73 rfl ?_
    refine ob_lald F dX12_ending_74 h fun v7 h => ?_
    refine ob_iload F 4 dX12_ending_75 rfl ?_
    refine ob_cSl F dX12_ending_77 im_X12_told tw6_231 h (fun b hb => t_X12_told hb) rfl rfl (Nat.le_of_ble_eq_true rfl) (by decide) fun v8 h => ?_
    obtain rfl := Option.some.inj h
    exact ob_lret F dX12_ending_80 k
  · refine ob_lconst F (v := 0) dX12_ending_51 (by decide) ?_
    obtain rfl := Option.some.inj h
    exact ob_lret F dX12_ending_52 k
def B_X12_ending_40 (g : ob_St) (n0 : Nat) (x1 : Int32) (x2 : Int32) (x3 : Int32) (x4 : Int32) (s0 : Nat) : Option (Int64 × ob_St) :=
  B_X12_ending_45 g n0 x1 x2 x3 x4 s0 1
theorem b_X12_ending_40 {C : ob_Cx} (F : ob_Fx C cX12_ending 5 RX12 (some .long) 8 197) {g : ob_St} {n0 : Nat} {x1 : Int32} {x2 : Int32} {x3 : Int32} {x4 : Int32} {s0 : Nat} {r : (Int64 × ob_St)} (h : B_X12_ending_40 g n0 x1 x2 x3 x4 s0 = some r) (k : ob_Rt C (some (.long r.1)) r.2) : ob_Ev C 40 [(0, ob_rv C n0), (1, .int x1), (2, .int x2), (3, .int x3), (4, .int x4)] [ob_rv C s0] g := by
  unfold B_X12_ending_40 at h
  refine ob_iconst F (v := 1) dX12_ending_40 (by decide) ?_
  refine ob_goto F 45 dX12_ending_41 (by decide) ?_
  exact b_X12_ending_45 F h k
def f_X12_ending (g : ob_St) (n0 : Nat) (x1 : Int32) (x2 : Int32) (x3 : Int32) (x4 : Int32) : Option (Int64 × ob_St) :=
  (ob_ck 12 n0 (f_X12_isOption g n0 x1)).bind fun v1 => (if v1 = 0 then (B_X12_ending_40 g n0 x1 x2 x3 x4 n0) else ((ob_gR 12 n0 1).bind fun v9 => (ob_rI g 14 v9 2).bind fun v10 => (f_X12_isIn x2 0 v10).bind fun v11 => (if v11 = 0 then (B_X12_ending_40 g n0 x1 x2 x3 x4 n0) else ((f_X12_isIn x3 0 3).bind fun v12 => (if v12 = 0 then (B_X12_ending_40 g n0 x1 x2 x3 x4 n0) else ((f_X12_isPart x4).bind fun v13 => (if v13 = 0 then (B_X12_ending_40 g n0 x1 x2 x3 x4 n0) else (B_X12_ending_45 g n0 x1 x2 x3 x4 n0 0))))))))
theorem b_X12_ending_0 {C : ob_Cx} (F : ob_Fx C cX12_ending 5 RX12 (some .long) 8 197) {g : ob_St} {n0 : Nat} {x1 : Int32} {x2 : Int32} {x3 : Int32} {x4 : Int32} {r : (Int64 × ob_St)} (h : f_X12_ending g n0 x1 x2 x3 x4 = some r) (k : ob_Rt C (some (.long r.1)) r.2) : ob_Ev C 0 [(0, ob_rv C n0), (1, .int x1), (2, .int x2), (3, .int x3), (4, .int x4)] [] g := by
  unfold f_X12_ending at h
  refine ob_rload_n F 0 dX12_ending_0 rfl ?_
  refine ob_rload_n F 0 dX12_ending_1 rfl ?_
  refine ob_iload_n F 1 dX12_ending_2 rfl ?_
  refine ob_cVi F dX12_ending_3 im_X12_isOption tw6_145 h (fun b hb => t_X12_isOption hb) rfl rfl (Nat.le_of_ble_eq_true rfl) (by decide) fun v1 h => ?_
  refine ob_if_eq F 40 dX12_ending_6 (by decide) h (fun h => ?_) (fun h => ?_)
  · exact b_X12_ending_40 F h k
  · refine ob_iload_n F 2 dX12_ending_9 rfl ?_
    refine ob_iconst F (v := 0) dX12_ending_10 (by decide) ?_
    refine ob_rload_n F 0 dX12_ending_11 rfl ?_
    refine ob_getR F dX12_ending_12 fl_X12_13 h fun v9 h => ?_
    refine ob_iconst F (v := 2) dX12_ending_15 (by decide) ?_
    refine ob_iald F dX12_ending_16 h fun v10 h => ?_
    refine ob_cSi F dX12_ending_17 im_X12_isIn tw6_67 h (fun b hb => t_X12_isIn hb) rfl rfl (Nat.le_of_ble_eq_true rfl) (by decide) fun v11 h => ?_
    refine ob_if_eq F 40 dX12_ending_20 (by decide) h (fun h => ?_) (fun h => ?_)
    · exact b_X12_ending_40 F h k
    · refine ob_iload_n F 3 dX12_ending_23 rfl ?_
      refine ob_iconst F (v := 0) dX12_ending_24 (by decide) ?_
      refine ob_iconst F (v := 3) dX12_ending_25 (by decide) ?_
      refine ob_cSi F dX12_ending_26 im_X12_isIn tw6_67 h (fun b hb => t_X12_isIn hb) rfl rfl (Nat.le_of_ble_eq_true rfl) (by decide) fun v12 h => ?_
      refine ob_if_eq F 40 dX12_ending_29 (by decide) h (fun h => ?_) (fun h => ?_)
      · exact b_X12_ending_40 F h k
      · refine ob_iload F 4 dX12_ending_32 rfl ?_
        refine ob_cSi F dX12_ending_34 im_X12_isPart tw6_182 h (fun b hb => t_X12_isPart hb) rfl rfl (Nat.le_of_ble_eq_true rfl) (by decide) fun v13 h => ?_
        refine ob_if_ne F 44 dX12_ending_37 (by decide) h (fun h => ?_) (fun h => ?_)
        · refine ob_iconst F (v := 0) dX12_ending_44 (by decide) ?_
          exact b_X12_ending_45 F h k
        · exact b_X12_ending_40 F h k
theorem t_X12_ending {cf : ob_Cf} {g : ob_St} {n0 : Nat} {x1 : Int32} {x2 : Int32} {x3 : Int32} {x4 : Int32} {r : (Int64 × ob_St)} (h : f_X12_ending g n0 x1 x2 x3 x4 = some r) : ob_Mt cf yX12_ending cX12_ending 5 (some .long) 8 197 [ob_rw cf n0, .int x1, .int x2, .int x3, .int x4] g (some (.long r.1)) r.2 := by
  refine ob_enter (by decide) (Nat.le_of_ble_eq_true rfl) rfl ?_
  intro C hC F k
  subst hC
  exact b_X12_ending_0 F h k
-- X12_life
def Lb_X12_life_48 (rec : Int64 → Int32 → Option (Int64)) (g : ob_St) (n0 : Nat) (x2 : Int32) (x5 : Int32) (y3 : Int64) (x6 : Int32) : Option (Int64) :=
  (ob_gR 12 n0 1).bind fun v4 => (ob_rI g 14 v4 2).bind fun v5 => (if v5 < x6 then (some y3) else ((ob_gR 12 n0 27).bind fun v6 => (ob_rL g v6 ((13 * x5) + x6)).bind fun v7 => (ob_ck 12 n0 (f_X12_powerAt g n0 x6)).bind fun v8 => ob_let (y3 + (((Int32.toInt64 x6) * v7) * v8)) fun z9 => rec z9 (x6 + 1)))
def L_X12_life_48 (g : ob_St) (n0 : Nat) (x2 : Int32) (x5 : Int32) : Nat → Int64 → Int32 → Option (Int64)
  | 0, _, _ => none
  | n + 1, y3, x6 => Lb_X12_life_48 (L_X12_life_48 g n0 x2 x5 n) g n0 x2 x5 y3 x6
theorem lb_X12_life_48 {C : ob_Cx} {rec : Int64 → Int32 → Option (Int64)} (F : ob_Fx C cX12_life 7 RX12 (some .long) 8 197) {g : ob_St} {n0 : Nat} {x2 : Int32} {y3 : Int64} {x5 : Int32} {x6 : Int32} {x : (Int64)} (hr : ∀ {y3 : Int64} {x6 : Int32} {x : (Int64)}, rec y3 x6 = some x → ob_Ev C 92 [(0, ob_rv C n0), (2, .int x2), (3, .long x), (5, .int x5)] [] g → ob_Ev C 48 [(0, ob_rv C n0), (2, .int x2), (3, .long y3), (5, .int x5), (6, .int x6)] [] g) (h : Lb_X12_life_48 rec g n0 x2 x5 y3 x6 = some x) (k0 : ob_Ev C 92 [(0, ob_rv C n0), (2, .int x2), (3, .long x), (5, .int x5)] [] g) : ob_Ev C 48 [(0, ob_rv C n0), (2, .int x2), (3, .long y3), (5, .int x5), (6, .int x6)] [] g := by
  unfold Lb_X12_life_48 at h
  refine ob_iload F 4 dX12_life_48 rfl ?_
  refine ob_rload_n F 0 dX12_life_50 rfl ?_
  refine ob_getR F dX12_life_51 fl_X12_13 h fun v4 h => ?_
  refine ob_iconst F (v := 2) dX12_life_54 (by decide) ?_
  refine ob_iald F dX12_life_55 h fun v5 h => ?_
  refine ob_icmp_gt F 92 dX12_life_56 (by decide) h (fun h => ?_) (fun h => ?_)
  · obtain rfl := Option.some.inj h
    exact ob_sub [0, 1, 2, 3] rfl (k0)
  · refine ob_lload_n F 2 dX12_life_59 rfl ?_
    refine ob_iload F 4 dX12_life_60 rfl ?_
    refine ob_i2l F dX12_life_62 ?_
    refine ob_rload_n F 0 dX12_life_63 rfl ?_
    refine ob_getR F dX12_life_64 fl_X12_62 h fun v6 h => ?_
    refine ob_bipush F (v := 13) dX12_life_67 (by decide) ?_
    refine ob_iload F 3 dX12_life_69 rfl ?_
    refine ob_imul F dX12_life_71 ?_
    refine ob_iload F 4 dX12_life_72 rfl ?_
    refine ob_iadd F dX12_life_74 ?_
    refine ob_lald F dX12_life_75 h fun v7 h => ?_
    refine ob_lmul F dX12_life_76 ?_
    refine ob_rload_n F 0 dX12_life_77 rfl ?_
    refine ob_iload F 4 dX12_life_78 rfl ?_
    refine ob_cVl F dX12_life_80 im_X12_powerAt tw6_219 h (fun b hb => t_X12_powerAt hb) rfl rfl (Nat.le_of_ble_eq_true rfl) (by decide) fun v8 h => ?_
    refine ob_lmul F dX12_life_83 ?_
    refine ob_ladd F dX12_life_84 ?_
    refine ob_letl h fun z9 h => ?_
    refine ob_lstore_n F (ls2 := [(3, .long z9), (0, ob_rv C n0), (2, .int x2), (5, .int x5), (6, .int x6)]) dX12_life_85 (by decide) rfl ?_
    refine ob_iinc F (v := (x6 + 1)) (ls2 := [(6, .int (x6 + 1)), (3, .long z9), (0, ob_rv C n0), (2, .int x2), (5, .int x5)]) 4 dX12_life_86 rfl rfl (by decide) rfl ?_
    refine ob_goto F 48 dX12_life_89 (by decide) ?_
    exact ob_sub [2, 3, 1, 4, 0] rfl (hr h k0)
theorem l_X12_life_48 {C : ob_Cx} (F : ob_Fx C cX12_life 7 RX12 (some .long) 8 197) {g : ob_St} {n0 : Nat} {x2 : Int32} {x5 : Int32} : ∀ (n : Nat) {y3 : Int64} {x6 : Int32} {x : (Int64)}, L_X12_life_48 g n0 x2 x5 n y3 x6 = some x → ob_Ev C 92 [(0, ob_rv C n0), (2, .int x2), (3, .long x), (5, .int x5)] [] g → ob_Ev C 48 [(0, ob_rv C n0), (2, .int x2), (3, .long y3), (5, .int x5), (6, .int x6)] [] g := by
  intro n
  induction n with
  | zero => intro y3 x6 x h; exact ob_no h
  | succ n ih => intro y3 x6 x h k0; exact lb_X12_life_48 F ih h k0
def Lb_X12_life_39 (rec : Int64 → Int32 → Option (Int64)) (g : ob_St) (n0 : Nat) (x2 : Int32) (y3 : Int64) (x5 : Int32) : Option (Int64) :=
  (if 4 ≤ x5 then (some y3) else ((L_X12_life_48 g n0 x2 x5 ob_FU y3 0).bind fun x_10 => rec x_10 (x5 + 1)))
def L_X12_life_39 (g : ob_St) (n0 : Nat) (x2 : Int32) : Nat → Int64 → Int32 → Option (Int64)
  | 0, _, _ => none
  | n + 1, y3, x5 => Lb_X12_life_39 (L_X12_life_39 g n0 x2 n) g n0 x2 y3 x5
theorem lb_X12_life_39 {C : ob_Cx} {rec : Int64 → Int32 → Option (Int64)} (F : ob_Fx C cX12_life 7 RX12 (some .long) 8 197) {g : ob_St} {n0 : Nat} {x2 : Int32} {y3 : Int64} {x5 : Int32} {x : (Int64)} (hr : ∀ {y3 : Int64} {x5 : Int32} {x : (Int64)}, rec y3 x5 = some x → ob_Ev C 98 [(0, ob_rv C n0), (2, .int x2), (3, .long x)] [] g → ob_Ev C 39 [(0, ob_rv C n0), (2, .int x2), (3, .long y3), (5, .int x5)] [] g) (h : Lb_X12_life_39 rec g n0 x2 y3 x5 = some x) (k0 : ob_Ev C 98 [(0, ob_rv C n0), (2, .int x2), (3, .long x)] [] g) : ob_Ev C 39 [(0, ob_rv C n0), (2, .int x2), (3, .long y3), (5, .int x5)] [] g := by
  unfold Lb_X12_life_39 at h
  refine ob_iload F 3 dX12_life_39 rfl ?_
  refine ob_iconst F (v := 4) dX12_life_41 (by decide) ?_
  refine ob_icmp_ge F 98 dX12_life_42 (by decide) h (fun h => ?_) (fun h => ?_)
  · obtain rfl := Option.some.inj h
    exact ob_sub [0, 1, 2] rfl (k0)
  · refine ob_iconst F (v := 0) dX12_life_45 (by decide) ?_
    refine ob_istore F (ls2 := [(6, .int 0), (0, ob_rv C n0), (2, .int x2), (3, .long y3), (5, .int x5)]) dX12_life_46 (by decide) rfl ?_
    obtain ⟨x_10, hx, h⟩ := Option.bind_eq_some_iff.mp h
    refine ob_sub [1, 2, 3, 4, 0] rfl (l_X12_life_48 F ob_FU hx ?_)
    refine ob_iinc F (v := (x5 + 1)) (ls2 := [(5, .int (x5 + 1)), (0, ob_rv C n0), (2, .int x2), (3, .long x_10)]) 3 dX12_life_92 rfl rfl (by decide) rfl ?_
    refine ob_goto F 39 dX12_life_95 (by decide) ?_
    exact ob_sub [1, 2, 3, 0] rfl (hr h k0)
theorem l_X12_life_39 {C : ob_Cx} (F : ob_Fx C cX12_life 7 RX12 (some .long) 8 197) {g : ob_St} {n0 : Nat} {x2 : Int32} : ∀ (n : Nat) {y3 : Int64} {x5 : Int32} {x : (Int64)}, L_X12_life_39 g n0 x2 n y3 x5 = some x → ob_Ev C 98 [(0, ob_rv C n0), (2, .int x2), (3, .long x)] [] g → ob_Ev C 39 [(0, ob_rv C n0), (2, .int x2), (3, .long y3), (5, .int x5)] [] g := by
  intro n
  induction n with
  | zero => intro y3 x5 x h; exact ob_no h
  | succ n ih => intro y3 x5 x h k0; exact lb_X12_life_39 F ih h k0
def B_X12_life_21 (g : ob_St) (n0 : Nat) (x1 : Int32) (x2 : Int32) (s0 : Nat) (s1 : Int32) : Option (Int64 × ob_St) :=
  (ob_ck 12 s0 (f_X12_throwsIf g s0 s1)).bind fun v2 => (if v2.1 = 0 then ((ob_ck 12 n0 (f_X12_goes v2.2 n0 x1)).bind fun g3 => (L_X12_life_39 g3 n0 x2 ob_FU 0 0).bind fun x_11 => (ob_gR 12 n0 22).bind fun v12 => (ob_gR 12 n0 1).bind fun v13 => (ob_rI g3 14 v13 2).bind fun v14 => (ob_rL g3 v12 v14).bind fun v15 => (f_X12_told x_11 v15 x2).bind fun v16 => some (v16, g3)) else (some (0, v2.2)))
theorem b_X12_life_21 {C : ob_Cx} (F : ob_Fx C cX12_life 7 RX12 (some .long) 8 197) {g : ob_St} {n0 : Nat} {x1 : Int32} {x2 : Int32} {s0 : Nat} {s1 : Int32} {r : (Int64 × ob_St)} (h : B_X12_life_21 g n0 x1 x2 s0 s1 = some r) (k : ob_Rt C (some (.long r.1)) r.2) : ob_Ev C 21 [(0, ob_rv C n0), (1, .int x1), (2, .int x2)] [.int s1, ob_rv C s0] g := by
  unfold B_X12_life_21 at h
  refine ob_cViS F dX12_life_21 im_X12_throwsIf tw6_185 h (fun b hb => t_X12_throwsIf hb) rfl rfl (Nat.le_of_ble_eq_true rfl) (by decide) fun v2 h => ?_
  refine ob_if_eq F 29 dX12_life_24 (by decide) h (fun h => ?_) (fun h => ?_)
  · refine ob_rload_n F 0 dX12_life_29 rfl ?_
    refine ob_iload_n F 1 dX12_life_30 rfl ?_
    refine ob_cVvS F dX12_life_31 im_X12_goes tw7_33 h (fun b hb => t_X12_goes hb) rfl rfl (Nat.le_of_ble_eq_true rfl) (by decide) fun g3 h => ?_
    refine ob_lconst F (v := 0) dX12_life_34 (by decide) ?_
    refine ob_lstore_n F (ls2 := [(3, .long 0), (0, ob_rv C n0), (1, .int x1), (2, .int x2)]) dX12_life_35 (by decide) rfl ?_
    refine ob_iconst F (v := 0) dX12_life_36 (by decide) ?_
    refine ob_istore F (ls2 := [(5, .int 0), (3, .long 0), (0, ob_rv C n0), (1, .int x1), (2, .int x2)]) dX12_life_37 (by decide) rfl ?_
    obtain ⟨x_11, hx, h⟩ := Option.bind_eq_some_iff.mp h
    refine ob_sub [2, 4, 1, 0] rfl (l_X12_life_39 F ob_FU hx ?_)
    refine ob_lload_n F 2 dX12_life_98 rfl ?_
    refine ob_rload_n F 0 dX12_life_99 rfl ?_
    refine ob_getR F dX12_life_100 fl_X12_47 h fun v12 h => ?_
    refine ob_rload_n F 0 dX12_life_103 rfl ?_
    refine ob_getR F dX12_life_104 fl_X12_13 h fun v13 h => ?_
    refine ob_iconst F (v := 2) dX12_life_107 (by decide) ?_
    refine ob_iald F dX12_life_108 h fun v14 h => ?_
    refine ob_lald F dX12_life_109 h fun v15 h => ?_
    refine ob_iload_n F 1 dX12_life_110 rfl ?_
    refine ob_cSl F dX12_life_111 im_X12_told tw6_231 h (fun b hb => t_X12_told hb) rfl rfl (Nat.le_of_ble_eq_true rfl) (by decide) fun v16 h => ?_
    obtain rfl := Option.some.inj h
    exact ob_lret F dX12_life_114 k
  · refine ob_lconst F (v := 0) dX12_life_27 (by decide) ?_
    obtain rfl := Option.some.inj h
    exact ob_lret F dX12_life_28 k
def B_X12_life_16 (g : ob_St) (n0 : Nat) (x1 : Int32) (x2 : Int32) (s0 : Nat) : Option (Int64 × ob_St) :=
  B_X12_life_21 g n0 x1 x2 s0 1
theorem b_X12_life_16 {C : ob_Cx} (F : ob_Fx C cX12_life 7 RX12 (some .long) 8 197) {g : ob_St} {n0 : Nat} {x1 : Int32} {x2 : Int32} {s0 : Nat} {r : (Int64 × ob_St)} (h : B_X12_life_16 g n0 x1 x2 s0 = some r) (k : ob_Rt C (some (.long r.1)) r.2) : ob_Ev C 16 [(0, ob_rv C n0), (1, .int x1), (2, .int x2)] [ob_rv C s0] g := by
  unfold B_X12_life_16 at h
  refine ob_iconst F (v := 1) dX12_life_16 (by decide) ?_
  refine ob_goto F 21 dX12_life_17 (by decide) ?_
  exact b_X12_life_21 F h k
def f_X12_life (g : ob_St) (n0 : Nat) (x1 : Int32) (x2 : Int32) : Option (Int64 × ob_St) :=
  (ob_ck 12 n0 (f_X12_isOption g n0 x1)).bind fun v1 => (if v1 = 0 then (B_X12_life_16 g n0 x1 x2 n0) else ((f_X12_isPart x2).bind fun v17 => (if v17 = 0 then (B_X12_life_16 g n0 x1 x2 n0) else (B_X12_life_21 g n0 x1 x2 n0 0))))
theorem b_X12_life_0 {C : ob_Cx} (F : ob_Fx C cX12_life 7 RX12 (some .long) 8 197) {g : ob_St} {n0 : Nat} {x1 : Int32} {x2 : Int32} {r : (Int64 × ob_St)} (h : f_X12_life g n0 x1 x2 = some r) (k : ob_Rt C (some (.long r.1)) r.2) : ob_Ev C 0 [(0, ob_rv C n0), (1, .int x1), (2, .int x2)] [] g := by
  unfold f_X12_life at h
  refine ob_rload_n F 0 dX12_life_0 rfl ?_
  refine ob_rload_n F 0 dX12_life_1 rfl ?_
  refine ob_iload_n F 1 dX12_life_2 rfl ?_
  refine ob_cVi F dX12_life_3 im_X12_isOption tw6_145 h (fun b hb => t_X12_isOption hb) rfl rfl (Nat.le_of_ble_eq_true rfl) (by decide) fun v1 h => ?_
  refine ob_if_eq F 16 dX12_life_6 (by decide) h (fun h => ?_) (fun h => ?_)
  · exact b_X12_life_16 F h k
  · refine ob_iload_n F 2 dX12_life_9 rfl ?_
    refine ob_cSi F dX12_life_10 im_X12_isPart tw6_182 h (fun b hb => t_X12_isPart hb) rfl rfl (Nat.le_of_ble_eq_true rfl) (by decide) fun v17 h => ?_
    refine ob_if_ne F 20 dX12_life_13 (by decide) h (fun h => ?_) (fun h => ?_)
    · refine ob_iconst F (v := 0) dX12_life_20 (by decide) ?_
      exact b_X12_life_21 F h k
    · exact b_X12_life_16 F h k
theorem t_X12_life {cf : ob_Cf} {g : ob_St} {n0 : Nat} {x1 : Int32} {x2 : Int32} {r : (Int64 × ob_St)} (h : f_X12_life g n0 x1 x2 = some r) : ob_Mt cf yX12_life cX12_life 7 (some .long) 8 197 [ob_rw cf n0, .int x1, .int x2] g (some (.long r.1)) r.2 := by
  refine ob_enter (by decide) (Nat.le_of_ble_eq_true rfl) rfl ?_
  intro C hC F k
  subst hC
  exact b_X12_life_0 F h k
-- X12_gains
def B_X12_gains_329 (rec : Int64 → Int32 → Int32 → Int32 → Option ((Int64) ⊕ ((Int64 × Int32 × Int64) ⊕ ((Int64 × Int32 × Int64) ⊕ ((Int64) ⊕ (Int64)))))) (g : ob_St) (n0 : Nat) (x1 : Int32) (x2 : Int32) (x3 : Int32) (y4 : Int64) (x6 : Int32) (x8 : Int32) (s0 : Int32) (s1 : Int32) : Option ((Int64) ⊕ ((Int64 × Int32 × Int64) ⊕ ((Int64 × Int32 × Int64) ⊕ ((Int64) ⊕ (Int64))))) :=
  rec y4 x6 (s0 + s1) (x8 + 1)
theorem b_X12_gains_329 {C : ob_Cx} {rec : Int64 → Int32 → Int32 → Int32 → Option ((Int64) ⊕ ((Int64 × Int32 × Int64) ⊕ ((Int64 × Int32 × Int64) ⊕ ((Int64) ⊕ (Int64)))))} (F : ob_Fx C cX12_gains 15 RX12 (some .long) 3 72) {g : ob_St} {n0 : Nat} {x1 : Int32} {x2 : Int32} {x3 : Int32} {y4 : Int64} {x6 : Int32} {x8 : Int32} {s0 : Int32} {s1 : Int32} {x : ((Int64) ⊕ ((Int64 × Int32 × Int64) ⊕ ((Int64 × Int32 × Int64) ⊕ ((Int64) ⊕ (Int64)))))} (hr : ∀ {y4 : Int64} {x6 : Int32} {x7 : Int32} {x8 : Int32} {x : ((Int64) ⊕ ((Int64 × Int32 × Int64) ⊕ ((Int64 × Int32 × Int64) ⊕ ((Int64) ⊕ (Int64)))))}, rec y4 x6 x7 x8 = some x → (∀ y, x = (.inl y) → ob_Ev C 96 [(0, ob_rv C n0), (1, .int x1), (4, .long y)] [] g) → (∀ y, x = (.inr (.inl y)) → ob_Ev C 169 [(0, ob_rv C n0), (4, .long y.1), (8, .int y.2.1), (11, .long y.2.2)] [] g) → (∀ y, x = (.inr (.inr (.inl y))) → ob_Ev C 189 [(0, ob_rv C n0), (1, .int x1), (4, .long y.1), (8, .int y.2.1), (11, .long y.2.2)] [] g) → (∀ y, x = (.inr (.inr (.inr (.inl y)))) → ob_Ev C 235 [(4, .long y)] [] g) → (∀ y, x = (.inr (.inr (.inr (.inr y)))) → ob_Ev C 338 [(4, .long y)] [] g) → ob_Ev C 22 [(0, ob_rv C n0), (1, .int x1), (2, .int x2), (3, .int x3), (4, .long y4), (6, .int x6), (7, .int x7), (8, .int x8)] [] g) (h : B_X12_gains_329 rec g n0 x1 x2 x3 y4 x6 x8 s0 s1 = some x) (k0 : (∀ y, x = (.inl y) → ob_Ev C 96 [(0, ob_rv C n0), (1, .int x1), (4, .long y)] [] g)) (k1 : (∀ y, x = (.inr (.inl y)) → ob_Ev C 169 [(0, ob_rv C n0), (4, .long y.1), (8, .int y.2.1), (11, .long y.2.2)] [] g)) (k2 : (∀ y, x = (.inr (.inr (.inl y))) → ob_Ev C 189 [(0, ob_rv C n0), (1, .int x1), (4, .long y.1), (8, .int y.2.1), (11, .long y.2.2)] [] g)) (k3 : (∀ y, x = (.inr (.inr (.inr (.inl y)))) → ob_Ev C 235 [(4, .long y)] [] g)) (k4 : (∀ y, x = (.inr (.inr (.inr (.inr y)))) → ob_Ev C 338 [(4, .long y)] [] g)) : ob_Ev C 329 [(0, ob_rv C n0), (1, .int x1), (2, .int x2), (3, .int x3), (4, .long y4), (6, .int x6), (8, .int x8)] [.int s1, .int s0] g := by
  unfold B_X12_gains_329 at h
  refine ob_iadd F dX12_gains_329 ?_
  refine ob_istore F (ls2 := [(7, .int (s0 + s1)), (0, ob_rv C n0), (1, .int x1), (2, .int x2), (3, .int x3), (4, .long y4), (6, .int x6), (8, .int x8)]) dX12_gains_330 (by decide) rfl ?_
  refine ob_iinc F (v := (x8 + 1)) (ls2 := [(8, .int (x8 + 1)), (7, .int (s0 + s1)), (0, ob_rv C n0), (1, .int x1), (2, .int x2), (3, .int x3), (4, .long y4), (6, .int x6)]) 7 dX12_gains_332 rfl rfl (by decide) rfl ?_
  refine ob_goto F 22 dX12_gains_335 (by decide) ?_
  exact ob_sub [2, 3, 4, 5, 6, 7, 1, 0] rfl (hr h k0 k1 k2 k3 k4)
def B_X12_gains_294 (rec : Int64 → Int32 → Int32 → Int32 → Option ((Int64) ⊕ ((Int64 × Int32 × Int64) ⊕ ((Int64 × Int32 × Int64) ⊕ ((Int64) ⊕ (Int64)))))) (g : ob_St) (n0 : Nat) (x1 : Int32) (x2 : Int32) (x3 : Int32) (x6 : Int32) (x7 : Int32) (x8 : Int32) (x13 : Int32) (x14 : Int32) (s0 : Int64) (s1 : Nat) (s2 : Nat) : Option ((Int64) ⊕ ((Int64 × Int32 × Int64) ⊕ ((Int64 × Int32 × Int64) ⊕ ((Int64) ⊕ (Int64))))) :=
  (ob_ck 12 s1 (f_X12_standsBy g s1 s2 x1 x8 x7)).bind fun v16 => (ob_gR 12 n0 22).bind fun v17 => (ob_rL g v17 x8).bind fun v18 => ob_let (s0 + ((v16 * (Int32.toInt64 x14)) * v18)) fun z19 => (if x13 = 0 then (B_X12_gains_329 rec g n0 x1 x2 x3 z19 x6 x8 x7 0) else (B_X12_gains_329 rec g n0 x1 x2 x3 z19 x6 x8 x7 1))
theorem b_X12_gains_294 {C : ob_Cx} {rec : Int64 → Int32 → Int32 → Int32 → Option ((Int64) ⊕ ((Int64 × Int32 × Int64) ⊕ ((Int64 × Int32 × Int64) ⊕ ((Int64) ⊕ (Int64)))))} (F : ob_Fx C cX12_gains 15 RX12 (some .long) 3 72) {g : ob_St} {n0 : Nat} {x1 : Int32} {x2 : Int32} {x3 : Int32} {x6 : Int32} {x7 : Int32} {x8 : Int32} {x13 : Int32} {x14 : Int32} {s0 : Int64} {s1 : Nat} {s2 : Nat} {x : ((Int64) ⊕ ((Int64 × Int32 × Int64) ⊕ ((Int64 × Int32 × Int64) ⊕ ((Int64) ⊕ (Int64)))))} (hr : ∀ {y4 : Int64} {x6 : Int32} {x7 : Int32} {x8 : Int32} {x : ((Int64) ⊕ ((Int64 × Int32 × Int64) ⊕ ((Int64 × Int32 × Int64) ⊕ ((Int64) ⊕ (Int64)))))}, rec y4 x6 x7 x8 = some x → (∀ y, x = (.inl y) → ob_Ev C 96 [(0, ob_rv C n0), (1, .int x1), (4, .long y)] [] g) → (∀ y, x = (.inr (.inl y)) → ob_Ev C 169 [(0, ob_rv C n0), (4, .long y.1), (8, .int y.2.1), (11, .long y.2.2)] [] g) → (∀ y, x = (.inr (.inr (.inl y))) → ob_Ev C 189 [(0, ob_rv C n0), (1, .int x1), (4, .long y.1), (8, .int y.2.1), (11, .long y.2.2)] [] g) → (∀ y, x = (.inr (.inr (.inr (.inl y)))) → ob_Ev C 235 [(4, .long y)] [] g) → (∀ y, x = (.inr (.inr (.inr (.inr y)))) → ob_Ev C 338 [(4, .long y)] [] g) → ob_Ev C 22 [(0, ob_rv C n0), (1, .int x1), (2, .int x2), (3, .int x3), (4, .long y4), (6, .int x6), (7, .int x7), (8, .int x8)] [] g) (h : B_X12_gains_294 rec g n0 x1 x2 x3 x6 x7 x8 x13 x14 s0 s1 s2 = some x) (k0 : (∀ y, x = (.inl y) → ob_Ev C 96 [(0, ob_rv C n0), (1, .int x1), (4, .long y)] [] g)) (k1 : (∀ y, x = (.inr (.inl y)) → ob_Ev C 169 [(0, ob_rv C n0), (4, .long y.1), (8, .int y.2.1), (11, .long y.2.2)] [] g)) (k2 : (∀ y, x = (.inr (.inr (.inl y))) → ob_Ev C 189 [(0, ob_rv C n0), (1, .int x1), (4, .long y.1), (8, .int y.2.1), (11, .long y.2.2)] [] g)) (k3 : (∀ y, x = (.inr (.inr (.inr (.inl y)))) → ob_Ev C 235 [(4, .long y)] [] g)) (k4 : (∀ y, x = (.inr (.inr (.inr (.inr y)))) → ob_Ev C 338 [(4, .long y)] [] g)) : ob_Ev C 294 [(0, ob_rv C n0), (1, .int x1), (2, .int x2), (3, .int x3), (6, .int x6), (7, .int x7), (8, .int x8), (13, .int x13), (14, .int x14)] [ob_rv C s2, ob_rv C s1, .long s0] g := by
  unfold B_X12_gains_294 at h
  refine ob_iload_n F 1 dX12_gains_294 rfl ?_
  refine ob_iload F 6 dX12_gains_295 rfl ?_
  refine ob_iload F 5 dX12_gains_297 rfl ?_
  refine ob_cVl F dX12_gains_299 im_X12_standsBy tw7_21 h (fun b hb => t_X12_standsBy hb) rfl rfl (Nat.le_of_ble_eq_true rfl) (by decide) fun v16 h => ?_
  refine ob_iload F 8 dX12_gains_302 rfl ?_
  refine ob_i2l F dX12_gains_304 ?_
  refine ob_lmul F dX12_gains_305 ?_
  refine ob_rload_n F 0 dX12_gains_306 rfl ?_
  refine ob_getR F dX12_gains_307 fl_X12_47 h fun v17 h => ?_
  refine ob_iload F 6 dX12_gains_310 rfl ?_
  refine ob_lald F dX12_gains_312 h fun v18 h => ?_
  refine ob_lmul F dX12_gains_313 ?_
  refine ob_ladd F dX12_gains_314 ?_
  refine ob_letl h fun z19 h => ?_
  refine ob_lstore F (ls2 := [(4, .long z19), (0, ob_rv C n0), (1, .int x1), (2, .int x2), (3, .int x3), (6, .int x6), (7, .int x7), (8, .int x8), (13, .int x13), (14, .int x14)]) dX12_gains_315 (by decide) rfl ?_
  refine ob_iload F 6 dX12_gains_317 rfl ?_
  refine ob_iload F 8 dX12_gains_319 rfl ?_
  refine ob_if_eq F 328 dX12_gains_321 (by decide) h (fun h => ?_) (fun h => ?_)
  · refine ob_iconst F (v := 0) dX12_gains_328 (by decide) ?_
    exact ob_sub [1, 2, 3, 4, 0, 5, 7] rfl (b_X12_gains_329 F hr h k0 k1 k2 k3 k4)
  · refine ob_iconst F (v := 1) dX12_gains_324 (by decide) ?_
    refine ob_goto F 329 dX12_gains_325 (by decide) ?_
    exact ob_sub [1, 2, 3, 4, 0, 5, 7] rfl (b_X12_gains_329 F hr h k0 k1 k2 k3 k4)
def B_X12_gains_261 (rec : Int64 → Int32 → Int32 → Int32 → Option ((Int64) ⊕ ((Int64 × Int32 × Int64) ⊕ ((Int64 × Int32 × Int64) ⊕ ((Int64) ⊕ (Int64)))))) (g : ob_St) (n0 : Nat) (x1 : Int32) (x2 : Int32) (x3 : Int32) (y4 : Int64) (x6 : Int32) (x7 : Int32) (x8 : Int32) (x13 : Int32) (s0 : Int32) : Option ((Int64) ⊕ ((Int64 × Int32 × Int64) ⊕ ((Int64 × Int32 × Int64) ⊕ ((Int64) ⊕ (Int64))))) :=
  (ob_gR 12 n0 1).bind fun v13 => (ob_rI g 14 v13 ((3 + x8) + 1)).bind fun v14 => (if x6 = 0 then ((ob_gR 12 n0 20).bind fun v15 => B_X12_gains_294 rec g n0 x1 x2 x3 x6 x7 x8 x13 (s0 - v14) y4 n0 v15) else ((ob_gR 12 n0 21).bind fun v20 => B_X12_gains_294 rec g n0 x1 x2 x3 x6 x7 x8 x13 (s0 - v14) y4 n0 v20))
theorem b_X12_gains_261 {C : ob_Cx} {rec : Int64 → Int32 → Int32 → Int32 → Option ((Int64) ⊕ ((Int64 × Int32 × Int64) ⊕ ((Int64 × Int32 × Int64) ⊕ ((Int64) ⊕ (Int64)))))} (F : ob_Fx C cX12_gains 15 RX12 (some .long) 3 72) {g : ob_St} {n0 : Nat} {x1 : Int32} {x2 : Int32} {x3 : Int32} {y4 : Int64} {x6 : Int32} {x7 : Int32} {x8 : Int32} {x13 : Int32} {s0 : Int32} {x : ((Int64) ⊕ ((Int64 × Int32 × Int64) ⊕ ((Int64 × Int32 × Int64) ⊕ ((Int64) ⊕ (Int64)))))} (hr : ∀ {y4 : Int64} {x6 : Int32} {x7 : Int32} {x8 : Int32} {x : ((Int64) ⊕ ((Int64 × Int32 × Int64) ⊕ ((Int64 × Int32 × Int64) ⊕ ((Int64) ⊕ (Int64)))))}, rec y4 x6 x7 x8 = some x → (∀ y, x = (.inl y) → ob_Ev C 96 [(0, ob_rv C n0), (1, .int x1), (4, .long y)] [] g) → (∀ y, x = (.inr (.inl y)) → ob_Ev C 169 [(0, ob_rv C n0), (4, .long y.1), (8, .int y.2.1), (11, .long y.2.2)] [] g) → (∀ y, x = (.inr (.inr (.inl y))) → ob_Ev C 189 [(0, ob_rv C n0), (1, .int x1), (4, .long y.1), (8, .int y.2.1), (11, .long y.2.2)] [] g) → (∀ y, x = (.inr (.inr (.inr (.inl y)))) → ob_Ev C 235 [(4, .long y)] [] g) → (∀ y, x = (.inr (.inr (.inr (.inr y)))) → ob_Ev C 338 [(4, .long y)] [] g) → ob_Ev C 22 [(0, ob_rv C n0), (1, .int x1), (2, .int x2), (3, .int x3), (4, .long y4), (6, .int x6), (7, .int x7), (8, .int x8)] [] g) (h : B_X12_gains_261 rec g n0 x1 x2 x3 y4 x6 x7 x8 x13 s0 = some x) (k0 : (∀ y, x = (.inl y) → ob_Ev C 96 [(0, ob_rv C n0), (1, .int x1), (4, .long y)] [] g)) (k1 : (∀ y, x = (.inr (.inl y)) → ob_Ev C 169 [(0, ob_rv C n0), (4, .long y.1), (8, .int y.2.1), (11, .long y.2.2)] [] g)) (k2 : (∀ y, x = (.inr (.inr (.inl y))) → ob_Ev C 189 [(0, ob_rv C n0), (1, .int x1), (4, .long y.1), (8, .int y.2.1), (11, .long y.2.2)] [] g)) (k3 : (∀ y, x = (.inr (.inr (.inr (.inl y)))) → ob_Ev C 235 [(4, .long y)] [] g)) (k4 : (∀ y, x = (.inr (.inr (.inr (.inr y)))) → ob_Ev C 338 [(4, .long y)] [] g)) : ob_Ev C 261 [(0, ob_rv C n0), (1, .int x1), (2, .int x2), (3, .int x3), (4, .long y4), (6, .int x6), (7, .int x7), (8, .int x8), (13, .int x13)] [.int s0] g := by
  unfold B_X12_gains_261 at h
  refine ob_rload_n F 0 dX12_gains_261 rfl ?_
  refine ob_getR F dX12_gains_262 fl_X12_13 h fun v13 h => ?_
  refine ob_iconst F (v := 3) dX12_gains_265 (by decide) ?_
  refine ob_iload F 7 dX12_gains_266 rfl ?_
  refine ob_iadd F dX12_gains_268 ?_
  refine ob_iconst F (v := 1) dX12_gains_269 (by decide) ?_
  refine ob_iadd F dX12_gains_270 ?_
  refine ob_iald F dX12_gains_271 h fun v14 h => ?_
  refine ob_isub F dX12_gains_272 ?_
  refine ob_istore F (ls2 := [(14, .int (s0 - v14)), (0, ob_rv C n0), (1, .int x1), (2, .int x2), (3, .int x3), (4, .long y4), (6, .int x6), (7, .int x7), (8, .int x8), (13, .int x13)]) dX12_gains_273 (by decide) rfl ?_
  refine ob_lload F 5 dX12_gains_275 rfl ?_
  refine ob_rload_n F 1 dX12_gains_277 rfl ?_
  refine ob_iload F 6 dX12_gains_278 rfl ?_
  refine ob_if_eq F 290 dX12_gains_280 (by decide) h (fun h => ?_) (fun h => ?_)
  · refine ob_rload_n F 1 dX12_gains_290 rfl ?_
    refine ob_getR F dX12_gains_291 fl_X12_40 h fun v15 h => ?_
    exact ob_sub [1, 2, 3, 4, 6, 7, 8, 9, 0] rfl (b_X12_gains_294 F hr h k0 k1 k2 k3 k4)
  · refine ob_rload_n F 1 dX12_gains_283 rfl ?_
    refine ob_getR F dX12_gains_284 fl_X12_44 h fun v20 h => ?_
    refine ob_goto F 294 dX12_gains_287 (by decide) ?_
    exact ob_sub [1, 2, 3, 4, 6, 7, 8, 9, 0] rfl (b_X12_gains_294 F hr h k0 k1 k2 k3 k4)
def B_X12_gains_183 (rec : Int64 → Int32 → Int32 → Int32 → Option ((Int64) ⊕ ((Int64 × Int32 × Int64) ⊕ ((Int64 × Int32 × Int64) ⊕ ((Int64) ⊕ (Int64)))))) (g : ob_St) (n0 : Nat) (x1 : Int32) (x2 : Int32) (x3 : Int32) (y4 : Int64) (x6 : Int32) (x7 : Int32) (x8 : Int32) (x10 : Int32) (y11 : Int64) : Option ((Int64) ⊕ ((Int64 × Int32 × Int64) ⊕ ((Int64 × Int32 × Int64) ⊕ ((Int64) ⊕ (Int64))))) :=
  (if x10 = 4 then (some (.inr (.inr (.inl (y4, x8, y11))))) else ((ob_gR 12 n0 1).bind fun v10 => (ob_rI g 14 v10 2).bind fun v11 => (if x8 = v11 then (some (.inr (.inr (.inr (.inl y4))))) else ((f_X12_bitOf x2 x8).bind fun v12 => (if v12 = 0 then (B_X12_gains_261 rec g n0 x1 x2 x3 y4 x6 x7 x8 v12 0) else ((ob_gR 12 n0 1).bind fun v21 => (ob_rI g 14 v21 1).bind fun v22 => B_X12_gains_261 rec g n0 x1 x2 x3 y4 x6 x7 x8 v12 v22))))))
theorem b_X12_gains_183 {C : ob_Cx} {rec : Int64 → Int32 → Int32 → Int32 → Option ((Int64) ⊕ ((Int64 × Int32 × Int64) ⊕ ((Int64 × Int32 × Int64) ⊕ ((Int64) ⊕ (Int64)))))} (F : ob_Fx C cX12_gains 15 RX12 (some .long) 3 72) {g : ob_St} {n0 : Nat} {x1 : Int32} {x2 : Int32} {x3 : Int32} {y4 : Int64} {x6 : Int32} {x7 : Int32} {x8 : Int32} {x10 : Int32} {y11 : Int64} {x : ((Int64) ⊕ ((Int64 × Int32 × Int64) ⊕ ((Int64 × Int32 × Int64) ⊕ ((Int64) ⊕ (Int64)))))} (hr : ∀ {y4 : Int64} {x6 : Int32} {x7 : Int32} {x8 : Int32} {x : ((Int64) ⊕ ((Int64 × Int32 × Int64) ⊕ ((Int64 × Int32 × Int64) ⊕ ((Int64) ⊕ (Int64)))))}, rec y4 x6 x7 x8 = some x → (∀ y, x = (.inl y) → ob_Ev C 96 [(0, ob_rv C n0), (1, .int x1), (4, .long y)] [] g) → (∀ y, x = (.inr (.inl y)) → ob_Ev C 169 [(0, ob_rv C n0), (4, .long y.1), (8, .int y.2.1), (11, .long y.2.2)] [] g) → (∀ y, x = (.inr (.inr (.inl y))) → ob_Ev C 189 [(0, ob_rv C n0), (1, .int x1), (4, .long y.1), (8, .int y.2.1), (11, .long y.2.2)] [] g) → (∀ y, x = (.inr (.inr (.inr (.inl y)))) → ob_Ev C 235 [(4, .long y)] [] g) → (∀ y, x = (.inr (.inr (.inr (.inr y)))) → ob_Ev C 338 [(4, .long y)] [] g) → ob_Ev C 22 [(0, ob_rv C n0), (1, .int x1), (2, .int x2), (3, .int x3), (4, .long y4), (6, .int x6), (7, .int x7), (8, .int x8)] [] g) (h : B_X12_gains_183 rec g n0 x1 x2 x3 y4 x6 x7 x8 x10 y11 = some x) (k0 : (∀ y, x = (.inl y) → ob_Ev C 96 [(0, ob_rv C n0), (1, .int x1), (4, .long y)] [] g)) (k1 : (∀ y, x = (.inr (.inl y)) → ob_Ev C 169 [(0, ob_rv C n0), (4, .long y.1), (8, .int y.2.1), (11, .long y.2.2)] [] g)) (k2 : (∀ y, x = (.inr (.inr (.inl y))) → ob_Ev C 189 [(0, ob_rv C n0), (1, .int x1), (4, .long y.1), (8, .int y.2.1), (11, .long y.2.2)] [] g)) (k3 : (∀ y, x = (.inr (.inr (.inr (.inl y)))) → ob_Ev C 235 [(4, .long y)] [] g)) (k4 : (∀ y, x = (.inr (.inr (.inr (.inr y)))) → ob_Ev C 338 [(4, .long y)] [] g)) : ob_Ev C 183 [(0, ob_rv C n0), (1, .int x1), (2, .int x2), (3, .int x3), (4, .long y4), (6, .int x6), (7, .int x7), (8, .int x8), (10, .int x10), (11, .long y11)] [] g := by
  unfold B_X12_gains_183 at h
  refine ob_iload F 8 dX12_gains_183 rfl ?_
  refine ob_iconst F (v := 4) dX12_gains_185 (by decide) ?_
  refine ob_icmp_ne F 224 dX12_gains_186 (by decide) h (fun h => ?_) (fun h => ?_)
  · refine ob_iload F 7 dX12_gains_224 rfl ?_
    refine ob_rload_n F 0 dX12_gains_226 rfl ?_
    refine ob_getR F dX12_gains_227 fl_X12_13 h fun v10 h => ?_
    refine ob_iconst F (v := 2) dX12_gains_230 (by decide) ?_
    refine ob_iald F dX12_gains_231 h fun v11 h => ?_
    refine ob_icmp_ne F 238 dX12_gains_232 (by decide) h (fun h => ?_) (fun h => ?_)
    · refine ob_iload_n F 2 dX12_gains_238 rfl ?_
      refine ob_iload F 7 dX12_gains_239 rfl ?_
      refine ob_cSi F dX12_gains_241 im_X12_bitOf tw7_64 h (fun b hb => t_X12_bitOf hb) rfl rfl (Nat.le_of_ble_eq_true rfl) (by decide) fun v12 h => ?_
      refine ob_istore F (ls2 := [(13, .int v12), (0, ob_rv C n0), (1, .int x1), (2, .int x2), (3, .int x3), (4, .long y4), (6, .int x6), (7, .int x7), (8, .int x8), (10, .int x10), (11, .long y11)]) dX12_gains_244 (by decide) rfl ?_
      refine ob_iload F 0 dX12_gains_246 rfl ?_
      refine ob_if_eq F 260 dX12_gains_248 (by decide) h (fun h => ?_) (fun h => ?_)
      · refine ob_iconst F (v := 0) dX12_gains_260 (by decide) ?_
        exact ob_sub [1, 2, 3, 4, 5, 6, 7, 8, 0] rfl (b_X12_gains_261 F hr h k0 k1 k2 k3 k4)
      · refine ob_rload_n F 1 dX12_gains_251 rfl ?_
        refine ob_getR F dX12_gains_252 fl_X12_13 h fun v21 h => ?_
        refine ob_iconst F (v := 1) dX12_gains_255 (by decide) ?_
        refine ob_iald F dX12_gains_256 h fun v22 h => ?_
        refine ob_goto F 261 dX12_gains_257 (by decide) ?_
        exact ob_sub [1, 2, 3, 4, 5, 6, 7, 8, 0] rfl (b_X12_gains_261 F hr h k0 k1 k2 k3 k4)
    · obtain rfl := Option.some.inj h
      exact ob_sub [4] rfl (k3 _ rfl)
  · obtain rfl := Option.some.inj h
    exact ob_sub [0, 1, 4, 7, 9] rfl (k2 _ rfl)
def B_X12_gains_152 (rec : Int64 → Int32 → Int32 → Int32 → Option ((Int64) ⊕ ((Int64 × Int32 × Int64) ⊕ ((Int64 × Int32 × Int64) ⊕ ((Int64) ⊕ (Int64)))))) (g : ob_St) (n0 : Nat) (x1 : Int32) (x2 : Int32) (x3 : Int32) (y4 : Int64) (x6 : Int32) (x7 : Int32) (x8 : Int32) (x10 : Int32) (y11 : Int64) : Option ((Int64) ⊕ ((Int64 × Int32 × Int64) ⊕ ((Int64 × Int32 × Int64) ⊕ ((Int64) ⊕ (Int64))))) :=
  (ob_ck 12 n0 (f_X12_may g n0 x1 x8)).bind fun v23 => (if v23 = 0 then (B_X12_gains_183 rec g n0 x1 x2 x3 y4 x6 x7 x8 x10 y11) else ((if y11 ≤ 0 then (B_X12_gains_183 rec g n0 x1 x2 x3 y4 x6 x7 x8 x10 y11) else (some (.inr (.inl (y4, x8, y11)))))))
theorem b_X12_gains_152 {C : ob_Cx} {rec : Int64 → Int32 → Int32 → Int32 → Option ((Int64) ⊕ ((Int64 × Int32 × Int64) ⊕ ((Int64 × Int32 × Int64) ⊕ ((Int64) ⊕ (Int64)))))} (F : ob_Fx C cX12_gains 15 RX12 (some .long) 3 72) {g : ob_St} {n0 : Nat} {x1 : Int32} {x2 : Int32} {x3 : Int32} {y4 : Int64} {x6 : Int32} {x7 : Int32} {x8 : Int32} {x10 : Int32} {y11 : Int64} {x : ((Int64) ⊕ ((Int64 × Int32 × Int64) ⊕ ((Int64 × Int32 × Int64) ⊕ ((Int64) ⊕ (Int64)))))} (hr : ∀ {y4 : Int64} {x6 : Int32} {x7 : Int32} {x8 : Int32} {x : ((Int64) ⊕ ((Int64 × Int32 × Int64) ⊕ ((Int64 × Int32 × Int64) ⊕ ((Int64) ⊕ (Int64)))))}, rec y4 x6 x7 x8 = some x → (∀ y, x = (.inl y) → ob_Ev C 96 [(0, ob_rv C n0), (1, .int x1), (4, .long y)] [] g) → (∀ y, x = (.inr (.inl y)) → ob_Ev C 169 [(0, ob_rv C n0), (4, .long y.1), (8, .int y.2.1), (11, .long y.2.2)] [] g) → (∀ y, x = (.inr (.inr (.inl y))) → ob_Ev C 189 [(0, ob_rv C n0), (1, .int x1), (4, .long y.1), (8, .int y.2.1), (11, .long y.2.2)] [] g) → (∀ y, x = (.inr (.inr (.inr (.inl y)))) → ob_Ev C 235 [(4, .long y)] [] g) → (∀ y, x = (.inr (.inr (.inr (.inr y)))) → ob_Ev C 338 [(4, .long y)] [] g) → ob_Ev C 22 [(0, ob_rv C n0), (1, .int x1), (2, .int x2), (3, .int x3), (4, .long y4), (6, .int x6), (7, .int x7), (8, .int x8)] [] g) (h : B_X12_gains_152 rec g n0 x1 x2 x3 y4 x6 x7 x8 x10 y11 = some x) (k0 : (∀ y, x = (.inl y) → ob_Ev C 96 [(0, ob_rv C n0), (1, .int x1), (4, .long y)] [] g)) (k1 : (∀ y, x = (.inr (.inl y)) → ob_Ev C 169 [(0, ob_rv C n0), (4, .long y.1), (8, .int y.2.1), (11, .long y.2.2)] [] g)) (k2 : (∀ y, x = (.inr (.inr (.inl y))) → ob_Ev C 189 [(0, ob_rv C n0), (1, .int x1), (4, .long y.1), (8, .int y.2.1), (11, .long y.2.2)] [] g)) (k3 : (∀ y, x = (.inr (.inr (.inr (.inl y)))) → ob_Ev C 235 [(4, .long y)] [] g)) (k4 : (∀ y, x = (.inr (.inr (.inr (.inr y)))) → ob_Ev C 338 [(4, .long y)] [] g)) : ob_Ev C 152 [(0, ob_rv C n0), (1, .int x1), (2, .int x2), (3, .int x3), (4, .long y4), (6, .int x6), (7, .int x7), (8, .int x8), (10, .int x10), (11, .long y11)] [] g := by
  unfold B_X12_gains_152 at h
  refine ob_rload_n F 0 dX12_gains_152 rfl ?_
  refine ob_iload_n F 1 dX12_gains_153 rfl ?_
  refine ob_iload F 7 dX12_gains_154 rfl ?_
  refine ob_cVi F dX12_gains_156 im_X12_may tw6_223 h (fun b hb => t_X12_may hb) rfl rfl (Nat.le_of_ble_eq_true rfl) (by decide) fun v23 h => ?_
  refine ob_if_eq F 183 dX12_gains_159 (by decide) h (fun h => ?_) (fun h => ?_)
  · exact b_X12_gains_183 F hr h k0 k1 k2 k3 k4
  · refine ob_lload F 9 dX12_gains_162 rfl ?_
    refine ob_lconst F (v := 0) dX12_gains_164 (by decide) ?_
    refine ob_lcmp_le F 183 dX12_gains_165 dX12_gains_166 (by decide) h (fun h => ?_) (fun h => ?_)
    · exact b_X12_gains_183 F hr h k0 k1 k2 k3 k4
    · obtain rfl := Option.some.inj h
      exact ob_sub [0, 4, 7, 9] rfl (k1 _ rfl)
def B_X12_gains_88 (rec : Int64 → Int32 → Int32 → Int32 → Option ((Int64) ⊕ ((Int64 × Int32 × Int64) ⊕ ((Int64 × Int32 × Int64) ⊕ ((Int64) ⊕ (Int64)))))) (g : ob_St) (n0 : Nat) (x1 : Int32) (x2 : Int32) (x3 : Int32) (y4 : Int64) (x6 : Int32) (x7 : Int32) (x8 : Int32) (s0 : Int32) : Option ((Int64) ⊕ ((Int64 × Int32 × Int64) ⊕ ((Int64 × Int32 × Int64) ⊕ ((Int64) ⊕ (Int64))))) :=
  (if s0 = 2 then (some (.inl y4)) else ((ob_ck 12 n0 (f_X12_paysAt g n0 x1 x8 x7)).bind fun v9 => (if x8 = x3 then ((if x6 = 0 then ((ob_ck 12 n0 (f_X12_get g n0 x1 4)).bind fun v24 => (if v24 = 2 then (B_X12_gains_183 rec g n0 x1 x2 x3 y4 x6 x7 x8 s0 v9) else (B_X12_gains_152 rec g n0 x1 x2 x3 y4 x6 x7 x8 s0 v9))) else (B_X12_gains_152 rec g n0 x1 x2 x3 y4 x6 x7 x8 s0 v9))) else (B_X12_gains_183 rec g n0 x1 x2 x3 y4 x6 x7 x8 s0 v9))))
theorem b_X12_gains_88 {C : ob_Cx} {rec : Int64 → Int32 → Int32 → Int32 → Option ((Int64) ⊕ ((Int64 × Int32 × Int64) ⊕ ((Int64 × Int32 × Int64) ⊕ ((Int64) ⊕ (Int64)))))} (F : ob_Fx C cX12_gains 15 RX12 (some .long) 3 72) {g : ob_St} {n0 : Nat} {x1 : Int32} {x2 : Int32} {x3 : Int32} {y4 : Int64} {x6 : Int32} {x7 : Int32} {x8 : Int32} {s0 : Int32} {x : ((Int64) ⊕ ((Int64 × Int32 × Int64) ⊕ ((Int64 × Int32 × Int64) ⊕ ((Int64) ⊕ (Int64)))))} (hr : ∀ {y4 : Int64} {x6 : Int32} {x7 : Int32} {x8 : Int32} {x : ((Int64) ⊕ ((Int64 × Int32 × Int64) ⊕ ((Int64 × Int32 × Int64) ⊕ ((Int64) ⊕ (Int64)))))}, rec y4 x6 x7 x8 = some x → (∀ y, x = (.inl y) → ob_Ev C 96 [(0, ob_rv C n0), (1, .int x1), (4, .long y)] [] g) → (∀ y, x = (.inr (.inl y)) → ob_Ev C 169 [(0, ob_rv C n0), (4, .long y.1), (8, .int y.2.1), (11, .long y.2.2)] [] g) → (∀ y, x = (.inr (.inr (.inl y))) → ob_Ev C 189 [(0, ob_rv C n0), (1, .int x1), (4, .long y.1), (8, .int y.2.1), (11, .long y.2.2)] [] g) → (∀ y, x = (.inr (.inr (.inr (.inl y)))) → ob_Ev C 235 [(4, .long y)] [] g) → (∀ y, x = (.inr (.inr (.inr (.inr y)))) → ob_Ev C 338 [(4, .long y)] [] g) → ob_Ev C 22 [(0, ob_rv C n0), (1, .int x1), (2, .int x2), (3, .int x3), (4, .long y4), (6, .int x6), (7, .int x7), (8, .int x8)] [] g) (h : B_X12_gains_88 rec g n0 x1 x2 x3 y4 x6 x7 x8 s0 = some x) (k0 : (∀ y, x = (.inl y) → ob_Ev C 96 [(0, ob_rv C n0), (1, .int x1), (4, .long y)] [] g)) (k1 : (∀ y, x = (.inr (.inl y)) → ob_Ev C 169 [(0, ob_rv C n0), (4, .long y.1), (8, .int y.2.1), (11, .long y.2.2)] [] g)) (k2 : (∀ y, x = (.inr (.inr (.inl y))) → ob_Ev C 189 [(0, ob_rv C n0), (1, .int x1), (4, .long y.1), (8, .int y.2.1), (11, .long y.2.2)] [] g)) (k3 : (∀ y, x = (.inr (.inr (.inr (.inl y)))) → ob_Ev C 235 [(4, .long y)] [] g)) (k4 : (∀ y, x = (.inr (.inr (.inr (.inr y)))) → ob_Ev C 338 [(4, .long y)] [] g)) : ob_Ev C 88 [(0, ob_rv C n0), (1, .int x1), (2, .int x2), (3, .int x3), (4, .long y4), (6, .int x6), (7, .int x7), (8, .int x8)] [.int s0] g := by
  unfold B_X12_gains_88 at h
  refine ob_istore F (ls2 := [(10, .int s0), (0, ob_rv C n0), (1, .int x1), (2, .int x2), (3, .int x3), (4, .long y4), (6, .int x6), (7, .int x7), (8, .int x8)]) dX12_gains_88 (by decide) rfl ?_
  refine ob_iload F 0 dX12_gains_90 rfl ?_
  refine ob_iconst F (v := 2) dX12_gains_92 (by decide) ?_
  refine ob_icmp_ne F 120 dX12_gains_93 (by decide) h (fun h => ?_) (fun h => ?_)
  · refine ob_rload_n F 1 dX12_gains_120 rfl ?_
    refine ob_iload_n F 2 dX12_gains_121 rfl ?_
    refine ob_iload F 8 dX12_gains_122 rfl ?_
    refine ob_iload F 7 dX12_gains_124 rfl ?_
    refine ob_cVl F dX12_gains_126 im_X12_paysAt tw6_212 h (fun b hb => t_X12_paysAt hb) rfl rfl (Nat.le_of_ble_eq_true rfl) (by decide) fun v9 h => ?_
    refine ob_lstore F (ls2 := [(11, .long v9), (10, .int s0), (0, ob_rv C n0), (1, .int x1), (2, .int x2), (3, .int x3), (4, .long y4), (6, .int x6), (7, .int x7), (8, .int x8)]) dX12_gains_129 (by decide) rfl ?_
    refine ob_iload F 9 dX12_gains_131 rfl ?_
    refine ob_iload_n F 5 dX12_gains_133 rfl ?_
    refine ob_icmp_ne F 183 dX12_gains_134 (by decide) h (fun h => ?_) (fun h => ?_)
    · exact ob_sub [2, 3, 4, 5, 6, 7, 8, 9, 1, 0] rfl (b_X12_gains_183 F hr h k0 k1 k2 k3 k4)
    · refine ob_iload F 7 dX12_gains_137 rfl ?_
      refine ob_if_ne F 152 dX12_gains_139 (by decide) h (fun h => ?_) (fun h => ?_)
      · exact ob_sub [2, 3, 4, 5, 6, 7, 8, 9, 1, 0] rfl (b_X12_gains_152 F hr h k0 k1 k2 k3 k4)
      · refine ob_rload_n F 2 dX12_gains_142 rfl ?_
        refine ob_iload_n F 3 dX12_gains_143 rfl ?_
        refine ob_iconst F (v := 4) dX12_gains_144 (by decide) ?_
        refine ob_cVi F dX12_gains_145 im_X12_get tw6_154 h (fun b hb => t_X12_get hb) rfl rfl (Nat.le_of_ble_eq_true rfl) (by decide) fun v24 h => ?_
        refine ob_iconst F (v := 2) dX12_gains_148 (by decide) ?_
        refine ob_icmp_eq F 183 dX12_gains_149 (by decide) h (fun h => ?_) (fun h => ?_)
        · exact ob_sub [2, 3, 4, 5, 6, 7, 8, 9, 1, 0] rfl (b_X12_gains_183 F hr h k0 k1 k2 k3 k4)
        · exact ob_sub [2, 3, 4, 5, 6, 7, 8, 9, 1, 0] rfl (b_X12_gains_152 F hr h k0 k1 k2 k3 k4)
  · obtain rfl := Option.some.inj h
    exact ob_sub [1, 2, 5] rfl (k0 _ rfl)
def B_X12_gains_64 (rec : Int64 → Int32 → Int32 → Int32 → Option ((Int64) ⊕ ((Int64 × Int32 × Int64) ⊕ ((Int64 × Int32 × Int64) ⊕ ((Int64) ⊕ (Int64)))))) (g : ob_St) (n0 : Nat) (x1 : Int32) (x2 : Int32) (x3 : Int32) (y4 : Int64) (x7 : Int32) (x8 : Int32) (x9 : Int32) (s0 : Int32) : Option ((Int64) ⊕ ((Int64 × Int32 × Int64) ⊕ ((Int64 × Int32 × Int64) ⊕ ((Int64) ⊕ (Int64))))) :=
  (if s0 = 0 then ((ob_gR 12 n0 23).bind fun v7 => (ob_rI g 13 v7 x9).bind fun v8 => B_X12_gains_88 rec g n0 x1 x2 x3 y4 s0 x7 x8 v8) else ((ob_gR 12 n0 24).bind fun v25 => (ob_rI g 13 v25 x9).bind fun v26 => B_X12_gains_88 rec g n0 x1 x2 x3 y4 s0 x7 x8 v26))
theorem b_X12_gains_64 {C : ob_Cx} {rec : Int64 → Int32 → Int32 → Int32 → Option ((Int64) ⊕ ((Int64 × Int32 × Int64) ⊕ ((Int64 × Int32 × Int64) ⊕ ((Int64) ⊕ (Int64)))))} (F : ob_Fx C cX12_gains 15 RX12 (some .long) 3 72) {g : ob_St} {n0 : Nat} {x1 : Int32} {x2 : Int32} {x3 : Int32} {y4 : Int64} {x7 : Int32} {x8 : Int32} {x9 : Int32} {s0 : Int32} {x : ((Int64) ⊕ ((Int64 × Int32 × Int64) ⊕ ((Int64 × Int32 × Int64) ⊕ ((Int64) ⊕ (Int64)))))} (hr : ∀ {y4 : Int64} {x6 : Int32} {x7 : Int32} {x8 : Int32} {x : ((Int64) ⊕ ((Int64 × Int32 × Int64) ⊕ ((Int64 × Int32 × Int64) ⊕ ((Int64) ⊕ (Int64)))))}, rec y4 x6 x7 x8 = some x → (∀ y, x = (.inl y) → ob_Ev C 96 [(0, ob_rv C n0), (1, .int x1), (4, .long y)] [] g) → (∀ y, x = (.inr (.inl y)) → ob_Ev C 169 [(0, ob_rv C n0), (4, .long y.1), (8, .int y.2.1), (11, .long y.2.2)] [] g) → (∀ y, x = (.inr (.inr (.inl y))) → ob_Ev C 189 [(0, ob_rv C n0), (1, .int x1), (4, .long y.1), (8, .int y.2.1), (11, .long y.2.2)] [] g) → (∀ y, x = (.inr (.inr (.inr (.inl y)))) → ob_Ev C 235 [(4, .long y)] [] g) → (∀ y, x = (.inr (.inr (.inr (.inr y)))) → ob_Ev C 338 [(4, .long y)] [] g) → ob_Ev C 22 [(0, ob_rv C n0), (1, .int x1), (2, .int x2), (3, .int x3), (4, .long y4), (6, .int x6), (7, .int x7), (8, .int x8)] [] g) (h : B_X12_gains_64 rec g n0 x1 x2 x3 y4 x7 x8 x9 s0 = some x) (k0 : (∀ y, x = (.inl y) → ob_Ev C 96 [(0, ob_rv C n0), (1, .int x1), (4, .long y)] [] g)) (k1 : (∀ y, x = (.inr (.inl y)) → ob_Ev C 169 [(0, ob_rv C n0), (4, .long y.1), (8, .int y.2.1), (11, .long y.2.2)] [] g)) (k2 : (∀ y, x = (.inr (.inr (.inl y))) → ob_Ev C 189 [(0, ob_rv C n0), (1, .int x1), (4, .long y.1), (8, .int y.2.1), (11, .long y.2.2)] [] g)) (k3 : (∀ y, x = (.inr (.inr (.inr (.inl y)))) → ob_Ev C 235 [(4, .long y)] [] g)) (k4 : (∀ y, x = (.inr (.inr (.inr (.inr y)))) → ob_Ev C 338 [(4, .long y)] [] g)) : ob_Ev C 64 [(0, ob_rv C n0), (1, .int x1), (2, .int x2), (3, .int x3), (4, .long y4), (7, .int x7), (8, .int x8), (9, .int x9)] [.int s0] g := by
  unfold B_X12_gains_64 at h
  refine ob_istore F (ls2 := [(6, .int s0), (0, ob_rv C n0), (1, .int x1), (2, .int x2), (3, .int x3), (4, .long y4), (7, .int x7), (8, .int x8), (9, .int x9)]) dX12_gains_64 (by decide) rfl ?_
  refine ob_iload F 0 dX12_gains_66 rfl ?_
  refine ob_if_eq F 81 dX12_gains_68 (by decide) h (fun h => ?_) (fun h => ?_)
  · refine ob_rload_n F 1 dX12_gains_81 rfl ?_
    refine ob_getR F dX12_gains_82 fl_X12_50 h fun v7 h => ?_
    refine ob_iload F 8 dX12_gains_85 rfl ?_
    refine ob_bald F dX12_gains_87 h fun v8 h => ?_
    exact ob_sub [1, 2, 3, 4, 5, 0, 6, 7] rfl (b_X12_gains_88 F hr h k0 k1 k2 k3 k4)
  · refine ob_rload_n F 1 dX12_gains_71 rfl ?_
    refine ob_getR F dX12_gains_72 fl_X12_53 h fun v25 h => ?_
    refine ob_iload F 8 dX12_gains_75 rfl ?_
    refine ob_bald F dX12_gains_77 h fun v26 h => ?_
    refine ob_goto F 88 dX12_gains_78 (by decide) ?_
    exact ob_sub [1, 2, 3, 4, 5, 0, 6, 7] rfl (b_X12_gains_88 F hr h k0 k1 k2 k3 k4)
def B_X12_gains_59 (rec : Int64 → Int32 → Int32 → Int32 → Option ((Int64) ⊕ ((Int64 × Int32 × Int64) ⊕ ((Int64 × Int32 × Int64) ⊕ ((Int64) ⊕ (Int64)))))) (g : ob_St) (n0 : Nat) (x1 : Int32) (x2 : Int32) (x3 : Int32) (y4 : Int64) (x7 : Int32) (x8 : Int32) (x9 : Int32) : Option ((Int64) ⊕ ((Int64 × Int32 × Int64) ⊕ ((Int64 × Int32 × Int64) ⊕ ((Int64) ⊕ (Int64))))) :=
  B_X12_gains_64 rec g n0 x1 x2 x3 y4 x7 x8 x9 1
theorem b_X12_gains_59 {C : ob_Cx} {rec : Int64 → Int32 → Int32 → Int32 → Option ((Int64) ⊕ ((Int64 × Int32 × Int64) ⊕ ((Int64 × Int32 × Int64) ⊕ ((Int64) ⊕ (Int64)))))} (F : ob_Fx C cX12_gains 15 RX12 (some .long) 3 72) {g : ob_St} {n0 : Nat} {x1 : Int32} {x2 : Int32} {x3 : Int32} {y4 : Int64} {x7 : Int32} {x8 : Int32} {x9 : Int32} {x : ((Int64) ⊕ ((Int64 × Int32 × Int64) ⊕ ((Int64 × Int32 × Int64) ⊕ ((Int64) ⊕ (Int64)))))} (hr : ∀ {y4 : Int64} {x6 : Int32} {x7 : Int32} {x8 : Int32} {x : ((Int64) ⊕ ((Int64 × Int32 × Int64) ⊕ ((Int64 × Int32 × Int64) ⊕ ((Int64) ⊕ (Int64)))))}, rec y4 x6 x7 x8 = some x → (∀ y, x = (.inl y) → ob_Ev C 96 [(0, ob_rv C n0), (1, .int x1), (4, .long y)] [] g) → (∀ y, x = (.inr (.inl y)) → ob_Ev C 169 [(0, ob_rv C n0), (4, .long y.1), (8, .int y.2.1), (11, .long y.2.2)] [] g) → (∀ y, x = (.inr (.inr (.inl y))) → ob_Ev C 189 [(0, ob_rv C n0), (1, .int x1), (4, .long y.1), (8, .int y.2.1), (11, .long y.2.2)] [] g) → (∀ y, x = (.inr (.inr (.inr (.inl y)))) → ob_Ev C 235 [(4, .long y)] [] g) → (∀ y, x = (.inr (.inr (.inr (.inr y)))) → ob_Ev C 338 [(4, .long y)] [] g) → ob_Ev C 22 [(0, ob_rv C n0), (1, .int x1), (2, .int x2), (3, .int x3), (4, .long y4), (6, .int x6), (7, .int x7), (8, .int x8)] [] g) (h : B_X12_gains_59 rec g n0 x1 x2 x3 y4 x7 x8 x9 = some x) (k0 : (∀ y, x = (.inl y) → ob_Ev C 96 [(0, ob_rv C n0), (1, .int x1), (4, .long y)] [] g)) (k1 : (∀ y, x = (.inr (.inl y)) → ob_Ev C 169 [(0, ob_rv C n0), (4, .long y.1), (8, .int y.2.1), (11, .long y.2.2)] [] g)) (k2 : (∀ y, x = (.inr (.inr (.inl y))) → ob_Ev C 189 [(0, ob_rv C n0), (1, .int x1), (4, .long y.1), (8, .int y.2.1), (11, .long y.2.2)] [] g)) (k3 : (∀ y, x = (.inr (.inr (.inr (.inl y)))) → ob_Ev C 235 [(4, .long y)] [] g)) (k4 : (∀ y, x = (.inr (.inr (.inr (.inr y)))) → ob_Ev C 338 [(4, .long y)] [] g)) : ob_Ev C 59 [(0, ob_rv C n0), (1, .int x1), (2, .int x2), (3, .int x3), (4, .long y4), (7, .int x7), (8, .int x8), (9, .int x9)] [] g := by
  unfold B_X12_gains_59 at h
  refine ob_iconst F (v := 1) dX12_gains_59 (by decide) ?_
  refine ob_goto F 64 dX12_gains_60 (by decide) ?_
  exact b_X12_gains_64 F hr h k0 k1 k2 k3 k4
def Lb_X12_gains_22 (rec : Int64 → Int32 → Int32 → Int32 → Option ((Int64) ⊕ ((Int64 × Int32 × Int64) ⊕ ((Int64 × Int32 × Int64) ⊕ ((Int64) ⊕ (Int64)))))) (g : ob_St) (n0 : Nat) (x1 : Int32) (x2 : Int32) (x3 : Int32) (y4 : Int64) (x6 : Int32) (x7 : Int32) (x8 : Int32) : Option ((Int64) ⊕ ((Int64 × Int32 × Int64) ⊕ ((Int64 × Int32 × Int64) ⊕ ((Int64) ⊕ (Int64))))) :=
  (ob_gR 12 n0 1).bind fun v4 => (ob_rI g 14 v4 2).bind fun v5 => (if v5 < x8 then (some (.inr (.inr (.inr (.inr y4))))) else ((f_X12_cell x1 x8 x7).bind fun v6 => (if x6 = 0 then ((ob_gR 12 n0 23).bind fun v27 => (ob_rI g 13 v27 v6).bind fun v28 => (if v28 = 3 then (B_X12_gains_59 rec g n0 x1 x2 x3 y4 x7 x8 v6) else (B_X12_gains_64 rec g n0 x1 x2 x3 y4 x7 x8 v6 0))) else (B_X12_gains_59 rec g n0 x1 x2 x3 y4 x7 x8 v6))))
def L_X12_gains_22 (g : ob_St) (n0 : Nat) (x1 : Int32) (x2 : Int32) (x3 : Int32) : Nat → Int64 → Int32 → Int32 → Int32 → Option ((Int64) ⊕ ((Int64 × Int32 × Int64) ⊕ ((Int64 × Int32 × Int64) ⊕ ((Int64) ⊕ (Int64)))))
  | 0, _, _, _, _ => none
  | n + 1, y4, x6, x7, x8 => Lb_X12_gains_22 (L_X12_gains_22 g n0 x1 x2 x3 n) g n0 x1 x2 x3 y4 x6 x7 x8
theorem lb_X12_gains_22 {C : ob_Cx} {rec : Int64 → Int32 → Int32 → Int32 → Option ((Int64) ⊕ ((Int64 × Int32 × Int64) ⊕ ((Int64 × Int32 × Int64) ⊕ ((Int64) ⊕ (Int64)))))} (F : ob_Fx C cX12_gains 15 RX12 (some .long) 3 72) {g : ob_St} {n0 : Nat} {x1 : Int32} {x2 : Int32} {x3 : Int32} {y4 : Int64} {x6 : Int32} {x7 : Int32} {x8 : Int32} {x : ((Int64) ⊕ ((Int64 × Int32 × Int64) ⊕ ((Int64 × Int32 × Int64) ⊕ ((Int64) ⊕ (Int64)))))} (hr : ∀ {y4 : Int64} {x6 : Int32} {x7 : Int32} {x8 : Int32} {x : ((Int64) ⊕ ((Int64 × Int32 × Int64) ⊕ ((Int64 × Int32 × Int64) ⊕ ((Int64) ⊕ (Int64)))))}, rec y4 x6 x7 x8 = some x → (∀ y, x = (.inl y) → ob_Ev C 96 [(0, ob_rv C n0), (1, .int x1), (4, .long y)] [] g) → (∀ y, x = (.inr (.inl y)) → ob_Ev C 169 [(0, ob_rv C n0), (4, .long y.1), (8, .int y.2.1), (11, .long y.2.2)] [] g) → (∀ y, x = (.inr (.inr (.inl y))) → ob_Ev C 189 [(0, ob_rv C n0), (1, .int x1), (4, .long y.1), (8, .int y.2.1), (11, .long y.2.2)] [] g) → (∀ y, x = (.inr (.inr (.inr (.inl y)))) → ob_Ev C 235 [(4, .long y)] [] g) → (∀ y, x = (.inr (.inr (.inr (.inr y)))) → ob_Ev C 338 [(4, .long y)] [] g) → ob_Ev C 22 [(0, ob_rv C n0), (1, .int x1), (2, .int x2), (3, .int x3), (4, .long y4), (6, .int x6), (7, .int x7), (8, .int x8)] [] g) (h : Lb_X12_gains_22 rec g n0 x1 x2 x3 y4 x6 x7 x8 = some x) (k0 : (∀ y, x = (.inl y) → ob_Ev C 96 [(0, ob_rv C n0), (1, .int x1), (4, .long y)] [] g)) (k1 : (∀ y, x = (.inr (.inl y)) → ob_Ev C 169 [(0, ob_rv C n0), (4, .long y.1), (8, .int y.2.1), (11, .long y.2.2)] [] g)) (k2 : (∀ y, x = (.inr (.inr (.inl y))) → ob_Ev C 189 [(0, ob_rv C n0), (1, .int x1), (4, .long y.1), (8, .int y.2.1), (11, .long y.2.2)] [] g)) (k3 : (∀ y, x = (.inr (.inr (.inr (.inl y)))) → ob_Ev C 235 [(4, .long y)] [] g)) (k4 : (∀ y, x = (.inr (.inr (.inr (.inr y)))) → ob_Ev C 338 [(4, .long y)] [] g)) : ob_Ev C 22 [(0, ob_rv C n0), (1, .int x1), (2, .int x2), (3, .int x3), (4, .long y4), (6, .int x6), (7, .int x7), (8, .int x8)] [] g := by
  unfold Lb_X12_gains_22 at h
  refine ob_iload F 7 dX12_gains_22 rfl ?_
  refine ob_rload_n F 0 dX12_gains_24 rfl ?_
  refine ob_getR F dX12_gains_25 fl_X12_13 h fun v4 h => ?_
  refine ob_iconst F (v := 2) dX12_gains_28 (by decide) ?_
  refine ob_iald F dX12_gains_29 h fun v5 h => ?_
  refine ob_icmp_gt F 338 dX12_gains_30 (by decide) h (fun h => ?_) (fun h => ?_)
  · obtain rfl := Option.some.inj h
    exact ob_sub [4] rfl (k4 _ rfl)
  · refine ob_iload_n F 1 dX12_gains_33 rfl ?_
    refine ob_iload F 7 dX12_gains_34 rfl ?_
    refine ob_iload F 6 dX12_gains_36 rfl ?_
    refine ob_cSi F dX12_gains_38 im_X12_cell tw6_209 h (fun b hb => t_X12_cell hb) rfl rfl (Nat.le_of_ble_eq_true rfl) (by decide) fun v6 h => ?_
    refine ob_istore F (ls2 := [(9, .int v6), (0, ob_rv C n0), (1, .int x1), (2, .int x2), (3, .int x3), (4, .long y4), (6, .int x6), (7, .int x7), (8, .int x8)]) dX12_gains_41 (by decide) rfl ?_
    refine ob_iload F 6 dX12_gains_43 rfl ?_
    refine ob_if_ne F 59 dX12_gains_45 (by decide) h (fun h => ?_) (fun h => ?_)
    · exact ob_sub [1, 2, 3, 4, 5, 7, 8, 0] rfl (b_X12_gains_59 F hr h k0 k1 k2 k3 k4)
    · refine ob_rload_n F 1 dX12_gains_48 rfl ?_
      refine ob_getR F dX12_gains_49 fl_X12_50 h fun v27 h => ?_
      refine ob_iload F 0 dX12_gains_52 rfl ?_
      refine ob_bald F dX12_gains_54 h fun v28 h => ?_
      refine ob_iconst F (v := 3) dX12_gains_55 (by decide) ?_
      refine ob_icmp_ne F 63 dX12_gains_56 (by decide) h (fun h => ?_) (fun h => ?_)
      · refine ob_iconst F (v := 0) dX12_gains_63 (by decide) ?_
        exact ob_sub [1, 2, 3, 4, 5, 7, 8, 0] rfl (b_X12_gains_64 F hr h k0 k1 k2 k3 k4)
      · exact ob_sub [1, 2, 3, 4, 5, 7, 8, 0] rfl (b_X12_gains_59 F hr h k0 k1 k2 k3 k4)
theorem l_X12_gains_22 {C : ob_Cx} (F : ob_Fx C cX12_gains 15 RX12 (some .long) 3 72) {g : ob_St} {n0 : Nat} {x1 : Int32} {x2 : Int32} {x3 : Int32} : ∀ (n : Nat) {y4 : Int64} {x6 : Int32} {x7 : Int32} {x8 : Int32} {x : ((Int64) ⊕ ((Int64 × Int32 × Int64) ⊕ ((Int64 × Int32 × Int64) ⊕ ((Int64) ⊕ (Int64)))))}, L_X12_gains_22 g n0 x1 x2 x3 n y4 x6 x7 x8 = some x → (∀ y, x = (.inl y) → ob_Ev C 96 [(0, ob_rv C n0), (1, .int x1), (4, .long y)] [] g) → (∀ y, x = (.inr (.inl y)) → ob_Ev C 169 [(0, ob_rv C n0), (4, .long y.1), (8, .int y.2.1), (11, .long y.2.2)] [] g) → (∀ y, x = (.inr (.inr (.inl y))) → ob_Ev C 189 [(0, ob_rv C n0), (1, .int x1), (4, .long y.1), (8, .int y.2.1), (11, .long y.2.2)] [] g) → (∀ y, x = (.inr (.inr (.inr (.inl y)))) → ob_Ev C 235 [(4, .long y)] [] g) → (∀ y, x = (.inr (.inr (.inr (.inr y)))) → ob_Ev C 338 [(4, .long y)] [] g) → ob_Ev C 22 [(0, ob_rv C n0), (1, .int x1), (2, .int x2), (3, .int x3), (4, .long y4), (6, .int x6), (7, .int x7), (8, .int x8)] [] g := by
  intro n
  induction n with
  | zero => intro y4 x6 x7 x8 x h; exact ob_no h
  | succ n ih => intro y4 x6 x7 x8 x h k0 k1 k2 k3 k4; exact lb_X12_gains_22 F ih h k0 k1 k2 k3 k4
def f_X12_gains (g : ob_St) (n0 : Nat) (x1 : Int32) (x2 : Int32) (x3 : Int32) : Option Int64 :=
  (ob_gR 12 n0 20).bind fun v1 => (f_X12_cell x1 0 0).bind fun v2 => (ob_rL g v1 v2).bind fun v3 => (L_X12_gains_22 g n0 x1 x2 x3 ob_FU v3 0 0 0).bind (Sum.elim (fun y_30 => (ob_ck 12 n0 (f_X12_get g n0 x1 7)).bind fun v31 => (ob_gR 12 n0 22).bind fun v32 => (ob_gR 12 n0 1).bind fun v33 => (ob_rI g 14 v33 2).bind fun v34 => (ob_rL g v32 v34).bind fun v35 => some (y_30 - ((Int32.toInt64 v31) * v35))) (Sum.elim (fun y_36 => (ob_gR 12 n0 22).bind fun v37 => (ob_rL g v37 y_36.2.1).bind fun v38 => some (y_36.1 - (y_36.2.2 * v38))) (Sum.elim (fun y_39 => (ob_gR 12 n0 22).bind fun v40 => (ob_rL g v40 y_39.2.1).bind fun v41 => (ob_ck 12 n0 (f_X12_get g n0 x1 8)).bind fun v42 => (ob_gR 12 n0 22).bind fun v43 => (ob_gR 12 n0 1).bind fun v44 => (ob_rI g 14 v44 2).bind fun v45 => (ob_rL g v43 v45).bind fun v46 => some ((y_39.1 - (y_39.2.2 * v41)) - ((Int32.toInt64 v42) * v46))) (Sum.elim (fun y_47 => some y_47) (fun y_48 => some y_48)))))
theorem b_X12_gains_0 {C : ob_Cx} (F : ob_Fx C cX12_gains 15 RX12 (some .long) 3 72) {g : ob_St} {n0 : Nat} {x1 : Int32} {x2 : Int32} {x3 : Int32} {r : Int64} (h : f_X12_gains g n0 x1 x2 x3 = some r) (k : ob_Rt C (some (.long r)) g) : ob_Ev C 0 [(0, ob_rv C n0), (1, .int x1), (2, .int x2), (3, .int x3)] [] g := by
  unfold f_X12_gains at h
  refine ob_rload_n F 0 dX12_gains_0 rfl ?_
  refine ob_getR F dX12_gains_1 fl_X12_40 h fun v1 h => ?_
  refine ob_iload_n F 1 dX12_gains_4 rfl ?_
  refine ob_iconst F (v := 0) dX12_gains_5 (by decide) ?_
  refine ob_iconst F (v := 0) dX12_gains_6 (by decide) ?_
  refine ob_cSi F dX12_gains_7 im_X12_cell tw6_209 h (fun b hb => t_X12_cell hb) rfl rfl (Nat.le_of_ble_eq_true rfl) (by decide) fun v2 h => ?_
  refine ob_lald F dX12_gains_10 h fun v3 h => ?_
  refine ob_lstore F (ls2 := [(4, .long v3), (0, ob_rv C n0), (1, .int x1), (2, .int x2), (3, .int x3)]) dX12_gains_11 (by decide) rfl ?_
  refine ob_iconst F (v := 0) dX12_gains_13 (by decide) ?_
  refine ob_istore F (ls2 := [(6, .int 0), (4, .long v3), (0, ob_rv C n0), (1, .int x1), (2, .int x2), (3, .int x3)]) dX12_gains_14 (by decide) rfl ?_
  refine ob_iconst F (v := 0) dX12_gains_16 (by decide) ?_
  refine ob_istore F (ls2 := [(7, .int 0), (6, .int 0), (4, .long v3), (0, ob_rv C n0), (1, .int x1), (2, .int x2), (3, .int x3)]) dX12_gains_17 (by decide) rfl ?_
  refine ob_iconst F (v := 0) dX12_gains_19 (by decide) ?_
  refine ob_istore F (ls2 := [(8, .int 0), (7, .int 0), (6, .int 0), (4, .long v3), (0, ob_rv C n0), (1, .int x1), (2, .int x2), (3, .int x3)]) dX12_gains_20 (by decide) rfl ?_
  obtain ⟨x_29, hx, h⟩ := Option.bind_eq_some_iff.mp h
  refine ob_sub [4, 5, 6, 7, 3, 2, 1, 0] rfl (l_X12_gains_22 F ob_FU hx (fun y e => ?_) (fun y e => ?_) (fun y e => ?_) (fun y e => ?_) (fun y e => ?_))
  · subst e
    replace h := (ob_inl h)
    refine ob_lload F 2 dX12_gains_96 rfl ?_
    refine ob_rload_n F 0 dX12_gains_98 rfl ?_
    refine ob_iload_n F 1 dX12_gains_99 rfl ?_
    refine ob_bipush F (v := 7) dX12_gains_100 (by decide) ?_
    refine ob_cVi F dX12_gains_102 im_X12_get tw6_154 h (fun b hb => t_X12_get hb) rfl rfl (Nat.le_of_ble_eq_true rfl) (by decide) fun v31 h => ?_
    refine ob_i2l F dX12_gains_105 ?_
    refine ob_rload_n F 0 dX12_gains_106 rfl ?_
    refine ob_getR F dX12_gains_107 fl_X12_47 h fun v32 h => ?_
    refine ob_rload_n F 0 dX12_gains_110 rfl ?_
    refine ob_getR F dX12_gains_111 fl_X12_13 h fun v33 h => ?_
    refine ob_iconst F (v := 2) dX12_gains_114 (by decide) ?_
    refine ob_iald F dX12_gains_115 h fun v34 h => ?_
    refine ob_lald F dX12_gains_116 h fun v35 h => ?_
    refine ob_lmul F dX12_gains_117 ?_
    refine ob_lsub F dX12_gains_118 ?_
    obtain rfl := Option.some.inj h
    exact ob_lret F dX12_gains_119 k
  · subst e
    replace h := (ob_inl (ob_inr h))
    refine ob_lload F 1 dX12_gains_169 rfl ?_
    refine ob_lload F 3 dX12_gains_171 rfl ?_
    refine ob_rload_n F 0 dX12_gains_173 rfl ?_
    refine ob_getR F dX12_gains_174 fl_X12_47 h fun v37 h => ?_
    refine ob_iload F 2 dX12_gains_177 rfl ?_
    refine ob_lald F dX12_gains_179 h fun v38 h => ?_
    refine ob_lmul F dX12_gains_180 ?_
    refine ob_lsub F dX12_gains_181 ?_
    obtain rfl := Option.some.inj h
    exact ob_lret F dX12_gains_182 k
  · subst e
    replace h := (ob_inl (ob_inr (ob_inr h)))
    refine ob_lload F 2 dX12_gains_189 rfl ?_
    refine ob_lload F 4 dX12_gains_191 rfl ?_
    refine ob_rload_n F 0 dX12_gains_193 rfl ?_
    refine ob_getR F dX12_gains_194 fl_X12_47 h fun v40 h => ?_
    refine ob_iload F 3 dX12_gains_197 rfl ?_
    refine ob_lald F dX12_gains_199 h fun v41 h => ?_
    refine ob_lmul F dX12_gains_200 ?_
    refine ob_lsub F dX12_gains_201 ?_
    refine ob_rload_n F 0 dX12_gains_202 rfl ?_
    refine ob_iload_n F 1 dX12_gains_203 rfl ?_
    refine ob_bipush F (v := 8) dX12_gains_204 (by decide) ?_
    refine ob_cVi F dX12_gains_206 im_X12_get tw6_154 h (fun b hb => t_X12_get hb) rfl rfl (Nat.le_of_ble_eq_true rfl) (by decide) fun v42 h => ?_
    refine ob_i2l F dX12_gains_209 ?_
    refine ob_rload_n F 0 dX12_gains_210 rfl ?_
    refine ob_getR F dX12_gains_211 fl_X12_47 h fun v43 h => ?_
    refine ob_rload_n F 0 dX12_gains_214 rfl ?_
    refine ob_getR F dX12_gains_215 fl_X12_13 h fun v44 h => ?_
    refine ob_iconst F (v := 2) dX12_gains_218 (by decide) ?_
    refine ob_iald F dX12_gains_219 h fun v45 h => ?_
    refine ob_lald F dX12_gains_220 h fun v46 h => ?_
    refine ob_lmul F dX12_gains_221 ?_
    refine ob_lsub F dX12_gains_222 ?_
    obtain rfl := Option.some.inj h
    exact ob_lret F dX12_gains_223 k
  · subst e
    replace h := (ob_inl (ob_inr (ob_inr (ob_inr h))))
    refine ob_lload F 0 dX12_gains_235 rfl ?_
    obtain rfl := Option.some.inj h
    exact ob_lret F dX12_gains_237 k
  · subst e
    replace h := (ob_inr (ob_inr (ob_inr (ob_inr h))))
    refine ob_lload F 0 dX12_gains_338 rfl ?_
    obtain rfl := Option.some.inj h
    exact ob_lret F dX12_gains_340 k
theorem t_X12_gains {cf : ob_Cf} {g : ob_St} {n0 : Nat} {x1 : Int32} {x2 : Int32} {x3 : Int32} {r : Int64} (h : f_X12_gains g n0 x1 x2 x3 = some r) : ob_Mt cf yX12_gains cX12_gains 15 (some .long) 3 72 [ob_rw cf n0, .int x1, .int x2, .int x3] g (some (.long r)) g := by
  refine ob_enter (by decide) (Nat.le_of_ble_eq_true rfl) rfl ?_
  intro C hC F k
  subst hC
  exact b_X12_gains_0 F h k
