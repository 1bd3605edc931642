-- X11_commonDivisor
def Lb_X11_commonDivisor_9 (rec : Int64 → Int64 → Int32 → Option (Int64)) (y4 : Int64) (y6 : Int64) (x8 : Int32) : Option (Int64) :=
  (if y6 = 0 then (some y4) else ((if 130 ≤ x8 then (some y4) else ((ob_rmL y4 y6).bind fun v1 => rec y6 v1 (x8 + 1)))))
def L_X11_commonDivisor_9 : Nat → Int64 → Int64 → Int32 → Option (Int64)
  | 0, _, _, _ => none
  | n + 1, y4, y6, x8 => Lb_X11_commonDivisor_9 (L_X11_commonDivisor_9 n) y4 y6 x8
theorem lb_X11_commonDivisor_9 {C : ob_Cx} {rec : Int64 → Int64 → Int32 → Option (Int64)} (F : ob_Fx C cX11_commonDivisor 11 RX11 (some .long) 0 0) {g : ob_St} {y4 : Int64} {y6 : Int64} {x8 : Int32} {x : (Int64)} (hr : ∀ {y4 : Int64} {y6 : Int64} {x8 : Int32} {x : (Int64)}, rec y4 y6 x8 = some x → ob_Ev C 45 [(4, .long x)] [] g → ob_Ev C 9 [(4, .long y4), (6, .long y6), (8, .int x8)] [] g) (h : Lb_X11_commonDivisor_9 rec y4 y6 x8 = some x) (k0 : ob_Ev C 45 [(4, .long x)] [] g) : ob_Ev C 9 [(4, .long y4), (6, .long y6), (8, .int x8)] [] g := by
  unfold Lb_X11_commonDivisor_9 at h
  refine ob_lload F 1 dX11_commonDivisor_9 rfl ?_
  refine ob_lconst F (v := 0) dX11_commonDivisor_11 (by decide) ?_
  refine ob_lcmp_eq F 45 dX11_commonDivisor_12 dX11_commonDivisor_13 (by decide) h (fun h => ?_) (fun h => ?_)
  · obtain rfl := Option.some.inj h
    exact ob_sub [0] rfl (k0)
  · refine ob_iload F 2 dX11_commonDivisor_16 rfl ?_
    refine ob_sipush F (v := 130) dX11_commonDivisor_18 (by decide) ?_
    refine ob_icmp_ge F 45 dX11_commonDivisor_21 (by decide) h (fun h => ?_) (fun h => ?_)
    · obtain rfl := Option.some.inj h
      exact ob_sub [0] rfl (k0)
    · refine ob_lload F 0 dX11_commonDivisor_24 rfl ?_
      refine ob_lload F 1 dX11_commonDivisor_26 rfl ?_
      refine ob_lrem F dX11_commonDivisor_28 h fun v1 h => ?_
      refine ob_lstore F (ls2 := [(9, .long v1), (4, .long y4), (6, .long y6), (8, .int x8)]) dX11_commonDivisor_29 (by decide) rfl ?_
      refine ob_lload F 2 dX11_commonDivisor_31 rfl ?_
      refine ob_lstore F (ls2 := [(4, .long y6), (9, .long v1), (6, .long y6), (8, .int x8)]) dX11_commonDivisor_33 (by decide) rfl ?_
      refine ob_lload F 1 dX11_commonDivisor_35 rfl ?_
      refine ob_lstore F (ls2 := [(6, .long v1), (4, .long y6), (9, .long v1), (8, .int x8)]) dX11_commonDivisor_37 (by decide) rfl ?_
      refine ob_iinc F (v := (x8 + 1)) (ls2 := [(8, .int (x8 + 1)), (6, .long v1), (4, .long y6), (9, .long v1)]) 3 dX11_commonDivisor_39 rfl rfl (by decide) rfl ?_
      refine ob_goto F 9 dX11_commonDivisor_42 (by decide) ?_
      exact ob_sub [2, 1, 0] rfl (hr h k0)
theorem l_X11_commonDivisor_9 {C : ob_Cx} (F : ob_Fx C cX11_commonDivisor 11 RX11 (some .long) 0 0) {g : ob_St} : ∀ (n : Nat) {y4 : Int64} {y6 : Int64} {x8 : Int32} {x : (Int64)}, L_X11_commonDivisor_9 n y4 y6 x8 = some x → ob_Ev C 45 [(4, .long x)] [] g → ob_Ev C 9 [(4, .long y4), (6, .long y6), (8, .int x8)] [] g := by
  intro n
  induction n with
  | zero => intro y4 y6 x8 x h; exact ob_no h
  | succ n ih => intro y4 y6 x8 x h k0; exact lb_X11_commonDivisor_9 F ih h k0
def f_X11_commonDivisor (y0 : Int64) (y2 : Int64) : Option Int64 :=
  (L_X11_commonDivisor_9 ob_FU y0 y2 0).bind fun x_2 => some x_2
theorem b_X11_commonDivisor_0 {C : ob_Cx} (F : ob_Fx C cX11_commonDivisor 11 RX11 (some .long) 0 0) {g : ob_St} {y0 : Int64} {y2 : Int64} {r : Int64} (h : f_X11_commonDivisor y0 y2 = some r) (k : ob_Rt C (some (.long r)) g) : ob_Ev C 0 [(0, .long y0), (2, .long y2)] [] g := by
  unfold f_X11_commonDivisor at h
  refine ob_lload_n F 0 dX11_commonDivisor_0 rfl ?_
  refine ob_lstore F (ls2 := [(4, .long y0), (0, .long y0), (2, .long y2)]) dX11_commonDivisor_1 (by decide) rfl ?_
  refine ob_lload_n F 2 dX11_commonDivisor_3 rfl ?_
  refine ob_lstore F (ls2 := [(6, .long y2), (4, .long y0), (0, .long y0), (2, .long y2)]) dX11_commonDivisor_4 (by decide) rfl ?_
  refine ob_iconst F (v := 0) dX11_commonDivisor_6 (by decide) ?_
  refine ob_istore F (ls2 := [(8, .int 0), (6, .long y2), (4, .long y0), (0, .long y0), (2, .long y2)]) dX11_commonDivisor_7 (by decide) rfl ?_
  obtain ⟨x_2, hx, h⟩ := Option.bind_eq_some_iff.mp h
  refine ob_sub [2, 1, 0] rfl (l_X11_commonDivisor_9 F ob_FU hx ?_)
  refine ob_lload F 0 dX11_commonDivisor_45 rfl ?_
  obtain rfl := Option.some.inj h
  exact ob_lret F dX11_commonDivisor_47 k
theorem t_X11_commonDivisor {cf : ob_Cf} {g : ob_St} {y0 : Int64} {y2 : Int64} {r : Int64} (h : f_X11_commonDivisor y0 y2 = some r) : ob_Mt cf yX11_commonDivisor cX11_commonDivisor 11 (some .long) 0 0 [.long y0, .long y2] g (some (.long r)) g := by
  refine ob_enter (by decide) (Nat.le_of_ble_eq_true rfl) rfl ?_
  intro C hC F k
  subst hC
  exact b_X11_commonDivisor_0 F h k
-- X11_told
def f_X11_told (y0 : Int64) (y2 : Int64) (x4 : Int32) : Option Int64 :=
  (f_X11_commonDivisor (ob_labs y0) y2).bind fun v1 => (if 1 ≤ v1 then ((if x4 = 0 then ((ob_dvL y0 v1).bind fun v3 => some v3) else ((ob_dvL y2 v1).bind fun v2 => some v2))) else (some (Int32.toInt64 x4)))
theorem b_X11_told_0 {C : ob_Cx} (F : ob_Fx C cX11_told 7 RX11 (some .long) 1 30) {g : ob_St} {y0 : Int64} {y2 : Int64} {x4 : Int32} {r : Int64} (h : f_X11_told y0 y2 x4 = some r) (k : ob_Rt C (some (.long r)) g) : ob_Ev C 0 [(0, .long y0), (2, .long y2), (4, .int x4)] [] g := by
  unfold f_X11_told at h
  refine ob_lload_n F 0 dX11_told_0 rfl ?_
  refine ob_mlabs F dX11_told_1 tw5_46 tw5_47 tw1_18 tw5_48 (Nat.le_of_ble_eq_true rfl) (by decide) ?_
  refine ob_lload_n F 1 dX11_told_4 rfl ?_
  refine ob_cSl F dX11_told_5 im_X11_commonDivisor tw5_49 h (fun b hb => t_X11_commonDivisor hb) rfl rfl (Nat.le_of_ble_eq_true rfl) (by decide) fun v1 h => ?_
  refine ob_lstore F (ls2 := [(5, .long v1), (0, .long y0), (2, .long y2), (4, .int x4)]) dX11_told_8 (by decide) rfl ?_
  refine ob_lload F 0 dX11_told_10 rfl ?_
  refine ob_lconst F (v := 1) dX11_told_12 (by decide) ?_
  refine ob_lcmp_ge F 21 dX11_told_13 dX11_told_14 (by decide) h (fun h => ?_) (fun h => ?_)
  · refine ob_iload F 3 dX11_told_21 rfl ?_
    refine ob_if_ne F 33 dX11_told_23 (by decide) h (fun h => ?_) (fun h => ?_)
    · refine ob_lload_n F 2 dX11_told_33 rfl ?_
      refine ob_lload F 0 dX11_told_34 rfl ?_
      refine ob_ldiv F dX11_told_36 h fun v2 h => ?_
      obtain rfl := Option.some.inj h
      exact ob_lret F dX11_told_37 k
    · refine ob_lload_n F 1 dX11_told_26 rfl ?_
      refine ob_lload F 0 dX11_told_27 rfl ?_
      refine ob_ldiv F dX11_told_29 h fun v3 h => ?_
      refine ob_goto F 37 dX11_told_30 (by decide) ?_
      obtain rfl := Option.some.inj h
      exact ob_lret F dX11_told_37 k
  · refine ob_iload F 3 dX11_told_17 rfl ?_
    refine ob_i2l F dX11_told_19 ?_
    obtain rfl := Option.some.inj h
    exact ob_lret F dX11_told_20 k
theorem t_X11_told {cf : ob_Cf} {g : ob_St} {y0 : Int64} {y2 : Int64} {x4 : Int32} {r : Int64} (h : f_X11_told y0 y2 x4 = some r) : ob_Mt cf yX11_told cX11_told 7 (some .long) 1 30 [.long y0, .long y2, .int x4] g (some (.long r)) g := by
  refine ob_enter (by decide) (Nat.le_of_ble_eq_true rfl) rfl ?_
  intro C hC F k
  subst hC
  exact b_X11_told_0 F h k
-- X11_does
def f_X11_does (g : ob_St) (n0 : Nat) (x1 : Int32) (x2 : Int32) (x3 : Int32) : Option (Int32 × ob_St) :=
  (ob_ck 11 n0 (f_X11_isOption g n0 x1)).bind fun v1 => (if v1 = 0 then (some ((-1), g)) else ((ob_ck 11 n0 (f_X11_isNode g n0 x2 x3)).bind fun v2 => (if v2 = 0 then (some ((-1), g)) else ((ob_ck 11 n0 (f_X11_sheetOf g n0 x1)).bind fun v3 => (ob_gR 9 v3.1 2).bind fun v4 => (ob_gR 4 v4 1).bind fun v5 => (f_X11_nodeAt x2 x3).bind fun v6 => (ob_rI v3.2 14 v5 v6).bind fun v7 => some (v7, v3.2)))))
theorem b_X11_does_0 {C : ob_Cx} (F : ob_Fx C cX11_does 4 RX11 (some .int) 7 175) {g : ob_St} {n0 : Nat} {x1 : Int32} {x2 : Int32} {x3 : Int32} {r : (Int32 × ob_St)} (h : f_X11_does g n0 x1 x2 x3 = some r) (k : ob_Rt C (some (.int r.1)) r.2) : ob_Ev C 0 [(0, ob_rv C n0), (1, .int x1), (2, .int x2), (3, .int x3)] [] g := by
  unfold f_X11_does at h
  refine ob_rload_n F 0 dX11_does_0 rfl ?_
  refine ob_iload_n F 1 dX11_does_1 rfl ?_
  refine ob_cVi F dX11_does_2 im_X11_isOption tw3_176 h (fun b hb => t_X11_isOption hb) rfl rfl (Nat.le_of_ble_eq_true rfl) (by decide) fun v1 h => ?_
  refine ob_if_eq F 17 dX11_does_5 (by decide) h (fun h => ?_) (fun h => ?_)
  · refine ob_iconst F (v := (-1)) dX11_does_17 (by decide) ?_
    obtain rfl := Option.some.inj h
    exact ob_iret F dX11_does_18 k
  · refine ob_rload_n F 0 dX11_does_8 rfl ?_
    refine ob_iload_n F 2 dX11_does_9 rfl ?_
    refine ob_iload_n F 3 dX11_does_10 rfl ?_
    refine ob_cVi F dX11_does_11 im_X11_isNode tw3_188 h (fun b hb => t_X11_isNode hb) rfl rfl (Nat.le_of_ble_eq_true rfl) (by decide) fun v2 h => ?_
    refine ob_if_ne F 19 dX11_does_14 (by decide) h (fun h => ?_) (fun h => ?_)
    · refine ob_rload_n F 0 dX11_does_19 rfl ?_
      refine ob_iload_n F 1 dX11_does_20 rfl ?_
      refine ob_cVrS F dX11_does_21 im_X11_sheetOf tw4_30 h (fun b hb => t_X11_sheetOf hb) rfl rfl (Nat.le_of_ble_eq_true rfl) (by decide) fun v3 h => ?_
      refine ob_getR F dX11_does_24 fl_X11_221 h fun v4 h => ?_
      refine ob_getR F dX11_does_27 fl_X11_237 h fun v5 h => ?_
      refine ob_iload_n F 2 dX11_does_30 rfl ?_
      refine ob_iload_n F 3 dX11_does_31 rfl ?_
      refine ob_cSi F dX11_does_32 im_X11_nodeAt tw4_25 h (fun b hb => t_X11_nodeAt hb) rfl rfl (Nat.le_of_ble_eq_true rfl) (by decide) fun v6 h => ?_
      refine ob_iald F dX11_does_35 h fun v7 h => ?_
      obtain rfl := Option.some.inj h
      exact ob_iret F dX11_does_36 k
    · refine ob_iconst F (v := (-1)) dX11_does_17 (by decide) ?_
      obtain rfl := Option.some.inj h
      exact ob_iret F dX11_does_18 k
theorem t_X11_does {cf : ob_Cf} {g : ob_St} {n0 : Nat} {x1 : Int32} {x2 : Int32} {x3 : Int32} {r : (Int32 × ob_St)} (h : f_X11_does g n0 x1 x2 x3 = some r) : ob_Mt cf yX11_does cX11_does 4 (some .int) 7 175 [ob_rw cf n0, .int x1, .int x2, .int x3] g (some (.int r.1)) r.2 := by
  refine ob_enter (by decide) (Nat.le_of_ble_eq_true rfl) (Or.inl rfl) ?_
  intro C hC F k
  subst hC
  exact b_X11_does_0 F h k
-- X3_standingBy
def f_X3_standingBy (g : ob_St) (n0 : Nat) (n1 : Nat) (x2 : Int32) (x3 : Int32) : Option Int64 :=
  (ob_gR 3 n0 0).bind fun v1 => (ob_gI g 5 v1 5).bind fun v2 => (if x2 < v2 then ((ob_gR 4 n1 0).bind fun v3 => (ob_ck 3 n0 (f_X3_upFrom n0 x2 x3)).bind fun v4 => (ob_rL g v3 v4).bind fun v5 => (ob_gR 4 n1 0).bind fun v6 => (ob_ck 3 n0 (f_X3_downFrom n0 x2 x3)).bind fun v7 => (ob_rL g v6 v7).bind fun v8 => some (v5 - v8)) else (some 0))
theorem b_X3_standingBy_0 {C : ob_Cx} (F : ob_Fx C cX3_standingBy 4 RX3 (some .long) 1 22) {g : ob_St} {n0 : Nat} {n1 : Nat} {x2 : Int32} {x3 : Int32} {r : Int64} (h : f_X3_standingBy g n0 n1 x2 x3 = some r) (k : ob_Rt C (some (.long r)) g) : ob_Ev C 0 [(0, ob_rv C n0), (1, ob_rv C n1), (2, .int x2), (3, .int x3)] [] g := by
  unfold f_X3_standingBy at h
  refine ob_iload_n F 2 dX3_standingBy_0 rfl ?_
  refine ob_rload_n F 0 dX3_standingBy_1 rfl ?_
  refine ob_getR F dX3_standingBy_2 fl_X3_37 h fun v1 h => ?_
  refine ob_getI F dX3_standingBy_5 fl_X3_41 h fun v2 h => ?_
  refine ob_icmp_lt F 13 dX3_standingBy_8 (by decide) h (fun h => ?_) (fun h => ?_)
  · refine ob_rload_n F 1 dX3_standingBy_13 rfl ?_
    refine ob_getR F dX3_standingBy_14 fl_X3_93 h fun v3 h => ?_
    refine ob_rload_n F 0 dX3_standingBy_17 rfl ?_
    refine ob_iload_n F 2 dX3_standingBy_18 rfl ?_
    refine ob_iload_n F 3 dX3_standingBy_19 rfl ?_
    refine ob_cVi F dX3_standingBy_20 im_X3_upFrom tw4_3 h (fun b hb => t_X3_upFrom hb) rfl rfl (Nat.le_of_ble_eq_true rfl) (by decide) fun v4 h => ?_
    refine ob_lald F dX3_standingBy_23 h fun v5 h => ?_
    refine ob_rload_n F 1 dX3_standingBy_24 rfl ?_
    refine ob_getR F dX3_standingBy_25 fl_X3_93 h fun v6 h => ?_
    refine ob_rload_n F 0 dX3_standingBy_28 rfl ?_
    refine ob_iload_n F 2 dX3_standingBy_29 rfl ?_
    refine ob_iload_n F 3 dX3_standingBy_30 rfl ?_
    refine ob_cVi F dX3_standingBy_31 im_X3_downFrom tw4_7 h (fun b hb => t_X3_downFrom hb) rfl rfl (Nat.le_of_ble_eq_true rfl) (by decide) fun v7 h => ?_
    refine ob_lald F dX3_standingBy_34 h fun v8 h => ?_
    refine ob_lsub F dX3_standingBy_35 ?_
    obtain rfl := Option.some.inj h
    exact ob_lret F dX3_standingBy_36 k
  · refine ob_lconst F (v := 0) dX3_standingBy_11 (by decide) ?_
    obtain rfl := Option.some.inj h
    exact ob_lret F dX3_standingBy_12 k
theorem t_X3_standingBy {cf : ob_Cf} {g : ob_St} {n0 : Nat} {n1 : Nat} {x2 : Int32} {x3 : Int32} {r : Int64} (h : f_X3_standingBy g n0 n1 x2 x3 = some r) : ob_Mt cf yX3_standingBy cX3_standingBy 4 (some .long) 1 22 [ob_rw cf n0, ob_rw cf n1, .int x2, .int x3] g (some (.long r)) g := by
  refine ob_enter (by decide) (Nat.le_of_ble_eq_true rfl) rfl ?_
  intro C hC F k
  subst hC
  exact b_X3_standingBy_0 F h k
-- X3_standing
def B_X3_standing_37 (g : ob_St) (x2 : Int32) (x3 : Int32) (s0 : Nat) (s1 : Nat) : Option Int64 :=
  (ob_ck 3 s0 (f_X3_standingBy g s0 s1 x2 x3)).bind fun v5 => some v5
theorem b_X3_standing_37 {C : ob_Cx} (F : ob_Fx C cX3_standing 5 RX3 (some .long) 2 45) {g : ob_St} {x2 : Int32} {x3 : Int32} {s0 : Nat} {s1 : Nat} {r : Int64} (h : B_X3_standing_37 g x2 x3 s0 s1 = some r) (k : ob_Rt C (some (.long r)) g) : ob_Ev C 37 [(2, .int x2), (3, .int x3)] [ob_rv C s1, ob_rv C s0] g := by
  unfold B_X3_standing_37 at h
  refine ob_iload_n F 0 dX3_standing_37 rfl ?_
  refine ob_iload_n F 1 dX3_standing_38 rfl ?_
  refine ob_cVl F dX3_standing_39 im_X3_standingBy tw5_85 h (fun b hb => t_X3_standingBy hb) rfl rfl (Nat.le_of_ble_eq_true rfl) (by decide) fun v5 h => ?_
  obtain rfl := Option.some.inj h
  exact ob_lret F dX3_standing_42 k
def f_X3_standing (g : ob_St) (n0 : Nat) (n1 : Nat) (x2 : Int32) (x3 : Int32) : Option Int64 :=
  (ob_gR 9 n1 2).bind fun v1 => (ob_gR 4 v1 1).bind fun v2 => (ob_rI g 14 v2 x3).bind fun v3 => (if v3 = 2 then (some 0) else ((if v3 = 3 then ((ob_gR 9 n1 1).bind fun v6 => B_X3_standing_37 g x2 x3 n0 v6) else ((ob_gR 9 n1 2).bind fun v4 => B_X3_standing_37 g x2 x3 n0 v4))))
theorem b_X3_standing_0 {C : ob_Cx} (F : ob_Fx C cX3_standing 5 RX3 (some .long) 2 45) {g : ob_St} {n0 : Nat} {n1 : Nat} {x2 : Int32} {x3 : Int32} {r : Int64} (h : f_X3_standing g n0 n1 x2 x3 = some r) (k : ob_Rt C (some (.long r)) g) : ob_Ev C 0 [(0, ob_rv C n0), (1, ob_rv C n1), (2, .int x2), (3, .int x3)] [] g := by
  unfold f_X3_standing at h
  refine ob_rload_n F 1 dX3_standing_0 rfl ?_
  refine ob_getR F dX3_standing_1 fl_X3_89 h fun v1 h => ?_
  refine ob_getR F dX3_standing_4 fl_X3_157 h fun v2 h => ?_
  refine ob_iload_n F 3 dX3_standing_7 rfl ?_
  refine ob_iald F dX3_standing_8 h fun v3 h => ?_
  refine ob_istore F (ls2 := [(4, .int v3), (0, ob_rv C n0), (1, ob_rv C n1), (2, .int x2), (3, .int x3)]) dX3_standing_9 (by decide) rfl ?_
  refine ob_iload F 0 dX3_standing_11 rfl ?_
  refine ob_iconst F (v := 2) dX3_standing_13 (by decide) ?_
  refine ob_icmp_ne F 19 dX3_standing_14 (by decide) h (fun h => ?_) (fun h => ?_)
  · refine ob_rload_n F 1 dX3_standing_19 rfl ?_
    refine ob_iload F 0 dX3_standing_20 rfl ?_
    refine ob_iconst F (v := 3) dX3_standing_22 (by decide) ?_
    refine ob_icmp_ne F 33 dX3_standing_23 (by decide) h (fun h => ?_) (fun h => ?_)
    · refine ob_rload_n F 2 dX3_standing_33 rfl ?_
      refine ob_getR F dX3_standing_34 fl_X3_89 h fun v4 h => ?_
      exact ob_sub [3, 4] rfl (b_X3_standing_37 F h k)
    · refine ob_rload_n F 2 dX3_standing_26 rfl ?_
      refine ob_getR F dX3_standing_27 fl_X3_113 h fun v6 h => ?_
      refine ob_goto F 37 dX3_standing_30 (by decide) ?_
      exact ob_sub [3, 4] rfl (b_X3_standing_37 F h k)
  · refine ob_lconst F (v := 0) dX3_standing_17 (by decide) ?_
    obtain rfl := Option.some.inj h
    exact ob_lret F dX3_standing_18 k
theorem t_X3_standing {cf : ob_Cf} {g : ob_St} {n0 : Nat} {n1 : Nat} {x2 : Int32} {x3 : Int32} {r : Int64} (h : f_X3_standing g n0 n1 x2 x3 = some r) : ob_Mt cf yX3_standing cX3_standing 5 (some .long) 2 45 [ob_rw cf n0, ob_rw cf n1, .int x2, .int x3] g (some (.long r)) g := by
  refine ob_enter (by decide) (Nat.le_of_ble_eq_true rfl) rfl ?_
  intro C hC F k
  subst hC
  exact b_X3_standing_0 F h k
-- X11_frontier
def B_X11_frontier_63 (rec : Int32 → Int32 → Option (Int32)) (g : ob_St) (x2 : Int32) (n3 : Nat) (x4 : Int32) (x5 : Int32) : Option (Int32) :=
  rec x4 (x5 + 1)
theorem b_X11_frontier_63 {C : ob_Cx} {rec : Int32 → Int32 → Option (Int32)} (F : ob_Fx C cX11_frontier 6 RX11 (some .int) 7 175) {g : ob_St} {x2 : Int32} {n3 : Nat} {x4 : Int32} {x5 : Int32} {x : (Int32)} (hr : ∀ {x4 : Int32} {x5 : Int32} {x : (Int32)}, rec x4 x5 = some x → ob_Ev C 69 [(4, .int x)] [] g → ob_Ev C 36 [(2, .int x2), (3, ob_rv C n3), (4, .int x4), (5, .int x5)] [] g) (h : B_X11_frontier_63 rec g x2 n3 x4 x5 = some x) (k0 : ob_Ev C 69 [(4, .int x)] [] g) : ob_Ev C 63 [(2, .int x2), (3, ob_rv C n3), (4, .int x4), (5, .int x5)] [] g := by
  unfold B_X11_frontier_63 at h
  refine ob_iinc F (v := (x5 + 1)) (ls2 := [(5, .int (x5 + 1)), (2, .int x2), (3, ob_rv C n3), (4, .int x4)]) 3 dX11_frontier_63 rfl rfl (by decide) rfl ?_
  refine ob_goto F 36 dX11_frontier_66 (by decide) ?_
  exact ob_sub [1, 2, 3, 0] rfl (hr h k0)
def Lb_X11_frontier_36 (rec : Int32 → Int32 → Option (Int32)) (g : ob_St) (x2 : Int32) (n3 : Nat) (x4 : Int32) (x5 : Int32) : Option (Int32) :=
  (if x2 < x5 then (some x4) else ((f_X11_nodeAt x2 x5).bind fun v6 => (ob_rI g 14 n3 v6).bind fun v7 => (if v7 = 1 then (ob_let (x4 ||| (1 <<< (x5 &&& 31))) fun z8 => B_X11_frontier_63 rec g x2 n3 z8 x5) else (B_X11_frontier_63 rec g x2 n3 x4 x5))))
def L_X11_frontier_36 (g : ob_St) (x2 : Int32) (n3 : Nat) : Nat → Int32 → Int32 → Option (Int32)
  | 0, _, _ => none
  | n + 1, x4, x5 => Lb_X11_frontier_36 (L_X11_frontier_36 g x2 n3 n) g x2 n3 x4 x5
theorem lb_X11_frontier_36 {C : ob_Cx} {rec : Int32 → Int32 → Option (Int32)} (F : ob_Fx C cX11_frontier 6 RX11 (some .int) 7 175) {g : ob_St} {x2 : Int32} {n3 : Nat} {x4 : Int32} {x5 : Int32} {x : (Int32)} (hr : ∀ {x4 : Int32} {x5 : Int32} {x : (Int32)}, rec x4 x5 = some x → ob_Ev C 69 [(4, .int x)] [] g → ob_Ev C 36 [(2, .int x2), (3, ob_rv C n3), (4, .int x4), (5, .int x5)] [] g) (h : Lb_X11_frontier_36 rec g x2 n3 x4 x5 = some x) (k0 : ob_Ev C 69 [(4, .int x)] [] g) : ob_Ev C 36 [(2, .int x2), (3, ob_rv C n3), (4, .int x4), (5, .int x5)] [] g := by
  unfold Lb_X11_frontier_36 at h
  refine ob_iload F 3 dX11_frontier_36 rfl ?_
  refine ob_iload_n F 0 dX11_frontier_38 rfl ?_
  refine ob_icmp_gt F 69 dX11_frontier_39 (by decide) h (fun h => ?_) (fun h => ?_)
  · obtain rfl := Option.some.inj h
    exact ob_sub [2] rfl (k0)
  · refine ob_rload_n F 1 dX11_frontier_42 rfl ?_
    refine ob_iload_n F 0 dX11_frontier_43 rfl ?_
    refine ob_iload F 3 dX11_frontier_44 rfl ?_
    refine ob_cSi F dX11_frontier_46 im_X11_nodeAt tw4_25 h (fun b hb => t_X11_nodeAt hb) rfl rfl (Nat.le_of_ble_eq_true rfl) (by decide) fun v6 h => ?_
    refine ob_iald F dX11_frontier_49 h fun v7 h => ?_
    refine ob_iconst F (v := 1) dX11_frontier_50 (by decide) ?_
    refine ob_icmp_ne F 63 dX11_frontier_51 (by decide) h (fun h => ?_) (fun h => ?_)
    · exact b_X11_frontier_63 F hr h k0
    · refine ob_iload F 2 dX11_frontier_54 rfl ?_
      refine ob_iconst F (v := 1) dX11_frontier_56 (by decide) ?_
      refine ob_iload F 3 dX11_frontier_57 rfl ?_
      refine ob_ishl F dX11_frontier_59 ?_
      refine ob_ior F dX11_frontier_60 ?_
      refine ob_leti h fun z8 h => ?_
      refine ob_istore F (ls2 := [(4, .int z8), (2, .int x2), (3, ob_rv C n3), (5, .int x5)]) dX11_frontier_61 (by decide) rfl ?_
      exact ob_sub [1, 2, 0, 3] rfl (b_X11_frontier_63 F hr h k0)
theorem l_X11_frontier_36 {C : ob_Cx} (F : ob_Fx C cX11_frontier 6 RX11 (some .int) 7 175) {g : ob_St} {x2 : Int32} {n3 : Nat} : ∀ (n : Nat) {x4 : Int32} {x5 : Int32} {x : (Int32)}, L_X11_frontier_36 g x2 n3 n x4 x5 = some x → ob_Ev C 69 [(4, .int x)] [] g → ob_Ev C 36 [(2, .int x2), (3, ob_rv C n3), (4, .int x4), (5, .int x5)] [] g := by
  intro n
  induction n with
  | zero => intro x4 x5 x h; exact ob_no h
  | succ n ih => intro x4 x5 x h k0; exact lb_X11_frontier_36 F ih h k0
def f_X11_frontier (g : ob_St) (n0 : Nat) (x1 : Int32) (x2 : Int32) : Option (Int32 × ob_St) :=
  (ob_ck 11 n0 (f_X11_isOption g n0 x1)).bind fun v1 => (if v1 = 0 then (some ((-1), g)) else ((ob_ck 11 n0 (f_X11_isStep g n0 x2)).bind fun v2 => (if v2 = 0 then (some ((-1), g)) else ((ob_ck 11 n0 (f_X11_sheetOf g n0 x1)).bind fun v3 => (ob_gR 9 v3.1 2).bind fun v4 => (ob_gR 4 v4 1).bind fun v5 => (L_X11_frontier_36 v3.2 x2 v5 ob_FU 0 0).bind fun x_9 => some (x_9, v3.2)))))
theorem b_X11_frontier_0 {C : ob_Cx} (F : ob_Fx C cX11_frontier 6 RX11 (some .int) 7 175) {g : ob_St} {n0 : Nat} {x1 : Int32} {x2 : Int32} {r : (Int32 × ob_St)} (h : f_X11_frontier g n0 x1 x2 = some r) (k : ob_Rt C (some (.int r.1)) r.2) : ob_Ev C 0 [(0, ob_rv C n0), (1, .int x1), (2, .int x2)] [] g := by
  unfold f_X11_frontier at h
  refine ob_rload_n F 0 dX11_frontier_0 rfl ?_
  refine ob_iload_n F 1 dX11_frontier_1 rfl ?_
  refine ob_cVi F dX11_frontier_2 im_X11_isOption tw3_176 h (fun b hb => t_X11_isOption hb) rfl rfl (Nat.le_of_ble_eq_true rfl) (by decide) fun v1 h => ?_
  refine ob_if_eq F 16 dX11_frontier_5 (by decide) h (fun h => ?_) (fun h => ?_)
  · refine ob_iconst F (v := (-1)) dX11_frontier_16 (by decide) ?_
    obtain rfl := Option.some.inj h
    exact ob_iret F dX11_frontier_17 k
  · refine ob_rload_n F 0 dX11_frontier_8 rfl ?_
    refine ob_iload_n F 2 dX11_frontier_9 rfl ?_
    refine ob_cVi F dX11_frontier_10 im_X11_isStep tw3_168 h (fun b hb => t_X11_isStep hb) rfl rfl (Nat.le_of_ble_eq_true rfl) (by decide) fun v2 h => ?_
    refine ob_if_ne F 18 dX11_frontier_13 (by decide) h (fun h => ?_) (fun h => ?_)
    · refine ob_rload_n F 0 dX11_frontier_18 rfl ?_
      refine ob_iload_n F 1 dX11_frontier_19 rfl ?_
      refine ob_cVrS F dX11_frontier_20 im_X11_sheetOf tw4_30 h (fun b hb => t_X11_sheetOf hb) rfl rfl (Nat.le_of_ble_eq_true rfl) (by decide) fun v3 h => ?_
      refine ob_getR F dX11_frontier_23 fl_X11_221 h fun v4 h => ?_
      refine ob_getR F dX11_frontier_26 fl_X11_237 h fun v5 h => ?_
      refine ob_rstore_n F (ls2 := [(3, ob_rv C v5), (0, ob_rv C n0), (1, .int x1), (2, .int x2)]) dX11_frontier_29 (by decide) rfl ?_
      refine ob_iconst F (v := 0) dX11_frontier_30 (by decide) ?_
      refine ob_istore F (ls2 := [(4, .int 0), (3, ob_rv C v5), (0, ob_rv C n0), (1, .int x1), (2, .int x2)]) dX11_frontier_31 (by decide) rfl ?_
      refine ob_iconst F (v := 0) dX11_frontier_33 (by decide) ?_
      refine ob_istore F (ls2 := [(5, .int 0), (4, .int 0), (3, ob_rv C v5), (0, ob_rv C n0), (1, .int x1), (2, .int x2)]) dX11_frontier_34 (by decide) rfl ?_
      obtain ⟨x_9, hx, h⟩ := Option.bind_eq_some_iff.mp h
      refine ob_sub [5, 2, 1, 0] rfl (l_X11_frontier_36 F ob_FU hx ?_)
      refine ob_iload F 0 dX11_frontier_69 rfl ?_
      obtain rfl := Option.some.inj h
      exact ob_iret F dX11_frontier_71 k
    · refine ob_iconst F (v := (-1)) dX11_frontier_16 (by decide) ?_
      obtain rfl := Option.some.inj h
      exact ob_iret F dX11_frontier_17 k
theorem t_X11_frontier {cf : ob_Cf} {g : ob_St} {n0 : Nat} {x1 : Int32} {x2 : Int32} {r : (Int32 × ob_St)} (h : f_X11_frontier g n0 x1 x2 = some r) : ob_Mt cf yX11_frontier cX11_frontier 6 (some .int) 7 175 [ob_rw cf n0, .int x1, .int x2] g (some (.int r.1)) r.2 := by
  refine ob_enter (by decide) (Nat.le_of_ble_eq_true rfl) (Or.inl rfl) ?_
  intro C hC F k
  subst hC
  exact b_X11_frontier_0 F h k
-- X6_endOf
def f_X6_endOf (g : ob_St) (n0 : Nat) (x1 : Int32) (x2 : Int32) : Option Int32 :=
  (if x1 = 1 then (some 0) else (if x1 = 2 then (some 1) else (if x1 = 4 then (some 3) else ((ob_gR 6 n0 0).bind fun v1 => (ob_gR 3 v1 0).bind fun v2 => (ob_gI g 5 v2 5).bind fun v3 => (if x2 = v3 then (some 2) else (some (-1)))))))
theorem b_X6_endOf_0 {C : ob_Cx} (F : ob_Fx C cX6_endOf 3 RX6 (some .int) 0 0) {g : ob_St} {n0 : Nat} {x1 : Int32} {x2 : Int32} {r : Int32} (h : f_X6_endOf g n0 x1 x2 = some r) (k : ob_Rt C (some (.int r)) g) : ob_Ev C 0 [(0, ob_rv C n0), (1, .int x1), (2, .int x2)] [] g := by
  unfold f_X6_endOf at h
  refine ob_iload_n F 1 dX6_endOf_0 rfl ?_
  by_cases c1 : x1 = 1
  · rw [if_pos c1] at h
    refine ob_tsi F 1 32 dX6_endOf_1 c1 (by decide) (by decide) rfl (by decide) ?_
    refine ob_iconst F (v := 0) dX6_endOf_32 (by decide) ?_
    obtain rfl := Option.some.inj h
    exact ob_iret F dX6_endOf_33 k
  rw [if_neg c1] at h
  by_cases c2 : x1 = 2
  · rw [if_pos c2] at h
    refine ob_tsi F 2 34 dX6_endOf_1 c2 (by decide) (by decide) rfl (by decide) ?_
    refine ob_iconst F (v := 1) dX6_endOf_34 (by decide) ?_
    obtain rfl := Option.some.inj h
    exact ob_iret F dX6_endOf_35 k
  rw [if_neg c2] at h
  by_cases c4 : x1 = 4
  · rw [if_pos c4] at h
    refine ob_tsi F 4 36 dX6_endOf_1 c4 (by decide) (by decide) rfl (by decide) ?_
    refine ob_iconst F (v := 3) dX6_endOf_36 (by decide) ?_
    obtain rfl := Option.some.inj h
    exact ob_iret F dX6_endOf_37 k
  rw [if_neg c4] at h
  by_cases c3 : x1 = 3
  · refine ob_tsi F 3 38 dX6_endOf_1 c3 (by decide) (by decide) rfl (by decide) ?_
    refine ob_iload_n F 2 dX6_endOf_38 rfl ?_
    refine ob_rload_n F 0 dX6_endOf_39 rfl ?_
    refine ob_getR F dX6_endOf_40 fl_X6_18 h fun v1 h => ?_
    refine ob_getR F dX6_endOf_43 fl_X6_22 h fun v2 h => ?_
    refine ob_getI F dX6_endOf_46 fl_X6_28 h fun v3 h => ?_
    refine ob_icmp_ne F 56 dX6_endOf_49 (by decide) h (fun h => ?_) (fun h => ?_)
    · refine ob_iconst F (v := (-1)) dX6_endOf_56 (by decide) ?_
      obtain rfl := Option.some.inj h
      exact ob_iret F dX6_endOf_57 k
    · refine ob_iconst F (v := 2) dX6_endOf_52 (by decide) ?_
      refine ob_goto F 57 dX6_endOf_53 (by decide) ?_
      obtain rfl := Option.some.inj h
      exact ob_iret F dX6_endOf_57 k
  have q1 := ob_nei c1 (k := 1) rfl
  have q2 := ob_nei c2 (k := 2) rfl
  have q3 := ob_nei c3 (k := 3) rfl
  have q4 := ob_nei c4 (k := 4) rfl
  refine ob_tso F 38 dX6_endOf_1 (by omega) (by decide) ?_
  refine ob_iload_n F 2 dX6_endOf_38 rfl ?_
  refine ob_rload_n F 0 dX6_endOf_39 rfl ?_
  refine ob_getR F dX6_endOf_40 fl_X6_18 h fun v1 h => ?_
  refine ob_getR F dX6_endOf_43 fl_X6_22 h fun v2 h => ?_
  refine ob_getI F dX6_endOf_46 fl_X6_28 h fun v3 h => ?_
  refine ob_icmp_ne F 56 dX6_endOf_49 (by decide) h (fun h => ?_) (fun h => ?_)
  · refine ob_iconst F (v := (-1)) dX6_endOf_56 (by decide) ?_
    obtain rfl := Option.some.inj h
    exact ob_iret F dX6_endOf_57 k
  · refine ob_iconst F (v := 2) dX6_endOf_52 (by decide) ?_
    refine ob_goto F 57 dX6_endOf_53 (by decide) ?_
    obtain rfl := Option.some.inj h
    exact ob_iret F dX6_endOf_57 k
theorem t_X6_endOf {cf : ob_Cf} {g : ob_St} {n0 : Nat} {x1 : Int32} {x2 : Int32} {r : Int32} (h : f_X6_endOf g n0 x1 x2 = some r) : ob_Mt cf yX6_endOf cX6_endOf 3 (some .int) 0 0 [ob_rw cf n0, .int x1, .int x2] g (some (.int r)) g := by
  refine ob_enter (by decide) (Nat.le_of_ble_eq_true rfl) (Or.inl rfl) ?_
  intro C hC F k
  subst hC
  exact b_X6_endOf_0 F h k
-- X6_pass
def B_X6_pass_171 (g : ob_St) (n0 : Nat) (n1 : Nat) (x2 : Int32) (x3 : Int32) (x5 : Int32) (x6 : Int32) : Option ob_St :=
  (ob_gR 9 n1 1).bind fun v18 => (ob_gR 4 v18 1).bind fun v19 => (ob_rI g 14 v19 x3).bind fun v20 => (ob_ck 6 n0 (f_X6_endOf g n0 v20 x2)).bind fun v21 => (if v21 = (-1) then ((ob_gR 6 n0 2).bind fun v22 => (ob_gR 6 n0 0).bind fun v23 => (ob_ck 3 v23 (f_X3_upFrom v23 x2 x3)).bind fun v24 => (ob_rL g v22 v24).bind fun v25 => (ob_gR 6 n0 2).bind fun v26 => (ob_rL g v26 x3).bind fun v27 => (ob_wL g v22 v24 (v25 + (v27 * (Int32.toInt64 x5)))).bind fun g28 => (ob_gR 6 n0 2).bind fun v29 => (ob_gR 6 n0 0).bind fun v30 => (ob_ck 3 v30 (f_X3_downFrom v30 x2 x3)).bind fun v31 => (ob_rL g28 v29 v31).bind fun v32 => (ob_gR 6 n0 2).bind fun v33 => (ob_rL g28 v33 x3).bind fun v34 => (ob_wL g28 v29 v31 (v32 + (v34 * (Int32.toInt64 x6)))).bind fun g35 => some g35) else (some g))
theorem b_X6_pass_171 {C : ob_Cx} (F : ob_Fx C cX6_pass 7 RX6 none 1 22) {g : ob_St} {n0 : Nat} {n1 : Nat} {x2 : Int32} {x3 : Int32} {x5 : Int32} {x6 : Int32} {r : ob_St} (h : B_X6_pass_171 g n0 n1 x2 x3 x5 x6 = some r) (k : ob_Rt C none r) : ob_Ev C 171 [(0, ob_rv C n0), (1, ob_rv C n1), (2, .int x2), (3, .int x3), (5, .int x5), (6, .int x6)] [] g := by
  unfold B_X6_pass_171 at h
  refine ob_rload_n F 0 dX6_pass_171 rfl ?_
  refine ob_rload_n F 1 dX6_pass_172 rfl ?_
  refine ob_getR F dX6_pass_173 fl_X6_69 h fun v18 h => ?_
  refine ob_getR F dX6_pass_176 fl_X6_48 h fun v19 h => ?_
  refine ob_iload_n F 3 dX6_pass_179 rfl ?_
  refine ob_iald F dX6_pass_180 h fun v20 h => ?_
  refine ob_iload_n F 2 dX6_pass_181 rfl ?_
  refine ob_cVi F dX6_pass_182 im_X6_endOf tw4_51 h (fun b hb => t_X6_endOf hb) rfl rfl (Nat.le_of_ble_eq_true rfl) (by decide) fun v21 h => ?_
  refine ob_iconst F (v := (-1)) dX6_pass_185 (by decide) ?_
  refine ob_icmp_ne F 243 dX6_pass_186 (by decide) h (fun h => ?_) (fun h => ?_)
  · obtain rfl := Option.some.inj h
    exact ob_vret F dX6_pass_243 k
  · refine ob_rload_n F 0 dX6_pass_189 rfl ?_
    refine ob_getR F dX6_pass_190 fl_X6_15 h fun v22 h => ?_
    refine ob_rload_n F 0 dX6_pass_193 rfl ?_
    refine ob_getR F dX6_pass_194 fl_X6_18 h fun v23 h => ?_
    refine ob_iload_n F 2 dX6_pass_197 rfl ?_
    refine ob_iload_n F 3 dX6_pass_198 rfl ?_
    refine ob_cVi F dX6_pass_199 im_X3_upFrom tw4_55 h (fun b hb => t_X3_upFrom hb) rfl rfl (Nat.le_of_ble_eq_true rfl) (by decide) fun v24 h => ?_
    refine ob_dup2 F dX6_pass_202 rfl rfl ?_
    refine ob_lald F dX6_pass_203 h fun v25 h => ?_
    refine ob_rload_n F 0 dX6_pass_204 rfl ?_
    refine ob_getR F dX6_pass_205 fl_X6_15 h fun v26 h => ?_
    refine ob_iload_n F 3 dX6_pass_208 rfl ?_
    refine ob_lald F dX6_pass_209 h fun v27 h => ?_
    refine ob_iload F 4 dX6_pass_210 rfl ?_
    refine ob_i2l F dX6_pass_212 ?_
    refine ob_lmul F dX6_pass_213 ?_
    refine ob_ladd F dX6_pass_214 ?_
    refine ob_last F dX6_pass_215 h fun g28 h => ?_
    refine ob_rload_n F 0 dX6_pass_216 rfl ?_
    refine ob_getR F dX6_pass_217 fl_X6_15 h fun v29 h => ?_
    refine ob_rload_n F 0 dX6_pass_220 rfl ?_
    refine ob_getR F dX6_pass_221 fl_X6_18 h fun v30 h => ?_
    refine ob_iload_n F 2 dX6_pass_224 rfl ?_
    refine ob_iload_n F 3 dX6_pass_225 rfl ?_
    refine ob_cVi F dX6_pass_226 im_X3_downFrom tw4_56 h (fun b hb => t_X3_downFrom hb) rfl rfl (Nat.le_of_ble_eq_true rfl) (by decide) fun v31 h => ?_
    refine ob_dup2 F dX6_pass_229 rfl rfl ?_
    refine ob_lald F dX6_pass_230 h fun v32 h => ?_
    refine ob_rload_n F 0 dX6_pass_231 rfl ?_
    refine ob_getR F dX6_pass_232 fl_X6_15 h fun v33 h => ?_
    refine ob_iload_n F 3 dX6_pass_235 rfl ?_
    refine ob_lald F dX6_pass_236 h fun v34 h => ?_
    refine ob_iload F 5 dX6_pass_237 rfl ?_
    refine ob_i2l F dX6_pass_239 ?_
    refine ob_lmul F dX6_pass_240 ?_
    refine ob_ladd F dX6_pass_241 ?_
    refine ob_last F dX6_pass_242 h fun g35 h => ?_
    obtain rfl := Option.some.inj h
    exact ob_vret F dX6_pass_243 k
def B_X6_pass_97 (g : ob_St) (n0 : Nat) (n1 : Nat) (x2 : Int32) (x3 : Int32) (x5 : Int32) (s0 : Int32) : Option ob_St :=
  (ob_gR 9 n1 2).bind fun v14 => (ob_gR 4 v14 1).bind fun v15 => (ob_rI g 14 v15 x3).bind fun v16 => (ob_ck 6 n0 (f_X6_endOf g n0 v16 x2)).bind fun v17 => (if v17 = (-1) then ((ob_gR 6 n0 1).bind fun v36 => (ob_gR 6 n0 0).bind fun v37 => (ob_ck 3 v37 (f_X3_upFrom v37 x2 x3)).bind fun v38 => (ob_rL g v36 v38).bind fun v39 => (ob_gR 6 n0 1).bind fun v40 => (ob_rL g v40 x3).bind fun v41 => (ob_wL g v36 v38 (v39 + (v41 * (Int32.toInt64 x5)))).bind fun g42 => (ob_gR 6 n0 1).bind fun v43 => (ob_gR 6 n0 0).bind fun v44 => (ob_ck 3 v44 (f_X3_downFrom v44 x2 x3)).bind fun v45 => (ob_rL g42 v43 v45).bind fun v46 => (ob_gR 6 n0 1).bind fun v47 => (ob_rL g42 v47 x3).bind fun v48 => (ob_wL g42 v43 v45 (v46 + (v48 * (Int32.toInt64 s0)))).bind fun g49 => B_X6_pass_171 g49 n0 n1 x2 x3 x5 s0) else (B_X6_pass_171 g n0 n1 x2 x3 x5 s0))
theorem b_X6_pass_97 {C : ob_Cx} (F : ob_Fx C cX6_pass 7 RX6 none 1 22) {g : ob_St} {n0 : Nat} {n1 : Nat} {x2 : Int32} {x3 : Int32} {x5 : Int32} {s0 : Int32} {r : ob_St} (h : B_X6_pass_97 g n0 n1 x2 x3 x5 s0 = some r) (k : ob_Rt C none r) : ob_Ev C 97 [(0, ob_rv C n0), (1, ob_rv C n1), (2, .int x2), (3, .int x3), (5, .int x5)] [.int s0] g := by
  unfold B_X6_pass_97 at h
  refine ob_istore F (ls2 := [(6, .int s0), (0, ob_rv C n0), (1, ob_rv C n1), (2, .int x2), (3, .int x3), (5, .int x5)]) dX6_pass_97 (by decide) rfl ?_
  refine ob_rload_n F 1 dX6_pass_99 rfl ?_
  refine ob_rload_n F 2 dX6_pass_100 rfl ?_
  refine ob_getR F dX6_pass_101 fl_X6_42 h fun v14 h => ?_
  refine ob_getR F dX6_pass_104 fl_X6_48 h fun v15 h => ?_
  refine ob_iload_n F 4 dX6_pass_107 rfl ?_
  refine ob_iald F dX6_pass_108 h fun v16 h => ?_
  refine ob_iload_n F 3 dX6_pass_109 rfl ?_
  refine ob_cVi F dX6_pass_110 im_X6_endOf tw4_51 h (fun b hb => t_X6_endOf hb) rfl rfl (Nat.le_of_ble_eq_true rfl) (by decide) fun v17 h => ?_
  refine ob_iconst F (v := (-1)) dX6_pass_113 (by decide) ?_
  refine ob_icmp_ne F 171 dX6_pass_114 (by decide) h (fun h => ?_) (fun h => ?_)
  · exact ob_sub [1, 2, 3, 4, 5, 0] rfl (b_X6_pass_171 F h k)
  · refine ob_rload_n F 1 dX6_pass_117 rfl ?_
    refine ob_getR F dX6_pass_118 fl_X6_9 h fun v36 h => ?_
    refine ob_rload_n F 1 dX6_pass_121 rfl ?_
    refine ob_getR F dX6_pass_122 fl_X6_18 h fun v37 h => ?_
    refine ob_iload_n F 3 dX6_pass_125 rfl ?_
    refine ob_iload_n F 4 dX6_pass_126 rfl ?_
    refine ob_cVi F dX6_pass_127 im_X3_upFrom tw4_55 h (fun b hb => t_X3_upFrom hb) rfl rfl (Nat.le_of_ble_eq_true rfl) (by decide) fun v38 h => ?_
    refine ob_dup2 F dX6_pass_130 rfl rfl ?_
    refine ob_lald F dX6_pass_131 h fun v39 h => ?_
    refine ob_rload_n F 1 dX6_pass_132 rfl ?_
    refine ob_getR F dX6_pass_133 fl_X6_9 h fun v40 h => ?_
    refine ob_iload_n F 4 dX6_pass_136 rfl ?_
    refine ob_lald F dX6_pass_137 h fun v41 h => ?_
    refine ob_iload F 5 dX6_pass_138 rfl ?_
    refine ob_i2l F dX6_pass_140 ?_
    refine ob_lmul F dX6_pass_141 ?_
    refine ob_ladd F dX6_pass_142 ?_
    refine ob_last F dX6_pass_143 h fun g42 h => ?_
    refine ob_rload_n F 1 dX6_pass_144 rfl ?_
    refine ob_getR F dX6_pass_145 fl_X6_9 h fun v43 h => ?_
    refine ob_rload_n F 1 dX6_pass_148 rfl ?_
    refine ob_getR F dX6_pass_149 fl_X6_18 h fun v44 h => ?_
    refine ob_iload_n F 3 dX6_pass_152 rfl ?_
    refine ob_iload_n F 4 dX6_pass_153 rfl ?_
    refine ob_cVi F dX6_pass_154 im_X3_downFrom tw4_56 h (fun b hb => t_X3_downFrom hb) rfl rfl (Nat.le_of_ble_eq_true rfl) (by decide) fun v45 h => ?_
    refine ob_dup2 F dX6_pass_157 rfl rfl ?_
    refine ob_lald F dX6_pass_158 h fun v46 h => ?_
    refine ob_rload_n F 1 dX6_pass_159 rfl ?_
    refine ob_getR F dX6_pass_160 fl_X6_9 h fun v47 h => ?_
    refine ob_iload_n F 4 dX6_pass_163 rfl ?_
    refine ob_lald F dX6_pass_164 h fun v48 h => ?_
    refine ob_iload F 0 dX6_pass_165 rfl ?_
    refine ob_i2l F dX6_pass_167 ?_
    refine ob_lmul F dX6_pass_168 ?_
    refine ob_ladd F dX6_pass_169 ?_
    refine ob_last F dX6_pass_170 h fun g49 h => ?_
    exact ob_sub [1, 2, 3, 4, 5, 0] rfl (b_X6_pass_171 F h k)
def B_X6_pass_73 (g : ob_St) (n0 : Nat) (n1 : Nat) (x2 : Int32) (x3 : Int32) (x4 : Int32) (s0 : Int32) : Option ob_St :=
  (if x4 = 0 then ((ob_gR 6 n0 0).bind fun v11 => (ob_gR 3 v11 0).bind fun v12 => (ob_gI g 5 v12 4).bind fun v13 => B_X6_pass_97 g n0 n1 x2 x3 s0 (v13 - s0)) else (B_X6_pass_97 g n0 n1 x2 x3 s0 1))
theorem b_X6_pass_73 {C : ob_Cx} (F : ob_Fx C cX6_pass 7 RX6 none 1 22) {g : ob_St} {n0 : Nat} {n1 : Nat} {x2 : Int32} {x3 : Int32} {x4 : Int32} {s0 : Int32} {r : ob_St} (h : B_X6_pass_73 g n0 n1 x2 x3 x4 s0 = some r) (k : ob_Rt C none r) : ob_Ev C 73 [(0, ob_rv C n0), (1, ob_rv C n1), (2, .int x2), (3, .int x3), (4, .int x4)] [.int s0] g := by
  unfold B_X6_pass_73 at h
  refine ob_istore F (ls2 := [(5, .int s0), (0, ob_rv C n0), (1, ob_rv C n1), (2, .int x2), (3, .int x3), (4, .int x4)]) dX6_pass_73 (by decide) rfl ?_
  refine ob_iload F 5 dX6_pass_75 rfl ?_
  refine ob_if_eq F 84 dX6_pass_77 (by decide) h (fun h => ?_) (fun h => ?_)
  · refine ob_rload_n F 1 dX6_pass_84 rfl ?_
    refine ob_getR F dX6_pass_85 fl_X6_18 h fun v11 h => ?_
    refine ob_getR F dX6_pass_88 fl_X6_22 h fun v12 h => ?_
    refine ob_getI F dX6_pass_91 fl_X6_57 h fun v13 h => ?_
    refine ob_iload F 0 dX6_pass_94 rfl ?_
    refine ob_isub F dX6_pass_96 ?_
    exact ob_sub [1, 2, 3, 4, 0] rfl (b_X6_pass_97 F h k)
  · refine ob_iconst F (v := 1) dX6_pass_80 (by decide) ?_
    refine ob_goto F 97 dX6_pass_81 (by decide) ?_
    exact ob_sub [1, 2, 3, 4, 0] rfl (b_X6_pass_97 F h k)
def B_X6_pass_35 (g : ob_St) (n0 : Nat) (n1 : Nat) (x2 : Int32) (x3 : Int32) (x4 : Int32) : Option ob_St :=
  (ob_gR 6 n0 0).bind fun v4 => (ob_gR 3 v4 0).bind fun v5 => (ob_gI g 5 v5 5).bind fun v6 => (if x2 < v6 then ((if x4 = 0 then ((ob_gR 6 n0 0).bind fun v7 => (ob_gR 3 v7 0).bind fun v8 => (ob_gR 5 v8 0).bind fun v9 => (ob_rI g 14 v9 (x2 + 1)).bind fun v10 => B_X6_pass_73 g n0 n1 x2 x3 x4 v10) else (B_X6_pass_73 g n0 n1 x2 x3 x4 1))) else (some g))
theorem b_X6_pass_35 {C : ob_Cx} (F : ob_Fx C cX6_pass 7 RX6 none 1 22) {g : ob_St} {n0 : Nat} {n1 : Nat} {x2 : Int32} {x3 : Int32} {x4 : Int32} {r : ob_St} (h : B_X6_pass_35 g n0 n1 x2 x3 x4 = some r) (k : ob_Rt C none r) : ob_Ev C 35 [(0, ob_rv C n0), (1, ob_rv C n1), (2, .int x2), (3, .int x3), (4, .int x4)] [] g := by
  unfold B_X6_pass_35 at h
  refine ob_iload_n F 2 dX6_pass_35 rfl ?_
  refine ob_rload_n F 0 dX6_pass_36 rfl ?_
  refine ob_getR F dX6_pass_37 fl_X6_18 h fun v4 h => ?_
  refine ob_getR F dX6_pass_40 fl_X6_22 h fun v5 h => ?_
  refine ob_getI F dX6_pass_43 fl_X6_28 h fun v6 h => ?_
  refine ob_icmp_lt F 50 dX6_pass_46 (by decide) h (fun h => ?_) (fun h => ?_)
  · refine ob_iload F 4 dX6_pass_50 rfl ?_
    refine ob_if_eq F 59 dX6_pass_52 (by decide) h (fun h => ?_) (fun h => ?_)
    · refine ob_rload_n F 0 dX6_pass_59 rfl ?_
      refine ob_getR F dX6_pass_60 fl_X6_18 h fun v7 h => ?_
      refine ob_getR F dX6_pass_63 fl_X6_22 h fun v8 h => ?_
      refine ob_getR F dX6_pass_66 fl_X6_54 h fun v9 h => ?_
      refine ob_iload_n F 2 dX6_pass_69 rfl ?_
      refine ob_iconst F (v := 1) dX6_pass_70 (by decide) ?_
      refine ob_iadd F dX6_pass_71 ?_
      refine ob_iald F dX6_pass_72 h fun v10 h => ?_
      exact b_X6_pass_73 F h k
    · refine ob_iconst F (v := 1) dX6_pass_55 (by decide) ?_
      refine ob_goto F 73 dX6_pass_56 (by decide) ?_
      exact b_X6_pass_73 F h k
  · obtain rfl := Option.some.inj h
    exact ob_vret F dX6_pass_49 k
def f_X6_pass (g : ob_St) (n0 : Nat) (n1 : Nat) (x2 : Int32) (x3 : Int32) (x4 : Int32) : Option ob_St :=
  (ob_gR 9 n1 2).bind fun v1 => (ob_gR 4 v1 1).bind fun v2 => (ob_rI g 14 v2 x3).bind fun v3 => (if v3 = 3 then ((ob_gR 6 n0 2).bind fun v50 => (ob_rL g v50 x3).bind fun v51 => (ob_gR 6 n0 1).bind fun v52 => (ob_rL g v52 x3).bind fun v53 => (ob_wL g v50 x3 (v51 + v53)).bind fun g54 => (ob_gR 6 n0 1).bind fun v55 => (ob_wL g54 v55 x3 0).bind fun g56 => B_X6_pass_35 g56 n0 n1 x2 x3 x4) else (B_X6_pass_35 g n0 n1 x2 x3 x4))
theorem b_X6_pass_0 {C : ob_Cx} (F : ob_Fx C cX6_pass 7 RX6 none 1 22) {g : ob_St} {n0 : Nat} {n1 : Nat} {x2 : Int32} {x3 : Int32} {x4 : Int32} {r : ob_St} (h : f_X6_pass g n0 n1 x2 x3 x4 = some r) (k : ob_Rt C none r) : ob_Ev C 0 [(0, ob_rv C n0), (1, ob_rv C n1), (2, .int x2), (3, .int x3), (4, .int x4)] [] g := by
  unfold f_X6_pass at h
  refine ob_rload_n F 1 dX6_pass_0 rfl ?_
  refine ob_getR F dX6_pass_1 fl_X6_42 h fun v1 h => ?_
  refine ob_getR F dX6_pass_4 fl_X6_48 h fun v2 h => ?_
  refine ob_iload_n F 3 dX6_pass_7 rfl ?_
  refine ob_iald F dX6_pass_8 h fun v3 h => ?_
  refine ob_iconst F (v := 3) dX6_pass_9 (by decide) ?_
  refine ob_icmp_ne F 35 dX6_pass_10 (by decide) h (fun h => ?_) (fun h => ?_)
  · exact b_X6_pass_35 F h k
  · refine ob_rload_n F 0 dX6_pass_13 rfl ?_
    refine ob_getR F dX6_pass_14 fl_X6_15 h fun v50 h => ?_
    refine ob_iload_n F 3 dX6_pass_17 rfl ?_
    refine ob_dup2 F dX6_pass_18 rfl rfl ?_
    refine ob_lald F dX6_pass_19 h fun v51 h => ?_
    refine ob_rload_n F 0 dX6_pass_20 rfl ?_
    refine ob_getR F dX6_pass_21 fl_X6_9 h fun v52 h => ?_
    refine ob_iload_n F 3 dX6_pass_24 rfl ?_
    refine ob_lald F dX6_pass_25 h fun v53 h => ?_
    refine ob_ladd F dX6_pass_26 ?_
    refine ob_last F dX6_pass_27 h fun g54 h => ?_
    refine ob_rload_n F 0 dX6_pass_28 rfl ?_
    refine ob_getR F dX6_pass_29 fl_X6_9 h fun v55 h => ?_
    refine ob_iload_n F 3 dX6_pass_32 rfl ?_
    refine ob_lconst F (v := 0) dX6_pass_33 (by decide) ?_
    refine ob_last F dX6_pass_34 h fun g56 h => ?_
    exact b_X6_pass_35 F h k
theorem t_X6_pass {cf : ob_Cf} {g : ob_St} {n0 : Nat} {n1 : Nat} {x2 : Int32} {x3 : Int32} {x4 : Int32} {r : ob_St} (h : f_X6_pass g n0 n1 x2 x3 x4 = some r) : ob_Mt cf yX6_pass cX6_pass 7 none 1 22 [ob_rw cf n0, ob_rw cf n1, .int x2, .int x3, .int x4] g none r := by
  refine ob_enter (by decide) (Nat.le_of_ble_eq_true rfl) rfl ?_
  intro C hC F k
  subst hC
  exact b_X6_pass_0 F h k
-- X6_follow
def Lb_X6_follow_2 (rec : ob_St → Int32 → Option (ob_St)) (g : ob_St) (n0 : Nat) (n1 : Nat) (x2 : Int32) (x3 : Int32) : Option (ob_St) :=
  (if 91 ≤ x3 then (some g) else ((ob_gR 6 n0 1).bind fun v1 => (ob_wL g v1 x3 0).bind fun g2 => (ob_gR 6 n0 2).bind fun v3 => (ob_wL g2 v3 x3 0).bind fun g4 => rec g4 (x3 + 1)))
def L_X6_follow_2 (n0 : Nat) (n1 : Nat) (x2 : Int32) : Nat → ob_St → Int32 → Option (ob_St)
  | 0, _, _ => none
  | n + 1, g, x3 => Lb_X6_follow_2 (L_X6_follow_2 n0 n1 x2 n) g n0 n1 x2 x3
theorem lb_X6_follow_2 {C : ob_Cx} {rec : ob_St → Int32 → Option (ob_St)} (F : ob_Fx C cX6_follow 5 RX6 none 2 48) {g : ob_St} {n0 : Nat} {n1 : Nat} {x2 : Int32} {x3 : Int32} {x : (ob_St)} (hr : ∀ {g : ob_St} {x3 : Int32} {x : (ob_St)}, rec g x3 = some x → ob_Ev C 28 [(0, ob_rv C n0), (1, ob_rv C n1), (2, .int x2)] [] x → ob_Ev C 2 [(0, ob_rv C n0), (1, ob_rv C n1), (2, .int x2), (3, .int x3)] [] g) (h : Lb_X6_follow_2 rec g n0 n1 x2 x3 = some x) (k0 : ob_Ev C 28 [(0, ob_rv C n0), (1, ob_rv C n1), (2, .int x2)] [] x) : ob_Ev C 2 [(0, ob_rv C n0), (1, ob_rv C n1), (2, .int x2), (3, .int x3)] [] g := by
  unfold Lb_X6_follow_2 at h
  refine ob_iload_n F 3 dX6_follow_2 rfl ?_
  refine ob_bipush F (v := 91) dX6_follow_3 (by decide) ?_
  refine ob_icmp_ge F 28 dX6_follow_5 (by decide) h (fun h => ?_) (fun h => ?_)
  · obtain rfl := Option.some.inj h
    exact ob_sub [0, 1, 2] rfl (k0)
  · refine ob_rload_n F 0 dX6_follow_8 rfl ?_
    refine ob_getR F dX6_follow_9 fl_X6_9 h fun v1 h => ?_
    refine ob_iload_n F 3 dX6_follow_12 rfl ?_
    refine ob_lconst F (v := 0) dX6_follow_13 (by decide) ?_
    refine ob_last F dX6_follow_14 h fun g2 h => ?_
    refine ob_rload_n F 0 dX6_follow_15 rfl ?_
    refine ob_getR F dX6_follow_16 fl_X6_15 h fun v3 h => ?_
    refine ob_iload_n F 3 dX6_follow_19 rfl ?_
    refine ob_lconst F (v := 0) dX6_follow_20 (by decide) ?_
    refine ob_last F dX6_follow_21 h fun g4 h => ?_
    refine ob_iinc F (v := (x3 + 1)) (ls2 := [(3, .int (x3 + 1)), (0, ob_rv C n0), (1, ob_rv C n1), (2, .int x2)]) 3 dX6_follow_22 rfl rfl (by decide) rfl ?_
    refine ob_goto F 2 dX6_follow_25 (by decide) ?_
    exact ob_sub [1, 2, 3, 0] rfl (hr h k0)
theorem l_X6_follow_2 {C : ob_Cx} (F : ob_Fx C cX6_follow 5 RX6 none 2 48) {n0 : Nat} {n1 : Nat} {x2 : Int32} : ∀ (n : Nat) {g : ob_St} {x3 : Int32} {x : (ob_St)}, L_X6_follow_2 n0 n1 x2 n g x3 = some x → ob_Ev C 28 [(0, ob_rv C n0), (1, ob_rv C n1), (2, .int x2)] [] x → ob_Ev C 2 [(0, ob_rv C n0), (1, ob_rv C n1), (2, .int x2), (3, .int x3)] [] g := by
  intro n
  induction n with
  | zero => intro g x3 x h; exact ob_no h
  | succ n ih => intro g x3 x h k0; exact lb_X6_follow_2 F ih h k0
def Lb_X6_follow_54 (rec : ob_St → Int32 → Option (ob_St)) (g : ob_St) (n0 : Nat) (n1 : Nat) (x2 : Int32) (x3 : Int32) (x4 : Int32) : Option (ob_St) :=
  (if x3 < x4 then (some g) else ((f_X11_nodeAt x3 x4).bind fun v11 => (ob_ck 6 n0 (f_X6_pass g n0 n1 x3 v11 x2)).bind fun g12 => rec g12 (x4 + 1)))
def L_X6_follow_54 (n0 : Nat) (n1 : Nat) (x2 : Int32) (x3 : Int32) : Nat → ob_St → Int32 → Option (ob_St)
  | 0, _, _ => none
  | n + 1, g, x4 => Lb_X6_follow_54 (L_X6_follow_54 n0 n1 x2 x3 n) g n0 n1 x2 x3 x4
theorem lb_X6_follow_54 {C : ob_Cx} {rec : ob_St → Int32 → Option (ob_St)} (F : ob_Fx C cX6_follow 5 RX6 none 2 48) {g : ob_St} {n0 : Nat} {n1 : Nat} {x2 : Int32} {x3 : Int32} {x4 : Int32} {x : (ob_St)} (hr : ∀ {g : ob_St} {x4 : Int32} {x : (ob_St)}, rec g x4 = some x → ob_Ev C 79 [(0, ob_rv C n0), (1, ob_rv C n1), (2, .int x2), (3, .int x3)] [] x → ob_Ev C 54 [(0, ob_rv C n0), (1, ob_rv C n1), (2, .int x2), (3, .int x3), (4, .int x4)] [] g) (h : Lb_X6_follow_54 rec g n0 n1 x2 x3 x4 = some x) (k0 : ob_Ev C 79 [(0, ob_rv C n0), (1, ob_rv C n1), (2, .int x2), (3, .int x3)] [] x) : ob_Ev C 54 [(0, ob_rv C n0), (1, ob_rv C n1), (2, .int x2), (3, .int x3), (4, .int x4)] [] g := by
  unfold Lb_X6_follow_54 at h
  refine ob_iload F 4 dX6_follow_54 rfl ?_
  refine ob_iload_n F 3 dX6_follow_56 rfl ?_
  refine ob_icmp_gt F 79 dX6_follow_57 (by decide) h (fun h => ?_) (fun h => ?_)
  · obtain rfl := Option.some.inj h
    exact ob_sub [0, 1, 2, 3] rfl (k0)
  · refine ob_rload_n F 0 dX6_follow_60 rfl ?_
    refine ob_rload_n F 1 dX6_follow_61 rfl ?_
    refine ob_iload_n F 3 dX6_follow_62 rfl ?_
    refine ob_iload_n F 3 dX6_follow_63 rfl ?_
    refine ob_iload F 4 dX6_follow_64 rfl ?_
    refine ob_cNi F dX6_follow_66 im_X11_nodeAt (by decide +kernel) h (fun b hb => t_X11_nodeAt hb) rfl rfl (Nat.le_of_ble_eq_true rfl) (by decide) fun v11 h => ?_
    refine ob_iload_n F 2 dX6_follow_69 rfl ?_
    refine ob_cVvS F dX6_follow_70 im_X6_pass tw4_47 h (fun b hb => t_X6_pass hb) rfl rfl (Nat.le_of_ble_eq_true rfl) (by decide) fun g12 h => ?_
    refine ob_iinc F (v := (x4 + 1)) (ls2 := [(4, .int (x4 + 1)), (0, ob_rv C n0), (1, ob_rv C n1), (2, .int x2), (3, .int x3)]) 4 dX6_follow_73 rfl rfl (by decide) rfl ?_
    refine ob_goto F 54 dX6_follow_76 (by decide) ?_
    exact ob_sub [1, 2, 3, 4, 0] rfl (hr h k0)
theorem l_X6_follow_54 {C : ob_Cx} (F : ob_Fx C cX6_follow 5 RX6 none 2 48) {n0 : Nat} {n1 : Nat} {x2 : Int32} {x3 : Int32} : ∀ (n : Nat) {g : ob_St} {x4 : Int32} {x : (ob_St)}, L_X6_follow_54 n0 n1 x2 x3 n g x4 = some x → ob_Ev C 79 [(0, ob_rv C n0), (1, ob_rv C n1), (2, .int x2), (3, .int x3)] [] x → ob_Ev C 54 [(0, ob_rv C n0), (1, ob_rv C n1), (2, .int x2), (3, .int x3), (4, .int x4)] [] g := by
  intro n
  induction n with
  | zero => intro g x4 x h; exact ob_no h
  | succ n ih => intro g x4 x h k0; exact lb_X6_follow_54 F ih h k0
def Lb_X6_follow_37 (rec : ob_St → Int32 → Option (ob_St)) (g : ob_St) (n0 : Nat) (n1 : Nat) (x2 : Int32) (x3 : Int32) : Option (ob_St) :=
  (ob_gR 6 n0 0).bind fun v8 => (ob_gR 3 v8 0).bind fun v9 => (ob_gI g 5 v9 5).bind fun v10 => (if v10 < x3 then (some g) else ((L_X6_follow_54 n0 n1 x2 x3 ob_FU g 0).bind fun x_13 => rec x_13 (x3 + 1)))
def L_X6_follow_37 (n0 : Nat) (n1 : Nat) (x2 : Int32) : Nat → ob_St → Int32 → Option (ob_St)
  | 0, _, _ => none
  | n + 1, g, x3 => Lb_X6_follow_37 (L_X6_follow_37 n0 n1 x2 n) g n0 n1 x2 x3
theorem lb_X6_follow_37 {C : ob_Cx} {rec : ob_St → Int32 → Option (ob_St)} (F : ob_Fx C cX6_follow 5 RX6 none 2 48) {g : ob_St} {n0 : Nat} {n1 : Nat} {x2 : Int32} {x3 : Int32} {x : (ob_St)} (hr : ∀ {g : ob_St} {x3 : Int32} {x : (ob_St)}, rec g x3 = some x → ob_Ev C 85 [] [] x → ob_Ev C 37 [(0, ob_rv C n0), (1, ob_rv C n1), (2, .int x2), (3, .int x3)] [] g) (h : Lb_X6_follow_37 rec g n0 n1 x2 x3 = some x) (k0 : ob_Ev C 85 [] [] x) : ob_Ev C 37 [(0, ob_rv C n0), (1, ob_rv C n1), (2, .int x2), (3, .int x3)] [] g := by
  unfold Lb_X6_follow_37 at h
  refine ob_iload_n F 3 dX6_follow_37 rfl ?_
  refine ob_rload_n F 0 dX6_follow_38 rfl ?_
  refine ob_getR F dX6_follow_39 fl_X6_18 h fun v8 h => ?_
  refine ob_getR F dX6_follow_42 fl_X6_22 h fun v9 h => ?_
  refine ob_getI F dX6_follow_45 fl_X6_28 h fun v10 h => ?_
  refine ob_icmp_gt F 85 dX6_follow_48 (by decide) h (fun h => ?_) (fun h => ?_)
  · obtain rfl := Option.some.inj h
    exact ob_sub [] rfl (k0)
  · refine ob_iconst F (v := 0) dX6_follow_51 (by decide) ?_
    refine ob_istore F (ls2 := [(4, .int 0), (0, ob_rv C n0), (1, ob_rv C n1), (2, .int x2), (3, .int x3)]) dX6_follow_52 (by decide) rfl ?_
    obtain ⟨x_13, hx, h⟩ := Option.bind_eq_some_iff.mp h
    refine ob_sub [1, 2, 3, 4, 0] rfl (l_X6_follow_54 F ob_FU hx ?_)
    refine ob_iinc F (v := (x3 + 1)) (ls2 := [(3, .int (x3 + 1)), (0, ob_rv C n0), (1, ob_rv C n1), (2, .int x2)]) 3 dX6_follow_79 rfl rfl (by decide) rfl ?_
    refine ob_goto F 37 dX6_follow_82 (by decide) ?_
    exact ob_sub [1, 2, 3, 0] rfl (hr h k0)
theorem l_X6_follow_37 {C : ob_Cx} (F : ob_Fx C cX6_follow 5 RX6 none 2 48) {n0 : Nat} {n1 : Nat} {x2 : Int32} : ∀ (n : Nat) {g : ob_St} {x3 : Int32} {x : (ob_St)}, L_X6_follow_37 n0 n1 x2 n g x3 = some x → ob_Ev C 85 [] [] x → ob_Ev C 37 [(0, ob_rv C n0), (1, ob_rv C n1), (2, .int x2), (3, .int x3)] [] g := by
  intro n
  induction n with
  | zero => intro g x3 x h; exact ob_no h
  | succ n ih => intro g x3 x h k0; exact lb_X6_follow_37 F ih h k0
def f_X6_follow (g : ob_St) (n0 : Nat) (n1 : Nat) (x2 : Int32) : Option ob_St :=
  (L_X6_follow_2 n0 n1 x2 ob_FU g 0).bind fun x_5 => (ob_gR 6 n0 1).bind fun v6 => (ob_wL x_5 v6 0 1).bind fun g7 => (L_X6_follow_37 n0 n1 x2 ob_FU g7 0).bind fun x_14 => some x_14
theorem b_X6_follow_0 {C : ob_Cx} (F : ob_Fx C cX6_follow 5 RX6 none 2 48) {g : ob_St} {n0 : Nat} {n1 : Nat} {x2 : Int32} {r : ob_St} (h : f_X6_follow g n0 n1 x2 = some r) (k : ob_Rt C none r) : ob_Ev C 0 [(0, ob_rv C n0), (1, ob_rv C n1), (2, .int x2)] [] g := by
  unfold f_X6_follow at h
  refine ob_iconst F (v := 0) dX6_follow_0 (by decide) ?_
  refine ob_istore_n F (ls2 := [(3, .int 0), (0, ob_rv C n0), (1, ob_rv C n1), (2, .int x2)]) dX6_follow_1 (by decide) rfl ?_
  obtain ⟨x_5, hx, h⟩ := Option.bind_eq_some_iff.mp h
  refine ob_sub [1, 2, 3, 0] rfl (l_X6_follow_2 F ob_FU hx ?_)
  refine ob_rload_n F 0 dX6_follow_28 rfl ?_
  refine ob_getR F dX6_follow_29 fl_X6_9 h fun v6 h => ?_
  refine ob_iconst F (v := 0) dX6_follow_32 (by decide) ?_
  refine ob_lconst F (v := 1) dX6_follow_33 (by decide) ?_
  refine ob_last F dX6_follow_34 h fun g7 h => ?_
  refine ob_iconst F (v := 0) dX6_follow_35 (by decide) ?_
  refine ob_istore_n F (ls2 := [(3, .int 0), (0, ob_rv C n0), (1, ob_rv C n1), (2, .int x2)]) dX6_follow_36 (by decide) rfl ?_
  obtain ⟨x_14, hx, h⟩ := Option.bind_eq_some_iff.mp h
  refine ob_sub [1, 2, 3, 0] rfl (l_X6_follow_37 F ob_FU hx ?_)
  obtain rfl := Option.some.inj h
  exact ob_vret F dX6_follow_85 k
theorem t_X6_follow {cf : ob_Cf} {g : ob_St} {n0 : Nat} {n1 : Nat} {x2 : Int32} {r : ob_St} (h : f_X6_follow g n0 n1 x2 = some r) : ob_Mt cf yX6_follow cX6_follow 5 none 2 48 [ob_rw cf n0, ob_rw cf n1, .int x2] g none r := by
  refine ob_enter (by decide) (Nat.le_of_ble_eq_true rfl) rfl ?_
  intro C hC F k
  subst hC
  exact b_X6_follow_0 F h k
-- X6_comingTo
def f_X6_comingTo (g : ob_St) (n0 : Nat) (x1 : Int32) : Option Int64 :=
  (ob_gR 6 n0 1).bind fun v1 => (ob_rL g v1 x1).bind fun v2 => (ob_gR 6 n0 2).bind fun v3 => (ob_rL g v3 x1).bind fun v4 => some (v2 + v4)
theorem b_X6_comingTo_0 {C : ob_Cx} (F : ob_Fx C cX6_comingTo 2 RX6 (some .long) 0 0) {g : ob_St} {n0 : Nat} {x1 : Int32} {r : Int64} (h : f_X6_comingTo g n0 x1 = some r) (k : ob_Rt C (some (.long r)) g) : ob_Ev C 0 [(0, ob_rv C n0), (1, .int x1)] [] g := by
  unfold f_X6_comingTo at h
  refine ob_rload_n F 0 dX6_comingTo_0 rfl ?_
  refine ob_getR F dX6_comingTo_1 fl_X6_9 h fun v1 h => ?_
  refine ob_iload_n F 1 dX6_comingTo_4 rfl ?_
  refine ob_lald F dX6_comingTo_5 h fun v2 h => ?_
  refine ob_rload_n F 0 dX6_comingTo_6 rfl ?_
  refine ob_getR F dX6_comingTo_7 fl_X6_15 h fun v3 h => ?_
  refine ob_iload_n F 1 dX6_comingTo_10 rfl ?_
  refine ob_lald F dX6_comingTo_11 h fun v4 h => ?_
  refine ob_ladd F dX6_comingTo_12 ?_
  obtain rfl := Option.some.inj h
  exact ob_lret F dX6_comingTo_13 k
theorem t_X6_comingTo {cf : ob_Cf} {g : ob_St} {n0 : Nat} {x1 : Int32} {r : Int64} (h : f_X6_comingTo g n0 x1 = some r) : ob_Mt cf yX6_comingTo cX6_comingTo 2 (some .long) 0 0 [ob_rw cf n0, .int x1] g (some (.long r)) g := by
  refine ob_enter (by decide) (Nat.le_of_ble_eq_true rfl) rfl ?_
  intro C hC F k
  subst hC
  exact b_X6_comingTo_0 F h k
-- X11_ways
def f_X11_ways (g : ob_St) (n0 : Nat) (x1 : Int32) (x2 : Int32) (x3 : Int32) : Option (Int32 × ob_St) :=
  (ob_ck 11 n0 (f_X11_isOption g n0 x1)).bind fun v1 => (if v1 = 0 then (some ((-1), g)) else ((ob_ck 11 n0 (f_X11_isNode g n0 x2 x3)).bind fun v2 => (if v2 = 0 then (some ((-1), g)) else ((ob_gR 11 n0 9).bind fun v3 => (ob_ck 11 n0 (f_X11_sheetOf g n0 x1)).bind fun v4 => (ob_ck 6 v3 (f_X6_follow v4.2 v3 v4.1 1)).bind fun g5 => (ob_gR 11 n0 9).bind fun v6 => (f_X11_nodeAt x2 x3).bind fun v7 => (ob_ck 6 v6 (f_X6_comingTo g5 v6 v7)).bind fun v8 => some ((Int64.toInt32 v8), g5)))))
theorem b_X11_ways_0 {C : ob_Cx} (F : ob_Fx C cX11_ways 4 RX11 (some .int) 7 175) {g : ob_St} {n0 : Nat} {x1 : Int32} {x2 : Int32} {x3 : Int32} {r : (Int32 × ob_St)} (h : f_X11_ways g n0 x1 x2 x3 = some r) (k : ob_Rt C (some (.int r.1)) r.2) : ob_Ev C 0 [(0, ob_rv C n0), (1, .int x1), (2, .int x2), (3, .int x3)] [] g := by
  unfold f_X11_ways at h
  refine ob_rload_n F 0 dX11_ways_0 rfl ?_
  refine ob_iload_n F 1 dX11_ways_1 rfl ?_
  refine ob_cVi F dX11_ways_2 im_X11_isOption tw3_176 h (fun b hb => t_X11_isOption hb) rfl rfl (Nat.le_of_ble_eq_true rfl) (by decide) fun v1 h => ?_
  refine ob_if_eq F 17 dX11_ways_5 (by decide) h (fun h => ?_) (fun h => ?_)
  · refine ob_iconst F (v := (-1)) dX11_ways_17 (by decide) ?_
    obtain rfl := Option.some.inj h
    exact ob_iret F dX11_ways_18 k
  · refine ob_rload_n F 0 dX11_ways_8 rfl ?_
    refine ob_iload_n F 2 dX11_ways_9 rfl ?_
    refine ob_iload_n F 3 dX11_ways_10 rfl ?_
    refine ob_cVi F dX11_ways_11 im_X11_isNode tw3_188 h (fun b hb => t_X11_isNode hb) rfl rfl (Nat.le_of_ble_eq_true rfl) (by decide) fun v2 h => ?_
    refine ob_if_ne F 19 dX11_ways_14 (by decide) h (fun h => ?_) (fun h => ?_)
    · refine ob_rload_n F 0 dX11_ways_19 rfl ?_
      refine ob_getR F dX11_ways_20 fl_X11_65 h fun v3 h => ?_
      refine ob_rload_n F 0 dX11_ways_23 rfl ?_
      refine ob_iload_n F 1 dX11_ways_24 rfl ?_
      refine ob_cVrS F dX11_ways_25 im_X11_sheetOf tw4_30 h (fun b hb => t_X11_sheetOf hb) rfl rfl (Nat.le_of_ble_eq_true rfl) (by decide) fun v4 h => ?_
      refine ob_iconst F (v := 1) dX11_ways_28 (by decide) ?_
      refine ob_cVvS F dX11_ways_29 im_X6_follow tw4_42 h (fun b hb => t_X6_follow hb) rfl rfl (Nat.le_of_ble_eq_true rfl) (by decide) fun g5 h => ?_
      refine ob_rload_n F 0 dX11_ways_32 rfl ?_
      refine ob_getR F dX11_ways_33 fl_X11_65 h fun v6 h => ?_
      refine ob_iload_n F 2 dX11_ways_36 rfl ?_
      refine ob_iload_n F 3 dX11_ways_37 rfl ?_
      refine ob_cSi F dX11_ways_38 im_X11_nodeAt tw4_25 h (fun b hb => t_X11_nodeAt hb) rfl rfl (Nat.le_of_ble_eq_true rfl) (by decide) fun v7 h => ?_
      refine ob_cVl F dX11_ways_41 im_X6_comingTo tw4_57 h (fun b hb => t_X6_comingTo hb) rfl rfl (Nat.le_of_ble_eq_true rfl) (by decide) fun v8 h => ?_
      refine ob_l2i F dX11_ways_44 ?_
      obtain rfl := Option.some.inj h
      exact ob_iret F dX11_ways_45 k
    · refine ob_iconst F (v := (-1)) dX11_ways_17 (by decide) ?_
      obtain rfl := Option.some.inj h
      exact ob_iret F dX11_ways_18 k
theorem t_X11_ways {cf : ob_Cf} {g : ob_St} {n0 : Nat} {x1 : Int32} {x2 : Int32} {x3 : Int32} {r : (Int32 × ob_St)} (h : f_X11_ways g n0 x1 x2 x3 = some r) : ob_Mt cf yX11_ways cX11_ways 4 (some .int) 7 175 [ob_rw cf n0, .int x1, .int x2, .int x3] g (some (.int r.1)) r.2 := by
  refine ob_enter (by decide) (Nat.le_of_ble_eq_true rfl) (Or.inl rfl) ?_
  intro C hC F k
  subst hC
  exact b_X11_ways_0 F h k
-- X6_endingAt
def B_X6_endingAt_82 (rec : Int64 → Int32 → Option (Int64)) (g : ob_St) (n0 : Nat) (n1 : Nat) (x2 : Int32) (x3 : Int32) (y4 : Int64) (x6 : Int32) : Option (Int64) :=
  rec y4 (x6 + 1)
theorem b_X6_endingAt_82 {C : ob_Cx} {rec : Int64 → Int32 → Option (Int64)} (F : ob_Fx C cX6_endingAt 8 RX6 (some .long) 1 22) {g : ob_St} {n0 : Nat} {n1 : Nat} {x2 : Int32} {x3 : Int32} {y4 : Int64} {x6 : Int32} {x : (Int64)} (hr : ∀ {y4 : Int64} {x6 : Int32} {x : (Int64)}, rec y4 x6 = some x → ob_Ev C 88 [(4, .long x)] [] g → ob_Ev C 6 [(0, ob_rv C n0), (1, ob_rv C n1), (2, .int x2), (3, .int x3), (4, .long y4), (6, .int x6)] [] g) (h : B_X6_endingAt_82 rec g n0 n1 x2 x3 y4 x6 = some x) (k0 : ob_Ev C 88 [(4, .long x)] [] g) : ob_Ev C 82 [(0, ob_rv C n0), (1, ob_rv C n1), (2, .int x2), (3, .int x3), (4, .long y4), (6, .int x6)] [] g := by
  unfold B_X6_endingAt_82 at h
  refine ob_iinc F (v := (x6 + 1)) (ls2 := [(6, .int (x6 + 1)), (0, ob_rv C n0), (1, ob_rv C n1), (2, .int x2), (3, .int x3), (4, .long y4)]) 5 dX6_endingAt_82 rfl rfl (by decide) rfl ?_
  refine ob_goto F 6 dX6_endingAt_85 (by decide) ?_
  exact ob_sub [1, 2, 3, 4, 5, 0] rfl (hr h k0)
def B_X6_endingAt_51 (rec : Int64 → Int32 → Option (Int64)) (g : ob_St) (n0 : Nat) (n1 : Nat) (x2 : Int32) (x3 : Int32) (y4 : Int64) (x6 : Int32) (x7 : Int32) : Option (Int64) :=
  (ob_gR 9 n1 1).bind fun v6 => (ob_gR 4 v6 1).bind fun v7 => (ob_rI g 14 v7 x7).bind fun v8 => (ob_ck 6 n0 (f_X6_endOf g n0 v8 x2)).bind fun v9 => (if v9 = x3 then ((ob_gR 6 n0 2).bind fun v10 => (ob_rL g v10 x7).bind fun v11 => B_X6_endingAt_82 rec g n0 n1 x2 x3 (y4 + v11) x6) else (B_X6_endingAt_82 rec g n0 n1 x2 x3 y4 x6))
theorem b_X6_endingAt_51 {C : ob_Cx} {rec : Int64 → Int32 → Option (Int64)} (F : ob_Fx C cX6_endingAt 8 RX6 (some .long) 1 22) {g : ob_St} {n0 : Nat} {n1 : Nat} {x2 : Int32} {x3 : Int32} {y4 : Int64} {x6 : Int32} {x7 : Int32} {x : (Int64)} (hr : ∀ {y4 : Int64} {x6 : Int32} {x : (Int64)}, rec y4 x6 = some x → ob_Ev C 88 [(4, .long x)] [] g → ob_Ev C 6 [(0, ob_rv C n0), (1, ob_rv C n1), (2, .int x2), (3, .int x3), (4, .long y4), (6, .int x6)] [] g) (h : B_X6_endingAt_51 rec g n0 n1 x2 x3 y4 x6 x7 = some x) (k0 : ob_Ev C 88 [(4, .long x)] [] g) : ob_Ev C 51 [(0, ob_rv C n0), (1, ob_rv C n1), (2, .int x2), (3, .int x3), (4, .long y4), (6, .int x6), (7, .int x7)] [] g := by
  unfold B_X6_endingAt_51 at h
  refine ob_rload_n F 0 dX6_endingAt_51 rfl ?_
  refine ob_rload_n F 1 dX6_endingAt_52 rfl ?_
  refine ob_getR F dX6_endingAt_53 fl_X6_69 h fun v6 h => ?_
  refine ob_getR F dX6_endingAt_56 fl_X6_48 h fun v7 h => ?_
  refine ob_iload F 6 dX6_endingAt_59 rfl ?_
  refine ob_iald F dX6_endingAt_61 h fun v8 h => ?_
  refine ob_iload_n F 2 dX6_endingAt_62 rfl ?_
  refine ob_cVi F dX6_endingAt_63 im_X6_endOf tw4_51 h (fun b hb => t_X6_endOf hb) rfl rfl (Nat.le_of_ble_eq_true rfl) (by decide) fun v9 h => ?_
  refine ob_iload_n F 3 dX6_endingAt_66 rfl ?_
  refine ob_icmp_ne F 82 dX6_endingAt_67 (by decide) h (fun h => ?_) (fun h => ?_)
  · exact ob_sub [0, 1, 2, 3, 4, 5] rfl (b_X6_endingAt_82 F hr h k0)
  · refine ob_lload F 4 dX6_endingAt_70 rfl ?_
    refine ob_rload_n F 0 dX6_endingAt_72 rfl ?_
    refine ob_getR F dX6_endingAt_73 fl_X6_15 h fun v10 h => ?_
    refine ob_iload F 6 dX6_endingAt_76 rfl ?_
    refine ob_lald F dX6_endingAt_78 h fun v11 h => ?_
    refine ob_ladd F dX6_endingAt_79 ?_
    refine ob_lstore F (ls2 := [(4, .long (y4 + v11)), (0, ob_rv C n0), (1, ob_rv C n1), (2, .int x2), (3, .int x3), (6, .int x6), (7, .int x7)]) dX6_endingAt_80 (by decide) rfl ?_
    exact ob_sub [1, 2, 3, 4, 0, 5] rfl (b_X6_endingAt_82 F hr h k0)
def Lb_X6_endingAt_6 (rec : Int64 → Int32 → Option (Int64)) (g : ob_St) (n0 : Nat) (n1 : Nat) (x2 : Int32) (x3 : Int32) (y4 : Int64) (x6 : Int32) : Option (Int64) :=
  (if x2 < x6 then (some y4) else ((f_X11_nodeAt x2 x6).bind fun v1 => (ob_gR 9 n1 2).bind fun v2 => (ob_gR 4 v2 1).bind fun v3 => (ob_rI g 14 v3 v1).bind fun v4 => (ob_ck 6 n0 (f_X6_endOf g n0 v4 x2)).bind fun v5 => (if v5 = x3 then ((ob_gR 6 n0 1).bind fun v12 => (ob_rL g v12 v1).bind fun v13 => B_X6_endingAt_51 rec g n0 n1 x2 x3 (y4 + v13) x6 v1) else (B_X6_endingAt_51 rec g n0 n1 x2 x3 y4 x6 v1))))
def L_X6_endingAt_6 (g : ob_St) (n0 : Nat) (n1 : Nat) (x2 : Int32) (x3 : Int32) : Nat → Int64 → Int32 → Option (Int64)
  | 0, _, _ => none
  | n + 1, y4, x6 => Lb_X6_endingAt_6 (L_X6_endingAt_6 g n0 n1 x2 x3 n) g n0 n1 x2 x3 y4 x6
theorem lb_X6_endingAt_6 {C : ob_Cx} {rec : Int64 → Int32 → Option (Int64)} (F : ob_Fx C cX6_endingAt 8 RX6 (some .long) 1 22) {g : ob_St} {n0 : Nat} {n1 : Nat} {x2 : Int32} {x3 : Int32} {y4 : Int64} {x6 : Int32} {x : (Int64)} (hr : ∀ {y4 : Int64} {x6 : Int32} {x : (Int64)}, rec y4 x6 = some x → ob_Ev C 88 [(4, .long x)] [] g → ob_Ev C 6 [(0, ob_rv C n0), (1, ob_rv C n1), (2, .int x2), (3, .int x3), (4, .long y4), (6, .int x6)] [] g) (h : Lb_X6_endingAt_6 rec g n0 n1 x2 x3 y4 x6 = some x) (k0 : ob_Ev C 88 [(4, .long x)] [] g) : ob_Ev C 6 [(0, ob_rv C n0), (1, ob_rv C n1), (2, .int x2), (3, .int x3), (4, .long y4), (6, .int x6)] [] g := by
  unfold Lb_X6_endingAt_6 at h
  refine ob_iload F 5 dX6_endingAt_6 rfl ?_
  refine ob_iload_n F 2 dX6_endingAt_8 rfl ?_
  refine ob_icmp_gt F 88 dX6_endingAt_9 (by decide) h (fun h => ?_) (fun h => ?_)
  · obtain rfl := Option.some.inj h
    exact ob_sub [4] rfl (k0)
  · refine ob_iload_n F 2 dX6_endingAt_12 rfl ?_
    refine ob_iload F 5 dX6_endingAt_13 rfl ?_
    refine ob_cNi F dX6_endingAt_15 im_X11_nodeAt (by decide +kernel) h (fun b hb => t_X11_nodeAt hb) rfl rfl (Nat.le_of_ble_eq_true rfl) (by decide) fun v1 h => ?_
    refine ob_istore F (ls2 := [(7, .int v1), (0, ob_rv C n0), (1, ob_rv C n1), (2, .int x2), (3, .int x3), (4, .long y4), (6, .int x6)]) dX6_endingAt_18 (by decide) rfl ?_
    refine ob_rload_n F 1 dX6_endingAt_20 rfl ?_
    refine ob_rload_n F 2 dX6_endingAt_21 rfl ?_
    refine ob_getR F dX6_endingAt_22 fl_X6_42 h fun v2 h => ?_
    refine ob_getR F dX6_endingAt_25 fl_X6_48 h fun v3 h => ?_
    refine ob_iload F 0 dX6_endingAt_28 rfl ?_
    refine ob_iald F dX6_endingAt_30 h fun v4 h => ?_
    refine ob_iload_n F 3 dX6_endingAt_31 rfl ?_
    refine ob_cVi F dX6_endingAt_32 im_X6_endOf tw4_51 h (fun b hb => t_X6_endOf hb) rfl rfl (Nat.le_of_ble_eq_true rfl) (by decide) fun v5 h => ?_
    refine ob_iload_n F 4 dX6_endingAt_35 rfl ?_
    refine ob_icmp_ne F 51 dX6_endingAt_36 (by decide) h (fun h => ?_) (fun h => ?_)
    · exact ob_sub [1, 2, 3, 4, 5, 6, 0] rfl (b_X6_endingAt_51 F hr h k0)
    · refine ob_lload F 5 dX6_endingAt_39 rfl ?_
      refine ob_rload_n F 1 dX6_endingAt_41 rfl ?_
      refine ob_getR F dX6_endingAt_42 fl_X6_9 h fun v12 h => ?_
      refine ob_iload F 0 dX6_endingAt_45 rfl ?_
      refine ob_lald F dX6_endingAt_47 h fun v13 h => ?_
      refine ob_ladd F dX6_endingAt_48 ?_
      refine ob_lstore F (ls2 := [(4, .long (y4 + v13)), (7, .int v1), (0, ob_rv C n0), (1, ob_rv C n1), (2, .int x2), (3, .int x3), (6, .int x6)]) dX6_endingAt_49 (by decide) rfl ?_
      exact ob_sub [2, 3, 4, 5, 0, 6, 1] rfl (b_X6_endingAt_51 F hr h k0)
theorem l_X6_endingAt_6 {C : ob_Cx} (F : ob_Fx C cX6_endingAt 8 RX6 (some .long) 1 22) {g : ob_St} {n0 : Nat} {n1 : Nat} {x2 : Int32} {x3 : Int32} : ∀ (n : Nat) {y4 : Int64} {x6 : Int32} {x : (Int64)}, L_X6_endingAt_6 g n0 n1 x2 x3 n y4 x6 = some x → ob_Ev C 88 [(4, .long x)] [] g → ob_Ev C 6 [(0, ob_rv C n0), (1, ob_rv C n1), (2, .int x2), (3, .int x3), (4, .long y4), (6, .int x6)] [] g := by
  intro n
  induction n with
  | zero => intro y4 x6 x h; exact ob_no h
  | succ n ih => intro y4 x6 x h k0; exact lb_X6_endingAt_6 F ih h k0
def f_X6_endingAt (g : ob_St) (n0 : Nat) (n1 : Nat) (x2 : Int32) (x3 : Int32) : Option Int64 :=
  (L_X6_endingAt_6 g n0 n1 x2 x3 ob_FU 0 0).bind fun x_14 => some x_14
theorem b_X6_endingAt_0 {C : ob_Cx} (F : ob_Fx C cX6_endingAt 8 RX6 (some .long) 1 22) {g : ob_St} {n0 : Nat} {n1 : Nat} {x2 : Int32} {x3 : Int32} {r : Int64} (h : f_X6_endingAt g n0 n1 x2 x3 = some r) (k : ob_Rt C (some (.long r)) g) : ob_Ev C 0 [(0, ob_rv C n0), (1, ob_rv C n1), (2, .int x2), (3, .int x3)] [] g := by
  unfold f_X6_endingAt at h
  refine ob_lconst F (v := 0) dX6_endingAt_0 (by decide) ?_
  refine ob_lstore F (ls2 := [(4, .long 0), (0, ob_rv C n0), (1, ob_rv C n1), (2, .int x2), (3, .int x3)]) dX6_endingAt_1 (by decide) rfl ?_
  refine ob_iconst F (v := 0) dX6_endingAt_3 (by decide) ?_
  refine ob_istore F (ls2 := [(6, .int 0), (4, .long 0), (0, ob_rv C n0), (1, ob_rv C n1), (2, .int x2), (3, .int x3)]) dX6_endingAt_4 (by decide) rfl ?_
  obtain ⟨x_14, hx, h⟩ := Option.bind_eq_some_iff.mp h
  refine ob_sub [2, 3, 4, 5, 1, 0] rfl (l_X6_endingAt_6 F ob_FU hx ?_)
  refine ob_lload F 0 dX6_endingAt_88 rfl ?_
  obtain rfl := Option.some.inj h
  exact ob_lret F dX6_endingAt_90 k
theorem t_X6_endingAt {cf : ob_Cf} {g : ob_St} {n0 : Nat} {n1 : Nat} {x2 : Int32} {x3 : Int32} {r : Int64} (h : f_X6_endingAt g n0 n1 x2 x3 = some r) : ob_Mt cf yX6_endingAt cX6_endingAt 8 (some .long) 1 22 [ob_rw cf n0, ob_rw cf n1, .int x2, .int x3] g (some (.long r)) g := by
  refine ob_enter (by decide) (Nat.le_of_ble_eq_true rfl) rfl ?_
  intro C hC F k
  subst hC
  exact b_X6_endingAt_0 F h k
-- X6_lifeOf
def Lb_X6_lifeOf_23 (rec : Int64 → Int32 → Option (Int64)) (g : ob_St) (n0 : Nat) (n1 : Nat) (x4 : Int32) (y2 : Int64) (x5 : Int32) : Option (Int64) :=
  (if 4 ≤ x5 then (some y2) else ((ob_ck 6 n0 (f_X6_endingAt g n0 n1 x4 x5)).bind fun v4 => (ob_gR 6 n0 0).bind fun v5 => (ob_ck 3 v5 (f_X3_scaleAt g v5 x4)).bind fun v6 => ob_let (y2 + (((Int32.toInt64 x4) * v4) * v6)) fun z7 => rec z7 (x5 + 1)))
def L_X6_lifeOf_23 (g : ob_St) (n0 : Nat) (n1 : Nat) (x4 : Int32) : Nat → Int64 → Int32 → Option (Int64)
  | 0, _, _ => none
  | n + 1, y2, x5 => Lb_X6_lifeOf_23 (L_X6_lifeOf_23 g n0 n1 x4 n) g n0 n1 x4 y2 x5
theorem lb_X6_lifeOf_23 {C : ob_Cx} {rec : Int64 → Int32 → Option (Int64)} (F : ob_Fx C cX6_lifeOf 6 RX6 (some .long) 2 49) {g : ob_St} {n0 : Nat} {n1 : Nat} {y2 : Int64} {x4 : Int32} {x5 : Int32} {x : (Int64)} (hr : ∀ {y2 : Int64} {x5 : Int32} {x : (Int64)}, rec y2 x5 = some x → ob_Ev C 61 [(0, ob_rv C n0), (1, ob_rv C n1), (2, .long x), (4, .int x4)] [] g → ob_Ev C 23 [(0, ob_rv C n0), (1, ob_rv C n1), (2, .long y2), (4, .int x4), (5, .int x5)] [] g) (h : Lb_X6_lifeOf_23 rec g n0 n1 x4 y2 x5 = some x) (k0 : ob_Ev C 61 [(0, ob_rv C n0), (1, ob_rv C n1), (2, .long x), (4, .int x4)] [] g) : ob_Ev C 23 [(0, ob_rv C n0), (1, ob_rv C n1), (2, .long y2), (4, .int x4), (5, .int x5)] [] g := by
  unfold Lb_X6_lifeOf_23 at h
  refine ob_iload F 4 dX6_lifeOf_23 rfl ?_
  refine ob_iconst F (v := 4) dX6_lifeOf_25 (by decide) ?_
  refine ob_icmp_ge F 61 dX6_lifeOf_26 (by decide) h (fun h => ?_) (fun h => ?_)
  · obtain rfl := Option.some.inj h
    exact ob_sub [0, 1, 2, 3] rfl (k0)
  · refine ob_lload_n F 2 dX6_lifeOf_29 rfl ?_
    refine ob_iload F 3 dX6_lifeOf_30 rfl ?_
    refine ob_i2l F dX6_lifeOf_32 ?_
    refine ob_rload_n F 0 dX6_lifeOf_33 rfl ?_
    refine ob_rload_n F 1 dX6_lifeOf_34 rfl ?_
    refine ob_iload F 3 dX6_lifeOf_35 rfl ?_
    refine ob_iload F 4 dX6_lifeOf_37 rfl ?_
    refine ob_cVl F dX6_lifeOf_39 im_X6_endingAt tw5_108 h (fun b hb => t_X6_endingAt hb) rfl rfl (Nat.le_of_ble_eq_true rfl) (by decide) fun v4 h => ?_
    refine ob_lmul F dX6_lifeOf_42 ?_
    refine ob_rload_n F 0 dX6_lifeOf_43 rfl ?_
    refine ob_getR F dX6_lifeOf_44 fl_X6_18 h fun v5 h => ?_
    refine ob_iload F 3 dX6_lifeOf_47 rfl ?_
    refine ob_cVl F dX6_lifeOf_49 im_X3_scaleAt tw5_109 h (fun b hb => t_X3_scaleAt hb) rfl rfl (Nat.le_of_ble_eq_true rfl) (by decide) fun v6 h => ?_
    refine ob_lmul F dX6_lifeOf_52 ?_
    refine ob_ladd F dX6_lifeOf_53 ?_
    refine ob_letl h fun z7 h => ?_
    refine ob_lstore_n F (ls2 := [(2, .long z7), (0, ob_rv C n0), (1, ob_rv C n1), (4, .int x4), (5, .int x5)]) dX6_lifeOf_54 (by decide) rfl ?_
    refine ob_iinc F (v := (x5 + 1)) (ls2 := [(5, .int (x5 + 1)), (2, .long z7), (0, ob_rv C n0), (1, ob_rv C n1), (4, .int x4)]) 4 dX6_lifeOf_55 rfl rfl (by decide) rfl ?_
    refine ob_goto F 23 dX6_lifeOf_58 (by decide) ?_
    exact ob_sub [2, 3, 1, 4, 0] rfl (hr h k0)
theorem l_X6_lifeOf_23 {C : ob_Cx} (F : ob_Fx C cX6_lifeOf 6 RX6 (some .long) 2 49) {g : ob_St} {n0 : Nat} {n1 : Nat} {x4 : Int32} : ∀ (n : Nat) {y2 : Int64} {x5 : Int32} {x : (Int64)}, L_X6_lifeOf_23 g n0 n1 x4 n y2 x5 = some x → ob_Ev C 61 [(0, ob_rv C n0), (1, ob_rv C n1), (2, .long x), (4, .int x4)] [] g → ob_Ev C 23 [(0, ob_rv C n0), (1, ob_rv C n1), (2, .long y2), (4, .int x4), (5, .int x5)] [] g := by
  intro n
  induction n with
  | zero => intro y2 x5 x h; exact ob_no h
  | succ n ih => intro y2 x5 x h k0; exact lb_X6_lifeOf_23 F ih h k0
def Lb_X6_lifeOf_5 (rec : Int64 → Int32 → Option (Int64)) (g : ob_St) (n0 : Nat) (n1 : Nat) (y2 : Int64) (x4 : Int32) : Option (Int64) :=
  (ob_gR 6 n0 0).bind fun v1 => (ob_gR 3 v1 0).bind fun v2 => (ob_gI g 5 v2 5).bind fun v3 => (if v3 < x4 then (some y2) else ((L_X6_lifeOf_23 g n0 n1 x4 ob_FU y2 0).bind fun x_8 => rec x_8 (x4 + 1)))
def L_X6_lifeOf_5 (g : ob_St) (n0 : Nat) (n1 : Nat) : Nat → Int64 → Int32 → Option (Int64)
  | 0, _, _ => none
  | n + 1, y2, x4 => Lb_X6_lifeOf_5 (L_X6_lifeOf_5 g n0 n1 n) g n0 n1 y2 x4
theorem lb_X6_lifeOf_5 {C : ob_Cx} {rec : Int64 → Int32 → Option (Int64)} (F : ob_Fx C cX6_lifeOf 6 RX6 (some .long) 2 49) {g : ob_St} {n0 : Nat} {n1 : Nat} {y2 : Int64} {x4 : Int32} {x : (Int64)} (hr : ∀ {y2 : Int64} {x4 : Int32} {x : (Int64)}, rec y2 x4 = some x → ob_Ev C 67 [(2, .long x)] [] g → ob_Ev C 5 [(0, ob_rv C n0), (1, ob_rv C n1), (2, .long y2), (4, .int x4)] [] g) (h : Lb_X6_lifeOf_5 rec g n0 n1 y2 x4 = some x) (k0 : ob_Ev C 67 [(2, .long x)] [] g) : ob_Ev C 5 [(0, ob_rv C n0), (1, ob_rv C n1), (2, .long y2), (4, .int x4)] [] g := by
  unfold Lb_X6_lifeOf_5 at h
  refine ob_iload F 3 dX6_lifeOf_5 rfl ?_
  refine ob_rload_n F 0 dX6_lifeOf_7 rfl ?_
  refine ob_getR F dX6_lifeOf_8 fl_X6_18 h fun v1 h => ?_
  refine ob_getR F dX6_lifeOf_11 fl_X6_22 h fun v2 h => ?_
  refine ob_getI F dX6_lifeOf_14 fl_X6_28 h fun v3 h => ?_
  refine ob_icmp_gt F 67 dX6_lifeOf_17 (by decide) h (fun h => ?_) (fun h => ?_)
  · obtain rfl := Option.some.inj h
    exact ob_sub [2] rfl (k0)
  · refine ob_iconst F (v := 0) dX6_lifeOf_20 (by decide) ?_
    refine ob_istore F (ls2 := [(5, .int 0), (0, ob_rv C n0), (1, ob_rv C n1), (2, .long y2), (4, .int x4)]) dX6_lifeOf_21 (by decide) rfl ?_
    obtain ⟨x_8, hx, h⟩ := Option.bind_eq_some_iff.mp h
    refine ob_sub [1, 2, 3, 4, 0] rfl (l_X6_lifeOf_23 F ob_FU hx ?_)
    refine ob_iinc F (v := (x4 + 1)) (ls2 := [(4, .int (x4 + 1)), (0, ob_rv C n0), (1, ob_rv C n1), (2, .long x_8)]) 3 dX6_lifeOf_61 rfl rfl (by decide) rfl ?_
    refine ob_goto F 5 dX6_lifeOf_64 (by decide) ?_
    exact ob_sub [1, 2, 3, 0] rfl (hr h k0)
theorem l_X6_lifeOf_5 {C : ob_Cx} (F : ob_Fx C cX6_lifeOf 6 RX6 (some .long) 2 49) {g : ob_St} {n0 : Nat} {n1 : Nat} : ∀ (n : Nat) {y2 : Int64} {x4 : Int32} {x : (Int64)}, L_X6_lifeOf_5 g n0 n1 n y2 x4 = some x → ob_Ev C 67 [(2, .long x)] [] g → ob_Ev C 5 [(0, ob_rv C n0), (1, ob_rv C n1), (2, .long y2), (4, .int x4)] [] g := by
  intro n
  induction n with
  | zero => intro y2 x4 x h; exact ob_no h
  | succ n ih => intro y2 x4 x h k0; exact lb_X6_lifeOf_5 F ih h k0
def f_X6_lifeOf (g : ob_St) (n0 : Nat) (n1 : Nat) : Option Int64 :=
  (L_X6_lifeOf_5 g n0 n1 ob_FU 0 1).bind fun x_9 => some x_9
theorem b_X6_lifeOf_0 {C : ob_Cx} (F : ob_Fx C cX6_lifeOf 6 RX6 (some .long) 2 49) {g : ob_St} {n0 : Nat} {n1 : Nat} {r : Int64} (h : f_X6_lifeOf g n0 n1 = some r) (k : ob_Rt C (some (.long r)) g) : ob_Ev C 0 [(0, ob_rv C n0), (1, ob_rv C n1)] [] g := by
  unfold f_X6_lifeOf at h
  refine ob_lconst F (v := 0) dX6_lifeOf_0 (by decide) ?_
  refine ob_lstore_n F (ls2 := [(2, .long 0), (0, ob_rv C n0), (1, ob_rv C n1)]) dX6_lifeOf_1 (by decide) rfl ?_
  refine ob_iconst F (v := 1) dX6_lifeOf_2 (by decide) ?_
  refine ob_istore F (ls2 := [(4, .int 1), (2, .long 0), (0, ob_rv C n0), (1, ob_rv C n1)]) dX6_lifeOf_3 (by decide) rfl ?_
  obtain ⟨x_9, hx, h⟩ := Option.bind_eq_some_iff.mp h
  refine ob_sub [2, 3, 1, 0] rfl (l_X6_lifeOf_5 F ob_FU hx ?_)
  refine ob_lload_n F 0 dX6_lifeOf_67 rfl ?_
  obtain rfl := Option.some.inj h
  exact ob_lret F dX6_lifeOf_68 k
theorem t_X6_lifeOf {cf : ob_Cf} {g : ob_St} {n0 : Nat} {n1 : Nat} {r : Int64} (h : f_X6_lifeOf g n0 n1 = some r) : ob_Mt cf yX6_lifeOf cX6_lifeOf 6 (some .long) 2 49 [ob_rw cf n0, ob_rw cf n1] g (some (.long r)) g := by
  refine ob_enter (by decide) (Nat.le_of_ble_eq_true rfl) rfl ?_
  intro C hC F k
  subst hC
  exact b_X6_lifeOf_0 F h k
-- X11_isPath
def f_X11_isPath (g : ob_St) (n0 : Nat) (x1 : Int32) : Option Int32 :=
  (if x1 < 0 then (some 0) else ((ob_gR 11 n0 3).bind fun v1 => (ob_gI g 5 v1 5).bind fun v2 => (if (1 <<< (v2 &&& 31)) ≤ x1 then (some 0) else (some 1))))
theorem b_X11_isPath_0 {C : ob_Cx} (F : ob_Fx C cX11_isPath 2 RX11 (some .boolean) 0 0) {g : ob_St} {n0 : Nat} {x1 : Int32} {r : Int32} (h : f_X11_isPath g n0 x1 = some r) (k : ob_Rt C (some (.int r)) g) : ob_Ev C 0 [(0, ob_rv C n0), (1, .int x1)] [] g := by
  unfold f_X11_isPath at h
  refine ob_iload_n F 1 dX11_isPath_0 rfl ?_
  refine ob_if_lt F 21 dX11_isPath_1 (by decide) h (fun h => ?_) (fun h => ?_)
  · refine ob_iconst F (v := 0) dX11_isPath_21 (by decide) ?_
    obtain rfl := Option.some.inj h
    exact ob_zret F dX11_isPath_22 (Or.inl rfl) k
  · refine ob_iload_n F 1 dX11_isPath_4 rfl ?_
    refine ob_iconst F (v := 1) dX11_isPath_5 (by decide) ?_
    refine ob_rload_n F 0 dX11_isPath_6 rfl ?_
    refine ob_getR F dX11_isPath_7 fl_X11_23 h fun v1 h => ?_
    refine ob_getI F dX11_isPath_10 fl_X11_111 h fun v2 h => ?_
    refine ob_ishl F dX11_isPath_13 ?_
    refine ob_icmp_ge F 21 dX11_isPath_14 (by decide) h (fun h => ?_) (fun h => ?_)
    · refine ob_iconst F (v := 0) dX11_isPath_21 (by decide) ?_
      obtain rfl := Option.some.inj h
      exact ob_zret F dX11_isPath_22 (Or.inl rfl) k
    · refine ob_iconst F (v := 1) dX11_isPath_17 (by decide) ?_
      refine ob_goto F 22 dX11_isPath_18 (by decide) ?_
      obtain rfl := Option.some.inj h
      exact ob_zret F dX11_isPath_22 (Or.inr rfl) k
theorem t_X11_isPath {cf : ob_Cf} {g : ob_St} {n0 : Nat} {x1 : Int32} {r : Int32} (h : f_X11_isPath g n0 x1 = some r) : ob_Mt cf yX11_isPath cX11_isPath 2 (some .boolean) 0 0 [ob_rw cf n0, .int x1] g (some (.int r)) g := by
  refine ob_enter (by decide) (Nat.le_of_ble_eq_true rfl) (Or.inr rfl) ?_
  intro C hC F k
  subst hC
  exact b_X11_isPath_0 F h k
-- X11_isExercise
def f_X11_isExercise (g : ob_St) (n0 : Nat) (x1 : Int32) : Option Int32 :=
  (if x1 = (-1) then (some 1) else ((ob_ck 11 n0 (f_X11_isStep g n0 x1)).bind fun v1 => (if v1 = 0 then (some 0) else (some 1))))
theorem b_X11_isExercise_0 {C : ob_Cx} (F : ob_Fx C cX11_isExercise 2 RX11 (some .boolean) 1 21) {g : ob_St} {n0 : Nat} {x1 : Int32} {r : Int32} (h : f_X11_isExercise g n0 x1 = some r) (k : ob_Rt C (some (.int r)) g) : ob_Ev C 0 [(0, ob_rv C n0), (1, .int x1)] [] g := by
  unfold f_X11_isExercise at h
  refine ob_iload_n F 1 dX11_isExercise_0 rfl ?_
  refine ob_iconst F (v := (-1)) dX11_isExercise_1 (by decide) ?_
  refine ob_icmp_eq F 13 dX11_isExercise_2 (by decide) h (fun h => ?_) (fun h => ?_)
  · refine ob_iconst F (v := 1) dX11_isExercise_13 (by decide) ?_
    refine ob_goto F 18 dX11_isExercise_14 (by decide) ?_
    obtain rfl := Option.some.inj h
    exact ob_zret F dX11_isExercise_18 (Or.inr rfl) k
  · refine ob_rload_n F 0 dX11_isExercise_5 rfl ?_
    refine ob_iload_n F 1 dX11_isExercise_6 rfl ?_
    refine ob_cVi F dX11_isExercise_7 im_X11_isStep tw3_168 h (fun b hb => t_X11_isStep hb) rfl rfl (Nat.le_of_ble_eq_true rfl) (by decide) fun v1 h => ?_
    refine ob_if_eq F 17 dX11_isExercise_10 (by decide) h (fun h => ?_) (fun h => ?_)
    · refine ob_iconst F (v := 0) dX11_isExercise_17 (by decide) ?_
      obtain rfl := Option.some.inj h
      exact ob_zret F dX11_isExercise_18 (Or.inl rfl) k
    · refine ob_iconst F (v := 1) dX11_isExercise_13 (by decide) ?_
      refine ob_goto F 18 dX11_isExercise_14 (by decide) ?_
      obtain rfl := Option.some.inj h
      exact ob_zret F dX11_isExercise_18 (Or.inr rfl) k
theorem t_X11_isExercise {cf : ob_Cf} {g : ob_St} {n0 : Nat} {x1 : Int32} {r : Int32} (h : f_X11_isExercise g n0 x1 = some r) : ob_Mt cf yX11_isExercise cX11_isExercise 2 (some .boolean) 1 21 [ob_rw cf n0, .int x1] g (some (.int r)) g := by
  refine ob_enter (by decide) (Nat.le_of_ble_eq_true rfl) (Or.inr rfl) ?_
  intro C hC F k
  subst hC
  exact b_X11_isExercise_0 F h k
-- X2_givenAt
def B_X2_givenAt_106 (g : ob_St) (n2 : Nat) (x4 : Int32) (y7 : Int64) (y9 : Int64) (s0 : Nat) : Option Int64 :=
  (ob_gR 4 s0 1).bind fun v10 => (ob_rI g 14 v10 x4).bind fun v11 => (if v11 = 4 then ((ob_gI g 1 n2 8).bind fun v12 => some (y9 + ((Int32.toInt64 v12) * y7))) else (some (-1)))
theorem b_X2_givenAt_106 {C : ob_Cx} (F : ob_Fx C cX2_givenAt 12 RX2 (some .long) 1 22) {g : ob_St} {n2 : Nat} {x4 : Int32} {y7 : Int64} {y9 : Int64} {s0 : Nat} {r : Int64} (h : B_X2_givenAt_106 g n2 x4 y7 y9 s0 = some r) (k : ob_Rt C (some (.long r)) g) : ob_Ev C 106 [(2, ob_rv C n2), (4, .int x4), (7, .long y7), (9, .long y9)] [ob_rv C s0] g := by
  unfold B_X2_givenAt_106 at h
  refine ob_rstore F (ls2 := [(11, ob_rv C s0), (2, ob_rv C n2), (4, .int x4), (7, .long y7), (9, .long y9)]) dX2_givenAt_106 (by decide) rfl ?_
  refine ob_rload F 0 dX2_givenAt_108 rfl ?_
  refine ob_getR F dX2_givenAt_110 fl_X2_49 h fun v10 h => ?_
  refine ob_iload F 2 dX2_givenAt_113 rfl ?_
  refine ob_iald F dX2_givenAt_115 h fun v11 h => ?_
  refine ob_iconst F (v := 4) dX2_givenAt_116 (by decide) ?_
  refine ob_icmp_ne F 134 dX2_givenAt_117 (by decide) h (fun h => ?_) (fun h => ?_)
  · refine ob_ldc2 F (v := (-1)) dX2_givenAt_134 tw4_83 ?_
    obtain rfl := Option.some.inj h
    exact ob_lret F dX2_givenAt_137 k
  · refine ob_lload F 4 dX2_givenAt_120 rfl ?_
    refine ob_rload_n F 1 dX2_givenAt_122 rfl ?_
    refine ob_getI F dX2_givenAt_123 fl_X2_98 h fun v12 h => ?_
    refine ob_i2l F dX2_givenAt_126 ?_
    refine ob_lload F 3 dX2_givenAt_127 rfl ?_
    refine ob_lmul F dX2_givenAt_129 ?_
    refine ob_ladd F dX2_givenAt_130 ?_
    refine ob_goto F 137 dX2_givenAt_131 (by decide) ?_
    obtain rfl := Option.some.inj h
    exact ob_lret F dX2_givenAt_137 k
def B_X2_givenAt_90 (g : ob_St) (n1 : Nat) (n2 : Nat) (x4 : Int32) (x5 : Int32) (y7 : Int64) (y9 : Int64) : Option Int64 :=
  (if x5 = 0 then ((ob_gR 9 n1 2).bind fun v9 => B_X2_givenAt_106 g n2 x4 y7 y9 v9) else ((ob_gR 9 n1 1).bind fun v13 => B_X2_givenAt_106 g n2 x4 y7 y9 v13))
theorem b_X2_givenAt_90 {C : ob_Cx} (F : ob_Fx C cX2_givenAt 12 RX2 (some .long) 1 22) {g : ob_St} {n1 : Nat} {n2 : Nat} {x4 : Int32} {x5 : Int32} {y7 : Int64} {y9 : Int64} {r : Int64} (h : B_X2_givenAt_90 g n1 n2 x4 x5 y7 y9 = some r) (k : ob_Rt C (some (.long r)) g) : ob_Ev C 90 [(1, ob_rv C n1), (2, ob_rv C n2), (4, .int x4), (5, .int x5), (7, .long y7), (9, .long y9)] [] g := by
  unfold B_X2_givenAt_90 at h
  refine ob_iload F 3 dX2_givenAt_90 rfl ?_
  refine ob_if_eq F 102 dX2_givenAt_92 (by decide) h (fun h => ?_) (fun h => ?_)
  · refine ob_rload_n F 0 dX2_givenAt_102 rfl ?_
    refine ob_getR F dX2_givenAt_103 fl_X2_25 h fun v9 h => ?_
    exact ob_sub [1, 2, 4, 5] rfl (b_X2_givenAt_106 F h k)
  · refine ob_rload_n F 0 dX2_givenAt_95 rfl ?_
    refine ob_getR F dX2_givenAt_96 fl_X2_95 h fun v13 h => ?_
    refine ob_goto F 106 dX2_givenAt_99 (by decide) ?_
    exact ob_sub [1, 2, 4, 5] rfl (b_X2_givenAt_106 F h k)
def B_X2_givenAt_50 (g : ob_St) (n0 : Nat) (n1 : Nat) (n2 : Nat) (x3 : Int32) (x4 : Int32) (x5 : Int32) (x6 : Int32) (y7 : Int64) : Option Int64 :=
  (ob_gR 9 n1 0).bind fun v7 => (ob_rL g v7 x4).bind fun v8 => (if x3 = x6 then ((if v8 ≤ 0 then (B_X2_givenAt_90 g n1 n2 x4 x5 y7 v8) else ((ob_gR 2 n0 0).bind fun v14 => (ob_gI g 1 n2 3).bind fun v15 => (ob_ck 3 v14 (f_X3_may g v14 x3 v15)).bind fun v16 => (if v16 = 0 then (B_X2_givenAt_90 g n1 n2 x4 x5 y7 v8) else (some v8))))) else (B_X2_givenAt_90 g n1 n2 x4 x5 y7 v8))
theorem b_X2_givenAt_50 {C : ob_Cx} (F : ob_Fx C cX2_givenAt 12 RX2 (some .long) 1 22) {g : ob_St} {n0 : Nat} {n1 : Nat} {n2 : Nat} {x3 : Int32} {x4 : Int32} {x5 : Int32} {x6 : Int32} {y7 : Int64} {r : Int64} (h : B_X2_givenAt_50 g n0 n1 n2 x3 x4 x5 x6 y7 = some r) (k : ob_Rt C (some (.long r)) g) : ob_Ev C 50 [(0, ob_rv C n0), (1, ob_rv C n1), (2, ob_rv C n2), (3, .int x3), (4, .int x4), (5, .int x5), (6, .int x6), (7, .long y7)] [] g := by
  unfold B_X2_givenAt_50 at h
  refine ob_rload_n F 1 dX2_givenAt_50 rfl ?_
  refine ob_getR F dX2_givenAt_51 fl_X2_85 h fun v7 h => ?_
  refine ob_iload F 4 dX2_givenAt_54 rfl ?_
  refine ob_lald F dX2_givenAt_56 h fun v8 h => ?_
  refine ob_lstore F (ls2 := [(9, .long v8), (0, ob_rv C n0), (1, ob_rv C n1), (2, ob_rv C n2), (3, .int x3), (4, .int x4), (5, .int x5), (6, .int x6), (7, .long y7)]) dX2_givenAt_57 (by decide) rfl ?_
  refine ob_iload_n F 4 dX2_givenAt_59 rfl ?_
  refine ob_iload F 7 dX2_givenAt_60 rfl ?_
  refine ob_icmp_ne F 90 dX2_givenAt_62 (by decide) h (fun h => ?_) (fun h => ?_)
  · exact ob_sub [2, 3, 5, 6, 8, 0] rfl (b_X2_givenAt_90 F h k)
  · refine ob_lload F 0 dX2_givenAt_65 rfl ?_
    refine ob_lconst F (v := 0) dX2_givenAt_67 (by decide) ?_
    refine ob_lcmp_le F 90 dX2_givenAt_68 dX2_givenAt_69 (by decide) h (fun h => ?_) (fun h => ?_)
    · exact ob_sub [2, 3, 5, 6, 8, 0] rfl (b_X2_givenAt_90 F h k)
    · refine ob_rload_n F 1 dX2_givenAt_72 rfl ?_
      refine ob_getR F dX2_givenAt_73 fl_X2_21 h fun v14 h => ?_
      refine ob_iload_n F 4 dX2_givenAt_76 rfl ?_
      refine ob_rload_n F 3 dX2_givenAt_77 rfl ?_
      refine ob_getI F dX2_givenAt_78 fl_X2_88 h fun v15 h => ?_
      refine ob_cVi F dX2_givenAt_81 im_X3_may tw4_84 h (fun b hb => t_X3_may hb) rfl rfl (Nat.le_of_ble_eq_true rfl) (by decide) fun v16 h => ?_
      refine ob_if_eq F 90 dX2_givenAt_84 (by decide) h (fun h => ?_) (fun h => ?_)
      · exact ob_sub [2, 3, 5, 6, 8, 0] rfl (b_X2_givenAt_90 F h k)
      · refine ob_lload F 0 dX2_givenAt_87 rfl ?_
        obtain rfl := Option.some.inj h
        exact ob_lret F dX2_givenAt_89 k
def f_X2_givenAt (g : ob_St) (n0 : Nat) (n1 : Nat) (n2 : Nat) (x3 : Int32) (x4 : Int32) (x5 : Int32) (x6 : Int32) : Option Int64 :=
  (ob_gR 2 n0 0).bind fun v1 => (ob_ck 3 v1 (f_X3_scaleAt g v1 x3)).bind fun v2 => (ob_gR 9 n1 2).bind fun v3 => (ob_gR 4 v3 1).bind fun v4 => (ob_rI g 14 v4 x4).bind fun v5 => (if v5 = 2 then ((ob_gI g 1 n2 7).bind fun v17 => some ((Int32.toInt64 v17) * v2)) else ((ob_gI g 1 n2 4).bind fun v6 => (if v6 = 2 then ((if x5 = 0 then (some (-1)) else (B_X2_givenAt_50 g n0 n1 n2 x3 x4 x5 x6 v2))) else (B_X2_givenAt_50 g n0 n1 n2 x3 x4 x5 x6 v2))))
theorem b_X2_givenAt_0 {C : ob_Cx} (F : ob_Fx C cX2_givenAt 12 RX2 (some .long) 1 22) {g : ob_St} {n0 : Nat} {n1 : Nat} {n2 : Nat} {x3 : Int32} {x4 : Int32} {x5 : Int32} {x6 : Int32} {r : Int64} (h : f_X2_givenAt g n0 n1 n2 x3 x4 x5 x6 = some r) (k : ob_Rt C (some (.long r)) g) : ob_Ev C 0 [(0, ob_rv C n0), (1, ob_rv C n1), (2, ob_rv C n2), (3, .int x3), (4, .int x4), (5, .int x5), (6, .int x6)] [] g := by
  unfold f_X2_givenAt at h
  refine ob_rload_n F 0 dX2_givenAt_0 rfl ?_
  refine ob_getR F dX2_givenAt_1 fl_X2_21 h fun v1 h => ?_
  refine ob_iload_n F 3 dX2_givenAt_4 rfl ?_
  refine ob_cVl F dX2_givenAt_5 im_X3_scaleAt tw4_82 h (fun b hb => t_X3_scaleAt hb) rfl rfl (Nat.le_of_ble_eq_true rfl) (by decide) fun v2 h => ?_
  refine ob_lstore F (ls2 := [(7, .long v2), (0, ob_rv C n0), (1, ob_rv C n1), (2, ob_rv C n2), (3, .int x3), (4, .int x4), (5, .int x5), (6, .int x6)]) dX2_givenAt_8 (by decide) rfl ?_
  refine ob_rload_n F 2 dX2_givenAt_10 rfl ?_
  refine ob_getR F dX2_givenAt_11 fl_X2_25 h fun v3 h => ?_
  refine ob_getR F dX2_givenAt_14 fl_X2_49 h fun v4 h => ?_
  refine ob_iload F 5 dX2_givenAt_17 rfl ?_
  refine ob_iald F dX2_givenAt_19 h fun v5 h => ?_
  refine ob_iconst F (v := 2) dX2_givenAt_20 (by decide) ?_
  refine ob_icmp_ne F 33 dX2_givenAt_21 (by decide) h (fun h => ?_) (fun h => ?_)
  · refine ob_rload_n F 3 dX2_givenAt_33 rfl ?_
    refine ob_getI F dX2_givenAt_34 fl_X2_82 h fun v6 h => ?_
    refine ob_iconst F (v := 2) dX2_givenAt_37 (by decide) ?_
    refine ob_icmp_ne F 50 dX2_givenAt_38 (by decide) h (fun h => ?_) (fun h => ?_)
    · exact ob_sub [1, 2, 3, 4, 5, 6, 7, 0] rfl (b_X2_givenAt_50 F h k)
    · refine ob_iload F 6 dX2_givenAt_41 rfl ?_
      refine ob_if_ne F 50 dX2_givenAt_43 (by decide) h (fun h => ?_) (fun h => ?_)
      · exact ob_sub [1, 2, 3, 4, 5, 6, 7, 0] rfl (b_X2_givenAt_50 F h k)
      · refine ob_ldc2 F (v := (-1)) dX2_givenAt_46 tw4_83 ?_
        obtain rfl := Option.some.inj h
        exact ob_lret F dX2_givenAt_49 k
  · refine ob_rload_n F 3 dX2_givenAt_24 rfl ?_
    refine ob_getI F dX2_givenAt_25 fl_X2_77 h fun v17 h => ?_
    refine ob_i2l F dX2_givenAt_28 ?_
    refine ob_lload F 0 dX2_givenAt_29 rfl ?_
    refine ob_lmul F dX2_givenAt_31 ?_
    obtain rfl := Option.some.inj h
    exact ob_lret F dX2_givenAt_32 k
theorem t_X2_givenAt {cf : ob_Cf} {g : ob_St} {n0 : Nat} {n1 : Nat} {n2 : Nat} {x3 : Int32} {x4 : Int32} {x5 : Int32} {x6 : Int32} {r : Int64} (h : f_X2_givenAt g n0 n1 n2 x3 x4 x5 x6 = some r) : ob_Mt cf yX2_givenAt cX2_givenAt 12 (some .long) 1 22 [ob_rw cf n0, ob_rw cf n1, ob_rw cf n2, .int x3, .int x4, .int x5, .int x6] g (some (.long r)) g := by
  refine ob_enter (by decide) (Nat.le_of_ble_eq_true rfl) rfl ?_
  intro C hC F k
  subst hC
  exact b_X2_givenAt_0 F h k
-- X2_gainTo
def B_X2_gainTo_20 (g : ob_St) (n0 : Nat) (x2 : Int32) (x3 : Int32) (x4 : Int32) (s0 : Nat) (s1 : Nat) : Option Int64 :=
  (ob_ck 3 s0 (f_X3_standingBy g s0 s1 x2 x3)).bind fun v3 => (ob_gR 2 n0 0).bind fun v4 => (ob_gR 3 v4 3).bind fun v5 => (ob_rL g v5 x2).bind fun v6 => (ob_gR 2 n0 0).bind fun v7 => (ob_gR 3 v7 1).bind fun v8 => (ob_rI g 14 v8 x4).bind fun v9 => (ob_gR 2 n0 0).bind fun v10 => (ob_gR 3 v10 1).bind fun v11 => (ob_rI g 14 v11 x3).bind fun v12 => some ((v3 * v6) * (Int32.toInt64 (v9 - v12)))
theorem b_X2_gainTo_20 {C : ob_Cx} (F : ob_Fx C cX2_gainTo 8 RX2 (some .long) 2 45) {g : ob_St} {n0 : Nat} {x2 : Int32} {x3 : Int32} {x4 : Int32} {s0 : Nat} {s1 : Nat} {r : Int64} (h : B_X2_gainTo_20 g n0 x2 x3 x4 s0 s1 = some r) (k : ob_Rt C (some (.long r)) g) : ob_Ev C 20 [(0, ob_rv C n0), (2, .int x2), (3, .int x3), (4, .int x4)] [ob_rv C s1, ob_rv C s0] g := by
  unfold B_X2_gainTo_20 at h
  refine ob_iload_n F 1 dX2_gainTo_20 rfl ?_
  refine ob_iload_n F 2 dX2_gainTo_21 rfl ?_
  refine ob_cVl F dX2_gainTo_22 im_X3_standingBy tw4_91 h (fun b hb => t_X3_standingBy hb) rfl rfl (Nat.le_of_ble_eq_true rfl) (by decide) fun v3 h => ?_
  refine ob_lstore F (ls2 := [(6, .long v3), (0, ob_rv C n0), (2, .int x2), (3, .int x3), (4, .int x4)]) dX2_gainTo_25 (by decide) rfl ?_
  refine ob_lload F 0 dX2_gainTo_27 rfl ?_
  refine ob_rload_n F 1 dX2_gainTo_29 rfl ?_
  refine ob_getR F dX2_gainTo_30 fl_X2_21 h fun v4 h => ?_
  refine ob_getR F dX2_gainTo_33 fl_X2_59 h fun v5 h => ?_
  refine ob_iload_n F 2 dX2_gainTo_36 rfl ?_
  refine ob_lald F dX2_gainTo_37 h fun v6 h => ?_
  refine ob_lmul F dX2_gainTo_38 ?_
  refine ob_rload_n F 1 dX2_gainTo_39 rfl ?_
  refine ob_getR F dX2_gainTo_40 fl_X2_21 h fun v7 h => ?_
  refine ob_getR F dX2_gainTo_43 fl_X2_105 h fun v8 h => ?_
  refine ob_iload F 4 dX2_gainTo_46 rfl ?_
  refine ob_iald F dX2_gainTo_48 h fun v9 h => ?_
  refine ob_rload_n F 1 dX2_gainTo_49 rfl ?_
  refine ob_getR F dX2_gainTo_50 fl_X2_21 h fun v10 h => ?_
  refine ob_getR F dX2_gainTo_53 fl_X2_105 h fun v11 h => ?_
  refine ob_iload_n F 3 dX2_gainTo_56 rfl ?_
  refine ob_iald F dX2_gainTo_57 h fun v12 h => ?_
  refine ob_isub F dX2_gainTo_58 ?_
  refine ob_i2l F dX2_gainTo_59 ?_
  refine ob_lmul F dX2_gainTo_60 ?_
  obtain rfl := Option.some.inj h
  exact ob_lret F dX2_gainTo_61 k
def f_X2_gainTo (g : ob_St) (n0 : Nat) (n1 : Nat) (x2 : Int32) (x3 : Int32) (x4 : Int32) (x5 : Int32) : Option Int64 :=
  (ob_gR 2 n0 0).bind fun v1 => (if x5 = 0 then ((ob_gR 9 n1 2).bind fun v2 => B_X2_gainTo_20 g n0 x2 x3 x4 v1 v2) else ((ob_gR 9 n1 1).bind fun v13 => B_X2_gainTo_20 g n0 x2 x3 x4 v1 v13))
theorem b_X2_gainTo_0 {C : ob_Cx} (F : ob_Fx C cX2_gainTo 8 RX2 (some .long) 2 45) {g : ob_St} {n0 : Nat} {n1 : Nat} {x2 : Int32} {x3 : Int32} {x4 : Int32} {x5 : Int32} {r : Int64} (h : f_X2_gainTo g n0 n1 x2 x3 x4 x5 = some r) (k : ob_Rt C (some (.long r)) g) : ob_Ev C 0 [(0, ob_rv C n0), (1, ob_rv C n1), (2, .int x2), (3, .int x3), (4, .int x4), (5, .int x5)] [] g := by
  unfold f_X2_gainTo at h
  refine ob_rload_n F 0 dX2_gainTo_0 rfl ?_
  refine ob_getR F dX2_gainTo_1 fl_X2_21 h fun v1 h => ?_
  refine ob_iload F 5 dX2_gainTo_4 rfl ?_
  refine ob_if_eq F 16 dX2_gainTo_6 (by decide) h (fun h => ?_) (fun h => ?_)
  · refine ob_rload_n F 1 dX2_gainTo_16 rfl ?_
    refine ob_getR F dX2_gainTo_17 fl_X2_25 h fun v2 h => ?_
    exact ob_sub [0, 2, 3, 4] rfl (b_X2_gainTo_20 F h k)
  · refine ob_rload_n F 1 dX2_gainTo_9 rfl ?_
    refine ob_getR F dX2_gainTo_10 fl_X2_95 h fun v13 h => ?_
    refine ob_goto F 20 dX2_gainTo_13 (by decide) ?_
    exact ob_sub [0, 2, 3, 4] rfl (b_X2_gainTo_20 F h k)
theorem t_X2_gainTo {cf : ob_Cf} {g : ob_St} {n0 : Nat} {n1 : Nat} {x2 : Int32} {x3 : Int32} {x4 : Int32} {x5 : Int32} {r : Int64} (h : f_X2_gainTo g n0 n1 x2 x3 x4 x5 = some r) : ob_Mt cf yX2_gainTo cX2_gainTo 8 (some .long) 2 45 [ob_rw cf n0, ob_rw cf n1, .int x2, .int x3, .int x4, .int x5] g (some (.long r)) g := by
  refine ob_enter (by decide) (Nat.le_of_ble_eq_true rfl) rfl ?_
  intro C hC F k
  subst hC
  exact b_X2_gainTo_0 F h k
-- X2_leftAlong
def B_X2_leftAlong_177 (rec : Int64 → Int32 → Int32 → Int32 → Option ((Int64 × Int32 × Int64) ⊕ (Int64))) (g : ob_St) (n0 : Nat) (n1 : Nat) (n2 : Nat) (x3 : Int32) (x4 : Int32) (y5 : Int64) (x7 : Int32) (x8 : Int32) (x9 : Int32) : Option ((Int64 × Int32 × Int64) ⊕ (Int64)) :=
  rec y5 x7 x8 (x9 + 1)
theorem b_X2_leftAlong_177 {C : ob_Cx} {rec : Int64 → Int32 → Int32 → Int32 → Option ((Int64 × Int32 × Int64) ⊕ (Int64))} (F : ob_Fx C cX2_leftAlong 13 RX2 (some .long) 3 72) {g : ob_St} {n0 : Nat} {n1 : Nat} {n2 : Nat} {x3 : Int32} {x4 : Int32} {y5 : Int64} {x7 : Int32} {x8 : Int32} {x9 : Int32} {x : ((Int64 × Int32 × Int64) ⊕ (Int64))} (hr : ∀ {y5 : Int64} {x7 : Int32} {x8 : Int32} {x9 : Int32} {x : ((Int64 × Int32 × Int64) ⊕ (Int64))}, rec y5 x7 x8 x9 = some x → (∀ y, x = (.inl y) → ob_Ev C 86 [(0, ob_rv C n0), (5, .long y.1), (9, .int y.2.1), (10, .long y.2.2)] [] g) → (∀ y, x = (.inr y) → ob_Ev C 183 [(5, .long y)] [] g) → ob_Ev C 20 [(0, ob_rv C n0), (1, ob_rv C n1), (2, ob_rv C n2), (3, .int x3), (4, .int x4), (5, .long y5), (7, .int x7), (8, .int x8), (9, .int x9)] [] g) (h : B_X2_leftAlong_177 rec g n0 n1 n2 x3 x4 y5 x7 x8 x9 = some x) (k0 : (∀ y, x = (.inl y) → ob_Ev C 86 [(0, ob_rv C n0), (5, .long y.1), (9, .int y.2.1), (10, .long y.2.2)] [] g)) (k1 : (∀ y, x = (.inr y) → ob_Ev C 183 [(5, .long y)] [] g)) : ob_Ev C 177 [(0, ob_rv C n0), (1, ob_rv C n1), (2, ob_rv C n2), (3, .int x3), (4, .int x4), (5, .long y5), (7, .int x7), (8, .int x8), (9, .int x9)] [] g := by
  unfold B_X2_leftAlong_177 at h
  refine ob_iinc F (v := (x9 + 1)) (ls2 := [(9, .int (x9 + 1)), (0, ob_rv C n0), (1, ob_rv C n1), (2, ob_rv C n2), (3, .int x3), (4, .int x4), (5, .long y5), (7, .int x7), (8, .int x8)]) 8 dX2_leftAlong_177 rfl rfl (by decide) rfl ?_
  refine ob_goto F 20 dX2_leftAlong_180 (by decide) ?_
  exact ob_sub [1, 2, 3, 4, 5, 6, 7, 8, 0] rfl (hr h k0 k1)
def B_X2_leftAlong_153 (rec : Int64 → Int32 → Int32 → Int32 → Option ((Int64 × Int32 × Int64) ⊕ (Int64))) (g : ob_St) (n0 : Nat) (n1 : Nat) (n2 : Nat) (x3 : Int32) (x4 : Int32) (y5 : Int64) (x7 : Int32) (x8 : Int32) (x9 : Int32) (s0 : Int32) : Option ((Int64 × Int32 × Int64) ⊕ (Int64)) :=
  (ob_ck 2 n0 (f_X2_gainTo g n0 n1 x9 x8 s0 x7)).bind fun v13 => B_X2_leftAlong_177 rec g n0 n1 n2 x3 x4 (y5 + v13) x7 s0 x9
theorem b_X2_leftAlong_153 {C : ob_Cx} {rec : Int64 → Int32 → Int32 → Int32 → Option ((Int64 × Int32 × Int64) ⊕ (Int64))} (F : ob_Fx C cX2_leftAlong 13 RX2 (some .long) 3 72) {g : ob_St} {n0 : Nat} {n1 : Nat} {n2 : Nat} {x3 : Int32} {x4 : Int32} {y5 : Int64} {x7 : Int32} {x8 : Int32} {x9 : Int32} {s0 : Int32} {x : ((Int64 × Int32 × Int64) ⊕ (Int64))} (hr : ∀ {y5 : Int64} {x7 : Int32} {x8 : Int32} {x9 : Int32} {x : ((Int64 × Int32 × Int64) ⊕ (Int64))}, rec y5 x7 x8 x9 = some x → (∀ y, x = (.inl y) → ob_Ev C 86 [(0, ob_rv C n0), (5, .long y.1), (9, .int y.2.1), (10, .long y.2.2)] [] g) → (∀ y, x = (.inr y) → ob_Ev C 183 [(5, .long y)] [] g) → ob_Ev C 20 [(0, ob_rv C n0), (1, ob_rv C n1), (2, ob_rv C n2), (3, .int x3), (4, .int x4), (5, .long y5), (7, .int x7), (8, .int x8), (9, .int x9)] [] g) (h : B_X2_leftAlong_153 rec g n0 n1 n2 x3 x4 y5 x7 x8 x9 s0 = some x) (k0 : (∀ y, x = (.inl y) → ob_Ev C 86 [(0, ob_rv C n0), (5, .long y.1), (9, .int y.2.1), (10, .long y.2.2)] [] g)) (k1 : (∀ y, x = (.inr y) → ob_Ev C 183 [(5, .long y)] [] g)) : ob_Ev C 153 [(0, ob_rv C n0), (1, ob_rv C n1), (2, ob_rv C n2), (3, .int x3), (4, .int x4), (5, .long y5), (7, .int x7), (8, .int x8), (9, .int x9)] [.int s0] g := by
  unfold B_X2_leftAlong_153 at h
  refine ob_istore F (ls2 := [(12, .int s0), (0, ob_rv C n0), (1, ob_rv C n1), (2, ob_rv C n2), (3, .int x3), (4, .int x4), (5, .long y5), (7, .int x7), (8, .int x8), (9, .int x9)]) dX2_leftAlong_153 (by decide) rfl ?_
  refine ob_lload F 6 dX2_leftAlong_155 rfl ?_
  refine ob_rload_n F 1 dX2_leftAlong_157 rfl ?_
  refine ob_rload_n F 2 dX2_leftAlong_158 rfl ?_
  refine ob_iload F 9 dX2_leftAlong_159 rfl ?_
  refine ob_iload F 8 dX2_leftAlong_161 rfl ?_
  refine ob_iload F 0 dX2_leftAlong_163 rfl ?_
  refine ob_iload F 7 dX2_leftAlong_165 rfl ?_
  refine ob_cVl F dX2_leftAlong_167 im_X2_gainTo tw4_87 h (fun b hb => t_X2_gainTo hb) rfl rfl (Nat.le_of_ble_eq_true rfl) (by decide) fun v13 h => ?_
  refine ob_ladd F dX2_leftAlong_170 ?_
  refine ob_lstore F (ls2 := [(5, .long (y5 + v13)), (12, .int s0), (0, ob_rv C n0), (1, ob_rv C n1), (2, ob_rv C n2), (3, .int x3), (4, .int x4), (7, .int x7), (8, .int x8), (9, .int x9)]) dX2_leftAlong_171 (by decide) rfl ?_
  refine ob_iload F 1 dX2_leftAlong_173 rfl ?_
  refine ob_istore F (ls2 := [(8, .int s0), (5, .long (y5 + v13)), (12, .int s0), (0, ob_rv C n0), (1, ob_rv C n1), (2, ob_rv C n2), (3, .int x3), (4, .int x4), (7, .int x7), (9, .int x9)]) dX2_leftAlong_175 (by decide) rfl ?_
  exact ob_sub [3, 4, 5, 6, 7, 1, 8, 0, 9] rfl (b_X2_leftAlong_177 F hr h k0 k1)
def B_X2_leftAlong_59 (rec : Int64 → Int32 → Int32 → Int32 → Option ((Int64 × Int32 × Int64) ⊕ (Int64))) (g : ob_St) (n0 : Nat) (n1 : Nat) (n2 : Nat) (x3 : Int32) (x4 : Int32) (y5 : Int64) (x8 : Int32) (x9 : Int32) (s0 : Int32) : Option ((Int64 × Int32 × Int64) ⊕ (Int64)) :=
  (ob_ck 2 n0 (f_X2_givenAt g n0 n1 n2 x9 x8 s0 x4)).bind fun v7 => (if v7 = (-1) then ((ob_gR 2 n0 0).bind fun v8 => (ob_gR 3 v8 0).bind fun v9 => (ob_gI g 5 v9 5).bind fun v10 => (if v10 ≤ x9 then (B_X2_leftAlong_177 rec g n0 n1 n2 x3 x4 y5 s0 x8 x9) else ((if ((x3 >>> (x9 &&& 31)) &&& 1) = 1 then ((ob_gR 2 n0 0).bind fun v14 => (ob_ck 3 v14 (f_X3_upFrom v14 x9 x8)).bind fun v15 => B_X2_leftAlong_153 rec g n0 n1 n2 x3 x4 y5 s0 x8 x9 v15) else ((ob_gR 2 n0 0).bind fun v11 => (ob_ck 3 v11 (f_X3_downFrom v11 x9 x8)).bind fun v12 => B_X2_leftAlong_153 rec g n0 n1 n2 x3 x4 y5 s0 x8 x9 v12))))) else (some (.inl (y5, x9, v7))))
theorem b_X2_leftAlong_59 {C : ob_Cx} {rec : Int64 → Int32 → Int32 → Int32 → Option ((Int64 × Int32 × Int64) ⊕ (Int64))} (F : ob_Fx C cX2_leftAlong 13 RX2 (some .long) 3 72) {g : ob_St} {n0 : Nat} {n1 : Nat} {n2 : Nat} {x3 : Int32} {x4 : Int32} {y5 : Int64} {x8 : Int32} {x9 : Int32} {s0 : Int32} {x : ((Int64 × Int32 × Int64) ⊕ (Int64))} (hr : ∀ {y5 : Int64} {x7 : Int32} {x8 : Int32} {x9 : Int32} {x : ((Int64 × Int32 × Int64) ⊕ (Int64))}, rec y5 x7 x8 x9 = some x → (∀ y, x = (.inl y) → ob_Ev C 86 [(0, ob_rv C n0), (5, .long y.1), (9, .int y.2.1), (10, .long y.2.2)] [] g) → (∀ y, x = (.inr y) → ob_Ev C 183 [(5, .long y)] [] g) → ob_Ev C 20 [(0, ob_rv C n0), (1, ob_rv C n1), (2, ob_rv C n2), (3, .int x3), (4, .int x4), (5, .long y5), (7, .int x7), (8, .int x8), (9, .int x9)] [] g) (h : B_X2_leftAlong_59 rec g n0 n1 n2 x3 x4 y5 x8 x9 s0 = some x) (k0 : (∀ y, x = (.inl y) → ob_Ev C 86 [(0, ob_rv C n0), (5, .long y.1), (9, .int y.2.1), (10, .long y.2.2)] [] g)) (k1 : (∀ y, x = (.inr y) → ob_Ev C 183 [(5, .long y)] [] g)) : ob_Ev C 59 [(0, ob_rv C n0), (1, ob_rv C n1), (2, ob_rv C n2), (3, .int x3), (4, .int x4), (5, .long y5), (8, .int x8), (9, .int x9)] [.int s0] g := by
  unfold B_X2_leftAlong_59 at h
  refine ob_istore F (ls2 := [(7, .int s0), (0, ob_rv C n0), (1, ob_rv C n1), (2, ob_rv C n2), (3, .int x3), (4, .int x4), (5, .long y5), (8, .int x8), (9, .int x9)]) dX2_leftAlong_59 (by decide) rfl ?_
  refine ob_rload_n F 1 dX2_leftAlong_61 rfl ?_
  refine ob_rload_n F 2 dX2_leftAlong_62 rfl ?_
  refine ob_rload_n F 3 dX2_leftAlong_63 rfl ?_
  refine ob_iload F 8 dX2_leftAlong_64 rfl ?_
  refine ob_iload F 7 dX2_leftAlong_66 rfl ?_
  refine ob_iload F 0 dX2_leftAlong_68 rfl ?_
  refine ob_iload F 5 dX2_leftAlong_70 rfl ?_
  refine ob_cVl F dX2_leftAlong_72 im_X2_givenAt tw4_78 h (fun b hb => t_X2_givenAt hb) rfl rfl (Nat.le_of_ble_eq_true rfl) (by decide) fun v7 h => ?_
  refine ob_lstore F (ls2 := [(10, .long v7), (7, .int s0), (0, ob_rv C n0), (1, ob_rv C n1), (2, ob_rv C n2), (3, .int x3), (4, .int x4), (5, .long y5), (8, .int x8), (9, .int x9)]) dX2_leftAlong_75 (by decide) rfl ?_
  refine ob_lload F 0 dX2_leftAlong_77 rfl ?_
  refine ob_ldc2 F (v := (-1)) dX2_leftAlong_79 tw4_83 ?_
  refine ob_lcmp_eq F 103 dX2_leftAlong_82 dX2_leftAlong_83 (by decide) h (fun h => ?_) (fun h => ?_)
  · refine ob_iload F 9 dX2_leftAlong_103 rfl ?_
    refine ob_rload_n F 2 dX2_leftAlong_105 rfl ?_
    refine ob_getR F dX2_leftAlong_106 fl_X2_21 h fun v8 h => ?_
    refine ob_getR F dX2_leftAlong_109 fl_X2_37 h fun v9 h => ?_
    refine ob_getI F dX2_leftAlong_112 fl_X2_43 h fun v10 h => ?_
    refine ob_icmp_ge F 177 dX2_leftAlong_115 (by decide) h (fun h => ?_) (fun h => ?_)
    · exact ob_sub [2, 3, 4, 5, 6, 7, 1, 8, 9] rfl (b_X2_leftAlong_177 F hr h k0 k1)
    · refine ob_iload_n F 5 dX2_leftAlong_118 rfl ?_
      refine ob_iload F 9 dX2_leftAlong_119 rfl ?_
      refine ob_ishr F dX2_leftAlong_121 ?_
      refine ob_iconst F (v := 1) dX2_leftAlong_122 (by decide) ?_
      refine ob_iand F dX2_leftAlong_123 ?_
      refine ob_iconst F (v := 1) dX2_leftAlong_124 (by decide) ?_
      refine ob_icmp_ne F 142 dX2_leftAlong_125 (by decide) h (fun h => ?_) (fun h => ?_)
      · refine ob_rload_n F 2 dX2_leftAlong_142 rfl ?_
        refine ob_getR F dX2_leftAlong_143 fl_X2_21 h fun v11 h => ?_
        refine ob_iload F 9 dX2_leftAlong_146 rfl ?_
        refine ob_iload F 8 dX2_leftAlong_148 rfl ?_
        refine ob_cVi F dX2_leftAlong_150 im_X3_downFrom tw4_86 h (fun b hb => t_X3_downFrom hb) rfl rfl (Nat.le_of_ble_eq_true rfl) (by decide) fun v12 h => ?_
        exact ob_sub [2, 3, 4, 5, 6, 7, 1, 8, 9] rfl (b_X2_leftAlong_153 F hr h k0 k1)
      · refine ob_rload_n F 2 dX2_leftAlong_128 rfl ?_
        refine ob_getR F dX2_leftAlong_129 fl_X2_21 h fun v14 h => ?_
        refine ob_iload F 9 dX2_leftAlong_132 rfl ?_
        refine ob_iload F 8 dX2_leftAlong_134 rfl ?_
        refine ob_cVi F dX2_leftAlong_136 im_X3_upFrom tw4_85 h (fun b hb => t_X3_upFrom hb) rfl rfl (Nat.le_of_ble_eq_true rfl) (by decide) fun v15 h => ?_
        refine ob_goto F 153 dX2_leftAlong_139 (by decide) ?_
        exact ob_sub [2, 3, 4, 5, 6, 7, 1, 8, 9] rfl (b_X2_leftAlong_153 F hr h k0 k1)
  · obtain rfl := Option.some.inj h
    exact ob_sub [2, 7, 9, 0] rfl (k0 _ rfl)
def B_X2_leftAlong_54 (rec : Int64 → Int32 → Int32 → Int32 → Option ((Int64 × Int32 × Int64) ⊕ (Int64))) (g : ob_St) (n0 : Nat) (n1 : Nat) (n2 : Nat) (x3 : Int32) (x4 : Int32) (y5 : Int64) (x8 : Int32) (x9 : Int32) : Option ((Int64 × Int32 × Int64) ⊕ (Int64)) :=
  B_X2_leftAlong_59 rec g n0 n1 n2 x3 x4 y5 x8 x9 1
theorem b_X2_leftAlong_54 {C : ob_Cx} {rec : Int64 → Int32 → Int32 → Int32 → Option ((Int64 × Int32 × Int64) ⊕ (Int64))} (F : ob_Fx C cX2_leftAlong 13 RX2 (some .long) 3 72) {g : ob_St} {n0 : Nat} {n1 : Nat} {n2 : Nat} {x3 : Int32} {x4 : Int32} {y5 : Int64} {x8 : Int32} {x9 : Int32} {x : ((Int64 × Int32 × Int64) ⊕ (Int64))} (hr : ∀ {y5 : Int64} {x7 : Int32} {x8 : Int32} {x9 : Int32} {x : ((Int64 × Int32 × Int64) ⊕ (Int64))}, rec y5 x7 x8 x9 = some x → (∀ y, x = (.inl y) → ob_Ev C 86 [(0, ob_rv C n0), (5, .long y.1), (9, .int y.2.1), (10, .long y.2.2)] [] g) → (∀ y, x = (.inr y) → ob_Ev C 183 [(5, .long y)] [] g) → ob_Ev C 20 [(0, ob_rv C n0), (1, ob_rv C n1), (2, ob_rv C n2), (3, .int x3), (4, .int x4), (5, .long y5), (7, .int x7), (8, .int x8), (9, .int x9)] [] g) (h : B_X2_leftAlong_54 rec g n0 n1 n2 x3 x4 y5 x8 x9 = some x) (k0 : (∀ y, x = (.inl y) → ob_Ev C 86 [(0, ob_rv C n0), (5, .long y.1), (9, .int y.2.1), (10, .long y.2.2)] [] g)) (k1 : (∀ y, x = (.inr y) → ob_Ev C 183 [(5, .long y)] [] g)) : ob_Ev C 54 [(0, ob_rv C n0), (1, ob_rv C n1), (2, ob_rv C n2), (3, .int x3), (4, .int x4), (5, .long y5), (8, .int x8), (9, .int x9)] [] g := by
  unfold B_X2_leftAlong_54 at h
  refine ob_iconst F (v := 1) dX2_leftAlong_54 (by decide) ?_
  refine ob_goto F 59 dX2_leftAlong_55 (by decide) ?_
  exact b_X2_leftAlong_59 F hr h k0 k1
def Lb_X2_leftAlong_20 (rec : Int64 → Int32 → Int32 → Int32 → Option ((Int64 × Int32 × Int64) ⊕ (Int64))) (g : ob_St) (n0 : Nat) (n1 : Nat) (n2 : Nat) (x3 : Int32) (x4 : Int32) (y5 : Int64) (x7 : Int32) (x8 : Int32) (x9 : Int32) : Option ((Int64 × Int32 × Int64) ⊕ (Int64)) :=
  (ob_gR 2 n0 0).bind fun v4 => (ob_gR 3 v4 0).bind fun v5 => (ob_gI g 5 v5 5).bind fun v6 => (if v6 < x9 then (some (.inr y5)) else ((if x7 = 0 then ((ob_gR 9 n1 2).bind fun v16 => (ob_gR 4 v16 1).bind fun v17 => (ob_rI g 14 v17 x8).bind fun v18 => (if v18 = 3 then (B_X2_leftAlong_54 rec g n0 n1 n2 x3 x4 y5 x8 x9) else (B_X2_leftAlong_59 rec g n0 n1 n2 x3 x4 y5 x8 x9 0))) else (B_X2_leftAlong_54 rec g n0 n1 n2 x3 x4 y5 x8 x9))))
def L_X2_leftAlong_20 (g : ob_St) (n0 : Nat) (n1 : Nat) (n2 : Nat) (x3 : Int32) (x4 : Int32) : Nat → Int64 → Int32 → Int32 → Int32 → Option ((Int64 × Int32 × Int64) ⊕ (Int64))
  | 0, _, _, _, _ => none
  | n + 1, y5, x7, x8, x9 => Lb_X2_leftAlong_20 (L_X2_leftAlong_20 g n0 n1 n2 x3 x4 n) g n0 n1 n2 x3 x4 y5 x7 x8 x9
theorem lb_X2_leftAlong_20 {C : ob_Cx} {rec : Int64 → Int32 → Int32 → Int32 → Option ((Int64 × Int32 × Int64) ⊕ (Int64))} (F : ob_Fx C cX2_leftAlong 13 RX2 (some .long) 3 72) {g : ob_St} {n0 : Nat} {n1 : Nat} {n2 : Nat} {x3 : Int32} {x4 : Int32} {y5 : Int64} {x7 : Int32} {x8 : Int32} {x9 : Int32} {x : ((Int64 × Int32 × Int64) ⊕ (Int64))} (hr : ∀ {y5 : Int64} {x7 : Int32} {x8 : Int32} {x9 : Int32} {x : ((Int64 × Int32 × Int64) ⊕ (Int64))}, rec y5 x7 x8 x9 = some x → (∀ y, x = (.inl y) → ob_Ev C 86 [(0, ob_rv C n0), (5, .long y.1), (9, .int y.2.1), (10, .long y.2.2)] [] g) → (∀ y, x = (.inr y) → ob_Ev C 183 [(5, .long y)] [] g) → ob_Ev C 20 [(0, ob_rv C n0), (1, ob_rv C n1), (2, ob_rv C n2), (3, .int x3), (4, .int x4), (5, .long y5), (7, .int x7), (8, .int x8), (9, .int x9)] [] g) (h : Lb_X2_leftAlong_20 rec g n0 n1 n2 x3 x4 y5 x7 x8 x9 = some x) (k0 : (∀ y, x = (.inl y) → ob_Ev C 86 [(0, ob_rv C n0), (5, .long y.1), (9, .int y.2.1), (10, .long y.2.2)] [] g)) (k1 : (∀ y, x = (.inr y) → ob_Ev C 183 [(5, .long y)] [] g)) : ob_Ev C 20 [(0, ob_rv C n0), (1, ob_rv C n1), (2, ob_rv C n2), (3, .int x3), (4, .int x4), (5, .long y5), (7, .int x7), (8, .int x8), (9, .int x9)] [] g := by
  unfold Lb_X2_leftAlong_20 at h
  refine ob_iload F 8 dX2_leftAlong_20 rfl ?_
  refine ob_rload_n F 0 dX2_leftAlong_22 rfl ?_
  refine ob_getR F dX2_leftAlong_23 fl_X2_21 h fun v4 h => ?_
  refine ob_getR F dX2_leftAlong_26 fl_X2_37 h fun v5 h => ?_
  refine ob_getI F dX2_leftAlong_29 fl_X2_43 h fun v6 h => ?_
  refine ob_icmp_gt F 183 dX2_leftAlong_32 (by decide) h (fun h => ?_) (fun h => ?_)
  · obtain rfl := Option.some.inj h
    exact ob_sub [5] rfl (k1 _ rfl)
  · refine ob_iload F 6 dX2_leftAlong_35 rfl ?_
    refine ob_if_ne F 54 dX2_leftAlong_37 (by decide) h (fun h => ?_) (fun h => ?_)
    · exact ob_sub [0, 1, 2, 3, 4, 5, 7, 8] rfl (b_X2_leftAlong_54 F hr h k0 k1)
    · refine ob_rload_n F 1 dX2_leftAlong_40 rfl ?_
      refine ob_getR F dX2_leftAlong_41 fl_X2_25 h fun v16 h => ?_
      refine ob_getR F dX2_leftAlong_44 fl_X2_49 h fun v17 h => ?_
      refine ob_iload F 7 dX2_leftAlong_47 rfl ?_
      refine ob_iald F dX2_leftAlong_49 h fun v18 h => ?_
      refine ob_iconst F (v := 3) dX2_leftAlong_50 (by decide) ?_
      refine ob_icmp_ne F 58 dX2_leftAlong_51 (by decide) h (fun h => ?_) (fun h => ?_)
      · refine ob_iconst F (v := 0) dX2_leftAlong_58 (by decide) ?_
        exact ob_sub [0, 1, 2, 3, 4, 5, 7, 8] rfl (b_X2_leftAlong_59 F hr h k0 k1)
      · exact ob_sub [0, 1, 2, 3, 4, 5, 7, 8] rfl (b_X2_leftAlong_54 F hr h k0 k1)
theorem l_X2_leftAlong_20 {C : ob_Cx} (F : ob_Fx C cX2_leftAlong 13 RX2 (some .long) 3 72) {g : ob_St} {n0 : Nat} {n1 : Nat} {n2 : Nat} {x3 : Int32} {x4 : Int32} : ∀ (n : Nat) {y5 : Int64} {x7 : Int32} {x8 : Int32} {x9 : Int32} {x : ((Int64 × Int32 × Int64) ⊕ (Int64))}, L_X2_leftAlong_20 g n0 n1 n2 x3 x4 n y5 x7 x8 x9 = some x → (∀ y, x = (.inl y) → ob_Ev C 86 [(0, ob_rv C n0), (5, .long y.1), (9, .int y.2.1), (10, .long y.2.2)] [] g) → (∀ y, x = (.inr y) → ob_Ev C 183 [(5, .long y)] [] g) → ob_Ev C 20 [(0, ob_rv C n0), (1, ob_rv C n1), (2, ob_rv C n2), (3, .int x3), (4, .int x4), (5, .long y5), (7, .int x7), (8, .int x8), (9, .int x9)] [] g := by
  intro n
  induction n with
  | zero => intro y5 x7 x8 x9 x h; exact ob_no h
  | succ n ih => intro y5 x7 x8 x9 x h k0 k1; exact lb_X2_leftAlong_20 F ih h k0 k1
def f_X2_leftAlong (g : ob_St) (n0 : Nat) (n1 : Nat) (n2 : Nat) (x3 : Int32) (x4 : Int32) : Option Int64 :=
  (ob_gR 9 n1 2).bind fun v1 => (ob_gR 4 v1 0).bind fun v2 => (ob_rL g v2 0).bind fun v3 => (L_X2_leftAlong_20 g n0 n1 n2 x3 x4 ob_FU v3 0 0 0).bind (Sum.elim (fun y_20 => (ob_gR 2 n0 0).bind fun v21 => (ob_gR 3 v21 3).bind fun v22 => (ob_rL g v22 y_20.2.1).bind fun v23 => some (y_20.1 - (y_20.2.2 * v23))) (fun y_24 => some y_24))
theorem b_X2_leftAlong_0 {C : ob_Cx} (F : ob_Fx C cX2_leftAlong 13 RX2 (some .long) 3 72) {g : ob_St} {n0 : Nat} {n1 : Nat} {n2 : Nat} {x3 : Int32} {x4 : Int32} {r : Int64} (h : f_X2_leftAlong g n0 n1 n2 x3 x4 = some r) (k : ob_Rt C (some (.long r)) g) : ob_Ev C 0 [(0, ob_rv C n0), (1, ob_rv C n1), (2, ob_rv C n2), (3, .int x3), (4, .int x4)] [] g := by
  unfold f_X2_leftAlong at h
  refine ob_rload_n F 1 dX2_leftAlong_0 rfl ?_
  refine ob_getR F dX2_leftAlong_1 fl_X2_25 h fun v1 h => ?_
  refine ob_getR F dX2_leftAlong_4 fl_X2_31 h fun v2 h => ?_
  refine ob_iconst F (v := 0) dX2_leftAlong_7 (by decide) ?_
  refine ob_lald F dX2_leftAlong_8 h fun v3 h => ?_
  refine ob_lstore F (ls2 := [(5, .long v3), (0, ob_rv C n0), (1, ob_rv C n1), (2, ob_rv C n2), (3, .int x3), (4, .int x4)]) dX2_leftAlong_9 (by decide) rfl ?_
  refine ob_iconst F (v := 0) dX2_leftAlong_11 (by decide) ?_
  refine ob_istore F (ls2 := [(7, .int 0), (5, .long v3), (0, ob_rv C n0), (1, ob_rv C n1), (2, ob_rv C n2), (3, .int x3), (4, .int x4)]) dX2_leftAlong_12 (by decide) rfl ?_
  refine ob_iconst F (v := 0) dX2_leftAlong_14 (by decide) ?_
  refine ob_istore F (ls2 := [(8, .int 0), (7, .int 0), (5, .long v3), (0, ob_rv C n0), (1, ob_rv C n1), (2, ob_rv C n2), (3, .int x3), (4, .int x4)]) dX2_leftAlong_15 (by decide) rfl ?_
  refine ob_iconst F (v := 0) dX2_leftAlong_17 (by decide) ?_
  refine ob_istore F (ls2 := [(9, .int 0), (8, .int 0), (7, .int 0), (5, .long v3), (0, ob_rv C n0), (1, ob_rv C n1), (2, ob_rv C n2), (3, .int x3), (4, .int x4)]) dX2_leftAlong_18 (by decide) rfl ?_
  obtain ⟨x_19, hx, h⟩ := Option.bind_eq_some_iff.mp h
  refine ob_sub [4, 5, 6, 7, 8, 3, 2, 1, 0] rfl (l_X2_leftAlong_20 F ob_FU hx (fun y e => ?_) (fun y e => ?_))
  · subst e
    replace h := (ob_inl h)
    refine ob_lload F 1 dX2_leftAlong_86 rfl ?_
    refine ob_lload F 3 dX2_leftAlong_88 rfl ?_
    refine ob_rload_n F 0 dX2_leftAlong_90 rfl ?_
    refine ob_getR F dX2_leftAlong_91 fl_X2_21 h fun v21 h => ?_
    refine ob_getR F dX2_leftAlong_94 fl_X2_59 h fun v22 h => ?_
    refine ob_iload F 2 dX2_leftAlong_97 rfl ?_
    refine ob_lald F dX2_leftAlong_99 h fun v23 h => ?_
    refine ob_lmul F dX2_leftAlong_100 ?_
    refine ob_lsub F dX2_leftAlong_101 ?_
    obtain rfl := Option.some.inj h
    exact ob_lret F dX2_leftAlong_102 k
  · subst e
    replace h := (ob_inr h)
    refine ob_lload F 0 dX2_leftAlong_183 rfl ?_
    obtain rfl := Option.some.inj h
    exact ob_lret F dX2_leftAlong_185 k
theorem t_X2_leftAlong {cf : ob_Cf} {g : ob_St} {n0 : Nat} {n1 : Nat} {n2 : Nat} {x3 : Int32} {x4 : Int32} {r : Int64} (h : f_X2_leftAlong g n0 n1 n2 x3 x4 = some r) : ob_Mt cf yX2_leftAlong cX2_leftAlong 13 (some .long) 3 72 [ob_rw cf n0, ob_rw cf n1, ob_rw cf n2, .int x3, .int x4] g (some (.long r)) g := by
  refine ob_enter (by decide) (Nat.le_of_ble_eq_true rfl) rfl ?_
  intro C hC F k
  subst hC
  exact b_X2_leftAlong_0 F h k
