-- X12_gain
def B_X12_gain_54 (g : ob_St) (n0 : Nat) (x1 : Int32) (x2 : Int32) (x3 : Int32) (x4 : Int32) (s0 : Nat) (s1 : Int32) : Option (Int64 × ob_St) :=
  (ob_ck 12 s0 (f_X12_throwsIf g s0 s1)).bind fun v2 => (if v2.1 = 0 then ((ob_ck 12 n0 (f_X12_lays v2.2 n0)).bind fun g3 => (ob_ck 12 n0 (f_X12_gains g3 n0 x1 x2 x3)).bind fun v4 => (ob_gR 12 n0 22).bind fun v5 => (ob_gR 12 n0 1).bind fun v6 => (ob_rI g3 14 v6 2).bind fun v7 => (ob_rL g3 v5 v7).bind fun v8 => (f_X12_told v4 v8 x4).bind fun v9 => some (v9, g3)) else (some (0, v2.2)))
theorem b_X12_gain_54 {C : ob_Cx} (F : ob_Fx C cX12_gain 5 RX12 (some .long) 7 174) {g : ob_St} {n0 : Nat} {x1 : Int32} {x2 : Int32} {x3 : Int32} {x4 : Int32} {s0 : Nat} {s1 : Int32} {r : (Int64 × ob_St)} (h : B_X12_gain_54 g n0 x1 x2 x3 x4 s0 s1 = some r) (k : ob_Rt C (some (.long r.1)) r.2) : ob_Ev C 54 [(0, ob_rv C n0), (1, .int x1), (2, .int x2), (3, .int x3), (4, .int x4)] [.int s1, ob_rv C s0] g := by
  unfold B_X12_gain_54 at h
  refine ob_cViS F dX12_gain_54 im_X12_throwsIf tw6_185 h (fun b hb => t_X12_throwsIf hb) rfl rfl (Nat.le_of_ble_eq_true rfl) (by decide) fun v2 h => ?_
  refine ob_if_eq F 62 dX12_gain_57 (by decide) h (fun h => ?_) (fun h => ?_)
  · refine ob_rload_n F 0 dX12_gain_62 rfl ?_
    refine ob_cVvS F dX12_gain_63 im_X12_lays tw6_189 h (fun b hb => t_X12_lays hb) rfl rfl (Nat.le_of_ble_eq_true rfl) (by decide) fun g3 h => ?_
    refine ob_rload_n F 0 dX12_gain_66 rfl ?_
    refine ob_iload_n F 1 dX12_gain_67 rfl ?_
    refine ob_iload_n F 2 dX12_gain_68 rfl ?_
    refine ob_iload_n F 3 dX12_gain_69 rfl ?_
    refine ob_cVl F dX12_gain_70 im_X12_gains tw7_60 h (fun b hb => t_X12_gains hb) rfl rfl (Nat.le_of_ble_eq_true rfl) (by decide) fun v4 h => ?_
    refine ob_rload_n F 0 dX12_gain_73 rfl ?_
    refine ob_getR F dX12_gain_74 fl_X12_47 h fun v5 h => ?_
    refine ob_rload_n F 0 dX12_gain_77 rfl ?_
    refine ob_getR F dX12_gain_78 fl_X12_13 h fun v6 h => ?_
    refine ob_iconst F (v := 2) dX12_gain_81 (by decide) ?_
    refine ob_iald F dX12_gain_82 h fun v7 h => ?_
    refine ob_lald F dX12_gain_83 h fun v8 h => ?_
    refine ob_iload F 4 dX12_gain_84 rfl ?_
    refine ob_cSl F dX12_gain_86 im_X12_told tw6_231 h (fun b hb => t_X12_told hb) rfl rfl (Nat.le_of_ble_eq_true rfl) (by decide) fun v9 h => ?_
    obtain rfl := Option.some.inj h
    exact ob_lret F dX12_gain_89 k
  · refine ob_lconst F (v := 0) dX12_gain_60 (by decide) ?_
    obtain rfl := Option.some.inj h
    exact ob_lret F dX12_gain_61 k
def B_X12_gain_49 (g : ob_St) (n0 : Nat) (x1 : Int32) (x2 : Int32) (x3 : Int32) (x4 : Int32) (s0 : Nat) : Option (Int64 × ob_St) :=
  B_X12_gain_54 g n0 x1 x2 x3 x4 s0 1
theorem b_X12_gain_49 {C : ob_Cx} (F : ob_Fx C cX12_gain 5 RX12 (some .long) 7 174) {g : ob_St} {n0 : Nat} {x1 : Int32} {x2 : Int32} {x3 : Int32} {x4 : Int32} {s0 : Nat} {r : (Int64 × ob_St)} (h : B_X12_gain_49 g n0 x1 x2 x3 x4 s0 = some r) (k : ob_Rt C (some (.long r.1)) r.2) : ob_Ev C 49 [(0, ob_rv C n0), (1, .int x1), (2, .int x2), (3, .int x3), (4, .int x4)] [ob_rv C s0] g := by
  unfold B_X12_gain_49 at h
  refine ob_iconst F (v := 1) dX12_gain_49 (by decide) ?_
  refine ob_goto F 54 dX12_gain_50 (by decide) ?_
  exact b_X12_gain_54 F h k
def f_X12_gain (g : ob_St) (n0 : Nat) (x1 : Int32) (x2 : Int32) (x3 : Int32) (x4 : Int32) : Option (Int64 × ob_St) :=
  (ob_ck 12 n0 (f_X12_isOption g n0 x1)).bind fun v1 => (if v1 = 0 then (B_X12_gain_49 g n0 x1 x2 x3 x4 n0) else ((ob_gR 12 n0 1).bind fun v10 => (ob_rI g 14 v10 2).bind fun v11 => (f_X12_isIn x2 0 ((1 <<< (v11 &&& 31)) - 1)).bind fun v12 => (if v12 = 0 then (B_X12_gain_49 g n0 x1 x2 x3 x4 n0) else ((ob_gR 12 n0 1).bind fun v13 => (ob_rI g 14 v13 2).bind fun v14 => (f_X12_isIn x3 (-1) v14).bind fun v15 => (if v15 = 0 then (B_X12_gain_49 g n0 x1 x2 x3 x4 n0) else ((f_X12_isPart x4).bind fun v16 => (if v16 = 0 then (B_X12_gain_49 g n0 x1 x2 x3 x4 n0) else (B_X12_gain_54 g n0 x1 x2 x3 x4 n0 0))))))))
theorem b_X12_gain_0 {C : ob_Cx} (F : ob_Fx C cX12_gain 5 RX12 (some .long) 7 174) {g : ob_St} {n0 : Nat} {x1 : Int32} {x2 : Int32} {x3 : Int32} {x4 : Int32} {r : (Int64 × ob_St)} (h : f_X12_gain g n0 x1 x2 x3 x4 = some r) (k : ob_Rt C (some (.long r.1)) r.2) : ob_Ev C 0 [(0, ob_rv C n0), (1, .int x1), (2, .int x2), (3, .int x3), (4, .int x4)] [] g := by
  unfold f_X12_gain at h
  refine ob_rload_n F 0 dX12_gain_0 rfl ?_
  refine ob_rload_n F 0 dX12_gain_1 rfl ?_
  refine ob_iload_n F 1 dX12_gain_2 rfl ?_
  refine ob_cVi F dX12_gain_3 im_X12_isOption tw6_145 h (fun b hb => t_X12_isOption hb) rfl rfl (Nat.le_of_ble_eq_true rfl) (by decide) fun v1 h => ?_
  refine ob_if_eq F 49 dX12_gain_6 (by decide) h (fun h => ?_) (fun h => ?_)
  · exact b_X12_gain_49 F h k
  · refine ob_iload_n F 2 dX12_gain_9 rfl ?_
    refine ob_iconst F (v := 0) dX12_gain_10 (by decide) ?_
    refine ob_iconst F (v := 1) dX12_gain_11 (by decide) ?_
    refine ob_rload_n F 0 dX12_gain_12 rfl ?_
    refine ob_getR F dX12_gain_13 fl_X12_13 h fun v10 h => ?_
    refine ob_iconst F (v := 2) dX12_gain_16 (by decide) ?_
    refine ob_iald F dX12_gain_17 h fun v11 h => ?_
    refine ob_ishl F dX12_gain_18 ?_
    refine ob_iconst F (v := 1) dX12_gain_19 (by decide) ?_
    refine ob_isub F dX12_gain_20 ?_
    refine ob_cSi F dX12_gain_21 im_X12_isIn tw6_67 h (fun b hb => t_X12_isIn hb) rfl rfl (Nat.le_of_ble_eq_true rfl) (by decide) fun v12 h => ?_
    refine ob_if_eq F 49 dX12_gain_24 (by decide) h (fun h => ?_) (fun h => ?_)
    · exact b_X12_gain_49 F h k
    · refine ob_iload_n F 3 dX12_gain_27 rfl ?_
      refine ob_iconst F (v := (-1)) dX12_gain_28 (by decide) ?_
      refine ob_rload_n F 0 dX12_gain_29 rfl ?_
      refine ob_getR F dX12_gain_30 fl_X12_13 h fun v13 h => ?_
      refine ob_iconst F (v := 2) dX12_gain_33 (by decide) ?_
      refine ob_iald F dX12_gain_34 h fun v14 h => ?_
      refine ob_cSi F dX12_gain_35 im_X12_isIn tw6_67 h (fun b hb => t_X12_isIn hb) rfl rfl (Nat.le_of_ble_eq_true rfl) (by decide) fun v15 h => ?_
      refine ob_if_eq F 49 dX12_gain_38 (by decide) h (fun h => ?_) (fun h => ?_)
      · exact b_X12_gain_49 F h k
      · refine ob_iload F 4 dX12_gain_41 rfl ?_
        refine ob_cSi F dX12_gain_43 im_X12_isPart tw6_182 h (fun b hb => t_X12_isPart hb) rfl rfl (Nat.le_of_ble_eq_true rfl) (by decide) fun v16 h => ?_
        refine ob_if_ne F 53 dX12_gain_46 (by decide) h (fun h => ?_) (fun h => ?_)
        · refine ob_iconst F (v := 0) dX12_gain_53 (by decide) ?_
          exact b_X12_gain_54 F h k
        · exact b_X12_gain_49 F h k
theorem t_X12_gain {cf : ob_Cf} {g : ob_St} {n0 : Nat} {x1 : Int32} {x2 : Int32} {x3 : Int32} {x4 : Int32} {r : (Int64 × ob_St)} (h : f_X12_gain g n0 x1 x2 x3 x4 = some r) : ob_Mt cf yX12_gain cX12_gain 5 (some .long) 7 174 [ob_rw cf n0, .int x1, .int x2, .int x3, .int x4] g (some (.long r.1)) r.2 := by
  refine ob_enter (by decide) (Nat.le_of_ble_eq_true rfl) rfl ?_
  intro C hC F k
  subst hC
  exact b_X12_gain_0 F h k
-- X12_richest
def B_X12_richest_88 (rec : Int32 → Int64 → Int32 → Option (Int32)) (g : ob_St) (n0 : Nat) (x1 : Int32) (x2 : Int32) (x3 : Int32) (y4 : Int64) (x6 : Int32) : Option (Int32) :=
  rec x3 y4 (x6 + 1)
theorem b_X12_richest_88 {C : ob_Cx} {rec : Int32 → Int64 → Int32 → Option (Int32)} (F : ob_Fx C cX12_richest 9 RX12 (some .int) 7 174) {g : ob_St} {n0 : Nat} {x1 : Int32} {x2 : Int32} {x3 : Int32} {y4 : Int64} {x6 : Int32} {x : (Int32)} (hr : ∀ {x3 : Int32} {y4 : Int64} {x6 : Int32} {x : (Int32)}, rec x3 y4 x6 = some x → ob_Ev C 94 [(3, .int x)] [] g → ob_Ev C 47 [(0, ob_rv C n0), (1, .int x1), (2, .int x2), (3, .int x3), (4, .long y4), (6, .int x6)] [] g) (h : B_X12_richest_88 rec g n0 x1 x2 x3 y4 x6 = some x) (k0 : ob_Ev C 94 [(3, .int x)] [] g) : ob_Ev C 88 [(0, ob_rv C n0), (1, .int x1), (2, .int x2), (3, .int x3), (4, .long y4), (6, .int x6)] [] g := by
  unfold B_X12_richest_88 at h
  refine ob_iinc F (v := (x6 + 1)) (ls2 := [(6, .int (x6 + 1)), (0, ob_rv C n0), (1, .int x1), (2, .int x2), (3, .int x3), (4, .long y4)]) 5 dX12_richest_88 rfl rfl (by decide) rfl ?_
  refine ob_goto F 47 dX12_richest_91 (by decide) ?_
  exact ob_sub [1, 2, 3, 4, 5, 0] rfl (hr h k0)
def Lb_X12_richest_47 (rec : Int32 → Int64 → Int32 → Option (Int32)) (g : ob_St) (n0 : Nat) (x1 : Int32) (x2 : Int32) (x3 : Int32) (y4 : Int64) (x6 : Int32) : Option (Int32) :=
  (ob_gR 12 n0 1).bind fun v8 => (ob_rI g 14 v8 2).bind fun v9 => (if (1 <<< (v9 &&& 31)) ≤ x6 then (some x3) else ((ob_ck 12 n0 (f_X12_gains g n0 x1 x6 x2)).bind fun v10 => (if y4 < v10 then (B_X12_richest_88 rec g n0 x1 x2 x6 v10 x6) else (B_X12_richest_88 rec g n0 x1 x2 x3 y4 x6))))
def L_X12_richest_47 (g : ob_St) (n0 : Nat) (x1 : Int32) (x2 : Int32) : Nat → Int32 → Int64 → Int32 → Option (Int32)
  | 0, _, _, _ => none
  | n + 1, x3, y4, x6 => Lb_X12_richest_47 (L_X12_richest_47 g n0 x1 x2 n) g n0 x1 x2 x3 y4 x6
theorem lb_X12_richest_47 {C : ob_Cx} {rec : Int32 → Int64 → Int32 → Option (Int32)} (F : ob_Fx C cX12_richest 9 RX12 (some .int) 7 174) {g : ob_St} {n0 : Nat} {x1 : Int32} {x2 : Int32} {x3 : Int32} {y4 : Int64} {x6 : Int32} {x : (Int32)} (hr : ∀ {x3 : Int32} {y4 : Int64} {x6 : Int32} {x : (Int32)}, rec x3 y4 x6 = some x → ob_Ev C 94 [(3, .int x)] [] g → ob_Ev C 47 [(0, ob_rv C n0), (1, .int x1), (2, .int x2), (3, .int x3), (4, .long y4), (6, .int x6)] [] g) (h : Lb_X12_richest_47 rec g n0 x1 x2 x3 y4 x6 = some x) (k0 : ob_Ev C 94 [(3, .int x)] [] g) : ob_Ev C 47 [(0, ob_rv C n0), (1, .int x1), (2, .int x2), (3, .int x3), (4, .long y4), (6, .int x6)] [] g := by
  unfold Lb_X12_richest_47 at h
  refine ob_iload F 5 dX12_richest_47 rfl ?_
  refine ob_iconst F (v := 1) dX12_richest_49 (by decide) ?_
  refine ob_rload_n F 0 dX12_richest_50 rfl ?_
  refine ob_getR F dX12_richest_51 fl_X12_13 h fun v8 h => ?_
  refine ob_iconst F (v := 2) dX12_richest_54 (by decide) ?_
  refine ob_iald F dX12_richest_55 h fun v9 h => ?_
  refine ob_ishl F dX12_richest_56 ?_
  refine ob_icmp_ge F 94 dX12_richest_57 (by decide) h (fun h => ?_) (fun h => ?_)
  · obtain rfl := Option.some.inj h
    exact ob_sub [3] rfl (k0)
  · refine ob_rload_n F 0 dX12_richest_60 rfl ?_
    refine ob_iload_n F 1 dX12_richest_61 rfl ?_
    refine ob_iload F 5 dX12_richest_62 rfl ?_
    refine ob_iload_n F 2 dX12_richest_64 rfl ?_
    refine ob_cVl F dX12_richest_65 im_X12_gains tw7_60 h (fun b hb => t_X12_gains hb) rfl rfl (Nat.le_of_ble_eq_true rfl) (by decide) fun v10 h => ?_
    refine ob_lstore F (ls2 := [(7, .long v10), (0, ob_rv C n0), (1, .int x1), (2, .int x2), (3, .int x3), (4, .long y4), (6, .int x6)]) dX12_richest_68 (by decide) rfl ?_
    refine ob_lload F 0 dX12_richest_70 rfl ?_
    refine ob_lload F 5 dX12_richest_72 rfl ?_
    refine ob_lcmp_gt F 81 dX12_richest_74 dX12_richest_75 (by decide) h (fun h => ?_) (fun h => ?_)
    · refine ob_iload F 6 dX12_richest_81 rfl ?_
      refine ob_istore_n F (ls2 := [(3, .int x6), (7, .long v10), (0, ob_rv C n0), (1, .int x1), (2, .int x2), (4, .long y4), (6, .int x6)]) dX12_richest_83 (by decide) rfl ?_
      refine ob_lload F 1 dX12_richest_84 rfl ?_
      refine ob_lstore F (ls2 := [(4, .long v10), (3, .int x6), (7, .long v10), (0, ob_rv C n0), (1, .int x1), (2, .int x2), (6, .int x6)]) dX12_richest_86 (by decide) rfl ?_
      exact ob_sub [3, 4, 5, 1, 0, 6] rfl (b_X12_richest_88 F hr h k0)
    · refine ob_goto F 88 dX12_richest_78 (by decide) ?_
      exact ob_sub [1, 2, 3, 4, 5, 6] rfl (b_X12_richest_88 F hr h k0)
theorem l_X12_richest_47 {C : ob_Cx} (F : ob_Fx C cX12_richest 9 RX12 (some .int) 7 174) {g : ob_St} {n0 : Nat} {x1 : Int32} {x2 : Int32} : ∀ (n : Nat) {x3 : Int32} {y4 : Int64} {x6 : Int32} {x : (Int32)}, L_X12_richest_47 g n0 x1 x2 n x3 y4 x6 = some x → ob_Ev C 94 [(3, .int x)] [] g → ob_Ev C 47 [(0, ob_rv C n0), (1, .int x1), (2, .int x2), (3, .int x3), (4, .long y4), (6, .int x6)] [] g := by
  intro n
  induction n with
  | zero => intro x3 y4 x6 x h; exact ob_no h
  | succ n ih => intro x3 y4 x6 x h k0; exact lb_X12_richest_47 F ih h k0
def f_X12_richest (g : ob_St) (n0 : Nat) (x1 : Int32) (x2 : Int32) : Option (Int32 × ob_St) :=
  (ob_pI g 12 n0 0 0).bind fun g1 => (ob_ck 12 n0 (f_X12_isOption g1 n0 x1)).bind fun v2 => (if v2 = 0 then (some ((-1), g1)) else ((ob_gR 12 n0 1).bind fun v3 => (ob_rI g1 14 v3 2).bind fun v4 => (f_X12_isIn x2 (-1) v4).bind fun v5 => (if v5 = 0 then (some ((-1), g1)) else ((ob_ck 12 n0 (f_X12_lays g1 n0)).bind fun g6 => (ob_ck 12 n0 (f_X12_gains g6 n0 x1 0 x2)).bind fun v7 => (L_X12_richest_47 g6 n0 x1 x2 ob_FU 0 v7 1).bind fun x_11 => some (x_11, g6)))))
theorem b_X12_richest_0 {C : ob_Cx} (F : ob_Fx C cX12_richest 9 RX12 (some .int) 7 174) {g : ob_St} {n0 : Nat} {x1 : Int32} {x2 : Int32} {r : (Int32 × ob_St)} (h : f_X12_richest g n0 x1 x2 = some r) (k : ob_Rt C (some (.int r.1)) r.2) : ob_Ev C 0 [(0, ob_rv C n0), (1, .int x1), (2, .int x2)] [] g := by
  unfold f_X12_richest at h
  refine ob_rload_n F 0 dX12_richest_0 rfl ?_
  refine ob_iconst F (v := 0) dX12_richest_1 (by decide) ?_
  refine ob_putI F dX12_richest_2 fp_X12_1 h fun g1 h => ?_
  refine ob_rload_n F 0 dX12_richest_5 rfl ?_
  refine ob_iload_n F 1 dX12_richest_6 rfl ?_
  refine ob_cVi F dX12_richest_7 im_X12_isOption tw6_145 h (fun b hb => t_X12_isOption hb) rfl rfl (Nat.le_of_ble_eq_true rfl) (by decide) fun v2 h => ?_
  refine ob_if_eq F 27 dX12_richest_10 (by decide) h (fun h => ?_) (fun h => ?_)
  · refine ob_iconst F (v := (-1)) dX12_richest_27 (by decide) ?_
    obtain rfl := Option.some.inj h
    exact ob_iret F dX12_richest_28 k
  · refine ob_iload_n F 2 dX12_richest_13 rfl ?_
    refine ob_iconst F (v := (-1)) dX12_richest_14 (by decide) ?_
    refine ob_rload_n F 0 dX12_richest_15 rfl ?_
    refine ob_getR F dX12_richest_16 fl_X12_13 h fun v3 h => ?_
    refine ob_iconst F (v := 2) dX12_richest_19 (by decide) ?_
    refine ob_iald F dX12_richest_20 h fun v4 h => ?_
    refine ob_cSi F dX12_richest_21 im_X12_isIn tw6_67 h (fun b hb => t_X12_isIn hb) rfl rfl (Nat.le_of_ble_eq_true rfl) (by decide) fun v5 h => ?_
    refine ob_if_ne F 29 dX12_richest_24 (by decide) h (fun h => ?_) (fun h => ?_)
    · refine ob_rload_n F 0 dX12_richest_29 rfl ?_
      refine ob_cVvS F dX12_richest_30 im_X12_lays tw6_189 h (fun b hb => t_X12_lays hb) rfl rfl (Nat.le_of_ble_eq_true rfl) (by decide) fun g6 h => ?_
      refine ob_iconst F (v := 0) dX12_richest_33 (by decide) ?_
      refine ob_istore_n F (ls2 := [(3, .int 0), (0, ob_rv C n0), (1, .int x1), (2, .int x2)]) dX12_richest_34 (by decide) rfl ?_
      refine ob_rload_n F 1 dX12_richest_35 rfl ?_
      refine ob_iload_n F 2 dX12_richest_36 rfl ?_
      refine ob_iconst F (v := 0) dX12_richest_37 (by decide) ?_
      refine ob_iload_n F 3 dX12_richest_38 rfl ?_
      refine ob_cVl F dX12_richest_39 im_X12_gains tw7_60 h (fun b hb => t_X12_gains hb) rfl rfl (Nat.le_of_ble_eq_true rfl) (by decide) fun v7 h => ?_
      refine ob_lstore F (ls2 := [(4, .long v7), (3, .int 0), (0, ob_rv C n0), (1, .int x1), (2, .int x2)]) dX12_richest_42 (by decide) rfl ?_
      refine ob_iconst F (v := 1) dX12_richest_44 (by decide) ?_
      refine ob_istore F (ls2 := [(6, .int 1), (4, .long v7), (3, .int 0), (0, ob_rv C n0), (1, .int x1), (2, .int x2)]) dX12_richest_45 (by decide) rfl ?_
      obtain ⟨x_11, hx, h⟩ := Option.bind_eq_some_iff.mp h
      refine ob_sub [3, 4, 5, 2, 1, 0] rfl (l_X12_richest_47 F ob_FU hx ?_)
      refine ob_iload_n F 0 dX12_richest_94 rfl ?_
      obtain rfl := Option.some.inj h
      exact ob_iret F dX12_richest_95 k
    · refine ob_iconst F (v := (-1)) dX12_richest_27 (by decide) ?_
      obtain rfl := Option.some.inj h
      exact ob_iret F dX12_richest_28 k
theorem t_X12_richest {cf : ob_Cf} {g : ob_St} {n0 : Nat} {x1 : Int32} {x2 : Int32} {r : (Int32 × ob_St)} (h : f_X12_richest g n0 x1 x2 = some r) : ob_Mt cf yX12_richest cX12_richest 9 (some .int) 7 174 [ob_rw cf n0, .int x1, .int x2] g (some (.int r.1)) r.2 := by
  refine ob_enter (by decide) (Nat.le_of_ble_eq_true rfl) (Or.inl rfl) ?_
  intro C hC F k
  subst hC
  exact b_X12_richest_0 F h k
-- X12_isWorth
def f_X12_isWorth (g : ob_St) (n0 : Nat) (x1 : Int32) (x2 : Int32) (x3 : Int32) : Option (Int32 × ob_St) :=
  (ob_gR 12 n0 1).bind fun v1 => (ob_wI g v1 ((30 + (10 * x1)) + 1) x2).bind fun g2 => (ob_ck 12 n0 (f_X12_laysOption g2 n0 x1)).bind fun g3 => (if x3 < 0 then (some (1, g3)) else ((if 9999 ≤ x3 then (some (0, g3)) else ((ob_gR 12 n0 20).bind fun v4 => (f_X12_cell x1 0 0).bind fun v5 => (ob_rL g3 v4 v5).bind fun v6 => (ob_gR 12 n0 22).bind fun v7 => (ob_gR 12 n0 1).bind fun v8 => (ob_rI g3 14 v8 2).bind fun v9 => (ob_rL g3 v7 v9).bind fun v10 => (if v6 < ((Int32.toInt64 x3) * v10) then (some (0, g3)) else (some (1, g3)))))))
theorem b_X12_isWorth_0 {C : ob_Cx} (F : ob_Fx C cX12_isWorth 4 RX12 (some .boolean) 6 153) {g : ob_St} {n0 : Nat} {x1 : Int32} {x2 : Int32} {x3 : Int32} {r : (Int32 × ob_St)} (h : f_X12_isWorth g n0 x1 x2 x3 = some r) (k : ob_Rt C (some (.int r.1)) r.2) : ob_Ev C 0 [(0, ob_rv C n0), (1, .int x1), (2, .int x2), (3, .int x3)] [] g := by
  unfold f_X12_isWorth at h
  refine ob_rload_n F 0 dX12_isWorth_0 rfl ?_
  refine ob_getR F dX12_isWorth_1 fl_X12_13 h fun v1 h => ?_
  refine ob_bipush F (v := 30) dX12_isWorth_4 (by decide) ?_
  refine ob_bipush F (v := 10) dX12_isWorth_6 (by decide) ?_
  refine ob_iload_n F 1 dX12_isWorth_8 rfl ?_
  refine ob_imul F dX12_isWorth_9 ?_
  refine ob_iadd F dX12_isWorth_10 ?_
  refine ob_iconst F (v := 1) dX12_isWorth_11 (by decide) ?_
  refine ob_iadd F dX12_isWorth_12 ?_
  refine ob_iload_n F 2 dX12_isWorth_13 rfl ?_
  refine ob_iast F dX12_isWorth_14 h fun g2 h => ?_
  refine ob_rload_n F 0 dX12_isWorth_15 rfl ?_
  refine ob_iload_n F 1 dX12_isWorth_16 rfl ?_
  refine ob_cVvS F dX12_isWorth_17 im_X12_laysOption tw6_193 h (fun b hb => t_X12_laysOption hb) rfl rfl (Nat.le_of_ble_eq_true rfl) (by decide) fun g3 h => ?_
  refine ob_iload_n F 3 dX12_isWorth_20 rfl ?_
  refine ob_if_lt F 60 dX12_isWorth_21 (by decide) h (fun h => ?_) (fun h => ?_)
  · refine ob_iconst F (v := 1) dX12_isWorth_60 (by decide) ?_
    refine ob_goto F 65 dX12_isWorth_61 (by decide) ?_
    obtain rfl := Option.some.inj h
    exact ob_zret F dX12_isWorth_65 (Or.inr rfl) k
  · refine ob_iload_n F 3 dX12_isWorth_24 rfl ?_
    refine ob_sipush F (v := 9999) dX12_isWorth_25 (by decide) ?_
    refine ob_icmp_ge F 64 dX12_isWorth_28 (by decide) h (fun h => ?_) (fun h => ?_)
    · refine ob_iconst F (v := 0) dX12_isWorth_64 (by decide) ?_
      obtain rfl := Option.some.inj h
      exact ob_zret F dX12_isWorth_65 (Or.inl rfl) k
    · refine ob_rload_n F 0 dX12_isWorth_31 rfl ?_
      refine ob_getR F dX12_isWorth_32 fl_X12_40 h fun v4 h => ?_
      refine ob_iload_n F 1 dX12_isWorth_35 rfl ?_
      refine ob_iconst F (v := 0) dX12_isWorth_36 (by decide) ?_
      refine ob_iconst F (v := 0) dX12_isWorth_37 (by decide) ?_
      refine ob_cSi F dX12_isWorth_38 im_X12_cell tw6_209 h (fun b hb => t_X12_cell hb) rfl rfl (Nat.le_of_ble_eq_true rfl) (by decide) fun v5 h => ?_
      refine ob_lald F dX12_isWorth_41 h fun v6 h => ?_
      refine ob_iload_n F 3 dX12_isWorth_42 rfl ?_
      refine ob_i2l F dX12_isWorth_43 ?_
      refine ob_rload_n F 0 dX12_isWorth_44 rfl ?_
      refine ob_getR F dX12_isWorth_45 fl_X12_47 h fun v7 h => ?_
      refine ob_rload_n F 0 dX12_isWorth_48 rfl ?_
      refine ob_getR F dX12_isWorth_49 fl_X12_13 h fun v8 h => ?_
      refine ob_iconst F (v := 2) dX12_isWorth_52 (by decide) ?_
      refine ob_iald F dX12_isWorth_53 h fun v9 h => ?_
      refine ob_lald F dX12_isWorth_54 h fun v10 h => ?_
      refine ob_lmul F dX12_isWorth_55 ?_
      refine ob_lcmp_lt F 64 dX12_isWorth_56 dX12_isWorth_57 (by decide) h (fun h => ?_) (fun h => ?_)
      · refine ob_iconst F (v := 0) dX12_isWorth_64 (by decide) ?_
        obtain rfl := Option.some.inj h
        exact ob_zret F dX12_isWorth_65 (Or.inl rfl) k
      · refine ob_iconst F (v := 1) dX12_isWorth_60 (by decide) ?_
        refine ob_goto F 65 dX12_isWorth_61 (by decide) ?_
        obtain rfl := Option.some.inj h
        exact ob_zret F dX12_isWorth_65 (Or.inr rfl) k
theorem t_X12_isWorth {cf : ob_Cf} {g : ob_St} {n0 : Nat} {x1 : Int32} {x2 : Int32} {x3 : Int32} {r : (Int32 × ob_St)} (h : f_X12_isWorth g n0 x1 x2 x3 = some r) : ob_Mt cf yX12_isWorth cX12_isWorth 4 (some .boolean) 6 153 [ob_rw cf n0, .int x1, .int x2, .int x3] g (some (.int r.1)) r.2 := by
  refine ob_enter (by decide) (Nat.le_of_ble_eq_true rfl) (Or.inr rfl) ?_
  intro C hC F k
  subst hC
  exact b_X12_isWorth_0 F h k
-- X12_strike
def B_X12_strike_92 (rec : ob_St → Int32 → Int32 → Option (ob_St × Int32)) (g : ob_St) (n0 : Nat) (x1 : Int32) (x2 : Int32) (x3 : Int32) (x4 : Int32) (x5 : Int32) : Option (ob_St × Int32) :=
  rec g x4 (x5 + 1)
theorem b_X12_strike_92 {C : ob_Cx} {rec : ob_St → Int32 → Int32 → Option (ob_St × Int32)} (F : ob_Fx C cX12_strike 7 RX12 (some .int) 7 176) {g : ob_St} {n0 : Nat} {x1 : Int32} {x2 : Int32} {x3 : Int32} {x4 : Int32} {x5 : Int32} {x : (ob_St × Int32)} (hr : ∀ {g : ob_St} {x4 : Int32} {x5 : Int32} {x : (ob_St × Int32)}, rec g x4 x5 = some x → ob_Ev C 98 [(0, ob_rv C n0), (1, .int x1), (3, .int x3), (4, .int x.2)] [] x.1 → ob_Ev C 42 [(0, ob_rv C n0), (1, .int x1), (2, .int x2), (3, .int x3), (4, .int x4), (5, .int x5)] [] g) (h : B_X12_strike_92 rec g n0 x1 x2 x3 x4 x5 = some x) (k0 : ob_Ev C 98 [(0, ob_rv C n0), (1, .int x1), (3, .int x3), (4, .int x.2)] [] x.1) : ob_Ev C 92 [(0, ob_rv C n0), (1, .int x1), (2, .int x2), (3, .int x3), (4, .int x4), (5, .int x5)] [] g := by
  unfold B_X12_strike_92 at h
  refine ob_iinc F (v := (x5 + 1)) (ls2 := [(5, .int (x5 + 1)), (0, ob_rv C n0), (1, .int x1), (2, .int x2), (3, .int x3), (4, .int x4)]) 5 dX12_strike_92 rfl rfl (by decide) rfl ?_
  refine ob_goto F 42 dX12_strike_95 (by decide) ?_
  exact ob_sub [1, 2, 3, 4, 5, 0] rfl (hr h k0)
def B_X12_strike_75 (rec : ob_St → Int32 → Int32 → Option (ob_St × Int32)) (g : ob_St) (n0 : Nat) (x1 : Int32) (x2 : Int32) (x3 : Int32) (x4 : Int32) (x5 : Int32) (s0 : Int32) : Option (ob_St × Int32) :=
  (ob_ck 12 n0 (f_X12_isWorth g n0 x1 s0 x2)).bind fun v7 => (if v7.1 = 0 then (B_X12_strike_92 rec v7.2 n0 x1 x2 x3 x4 x5) else (B_X12_strike_92 rec v7.2 n0 x1 x2 x3 s0 x5))
theorem b_X12_strike_75 {C : ob_Cx} {rec : ob_St → Int32 → Int32 → Option (ob_St × Int32)} (F : ob_Fx C cX12_strike 7 RX12 (some .int) 7 176) {g : ob_St} {n0 : Nat} {x1 : Int32} {x2 : Int32} {x3 : Int32} {x4 : Int32} {x5 : Int32} {s0 : Int32} {x : (ob_St × Int32)} (hr : ∀ {g : ob_St} {x4 : Int32} {x5 : Int32} {x : (ob_St × Int32)}, rec g x4 x5 = some x → ob_Ev C 98 [(0, ob_rv C n0), (1, .int x1), (3, .int x3), (4, .int x.2)] [] x.1 → ob_Ev C 42 [(0, ob_rv C n0), (1, .int x1), (2, .int x2), (3, .int x3), (4, .int x4), (5, .int x5)] [] g) (h : B_X12_strike_75 rec g n0 x1 x2 x3 x4 x5 s0 = some x) (k0 : ob_Ev C 98 [(0, ob_rv C n0), (1, .int x1), (3, .int x3), (4, .int x.2)] [] x.1) : ob_Ev C 75 [(0, ob_rv C n0), (1, .int x1), (2, .int x2), (3, .int x3), (4, .int x4), (5, .int x5)] [.int s0] g := by
  unfold B_X12_strike_75 at h
  refine ob_istore F (ls2 := [(6, .int s0), (0, ob_rv C n0), (1, .int x1), (2, .int x2), (3, .int x3), (4, .int x4), (5, .int x5)]) dX12_strike_75 (by decide) rfl ?_
  refine ob_rload_n F 1 dX12_strike_77 rfl ?_
  refine ob_iload_n F 2 dX12_strike_78 rfl ?_
  refine ob_iload F 0 dX12_strike_79 rfl ?_
  refine ob_iload_n F 3 dX12_strike_81 rfl ?_
  refine ob_cViS F dX12_strike_82 im_X12_isWorth tw7_75 h (fun b hb => t_X12_isWorth hb) rfl rfl (Nat.le_of_ble_eq_true rfl) (by decide) fun v7 h => ?_
  refine ob_if_eq F 92 dX12_strike_85 (by decide) h (fun h => ?_) (fun h => ?_)
  · exact ob_sub [1, 2, 3, 4, 5, 6] rfl (b_X12_strike_92 F hr h k0)
  · refine ob_iload F 0 dX12_strike_88 rfl ?_
    refine ob_istore F (ls2 := [(4, .int s0), (6, .int s0), (0, ob_rv C n0), (1, .int x1), (2, .int x2), (3, .int x3), (5, .int x5)]) dX12_strike_90 (by decide) rfl ?_
    exact ob_sub [2, 3, 4, 5, 0, 6] rfl (b_X12_strike_92 F hr h k0)
def Lb_X12_strike_42 (rec : ob_St → Int32 → Int32 → Option (ob_St × Int32)) (g : ob_St) (n0 : Nat) (x1 : Int32) (x2 : Int32) (x3 : Int32) (x4 : Int32) (x5 : Int32) : Option (ob_St × Int32) :=
  (if 1000 ≤ x5 then (some (g, x4)) else ((if 0 ≤ x4 then (some (g, x4)) else ((ob_ck 12 n0 (f_X12_get g n0 x1 0)).bind fun v6 => (if v6 = 0 then (B_X12_strike_75 rec g n0 x1 x2 x3 x4 x5 (999 - x5)) else (B_X12_strike_75 rec g n0 x1 x2 x3 x4 x5 x5))))))
def L_X12_strike_42 (n0 : Nat) (x1 : Int32) (x2 : Int32) (x3 : Int32) : Nat → ob_St → Int32 → Int32 → Option (ob_St × Int32)
  | 0, _, _, _ => none
  | n + 1, g, x4, x5 => Lb_X12_strike_42 (L_X12_strike_42 n0 x1 x2 x3 n) g n0 x1 x2 x3 x4 x5
theorem lb_X12_strike_42 {C : ob_Cx} {rec : ob_St → Int32 → Int32 → Option (ob_St × Int32)} (F : ob_Fx C cX12_strike 7 RX12 (some .int) 7 176) {g : ob_St} {n0 : Nat} {x1 : Int32} {x2 : Int32} {x3 : Int32} {x4 : Int32} {x5 : Int32} {x : (ob_St × Int32)} (hr : ∀ {g : ob_St} {x4 : Int32} {x5 : Int32} {x : (ob_St × Int32)}, rec g x4 x5 = some x → ob_Ev C 98 [(0, ob_rv C n0), (1, .int x1), (3, .int x3), (4, .int x.2)] [] x.1 → ob_Ev C 42 [(0, ob_rv C n0), (1, .int x1), (2, .int x2), (3, .int x3), (4, .int x4), (5, .int x5)] [] g) (h : Lb_X12_strike_42 rec g n0 x1 x2 x3 x4 x5 = some x) (k0 : ob_Ev C 98 [(0, ob_rv C n0), (1, .int x1), (3, .int x3), (4, .int x.2)] [] x.1) : ob_Ev C 42 [(0, ob_rv C n0), (1, .int x1), (2, .int x2), (3, .int x3), (4, .int x4), (5, .int x5)] [] g := by
  unfold Lb_X12_strike_42 at h
  refine ob_iload F 5 dX12_strike_42 rfl ?_
  refine ob_sipush F (v := 1000) dX12_strike_44 (by decide) ?_
  refine ob_icmp_ge F 98 dX12_strike_47 (by decide) h (fun h => ?_) (fun h => ?_)
  · obtain rfl := Option.some.inj h
    exact ob_sub [0, 1, 3, 4] rfl (k0)
  · refine ob_iload F 4 dX12_strike_50 rfl ?_
    refine ob_if_ge F 98 dX12_strike_52 (by decide) h (fun h => ?_) (fun h => ?_)
    · obtain rfl := Option.some.inj h
      exact ob_sub [0, 1, 3, 4] rfl (k0)
    · refine ob_rload_n F 0 dX12_strike_55 rfl ?_
      refine ob_iload_n F 1 dX12_strike_56 rfl ?_
      refine ob_iconst F (v := 0) dX12_strike_57 (by decide) ?_
      refine ob_cVi F dX12_strike_58 im_X12_get tw6_154 h (fun b hb => t_X12_get hb) rfl rfl (Nat.le_of_ble_eq_true rfl) (by decide) fun v6 h => ?_
      refine ob_if_ne F 73 dX12_strike_61 (by decide) h (fun h => ?_) (fun h => ?_)
      · refine ob_iload F 5 dX12_strike_73 rfl ?_
        exact b_X12_strike_75 F hr h k0
      · refine ob_sipush F (v := 999) dX12_strike_64 (by decide) ?_
        refine ob_iload F 5 dX12_strike_67 rfl ?_
        refine ob_isub F dX12_strike_69 ?_
        refine ob_goto F 75 dX12_strike_70 (by decide) ?_
        exact b_X12_strike_75 F hr h k0
theorem l_X12_strike_42 {C : ob_Cx} (F : ob_Fx C cX12_strike 7 RX12 (some .int) 7 176) {n0 : Nat} {x1 : Int32} {x2 : Int32} {x3 : Int32} : ∀ (n : Nat) {g : ob_St} {x4 : Int32} {x5 : Int32} {x : (ob_St × Int32)}, L_X12_strike_42 n0 x1 x2 x3 n g x4 x5 = some x → ob_Ev C 98 [(0, ob_rv C n0), (1, .int x1), (3, .int x3), (4, .int x.2)] [] x.1 → ob_Ev C 42 [(0, ob_rv C n0), (1, .int x1), (2, .int x2), (3, .int x3), (4, .int x4), (5, .int x5)] [] g := by
  intro n
  induction n with
  | zero => intro g x4 x5 x h; exact ob_no h
  | succ n ih => intro g x4 x5 x h k0; exact lb_X12_strike_42 F ih h k0
def f_X12_strike (g : ob_St) (n0 : Nat) (x1 : Int32) (x2 : Int32) : Option (Int32 × ob_St) :=
  (ob_pI g 12 n0 0 0).bind fun g1 => (ob_ck 12 n0 (f_X12_isOption g1 n0 x1)).bind fun v2 => (if v2 = 0 then (some ((-1), g1)) else ((ob_ck 12 n0 (f_X12_get g1 n0 x1 0)).bind fun v3 => (if v3 ≤ 1 then ((ob_ck 12 n0 (f_X12_lays g1 n0)).bind fun g4 => (ob_ck 12 n0 (f_X12_get g4 n0 x1 1)).bind fun v5 => (L_X12_strike_42 n0 x1 x2 v5 ob_FU g4 (-1) 0).bind fun x_8 => (ob_gR 12 n0 1).bind fun v9 => (ob_wI x_8.1 v9 ((30 + (10 * x1)) + 1) v5).bind fun g10 => (ob_pZ g10 12 n0 19 0).bind fun g11 => some (x_8.2, g11)) else (some ((-1), g1)))))
theorem b_X12_strike_0 {C : ob_Cx} (F : ob_Fx C cX12_strike 7 RX12 (some .int) 7 176) {g : ob_St} {n0 : Nat} {x1 : Int32} {x2 : Int32} {r : (Int32 × ob_St)} (h : f_X12_strike g n0 x1 x2 = some r) (k : ob_Rt C (some (.int r.1)) r.2) : ob_Ev C 0 [(0, ob_rv C n0), (1, .int x1), (2, .int x2)] [] g := by
  unfold f_X12_strike at h
  refine ob_rload_n F 0 dX12_strike_0 rfl ?_
  refine ob_iconst F (v := 0) dX12_strike_1 (by decide) ?_
  refine ob_putI F dX12_strike_2 fp_X12_1 h fun g1 h => ?_
  refine ob_rload_n F 0 dX12_strike_5 rfl ?_
  refine ob_iload_n F 1 dX12_strike_6 rfl ?_
  refine ob_cVi F dX12_strike_7 im_X12_isOption tw6_145 h (fun b hb => t_X12_isOption hb) rfl rfl (Nat.le_of_ble_eq_true rfl) (by decide) fun v2 h => ?_
  refine ob_if_eq F 23 dX12_strike_10 (by decide) h (fun h => ?_) (fun h => ?_)
  · refine ob_iconst F (v := (-1)) dX12_strike_23 (by decide) ?_
    obtain rfl := Option.some.inj h
    exact ob_iret F dX12_strike_24 k
  · refine ob_rload_n F 0 dX12_strike_13 rfl ?_
    refine ob_iload_n F 1 dX12_strike_14 rfl ?_
    refine ob_iconst F (v := 0) dX12_strike_15 (by decide) ?_
    refine ob_cVi F dX12_strike_16 im_X12_get tw6_154 h (fun b hb => t_X12_get hb) rfl rfl (Nat.le_of_ble_eq_true rfl) (by decide) fun v3 h => ?_
    refine ob_iconst F (v := 1) dX12_strike_19 (by decide) ?_
    refine ob_icmp_le F 25 dX12_strike_20 (by decide) h (fun h => ?_) (fun h => ?_)
    · refine ob_rload_n F 0 dX12_strike_25 rfl ?_
      refine ob_cVvS F dX12_strike_26 im_X12_lays tw6_189 h (fun b hb => t_X12_lays hb) rfl rfl (Nat.le_of_ble_eq_true rfl) (by decide) fun g4 h => ?_
      refine ob_rload_n F 0 dX12_strike_29 rfl ?_
      refine ob_iload_n F 1 dX12_strike_30 rfl ?_
      refine ob_iconst F (v := 1) dX12_strike_31 (by decide) ?_
      refine ob_cVi F dX12_strike_32 im_X12_get tw6_154 h (fun b hb => t_X12_get hb) rfl rfl (Nat.le_of_ble_eq_true rfl) (by decide) fun v5 h => ?_
      refine ob_istore_n F (ls2 := [(3, .int v5), (0, ob_rv C n0), (1, .int x1), (2, .int x2)]) dX12_strike_35 (by decide) rfl ?_
      refine ob_iconst F (v := (-1)) dX12_strike_36 (by decide) ?_
      refine ob_istore F (ls2 := [(4, .int (-1)), (3, .int v5), (0, ob_rv C n0), (1, .int x1), (2, .int x2)]) dX12_strike_37 (by decide) rfl ?_
      refine ob_iconst F (v := 0) dX12_strike_39 (by decide) ?_
      refine ob_istore F (ls2 := [(5, .int 0), (4, .int (-1)), (3, .int v5), (0, ob_rv C n0), (1, .int x1), (2, .int x2)]) dX12_strike_40 (by decide) rfl ?_
      obtain ⟨x_8, hx, h⟩ := Option.bind_eq_some_iff.mp h
      refine ob_sub [3, 4, 5, 2, 1, 0] rfl (l_X12_strike_42 F ob_FU hx ?_)
      refine ob_rload_n F 0 dX12_strike_98 rfl ?_
      refine ob_getR F dX12_strike_99 fl_X12_13 h fun v9 h => ?_
      refine ob_bipush F (v := 30) dX12_strike_102 (by decide) ?_
      refine ob_bipush F (v := 10) dX12_strike_104 (by decide) ?_
      refine ob_iload_n F 1 dX12_strike_106 rfl ?_
      refine ob_imul F dX12_strike_107 ?_
      refine ob_iadd F dX12_strike_108 ?_
      refine ob_iconst F (v := 1) dX12_strike_109 (by decide) ?_
      refine ob_iadd F dX12_strike_110 ?_
      refine ob_iload_n F 2 dX12_strike_111 rfl ?_
      refine ob_iast F dX12_strike_112 h fun g10 h => ?_
      refine ob_rload_n F 0 dX12_strike_113 rfl ?_
      refine ob_iconst F (v := 0) dX12_strike_114 (by decide) ?_
      refine ob_putZ F dX12_strike_115 fp_X12_180 h fun g11 h => ?_
      refine ob_iload F 3 dX12_strike_118 rfl ?_
      obtain rfl := Option.some.inj h
      exact ob_iret F dX12_strike_120 k
    · refine ob_iconst F (v := (-1)) dX12_strike_23 (by decide) ?_
      obtain rfl := Option.some.inj h
      exact ob_iret F dX12_strike_24 k
theorem t_X12_strike {cf : ob_Cf} {g : ob_St} {n0 : Nat} {x1 : Int32} {x2 : Int32} {r : (Int32 × ob_St)} (h : f_X12_strike g n0 x1 x2 = some r) : ob_Mt cf yX12_strike cX12_strike 7 (some .int) 7 176 [ob_rw cf n0, .int x1, .int x2] g (some (.int r.1)) r.2 := by
  refine ob_enter (by decide) (Nat.le_of_ble_eq_true rfl) (Or.inl rfl) ?_
  intro C hC F k
  subst hC
  exact b_X12_strike_0 F h k
-- X12_early
def B_X12_early_21 (g : ob_St) (n0 : Nat) (x1 : Int32) (x2 : Int32) (s0 : Nat) (s1 : Int32) : Option (Int64 × ob_St) :=
  (ob_ck 12 s0 (f_X12_throwsIf g s0 s1)).bind fun v2 => (if v2.1 = 0 then ((ob_ck 12 n0 (f_X12_lays v2.2 n0)).bind fun g3 => (ob_gR 12 n0 20).bind fun v4 => (f_X12_cell x1 0 0).bind fun v5 => (ob_rL g3 v4 v5).bind fun v6 => (ob_ck 12 n0 (f_X12_get g3 n0 x1 3)).bind fun v7 => (ob_gR 12 n0 1).bind fun v8 => (ob_wI g3 v8 ((30 + (10 * x1)) + 3) 99).bind fun g9 => (ob_ck 12 n0 (f_X12_laysOption g9 n0 x1)).bind fun g10 => (ob_gR 12 n0 20).bind fun v11 => (f_X12_cell x1 0 0).bind fun v12 => (ob_rL g10 v11 v12).bind fun v13 => (ob_gR 12 n0 1).bind fun v14 => (ob_wI g10 v14 ((30 + (10 * x1)) + 3) v7).bind fun g15 => (ob_pZ g15 12 n0 19 0).bind fun g16 => (ob_gR 12 n0 22).bind fun v17 => (ob_gR 12 n0 1).bind fun v18 => (ob_rI g16 14 v18 2).bind fun v19 => (ob_rL g16 v17 v19).bind fun v20 => (f_X12_told (v6 - v13) v20 x2).bind fun v21 => some (v21, g16)) else (some (0, v2.2)))
theorem b_X12_early_21 {C : ob_Cx} (F : ob_Fx C cX12_early 8 RX12 (some .long) 7 174) {g : ob_St} {n0 : Nat} {x1 : Int32} {x2 : Int32} {s0 : Nat} {s1 : Int32} {r : (Int64 × ob_St)} (h : B_X12_early_21 g n0 x1 x2 s0 s1 = some r) (k : ob_Rt C (some (.long r.1)) r.2) : ob_Ev C 21 [(0, ob_rv C n0), (1, .int x1), (2, .int x2)] [.int s1, ob_rv C s0] g := by
  unfold B_X12_early_21 at h
  refine ob_cViS F dX12_early_21 im_X12_throwsIf tw6_185 h (fun b hb => t_X12_throwsIf hb) rfl rfl (Nat.le_of_ble_eq_true rfl) (by decide) fun v2 h => ?_
  refine ob_if_eq F 29 dX12_early_24 (by decide) h (fun h => ?_) (fun h => ?_)
  · refine ob_rload_n F 0 dX12_early_29 rfl ?_
    refine ob_cVvS F dX12_early_30 im_X12_lays tw6_189 h (fun b hb => t_X12_lays hb) rfl rfl (Nat.le_of_ble_eq_true rfl) (by decide) fun g3 h => ?_
    refine ob_rload_n F 0 dX12_early_33 rfl ?_
    refine ob_getR F dX12_early_34 fl_X12_40 h fun v4 h => ?_
    refine ob_iload_n F 1 dX12_early_37 rfl ?_
    refine ob_iconst F (v := 0) dX12_early_38 (by decide) ?_
    refine ob_iconst F (v := 0) dX12_early_39 (by decide) ?_
    refine ob_cSi F dX12_early_40 im_X12_cell tw6_209 h (fun b hb => t_X12_cell hb) rfl rfl (Nat.le_of_ble_eq_true rfl) (by decide) fun v5 h => ?_
    refine ob_lald F dX12_early_43 h fun v6 h => ?_
    refine ob_lstore_n F (ls2 := [(3, .long v6), (0, ob_rv C n0), (1, .int x1), (2, .int x2)]) dX12_early_44 (by decide) rfl ?_
    refine ob_rload_n F 1 dX12_early_45 rfl ?_
    refine ob_iload_n F 2 dX12_early_46 rfl ?_
    refine ob_iconst F (v := 3) dX12_early_47 (by decide) ?_
    refine ob_cVi F dX12_early_48 im_X12_get tw6_154 h (fun b hb => t_X12_get hb) rfl rfl (Nat.le_of_ble_eq_true rfl) (by decide) fun v7 h => ?_
    refine ob_istore F (ls2 := [(5, .int v7), (3, .long v6), (0, ob_rv C n0), (1, .int x1), (2, .int x2)]) dX12_early_51 (by decide) rfl ?_
    refine ob_rload_n F 2 dX12_early_53 rfl ?_
    refine ob_getR F dX12_early_54 fl_X12_13 h fun v8 h => ?_
    refine ob_bipush F (v := 30) dX12_early_57 (by decide) ?_
    refine ob_bipush F (v := 10) dX12_early_59 (by decide) ?_
    refine ob_iload_n F 3 dX12_early_61 rfl ?_
    refine ob_imul F dX12_early_62 ?_
    refine ob_iadd F dX12_early_63 ?_
    refine ob_iconst F (v := 3) dX12_early_64 (by decide) ?_
    refine ob_iadd F dX12_early_65 ?_
    refine ob_bipush F (v := 99) dX12_early_66 (by decide) ?_
    refine ob_iast F dX12_early_68 h fun g9 h => ?_
    refine ob_rload_n F 2 dX12_early_69 rfl ?_
    refine ob_iload_n F 3 dX12_early_70 rfl ?_
    refine ob_cVvS F dX12_early_71 im_X12_laysOption tw6_193 h (fun b hb => t_X12_laysOption hb) rfl rfl (Nat.le_of_ble_eq_true rfl) (by decide) fun g10 h => ?_
    refine ob_rload_n F 2 dX12_early_74 rfl ?_
    refine ob_getR F dX12_early_75 fl_X12_40 h fun v11 h => ?_
    refine ob_iload_n F 3 dX12_early_78 rfl ?_
    refine ob_iconst F (v := 0) dX12_early_79 (by decide) ?_
    refine ob_iconst F (v := 0) dX12_early_80 (by decide) ?_
    refine ob_cSi F dX12_early_81 im_X12_cell tw6_209 h (fun b hb => t_X12_cell hb) rfl rfl (Nat.le_of_ble_eq_true rfl) (by decide) fun v12 h => ?_
    refine ob_lald F dX12_early_84 h fun v13 h => ?_
    refine ob_lstore F (ls2 := [(6, .long v13), (5, .int v7), (3, .long v6), (0, ob_rv C n0), (1, .int x1), (2, .int x2)]) dX12_early_85 (by decide) rfl ?_
    refine ob_rload_n F 3 dX12_early_87 rfl ?_
    refine ob_getR F dX12_early_88 fl_X12_13 h fun v14 h => ?_
    refine ob_bipush F (v := 30) dX12_early_91 (by decide) ?_
    refine ob_bipush F (v := 10) dX12_early_93 (by decide) ?_
    refine ob_iload_n F 4 dX12_early_95 rfl ?_
    refine ob_imul F dX12_early_96 ?_
    refine ob_iadd F dX12_early_97 ?_
    refine ob_iconst F (v := 3) dX12_early_98 (by decide) ?_
    refine ob_iadd F dX12_early_99 ?_
    refine ob_iload F 1 dX12_early_100 rfl ?_
    refine ob_iast F dX12_early_102 h fun g15 h => ?_
    refine ob_rload_n F 3 dX12_early_103 rfl ?_
    refine ob_iconst F (v := 0) dX12_early_104 (by decide) ?_
    refine ob_putZ F dX12_early_105 fp_X12_180 h fun g16 h => ?_
    refine ob_lload_n F 2 dX12_early_108 rfl ?_
    refine ob_lload F 0 dX12_early_109 rfl ?_
    refine ob_lsub F dX12_early_111 ?_
    refine ob_rload_n F 3 dX12_early_112 rfl ?_
    refine ob_getR F dX12_early_113 fl_X12_47 h fun v17 h => ?_
    refine ob_rload_n F 3 dX12_early_116 rfl ?_
    refine ob_getR F dX12_early_117 fl_X12_13 h fun v18 h => ?_
    refine ob_iconst F (v := 2) dX12_early_120 (by decide) ?_
    refine ob_iald F dX12_early_121 h fun v19 h => ?_
    refine ob_lald F dX12_early_122 h fun v20 h => ?_
    refine ob_iload_n F 5 dX12_early_123 rfl ?_
    refine ob_cSl F dX12_early_124 im_X12_told tw6_231 h (fun b hb => t_X12_told hb) rfl rfl (Nat.le_of_ble_eq_true rfl) (by decide) fun v21 h => ?_
    obtain rfl := Option.some.inj h
    exact ob_lret F dX12_early_127 k
  · refine ob_lconst F (v := 0) dX12_early_27 (by decide) ?_
    obtain rfl := Option.some.inj h
    exact ob_lret F dX12_early_28 k
def B_X12_early_16 (g : ob_St) (n0 : Nat) (x1 : Int32) (x2 : Int32) (s0 : Nat) : Option (Int64 × ob_St) :=
  B_X12_early_21 g n0 x1 x2 s0 1
theorem b_X12_early_16 {C : ob_Cx} (F : ob_Fx C cX12_early 8 RX12 (some .long) 7 174) {g : ob_St} {n0 : Nat} {x1 : Int32} {x2 : Int32} {s0 : Nat} {r : (Int64 × ob_St)} (h : B_X12_early_16 g n0 x1 x2 s0 = some r) (k : ob_Rt C (some (.long r.1)) r.2) : ob_Ev C 16 [(0, ob_rv C n0), (1, .int x1), (2, .int x2)] [ob_rv C s0] g := by
  unfold B_X12_early_16 at h
  refine ob_iconst F (v := 1) dX12_early_16 (by decide) ?_
  refine ob_goto F 21 dX12_early_17 (by decide) ?_
  exact b_X12_early_21 F h k
def f_X12_early (g : ob_St) (n0 : Nat) (x1 : Int32) (x2 : Int32) : Option (Int64 × ob_St) :=
  (ob_ck 12 n0 (f_X12_isOption g n0 x1)).bind fun v1 => (if v1 = 0 then (B_X12_early_16 g n0 x1 x2 n0) else ((f_X12_isPart x2).bind fun v22 => (if v22 = 0 then (B_X12_early_16 g n0 x1 x2 n0) else (B_X12_early_21 g n0 x1 x2 n0 0))))
theorem b_X12_early_0 {C : ob_Cx} (F : ob_Fx C cX12_early 8 RX12 (some .long) 7 174) {g : ob_St} {n0 : Nat} {x1 : Int32} {x2 : Int32} {r : (Int64 × ob_St)} (h : f_X12_early g n0 x1 x2 = some r) (k : ob_Rt C (some (.long r.1)) r.2) : ob_Ev C 0 [(0, ob_rv C n0), (1, .int x1), (2, .int x2)] [] g := by
  unfold f_X12_early at h
  refine ob_rload_n F 0 dX12_early_0 rfl ?_
  refine ob_rload_n F 0 dX12_early_1 rfl ?_
  refine ob_iload_n F 1 dX12_early_2 rfl ?_
  refine ob_cVi F dX12_early_3 im_X12_isOption tw6_145 h (fun b hb => t_X12_isOption hb) rfl rfl (Nat.le_of_ble_eq_true rfl) (by decide) fun v1 h => ?_
  refine ob_if_eq F 16 dX12_early_6 (by decide) h (fun h => ?_) (fun h => ?_)
  · exact b_X12_early_16 F h k
  · refine ob_iload_n F 2 dX12_early_9 rfl ?_
    refine ob_cSi F dX12_early_10 im_X12_isPart tw6_182 h (fun b hb => t_X12_isPart hb) rfl rfl (Nat.le_of_ble_eq_true rfl) (by decide) fun v22 h => ?_
    refine ob_if_ne F 20 dX12_early_13 (by decide) h (fun h => ?_) (fun h => ?_)
    · refine ob_iconst F (v := 0) dX12_early_20 (by decide) ?_
      exact b_X12_early_21 F h k
    · exact b_X12_early_16 F h k
theorem t_X12_early {cf : ob_Cf} {g : ob_St} {n0 : Nat} {x1 : Int32} {x2 : Int32} {r : (Int64 × ob_St)} (h : f_X12_early g n0 x1 x2 = some r) : ob_Mt cf yX12_early cX12_early 8 (some .long) 7 174 [ob_rw cf n0, .int x1, .int x2] g (some (.long r.1)) r.2 := by
  refine ob_enter (by decide) (Nat.le_of_ble_eq_true rfl) rfl ?_
  intro C hC F k
  subst hC
  exact b_X12_early_0 F h k
-- X12_isReached
def f_X12_isReached (x0 : Int32) (x1 : Int32) (x2 : Int32) : Option Int32 :=
  (if x2 = 1 then ((if x0 < x1 then (some 0) else (some 1))) else ((if x1 < x0 then (some 0) else (some 1))))
theorem b_X12_isReached_0 {C : ob_Cx} (F : ob_Fx C cX12_isReached 3 RX12 (some .boolean) 0 0) {g : ob_St} {x0 : Int32} {x1 : Int32} {x2 : Int32} {r : Int32} (h : f_X12_isReached x0 x1 x2 = some r) (k : ob_Rt C (some (.int r)) g) : ob_Ev C 0 [(0, .int x0), (1, .int x1), (2, .int x2)] [] g := by
  unfold f_X12_isReached at h
  refine ob_iload_n F 2 dX12_isReached_0 rfl ?_
  refine ob_iconst F (v := 1) dX12_isReached_1 (by decide) ?_
  refine ob_icmp_ne F 18 dX12_isReached_2 (by decide) h (fun h => ?_) (fun h => ?_)
  · refine ob_iload_n F 0 dX12_isReached_18 rfl ?_
    refine ob_iload_n F 1 dX12_isReached_19 rfl ?_
    refine ob_icmp_gt F 27 dX12_isReached_20 (by decide) h (fun h => ?_) (fun h => ?_)
    · refine ob_iconst F (v := 0) dX12_isReached_27 (by decide) ?_
      obtain rfl := Option.some.inj h
      exact ob_zret F dX12_isReached_28 (Or.inl rfl) k
    · refine ob_iconst F (v := 1) dX12_isReached_23 (by decide) ?_
      refine ob_goto F 28 dX12_isReached_24 (by decide) ?_
      obtain rfl := Option.some.inj h
      exact ob_zret F dX12_isReached_28 (Or.inr rfl) k
  · refine ob_iload_n F 0 dX12_isReached_5 rfl ?_
    refine ob_iload_n F 1 dX12_isReached_6 rfl ?_
    refine ob_icmp_lt F 14 dX12_isReached_7 (by decide) h (fun h => ?_) (fun h => ?_)
    · refine ob_iconst F (v := 0) dX12_isReached_14 (by decide) ?_
      refine ob_goto F 28 dX12_isReached_15 (by decide) ?_
      obtain rfl := Option.some.inj h
      exact ob_zret F dX12_isReached_28 (Or.inl rfl) k
    · refine ob_iconst F (v := 1) dX12_isReached_10 (by decide) ?_
      refine ob_goto F 28 dX12_isReached_11 (by decide) ?_
      obtain rfl := Option.some.inj h
      exact ob_zret F dX12_isReached_28 (Or.inr rfl) k
theorem t_X12_isReached {cf : ob_Cf} {g : ob_St} {x0 : Int32} {x1 : Int32} {x2 : Int32} {r : Int32} (h : f_X12_isReached x0 x1 x2 = some r) : ob_Mt cf yX12_isReached cX12_isReached 3 (some .boolean) 0 0 [.int x0, .int x1, .int x2] g (some (.int r)) g := by
  refine ob_enter (by decide) (Nat.le_of_ble_eq_true rfl) (Or.inr rfl) ?_
  intro C hC F k
  subst hC
  exact b_X12_isReached_0 F h k
-- X12_heldOf0
def f_X12_heldOf0 (g : ob_St) (n0 : Nat) (n1 : Nat) (x2 : Int32) (x3 : Int32) : Option Int64 :=
  (ob_gR 12 n0 1).bind fun v1 => (ob_rI g 14 v1 2).bind fun v2 => (if x2 = v2 then (some 0) else ((ob_gR 12 n0 1).bind fun v3 => (ob_rI g 14 v3 ((3 + x2) + 1)).bind fun v4 => (ob_rL g n1 ((((13 * x2) + 13) + x3) + 1)).bind fun v5 => (ob_gR 12 n0 1).bind fun v6 => (ob_rI g 14 v6 1).bind fun v7 => (ob_rL g n1 (((13 * x2) + 13) + x3)).bind fun v8 => some (((Int32.toInt64 v4) * v5) + ((Int32.toInt64 (v7 - v4)) * v8))))
theorem b_X12_heldOf0_0 {C : ob_Cx} (F : ob_Fx C cX12_heldOf0 5 RX12 (some .long) 0 0) {g : ob_St} {n0 : Nat} {n1 : Nat} {x2 : Int32} {x3 : Int32} {r : Int64} (h : f_X12_heldOf0 g n0 n1 x2 x3 = some r) (k : ob_Rt C (some (.long r)) g) : ob_Ev C 0 [(0, ob_rv C n0), (1, ob_rv C n1), (2, .int x2), (3, .int x3)] [] g := by
  unfold f_X12_heldOf0 at h
  refine ob_iload_n F 2 dX12_heldOf0_0 rfl ?_
  refine ob_rload_n F 0 dX12_heldOf0_1 rfl ?_
  refine ob_getR F dX12_heldOf0_2 fl_X12_13 h fun v1 h => ?_
  refine ob_iconst F (v := 2) dX12_heldOf0_5 (by decide) ?_
  refine ob_iald F dX12_heldOf0_6 h fun v2 h => ?_
  refine ob_icmp_ne F 12 dX12_heldOf0_7 (by decide) h (fun h => ?_) (fun h => ?_)
  · refine ob_rload_n F 0 dX12_heldOf0_12 rfl ?_
    refine ob_getR F dX12_heldOf0_13 fl_X12_13 h fun v3 h => ?_
    refine ob_iconst F (v := 3) dX12_heldOf0_16 (by decide) ?_
    refine ob_iload_n F 2 dX12_heldOf0_17 rfl ?_
    refine ob_iadd F dX12_heldOf0_18 ?_
    refine ob_iconst F (v := 1) dX12_heldOf0_19 (by decide) ?_
    refine ob_iadd F dX12_heldOf0_20 ?_
    refine ob_iald F dX12_heldOf0_21 h fun v4 h => ?_
    refine ob_istore F (ls2 := [(4, .int v4), (0, ob_rv C n0), (1, ob_rv C n1), (2, .int x2), (3, .int x3)]) dX12_heldOf0_22 (by decide) rfl ?_
    refine ob_iload F 0 dX12_heldOf0_24 rfl ?_
    refine ob_i2l F dX12_heldOf0_26 ?_
    refine ob_rload_n F 2 dX12_heldOf0_27 rfl ?_
    refine ob_bipush F (v := 13) dX12_heldOf0_28 (by decide) ?_
    refine ob_iload_n F 3 dX12_heldOf0_30 rfl ?_
    refine ob_imul F dX12_heldOf0_31 ?_
    refine ob_bipush F (v := 13) dX12_heldOf0_32 (by decide) ?_
    refine ob_iadd F dX12_heldOf0_34 ?_
    refine ob_iload_n F 4 dX12_heldOf0_35 rfl ?_
    refine ob_iadd F dX12_heldOf0_36 ?_
    refine ob_iconst F (v := 1) dX12_heldOf0_37 (by decide) ?_
    refine ob_iadd F dX12_heldOf0_38 ?_
    refine ob_lald F dX12_heldOf0_39 h fun v5 h => ?_
    refine ob_lmul F dX12_heldOf0_40 ?_
    refine ob_rload_n F 1 dX12_heldOf0_41 rfl ?_
    refine ob_getR F dX12_heldOf0_42 fl_X12_13 h fun v6 h => ?_
    refine ob_iconst F (v := 1) dX12_heldOf0_45 (by decide) ?_
    refine ob_iald F dX12_heldOf0_46 h fun v7 h => ?_
    refine ob_iload F 0 dX12_heldOf0_47 rfl ?_
    refine ob_isub F dX12_heldOf0_49 ?_
    refine ob_i2l F dX12_heldOf0_50 ?_
    refine ob_rload_n F 2 dX12_heldOf0_51 rfl ?_
    refine ob_bipush F (v := 13) dX12_heldOf0_52 (by decide) ?_
    refine ob_iload_n F 3 dX12_heldOf0_54 rfl ?_
    refine ob_imul F dX12_heldOf0_55 ?_
    refine ob_bipush F (v := 13) dX12_heldOf0_56 (by decide) ?_
    refine ob_iadd F dX12_heldOf0_58 ?_
    refine ob_iload_n F 4 dX12_heldOf0_59 rfl ?_
    refine ob_iadd F dX12_heldOf0_60 ?_
    refine ob_lald F dX12_heldOf0_61 h fun v8 h => ?_
    refine ob_lmul F dX12_heldOf0_62 ?_
    refine ob_ladd F dX12_heldOf0_63 ?_
    obtain rfl := Option.some.inj h
    exact ob_lret F dX12_heldOf0_64 k
  · refine ob_lconst F (v := 0) dX12_heldOf0_10 (by decide) ?_
    obtain rfl := Option.some.inj h
    exact ob_lret F dX12_heldOf0_11 k
theorem t_X12_heldOf0 {cf : ob_Cf} {g : ob_St} {n0 : Nat} {n1 : Nat} {x2 : Int32} {x3 : Int32} {r : Int64} (h : f_X12_heldOf0 g n0 n1 x2 x3 = some r) : ob_Mt cf yX12_heldOf0 cX12_heldOf0 5 (some .long) 0 0 [ob_rw cf n0, ob_rw cf n1, .int x2, .int x3] g (some (.long r)) g := by
  refine ob_enter (by decide) (Nat.le_of_ble_eq_true rfl) rfl ?_
  intro C hC F k
  subst hC
  exact b_X12_heldOf0_0 F h k
-- X12_chosen
def B_X12_chosen_44 (g : ob_St) (n0 : Nat) (n1 : Nat) (x3 : Int32) (x4 : Int32) : Option Int64 :=
  (ob_gR 12 n0 1).bind fun v2 => (ob_rI g 14 v2 2).bind fun v3 => (if x3 = v3 then (some 0) else ((ob_ck 12 n0 (f_X12_heldOf0 g n0 n1 x3 x4)).bind fun v4 => some v4))
theorem b_X12_chosen_44 {C : ob_Cx} (F : ob_Fx C cX12_chosen 8 RX12 (some .long) 3 72) {g : ob_St} {n0 : Nat} {n1 : Nat} {x3 : Int32} {x4 : Int32} {r : Int64} (h : B_X12_chosen_44 g n0 n1 x3 x4 = some r) (k : ob_Rt C (some (.long r)) g) : ob_Ev C 44 [(0, ob_rv C n0), (1, ob_rv C n1), (3, .int x3), (4, .int x4)] [] g := by
  unfold B_X12_chosen_44 at h
  refine ob_iload_n F 2 dX12_chosen_44 rfl ?_
  refine ob_rload_n F 0 dX12_chosen_45 rfl ?_
  refine ob_getR F dX12_chosen_46 fl_X12_13 h fun v2 h => ?_
  refine ob_iconst F (v := 2) dX12_chosen_49 (by decide) ?_
  refine ob_iald F dX12_chosen_50 h fun v3 h => ?_
  refine ob_icmp_ne F 56 dX12_chosen_51 (by decide) h (fun h => ?_) (fun h => ?_)
  · refine ob_rload_n F 0 dX12_chosen_56 rfl ?_
    refine ob_rload_n F 1 dX12_chosen_57 rfl ?_
    refine ob_iload_n F 2 dX12_chosen_58 rfl ?_
    refine ob_iload F 3 dX12_chosen_59 rfl ?_
    refine ob_cVl F dX12_chosen_61 im_X12_heldOf0 tw7_101 h (fun b hb => t_X12_heldOf0 hb) rfl rfl (Nat.le_of_ble_eq_true rfl) (by decide) fun v4 h => ?_
    obtain rfl := Option.some.inj h
    exact ob_lret F dX12_chosen_64 k
  · refine ob_lconst F (v := 0) dX12_chosen_54 (by decide) ?_
    obtain rfl := Option.some.inj h
    exact ob_lret F dX12_chosen_55 k
def f_X12_chosen (g : ob_St) (n0 : Nat) (n1 : Nat) (x2 : Int32) (x3 : Int32) (x4 : Int32) (x5 : Int32) : Option Int64 :=
  (ob_ck 12 n0 (f_X12_paysAt g n0 x2 x3 x4)).bind fun v1 => (if v1 ≤ 0 then (B_X12_chosen_44 g n0 n1 x3 x4) else ((ob_ck 12 n0 (f_X12_may g n0 x2 x3)).bind fun v5 => (if v5 = 0 then (B_X12_chosen_44 g n0 n1 x3 x4) else ((if x5 = 0 then ((ob_gR 12 n0 1).bind fun v6 => (ob_rI g 14 v6 2).bind fun v7 => (if x3 = v7 then (some v1) else (B_X12_chosen_44 g n0 n1 x3 x4))) else (some v1))))))
theorem b_X12_chosen_0 {C : ob_Cx} (F : ob_Fx C cX12_chosen 8 RX12 (some .long) 3 72) {g : ob_St} {n0 : Nat} {n1 : Nat} {x2 : Int32} {x3 : Int32} {x4 : Int32} {x5 : Int32} {r : Int64} (h : f_X12_chosen g n0 n1 x2 x3 x4 x5 = some r) (k : ob_Rt C (some (.long r)) g) : ob_Ev C 0 [(0, ob_rv C n0), (1, ob_rv C n1), (2, .int x2), (3, .int x3), (4, .int x4), (5, .int x5)] [] g := by
  unfold f_X12_chosen at h
  refine ob_rload_n F 0 dX12_chosen_0 rfl ?_
  refine ob_iload_n F 2 dX12_chosen_1 rfl ?_
  refine ob_iload_n F 3 dX12_chosen_2 rfl ?_
  refine ob_iload F 4 dX12_chosen_3 rfl ?_
  refine ob_cVl F dX12_chosen_5 im_X12_paysAt tw6_212 h (fun b hb => t_X12_paysAt hb) rfl rfl (Nat.le_of_ble_eq_true rfl) (by decide) fun v1 h => ?_
  refine ob_lstore F (ls2 := [(6, .long v1), (0, ob_rv C n0), (1, ob_rv C n1), (2, .int x2), (3, .int x3), (4, .int x4), (5, .int x5)]) dX12_chosen_8 (by decide) rfl ?_
  refine ob_lload F 0 dX12_chosen_10 rfl ?_
  refine ob_lconst F (v := 0) dX12_chosen_12 (by decide) ?_
  refine ob_lcmp_le F 44 dX12_chosen_13 dX12_chosen_14 (by decide) h (fun h => ?_) (fun h => ?_)
  · exact ob_sub [1, 2, 4, 5] rfl (b_X12_chosen_44 F h k)
  · refine ob_rload_n F 1 dX12_chosen_17 rfl ?_
    refine ob_iload_n F 3 dX12_chosen_18 rfl ?_
    refine ob_iload_n F 4 dX12_chosen_19 rfl ?_
    refine ob_cVi F dX12_chosen_20 im_X12_may tw6_223 h (fun b hb => t_X12_may hb) rfl rfl (Nat.le_of_ble_eq_true rfl) (by decide) fun v5 h => ?_
    refine ob_if_eq F 44 dX12_chosen_23 (by decide) h (fun h => ?_) (fun h => ?_)
    · exact ob_sub [1, 2, 4, 5] rfl (b_X12_chosen_44 F h k)
    · refine ob_iload F 6 dX12_chosen_26 rfl ?_
      refine ob_if_ne F 41 dX12_chosen_28 (by decide) h (fun h => ?_) (fun h => ?_)
      · refine ob_lload F 0 dX12_chosen_41 rfl ?_
        obtain rfl := Option.some.inj h
        exact ob_lret F dX12_chosen_43 k
      · refine ob_iload_n F 4 dX12_chosen_31 rfl ?_
        refine ob_rload_n F 1 dX12_chosen_32 rfl ?_
        refine ob_getR F dX12_chosen_33 fl_X12_13 h fun v6 h => ?_
        refine ob_iconst F (v := 2) dX12_chosen_36 (by decide) ?_
        refine ob_iald F dX12_chosen_37 h fun v7 h => ?_
        refine ob_icmp_ne F 44 dX12_chosen_38 (by decide) h (fun h => ?_) (fun h => ?_)
        · exact ob_sub [1, 2, 4, 5] rfl (b_X12_chosen_44 F h k)
        · refine ob_lload F 0 dX12_chosen_41 rfl ?_
          obtain rfl := Option.some.inj h
          exact ob_lret F dX12_chosen_43 k
theorem t_X12_chosen {cf : ob_Cf} {g : ob_St} {n0 : Nat} {n1 : Nat} {x2 : Int32} {x3 : Int32} {x4 : Int32} {x5 : Int32} {r : Int64} (h : f_X12_chosen g n0 n1 x2 x3 x4 x5 = some r) : ob_Mt cf yX12_chosen cX12_chosen 8 (some .long) 3 72 [ob_rw cf n0, ob_rw cf n1, .int x2, .int x3, .int x4, .int x5] g (some (.long r)) g := by
  refine ob_enter (by decide) (Nat.le_of_ble_eq_true rfl) rfl ?_
  intro C hC F k
  subst hC
  exact b_X12_chosen_0 F h k
-- X12_worthAt
def B_X12_worthAt_197 (rec : ob_St → Int32 → Option (ob_St)) (g : ob_St) (n0 : Nat) (x1 : Int32) (x2 : Int32) (x3 : Int32) (x4 : Int32) (x5 : Int32) (x6 : Int32) : Option (ob_St) :=
  rec g (x6 + 1)
theorem b_X12_worthAt_197 {C : ob_Cx} {rec : ob_St → Int32 → Option (ob_St)} (F : ob_Fx C cX12_worthAt 10 RX12 (some .long) 4 99) {g : ob_St} {n0 : Nat} {x1 : Int32} {x2 : Int32} {x3 : Int32} {x4 : Int32} {x5 : Int32} {x6 : Int32} {x : (ob_St)} (hr : ∀ {g : ob_St} {x6 : Int32} {x : (ob_St)}, rec g x6 = some x → ob_Ev C 203 [(0, ob_rv C n0), (1, .int x1), (2, .int x2), (3, .int x3), (4, .int x4), (5, .int x5)] [] x → ob_Ev C 24 [(0, ob_rv C n0), (1, .int x1), (2, .int x2), (3, .int x3), (4, .int x4), (5, .int x5), (6, .int x6)] [] g) (h : B_X12_worthAt_197 rec g n0 x1 x2 x3 x4 x5 x6 = some x) (k0 : ob_Ev C 203 [(0, ob_rv C n0), (1, .int x1), (2, .int x2), (3, .int x3), (4, .int x4), (5, .int x5)] [] x) : ob_Ev C 197 [(0, ob_rv C n0), (1, .int x1), (2, .int x2), (3, .int x3), (4, .int x4), (5, .int x5), (6, .int x6)] [] g := by
  unfold B_X12_worthAt_197 at h
  refine ob_iinc F (v := (x6 + 1)) (ls2 := [(6, .int (x6 + 1)), (0, ob_rv C n0), (1, .int x1), (2, .int x2), (3, .int x3), (4, .int x4), (5, .int x5)]) 6 dX12_worthAt_197 rfl rfl (by decide) rfl ?_
  refine ob_goto F 24 dX12_worthAt_200 (by decide) ?_
  exact ob_sub [1, 2, 3, 4, 5, 6, 0] rfl (hr h k0)
def B_X12_worthAt_141 (rec : ob_St → Int32 → Option (ob_St)) (g : ob_St) (n0 : Nat) (x1 : Int32) (x2 : Int32) (x3 : Int32) (x4 : Int32) (x5 : Int32) (x6 : Int32) (s0 : Nat) (s1 : Int32) (s2 : Int64) : Option (ob_St) :=
  (ob_wL g s0 s1 s2).bind fun g21 => B_X12_worthAt_197 rec g21 n0 x1 x2 x3 x4 x5 x6
theorem b_X12_worthAt_141 {C : ob_Cx} {rec : ob_St → Int32 → Option (ob_St)} (F : ob_Fx C cX12_worthAt 10 RX12 (some .long) 4 99) {g : ob_St} {n0 : Nat} {x1 : Int32} {x2 : Int32} {x3 : Int32} {x4 : Int32} {x5 : Int32} {x6 : Int32} {s0 : Nat} {s1 : Int32} {s2 : Int64} {x : (ob_St)} (hr : ∀ {g : ob_St} {x6 : Int32} {x : (ob_St)}, rec g x6 = some x → ob_Ev C 203 [(0, ob_rv C n0), (1, .int x1), (2, .int x2), (3, .int x3), (4, .int x4), (5, .int x5)] [] x → ob_Ev C 24 [(0, ob_rv C n0), (1, .int x1), (2, .int x2), (3, .int x3), (4, .int x4), (5, .int x5), (6, .int x6)] [] g) (h : B_X12_worthAt_141 rec g n0 x1 x2 x3 x4 x5 x6 s0 s1 s2 = some x) (k0 : ob_Ev C 203 [(0, ob_rv C n0), (1, .int x1), (2, .int x2), (3, .int x3), (4, .int x4), (5, .int x5)] [] x) : ob_Ev C 141 [(0, ob_rv C n0), (1, .int x1), (2, .int x2), (3, .int x3), (4, .int x4), (5, .int x5), (6, .int x6)] [.long s2, .int s1, ob_rv C s0] g := by
  unfold B_X12_worthAt_141 at h
  refine ob_last F dX12_worthAt_141 h fun g21 h => ?_
  refine ob_goto F 197 dX12_worthAt_142 (by decide) ?_
  exact b_X12_worthAt_197 F hr h k0
def B_X12_worthAt_68 (rec : ob_St → Int32 → Option (ob_St)) (g : ob_St) (n0 : Nat) (x1 : Int32) (x2 : Int32) (x3 : Int32) (x4 : Int32) (x5 : Int32) (x6 : Int32) (x7 : Int32) (s0 : Int32) : Option (ob_St) :=
  (ob_gR 12 n0 29).bind fun v6 => (ob_gR 12 n0 29).bind fun v7 => (ob_ck 12 n0 (f_X12_chosen g n0 v7 x1 x5 x6 x7)).bind fun v8 => (ob_wL g v6 ((13 * x5) + x6) v8).bind fun g9 => (if x4 = 2 then ((ob_gR 12 n0 28).bind fun v18 => (if s0 = 0 then ((ob_gR 12 n0 28).bind fun v19 => (ob_ck 12 n0 (f_X12_heldOf0 g9 n0 v19 x5 x6)).bind fun v20 => B_X12_worthAt_141 rec g9 n0 x1 x2 x3 x4 x5 x6 v18 ((13 * x5) + x6) v20) else ((ob_gR 12 n0 29).bind fun v22 => (ob_rL g9 v22 ((13 * x5) + x6)).bind fun v23 => B_X12_worthAt_141 rec g9 n0 x1 x2 x3 x4 x5 x6 v18 ((13 * x5) + x6) v23))) else ((if s0 = 0 then ((ob_gR 12 n0 28).bind fun v10 => (ob_gR 12 n0 28).bind fun v11 => (ob_ck 12 n0 (f_X12_chosen g9 n0 v11 x1 x5 x6 x7)).bind fun v12 => (ob_wL g9 v10 ((13 * x5) + x6) v12).bind fun g13 => B_X12_worthAt_197 rec g13 n0 x1 x2 x3 x4 x5 x6) else ((ob_gR 12 n0 28).bind fun v14 => (ob_ck 12 n0 (f_X12_get g9 n0 x1 7)).bind fun v15 => (ob_ck 12 n0 (f_X12_powerAt g9 n0 x5)).bind fun v16 => (ob_wL g9 v14 ((13 * x5) + x6) ((Int32.toInt64 v15) * v16)).bind fun g17 => B_X12_worthAt_197 rec g17 n0 x1 x2 x3 x4 x5 x6))))
theorem b_X12_worthAt_68 {C : ob_Cx} {rec : ob_St → Int32 → Option (ob_St)} (F : ob_Fx C cX12_worthAt 10 RX12 (some .long) 4 99) {g : ob_St} {n0 : Nat} {x1 : Int32} {x2 : Int32} {x3 : Int32} {x4 : Int32} {x5 : Int32} {x6 : Int32} {x7 : Int32} {s0 : Int32} {x : (ob_St)} (hr : ∀ {g : ob_St} {x6 : Int32} {x : (ob_St)}, rec g x6 = some x → ob_Ev C 203 [(0, ob_rv C n0), (1, .int x1), (2, .int x2), (3, .int x3), (4, .int x4), (5, .int x5)] [] x → ob_Ev C 24 [(0, ob_rv C n0), (1, .int x1), (2, .int x2), (3, .int x3), (4, .int x4), (5, .int x5), (6, .int x6)] [] g) (h : B_X12_worthAt_68 rec g n0 x1 x2 x3 x4 x5 x6 x7 s0 = some x) (k0 : ob_Ev C 203 [(0, ob_rv C n0), (1, .int x1), (2, .int x2), (3, .int x3), (4, .int x4), (5, .int x5)] [] x) : ob_Ev C 68 [(0, ob_rv C n0), (1, .int x1), (2, .int x2), (3, .int x3), (4, .int x4), (5, .int x5), (6, .int x6), (7, .int x7)] [.int s0] g := by
  unfold B_X12_worthAt_68 at h
  refine ob_istore F (ls2 := [(8, .int s0), (0, ob_rv C n0), (1, .int x1), (2, .int x2), (3, .int x3), (4, .int x4), (5, .int x5), (6, .int x6), (7, .int x7)]) dX12_worthAt_68 (by decide) rfl ?_
  refine ob_bipush F (v := 13) dX12_worthAt_70 (by decide) ?_
  refine ob_iload F 6 dX12_worthAt_72 rfl ?_
  refine ob_imul F dX12_worthAt_74 ?_
  refine ob_iload F 7 dX12_worthAt_75 rfl ?_
  refine ob_iadd F dX12_worthAt_77 ?_
  refine ob_istore F (ls2 := [(9, .int ((13 * x5) + x6)), (8, .int s0), (0, ob_rv C n0), (1, .int x1), (2, .int x2), (3, .int x3), (4, .int x4), (5, .int x5), (6, .int x6), (7, .int x7)]) dX12_worthAt_78 (by decide) rfl ?_
  refine ob_rload_n F 2 dX12_worthAt_80 rfl ?_
  refine ob_getR F dX12_worthAt_81 fl_X12_68 h fun v6 h => ?_
  refine ob_iload F 0 dX12_worthAt_84 rfl ?_
  refine ob_rload_n F 2 dX12_worthAt_86 rfl ?_
  refine ob_rload_n F 2 dX12_worthAt_87 rfl ?_
  refine ob_getR F dX12_worthAt_88 fl_X12_68 h fun v7 h => ?_
  refine ob_iload_n F 3 dX12_worthAt_91 rfl ?_
  refine ob_iload F 7 dX12_worthAt_92 rfl ?_
  refine ob_iload F 8 dX12_worthAt_94 rfl ?_
  refine ob_iload F 9 dX12_worthAt_96 rfl ?_
  refine ob_cVl F dX12_worthAt_98 im_X12_chosen tw7_97 h (fun b hb => t_X12_chosen hb) rfl rfl (Nat.le_of_ble_eq_true rfl) (by decide) fun v8 h => ?_
  refine ob_last F dX12_worthAt_101 h fun g9 h => ?_
  refine ob_iload F 6 dX12_worthAt_102 rfl ?_
  refine ob_iconst F (v := 2) dX12_worthAt_104 (by decide) ?_
  refine ob_icmp_ne F 145 dX12_worthAt_105 (by decide) h (fun h => ?_) (fun h => ?_)
  · refine ob_iload F 1 dX12_worthAt_145 rfl ?_
    refine ob_if_eq F 175 dX12_worthAt_147 (by decide) h (fun h => ?_) (fun h => ?_)
    · refine ob_rload_n F 2 dX12_worthAt_175 rfl ?_
      refine ob_getR F dX12_worthAt_176 fl_X12_65 h fun v10 h => ?_
      refine ob_iload F 0 dX12_worthAt_179 rfl ?_
      refine ob_rload_n F 2 dX12_worthAt_181 rfl ?_
      refine ob_rload_n F 2 dX12_worthAt_182 rfl ?_
      refine ob_getR F dX12_worthAt_183 fl_X12_65 h fun v11 h => ?_
      refine ob_iload_n F 3 dX12_worthAt_186 rfl ?_
      refine ob_iload F 7 dX12_worthAt_187 rfl ?_
      refine ob_iload F 8 dX12_worthAt_189 rfl ?_
      refine ob_iload F 9 dX12_worthAt_191 rfl ?_
      refine ob_cVl F dX12_worthAt_193 im_X12_chosen tw7_97 h (fun b hb => t_X12_chosen hb) rfl rfl (Nat.le_of_ble_eq_true rfl) (by decide) fun v12 h => ?_
      refine ob_last F dX12_worthAt_196 h fun g13 h => ?_
      exact ob_sub [2, 3, 4, 5, 6, 7, 8] rfl (b_X12_worthAt_197 F hr h k0)
    · refine ob_rload_n F 2 dX12_worthAt_150 rfl ?_
      refine ob_getR F dX12_worthAt_151 fl_X12_65 h fun v14 h => ?_
      refine ob_iload F 0 dX12_worthAt_154 rfl ?_
      refine ob_rload_n F 2 dX12_worthAt_156 rfl ?_
      refine ob_iload_n F 3 dX12_worthAt_157 rfl ?_
      refine ob_bipush F (v := 7) dX12_worthAt_158 (by decide) ?_
      refine ob_cVi F dX12_worthAt_160 im_X12_get tw6_154 h (fun b hb => t_X12_get hb) rfl rfl (Nat.le_of_ble_eq_true rfl) (by decide) fun v15 h => ?_
      refine ob_i2l F dX12_worthAt_163 ?_
      refine ob_rload_n F 2 dX12_worthAt_164 rfl ?_
      refine ob_iload F 7 dX12_worthAt_165 rfl ?_
      refine ob_cVl F dX12_worthAt_167 im_X12_powerAt tw6_219 h (fun b hb => t_X12_powerAt hb) rfl rfl (Nat.le_of_ble_eq_true rfl) (by decide) fun v16 h => ?_
      refine ob_lmul F dX12_worthAt_170 ?_
      refine ob_last F dX12_worthAt_171 h fun g17 h => ?_
      refine ob_goto F 197 dX12_worthAt_172 (by decide) ?_
      exact ob_sub [2, 3, 4, 5, 6, 7, 8] rfl (b_X12_worthAt_197 F hr h k0)
  · refine ob_rload_n F 2 dX12_worthAt_108 rfl ?_
    refine ob_getR F dX12_worthAt_109 fl_X12_65 h fun v18 h => ?_
    refine ob_iload F 0 dX12_worthAt_112 rfl ?_
    refine ob_iload F 1 dX12_worthAt_114 rfl ?_
    refine ob_if_eq F 129 dX12_worthAt_116 (by decide) h (fun h => ?_) (fun h => ?_)
    · refine ob_rload_n F 2 dX12_worthAt_129 rfl ?_
      refine ob_rload_n F 2 dX12_worthAt_130 rfl ?_
      refine ob_getR F dX12_worthAt_131 fl_X12_65 h fun v19 h => ?_
      refine ob_iload F 7 dX12_worthAt_134 rfl ?_
      refine ob_iload F 8 dX12_worthAt_136 rfl ?_
      refine ob_cVl F dX12_worthAt_138 im_X12_heldOf0 tw7_101 h (fun b hb => t_X12_heldOf0 hb) rfl rfl (Nat.le_of_ble_eq_true rfl) (by decide) fun v20 h => ?_
      exact ob_sub [2, 3, 4, 5, 6, 7, 8] rfl (b_X12_worthAt_141 F hr h k0)
    · refine ob_rload_n F 2 dX12_worthAt_119 rfl ?_
      refine ob_getR F dX12_worthAt_120 fl_X12_68 h fun v22 h => ?_
      refine ob_iload F 0 dX12_worthAt_123 rfl ?_
      refine ob_lald F dX12_worthAt_125 h fun v23 h => ?_
      refine ob_goto F 141 dX12_worthAt_126 (by decide) ?_
      exact ob_sub [2, 3, 4, 5, 6, 7, 8] rfl (b_X12_worthAt_141 F hr h k0)
def B_X12_worthAt_67 (rec : ob_St → Int32 → Option (ob_St)) (g : ob_St) (n0 : Nat) (x1 : Int32) (x2 : Int32) (x3 : Int32) (x4 : Int32) (x5 : Int32) (x6 : Int32) (x7 : Int32) : Option (ob_St) :=
  B_X12_worthAt_68 rec g n0 x1 x2 x3 x4 x5 x6 x7 0
theorem b_X12_worthAt_67 {C : ob_Cx} {rec : ob_St → Int32 → Option (ob_St)} (F : ob_Fx C cX12_worthAt 10 RX12 (some .long) 4 99) {g : ob_St} {n0 : Nat} {x1 : Int32} {x2 : Int32} {x3 : Int32} {x4 : Int32} {x5 : Int32} {x6 : Int32} {x7 : Int32} {x : (ob_St)} (hr : ∀ {g : ob_St} {x6 : Int32} {x : (ob_St)}, rec g x6 = some x → ob_Ev C 203 [(0, ob_rv C n0), (1, .int x1), (2, .int x2), (3, .int x3), (4, .int x4), (5, .int x5)] [] x → ob_Ev C 24 [(0, ob_rv C n0), (1, .int x1), (2, .int x2), (3, .int x3), (4, .int x4), (5, .int x5), (6, .int x6)] [] g) (h : B_X12_worthAt_67 rec g n0 x1 x2 x3 x4 x5 x6 x7 = some x) (k0 : ob_Ev C 203 [(0, ob_rv C n0), (1, .int x1), (2, .int x2), (3, .int x3), (4, .int x4), (5, .int x5)] [] x) : ob_Ev C 67 [(0, ob_rv C n0), (1, .int x1), (2, .int x2), (3, .int x3), (4, .int x4), (5, .int x5), (6, .int x6), (7, .int x7)] [] g := by
  unfold B_X12_worthAt_67 at h
  refine ob_iconst F (v := 0) dX12_worthAt_67 (by decide) ?_
  exact b_X12_worthAt_68 F hr h k0
def Lb_X12_worthAt_24 (rec : ob_St → Int32 → Option (ob_St)) (g : ob_St) (n0 : Nat) (x1 : Int32) (x2 : Int32) (x3 : Int32) (x4 : Int32) (x5 : Int32) (x6 : Int32) : Option (ob_St) :=
  (if x5 < x6 then (some g) else ((ob_ck 12 n0 (f_X12_priceAt g n0 x5 x6)).bind fun v4 => (f_X12_isReached v4 x2 x3).bind fun v5 => (if x4 ≤ 0 then (B_X12_worthAt_67 rec g n0 x1 x2 x3 x4 x5 x6 v5) else ((ob_ck 12 n0 (f_X12_isTouched g n0 x1 x5 x6)).bind fun v24 => (if v24 = 0 then (B_X12_worthAt_67 rec g n0 x1 x2 x3 x4 x5 x6 v5) else (B_X12_worthAt_68 rec g n0 x1 x2 x3 x4 x5 x6 v5 1))))))
def L_X12_worthAt_24 (n0 : Nat) (x1 : Int32) (x2 : Int32) (x3 : Int32) (x4 : Int32) (x5 : Int32) : Nat → ob_St → Int32 → Option (ob_St)
  | 0, _, _ => none
  | n + 1, g, x6 => Lb_X12_worthAt_24 (L_X12_worthAt_24 n0 x1 x2 x3 x4 x5 n) g n0 x1 x2 x3 x4 x5 x6
theorem lb_X12_worthAt_24 {C : ob_Cx} {rec : ob_St → Int32 → Option (ob_St)} (F : ob_Fx C cX12_worthAt 10 RX12 (some .long) 4 99) {g : ob_St} {n0 : Nat} {x1 : Int32} {x2 : Int32} {x3 : Int32} {x4 : Int32} {x5 : Int32} {x6 : Int32} {x : (ob_St)} (hr : ∀ {g : ob_St} {x6 : Int32} {x : (ob_St)}, rec g x6 = some x → ob_Ev C 203 [(0, ob_rv C n0), (1, .int x1), (2, .int x2), (3, .int x3), (4, .int x4), (5, .int x5)] [] x → ob_Ev C 24 [(0, ob_rv C n0), (1, .int x1), (2, .int x2), (3, .int x3), (4, .int x4), (5, .int x5), (6, .int x6)] [] g) (h : Lb_X12_worthAt_24 rec g n0 x1 x2 x3 x4 x5 x6 = some x) (k0 : ob_Ev C 203 [(0, ob_rv C n0), (1, .int x1), (2, .int x2), (3, .int x3), (4, .int x4), (5, .int x5)] [] x) : ob_Ev C 24 [(0, ob_rv C n0), (1, .int x1), (2, .int x2), (3, .int x3), (4, .int x4), (5, .int x5), (6, .int x6)] [] g := by
  unfold Lb_X12_worthAt_24 at h
  refine ob_iload F 6 dX12_worthAt_24 rfl ?_
  refine ob_iload F 5 dX12_worthAt_26 rfl ?_
  refine ob_icmp_gt F 203 dX12_worthAt_28 (by decide) h (fun h => ?_) (fun h => ?_)
  · obtain rfl := Option.some.inj h
    exact ob_sub [0, 1, 2, 3, 4, 5] rfl (k0)
  · refine ob_rload_n F 0 dX12_worthAt_31 rfl ?_
    refine ob_iload F 5 dX12_worthAt_32 rfl ?_
    refine ob_iload F 6 dX12_worthAt_34 rfl ?_
    refine ob_cVi F dX12_worthAt_36 im_X12_priceAt tw6_166 h (fun b hb => t_X12_priceAt hb) rfl rfl (Nat.le_of_ble_eq_true rfl) (by decide) fun v4 h => ?_
    refine ob_iload_n F 2 dX12_worthAt_39 rfl ?_
    refine ob_iload_n F 3 dX12_worthAt_40 rfl ?_
    refine ob_cSi F dX12_worthAt_41 im_X12_isReached tw7_94 h (fun b hb => t_X12_isReached hb) rfl rfl (Nat.le_of_ble_eq_true rfl) (by decide) fun v5 h => ?_
    refine ob_istore F (ls2 := [(7, .int v5), (0, ob_rv C n0), (1, .int x1), (2, .int x2), (3, .int x3), (4, .int x4), (5, .int x5), (6, .int x6)]) dX12_worthAt_44 (by decide) rfl ?_
    refine ob_iload F 5 dX12_worthAt_46 rfl ?_
    refine ob_if_le F 67 dX12_worthAt_48 (by decide) h (fun h => ?_) (fun h => ?_)
    · exact ob_sub [1, 2, 3, 4, 5, 6, 7, 0] rfl (b_X12_worthAt_67 F hr h k0)
    · refine ob_rload_n F 1 dX12_worthAt_51 rfl ?_
      refine ob_iload_n F 2 dX12_worthAt_52 rfl ?_
      refine ob_iload F 6 dX12_worthAt_53 rfl ?_
      refine ob_iload F 7 dX12_worthAt_55 rfl ?_
      refine ob_cVi F dX12_worthAt_57 im_X12_isTouched tw6_227 h (fun b hb => t_X12_isTouched hb) rfl rfl (Nat.le_of_ble_eq_true rfl) (by decide) fun v24 h => ?_
      refine ob_if_eq F 67 dX12_worthAt_60 (by decide) h (fun h => ?_) (fun h => ?_)
      · exact ob_sub [1, 2, 3, 4, 5, 6, 7, 0] rfl (b_X12_worthAt_67 F hr h k0)
      · refine ob_iconst F (v := 1) dX12_worthAt_63 (by decide) ?_
        refine ob_goto F 68 dX12_worthAt_64 (by decide) ?_
        exact ob_sub [1, 2, 3, 4, 5, 6, 7, 0] rfl (b_X12_worthAt_68 F hr h k0)
theorem l_X12_worthAt_24 {C : ob_Cx} (F : ob_Fx C cX12_worthAt 10 RX12 (some .long) 4 99) {n0 : Nat} {x1 : Int32} {x2 : Int32} {x3 : Int32} {x4 : Int32} {x5 : Int32} : ∀ (n : Nat) {g : ob_St} {x6 : Int32} {x : (ob_St)}, L_X12_worthAt_24 n0 x1 x2 x3 x4 x5 n g x6 = some x → ob_Ev C 203 [(0, ob_rv C n0), (1, .int x1), (2, .int x2), (3, .int x3), (4, .int x4), (5, .int x5)] [] x → ob_Ev C 24 [(0, ob_rv C n0), (1, .int x1), (2, .int x2), (3, .int x3), (4, .int x4), (5, .int x5), (6, .int x6)] [] g := by
  intro n
  induction n with
  | zero => intro g x6 x h; exact ob_no h
  | succ n ih => intro g x6 x h k0; exact lb_X12_worthAt_24 F ih h k0
def Lb_X12_worthAt_16 (rec : ob_St → Int32 → Option (ob_St)) (g : ob_St) (n0 : Nat) (x1 : Int32) (x2 : Int32) (x3 : Int32) (x4 : Int32) (x5 : Int32) : Option (ob_St) :=
  (if x5 < 0 then (some g) else ((L_X12_worthAt_24 n0 x1 x2 x3 x4 x5 ob_FU g 0).bind fun x_25 => rec x_25 (x5 + (-1))))
def L_X12_worthAt_16 (n0 : Nat) (x1 : Int32) (x2 : Int32) (x3 : Int32) (x4 : Int32) : Nat → ob_St → Int32 → Option (ob_St)
  | 0, _, _ => none
  | n + 1, g, x5 => Lb_X12_worthAt_16 (L_X12_worthAt_16 n0 x1 x2 x3 x4 n) g n0 x1 x2 x3 x4 x5
theorem lb_X12_worthAt_16 {C : ob_Cx} {rec : ob_St → Int32 → Option (ob_St)} (F : ob_Fx C cX12_worthAt 10 RX12 (some .long) 4 99) {g : ob_St} {n0 : Nat} {x1 : Int32} {x2 : Int32} {x3 : Int32} {x4 : Int32} {x5 : Int32} {x : (ob_St)} (hr : ∀ {g : ob_St} {x5 : Int32} {x : (ob_St)}, rec g x5 = some x → ob_Ev C 209 [(0, ob_rv C n0)] [] x → ob_Ev C 16 [(0, ob_rv C n0), (1, .int x1), (2, .int x2), (3, .int x3), (4, .int x4), (5, .int x5)] [] g) (h : Lb_X12_worthAt_16 rec g n0 x1 x2 x3 x4 x5 = some x) (k0 : ob_Ev C 209 [(0, ob_rv C n0)] [] x) : ob_Ev C 16 [(0, ob_rv C n0), (1, .int x1), (2, .int x2), (3, .int x3), (4, .int x4), (5, .int x5)] [] g := by
  unfold Lb_X12_worthAt_16 at h
  refine ob_iload F 5 dX12_worthAt_16 rfl ?_
  refine ob_if_lt F 209 dX12_worthAt_18 (by decide) h (fun h => ?_) (fun h => ?_)
  · obtain rfl := Option.some.inj h
    exact ob_sub [0] rfl (k0)
  · refine ob_iconst F (v := 0) dX12_worthAt_21 (by decide) ?_
    refine ob_istore F (ls2 := [(6, .int 0), (0, ob_rv C n0), (1, .int x1), (2, .int x2), (3, .int x3), (4, .int x4), (5, .int x5)]) dX12_worthAt_22 (by decide) rfl ?_
    obtain ⟨x_25, hx, h⟩ := Option.bind_eq_some_iff.mp h
    refine ob_sub [1, 2, 3, 4, 5, 6, 0] rfl (l_X12_worthAt_24 F ob_FU hx ?_)
    refine ob_iinc F (v := (x5 + (-1))) (ls2 := [(5, .int (x5 + (-1))), (0, ob_rv C n0), (1, .int x1), (2, .int x2), (3, .int x3), (4, .int x4)]) 5 dX12_worthAt_203 rfl rfl (by decide) rfl ?_
    refine ob_goto F 16 dX12_worthAt_206 (by decide) ?_
    exact ob_sub [1, 2, 3, 4, 5, 0] rfl (hr h k0)
theorem l_X12_worthAt_16 {C : ob_Cx} (F : ob_Fx C cX12_worthAt 10 RX12 (some .long) 4 99) {n0 : Nat} {x1 : Int32} {x2 : Int32} {x3 : Int32} {x4 : Int32} : ∀ (n : Nat) {g : ob_St} {x5 : Int32} {x : (ob_St)}, L_X12_worthAt_16 n0 x1 x2 x3 x4 n g x5 = some x → ob_Ev C 209 [(0, ob_rv C n0)] [] x → ob_Ev C 16 [(0, ob_rv C n0), (1, .int x1), (2, .int x2), (3, .int x3), (4, .int x4), (5, .int x5)] [] g := by
  intro n
  induction n with
  | zero => intro g x5 x h; exact ob_no h
  | succ n ih => intro g x5 x h k0; exact lb_X12_worthAt_16 F ih h k0
def f_X12_worthAt (g : ob_St) (n0 : Nat) (x1 : Int32) (x2 : Int32) (x3 : Int32) : Option (Int64 × ob_St) :=
  (ob_ck 12 n0 (f_X12_get g n0 x1 4)).bind fun v1 => (ob_gR 12 n0 1).bind fun v2 => (ob_rI g 14 v2 2).bind fun v3 => (L_X12_worthAt_16 n0 x1 x2 x3 v1 ob_FU g v3).bind fun x_26 => (ob_gR 12 n0 28).bind fun v27 => (ob_rL x_26 v27 0).bind fun v28 => some (v28, x_26)
theorem b_X12_worthAt_0 {C : ob_Cx} (F : ob_Fx C cX12_worthAt 10 RX12 (some .long) 4 99) {g : ob_St} {n0 : Nat} {x1 : Int32} {x2 : Int32} {x3 : Int32} {r : (Int64 × ob_St)} (h : f_X12_worthAt g n0 x1 x2 x3 = some r) (k : ob_Rt C (some (.long r.1)) r.2) : ob_Ev C 0 [(0, ob_rv C n0), (1, .int x1), (2, .int x2), (3, .int x3)] [] g := by
  unfold f_X12_worthAt at h
  refine ob_rload_n F 0 dX12_worthAt_0 rfl ?_
  refine ob_iload_n F 1 dX12_worthAt_1 rfl ?_
  refine ob_iconst F (v := 4) dX12_worthAt_2 (by decide) ?_
  refine ob_cVi F dX12_worthAt_3 im_X12_get tw6_154 h (fun b hb => t_X12_get hb) rfl rfl (Nat.le_of_ble_eq_true rfl) (by decide) fun v1 h => ?_
  refine ob_istore F (ls2 := [(4, .int v1), (0, ob_rv C n0), (1, .int x1), (2, .int x2), (3, .int x3)]) dX12_worthAt_6 (by decide) rfl ?_
  refine ob_rload_n F 1 dX12_worthAt_8 rfl ?_
  refine ob_getR F dX12_worthAt_9 fl_X12_13 h fun v2 h => ?_
  refine ob_iconst F (v := 2) dX12_worthAt_12 (by decide) ?_
  refine ob_iald F dX12_worthAt_13 h fun v3 h => ?_
  refine ob_istore F (ls2 := [(5, .int v3), (4, .int v1), (0, ob_rv C n0), (1, .int x1), (2, .int x2), (3, .int x3)]) dX12_worthAt_14 (by decide) rfl ?_
  obtain ⟨x_26, hx, h⟩ := Option.bind_eq_some_iff.mp h
  refine ob_sub [2, 3, 4, 5, 1, 0] rfl (l_X12_worthAt_16 F ob_FU hx ?_)
  refine ob_rload_n F 0 dX12_worthAt_209 rfl ?_
  refine ob_getR F dX12_worthAt_210 fl_X12_65 h fun v27 h => ?_
  refine ob_iconst F (v := 0) dX12_worthAt_213 (by decide) ?_
  refine ob_lald F dX12_worthAt_214 h fun v28 h => ?_
  obtain rfl := Option.some.inj h
  exact ob_lret F dX12_worthAt_215 k
theorem t_X12_worthAt {cf : ob_Cf} {g : ob_St} {n0 : Nat} {x1 : Int32} {x2 : Int32} {x3 : Int32} {r : (Int64 × ob_St)} (h : f_X12_worthAt g n0 x1 x2 x3 = some r) : ob_Mt cf yX12_worthAt cX12_worthAt 10 (some .long) 4 99 [ob_rw cf n0, .int x1, .int x2, .int x3] g (some (.long r.1)) r.2 := by
  refine ob_enter (by decide) (Nat.le_of_ble_eq_true rfl) rfl ?_
  intro C hC F k
  subst hC
  exact b_X12_worthAt_0 F h k
-- X12_isUpper
def f_X12_isUpper (x0 : Int32) : Option Int32 :=
  (if x0 = 0 then (some 1) else ((if x0 = 1 then (some 1) else (some 0))))
theorem b_X12_isUpper_0 {C : ob_Cx} (F : ob_Fx C cX12_isUpper 1 RX12 (some .boolean) 0 0) {g : ob_St} {x0 : Int32} {r : Int32} (h : f_X12_isUpper x0 = some r) (k : ob_Rt C (some (.int r)) g) : ob_Ev C 0 [(0, .int x0)] [] g := by
  unfold f_X12_isUpper at h
  refine ob_iload_n F 0 dX12_isUpper_0 rfl ?_
  refine ob_if_eq F 9 dX12_isUpper_1 (by decide) h (fun h => ?_) (fun h => ?_)
  · refine ob_iconst F (v := 1) dX12_isUpper_9 (by decide) ?_
    refine ob_goto F 14 dX12_isUpper_10 (by decide) ?_
    obtain rfl := Option.some.inj h
    exact ob_zret F dX12_isUpper_14 (Or.inr rfl) k
  · refine ob_iload_n F 0 dX12_isUpper_4 rfl ?_
    refine ob_iconst F (v := 1) dX12_isUpper_5 (by decide) ?_
    refine ob_icmp_ne F 13 dX12_isUpper_6 (by decide) h (fun h => ?_) (fun h => ?_)
    · refine ob_iconst F (v := 0) dX12_isUpper_13 (by decide) ?_
      obtain rfl := Option.some.inj h
      exact ob_zret F dX12_isUpper_14 (Or.inl rfl) k
    · refine ob_iconst F (v := 1) dX12_isUpper_9 (by decide) ?_
      refine ob_goto F 14 dX12_isUpper_10 (by decide) ?_
      obtain rfl := Option.some.inj h
      exact ob_zret F dX12_isUpper_14 (Or.inr rfl) k
theorem t_X12_isUpper {cf : ob_Cf} {g : ob_St} {x0 : Int32} {r : Int32} (h : f_X12_isUpper x0 = some r) : ob_Mt cf yX12_isUpper cX12_isUpper 1 (some .boolean) 0 0 [.int x0] g (some (.int r)) g := by
  refine ob_enter (by decide) (Nat.le_of_ble_eq_true rfl) (Or.inr rfl) ?_
  intro C hC F k
  subst hC
  exact b_X12_isUpper_0 F h k
-- X12_worthBy
def B_X12_worthBy_40 (g : ob_St) (n0 : Nat) (x1 : Int32) (x2 : Int32) (x3 : Int32) (x4 : Int32) (s0 : Nat) (s1 : Int32) : Option (Int64 × ob_St) :=
  (ob_ck 12 s0 (f_X12_throwsIf g s0 s1)).bind fun v2 => (if v2.1 = 0 then ((ob_ck 12 n0 (f_X12_lays v2.2 n0)).bind fun g3 => (ob_ck 12 n0 (f_X12_worthAt g3 n0 x1 x2 x3)).bind fun v4 => (ob_gR 12 n0 22).bind fun v5 => (ob_gR 12 n0 1).bind fun v6 => (ob_rI v4.2 14 v6 2).bind fun v7 => (ob_rL v4.2 v5 v7).bind fun v8 => (f_X12_told v4.1 v8 x4).bind fun v9 => some (v9, v4.2)) else (some (0, v2.2)))
theorem b_X12_worthBy_40 {C : ob_Cx} (F : ob_Fx C cX12_worthBy 5 RX12 (some .long) 7 174) {g : ob_St} {n0 : Nat} {x1 : Int32} {x2 : Int32} {x3 : Int32} {x4 : Int32} {s0 : Nat} {s1 : Int32} {r : (Int64 × ob_St)} (h : B_X12_worthBy_40 g n0 x1 x2 x3 x4 s0 s1 = some r) (k : ob_Rt C (some (.long r.1)) r.2) : ob_Ev C 40 [(0, ob_rv C n0), (1, .int x1), (2, .int x2), (3, .int x3), (4, .int x4)] [.int s1, ob_rv C s0] g := by
  unfold B_X12_worthBy_40 at h
  refine ob_cViS F dX12_worthBy_40 im_X12_throwsIf tw6_185 h (fun b hb => t_X12_throwsIf hb) rfl rfl (Nat.le_of_ble_eq_true rfl) (by decide) fun v2 h => ?_
  refine ob_if_eq F 48 dX12_worthBy_43 (by decide) h (fun h => ?_) (fun h => ?_)
  · refine ob_rload_n F 0 dX12_worthBy_48 rfl ?_
    refine ob_cVvS F dX12_worthBy_49 im_X12_lays tw6_189 h (fun b hb => t_X12_lays hb) rfl rfl (Nat.le_of_ble_eq_true rfl) (by decide) fun g3 h => ?_
    refine ob_rload_n F 0 dX12_worthBy_52 rfl ?_
    refine ob_iload_n F 1 dX12_worthBy_53 rfl ?_
    refine ob_iload_n F 2 dX12_worthBy_54 rfl ?_
    refine ob_iload_n F 3 dX12_worthBy_55 rfl ?_
    refine ob_cVlS F dX12_worthBy_56 im_X12_worthAt tw7_90 h (fun b hb => t_X12_worthAt hb) rfl rfl (Nat.le_of_ble_eq_true rfl) (by decide) fun v4 h => ?_
    refine ob_rload_n F 0 dX12_worthBy_59 rfl ?_
    refine ob_getR F dX12_worthBy_60 fl_X12_47 h fun v5 h => ?_
    refine ob_rload_n F 0 dX12_worthBy_63 rfl ?_
    refine ob_getR F dX12_worthBy_64 fl_X12_13 h fun v6 h => ?_
    refine ob_iconst F (v := 2) dX12_worthBy_67 (by decide) ?_
    refine ob_iald F dX12_worthBy_68 h fun v7 h => ?_
    refine ob_lald F dX12_worthBy_69 h fun v8 h => ?_
    refine ob_iload F 4 dX12_worthBy_70 rfl ?_
    refine ob_cSl F dX12_worthBy_72 im_X12_told tw6_231 h (fun b hb => t_X12_told hb) rfl rfl (Nat.le_of_ble_eq_true rfl) (by decide) fun v9 h => ?_
    obtain rfl := Option.some.inj h
    exact ob_lret F dX12_worthBy_75 k
  · refine ob_lconst F (v := 0) dX12_worthBy_46 (by decide) ?_
    obtain rfl := Option.some.inj h
    exact ob_lret F dX12_worthBy_47 k
def B_X12_worthBy_35 (g : ob_St) (n0 : Nat) (x1 : Int32) (x2 : Int32) (x3 : Int32) (x4 : Int32) (s0 : Nat) : Option (Int64 × ob_St) :=
  B_X12_worthBy_40 g n0 x1 x2 x3 x4 s0 1
theorem b_X12_worthBy_35 {C : ob_Cx} (F : ob_Fx C cX12_worthBy 5 RX12 (some .long) 7 174) {g : ob_St} {n0 : Nat} {x1 : Int32} {x2 : Int32} {x3 : Int32} {x4 : Int32} {s0 : Nat} {r : (Int64 × ob_St)} (h : B_X12_worthBy_35 g n0 x1 x2 x3 x4 s0 = some r) (k : ob_Rt C (some (.long r.1)) r.2) : ob_Ev C 35 [(0, ob_rv C n0), (1, .int x1), (2, .int x2), (3, .int x3), (4, .int x4)] [ob_rv C s0] g := by
  unfold B_X12_worthBy_35 at h
  refine ob_iconst F (v := 1) dX12_worthBy_35 (by decide) ?_
  refine ob_goto F 40 dX12_worthBy_36 (by decide) ?_
  exact b_X12_worthBy_40 F h k
def f_X12_worthBy (g : ob_St) (n0 : Nat) (x1 : Int32) (x2 : Int32) (x3 : Int32) (x4 : Int32) : Option (Int64 × ob_St) :=
  (ob_ck 12 n0 (f_X12_isOption g n0 x1)).bind fun v1 => (if v1 = 0 then (B_X12_worthBy_35 g n0 x1 x2 x3 x4 n0) else ((f_X12_isIn x2 0 2999).bind fun v10 => (if v10 = 0 then (B_X12_worthBy_35 g n0 x1 x2 x3 x4 n0) else ((f_X12_isUpper x3).bind fun v11 => (if v11 = 0 then (B_X12_worthBy_35 g n0 x1 x2 x3 x4 n0) else ((f_X12_isPart x4).bind fun v12 => (if v12 = 0 then (B_X12_worthBy_35 g n0 x1 x2 x3 x4 n0) else (B_X12_worthBy_40 g n0 x1 x2 x3 x4 n0 0))))))))
theorem b_X12_worthBy_0 {C : ob_Cx} (F : ob_Fx C cX12_worthBy 5 RX12 (some .long) 7 174) {g : ob_St} {n0 : Nat} {x1 : Int32} {x2 : Int32} {x3 : Int32} {x4 : Int32} {r : (Int64 × ob_St)} (h : f_X12_worthBy g n0 x1 x2 x3 x4 = some r) (k : ob_Rt C (some (.long r.1)) r.2) : ob_Ev C 0 [(0, ob_rv C n0), (1, .int x1), (2, .int x2), (3, .int x3), (4, .int x4)] [] g := by
  unfold f_X12_worthBy at h
  refine ob_rload_n F 0 dX12_worthBy_0 rfl ?_
  refine ob_rload_n F 0 dX12_worthBy_1 rfl ?_
  refine ob_iload_n F 1 dX12_worthBy_2 rfl ?_
  refine ob_cVi F dX12_worthBy_3 im_X12_isOption tw6_145 h (fun b hb => t_X12_isOption hb) rfl rfl (Nat.le_of_ble_eq_true rfl) (by decide) fun v1 h => ?_
  refine ob_if_eq F 35 dX12_worthBy_6 (by decide) h (fun h => ?_) (fun h => ?_)
  · exact b_X12_worthBy_35 F h k
  · refine ob_iload_n F 2 dX12_worthBy_9 rfl ?_
    refine ob_iconst F (v := 0) dX12_worthBy_10 (by decide) ?_
    refine ob_sipush F (v := 2999) dX12_worthBy_11 (by decide) ?_
    refine ob_cSi F dX12_worthBy_14 im_X12_isIn tw6_67 h (fun b hb => t_X12_isIn hb) rfl rfl (Nat.le_of_ble_eq_true rfl) (by decide) fun v10 h => ?_
    refine ob_if_eq F 35 dX12_worthBy_17 (by decide) h (fun h => ?_) (fun h => ?_)
    · exact b_X12_worthBy_35 F h k
    · refine ob_iload_n F 3 dX12_worthBy_20 rfl ?_
      refine ob_cSi F dX12_worthBy_21 im_X12_isUpper tw7_87 h (fun b hb => t_X12_isUpper hb) rfl rfl (Nat.le_of_ble_eq_true rfl) (by decide) fun v11 h => ?_
      refine ob_if_eq F 35 dX12_worthBy_24 (by decide) h (fun h => ?_) (fun h => ?_)
      · exact b_X12_worthBy_35 F h k
      · refine ob_iload F 4 dX12_worthBy_27 rfl ?_
        refine ob_cSi F dX12_worthBy_29 im_X12_isPart tw6_182 h (fun b hb => t_X12_isPart hb) rfl rfl (Nat.le_of_ble_eq_true rfl) (by decide) fun v12 h => ?_
        refine ob_if_ne F 39 dX12_worthBy_32 (by decide) h (fun h => ?_) (fun h => ?_)
        · refine ob_iconst F (v := 0) dX12_worthBy_39 (by decide) ?_
          exact b_X12_worthBy_40 F h k
        · exact b_X12_worthBy_35 F h k
theorem t_X12_worthBy {cf : ob_Cf} {g : ob_St} {n0 : Nat} {x1 : Int32} {x2 : Int32} {x3 : Int32} {x4 : Int32} {r : (Int64 × ob_St)} (h : f_X12_worthBy g n0 x1 x2 x3 x4 = some r) : ob_Mt cf yX12_worthBy cX12_worthBy 5 (some .long) 7 174 [ob_rw cf n0, .int x1, .int x2, .int x3, .int x4] g (some (.long r.1)) r.2 := by
  refine ob_enter (by decide) (Nat.le_of_ble_eq_true rfl) rfl ?_
  intro C hC F k
  subst hC
  exact b_X12_worthBy_0 F h k
-- X12_bestBy
def B_X12_bestBy_76 (rec : ob_St → Int32 → Int64 → Int32 → Option (ob_St × Int32)) (g : ob_St) (n0 : Nat) (x1 : Int32) (x2 : Int32) (x3 : Int32) (y4 : Int64) (x6 : Int32) : Option (ob_St × Int32) :=
  rec g x3 y4 (x6 + 1)
theorem b_X12_bestBy_76 {C : ob_Cx} {rec : ob_St → Int32 → Int64 → Int32 → Option (ob_St × Int32)} (F : ob_Fx C cX12_bestBy 9 RX12 (some .int) 7 174) {g : ob_St} {n0 : Nat} {x1 : Int32} {x2 : Int32} {x3 : Int32} {y4 : Int64} {x6 : Int32} {x : (ob_St × Int32)} (hr : ∀ {g : ob_St} {x3 : Int32} {y4 : Int64} {x6 : Int32} {x : (ob_St × Int32)}, rec g x3 y4 x6 = some x → ob_Ev C 82 [(3, .int x.2)] [] x.1 → ob_Ev C 40 [(0, ob_rv C n0), (1, .int x1), (2, .int x2), (3, .int x3), (4, .long y4), (6, .int x6)] [] g) (h : B_X12_bestBy_76 rec g n0 x1 x2 x3 y4 x6 = some x) (k0 : ob_Ev C 82 [(3, .int x.2)] [] x.1) : ob_Ev C 76 [(0, ob_rv C n0), (1, .int x1), (2, .int x2), (3, .int x3), (4, .long y4), (6, .int x6)] [] g := by
  unfold B_X12_bestBy_76 at h
  refine ob_iinc F (v := (x6 + 1)) (ls2 := [(6, .int (x6 + 1)), (0, ob_rv C n0), (1, .int x1), (2, .int x2), (3, .int x3), (4, .long y4)]) 5 dX12_bestBy_76 rfl rfl (by decide) rfl ?_
  refine ob_goto F 40 dX12_bestBy_79 (by decide) ?_
  exact ob_sub [1, 2, 3, 4, 5, 0] rfl (hr h k0)
def Lb_X12_bestBy_40 (rec : ob_St → Int32 → Int64 → Int32 → Option (ob_St × Int32)) (g : ob_St) (n0 : Nat) (x1 : Int32) (x2 : Int32) (x3 : Int32) (y4 : Int64) (x6 : Int32) : Option (ob_St × Int32) :=
  (if 3000 ≤ x6 then (some (g, x3)) else ((ob_ck 12 n0 (f_X12_worthAt g n0 x1 x6 x2)).bind fun v6 => (if y4 < v6.1 then (B_X12_bestBy_76 rec v6.2 n0 x1 x2 x6 v6.1 x6) else (B_X12_bestBy_76 rec v6.2 n0 x1 x2 x3 y4 x6))))
def L_X12_bestBy_40 (n0 : Nat) (x1 : Int32) (x2 : Int32) : Nat → ob_St → Int32 → Int64 → Int32 → Option (ob_St × Int32)
  | 0, _, _, _, _ => none
  | n + 1, g, x3, y4, x6 => Lb_X12_bestBy_40 (L_X12_bestBy_40 n0 x1 x2 n) g n0 x1 x2 x3 y4 x6
theorem lb_X12_bestBy_40 {C : ob_Cx} {rec : ob_St → Int32 → Int64 → Int32 → Option (ob_St × Int32)} (F : ob_Fx C cX12_bestBy 9 RX12 (some .int) 7 174) {g : ob_St} {n0 : Nat} {x1 : Int32} {x2 : Int32} {x3 : Int32} {y4 : Int64} {x6 : Int32} {x : (ob_St × Int32)} (hr : ∀ {g : ob_St} {x3 : Int32} {y4 : Int64} {x6 : Int32} {x : (ob_St × Int32)}, rec g x3 y4 x6 = some x → ob_Ev C 82 [(3, .int x.2)] [] x.1 → ob_Ev C 40 [(0, ob_rv C n0), (1, .int x1), (2, .int x2), (3, .int x3), (4, .long y4), (6, .int x6)] [] g) (h : Lb_X12_bestBy_40 rec g n0 x1 x2 x3 y4 x6 = some x) (k0 : ob_Ev C 82 [(3, .int x.2)] [] x.1) : ob_Ev C 40 [(0, ob_rv C n0), (1, .int x1), (2, .int x2), (3, .int x3), (4, .long y4), (6, .int x6)] [] g := by
  unfold Lb_X12_bestBy_40 at h
  refine ob_iload F 5 dX12_bestBy_40 rfl ?_
  refine ob_sipush F (v := 3000) dX12_bestBy_42 (by decide) ?_
  refine ob_icmp_ge F 82 dX12_bestBy_45 (by decide) h (fun h => ?_) (fun h => ?_)
  · obtain rfl := Option.some.inj h
    exact ob_sub [3] rfl (k0)
  · refine ob_rload_n F 0 dX12_bestBy_48 rfl ?_
    refine ob_iload_n F 1 dX12_bestBy_49 rfl ?_
    refine ob_iload F 5 dX12_bestBy_50 rfl ?_
    refine ob_iload_n F 2 dX12_bestBy_52 rfl ?_
    refine ob_cVlS F dX12_bestBy_53 im_X12_worthAt tw7_90 h (fun b hb => t_X12_worthAt hb) rfl rfl (Nat.le_of_ble_eq_true rfl) (by decide) fun v6 h => ?_
    refine ob_lstore F (ls2 := [(7, .long v6.1), (0, ob_rv C n0), (1, .int x1), (2, .int x2), (3, .int x3), (4, .long y4), (6, .int x6)]) dX12_bestBy_56 (by decide) rfl ?_
    refine ob_lload F 0 dX12_bestBy_58 rfl ?_
    refine ob_lload F 5 dX12_bestBy_60 rfl ?_
    refine ob_lcmp_gt F 69 dX12_bestBy_62 dX12_bestBy_63 (by decide) h (fun h => ?_) (fun h => ?_)
    · refine ob_iload F 6 dX12_bestBy_69 rfl ?_
      refine ob_istore_n F (ls2 := [(3, .int x6), (7, .long v6.1), (0, ob_rv C n0), (1, .int x1), (2, .int x2), (4, .long y4), (6, .int x6)]) dX12_bestBy_71 (by decide) rfl ?_
      refine ob_lload F 1 dX12_bestBy_72 rfl ?_
      refine ob_lstore F (ls2 := [(4, .long v6.1), (3, .int x6), (7, .long v6.1), (0, ob_rv C n0), (1, .int x1), (2, .int x2), (6, .int x6)]) dX12_bestBy_74 (by decide) rfl ?_
      exact ob_sub [3, 4, 5, 1, 0, 6] rfl (b_X12_bestBy_76 F hr h k0)
    · refine ob_goto F 76 dX12_bestBy_66 (by decide) ?_
      exact ob_sub [1, 2, 3, 4, 5, 6] rfl (b_X12_bestBy_76 F hr h k0)
theorem l_X12_bestBy_40 {C : ob_Cx} (F : ob_Fx C cX12_bestBy 9 RX12 (some .int) 7 174) {n0 : Nat} {x1 : Int32} {x2 : Int32} : ∀ (n : Nat) {g : ob_St} {x3 : Int32} {y4 : Int64} {x6 : Int32} {x : (ob_St × Int32)}, L_X12_bestBy_40 n0 x1 x2 n g x3 y4 x6 = some x → ob_Ev C 82 [(3, .int x.2)] [] x.1 → ob_Ev C 40 [(0, ob_rv C n0), (1, .int x1), (2, .int x2), (3, .int x3), (4, .long y4), (6, .int x6)] [] g := by
  intro n
  induction n with
  | zero => intro g x3 y4 x6 x h; exact ob_no h
  | succ n ih => intro g x3 y4 x6 x h k0; exact lb_X12_bestBy_40 F ih h k0
def f_X12_bestBy (g : ob_St) (n0 : Nat) (x1 : Int32) (x2 : Int32) : Option (Int32 × ob_St) :=
  (ob_pI g 12 n0 0 0).bind fun g1 => (ob_ck 12 n0 (f_X12_isOption g1 n0 x1)).bind fun v2 => (if v2 = 0 then (some ((-1), g1)) else ((f_X12_isUpper x2).bind fun v3 => (if v3 = 0 then (some ((-1), g1)) else ((ob_ck 12 n0 (f_X12_lays g1 n0)).bind fun g4 => (ob_ck 12 n0 (f_X12_worthAt g4 n0 x1 0 x2)).bind fun v5 => (L_X12_bestBy_40 n0 x1 x2 ob_FU v5.2 0 v5.1 1).bind fun x_7 => some (x_7.2, x_7.1)))))
theorem b_X12_bestBy_0 {C : ob_Cx} (F : ob_Fx C cX12_bestBy 9 RX12 (some .int) 7 174) {g : ob_St} {n0 : Nat} {x1 : Int32} {x2 : Int32} {r : (Int32 × ob_St)} (h : f_X12_bestBy g n0 x1 x2 = some r) (k : ob_Rt C (some (.int r.1)) r.2) : ob_Ev C 0 [(0, ob_rv C n0), (1, .int x1), (2, .int x2)] [] g := by
  unfold f_X12_bestBy at h
  refine ob_rload_n F 0 dX12_bestBy_0 rfl ?_
  refine ob_iconst F (v := 0) dX12_bestBy_1 (by decide) ?_
  refine ob_putI F dX12_bestBy_2 fp_X12_1 h fun g1 h => ?_
  refine ob_rload_n F 0 dX12_bestBy_5 rfl ?_
  refine ob_iload_n F 1 dX12_bestBy_6 rfl ?_
  refine ob_cVi F dX12_bestBy_7 im_X12_isOption tw6_145 h (fun b hb => t_X12_isOption hb) rfl rfl (Nat.le_of_ble_eq_true rfl) (by decide) fun v2 h => ?_
  refine ob_if_eq F 20 dX12_bestBy_10 (by decide) h (fun h => ?_) (fun h => ?_)
  · refine ob_iconst F (v := (-1)) dX12_bestBy_20 (by decide) ?_
    obtain rfl := Option.some.inj h
    exact ob_iret F dX12_bestBy_21 k
  · refine ob_iload_n F 2 dX12_bestBy_13 rfl ?_
    refine ob_cSi F dX12_bestBy_14 im_X12_isUpper tw7_87 h (fun b hb => t_X12_isUpper hb) rfl rfl (Nat.le_of_ble_eq_true rfl) (by decide) fun v3 h => ?_
    refine ob_if_ne F 22 dX12_bestBy_17 (by decide) h (fun h => ?_) (fun h => ?_)
    · refine ob_rload_n F 0 dX12_bestBy_22 rfl ?_
      refine ob_cVvS F dX12_bestBy_23 im_X12_lays tw6_189 h (fun b hb => t_X12_lays hb) rfl rfl (Nat.le_of_ble_eq_true rfl) (by decide) fun g4 h => ?_
      refine ob_iconst F (v := 0) dX12_bestBy_26 (by decide) ?_
      refine ob_istore_n F (ls2 := [(3, .int 0), (0, ob_rv C n0), (1, .int x1), (2, .int x2)]) dX12_bestBy_27 (by decide) rfl ?_
      refine ob_rload_n F 1 dX12_bestBy_28 rfl ?_
      refine ob_iload_n F 2 dX12_bestBy_29 rfl ?_
      refine ob_iconst F (v := 0) dX12_bestBy_30 (by decide) ?_
      refine ob_iload_n F 3 dX12_bestBy_31 rfl ?_
      refine ob_cVlS F dX12_bestBy_32 im_X12_worthAt tw7_90 h (fun b hb => t_X12_worthAt hb) rfl rfl (Nat.le_of_ble_eq_true rfl) (by decide) fun v5 h => ?_
      refine ob_lstore F (ls2 := [(4, .long v5.1), (3, .int 0), (0, ob_rv C n0), (1, .int x1), (2, .int x2)]) dX12_bestBy_35 (by decide) rfl ?_
      refine ob_iconst F (v := 1) dX12_bestBy_37 (by decide) ?_
      refine ob_istore F (ls2 := [(6, .int 1), (4, .long v5.1), (3, .int 0), (0, ob_rv C n0), (1, .int x1), (2, .int x2)]) dX12_bestBy_38 (by decide) rfl ?_
      obtain ⟨x_7, hx, h⟩ := Option.bind_eq_some_iff.mp h
      refine ob_sub [3, 4, 5, 2, 1, 0] rfl (l_X12_bestBy_40 F ob_FU hx ?_)
      refine ob_iload_n F 0 dX12_bestBy_82 rfl ?_
      obtain rfl := Option.some.inj h
      exact ob_iret F dX12_bestBy_83 k
    · refine ob_iconst F (v := (-1)) dX12_bestBy_20 (by decide) ?_
      obtain rfl := Option.some.inj h
      exact ob_iret F dX12_bestBy_21 k
theorem t_X12_bestBy {cf : ob_Cf} {g : ob_St} {n0 : Nat} {x1 : Int32} {x2 : Int32} {r : (Int32 × ob_St)} (h : f_X12_bestBy g n0 x1 x2 = some r) : ob_Mt cf yX12_bestBy cX12_bestBy 9 (some .int) 7 174 [ob_rw cf n0, .int x1, .int x2] g (some (.int r.1)) r.2 := by
  refine ob_enter (by decide) (Nat.le_of_ble_eq_true rfl) (Or.inl rfl) ?_
  intro C hC F k
  subst hC
  exact b_X12_bestBy_0 F h k
-- X12_reach
def B_X12_reach_115 (rec : ob_St → Int32 → Option (ob_St)) (g : ob_St) (n0 : Nat) (x1 : Int32) (x2 : Int32) (x3 : Int32) (x4 : Int32) (x5 : Int32) (s0 : Nat) (s1 : Int32) (s2 : Int64) : Option (ob_St) :=
  (ob_wL g s0 s1 s2).bind fun g11 => rec g11 (x5 + 1)
theorem b_X12_reach_115 {C : ob_Cx} {rec : ob_St → Int32 → Option (ob_St)} (F : ob_Fx C cX12_reach 6 RX12 (some .long) 7 174) {g : ob_St} {n0 : Nat} {x1 : Int32} {x2 : Int32} {x3 : Int32} {x4 : Int32} {x5 : Int32} {s0 : Nat} {s1 : Int32} {s2 : Int64} {x : (ob_St)} (hr : ∀ {g : ob_St} {x5 : Int32} {x : (ob_St)}, rec g x5 = some x → ob_Ev C 122 [(0, ob_rv C n0), (1, .int x1), (2, .int x2), (3, .int x3), (4, .int x4)] [] x → ob_Ev C 59 [(0, ob_rv C n0), (1, .int x1), (2, .int x2), (3, .int x3), (4, .int x4), (5, .int x5)] [] g) (h : B_X12_reach_115 rec g n0 x1 x2 x3 x4 x5 s0 s1 s2 = some x) (k0 : ob_Ev C 122 [(0, ob_rv C n0), (1, .int x1), (2, .int x2), (3, .int x3), (4, .int x4)] [] x) : ob_Ev C 115 [(0, ob_rv C n0), (1, .int x1), (2, .int x2), (3, .int x3), (4, .int x4), (5, .int x5)] [.long s2, .int s1, ob_rv C s0] g := by
  unfold B_X12_reach_115 at h
  refine ob_last F dX12_reach_115 h fun g11 h => ?_
  refine ob_iinc F (v := (x5 + 1)) (ls2 := [(5, .int (x5 + 1)), (0, ob_rv C n0), (1, .int x1), (2, .int x2), (3, .int x3), (4, .int x4)]) 5 dX12_reach_116 rfl rfl (by decide) rfl ?_
  refine ob_goto F 59 dX12_reach_119 (by decide) ?_
  exact ob_sub [1, 2, 3, 4, 5, 0] rfl (hr h k0)
def Lb_X12_reach_59 (rec : ob_St → Int32 → Option (ob_St)) (g : ob_St) (n0 : Nat) (x1 : Int32) (x2 : Int32) (x3 : Int32) (x4 : Int32) (x5 : Int32) : Option (ob_St) :=
  (if x4 < x5 then (some g) else ((ob_gR 12 n0 28).bind fun v6 => (ob_ck 12 n0 (f_X12_priceAt g n0 x4 x5)).bind fun v7 => (f_X12_isReached v7 x1 x2).bind fun v8 => (if v8 = 0 then ((ob_gR 12 n0 28).bind fun v9 => (ob_ck 12 n0 (f_X12_heldOf0 g n0 v9 x4 x5)).bind fun v10 => B_X12_reach_115 rec g n0 x1 x2 x3 x4 x5 v6 ((13 * x4) + x5) v10) else ((ob_ck 12 n0 (f_X12_powerAt g n0 x4)).bind fun v12 => B_X12_reach_115 rec g n0 x1 x2 x3 x4 x5 v6 ((13 * x4) + x5) v12))))
def L_X12_reach_59 (n0 : Nat) (x1 : Int32) (x2 : Int32) (x3 : Int32) (x4 : Int32) : Nat → ob_St → Int32 → Option (ob_St)
  | 0, _, _ => none
  | n + 1, g, x5 => Lb_X12_reach_59 (L_X12_reach_59 n0 x1 x2 x3 x4 n) g n0 x1 x2 x3 x4 x5
theorem lb_X12_reach_59 {C : ob_Cx} {rec : ob_St → Int32 → Option (ob_St)} (F : ob_Fx C cX12_reach 6 RX12 (some .long) 7 174) {g : ob_St} {n0 : Nat} {x1 : Int32} {x2 : Int32} {x3 : Int32} {x4 : Int32} {x5 : Int32} {x : (ob_St)} (hr : ∀ {g : ob_St} {x5 : Int32} {x : (ob_St)}, rec g x5 = some x → ob_Ev C 122 [(0, ob_rv C n0), (1, .int x1), (2, .int x2), (3, .int x3), (4, .int x4)] [] x → ob_Ev C 59 [(0, ob_rv C n0), (1, .int x1), (2, .int x2), (3, .int x3), (4, .int x4), (5, .int x5)] [] g) (h : Lb_X12_reach_59 rec g n0 x1 x2 x3 x4 x5 = some x) (k0 : ob_Ev C 122 [(0, ob_rv C n0), (1, .int x1), (2, .int x2), (3, .int x3), (4, .int x4)] [] x) : ob_Ev C 59 [(0, ob_rv C n0), (1, .int x1), (2, .int x2), (3, .int x3), (4, .int x4), (5, .int x5)] [] g := by
  unfold Lb_X12_reach_59 at h
  refine ob_iload F 5 dX12_reach_59 rfl ?_
  refine ob_iload F 4 dX12_reach_61 rfl ?_
  refine ob_icmp_gt F 122 dX12_reach_63 (by decide) h (fun h => ?_) (fun h => ?_)
  · obtain rfl := Option.some.inj h
    exact ob_sub [0, 1, 2, 3, 4] rfl (k0)
  · refine ob_rload_n F 0 dX12_reach_66 rfl ?_
    refine ob_getR F dX12_reach_67 fl_X12_65 h fun v6 h => ?_
    refine ob_bipush F (v := 13) dX12_reach_70 (by decide) ?_
    refine ob_iload F 4 dX12_reach_72 rfl ?_
    refine ob_imul F dX12_reach_74 ?_
    refine ob_iload F 5 dX12_reach_75 rfl ?_
    refine ob_iadd F dX12_reach_77 ?_
    refine ob_rload_n F 0 dX12_reach_78 rfl ?_
    refine ob_iload F 4 dX12_reach_79 rfl ?_
    refine ob_iload F 5 dX12_reach_81 rfl ?_
    refine ob_cVi F dX12_reach_83 im_X12_priceAt tw6_166 h (fun b hb => t_X12_priceAt hb) rfl rfl (Nat.le_of_ble_eq_true rfl) (by decide) fun v7 h => ?_
    refine ob_iload_n F 1 dX12_reach_86 rfl ?_
    refine ob_iload_n F 2 dX12_reach_87 rfl ?_
    refine ob_cSi F dX12_reach_88 im_X12_isReached tw7_94 h (fun b hb => t_X12_isReached hb) rfl rfl (Nat.le_of_ble_eq_true rfl) (by decide) fun v8 h => ?_
    refine ob_if_eq F 103 dX12_reach_91 (by decide) h (fun h => ?_) (fun h => ?_)
    · refine ob_rload_n F 0 dX12_reach_103 rfl ?_
      refine ob_rload_n F 0 dX12_reach_104 rfl ?_
      refine ob_getR F dX12_reach_105 fl_X12_65 h fun v9 h => ?_
      refine ob_iload F 4 dX12_reach_108 rfl ?_
      refine ob_iload F 5 dX12_reach_110 rfl ?_
      refine ob_cVl F dX12_reach_112 im_X12_heldOf0 tw7_101 h (fun b hb => t_X12_heldOf0 hb) rfl rfl (Nat.le_of_ble_eq_true rfl) (by decide) fun v10 h => ?_
      exact b_X12_reach_115 F hr h k0
    · refine ob_rload_n F 0 dX12_reach_94 rfl ?_
      refine ob_iload F 4 dX12_reach_95 rfl ?_
      refine ob_cVl F dX12_reach_97 im_X12_powerAt tw6_219 h (fun b hb => t_X12_powerAt hb) rfl rfl (Nat.le_of_ble_eq_true rfl) (by decide) fun v12 h => ?_
      refine ob_goto F 115 dX12_reach_100 (by decide) ?_
      exact b_X12_reach_115 F hr h k0
theorem l_X12_reach_59 {C : ob_Cx} (F : ob_Fx C cX12_reach 6 RX12 (some .long) 7 174) {n0 : Nat} {x1 : Int32} {x2 : Int32} {x3 : Int32} {x4 : Int32} : ∀ (n : Nat) {g : ob_St} {x5 : Int32} {x : (ob_St)}, L_X12_reach_59 n0 x1 x2 x3 x4 n g x5 = some x → ob_Ev C 122 [(0, ob_rv C n0), (1, .int x1), (2, .int x2), (3, .int x3), (4, .int x4)] [] x → ob_Ev C 59 [(0, ob_rv C n0), (1, .int x1), (2, .int x2), (3, .int x3), (4, .int x4), (5, .int x5)] [] g := by
  intro n
  induction n with
  | zero => intro g x5 x h; exact ob_no h
  | succ n ih => intro g x5 x h k0; exact lb_X12_reach_59 F ih h k0
def Lb_X12_reach_51 (rec : ob_St → Int32 → Option (ob_St)) (g : ob_St) (n0 : Nat) (x1 : Int32) (x2 : Int32) (x3 : Int32) (x4 : Int32) : Option (ob_St) :=
  (if x4 < 0 then (some g) else ((L_X12_reach_59 n0 x1 x2 x3 x4 ob_FU g 0).bind fun x_13 => rec x_13 (x4 + (-1))))
def L_X12_reach_51 (n0 : Nat) (x1 : Int32) (x2 : Int32) (x3 : Int32) : Nat → ob_St → Int32 → Option (ob_St)
  | 0, _, _ => none
  | n + 1, g, x4 => Lb_X12_reach_51 (L_X12_reach_51 n0 x1 x2 x3 n) g n0 x1 x2 x3 x4
theorem lb_X12_reach_51 {C : ob_Cx} {rec : ob_St → Int32 → Option (ob_St)} (F : ob_Fx C cX12_reach 6 RX12 (some .long) 7 174) {g : ob_St} {n0 : Nat} {x1 : Int32} {x2 : Int32} {x3 : Int32} {x4 : Int32} {x : (ob_St)} (hr : ∀ {g : ob_St} {x4 : Int32} {x : (ob_St)}, rec g x4 = some x → ob_Ev C 128 [(0, ob_rv C n0), (3, .int x3)] [] x → ob_Ev C 51 [(0, ob_rv C n0), (1, .int x1), (2, .int x2), (3, .int x3), (4, .int x4)] [] g) (h : Lb_X12_reach_51 rec g n0 x1 x2 x3 x4 = some x) (k0 : ob_Ev C 128 [(0, ob_rv C n0), (3, .int x3)] [] x) : ob_Ev C 51 [(0, ob_rv C n0), (1, .int x1), (2, .int x2), (3, .int x3), (4, .int x4)] [] g := by
  unfold Lb_X12_reach_51 at h
  refine ob_iload F 4 dX12_reach_51 rfl ?_
  refine ob_if_lt F 128 dX12_reach_53 (by decide) h (fun h => ?_) (fun h => ?_)
  · obtain rfl := Option.some.inj h
    exact ob_sub [0, 3] rfl (k0)
  · refine ob_iconst F (v := 0) dX12_reach_56 (by decide) ?_
    refine ob_istore F (ls2 := [(5, .int 0), (0, ob_rv C n0), (1, .int x1), (2, .int x2), (3, .int x3), (4, .int x4)]) dX12_reach_57 (by decide) rfl ?_
    obtain ⟨x_13, hx, h⟩ := Option.bind_eq_some_iff.mp h
    refine ob_sub [1, 2, 3, 4, 5, 0] rfl (l_X12_reach_59 F ob_FU hx ?_)
    refine ob_iinc F (v := (x4 + (-1))) (ls2 := [(4, .int (x4 + (-1))), (0, ob_rv C n0), (1, .int x1), (2, .int x2), (3, .int x3)]) 4 dX12_reach_122 rfl rfl (by decide) rfl ?_
    refine ob_goto F 51 dX12_reach_125 (by decide) ?_
    exact ob_sub [1, 2, 3, 4, 0] rfl (hr h k0)
theorem l_X12_reach_51 {C : ob_Cx} (F : ob_Fx C cX12_reach 6 RX12 (some .long) 7 174) {n0 : Nat} {x1 : Int32} {x2 : Int32} {x3 : Int32} : ∀ (n : Nat) {g : ob_St} {x4 : Int32} {x : (ob_St)}, L_X12_reach_51 n0 x1 x2 x3 n g x4 = some x → ob_Ev C 128 [(0, ob_rv C n0), (3, .int x3)] [] x → ob_Ev C 51 [(0, ob_rv C n0), (1, .int x1), (2, .int x2), (3, .int x3), (4, .int x4)] [] g := by
  intro n
  induction n with
  | zero => intro g x4 x h; exact ob_no h
  | succ n ih => intro g x4 x h k0; exact lb_X12_reach_51 F ih h k0
def B_X12_reach_31 (g : ob_St) (n0 : Nat) (x1 : Int32) (x2 : Int32) (x3 : Int32) (s0 : Nat) (s1 : Int32) : Option (Int64 × ob_St) :=
  (ob_ck 12 s0 (f_X12_throwsIf g s0 s1)).bind fun v2 => (if v2.1 = 0 then ((ob_ck 12 n0 (f_X12_lays v2.2 n0)).bind fun g3 => (ob_gR 12 n0 1).bind fun v4 => (ob_rI g3 14 v4 2).bind fun v5 => (L_X12_reach_51 n0 x1 x2 x3 ob_FU g3 v5).bind fun x_14 => (ob_gR 12 n0 28).bind fun v15 => (ob_rL x_14 v15 0).bind fun v16 => (ob_gR 12 n0 22).bind fun v17 => (ob_gR 12 n0 1).bind fun v18 => (ob_rI x_14 14 v18 2).bind fun v19 => (ob_rL x_14 v17 v19).bind fun v20 => (f_X12_told v16 v20 x3).bind fun v21 => some (v21, x_14)) else (some (0, v2.2)))
theorem b_X12_reach_31 {C : ob_Cx} (F : ob_Fx C cX12_reach 6 RX12 (some .long) 7 174) {g : ob_St} {n0 : Nat} {x1 : Int32} {x2 : Int32} {x3 : Int32} {s0 : Nat} {s1 : Int32} {r : (Int64 × ob_St)} (h : B_X12_reach_31 g n0 x1 x2 x3 s0 s1 = some r) (k : ob_Rt C (some (.long r.1)) r.2) : ob_Ev C 31 [(0, ob_rv C n0), (1, .int x1), (2, .int x2), (3, .int x3)] [.int s1, ob_rv C s0] g := by
  unfold B_X12_reach_31 at h
  refine ob_cViS F dX12_reach_31 im_X12_throwsIf tw6_185 h (fun b hb => t_X12_throwsIf hb) rfl rfl (Nat.le_of_ble_eq_true rfl) (by decide) fun v2 h => ?_
  refine ob_if_eq F 39 dX12_reach_34 (by decide) h (fun h => ?_) (fun h => ?_)
  · refine ob_rload_n F 0 dX12_reach_39 rfl ?_
    refine ob_cVvS F dX12_reach_40 im_X12_lays tw6_189 h (fun b hb => t_X12_lays hb) rfl rfl (Nat.le_of_ble_eq_true rfl) (by decide) fun g3 h => ?_
    refine ob_rload_n F 0 dX12_reach_43 rfl ?_
    refine ob_getR F dX12_reach_44 fl_X12_13 h fun v4 h => ?_
    refine ob_iconst F (v := 2) dX12_reach_47 (by decide) ?_
    refine ob_iald F dX12_reach_48 h fun v5 h => ?_
    refine ob_istore F (ls2 := [(4, .int v5), (0, ob_rv C n0), (1, .int x1), (2, .int x2), (3, .int x3)]) dX12_reach_49 (by decide) rfl ?_
    obtain ⟨x_14, hx, h⟩ := Option.bind_eq_some_iff.mp h
    refine ob_sub [1, 2, 3, 4, 0] rfl (l_X12_reach_51 F ob_FU hx ?_)
    refine ob_rload_n F 0 dX12_reach_128 rfl ?_
    refine ob_getR F dX12_reach_129 fl_X12_65 h fun v15 h => ?_
    refine ob_iconst F (v := 0) dX12_reach_132 (by decide) ?_
    refine ob_lald F dX12_reach_133 h fun v16 h => ?_
    refine ob_rload_n F 0 dX12_reach_134 rfl ?_
    refine ob_getR F dX12_reach_135 fl_X12_47 h fun v17 h => ?_
    refine ob_rload_n F 0 dX12_reach_138 rfl ?_
    refine ob_getR F dX12_reach_139 fl_X12_13 h fun v18 h => ?_
    refine ob_iconst F (v := 2) dX12_reach_142 (by decide) ?_
    refine ob_iald F dX12_reach_143 h fun v19 h => ?_
    refine ob_lald F dX12_reach_144 h fun v20 h => ?_
    refine ob_iload_n F 1 dX12_reach_145 rfl ?_
    refine ob_cSl F dX12_reach_146 im_X12_told tw6_231 h (fun b hb => t_X12_told hb) rfl rfl (Nat.le_of_ble_eq_true rfl) (by decide) fun v21 h => ?_
    obtain rfl := Option.some.inj h
    exact ob_lret F dX12_reach_149 k
  · refine ob_lconst F (v := 0) dX12_reach_37 (by decide) ?_
    obtain rfl := Option.some.inj h
    exact ob_lret F dX12_reach_38 k
def B_X12_reach_26 (g : ob_St) (n0 : Nat) (x1 : Int32) (x2 : Int32) (x3 : Int32) (s0 : Nat) : Option (Int64 × ob_St) :=
  B_X12_reach_31 g n0 x1 x2 x3 s0 1
theorem b_X12_reach_26 {C : ob_Cx} (F : ob_Fx C cX12_reach 6 RX12 (some .long) 7 174) {g : ob_St} {n0 : Nat} {x1 : Int32} {x2 : Int32} {x3 : Int32} {s0 : Nat} {r : (Int64 × ob_St)} (h : B_X12_reach_26 g n0 x1 x2 x3 s0 = some r) (k : ob_Rt C (some (.long r.1)) r.2) : ob_Ev C 26 [(0, ob_rv C n0), (1, .int x1), (2, .int x2), (3, .int x3)] [ob_rv C s0] g := by
  unfold B_X12_reach_26 at h
  refine ob_iconst F (v := 1) dX12_reach_26 (by decide) ?_
  refine ob_goto F 31 dX12_reach_27 (by decide) ?_
  exact b_X12_reach_31 F h k
def f_X12_reach (g : ob_St) (n0 : Nat) (x1 : Int32) (x2 : Int32) (x3 : Int32) : Option (Int64 × ob_St) :=
  (f_X12_isIn x1 0 2999).bind fun v1 => (if v1 = 0 then (B_X12_reach_26 g n0 x1 x2 x3 n0) else ((f_X12_isUpper x2).bind fun v22 => (if v22 = 0 then (B_X12_reach_26 g n0 x1 x2 x3 n0) else ((f_X12_isPart x3).bind fun v23 => (if v23 = 0 then (B_X12_reach_26 g n0 x1 x2 x3 n0) else (B_X12_reach_31 g n0 x1 x2 x3 n0 0))))))
theorem b_X12_reach_0 {C : ob_Cx} (F : ob_Fx C cX12_reach 6 RX12 (some .long) 7 174) {g : ob_St} {n0 : Nat} {x1 : Int32} {x2 : Int32} {x3 : Int32} {r : (Int64 × ob_St)} (h : f_X12_reach g n0 x1 x2 x3 = some r) (k : ob_Rt C (some (.long r.1)) r.2) : ob_Ev C 0 [(0, ob_rv C n0), (1, .int x1), (2, .int x2), (3, .int x3)] [] g := by
  unfold f_X12_reach at h
  refine ob_rload_n F 0 dX12_reach_0 rfl ?_
  refine ob_iload_n F 1 dX12_reach_1 rfl ?_
  refine ob_iconst F (v := 0) dX12_reach_2 (by decide) ?_
  refine ob_sipush F (v := 2999) dX12_reach_3 (by decide) ?_
  refine ob_cSi F dX12_reach_6 im_X12_isIn tw6_67 h (fun b hb => t_X12_isIn hb) rfl rfl (Nat.le_of_ble_eq_true rfl) (by decide) fun v1 h => ?_
  refine ob_if_eq F 26 dX12_reach_9 (by decide) h (fun h => ?_) (fun h => ?_)
  · exact b_X12_reach_26 F h k
  · refine ob_iload_n F 2 dX12_reach_12 rfl ?_
    refine ob_cSi F dX12_reach_13 im_X12_isUpper tw7_87 h (fun b hb => t_X12_isUpper hb) rfl rfl (Nat.le_of_ble_eq_true rfl) (by decide) fun v22 h => ?_
    refine ob_if_eq F 26 dX12_reach_16 (by decide) h (fun h => ?_) (fun h => ?_)
    · exact b_X12_reach_26 F h k
    · refine ob_iload_n F 3 dX12_reach_19 rfl ?_
      refine ob_cSi F dX12_reach_20 im_X12_isPart tw6_182 h (fun b hb => t_X12_isPart hb) rfl rfl (Nat.le_of_ble_eq_true rfl) (by decide) fun v23 h => ?_
      refine ob_if_ne F 30 dX12_reach_23 (by decide) h (fun h => ?_) (fun h => ?_)
      · refine ob_iconst F (v := 0) dX12_reach_30 (by decide) ?_
        exact b_X12_reach_31 F h k
      · exact b_X12_reach_26 F h k
theorem t_X12_reach {cf : ob_Cf} {g : ob_St} {n0 : Nat} {x1 : Int32} {x2 : Int32} {x3 : Int32} {r : (Int64 × ob_St)} (h : f_X12_reach g n0 x1 x2 x3 = some r) : ob_Mt cf yX12_reach cX12_reach 6 (some .long) 7 174 [ob_rw cf n0, .int x1, .int x2, .int x3] g (some (.long r.1)) r.2 := by
  refine ob_enter (by decide) (Nat.le_of_ble_eq_true rfl) rfl ?_
  intro C hC F k
  subst hC
  exact b_X12_reach_0 F h k
