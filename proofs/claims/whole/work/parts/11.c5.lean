-- X11_bestBy
def f_X11_bestBy (g : ob_St) (n0 : Nat) (x1 : Int32) (x2 : Int32) : Option (Int32 × ob_St) :=
  (ob_ck 11 n0 (f_X11_isOption g n0 x1)).bind fun v1 => (if v1 = 0 then (some ((-1), g)) else ((f_X11_isBit x2).bind fun v2 => (if v2 = 0 then (some ((-1), g)) else ((ob_gR 11 n0 11).bind fun v3 => (ob_ck 11 n0 (f_X11_sheetOf g n0 x1)).bind fun v4 => (ob_gR 11 n0 3).bind fun v5 => (ob_gR 5 v5 2).bind fun v6 => (ob_rR 17 v6 x1).bind fun v7 => (ob_ck 8 v3 (f_X8_bestMark v4.2 v3 v4.1 v7 x2)).bind fun v8 => some (v8.1, v8.2)))))
theorem b_X11_bestBy_0 {C : ob_Cx} (F : ob_Fx C cX11_bestBy 3 RX11 (some .int) 7 175) {g : ob_St} {n0 : Nat} {x1 : Int32} {x2 : Int32} {r : (Int32 × ob_St)} (h : f_X11_bestBy g n0 x1 x2 = some r) (k : ob_Rt C (some (.int r.1)) r.2) : ob_Ev C 0 [(0, ob_rv C n0), (1, .int x1), (2, .int x2)] [] g := by
  unfold f_X11_bestBy at h
  refine ob_rload_n F 0 dX11_bestBy_0 rfl ?_
  refine ob_iload_n F 1 dX11_bestBy_1 rfl ?_
  refine ob_cVi F dX11_bestBy_2 im_X11_isOption tw3_176 h (fun b hb => t_X11_isOption hb) rfl rfl (Nat.le_of_ble_eq_true rfl) (by decide) fun v1 h => ?_
  refine ob_if_eq F 15 dX11_bestBy_5 (by decide) h (fun h => ?_) (fun h => ?_)
  · refine ob_iconst F (v := (-1)) dX11_bestBy_15 (by decide) ?_
    obtain rfl := Option.some.inj h
    exact ob_iret F dX11_bestBy_16 k
  · refine ob_iload_n F 2 dX11_bestBy_8 rfl ?_
    refine ob_cSi F dX11_bestBy_9 im_X11_isBit tw4_113 h (fun b hb => t_X11_isBit hb) rfl rfl (Nat.le_of_ble_eq_true rfl) (by decide) fun v2 h => ?_
    refine ob_if_ne F 17 dX11_bestBy_12 (by decide) h (fun h => ?_) (fun h => ?_)
    · refine ob_rload_n F 0 dX11_bestBy_17 rfl ?_
      refine ob_getR F dX11_bestBy_18 fl_X11_79 h fun v3 h => ?_
      refine ob_rload_n F 0 dX11_bestBy_21 rfl ?_
      refine ob_iload_n F 1 dX11_bestBy_22 rfl ?_
      refine ob_cVrS F dX11_bestBy_23 im_X11_sheetOf tw4_30 h (fun b hb => t_X11_sheetOf hb) rfl rfl (Nat.le_of_ble_eq_true rfl) (by decide) fun v4 h => ?_
      refine ob_rload_n F 0 dX11_bestBy_26 rfl ?_
      refine ob_getR F dX11_bestBy_27 fl_X11_23 h fun v5 h => ?_
      refine ob_getR F dX11_bestBy_30 fl_X11_138 h fun v6 h => ?_
      refine ob_iload_n F 1 dX11_bestBy_33 rfl ?_
      refine ob_aald F dX11_bestBy_34 (by decide) h fun v7 h => ?_
      refine ob_iload_n F 2 dX11_bestBy_35 rfl ?_
      refine ob_cViS F dX11_bestBy_36 im_X8_bestMark tw4_116 h (fun b hb => t_X8_bestMark hb) rfl rfl (Nat.le_of_ble_eq_true rfl) (by decide) fun v8 h => ?_
      obtain rfl := Option.some.inj h
      exact ob_iret F dX11_bestBy_39 k
    · refine ob_iconst F (v := (-1)) dX11_bestBy_15 (by decide) ?_
      obtain rfl := Option.some.inj h
      exact ob_iret F dX11_bestBy_16 k
theorem t_X11_bestBy {cf : ob_Cf} {g : ob_St} {n0 : Nat} {x1 : Int32} {x2 : Int32} {r : (Int32 × ob_St)} (h : f_X11_bestBy g n0 x1 x2 = some r) : ob_Mt cf yX11_bestBy cX11_bestBy 3 (some .int) 7 175 [ob_rw cf n0, .int x1, .int x2] g (some (.int r.1)) r.2 := by
  refine ob_enter (by decide) (Nat.le_of_ble_eq_true rfl) (Or.inl rfl) ?_
  intro C hC F k
  subst hC
  exact b_X11_bestBy_0 F h k
-- X8_oddsOf
def B_X8_oddsOf_85 (rec : ob_St → Int32 → Option (ob_St)) (g : ob_St) (n0 : Nat) (x1 : Int32) (x2 : Int32) (x3 : Int32) (x4 : Int32) (s0 : Nat) (s1 : Int32) (s2 : Int64) : Option (ob_St) :=
  (ob_wL g s0 s1 s2).bind fun g13 => rec g13 (x4 + 1)
theorem b_X8_oddsOf_85 {C : ob_Cx} {rec : ob_St → Int32 → Option (ob_St)} (F : ob_Fx C cX8_oddsOf 7 RX8 (some .long) 2 46) {g : ob_St} {n0 : Nat} {x1 : Int32} {x2 : Int32} {x3 : Int32} {x4 : Int32} {s0 : Nat} {s1 : Int32} {s2 : Int64} {x : (ob_St)} (hr : ∀ {g : ob_St} {x4 : Int32} {x : (ob_St)}, rec g x4 = some x → ob_Ev C 92 [(0, ob_rv C n0), (1, .int x1), (2, .int x2), (3, .int x3)] [] x → ob_Ev C 18 [(0, ob_rv C n0), (1, .int x1), (2, .int x2), (3, .int x3), (4, .int x4)] [] g) (h : B_X8_oddsOf_85 rec g n0 x1 x2 x3 x4 s0 s1 s2 = some x) (k0 : ob_Ev C 92 [(0, ob_rv C n0), (1, .int x1), (2, .int x2), (3, .int x3)] [] x) : ob_Ev C 85 [(0, ob_rv C n0), (1, .int x1), (2, .int x2), (3, .int x3), (4, .int x4)] [.long s2, .int s1, ob_rv C s0] g := by
  unfold B_X8_oddsOf_85 at h
  refine ob_last F dX8_oddsOf_85 h fun g13 h => ?_
  refine ob_iinc F (v := (x4 + 1)) (ls2 := [(4, .int (x4 + 1)), (0, ob_rv C n0), (1, .int x1), (2, .int x2), (3, .int x3)]) 4 dX8_oddsOf_86 rfl rfl (by decide) rfl ?_
  refine ob_goto F 18 dX8_oddsOf_89 (by decide) ?_
  exact ob_sub [1, 2, 3, 4, 0] rfl (hr h k0)
def Lb_X8_oddsOf_18 (rec : ob_St → Int32 → Option (ob_St)) (g : ob_St) (n0 : Nat) (x1 : Int32) (x2 : Int32) (x3 : Int32) (x4 : Int32) : Option (ob_St) :=
  (if x3 < x4 then (some g) else ((f_X11_nodeAt x3 x4).bind fun v4 => (ob_gR 8 n0 0).bind fun v5 => (ob_gR 3 v5 2).bind fun v6 => (ob_rI g 14 v6 v4).bind fun v7 => (f_X11_isPast v7 x1 x2).bind fun v8 => (ob_gR 8 n0 1).bind fun v9 => (if v8 = 0 then ((ob_gR 8 n0 0).bind fun v10 => (ob_gR 8 n0 1).bind fun v11 => (ob_ck 3 v10 (f_X3_heldOf g v10 v11 x3 v4)).bind fun v12 => B_X8_oddsOf_85 rec g n0 x1 x2 x3 x4 v9 v4 v12) else ((ob_gR 8 n0 0).bind fun v14 => (ob_ck 3 v14 (f_X3_scaleAt g v14 x3)).bind fun v15 => B_X8_oddsOf_85 rec g n0 x1 x2 x3 x4 v9 v4 v15))))
def L_X8_oddsOf_18 (n0 : Nat) (x1 : Int32) (x2 : Int32) (x3 : Int32) : Nat → ob_St → Int32 → Option (ob_St)
  | 0, _, _ => none
  | n + 1, g, x4 => Lb_X8_oddsOf_18 (L_X8_oddsOf_18 n0 x1 x2 x3 n) g n0 x1 x2 x3 x4
theorem lb_X8_oddsOf_18 {C : ob_Cx} {rec : ob_St → Int32 → Option (ob_St)} (F : ob_Fx C cX8_oddsOf 7 RX8 (some .long) 2 46) {g : ob_St} {n0 : Nat} {x1 : Int32} {x2 : Int32} {x3 : Int32} {x4 : Int32} {x : (ob_St)} (hr : ∀ {g : ob_St} {x4 : Int32} {x : (ob_St)}, rec g x4 = some x → ob_Ev C 92 [(0, ob_rv C n0), (1, .int x1), (2, .int x2), (3, .int x3)] [] x → ob_Ev C 18 [(0, ob_rv C n0), (1, .int x1), (2, .int x2), (3, .int x3), (4, .int x4)] [] g) (h : Lb_X8_oddsOf_18 rec g n0 x1 x2 x3 x4 = some x) (k0 : ob_Ev C 92 [(0, ob_rv C n0), (1, .int x1), (2, .int x2), (3, .int x3)] [] x) : ob_Ev C 18 [(0, ob_rv C n0), (1, .int x1), (2, .int x2), (3, .int x3), (4, .int x4)] [] g := by
  unfold Lb_X8_oddsOf_18 at h
  refine ob_iload F 4 dX8_oddsOf_18 rfl ?_
  refine ob_iload_n F 3 dX8_oddsOf_20 rfl ?_
  refine ob_icmp_gt F 92 dX8_oddsOf_21 (by decide) h (fun h => ?_) (fun h => ?_)
  · obtain rfl := Option.some.inj h
    exact ob_sub [0, 1, 2, 3] rfl (k0)
  · refine ob_iload_n F 3 dX8_oddsOf_24 rfl ?_
    refine ob_iload F 4 dX8_oddsOf_25 rfl ?_
    refine ob_cNi F dX8_oddsOf_27 im_X11_nodeAt (by decide +kernel) h (fun b hb => t_X11_nodeAt hb) rfl rfl (Nat.le_of_ble_eq_true rfl) (by decide) fun v4 h => ?_
    refine ob_istore F (ls2 := [(5, .int v4), (0, ob_rv C n0), (1, .int x1), (2, .int x2), (3, .int x3), (4, .int x4)]) dX8_oddsOf_30 (by decide) rfl ?_
    refine ob_rload_n F 1 dX8_oddsOf_32 rfl ?_
    refine ob_getR F dX8_oddsOf_33 fl_X8_26 h fun v5 h => ?_
    refine ob_getR F dX8_oddsOf_36 fl_X8_54 h fun v6 h => ?_
    refine ob_iload F 0 dX8_oddsOf_39 rfl ?_
    refine ob_iald F dX8_oddsOf_41 h fun v7 h => ?_
    refine ob_iload_n F 2 dX8_oddsOf_42 rfl ?_
    refine ob_iload_n F 3 dX8_oddsOf_43 rfl ?_
    refine ob_cNi F dX8_oddsOf_44 im_X11_isPast (by decide +kernel) h (fun b hb => t_X11_isPast hb) rfl rfl (Nat.le_of_ble_eq_true rfl) (by decide) fun v8 h => ?_
    refine ob_istore F (ls2 := [(6, .int v8), (5, .int v4), (0, ob_rv C n0), (1, .int x1), (2, .int x2), (3, .int x3), (4, .int x4)]) dX8_oddsOf_47 (by decide) rfl ?_
    refine ob_rload_n F 2 dX8_oddsOf_49 rfl ?_
    refine ob_getR F dX8_oddsOf_50 fl_X8_9 h fun v9 h => ?_
    refine ob_iload F 1 dX8_oddsOf_53 rfl ?_
    refine ob_iload F 0 dX8_oddsOf_55 rfl ?_
    refine ob_if_eq F 71 dX8_oddsOf_57 (by decide) h (fun h => ?_) (fun h => ?_)
    · refine ob_rload_n F 2 dX8_oddsOf_71 rfl ?_
      refine ob_getR F dX8_oddsOf_72 fl_X8_26 h fun v10 h => ?_
      refine ob_rload_n F 2 dX8_oddsOf_75 rfl ?_
      refine ob_getR F dX8_oddsOf_76 fl_X8_9 h fun v11 h => ?_
      refine ob_iload_n F 5 dX8_oddsOf_79 rfl ?_
      refine ob_iload F 1 dX8_oddsOf_80 rfl ?_
      refine ob_cVl F dX8_oddsOf_82 im_X3_heldOf tw4_135 h (fun b hb => t_X3_heldOf hb) rfl rfl (Nat.le_of_ble_eq_true rfl) (by decide) fun v12 h => ?_
      exact ob_sub [2, 3, 4, 5, 6] rfl (b_X8_oddsOf_85 F hr h k0)
    · refine ob_rload_n F 2 dX8_oddsOf_60 rfl ?_
      refine ob_getR F dX8_oddsOf_61 fl_X8_26 h fun v14 h => ?_
      refine ob_iload_n F 5 dX8_oddsOf_64 rfl ?_
      refine ob_cVl F dX8_oddsOf_65 im_X3_scaleAt tw4_141 h (fun b hb => t_X3_scaleAt hb) rfl rfl (Nat.le_of_ble_eq_true rfl) (by decide) fun v15 h => ?_
      refine ob_goto F 85 dX8_oddsOf_68 (by decide) ?_
      exact ob_sub [2, 3, 4, 5, 6] rfl (b_X8_oddsOf_85 F hr h k0)
theorem l_X8_oddsOf_18 {C : ob_Cx} (F : ob_Fx C cX8_oddsOf 7 RX8 (some .long) 2 46) {n0 : Nat} {x1 : Int32} {x2 : Int32} {x3 : Int32} : ∀ (n : Nat) {g : ob_St} {x4 : Int32} {x : (ob_St)}, L_X8_oddsOf_18 n0 x1 x2 x3 n g x4 = some x → ob_Ev C 92 [(0, ob_rv C n0), (1, .int x1), (2, .int x2), (3, .int x3)] [] x → ob_Ev C 18 [(0, ob_rv C n0), (1, .int x1), (2, .int x2), (3, .int x3), (4, .int x4)] [] g := by
  intro n
  induction n with
  | zero => intro g x4 x h; exact ob_no h
  | succ n ih => intro g x4 x h k0; exact lb_X8_oddsOf_18 F ih h k0
def Lb_X8_oddsOf_11 (rec : ob_St → Int32 → Option (ob_St)) (g : ob_St) (n0 : Nat) (x1 : Int32) (x2 : Int32) (x3 : Int32) : Option (ob_St) :=
  (if x3 < 0 then (some g) else ((L_X8_oddsOf_18 n0 x1 x2 x3 ob_FU g 0).bind fun x_16 => rec x_16 (x3 + (-1))))
def L_X8_oddsOf_11 (n0 : Nat) (x1 : Int32) (x2 : Int32) : Nat → ob_St → Int32 → Option (ob_St)
  | 0, _, _ => none
  | n + 1, g, x3 => Lb_X8_oddsOf_11 (L_X8_oddsOf_11 n0 x1 x2 n) g n0 x1 x2 x3
theorem lb_X8_oddsOf_11 {C : ob_Cx} {rec : ob_St → Int32 → Option (ob_St)} (F : ob_Fx C cX8_oddsOf 7 RX8 (some .long) 2 46) {g : ob_St} {n0 : Nat} {x1 : Int32} {x2 : Int32} {x3 : Int32} {x : (ob_St)} (hr : ∀ {g : ob_St} {x3 : Int32} {x : (ob_St)}, rec g x3 = some x → ob_Ev C 98 [(0, ob_rv C n0)] [] x → ob_Ev C 11 [(0, ob_rv C n0), (1, .int x1), (2, .int x2), (3, .int x3)] [] g) (h : Lb_X8_oddsOf_11 rec g n0 x1 x2 x3 = some x) (k0 : ob_Ev C 98 [(0, ob_rv C n0)] [] x) : ob_Ev C 11 [(0, ob_rv C n0), (1, .int x1), (2, .int x2), (3, .int x3)] [] g := by
  unfold Lb_X8_oddsOf_11 at h
  refine ob_iload_n F 3 dX8_oddsOf_11 rfl ?_
  refine ob_if_lt F 98 dX8_oddsOf_12 (by decide) h (fun h => ?_) (fun h => ?_)
  · obtain rfl := Option.some.inj h
    exact ob_sub [0] rfl (k0)
  · refine ob_iconst F (v := 0) dX8_oddsOf_15 (by decide) ?_
    refine ob_istore F (ls2 := [(4, .int 0), (0, ob_rv C n0), (1, .int x1), (2, .int x2), (3, .int x3)]) dX8_oddsOf_16 (by decide) rfl ?_
    obtain ⟨x_16, hx, h⟩ := Option.bind_eq_some_iff.mp h
    refine ob_sub [1, 2, 3, 4, 0] rfl (l_X8_oddsOf_18 F ob_FU hx ?_)
    refine ob_iinc F (v := (x3 + (-1))) (ls2 := [(3, .int (x3 + (-1))), (0, ob_rv C n0), (1, .int x1), (2, .int x2)]) 3 dX8_oddsOf_92 rfl rfl (by decide) rfl ?_
    refine ob_goto F 11 dX8_oddsOf_95 (by decide) ?_
    exact ob_sub [1, 2, 3, 0] rfl (hr h k0)
theorem l_X8_oddsOf_11 {C : ob_Cx} (F : ob_Fx C cX8_oddsOf 7 RX8 (some .long) 2 46) {n0 : Nat} {x1 : Int32} {x2 : Int32} : ∀ (n : Nat) {g : ob_St} {x3 : Int32} {x : (ob_St)}, L_X8_oddsOf_11 n0 x1 x2 n g x3 = some x → ob_Ev C 98 [(0, ob_rv C n0)] [] x → ob_Ev C 11 [(0, ob_rv C n0), (1, .int x1), (2, .int x2), (3, .int x3)] [] g := by
  intro n
  induction n with
  | zero => intro g x3 x h; exact ob_no h
  | succ n ih => intro g x3 x h k0; exact lb_X8_oddsOf_11 F ih h k0
def f_X8_oddsOf (g : ob_St) (n0 : Nat) (x1 : Int32) (x2 : Int32) : Option (Int64 × ob_St) :=
  (ob_gR 8 n0 0).bind fun v1 => (ob_gR 3 v1 0).bind fun v2 => (ob_gI g 5 v2 5).bind fun v3 => (L_X8_oddsOf_11 n0 x1 x2 ob_FU g v3).bind fun x_17 => (ob_gR 8 n0 1).bind fun v18 => (ob_rL x_17 v18 0).bind fun v19 => some (v19, x_17)
theorem b_X8_oddsOf_0 {C : ob_Cx} (F : ob_Fx C cX8_oddsOf 7 RX8 (some .long) 2 46) {g : ob_St} {n0 : Nat} {x1 : Int32} {x2 : Int32} {r : (Int64 × ob_St)} (h : f_X8_oddsOf g n0 x1 x2 = some r) (k : ob_Rt C (some (.long r.1)) r.2) : ob_Ev C 0 [(0, ob_rv C n0), (1, .int x1), (2, .int x2)] [] g := by
  unfold f_X8_oddsOf at h
  refine ob_rload_n F 0 dX8_oddsOf_0 rfl ?_
  refine ob_getR F dX8_oddsOf_1 fl_X8_26 h fun v1 h => ?_
  refine ob_getR F dX8_oddsOf_4 fl_X8_30 h fun v2 h => ?_
  refine ob_getI F dX8_oddsOf_7 fl_X8_36 h fun v3 h => ?_
  refine ob_istore_n F (ls2 := [(3, .int v3), (0, ob_rv C n0), (1, .int x1), (2, .int x2)]) dX8_oddsOf_10 (by decide) rfl ?_
  obtain ⟨x_17, hx, h⟩ := Option.bind_eq_some_iff.mp h
  refine ob_sub [1, 2, 3, 0] rfl (l_X8_oddsOf_11 F ob_FU hx ?_)
  refine ob_rload_n F 0 dX8_oddsOf_98 rfl ?_
  refine ob_getR F dX8_oddsOf_99 fl_X8_9 h fun v18 h => ?_
  refine ob_iconst F (v := 0) dX8_oddsOf_102 (by decide) ?_
  refine ob_lald F dX8_oddsOf_103 h fun v19 h => ?_
  obtain rfl := Option.some.inj h
  exact ob_lret F dX8_oddsOf_104 k
theorem t_X8_oddsOf {cf : ob_Cf} {g : ob_St} {n0 : Nat} {x1 : Int32} {x2 : Int32} {r : (Int64 × ob_St)} (h : f_X8_oddsOf g n0 x1 x2 = some r) : ob_Mt cf yX8_oddsOf cX8_oddsOf 7 (some .long) 2 46 [ob_rw cf n0, .int x1, .int x2] g (some (.long r.1)) r.2 := by
  refine ob_enter (by decide) (Nat.le_of_ble_eq_true rfl) rfl ?_
  intro C hC F k
  subst hC
  exact b_X8_oddsOf_0 F h k
-- X5_current
def f_X5_current (g : ob_St) (n0 : Nat) (x1 : Int32) (x2 : Int32) : Option Int32 :=
  (if x1 = 0 then ((ob_gR 5 n0 2).bind fun v1 => (ob_rR 17 v1 x2).bind fun v2 => (ob_gI g 1 v2 9).bind fun v3 => some v3) else (if x1 = 1 then ((ob_gI g 5 n0 3).bind fun v4 => some v4) else (if x1 = 2 then ((ob_gR 5 n0 0).bind fun v5 => (ob_rI g 14 v5 x2).bind fun v6 => some v6) else (if x1 = 3 then ((ob_gR 5 n0 1).bind fun v7 => (ob_rI g 14 v7 x2).bind fun v8 => some v8) else ((ob_gR 5 n0 2).bind fun v9 => (ob_rR 17 v9 x2).bind fun v10 => (ob_gI g 1 v10 1).bind fun v11 => some v11)))))
theorem b_X5_current_0 {C : ob_Cx} (F : ob_Fx C cX5_current 3 RX5 (some .int) 0 0) {g : ob_St} {n0 : Nat} {x1 : Int32} {x2 : Int32} {r : Int32} (h : f_X5_current g n0 x1 x2 = some r) (k : ob_Rt C (some (.int r)) g) : ob_Ev C 0 [(0, ob_rv C n0), (1, .int x1), (2, .int x2)] [] g := by
  unfold f_X5_current at h
  refine ob_iload_n F 1 dX5_current_0 rfl ?_
  by_cases c0 : x1 = 0
  · rw [if_pos c0] at h
    refine ob_tsi F 0 32 dX5_current_1 c0 (by decide) (by decide) rfl (by decide) ?_
    refine ob_rload_n F 0 dX5_current_32 rfl ?_
    refine ob_getR F dX5_current_33 fl_X5_20 h fun v1 h => ?_
    refine ob_iload_n F 2 dX5_current_36 rfl ?_
    refine ob_aald F dX5_current_37 (by decide) h fun v2 h => ?_
    refine ob_getI F dX5_current_38 fl_X5_42 h fun v3 h => ?_
    obtain rfl := Option.some.inj h
    exact ob_iret F dX5_current_41 k
  rw [if_neg c0] at h
  by_cases c1 : x1 = 1
  · rw [if_pos c1] at h
    refine ob_tsi F 1 42 dX5_current_1 c1 (by decide) (by decide) rfl (by decide) ?_
    refine ob_rload_n F 0 dX5_current_42 rfl ?_
    refine ob_getI F dX5_current_43 fl_X5_24 h fun v4 h => ?_
    obtain rfl := Option.some.inj h
    exact ob_iret F dX5_current_46 k
  rw [if_neg c1] at h
  by_cases c2 : x1 = 2
  · rw [if_pos c2] at h
    refine ob_tsi F 2 47 dX5_current_1 c2 (by decide) (by decide) rfl (by decide) ?_
    refine ob_rload_n F 0 dX5_current_47 rfl ?_
    refine ob_getR F dX5_current_48 fl_X5_9 h fun v5 h => ?_
    refine ob_iload_n F 2 dX5_current_51 rfl ?_
    refine ob_iald F dX5_current_52 h fun v6 h => ?_
    obtain rfl := Option.some.inj h
    exact ob_iret F dX5_current_53 k
  rw [if_neg c2] at h
  by_cases c3 : x1 = 3
  · rw [if_pos c3] at h
    refine ob_tsi F 3 54 dX5_current_1 c3 (by decide) (by decide) rfl (by decide) ?_
    refine ob_rload_n F 0 dX5_current_54 rfl ?_
    refine ob_getR F dX5_current_55 fl_X5_15 h fun v7 h => ?_
    refine ob_iload_n F 2 dX5_current_58 rfl ?_
    refine ob_iald F dX5_current_59 h fun v8 h => ?_
    obtain rfl := Option.some.inj h
    exact ob_iret F dX5_current_60 k
  rw [if_neg c3] at h
  have q0 := ob_nei c0 (k := 0) rfl
  have q1 := ob_nei c1 (k := 1) rfl
  have q2 := ob_nei c2 (k := 2) rfl
  have q3 := ob_nei c3 (k := 3) rfl
  refine ob_tso F 61 dX5_current_1 (by omega) (by decide) ?_
  refine ob_rload_n F 0 dX5_current_61 rfl ?_
  refine ob_getR F dX5_current_62 fl_X5_20 h fun v9 h => ?_
  refine ob_iload_n F 2 dX5_current_65 rfl ?_
  refine ob_aald F dX5_current_66 (by decide) h fun v10 h => ?_
  refine ob_getI F dX5_current_67 fl_X5_45 h fun v11 h => ?_
  obtain rfl := Option.some.inj h
  exact ob_iret F dX5_current_70 k
theorem t_X5_current {cf : ob_Cf} {g : ob_St} {n0 : Nat} {x1 : Int32} {x2 : Int32} {r : Int32} (h : f_X5_current g n0 x1 x2 = some r) : ob_Mt cf yX5_current cX5_current 3 (some .int) 0 0 [ob_rw cf n0, .int x1, .int x2] g (some (.int r)) g := by
  refine ob_enter (by decide) (Nat.le_of_ble_eq_true rfl) (Or.inl rfl) ?_
  intro C hC F k
  subst hC
  exact b_X5_current_0 F h k
-- X0_dropFirst
def Lb_X0_dropFirst_2 (rec : ob_St → Int32 → Option (ob_St)) (g : ob_St) (n0 : Nat) (x1 : Int32) : Option (ob_St) :=
  (ob_gI g 0 n0 3).bind fun v1 => (if v1 ≤ x1 then (some g) else ((ob_gR 0 n0 0).bind fun v2 => (ob_gR 0 n0 0).bind fun v3 => (ob_rI g 14 v3 x1).bind fun v4 => (ob_wI g v2 (x1 - 1) v4).bind fun g5 => (ob_gR 0 n0 1).bind fun v6 => (ob_gR 0 n0 1).bind fun v7 => (ob_rI g5 14 v7 x1).bind fun v8 => (ob_wI g5 v6 (x1 - 1) v8).bind fun g9 => (ob_gR 0 n0 2).bind fun v10 => (ob_gR 0 n0 2).bind fun v11 => (ob_rI g9 14 v11 x1).bind fun v12 => (ob_wI g9 v10 (x1 - 1) v12).bind fun g13 => rec g13 (x1 + 1)))
def L_X0_dropFirst_2 (n0 : Nat) : Nat → ob_St → Int32 → Option (ob_St)
  | 0, _, _ => none
  | n + 1, g, x1 => Lb_X0_dropFirst_2 (L_X0_dropFirst_2 n0 n) g n0 x1
theorem lb_X0_dropFirst_2 {C : ob_Cx} {rec : ob_St → Int32 → Option (ob_St)} (F : ob_Fx C cX0_dropFirst 2 RX0 none 0 0) {g : ob_St} {n0 : Nat} {x1 : Int32} {x : (ob_St)} (hr : ∀ {g : ob_St} {x1 : Int32} {x : (ob_St)}, rec g x1 = some x → ob_Ev C 58 [(0, ob_rv C n0)] [] x → ob_Ev C 2 [(0, ob_rv C n0), (1, .int x1)] [] g) (h : Lb_X0_dropFirst_2 rec g n0 x1 = some x) (k0 : ob_Ev C 58 [(0, ob_rv C n0)] [] x) : ob_Ev C 2 [(0, ob_rv C n0), (1, .int x1)] [] g := by
  unfold Lb_X0_dropFirst_2 at h
  refine ob_iload_n F 1 dX0_dropFirst_2 rfl ?_
  refine ob_rload_n F 0 dX0_dropFirst_3 rfl ?_
  refine ob_getI F dX0_dropFirst_4 fl_X0_21 h fun v1 h => ?_
  refine ob_icmp_ge F 58 dX0_dropFirst_7 (by decide) h (fun h => ?_) (fun h => ?_)
  · obtain rfl := Option.some.inj h
    exact ob_sub [0] rfl (k0)
  · refine ob_rload_n F 0 dX0_dropFirst_10 rfl ?_
    refine ob_getR F dX0_dropFirst_11 fl_X0_9 h fun v2 h => ?_
    refine ob_iload_n F 1 dX0_dropFirst_14 rfl ?_
    refine ob_iconst F (v := 1) dX0_dropFirst_15 (by decide) ?_
    refine ob_isub F dX0_dropFirst_16 ?_
    refine ob_rload_n F 0 dX0_dropFirst_17 rfl ?_
    refine ob_getR F dX0_dropFirst_18 fl_X0_9 h fun v3 h => ?_
    refine ob_iload_n F 1 dX0_dropFirst_21 rfl ?_
    refine ob_iald F dX0_dropFirst_22 h fun v4 h => ?_
    refine ob_iast F dX0_dropFirst_23 h fun g5 h => ?_
    refine ob_rload_n F 0 dX0_dropFirst_24 rfl ?_
    refine ob_getR F dX0_dropFirst_25 fl_X0_15 h fun v6 h => ?_
    refine ob_iload_n F 1 dX0_dropFirst_28 rfl ?_
    refine ob_iconst F (v := 1) dX0_dropFirst_29 (by decide) ?_
    refine ob_isub F dX0_dropFirst_30 ?_
    refine ob_rload_n F 0 dX0_dropFirst_31 rfl ?_
    refine ob_getR F dX0_dropFirst_32 fl_X0_15 h fun v7 h => ?_
    refine ob_iload_n F 1 dX0_dropFirst_35 rfl ?_
    refine ob_iald F dX0_dropFirst_36 h fun v8 h => ?_
    refine ob_iast F dX0_dropFirst_37 h fun g9 h => ?_
    refine ob_rload_n F 0 dX0_dropFirst_38 rfl ?_
    refine ob_getR F dX0_dropFirst_39 fl_X0_18 h fun v10 h => ?_
    refine ob_iload_n F 1 dX0_dropFirst_42 rfl ?_
    refine ob_iconst F (v := 1) dX0_dropFirst_43 (by decide) ?_
    refine ob_isub F dX0_dropFirst_44 ?_
    refine ob_rload_n F 0 dX0_dropFirst_45 rfl ?_
    refine ob_getR F dX0_dropFirst_46 fl_X0_18 h fun v11 h => ?_
    refine ob_iload_n F 1 dX0_dropFirst_49 rfl ?_
    refine ob_iald F dX0_dropFirst_50 h fun v12 h => ?_
    refine ob_iast F dX0_dropFirst_51 h fun g13 h => ?_
    refine ob_iinc F (v := (x1 + 1)) (ls2 := [(1, .int (x1 + 1)), (0, ob_rv C n0)]) 1 dX0_dropFirst_52 rfl rfl (by decide) rfl ?_
    refine ob_goto F 2 dX0_dropFirst_55 (by decide) ?_
    exact ob_sub [1, 0] rfl (hr h k0)
theorem l_X0_dropFirst_2 {C : ob_Cx} (F : ob_Fx C cX0_dropFirst 2 RX0 none 0 0) {n0 : Nat} : ∀ (n : Nat) {g : ob_St} {x1 : Int32} {x : (ob_St)}, L_X0_dropFirst_2 n0 n g x1 = some x → ob_Ev C 58 [(0, ob_rv C n0)] [] x → ob_Ev C 2 [(0, ob_rv C n0), (1, .int x1)] [] g := by
  intro n
  induction n with
  | zero => intro g x1 x h; exact ob_no h
  | succ n ih => intro g x1 x h k0; exact lb_X0_dropFirst_2 F ih h k0
def f_X0_dropFirst (g : ob_St) (n0 : Nat) : Option ob_St :=
  (L_X0_dropFirst_2 n0 ob_FU g 1).bind fun x_14 => (ob_gI x_14 0 n0 3).bind fun v15 => (ob_pI x_14 0 n0 3 (v15 - 1)).bind fun g16 => some g16
theorem b_X0_dropFirst_0 {C : ob_Cx} (F : ob_Fx C cX0_dropFirst 2 RX0 none 0 0) {g : ob_St} {n0 : Nat} {r : ob_St} (h : f_X0_dropFirst g n0 = some r) (k : ob_Rt C none r) : ob_Ev C 0 [(0, ob_rv C n0)] [] g := by
  unfold f_X0_dropFirst at h
  refine ob_iconst F (v := 1) dX0_dropFirst_0 (by decide) ?_
  refine ob_istore_n F (ls2 := [(1, .int 1), (0, ob_rv C n0)]) dX0_dropFirst_1 (by decide) rfl ?_
  obtain ⟨x_14, hx, h⟩ := Option.bind_eq_some_iff.mp h
  refine ob_sub [1, 0] rfl (l_X0_dropFirst_2 F ob_FU hx ?_)
  refine ob_rload_n F 0 dX0_dropFirst_58 rfl ?_
  refine ob_dup F dX0_dropFirst_59 rfl ?_
  refine ob_getI F dX0_dropFirst_60 fl_X0_21 h fun v15 h => ?_
  refine ob_iconst F (v := 1) dX0_dropFirst_63 (by decide) ?_
  refine ob_isub F dX0_dropFirst_64 ?_
  refine ob_putI F dX0_dropFirst_65 fp_X0_21 h fun g16 h => ?_
  obtain rfl := Option.some.inj h
  exact ob_vret F dX0_dropFirst_68 k
theorem t_X0_dropFirst {cf : ob_Cf} {g : ob_St} {n0 : Nat} {r : ob_St} (h : f_X0_dropFirst g n0 = some r) : ob_Mt cf yX0_dropFirst cX0_dropFirst 2 none 0 0 [ob_rw cf n0] g none r := by
  refine ob_enter (by decide) (Nat.le_of_ble_eq_true rfl) rfl ?_
  intro C hC F k
  subst hC
  exact b_X0_dropFirst_0 F h k
-- X0_keep
def B_X0_keep_13 (g : ob_St) (n0 : Nat) (x1 : Int32) (x2 : Int32) (x3 : Int32) : Option ob_St :=
  (ob_gR 0 n0 0).bind fun v2 => (ob_gI g 0 n0 3).bind fun v3 => (ob_wI g v2 v3 x1).bind fun g4 => (ob_gR 0 n0 1).bind fun v5 => (ob_gI g4 0 n0 3).bind fun v6 => (ob_wI g4 v5 v6 x2).bind fun g7 => (ob_gR 0 n0 2).bind fun v8 => (ob_gI g7 0 n0 3).bind fun v9 => (ob_wI g7 v8 v9 x3).bind fun g10 => (ob_gI g10 0 n0 3).bind fun v11 => (ob_pI g10 0 n0 3 (v11 + 1)).bind fun g12 => some g12
theorem b_X0_keep_13 {C : ob_Cx} (F : ob_Fx C cX0_keep 4 RX0 none 1 21) {g : ob_St} {n0 : Nat} {x1 : Int32} {x2 : Int32} {x3 : Int32} {r : ob_St} (h : B_X0_keep_13 g n0 x1 x2 x3 = some r) (k : ob_Rt C none r) : ob_Ev C 13 [(0, ob_rv C n0), (1, .int x1), (2, .int x2), (3, .int x3)] [] g := by
  unfold B_X0_keep_13 at h
  refine ob_rload_n F 0 dX0_keep_13 rfl ?_
  refine ob_getR F dX0_keep_14 fl_X0_9 h fun v2 h => ?_
  refine ob_rload_n F 0 dX0_keep_17 rfl ?_
  refine ob_getI F dX0_keep_18 fl_X0_21 h fun v3 h => ?_
  refine ob_iload_n F 1 dX0_keep_21 rfl ?_
  refine ob_iast F dX0_keep_22 h fun g4 h => ?_
  refine ob_rload_n F 0 dX0_keep_23 rfl ?_
  refine ob_getR F dX0_keep_24 fl_X0_15 h fun v5 h => ?_
  refine ob_rload_n F 0 dX0_keep_27 rfl ?_
  refine ob_getI F dX0_keep_28 fl_X0_21 h fun v6 h => ?_
  refine ob_iload_n F 2 dX0_keep_31 rfl ?_
  refine ob_iast F dX0_keep_32 h fun g7 h => ?_
  refine ob_rload_n F 0 dX0_keep_33 rfl ?_
  refine ob_getR F dX0_keep_34 fl_X0_18 h fun v8 h => ?_
  refine ob_rload_n F 0 dX0_keep_37 rfl ?_
  refine ob_getI F dX0_keep_38 fl_X0_21 h fun v9 h => ?_
  refine ob_iload_n F 3 dX0_keep_41 rfl ?_
  refine ob_iast F dX0_keep_42 h fun g10 h => ?_
  refine ob_rload_n F 0 dX0_keep_43 rfl ?_
  refine ob_dup F dX0_keep_44 rfl ?_
  refine ob_getI F dX0_keep_45 fl_X0_21 h fun v11 h => ?_
  refine ob_iconst F (v := 1) dX0_keep_48 (by decide) ?_
  refine ob_iadd F dX0_keep_49 ?_
  refine ob_putI F dX0_keep_50 fp_X0_21 h fun g12 h => ?_
  obtain rfl := Option.some.inj h
  exact ob_vret F dX0_keep_53 k
def f_X0_keep (g : ob_St) (n0 : Nat) (x1 : Int32) (x2 : Int32) (x3 : Int32) : Option ob_St :=
  (ob_gI g 0 n0 3).bind fun v1 => (if v1 = 8 then ((ob_ck 0 n0 (f_X0_dropFirst g n0)).bind fun g13 => B_X0_keep_13 g13 n0 x1 x2 x3) else (B_X0_keep_13 g n0 x1 x2 x3))
theorem b_X0_keep_0 {C : ob_Cx} (F : ob_Fx C cX0_keep 4 RX0 none 1 21) {g : ob_St} {n0 : Nat} {x1 : Int32} {x2 : Int32} {x3 : Int32} {r : ob_St} (h : f_X0_keep g n0 x1 x2 x3 = some r) (k : ob_Rt C none r) : ob_Ev C 0 [(0, ob_rv C n0), (1, .int x1), (2, .int x2), (3, .int x3)] [] g := by
  unfold f_X0_keep at h
  refine ob_rload_n F 0 dX0_keep_0 rfl ?_
  refine ob_getI F dX0_keep_1 fl_X0_21 h fun v1 h => ?_
  refine ob_bipush F (v := 8) dX0_keep_4 (by decide) ?_
  refine ob_icmp_ne F 13 dX0_keep_6 (by decide) h (fun h => ?_) (fun h => ?_)
  · exact b_X0_keep_13 F h k
  · refine ob_rload_n F 0 dX0_keep_9 rfl ?_
    refine ob_cVvS F dX0_keep_10 im_X0_dropFirst tw4_158 h (fun b hb => t_X0_dropFirst hb) rfl rfl (Nat.le_of_ble_eq_true rfl) (by decide) fun g13 h => ?_
    exact b_X0_keep_13 F h k
theorem t_X0_keep {cf : ob_Cf} {g : ob_St} {n0 : Nat} {x1 : Int32} {x2 : Int32} {x3 : Int32} {r : ob_St} (h : f_X0_keep g n0 x1 x2 x3 = some r) : ob_Mt cf yX0_keep cX0_keep 4 none 1 21 [ob_rw cf n0, .int x1, .int x2, .int x3] g none r := by
  refine ob_enter (by decide) (Nat.le_of_ble_eq_true rfl) rfl ?_
  intro C hC F k
  subst hC
  exact b_X0_keep_0 F h k
-- X5_tell
def f_X5_tell (g : ob_St) (n0 : Nat) (x1 : Int32) (x2 : Int32) (x3 : Int32) : Option ob_St :=
  (if x1 = 0 then ((ob_gR 5 n0 2).bind fun v1 => (ob_rR 17 v1 x2).bind fun v2 => (ob_pI g 1 v2 9 x3).bind fun g3 => some g3) else (if x1 = 1 then ((ob_pI g 5 n0 3 x3).bind fun g4 => some g4) else (if x1 = 2 then ((ob_gR 5 n0 0).bind fun v5 => (ob_wI g v5 x2 x3).bind fun g6 => some g6) else (if x1 = 3 then ((ob_gR 5 n0 1).bind fun v7 => (ob_wI g v7 x2 x3).bind fun g8 => some g8) else ((ob_gR 5 n0 2).bind fun v9 => (ob_rR 17 v9 x2).bind fun v10 => (ob_pI g 1 v10 1 x3).bind fun g11 => some g11)))))
theorem b_X5_tell_0 {C : ob_Cx} (F : ob_Fx C cX5_tell 4 RX5 none 0 0) {g : ob_St} {n0 : Nat} {x1 : Int32} {x2 : Int32} {x3 : Int32} {r : ob_St} (h : f_X5_tell g n0 x1 x2 x3 = some r) (k : ob_Rt C none r) : ob_Ev C 0 [(0, ob_rv C n0), (1, .int x1), (2, .int x2), (3, .int x3)] [] g := by
  unfold f_X5_tell at h
  refine ob_iload_n F 1 dX5_tell_0 rfl ?_
  by_cases c0 : x1 = 0
  · rw [if_pos c0] at h
    refine ob_tsi F 0 32 dX5_tell_1 c0 (by decide) (by decide) rfl (by decide) ?_
    refine ob_rload_n F 0 dX5_tell_32 rfl ?_
    refine ob_getR F dX5_tell_33 fl_X5_20 h fun v1 h => ?_
    refine ob_iload_n F 2 dX5_tell_36 rfl ?_
    refine ob_aald F dX5_tell_37 (by decide) h fun v2 h => ?_
    refine ob_iload_n F 3 dX5_tell_38 rfl ?_
    refine ob_putI F dX5_tell_39 fp_X5_42 h fun g3 h => ?_
    refine ob_goto F 83 dX5_tell_42 (by decide) ?_
    obtain rfl := Option.some.inj h
    exact ob_vret F dX5_tell_83 k
  rw [if_neg c0] at h
  by_cases c1 : x1 = 1
  · rw [if_pos c1] at h
    refine ob_tsi F 1 45 dX5_tell_1 c1 (by decide) (by decide) rfl (by decide) ?_
    refine ob_rload_n F 0 dX5_tell_45 rfl ?_
    refine ob_iload_n F 3 dX5_tell_46 rfl ?_
    refine ob_putI F dX5_tell_47 fp_X5_24 h fun g4 h => ?_
    refine ob_goto F 83 dX5_tell_50 (by decide) ?_
    obtain rfl := Option.some.inj h
    exact ob_vret F dX5_tell_83 k
  rw [if_neg c1] at h
  by_cases c2 : x1 = 2
  · rw [if_pos c2] at h
    refine ob_tsi F 2 53 dX5_tell_1 c2 (by decide) (by decide) rfl (by decide) ?_
    refine ob_rload_n F 0 dX5_tell_53 rfl ?_
    refine ob_getR F dX5_tell_54 fl_X5_9 h fun v5 h => ?_
    refine ob_iload_n F 2 dX5_tell_57 rfl ?_
    refine ob_iload_n F 3 dX5_tell_58 rfl ?_
    refine ob_iast F dX5_tell_59 h fun g6 h => ?_
    refine ob_goto F 83 dX5_tell_60 (by decide) ?_
    obtain rfl := Option.some.inj h
    exact ob_vret F dX5_tell_83 k
  rw [if_neg c2] at h
  by_cases c3 : x1 = 3
  · rw [if_pos c3] at h
    refine ob_tsi F 3 63 dX5_tell_1 c3 (by decide) (by decide) rfl (by decide) ?_
    refine ob_rload_n F 0 dX5_tell_63 rfl ?_
    refine ob_getR F dX5_tell_64 fl_X5_15 h fun v7 h => ?_
    refine ob_iload_n F 2 dX5_tell_67 rfl ?_
    refine ob_iload_n F 3 dX5_tell_68 rfl ?_
    refine ob_iast F dX5_tell_69 h fun g8 h => ?_
    refine ob_goto F 83 dX5_tell_70 (by decide) ?_
    obtain rfl := Option.some.inj h
    exact ob_vret F dX5_tell_83 k
  rw [if_neg c3] at h
  have q0 := ob_nei c0 (k := 0) rfl
  have q1 := ob_nei c1 (k := 1) rfl
  have q2 := ob_nei c2 (k := 2) rfl
  have q3 := ob_nei c3 (k := 3) rfl
  refine ob_tso F 73 dX5_tell_1 (by omega) (by decide) ?_
  refine ob_rload_n F 0 dX5_tell_73 rfl ?_
  refine ob_getR F dX5_tell_74 fl_X5_20 h fun v9 h => ?_
  refine ob_iload_n F 2 dX5_tell_77 rfl ?_
  refine ob_aald F dX5_tell_78 (by decide) h fun v10 h => ?_
  refine ob_iload_n F 3 dX5_tell_79 rfl ?_
  refine ob_putI F dX5_tell_80 fp_X5_45 h fun g11 h => ?_
  obtain rfl := Option.some.inj h
  exact ob_vret F dX5_tell_83 k
theorem t_X5_tell {cf : ob_Cf} {g : ob_St} {n0 : Nat} {x1 : Int32} {x2 : Int32} {x3 : Int32} {r : ob_St} (h : f_X5_tell g n0 x1 x2 x3 = some r) : ob_Mt cf yX5_tell cX5_tell 4 none 0 0 [ob_rw cf n0, .int x1, .int x2, .int x3] g none r := by
  refine ob_enter (by decide) (Nat.le_of_ble_eq_true rfl) rfl ?_
  intro C hC F k
  subst hC
  exact b_X5_tell_0 F h k
-- X11_tell
def f_X11_tell (g : ob_St) (n0 : Nat) (x1 : Int32) (x2 : Int32) (x3 : Int32) : Option ob_St :=
  (ob_gR 11 n0 3).bind fun v1 => (ob_ck 5 v1 (f_X5_tell g v1 x1 x2 x3)).bind fun g2 => (if x1 = 0 then (some g2) else ((ob_gR 11 n0 8).bind fun v3 => (ob_pZ g2 3 v3 6 1).bind fun g4 => some g4))
theorem b_X11_tell_0 {C : ob_Cx} (F : ob_Fx C cX11_tell 4 RX11 none 1 23) {g : ob_St} {n0 : Nat} {x1 : Int32} {x2 : Int32} {x3 : Int32} {r : ob_St} (h : f_X11_tell g n0 x1 x2 x3 = some r) (k : ob_Rt C none r) : ob_Ev C 0 [(0, ob_rv C n0), (1, .int x1), (2, .int x2), (3, .int x3)] [] g := by
  unfold f_X11_tell at h
  refine ob_rload_n F 0 dX11_tell_0 rfl ?_
  refine ob_getR F dX11_tell_1 fl_X11_23 h fun v1 h => ?_
  refine ob_iload_n F 1 dX11_tell_4 rfl ?_
  refine ob_iload_n F 2 dX11_tell_5 rfl ?_
  refine ob_iload_n F 3 dX11_tell_6 rfl ?_
  refine ob_cVvS F dX11_tell_7 im_X5_tell tw4_166 h (fun b hb => t_X5_tell hb) rfl rfl (Nat.le_of_ble_eq_true rfl) (by decide) fun g2 h => ?_
  refine ob_iload_n F 1 dX11_tell_10 rfl ?_
  refine ob_if_eq F 22 dX11_tell_11 (by decide) h (fun h => ?_) (fun h => ?_)
  · obtain rfl := Option.some.inj h
    exact ob_vret F dX11_tell_22 k
  · refine ob_rload_n F 0 dX11_tell_14 rfl ?_
    refine ob_getR F dX11_tell_15 fl_X11_56 h fun v3 h => ?_
    refine ob_iconst F (v := 1) dX11_tell_18 (by decide) ?_
    refine ob_putZ F dX11_tell_19 fp_X11_104 h fun g4 h => ?_
    obtain rfl := Option.some.inj h
    exact ob_vret F dX11_tell_22 k
theorem t_X11_tell {cf : ob_Cf} {g : ob_St} {n0 : Nat} {x1 : Int32} {x2 : Int32} {x3 : Int32} {r : ob_St} (h : f_X11_tell g n0 x1 x2 x3 = some r) : ob_Mt cf yX11_tell cX11_tell 4 none 1 23 [ob_rw cf n0, .int x1, .int x2, .int x3] g none r := by
  refine ob_enter (by decide) (Nat.le_of_ble_eq_true rfl) rfl ?_
  intro C hC F k
  subst hC
  exact b_X11_tell_0 F h k
-- X11_change
def f_X11_change (g : ob_St) (n0 : Nat) (x1 : Int32) (x2 : Int32) (x3 : Int32) : Option ob_St :=
  (ob_gR 11 n0 7).bind fun v1 => (ob_gR 11 n0 3).bind fun v2 => (ob_ck 5 v2 (f_X5_current g v2 x1 x2)).bind fun v3 => (ob_ck 0 v1 (f_X0_keep g v1 x1 x2 v3)).bind fun g4 => (ob_ck 11 n0 (f_X11_tell g4 n0 x1 x2 x3)).bind fun g5 => some g5
theorem b_X11_change_0 {C : ob_Cx} (F : ob_Fx C cX11_change 4 RX11 none 2 46) {g : ob_St} {n0 : Nat} {x1 : Int32} {x2 : Int32} {x3 : Int32} {r : ob_St} (h : f_X11_change g n0 x1 x2 x3 = some r) (k : ob_Rt C none r) : ob_Ev C 0 [(0, ob_rv C n0), (1, .int x1), (2, .int x2), (3, .int x3)] [] g := by
  unfold f_X11_change at h
  refine ob_rload_n F 0 dX11_change_0 rfl ?_
  refine ob_getR F dX11_change_1 fl_X11_47 h fun v1 h => ?_
  refine ob_iload_n F 1 dX11_change_4 rfl ?_
  refine ob_iload_n F 2 dX11_change_5 rfl ?_
  refine ob_rload_n F 0 dX11_change_6 rfl ?_
  refine ob_getR F dX11_change_7 fl_X11_23 h fun v2 h => ?_
  refine ob_iload_n F 1 dX11_change_10 rfl ?_
  refine ob_iload_n F 2 dX11_change_11 rfl ?_
  refine ob_cVi F dX11_change_12 im_X5_current tw4_150 h (fun b hb => t_X5_current hb) rfl rfl (Nat.le_of_ble_eq_true rfl) (by decide) fun v3 h => ?_
  refine ob_cVvS F dX11_change_15 im_X0_keep tw4_154 h (fun b hb => t_X0_keep hb) rfl rfl (Nat.le_of_ble_eq_true rfl) (by decide) fun g4 h => ?_
  refine ob_rload_n F 0 dX11_change_18 rfl ?_
  refine ob_iload_n F 1 dX11_change_19 rfl ?_
  refine ob_iload_n F 2 dX11_change_20 rfl ?_
  refine ob_iload_n F 3 dX11_change_21 rfl ?_
  refine ob_cVvS F dX11_change_22 im_X11_tell tw4_162 h (fun b hb => t_X11_tell hb) rfl rfl (Nat.le_of_ble_eq_true rfl) (by decide) fun g5 h => ?_
  obtain rfl := Option.some.inj h
  exact ob_vret F dX11_change_25 k
theorem t_X11_change {cf : ob_Cf} {g : ob_St} {n0 : Nat} {x1 : Int32} {x2 : Int32} {x3 : Int32} {r : ob_St} (h : f_X11_change g n0 x1 x2 x3 = some r) : ob_Mt cf yX11_change cX11_change 4 none 2 46 [ob_rw cf n0, .int x1, .int x2, .int x3] g none r := by
  refine ob_enter (by decide) (Nat.le_of_ble_eq_true rfl) rfl ?_
  intro C hC F k
  subst hC
  exact b_X11_change_0 F h k
-- X11_own
def f_X11_own (g : ob_St) (n0 : Nat) (x1 : Int32) (x2 : Int32) : Option (Int32 × ob_St) :=
  (ob_ck 11 n0 (f_X11_isOption g n0 x1)).bind fun v1 => (if v1 = 0 then (some ((-1000000), g)) else ((if x2 < (-9) then (some ((-1000000), g)) else ((if x2 ≤ 9 then ((ob_gR 11 n0 3).bind fun v2 => (ob_gR 5 v2 2).bind fun v3 => (ob_rR 17 v3 x1).bind fun v4 => (ob_gI g 1 v4 9).bind fun v5 => (ob_ck 11 n0 (f_X11_change g n0 0 x1 x2)).bind fun g6 => some (v5, g6)) else (some ((-1000000), g)))))))
theorem b_X11_own_0 {C : ob_Cx} (F : ob_Fx C cX11_own 4 RX11 (some .int) 3 69) {g : ob_St} {n0 : Nat} {x1 : Int32} {x2 : Int32} {r : (Int32 × ob_St)} (h : f_X11_own g n0 x1 x2 = some r) (k : ob_Rt C (some (.int r.1)) r.2) : ob_Ev C 0 [(0, ob_rv C n0), (1, .int x1), (2, .int x2)] [] g := by
  unfold f_X11_own at h
  refine ob_rload_n F 0 dX11_own_0 rfl ?_
  refine ob_iload_n F 1 dX11_own_1 rfl ?_
  refine ob_cVi F dX11_own_2 im_X11_isOption tw3_176 h (fun b hb => t_X11_isOption hb) rfl rfl (Nat.le_of_ble_eq_true rfl) (by decide) fun v1 h => ?_
  refine ob_if_eq F 20 dX11_own_5 (by decide) h (fun h => ?_) (fun h => ?_)
  · refine ob_ldc F (v := (-1000000)) dX11_own_20 tw3_180 ?_
    obtain rfl := Option.some.inj h
    exact ob_iret F dX11_own_22 k
  · refine ob_iload_n F 2 dX11_own_8 rfl ?_
    refine ob_bipush F (v := (-9)) dX11_own_9 (by decide) ?_
    refine ob_icmp_lt F 20 dX11_own_11 (by decide) h (fun h => ?_) (fun h => ?_)
    · refine ob_ldc F (v := (-1000000)) dX11_own_20 tw3_180 ?_
      obtain rfl := Option.some.inj h
      exact ob_iret F dX11_own_22 k
    · refine ob_iload_n F 2 dX11_own_14 rfl ?_
      refine ob_bipush F (v := 9) dX11_own_15 (by decide) ?_
      refine ob_icmp_le F 23 dX11_own_17 (by decide) h (fun h => ?_) (fun h => ?_)
      · refine ob_rload_n F 0 dX11_own_23 rfl ?_
        refine ob_getR F dX11_own_24 fl_X11_23 h fun v2 h => ?_
        refine ob_getR F dX11_own_27 fl_X11_138 h fun v3 h => ?_
        refine ob_iload_n F 1 dX11_own_30 rfl ?_
        refine ob_aald F dX11_own_31 (by decide) h fun v4 h => ?_
        refine ob_getI F dX11_own_32 fl_X11_174 h fun v5 h => ?_
        refine ob_istore_n F (ls2 := [(3, .int v5), (0, ob_rv C n0), (1, .int x1), (2, .int x2)]) dX11_own_35 (by decide) rfl ?_
        refine ob_rload_n F 1 dX11_own_36 rfl ?_
        refine ob_iconst F (v := 0) dX11_own_37 (by decide) ?_
        refine ob_iload_n F 2 dX11_own_38 rfl ?_
        refine ob_iload_n F 3 dX11_own_39 rfl ?_
        refine ob_cVvS F dX11_own_40 im_X11_change tw4_146 h (fun b hb => t_X11_change hb) rfl rfl (Nat.le_of_ble_eq_true rfl) (by decide) fun g6 h => ?_
        refine ob_iload_n F 0 dX11_own_43 rfl ?_
        obtain rfl := Option.some.inj h
        exact ob_iret F dX11_own_44 k
      · refine ob_ldc F (v := (-1000000)) dX11_own_20 tw3_180 ?_
        obtain rfl := Option.some.inj h
        exact ob_iret F dX11_own_22 k
theorem t_X11_own {cf : ob_Cf} {g : ob_St} {n0 : Nat} {x1 : Int32} {x2 : Int32} {r : (Int32 × ob_St)} (h : f_X11_own g n0 x1 x2 = some r) : ob_Mt cf yX11_own cX11_own 4 (some .int) 3 69 [ob_rw cf n0, .int x1, .int x2] g (some (.int r.1)) r.2 := by
  refine ob_enter (by decide) (Nat.le_of_ble_eq_true rfl) (Or.inl rfl) ?_
  intro C hC F k
  subst hC
  exact b_X11_own_0 F h k
-- X11_bookWorth
def Lb_X11_bookWorth_5 (rec : Int64 → Int32 → Option (Int64)) (g : ob_St) (n0 : Nat) (x1 : Int32) (y2 : Int64) (x4 : Int32) : Option (Int64) :=
  (ob_gR 11 n0 3).bind fun v1 => (ob_gI g 5 v1 6).bind fun v2 => (if v2 ≤ x4 then (some y2) else ((ob_gR 11 n0 3).bind fun v3 => (ob_gR 5 v3 2).bind fun v4 => (ob_rR 17 v4 x4).bind fun v5 => (ob_gI g 1 v5 9).bind fun v6 => (ob_gR 11 n0 8).bind fun v7 => (ob_gR 3 v7 4).bind fun v8 => (ob_rR 19 v8 x4).bind fun v9 => (ob_gR 9 v9 2).bind fun v10 => (ob_gR 4 v10 0).bind fun v11 => (ob_rL g v11 x1).bind fun v12 => ob_let (y2 + ((Int32.toInt64 v6) * v12)) fun z13 => rec z13 (x4 + 1)))
def L_X11_bookWorth_5 (g : ob_St) (n0 : Nat) (x1 : Int32) : Nat → Int64 → Int32 → Option (Int64)
  | 0, _, _ => none
  | n + 1, y2, x4 => Lb_X11_bookWorth_5 (L_X11_bookWorth_5 g n0 x1 n) g n0 x1 y2 x4
theorem lb_X11_bookWorth_5 {C : ob_Cx} {rec : Int64 → Int32 → Option (Int64)} (F : ob_Fx C cX11_bookWorth 5 RX11 (some .long) 0 0) {g : ob_St} {n0 : Nat} {x1 : Int32} {y2 : Int64} {x4 : Int32} {x : (Int64)} (hr : ∀ {y2 : Int64} {x4 : Int32} {x : (Int64)}, rec y2 x4 = some x → ob_Ev C 59 [(2, .long x)] [] g → ob_Ev C 5 [(0, ob_rv C n0), (1, .int x1), (2, .long y2), (4, .int x4)] [] g) (h : Lb_X11_bookWorth_5 rec g n0 x1 y2 x4 = some x) (k0 : ob_Ev C 59 [(2, .long x)] [] g) : ob_Ev C 5 [(0, ob_rv C n0), (1, .int x1), (2, .long y2), (4, .int x4)] [] g := by
  unfold Lb_X11_bookWorth_5 at h
  refine ob_iload F 3 dX11_bookWorth_5 rfl ?_
  refine ob_rload_n F 0 dX11_bookWorth_7 rfl ?_
  refine ob_getR F dX11_bookWorth_8 fl_X11_23 h fun v1 h => ?_
  refine ob_getI F dX11_bookWorth_11 fl_X11_108 h fun v2 h => ?_
  refine ob_icmp_ge F 59 dX11_bookWorth_14 (by decide) h (fun h => ?_) (fun h => ?_)
  · obtain rfl := Option.some.inj h
    exact ob_sub [2] rfl (k0)
  · refine ob_lload_n F 2 dX11_bookWorth_17 rfl ?_
    refine ob_rload_n F 0 dX11_bookWorth_18 rfl ?_
    refine ob_getR F dX11_bookWorth_19 fl_X11_23 h fun v3 h => ?_
    refine ob_getR F dX11_bookWorth_22 fl_X11_138 h fun v4 h => ?_
    refine ob_iload F 3 dX11_bookWorth_25 rfl ?_
    refine ob_aald F dX11_bookWorth_27 (by decide) h fun v5 h => ?_
    refine ob_getI F dX11_bookWorth_28 fl_X11_174 h fun v6 h => ?_
    refine ob_i2l F dX11_bookWorth_31 ?_
    refine ob_rload_n F 0 dX11_bookWorth_32 rfl ?_
    refine ob_getR F dX11_bookWorth_33 fl_X11_56 h fun v7 h => ?_
    refine ob_getR F dX11_bookWorth_36 fl_X11_306 h fun v8 h => ?_
    refine ob_iload F 3 dX11_bookWorth_39 rfl ?_
    refine ob_aald F dX11_bookWorth_41 (by decide) h fun v9 h => ?_
    refine ob_getR F dX11_bookWorth_42 fl_X11_221 h fun v10 h => ?_
    refine ob_getR F dX11_bookWorth_45 fl_X11_225 h fun v11 h => ?_
    refine ob_iload_n F 1 dX11_bookWorth_48 rfl ?_
    refine ob_lald F dX11_bookWorth_49 h fun v12 h => ?_
    refine ob_lmul F dX11_bookWorth_50 ?_
    refine ob_ladd F dX11_bookWorth_51 ?_
    refine ob_letl h fun z13 h => ?_
    refine ob_lstore_n F (ls2 := [(2, .long z13), (0, ob_rv C n0), (1, .int x1), (4, .int x4)]) dX11_bookWorth_52 (by decide) rfl ?_
    refine ob_iinc F (v := (x4 + 1)) (ls2 := [(4, .int (x4 + 1)), (2, .long z13), (0, ob_rv C n0), (1, .int x1)]) 3 dX11_bookWorth_53 rfl rfl (by decide) rfl ?_
    refine ob_goto F 5 dX11_bookWorth_56 (by decide) ?_
    exact ob_sub [2, 3, 1, 0] rfl (hr h k0)
theorem l_X11_bookWorth_5 {C : ob_Cx} (F : ob_Fx C cX11_bookWorth 5 RX11 (some .long) 0 0) {g : ob_St} {n0 : Nat} {x1 : Int32} : ∀ (n : Nat) {y2 : Int64} {x4 : Int32} {x : (Int64)}, L_X11_bookWorth_5 g n0 x1 n y2 x4 = some x → ob_Ev C 59 [(2, .long x)] [] g → ob_Ev C 5 [(0, ob_rv C n0), (1, .int x1), (2, .long y2), (4, .int x4)] [] g := by
  intro n
  induction n with
  | zero => intro y2 x4 x h; exact ob_no h
  | succ n ih => intro y2 x4 x h k0; exact lb_X11_bookWorth_5 F ih h k0
def f_X11_bookWorth (g : ob_St) (n0 : Nat) (x1 : Int32) : Option Int64 :=
  (L_X11_bookWorth_5 g n0 x1 ob_FU 0 0).bind fun x_14 => some x_14
theorem b_X11_bookWorth_0 {C : ob_Cx} (F : ob_Fx C cX11_bookWorth 5 RX11 (some .long) 0 0) {g : ob_St} {n0 : Nat} {x1 : Int32} {r : Int64} (h : f_X11_bookWorth g n0 x1 = some r) (k : ob_Rt C (some (.long r)) g) : ob_Ev C 0 [(0, ob_rv C n0), (1, .int x1)] [] g := by
  unfold f_X11_bookWorth at h
  refine ob_lconst F (v := 0) dX11_bookWorth_0 (by decide) ?_
  refine ob_lstore_n F (ls2 := [(2, .long 0), (0, ob_rv C n0), (1, .int x1)]) dX11_bookWorth_1 (by decide) rfl ?_
  refine ob_iconst F (v := 0) dX11_bookWorth_2 (by decide) ?_
  refine ob_istore F (ls2 := [(4, .int 0), (2, .long 0), (0, ob_rv C n0), (1, .int x1)]) dX11_bookWorth_3 (by decide) rfl ?_
  obtain ⟨x_14, hx, h⟩ := Option.bind_eq_some_iff.mp h
  refine ob_sub [2, 3, 1, 0] rfl (l_X11_bookWorth_5 F ob_FU hx ?_)
  refine ob_lload_n F 0 dX11_bookWorth_59 rfl ?_
  obtain rfl := Option.some.inj h
  exact ob_lret F dX11_bookWorth_60 k
theorem t_X11_bookWorth {cf : ob_Cf} {g : ob_St} {n0 : Nat} {x1 : Int32} {r : Int64} (h : f_X11_bookWorth g n0 x1 = some r) : ob_Mt cf yX11_bookWorth cX11_bookWorth 5 (some .long) 0 0 [ob_rw cf n0, .int x1] g (some (.long r)) g := by
  refine ob_enter (by decide) (Nat.le_of_ble_eq_true rfl) rfl ?_
  intro C hC F k
  subst hC
  exact b_X11_bookWorth_0 F h k
-- X11_extreme
def B_X11_extreme_88 (rec : Int32 → Int64 → Int32 → Option (Int32)) (g : ob_St) (n0 : Nat) (x1 : Int32) (x2 : Int32) (x3 : Int32) (y4 : Int64) (x6 : Int32) : Option (Int32) :=
  rec x3 y4 (x6 + 1)
theorem b_X11_extreme_88 {C : ob_Cx} {rec : Int32 → Int64 → Int32 → Option (Int32)} (F : ob_Fx C cX11_extreme 9 RX11 (some .int) 6 154) {g : ob_St} {n0 : Nat} {x1 : Int32} {x2 : Int32} {x3 : Int32} {y4 : Int64} {x6 : Int32} {x : (Int32)} (hr : ∀ {x3 : Int32} {y4 : Int64} {x6 : Int32} {x : (Int32)}, rec x3 y4 x6 = some x → ob_Ev C 94 [(3, .int x)] [] g → ob_Ev C 40 [(0, ob_rv C n0), (1, .int x1), (2, .int x2), (3, .int x3), (4, .long y4), (6, .int x6)] [] g) (h : B_X11_extreme_88 rec g n0 x1 x2 x3 y4 x6 = some x) (k0 : ob_Ev C 94 [(3, .int x)] [] g) : ob_Ev C 88 [(0, ob_rv C n0), (1, .int x1), (2, .int x2), (3, .int x3), (4, .long y4), (6, .int x6)] [] g := by
  unfold B_X11_extreme_88 at h
  refine ob_iinc F (v := (x6 + 1)) (ls2 := [(6, .int (x6 + 1)), (0, ob_rv C n0), (1, .int x1), (2, .int x2), (3, .int x3), (4, .long y4)]) 5 dX11_extreme_88 rfl rfl (by decide) rfl ?_
  refine ob_goto F 40 dX11_extreme_91 (by decide) ?_
  exact ob_sub [1, 2, 3, 4, 5, 0] rfl (hr h k0)
def B_X11_extreme_81 (rec : Int32 → Int64 → Int32 → Option (Int32)) (g : ob_St) (n0 : Nat) (x1 : Int32) (x2 : Int32) (x6 : Int32) (y7 : Int64) : Option (Int32) :=
  B_X11_extreme_88 rec g n0 x1 x2 x6 y7 x6
theorem b_X11_extreme_81 {C : ob_Cx} {rec : Int32 → Int64 → Int32 → Option (Int32)} (F : ob_Fx C cX11_extreme 9 RX11 (some .int) 6 154) {g : ob_St} {n0 : Nat} {x1 : Int32} {x2 : Int32} {x6 : Int32} {y7 : Int64} {x : (Int32)} (hr : ∀ {x3 : Int32} {y4 : Int64} {x6 : Int32} {x : (Int32)}, rec x3 y4 x6 = some x → ob_Ev C 94 [(3, .int x)] [] g → ob_Ev C 40 [(0, ob_rv C n0), (1, .int x1), (2, .int x2), (3, .int x3), (4, .long y4), (6, .int x6)] [] g) (h : B_X11_extreme_81 rec g n0 x1 x2 x6 y7 = some x) (k0 : ob_Ev C 94 [(3, .int x)] [] g) : ob_Ev C 81 [(0, ob_rv C n0), (1, .int x1), (2, .int x2), (6, .int x6), (7, .long y7)] [] g := by
  unfold B_X11_extreme_81 at h
  refine ob_lload F 4 dX11_extreme_81 rfl ?_
  refine ob_lstore F (ls2 := [(4, .long y7), (0, ob_rv C n0), (1, .int x1), (2, .int x2), (6, .int x6), (7, .long y7)]) dX11_extreme_83 (by decide) rfl ?_
  refine ob_iload F 4 dX11_extreme_85 rfl ?_
  refine ob_istore_n F (ls2 := [(3, .int x6), (4, .long y7), (0, ob_rv C n0), (1, .int x1), (2, .int x2), (6, .int x6), (7, .long y7)]) dX11_extreme_87 (by decide) rfl ?_
  exact ob_sub [2, 3, 4, 0, 1, 5] rfl (b_X11_extreme_88 F hr h k0)
def Lb_X11_extreme_40 (rec : Int32 → Int64 → Int32 → Option (Int32)) (g : ob_St) (n0 : Nat) (x1 : Int32) (x2 : Int32) (x3 : Int32) (y4 : Int64) (x6 : Int32) : Option (Int32) :=
  (if x2 < x6 then (some x3) else ((f_X11_nodeAt x2 x6).bind fun v8 => (ob_ck 11 n0 (f_X11_bookWorth g n0 v8)).bind fun v9 => (if x1 = 0 then ((if y4 ≤ v9 then (B_X11_extreme_88 rec g n0 x1 x2 x3 y4 x6) else (B_X11_extreme_81 rec g n0 x1 x2 x6 v9))) else ((if v9 ≤ y4 then (B_X11_extreme_88 rec g n0 x1 x2 x3 y4 x6) else (B_X11_extreme_81 rec g n0 x1 x2 x6 v9))))))
def L_X11_extreme_40 (g : ob_St) (n0 : Nat) (x1 : Int32) (x2 : Int32) : Nat → Int32 → Int64 → Int32 → Option (Int32)
  | 0, _, _, _ => none
  | n + 1, x3, y4, x6 => Lb_X11_extreme_40 (L_X11_extreme_40 g n0 x1 x2 n) g n0 x1 x2 x3 y4 x6
theorem lb_X11_extreme_40 {C : ob_Cx} {rec : Int32 → Int64 → Int32 → Option (Int32)} (F : ob_Fx C cX11_extreme 9 RX11 (some .int) 6 154) {g : ob_St} {n0 : Nat} {x1 : Int32} {x2 : Int32} {x3 : Int32} {y4 : Int64} {x6 : Int32} {x : (Int32)} (hr : ∀ {x3 : Int32} {y4 : Int64} {x6 : Int32} {x : (Int32)}, rec x3 y4 x6 = some x → ob_Ev C 94 [(3, .int x)] [] g → ob_Ev C 40 [(0, ob_rv C n0), (1, .int x1), (2, .int x2), (3, .int x3), (4, .long y4), (6, .int x6)] [] g) (h : Lb_X11_extreme_40 rec g n0 x1 x2 x3 y4 x6 = some x) (k0 : ob_Ev C 94 [(3, .int x)] [] g) : ob_Ev C 40 [(0, ob_rv C n0), (1, .int x1), (2, .int x2), (3, .int x3), (4, .long y4), (6, .int x6)] [] g := by
  unfold Lb_X11_extreme_40 at h
  refine ob_iload F 5 dX11_extreme_40 rfl ?_
  refine ob_iload_n F 2 dX11_extreme_42 rfl ?_
  refine ob_icmp_gt F 94 dX11_extreme_43 (by decide) h (fun h => ?_) (fun h => ?_)
  · obtain rfl := Option.some.inj h
    exact ob_sub [3] rfl (k0)
  · refine ob_rload_n F 0 dX11_extreme_46 rfl ?_
    refine ob_iload_n F 2 dX11_extreme_47 rfl ?_
    refine ob_iload F 5 dX11_extreme_48 rfl ?_
    refine ob_cSi F dX11_extreme_50 im_X11_nodeAt tw4_25 h (fun b hb => t_X11_nodeAt hb) rfl rfl (Nat.le_of_ble_eq_true rfl) (by decide) fun v8 h => ?_
    refine ob_cVl F dX11_extreme_53 im_X11_bookWorth tw4_174 h (fun b hb => t_X11_bookWorth hb) rfl rfl (Nat.le_of_ble_eq_true rfl) (by decide) fun v9 h => ?_
    refine ob_lstore F (ls2 := [(7, .long v9), (0, ob_rv C n0), (1, .int x1), (2, .int x2), (3, .int x3), (4, .long y4), (6, .int x6)]) dX11_extreme_56 (by decide) rfl ?_
    refine ob_iload_n F 2 dX11_extreme_58 rfl ?_
    refine ob_if_ne F 73 dX11_extreme_59 (by decide) h (fun h => ?_) (fun h => ?_)
    · refine ob_lload F 0 dX11_extreme_73 rfl ?_
      refine ob_lload F 5 dX11_extreme_75 rfl ?_
      refine ob_lcmp_le F 88 dX11_extreme_77 dX11_extreme_78 (by decide) h (fun h => ?_) (fun h => ?_)
      · exact ob_sub [1, 2, 3, 4, 5, 6] rfl (b_X11_extreme_88 F hr h k0)
      · exact ob_sub [1, 2, 3, 6, 0] rfl (b_X11_extreme_81 F hr h k0)
    · refine ob_lload F 0 dX11_extreme_62 rfl ?_
      refine ob_lload F 5 dX11_extreme_64 rfl ?_
      refine ob_lcmp_ge F 88 dX11_extreme_66 dX11_extreme_67 (by decide) h (fun h => ?_) (fun h => ?_)
      · exact ob_sub [1, 2, 3, 4, 5, 6] rfl (b_X11_extreme_88 F hr h k0)
      · refine ob_goto F 81 dX11_extreme_70 (by decide) ?_
        exact ob_sub [1, 2, 3, 6, 0] rfl (b_X11_extreme_81 F hr h k0)
theorem l_X11_extreme_40 {C : ob_Cx} (F : ob_Fx C cX11_extreme 9 RX11 (some .int) 6 154) {g : ob_St} {n0 : Nat} {x1 : Int32} {x2 : Int32} : ∀ (n : Nat) {x3 : Int32} {y4 : Int64} {x6 : Int32} {x : (Int32)}, L_X11_extreme_40 g n0 x1 x2 n x3 y4 x6 = some x → ob_Ev C 94 [(3, .int x)] [] g → ob_Ev C 40 [(0, ob_rv C n0), (1, .int x1), (2, .int x2), (3, .int x3), (4, .long y4), (6, .int x6)] [] g := by
  intro n
  induction n with
  | zero => intro x3 y4 x6 x h; exact ob_no h
  | succ n ih => intro x3 y4 x6 x h k0; exact lb_X11_extreme_40 F ih h k0
def f_X11_extreme (g : ob_St) (n0 : Nat) (x1 : Int32) : Option (Int32 × ob_St) :=
  (f_X11_isBit x1).bind fun v1 => (if v1 = 0 then (some ((-1), g)) else ((ob_gR 11 n0 8).bind fun v2 => (ob_ck 3 v2 (f_X3_refresh g v2)).bind fun g3 => (ob_gR 11 n0 3).bind fun v4 => (ob_gI g3 5 v4 5).bind fun v5 => (f_X11_nodeAt v5 0).bind fun v6 => (ob_ck 11 n0 (f_X11_bookWorth g3 n0 v6)).bind fun v7 => (L_X11_extreme_40 g3 n0 x1 v5 ob_FU 0 v7 1).bind fun x_10 => some (x_10, g3)))
theorem b_X11_extreme_0 {C : ob_Cx} (F : ob_Fx C cX11_extreme 9 RX11 (some .int) 6 154) {g : ob_St} {n0 : Nat} {x1 : Int32} {r : (Int32 × ob_St)} (h : f_X11_extreme g n0 x1 = some r) (k : ob_Rt C (some (.int r.1)) r.2) : ob_Ev C 0 [(0, ob_rv C n0), (1, .int x1)] [] g := by
  unfold f_X11_extreme at h
  refine ob_iload_n F 1 dX11_extreme_0 rfl ?_
  refine ob_cSi F dX11_extreme_1 im_X11_isBit tw4_113 h (fun b hb => t_X11_isBit hb) rfl rfl (Nat.le_of_ble_eq_true rfl) (by decide) fun v1 h => ?_
  refine ob_if_ne F 9 dX11_extreme_4 (by decide) h (fun h => ?_) (fun h => ?_)
  · refine ob_rload_n F 0 dX11_extreme_9 rfl ?_
    refine ob_getR F dX11_extreme_10 fl_X11_56 h fun v2 h => ?_
    refine ob_cVvS F dX11_extreme_13 im_X3_refresh tw3_192 h (fun b hb => t_X3_refresh hb) rfl rfl (Nat.le_of_ble_eq_true rfl) (by decide) fun g3 h => ?_
    refine ob_rload_n F 0 dX11_extreme_16 rfl ?_
    refine ob_getR F dX11_extreme_17 fl_X11_23 h fun v4 h => ?_
    refine ob_getI F dX11_extreme_20 fl_X11_111 h fun v5 h => ?_
    refine ob_istore_n F (ls2 := [(2, .int v5), (0, ob_rv C n0), (1, .int x1)]) dX11_extreme_23 (by decide) rfl ?_
    refine ob_iconst F (v := 0) dX11_extreme_24 (by decide) ?_
    refine ob_istore_n F (ls2 := [(3, .int 0), (2, .int v5), (0, ob_rv C n0), (1, .int x1)]) dX11_extreme_25 (by decide) rfl ?_
    refine ob_rload_n F 2 dX11_extreme_26 rfl ?_
    refine ob_iload_n F 1 dX11_extreme_27 rfl ?_
    refine ob_iconst F (v := 0) dX11_extreme_28 (by decide) ?_
    refine ob_cSi F dX11_extreme_29 im_X11_nodeAt tw4_25 h (fun b hb => t_X11_nodeAt hb) rfl rfl (Nat.le_of_ble_eq_true rfl) (by decide) fun v6 h => ?_
    refine ob_cVl F dX11_extreme_32 im_X11_bookWorth tw4_174 h (fun b hb => t_X11_bookWorth hb) rfl rfl (Nat.le_of_ble_eq_true rfl) (by decide) fun v7 h => ?_
    refine ob_lstore F (ls2 := [(4, .long v7), (3, .int 0), (2, .int v5), (0, ob_rv C n0), (1, .int x1)]) dX11_extreme_35 (by decide) rfl ?_
    refine ob_iconst F (v := 1) dX11_extreme_37 (by decide) ?_
    refine ob_istore F (ls2 := [(6, .int 1), (4, .long v7), (3, .int 0), (2, .int v5), (0, ob_rv C n0), (1, .int x1)]) dX11_extreme_38 (by decide) rfl ?_
    obtain ⟨x_10, hx, h⟩ := Option.bind_eq_some_iff.mp h
    refine ob_sub [4, 5, 3, 2, 1, 0] rfl (l_X11_extreme_40 F ob_FU hx ?_)
    refine ob_iload_n F 0 dX11_extreme_94 rfl ?_
    obtain rfl := Option.some.inj h
    exact ob_iret F dX11_extreme_95 k
  · refine ob_iconst F (v := (-1)) dX11_extreme_7 (by decide) ?_
    obtain rfl := Option.some.inj h
    exact ob_iret F dX11_extreme_8 k
theorem t_X11_extreme {cf : ob_Cf} {g : ob_St} {n0 : Nat} {x1 : Int32} {r : (Int32 × ob_St)} (h : f_X11_extreme g n0 x1 = some r) : ob_Mt cf yX11_extreme cX11_extreme 9 (some .int) 6 154 [ob_rw cf n0, .int x1] g (some (.int r.1)) r.2 := by
  refine ob_enter (by decide) (Nat.le_of_ble_eq_true rfl) (Or.inl rfl) ?_
  intro C hC F k
  subst hC
  exact b_X11_extreme_0 F h k
-- X11_changed
def f_X11_changed (g : ob_St) (n0 : Nat) (x1 : Int32) (x2 : Int32) (x3 : Int32) : Option (Int32 × ob_St) :=
  (ob_gR 11 n0 3).bind fun v1 => (ob_ck 5 v1 (f_X5_current g v1 x1 x2)).bind fun v2 => (if v2 = x3 then (some (1, g)) else ((ob_ck 11 n0 (f_X11_change g n0 x1 x2 x3)).bind fun g3 => some (0, g3)))
theorem b_X11_changed_0 {C : ob_Cx} (F : ob_Fx C cX11_changed 4 RX11 (some .int) 3 69) {g : ob_St} {n0 : Nat} {x1 : Int32} {x2 : Int32} {x3 : Int32} {r : (Int32 × ob_St)} (h : f_X11_changed g n0 x1 x2 x3 = some r) (k : ob_Rt C (some (.int r.1)) r.2) : ob_Ev C 0 [(0, ob_rv C n0), (1, .int x1), (2, .int x2), (3, .int x3)] [] g := by
  unfold f_X11_changed at h
  refine ob_rload_n F 0 dX11_changed_0 rfl ?_
  refine ob_getR F dX11_changed_1 fl_X11_23 h fun v1 h => ?_
  refine ob_iload_n F 1 dX11_changed_4 rfl ?_
  refine ob_iload_n F 2 dX11_changed_5 rfl ?_
  refine ob_cVi F dX11_changed_6 im_X5_current tw4_150 h (fun b hb => t_X5_current hb) rfl rfl (Nat.le_of_ble_eq_true rfl) (by decide) fun v2 h => ?_
  refine ob_iload_n F 3 dX11_changed_9 rfl ?_
  refine ob_icmp_ne F 15 dX11_changed_10 (by decide) h (fun h => ?_) (fun h => ?_)
  · refine ob_rload_n F 0 dX11_changed_15 rfl ?_
    refine ob_iload_n F 1 dX11_changed_16 rfl ?_
    refine ob_iload_n F 2 dX11_changed_17 rfl ?_
    refine ob_iload_n F 3 dX11_changed_18 rfl ?_
    refine ob_cVvS F dX11_changed_19 im_X11_change tw4_146 h (fun b hb => t_X11_change hb) rfl rfl (Nat.le_of_ble_eq_true rfl) (by decide) fun g3 h => ?_
    refine ob_iconst F (v := 0) dX11_changed_22 (by decide) ?_
    obtain rfl := Option.some.inj h
    exact ob_iret F dX11_changed_23 k
  · refine ob_iconst F (v := 1) dX11_changed_13 (by decide) ?_
    obtain rfl := Option.some.inj h
    exact ob_iret F dX11_changed_14 k
theorem t_X11_changed {cf : ob_Cf} {g : ob_St} {n0 : Nat} {x1 : Int32} {x2 : Int32} {x3 : Int32} {r : (Int32 × ob_St)} (h : f_X11_changed g n0 x1 x2 x3 = some r) : ob_Mt cf yX11_changed cX11_changed 4 (some .int) 3 69 [ob_rw cf n0, .int x1, .int x2, .int x3] g (some (.int r.1)) r.2 := by
  refine ob_enter (by decide) (Nat.le_of_ble_eq_true rfl) (Or.inl rfl) ?_
  intro C hC F k
  subst hC
  exact b_X11_changed_0 F h k
-- X11_move
def f_X11_move (g : ob_St) (n0 : Nat) (x1 : Int32) : Option (Int32 × ob_St) :=
  (if x1 < 0 then (some ((-1), g)) else ((if 999 < x1 then (some ((-1), g)) else ((ob_gR 11 n0 3).bind fun v1 => (ob_ck 5 v1 (f_X5_lowest g v1)).bind fun v2 => (ob_gR 11 n0 3).bind fun v3 => (ob_gI g 5 v3 3).bind fun v4 => (if 0 ≤ ((v2 - v4) + x1) then ((ob_ck 11 n0 (f_X11_changed g n0 1 0 x1)).bind fun v5 => some (v5.1, v5.2)) else (some ((-1), g)))))))
theorem b_X11_move_0 {C : ob_Cx} (F : ob_Fx C cX11_move 2 RX11 (some .int) 4 92) {g : ob_St} {n0 : Nat} {x1 : Int32} {r : (Int32 × ob_St)} (h : f_X11_move g n0 x1 = some r) (k : ob_Rt C (some (.int r.1)) r.2) : ob_Ev C 0 [(0, ob_rv C n0), (1, .int x1)] [] g := by
  unfold f_X11_move at h
  refine ob_iload_n F 1 dX11_move_0 rfl ?_
  refine ob_if_lt F 31 dX11_move_1 (by decide) h (fun h => ?_) (fun h => ?_)
  · refine ob_iconst F (v := (-1)) dX11_move_31 (by decide) ?_
    obtain rfl := Option.some.inj h
    exact ob_iret F dX11_move_32 k
  · refine ob_iload_n F 1 dX11_move_4 rfl ?_
    refine ob_sipush F (v := 999) dX11_move_5 (by decide) ?_
    refine ob_icmp_gt F 31 dX11_move_8 (by decide) h (fun h => ?_) (fun h => ?_)
    · refine ob_iconst F (v := (-1)) dX11_move_31 (by decide) ?_
      obtain rfl := Option.some.inj h
      exact ob_iret F dX11_move_32 k
    · refine ob_rload_n F 0 dX11_move_11 rfl ?_
      refine ob_getR F dX11_move_12 fl_X11_23 h fun v1 h => ?_
      refine ob_cVi F dX11_move_15 im_X5_lowest tw4_182 h (fun b hb => t_X5_lowest hb) rfl rfl (Nat.le_of_ble_eq_true rfl) (by decide) fun v2 h => ?_
      refine ob_rload_n F 0 dX11_move_18 rfl ?_
      refine ob_getR F dX11_move_19 fl_X11_23 h fun v3 h => ?_
      refine ob_getI F dX11_move_22 fl_X11_117 h fun v4 h => ?_
      refine ob_isub F dX11_move_25 ?_
      refine ob_iload_n F 1 dX11_move_26 rfl ?_
      refine ob_iadd F dX11_move_27 ?_
      refine ob_if_ge F 33 dX11_move_28 (by decide) h (fun h => ?_) (fun h => ?_)
      · refine ob_rload_n F 0 dX11_move_33 rfl ?_
        refine ob_iconst F (v := 1) dX11_move_34 (by decide) ?_
        refine ob_iconst F (v := 0) dX11_move_35 (by decide) ?_
        refine ob_iload_n F 1 dX11_move_36 rfl ?_
        refine ob_cViS F dX11_move_37 im_X11_changed tw4_183 h (fun b hb => t_X11_changed hb) rfl rfl (Nat.le_of_ble_eq_true rfl) (by decide) fun v5 h => ?_
        obtain rfl := Option.some.inj h
        exact ob_iret F dX11_move_40 k
      · refine ob_iconst F (v := (-1)) dX11_move_31 (by decide) ?_
        obtain rfl := Option.some.inj h
        exact ob_iret F dX11_move_32 k
theorem t_X11_move {cf : ob_Cf} {g : ob_St} {n0 : Nat} {x1 : Int32} {r : (Int32 × ob_St)} (h : f_X11_move g n0 x1 = some r) : ob_Mt cf yX11_move cX11_move 2 (some .int) 4 92 [ob_rw cf n0, .int x1] g (some (.int r.1)) r.2 := by
  refine ob_enter (by decide) (Nat.le_of_ble_eq_true rfl) (Or.inl rfl) ?_
  intro C hC F k
  subst hC
  exact b_X11_move_0 F h k
-- X11_fall
def f_X11_fall (g : ob_St) (n0 : Nat) (x1 : Int32) (x2 : Int32) : Option (Int32 × ob_St) :=
  (if x1 < 1 then (some ((-1), g)) else ((ob_gR 11 n0 3).bind fun v1 => (ob_gI g 5 v1 5).bind fun v2 => (if v2 < x1 then (some ((-1), g)) else ((if x2 < 1 then (some ((-1), g)) else ((ob_gR 11 n0 3).bind fun v3 => (ob_gI g 5 v3 4).bind fun v4 => (if x2 < v4 then ((ob_gR 11 n0 3).bind fun v5 => (ob_ck 5 v5 (f_X5_lowest g v5)).bind fun v6 => (ob_gR 11 n0 3).bind fun v7 => (ob_gR 5 v7 0).bind fun v8 => (ob_rI g 14 v8 x1).bind fun v9 => (if 0 ≤ ((v6 + v9) - x2) then ((ob_ck 11 n0 (f_X11_changed g n0 2 x1 x2)).bind fun v10 => some (v10.1, v10.2)) else (some ((-1), g)))) else (some ((-1), g)))))))))
theorem b_X11_fall_0 {C : ob_Cx} (F : ob_Fx C cX11_fall 3 RX11 (some .int) 4 92) {g : ob_St} {n0 : Nat} {x1 : Int32} {x2 : Int32} {r : (Int32 × ob_St)} (h : f_X11_fall g n0 x1 x2 = some r) (k : ob_Rt C (some (.int r.1)) r.2) : ob_Ev C 0 [(0, ob_rv C n0), (1, .int x1), (2, .int x2)] [] g := by
  unfold f_X11_fall at h
  refine ob_iload_n F 1 dX11_fall_0 rfl ?_
  refine ob_iconst F (v := 1) dX11_fall_1 (by decide) ?_
  refine ob_icmp_lt F 32 dX11_fall_2 (by decide) h (fun h => ?_) (fun h => ?_)
  · refine ob_iconst F (v := (-1)) dX11_fall_32 (by decide) ?_
    obtain rfl := Option.some.inj h
    exact ob_iret F dX11_fall_33 k
  · refine ob_iload_n F 1 dX11_fall_5 rfl ?_
    refine ob_rload_n F 0 dX11_fall_6 rfl ?_
    refine ob_getR F dX11_fall_7 fl_X11_23 h fun v1 h => ?_
    refine ob_getI F dX11_fall_10 fl_X11_111 h fun v2 h => ?_
    refine ob_icmp_gt F 32 dX11_fall_13 (by decide) h (fun h => ?_) (fun h => ?_)
    · refine ob_iconst F (v := (-1)) dX11_fall_32 (by decide) ?_
      obtain rfl := Option.some.inj h
      exact ob_iret F dX11_fall_33 k
    · refine ob_iload_n F 2 dX11_fall_16 rfl ?_
      refine ob_iconst F (v := 1) dX11_fall_17 (by decide) ?_
      refine ob_icmp_lt F 32 dX11_fall_18 (by decide) h (fun h => ?_) (fun h => ?_)
      · refine ob_iconst F (v := (-1)) dX11_fall_32 (by decide) ?_
        obtain rfl := Option.some.inj h
        exact ob_iret F dX11_fall_33 k
      · refine ob_iload_n F 2 dX11_fall_21 rfl ?_
        refine ob_rload_n F 0 dX11_fall_22 rfl ?_
        refine ob_getR F dX11_fall_23 fl_X11_23 h fun v3 h => ?_
        refine ob_getI F dX11_fall_26 fl_X11_114 h fun v4 h => ?_
        refine ob_icmp_lt F 34 dX11_fall_29 (by decide) h (fun h => ?_) (fun h => ?_)
        · refine ob_rload_n F 0 dX11_fall_34 rfl ?_
          refine ob_getR F dX11_fall_35 fl_X11_23 h fun v5 h => ?_
          refine ob_cVi F dX11_fall_38 im_X5_lowest tw4_182 h (fun b hb => t_X5_lowest hb) rfl rfl (Nat.le_of_ble_eq_true rfl) (by decide) fun v6 h => ?_
          refine ob_rload_n F 0 dX11_fall_41 rfl ?_
          refine ob_getR F dX11_fall_42 fl_X11_23 h fun v7 h => ?_
          refine ob_getR F dX11_fall_45 fl_X11_124 h fun v8 h => ?_
          refine ob_iload_n F 1 dX11_fall_48 rfl ?_
          refine ob_iald F dX11_fall_49 h fun v9 h => ?_
          refine ob_iadd F dX11_fall_50 ?_
          refine ob_iload_n F 2 dX11_fall_51 rfl ?_
          refine ob_isub F dX11_fall_52 ?_
          refine ob_if_ge F 58 dX11_fall_53 (by decide) h (fun h => ?_) (fun h => ?_)
          · refine ob_rload_n F 0 dX11_fall_58 rfl ?_
            refine ob_iconst F (v := 2) dX11_fall_59 (by decide) ?_
            refine ob_iload_n F 1 dX11_fall_60 rfl ?_
            refine ob_iload_n F 2 dX11_fall_61 rfl ?_
            refine ob_cViS F dX11_fall_62 im_X11_changed tw4_183 h (fun b hb => t_X11_changed hb) rfl rfl (Nat.le_of_ble_eq_true rfl) (by decide) fun v10 h => ?_
            obtain rfl := Option.some.inj h
            exact ob_iret F dX11_fall_65 k
          · refine ob_iconst F (v := (-1)) dX11_fall_56 (by decide) ?_
            obtain rfl := Option.some.inj h
            exact ob_iret F dX11_fall_57 k
        · refine ob_iconst F (v := (-1)) dX11_fall_32 (by decide) ?_
          obtain rfl := Option.some.inj h
          exact ob_iret F dX11_fall_33 k
theorem t_X11_fall {cf : ob_Cf} {g : ob_St} {n0 : Nat} {x1 : Int32} {x2 : Int32} {r : (Int32 × ob_St)} (h : f_X11_fall g n0 x1 x2 = some r) : ob_Mt cf yX11_fall cX11_fall 3 (some .int) 4 92 [ob_rw cf n0, .int x1, .int x2] g (some (.int r.1)) r.2 := by
  refine ob_enter (by decide) (Nat.le_of_ble_eq_true rfl) (Or.inl rfl) ?_
  intro C hC F k
  subst hC
  exact b_X11_fall_0 F h k
-- X11_cash
def f_X11_cash (g : ob_St) (n0 : Nat) (x1 : Int32) (x2 : Int32) : Option (Int32 × ob_St) :=
  (ob_ck 11 n0 (f_X11_isStep g n0 x1)).bind fun v1 => (if v1 = 0 then (some ((-1), g)) else ((if x2 < 0 then (some ((-1), g)) else ((if x2 ≤ 99 then ((ob_ck 11 n0 (f_X11_changed g n0 3 x1 x2)).bind fun v2 => some (v2.1, v2.2)) else (some ((-1), g)))))))
theorem b_X11_cash_0 {C : ob_Cx} (F : ob_Fx C cX11_cash 3 RX11 (some .int) 4 92) {g : ob_St} {n0 : Nat} {x1 : Int32} {x2 : Int32} {r : (Int32 × ob_St)} (h : f_X11_cash g n0 x1 x2 = some r) (k : ob_Rt C (some (.int r.1)) r.2) : ob_Ev C 0 [(0, ob_rv C n0), (1, .int x1), (2, .int x2)] [] g := by
  unfold f_X11_cash at h
  refine ob_rload_n F 0 dX11_cash_0 rfl ?_
  refine ob_iload_n F 1 dX11_cash_1 rfl ?_
  refine ob_cVi F dX11_cash_2 im_X11_isStep tw3_168 h (fun b hb => t_X11_isStep hb) rfl rfl (Nat.le_of_ble_eq_true rfl) (by decide) fun v1 h => ?_
  refine ob_if_eq F 18 dX11_cash_5 (by decide) h (fun h => ?_) (fun h => ?_)
  · refine ob_iconst F (v := (-1)) dX11_cash_18 (by decide) ?_
    obtain rfl := Option.some.inj h
    exact ob_iret F dX11_cash_19 k
  · refine ob_iload_n F 2 dX11_cash_8 rfl ?_
    refine ob_if_lt F 18 dX11_cash_9 (by decide) h (fun h => ?_) (fun h => ?_)
    · refine ob_iconst F (v := (-1)) dX11_cash_18 (by decide) ?_
      obtain rfl := Option.some.inj h
      exact ob_iret F dX11_cash_19 k
    · refine ob_iload_n F 2 dX11_cash_12 rfl ?_
      refine ob_bipush F (v := 99) dX11_cash_13 (by decide) ?_
      refine ob_icmp_le F 20 dX11_cash_15 (by decide) h (fun h => ?_) (fun h => ?_)
      · refine ob_rload_n F 0 dX11_cash_20 rfl ?_
        refine ob_iconst F (v := 3) dX11_cash_21 (by decide) ?_
        refine ob_iload_n F 1 dX11_cash_22 rfl ?_
        refine ob_iload_n F 2 dX11_cash_23 rfl ?_
        refine ob_cViS F dX11_cash_24 im_X11_changed tw4_183 h (fun b hb => t_X11_changed hb) rfl rfl (Nat.le_of_ble_eq_true rfl) (by decide) fun v2 h => ?_
        obtain rfl := Option.some.inj h
        exact ob_iret F dX11_cash_27 k
      · refine ob_iconst F (v := (-1)) dX11_cash_18 (by decide) ?_
        obtain rfl := Option.some.inj h
        exact ob_iret F dX11_cash_19 k
theorem t_X11_cash {cf : ob_Cf} {g : ob_St} {n0 : Nat} {x1 : Int32} {x2 : Int32} {r : (Int32 × ob_St)} (h : f_X11_cash g n0 x1 x2 = some r) : ob_Mt cf yX11_cash cX11_cash 3 (some .int) 4 92 [ob_rw cf n0, .int x1, .int x2] g (some (.int r.1)) r.2 := by
  refine ob_enter (by decide) (Nat.le_of_ble_eq_true rfl) (Or.inl rfl) ?_
  intro C hC F k
  subst hC
  exact b_X11_cash_0 F h k
-- X11_restrike
def B_X11_restrike_49 (g : ob_St) (n0 : Nat) (x1 : Int32) (x2 : Int32) : Option (Int32 × ob_St) :=
  (ob_ck 11 n0 (f_X11_changed g n0 4 x1 x2)).bind fun v6 => some (v6.1, v6.2)
theorem b_X11_restrike_49 {C : ob_Cx} (F : ob_Fx C cX11_restrike 4 RX11 (some .int) 4 92) {g : ob_St} {n0 : Nat} {x1 : Int32} {x2 : Int32} {r : (Int32 × ob_St)} (h : B_X11_restrike_49 g n0 x1 x2 = some r) (k : ob_Rt C (some (.int r.1)) r.2) : ob_Ev C 49 [(0, ob_rv C n0), (1, .int x1), (2, .int x2)] [] g := by
  unfold B_X11_restrike_49 at h
  refine ob_rload_n F 0 dX11_restrike_49 rfl ?_
  refine ob_iconst F (v := 4) dX11_restrike_50 (by decide) ?_
  refine ob_iload_n F 1 dX11_restrike_51 rfl ?_
  refine ob_iload_n F 2 dX11_restrike_52 rfl ?_
  refine ob_cViS F dX11_restrike_53 im_X11_changed tw4_183 h (fun b hb => t_X11_changed hb) rfl rfl (Nat.le_of_ble_eq_true rfl) (by decide) fun v6 h => ?_
  obtain rfl := Option.some.inj h
  exact ob_iret F dX11_restrike_56 k
def f_X11_restrike (g : ob_St) (n0 : Nat) (x1 : Int32) (x2 : Int32) : Option (Int32 × ob_St) :=
  (ob_ck 11 n0 (f_X11_isOption g n0 x1)).bind fun v1 => (if v1 = 0 then (some ((-1), g)) else ((if x2 < 0 then (some ((-1), g)) else ((if x2 ≤ 999 then ((ob_gR 11 n0 3).bind fun v2 => (ob_gR 5 v2 2).bind fun v3 => (ob_rR 17 v3 x1).bind fun v4 => (ob_gI g 1 v4 0).bind fun v5 => (if v5 = 3 then ((ob_gI g 1 v4 2).bind fun v7 => (if x2 < v7 then (B_X11_restrike_49 g n0 x1 x2) else (some ((-1), g)))) else (B_X11_restrike_49 g n0 x1 x2))) else (some ((-1), g)))))))
theorem b_X11_restrike_0 {C : ob_Cx} (F : ob_Fx C cX11_restrike 4 RX11 (some .int) 4 92) {g : ob_St} {n0 : Nat} {x1 : Int32} {x2 : Int32} {r : (Int32 × ob_St)} (h : f_X11_restrike g n0 x1 x2 = some r) (k : ob_Rt C (some (.int r.1)) r.2) : ob_Ev C 0 [(0, ob_rv C n0), (1, .int x1), (2, .int x2)] [] g := by
  unfold f_X11_restrike at h
  refine ob_rload_n F 0 dX11_restrike_0 rfl ?_
  refine ob_iload_n F 1 dX11_restrike_1 rfl ?_
  refine ob_cVi F dX11_restrike_2 im_X11_isOption tw3_176 h (fun b hb => t_X11_isOption hb) rfl rfl (Nat.le_of_ble_eq_true rfl) (by decide) fun v1 h => ?_
  refine ob_if_eq F 19 dX11_restrike_5 (by decide) h (fun h => ?_) (fun h => ?_)
  · refine ob_iconst F (v := (-1)) dX11_restrike_19 (by decide) ?_
    obtain rfl := Option.some.inj h
    exact ob_iret F dX11_restrike_20 k
  · refine ob_iload_n F 2 dX11_restrike_8 rfl ?_
    refine ob_if_lt F 19 dX11_restrike_9 (by decide) h (fun h => ?_) (fun h => ?_)
    · refine ob_iconst F (v := (-1)) dX11_restrike_19 (by decide) ?_
      obtain rfl := Option.some.inj h
      exact ob_iret F dX11_restrike_20 k
    · refine ob_iload_n F 2 dX11_restrike_12 rfl ?_
      refine ob_sipush F (v := 999) dX11_restrike_13 (by decide) ?_
      refine ob_icmp_le F 21 dX11_restrike_16 (by decide) h (fun h => ?_) (fun h => ?_)
      · refine ob_rload_n F 0 dX11_restrike_21 rfl ?_
        refine ob_getR F dX11_restrike_22 fl_X11_23 h fun v2 h => ?_
        refine ob_getR F dX11_restrike_25 fl_X11_138 h fun v3 h => ?_
        refine ob_iload_n F 1 dX11_restrike_28 rfl ?_
        refine ob_aald F dX11_restrike_29 (by decide) h fun v4 h => ?_
        refine ob_rstore_n F (ls2 := [(3, ob_rv C v4), (0, ob_rv C n0), (1, .int x1), (2, .int x2)]) dX11_restrike_30 (by decide) rfl ?_
        refine ob_rload_n F 0 dX11_restrike_31 rfl ?_
        refine ob_getI F dX11_restrike_32 fl_X11_142 h fun v5 h => ?_
        refine ob_iconst F (v := 3) dX11_restrike_35 (by decide) ?_
        refine ob_icmp_ne F 49 dX11_restrike_36 (by decide) h (fun h => ?_) (fun h => ?_)
        · exact ob_sub [1, 2, 3] rfl (b_X11_restrike_49 F h k)
        · refine ob_iload_n F 3 dX11_restrike_39 rfl ?_
          refine ob_rload_n F 0 dX11_restrike_40 rfl ?_
          refine ob_getI F dX11_restrike_41 fl_X11_150 h fun v7 h => ?_
          refine ob_icmp_lt F 49 dX11_restrike_44 (by decide) h (fun h => ?_) (fun h => ?_)
          · exact ob_sub [1, 2, 3] rfl (b_X11_restrike_49 F h k)
          · refine ob_iconst F (v := (-1)) dX11_restrike_47 (by decide) ?_
            obtain rfl := Option.some.inj h
            exact ob_iret F dX11_restrike_48 k
      · refine ob_iconst F (v := (-1)) dX11_restrike_19 (by decide) ?_
        obtain rfl := Option.some.inj h
        exact ob_iret F dX11_restrike_20 k
theorem t_X11_restrike {cf : ob_Cf} {g : ob_St} {n0 : Nat} {x1 : Int32} {x2 : Int32} {r : (Int32 × ob_St)} (h : f_X11_restrike g n0 x1 x2 = some r) : ob_Mt cf yX11_restrike cX11_restrike 4 (some .int) 4 92 [ob_rw cf n0, .int x1, .int x2] g (some (.int r.1)) r.2 := by
  refine ob_enter (by decide) (Nat.le_of_ble_eq_true rfl) (Or.inl rfl) ?_
  intro C hC F k
  subst hC
  exact b_X11_restrike_0 F h k
-- X11_undo
def f_X11_undo (g : ob_St) (n0 : Nat) : Option (Int32 × ob_St) :=
  (ob_gR 11 n0 7).bind fun v1 => (ob_gI g 0 v1 3).bind fun v2 => (if v2 = 0 then (some ((-1), g)) else ((ob_gR 11 n0 7).bind fun v3 => (ob_gI g 0 v3 3).bind fun v4 => (ob_gR 11 n0 7).bind fun v5 => (ob_pI g 0 v5 3 (v4 - 1)).bind fun g6 => (ob_gR 11 n0 7).bind fun v7 => (ob_gR 0 v7 0).bind fun v8 => (ob_rI g6 14 v8 (v4 - 1)).bind fun v9 => (ob_gR 11 n0 7).bind fun v10 => (ob_gR 0 v10 1).bind fun v11 => (ob_rI g6 14 v11 (v4 - 1)).bind fun v12 => (ob_gR 11 n0 7).bind fun v13 => (ob_gR 0 v13 2).bind fun v14 => (ob_rI g6 14 v14 (v4 - 1)).bind fun v15 => (ob_ck 11 n0 (f_X11_tell g6 n0 v9 v12 v15)).bind fun g16 => some ((v4 - 1), g16)))
theorem b_X11_undo_0 {C : ob_Cx} (F : ob_Fx C cX11_undo 2 RX11 (some .int) 2 46) {g : ob_St} {n0 : Nat} {r : (Int32 × ob_St)} (h : f_X11_undo g n0 = some r) (k : ob_Rt C (some (.int r.1)) r.2) : ob_Ev C 0 [(0, ob_rv C n0)] [] g := by
  unfold f_X11_undo at h
  refine ob_rload_n F 0 dX11_undo_0 rfl ?_
  refine ob_getR F dX11_undo_1 fl_X11_47 h fun v1 h => ?_
  refine ob_getI F dX11_undo_4 fl_X11_101 h fun v2 h => ?_
  refine ob_if_ne F 12 dX11_undo_7 (by decide) h (fun h => ?_) (fun h => ?_)
  · refine ob_rload_n F 0 dX11_undo_12 rfl ?_
    refine ob_getR F dX11_undo_13 fl_X11_47 h fun v3 h => ?_
    refine ob_getI F dX11_undo_16 fl_X11_101 h fun v4 h => ?_
    refine ob_iconst F (v := 1) dX11_undo_19 (by decide) ?_
    refine ob_isub F dX11_undo_20 ?_
    refine ob_istore_n F (ls2 := [(1, .int (v4 - 1)), (0, ob_rv C n0)]) dX11_undo_21 (by decide) rfl ?_
    refine ob_rload_n F 1 dX11_undo_22 rfl ?_
    refine ob_getR F dX11_undo_23 fl_X11_47 h fun v5 h => ?_
    refine ob_iload_n F 0 dX11_undo_26 rfl ?_
    refine ob_putI F dX11_undo_27 fp_X11_101 h fun g6 h => ?_
    refine ob_rload_n F 1 dX11_undo_30 rfl ?_
    refine ob_rload_n F 1 dX11_undo_31 rfl ?_
    refine ob_getR F dX11_undo_32 fl_X11_47 h fun v7 h => ?_
    refine ob_getR F dX11_undo_35 fl_X11_328 h fun v8 h => ?_
    refine ob_iload_n F 0 dX11_undo_38 rfl ?_
    refine ob_iald F dX11_undo_39 h fun v9 h => ?_
    refine ob_rload_n F 1 dX11_undo_40 rfl ?_
    refine ob_getR F dX11_undo_41 fl_X11_47 h fun v10 h => ?_
    refine ob_getR F dX11_undo_44 fl_X11_331 h fun v11 h => ?_
    refine ob_iload_n F 0 dX11_undo_47 rfl ?_
    refine ob_iald F dX11_undo_48 h fun v12 h => ?_
    refine ob_rload_n F 1 dX11_undo_49 rfl ?_
    refine ob_getR F dX11_undo_50 fl_X11_47 h fun v13 h => ?_
    refine ob_getR F dX11_undo_53 fl_X11_334 h fun v14 h => ?_
    refine ob_iload_n F 0 dX11_undo_56 rfl ?_
    refine ob_iald F dX11_undo_57 h fun v15 h => ?_
    refine ob_cVvS F dX11_undo_58 im_X11_tell tw4_162 h (fun b hb => t_X11_tell hb) rfl rfl (Nat.le_of_ble_eq_true rfl) (by decide) fun g16 h => ?_
    refine ob_iload_n F 0 dX11_undo_61 rfl ?_
    obtain rfl := Option.some.inj h
    exact ob_iret F dX11_undo_62 k
  · refine ob_iconst F (v := (-1)) dX11_undo_10 (by decide) ?_
    obtain rfl := Option.some.inj h
    exact ob_iret F dX11_undo_11 k
theorem t_X11_undo {cf : ob_Cf} {g : ob_St} {n0 : Nat} {r : (Int32 × ob_St)} (h : f_X11_undo g n0 = some r) : ob_Mt cf yX11_undo cX11_undo 2 (some .int) 2 46 [ob_rw cf n0] g (some (.int r.1)) r.2 := by
  refine ob_enter (by decide) (Nat.le_of_ble_eq_true rfl) (Or.inl rfl) ?_
  intro C hC F k
  subst hC
  exact b_X11_undo_0 F h k
-- X11_image
def f_X11_image (g : ob_St) (n0 : Nat) (x1 : Int32) : Option (Int32 × ob_St) :=
  (if x1 < 0 then (some (0, g)) else ((if x1 < 2 then ((ob_gR 11 n0 4).bind fun v1 => (ob_rR 18 v1 x1).bind fun v2 => (ob_gR 11 n0 3).bind fun v3 => (ob_ck 5 v2 (f_X5_copyFrom g v2 v3)).bind fun g4 => (ob_gR 11 n0 5).bind fun v5 => (ob_wZ g4 v5 x1 1).bind fun g6 => some (1, g6)) else (some (0, g)))))
theorem b_X11_image_0 {C : ob_Cx} (F : ob_Fx C cX11_image 2 RX11 (some .boolean) 2 43) {g : ob_St} {n0 : Nat} {x1 : Int32} {r : (Int32 × ob_St)} (h : f_X11_image g n0 x1 = some r) (k : ob_Rt C (some (.int r.1)) r.2) : ob_Ev C 0 [(0, ob_rv C n0), (1, .int x1)] [] g := by
  unfold f_X11_image at h
  refine ob_iload_n F 1 dX11_image_0 rfl ?_
  refine ob_if_lt F 9 dX11_image_1 (by decide) h (fun h => ?_) (fun h => ?_)
  · refine ob_iconst F (v := 0) dX11_image_9 (by decide) ?_
    obtain rfl := Option.some.inj h
    exact ob_zret F dX11_image_10 (Or.inl rfl) k
  · refine ob_iload_n F 1 dX11_image_4 rfl ?_
    refine ob_iconst F (v := 2) dX11_image_5 (by decide) ?_
    refine ob_icmp_lt F 11 dX11_image_6 (by decide) h (fun h => ?_) (fun h => ?_)
    · refine ob_rload_n F 0 dX11_image_11 rfl ?_
      refine ob_getR F dX11_image_12 fl_X11_27 h fun v1 h => ?_
      refine ob_iload_n F 1 dX11_image_15 rfl ?_
      refine ob_aald F dX11_image_16 (by decide) h fun v2 h => ?_
      refine ob_rload_n F 0 dX11_image_17 rfl ?_
      refine ob_getR F dX11_image_18 fl_X11_23 h fun v3 h => ?_
      refine ob_cVvS F dX11_image_21 im_X5_copyFrom tw3_144 h (fun b hb => t_X5_copyFrom hb) rfl rfl (Nat.le_of_ble_eq_true rfl) (by decide) fun g4 h => ?_
      refine ob_rload_n F 0 dX11_image_24 rfl ?_
      refine ob_getR F dX11_image_25 fl_X11_31 h fun v5 h => ?_
      refine ob_iload_n F 1 dX11_image_28 rfl ?_
      refine ob_iconst F (v := 1) dX11_image_29 (by decide) ?_
      refine ob_zast F dX11_image_30 h fun g6 h => ?_
      refine ob_iconst F (v := 1) dX11_image_31 (by decide) ?_
      obtain rfl := Option.some.inj h
      exact ob_zret F dX11_image_32 (Or.inr rfl) k
    · refine ob_iconst F (v := 0) dX11_image_9 (by decide) ?_
      obtain rfl := Option.some.inj h
      exact ob_zret F dX11_image_10 (Or.inl rfl) k
theorem t_X11_image {cf : ob_Cf} {g : ob_St} {n0 : Nat} {x1 : Int32} {r : (Int32 × ob_St)} (h : f_X11_image g n0 x1 = some r) : ob_Mt cf yX11_image cX11_image 2 (some .boolean) 2 43 [ob_rw cf n0, .int x1] g (some (.int r.1)) r.2 := by
  refine ob_enter (by decide) (Nat.le_of_ble_eq_true rfl) (Or.inr rfl) ?_
  intro C hC F k
  subst hC
  exact b_X11_image_0 F h k
-- X11_restore
def f_X11_restore (g : ob_St) (n0 : Nat) (x1 : Int32) : Option (Int32 × ob_St) :=
  (if x1 < 0 then (some (0, g)) else ((if 2 ≤ x1 then (some (0, g)) else ((ob_gR 11 n0 5).bind fun v1 => (ob_rI g 16 v1 x1).bind fun v2 => (if v2 = 0 then (some (0, g)) else ((ob_gR 11 n0 3).bind fun v3 => (ob_gR 11 n0 4).bind fun v4 => (ob_rR 18 v4 x1).bind fun v5 => (ob_ck 5 v3 (f_X5_copyFrom g v3 v5)).bind fun g6 => (ob_gR 11 n0 7).bind fun v7 => (ob_pI g6 0 v7 3 0).bind fun g8 => (ob_gR 11 n0 8).bind fun v9 => (ob_pZ g8 3 v9 6 1).bind fun g10 => some (1, g10)))))))
theorem b_X11_restore_0 {C : ob_Cx} (F : ob_Fx C cX11_restore 2 RX11 (some .boolean) 2 43) {g : ob_St} {n0 : Nat} {x1 : Int32} {r : (Int32 × ob_St)} (h : f_X11_restore g n0 x1 = some r) (k : ob_Rt C (some (.int r.1)) r.2) : ob_Ev C 0 [(0, ob_rv C n0), (1, .int x1)] [] g := by
  unfold f_X11_restore at h
  refine ob_iload_n F 1 dX11_restore_0 rfl ?_
  refine ob_if_lt F 18 dX11_restore_1 (by decide) h (fun h => ?_) (fun h => ?_)
  · refine ob_iconst F (v := 0) dX11_restore_18 (by decide) ?_
    obtain rfl := Option.some.inj h
    exact ob_zret F dX11_restore_19 (Or.inl rfl) k
  · refine ob_iload_n F 1 dX11_restore_4 rfl ?_
    refine ob_iconst F (v := 2) dX11_restore_5 (by decide) ?_
    refine ob_icmp_ge F 18 dX11_restore_6 (by decide) h (fun h => ?_) (fun h => ?_)
    · refine ob_iconst F (v := 0) dX11_restore_18 (by decide) ?_
      obtain rfl := Option.some.inj h
      exact ob_zret F dX11_restore_19 (Or.inl rfl) k
    · refine ob_rload_n F 0 dX11_restore_9 rfl ?_
      refine ob_getR F dX11_restore_10 fl_X11_31 h fun v1 h => ?_
      refine ob_iload_n F 1 dX11_restore_13 rfl ?_
      refine ob_zald F dX11_restore_14 h fun v2 h => ?_
      refine ob_if_ne F 20 dX11_restore_15 (by decide) h (fun h => ?_) (fun h => ?_)
      · refine ob_rload_n F 0 dX11_restore_20 rfl ?_
        refine ob_getR F dX11_restore_21 fl_X11_23 h fun v3 h => ?_
        refine ob_rload_n F 0 dX11_restore_24 rfl ?_
        refine ob_getR F dX11_restore_25 fl_X11_27 h fun v4 h => ?_
        refine ob_iload_n F 1 dX11_restore_28 rfl ?_
        refine ob_aald F dX11_restore_29 (by decide) h fun v5 h => ?_
        refine ob_cVvS F dX11_restore_30 im_X5_copyFrom tw3_144 h (fun b hb => t_X5_copyFrom hb) rfl rfl (Nat.le_of_ble_eq_true rfl) (by decide) fun g6 h => ?_
        refine ob_rload_n F 0 dX11_restore_33 rfl ?_
        refine ob_getR F dX11_restore_34 fl_X11_47 h fun v7 h => ?_
        refine ob_iconst F (v := 0) dX11_restore_37 (by decide) ?_
        refine ob_putI F dX11_restore_38 fp_X11_101 h fun g8 h => ?_
        refine ob_rload_n F 0 dX11_restore_41 rfl ?_
        refine ob_getR F dX11_restore_42 fl_X11_56 h fun v9 h => ?_
        refine ob_iconst F (v := 1) dX11_restore_45 (by decide) ?_
        refine ob_putZ F dX11_restore_46 fp_X11_104 h fun g10 h => ?_
        refine ob_iconst F (v := 1) dX11_restore_49 (by decide) ?_
        obtain rfl := Option.some.inj h
        exact ob_zret F dX11_restore_50 (Or.inr rfl) k
      · refine ob_iconst F (v := 0) dX11_restore_18 (by decide) ?_
        obtain rfl := Option.some.inj h
        exact ob_zret F dX11_restore_19 (Or.inl rfl) k
theorem t_X11_restore {cf : ob_Cf} {g : ob_St} {n0 : Nat} {x1 : Int32} {r : (Int32 × ob_St)} (h : f_X11_restore g n0 x1 = some r) : ob_Mt cf yX11_restore cX11_restore 2 (some .boolean) 2 43 [ob_rw cf n0, .int x1] g (some (.int r.1)) r.2 := by
  refine ob_enter (by decide) (Nat.le_of_ble_eq_true rfl) (Or.inr rfl) ?_
  intro C hC F k
  subst hC
  exact b_X11_restore_0 F h k
