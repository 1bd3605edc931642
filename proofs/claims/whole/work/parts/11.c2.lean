-- X11_isOption
def f_X11_isOption (g : ob_St) (n0 : Nat) (x1 : Int32) : Option Int32 :=
  (if x1 < 0 then (some 0) else ((ob_gR 11 n0 3).bind fun v1 => (ob_gI g 5 v1 6).bind fun v2 => (if v2 ≤ x1 then (some 0) else (some 1))))
theorem b_X11_isOption_0 {C : ob_Cx} (F : ob_Fx C cX11_isOption 2 RX11 (some .boolean) 0 0) {g : ob_St} {n0 : Nat} {x1 : Int32} {r : Int32} (h : f_X11_isOption g n0 x1 = some r) (k : ob_Rt C (some (.int r)) g) : ob_Ev C 0 [(0, ob_rv C n0), (1, .int x1)] [] g := by
  unfold f_X11_isOption at h
  refine ob_iload_n F 1 dX11_isOption_0 rfl ?_
  refine ob_if_lt F 19 dX11_isOption_1 (by decide) h (fun h => ?_) (fun h => ?_)
  · refine ob_iconst F (v := 0) dX11_isOption_19 (by decide) ?_
    obtain rfl := Option.some.inj h
    exact ob_zret F dX11_isOption_20 (Or.inl rfl) k
  · refine ob_iload_n F 1 dX11_isOption_4 rfl ?_
    refine ob_rload_n F 0 dX11_isOption_5 rfl ?_
    refine ob_getR F dX11_isOption_6 fl_X11_23 h fun v1 h => ?_
    refine ob_getI F dX11_isOption_9 fl_X11_108 h fun v2 h => ?_
    refine ob_icmp_ge F 19 dX11_isOption_12 (by decide) h (fun h => ?_) (fun h => ?_)
    · refine ob_iconst F (v := 0) dX11_isOption_19 (by decide) ?_
      obtain rfl := Option.some.inj h
      exact ob_zret F dX11_isOption_20 (Or.inl rfl) k
    · refine ob_iconst F (v := 1) dX11_isOption_15 (by decide) ?_
      refine ob_goto F 20 dX11_isOption_16 (by decide) ?_
      obtain rfl := Option.some.inj h
      exact ob_zret F dX11_isOption_20 (Or.inr rfl) k
theorem t_X11_isOption {cf : ob_Cf} {g : ob_St} {n0 : Nat} {x1 : Int32} {r : Int32} (h : f_X11_isOption g n0 x1 = some r) : ob_Mt cf yX11_isOption cX11_isOption 2 (some .boolean) 0 0 [ob_rw cf n0, .int x1] g (some (.int r)) g := by
  refine ob_enter (by decide) (Nat.le_of_ble_eq_true rfl) (Or.inr rfl) ?_
  intro C hC F k
  subst hC
  exact b_X11_isOption_0 F h k
-- X11_option
def f_X11_option (g : ob_St) (n0 : Nat) (x1 : Int32) (x2 : Int32) : Option Int32 :=
  (ob_ck 11 n0 (f_X11_isOption g n0 x1)).bind fun v1 => (if v1 = 0 then (some (-1000000)) else ((ob_gR 11 n0 3).bind fun v2 => (ob_gR 5 v2 2).bind fun v3 => (ob_rR 17 v3 x1).bind fun v4 => (if x2 = 0 then ((ob_gI g 1 v4 0).bind fun v5 => some v5) else (if x2 = 1 then ((ob_gI g 1 v4 1).bind fun v6 => some v6) else (if x2 = 2 then ((ob_gI g 1 v4 2).bind fun v7 => some v7) else (if x2 = 3 then ((ob_gI g 1 v4 3).bind fun v8 => (ob_gR 11 n0 3).bind fun v9 => (ob_gI g 5 v9 5).bind fun v10 => some (ob_imin v8 v10)) else (if x2 = 4 then ((ob_gI g 1 v4 4).bind fun v11 => some v11) else (if x2 = 5 then ((ob_gI g 1 v4 5).bind fun v12 => some v12) else (if x2 = 6 then ((ob_gI g 1 v4 6).bind fun v13 => some v13) else (if x2 = 7 then ((ob_gI g 1 v4 7).bind fun v14 => some v14) else (if x2 = 8 then ((ob_gI g 1 v4 9).bind fun v15 => some v15) else (if x2 = 9 then ((ob_gI g 1 v4 8).bind fun v16 => some v16) else (some (-1000000))))))))))))))
theorem b_X11_option_0 {C : ob_Cx} (F : ob_Fx C cX11_option 4 RX11 (some .int) 1 26) {g : ob_St} {n0 : Nat} {x1 : Int32} {x2 : Int32} {r : Int32} (h : f_X11_option g n0 x1 x2 = some r) (k : ob_Rt C (some (.int r)) g) : ob_Ev C 0 [(0, ob_rv C n0), (1, .int x1), (2, .int x2)] [] g := by
  unfold f_X11_option at h
  refine ob_rload_n F 0 dX11_option_0 rfl ?_
  refine ob_iload_n F 1 dX11_option_1 rfl ?_
  refine ob_cVi F dX11_option_2 im_X11_isOption tw3_176 h (fun b hb => t_X11_isOption hb) rfl rfl (Nat.le_of_ble_eq_true rfl) (by decide) fun v1 h => ?_
  refine ob_if_ne F 11 dX11_option_5 (by decide) h (fun h => ?_) (fun h => ?_)
  · refine ob_rload_n F 0 dX11_option_11 rfl ?_
    refine ob_getR F dX11_option_12 fl_X11_23 h fun v2 h => ?_
    refine ob_getR F dX11_option_15 fl_X11_138 h fun v3 h => ?_
    refine ob_iload_n F 1 dX11_option_18 rfl ?_
    refine ob_aald F dX11_option_19 (by decide) h fun v4 h => ?_
    refine ob_rstore_n F (ls2 := [(3, ob_rv C v4), (0, ob_rv C n0), (1, .int x1), (2, .int x2)]) dX11_option_20 (by decide) rfl ?_
    refine ob_iload_n F 3 dX11_option_21 rfl ?_
    by_cases c0 : x2 = 0
    · rw [if_pos c0] at h
      refine ob_tsi F 0 76 dX11_option_22 c0 (by decide) (by decide) rfl (by decide) ?_
      refine ob_rload_n F 0 dX11_option_76 rfl ?_
      refine ob_getI F dX11_option_77 fl_X11_142 h fun v5 h => ?_
      obtain rfl := Option.some.inj h
      exact ob_iret F dX11_option_80 k
    rw [if_neg c0] at h
    by_cases c1 : x2 = 1
    · rw [if_pos c1] at h
      refine ob_tsi F 1 81 dX11_option_22 c1 (by decide) (by decide) rfl (by decide) ?_
      refine ob_rload_n F 0 dX11_option_81 rfl ?_
      refine ob_getI F dX11_option_82 fl_X11_147 h fun v6 h => ?_
      obtain rfl := Option.some.inj h
      exact ob_iret F dX11_option_85 k
    rw [if_neg c1] at h
    by_cases c2 : x2 = 2
    · rw [if_pos c2] at h
      refine ob_tsi F 2 86 dX11_option_22 c2 (by decide) (by decide) rfl (by decide) ?_
      refine ob_rload_n F 0 dX11_option_86 rfl ?_
      refine ob_getI F dX11_option_87 fl_X11_150 h fun v7 h => ?_
      obtain rfl := Option.some.inj h
      exact ob_iret F dX11_option_90 k
    rw [if_neg c2] at h
    by_cases c3 : x2 = 3
    · rw [if_pos c3] at h
      refine ob_tsi F 3 91 dX11_option_22 c3 (by decide) (by decide) rfl (by decide) ?_
      refine ob_rload_n F 0 dX11_option_91 rfl ?_
      refine ob_getI F dX11_option_92 fl_X11_153 h fun v8 h => ?_
      refine ob_rload_n F 1 dX11_option_95 rfl ?_
      refine ob_getR F dX11_option_96 fl_X11_23 h fun v9 h => ?_
      refine ob_getI F dX11_option_99 fl_X11_111 h fun v10 h => ?_
      refine ob_mimin F dX11_option_102 tw3_181 tw3_182 tw1_18 tw3_183 (Nat.le_of_ble_eq_true rfl) (by decide) ?_
      obtain rfl := Option.some.inj h
      exact ob_iret F dX11_option_105 k
    rw [if_neg c3] at h
    by_cases c4 : x2 = 4
    · rw [if_pos c4] at h
      refine ob_tsi F 4 106 dX11_option_22 c4 (by decide) (by decide) rfl (by decide) ?_
      refine ob_rload_n F 0 dX11_option_106 rfl ?_
      refine ob_getI F dX11_option_107 fl_X11_162 h fun v11 h => ?_
      obtain rfl := Option.some.inj h
      exact ob_iret F dX11_option_110 k
    rw [if_neg c4] at h
    by_cases c5 : x2 = 5
    · rw [if_pos c5] at h
      refine ob_tsi F 5 111 dX11_option_22 c5 (by decide) (by decide) rfl (by decide) ?_
      refine ob_rload_n F 0 dX11_option_111 rfl ?_
      refine ob_getI F dX11_option_112 fl_X11_165 h fun v12 h => ?_
      obtain rfl := Option.some.inj h
      exact ob_iret F dX11_option_115 k
    rw [if_neg c5] at h
    by_cases c6 : x2 = 6
    · rw [if_pos c6] at h
      refine ob_tsi F 6 116 dX11_option_22 c6 (by decide) (by decide) rfl (by decide) ?_
      refine ob_rload_n F 0 dX11_option_116 rfl ?_
      refine ob_getI F dX11_option_117 fl_X11_168 h fun v13 h => ?_
      obtain rfl := Option.some.inj h
      exact ob_iret F dX11_option_120 k
    rw [if_neg c6] at h
    by_cases c7 : x2 = 7
    · rw [if_pos c7] at h
      refine ob_tsi F 7 121 dX11_option_22 c7 (by decide) (by decide) rfl (by decide) ?_
      refine ob_rload_n F 0 dX11_option_121 rfl ?_
      refine ob_getI F dX11_option_122 fl_X11_171 h fun v14 h => ?_
      obtain rfl := Option.some.inj h
      exact ob_iret F dX11_option_125 k
    rw [if_neg c7] at h
    by_cases c8 : x2 = 8
    · rw [if_pos c8] at h
      refine ob_tsi F 8 126 dX11_option_22 c8 (by decide) (by decide) rfl (by decide) ?_
      refine ob_rload_n F 0 dX11_option_126 rfl ?_
      refine ob_getI F dX11_option_127 fl_X11_174 h fun v15 h => ?_
      obtain rfl := Option.some.inj h
      exact ob_iret F dX11_option_130 k
    rw [if_neg c8] at h
    by_cases c9 : x2 = 9
    · rw [if_pos c9] at h
      refine ob_tsi F 9 131 dX11_option_22 c9 (by decide) (by decide) rfl (by decide) ?_
      refine ob_rload_n F 0 dX11_option_131 rfl ?_
      refine ob_getI F dX11_option_132 fl_X11_177 h fun v16 h => ?_
      obtain rfl := Option.some.inj h
      exact ob_iret F dX11_option_135 k
    rw [if_neg c9] at h
    have q0 := ob_nei c0 (k := 0) rfl
    have q1 := ob_nei c1 (k := 1) rfl
    have q2 := ob_nei c2 (k := 2) rfl
    have q3 := ob_nei c3 (k := 3) rfl
    have q4 := ob_nei c4 (k := 4) rfl
    have q5 := ob_nei c5 (k := 5) rfl
    have q6 := ob_nei c6 (k := 6) rfl
    have q7 := ob_nei c7 (k := 7) rfl
    have q8 := ob_nei c8 (k := 8) rfl
    have q9 := ob_nei c9 (k := 9) rfl
    refine ob_tso F 136 dX11_option_22 (by omega) (by decide) ?_
    refine ob_ldc F (v := (-1000000)) dX11_option_136 tw3_180 ?_
    obtain rfl := Option.some.inj h
    exact ob_iret F dX11_option_138 k
  · refine ob_ldc F (v := (-1000000)) dX11_option_8 tw3_180 ?_
    obtain rfl := Option.some.inj h
    exact ob_iret F dX11_option_10 k
theorem t_X11_option {cf : ob_Cf} {g : ob_St} {n0 : Nat} {x1 : Int32} {x2 : Int32} {r : Int32} (h : f_X11_option g n0 x1 x2 = some r) : ob_Mt cf yX11_option cX11_option 4 (some .int) 1 26 [ob_rw cf n0, .int x1, .int x2] g (some (.int r)) g := by
  refine ob_enter (by decide) (Nat.le_of_ble_eq_true rfl) (Or.inl rfl) ?_
  intro C hC F k
  subst hC
  exact b_X11_option_0 F h k
-- X11_isNode
def f_X11_isNode (g : ob_St) (n0 : Nat) (x1 : Int32) (x2 : Int32) : Option Int32 :=
  (ob_ck 11 n0 (f_X11_isStep g n0 x1)).bind fun v1 => (if v1 = 0 then (some 0) else ((if x2 < 0 then (some 0) else ((if x1 < x2 then (some 0) else (some 1))))))
theorem b_X11_isNode_0 {C : ob_Cx} (F : ob_Fx C cX11_isNode 3 RX11 (some .boolean) 1 21) {g : ob_St} {n0 : Nat} {x1 : Int32} {x2 : Int32} {r : Int32} (h : f_X11_isNode g n0 x1 x2 = some r) (k : ob_Rt C (some (.int r)) g) : ob_Ev C 0 [(0, ob_rv C n0), (1, .int x1), (2, .int x2)] [] g := by
  unfold f_X11_isNode at h
  refine ob_rload_n F 0 dX11_isNode_0 rfl ?_
  refine ob_iload_n F 1 dX11_isNode_1 rfl ?_
  refine ob_cVi F dX11_isNode_2 im_X11_isStep tw3_168 h (fun b hb => t_X11_isStep hb) rfl rfl (Nat.le_of_ble_eq_true rfl) (by decide) fun v1 h => ?_
  refine ob_if_eq F 21 dX11_isNode_5 (by decide) h (fun h => ?_) (fun h => ?_)
  · refine ob_iconst F (v := 0) dX11_isNode_21 (by decide) ?_
    obtain rfl := Option.some.inj h
    exact ob_zret F dX11_isNode_22 (Or.inl rfl) k
  · refine ob_iload_n F 2 dX11_isNode_8 rfl ?_
    refine ob_if_lt F 21 dX11_isNode_9 (by decide) h (fun h => ?_) (fun h => ?_)
    · refine ob_iconst F (v := 0) dX11_isNode_21 (by decide) ?_
      obtain rfl := Option.some.inj h
      exact ob_zret F dX11_isNode_22 (Or.inl rfl) k
    · refine ob_iload_n F 2 dX11_isNode_12 rfl ?_
      refine ob_iload_n F 1 dX11_isNode_13 rfl ?_
      refine ob_icmp_gt F 21 dX11_isNode_14 (by decide) h (fun h => ?_) (fun h => ?_)
      · refine ob_iconst F (v := 0) dX11_isNode_21 (by decide) ?_
        obtain rfl := Option.some.inj h
        exact ob_zret F dX11_isNode_22 (Or.inl rfl) k
      · refine ob_iconst F (v := 1) dX11_isNode_17 (by decide) ?_
        refine ob_goto F 22 dX11_isNode_18 (by decide) ?_
        obtain rfl := Option.some.inj h
        exact ob_zret F dX11_isNode_22 (Or.inr rfl) k
theorem t_X11_isNode {cf : ob_Cf} {g : ob_St} {n0 : Nat} {x1 : Int32} {x2 : Int32} {r : Int32} (h : f_X11_isNode g n0 x1 x2 = some r) : ob_Mt cf yX11_isNode cX11_isNode 3 (some .boolean) 1 21 [ob_rw cf n0, .int x1, .int x2] g (some (.int r)) g := by
  refine ob_enter (by decide) (Nat.le_of_ble_eq_true rfl) (Or.inr rfl) ?_
  intro C hC F k
  subst hC
  exact b_X11_isNode_0 F h k
-- X3_fillPowers
def Lb_X3_fillPowers_9 (rec : ob_St → Int32 → Option (ob_St)) (g : ob_St) (n0 : Nat) (x1 : Int32) : Option (ob_St) :=
  (if 12 < x1 then (some g) else ((ob_gR 3 n0 3).bind fun v3 => (ob_gR 3 n0 3).bind fun v4 => (ob_rL g v4 (x1 - 1)).bind fun v5 => (ob_gR 3 n0 0).bind fun v6 => (ob_gI g 5 v6 4).bind fun v7 => (ob_wL g v3 x1 (v5 * (Int32.toInt64 v7))).bind fun g8 => rec g8 (x1 + 1)))
def L_X3_fillPowers_9 (n0 : Nat) : Nat → ob_St → Int32 → Option (ob_St)
  | 0, _, _ => none
  | n + 1, g, x1 => Lb_X3_fillPowers_9 (L_X3_fillPowers_9 n0 n) g n0 x1
theorem lb_X3_fillPowers_9 {C : ob_Cx} {rec : ob_St → Int32 → Option (ob_St)} (F : ob_Fx C cX3_fillPowers 2 RX3 none 0 0) {g : ob_St} {n0 : Nat} {x1 : Int32} {x : (ob_St)} (hr : ∀ {g : ob_St} {x1 : Int32} {x : (ob_St)}, rec g x1 = some x → ob_Ev C 44 [] [] x → ob_Ev C 9 [(0, ob_rv C n0), (1, .int x1)] [] g) (h : Lb_X3_fillPowers_9 rec g n0 x1 = some x) (k0 : ob_Ev C 44 [] [] x) : ob_Ev C 9 [(0, ob_rv C n0), (1, .int x1)] [] g := by
  unfold Lb_X3_fillPowers_9 at h
  refine ob_iload_n F 1 dX3_fillPowers_9 rfl ?_
  refine ob_bipush F (v := 12) dX3_fillPowers_10 (by decide) ?_
  refine ob_icmp_gt F 44 dX3_fillPowers_12 (by decide) h (fun h => ?_) (fun h => ?_)
  · obtain rfl := Option.some.inj h
    exact ob_sub [] rfl (k0)
  · refine ob_rload_n F 0 dX3_fillPowers_15 rfl ?_
    refine ob_getR F dX3_fillPowers_16 fl_X3_18 h fun v3 h => ?_
    refine ob_iload_n F 1 dX3_fillPowers_19 rfl ?_
    refine ob_rload_n F 0 dX3_fillPowers_20 rfl ?_
    refine ob_getR F dX3_fillPowers_21 fl_X3_18 h fun v4 h => ?_
    refine ob_iload_n F 1 dX3_fillPowers_24 rfl ?_
    refine ob_iconst F (v := 1) dX3_fillPowers_25 (by decide) ?_
    refine ob_isub F dX3_fillPowers_26 ?_
    refine ob_lald F dX3_fillPowers_27 h fun v5 h => ?_
    refine ob_rload_n F 0 dX3_fillPowers_28 rfl ?_
    refine ob_getR F dX3_fillPowers_29 fl_X3_37 h fun v6 h => ?_
    refine ob_getI F dX3_fillPowers_32 fl_X3_72 h fun v7 h => ?_
    refine ob_i2l F dX3_fillPowers_35 ?_
    refine ob_lmul F dX3_fillPowers_36 ?_
    refine ob_last F dX3_fillPowers_37 h fun g8 h => ?_
    refine ob_iinc F (v := (x1 + 1)) (ls2 := [(1, .int (x1 + 1)), (0, ob_rv C n0)]) 1 dX3_fillPowers_38 rfl rfl (by decide) rfl ?_
    refine ob_goto F 9 dX3_fillPowers_41 (by decide) ?_
    exact ob_sub [1, 0] rfl (hr h k0)
theorem l_X3_fillPowers_9 {C : ob_Cx} (F : ob_Fx C cX3_fillPowers 2 RX3 none 0 0) {n0 : Nat} : ∀ (n : Nat) {g : ob_St} {x1 : Int32} {x : (ob_St)}, L_X3_fillPowers_9 n0 n g x1 = some x → ob_Ev C 44 [] [] x → ob_Ev C 9 [(0, ob_rv C n0), (1, .int x1)] [] g := by
  intro n
  induction n with
  | zero => intro g x1 x h; exact ob_no h
  | succ n ih => intro g x1 x h k0; exact lb_X3_fillPowers_9 F ih h k0
def f_X3_fillPowers (g : ob_St) (n0 : Nat) : Option ob_St :=
  (ob_gR 3 n0 3).bind fun v1 => (ob_wL g v1 0 1).bind fun g2 => (L_X3_fillPowers_9 n0 ob_FU g2 1).bind fun x_9 => some x_9
theorem b_X3_fillPowers_0 {C : ob_Cx} (F : ob_Fx C cX3_fillPowers 2 RX3 none 0 0) {g : ob_St} {n0 : Nat} {r : ob_St} (h : f_X3_fillPowers g n0 = some r) (k : ob_Rt C none r) : ob_Ev C 0 [(0, ob_rv C n0)] [] g := by
  unfold f_X3_fillPowers at h
  refine ob_rload_n F 0 dX3_fillPowers_0 rfl ?_
  refine ob_getR F dX3_fillPowers_1 fl_X3_18 h fun v1 h => ?_
  refine ob_iconst F (v := 0) dX3_fillPowers_4 (by decide) ?_
  refine ob_lconst F (v := 1) dX3_fillPowers_5 (by decide) ?_
  refine ob_last F dX3_fillPowers_6 h fun g2 h => ?_
  refine ob_iconst F (v := 1) dX3_fillPowers_7 (by decide) ?_
  refine ob_istore_n F (ls2 := [(1, .int 1), (0, ob_rv C n0)]) dX3_fillPowers_8 (by decide) rfl ?_
  obtain ⟨x_9, hx, h⟩ := Option.bind_eq_some_iff.mp h
  refine ob_sub [1, 0] rfl (l_X3_fillPowers_9 F ob_FU hx ?_)
  obtain rfl := Option.some.inj h
  exact ob_vret F dX3_fillPowers_44 k
theorem t_X3_fillPowers {cf : ob_Cf} {g : ob_St} {n0 : Nat} {r : ob_St} (h : f_X3_fillPowers g n0 = some r) : ob_Mt cf yX3_fillPowers cX3_fillPowers 2 none 0 0 [ob_rw cf n0] g none r := by
  refine ob_enter (by decide) (Nat.le_of_ble_eq_true rfl) rfl ?_
  intro C hC F k
  subst hC
  exact b_X3_fillPowers_0 F h k
-- X11_nodeAt
def f_X11_nodeAt (x0 : Int32) (x1 : Int32) : Option Int32 :=
  (ob_dv (x0 * (x0 + 1)) 2).bind fun v1 => some (v1 + x1)
theorem b_X11_nodeAt_0 {C : ob_Cx} (F : ob_Fx C cX11_nodeAt 2 RX11 (some .int) 0 0) {g : ob_St} {x0 : Int32} {x1 : Int32} {r : Int32} (h : f_X11_nodeAt x0 x1 = some r) (k : ob_Rt C (some (.int r)) g) : ob_Ev C 0 [(0, .int x0), (1, .int x1)] [] g := by
  unfold f_X11_nodeAt at h
  refine ob_iload_n F 0 dX11_nodeAt_0 rfl ?_
  refine ob_iload_n F 0 dX11_nodeAt_1 rfl ?_
  refine ob_iconst F (v := 1) dX11_nodeAt_2 (by decide) ?_
  refine ob_iadd F dX11_nodeAt_3 ?_
  refine ob_imul F dX11_nodeAt_4 ?_
  refine ob_iconst F (v := 2) dX11_nodeAt_5 (by decide) ?_
  refine ob_idiv F dX11_nodeAt_6 h fun v1 h => ?_
  refine ob_iload_n F 1 dX11_nodeAt_7 rfl ?_
  refine ob_iadd F dX11_nodeAt_8 ?_
  obtain rfl := Option.some.inj h
  exact ob_iret F dX11_nodeAt_9 k
theorem t_X11_nodeAt {cf : ob_Cf} {g : ob_St} {x0 : Int32} {x1 : Int32} {r : Int32} (h : f_X11_nodeAt x0 x1 = some r) : ob_Mt cf yX11_nodeAt cX11_nodeAt 2 (some .int) 0 0 [.int x0, .int x1] g (some (.int r)) g := by
  refine ob_enter (by decide) (Nat.le_of_ble_eq_true rfl) (Or.inl rfl) ?_
  intro C hC F k
  subst hC
  exact b_X11_nodeAt_0 F h k
-- X3_fillPrices
def Lb_X3_fillPrices_45 (rec : ob_St → Int32 → Option (ob_St)) (g : ob_St) (n0 : Nat) (x1 : Int32) (x2 : Int32) (x3 : Int32) (x4 : Int32) : Option (ob_St) :=
  (if x2 < x4 then (some g) else ((f_X11_nodeAt x2 x4).bind fun v10 => (ob_gR 3 n0 1).bind fun v11 => (ob_gR 3 n0 0).bind fun v12 => (ob_gI g 5 v12 4).bind fun v13 => (ob_wI g v11 v10 (x1 + (x4 * v13))).bind fun g14 => (ob_gR 3 n0 2).bind fun v15 => (ob_gR 3 n0 1).bind fun v16 => (ob_rI g14 14 v16 v10).bind fun v17 => (ob_wI g14 v15 v10 (v17 + x3)).bind fun g18 => rec g18 (x4 + 1)))
def L_X3_fillPrices_45 (n0 : Nat) (x1 : Int32) (x2 : Int32) (x3 : Int32) : Nat → ob_St → Int32 → Option (ob_St)
  | 0, _, _ => none
  | n + 1, g, x4 => Lb_X3_fillPrices_45 (L_X3_fillPrices_45 n0 x1 x2 x3 n) g n0 x1 x2 x3 x4
theorem lb_X3_fillPrices_45 {C : ob_Cx} {rec : ob_St → Int32 → Option (ob_St)} (F : ob_Fx C cX3_fillPrices 6 RX3 none 1 23) {g : ob_St} {n0 : Nat} {x1 : Int32} {x2 : Int32} {x3 : Int32} {x4 : Int32} {x : (ob_St)} (hr : ∀ {g : ob_St} {x4 : Int32} {x : (ob_St)}, rec g x4 = some x → ob_Ev C 100 [(0, ob_rv C n0), (1, .int x1), (2, .int x2)] [] x → ob_Ev C 45 [(0, ob_rv C n0), (1, .int x1), (2, .int x2), (3, .int x3), (4, .int x4)] [] g) (h : Lb_X3_fillPrices_45 rec g n0 x1 x2 x3 x4 = some x) (k0 : ob_Ev C 100 [(0, ob_rv C n0), (1, .int x1), (2, .int x2)] [] x) : ob_Ev C 45 [(0, ob_rv C n0), (1, .int x1), (2, .int x2), (3, .int x3), (4, .int x4)] [] g := by
  unfold Lb_X3_fillPrices_45 at h
  refine ob_iload F 4 dX3_fillPrices_45 rfl ?_
  refine ob_iload_n F 2 dX3_fillPrices_47 rfl ?_
  refine ob_icmp_gt F 100 dX3_fillPrices_48 (by decide) h (fun h => ?_) (fun h => ?_)
  · obtain rfl := Option.some.inj h
    exact ob_sub [0, 1, 2] rfl (k0)
  · refine ob_iload_n F 2 dX3_fillPrices_51 rfl ?_
    refine ob_iload F 4 dX3_fillPrices_52 rfl ?_
    refine ob_cNi F dX3_fillPrices_54 im_X11_nodeAt (by decide +kernel) h (fun b hb => t_X11_nodeAt hb) rfl rfl (Nat.le_of_ble_eq_true rfl) (by decide) fun v10 h => ?_
    refine ob_istore F (ls2 := [(5, .int v10), (0, ob_rv C n0), (1, .int x1), (2, .int x2), (3, .int x3), (4, .int x4)]) dX3_fillPrices_57 (by decide) rfl ?_
    refine ob_rload_n F 1 dX3_fillPrices_59 rfl ?_
    refine ob_getR F dX3_fillPrices_60 fl_X3_9 h fun v11 h => ?_
    refine ob_iload F 0 dX3_fillPrices_63 rfl ?_
    refine ob_iload_n F 2 dX3_fillPrices_65 rfl ?_
    refine ob_iload F 5 dX3_fillPrices_66 rfl ?_
    refine ob_rload_n F 1 dX3_fillPrices_68 rfl ?_
    refine ob_getR F dX3_fillPrices_69 fl_X3_37 h fun v12 h => ?_
    refine ob_getI F dX3_fillPrices_72 fl_X3_72 h fun v13 h => ?_
    refine ob_imul F dX3_fillPrices_75 ?_
    refine ob_iadd F dX3_fillPrices_76 ?_
    refine ob_iast F dX3_fillPrices_77 h fun g14 h => ?_
    refine ob_rload_n F 1 dX3_fillPrices_78 rfl ?_
    refine ob_getR F dX3_fillPrices_79 fl_X3_15 h fun v15 h => ?_
    refine ob_iload F 0 dX3_fillPrices_82 rfl ?_
    refine ob_rload_n F 1 dX3_fillPrices_84 rfl ?_
    refine ob_getR F dX3_fillPrices_85 fl_X3_9 h fun v16 h => ?_
    refine ob_iload F 0 dX3_fillPrices_88 rfl ?_
    refine ob_iald F dX3_fillPrices_90 h fun v17 h => ?_
    refine ob_iload_n F 4 dX3_fillPrices_91 rfl ?_
    refine ob_iadd F dX3_fillPrices_92 ?_
    refine ob_iast F dX3_fillPrices_93 h fun g18 h => ?_
    refine ob_iinc F (v := (x4 + 1)) (ls2 := [(4, .int (x4 + 1)), (5, .int v10), (0, ob_rv C n0), (1, .int x1), (2, .int x2), (3, .int x3)]) 5 dX3_fillPrices_94 rfl rfl (by decide) rfl ?_
    refine ob_goto F 45 dX3_fillPrices_97 (by decide) ?_
    exact ob_sub [2, 3, 4, 5, 0] rfl (hr h k0)
theorem l_X3_fillPrices_45 {C : ob_Cx} (F : ob_Fx C cX3_fillPrices 6 RX3 none 1 23) {n0 : Nat} {x1 : Int32} {x2 : Int32} {x3 : Int32} : ∀ (n : Nat) {g : ob_St} {x4 : Int32} {x : (ob_St)}, L_X3_fillPrices_45 n0 x1 x2 x3 n g x4 = some x → ob_Ev C 100 [(0, ob_rv C n0), (1, .int x1), (2, .int x2)] [] x → ob_Ev C 45 [(0, ob_rv C n0), (1, .int x1), (2, .int x2), (3, .int x3), (4, .int x4)] [] g := by
  intro n
  induction n with
  | zero => intro g x4 x h; exact ob_no h
  | succ n ih => intro g x4 x h k0; exact lb_X3_fillPrices_45 F ih h k0
def Lb_X3_fillPrices_10 (rec : ob_St → Int32 → Int32 → Option (ob_St)) (g : ob_St) (n0 : Nat) (x1 : Int32) (x2 : Int32) : Option (ob_St) :=
  (ob_gR 3 n0 0).bind fun v3 => (ob_gI g 5 v3 5).bind fun v4 => (if v4 < x2 then (some g) else ((ob_gR 3 n0 0).bind fun v5 => (ob_gR 5 v5 0).bind fun v6 => (ob_rI g 14 v6 x2).bind fun v7 => (ob_gR 3 n0 0).bind fun v8 => (ob_ck 5 v8 (f_X5_cashFrom g v8 x2)).bind fun v9 => (L_X3_fillPrices_45 n0 (x1 - v7) x2 v9 ob_FU g 0).bind fun x_19 => rec x_19 (x1 - v7) (x2 + 1)))
def L_X3_fillPrices_10 (n0 : Nat) : Nat → ob_St → Int32 → Int32 → Option (ob_St)
  | 0, _, _, _ => none
  | n + 1, g, x1, x2 => Lb_X3_fillPrices_10 (L_X3_fillPrices_10 n0 n) g n0 x1 x2
theorem lb_X3_fillPrices_10 {C : ob_Cx} {rec : ob_St → Int32 → Int32 → Option (ob_St)} (F : ob_Fx C cX3_fillPrices 6 RX3 none 1 23) {g : ob_St} {n0 : Nat} {x1 : Int32} {x2 : Int32} {x : (ob_St)} (hr : ∀ {g : ob_St} {x1 : Int32} {x2 : Int32} {x : (ob_St)}, rec g x1 x2 = some x → ob_Ev C 106 [] [] x → ob_Ev C 10 [(0, ob_rv C n0), (1, .int x1), (2, .int x2)] [] g) (h : Lb_X3_fillPrices_10 rec g n0 x1 x2 = some x) (k0 : ob_Ev C 106 [] [] x) : ob_Ev C 10 [(0, ob_rv C n0), (1, .int x1), (2, .int x2)] [] g := by
  unfold Lb_X3_fillPrices_10 at h
  refine ob_iload_n F 2 dX3_fillPrices_10 rfl ?_
  refine ob_rload_n F 0 dX3_fillPrices_11 rfl ?_
  refine ob_getR F dX3_fillPrices_12 fl_X3_37 h fun v3 h => ?_
  refine ob_getI F dX3_fillPrices_15 fl_X3_41 h fun v4 h => ?_
  refine ob_icmp_gt F 106 dX3_fillPrices_18 (by decide) h (fun h => ?_) (fun h => ?_)
  · obtain rfl := Option.some.inj h
    exact ob_sub [] rfl (k0)
  · refine ob_iload_n F 1 dX3_fillPrices_21 rfl ?_
    refine ob_rload_n F 0 dX3_fillPrices_22 rfl ?_
    refine ob_getR F dX3_fillPrices_23 fl_X3_37 h fun v5 h => ?_
    refine ob_getR F dX3_fillPrices_26 fl_X3_78 h fun v6 h => ?_
    refine ob_iload_n F 2 dX3_fillPrices_29 rfl ?_
    refine ob_iald F dX3_fillPrices_30 h fun v7 h => ?_
    refine ob_isub F dX3_fillPrices_31 ?_
    refine ob_istore_n F (ls2 := [(1, .int (x1 - v7)), (0, ob_rv C n0), (2, .int x2)]) dX3_fillPrices_32 (by decide) rfl ?_
    refine ob_rload_n F 1 dX3_fillPrices_33 rfl ?_
    refine ob_getR F dX3_fillPrices_34 fl_X3_37 h fun v8 h => ?_
    refine ob_iload_n F 2 dX3_fillPrices_37 rfl ?_
    refine ob_cVi F dX3_fillPrices_38 im_X5_cashFrom tw3_204 h (fun b hb => t_X5_cashFrom hb) rfl rfl (Nat.le_of_ble_eq_true rfl) (by decide) fun v9 h => ?_
    refine ob_istore_n F (ls2 := [(3, .int v9), (1, .int (x1 - v7)), (0, ob_rv C n0), (2, .int x2)]) dX3_fillPrices_41 (by decide) rfl ?_
    refine ob_iconst F (v := 0) dX3_fillPrices_42 (by decide) ?_
    refine ob_istore F (ls2 := [(4, .int 0), (3, .int v9), (1, .int (x1 - v7)), (0, ob_rv C n0), (2, .int x2)]) dX3_fillPrices_43 (by decide) rfl ?_
    obtain ⟨x_19, hx, h⟩ := Option.bind_eq_some_iff.mp h
    refine ob_sub [3, 2, 4, 1, 0] rfl (l_X3_fillPrices_45 F ob_FU hx ?_)
    refine ob_iinc F (v := (x2 + 1)) (ls2 := [(2, .int (x2 + 1)), (0, ob_rv C n0), (1, .int (x1 - v7))]) 2 dX3_fillPrices_100 rfl rfl (by decide) rfl ?_
    refine ob_goto F 10 dX3_fillPrices_103 (by decide) ?_
    exact ob_sub [1, 2, 0] rfl (hr h k0)
theorem l_X3_fillPrices_10 {C : ob_Cx} (F : ob_Fx C cX3_fillPrices 6 RX3 none 1 23) {n0 : Nat} : ∀ (n : Nat) {g : ob_St} {x1 : Int32} {x2 : Int32} {x : (ob_St)}, L_X3_fillPrices_10 n0 n g x1 x2 = some x → ob_Ev C 106 [] [] x → ob_Ev C 10 [(0, ob_rv C n0), (1, .int x1), (2, .int x2)] [] g := by
  intro n
  induction n with
  | zero => intro g x1 x2 x h; exact ob_no h
  | succ n ih => intro g x1 x2 x h k0; exact lb_X3_fillPrices_10 F ih h k0
def f_X3_fillPrices (g : ob_St) (n0 : Nat) : Option ob_St :=
  (ob_gR 3 n0 0).bind fun v1 => (ob_gI g 5 v1 3).bind fun v2 => (L_X3_fillPrices_10 n0 ob_FU g v2 0).bind fun x_20 => some x_20
theorem b_X3_fillPrices_0 {C : ob_Cx} (F : ob_Fx C cX3_fillPrices 6 RX3 none 1 23) {g : ob_St} {n0 : Nat} {r : ob_St} (h : f_X3_fillPrices g n0 = some r) (k : ob_Rt C none r) : ob_Ev C 0 [(0, ob_rv C n0)] [] g := by
  unfold f_X3_fillPrices at h
  refine ob_rload_n F 0 dX3_fillPrices_0 rfl ?_
  refine ob_getR F dX3_fillPrices_1 fl_X3_37 h fun v1 h => ?_
  refine ob_getI F dX3_fillPrices_4 fl_X3_75 h fun v2 h => ?_
  refine ob_istore_n F (ls2 := [(1, .int v2), (0, ob_rv C n0)]) dX3_fillPrices_7 (by decide) rfl ?_
  refine ob_iconst F (v := 0) dX3_fillPrices_8 (by decide) ?_
  refine ob_istore_n F (ls2 := [(2, .int 0), (1, .int v2), (0, ob_rv C n0)]) dX3_fillPrices_9 (by decide) rfl ?_
  obtain ⟨x_20, hx, h⟩ := Option.bind_eq_some_iff.mp h
  refine ob_sub [2, 1, 0] rfl (l_X3_fillPrices_10 F ob_FU hx ?_)
  obtain rfl := Option.some.inj h
  exact ob_vret F dX3_fillPrices_106 k
theorem t_X3_fillPrices {cf : ob_Cf} {g : ob_St} {n0 : Nat} {r : ob_St} (h : f_X3_fillPrices g n0 = some r) : ob_Mt cf yX3_fillPrices cX3_fillPrices 6 none 1 23 [ob_rw cf n0] g none r := by
  refine ob_enter (by decide) (Nat.le_of_ble_eq_true rfl) rfl ?_
  intro C hC F k
  subst hC
  exact b_X3_fillPrices_0 F h k
-- X3_may
def f_X3_may (g : ob_St) (n0 : Nat) (x1 : Int32) (x2 : Int32) : Option Int32 :=
  (if x2 ≤ x1 then (some 1) else ((ob_gR 3 n0 0).bind fun v1 => (ob_gI g 5 v1 5).bind fun v2 => (if x1 = v2 then (some 1) else (some 0))))
theorem b_X3_may_0 {C : ob_Cx} (F : ob_Fx C cX3_may 3 RX3 (some .boolean) 0 0) {g : ob_St} {n0 : Nat} {x1 : Int32} {x2 : Int32} {r : Int32} (h : f_X3_may g n0 x1 x2 = some r) (k : ob_Rt C (some (.int r)) g) : ob_Ev C 0 [(0, ob_rv C n0), (1, .int x1), (2, .int x2)] [] g := by
  unfold f_X3_may at h
  refine ob_iload_n F 1 dX3_may_0 rfl ?_
  refine ob_iload_n F 2 dX3_may_1 rfl ?_
  refine ob_icmp_ge F 16 dX3_may_2 (by decide) h (fun h => ?_) (fun h => ?_)
  · refine ob_iconst F (v := 1) dX3_may_16 (by decide) ?_
    refine ob_goto F 21 dX3_may_17 (by decide) ?_
    obtain rfl := Option.some.inj h
    exact ob_zret F dX3_may_21 (Or.inr rfl) k
  · refine ob_iload_n F 1 dX3_may_5 rfl ?_
    refine ob_rload_n F 0 dX3_may_6 rfl ?_
    refine ob_getR F dX3_may_7 fl_X3_37 h fun v1 h => ?_
    refine ob_getI F dX3_may_10 fl_X3_41 h fun v2 h => ?_
    refine ob_icmp_ne F 20 dX3_may_13 (by decide) h (fun h => ?_) (fun h => ?_)
    · refine ob_iconst F (v := 0) dX3_may_20 (by decide) ?_
      obtain rfl := Option.some.inj h
      exact ob_zret F dX3_may_21 (Or.inl rfl) k
    · refine ob_iconst F (v := 1) dX3_may_16 (by decide) ?_
      refine ob_goto F 21 dX3_may_17 (by decide) ?_
      obtain rfl := Option.some.inj h
      exact ob_zret F dX3_may_21 (Or.inr rfl) k
theorem t_X3_may {cf : ob_Cf} {g : ob_St} {n0 : Nat} {x1 : Int32} {x2 : Int32} {r : Int32} (h : f_X3_may g n0 x1 x2 = some r) : ob_Mt cf yX3_may cX3_may 3 (some .boolean) 0 0 [ob_rw cf n0, .int x1, .int x2] g (some (.int r)) g := by
  refine ob_enter (by decide) (Nat.le_of_ble_eq_true rfl) (Or.inr rfl) ?_
  intro C hC F k
  subst hC
  exact b_X3_may_0 F h k
-- X3_scaleAt
def f_X3_scaleAt (g : ob_St) (n0 : Nat) (x1 : Int32) : Option Int64 :=
  (ob_gR 3 n0 3).bind fun v1 => (ob_gR 3 n0 0).bind fun v2 => (ob_gI g 5 v2 5).bind fun v3 => (ob_rL g v1 (v3 - x1)).bind fun v4 => some v4
theorem b_X3_scaleAt_0 {C : ob_Cx} (F : ob_Fx C cX3_scaleAt 2 RX3 (some .long) 0 0) {g : ob_St} {n0 : Nat} {x1 : Int32} {r : Int64} (h : f_X3_scaleAt g n0 x1 = some r) (k : ob_Rt C (some (.long r)) g) : ob_Ev C 0 [(0, ob_rv C n0), (1, .int x1)] [] g := by
  unfold f_X3_scaleAt at h
  refine ob_rload_n F 0 dX3_scaleAt_0 rfl ?_
  refine ob_getR F dX3_scaleAt_1 fl_X3_18 h fun v1 h => ?_
  refine ob_rload_n F 0 dX3_scaleAt_4 rfl ?_
  refine ob_getR F dX3_scaleAt_5 fl_X3_37 h fun v2 h => ?_
  refine ob_getI F dX3_scaleAt_8 fl_X3_41 h fun v3 h => ?_
  refine ob_iload_n F 1 dX3_scaleAt_11 rfl ?_
  refine ob_isub F dX3_scaleAt_12 ?_
  refine ob_lald F dX3_scaleAt_13 h fun v4 h => ?_
  obtain rfl := Option.some.inj h
  exact ob_lret F dX3_scaleAt_14 k
theorem t_X3_scaleAt {cf : ob_Cf} {g : ob_St} {n0 : Nat} {x1 : Int32} {r : Int64} (h : f_X3_scaleAt g n0 x1 = some r) : ob_Mt cf yX3_scaleAt cX3_scaleAt 2 (some .long) 0 0 [ob_rw cf n0, .int x1] g (some (.long r)) g := by
  refine ob_enter (by decide) (Nat.le_of_ble_eq_true rfl) rfl ?_
  intro C hC F k
  subst hC
  exact b_X3_scaleAt_0 F h k
-- X3_wholePay
def f_X3_wholePay (g : ob_St) (n0 : Nat) (x1 : Int32) (x2 : Int32) : Option Int32 :=
  (ob_gI g 1 n0 0).bind fun v1 => (if v1 = 0 then (some (x2 - x1)) else (if v1 = 1 then (some (x1 - x2)) else (if v1 = 2 then ((if x2 < x1 then (some 0) else ((ob_gI g 1 n0 2).bind fun v2 => some v2))) else (if v1 = 3 then ((ob_gI g 1 n0 2).bind fun v3 => some ((ob_imin x2 v3) - x1)) else (if v1 = 4 then (some (ob_iabs (x2 - x1))) else (some 0))))))
theorem b_X3_wholePay_0 {C : ob_Cx} (F : ob_Fx C cX3_wholePay 3 RX3 (some .int) 1 26) {g : ob_St} {n0 : Nat} {x1 : Int32} {x2 : Int32} {r : Int32} (h : f_X3_wholePay g n0 x1 x2 = some r) (k : ob_Rt C (some (.int r)) g) : ob_Ev C 0 [(0, ob_rv C n0), (1, .int x1), (2, .int x2)] [] g := by
  unfold f_X3_wholePay at h
  refine ob_rload_n F 0 dX3_wholePay_0 rfl ?_
  refine ob_getI F dX3_wholePay_1 fl_X3_124 h fun v1 h => ?_
  by_cases c0 : v1 = 0
  · rw [if_pos c0] at h
    refine ob_tsi F 0 40 dX3_wholePay_4 c0 (by decide) (by decide) rfl (by decide) ?_
    refine ob_iload_n F 2 dX3_wholePay_40 rfl ?_
    refine ob_iload_n F 1 dX3_wholePay_41 rfl ?_
    refine ob_isub F dX3_wholePay_42 ?_
    obtain rfl := Option.some.inj h
    exact ob_iret F dX3_wholePay_43 k
  rw [if_neg c0] at h
  by_cases c1 : v1 = 1
  · rw [if_pos c1] at h
    refine ob_tsi F 1 44 dX3_wholePay_4 c1 (by decide) (by decide) rfl (by decide) ?_
    refine ob_iload_n F 1 dX3_wholePay_44 rfl ?_
    refine ob_iload_n F 2 dX3_wholePay_45 rfl ?_
    refine ob_isub F dX3_wholePay_46 ?_
    obtain rfl := Option.some.inj h
    exact ob_iret F dX3_wholePay_47 k
  rw [if_neg c1] at h
  by_cases c2 : v1 = 2
  · rw [if_pos c2] at h
    refine ob_tsi F 2 48 dX3_wholePay_4 c2 (by decide) (by decide) rfl (by decide) ?_
    refine ob_iload_n F 2 dX3_wholePay_48 rfl ?_
    refine ob_iload_n F 1 dX3_wholePay_49 rfl ?_
    refine ob_icmp_lt F 60 dX3_wholePay_50 (by decide) h (fun h => ?_) (fun h => ?_)
    · refine ob_iconst F (v := 0) dX3_wholePay_60 (by decide) ?_
      obtain rfl := Option.some.inj h
      exact ob_iret F dX3_wholePay_61 k
    · refine ob_rload_n F 0 dX3_wholePay_53 rfl ?_
      refine ob_getI F dX3_wholePay_54 fl_X3_127 h fun v2 h => ?_
      refine ob_goto F 61 dX3_wholePay_57 (by decide) ?_
      obtain rfl := Option.some.inj h
      exact ob_iret F dX3_wholePay_61 k
  rw [if_neg c2] at h
  by_cases c3 : v1 = 3
  · rw [if_pos c3] at h
    refine ob_tsi F 3 62 dX3_wholePay_4 c3 (by decide) (by decide) rfl (by decide) ?_
    refine ob_iload_n F 2 dX3_wholePay_62 rfl ?_
    refine ob_rload_n F 0 dX3_wholePay_63 rfl ?_
    refine ob_getI F dX3_wholePay_64 fl_X3_127 h fun v3 h => ?_
    refine ob_mimin F dX3_wholePay_67 tw3_230 tw3_182 tw1_18 tw3_183 (Nat.le_of_ble_eq_true rfl) (by decide) ?_
    refine ob_iload_n F 1 dX3_wholePay_70 rfl ?_
    refine ob_isub F dX3_wholePay_71 ?_
    obtain rfl := Option.some.inj h
    exact ob_iret F dX3_wholePay_72 k
  rw [if_neg c3] at h
  by_cases c4 : v1 = 4
  · rw [if_pos c4] at h
    refine ob_tsi F 4 73 dX3_wholePay_4 c4 (by decide) (by decide) rfl (by decide) ?_
    refine ob_iload_n F 2 dX3_wholePay_73 rfl ?_
    refine ob_iload_n F 1 dX3_wholePay_74 rfl ?_
    refine ob_isub F dX3_wholePay_75 ?_
    refine ob_miabs F dX3_wholePay_76 tw3_231 tw3_232 tw1_18 tw3_233 (Nat.le_of_ble_eq_true rfl) (by decide) ?_
    obtain rfl := Option.some.inj h
    exact ob_iret F dX3_wholePay_79 k
  rw [if_neg c4] at h
  have q0 := ob_nei c0 (k := 0) rfl
  have q1 := ob_nei c1 (k := 1) rfl
  have q2 := ob_nei c2 (k := 2) rfl
  have q3 := ob_nei c3 (k := 3) rfl
  have q4 := ob_nei c4 (k := 4) rfl
  refine ob_tso F 80 dX3_wholePay_4 (by omega) (by decide) ?_
  refine ob_iconst F (v := 0) dX3_wholePay_80 (by decide) ?_
  obtain rfl := Option.some.inj h
  exact ob_iret F dX3_wholePay_81 k
theorem t_X3_wholePay {cf : ob_Cf} {g : ob_St} {n0 : Nat} {x1 : Int32} {x2 : Int32} {r : Int32} (h : f_X3_wholePay g n0 x1 x2 = some r) : ob_Mt cf yX3_wholePay cX3_wholePay 3 (some .int) 1 26 [ob_rw cf n0, .int x1, .int x2] g (some (.int r)) g := by
  refine ob_enter (by decide) (Nat.le_of_ble_eq_true rfl) (Or.inl rfl) ?_
  intro C hC F k
  subst hC
  exact b_X3_wholePay_0 F h k
-- X3_payOf
def f_X3_payOf (g : ob_St) (n0 : Nat) (n1 : Nat) (x2 : Int32) (x3 : Int32) (y4 : Int64) : Option Int64 :=
  (ob_gI g 1 n1 0).bind fun v1 => (if v1 = 5 then ((ob_gR 3 n0 4).bind fun v5 => (ob_gI g 1 n1 2).bind fun v6 => (ob_rR 19 v5 v6).bind fun v7 => (ob_gR 9 v7 2).bind fun v8 => (ob_gR 4 v8 0).bind fun v9 => (ob_rL g v9 x3).bind fun v10 => some (ob_lmax 0 (v10 - ((Int32.toInt64 x2) * y4)))) else ((ob_gR 3 n0 2).bind fun v2 => (ob_rI g 14 v2 x3).bind fun v3 => (f_X3_wholePay g n1 x2 v3).bind fun v4 => some ((Int32.toInt64 (ob_imax 0 v4)) * y4)))
theorem b_X3_payOf_0 {C : ob_Cx} (F : ob_Fx C cX3_payOf 6 RX3 (some .long) 2 48) {g : ob_St} {n0 : Nat} {n1 : Nat} {x2 : Int32} {x3 : Int32} {y4 : Int64} {r : Int64} (h : f_X3_payOf g n0 n1 x2 x3 y4 = some r) (k : ob_Rt C (some (.long r)) g) : ob_Ev C 0 [(0, ob_rv C n0), (1, ob_rv C n1), (2, .int x2), (3, .int x3), (4, .long y4)] [] g := by
  unfold f_X3_payOf at h
  refine ob_rload_n F 1 dX3_payOf_0 rfl ?_
  refine ob_getI F dX3_payOf_1 fl_X3_124 h fun v1 h => ?_
  refine ob_iconst F (v := 5) dX3_payOf_4 (by decide) ?_
  refine ob_icmp_ne F 36 dX3_payOf_5 (by decide) h (fun h => ?_) (fun h => ?_)
  · refine ob_iconst F (v := 0) dX3_payOf_36 (by decide) ?_
    refine ob_rload_n F 1 dX3_payOf_37 rfl ?_
    refine ob_iload_n F 2 dX3_payOf_38 rfl ?_
    refine ob_rload_n F 0 dX3_payOf_39 rfl ?_
    refine ob_getR F dX3_payOf_40 fl_X3_15 h fun v2 h => ?_
    refine ob_iload_n F 3 dX3_payOf_43 rfl ?_
    refine ob_iald F dX3_payOf_44 h fun v3 h => ?_
    refine ob_cSi F dX3_payOf_45 im_X3_wholePay tw3_227 h (fun b hb => t_X3_wholePay hb) rfl rfl (Nat.le_of_ble_eq_true rfl) (by decide) fun v4 h => ?_
    refine ob_mimax F dX3_payOf_48 tw3_234 tw3_57 tw1_18 tw3_58 (Nat.le_of_ble_eq_true rfl) (by decide) ?_
    refine ob_i2l F dX3_payOf_51 ?_
    refine ob_lload F 4 dX3_payOf_52 rfl ?_
    refine ob_lmul F dX3_payOf_54 ?_
    obtain rfl := Option.some.inj h
    exact ob_lret F dX3_payOf_55 k
  · refine ob_lconst F (v := 0) dX3_payOf_8 (by decide) ?_
    refine ob_rload_n F 0 dX3_payOf_9 rfl ?_
    refine ob_getR F dX3_payOf_10 fl_X3_24 h fun v5 h => ?_
    refine ob_rload_n F 1 dX3_payOf_13 rfl ?_
    refine ob_getI F dX3_payOf_14 fl_X3_127 h fun v6 h => ?_
    refine ob_aald F dX3_payOf_17 (by decide) h fun v7 h => ?_
    refine ob_getR F dX3_payOf_18 fl_X3_89 h fun v8 h => ?_
    refine ob_getR F dX3_payOf_21 fl_X3_93 h fun v9 h => ?_
    refine ob_iload_n F 3 dX3_payOf_24 rfl ?_
    refine ob_lald F dX3_payOf_25 h fun v10 h => ?_
    refine ob_iload_n F 2 dX3_payOf_26 rfl ?_
    refine ob_i2l F dX3_payOf_27 ?_
    refine ob_lload F 4 dX3_payOf_28 rfl ?_
    refine ob_lmul F dX3_payOf_30 ?_
    refine ob_lsub F dX3_payOf_31 ?_
    refine ob_mlmax F dX3_payOf_32 tw3_224 tw3_225 tw1_18 tw3_226 (Nat.le_of_ble_eq_true rfl) (by decide) ?_
    obtain rfl := Option.some.inj h
    exact ob_lret F dX3_payOf_35 k
theorem t_X3_payOf {cf : ob_Cf} {g : ob_St} {n0 : Nat} {n1 : Nat} {x2 : Int32} {x3 : Int32} {y4 : Int64} {r : Int64} (h : f_X3_payOf g n0 n1 x2 x3 y4 = some r) : ob_Mt cf yX3_payOf cX3_payOf 6 (some .long) 2 48 [ob_rw cf n0, ob_rw cf n1, .int x2, .int x3, .long y4] g (some (.long r)) g := by
  refine ob_enter (by decide) (Nat.le_of_ble_eq_true rfl) rfl ?_
  intro C hC F k
  subst hC
  exact b_X3_payOf_0 F h k
-- X3_upFrom
def f_X3_upFrom (n0 : Nat) (x1 : Int32) (x2 : Int32) : Option Int32 :=
  some ((x2 + x1) + 2)
theorem b_X3_upFrom_0 {C : ob_Cx} (F : ob_Fx C cX3_upFrom 3 RX3 (some .int) 0 0) {g : ob_St} {n0 : Nat} {x1 : Int32} {x2 : Int32} {r : Int32} (h : f_X3_upFrom n0 x1 x2 = some r) (k : ob_Rt C (some (.int r)) g) : ob_Ev C 0 [(0, ob_rv C n0), (1, .int x1), (2, .int x2)] [] g := by
  unfold f_X3_upFrom at h
  refine ob_iload_n F 2 dX3_upFrom_0 rfl ?_
  refine ob_iload_n F 1 dX3_upFrom_1 rfl ?_
  refine ob_iadd F dX3_upFrom_2 ?_
  refine ob_iconst F (v := 2) dX3_upFrom_3 (by decide) ?_
  refine ob_iadd F dX3_upFrom_4 ?_
  obtain rfl := Option.some.inj h
  exact ob_iret F dX3_upFrom_5 k
theorem t_X3_upFrom {cf : ob_Cf} {g : ob_St} {n0 : Nat} {x1 : Int32} {x2 : Int32} {r : Int32} (h : f_X3_upFrom n0 x1 x2 = some r) : ob_Mt cf yX3_upFrom cX3_upFrom 3 (some .int) 0 0 [ob_rw cf n0, .int x1, .int x2] g (some (.int r)) g := by
  refine ob_enter (by decide) (Nat.le_of_ble_eq_true rfl) (Or.inl rfl) ?_
  intro C hC F k
  subst hC
  exact b_X3_upFrom_0 F h k
-- X3_downFrom
def f_X3_downFrom (n0 : Nat) (x1 : Int32) (x2 : Int32) : Option Int32 :=
  some ((x2 + x1) + 1)
theorem b_X3_downFrom_0 {C : ob_Cx} (F : ob_Fx C cX3_downFrom 3 RX3 (some .int) 0 0) {g : ob_St} {n0 : Nat} {x1 : Int32} {x2 : Int32} {r : Int32} (h : f_X3_downFrom n0 x1 x2 = some r) (k : ob_Rt C (some (.int r)) g) : ob_Ev C 0 [(0, ob_rv C n0), (1, .int x1), (2, .int x2)] [] g := by
  unfold f_X3_downFrom at h
  refine ob_iload_n F 2 dX3_downFrom_0 rfl ?_
  refine ob_iload_n F 1 dX3_downFrom_1 rfl ?_
  refine ob_iadd F dX3_downFrom_2 ?_
  refine ob_iconst F (v := 1) dX3_downFrom_3 (by decide) ?_
  refine ob_iadd F dX3_downFrom_4 ?_
  obtain rfl := Option.some.inj h
  exact ob_iret F dX3_downFrom_5 k
theorem t_X3_downFrom {cf : ob_Cf} {g : ob_St} {n0 : Nat} {x1 : Int32} {x2 : Int32} {r : Int32} (h : f_X3_downFrom n0 x1 x2 = some r) : ob_Mt cf yX3_downFrom cX3_downFrom 3 (some .int) 0 0 [ob_rw cf n0, .int x1, .int x2] g (some (.int r)) g := by
  refine ob_enter (by decide) (Nat.le_of_ble_eq_true rfl) (Or.inl rfl) ?_
  intro C hC F k
  subst hC
  exact b_X3_downFrom_0 F h k
-- X3_heldOf
def f_X3_heldOf (g : ob_St) (n0 : Nat) (n1 : Nat) (x2 : Int32) (x3 : Int32) : Option Int64 :=
  (ob_gR 3 n0 0).bind fun v1 => (ob_gI g 5 v1 5).bind fun v2 => (if x2 < v2 then ((ob_gR 3 n0 0).bind fun v3 => (ob_gR 5 v3 0).bind fun v4 => (ob_rI g 14 v4 (x2 + 1)).bind fun v5 => (ob_ck 3 n0 (f_X3_upFrom n0 x2 x3)).bind fun v6 => (ob_rL g n1 v6).bind fun v7 => (ob_gR 3 n0 0).bind fun v8 => (ob_gI g 5 v8 4).bind fun v9 => (ob_ck 3 n0 (f_X3_downFrom n0 x2 x3)).bind fun v10 => (ob_rL g n1 v10).bind fun v11 => some (((Int32.toInt64 v5) * v7) + ((Int32.toInt64 (v9 - v5)) * v11))) else (some 0))
theorem b_X3_heldOf_0 {C : ob_Cx} (F : ob_Fx C cX3_heldOf 5 RX3 (some .long) 1 22) {g : ob_St} {n0 : Nat} {n1 : Nat} {x2 : Int32} {x3 : Int32} {r : Int64} (h : f_X3_heldOf g n0 n1 x2 x3 = some r) (k : ob_Rt C (some (.long r)) g) : ob_Ev C 0 [(0, ob_rv C n0), (1, ob_rv C n1), (2, .int x2), (3, .int x3)] [] g := by
  unfold f_X3_heldOf at h
  refine ob_iload_n F 2 dX3_heldOf_0 rfl ?_
  refine ob_rload_n F 0 dX3_heldOf_1 rfl ?_
  refine ob_getR F dX3_heldOf_2 fl_X3_37 h fun v1 h => ?_
  refine ob_getI F dX3_heldOf_5 fl_X3_41 h fun v2 h => ?_
  refine ob_icmp_lt F 13 dX3_heldOf_8 (by decide) h (fun h => ?_) (fun h => ?_)
  · refine ob_rload_n F 0 dX3_heldOf_13 rfl ?_
    refine ob_getR F dX3_heldOf_14 fl_X3_37 h fun v3 h => ?_
    refine ob_getR F dX3_heldOf_17 fl_X3_78 h fun v4 h => ?_
    refine ob_iload_n F 2 dX3_heldOf_20 rfl ?_
    refine ob_iconst F (v := 1) dX3_heldOf_21 (by decide) ?_
    refine ob_iadd F dX3_heldOf_22 ?_
    refine ob_iald F dX3_heldOf_23 h fun v5 h => ?_
    refine ob_istore F (ls2 := [(4, .int v5), (0, ob_rv C n0), (1, ob_rv C n1), (2, .int x2), (3, .int x3)]) dX3_heldOf_24 (by decide) rfl ?_
    refine ob_iload F 0 dX3_heldOf_26 rfl ?_
    refine ob_i2l F dX3_heldOf_28 ?_
    refine ob_rload_n F 2 dX3_heldOf_29 rfl ?_
    refine ob_rload_n F 1 dX3_heldOf_30 rfl ?_
    refine ob_iload_n F 3 dX3_heldOf_31 rfl ?_
    refine ob_iload_n F 4 dX3_heldOf_32 rfl ?_
    refine ob_cVi F dX3_heldOf_33 im_X3_upFrom tw4_3 h (fun b hb => t_X3_upFrom hb) rfl rfl (Nat.le_of_ble_eq_true rfl) (by decide) fun v6 h => ?_
    refine ob_lald F dX3_heldOf_36 h fun v7 h => ?_
    refine ob_lmul F dX3_heldOf_37 ?_
    refine ob_rload_n F 1 dX3_heldOf_38 rfl ?_
    refine ob_getR F dX3_heldOf_39 fl_X3_37 h fun v8 h => ?_
    refine ob_getI F dX3_heldOf_42 fl_X3_72 h fun v9 h => ?_
    refine ob_iload F 0 dX3_heldOf_45 rfl ?_
    refine ob_isub F dX3_heldOf_47 ?_
    refine ob_i2l F dX3_heldOf_48 ?_
    refine ob_rload_n F 2 dX3_heldOf_49 rfl ?_
    refine ob_rload_n F 1 dX3_heldOf_50 rfl ?_
    refine ob_iload_n F 3 dX3_heldOf_51 rfl ?_
    refine ob_iload_n F 4 dX3_heldOf_52 rfl ?_
    refine ob_cVi F dX3_heldOf_53 im_X3_downFrom tw4_7 h (fun b hb => t_X3_downFrom hb) rfl rfl (Nat.le_of_ble_eq_true rfl) (by decide) fun v10 h => ?_
    refine ob_lald F dX3_heldOf_56 h fun v11 h => ?_
    refine ob_lmul F dX3_heldOf_57 ?_
    refine ob_ladd F dX3_heldOf_58 ?_
    obtain rfl := Option.some.inj h
    exact ob_lret F dX3_heldOf_59 k
  · refine ob_lconst F (v := 0) dX3_heldOf_11 (by decide) ?_
    obtain rfl := Option.some.inj h
    exact ob_lret F dX3_heldOf_12 k
theorem t_X3_heldOf {cf : ob_Cf} {g : ob_St} {n0 : Nat} {n1 : Nat} {x2 : Int32} {x3 : Int32} {r : Int64} (h : f_X3_heldOf g n0 n1 x2 x3 = some r) : ob_Mt cf yX3_heldOf cX3_heldOf 5 (some .long) 1 22 [ob_rw cf n0, ob_rw cf n1, .int x2, .int x3] g (some (.long r)) g := by
  refine ob_enter (by decide) (Nat.le_of_ble_eq_true rfl) rfl ?_
  intro C hC F k
  subst hC
  exact b_X3_heldOf_0 F h k
-- X3_decide
def B_X3_decide_91 (g : ob_St) (n1 : Nat) (x6 : Int32) (y8 : Int64) (y10 : Int64) (x12 : Int32) (s0 : Nat) (s1 : Int32) (s2 : Int64) : Option ob_St :=
  (ob_wL g s0 s1 s2).bind fun g5 => (ob_gR 4 n1 1).bind fun v6 => (if x12 = 0 then ((if y8 ≤ y10 then ((ob_wI g5 v6 x6 0).bind fun g7 => some g7) else ((ob_wI g5 v6 x6 4).bind fun g8 => some g8))) else ((ob_wI g5 v6 x6 1).bind fun g9 => some g9))
theorem b_X3_decide_91 {C : ob_Cx} (F : ob_Fx C cX3_decide 13 RX3 none 2 46) {g : ob_St} {n1 : Nat} {x6 : Int32} {y8 : Int64} {y10 : Int64} {x12 : Int32} {s0 : Nat} {s1 : Int32} {s2 : Int64} {r : ob_St} (h : B_X3_decide_91 g n1 x6 y8 y10 x12 s0 s1 s2 = some r) (k : ob_Rt C none r) : ob_Ev C 91 [(1, ob_rv C n1), (6, .int x6), (8, .long y8), (10, .long y10), (12, .int x12)] [.long s2, .int s1, ob_rv C s0] g := by
  unfold B_X3_decide_91 at h
  refine ob_last F dX3_decide_91 h fun g5 h => ?_
  refine ob_rload_n F 0 dX3_decide_92 rfl ?_
  refine ob_getR F dX3_decide_93 fl_X3_157 h fun v6 h => ?_
  refine ob_iload F 1 dX3_decide_96 rfl ?_
  refine ob_iload F 4 dX3_decide_98 rfl ?_
  refine ob_if_eq F 107 dX3_decide_100 (by decide) h (fun h => ?_) (fun h => ?_)
  · refine ob_lload F 3 dX3_decide_107 rfl ?_
    refine ob_lload F 2 dX3_decide_109 rfl ?_
    refine ob_lcmp_ge F 119 dX3_decide_111 dX3_decide_112 (by decide) h (fun h => ?_) (fun h => ?_)
    · refine ob_iconst F (v := 0) dX3_decide_119 (by decide) ?_
      refine ob_iast F dX3_decide_120 h fun g7 h => ?_
      obtain rfl := Option.some.inj h
      exact ob_vret F dX3_decide_121 k
    · refine ob_iconst F (v := 4) dX3_decide_115 (by decide) ?_
      refine ob_goto F 120 dX3_decide_116 (by decide) ?_
      refine ob_iast F dX3_decide_120 h fun g8 h => ?_
      obtain rfl := Option.some.inj h
      exact ob_vret F dX3_decide_121 k
  · refine ob_iconst F (v := 1) dX3_decide_103 (by decide) ?_
    refine ob_goto F 120 dX3_decide_104 (by decide) ?_
    refine ob_iast F dX3_decide_120 h fun g9 h => ?_
    obtain rfl := Option.some.inj h
    exact ob_vret F dX3_decide_121 k
def B_X3_decide_72 (g : ob_St) (n1 : Nat) (y2 : Int64) (x6 : Int32) (y8 : Int64) (y10 : Int64) (s0 : Int32) : Option ob_St :=
  (ob_gR 4 n1 0).bind fun v4 => (if s0 = 0 then (B_X3_decide_91 g n1 x6 y8 y10 s0 v4 x6 y10) else (B_X3_decide_91 g n1 x6 y8 y10 s0 v4 x6 y2))
theorem b_X3_decide_72 {C : ob_Cx} (F : ob_Fx C cX3_decide 13 RX3 none 2 46) {g : ob_St} {n1 : Nat} {y2 : Int64} {x6 : Int32} {y8 : Int64} {y10 : Int64} {s0 : Int32} {r : ob_St} (h : B_X3_decide_72 g n1 y2 x6 y8 y10 s0 = some r) (k : ob_Rt C none r) : ob_Ev C 72 [(1, ob_rv C n1), (2, .long y2), (6, .int x6), (8, .long y8), (10, .long y10)] [.int s0] g := by
  unfold B_X3_decide_72 at h
  refine ob_istore F (ls2 := [(12, .int s0), (1, ob_rv C n1), (2, .long y2), (6, .int x6), (8, .long y8), (10, .long y10)]) dX3_decide_72 (by decide) rfl ?_
  refine ob_rload_n F 1 dX3_decide_74 rfl ?_
  refine ob_getR F dX3_decide_75 fl_X3_93 h fun v4 h => ?_
  refine ob_iload F 3 dX3_decide_78 rfl ?_
  refine ob_iload F 0 dX3_decide_80 rfl ?_
  refine ob_if_eq F 89 dX3_decide_82 (by decide) h (fun h => ?_) (fun h => ?_)
  · refine ob_lload F 5 dX3_decide_89 rfl ?_
    exact ob_sub [1, 3, 4, 5, 0] rfl (b_X3_decide_91 F h k)
  · refine ob_lload_n F 2 dX3_decide_85 rfl ?_
    refine ob_goto F 91 dX3_decide_86 (by decide) ?_
    exact ob_sub [1, 3, 4, 5, 0] rfl (b_X3_decide_91 F h k)
def B_X3_decide_71 (g : ob_St) (n1 : Nat) (y2 : Int64) (x6 : Int32) (y8 : Int64) (y10 : Int64) : Option ob_St :=
  B_X3_decide_72 g n1 y2 x6 y8 y10 0
theorem b_X3_decide_71 {C : ob_Cx} (F : ob_Fx C cX3_decide 13 RX3 none 2 46) {g : ob_St} {n1 : Nat} {y2 : Int64} {x6 : Int32} {y8 : Int64} {y10 : Int64} {r : ob_St} (h : B_X3_decide_71 g n1 y2 x6 y8 y10 = some r) (k : ob_Rt C none r) : ob_Ev C 71 [(1, ob_rv C n1), (2, .long y2), (6, .int x6), (8, .long y8), (10, .long y10)] [] g := by
  unfold B_X3_decide_71 at h
  refine ob_iconst F (v := 0) dX3_decide_71 (by decide) ?_
  exact b_X3_decide_72 F h k
def B_X3_decide_49 (g : ob_St) (n1 : Nat) (y2 : Int64) (x6 : Int32) (x7 : Int32) (y8 : Int64) (y10 : Int64) : Option ob_St :=
  (if x7 = 0 then (B_X3_decide_71 g n1 y2 x6 y8 y10) else ((if y2 ≤ 0 then (B_X3_decide_71 g n1 y2 x6 y8 y10) else ((if y2 < y10 then (B_X3_decide_71 g n1 y2 x6 y8 y10) else (B_X3_decide_72 g n1 y2 x6 y8 y10 1))))))
theorem b_X3_decide_49 {C : ob_Cx} (F : ob_Fx C cX3_decide 13 RX3 none 2 46) {g : ob_St} {n1 : Nat} {y2 : Int64} {x6 : Int32} {x7 : Int32} {y8 : Int64} {y10 : Int64} {r : ob_St} (h : B_X3_decide_49 g n1 y2 x6 x7 y8 y10 = some r) (k : ob_Rt C none r) : ob_Ev C 49 [(1, ob_rv C n1), (2, .long y2), (6, .int x6), (7, .int x7), (8, .long y8), (10, .long y10)] [] g := by
  unfold B_X3_decide_49 at h
  refine ob_iload F 3 dX3_decide_49 rfl ?_
  refine ob_if_eq F 71 dX3_decide_51 (by decide) h (fun h => ?_) (fun h => ?_)
  · exact ob_sub [0, 1, 2, 4, 5] rfl (b_X3_decide_71 F h k)
  · refine ob_lload_n F 1 dX3_decide_54 rfl ?_
    refine ob_lconst F (v := 0) dX3_decide_55 (by decide) ?_
    refine ob_lcmp_le F 71 dX3_decide_56 dX3_decide_57 (by decide) h (fun h => ?_) (fun h => ?_)
    · exact ob_sub [0, 1, 2, 4, 5] rfl (b_X3_decide_71 F h k)
    · refine ob_lload_n F 1 dX3_decide_60 rfl ?_
      refine ob_lload F 5 dX3_decide_61 rfl ?_
      refine ob_lcmp_lt F 71 dX3_decide_63 dX3_decide_64 (by decide) h (fun h => ?_) (fun h => ?_)
      · exact ob_sub [0, 1, 2, 4, 5] rfl (b_X3_decide_71 F h k)
      · refine ob_iconst F (v := 1) dX3_decide_67 (by decide) ?_
        refine ob_goto F 72 dX3_decide_68 (by decide) ?_
        exact ob_sub [0, 1, 2, 4, 5] rfl (b_X3_decide_72 F h k)
def f_X3_decide (g : ob_St) (n0 : Nat) (n1 : Nat) (y2 : Int64) (n4 : Nat) (x5 : Int32) (x6 : Int32) (x7 : Int32) : Option ob_St :=
  (ob_gR 4 n1 0).bind fun v1 => (ob_ck 3 n0 (f_X3_heldOf g n0 v1 x5 x6)).bind fun v2 => (ob_gI g 1 n4 8).bind fun v3 => (if v3 = (-1) then (B_X3_decide_49 g n1 y2 x6 x7 v2 v2) else ((ob_gI g 1 n4 8).bind fun v10 => (ob_ck 3 n0 (f_X3_scaleAt g n0 x5)).bind fun v11 => ob_let (ob_lmin v2 (y2 + ((Int32.toInt64 v10) * v11))) fun z12 => B_X3_decide_49 g n1 y2 x6 x7 v2 z12))
theorem b_X3_decide_0 {C : ob_Cx} (F : ob_Fx C cX3_decide 13 RX3 none 2 46) {g : ob_St} {n0 : Nat} {n1 : Nat} {y2 : Int64} {n4 : Nat} {x5 : Int32} {x6 : Int32} {x7 : Int32} {r : ob_St} (h : f_X3_decide g n0 n1 y2 n4 x5 x6 x7 = some r) (k : ob_Rt C none r) : ob_Ev C 0 [(0, ob_rv C n0), (1, ob_rv C n1), (2, .long y2), (4, ob_rv C n4), (5, .int x5), (6, .int x6), (7, .int x7)] [] g := by
  unfold f_X3_decide at h
  refine ob_rload_n F 0 dX3_decide_0 rfl ?_
  refine ob_rload_n F 1 dX3_decide_1 rfl ?_
  refine ob_getR F dX3_decide_2 fl_X3_93 h fun v1 h => ?_
  refine ob_iload F 4 dX3_decide_5 rfl ?_
  refine ob_iload F 5 dX3_decide_7 rfl ?_
  refine ob_cVl F dX3_decide_9 im_X3_heldOf tw3_239 h (fun b hb => t_X3_heldOf hb) rfl rfl (Nat.le_of_ble_eq_true rfl) (by decide) fun v2 h => ?_
  refine ob_lstore F (ls2 := [(8, .long v2), (0, ob_rv C n0), (1, ob_rv C n1), (2, .long y2), (4, ob_rv C n4), (5, .int x5), (6, .int x6), (7, .int x7)]) dX3_decide_12 (by decide) rfl ?_
  refine ob_lload F 0 dX3_decide_14 rfl ?_
  refine ob_lstore F (ls2 := [(10, .long v2), (8, .long v2), (0, ob_rv C n0), (1, ob_rv C n1), (2, .long y2), (4, ob_rv C n4), (5, .int x5), (6, .int x6), (7, .int x7)]) dX3_decide_16 (by decide) rfl ?_
  refine ob_rload F 5 dX3_decide_18 rfl ?_
  refine ob_getI F dX3_decide_20 fl_X3_152 h fun v3 h => ?_
  refine ob_iconst F (v := (-1)) dX3_decide_23 (by decide) ?_
  refine ob_icmp_eq F 49 dX3_decide_24 (by decide) h (fun h => ?_) (fun h => ?_)
  · exact ob_sub [3, 4, 7, 8, 1, 0] rfl (b_X3_decide_49 F h k)
  · refine ob_lload F 1 dX3_decide_27 rfl ?_
    refine ob_lload_n F 4 dX3_decide_29 rfl ?_
    refine ob_rload F 5 dX3_decide_30 rfl ?_
    refine ob_getI F dX3_decide_32 fl_X3_152 h fun v10 h => ?_
    refine ob_i2l F dX3_decide_35 ?_
    refine ob_rload_n F 2 dX3_decide_36 rfl ?_
    refine ob_iload F 6 dX3_decide_37 rfl ?_
    refine ob_cVl F dX3_decide_39 im_X3_scaleAt tw3_216 h (fun b hb => t_X3_scaleAt hb) rfl rfl (Nat.le_of_ble_eq_true rfl) (by decide) fun v11 h => ?_
    refine ob_lmul F dX3_decide_42 ?_
    refine ob_ladd F dX3_decide_43 ?_
    refine ob_mlmin F dX3_decide_44 tw4_11 tw4_12 tw1_18 tw4_13 (Nat.le_of_ble_eq_true rfl) (by decide) ?_
    refine ob_letl h fun z12 h => ?_
    refine ob_lstore F (ls2 := [(10, .long z12), (8, .long v2), (0, ob_rv C n0), (1, ob_rv C n1), (2, .long y2), (4, ob_rv C n4), (5, .int x5), (6, .int x6), (7, .int x7)]) dX3_decide_47 (by decide) rfl ?_
    exact ob_sub [3, 4, 7, 8, 1, 0] rfl (b_X3_decide_49 F h k)
theorem t_X3_decide {cf : ob_Cf} {g : ob_St} {n0 : Nat} {n1 : Nat} {y2 : Int64} {n4 : Nat} {x5 : Int32} {x6 : Int32} {x7 : Int32} {r : ob_St} (h : f_X3_decide g n0 n1 y2 n4 x5 x6 x7 = some r) : ob_Mt cf yX3_decide cX3_decide 13 none 2 46 [ob_rw cf n0, ob_rw cf n1, .long y2, ob_rw cf n4, .int x5, .int x6, .int x7] g none r := by
  refine ob_enter (by decide) (Nat.le_of_ble_eq_true rfl) rfl ?_
  intro C hC F k
  subst hC
  exact b_X3_decide_0 F h k
-- X11_isPast
def f_X11_isPast (x0 : Int32) (x1 : Int32) (x2 : Int32) : Option Int32 :=
  (if x2 = 1 then ((if x0 < x1 then (some 0) else (some 1))) else ((if x1 < x0 then (some 0) else (some 1))))
theorem b_X11_isPast_0 {C : ob_Cx} (F : ob_Fx C cX11_isPast 3 RX11 (some .boolean) 0 0) {g : ob_St} {x0 : Int32} {x1 : Int32} {x2 : Int32} {r : Int32} (h : f_X11_isPast x0 x1 x2 = some r) (k : ob_Rt C (some (.int r)) g) : ob_Ev C 0 [(0, .int x0), (1, .int x1), (2, .int x2)] [] g := by
  unfold f_X11_isPast at h
  refine ob_iload_n F 2 dX11_isPast_0 rfl ?_
  refine ob_iconst F (v := 1) dX11_isPast_1 (by decide) ?_
  refine ob_icmp_ne F 18 dX11_isPast_2 (by decide) h (fun h => ?_) (fun h => ?_)
  · refine ob_iload_n F 0 dX11_isPast_18 rfl ?_
    refine ob_iload_n F 1 dX11_isPast_19 rfl ?_
    refine ob_icmp_gt F 27 dX11_isPast_20 (by decide) h (fun h => ?_) (fun h => ?_)
    · refine ob_iconst F (v := 0) dX11_isPast_27 (by decide) ?_
      obtain rfl := Option.some.inj h
      exact ob_zret F dX11_isPast_28 (Or.inl rfl) k
    · refine ob_iconst F (v := 1) dX11_isPast_23 (by decide) ?_
      refine ob_goto F 28 dX11_isPast_24 (by decide) ?_
      obtain rfl := Option.some.inj h
      exact ob_zret F dX11_isPast_28 (Or.inr rfl) k
  · refine ob_iload_n F 0 dX11_isPast_5 rfl ?_
    refine ob_iload_n F 1 dX11_isPast_6 rfl ?_
    refine ob_icmp_lt F 14 dX11_isPast_7 (by decide) h (fun h => ?_) (fun h => ?_)
    · refine ob_iconst F (v := 0) dX11_isPast_14 (by decide) ?_
      refine ob_goto F 28 dX11_isPast_15 (by decide) ?_
      obtain rfl := Option.some.inj h
      exact ob_zret F dX11_isPast_28 (Or.inl rfl) k
    · refine ob_iconst F (v := 1) dX11_isPast_10 (by decide) ?_
      refine ob_goto F 28 dX11_isPast_11 (by decide) ?_
      obtain rfl := Option.some.inj h
      exact ob_zret F dX11_isPast_28 (Or.inr rfl) k
theorem t_X11_isPast {cf : ob_Cf} {g : ob_St} {x0 : Int32} {x1 : Int32} {x2 : Int32} {r : Int32} (h : f_X11_isPast x0 x1 x2 = some r) : ob_Mt cf yX11_isPast cX11_isPast 3 (some .boolean) 0 0 [.int x0, .int x1, .int x2] g (some (.int r)) g := by
  refine ob_enter (by decide) (Nat.le_of_ble_eq_true rfl) (Or.inr rfl) ?_
  intro C hC F k
  subst hC
  exact b_X11_isPast_0 F h k
-- X3_isTouched
def f_X3_isTouched (g : ob_St) (n0 : Nat) (n1 : Nat) (x2 : Int32) : Option Int32 :=
  (ob_gI g 1 n1 4).bind fun v1 => (if v1 = 0 then (some 0) else ((ob_gR 3 n0 2).bind fun v2 => (ob_rI g 14 v2 x2).bind fun v3 => (ob_gI g 1 n1 6).bind fun v4 => (ob_gI g 1 n1 5).bind fun v5 => (f_X11_isPast v3 v4 v5).bind fun v6 => (if v6 = 0 then (some 0) else (some 1))))
theorem b_X3_isTouched_0 {C : ob_Cx} (F : ob_Fx C cX3_isTouched 3 RX3 (some .boolean) 1 22) {g : ob_St} {n0 : Nat} {n1 : Nat} {x2 : Int32} {r : Int32} (h : f_X3_isTouched g n0 n1 x2 = some r) (k : ob_Rt C (some (.int r)) g) : ob_Ev C 0 [(0, ob_rv C n0), (1, ob_rv C n1), (2, .int x2)] [] g := by
  unfold f_X3_isTouched at h
  refine ob_rload_n F 1 dX3_isTouched_0 rfl ?_
  refine ob_getI F dX3_isTouched_1 fl_X3_160 h fun v1 h => ?_
  refine ob_if_eq F 31 dX3_isTouched_4 (by decide) h (fun h => ?_) (fun h => ?_)
  · refine ob_iconst F (v := 0) dX3_isTouched_31 (by decide) ?_
    obtain rfl := Option.some.inj h
    exact ob_zret F dX3_isTouched_32 (Or.inl rfl) k
  · refine ob_rload_n F 0 dX3_isTouched_7 rfl ?_
    refine ob_getR F dX3_isTouched_8 fl_X3_15 h fun v2 h => ?_
    refine ob_iload_n F 2 dX3_isTouched_11 rfl ?_
    refine ob_iald F dX3_isTouched_12 h fun v3 h => ?_
    refine ob_rload_n F 1 dX3_isTouched_13 rfl ?_
    refine ob_getI F dX3_isTouched_14 fl_X3_170 h fun v4 h => ?_
    refine ob_rload_n F 1 dX3_isTouched_17 rfl ?_
    refine ob_getI F dX3_isTouched_18 fl_X3_173 h fun v5 h => ?_
    refine ob_cNi F dX3_isTouched_21 im_X11_isPast (by decide +kernel) h (fun b hb => t_X11_isPast hb) rfl rfl (Nat.le_of_ble_eq_true rfl) (by decide) fun v6 h => ?_
    refine ob_if_eq F 31 dX3_isTouched_24 (by decide) h (fun h => ?_) (fun h => ?_)
    · refine ob_iconst F (v := 0) dX3_isTouched_31 (by decide) ?_
      obtain rfl := Option.some.inj h
      exact ob_zret F dX3_isTouched_32 (Or.inl rfl) k
    · refine ob_iconst F (v := 1) dX3_isTouched_27 (by decide) ?_
      refine ob_goto F 32 dX3_isTouched_28 (by decide) ?_
      obtain rfl := Option.some.inj h
      exact ob_zret F dX3_isTouched_32 (Or.inr rfl) k
theorem t_X3_isTouched {cf : ob_Cf} {g : ob_St} {n0 : Nat} {n1 : Nat} {x2 : Int32} {r : Int32} (h : f_X3_isTouched g n0 n1 x2 = some r) : ob_Mt cf yX3_isTouched cX3_isTouched 3 (some .boolean) 1 22 [ob_rw cf n0, ob_rw cf n1, .int x2] g (some (.int r)) g := by
  refine ob_enter (by decide) (Nat.le_of_ble_eq_true rfl) (Or.inr rfl) ?_
  intro C hC F k
  subst hC
  exact b_X3_isTouched_0 F h k
-- X3_bar
def B_X3_bar_101 (g : ob_St) (n2 : Nat) (x4 : Int32) (n6 : Nat) (s0 : Nat) (s1 : Int32) (s2 : Int64) : Option ob_St :=
  (ob_wL g s0 s1 s2).bind fun g19 => (ob_gR 4 n6 1).bind fun v20 => (ob_gI g19 1 n2 4).bind fun v21 => (if v21 = 1 then ((ob_wI g19 v20 x4 2).bind fun g23 => some g23) else ((ob_wI g19 v20 x4 3).bind fun g22 => some g22))
theorem b_X3_bar_101 {C : ob_Cx} (F : ob_Fx C cX3_bar 7 RX3 none 3 78) {g : ob_St} {n2 : Nat} {x4 : Int32} {n6 : Nat} {s0 : Nat} {s1 : Int32} {s2 : Int64} {r : ob_St} (h : B_X3_bar_101 g n2 x4 n6 s0 s1 s2 = some r) (k : ob_Rt C none r) : ob_Ev C 101 [(2, ob_rv C n2), (4, .int x4), (6, ob_rv C n6)] [.long s2, .int s1, ob_rv C s0] g := by
  unfold B_X3_bar_101 at h
  refine ob_last F dX3_bar_101 h fun g19 h => ?_
  refine ob_rload F 2 dX3_bar_102 rfl ?_
  refine ob_getR F dX3_bar_104 fl_X3_157 h fun v20 h => ?_
  refine ob_iload F 1 dX3_bar_107 rfl ?_
  refine ob_rload_n F 0 dX3_bar_109 rfl ?_
  refine ob_getI F dX3_bar_110 fl_X3_160 h fun v21 h => ?_
  refine ob_iconst F (v := 1) dX3_bar_113 (by decide) ?_
  refine ob_icmp_ne F 121 dX3_bar_114 (by decide) h (fun h => ?_) (fun h => ?_)
  · refine ob_iconst F (v := 3) dX3_bar_121 (by decide) ?_
    refine ob_iast F dX3_bar_122 h fun g22 h => ?_
    refine ob_goto F 185 dX3_bar_123 (by decide) ?_
    obtain rfl := Option.some.inj h
    exact ob_vret F dX3_bar_185 k
  · refine ob_iconst F (v := 2) dX3_bar_117 (by decide) ?_
    refine ob_goto F 122 dX3_bar_118 (by decide) ?_
    refine ob_iast F dX3_bar_122 h fun g23 h => ?_
    refine ob_goto F 185 dX3_bar_123 (by decide) ?_
    obtain rfl := Option.some.inj h
    exact ob_vret F dX3_bar_185 k
def f_X3_bar (g : ob_St) (n0 : Nat) (n1 : Nat) (n2 : Nat) (x3 : Int32) (x4 : Int32) (x5 : Int32) : Option ob_St :=
  (ob_gR 9 n1 2).bind fun v1 => (ob_gI g 1 n2 4).bind fun v2 => (if v2 = 0 then ((ob_gR 4 v1 0).bind fun v26 => (ob_gR 9 n1 1).bind fun v27 => (ob_gR 4 v27 0).bind fun v28 => (ob_rL g v28 x4).bind fun v29 => (ob_wL g v26 x4 v29).bind fun g30 => (ob_gR 4 v1 1).bind fun v31 => (ob_gR 9 n1 1).bind fun v32 => (ob_gR 4 v32 1).bind fun v33 => (ob_rI g30 14 v33 x4).bind fun v34 => (ob_wI g30 v31 x4 v34).bind fun g35 => some g35) else ((ob_ck 3 n0 (f_X3_isTouched g n0 n2 x4)).bind fun v3 => (if v3 = 0 then ((ob_gI g 1 n2 4).bind fun v4 => (if v4 = 2 then ((ob_gR 4 v1 0).bind fun v8 => (ob_gR 4 v1 0).bind fun v9 => (ob_ck 3 n0 (f_X3_heldOf g n0 v9 x3 x4)).bind fun v10 => (ob_wL g v8 x4 v10).bind fun g11 => (ob_gR 4 v1 1).bind fun v12 => (ob_wI g11 v12 x4 0).bind fun g13 => some g13) else ((ob_gR 9 n1 0).bind fun v5 => (ob_rL g v5 x4).bind fun v6 => (ob_ck 3 n0 (f_X3_decide g n0 v1 v6 n2 x3 x4 x5)).bind fun g7 => some g7))) else ((ob_gR 4 v1 0).bind fun v14 => (ob_gI g 1 n2 4).bind fun v15 => (if v15 = 1 then ((ob_gI g 1 n2 7).bind fun v24 => (ob_ck 3 n0 (f_X3_scaleAt g n0 x3)).bind fun v25 => B_X3_bar_101 g n2 x4 v1 v14 x4 ((Int32.toInt64 v24) * v25)) else ((ob_gR 9 n1 1).bind fun v16 => (ob_gR 4 v16 0).bind fun v17 => (ob_rL g v17 x4).bind fun v18 => B_X3_bar_101 g n2 x4 v1 v14 x4 v18))))))
theorem b_X3_bar_0 {C : ob_Cx} (F : ob_Fx C cX3_bar 7 RX3 none 3 78) {g : ob_St} {n0 : Nat} {n1 : Nat} {n2 : Nat} {x3 : Int32} {x4 : Int32} {x5 : Int32} {r : ob_St} (h : f_X3_bar g n0 n1 n2 x3 x4 x5 = some r) (k : ob_Rt C none r) : ob_Ev C 0 [(0, ob_rv C n0), (1, ob_rv C n1), (2, ob_rv C n2), (3, .int x3), (4, .int x4), (5, .int x5)] [] g := by
  unfold f_X3_bar at h
  refine ob_rload_n F 1 dX3_bar_0 rfl ?_
  refine ob_getR F dX3_bar_1 fl_X3_89 h fun v1 h => ?_
  refine ob_rstore F (ls2 := [(6, ob_rv C v1), (0, ob_rv C n0), (1, ob_rv C n1), (2, ob_rv C n2), (3, .int x3), (4, .int x4), (5, .int x5)]) dX3_bar_4 (by decide) rfl ?_
  refine ob_rload_n F 3 dX3_bar_6 rfl ?_
  refine ob_getI F dX3_bar_7 fl_X3_160 h fun v2 h => ?_
  refine ob_if_ne F 52 dX3_bar_10 (by decide) h (fun h => ?_) (fun h => ?_)
  · refine ob_rload_n F 1 dX3_bar_52 rfl ?_
    refine ob_rload_n F 3 dX3_bar_53 rfl ?_
    refine ob_iload F 5 dX3_bar_54 rfl ?_
    refine ob_cVi F dX3_bar_56 im_X3_isTouched tw4_18 h (fun b hb => t_X3_isTouched hb) rfl rfl (Nat.le_of_ble_eq_true rfl) (by decide) fun v3 h => ?_
    refine ob_if_eq F 126 dX3_bar_59 (by decide) h (fun h => ?_) (fun h => ?_)
    · refine ob_rload_n F 3 dX3_bar_126 rfl ?_
      refine ob_getI F dX3_bar_127 fl_X3_160 h fun v4 h => ?_
      refine ob_iconst F (v := 2) dX3_bar_130 (by decide) ?_
      refine ob_icmp_ne F 166 dX3_bar_131 (by decide) h (fun h => ?_) (fun h => ?_)
      · refine ob_rload_n F 1 dX3_bar_166 rfl ?_
        refine ob_rload F 0 dX3_bar_167 rfl ?_
        refine ob_rload_n F 2 dX3_bar_169 rfl ?_
        refine ob_getR F dX3_bar_170 fl_X3_102 h fun v5 h => ?_
        refine ob_iload F 5 dX3_bar_173 rfl ?_
        refine ob_lald F dX3_bar_175 h fun v6 h => ?_
        refine ob_rload_n F 3 dX3_bar_176 rfl ?_
        refine ob_iload_n F 4 dX3_bar_177 rfl ?_
        refine ob_iload F 5 dX3_bar_178 rfl ?_
        refine ob_iload F 6 dX3_bar_180 rfl ?_
        refine ob_cVvS F dX3_bar_182 im_X3_decide tw3_235 h (fun b hb => t_X3_decide hb) rfl rfl (Nat.le_of_ble_eq_true rfl) (by decide) fun g7 h => ?_
        obtain rfl := Option.some.inj h
        exact ob_vret F dX3_bar_185 k
      · refine ob_rload F 0 dX3_bar_134 rfl ?_
        refine ob_getR F dX3_bar_136 fl_X3_93 h fun v8 h => ?_
        refine ob_iload F 5 dX3_bar_139 rfl ?_
        refine ob_rload_n F 1 dX3_bar_141 rfl ?_
        refine ob_rload F 0 dX3_bar_142 rfl ?_
        refine ob_getR F dX3_bar_144 fl_X3_93 h fun v9 h => ?_
        refine ob_iload_n F 4 dX3_bar_147 rfl ?_
        refine ob_iload F 5 dX3_bar_148 rfl ?_
        refine ob_cVl F dX3_bar_150 im_X3_heldOf tw3_239 h (fun b hb => t_X3_heldOf hb) rfl rfl (Nat.le_of_ble_eq_true rfl) (by decide) fun v10 h => ?_
        refine ob_last F dX3_bar_153 h fun g11 h => ?_
        refine ob_rload F 0 dX3_bar_154 rfl ?_
        refine ob_getR F dX3_bar_156 fl_X3_157 h fun v12 h => ?_
        refine ob_iload F 5 dX3_bar_159 rfl ?_
        refine ob_iconst F (v := 0) dX3_bar_161 (by decide) ?_
        refine ob_iast F dX3_bar_162 h fun g13 h => ?_
        refine ob_goto F 185 dX3_bar_163 (by decide) ?_
        obtain rfl := Option.some.inj h
        exact ob_vret F dX3_bar_185 k
    · refine ob_rload F 0 dX3_bar_62 rfl ?_
      refine ob_getR F dX3_bar_64 fl_X3_93 h fun v14 h => ?_
      refine ob_iload F 5 dX3_bar_67 rfl ?_
      refine ob_rload_n F 3 dX3_bar_69 rfl ?_
      refine ob_getI F dX3_bar_70 fl_X3_160 h fun v15 h => ?_
      refine ob_iconst F (v := 1) dX3_bar_73 (by decide) ?_
      refine ob_icmp_ne F 91 dX3_bar_74 (by decide) h (fun h => ?_) (fun h => ?_)
      · refine ob_rload_n F 2 dX3_bar_91 rfl ?_
        refine ob_getR F dX3_bar_92 fl_X3_113 h fun v16 h => ?_
        refine ob_getR F dX3_bar_95 fl_X3_93 h fun v17 h => ?_
        refine ob_iload F 5 dX3_bar_98 rfl ?_
        refine ob_lald F dX3_bar_100 h fun v18 h => ?_
        exact ob_sub [3, 5, 0] rfl (b_X3_bar_101 F h k)
      · refine ob_rload_n F 3 dX3_bar_77 rfl ?_
        refine ob_getI F dX3_bar_78 fl_X3_167 h fun v24 h => ?_
        refine ob_i2l F dX3_bar_81 ?_
        refine ob_rload_n F 1 dX3_bar_82 rfl ?_
        refine ob_iload_n F 4 dX3_bar_83 rfl ?_
        refine ob_cVl F dX3_bar_84 im_X3_scaleAt tw3_216 h (fun b hb => t_X3_scaleAt hb) rfl rfl (Nat.le_of_ble_eq_true rfl) (by decide) fun v25 h => ?_
        refine ob_lmul F dX3_bar_87 ?_
        refine ob_goto F 101 dX3_bar_88 (by decide) ?_
        exact ob_sub [3, 5, 0] rfl (b_X3_bar_101 F h k)
  · refine ob_rload F 0 dX3_bar_13 rfl ?_
    refine ob_getR F dX3_bar_15 fl_X3_93 h fun v26 h => ?_
    refine ob_iload F 5 dX3_bar_18 rfl ?_
    refine ob_rload_n F 2 dX3_bar_20 rfl ?_
    refine ob_getR F dX3_bar_21 fl_X3_113 h fun v27 h => ?_
    refine ob_getR F dX3_bar_24 fl_X3_93 h fun v28 h => ?_
    refine ob_iload F 5 dX3_bar_27 rfl ?_
    refine ob_lald F dX3_bar_29 h fun v29 h => ?_
    refine ob_last F dX3_bar_30 h fun g30 h => ?_
    refine ob_rload F 0 dX3_bar_31 rfl ?_
    refine ob_getR F dX3_bar_33 fl_X3_157 h fun v31 h => ?_
    refine ob_iload F 5 dX3_bar_36 rfl ?_
    refine ob_rload_n F 2 dX3_bar_38 rfl ?_
    refine ob_getR F dX3_bar_39 fl_X3_113 h fun v32 h => ?_
    refine ob_getR F dX3_bar_42 fl_X3_157 h fun v33 h => ?_
    refine ob_iload F 5 dX3_bar_45 rfl ?_
    refine ob_iald F dX3_bar_47 h fun v34 h => ?_
    refine ob_iast F dX3_bar_48 h fun g35 h => ?_
    refine ob_goto F 185 dX3_bar_49 (by decide) ?_
    obtain rfl := Option.some.inj h
    exact ob_vret F dX3_bar_185 k
theorem t_X3_bar {cf : ob_Cf} {g : ob_St} {n0 : Nat} {n1 : Nat} {n2 : Nat} {x3 : Int32} {x4 : Int32} {x5 : Int32} {r : ob_St} (h : f_X3_bar g n0 n1 n2 x3 x4 x5 = some r) : ob_Mt cf yX3_bar cX3_bar 7 none 3 78 [ob_rw cf n0, ob_rw cf n1, ob_rw cf n2, .int x3, .int x4, .int x5] g none r := by
  refine ob_enter (by decide) (Nat.le_of_ble_eq_true rfl) rfl ?_
  intro C hC F k
  subst hC
  exact b_X3_bar_0 F h k
-- X3_fill
def Lb_X3_fill_27 (rec : ob_St → Int32 → Option (ob_St)) (g : ob_St) (n0 : Nat) (n1 : Nat) (n2 : Nat) (x3 : Int32) (x4 : Int32) (x5 : Int32) (x6 : Int32) (x7 : Int32) : Option (ob_St) :=
  (if x5 < x7 then (some g) else ((f_X11_nodeAt x5 x7).bind fun v4 => (ob_gR 9 n1 0).bind fun v5 => (ob_ck 3 n0 (f_X3_scaleAt g n0 x5)).bind fun v6 => (ob_ck 3 n0 (f_X3_payOf g n0 n2 x3 v4 v6)).bind fun v7 => (ob_wL g v5 v4 v7).bind fun g8 => (ob_gR 9 n1 1).bind fun v9 => (ob_gR 9 n1 0).bind fun v10 => (ob_rL g8 v10 v4).bind fun v11 => (ob_ck 3 n0 (f_X3_decide g8 n0 v9 v11 n2 x5 v4 x6)).bind fun g12 => (ob_ck 3 n0 (f_X3_bar g12 n0 n1 n2 x5 v4 x6)).bind fun g13 => rec g13 (x7 + 1)))
def L_X3_fill_27 (n0 : Nat) (n1 : Nat) (n2 : Nat) (x3 : Int32) (x4 : Int32) (x5 : Int32) (x6 : Int32) : Nat → ob_St → Int32 → Option (ob_St)
  | 0, _, _ => none
  | n + 1, g, x7 => Lb_X3_fill_27 (L_X3_fill_27 n0 n1 n2 x3 x4 x5 x6 n) g n0 n1 n2 x3 x4 x5 x6 x7
theorem lb_X3_fill_27 {C : ob_Cx} {rec : ob_St → Int32 → Option (ob_St)} (F : ob_Fx C cX3_fill 9 RX3 none 4 104) {g : ob_St} {n0 : Nat} {n1 : Nat} {n2 : Nat} {x3 : Int32} {x4 : Int32} {x5 : Int32} {x6 : Int32} {x7 : Int32} {x : (ob_St)} (hr : ∀ {g : ob_St} {x7 : Int32} {x : (ob_St)}, rec g x7 = some x → ob_Ev C 104 [(0, ob_rv C n0), (1, ob_rv C n1), (2, ob_rv C n2), (3, .int x3), (4, .int x4), (5, .int x5)] [] x → ob_Ev C 27 [(0, ob_rv C n0), (1, ob_rv C n1), (2, ob_rv C n2), (3, .int x3), (4, .int x4), (5, .int x5), (6, .int x6), (7, .int x7)] [] g) (h : Lb_X3_fill_27 rec g n0 n1 n2 x3 x4 x5 x6 x7 = some x) (k0 : ob_Ev C 104 [(0, ob_rv C n0), (1, ob_rv C n1), (2, ob_rv C n2), (3, .int x3), (4, .int x4), (5, .int x5)] [] x) : ob_Ev C 27 [(0, ob_rv C n0), (1, ob_rv C n1), (2, ob_rv C n2), (3, .int x3), (4, .int x4), (5, .int x5), (6, .int x6), (7, .int x7)] [] g := by
  unfold Lb_X3_fill_27 at h
  refine ob_iload F 7 dX3_fill_27 rfl ?_
  refine ob_iload F 5 dX3_fill_29 rfl ?_
  refine ob_icmp_gt F 104 dX3_fill_31 (by decide) h (fun h => ?_) (fun h => ?_)
  · obtain rfl := Option.some.inj h
    exact ob_sub [0, 1, 2, 3, 4, 5] rfl (k0)
  · refine ob_iload F 5 dX3_fill_34 rfl ?_
    refine ob_iload F 7 dX3_fill_36 rfl ?_
    refine ob_cNi F dX3_fill_38 im_X11_nodeAt (by decide +kernel) h (fun b hb => t_X11_nodeAt hb) rfl rfl (Nat.le_of_ble_eq_true rfl) (by decide) fun v4 h => ?_
    refine ob_istore F (ls2 := [(8, .int v4), (0, ob_rv C n0), (1, ob_rv C n1), (2, ob_rv C n2), (3, .int x3), (4, .int x4), (5, .int x5), (6, .int x6), (7, .int x7)]) dX3_fill_41 (by decide) rfl ?_
    refine ob_rload_n F 2 dX3_fill_43 rfl ?_
    refine ob_getR F dX3_fill_44 fl_X3_102 h fun v5 h => ?_
    refine ob_iload F 0 dX3_fill_47 rfl ?_
    refine ob_rload_n F 1 dX3_fill_49 rfl ?_
    refine ob_rload_n F 3 dX3_fill_50 rfl ?_
    refine ob_iload_n F 4 dX3_fill_51 rfl ?_
    refine ob_iload F 0 dX3_fill_52 rfl ?_
    refine ob_rload_n F 1 dX3_fill_54 rfl ?_
    refine ob_iload F 6 dX3_fill_55 rfl ?_
    refine ob_cVl F dX3_fill_57 im_X3_scaleAt tw3_216 h (fun b hb => t_X3_scaleAt hb) rfl rfl (Nat.le_of_ble_eq_true rfl) (by decide) fun v6 h => ?_
    refine ob_cVl F dX3_fill_60 im_X3_payOf tw3_220 h (fun b hb => t_X3_payOf hb) rfl rfl (Nat.le_of_ble_eq_true rfl) (by decide) fun v7 h => ?_
    refine ob_last F dX3_fill_63 h fun g8 h => ?_
    refine ob_rload_n F 1 dX3_fill_64 rfl ?_
    refine ob_rload_n F 2 dX3_fill_65 rfl ?_
    refine ob_getR F dX3_fill_66 fl_X3_113 h fun v9 h => ?_
    refine ob_rload_n F 2 dX3_fill_69 rfl ?_
    refine ob_getR F dX3_fill_70 fl_X3_102 h fun v10 h => ?_
    refine ob_iload F 0 dX3_fill_73 rfl ?_
    refine ob_lald F dX3_fill_75 h fun v11 h => ?_
    refine ob_rload_n F 3 dX3_fill_76 rfl ?_
    refine ob_iload F 6 dX3_fill_77 rfl ?_
    refine ob_iload F 0 dX3_fill_79 rfl ?_
    refine ob_iload F 7 dX3_fill_81 rfl ?_
    refine ob_cVvS F dX3_fill_83 im_X3_decide tw3_235 h (fun b hb => t_X3_decide hb) rfl rfl (Nat.le_of_ble_eq_true rfl) (by decide) fun g12 h => ?_
    refine ob_rload_n F 1 dX3_fill_86 rfl ?_
    refine ob_rload_n F 2 dX3_fill_87 rfl ?_
    refine ob_rload_n F 3 dX3_fill_88 rfl ?_
    refine ob_iload F 6 dX3_fill_89 rfl ?_
    refine ob_iload F 0 dX3_fill_91 rfl ?_
    refine ob_iload F 7 dX3_fill_93 rfl ?_
    refine ob_cVvS F dX3_fill_95 im_X3_bar tw4_14 h (fun b hb => t_X3_bar hb) rfl rfl (Nat.le_of_ble_eq_true rfl) (by decide) fun g13 h => ?_
    refine ob_iinc F (v := (x7 + 1)) (ls2 := [(7, .int (x7 + 1)), (8, .int v4), (0, ob_rv C n0), (1, ob_rv C n1), (2, ob_rv C n2), (3, .int x3), (4, .int x4), (5, .int x5), (6, .int x6)]) 8 dX3_fill_98 rfl rfl (by decide) rfl ?_
    refine ob_goto F 27 dX3_fill_101 (by decide) ?_
    exact ob_sub [2, 3, 4, 5, 6, 7, 8, 0] rfl (hr h k0)
theorem l_X3_fill_27 {C : ob_Cx} (F : ob_Fx C cX3_fill 9 RX3 none 4 104) {n0 : Nat} {n1 : Nat} {n2 : Nat} {x3 : Int32} {x4 : Int32} {x5 : Int32} {x6 : Int32} : ∀ (n : Nat) {g : ob_St} {x7 : Int32} {x : (ob_St)}, L_X3_fill_27 n0 n1 n2 x3 x4 x5 x6 n g x7 = some x → ob_Ev C 104 [(0, ob_rv C n0), (1, ob_rv C n1), (2, ob_rv C n2), (3, .int x3), (4, .int x4), (5, .int x5)] [] x → ob_Ev C 27 [(0, ob_rv C n0), (1, ob_rv C n1), (2, ob_rv C n2), (3, .int x3), (4, .int x4), (5, .int x5), (6, .int x6), (7, .int x7)] [] g := by
  intro n
  induction n with
  | zero => intro g x7 x h; exact ob_no h
  | succ n ih => intro g x7 x h k0; exact lb_X3_fill_27 F ih h k0
def Lb_X3_fill_9 (rec : ob_St → Int32 → Option (ob_St)) (g : ob_St) (n0 : Nat) (n1 : Nat) (n2 : Nat) (x3 : Int32) (x4 : Int32) (x5 : Int32) : Option (ob_St) :=
  (if x5 < 0 then (some g) else ((ob_ck 3 n0 (f_X3_may g n0 x5 x4)).bind fun v3 => (L_X3_fill_27 n0 n1 n2 x3 x4 x5 v3 ob_FU g 0).bind fun x_14 => rec x_14 (x5 + (-1))))
def L_X3_fill_9 (n0 : Nat) (n1 : Nat) (n2 : Nat) (x3 : Int32) (x4 : Int32) : Nat → ob_St → Int32 → Option (ob_St)
  | 0, _, _ => none
  | n + 1, g, x5 => Lb_X3_fill_9 (L_X3_fill_9 n0 n1 n2 x3 x4 n) g n0 n1 n2 x3 x4 x5
theorem lb_X3_fill_9 {C : ob_Cx} {rec : ob_St → Int32 → Option (ob_St)} (F : ob_Fx C cX3_fill 9 RX3 none 4 104) {g : ob_St} {n0 : Nat} {n1 : Nat} {n2 : Nat} {x3 : Int32} {x4 : Int32} {x5 : Int32} {x : (ob_St)} (hr : ∀ {g : ob_St} {x5 : Int32} {x : (ob_St)}, rec g x5 = some x → ob_Ev C 110 [] [] x → ob_Ev C 9 [(0, ob_rv C n0), (1, ob_rv C n1), (2, ob_rv C n2), (3, .int x3), (4, .int x4), (5, .int x5)] [] g) (h : Lb_X3_fill_9 rec g n0 n1 n2 x3 x4 x5 = some x) (k0 : ob_Ev C 110 [] [] x) : ob_Ev C 9 [(0, ob_rv C n0), (1, ob_rv C n1), (2, ob_rv C n2), (3, .int x3), (4, .int x4), (5, .int x5)] [] g := by
  unfold Lb_X3_fill_9 at h
  refine ob_iload F 5 dX3_fill_9 rfl ?_
  refine ob_if_lt F 110 dX3_fill_11 (by decide) h (fun h => ?_) (fun h => ?_)
  · obtain rfl := Option.some.inj h
    exact ob_sub [] rfl (k0)
  · refine ob_rload_n F 0 dX3_fill_14 rfl ?_
    refine ob_iload F 5 dX3_fill_15 rfl ?_
    refine ob_iload F 4 dX3_fill_17 rfl ?_
    refine ob_cVi F dX3_fill_19 im_X3_may tw3_212 h (fun b hb => t_X3_may hb) rfl rfl (Nat.le_of_ble_eq_true rfl) (by decide) fun v3 h => ?_
    refine ob_istore F (ls2 := [(6, .int v3), (0, ob_rv C n0), (1, ob_rv C n1), (2, ob_rv C n2), (3, .int x3), (4, .int x4), (5, .int x5)]) dX3_fill_22 (by decide) rfl ?_
    refine ob_iconst F (v := 0) dX3_fill_24 (by decide) ?_
    refine ob_istore F (ls2 := [(7, .int 0), (6, .int v3), (0, ob_rv C n0), (1, ob_rv C n1), (2, ob_rv C n2), (3, .int x3), (4, .int x4), (5, .int x5)]) dX3_fill_25 (by decide) rfl ?_
    obtain ⟨x_14, hx, h⟩ := Option.bind_eq_some_iff.mp h
    refine ob_sub [2, 3, 4, 5, 6, 7, 1, 0] rfl (l_X3_fill_27 F ob_FU hx ?_)
    refine ob_iinc F (v := (x5 + (-1))) (ls2 := [(5, .int (x5 + (-1))), (0, ob_rv C n0), (1, ob_rv C n1), (2, ob_rv C n2), (3, .int x3), (4, .int x4)]) 5 dX3_fill_104 rfl rfl (by decide) rfl ?_
    refine ob_goto F 9 dX3_fill_107 (by decide) ?_
    exact ob_sub [1, 2, 3, 4, 5, 0] rfl (hr h k0)
theorem l_X3_fill_9 {C : ob_Cx} (F : ob_Fx C cX3_fill 9 RX3 none 4 104) {n0 : Nat} {n1 : Nat} {n2 : Nat} {x3 : Int32} {x4 : Int32} : ∀ (n : Nat) {g : ob_St} {x5 : Int32} {x : (ob_St)}, L_X3_fill_9 n0 n1 n2 x3 x4 n g x5 = some x → ob_Ev C 110 [] [] x → ob_Ev C 9 [(0, ob_rv C n0), (1, ob_rv C n1), (2, ob_rv C n2), (3, .int x3), (4, .int x4), (5, .int x5)] [] g := by
  intro n
  induction n with
  | zero => intro g x5 x h; exact ob_no h
  | succ n ih => intro g x5 x h k0; exact lb_X3_fill_9 F ih h k0
def f_X3_fill (g : ob_St) (n0 : Nat) (n1 : Nat) (n2 : Nat) (x3 : Int32) (x4 : Int32) : Option ob_St :=
  (ob_gR 3 n0 0).bind fun v1 => (ob_gI g 5 v1 5).bind fun v2 => (L_X3_fill_9 n0 n1 n2 x3 x4 ob_FU g v2).bind fun x_15 => some x_15
theorem b_X3_fill_0 {C : ob_Cx} (F : ob_Fx C cX3_fill 9 RX3 none 4 104) {g : ob_St} {n0 : Nat} {n1 : Nat} {n2 : Nat} {x3 : Int32} {x4 : Int32} {r : ob_St} (h : f_X3_fill g n0 n1 n2 x3 x4 = some r) (k : ob_Rt C none r) : ob_Ev C 0 [(0, ob_rv C n0), (1, ob_rv C n1), (2, ob_rv C n2), (3, .int x3), (4, .int x4)] [] g := by
  unfold f_X3_fill at h
  refine ob_rload_n F 0 dX3_fill_0 rfl ?_
  refine ob_getR F dX3_fill_1 fl_X3_37 h fun v1 h => ?_
  refine ob_getI F dX3_fill_4 fl_X3_41 h fun v2 h => ?_
  refine ob_istore F (ls2 := [(5, .int v2), (0, ob_rv C n0), (1, ob_rv C n1), (2, ob_rv C n2), (3, .int x3), (4, .int x4)]) dX3_fill_7 (by decide) rfl ?_
  obtain ⟨x_15, hx, h⟩ := Option.bind_eq_some_iff.mp h
  refine ob_sub [1, 2, 3, 4, 5, 0] rfl (l_X3_fill_9 F ob_FU hx ?_)
  obtain rfl := Option.some.inj h
  exact ob_vret F dX3_fill_110 k
theorem t_X3_fill {cf : ob_Cf} {g : ob_St} {n0 : Nat} {n1 : Nat} {n2 : Nat} {x3 : Int32} {x4 : Int32} {r : ob_St} (h : f_X3_fill g n0 n1 n2 x3 x4 = some r) : ob_Mt cf yX3_fill cX3_fill 9 none 4 104 [ob_rw cf n0, ob_rw cf n1, ob_rw cf n2, .int x3, .int x4] g none r := by
  refine ob_enter (by decide) (Nat.le_of_ble_eq_true rfl) rfl ?_
  intro C hC F k
  subst hC
  exact b_X3_fill_0 F h k
-- X3_refresh
def Lb_X3_refresh_23 (rec : ob_St → Int32 → Option (ob_St)) (g : ob_St) (n0 : Nat) (x1 : Int32) : Option (ob_St) :=
  (ob_gR 3 n0 0).bind fun v5 => (ob_gI g 5 v5 6).bind fun v6 => (if v6 ≤ x1 then (some g) else ((ob_gR 3 n0 0).bind fun v7 => (ob_gR 5 v7 2).bind fun v8 => (ob_rR 17 v8 x1).bind fun v9 => (ob_gR 3 n0 4).bind fun v10 => (ob_rR 19 v10 x1).bind fun v11 => (ob_gI g 1 v9 1).bind fun v12 => (ob_gI g 1 v9 3).bind fun v13 => (ob_ck 3 n0 (f_X3_fill g n0 v11 v9 v12 v13)).bind fun g14 => rec g14 (x1 + 1)))
def L_X3_refresh_23 (n0 : Nat) : Nat → ob_St → Int32 → Option (ob_St)
  | 0, _, _ => none
  | n + 1, g, x1 => Lb_X3_refresh_23 (L_X3_refresh_23 n0 n) g n0 x1
theorem lb_X3_refresh_23 {C : ob_Cx} {rec : ob_St → Int32 → Option (ob_St)} (F : ob_Fx C cX3_refresh 3 RX3 none 5 132) {g : ob_St} {n0 : Nat} {x1 : Int32} {x : (ob_St)} (hr : ∀ {g : ob_St} {x1 : Int32} {x : (ob_St)}, rec g x1 = some x → ob_Ev C 69 [] [] x → ob_Ev C 23 [(0, ob_rv C n0), (1, .int x1)] [] g) (h : Lb_X3_refresh_23 rec g n0 x1 = some x) (k0 : ob_Ev C 69 [] [] x) : ob_Ev C 23 [(0, ob_rv C n0), (1, .int x1)] [] g := by
  unfold Lb_X3_refresh_23 at h
  refine ob_iload_n F 1 dX3_refresh_23 rfl ?_
  refine ob_rload_n F 0 dX3_refresh_24 rfl ?_
  refine ob_getR F dX3_refresh_25 fl_X3_37 h fun v5 h => ?_
  refine ob_getI F dX3_refresh_28 fl_X3_53 h fun v6 h => ?_
  refine ob_icmp_ge F 69 dX3_refresh_31 (by decide) h (fun h => ?_) (fun h => ?_)
  · obtain rfl := Option.some.inj h
    exact ob_sub [] rfl (k0)
  · refine ob_rload_n F 0 dX3_refresh_34 rfl ?_
    refine ob_getR F dX3_refresh_35 fl_X3_37 h fun v7 h => ?_
    refine ob_getR F dX3_refresh_38 fl_X3_56 h fun v8 h => ?_
    refine ob_iload_n F 1 dX3_refresh_41 rfl ?_
    refine ob_aald F dX3_refresh_42 (by decide) h fun v9 h => ?_
    refine ob_rstore_n F (ls2 := [(2, ob_rv C v9), (0, ob_rv C n0), (1, .int x1)]) dX3_refresh_43 (by decide) rfl ?_
    refine ob_rload_n F 1 dX3_refresh_44 rfl ?_
    refine ob_rload_n F 1 dX3_refresh_45 rfl ?_
    refine ob_getR F dX3_refresh_46 fl_X3_24 h fun v10 h => ?_
    refine ob_iload_n F 2 dX3_refresh_49 rfl ?_
    refine ob_aald F dX3_refresh_50 (by decide) h fun v11 h => ?_
    refine ob_rload_n F 0 dX3_refresh_51 rfl ?_
    refine ob_rload_n F 0 dX3_refresh_52 rfl ?_
    refine ob_getI F dX3_refresh_53 fl_X3_60 h fun v12 h => ?_
    refine ob_rload_n F 0 dX3_refresh_56 rfl ?_
    refine ob_getI F dX3_refresh_57 fl_X3_65 h fun v13 h => ?_
    refine ob_cVvS F dX3_refresh_60 im_X3_fill tw3_208 h (fun b hb => t_X3_fill hb) rfl rfl (Nat.le_of_ble_eq_true rfl) (by decide) fun g14 h => ?_
    refine ob_iinc F (v := (x1 + 1)) (ls2 := [(1, .int (x1 + 1)), (2, ob_rv C v9), (0, ob_rv C n0)]) 2 dX3_refresh_63 rfl rfl (by decide) rfl ?_
    refine ob_goto F 23 dX3_refresh_66 (by decide) ?_
    exact ob_sub [2, 0] rfl (hr h k0)
theorem l_X3_refresh_23 {C : ob_Cx} (F : ob_Fx C cX3_refresh 3 RX3 none 5 132) {n0 : Nat} : ∀ (n : Nat) {g : ob_St} {x1 : Int32} {x : (ob_St)}, L_X3_refresh_23 n0 n g x1 = some x → ob_Ev C 69 [] [] x → ob_Ev C 23 [(0, ob_rv C n0), (1, .int x1)] [] g := by
  intro n
  induction n with
  | zero => intro g x1 x h; exact ob_no h
  | succ n ih => intro g x1 x h k0; exact lb_X3_refresh_23 F ih h k0
def f_X3_refresh (g : ob_St) (n0 : Nat) : Option ob_St :=
  (ob_gI g 3 n0 6).bind fun v1 => (if v1 = 0 then (some g) else ((ob_pZ g 3 n0 6 0).bind fun g2 => (ob_ck 3 n0 (f_X3_fillPowers g2 n0)).bind fun g3 => (ob_ck 3 n0 (f_X3_fillPrices g3 n0)).bind fun g4 => (L_X3_refresh_23 n0 ob_FU g4 0).bind fun x_15 => some x_15))
theorem b_X3_refresh_0 {C : ob_Cx} (F : ob_Fx C cX3_refresh 3 RX3 none 5 132) {g : ob_St} {n0 : Nat} {r : ob_St} (h : f_X3_refresh g n0 = some r) (k : ob_Rt C none r) : ob_Ev C 0 [(0, ob_rv C n0)] [] g := by
  unfold f_X3_refresh at h
  refine ob_rload_n F 0 dX3_refresh_0 rfl ?_
  refine ob_getI F dX3_refresh_1 fl_X3_33 h fun v1 h => ?_
  refine ob_if_ne F 8 dX3_refresh_4 (by decide) h (fun h => ?_) (fun h => ?_)
  · refine ob_rload_n F 0 dX3_refresh_8 rfl ?_
    refine ob_iconst F (v := 0) dX3_refresh_9 (by decide) ?_
    refine ob_putZ F dX3_refresh_10 fp_X3_33 h fun g2 h => ?_
    refine ob_rload_n F 0 dX3_refresh_13 rfl ?_
    refine ob_cVvS F dX3_refresh_14 im_X3_fillPowers tw3_196 h (fun b hb => t_X3_fillPowers hb) rfl rfl (Nat.le_of_ble_eq_true rfl) (by decide) fun g3 h => ?_
    refine ob_rload_n F 0 dX3_refresh_17 rfl ?_
    refine ob_cVvS F dX3_refresh_18 im_X3_fillPrices tw3_200 h (fun b hb => t_X3_fillPrices hb) rfl rfl (Nat.le_of_ble_eq_true rfl) (by decide) fun g4 h => ?_
    refine ob_iconst F (v := 0) dX3_refresh_21 (by decide) ?_
    refine ob_istore_n F (ls2 := [(1, .int 0), (0, ob_rv C n0)]) dX3_refresh_22 (by decide) rfl ?_
    obtain ⟨x_15, hx, h⟩ := Option.bind_eq_some_iff.mp h
    refine ob_sub [1, 0] rfl (l_X3_refresh_23 F ob_FU hx ?_)
    obtain rfl := Option.some.inj h
    exact ob_vret F dX3_refresh_69 k
  · obtain rfl := Option.some.inj h
    exact ob_vret F dX3_refresh_7 k
theorem t_X3_refresh {cf : ob_Cf} {g : ob_St} {n0 : Nat} {r : ob_St} (h : f_X3_refresh g n0 = some r) : ob_Mt cf yX3_refresh cX3_refresh 3 none 5 132 [ob_rw cf n0] g none r := by
  refine ob_enter (by decide) (Nat.le_of_ble_eq_true rfl) rfl ?_
  intro C hC F k
  subst hC
  exact b_X3_refresh_0 F h k
-- X11_price
def f_X11_price (g : ob_St) (n0 : Nat) (x1 : Int32) (x2 : Int32) (x3 : Int32) : Option (Int32 × ob_St) :=
  (ob_ck 11 n0 (f_X11_isNode g n0 x1 x2)).bind fun v1 => (if v1 = 0 then (some ((-1), g)) else ((ob_gR 11 n0 8).bind fun v2 => (ob_ck 3 v2 (f_X3_refresh g v2)).bind fun g3 => (f_X11_nodeAt x1 x2).bind fun v4 => (if x3 = 0 then ((ob_gR 11 n0 8).bind fun v5 => (ob_gR 3 v5 2).bind fun v6 => (ob_rI g3 14 v6 v4).bind fun v7 => some (v7, g3)) else (if x3 = 1 then ((ob_gR 11 n0 8).bind fun v8 => (ob_gR 3 v8 2).bind fun v9 => (ob_rI g3 14 v9 v4).bind fun v10 => (ob_gR 11 n0 3).bind fun v11 => (ob_gR 5 v11 1).bind fun v12 => (ob_rI g3 14 v12 x1).bind fun v13 => some ((v10 - v13), g3)) else (if x3 = 2 then ((ob_gR 11 n0 8).bind fun v14 => (ob_gR 3 v14 1).bind fun v15 => (ob_rI g3 14 v15 v4).bind fun v16 => some (v16, g3)) else (some ((-1), g3)))))))
theorem b_X11_price_0 {C : ob_Cx} (F : ob_Fx C cX11_price 5 RX11 (some .int) 6 154) {g : ob_St} {n0 : Nat} {x1 : Int32} {x2 : Int32} {x3 : Int32} {r : (Int32 × ob_St)} (h : f_X11_price g n0 x1 x2 x3 = some r) (k : ob_Rt C (some (.int r.1)) r.2) : ob_Ev C 0 [(0, ob_rv C n0), (1, .int x1), (2, .int x2), (3, .int x3)] [] g := by
  unfold f_X11_price at h
  refine ob_rload_n F 0 dX11_price_0 rfl ?_
  refine ob_iload_n F 1 dX11_price_1 rfl ?_
  refine ob_iload_n F 2 dX11_price_2 rfl ?_
  refine ob_cVi F dX11_price_3 im_X11_isNode tw3_188 h (fun b hb => t_X11_isNode hb) rfl rfl (Nat.le_of_ble_eq_true rfl) (by decide) fun v1 h => ?_
  refine ob_if_ne F 11 dX11_price_6 (by decide) h (fun h => ?_) (fun h => ?_)
  · refine ob_rload_n F 0 dX11_price_11 rfl ?_
    refine ob_getR F dX11_price_12 fl_X11_56 h fun v2 h => ?_
    refine ob_cVvS F dX11_price_15 im_X3_refresh tw3_192 h (fun b hb => t_X3_refresh hb) rfl rfl (Nat.le_of_ble_eq_true rfl) (by decide) fun g3 h => ?_
    refine ob_iload_n F 1 dX11_price_18 rfl ?_
    refine ob_iload_n F 2 dX11_price_19 rfl ?_
    refine ob_cSi F dX11_price_20 im_X11_nodeAt tw4_25 h (fun b hb => t_X11_nodeAt hb) rfl rfl (Nat.le_of_ble_eq_true rfl) (by decide) fun v4 h => ?_
    refine ob_istore F (ls2 := [(4, .int v4), (0, ob_rv C n0), (1, .int x1), (2, .int x2), (3, .int x3)]) dX11_price_23 (by decide) rfl ?_
    refine ob_iload_n F 4 dX11_price_25 rfl ?_
    by_cases c0 : x3 = 0
    · rw [if_pos c0] at h
      refine ob_tsi F 0 52 dX11_price_26 c0 (by decide) (by decide) rfl (by decide) ?_
      refine ob_rload_n F 1 dX11_price_52 rfl ?_
      refine ob_getR F dX11_price_53 fl_X11_56 h fun v5 h => ?_
      refine ob_getR F dX11_price_56 fl_X11_190 h fun v6 h => ?_
      refine ob_iload F 0 dX11_price_59 rfl ?_
      refine ob_iald F dX11_price_61 h fun v7 h => ?_
      obtain rfl := Option.some.inj h
      exact ob_iret F dX11_price_62 k
    rw [if_neg c0] at h
    by_cases c1 : x3 = 1
    · rw [if_pos c1] at h
      refine ob_tsi F 1 63 dX11_price_26 c1 (by decide) (by decide) rfl (by decide) ?_
      refine ob_rload_n F 1 dX11_price_63 rfl ?_
      refine ob_getR F dX11_price_64 fl_X11_56 h fun v8 h => ?_
      refine ob_getR F dX11_price_67 fl_X11_190 h fun v9 h => ?_
      refine ob_iload F 0 dX11_price_70 rfl ?_
      refine ob_iald F dX11_price_72 h fun v10 h => ?_
      refine ob_rload_n F 1 dX11_price_73 rfl ?_
      refine ob_getR F dX11_price_74 fl_X11_23 h fun v11 h => ?_
      refine ob_getR F dX11_price_77 fl_X11_131 h fun v12 h => ?_
      refine ob_iload_n F 2 dX11_price_80 rfl ?_
      refine ob_iald F dX11_price_81 h fun v13 h => ?_
      refine ob_isub F dX11_price_82 ?_
      obtain rfl := Option.some.inj h
      exact ob_iret F dX11_price_83 k
    rw [if_neg c1] at h
    by_cases c2 : x3 = 2
    · rw [if_pos c2] at h
      refine ob_tsi F 2 84 dX11_price_26 c2 (by decide) (by decide) rfl (by decide) ?_
      refine ob_rload_n F 1 dX11_price_84 rfl ?_
      refine ob_getR F dX11_price_85 fl_X11_56 h fun v14 h => ?_
      refine ob_getR F dX11_price_88 fl_X11_193 h fun v15 h => ?_
      refine ob_iload F 0 dX11_price_91 rfl ?_
      refine ob_iald F dX11_price_93 h fun v16 h => ?_
      obtain rfl := Option.some.inj h
      exact ob_iret F dX11_price_94 k
    rw [if_neg c2] at h
    have q0 := ob_nei c0 (k := 0) rfl
    have q1 := ob_nei c1 (k := 1) rfl
    have q2 := ob_nei c2 (k := 2) rfl
    refine ob_tso F 95 dX11_price_26 (by omega) (by decide) ?_
    refine ob_iconst F (v := (-1)) dX11_price_95 (by decide) ?_
    obtain rfl := Option.some.inj h
    exact ob_iret F dX11_price_96 k
  · refine ob_iconst F (v := (-1)) dX11_price_9 (by decide) ?_
    obtain rfl := Option.some.inj h
    exact ob_iret F dX11_price_10 k
theorem t_X11_price {cf : ob_Cf} {g : ob_St} {n0 : Nat} {x1 : Int32} {x2 : Int32} {x3 : Int32} {r : (Int32 × ob_St)} (h : f_X11_price g n0 x1 x2 x3 = some r) : ob_Mt cf yX11_price cX11_price 5 (some .int) 6 154 [ob_rw cf n0, .int x1, .int x2, .int x3] g (some (.int r.1)) r.2 := by
  refine ob_enter (by decide) (Nat.le_of_ble_eq_true rfl) (Or.inl rfl) ?_
  intro C hC F k
  subst hC
  exact b_X11_price_0 F h k
-- X11_isBit
def f_X11_isBit (x0 : Int32) : Option Int32 :=
  (if x0 = 0 then (some 1) else ((if x0 = 1 then (some 1) else (some 0))))
theorem b_X11_isBit_0 {C : ob_Cx} (F : ob_Fx C cX11_isBit 1 RX11 (some .boolean) 0 0) {g : ob_St} {x0 : Int32} {r : Int32} (h : f_X11_isBit x0 = some r) (k : ob_Rt C (some (.int r)) g) : ob_Ev C 0 [(0, .int x0)] [] g := by
  unfold f_X11_isBit at h
  refine ob_iload_n F 0 dX11_isBit_0 rfl ?_
  refine ob_if_eq F 9 dX11_isBit_1 (by decide) h (fun h => ?_) (fun h => ?_)
  · refine ob_iconst F (v := 1) dX11_isBit_9 (by decide) ?_
    refine ob_goto F 14 dX11_isBit_10 (by decide) ?_
    obtain rfl := Option.some.inj h
    exact ob_zret F dX11_isBit_14 (Or.inr rfl) k
  · refine ob_iload_n F 0 dX11_isBit_4 rfl ?_
    refine ob_iconst F (v := 1) dX11_isBit_5 (by decide) ?_
    refine ob_icmp_ne F 13 dX11_isBit_6 (by decide) h (fun h => ?_) (fun h => ?_)
    · refine ob_iconst F (v := 0) dX11_isBit_13 (by decide) ?_
      obtain rfl := Option.some.inj h
      exact ob_zret F dX11_isBit_14 (Or.inl rfl) k
    · refine ob_iconst F (v := 1) dX11_isBit_9 (by decide) ?_
      refine ob_goto F 14 dX11_isBit_10 (by decide) ?_
      obtain rfl := Option.some.inj h
      exact ob_zret F dX11_isBit_14 (Or.inr rfl) k
theorem t_X11_isBit {cf : ob_Cf} {g : ob_St} {x0 : Int32} {r : Int32} (h : f_X11_isBit x0 = some r) : ob_Mt cf yX11_isBit cX11_isBit 1 (some .boolean) 0 0 [.int x0] g (some (.int r)) g := by
  refine ob_enter (by decide) (Nat.le_of_ble_eq_true rfl) (Or.inr rfl) ?_
  intro C hC F k
  subst hC
  exact b_X11_isBit_0 F h k
-- X11_sheetOf
def f_X11_sheetOf (g : ob_St) (n0 : Nat) (x1 : Int32) : Option (Nat × ob_St) :=
  (ob_gR 11 n0 8).bind fun v1 => (ob_ck 3 v1 (f_X3_refresh g v1)).bind fun g2 => (ob_gR 11 n0 8).bind fun v3 => (ob_gR 3 v3 4).bind fun v4 => (ob_rR 19 v4 x1).bind fun v5 => some (v5, g2)
theorem b_X11_sheetOf_0 {C : ob_Cx} (F : ob_Fx C cX11_sheetOf 2 RX11 (Option.some (FieldType.object "OptionBench$Sheet")) 6 154) {g : ob_St} {n0 : Nat} {x1 : Int32} {r : (Nat × ob_St)} (h : f_X11_sheetOf g n0 x1 = some r) (k : ob_Rt C (some (ob_rv C r.1)) r.2) : ob_Ev C 0 [(0, ob_rv C n0), (1, .int x1)] [] g := by
  unfold f_X11_sheetOf at h
  refine ob_rload_n F 0 dX11_sheetOf_0 rfl ?_
  refine ob_getR F dX11_sheetOf_1 fl_X11_56 h fun v1 h => ?_
  refine ob_cVvS F dX11_sheetOf_4 im_X3_refresh tw3_192 h (fun b hb => t_X3_refresh hb) rfl rfl (Nat.le_of_ble_eq_true rfl) (by decide) fun g2 h => ?_
  refine ob_rload_n F 0 dX11_sheetOf_7 rfl ?_
  refine ob_getR F dX11_sheetOf_8 fl_X11_56 h fun v3 h => ?_
  refine ob_getR F dX11_sheetOf_11 fl_X11_306 h fun v4 h => ?_
  refine ob_iload_n F 1 dX11_sheetOf_14 rfl ?_
  refine ob_aald F dX11_sheetOf_15 (by decide) h fun v5 h => ?_
  obtain rfl := Option.some.inj h
  exact ob_aret F dX11_sheetOf_16 k
theorem t_X11_sheetOf {cf : ob_Cf} {g : ob_St} {n0 : Nat} {x1 : Int32} {r : (Nat × ob_St)} (h : f_X11_sheetOf g n0 x1 = some r) : ob_Mt cf yX11_sheetOf cX11_sheetOf 2 (Option.some (FieldType.object "OptionBench$Sheet")) 6 154 [ob_rw cf n0, .int x1] g (some (ob_rw cf r.1)) r.2 := by
  refine ob_enter (by decide) (Nat.le_of_ble_eq_true rfl) ⟨⟨_, rfl⟩, _, rfl⟩ ?_
  intro C hC F k
  subst hC
  exact b_X11_sheetOf_0 F h k
