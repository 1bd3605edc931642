-- X12_thrown
def f_X12_thrown (g : ob_St) (n0 : Nat) : Option Int32 :=
  (ob_gI g 12 n0 0).bind fun v1 => some v1
theorem b_X12_thrown_0 {C : ob_Cx} (F : ob_Fx C cX12_thrown 1 RX12 (some .int) 0 0) {g : ob_St} {n0 : Nat} {r : Int32} (h : f_X12_thrown g n0 = some r) (k : ob_Rt C (some (.int r)) g) : ob_Ev C 0 [(0, ob_rv C n0)] [] g := by
  unfold f_X12_thrown at h
  refine ob_rload_n F 0 dX12_thrown_0 rfl ?_
  refine ob_getI F dX12_thrown_1 fl_X12_1 h fun v1 h => ?_
  obtain rfl := Option.some.inj h
  exact ob_iret F dX12_thrown_4 k
theorem t_X12_thrown {cf : ob_Cf} {g : ob_St} {n0 : Nat} {r : Int32} (h : f_X12_thrown g n0 = some r) : ob_Mt cf yX12_thrown cX12_thrown 1 (some .int) 0 0 [ob_rw cf n0] g (some (.int r)) g := by
  refine ob_enter (by decide) (Nat.le_of_ble_eq_true rfl) (Or.inl rfl) ?_
  intro C hC F k
  subst hC
  exact b_X12_thrown_0 F h k
-- X12_throwsIf
def f_X12_throwsIf (g : ob_St) (n0 : Nat) (x1 : Int32) : Option (Int32 × ob_St) :=
  (if x1 = 0 then ((ob_pI g 12 n0 0 0).bind fun g1 => (ob_zr x1).bind fun z2 => some (z2, g1)) else ((ob_pI g 12 n0 0 1).bind fun g3 => (ob_zr x1).bind fun z4 => some (z4, g3)))
theorem b_X12_throwsIf_0 {C : ob_Cx} (F : ob_Fx C cX12_throwsIf 2 RX12 (some .boolean) 0 0) {g : ob_St} {n0 : Nat} {x1 : Int32} {r : (Int32 × ob_St)} (h : f_X12_throwsIf g n0 x1 = some r) (k : ob_Rt C (some (.int r.1)) r.2) : ob_Ev C 0 [(0, ob_rv C n0), (1, .int x1)] [] g := by
  unfold f_X12_throwsIf at h
  refine ob_rload_n F 0 dX12_throwsIf_0 rfl ?_
  refine ob_iload_n F 1 dX12_throwsIf_1 rfl ?_
  refine ob_if_eq F 9 dX12_throwsIf_2 (by decide) h (fun h => ?_) (fun h => ?_)
  · refine ob_iconst F (v := 0) dX12_throwsIf_9 (by decide) ?_
    refine ob_putI F dX12_throwsIf_10 fp_X12_1 h fun g1 h => ?_
    refine ob_iload_n F 1 dX12_throwsIf_13 rfl ?_
    refine ob_zrow h fun hz h => ?_
    obtain rfl := Option.some.inj h
    exact ob_zret F dX12_throwsIf_14 hz k
  · refine ob_iconst F (v := 1) dX12_throwsIf_5 (by decide) ?_
    refine ob_goto F 10 dX12_throwsIf_6 (by decide) ?_
    refine ob_putI F dX12_throwsIf_10 fp_X12_1 h fun g3 h => ?_
    refine ob_iload_n F 1 dX12_throwsIf_13 rfl ?_
    refine ob_zrow h fun hz h => ?_
    obtain rfl := Option.some.inj h
    exact ob_zret F dX12_throwsIf_14 hz k
theorem t_X12_throwsIf {cf : ob_Cf} {g : ob_St} {n0 : Nat} {x1 : Int32} {r : (Int32 × ob_St)} (h : f_X12_throwsIf g n0 x1 = some r) : ob_Mt cf yX12_throwsIf cX12_throwsIf 2 (some .boolean) 0 0 [ob_rw cf n0, .int x1] g (some (.int r.1)) r.2 := by
  refine ob_enter (by decide) (Nat.le_of_ble_eq_true rfl) (Or.inr rfl) ?_
  intro C hC F k
  subst hC
  exact b_X12_throwsIf_0 F h k
-- X12_bare
def Lb_X12_bare_2 (rec : ob_St → Int32 → Option (ob_St)) (g : ob_St) (n0 : Nat) (x1 : Int32) : Option (ob_St) :=
  (if 70 ≤ x1 then (some g) else ((ob_wI g n0 x1 0).bind fun g1 => rec g1 (x1 + 1)))
def L_X12_bare_2 (n0 : Nat) : Nat → ob_St → Int32 → Option (ob_St)
  | 0, _, _ => none
  | n + 1, g, x1 => Lb_X12_bare_2 (L_X12_bare_2 n0 n) g n0 x1
theorem lb_X12_bare_2 {C : ob_Cx} {rec : ob_St → Int32 → Option (ob_St)} (F : ob_Fx C cX12_bare 2 RX12 none 0 0) {g : ob_St} {n0 : Nat} {x1 : Int32} {x : (ob_St)} (hr : ∀ {g : ob_St} {x1 : Int32} {x : (ob_St)}, rec g x1 = some x → ob_Ev C 18 [(0, ob_rv C n0)] [] x → ob_Ev C 2 [(0, ob_rv C n0), (1, .int x1)] [] g) (h : Lb_X12_bare_2 rec g n0 x1 = some x) (k0 : ob_Ev C 18 [(0, ob_rv C n0)] [] x) : ob_Ev C 2 [(0, ob_rv C n0), (1, .int x1)] [] g := by
  unfold Lb_X12_bare_2 at h
  refine ob_iload_n F 1 dX12_bare_2 rfl ?_
  refine ob_bipush F (v := 70) dX12_bare_3 (by decide) ?_
  refine ob_icmp_ge F 18 dX12_bare_5 (by decide) h (fun h => ?_) (fun h => ?_)
  · obtain rfl := Option.some.inj h
    exact ob_sub [0] rfl (k0)
  · refine ob_rload_n F 0 dX12_bare_8 rfl ?_
    refine ob_iload_n F 1 dX12_bare_9 rfl ?_
    refine ob_iconst F (v := 0) dX12_bare_10 (by decide) ?_
    refine ob_iast F dX12_bare_11 h fun g1 h => ?_
    refine ob_iinc F (v := (x1 + 1)) (ls2 := [(1, .int (x1 + 1)), (0, ob_rv C n0)]) 1 dX12_bare_12 rfl rfl (by decide) rfl ?_
    refine ob_goto F 2 dX12_bare_15 (by decide) ?_
    exact ob_sub [1, 0] rfl (hr h k0)
theorem l_X12_bare_2 {C : ob_Cx} (F : ob_Fx C cX12_bare 2 RX12 none 0 0) {n0 : Nat} : ∀ (n : Nat) {g : ob_St} {x1 : Int32} {x : (ob_St)}, L_X12_bare_2 n0 n g x1 = some x → ob_Ev C 18 [(0, ob_rv C n0)] [] x → ob_Ev C 2 [(0, ob_rv C n0), (1, .int x1)] [] g := by
  intro n
  induction n with
  | zero => intro g x1 x h; exact ob_no h
  | succ n ih => intro g x1 x h k0; exact lb_X12_bare_2 F ih h k0
def f_X12_bare (g : ob_St) (n0 : Nat) : Option ob_St :=
  (L_X12_bare_2 n0 ob_FU g 0).bind fun x_2 => (ob_wI x_2 n0 0 100).bind fun g3 => (ob_wI g3 n0 1 2).bind fun g4 => some g4
theorem b_X12_bare_0 {C : ob_Cx} (F : ob_Fx C cX12_bare 2 RX12 none 0 0) {g : ob_St} {n0 : Nat} {r : ob_St} (h : f_X12_bare g n0 = some r) (k : ob_Rt C none r) : ob_Ev C 0 [(0, ob_rv C n0)] [] g := by
  unfold f_X12_bare at h
  refine ob_iconst F (v := 0) dX12_bare_0 (by decide) ?_
  refine ob_istore_n F (ls2 := [(1, .int 0), (0, ob_rv C n0)]) dX12_bare_1 (by decide) rfl ?_
  obtain ⟨x_2, hx, h⟩ := Option.bind_eq_some_iff.mp h
  refine ob_sub [1, 0] rfl (l_X12_bare_2 F ob_FU hx ?_)
  refine ob_rload_n F 0 dX12_bare_18 rfl ?_
  refine ob_iconst F (v := 0) dX12_bare_19 (by decide) ?_
  refine ob_bipush F (v := 100) dX12_bare_20 (by decide) ?_
  refine ob_iast F dX12_bare_22 h fun g3 h => ?_
  refine ob_rload_n F 0 dX12_bare_23 rfl ?_
  refine ob_iconst F (v := 1) dX12_bare_24 (by decide) ?_
  refine ob_iconst F (v := 2) dX12_bare_25 (by decide) ?_
  refine ob_iast F dX12_bare_26 h fun g4 h => ?_
  obtain rfl := Option.some.inj h
  exact ob_vret F dX12_bare_27 k
theorem t_X12_bare {cf : ob_Cf} {g : ob_St} {n0 : Nat} {r : ob_St} (h : f_X12_bare g n0 = some r) : ob_Mt cf yX12_bare cX12_bare 2 none 0 0 [ob_rw cf n0] g none r := by
  refine ob_enter (by decide) (Nat.le_of_ble_eq_true rfl) rfl ?_
  intro C hC F k
  subst hC
  exact b_X12_bare_0 F h k
-- X12_copies
def Lb_X12_copies_3 (rec : ob_St → Int32 → Option (ob_St)) (g : ob_St) (n0 : Nat) (x1 : Int32) (n2 : Nat) (x3 : Int32) (x4 : Int32) : Option (ob_St) :=
  (if 70 ≤ x4 then (some g) else ((ob_rI g 14 n0 (x1 + x4)).bind fun v1 => (ob_wI g n2 (x3 + x4) v1).bind fun g2 => rec g2 (x4 + 1)))
def L_X12_copies_3 (n0 : Nat) (x1 : Int32) (n2 : Nat) (x3 : Int32) : Nat → ob_St → Int32 → Option (ob_St)
  | 0, _, _ => none
  | n + 1, g, x4 => Lb_X12_copies_3 (L_X12_copies_3 n0 x1 n2 x3 n) g n0 x1 n2 x3 x4
theorem lb_X12_copies_3 {C : ob_Cx} {rec : ob_St → Int32 → Option (ob_St)} (F : ob_Fx C cX12_copies 5 RX12 none 0 0) {g : ob_St} {n0 : Nat} {x1 : Int32} {n2 : Nat} {x3 : Int32} {x4 : Int32} {x : (ob_St)} (hr : ∀ {g : ob_St} {x4 : Int32} {x : (ob_St)}, rec g x4 = some x → ob_Ev C 28 [] [] x → ob_Ev C 3 [(0, ob_rv C n0), (1, .int x1), (2, ob_rv C n2), (3, .int x3), (4, .int x4)] [] g) (h : Lb_X12_copies_3 rec g n0 x1 n2 x3 x4 = some x) (k0 : ob_Ev C 28 [] [] x) : ob_Ev C 3 [(0, ob_rv C n0), (1, .int x1), (2, ob_rv C n2), (3, .int x3), (4, .int x4)] [] g := by
  unfold Lb_X12_copies_3 at h
  refine ob_iload F 4 dX12_copies_3 rfl ?_
  refine ob_bipush F (v := 70) dX12_copies_5 (by decide) ?_
  refine ob_icmp_ge F 28 dX12_copies_7 (by decide) h (fun h => ?_) (fun h => ?_)
  · obtain rfl := Option.some.inj h
    exact ob_sub [] rfl (k0)
  · refine ob_rload_n F 2 dX12_copies_10 rfl ?_
    refine ob_iload_n F 3 dX12_copies_11 rfl ?_
    refine ob_iload F 4 dX12_copies_12 rfl ?_
    refine ob_iadd F dX12_copies_14 ?_
    refine ob_rload_n F 0 dX12_copies_15 rfl ?_
    refine ob_iload_n F 1 dX12_copies_16 rfl ?_
    refine ob_iload F 4 dX12_copies_17 rfl ?_
    refine ob_iadd F dX12_copies_19 ?_
    refine ob_iald F dX12_copies_20 h fun v1 h => ?_
    refine ob_iast F dX12_copies_21 h fun g2 h => ?_
    refine ob_iinc F (v := (x4 + 1)) (ls2 := [(4, .int (x4 + 1)), (0, ob_rv C n0), (1, .int x1), (2, ob_rv C n2), (3, .int x3)]) 4 dX12_copies_22 rfl rfl (by decide) rfl ?_
    refine ob_goto F 3 dX12_copies_25 (by decide) ?_
    exact ob_sub [1, 2, 3, 4, 0] rfl (hr h k0)
theorem l_X12_copies_3 {C : ob_Cx} (F : ob_Fx C cX12_copies 5 RX12 none 0 0) {n0 : Nat} {x1 : Int32} {n2 : Nat} {x3 : Int32} : ∀ (n : Nat) {g : ob_St} {x4 : Int32} {x : (ob_St)}, L_X12_copies_3 n0 x1 n2 x3 n g x4 = some x → ob_Ev C 28 [] [] x → ob_Ev C 3 [(0, ob_rv C n0), (1, .int x1), (2, ob_rv C n2), (3, .int x3), (4, .int x4)] [] g := by
  intro n
  induction n with
  | zero => intro g x4 x h; exact ob_no h
  | succ n ih => intro g x4 x h k0; exact lb_X12_copies_3 F ih h k0
def f_X12_copies (g : ob_St) (n0 : Nat) (x1 : Int32) (n2 : Nat) (x3 : Int32) : Option ob_St :=
  (L_X12_copies_3 n0 x1 n2 x3 ob_FU g 0).bind fun x_3 => some x_3
theorem b_X12_copies_0 {C : ob_Cx} (F : ob_Fx C cX12_copies 5 RX12 none 0 0) {g : ob_St} {n0 : Nat} {x1 : Int32} {n2 : Nat} {x3 : Int32} {r : ob_St} (h : f_X12_copies g n0 x1 n2 x3 = some r) (k : ob_Rt C none r) : ob_Ev C 0 [(0, ob_rv C n0), (1, .int x1), (2, ob_rv C n2), (3, .int x3)] [] g := by
  unfold f_X12_copies at h
  refine ob_iconst F (v := 0) dX12_copies_0 (by decide) ?_
  refine ob_istore F (ls2 := [(4, .int 0), (0, ob_rv C n0), (1, .int x1), (2, ob_rv C n2), (3, .int x3)]) dX12_copies_1 (by decide) rfl ?_
  obtain ⟨x_3, hx, h⟩ := Option.bind_eq_some_iff.mp h
  refine ob_sub [1, 2, 3, 4, 0] rfl (l_X12_copies_3 F ob_FU hx ?_)
  obtain rfl := Option.some.inj h
  exact ob_vret F dX12_copies_28 k
theorem t_X12_copies {cf : ob_Cf} {g : ob_St} {n0 : Nat} {x1 : Int32} {n2 : Nat} {x3 : Int32} {r : ob_St} (h : f_X12_copies g n0 x1 n2 x3 = some r) : ob_Mt cf yX12_copies cX12_copies 5 none 0 0 [ob_rw cf n0, .int x1, ob_rw cf n2, .int x3] g none r := by
  refine ob_enter (by decide) (Nat.le_of_ble_eq_true rfl) rfl ?_
  intro C hC F k
  subst hC
  exact b_X12_copies_0 F h k
-- X12_isIn
def f_X12_isIn (x0 : Int32) (x1 : Int32) (x2 : Int32) : Option Int32 :=
  (if x0 < x1 then (some 0) else ((if x2 < x0 then (some 0) else (some 1))))
theorem b_X12_isIn_0 {C : ob_Cx} (F : ob_Fx C cX12_isIn 3 RX12 (some .boolean) 0 0) {g : ob_St} {x0 : Int32} {x1 : Int32} {x2 : Int32} {r : Int32} (h : f_X12_isIn x0 x1 x2 = some r) (k : ob_Rt C (some (.int r)) g) : ob_Ev C 0 [(0, .int x0), (1, .int x1), (2, .int x2)] [] g := by
  unfold f_X12_isIn at h
  refine ob_iload_n F 0 dX12_isIn_0 rfl ?_
  refine ob_iload_n F 1 dX12_isIn_1 rfl ?_
  refine ob_icmp_lt F 14 dX12_isIn_2 (by decide) h (fun h => ?_) (fun h => ?_)
  · refine ob_iconst F (v := 0) dX12_isIn_14 (by decide) ?_
    obtain rfl := Option.some.inj h
    exact ob_zret F dX12_isIn_15 (Or.inl rfl) k
  · refine ob_iload_n F 0 dX12_isIn_5 rfl ?_
    refine ob_iload_n F 2 dX12_isIn_6 rfl ?_
    refine ob_icmp_gt F 14 dX12_isIn_7 (by decide) h (fun h => ?_) (fun h => ?_)
    · refine ob_iconst F (v := 0) dX12_isIn_14 (by decide) ?_
      obtain rfl := Option.some.inj h
      exact ob_zret F dX12_isIn_15 (Or.inl rfl) k
    · refine ob_iconst F (v := 1) dX12_isIn_10 (by decide) ?_
      refine ob_goto F 15 dX12_isIn_11 (by decide) ?_
      obtain rfl := Option.some.inj h
      exact ob_zret F dX12_isIn_15 (Or.inr rfl) k
theorem t_X12_isIn {cf : ob_Cf} {g : ob_St} {x0 : Int32} {x1 : Int32} {x2 : Int32} {r : Int32} (h : f_X12_isIn x0 x1 x2 = some r) : ob_Mt cf yX12_isIn cX12_isIn 3 (some .boolean) 0 0 [.int x0, .int x1, .int x2] g (some (.int r)) g := by
  refine ob_enter (by decide) (Nat.le_of_ble_eq_true rfl) (Or.inr rfl) ?_
  intro C hC F k
  subst hC
  exact b_X12_isIn_0 F h k
-- X12_bitOf
def f_X12_bitOf (x0 : Int32) (x1 : Int32) : Option Int32 :=
  (if ((x0 >>> (x1 &&& 31)) &&& 1) = 1 then (some 1) else (some 0))
theorem b_X12_bitOf_0 {C : ob_Cx} (F : ob_Fx C cX12_bitOf 2 RX12 (some .boolean) 0 0) {g : ob_St} {x0 : Int32} {x1 : Int32} {r : Int32} (h : f_X12_bitOf x0 x1 = some r) (k : ob_Rt C (some (.int r)) g) : ob_Ev C 0 [(0, .int x0), (1, .int x1)] [] g := by
  unfold f_X12_bitOf at h
  refine ob_iload_n F 0 dX12_bitOf_0 rfl ?_
  refine ob_iload_n F 1 dX12_bitOf_1 rfl ?_
  refine ob_ishr F dX12_bitOf_2 ?_
  refine ob_iconst F (v := 1) dX12_bitOf_3 (by decide) ?_
  refine ob_iand F dX12_bitOf_4 ?_
  refine ob_iconst F (v := 1) dX12_bitOf_5 (by decide) ?_
  refine ob_icmp_ne F 13 dX12_bitOf_6 (by decide) h (fun h => ?_) (fun h => ?_)
  · refine ob_iconst F (v := 0) dX12_bitOf_13 (by decide) ?_
    obtain rfl := Option.some.inj h
    exact ob_zret F dX12_bitOf_14 (Or.inl rfl) k
  · refine ob_iconst F (v := 1) dX12_bitOf_9 (by decide) ?_
    refine ob_goto F 14 dX12_bitOf_10 (by decide) ?_
    obtain rfl := Option.some.inj h
    exact ob_zret F dX12_bitOf_14 (Or.inr rfl) k
theorem t_X12_bitOf {cf : ob_Cf} {g : ob_St} {x0 : Int32} {x1 : Int32} {r : Int32} (h : f_X12_bitOf x0 x1 = some r) : ob_Mt cf yX12_bitOf cX12_bitOf 2 (some .boolean) 0 0 [.int x0, .int x1] g (some (.int r)) g := by
  refine ob_enter (by decide) (Nat.le_of_ble_eq_true rfl) (Or.inr rfl) ?_
  intro C hC F k
  subst hC
  exact b_X12_bitOf_0 F h k
-- X12_four
def Lb_X12_four_3 (rec : ob_St → Int32 → Option (ob_St)) (g : ob_St) (n0 : Nat) (x1 : Int32) (x2 : Int32) : Option (ob_St) :=
  (if x2 < 0 then (some g) else ((ob_gR 12 n0 7).bind fun v1 => (ob_gI g 12 n0 8).bind fun v2 => (ob_wB g v1 v2 (Int8.toInt32 (Int32.toInt8 (x1 >>> (x2 &&& 31))))).bind fun g3 => (ob_gI g3 12 n0 8).bind fun v4 => (ob_pI g3 12 n0 8 (v4 + 1)).bind fun g5 => rec g5 (x2 + (-8))))
def L_X12_four_3 (n0 : Nat) (x1 : Int32) : Nat → ob_St → Int32 → Option (ob_St)
  | 0, _, _ => none
  | n + 1, g, x2 => Lb_X12_four_3 (L_X12_four_3 n0 x1 n) g n0 x1 x2
theorem lb_X12_four_3 {C : ob_Cx} {rec : ob_St → Int32 → Option (ob_St)} (F : ob_Fx C cX12_four 3 RX12 none 0 0) {g : ob_St} {n0 : Nat} {x1 : Int32} {x2 : Int32} {x : (ob_St)} (hr : ∀ {g : ob_St} {x2 : Int32} {x : (ob_St)}, rec g x2 = some x → ob_Ev C 36 [] [] x → ob_Ev C 3 [(0, ob_rv C n0), (1, .int x1), (2, .int x2)] [] g) (h : Lb_X12_four_3 rec g n0 x1 x2 = some x) (k0 : ob_Ev C 36 [] [] x) : ob_Ev C 3 [(0, ob_rv C n0), (1, .int x1), (2, .int x2)] [] g := by
  unfold Lb_X12_four_3 at h
  refine ob_iload_n F 2 dX12_four_3 rfl ?_
  refine ob_if_lt F 36 dX12_four_4 (by decide) h (fun h => ?_) (fun h => ?_)
  · obtain rfl := Option.some.inj h
    exact ob_sub [] rfl (k0)
  · refine ob_rload_n F 0 dX12_four_7 rfl ?_
    refine ob_getR F dX12_four_8 fl_X12_30 h fun v1 h => ?_
    refine ob_rload_n F 0 dX12_four_11 rfl ?_
    refine ob_getI F dX12_four_12 fl_X12_75 h fun v2 h => ?_
    refine ob_iload_n F 1 dX12_four_15 rfl ?_
    refine ob_iload_n F 2 dX12_four_16 rfl ?_
    refine ob_ishr F dX12_four_17 ?_
    refine ob_i2b F dX12_four_18 ?_
    refine ob_bast F dX12_four_19 h fun g3 h => ?_
    refine ob_rload_n F 0 dX12_four_20 rfl ?_
    refine ob_dup F dX12_four_21 rfl ?_
    refine ob_getI F dX12_four_22 fl_X12_75 h fun v4 h => ?_
    refine ob_iconst F (v := 1) dX12_four_25 (by decide) ?_
    refine ob_iadd F dX12_four_26 ?_
    refine ob_putI F dX12_four_27 fp_X12_75 h fun g5 h => ?_
    refine ob_iinc F (v := (x2 + (-8))) (ls2 := [(2, .int (x2 + (-8))), (0, ob_rv C n0), (1, .int x1)]) 2 dX12_four_30 rfl rfl (by decide) rfl ?_
    refine ob_goto F 3 dX12_four_33 (by decide) ?_
    exact ob_sub [1, 2, 0] rfl (hr h k0)
theorem l_X12_four_3 {C : ob_Cx} (F : ob_Fx C cX12_four 3 RX12 none 0 0) {n0 : Nat} {x1 : Int32} : ∀ (n : Nat) {g : ob_St} {x2 : Int32} {x : (ob_St)}, L_X12_four_3 n0 x1 n g x2 = some x → ob_Ev C 36 [] [] x → ob_Ev C 3 [(0, ob_rv C n0), (1, .int x1), (2, .int x2)] [] g := by
  intro n
  induction n with
  | zero => intro g x2 x h; exact ob_no h
  | succ n ih => intro g x2 x h k0; exact lb_X12_four_3 F ih h k0
def f_X12_four (g : ob_St) (n0 : Nat) (x1 : Int32) : Option ob_St :=
  (L_X12_four_3 n0 x1 ob_FU g 24).bind fun x_6 => some x_6
theorem b_X12_four_0 {C : ob_Cx} (F : ob_Fx C cX12_four 3 RX12 none 0 0) {g : ob_St} {n0 : Nat} {x1 : Int32} {r : ob_St} (h : f_X12_four g n0 x1 = some r) (k : ob_Rt C none r) : ob_Ev C 0 [(0, ob_rv C n0), (1, .int x1)] [] g := by
  unfold f_X12_four at h
  refine ob_bipush F (v := 24) dX12_four_0 (by decide) ?_
  refine ob_istore_n F (ls2 := [(2, .int 24), (0, ob_rv C n0), (1, .int x1)]) dX12_four_2 (by decide) rfl ?_
  obtain ⟨x_6, hx, h⟩ := Option.bind_eq_some_iff.mp h
  refine ob_sub [1, 2, 0] rfl (l_X12_four_3 F ob_FU hx ?_)
  obtain rfl := Option.some.inj h
  exact ob_vret F dX12_four_36 k
theorem t_X12_four {cf : ob_Cf} {g : ob_St} {n0 : Nat} {x1 : Int32} {r : ob_St} (h : f_X12_four g n0 x1 = some r) : ob_Mt cf yX12_four cX12_four 3 none 0 0 [ob_rw cf n0, .int x1] g none r := by
  refine ob_enter (by decide) (Nat.le_of_ble_eq_true rfl) rfl ?_
  intro C hC F k
  subst hC
  exact b_X12_four_0 F h k
-- X12_feed
def f_X12_feed (g : ob_St) (n0 : Nat) (x1 : Int32) (x2 : Int32) (x3 : Int32) (x4 : Int32) (x5 : Int32) : Option (Int32 × ob_St) :=
  (ob_pI g 12 n0 0 0).bind fun g1 => (ob_gI g1 12 n0 8).bind fun v2 => (if (v2 + 20) ≤ 540 then ((ob_ck 12 n0 (f_X12_four g1 n0 x1)).bind fun g3 => (ob_ck 12 n0 (f_X12_four g3 n0 x2)).bind fun g4 => (ob_ck 12 n0 (f_X12_four g4 n0 x3)).bind fun g5 => (ob_ck 12 n0 (f_X12_four g5 n0 x4)).bind fun g6 => (ob_ck 12 n0 (f_X12_four g6 n0 x5)).bind fun g7 => (ob_gI g7 12 n0 8).bind fun v8 => some (v8, g7)) else (some ((-1), g1)))
theorem b_X12_feed_0 {C : ob_Cx} (F : ob_Fx C cX12_feed 6 RX12 (some .int) 1 22) {g : ob_St} {n0 : Nat} {x1 : Int32} {x2 : Int32} {x3 : Int32} {x4 : Int32} {x5 : Int32} {r : (Int32 × ob_St)} (h : f_X12_feed g n0 x1 x2 x3 x4 x5 = some r) (k : ob_Rt C (some (.int r.1)) r.2) : ob_Ev C 0 [(0, ob_rv C n0), (1, .int x1), (2, .int x2), (3, .int x3), (4, .int x4), (5, .int x5)] [] g := by
  unfold f_X12_feed at h
  refine ob_rload_n F 0 dX12_feed_0 rfl ?_
  refine ob_iconst F (v := 0) dX12_feed_1 (by decide) ?_
  refine ob_putI F dX12_feed_2 fp_X12_1 h fun g1 h => ?_
  refine ob_rload_n F 0 dX12_feed_5 rfl ?_
  refine ob_getI F dX12_feed_6 fl_X12_75 h fun v2 h => ?_
  refine ob_bipush F (v := 20) dX12_feed_9 (by decide) ?_
  refine ob_iadd F dX12_feed_11 ?_
  refine ob_sipush F (v := 540) dX12_feed_12 (by decide) ?_
  refine ob_icmp_le F 20 dX12_feed_15 (by decide) h (fun h => ?_) (fun h => ?_)
  · refine ob_rload_n F 0 dX12_feed_20 rfl ?_
    refine ob_iload_n F 1 dX12_feed_21 rfl ?_
    refine ob_cVvS F dX12_feed_22 im_X12_four tw6_36 h (fun b hb => t_X12_four hb) rfl rfl (Nat.le_of_ble_eq_true rfl) (by decide) fun g3 h => ?_
    refine ob_rload_n F 0 dX12_feed_25 rfl ?_
    refine ob_iload_n F 2 dX12_feed_26 rfl ?_
    refine ob_cVvS F dX12_feed_27 im_X12_four tw6_36 h (fun b hb => t_X12_four hb) rfl rfl (Nat.le_of_ble_eq_true rfl) (by decide) fun g4 h => ?_
    refine ob_rload_n F 0 dX12_feed_30 rfl ?_
    refine ob_iload_n F 3 dX12_feed_31 rfl ?_
    refine ob_cVvS F dX12_feed_32 im_X12_four tw6_36 h (fun b hb => t_X12_four hb) rfl rfl (Nat.le_of_ble_eq_true rfl) (by decide) fun g5 h => ?_
    refine ob_rload_n F 0 dX12_feed_35 rfl ?_
    refine ob_iload F 4 dX12_feed_36 rfl ?_
    refine ob_cVvS F dX12_feed_38 im_X12_four tw6_36 h (fun b hb => t_X12_four hb) rfl rfl (Nat.le_of_ble_eq_true rfl) (by decide) fun g6 h => ?_
    refine ob_rload_n F 0 dX12_feed_41 rfl ?_
    refine ob_iload F 5 dX12_feed_42 rfl ?_
    refine ob_cVvS F dX12_feed_44 im_X12_four tw6_36 h (fun b hb => t_X12_four hb) rfl rfl (Nat.le_of_ble_eq_true rfl) (by decide) fun g7 h => ?_
    refine ob_rload_n F 0 dX12_feed_47 rfl ?_
    refine ob_getI F dX12_feed_48 fl_X12_75 h fun v8 h => ?_
    obtain rfl := Option.some.inj h
    exact ob_iret F dX12_feed_51 k
  · refine ob_iconst F (v := (-1)) dX12_feed_18 (by decide) ?_
    obtain rfl := Option.some.inj h
    exact ob_iret F dX12_feed_19 k
theorem t_X12_feed {cf : ob_Cf} {g : ob_St} {n0 : Nat} {x1 : Int32} {x2 : Int32} {x3 : Int32} {x4 : Int32} {x5 : Int32} {r : (Int32 × ob_St)} (h : f_X12_feed g n0 x1 x2 x3 x4 x5 = some r) : ob_Mt cf yX12_feed cX12_feed 6 (some .int) 1 22 [ob_rw cf n0, .int x1, .int x2, .int x3, .int x4, .int x5] g (some (.int r.1)) r.2 := by
  refine ob_enter (by decide) (Nat.le_of_ble_eq_true rfl) (Or.inl rfl) ?_
  intro C hC F k
  subst hC
  exact b_X12_feed_0 F h k
-- X12_end
def f_X12_end (g : ob_St) (n0 : Nat) (x1 : Int32) : Option (Int32 × ob_St) :=
  (ob_pI g 12 n0 0 0).bind fun g1 => (if x1 < 0 then (some (0, g1)) else ((ob_gI g1 12 n0 8).bind fun v2 => (if x1 ≤ v2 then ((ob_pI g1 12 n0 8 x1).bind fun g3 => some (1, g3)) else (some (0, g1)))))
theorem b_X12_end_0 {C : ob_Cx} (F : ob_Fx C cX12_end 2 RX12 (some .boolean) 0 0) {g : ob_St} {n0 : Nat} {x1 : Int32} {r : (Int32 × ob_St)} (h : f_X12_end g n0 x1 = some r) (k : ob_Rt C (some (.int r.1)) r.2) : ob_Ev C 0 [(0, ob_rv C n0), (1, .int x1)] [] g := by
  unfold f_X12_end at h
  refine ob_rload_n F 0 dX12_end_0 rfl ?_
  refine ob_iconst F (v := 0) dX12_end_1 (by decide) ?_
  refine ob_putI F dX12_end_2 fp_X12_1 h fun g1 h => ?_
  refine ob_iload_n F 1 dX12_end_5 rfl ?_
  refine ob_if_lt F 17 dX12_end_6 (by decide) h (fun h => ?_) (fun h => ?_)
  · refine ob_iconst F (v := 0) dX12_end_17 (by decide) ?_
    obtain rfl := Option.some.inj h
    exact ob_zret F dX12_end_18 (Or.inl rfl) k
  · refine ob_iload_n F 1 dX12_end_9 rfl ?_
    refine ob_rload_n F 0 dX12_end_10 rfl ?_
    refine ob_getI F dX12_end_11 fl_X12_75 h fun v2 h => ?_
    refine ob_icmp_le F 19 dX12_end_14 (by decide) h (fun h => ?_) (fun h => ?_)
    · refine ob_rload_n F 0 dX12_end_19 rfl ?_
      refine ob_iload_n F 1 dX12_end_20 rfl ?_
      refine ob_putI F dX12_end_21 fp_X12_75 h fun g3 h => ?_
      refine ob_iconst F (v := 1) dX12_end_24 (by decide) ?_
      obtain rfl := Option.some.inj h
      exact ob_zret F dX12_end_25 (Or.inr rfl) k
    · refine ob_iconst F (v := 0) dX12_end_17 (by decide) ?_
      obtain rfl := Option.some.inj h
      exact ob_zret F dX12_end_18 (Or.inl rfl) k
theorem t_X12_end {cf : ob_Cf} {g : ob_St} {n0 : Nat} {x1 : Int32} {r : (Int32 × ob_St)} (h : f_X12_end g n0 x1 = some r) : ob_Mt cf yX12_end cX12_end 2 (some .boolean) 0 0 [ob_rw cf n0, .int x1] g (some (.int r.1)) r.2 := by
  refine ob_enter (by decide) (Nat.le_of_ble_eq_true rfl) (Or.inr rfl) ?_
  intro C hC F k
  subst hC
  exact b_X12_end_0 F h k
-- X12_peek
def f_X12_peek (g : ob_St) (n0 : Nat) : Option Int32 :=
  (ob_gI g 12 n0 10).bind fun v1 => (ob_gI g 12 n0 9).bind fun v2 => (if v2 ≤ v1 then (some (-1)) else ((ob_gR 12 n0 7).bind fun v3 => (ob_gI g 12 n0 10).bind fun v4 => (ob_rI g 13 v3 v4).bind fun v5 => some (v5 &&& 255)))
theorem b_X12_peek_0 {C : ob_Cx} (F : ob_Fx C cX12_peek 1 RX12 (some .int) 0 0) {g : ob_St} {n0 : Nat} {r : Int32} (h : f_X12_peek g n0 = some r) (k : ob_Rt C (some (.int r)) g) : ob_Ev C 0 [(0, ob_rv C n0)] [] g := by
  unfold f_X12_peek at h
  refine ob_rload_n F 0 dX12_peek_0 rfl ?_
  refine ob_getI F dX12_peek_1 fl_X12_82 h fun v1 h => ?_
  refine ob_rload_n F 0 dX12_peek_4 rfl ?_
  refine ob_getI F dX12_peek_5 fl_X12_85 h fun v2 h => ?_
  refine ob_icmp_ge F 27 dX12_peek_8 (by decide) h (fun h => ?_) (fun h => ?_)
  · refine ob_iconst F (v := (-1)) dX12_peek_27 (by decide) ?_
    obtain rfl := Option.some.inj h
    exact ob_iret F dX12_peek_28 k
  · refine ob_rload_n F 0 dX12_peek_11 rfl ?_
    refine ob_getR F dX12_peek_12 fl_X12_30 h fun v3 h => ?_
    refine ob_rload_n F 0 dX12_peek_15 rfl ?_
    refine ob_getI F dX12_peek_16 fl_X12_82 h fun v4 h => ?_
    refine ob_bald F dX12_peek_19 h fun v5 h => ?_
    refine ob_sipush F (v := 255) dX12_peek_20 (by decide) ?_
    refine ob_iand F dX12_peek_23 ?_
    refine ob_goto F 28 dX12_peek_24 (by decide) ?_
    obtain rfl := Option.some.inj h
    exact ob_iret F dX12_peek_28 k
theorem t_X12_peek {cf : ob_Cf} {g : ob_St} {n0 : Nat} {r : Int32} (h : f_X12_peek g n0 = some r) : ob_Mt cf yX12_peek cX12_peek 1 (some .int) 0 0 [ob_rw cf n0] g (some (.int r)) g := by
  refine ob_enter (by decide) (Nat.le_of_ble_eq_true rfl) (Or.inl rfl) ?_
  intro C hC F k
  subst hC
  exact b_X12_peek_0 F h k
-- X12_isSmall
def f_X12_isSmall (x0 : Int32) : Option Int32 :=
  (f_X12_isIn x0 97 122).bind fun v1 => (ob_zr v1).bind fun z2 => some z2
theorem b_X12_isSmall_0 {C : ob_Cx} (F : ob_Fx C cX12_isSmall 1 RX12 (some .boolean) 1 22) {g : ob_St} {x0 : Int32} {r : Int32} (h : f_X12_isSmall x0 = some r) (k : ob_Rt C (some (.int r)) g) : ob_Ev C 0 [(0, .int x0)] [] g := by
  unfold f_X12_isSmall at h
  refine ob_iload_n F 0 dX12_isSmall_0 rfl ?_
  refine ob_bipush F (v := 97) dX12_isSmall_1 (by decide) ?_
  refine ob_bipush F (v := 122) dX12_isSmall_3 (by decide) ?_
  refine ob_cSi F dX12_isSmall_5 im_X12_isIn tw6_67 h (fun b hb => t_X12_isIn hb) rfl rfl (Nat.le_of_ble_eq_true rfl) (by decide) fun v1 h => ?_
  refine ob_zrow h fun hz h => ?_
  obtain rfl := Option.some.inj h
  exact ob_zret F dX12_isSmall_8 hz k
theorem t_X12_isSmall {cf : ob_Cf} {g : ob_St} {x0 : Int32} {r : Int32} (h : f_X12_isSmall x0 = some r) : ob_Mt cf yX12_isSmall cX12_isSmall 1 (some .boolean) 1 22 [.int x0] g (some (.int r)) g := by
  refine ob_enter (by decide) (Nat.le_of_ble_eq_true rfl) (Or.inr rfl) ?_
  intro C hC F k
  subst hC
  exact b_X12_isSmall_0 F h k
-- X12_isDigit
def f_X12_isDigit (x0 : Int32) : Option Int32 :=
  (f_X12_isIn x0 48 57).bind fun v1 => (ob_zr v1).bind fun z2 => some z2
theorem b_X12_isDigit_0 {C : ob_Cx} (F : ob_Fx C cX12_isDigit 1 RX12 (some .boolean) 1 22) {g : ob_St} {x0 : Int32} {r : Int32} (h : f_X12_isDigit x0 = some r) (k : ob_Rt C (some (.int r)) g) : ob_Ev C 0 [(0, .int x0)] [] g := by
  unfold f_X12_isDigit at h
  refine ob_iload_n F 0 dX12_isDigit_0 rfl ?_
  refine ob_bipush F (v := 48) dX12_isDigit_1 (by decide) ?_
  refine ob_bipush F (v := 57) dX12_isDigit_3 (by decide) ?_
  refine ob_cSi F dX12_isDigit_5 im_X12_isIn tw6_67 h (fun b hb => t_X12_isIn hb) rfl rfl (Nat.le_of_ble_eq_true rfl) (by decide) fun v1 h => ?_
  refine ob_zrow h fun hz h => ?_
  obtain rfl := Option.some.inj h
  exact ob_zret F dX12_isDigit_8 hz k
theorem t_X12_isDigit {cf : ob_Cf} {g : ob_St} {x0 : Int32} {r : Int32} (h : f_X12_isDigit x0 = some r) : ob_Mt cf yX12_isDigit cX12_isDigit 1 (some .boolean) 1 22 [.int x0] g (some (.int r)) g := by
  refine ob_enter (by decide) (Nat.le_of_ble_eq_true rfl) (Or.inr rfl) ?_
  intro C hC F k
  subst hC
  exact b_X12_isDigit_0 F h k
-- X12_bad
def f_X12_bad (g : ob_St) (n0 : Nat) (x1 : Int32) (x2 : Int32) : Option (Int32 × ob_St) :=
  (ob_pI g 12 n0 15 x1).bind fun g1 => (ob_pI g1 12 n0 16 x2).bind fun g2 => some (0, g2)
theorem b_X12_bad_0 {C : ob_Cx} (F : ob_Fx C cX12_bad 3 RX12 (some .boolean) 0 0) {g : ob_St} {n0 : Nat} {x1 : Int32} {x2 : Int32} {r : (Int32 × ob_St)} (h : f_X12_bad g n0 x1 x2 = some r) (k : ob_Rt C (some (.int r.1)) r.2) : ob_Ev C 0 [(0, ob_rv C n0), (1, .int x1), (2, .int x2)] [] g := by
  unfold f_X12_bad at h
  refine ob_rload_n F 0 dX12_bad_0 rfl ?_
  refine ob_iload_n F 1 dX12_bad_1 rfl ?_
  refine ob_putI F dX12_bad_2 fp_X12_92 h fun g1 h => ?_
  refine ob_rload_n F 0 dX12_bad_5 rfl ?_
  refine ob_iload_n F 2 dX12_bad_6 rfl ?_
  refine ob_putI F dX12_bad_7 fp_X12_95 h fun g2 h => ?_
  refine ob_iconst F (v := 0) dX12_bad_10 (by decide) ?_
  obtain rfl := Option.some.inj h
  exact ob_zret F dX12_bad_11 (Or.inl rfl) k
theorem t_X12_bad {cf : ob_Cf} {g : ob_St} {n0 : Nat} {x1 : Int32} {x2 : Int32} {r : (Int32 × ob_St)} (h : f_X12_bad g n0 x1 x2 = some r) : ob_Mt cf yX12_bad cX12_bad 3 (some .boolean) 0 0 [ob_rw cf n0, .int x1, .int x2] g (some (.int r.1)) r.2 := by
  refine ob_enter (by decide) (Nat.le_of_ble_eq_true rfl) (Or.inr rfl) ?_
  intro C hC F k
  subst hC
  exact b_X12_bad_0 F h k
-- X12_badHere
def f_X12_badHere (g : ob_St) (n0 : Nat) (x1 : Int32) : Option (Int32 × ob_St) :=
  (ob_gI g 12 n0 11).bind fun v1 => (ob_ck 12 n0 (f_X12_bad g n0 x1 v1)).bind fun v2 => (ob_zr v2.1).bind fun z3 => some (z3, v2.2)
theorem b_X12_badHere_0 {C : ob_Cx} (F : ob_Fx C cX12_badHere 2 RX12 (some .boolean) 1 22) {g : ob_St} {n0 : Nat} {x1 : Int32} {r : (Int32 × ob_St)} (h : f_X12_badHere g n0 x1 = some r) (k : ob_Rt C (some (.int r.1)) r.2) : ob_Ev C 0 [(0, ob_rv C n0), (1, .int x1)] [] g := by
  unfold f_X12_badHere at h
  refine ob_rload_n F 0 dX12_badHere_0 rfl ?_
  refine ob_iload_n F 1 dX12_badHere_1 rfl ?_
  refine ob_rload_n F 0 dX12_badHere_2 rfl ?_
  refine ob_getI F dX12_badHere_3 fl_X12_98 h fun v1 h => ?_
  refine ob_cViS F dX12_badHere_6 im_X12_bad tw6_52 h (fun b hb => t_X12_bad hb) rfl rfl (Nat.le_of_ble_eq_true rfl) (by decide) fun v2 h => ?_
  refine ob_zrow h fun hz h => ?_
  obtain rfl := Option.some.inj h
  exact ob_zret F dX12_badHere_9 hz k
theorem t_X12_badHere {cf : ob_Cf} {g : ob_St} {n0 : Nat} {x1 : Int32} {r : (Int32 × ob_St)} (h : f_X12_badHere g n0 x1 = some r) : ob_Mt cf yX12_badHere cX12_badHere 2 (some .boolean) 1 22 [ob_rw cf n0, .int x1] g (some (.int r.1)) r.2 := by
  refine ob_enter (by decide) (Nat.le_of_ble_eq_true rfl) (Or.inr rfl) ?_
  intro C hC F k
  subst hC
  exact b_X12_badHere_0 F h k
-- X12_next
def Lb_X12_next_0 (rec : ob_St → Option (ob_St)) (g : ob_St) (n0 : Nat) : Option (ob_St) :=
  (ob_ck 12 n0 (f_X12_peek g n0)).bind fun v1 => (if v1 = 32 then ((ob_gI g 12 n0 10).bind fun v2 => (ob_pI g 12 n0 10 (v2 + 1)).bind fun g3 => rec g3) else (some g))
def L_X12_next_0 (n0 : Nat) : Nat → ob_St → Option (ob_St)
  | 0, _ => none
  | n + 1, g => Lb_X12_next_0 (L_X12_next_0 n0 n) g n0 
theorem lb_X12_next_0 {C : ob_Cx} {rec : ob_St → Option (ob_St)} (F : ob_Fx C cX12_next 4 RX12 none 2 42) {g : ob_St} {n0 : Nat} {x : (ob_St)} (hr : ∀ {g : ob_St} {x : (ob_St)}, rec g = some x → ob_Ev C 22 [(0, ob_rv C n0)] [] x → ob_Ev C 0 [(0, ob_rv C n0)] [] g) (h : Lb_X12_next_0 rec g n0  = some x) (k0 : ob_Ev C 22 [(0, ob_rv C n0)] [] x) : ob_Ev C 0 [(0, ob_rv C n0)] [] g := by
  unfold Lb_X12_next_0 at h
  refine ob_rload_n F 0 dX12_next_0 rfl ?_
  refine ob_cVi F dX12_next_1 im_X12_peek tw6_60 h (fun b hb => t_X12_peek hb) rfl rfl (Nat.le_of_ble_eq_true rfl) (by decide) fun v1 h => ?_
  refine ob_bipush F (v := 32) dX12_next_4 (by decide) ?_
  refine ob_icmp_ne F 22 dX12_next_6 (by decide) h (fun h => ?_) (fun h => ?_)
  · obtain rfl := Option.some.inj h
    exact k0
  · refine ob_rload_n F 0 dX12_next_9 rfl ?_
    refine ob_dup F dX12_next_10 rfl ?_
    refine ob_getI F dX12_next_11 fl_X12_82 h fun v2 h => ?_
    refine ob_iconst F (v := 1) dX12_next_14 (by decide) ?_
    refine ob_iadd F dX12_next_15 ?_
    refine ob_putI F dX12_next_16 fp_X12_82 h fun g3 h => ?_
    refine ob_goto F 0 dX12_next_19 (by decide) ?_
    exact hr h k0
theorem l_X12_next_0 {C : ob_Cx} (F : ob_Fx C cX12_next 4 RX12 none 2 42) {n0 : Nat} : ∀ (n : Nat) {g : ob_St} {x : (ob_St)}, L_X12_next_0 n0 n g  = some x → ob_Ev C 22 [(0, ob_rv C n0)] [] x → ob_Ev C 0 [(0, ob_rv C n0)] [] g := by
  intro n
  induction n with
  | zero => intro g  x h; exact ob_no h
  | succ n ih => intro g  x h k0; exact lb_X12_next_0 F ih h k0
def B_X12_next_186 (rec : ob_St → Int32 → Option (ob_St × Int32)) (g : ob_St) (n0 : Nat) (x2 : Int32) (s0 : Nat) (s1 : Int32) : Option (ob_St × Int32) :=
  (ob_pI g 12 s0 13 s1).bind fun g17 => (ob_gI g17 12 n0 10).bind fun v18 => (ob_pI g17 12 n0 10 (v18 + 1)).bind fun g19 => rec g19 x2
theorem b_X12_next_186 {C : ob_Cx} {rec : ob_St → Int32 → Option (ob_St × Int32)} (F : ob_Fx C cX12_next 4 RX12 none 2 42) {g : ob_St} {n0 : Nat} {x2 : Int32} {s0 : Nat} {s1 : Int32} {x : (ob_St × Int32)} (hr : ∀ {g : ob_St} {x2 : Int32} {x : (ob_St × Int32)}, rec g x2 = some x → ob_Ev C 202 [(0, ob_rv C n0), (2, .int x.2)] [] x.1 → ob_Ev C 93 [(0, ob_rv C n0), (2, .int x2)] [] g) (h : B_X12_next_186 rec g n0 x2 s0 s1 = some x) (k0 : ob_Ev C 202 [(0, ob_rv C n0), (2, .int x.2)] [] x.1) : ob_Ev C 186 [(0, ob_rv C n0), (2, .int x2)] [.int s1, ob_rv C s0] g := by
  unfold B_X12_next_186 at h
  refine ob_putI F dX12_next_186 fp_X12_119 h fun g17 h => ?_
  refine ob_rload_n F 0 dX12_next_189 rfl ?_
  refine ob_dup F dX12_next_190 rfl ?_
  refine ob_getI F dX12_next_191 fl_X12_82 h fun v18 h => ?_
  refine ob_iconst F (v := 1) dX12_next_194 (by decide) ?_
  refine ob_iadd F dX12_next_195 ?_
  refine ob_putI F dX12_next_196 fp_X12_82 h fun g19 h => ?_
  refine ob_goto F 93 dX12_next_199 (by decide) ?_
  exact hr h k0
def B_X12_next_156 (rec : ob_St → Int32 → Option (ob_St × Int32)) (g : ob_St) (n0 : Nat) (x3 : Int32) (s0 : Int32) (s1 : Int32) : Option (ob_St × Int32) :=
  (if 3 ≤ x3 then ((ob_gI g 12 n0 13).bind fun v16 => B_X12_next_186 rec g n0 (s0 + s1) n0 v16) else ((ob_gI g 12 n0 13).bind fun v20 => (ob_ck 12 n0 (f_X12_peek g n0)).bind fun v21 => B_X12_next_186 rec g n0 (s0 + s1) n0 (((10 * v20) + v21) - 48)))
theorem b_X12_next_156 {C : ob_Cx} {rec : ob_St → Int32 → Option (ob_St × Int32)} (F : ob_Fx C cX12_next 4 RX12 none 2 42) {g : ob_St} {n0 : Nat} {x3 : Int32} {s0 : Int32} {s1 : Int32} {x : (ob_St × Int32)} (hr : ∀ {g : ob_St} {x2 : Int32} {x : (ob_St × Int32)}, rec g x2 = some x → ob_Ev C 202 [(0, ob_rv C n0), (2, .int x.2)] [] x.1 → ob_Ev C 93 [(0, ob_rv C n0), (2, .int x2)] [] g) (h : B_X12_next_156 rec g n0 x3 s0 s1 = some x) (k0 : ob_Ev C 202 [(0, ob_rv C n0), (2, .int x.2)] [] x.1) : ob_Ev C 156 [(0, ob_rv C n0), (3, .int x3)] [.int s1, .int s0] g := by
  unfold B_X12_next_156 at h
  refine ob_iadd F dX12_next_156 ?_
  refine ob_istore_n F (ls2 := [(2, .int (s0 + s1)), (0, ob_rv C n0), (3, .int x3)]) dX12_next_157 (by decide) rfl ?_
  refine ob_rload_n F 1 dX12_next_158 rfl ?_
  refine ob_iload_n F 2 dX12_next_159 rfl ?_
  refine ob_iconst F (v := 3) dX12_next_160 (by decide) ?_
  refine ob_icmp_ge F 182 dX12_next_161 (by decide) h (fun h => ?_) (fun h => ?_)
  · refine ob_rload_n F 1 dX12_next_182 rfl ?_
    refine ob_getI F dX12_next_183 fl_X12_119 h fun v16 h => ?_
    exact ob_sub [1, 0] rfl (b_X12_next_186 F hr h k0)
  · refine ob_bipush F (v := 10) dX12_next_164 (by decide) ?_
    refine ob_rload_n F 1 dX12_next_166 rfl ?_
    refine ob_getI F dX12_next_167 fl_X12_119 h fun v20 h => ?_
    refine ob_imul F dX12_next_170 ?_
    refine ob_rload_n F 1 dX12_next_171 rfl ?_
    refine ob_cVi F dX12_next_172 im_X12_peek tw6_60 h (fun b hb => t_X12_peek hb) rfl rfl (Nat.le_of_ble_eq_true rfl) (by decide) fun v21 h => ?_
    refine ob_iadd F dX12_next_175 ?_
    refine ob_bipush F (v := 48) dX12_next_176 (by decide) ?_
    refine ob_isub F dX12_next_178 ?_
    refine ob_goto F 186 dX12_next_179 (by decide) ?_
    exact ob_sub [1, 0] rfl (b_X12_next_186 F hr h k0)
def B_X12_next_140 (rec : ob_St → Int32 → Option (ob_St × Int32)) (g : ob_St) (n0 : Nat) (x2 : Int32) (x3 : Int32) : Option (ob_St × Int32) :=
  (ob_ck 12 n0 (f_X12_peek g n0)).bind fun v14 => (f_X12_isSmall v14).bind fun v15 => (if v15 = 0 then (B_X12_next_156 rec g n0 x3 x2 0) else (B_X12_next_156 rec g n0 x3 x2 1))
theorem b_X12_next_140 {C : ob_Cx} {rec : ob_St → Int32 → Option (ob_St × Int32)} (F : ob_Fx C cX12_next 4 RX12 none 2 42) {g : ob_St} {n0 : Nat} {x2 : Int32} {x3 : Int32} {x : (ob_St × Int32)} (hr : ∀ {g : ob_St} {x2 : Int32} {x : (ob_St × Int32)}, rec g x2 = some x → ob_Ev C 202 [(0, ob_rv C n0), (2, .int x.2)] [] x.1 → ob_Ev C 93 [(0, ob_rv C n0), (2, .int x2)] [] g) (h : B_X12_next_140 rec g n0 x2 x3 = some x) (k0 : ob_Ev C 202 [(0, ob_rv C n0), (2, .int x.2)] [] x.1) : ob_Ev C 140 [(0, ob_rv C n0), (2, .int x2), (3, .int x3)] [] g := by
  unfold B_X12_next_140 at h
  refine ob_iload_n F 1 dX12_next_140 rfl ?_
  refine ob_rload_n F 0 dX12_next_141 rfl ?_
  refine ob_cVi F dX12_next_142 im_X12_peek tw6_60 h (fun b hb => t_X12_peek hb) rfl rfl (Nat.le_of_ble_eq_true rfl) (by decide) fun v14 h => ?_
  refine ob_cSi F dX12_next_145 im_X12_isSmall tw6_64 h (fun b hb => t_X12_isSmall hb) rfl rfl (Nat.le_of_ble_eq_true rfl) (by decide) fun v15 h => ?_
  refine ob_if_eq F 155 dX12_next_148 (by decide) h (fun h => ?_) (fun h => ?_)
  · refine ob_iconst F (v := 0) dX12_next_155 (by decide) ?_
    exact ob_sub [0, 2] rfl (b_X12_next_156 F hr h k0)
  · refine ob_iconst F (v := 1) dX12_next_151 (by decide) ?_
    refine ob_goto F 156 dX12_next_152 (by decide) ?_
    exact ob_sub [0, 2] rfl (b_X12_next_156 F hr h k0)
def B_X12_next_113 (rec : ob_St → Int32 → Option (ob_St × Int32)) (g : ob_St) (n0 : Nat) (x2 : Int32) : Option (ob_St × Int32) :=
  (ob_gI g 12 n0 10).bind fun v12 => (ob_gI g 12 n0 11).bind fun v13 => (if 8 ≤ (v12 - v13) then (B_X12_next_140 rec g n0 x2 (v12 - v13)) else ((ob_gR 12 n0 17).bind fun v22 => (ob_ck 12 n0 (f_X12_peek g n0)).bind fun v23 => (ob_wB g v22 (v12 - v13) (Int8.toInt32 (Int32.toInt8 v23))).bind fun g24 => B_X12_next_140 rec g24 n0 x2 (v12 - v13)))
theorem b_X12_next_113 {C : ob_Cx} {rec : ob_St → Int32 → Option (ob_St × Int32)} (F : ob_Fx C cX12_next 4 RX12 none 2 42) {g : ob_St} {n0 : Nat} {x2 : Int32} {x : (ob_St × Int32)} (hr : ∀ {g : ob_St} {x2 : Int32} {x : (ob_St × Int32)}, rec g x2 = some x → ob_Ev C 202 [(0, ob_rv C n0), (2, .int x.2)] [] x.1 → ob_Ev C 93 [(0, ob_rv C n0), (2, .int x2)] [] g) (h : B_X12_next_113 rec g n0 x2 = some x) (k0 : ob_Ev C 202 [(0, ob_rv C n0), (2, .int x.2)] [] x.1) : ob_Ev C 113 [(0, ob_rv C n0), (2, .int x2)] [] g := by
  unfold B_X12_next_113 at h
  refine ob_rload_n F 0 dX12_next_113 rfl ?_
  refine ob_getI F dX12_next_114 fl_X12_82 h fun v12 h => ?_
  refine ob_rload_n F 0 dX12_next_117 rfl ?_
  refine ob_getI F dX12_next_118 fl_X12_98 h fun v13 h => ?_
  refine ob_isub F dX12_next_121 ?_
  refine ob_istore_n F (ls2 := [(3, .int (v12 - v13)), (0, ob_rv C n0), (2, .int x2)]) dX12_next_122 (by decide) rfl ?_
  refine ob_iload_n F 0 dX12_next_123 rfl ?_
  refine ob_bipush F (v := 8) dX12_next_124 (by decide) ?_
  refine ob_icmp_ge F 140 dX12_next_126 (by decide) h (fun h => ?_) (fun h => ?_)
  · exact ob_sub [1, 2, 0] rfl (b_X12_next_140 F hr h k0)
  · refine ob_rload_n F 1 dX12_next_129 rfl ?_
    refine ob_getR F dX12_next_130 fl_X12_34 h fun v22 h => ?_
    refine ob_iload_n F 0 dX12_next_133 rfl ?_
    refine ob_rload_n F 1 dX12_next_134 rfl ?_
    refine ob_cVi F dX12_next_135 im_X12_peek tw6_60 h (fun b hb => t_X12_peek hb) rfl rfl (Nat.le_of_ble_eq_true rfl) (by decide) fun v23 h => ?_
    refine ob_i2b F dX12_next_138 ?_
    refine ob_bast F dX12_next_139 h fun g24 h => ?_
    exact ob_sub [1, 2, 0] rfl (b_X12_next_140 F hr h k0)
def Lb_X12_next_93 (rec : ob_St → Int32 → Option (ob_St × Int32)) (g : ob_St) (n0 : Nat) (x2 : Int32) : Option (ob_St × Int32) :=
  (ob_ck 12 n0 (f_X12_peek g n0)).bind fun v10 => (f_X12_isSmall v10).bind fun v11 => (if v11 = 0 then ((ob_ck 12 n0 (f_X12_peek g n0)).bind fun v25 => (f_X12_isDigit v25).bind fun v26 => (if v26 = 0 then (some (g, x2)) else (B_X12_next_113 rec g n0 x2))) else (B_X12_next_113 rec g n0 x2))
def L_X12_next_93 (n0 : Nat) : Nat → ob_St → Int32 → Option (ob_St × Int32)
  | 0, _, _ => none
  | n + 1, g, x2 => Lb_X12_next_93 (L_X12_next_93 n0 n) g n0 x2
theorem lb_X12_next_93 {C : ob_Cx} {rec : ob_St → Int32 → Option (ob_St × Int32)} (F : ob_Fx C cX12_next 4 RX12 none 2 42) {g : ob_St} {n0 : Nat} {x2 : Int32} {x : (ob_St × Int32)} (hr : ∀ {g : ob_St} {x2 : Int32} {x : (ob_St × Int32)}, rec g x2 = some x → ob_Ev C 202 [(0, ob_rv C n0), (2, .int x.2)] [] x.1 → ob_Ev C 93 [(0, ob_rv C n0), (2, .int x2)] [] g) (h : Lb_X12_next_93 rec g n0 x2 = some x) (k0 : ob_Ev C 202 [(0, ob_rv C n0), (2, .int x.2)] [] x.1) : ob_Ev C 93 [(0, ob_rv C n0), (2, .int x2)] [] g := by
  unfold Lb_X12_next_93 at h
  refine ob_rload_n F 0 dX12_next_93 rfl ?_
  refine ob_cVi F dX12_next_94 im_X12_peek tw6_60 h (fun b hb => t_X12_peek hb) rfl rfl (Nat.le_of_ble_eq_true rfl) (by decide) fun v10 h => ?_
  refine ob_cSi F dX12_next_97 im_X12_isSmall tw6_64 h (fun b hb => t_X12_isSmall hb) rfl rfl (Nat.le_of_ble_eq_true rfl) (by decide) fun v11 h => ?_
  refine ob_if_ne F 113 dX12_next_100 (by decide) h (fun h => ?_) (fun h => ?_)
  · exact b_X12_next_113 F hr h k0
  · refine ob_rload_n F 0 dX12_next_103 rfl ?_
    refine ob_cVi F dX12_next_104 im_X12_peek tw6_60 h (fun b hb => t_X12_peek hb) rfl rfl (Nat.le_of_ble_eq_true rfl) (by decide) fun v25 h => ?_
    refine ob_cSi F dX12_next_107 im_X12_isDigit tw6_70 h (fun b hb => t_X12_isDigit hb) rfl rfl (Nat.le_of_ble_eq_true rfl) (by decide) fun v26 h => ?_
    refine ob_if_eq F 202 dX12_next_110 (by decide) h (fun h => ?_) (fun h => ?_)
    · obtain rfl := Option.some.inj h
      exact k0
    · exact b_X12_next_113 F hr h k0
theorem l_X12_next_93 {C : ob_Cx} (F : ob_Fx C cX12_next 4 RX12 none 2 42) {n0 : Nat} : ∀ (n : Nat) {g : ob_St} {x2 : Int32} {x : (ob_St × Int32)}, L_X12_next_93 n0 n g x2 = some x → ob_Ev C 202 [(0, ob_rv C n0), (2, .int x.2)] [] x.1 → ob_Ev C 93 [(0, ob_rv C n0), (2, .int x2)] [] g := by
  intro n
  induction n with
  | zero => intro g x2 x h; exact ob_no h
  | succ n ih => intro g x2 x h k0; exact lb_X12_next_93 F ih h k0
def B_X12_next_237 (g : ob_St) (n0 : Nat) (x2 : Int32) (s0 : Nat) : Option ob_St :=
  (if x2 = 0 then ((ob_gI g 12 n0 14).bind fun v33 => (if 4 ≤ v33 then ((ob_pI g 12 s0 12 4).bind fun g34 => some g34) else ((ob_pI g 12 s0 12 2).bind fun g35 => some g35))) else ((ob_pI g 12 s0 12 4).bind fun g32 => some g32))
theorem b_X12_next_237 {C : ob_Cx} (F : ob_Fx C cX12_next 4 RX12 none 2 42) {g : ob_St} {n0 : Nat} {x2 : Int32} {s0 : Nat} {r : ob_St} (h : B_X12_next_237 g n0 x2 s0 = some r) (k : ob_Rt C none r) : ob_Ev C 237 [(0, ob_rv C n0), (2, .int x2)] [ob_rv C s0] g := by
  unfold B_X12_next_237 at h
  refine ob_iload_n F 1 dX12_next_237 rfl ?_
  refine ob_if_ne F 253 dX12_next_238 (by decide) h (fun h => ?_) (fun h => ?_)
  · refine ob_iconst F (v := 4) dX12_next_253 (by decide) ?_
    refine ob_putI F dX12_next_254 fp_X12_109 h fun g32 h => ?_
    obtain rfl := Option.some.inj h
    exact ob_vret F dX12_next_257 k
  · refine ob_rload_n F 0 dX12_next_241 rfl ?_
    refine ob_getI F dX12_next_242 fl_X12_122 h fun v33 h => ?_
    refine ob_iconst F (v := 4) dX12_next_245 (by decide) ?_
    refine ob_icmp_ge F 253 dX12_next_246 (by decide) h (fun h => ?_) (fun h => ?_)
    · refine ob_iconst F (v := 4) dX12_next_253 (by decide) ?_
      refine ob_putI F dX12_next_254 fp_X12_109 h fun g34 h => ?_
      obtain rfl := Option.some.inj h
      exact ob_vret F dX12_next_257 k
    · refine ob_iconst F (v := 2) dX12_next_249 (by decide) ?_
      refine ob_goto F 254 dX12_next_250 (by decide) ?_
      refine ob_putI F dX12_next_254 fp_X12_109 h fun g35 h => ?_
      obtain rfl := Option.some.inj h
      exact ob_vret F dX12_next_257 k
def B_X12_next_86 (g : ob_St) (n0 : Nat) : Option ob_St :=
  (ob_pI g 12 n0 13 0).bind fun g9 => (L_X12_next_93 n0 ob_FU g9 0).bind fun x_27 => (ob_gI x_27.1 12 n0 10).bind fun v28 => (ob_gI x_27.1 12 n0 11).bind fun v29 => (ob_pI x_27.1 12 n0 14 (v28 - v29)).bind fun g30 => (ob_gI g30 12 n0 14).bind fun v31 => (if x_27.2 = v31 then ((ob_gI g30 12 n0 14).bind fun v36 => (if 9 ≤ v36 then (B_X12_next_237 g30 n0 x_27.2 n0) else ((ob_pI g30 12 n0 12 1).bind fun g37 => some g37))) else (B_X12_next_237 g30 n0 x_27.2 n0))
theorem b_X12_next_86 {C : ob_Cx} (F : ob_Fx C cX12_next 4 RX12 none 2 42) {g : ob_St} {n0 : Nat} {r : ob_St} (h : B_X12_next_86 g n0 = some r) (k : ob_Rt C none r) : ob_Ev C 86 [(0, ob_rv C n0)] [] g := by
  unfold B_X12_next_86 at h
  refine ob_iconst F (v := 0) dX12_next_86 (by decide) ?_
  refine ob_istore_n F (ls2 := [(2, .int 0), (0, ob_rv C n0)]) dX12_next_87 (by decide) rfl ?_
  refine ob_rload_n F 1 dX12_next_88 rfl ?_
  refine ob_iconst F (v := 0) dX12_next_89 (by decide) ?_
  refine ob_putI F dX12_next_90 fp_X12_119 h fun g9 h => ?_
  obtain ⟨x_27, hx, h⟩ := Option.bind_eq_some_iff.mp h
  refine ob_sub [1, 0] rfl (l_X12_next_93 F ob_FU hx ?_)
  refine ob_rload_n F 0 dX12_next_202 rfl ?_
  refine ob_rload_n F 0 dX12_next_203 rfl ?_
  refine ob_getI F dX12_next_204 fl_X12_82 h fun v28 h => ?_
  refine ob_rload_n F 0 dX12_next_207 rfl ?_
  refine ob_getI F dX12_next_208 fl_X12_98 h fun v29 h => ?_
  refine ob_isub F dX12_next_211 ?_
  refine ob_putI F dX12_next_212 fp_X12_122 h fun g30 h => ?_
  refine ob_rload_n F 0 dX12_next_215 rfl ?_
  refine ob_iload_n F 1 dX12_next_216 rfl ?_
  refine ob_rload_n F 0 dX12_next_217 rfl ?_
  refine ob_getI F dX12_next_218 fl_X12_122 h fun v31 h => ?_
  refine ob_icmp_ne F 237 dX12_next_221 (by decide) h (fun h => ?_) (fun h => ?_)
  · exact b_X12_next_237 F h k
  · refine ob_rload_n F 0 dX12_next_224 rfl ?_
    refine ob_getI F dX12_next_225 fl_X12_122 h fun v36 h => ?_
    refine ob_bipush F (v := 9) dX12_next_228 (by decide) ?_
    refine ob_icmp_ge F 237 dX12_next_230 (by decide) h (fun h => ?_) (fun h => ?_)
    · exact b_X12_next_237 F h k
    · refine ob_iconst F (v := 1) dX12_next_233 (by decide) ?_
      refine ob_goto F 254 dX12_next_234 (by decide) ?_
      refine ob_putI F dX12_next_254 fp_X12_109 h fun g37 h => ?_
      obtain rfl := Option.some.inj h
      exact ob_vret F dX12_next_257 k
def f_X12_next (g : ob_St) (n0 : Nat) : Option ob_St :=
  (L_X12_next_0 n0 ob_FU g ).bind fun x_4 => (ob_gI x_4 12 n0 10).bind fun v5 => (ob_pI x_4 12 n0 11 v5).bind fun g6 => (ob_ck 12 n0 (f_X12_peek g6 n0)).bind fun v7 => (if v7 = (-1) then ((ob_pI g6 12 n0 12 0).bind fun g43 => some g43) else ((f_X12_isSmall v7).bind fun v8 => (if v8 = 0 then ((f_X12_isDigit v7).bind fun v38 => (if v38 = 0 then ((ob_gI g6 12 n0 10).bind fun v39 => (ob_pI g6 12 n0 10 (v39 + 1)).bind fun g40 => (if v7 = 59 then ((ob_pI g40 12 n0 12 3).bind fun g42 => some g42) else ((ob_pI g40 12 n0 12 4).bind fun g41 => some g41))) else (B_X12_next_86 g6 n0))) else (B_X12_next_86 g6 n0))))
theorem b_X12_next_0 {C : ob_Cx} (F : ob_Fx C cX12_next 4 RX12 none 2 42) {g : ob_St} {n0 : Nat} {r : ob_St} (h : f_X12_next g n0 = some r) (k : ob_Rt C none r) : ob_Ev C 0 [(0, ob_rv C n0)] [] g := by
  unfold f_X12_next at h
  obtain ⟨x_4, hx, h⟩ := Option.bind_eq_some_iff.mp h
  refine l_X12_next_0 F ob_FU hx ?_
  refine ob_rload_n F 0 dX12_next_22 rfl ?_
  refine ob_rload_n F 0 dX12_next_23 rfl ?_
  refine ob_getI F dX12_next_24 fl_X12_82 h fun v5 h => ?_
  refine ob_putI F dX12_next_27 fp_X12_98 h fun g6 h => ?_
  refine ob_rload_n F 0 dX12_next_30 rfl ?_
  refine ob_cVi F dX12_next_31 im_X12_peek tw6_60 h (fun b hb => t_X12_peek hb) rfl rfl (Nat.le_of_ble_eq_true rfl) (by decide) fun v7 h => ?_
  refine ob_istore_n F (ls2 := [(1, .int v7), (0, ob_rv C n0)]) dX12_next_34 (by decide) rfl ?_
  refine ob_iload_n F 0 dX12_next_35 rfl ?_
  refine ob_iconst F (v := (-1)) dX12_next_36 (by decide) ?_
  refine ob_icmp_ne F 46 dX12_next_37 (by decide) h (fun h => ?_) (fun h => ?_)
  · refine ob_iload_n F 0 dX12_next_46 rfl ?_
    refine ob_cSi F dX12_next_47 im_X12_isSmall tw6_64 h (fun b hb => t_X12_isSmall hb) rfl rfl (Nat.le_of_ble_eq_true rfl) (by decide) fun v8 h => ?_
    refine ob_if_ne F 86 dX12_next_50 (by decide) h (fun h => ?_) (fun h => ?_)
    · exact ob_sub [1] rfl (b_X12_next_86 F h k)
    · refine ob_iload_n F 0 dX12_next_53 rfl ?_
      refine ob_cSi F dX12_next_54 im_X12_isDigit tw6_70 h (fun b hb => t_X12_isDigit hb) rfl rfl (Nat.le_of_ble_eq_true rfl) (by decide) fun v38 h => ?_
      refine ob_if_ne F 86 dX12_next_57 (by decide) h (fun h => ?_) (fun h => ?_)
      · exact ob_sub [1] rfl (b_X12_next_86 F h k)
      · refine ob_rload_n F 1 dX12_next_60 rfl ?_
        refine ob_dup F dX12_next_61 rfl ?_
        refine ob_getI F dX12_next_62 fl_X12_82 h fun v39 h => ?_
        refine ob_iconst F (v := 1) dX12_next_65 (by decide) ?_
        refine ob_iadd F dX12_next_66 ?_
        refine ob_putI F dX12_next_67 fp_X12_82 h fun g40 h => ?_
        refine ob_rload_n F 1 dX12_next_70 rfl ?_
        refine ob_iload_n F 0 dX12_next_71 rfl ?_
        refine ob_bipush F (v := 59) dX12_next_72 (by decide) ?_
        refine ob_icmp_ne F 81 dX12_next_74 (by decide) h (fun h => ?_) (fun h => ?_)
        · refine ob_iconst F (v := 4) dX12_next_81 (by decide) ?_
          refine ob_putI F dX12_next_82 fp_X12_109 h fun g41 h => ?_
          obtain rfl := Option.some.inj h
          exact ob_vret F dX12_next_85 k
        · refine ob_iconst F (v := 3) dX12_next_77 (by decide) ?_
          refine ob_goto F 82 dX12_next_78 (by decide) ?_
          refine ob_putI F dX12_next_82 fp_X12_109 h fun g42 h => ?_
          obtain rfl := Option.some.inj h
          exact ob_vret F dX12_next_85 k
  · refine ob_rload_n F 1 dX12_next_40 rfl ?_
    refine ob_iconst F (v := 0) dX12_next_41 (by decide) ?_
    refine ob_putI F dX12_next_42 fp_X12_109 h fun g43 h => ?_
    obtain rfl := Option.some.inj h
    exact ob_vret F dX12_next_45 k
theorem t_X12_next {cf : ob_Cf} {g : ob_St} {n0 : Nat} {r : ob_St} (h : f_X12_next g n0 = some r) : ob_Mt cf yX12_next cX12_next 4 none 2 42 [ob_rw cf n0] g none r := by
  refine ob_enter (by decide) (Nat.le_of_ble_eq_true rfl) rfl ?_
  intro C hC F k
  subst hC
  exact b_X12_next_0 F h k
-- X12_known
def B_X12_known_79 (rec : Int32 → Int32 → Option (Int32)) (g : ob_St) (n0 : Nat) (x1 : Int32) (x3 : Int32) (s0 : Int32) : Option (Int32) :=
  rec s0 (x3 + 1)
theorem b_X12_known_79 {C : ob_Cx} {rec : Int32 → Int32 → Option (Int32)} (F : ob_Fx C cX12_known 4 RX12 (some .int) 0 0) {g : ob_St} {n0 : Nat} {x1 : Int32} {x3 : Int32} {s0 : Int32} {x : (Int32)} (hr : ∀ {x2 : Int32} {x3 : Int32} {x : (Int32)}, rec x2 x3 = some x → ob_Ev C 86 [(0, ob_rv C n0), (1, .int x1), (2, .int x)] [] g → ob_Ev C 33 [(0, ob_rv C n0), (1, .int x1), (2, .int x2), (3, .int x3)] [] g) (h : B_X12_known_79 rec g n0 x1 x3 s0 = some x) (k0 : ob_Ev C 86 [(0, ob_rv C n0), (1, .int x1), (2, .int x)] [] g) : ob_Ev C 79 [(0, ob_rv C n0), (1, .int x1), (3, .int x3)] [.int s0] g := by
  unfold B_X12_known_79 at h
  refine ob_istore_n F (ls2 := [(2, .int s0), (0, ob_rv C n0), (1, .int x1), (3, .int x3)]) dX12_known_79 (by decide) rfl ?_
  refine ob_iinc F (v := (x3 + 1)) (ls2 := [(3, .int (x3 + 1)), (2, .int s0), (0, ob_rv C n0), (1, .int x1)]) 3 dX12_known_80 rfl rfl (by decide) rfl ?_
  refine ob_goto F 33 dX12_known_83 (by decide) ?_
  exact ob_sub [2, 3, 1, 0] rfl (hr h k0)
def B_X12_known_71 (rec : Int32 → Int32 → Option (Int32)) (g : ob_St) (n0 : Nat) (x1 : Int32) (x3 : Int32) (s0 : Int32) (s1 : Int32) : Option (Int32) :=
  (if s0 = s1 then (B_X12_known_79 rec g n0 x1 x3 1) else (B_X12_known_79 rec g n0 x1 x3 0))
theorem b_X12_known_71 {C : ob_Cx} {rec : Int32 → Int32 → Option (Int32)} (F : ob_Fx C cX12_known 4 RX12 (some .int) 0 0) {g : ob_St} {n0 : Nat} {x1 : Int32} {x3 : Int32} {s0 : Int32} {s1 : Int32} {x : (Int32)} (hr : ∀ {x2 : Int32} {x3 : Int32} {x : (Int32)}, rec x2 x3 = some x → ob_Ev C 86 [(0, ob_rv C n0), (1, .int x1), (2, .int x)] [] g → ob_Ev C 33 [(0, ob_rv C n0), (1, .int x1), (2, .int x2), (3, .int x3)] [] g) (h : B_X12_known_71 rec g n0 x1 x3 s0 s1 = some x) (k0 : ob_Ev C 86 [(0, ob_rv C n0), (1, .int x1), (2, .int x)] [] g) : ob_Ev C 71 [(0, ob_rv C n0), (1, .int x1), (3, .int x3)] [.int s1, .int s0] g := by
  unfold B_X12_known_71 at h
  refine ob_icmp_ne F 78 dX12_known_71 (by decide) h (fun h => ?_) (fun h => ?_)
  · refine ob_iconst F (v := 0) dX12_known_78 (by decide) ?_
    exact b_X12_known_79 F hr h k0
  · refine ob_iconst F (v := 1) dX12_known_74 (by decide) ?_
    refine ob_goto F 79 dX12_known_75 (by decide) ?_
    exact b_X12_known_79 F hr h k0
def Lb_X12_known_33 (rec : Int32 → Int32 → Option (Int32)) (g : ob_St) (n0 : Nat) (x1 : Int32) (x2 : Int32) (x3 : Int32) : Option (Int32) :=
  (if 6 ≤ x3 then (some x2) else ((if x2 = 0 then (some x2) else ((ob_rK ((6 * x1) + x3)).bind fun v2 => (ob_gI g 12 n0 14).bind fun v3 => (if v3 ≤ x3 then (B_X12_known_71 rec g n0 x1 x3 v2 0) else ((ob_gR 12 n0 17).bind fun v4 => (ob_rI g 13 v4 x3).bind fun v5 => B_X12_known_71 rec g n0 x1 x3 v2 v5))))))
def L_X12_known_33 (g : ob_St) (n0 : Nat) (x1 : Int32) : Nat → Int32 → Int32 → Option (Int32)
  | 0, _, _ => none
  | n + 1, x2, x3 => Lb_X12_known_33 (L_X12_known_33 g n0 x1 n) g n0 x1 x2 x3
theorem lb_X12_known_33 {C : ob_Cx} {rec : Int32 → Int32 → Option (Int32)} (F : ob_Fx C cX12_known 4 RX12 (some .int) 0 0) {g : ob_St} {n0 : Nat} {x1 : Int32} {x2 : Int32} {x3 : Int32} {x : (Int32)} (hr : ∀ {x2 : Int32} {x3 : Int32} {x : (Int32)}, rec x2 x3 = some x → ob_Ev C 86 [(0, ob_rv C n0), (1, .int x1), (2, .int x)] [] g → ob_Ev C 33 [(0, ob_rv C n0), (1, .int x1), (2, .int x2), (3, .int x3)] [] g) (h : Lb_X12_known_33 rec g n0 x1 x2 x3 = some x) (k0 : ob_Ev C 86 [(0, ob_rv C n0), (1, .int x1), (2, .int x)] [] g) : ob_Ev C 33 [(0, ob_rv C n0), (1, .int x1), (2, .int x2), (3, .int x3)] [] g := by
  unfold Lb_X12_known_33 at h
  refine ob_iload_n F 3 dX12_known_33 rfl ?_
  refine ob_bipush F (v := 6) dX12_known_34 (by decide) ?_
  refine ob_icmp_ge F 86 dX12_known_36 (by decide) h (fun h => ?_) (fun h => ?_)
  · obtain rfl := Option.some.inj h
    exact ob_sub [0, 1, 2] rfl (k0)
  · refine ob_iload_n F 2 dX12_known_39 rfl ?_
    refine ob_if_eq F 86 dX12_known_40 (by decide) h (fun h => ?_) (fun h => ?_)
    · obtain rfl := Option.some.inj h
      exact ob_sub [0, 1, 2] rfl (k0)
    · refine ob_gets F dX12_known_43 rfl tw6_77 ?_
      refine ob_bipush F (v := 6) dX12_known_46 (by decide) ?_
      refine ob_iload_n F 1 dX12_known_48 rfl ?_
      refine ob_imul F dX12_known_49 ?_
      refine ob_iload_n F 3 dX12_known_50 rfl ?_
      refine ob_iadd F dX12_known_51 ?_
      refine ob_kald F dX12_known_52 h fun v2 h => ?_
      refine ob_iload_n F 3 dX12_known_53 rfl ?_
      refine ob_rload_n F 0 dX12_known_54 rfl ?_
      refine ob_getI F dX12_known_55 fl_X12_122 h fun v3 h => ?_
      refine ob_icmp_ge F 70 dX12_known_58 (by decide) h (fun h => ?_) (fun h => ?_)
      · refine ob_iconst F (v := 0) dX12_known_70 (by decide) ?_
        exact ob_sub [0, 1, 3] rfl (b_X12_known_71 F hr h k0)
      · refine ob_rload_n F 0 dX12_known_61 rfl ?_
        refine ob_getR F dX12_known_62 fl_X12_34 h fun v4 h => ?_
        refine ob_iload_n F 3 dX12_known_65 rfl ?_
        refine ob_bald F dX12_known_66 h fun v5 h => ?_
        refine ob_goto F 71 dX12_known_67 (by decide) ?_
        exact ob_sub [0, 1, 3] rfl (b_X12_known_71 F hr h k0)
theorem l_X12_known_33 {C : ob_Cx} (F : ob_Fx C cX12_known 4 RX12 (some .int) 0 0) {g : ob_St} {n0 : Nat} {x1 : Int32} : ∀ (n : Nat) {x2 : Int32} {x3 : Int32} {x : (Int32)}, L_X12_known_33 g n0 x1 n x2 x3 = some x → ob_Ev C 86 [(0, ob_rv C n0), (1, .int x1), (2, .int x)] [] g → ob_Ev C 33 [(0, ob_rv C n0), (1, .int x1), (2, .int x2), (3, .int x3)] [] g := by
  intro n
  induction n with
  | zero => intro x2 x3 x h; exact ob_no h
  | succ n ih => intro x2 x3 x h k0; exact lb_X12_known_33 F ih h k0
def B_X12_known_30 (rec : Int32 → Option ((Int32) ⊕ Unit)) (g : ob_St) (n0 : Nat) (x1 : Int32) (s0 : Int32) : Option ((Int32) ⊕ Unit) :=
  (L_X12_known_33 g n0 x1 ob_FU s0 0).bind fun x_6 => (if x_6 = 0 then (rec (x1 + 1)) else (some (.inl x1)))
theorem b_X12_known_30 {C : ob_Cx} {rec : Int32 → Option ((Int32) ⊕ Unit)} (F : ob_Fx C cX12_known 4 RX12 (some .int) 0 0) {g : ob_St} {n0 : Nat} {x1 : Int32} {s0 : Int32} {x : ((Int32) ⊕ Unit)} (hr : ∀ {x1 : Int32} {x : ((Int32) ⊕ Unit)}, rec x1 = some x → (∀ y, x = (.inl y) → ob_Ev C 90 [(1, .int y)] [] g) → (∀ y, x = (.inr y) → ob_Ev C 98 [] [] g) → ob_Ev C 2 [(0, ob_rv C n0), (1, .int x1)] [] g) (h : B_X12_known_30 rec g n0 x1 s0 = some x) (k0 : (∀ y, x = (.inl y) → ob_Ev C 90 [(1, .int y)] [] g)) (k1 : (∀ y, x = (.inr y) → ob_Ev C 98 [] [] g)) : ob_Ev C 30 [(0, ob_rv C n0), (1, .int x1)] [.int s0] g := by
  unfold B_X12_known_30 at h
  refine ob_istore_n F (ls2 := [(2, .int s0), (0, ob_rv C n0), (1, .int x1)]) dX12_known_30 (by decide) rfl ?_
  refine ob_iconst F (v := 0) dX12_known_31 (by decide) ?_
  refine ob_istore_n F (ls2 := [(3, .int 0), (2, .int s0), (0, ob_rv C n0), (1, .int x1)]) dX12_known_32 (by decide) rfl ?_
  obtain ⟨x_6, hx, h⟩ := Option.bind_eq_some_iff.mp h
  refine ob_sub [2, 3, 1, 0] rfl (l_X12_known_33 F ob_FU hx ?_)
  refine ob_iload_n F 2 dX12_known_86 rfl ?_
  refine ob_if_eq F 92 dX12_known_87 (by decide) h (fun h => ?_) (fun h => ?_)
  · refine ob_iinc F (v := (x1 + 1)) (ls2 := [(1, .int (x1 + 1)), (0, ob_rv C n0), (2, .int x_6)]) 1 dX12_known_92 rfl rfl (by decide) rfl ?_
    refine ob_goto F 2 dX12_known_95 (by decide) ?_
    exact ob_sub [1, 0] rfl (hr h k0 k1)
  · obtain rfl := Option.some.inj h
    exact ob_sub [1] rfl (k0 _ rfl)
def B_X12_known_29 (rec : Int32 → Option ((Int32) ⊕ Unit)) (g : ob_St) (n0 : Nat) (x1 : Int32) : Option ((Int32) ⊕ Unit) :=
  B_X12_known_30 rec g n0 x1 0
theorem b_X12_known_29 {C : ob_Cx} {rec : Int32 → Option ((Int32) ⊕ Unit)} (F : ob_Fx C cX12_known 4 RX12 (some .int) 0 0) {g : ob_St} {n0 : Nat} {x1 : Int32} {x : ((Int32) ⊕ Unit)} (hr : ∀ {x1 : Int32} {x : ((Int32) ⊕ Unit)}, rec x1 = some x → (∀ y, x = (.inl y) → ob_Ev C 90 [(1, .int y)] [] g) → (∀ y, x = (.inr y) → ob_Ev C 98 [] [] g) → ob_Ev C 2 [(0, ob_rv C n0), (1, .int x1)] [] g) (h : B_X12_known_29 rec g n0 x1 = some x) (k0 : (∀ y, x = (.inl y) → ob_Ev C 90 [(1, .int y)] [] g)) (k1 : (∀ y, x = (.inr y) → ob_Ev C 98 [] [] g)) : ob_Ev C 29 [(0, ob_rv C n0), (1, .int x1)] [] g := by
  unfold B_X12_known_29 at h
  refine ob_iconst F (v := 0) dX12_known_29 (by decide) ?_
  exact b_X12_known_30 F hr h k0 k1
def Lb_X12_known_2 (rec : Int32 → Option ((Int32) ⊕ Unit)) (g : ob_St) (n0 : Nat) (x1 : Int32) : Option ((Int32) ⊕ Unit) :=
  (if 20 ≤ x1 then (some (.inr ())) else ((ob_gI g 12 n0 12).bind fun v1 => (if v1 = 1 then ((ob_gI g 12 n0 14).bind fun v7 => (if 7 ≤ v7 then (B_X12_known_29 rec g n0 x1) else (B_X12_known_30 rec g n0 x1 1))) else (B_X12_known_29 rec g n0 x1))))
def L_X12_known_2 (g : ob_St) (n0 : Nat) : Nat → Int32 → Option ((Int32) ⊕ Unit)
  | 0, _ => none
  | n + 1, x1 => Lb_X12_known_2 (L_X12_known_2 g n0 n) g n0 x1
theorem lb_X12_known_2 {C : ob_Cx} {rec : Int32 → Option ((Int32) ⊕ Unit)} (F : ob_Fx C cX12_known 4 RX12 (some .int) 0 0) {g : ob_St} {n0 : Nat} {x1 : Int32} {x : ((Int32) ⊕ Unit)} (hr : ∀ {x1 : Int32} {x : ((Int32) ⊕ Unit)}, rec x1 = some x → (∀ y, x = (.inl y) → ob_Ev C 90 [(1, .int y)] [] g) → (∀ y, x = (.inr y) → ob_Ev C 98 [] [] g) → ob_Ev C 2 [(0, ob_rv C n0), (1, .int x1)] [] g) (h : Lb_X12_known_2 rec g n0 x1 = some x) (k0 : (∀ y, x = (.inl y) → ob_Ev C 90 [(1, .int y)] [] g)) (k1 : (∀ y, x = (.inr y) → ob_Ev C 98 [] [] g)) : ob_Ev C 2 [(0, ob_rv C n0), (1, .int x1)] [] g := by
  unfold Lb_X12_known_2 at h
  refine ob_iload_n F 1 dX12_known_2 rfl ?_
  refine ob_bipush F (v := 20) dX12_known_3 (by decide) ?_
  refine ob_icmp_ge F 98 dX12_known_5 (by decide) h (fun h => ?_) (fun h => ?_)
  · obtain rfl := Option.some.inj h
    exact ob_sub [] rfl (k1 _ rfl)
  · refine ob_rload_n F 0 dX12_known_8 rfl ?_
    refine ob_getI F dX12_known_9 fl_X12_109 h fun v1 h => ?_
    refine ob_iconst F (v := 1) dX12_known_12 (by decide) ?_
    refine ob_icmp_ne F 29 dX12_known_13 (by decide) h (fun h => ?_) (fun h => ?_)
    · exact b_X12_known_29 F hr h k0 k1
    · refine ob_rload_n F 0 dX12_known_16 rfl ?_
      refine ob_getI F dX12_known_17 fl_X12_122 h fun v7 h => ?_
      refine ob_bipush F (v := 7) dX12_known_20 (by decide) ?_
      refine ob_icmp_ge F 29 dX12_known_22 (by decide) h (fun h => ?_) (fun h => ?_)
      · exact b_X12_known_29 F hr h k0 k1
      · refine ob_iconst F (v := 1) dX12_known_25 (by decide) ?_
        refine ob_goto F 30 dX12_known_26 (by decide) ?_
        exact b_X12_known_30 F hr h k0 k1
theorem l_X12_known_2 {C : ob_Cx} (F : ob_Fx C cX12_known 4 RX12 (some .int) 0 0) {g : ob_St} {n0 : Nat} : ∀ (n : Nat) {x1 : Int32} {x : ((Int32) ⊕ Unit)}, L_X12_known_2 g n0 n x1 = some x → (∀ y, x = (.inl y) → ob_Ev C 90 [(1, .int y)] [] g) → (∀ y, x = (.inr y) → ob_Ev C 98 [] [] g) → ob_Ev C 2 [(0, ob_rv C n0), (1, .int x1)] [] g := by
  intro n
  induction n with
  | zero => intro x1 x h; exact ob_no h
  | succ n ih => intro x1 x h k0 k1; exact lb_X12_known_2 F ih h k0 k1
def f_X12_known (g : ob_St) (n0 : Nat) : Option Int32 :=
  (L_X12_known_2 g n0 ob_FU 0).bind (Sum.elim (fun y_9 => some y_9) (fun y_10 => some (-1)))
theorem b_X12_known_0 {C : ob_Cx} (F : ob_Fx C cX12_known 4 RX12 (some .int) 0 0) {g : ob_St} {n0 : Nat} {r : Int32} (h : f_X12_known g n0 = some r) (k : ob_Rt C (some (.int r)) g) : ob_Ev C 0 [(0, ob_rv C n0)] [] g := by
  unfold f_X12_known at h
  refine ob_iconst F (v := 0) dX12_known_0 (by decide) ?_
  refine ob_istore_n F (ls2 := [(1, .int 0), (0, ob_rv C n0)]) dX12_known_1 (by decide) rfl ?_
  obtain ⟨x_8, hx, h⟩ := Option.bind_eq_some_iff.mp h
  refine ob_sub [1, 0] rfl (l_X12_known_2 F ob_FU hx (fun y e => ?_) (fun y e => ?_))
  · subst e
    replace h := (ob_inl h)
    refine ob_iload_n F 0 dX12_known_90 rfl ?_
    obtain rfl := Option.some.inj h
    exact ob_iret F dX12_known_91 k
  · subst e
    replace h := (ob_inr h)
    refine ob_iconst F (v := (-1)) dX12_known_98 (by decide) ?_
    obtain rfl := Option.some.inj h
    exact ob_iret F dX12_known_99 k
theorem t_X12_known {cf : ob_Cf} {g : ob_St} {n0 : Nat} {r : Int32} (h : f_X12_known g n0 = some r) : ob_Mt cf yX12_known cX12_known 4 (some .int) 0 0 [ob_rw cf n0] g (some (.int r)) g := by
  refine ob_enter (by decide) (Nat.le_of_ble_eq_true rfl) (Or.inl rfl) ?_
  intro C hC F k
  subst hC
  exact b_X12_known_0 F h k
-- X12_takes
def f_X12_takes (g : ob_St) (n0 : Nat) (x1 : Int32) (x2 : Int32) (x3 : Int32) : Option (Int32 × ob_St) :=
  (ob_gI g 12 n0 12).bind fun v1 => (if v1 = 2 then ((ob_gI g 12 n0 13).bind fun v2 => (f_X12_isIn v2 x2 x3).bind fun v3 => (if v3 = 0 then ((ob_ck 12 n0 (f_X12_badHere g n0 2)).bind fun v8 => (ob_zr v8.1).bind fun z9 => some (z9, v8.2)) else ((ob_gR 12 n0 2).bind fun v4 => (ob_gI g 12 n0 13).bind fun v5 => (ob_wI g v4 x1 v5).bind fun g6 => (ob_ck 12 n0 (f_X12_next g6 n0)).bind fun g7 => some (1, g7)))) else ((ob_ck 12 n0 (f_X12_badHere g n0 1)).bind fun v10 => (ob_zr v10.1).bind fun z11 => some (z11, v10.2)))
theorem b_X12_takes_0 {C : ob_Cx} (F : ob_Fx C cX12_takes 4 RX12 (some .boolean) 3 65) {g : ob_St} {n0 : Nat} {x1 : Int32} {x2 : Int32} {x3 : Int32} {r : (Int32 × ob_St)} (h : f_X12_takes g n0 x1 x2 x3 = some r) (k : ob_Rt C (some (.int r.1)) r.2) : ob_Ev C 0 [(0, ob_rv C n0), (1, .int x1), (2, .int x2), (3, .int x3)] [] g := by
  unfold f_X12_takes at h
  refine ob_rload_n F 0 dX12_takes_0 rfl ?_
  refine ob_getI F dX12_takes_1 fl_X12_109 h fun v1 h => ?_
  refine ob_iconst F (v := 2) dX12_takes_4 (by decide) ?_
  refine ob_icmp_eq F 14 dX12_takes_5 (by decide) h (fun h => ?_) (fun h => ?_)
  · refine ob_rload_n F 0 dX12_takes_14 rfl ?_
    refine ob_getI F dX12_takes_15 fl_X12_119 h fun v2 h => ?_
    refine ob_iload_n F 2 dX12_takes_18 rfl ?_
    refine ob_iload_n F 3 dX12_takes_19 rfl ?_
    refine ob_cSi F dX12_takes_20 im_X12_isIn tw6_67 h (fun b hb => t_X12_isIn hb) rfl rfl (Nat.le_of_ble_eq_true rfl) (by decide) fun v3 h => ?_
    refine ob_if_ne F 32 dX12_takes_23 (by decide) h (fun h => ?_) (fun h => ?_)
    · refine ob_rload_n F 0 dX12_takes_32 rfl ?_
      refine ob_getR F dX12_takes_33 fl_X12_17 h fun v4 h => ?_
      refine ob_iload_n F 1 dX12_takes_36 rfl ?_
      refine ob_rload_n F 0 dX12_takes_37 rfl ?_
      refine ob_getI F dX12_takes_38 fl_X12_119 h fun v5 h => ?_
      refine ob_iast F dX12_takes_41 h fun g6 h => ?_
      refine ob_rload_n F 0 dX12_takes_42 rfl ?_
      refine ob_cVvS F dX12_takes_43 im_X12_next tw6_56 h (fun b hb => t_X12_next hb) rfl rfl (Nat.le_of_ble_eq_true rfl) (by decide) fun g7 h => ?_
      refine ob_iconst F (v := 1) dX12_takes_46 (by decide) ?_
      obtain rfl := Option.some.inj h
      exact ob_zret F dX12_takes_47 (Or.inr rfl) k
    · refine ob_rload_n F 0 dX12_takes_26 rfl ?_
      refine ob_iconst F (v := 2) dX12_takes_27 (by decide) ?_
      refine ob_cViS F dX12_takes_28 im_X12_badHere tw6_79 h (fun b hb => t_X12_badHere hb) rfl rfl (Nat.le_of_ble_eq_true rfl) (by decide) fun v8 h => ?_
      refine ob_zrow h fun hz h => ?_
      obtain rfl := Option.some.inj h
      exact ob_zret F dX12_takes_31 hz k
  · refine ob_rload_n F 0 dX12_takes_8 rfl ?_
    refine ob_iconst F (v := 1) dX12_takes_9 (by decide) ?_
    refine ob_cViS F dX12_takes_10 im_X12_badHere tw6_79 h (fun b hb => t_X12_badHere hb) rfl rfl (Nat.le_of_ble_eq_true rfl) (by decide) fun v10 h => ?_
    refine ob_zrow h fun hz h => ?_
    obtain rfl := Option.some.inj h
    exact ob_zret F dX12_takes_13 hz k
theorem t_X12_takes {cf : ob_Cf} {g : ob_St} {n0 : Nat} {x1 : Int32} {x2 : Int32} {x3 : Int32} {r : (Int32 × ob_St)} (h : f_X12_takes g n0 x1 x2 x3 = some r) : ob_Mt cf yX12_takes cX12_takes 4 (some .boolean) 3 65 [ob_rw cf n0, .int x1, .int x2, .int x3] g (some (.int r.1)) r.2 := by
  refine ob_enter (by decide) (Nat.le_of_ble_eq_true rfl) (Or.inr rfl) ?_
  intro C hC F k
  subst hC
  exact b_X12_takes_0 F h k
-- X12_named
def B_X12_named_63 (rec : Int32 → Int32 → Option (Int32)) (g : ob_St) (n0 : Nat) (x1 : Int32) (x2 : Int32) (x4 : Int32) (s0 : Int32) : Option (Int32) :=
  rec s0 (x4 + 1)
theorem b_X12_named_63 {C : ob_Cx} {rec : Int32 → Int32 → Option (Int32)} (F : ob_Fx C cX12_named 5 RX12 (some .int) 0 0) {g : ob_St} {n0 : Nat} {x1 : Int32} {x2 : Int32} {x4 : Int32} {s0 : Int32} {x : (Int32)} (hr : ∀ {x3 : Int32} {x4 : Int32} {x : (Int32)}, rec x3 x4 = some x → ob_Ev C 70 [(0, ob_rv C n0), (1, .int x1), (2, .int x2), (3, .int x)] [] g → ob_Ev C 12 [(0, ob_rv C n0), (1, .int x1), (2, .int x2), (3, .int x3), (4, .int x4)] [] g) (h : B_X12_named_63 rec g n0 x1 x2 x4 s0 = some x) (k0 : ob_Ev C 70 [(0, ob_rv C n0), (1, .int x1), (2, .int x2), (3, .int x)] [] g) : ob_Ev C 63 [(0, ob_rv C n0), (1, .int x1), (2, .int x2), (4, .int x4)] [.int s0] g := by
  unfold B_X12_named_63 at h
  refine ob_istore_n F (ls2 := [(3, .int s0), (0, ob_rv C n0), (1, .int x1), (2, .int x2), (4, .int x4)]) dX12_named_63 (by decide) rfl ?_
  refine ob_iinc F (v := (x4 + 1)) (ls2 := [(4, .int (x4 + 1)), (3, .int s0), (0, ob_rv C n0), (1, .int x1), (2, .int x2)]) 4 dX12_named_64 rfl rfl (by decide) rfl ?_
  refine ob_goto F 12 dX12_named_67 (by decide) ?_
  exact ob_sub [2, 3, 4, 1, 0] rfl (hr h k0)
def B_X12_named_55 (rec : Int32 → Int32 → Option (Int32)) (g : ob_St) (n0 : Nat) (x1 : Int32) (x2 : Int32) (x4 : Int32) (s0 : Int32) (s1 : Int32) : Option (Int32) :=
  (if s0 = s1 then (B_X12_named_63 rec g n0 x1 x2 x4 1) else (B_X12_named_63 rec g n0 x1 x2 x4 0))
theorem b_X12_named_55 {C : ob_Cx} {rec : Int32 → Int32 → Option (Int32)} (F : ob_Fx C cX12_named 5 RX12 (some .int) 0 0) {g : ob_St} {n0 : Nat} {x1 : Int32} {x2 : Int32} {x4 : Int32} {s0 : Int32} {s1 : Int32} {x : (Int32)} (hr : ∀ {x3 : Int32} {x4 : Int32} {x : (Int32)}, rec x3 x4 = some x → ob_Ev C 70 [(0, ob_rv C n0), (1, .int x1), (2, .int x2), (3, .int x)] [] g → ob_Ev C 12 [(0, ob_rv C n0), (1, .int x1), (2, .int x2), (3, .int x3), (4, .int x4)] [] g) (h : B_X12_named_55 rec g n0 x1 x2 x4 s0 s1 = some x) (k0 : ob_Ev C 70 [(0, ob_rv C n0), (1, .int x1), (2, .int x2), (3, .int x)] [] g) : ob_Ev C 55 [(0, ob_rv C n0), (1, .int x1), (2, .int x2), (4, .int x4)] [.int s1, .int s0] g := by
  unfold B_X12_named_55 at h
  refine ob_icmp_ne F 62 dX12_named_55 (by decide) h (fun h => ?_) (fun h => ?_)
  · refine ob_iconst F (v := 0) dX12_named_62 (by decide) ?_
    exact b_X12_named_63 F hr h k0
  · refine ob_iconst F (v := 1) dX12_named_58 (by decide) ?_
    refine ob_goto F 63 dX12_named_59 (by decide) ?_
    exact b_X12_named_63 F hr h k0
def Lb_X12_named_12 (rec : Int32 → Int32 → Option (Int32)) (g : ob_St) (n0 : Nat) (x1 : Int32) (x2 : Int32) (x3 : Int32) (x4 : Int32) : Option (Int32) :=
  (if 8 ≤ x4 then (some x3) else ((if x3 = 0 then (some x3) else ((ob_gR 12 n0 18).bind fun v1 => (ob_rI g 13 v1 ((8 * x2) + x4)).bind fun v2 => (ob_gI g 12 n0 14).bind fun v3 => (if v3 ≤ x4 then (B_X12_named_55 rec g n0 x1 x2 x4 v2 0) else ((ob_gR 12 n0 17).bind fun v4 => (ob_rI g 13 v4 x4).bind fun v5 => B_X12_named_55 rec g n0 x1 x2 x4 v2 v5))))))
def L_X12_named_12 (g : ob_St) (n0 : Nat) (x1 : Int32) (x2 : Int32) : Nat → Int32 → Int32 → Option (Int32)
  | 0, _, _ => none
  | n + 1, x3, x4 => Lb_X12_named_12 (L_X12_named_12 g n0 x1 x2 n) g n0 x1 x2 x3 x4
theorem lb_X12_named_12 {C : ob_Cx} {rec : Int32 → Int32 → Option (Int32)} (F : ob_Fx C cX12_named 5 RX12 (some .int) 0 0) {g : ob_St} {n0 : Nat} {x1 : Int32} {x2 : Int32} {x3 : Int32} {x4 : Int32} {x : (Int32)} (hr : ∀ {x3 : Int32} {x4 : Int32} {x : (Int32)}, rec x3 x4 = some x → ob_Ev C 70 [(0, ob_rv C n0), (1, .int x1), (2, .int x2), (3, .int x)] [] g → ob_Ev C 12 [(0, ob_rv C n0), (1, .int x1), (2, .int x2), (3, .int x3), (4, .int x4)] [] g) (h : Lb_X12_named_12 rec g n0 x1 x2 x3 x4 = some x) (k0 : ob_Ev C 70 [(0, ob_rv C n0), (1, .int x1), (2, .int x2), (3, .int x)] [] g) : ob_Ev C 12 [(0, ob_rv C n0), (1, .int x1), (2, .int x2), (3, .int x3), (4, .int x4)] [] g := by
  unfold Lb_X12_named_12 at h
  refine ob_iload F 4 dX12_named_12 rfl ?_
  refine ob_bipush F (v := 8) dX12_named_14 (by decide) ?_
  refine ob_icmp_ge F 70 dX12_named_16 (by decide) h (fun h => ?_) (fun h => ?_)
  · obtain rfl := Option.some.inj h
    exact ob_sub [0, 1, 2, 3] rfl (k0)
  · refine ob_iload_n F 3 dX12_named_19 rfl ?_
    refine ob_if_eq F 70 dX12_named_20 (by decide) h (fun h => ?_) (fun h => ?_)
    · obtain rfl := Option.some.inj h
      exact ob_sub [0, 1, 2, 3] rfl (k0)
    · refine ob_rload_n F 0 dX12_named_23 rfl ?_
      refine ob_getR F dX12_named_24 fl_X12_37 h fun v1 h => ?_
      refine ob_bipush F (v := 8) dX12_named_27 (by decide) ?_
      refine ob_iload_n F 2 dX12_named_29 rfl ?_
      refine ob_imul F dX12_named_30 ?_
      refine ob_iload F 4 dX12_named_31 rfl ?_
      refine ob_iadd F dX12_named_33 ?_
      refine ob_bald F dX12_named_34 h fun v2 h => ?_
      refine ob_iload F 4 dX12_named_35 rfl ?_
      refine ob_rload_n F 0 dX12_named_37 rfl ?_
      refine ob_getI F dX12_named_38 fl_X12_122 h fun v3 h => ?_
      refine ob_icmp_ge F 54 dX12_named_41 (by decide) h (fun h => ?_) (fun h => ?_)
      · refine ob_iconst F (v := 0) dX12_named_54 (by decide) ?_
        exact ob_sub [0, 1, 2, 4] rfl (b_X12_named_55 F hr h k0)
      · refine ob_rload_n F 0 dX12_named_44 rfl ?_
        refine ob_getR F dX12_named_45 fl_X12_34 h fun v4 h => ?_
        refine ob_iload F 4 dX12_named_48 rfl ?_
        refine ob_bald F dX12_named_50 h fun v5 h => ?_
        refine ob_goto F 55 dX12_named_51 (by decide) ?_
        exact ob_sub [0, 1, 2, 4] rfl (b_X12_named_55 F hr h k0)
theorem l_X12_named_12 {C : ob_Cx} (F : ob_Fx C cX12_named 5 RX12 (some .int) 0 0) {g : ob_St} {n0 : Nat} {x1 : Int32} {x2 : Int32} : ∀ (n : Nat) {x3 : Int32} {x4 : Int32} {x : (Int32)}, L_X12_named_12 g n0 x1 x2 n x3 x4 = some x → ob_Ev C 70 [(0, ob_rv C n0), (1, .int x1), (2, .int x2), (3, .int x)] [] g → ob_Ev C 12 [(0, ob_rv C n0), (1, .int x1), (2, .int x2), (3, .int x3), (4, .int x4)] [] g := by
  intro n
  induction n with
  | zero => intro x3 x4 x h; exact ob_no h
  | succ n ih => intro x3 x4 x h k0; exact lb_X12_named_12 F ih h k0
def Lb_X12_named_2 (rec : Int32 → Option ((Int32) ⊕ Unit)) (g : ob_St) (n0 : Nat) (x1 : Int32) (x2 : Int32) : Option ((Int32) ⊕ Unit) :=
  (if x1 ≤ x2 then (some (.inr ())) else ((L_X12_named_12 g n0 x1 x2 ob_FU 1 0).bind fun x_6 => (if x_6 = 0 then (rec (x2 + 1)) else (some (.inl x2)))))
def L_X12_named_2 (g : ob_St) (n0 : Nat) (x1 : Int32) : Nat → Int32 → Option ((Int32) ⊕ Unit)
  | 0, _ => none
  | n + 1, x2 => Lb_X12_named_2 (L_X12_named_2 g n0 x1 n) g n0 x1 x2
theorem lb_X12_named_2 {C : ob_Cx} {rec : Int32 → Option ((Int32) ⊕ Unit)} (F : ob_Fx C cX12_named 5 RX12 (some .int) 0 0) {g : ob_St} {n0 : Nat} {x1 : Int32} {x2 : Int32} {x : ((Int32) ⊕ Unit)} (hr : ∀ {x2 : Int32} {x : ((Int32) ⊕ Unit)}, rec x2 = some x → (∀ y, x = (.inl y) → ob_Ev C 74 [(2, .int y)] [] g) → (∀ y, x = (.inr y) → ob_Ev C 82 [] [] g) → ob_Ev C 2 [(0, ob_rv C n0), (1, .int x1), (2, .int x2)] [] g) (h : Lb_X12_named_2 rec g n0 x1 x2 = some x) (k0 : (∀ y, x = (.inl y) → ob_Ev C 74 [(2, .int y)] [] g)) (k1 : (∀ y, x = (.inr y) → ob_Ev C 82 [] [] g)) : ob_Ev C 2 [(0, ob_rv C n0), (1, .int x1), (2, .int x2)] [] g := by
  unfold Lb_X12_named_2 at h
  refine ob_iload_n F 2 dX12_named_2 rfl ?_
  refine ob_iload_n F 1 dX12_named_3 rfl ?_
  refine ob_icmp_ge F 82 dX12_named_4 (by decide) h (fun h => ?_) (fun h => ?_)
  · obtain rfl := Option.some.inj h
    exact ob_sub [] rfl (k1 _ rfl)
  · refine ob_iconst F (v := 1) dX12_named_7 (by decide) ?_
    refine ob_istore_n F (ls2 := [(3, .int 1), (0, ob_rv C n0), (1, .int x1), (2, .int x2)]) dX12_named_8 (by decide) rfl ?_
    refine ob_iconst F (v := 0) dX12_named_9 (by decide) ?_
    refine ob_istore F (ls2 := [(4, .int 0), (3, .int 1), (0, ob_rv C n0), (1, .int x1), (2, .int x2)]) dX12_named_10 (by decide) rfl ?_
    obtain ⟨x_6, hx, h⟩ := Option.bind_eq_some_iff.mp h
    refine ob_sub [2, 3, 4, 1, 0] rfl (l_X12_named_12 F ob_FU hx ?_)
    refine ob_iload_n F 3 dX12_named_70 rfl ?_
    refine ob_if_eq F 76 dX12_named_71 (by decide) h (fun h => ?_) (fun h => ?_)
    · refine ob_iinc F (v := (x2 + 1)) (ls2 := [(2, .int (x2 + 1)), (0, ob_rv C n0), (1, .int x1), (3, .int x_6)]) 2 dX12_named_76 rfl rfl (by decide) rfl ?_
      refine ob_goto F 2 dX12_named_79 (by decide) ?_
      exact ob_sub [1, 2, 0] rfl (hr h k0 k1)
    · obtain rfl := Option.some.inj h
      exact ob_sub [2] rfl (k0 _ rfl)
theorem l_X12_named_2 {C : ob_Cx} (F : ob_Fx C cX12_named 5 RX12 (some .int) 0 0) {g : ob_St} {n0 : Nat} {x1 : Int32} : ∀ (n : Nat) {x2 : Int32} {x : ((Int32) ⊕ Unit)}, L_X12_named_2 g n0 x1 n x2 = some x → (∀ y, x = (.inl y) → ob_Ev C 74 [(2, .int y)] [] g) → (∀ y, x = (.inr y) → ob_Ev C 82 [] [] g) → ob_Ev C 2 [(0, ob_rv C n0), (1, .int x1), (2, .int x2)] [] g := by
  intro n
  induction n with
  | zero => intro x2 x h; exact ob_no h
  | succ n ih => intro x2 x h k0 k1; exact lb_X12_named_2 F ih h k0 k1
def f_X12_named (g : ob_St) (n0 : Nat) (x1 : Int32) : Option Int32 :=
  (L_X12_named_2 g n0 x1 ob_FU 0).bind (Sum.elim (fun y_8 => some y_8) (fun y_9 => some (-1)))
theorem b_X12_named_0 {C : ob_Cx} (F : ob_Fx C cX12_named 5 RX12 (some .int) 0 0) {g : ob_St} {n0 : Nat} {x1 : Int32} {r : Int32} (h : f_X12_named g n0 x1 = some r) (k : ob_Rt C (some (.int r)) g) : ob_Ev C 0 [(0, ob_rv C n0), (1, .int x1)] [] g := by
  unfold f_X12_named at h
  refine ob_iconst F (v := 0) dX12_named_0 (by decide) ?_
  refine ob_istore_n F (ls2 := [(2, .int 0), (0, ob_rv C n0), (1, .int x1)]) dX12_named_1 (by decide) rfl ?_
  obtain ⟨x_7, hx, h⟩ := Option.bind_eq_some_iff.mp h
  refine ob_sub [1, 2, 0] rfl (l_X12_named_2 F ob_FU hx (fun y e => ?_) (fun y e => ?_))
  · subst e
    replace h := (ob_inl h)
    refine ob_iload_n F 0 dX12_named_74 rfl ?_
    obtain rfl := Option.some.inj h
    exact ob_iret F dX12_named_75 k
  · subst e
    replace h := (ob_inr h)
    refine ob_iconst F (v := (-1)) dX12_named_82 (by decide) ?_
    obtain rfl := Option.some.inj h
    exact ob_iret F dX12_named_83 k
theorem t_X12_named {cf : ob_Cf} {g : ob_St} {n0 : Nat} {x1 : Int32} {r : Int32} (h : f_X12_named g n0 x1 = some r) : ob_Mt cf yX12_named cX12_named 5 (some .int) 0 0 [ob_rw cf n0, .int x1] g (some (.int r)) g := by
  refine ob_enter (by decide) (Nat.le_of_ble_eq_true rfl) (Or.inl rfl) ?_
  intro C hC F k
  subst hC
  exact b_X12_named_0 F h k
-- X12_isName
def f_X12_isName (g : ob_St) (n0 : Nat) : Option Int32 :=
  (ob_gI g 12 n0 12).bind fun v1 => (if v1 = 1 then ((ob_ck 12 n0 (f_X12_known g n0)).bind fun v2 => (if 0 ≤ v2 then (some 0) else (some 1))) else (some 0))
theorem b_X12_isName_0 {C : ob_Cx} (F : ob_Fx C cX12_isName 1 RX12 (some .boolean) 1 23) {g : ob_St} {n0 : Nat} {r : Int32} (h : f_X12_isName g n0 = some r) (k : ob_Rt C (some (.int r)) g) : ob_Ev C 0 [(0, ob_rv C n0)] [] g := by
  unfold f_X12_isName at h
  refine ob_rload_n F 0 dX12_isName_0 rfl ?_
  refine ob_getI F dX12_isName_1 fl_X12_109 h fun v1 h => ?_
  refine ob_iconst F (v := 1) dX12_isName_4 (by decide) ?_
  refine ob_icmp_ne F 19 dX12_isName_5 (by decide) h (fun h => ?_) (fun h => ?_)
  · refine ob_iconst F (v := 0) dX12_isName_19 (by decide) ?_
    obtain rfl := Option.some.inj h
    exact ob_zret F dX12_isName_20 (Or.inl rfl) k
  · refine ob_rload_n F 0 dX12_isName_8 rfl ?_
    refine ob_cVi F dX12_isName_9 im_X12_known tw6_73 h (fun b hb => t_X12_known hb) rfl rfl (Nat.le_of_ble_eq_true rfl) (by decide) fun v2 h => ?_
    refine ob_if_ge F 19 dX12_isName_12 (by decide) h (fun h => ?_) (fun h => ?_)
    · refine ob_iconst F (v := 0) dX12_isName_19 (by decide) ?_
      obtain rfl := Option.some.inj h
      exact ob_zret F dX12_isName_20 (Or.inl rfl) k
    · refine ob_iconst F (v := 1) dX12_isName_15 (by decide) ?_
      refine ob_goto F 20 dX12_isName_16 (by decide) ?_
      obtain rfl := Option.some.inj h
      exact ob_zret F dX12_isName_20 (Or.inr rfl) k
theorem t_X12_isName {cf : ob_Cf} {g : ob_St} {n0 : Nat} {r : Int32} (h : f_X12_isName g n0 = some r) : ob_Mt cf yX12_isName cX12_isName 1 (some .boolean) 1 23 [ob_rw cf n0] g (some (.int r)) g := by
  refine ob_enter (by decide) (Nat.le_of_ble_eq_true rfl) (Or.inr rfl) ?_
  intro C hC F k
  subst hC
  exact b_X12_isName_0 F h k
-- X12_lowest
def Lb_X12_lowest_6 (rec : Int32 → Int32 → Option (Int32)) (g : ob_St) (n0 : Nat) (x1 : Int32) (x2 : Int32) : Option (Int32) :=
  (ob_rI g 14 n0 2).bind fun v2 => (if v2 < x2 then (some x1) else ((ob_rI g 14 n0 (3 + x2)).bind fun v3 => rec (x1 - v3) (x2 + 1)))
def L_X12_lowest_6 (g : ob_St) (n0 : Nat) : Nat → Int32 → Int32 → Option (Int32)
  | 0, _, _ => none
  | n + 1, x1, x2 => Lb_X12_lowest_6 (L_X12_lowest_6 g n0 n) g n0 x1 x2
theorem lb_X12_lowest_6 {C : ob_Cx} {rec : Int32 → Int32 → Option (Int32)} (F : ob_Fx C cX12_lowest 3 RX12 (some .int) 0 0) {g : ob_St} {n0 : Nat} {x1 : Int32} {x2 : Int32} {x : (Int32)} (hr : ∀ {x1 : Int32} {x2 : Int32} {x : (Int32)}, rec x1 x2 = some x → ob_Ev C 27 [(1, .int x)] [] g → ob_Ev C 6 [(0, ob_rv C n0), (1, .int x1), (2, .int x2)] [] g) (h : Lb_X12_lowest_6 rec g n0 x1 x2 = some x) (k0 : ob_Ev C 27 [(1, .int x)] [] g) : ob_Ev C 6 [(0, ob_rv C n0), (1, .int x1), (2, .int x2)] [] g := by
  unfold Lb_X12_lowest_6 at h
  refine ob_iload_n F 2 dX12_lowest_6 rfl ?_
  refine ob_rload_n F 0 dX12_lowest_7 rfl ?_
  refine ob_iconst F (v := 2) dX12_lowest_8 (by decide) ?_
  refine ob_iald F dX12_lowest_9 h fun v2 h => ?_
  refine ob_icmp_gt F 27 dX12_lowest_10 (by decide) h (fun h => ?_) (fun h => ?_)
  · obtain rfl := Option.some.inj h
    exact ob_sub [1] rfl (k0)
  · refine ob_iload_n F 1 dX12_lowest_13 rfl ?_
    refine ob_rload_n F 0 dX12_lowest_14 rfl ?_
    refine ob_iconst F (v := 3) dX12_lowest_15 (by decide) ?_
    refine ob_iload_n F 2 dX12_lowest_16 rfl ?_
    refine ob_iadd F dX12_lowest_17 ?_
    refine ob_iald F dX12_lowest_18 h fun v3 h => ?_
    refine ob_isub F dX12_lowest_19 ?_
    refine ob_istore_n F (ls2 := [(1, .int (x1 - v3)), (0, ob_rv C n0), (2, .int x2)]) dX12_lowest_20 (by decide) rfl ?_
    refine ob_iinc F (v := (x2 + 1)) (ls2 := [(2, .int (x2 + 1)), (1, .int (x1 - v3)), (0, ob_rv C n0)]) 2 dX12_lowest_21 rfl rfl (by decide) rfl ?_
    refine ob_goto F 6 dX12_lowest_24 (by decide) ?_
    exact ob_sub [2, 1, 0] rfl (hr h k0)
theorem l_X12_lowest_6 {C : ob_Cx} (F : ob_Fx C cX12_lowest 3 RX12 (some .int) 0 0) {g : ob_St} {n0 : Nat} : ∀ (n : Nat) {x1 : Int32} {x2 : Int32} {x : (Int32)}, L_X12_lowest_6 g n0 n x1 x2 = some x → ob_Ev C 27 [(1, .int x)] [] g → ob_Ev C 6 [(0, ob_rv C n0), (1, .int x1), (2, .int x2)] [] g := by
  intro n
  induction n with
  | zero => intro x1 x2 x h; exact ob_no h
  | succ n ih => intro x1 x2 x h k0; exact lb_X12_lowest_6 F ih h k0
def f_X12_lowest (g : ob_St) (n0 : Nat) : Option Int32 :=
  (ob_rI g 14 n0 0).bind fun v1 => (L_X12_lowest_6 g n0 ob_FU v1 1).bind fun x_4 => some x_4
theorem b_X12_lowest_0 {C : ob_Cx} (F : ob_Fx C cX12_lowest 3 RX12 (some .int) 0 0) {g : ob_St} {n0 : Nat} {r : Int32} (h : f_X12_lowest g n0 = some r) (k : ob_Rt C (some (.int r)) g) : ob_Ev C 0 [(0, ob_rv C n0)] [] g := by
  unfold f_X12_lowest at h
  refine ob_rload_n F 0 dX12_lowest_0 rfl ?_
  refine ob_iconst F (v := 0) dX12_lowest_1 (by decide) ?_
  refine ob_iald F dX12_lowest_2 h fun v1 h => ?_
  refine ob_istore_n F (ls2 := [(1, .int v1), (0, ob_rv C n0)]) dX12_lowest_3 (by decide) rfl ?_
  refine ob_iconst F (v := 1) dX12_lowest_4 (by decide) ?_
  refine ob_istore_n F (ls2 := [(2, .int 1), (1, .int v1), (0, ob_rv C n0)]) dX12_lowest_5 (by decide) rfl ?_
  obtain ⟨x_4, hx, h⟩ := Option.bind_eq_some_iff.mp h
  refine ob_sub [2, 1, 0] rfl (l_X12_lowest_6 F ob_FU hx ?_)
  refine ob_iload_n F 0 dX12_lowest_27 rfl ?_
  obtain rfl := Option.some.inj h
  exact ob_iret F dX12_lowest_28 k
theorem t_X12_lowest {cf : ob_Cf} {g : ob_St} {n0 : Nat} {r : Int32} (h : f_X12_lowest g n0 = some r) : ob_Mt cf yX12_lowest cX12_lowest 3 (some .int) 0 0 [ob_rw cf n0] g (some (.int r)) g := by
  refine ob_enter (by decide) (Nat.le_of_ble_eq_true rfl) (Or.inl rfl) ?_
  intro C hC F k
  subst hC
  exact b_X12_lowest_0 F h k
-- X12_stepLine
def Lb_X12_stepLine_101 (rec : ob_St → Int32 → Option (ob_St)) (g : ob_St) (n0 : Nat) (x2 : Int32) (x3 : Int32) (x4 : Int32) : Option (ob_St) :=
  (if x3 ≤ x4 then (some g) else ((ob_gR 12 n0 2).bind fun v10 => (ob_rI g 14 v10 2).bind fun v11 => (ob_wI g v10 2 (v11 + 1)).bind fun g12 => (ob_gR 12 n0 2).bind fun v13 => (ob_gR 12 n0 2).bind fun v14 => (ob_rI g12 14 v14 2).bind fun v15 => (ob_wI g12 v13 (3 + v15) x2).bind fun g16 => rec g16 (x4 + 1)))
def L_X12_stepLine_101 (n0 : Nat) (x2 : Int32) (x3 : Int32) : Nat → ob_St → Int32 → Option (ob_St)
  | 0, _, _ => none
  | n + 1, g, x4 => Lb_X12_stepLine_101 (L_X12_stepLine_101 n0 x2 x3 n) g n0 x2 x3 x4
theorem lb_X12_stepLine_101 {C : ob_Cx} {rec : ob_St → Int32 → Option (ob_St)} (F : ob_Fx C cX12_stepLine 5 RX12 (some .boolean) 4 88) {g : ob_St} {n0 : Nat} {x2 : Int32} {x3 : Int32} {x4 : Int32} {x : (ob_St)} (hr : ∀ {g : ob_St} {x4 : Int32} {x : (ob_St)}, rec g x4 = some x → ob_Ev C 137 [(0, ob_rv C n0)] [] x → ob_Ev C 101 [(0, ob_rv C n0), (2, .int x2), (3, .int x3), (4, .int x4)] [] g) (h : Lb_X12_stepLine_101 rec g n0 x2 x3 x4 = some x) (k0 : ob_Ev C 137 [(0, ob_rv C n0)] [] x) : ob_Ev C 101 [(0, ob_rv C n0), (2, .int x2), (3, .int x3), (4, .int x4)] [] g := by
  unfold Lb_X12_stepLine_101 at h
  refine ob_iload F 3 dX12_stepLine_101 rfl ?_
  refine ob_iload_n F 2 dX12_stepLine_103 rfl ?_
  refine ob_icmp_ge F 137 dX12_stepLine_104 (by decide) h (fun h => ?_) (fun h => ?_)
  · obtain rfl := Option.some.inj h
    exact ob_sub [0] rfl (k0)
  · refine ob_rload_n F 0 dX12_stepLine_107 rfl ?_
    refine ob_getR F dX12_stepLine_108 fl_X12_17 h fun v10 h => ?_
    refine ob_iconst F (v := 2) dX12_stepLine_111 (by decide) ?_
    refine ob_dup2 F dX12_stepLine_112 rfl rfl ?_
    refine ob_iald F dX12_stepLine_113 h fun v11 h => ?_
    refine ob_iconst F (v := 1) dX12_stepLine_114 (by decide) ?_
    refine ob_iadd F dX12_stepLine_115 ?_
    refine ob_iast F dX12_stepLine_116 h fun g12 h => ?_
    refine ob_rload_n F 0 dX12_stepLine_117 rfl ?_
    refine ob_getR F dX12_stepLine_118 fl_X12_17 h fun v13 h => ?_
    refine ob_iconst F (v := 3) dX12_stepLine_121 (by decide) ?_
    refine ob_rload_n F 0 dX12_stepLine_122 rfl ?_
    refine ob_getR F dX12_stepLine_123 fl_X12_17 h fun v14 h => ?_
    refine ob_iconst F (v := 2) dX12_stepLine_126 (by decide) ?_
    refine ob_iald F dX12_stepLine_127 h fun v15 h => ?_
    refine ob_iadd F dX12_stepLine_128 ?_
    refine ob_iload_n F 1 dX12_stepLine_129 rfl ?_
    refine ob_iast F dX12_stepLine_130 h fun g16 h => ?_
    refine ob_iinc F (v := (x4 + 1)) (ls2 := [(4, .int (x4 + 1)), (0, ob_rv C n0), (2, .int x2), (3, .int x3)]) 3 dX12_stepLine_131 rfl rfl (by decide) rfl ?_
    refine ob_goto F 101 dX12_stepLine_134 (by decide) ?_
    exact ob_sub [1, 2, 3, 0] rfl (hr h k0)
theorem l_X12_stepLine_101 {C : ob_Cx} (F : ob_Fx C cX12_stepLine 5 RX12 (some .boolean) 4 88) {n0 : Nat} {x2 : Int32} {x3 : Int32} : ∀ (n : Nat) {g : ob_St} {x4 : Int32} {x : (ob_St)}, L_X12_stepLine_101 n0 x2 x3 n g x4 = some x → ob_Ev C 137 [(0, ob_rv C n0)] [] x → ob_Ev C 101 [(0, ob_rv C n0), (2, .int x2), (3, .int x3), (4, .int x4)] [] g := by
  intro n
  induction n with
  | zero => intro g x4 x h; exact ob_no h
  | succ n ih => intro g x4 x h k0; exact lb_X12_stepLine_101 F ih h k0
def B_X12_stepLine_78 (g : ob_St) (n0 : Nat) (x1 : Int32) (x2 : Int32) (x3 : Int32) : Option (Int32 × ob_St) :=
  (ob_gR 12 n0 2).bind fun v8 => (f_X12_lowest g v8).bind fun v9 => (if (x2 * x3) ≤ v9 then ((L_X12_stepLine_101 n0 x2 x3 ob_FU g 0).bind fun x_17 => (ob_gR 12 n0 2).bind fun v18 => (ob_wI x_17 v18 3 0).bind fun g19 => some (1, g19)) else ((ob_ck 12 n0 (f_X12_bad g n0 2 x1)).bind fun v20 => (ob_zr v20.1).bind fun z21 => some (z21, v20.2)))
theorem b_X12_stepLine_78 {C : ob_Cx} (F : ob_Fx C cX12_stepLine 5 RX12 (some .boolean) 4 88) {g : ob_St} {n0 : Nat} {x1 : Int32} {x2 : Int32} {x3 : Int32} {r : (Int32 × ob_St)} (h : B_X12_stepLine_78 g n0 x1 x2 x3 = some r) (k : ob_Rt C (some (.int r.1)) r.2) : ob_Ev C 78 [(0, ob_rv C n0), (1, .int x1), (2, .int x2), (3, .int x3)] [] g := by
  unfold B_X12_stepLine_78 at h
  refine ob_rload_n F 0 dX12_stepLine_78 rfl ?_
  refine ob_getR F dX12_stepLine_79 fl_X12_17 h fun v8 h => ?_
  refine ob_cSi F dX12_stepLine_82 im_X12_lowest tw6_95 h (fun b hb => t_X12_lowest hb) rfl rfl (Nat.le_of_ble_eq_true rfl) (by decide) fun v9 h => ?_
  refine ob_iload_n F 2 dX12_stepLine_85 rfl ?_
  refine ob_iload_n F 3 dX12_stepLine_86 rfl ?_
  refine ob_imul F dX12_stepLine_87 ?_
  refine ob_icmp_ge F 98 dX12_stepLine_88 (by decide) h (fun h => ?_) (fun h => ?_)
  · refine ob_iconst F (v := 0) dX12_stepLine_98 (by decide) ?_
    refine ob_istore F (ls2 := [(4, .int 0), (0, ob_rv C n0), (1, .int x1), (2, .int x2), (3, .int x3)]) dX12_stepLine_99 (by decide) rfl ?_
    obtain ⟨x_17, hx, h⟩ := Option.bind_eq_some_iff.mp h
    refine ob_sub [1, 3, 4, 0] rfl (l_X12_stepLine_101 F ob_FU hx ?_)
    refine ob_rload_n F 0 dX12_stepLine_137 rfl ?_
    refine ob_getR F dX12_stepLine_138 fl_X12_17 h fun v18 h => ?_
    refine ob_iconst F (v := 3) dX12_stepLine_141 (by decide) ?_
    refine ob_iconst F (v := 0) dX12_stepLine_142 (by decide) ?_
    refine ob_iast F dX12_stepLine_143 h fun g19 h => ?_
    refine ob_iconst F (v := 1) dX12_stepLine_144 (by decide) ?_
    obtain rfl := Option.some.inj h
    exact ob_zret F dX12_stepLine_145 (Or.inr rfl) k
  · refine ob_rload_n F 0 dX12_stepLine_91 rfl ?_
    refine ob_iconst F (v := 2) dX12_stepLine_92 (by decide) ?_
    refine ob_iload_n F 1 dX12_stepLine_93 rfl ?_
    refine ob_cViS F dX12_stepLine_94 im_X12_bad tw6_52 h (fun b hb => t_X12_bad hb) rfl rfl (Nat.le_of_ble_eq_true rfl) (by decide) fun v20 h => ?_
    refine ob_zrow h fun hz h => ?_
    obtain rfl := Option.some.inj h
    exact ob_zret F dX12_stepLine_97 hz k
def f_X12_stepLine (g : ob_St) (n0 : Nat) : Option (Int32 × ob_St) :=
  (ob_gI g 12 n0 11).bind fun v1 => (ob_gR 12 n0 2).bind fun v2 => (ob_rI g 14 v2 1).bind fun v3 => (ob_ck 12 n0 (f_X12_takes g n0 3 1 (v3 - 1))).bind fun v4 => (if v4.1 = 0 then (some (0, v4.2)) else ((ob_gR 12 n0 2).bind fun v5 => (ob_rI v4.2 14 v5 3).bind fun v6 => (ob_ck 12 n0 (f_X12_known v4.2 n0)).bind fun v7 => (if v7 = 17 then ((ob_ck 12 n0 (f_X12_next v4.2 n0)).bind fun g22 => (ob_gI g22 12 n0 11).bind fun v23 => (ob_gR 12 n0 2).bind fun v24 => (ob_rI g22 14 v24 2).bind fun v25 => (ob_ck 12 n0 (f_X12_takes g22 n0 3 1 (12 - v25))).bind fun v26 => (if v26.1 = 0 then (some (0, v26.2)) else ((ob_gR 12 n0 2).bind fun v27 => (ob_rI v26.2 14 v27 3).bind fun v28 => B_X12_stepLine_78 v26.2 n0 v23 v6 v28))) else (B_X12_stepLine_78 v4.2 n0 v1 v6 1))))
theorem b_X12_stepLine_0 {C : ob_Cx} (F : ob_Fx C cX12_stepLine 5 RX12 (some .boolean) 4 88) {g : ob_St} {n0 : Nat} {r : (Int32 × ob_St)} (h : f_X12_stepLine g n0 = some r) (k : ob_Rt C (some (.int r.1)) r.2) : ob_Ev C 0 [(0, ob_rv C n0)] [] g := by
  unfold f_X12_stepLine at h
  refine ob_rload_n F 0 dX12_stepLine_0 rfl ?_
  refine ob_getI F dX12_stepLine_1 fl_X12_98 h fun v1 h => ?_
  refine ob_istore_n F (ls2 := [(1, .int v1), (0, ob_rv C n0)]) dX12_stepLine_4 (by decide) rfl ?_
  refine ob_rload_n F 1 dX12_stepLine_5 rfl ?_
  refine ob_iconst F (v := 3) dX12_stepLine_6 (by decide) ?_
  refine ob_iconst F (v := 1) dX12_stepLine_7 (by decide) ?_
  refine ob_rload_n F 1 dX12_stepLine_8 rfl ?_
  refine ob_getR F dX12_stepLine_9 fl_X12_17 h fun v2 h => ?_
  refine ob_iconst F (v := 1) dX12_stepLine_12 (by decide) ?_
  refine ob_iald F dX12_stepLine_13 h fun v3 h => ?_
  refine ob_iconst F (v := 1) dX12_stepLine_14 (by decide) ?_
  refine ob_isub F dX12_stepLine_15 ?_
  refine ob_cViS F dX12_stepLine_16 im_X12_takes tw6_87 h (fun b hb => t_X12_takes hb) rfl rfl (Nat.le_of_ble_eq_true rfl) (by decide) fun v4 h => ?_
  refine ob_if_ne F 24 dX12_stepLine_19 (by decide) h (fun h => ?_) (fun h => ?_)
  · refine ob_rload_n F 1 dX12_stepLine_24 rfl ?_
    refine ob_getR F dX12_stepLine_25 fl_X12_17 h fun v5 h => ?_
    refine ob_iconst F (v := 3) dX12_stepLine_28 (by decide) ?_
    refine ob_iald F dX12_stepLine_29 h fun v6 h => ?_
    refine ob_istore_n F (ls2 := [(2, .int v6), (1, .int v1), (0, ob_rv C n0)]) dX12_stepLine_30 (by decide) rfl ?_
    refine ob_iconst F (v := 1) dX12_stepLine_31 (by decide) ?_
    refine ob_istore_n F (ls2 := [(3, .int 1), (2, .int v6), (1, .int v1), (0, ob_rv C n0)]) dX12_stepLine_32 (by decide) rfl ?_
    refine ob_rload_n F 3 dX12_stepLine_33 rfl ?_
    refine ob_cVi F dX12_stepLine_34 im_X12_known tw6_73 h (fun b hb => t_X12_known hb) rfl rfl (Nat.le_of_ble_eq_true rfl) (by decide) fun v7 h => ?_
    refine ob_bipush F (v := 17) dX12_stepLine_37 (by decide) ?_
    refine ob_icmp_ne F 78 dX12_stepLine_39 (by decide) h (fun h => ?_) (fun h => ?_)
    · exact ob_sub [3, 2, 1, 0] rfl (b_X12_stepLine_78 F h k)
    · refine ob_rload_n F 3 dX12_stepLine_42 rfl ?_
      refine ob_cVvS F dX12_stepLine_43 im_X12_next tw6_56 h (fun b hb => t_X12_next hb) rfl rfl (Nat.le_of_ble_eq_true rfl) (by decide) fun g22 h => ?_
      refine ob_rload_n F 3 dX12_stepLine_46 rfl ?_
      refine ob_getI F dX12_stepLine_47 fl_X12_98 h fun v23 h => ?_
      refine ob_istore_n F (ls2 := [(1, .int v23), (3, .int 1), (2, .int v6), (0, ob_rv C n0)]) dX12_stepLine_50 (by decide) rfl ?_
      refine ob_rload_n F 3 dX12_stepLine_51 rfl ?_
      refine ob_iconst F (v := 3) dX12_stepLine_52 (by decide) ?_
      refine ob_iconst F (v := 1) dX12_stepLine_53 (by decide) ?_
      refine ob_bipush F (v := 12) dX12_stepLine_54 (by decide) ?_
      refine ob_rload_n F 3 dX12_stepLine_56 rfl ?_
      refine ob_getR F dX12_stepLine_57 fl_X12_17 h fun v24 h => ?_
      refine ob_iconst F (v := 2) dX12_stepLine_60 (by decide) ?_
      refine ob_iald F dX12_stepLine_61 h fun v25 h => ?_
      refine ob_isub F dX12_stepLine_62 ?_
      refine ob_cViS F dX12_stepLine_63 im_X12_takes tw6_87 h (fun b hb => t_X12_takes hb) rfl rfl (Nat.le_of_ble_eq_true rfl) (by decide) fun v26 h => ?_
      refine ob_if_ne F 71 dX12_stepLine_66 (by decide) h (fun h => ?_) (fun h => ?_)
      · refine ob_rload_n F 3 dX12_stepLine_71 rfl ?_
        refine ob_getR F dX12_stepLine_72 fl_X12_17 h fun v27 h => ?_
        refine ob_iconst F (v := 3) dX12_stepLine_75 (by decide) ?_
        refine ob_iald F dX12_stepLine_76 h fun v28 h => ?_
        refine ob_istore_n F (ls2 := [(3, .int v28), (1, .int v23), (2, .int v6), (0, ob_rv C n0)]) dX12_stepLine_77 (by decide) rfl ?_
        exact ob_sub [3, 1, 2, 0] rfl (b_X12_stepLine_78 F h k)
      · refine ob_iconst F (v := 0) dX12_stepLine_69 (by decide) ?_
        obtain rfl := Option.some.inj h
        exact ob_zret F dX12_stepLine_70 (Or.inl rfl) k
  · refine ob_iconst F (v := 0) dX12_stepLine_22 (by decide) ?_
    obtain rfl := Option.some.inj h
    exact ob_zret F dX12_stepLine_23 (Or.inl rfl) k
theorem t_X12_stepLine {cf : ob_Cf} {g : ob_St} {n0 : Nat} {r : (Int32 × ob_St)} (h : f_X12_stepLine g n0 = some r) : ob_Mt cf yX12_stepLine cX12_stepLine 5 (some .boolean) 4 88 [ob_rw cf n0] g (some (.int r.1)) r.2 := by
  refine ob_enter (by decide) (Nat.le_of_ble_eq_true rfl) (Or.inr rfl) ?_
  intro C hC F k
  subst hC
  exact b_X12_stepLine_0 F h k
-- X12_kindWord
def B_X12_kindWord_14 (g : ob_St) (n0 : Nat) : Option (Int32 × ob_St) :=
  (ob_ck 12 n0 (f_X12_badHere g n0 1)).bind fun v2 => (ob_zr v2.1).bind fun z3 => some (z3, v2.2)
theorem b_X12_kindWord_14 {C : ob_Cx} (F : ob_Fx C cX12_kindWord 3 RX12 (some .boolean) 4 88) {g : ob_St} {n0 : Nat} {r : (Int32 × ob_St)} (h : B_X12_kindWord_14 g n0 = some r) (k : ob_Rt C (some (.int r.1)) r.2) : ob_Ev C 14 [(0, ob_rv C n0)] [] g := by
  unfold B_X12_kindWord_14 at h
  refine ob_rload_n F 0 dX12_kindWord_14 rfl ?_
  refine ob_iconst F (v := 1) dX12_kindWord_15 (by decide) ?_
  refine ob_cViS F dX12_kindWord_16 im_X12_badHere tw6_79 h (fun b hb => t_X12_badHere hb) rfl rfl (Nat.le_of_ble_eq_true rfl) (by decide) fun v2 h => ?_
  refine ob_zrow h fun hz h => ?_
  obtain rfl := Option.some.inj h
  exact ob_zret F dX12_kindWord_19 hz k
def B_X12_kindWord_100 (g : ob_St) (n0 : Nat) (x1 : Int32) (x2 : Int32) : Option (Int32 × ob_St) :=
  (ob_ck 12 n0 (f_X12_takes g n0 (x1 + 1) 0 999)).bind fun v9 => (if v9.1 = 0 then (some (0, v9.2)) else ((if x2 = 2 then ((ob_ck 12 n0 (f_X12_takes v9.2 n0 (x1 + 2) 1 99)).bind fun v13 => (ob_zr v13.1).bind fun z14 => some (z14, v13.2)) else ((if x2 = 3 then ((ob_gR 12 n0 2).bind fun v10 => (ob_rI v9.2 14 v10 (x1 + 1)).bind fun v11 => (ob_ck 12 n0 (f_X12_takes v9.2 n0 (x1 + 2) (v11 + 1) 999)).bind fun v12 => (if v12.1 = 0 then (some (0, v12.2)) else (some (1, v12.2)))) else (some (1, v9.2)))))))
theorem b_X12_kindWord_100 {C : ob_Cx} (F : ob_Fx C cX12_kindWord 3 RX12 (some .boolean) 4 88) {g : ob_St} {n0 : Nat} {x1 : Int32} {x2 : Int32} {r : (Int32 × ob_St)} (h : B_X12_kindWord_100 g n0 x1 x2 = some r) (k : ob_Rt C (some (.int r.1)) r.2) : ob_Ev C 100 [(0, ob_rv C n0), (1, .int x1), (2, .int x2)] [] g := by
  unfold B_X12_kindWord_100 at h
  refine ob_rload_n F 0 dX12_kindWord_100 rfl ?_
  refine ob_iload_n F 1 dX12_kindWord_101 rfl ?_
  refine ob_iconst F (v := 1) dX12_kindWord_102 (by decide) ?_
  refine ob_iadd F dX12_kindWord_103 ?_
  refine ob_iconst F (v := 0) dX12_kindWord_104 (by decide) ?_
  refine ob_sipush F (v := 999) dX12_kindWord_105 (by decide) ?_
  refine ob_cViS F dX12_kindWord_108 im_X12_takes tw6_87 h (fun b hb => t_X12_takes hb) rfl rfl (Nat.le_of_ble_eq_true rfl) (by decide) fun v9 h => ?_
  refine ob_if_ne F 116 dX12_kindWord_111 (by decide) h (fun h => ?_) (fun h => ?_)
  · refine ob_iload_n F 2 dX12_kindWord_116 rfl ?_
    refine ob_iconst F (v := 2) dX12_kindWord_117 (by decide) ?_
    refine ob_icmp_ne F 132 dX12_kindWord_118 (by decide) h (fun h => ?_) (fun h => ?_)
    · refine ob_iload_n F 2 dX12_kindWord_132 rfl ?_
      refine ob_iconst F (v := 3) dX12_kindWord_133 (by decide) ?_
      refine ob_icmp_ne F 160 dX12_kindWord_134 (by decide) h (fun h => ?_) (fun h => ?_)
      · refine ob_iconst F (v := 1) dX12_kindWord_160 (by decide) ?_
        refine ob_goto F 165 dX12_kindWord_161 (by decide) ?_
        obtain rfl := Option.some.inj h
        exact ob_zret F dX12_kindWord_165 (Or.inr rfl) k
      · refine ob_rload_n F 0 dX12_kindWord_137 rfl ?_
        refine ob_iload_n F 1 dX12_kindWord_138 rfl ?_
        refine ob_iconst F (v := 2) dX12_kindWord_139 (by decide) ?_
        refine ob_iadd F dX12_kindWord_140 ?_
        refine ob_rload_n F 0 dX12_kindWord_141 rfl ?_
        refine ob_getR F dX12_kindWord_142 fl_X12_17 h fun v10 h => ?_
        refine ob_iload_n F 1 dX12_kindWord_145 rfl ?_
        refine ob_iconst F (v := 1) dX12_kindWord_146 (by decide) ?_
        refine ob_iadd F dX12_kindWord_147 ?_
        refine ob_iald F dX12_kindWord_148 h fun v11 h => ?_
        refine ob_iconst F (v := 1) dX12_kindWord_149 (by decide) ?_
        refine ob_iadd F dX12_kindWord_150 ?_
        refine ob_sipush F (v := 999) dX12_kindWord_151 (by decide) ?_
        refine ob_cViS F dX12_kindWord_154 im_X12_takes tw6_87 h (fun b hb => t_X12_takes hb) rfl rfl (Nat.le_of_ble_eq_true rfl) (by decide) fun v12 h => ?_
        refine ob_if_eq F 164 dX12_kindWord_157 (by decide) h (fun h => ?_) (fun h => ?_)
        · refine ob_iconst F (v := 0) dX12_kindWord_164 (by decide) ?_
          obtain rfl := Option.some.inj h
          exact ob_zret F dX12_kindWord_165 (Or.inl rfl) k
        · refine ob_iconst F (v := 1) dX12_kindWord_160 (by decide) ?_
          refine ob_goto F 165 dX12_kindWord_161 (by decide) ?_
          obtain rfl := Option.some.inj h
          exact ob_zret F dX12_kindWord_165 (Or.inr rfl) k
    · refine ob_rload_n F 0 dX12_kindWord_121 rfl ?_
      refine ob_iload_n F 1 dX12_kindWord_122 rfl ?_
      refine ob_iconst F (v := 2) dX12_kindWord_123 (by decide) ?_
      refine ob_iadd F dX12_kindWord_124 ?_
      refine ob_iconst F (v := 1) dX12_kindWord_125 (by decide) ?_
      refine ob_bipush F (v := 99) dX12_kindWord_126 (by decide) ?_
      refine ob_cViS F dX12_kindWord_128 im_X12_takes tw6_87 h (fun b hb => t_X12_takes hb) rfl rfl (Nat.le_of_ble_eq_true rfl) (by decide) fun v13 h => ?_
      refine ob_zrow h fun hz h => ?_
      obtain rfl := Option.some.inj h
      exact ob_zret F dX12_kindWord_131 hz k
  · refine ob_iconst F (v := 0) dX12_kindWord_114 (by decide) ?_
    obtain rfl := Option.some.inj h
    exact ob_zret F dX12_kindWord_115 (Or.inl rfl) k
def f_X12_kindWord (g : ob_St) (n0 : Nat) (x1 : Int32) : Option (Int32 × ob_St) :=
  (ob_ck 12 n0 (f_X12_known g n0)).bind fun v1 => (if v1 < 0 then (B_X12_kindWord_14 g n0) else ((if v1 ≤ 5 then ((ob_gR 12 n0 2).bind fun v4 => (ob_wI g v4 (x1 + 0) v1).bind fun g5 => (ob_gR 12 n0 2).bind fun v6 => (ob_wI g5 v6 (x1 + 2) (-1)).bind fun g7 => (ob_ck 12 n0 (f_X12_next g7 n0)).bind fun g8 => (if v1 = 5 then ((ob_ck 12 n0 (f_X12_isName g8 n0)).bind fun v15 => (if v15 = 0 then ((ob_ck 12 n0 (f_X12_badHere g8 n0 1)).bind fun v26 => (ob_zr v26.1).bind fun z27 => some (z27, v26.2)) else ((ob_gR 12 n0 2).bind fun v16 => (ob_gR 12 n0 2).bind fun v17 => (ob_rI g8 14 v17 29).bind fun v18 => (ob_ck 12 n0 (f_X12_named g8 n0 v18)).bind fun v19 => (ob_wI g8 v16 (x1 + 2) v19).bind fun g20 => (ob_gR 12 n0 2).bind fun v21 => (ob_rI g20 14 v21 (x1 + 2)).bind fun v22 => (if 0 ≤ v22 then ((ob_ck 12 n0 (f_X12_next g20 n0)).bind fun g23 => B_X12_kindWord_100 g23 n0 x1 v1) else ((ob_ck 12 n0 (f_X12_badHere g20 n0 3)).bind fun v24 => (ob_zr v24.1).bind fun z25 => some (z25, v24.2)))))) else (B_X12_kindWord_100 g8 n0 x1 v1))) else (B_X12_kindWord_14 g n0))))
theorem b_X12_kindWord_0 {C : ob_Cx} (F : ob_Fx C cX12_kindWord 3 RX12 (some .boolean) 4 88) {g : ob_St} {n0 : Nat} {x1 : Int32} {r : (Int32 × ob_St)} (h : f_X12_kindWord g n0 x1 = some r) (k : ob_Rt C (some (.int r.1)) r.2) : ob_Ev C 0 [(0, ob_rv C n0), (1, .int x1)] [] g := by
  unfold f_X12_kindWord at h
  refine ob_rload_n F 0 dX12_kindWord_0 rfl ?_
  refine ob_cVi F dX12_kindWord_1 im_X12_known tw6_73 h (fun b hb => t_X12_known hb) rfl rfl (Nat.le_of_ble_eq_true rfl) (by decide) fun v1 h => ?_
  refine ob_istore_n F (ls2 := [(2, .int v1), (0, ob_rv C n0), (1, .int x1)]) dX12_kindWord_4 (by decide) rfl ?_
  refine ob_iload_n F 0 dX12_kindWord_5 rfl ?_
  refine ob_if_lt F 14 dX12_kindWord_6 (by decide) h (fun h => ?_) (fun h => ?_)
  · exact ob_sub [1] rfl (b_X12_kindWord_14 F h k)
  · refine ob_iload_n F 0 dX12_kindWord_9 rfl ?_
    refine ob_iconst F (v := 5) dX12_kindWord_10 (by decide) ?_
    refine ob_icmp_le F 20 dX12_kindWord_11 (by decide) h (fun h => ?_) (fun h => ?_)
    · refine ob_rload_n F 1 dX12_kindWord_20 rfl ?_
      refine ob_getR F dX12_kindWord_21 fl_X12_17 h fun v4 h => ?_
      refine ob_iload_n F 2 dX12_kindWord_24 rfl ?_
      refine ob_iconst F (v := 0) dX12_kindWord_25 (by decide) ?_
      refine ob_iadd F dX12_kindWord_26 ?_
      refine ob_iload_n F 0 dX12_kindWord_27 rfl ?_
      refine ob_iast F dX12_kindWord_28 h fun g5 h => ?_
      refine ob_rload_n F 1 dX12_kindWord_29 rfl ?_
      refine ob_getR F dX12_kindWord_30 fl_X12_17 h fun v6 h => ?_
      refine ob_iload_n F 2 dX12_kindWord_33 rfl ?_
      refine ob_iconst F (v := 2) dX12_kindWord_34 (by decide) ?_
      refine ob_iadd F dX12_kindWord_35 ?_
      refine ob_iconst F (v := (-1)) dX12_kindWord_36 (by decide) ?_
      refine ob_iast F dX12_kindWord_37 h fun g7 h => ?_
      refine ob_rload_n F 1 dX12_kindWord_38 rfl ?_
      refine ob_cVvS F dX12_kindWord_39 im_X12_next tw6_56 h (fun b hb => t_X12_next hb) rfl rfl (Nat.le_of_ble_eq_true rfl) (by decide) fun g8 h => ?_
      refine ob_iload_n F 0 dX12_kindWord_42 rfl ?_
      refine ob_iconst F (v := 5) dX12_kindWord_43 (by decide) ?_
      refine ob_icmp_ne F 100 dX12_kindWord_44 (by decide) h (fun h => ?_) (fun h => ?_)
      · exact ob_sub [1, 2, 0] rfl (b_X12_kindWord_100 F h k)
      · refine ob_rload_n F 1 dX12_kindWord_47 rfl ?_
        refine ob_cVi F dX12_kindWord_48 im_X12_isName tw6_102 h (fun b hb => t_X12_isName hb) rfl rfl (Nat.le_of_ble_eq_true rfl) (by decide) fun v15 h => ?_
        refine ob_if_ne F 60 dX12_kindWord_51 (by decide) h (fun h => ?_) (fun h => ?_)
        · refine ob_rload_n F 1 dX12_kindWord_60 rfl ?_
          refine ob_getR F dX12_kindWord_61 fl_X12_17 h fun v16 h => ?_
          refine ob_iload_n F 2 dX12_kindWord_64 rfl ?_
          refine ob_iconst F (v := 2) dX12_kindWord_65 (by decide) ?_
          refine ob_iadd F dX12_kindWord_66 ?_
          refine ob_rload_n F 1 dX12_kindWord_67 rfl ?_
          refine ob_rload_n F 1 dX12_kindWord_68 rfl ?_
          refine ob_getR F dX12_kindWord_69 fl_X12_17 h fun v17 h => ?_
          refine ob_bipush F (v := 29) dX12_kindWord_72 (by decide) ?_
          refine ob_iald F dX12_kindWord_74 h fun v18 h => ?_
          refine ob_cVi F dX12_kindWord_75 im_X12_named tw6_106 h (fun b hb => t_X12_named hb) rfl rfl (Nat.le_of_ble_eq_true rfl) (by decide) fun v19 h => ?_
          refine ob_iast F dX12_kindWord_78 h fun g20 h => ?_
          refine ob_rload_n F 1 dX12_kindWord_79 rfl ?_
          refine ob_getR F dX12_kindWord_80 fl_X12_17 h fun v21 h => ?_
          refine ob_iload_n F 2 dX12_kindWord_83 rfl ?_
          refine ob_iconst F (v := 2) dX12_kindWord_84 (by decide) ?_
          refine ob_iadd F dX12_kindWord_85 ?_
          refine ob_iald F dX12_kindWord_86 h fun v22 h => ?_
          refine ob_if_ge F 96 dX12_kindWord_87 (by decide) h (fun h => ?_) (fun h => ?_)
          · refine ob_rload_n F 1 dX12_kindWord_96 rfl ?_
            refine ob_cVvS F dX12_kindWord_97 im_X12_next tw6_56 h (fun b hb => t_X12_next hb) rfl rfl (Nat.le_of_ble_eq_true rfl) (by decide) fun g23 h => ?_
            exact ob_sub [1, 2, 0] rfl (b_X12_kindWord_100 F h k)
          · refine ob_rload_n F 1 dX12_kindWord_90 rfl ?_
            refine ob_iconst F (v := 3) dX12_kindWord_91 (by decide) ?_
            refine ob_cViS F dX12_kindWord_92 im_X12_badHere tw6_79 h (fun b hb => t_X12_badHere hb) rfl rfl (Nat.le_of_ble_eq_true rfl) (by decide) fun v24 h => ?_
            refine ob_zrow h fun hz h => ?_
            obtain rfl := Option.some.inj h
            exact ob_zret F dX12_kindWord_95 hz k
        · refine ob_rload_n F 1 dX12_kindWord_54 rfl ?_
          refine ob_iconst F (v := 1) dX12_kindWord_55 (by decide) ?_
          refine ob_cViS F dX12_kindWord_56 im_X12_badHere tw6_79 h (fun b hb => t_X12_badHere hb) rfl rfl (Nat.le_of_ble_eq_true rfl) (by decide) fun v26 h => ?_
          refine ob_zrow h fun hz h => ?_
          obtain rfl := Option.some.inj h
          exact ob_zret F dX12_kindWord_59 hz k
    · exact ob_sub [1] rfl (b_X12_kindWord_14 F h k)
theorem t_X12_kindWord {cf : ob_Cf} {g : ob_St} {n0 : Nat} {x1 : Int32} {r : (Int32 × ob_St)} (h : f_X12_kindWord g n0 x1 = some r) : ob_Mt cf yX12_kindWord cX12_kindWord 3 (some .boolean) 4 88 [ob_rw cf n0, .int x1] g (some (.int r.1)) r.2 := by
  refine ob_enter (by decide) (Nat.le_of_ble_eq_true rfl) (Or.inr rfl) ?_
  intro C hC F k
  subst hC
  exact b_X12_kindWord_0 F h k
