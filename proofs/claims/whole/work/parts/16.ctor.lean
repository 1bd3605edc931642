theorem ac_byte : Cond.arrayClass .byte ∈ ob_GT := ob_t1 112 rfl rfl
theorem ac_int : Cond.arrayClass .int ∈ ob_GT := ob_t1 113 rfl rfl
theorem ac_boolean : Cond.arrayClass .boolean ∈ ob_GT := ob_t2 8 rfl rfl
theorem ac_long : Cond.arrayClass .long ∈ ob_GT := ob_t2 9 rfl rfl
theorem cn_X3_22 : kv_Cn RX3 22 9 RX9 TX9 3 tyX9 := ⟨rfl, inX9, tyX9_ok, tw2_67, tw2_69, tw1_12, by decide +kernel⟩
theorem cn_X5_18 : kv_Cn RX5 18 1 RX1 TX1 10 tyX1 := ⟨rfl, inX1, tyX1_ok, tw1_37, tw1_39, tw1_3, by decide +kernel⟩
theorem cn_X9_15 : kv_Cn RX9 15 4 RX4 TX4 2 tyX4 := ⟨rfl, inX4, tyX4_ok, tw2_74, tw2_75, tw1_13, by decide +kernel⟩
theorem kp_X0_15 : kv_Fp RX0 15 0 1 true (.array .int) RX0 TX0 4 tyX0 := ⟨rfl, by decide, inX0, tw2_46, tyX0_ok, nmX0, rfl, rfl, by decide⟩
theorem kp_X0_18 : kv_Fp RX0 18 0 2 true (.array .int) RX0 TX0 4 tyX0 := ⟨rfl, by decide, inX0, tw2_48, tyX0_ok, nmX0, rfl, rfl, by decide⟩
theorem kp_X0_21 : kv_Fp RX0 21 0 3 false (.int) RX0 TX0 4 tyX0 := ⟨rfl, by decide, inX0, tw2_50, tyX0_ok, nmX0, rfl, rfl, by decide⟩
theorem kp_X0_9 : kv_Fp RX0 9 0 0 true (.array .int) RX0 TX0 4 tyX0 := ⟨rfl, by decide, inX0, tw2_44, tyX0_ok, nmX0, rfl, rfl, by decide⟩
theorem kp_X2_11 : kv_Fp RX2 11 2 1 true (.array (.array .long)) RX2 TX2 3 tyX2 := ⟨rfl, by decide, inX2, tw2_176, tyX2_ok, nmX2, rfl, rfl, by decide⟩
theorem kp_X2_18 : kv_Fp RX2 18 2 2 true (.array (.array .int)) RX2 TX2 3 tyX2 := ⟨rfl, by decide, inX2, tw2_177, tyX2_ok, nmX2, rfl, rfl, by decide⟩
theorem kp_X2_21 : kv_Fp RX2 21 2 0 true (.object "OptionBench$Lattice") RX2 TX2 3 tyX2 := ⟨rfl, by decide, inX2, tw2_175, tyX2_ok, nmX2, rfl, rfl, by decide⟩
theorem kp_X3_15 : kv_Fp RX3 15 3 2 true (.array .int) RX3 TX3 7 tyX3 := ⟨rfl, by decide, inX3, tw2_123, tyX3_ok, nmX3, rfl, rfl, by decide⟩
theorem kp_X3_18 : kv_Fp RX3 18 3 3 true (.array .long) RX3 TX3 7 tyX3 := ⟨rfl, by decide, inX3, tw2_126, tyX3_ok, nmX3, rfl, rfl, by decide⟩
theorem kp_X3_24 : kv_Fp RX3 24 3 4 true (.array (.object "OptionBench$Sheet")) RX3 TX3 7 tyX3 := ⟨rfl, by decide, inX3, tw2_129, tyX3_ok, nmX3, rfl, rfl, by decide⟩
theorem kp_X3_29 : kv_Fp RX3 29 3 5 true (.object "OptionBench$Sheet") RX3 TX3 7 tyX3 := ⟨rfl, by decide, inX3, tw2_131, tyX3_ok, nmX3, rfl, rfl, by decide⟩
theorem kp_X3_33 : kv_Fp RX3 33 3 6 false (.boolean) RX3 TX3 7 tyX3 := ⟨rfl, by decide, inX3, tw2_132, tyX3_ok, nmX3, rfl, rfl, by decide⟩
theorem kp_X3_37 : kv_Fp RX3 37 3 0 true (.object "OptionBench$Market") RX3 TX3 7 tyX3 := ⟨rfl, by decide, inX3, tw2_116, tyX3_ok, nmX3, rfl, rfl, by decide⟩
theorem kp_X3_9 : kv_Fp RX3 9 3 1 true (.array .int) RX3 TX3 7 tyX3 := ⟨rfl, by decide, inX3, tw2_120, tyX3_ok, nmX3, rfl, rfl, by decide⟩
theorem kp_X4_15 : kv_Fp RX4 15 4 1 true (.array .int) RX4 TX4 2 tyX4 := ⟨rfl, by decide, inX4, tw2_84, tyX4_ok, nmX4, rfl, rfl, by decide⟩
theorem kp_X4_9 : kv_Fp RX4 9 4 0 true (.array .long) RX4 TX4 2 tyX4 := ⟨rfl, by decide, inX4, tw2_80, tyX4_ok, nmX4, rfl, rfl, by decide⟩
theorem kp_X5_15 : kv_Fp RX5 15 5 1 true (.array .int) RX5 TX5 7 tyX5 := ⟨rfl, by decide, inX5, tw1_118, tyX5_ok, nmX5, rfl, rfl, by decide⟩
theorem kp_X5_20 : kv_Fp RX5 20 5 2 true (.array (.object "OptionBench$Contract")) RX5 TX5 7 tyX5 := ⟨rfl, by decide, inX5, tw1_121, tyX5_ok, nmX5, rfl, rfl, by decide⟩
theorem kp_X5_24 : kv_Fp RX5 24 5 3 false (.int) RX5 TX5 7 tyX5 := ⟨rfl, by decide, inX5, tw1_125, tyX5_ok, nmX5, rfl, rfl, by decide⟩
theorem kp_X5_28 : kv_Fp RX5 28 5 4 false (.int) RX5 TX5 7 tyX5 := ⟨rfl, by decide, inX5, tw1_129, tyX5_ok, nmX5, rfl, rfl, by decide⟩
theorem kp_X5_31 : kv_Fp RX5 31 5 5 false (.int) RX5 TX5 7 tyX5 := ⟨rfl, by decide, inX5, tw1_134, tyX5_ok, nmX5, rfl, rfl, by decide⟩
theorem kp_X5_34 : kv_Fp RX5 34 5 6 false (.int) RX5 TX5 7 tyX5 := ⟨rfl, by decide, inX5, tw1_141, tyX5_ok, nmX5, rfl, rfl, by decide⟩
theorem kp_X5_9 : kv_Fp RX5 9 5 0 true (.array .int) RX5 TX5 7 tyX5 := ⟨rfl, by decide, inX5, tw1_114, tyX5_ok, nmX5, rfl, rfl, by decide⟩
theorem kp_X6_15 : kv_Fp RX6 15 6 2 true (.array .long) RX6 TX6 3 tyX6 := ⟨rfl, by decide, inX6, tw2_157, tyX6_ok, nmX6, rfl, rfl, by decide⟩
theorem kp_X6_18 : kv_Fp RX6 18 6 0 true (.object "OptionBench$Lattice") RX6 TX6 3 tyX6 := ⟨rfl, by decide, inX6, tw2_155, tyX6_ok, nmX6, rfl, rfl, by decide⟩
theorem kp_X6_9 : kv_Fp RX6 9 6 1 true (.array .long) RX6 TX6 3 tyX6 := ⟨rfl, by decide, inX6, tw2_156, tyX6_ok, nmX6, rfl, rfl, by decide⟩
theorem kp_X8_15 : kv_Fp RX8 15 8 2 true (.array .long) RX8 TX8 5 tyX8 := ⟨rfl, by decide, inX8, tw2_193, tyX8_ok, nmX8, rfl, rfl, by decide⟩
theorem kp_X8_18 : kv_Fp RX8 18 8 3 true (.array .int) RX8 TX8 5 tyX8 := ⟨rfl, by decide, inX8, tw2_194, tyX8_ok, nmX8, rfl, rfl, by decide⟩
theorem kp_X8_22 : kv_Fp RX8 22 8 4 false (.int) RX8 TX8 5 tyX8 := ⟨rfl, by decide, inX8, tw2_195, tyX8_ok, nmX8, rfl, rfl, by decide⟩
theorem kp_X8_26 : kv_Fp RX8 26 8 0 true (.object "OptionBench$Lattice") RX8 TX8 5 tyX8 := ⟨rfl, by decide, inX8, tw2_191, tyX8_ok, nmX8, rfl, rfl, by decide⟩
theorem kp_X8_9 : kv_Fp RX8 9 8 1 true (.array .long) RX8 TX8 5 tyX8 := ⟨rfl, by decide, inX8, tw2_192, tyX8_ok, nmX8, rfl, rfl, by decide⟩
theorem kp_X9_18 : kv_Fp RX9 18 9 1 true (.object "OptionBench$Layer") RX9 TX9 3 tyX9 := ⟨rfl, by decide, inX9, tw2_99, tyX9_ok, nmX9, rfl, rfl, by decide⟩
theorem kp_X9_22 : kv_Fp RX9 22 9 2 true (.object "OptionBench$Layer") RX9 TX9 3 tyX9 := ⟨rfl, by decide, inX9, tw2_104, tyX9_ok, nmX9, rfl, rfl, by decide⟩
theorem kp_X9_9 : kv_Fp RX9 9 9 0 true (.array .long) RX9 TX9 3 tyX9 := ⟨rfl, by decide, inX9, tw2_94, tyX9_ok, nmX9, rfl, rfl, by decide⟩
theorem ib_X1_init : ob_Ib yX1_init cX1_init 1 none 0 := ⟨tw1_42, tw1_3, by decide, by decide, by decide⟩
theorem ib_X4_init : ob_Ib yX4_init cX4_init 1 none 0 := ⟨tw2_78, tw1_13, by decide, by decide, by decide⟩
theorem ib_X9_init : ob_Ib yX9_init cX9_init 1 none 0 := ⟨tw2_72, tw1_12, by decide, by decide, by decide⟩
theorem ib_X5_init : ob_Ib yX5_init cX5_init 2 none 0 := ⟨tw1_35, tw1_2, by decide, by decide, by decide⟩
theorem ib_X0_init : ob_Ib yX0_init cX0_init 1 none 0 := ⟨tw2_42, tw1_10, by decide, by decide, by decide⟩
theorem ib_X3_init : ob_Ib yX3_init cX3_init 3 none 1 := ⟨tw2_65, tw1_11, by decide, by decide, by decide⟩
theorem ib_X6_init : ob_Ib yX6_init cX6_init 2 none 1 := ⟨tw2_153, tw1_14, by decide, by decide, by decide⟩
theorem ib_X2_init : ob_Ib yX2_init cX2_init 2 none 1 := ⟨tw2_169, tw1_15, by decide, by decide, by decide⟩
theorem ib_X8_init : ob_Ib yX8_init cX8_init 2 none 1 := ⟨tw2_189, tw1_16, by decide, by decide, by decide⟩
-- X1_init
def W_X1_init (ca : Nat → ClassId) (h0 : Nat) (qs : Nat → Nat) : va_W := [(h0, .inr (1, [.int 0, .int 0, .int 0, .int 0, .int 0, .int 0, .int 0, .int 0, .int 0, .int 0]))]
theorem k_X1_init {cf : ob_Cf} : kv_Mt cf yX1_init cX1_init 1 1 24 0 0 1 [] (W_X1_init cf.2.2.2) := by
  refine kv_enter (by decide) rfl (fun h0 => Nat.le_of_ble_eq_true rfl) ?_
  intro h0 C hC F hI hrm hRt
  subst hC
  show kv_Ev C 0 [(0, .ref h0)] [] _ 0 0
  refine kv_aload_n F 0 dX1_init_0 rfl ?_
  refine kv_obj F dX1_init_1 tw1_43 tw1_29 tw1_30 (by decide) (Nat.le_of_ble_eq_true rfl) ?_
  exact kv_ret F dX1_init_4 (hRt (fun i => [].getD i 0))
-- X4_init
def W_X4_init (ca : Nat → ClassId) (h0 : Nat) (qs : Nat → Nat) : va_W := [(h0, .inr (4, [.ref (qs 0), .ref (qs 1)])), ((qs 0), .inl (ca 15, 91, .inr (.inl (fun _ => 0)))), ((qs 1), .inl (ca 14, 91, .inl (fun _ => 0)))]
theorem k_X4_init {cf : ob_Cf} : kv_Mt cf yX4_init cX4_init 1 1 24 2 182 4 [] (W_X4_init cf.2.2.2) := by
  refine kv_enter (by decide) rfl (fun h0 => Nat.le_of_ble_eq_true rfl) ?_
  intro h0 C hC F hI hrm hRt
  subst hC
  show kv_Ev C 0 [(0, .ref h0)] [] _ 0 0
  refine kv_aload_n F 0 dX4_init_0 rfl ?_
  refine kv_obj F dX4_init_1 tw2_79 tw1_29 tw1_30 (by decide) (Nat.le_of_ble_eq_true rfl) ?_
  refine kv_aload_n F 0 dX4_init_4 rfl ?_
  refine kv_bipush F (v := 91) dX4_init_5 (by decide) ?_
  refine kv_newaJ F 91 dX4_init_7 ac_long (by decide) (by decide) (by decide) (hrm _ _ (by decide) (by decide)) (fun q1 => ?_)
  show kv_Ev C _ _ _ [(h0, .inr (4, [.null, .null])), (q1, .inl (kv_ca C 15, 91, .inr (.inl (fun _ => 0))))] _ _
  refine kv_putF F (v := .ref q1) hI 0 dX4_init_9 kp_X4_9 rfl rfl rfl (Nat.le_of_ble_eq_true rfl) ?_
  show kv_Ev C _ _ _ [(h0, .inr (4, [.ref q1, .null])), (q1, .inl (kv_ca C 15, 91, .inr (.inl (fun _ => 0))))] _ _
  refine kv_aload_n F 0 dX4_init_12 rfl ?_
  refine kv_bipush F (v := 91) dX4_init_13 (by decide) ?_
  refine kv_newaI F 91 dX4_init_15 ac_int (by decide) (by decide) (by decide) (hrm _ _ (by decide) (by decide)) (fun q2 => ?_)
  show kv_Ev C _ _ _ [(h0, .inr (4, [.ref q1, .null])), (q1, .inl (kv_ca C 15, 91, .inr (.inl (fun _ => 0)))), (q2, .inl (kv_ca C 14, 91, .inl (fun _ => 0)))] _ _
  refine kv_putF F (v := .ref q2) hI 0 dX4_init_17 kp_X4_15 rfl rfl rfl (Nat.le_of_ble_eq_true rfl) ?_
  show kv_Ev C _ _ _ [(h0, .inr (4, [.ref q1, .ref q2])), (q1, .inl (kv_ca C 15, 91, .inr (.inl (fun _ => 0)))), (q2, .inl (kv_ca C 14, 91, .inl (fun _ => 0)))] _ _
  exact kv_ret F dX4_init_20 (hRt (fun i => [q1, q2].getD i 0))
-- X9_init
def W_X9_init (ca : Nat → ClassId) (h0 : Nat) (qs : Nat → Nat) : va_W := [(h0, .inr (9, [.ref (qs 0), .ref (qs 1), .ref (qs 4)])), ((qs 0), .inl (ca 15, 91, .inr (.inl (fun _ => 0)))), ((qs 1), .inr (4, [.ref (qs 2), .ref (qs 3)])), ((qs 2), .inl (ca 15, 91, .inr (.inl (fun _ => 0)))), ((qs 3), .inl (ca 14, 91, .inl (fun _ => 0))), ((qs 4), .inr (4, [.ref (qs 5), .ref (qs 6)])), ((qs 5), .inl (ca 15, 91, .inr (.inl (fun _ => 0)))), ((qs 6), .inl (ca 14, 91, .inl (fun _ => 0)))]
theorem k_X9_init {cf : ob_Cf} : kv_Mt cf yX9_init cX9_init 1 2 44 7 459 9 [] (W_X9_init cf.2.2.2) := by
  refine kv_enter (by decide) rfl (fun h0 => Nat.le_of_ble_eq_true rfl) ?_
  intro h0 C hC F hI hrm hRt
  subst hC
  show kv_Ev C 0 [(0, .ref h0)] [] _ 0 0
  refine kv_aload_n F 0 dX9_init_0 rfl ?_
  refine kv_obj F dX9_init_1 tw2_73 tw1_29 tw1_30 (by decide) (Nat.le_of_ble_eq_true rfl) ?_
  refine kv_aload_n F 0 dX9_init_4 rfl ?_
  refine kv_bipush F (v := 91) dX9_init_5 (by decide) ?_
  refine kv_newaJ F 91 dX9_init_7 ac_long (by decide) (by decide) (by decide) (hrm _ _ (by decide) (by decide)) (fun q1 => ?_)
  show kv_Ev C _ _ _ [(h0, .inr (9, [.null, .null, .null])), (q1, .inl (kv_ca C 15, 91, .inr (.inl (fun _ => 0))))] _ _
  refine kv_putF F (v := .ref q1) hI 0 dX9_init_9 kp_X9_9 rfl rfl rfl (Nat.le_of_ble_eq_true rfl) ?_
  show kv_Ev C _ _ _ [(h0, .inr (9, [.ref q1, .null, .null])), (q1, .inl (kv_ca C 15, 91, .inr (.inl (fun _ => 0))))] _ _
  refine kv_aload_n F 0 dX9_init_12 rfl ?_
  refine kv_new F dX9_init_13 cn_X9_15 (hrm _ _ (by decide) (by decide)) (fun q2 => ?_)
  show kv_Ev C _ _ _ [(h0, .inr (9, [.ref q1, .null, .null])), (q1, .inl (kv_ca C 15, 91, .inr (.inl (fun _ => 0)))), (q2, .inr (4, kv_df 4))] _ _
  refine kv_dup F dX9_init_16 rfl ?_
  refine kv_init F (ws0 := [(h0, .inr (9, [.ref q1, .null, .null])), (q1, .inl (kv_ca C 15, 91, .inr (.inl (fun _ => 0))))]) (K := 4) dX9_init_17 ib_X4_init tw2_77 rfl (Or.inr (by decide +kernel)) (k_X4_init) rfl rfl (Nat.le_of_ble_eq_true rfl) (by decide) (hrm _ _ (by decide) (by decide)) rfl (fun qs3 => ?_)
  show kv_Ev C _ _ _ [(h0, .inr (9, [.ref q1, .null, .null])), (q1, .inl (kv_ca C 15, 91, .inr (.inl (fun _ => 0)))), (q2, .inr (4, [.ref (qs3 0), .ref (qs3 1)])), ((qs3 0), .inl (kv_ca C 15, 91, .inr (.inl (fun _ => 0)))), ((qs3 1), .inl (kv_ca C 14, 91, .inl (fun _ => 0)))] _ _
  refine kv_putF F (v := .ref q2) hI 0 dX9_init_20 kp_X9_18 rfl rfl rfl (Nat.le_of_ble_eq_true rfl) ?_
  show kv_Ev C _ _ _ [(h0, .inr (9, [.ref q1, .ref q2, .null])), (q1, .inl (kv_ca C 15, 91, .inr (.inl (fun _ => 0)))), (q2, .inr (4, [.ref (qs3 0), .ref (qs3 1)])), ((qs3 0), .inl (kv_ca C 15, 91, .inr (.inl (fun _ => 0)))), ((qs3 1), .inl (kv_ca C 14, 91, .inl (fun _ => 0)))] _ _
  refine kv_aload_n F 0 dX9_init_23 rfl ?_
  refine kv_new F dX9_init_24 cn_X9_15 (hrm _ _ (by decide) (by decide)) (fun q4 => ?_)
  show kv_Ev C _ _ _ [(h0, .inr (9, [.ref q1, .ref q2, .null])), (q1, .inl (kv_ca C 15, 91, .inr (.inl (fun _ => 0)))), (q2, .inr (4, [.ref (qs3 0), .ref (qs3 1)])), ((qs3 0), .inl (kv_ca C 15, 91, .inr (.inl (fun _ => 0)))), ((qs3 1), .inl (kv_ca C 14, 91, .inl (fun _ => 0))), (q4, .inr (4, kv_df 4))] _ _
  refine kv_dup F dX9_init_27 rfl ?_
  refine kv_init F (ws0 := [(h0, .inr (9, [.ref q1, .ref q2, .null])), (q1, .inl (kv_ca C 15, 91, .inr (.inl (fun _ => 0)))), (q2, .inr (4, [.ref (qs3 0), .ref (qs3 1)])), ((qs3 0), .inl (kv_ca C 15, 91, .inr (.inl (fun _ => 0)))), ((qs3 1), .inl (kv_ca C 14, 91, .inl (fun _ => 0)))]) (K := 4) dX9_init_28 ib_X4_init tw2_77 rfl (Or.inr (by decide +kernel)) (k_X4_init) rfl rfl (Nat.le_of_ble_eq_true rfl) (by decide) (hrm _ _ (by decide) (by decide)) rfl (fun qs5 => ?_)
  show kv_Ev C _ _ _ [(h0, .inr (9, [.ref q1, .ref q2, .null])), (q1, .inl (kv_ca C 15, 91, .inr (.inl (fun _ => 0)))), (q2, .inr (4, [.ref (qs3 0), .ref (qs3 1)])), ((qs3 0), .inl (kv_ca C 15, 91, .inr (.inl (fun _ => 0)))), ((qs3 1), .inl (kv_ca C 14, 91, .inl (fun _ => 0))), (q4, .inr (4, [.ref (qs5 0), .ref (qs5 1)])), ((qs5 0), .inl (kv_ca C 15, 91, .inr (.inl (fun _ => 0)))), ((qs5 1), .inl (kv_ca C 14, 91, .inl (fun _ => 0)))] _ _
  refine kv_putF F (v := .ref q4) hI 0 dX9_init_31 kp_X9_22 rfl rfl rfl (Nat.le_of_ble_eq_true rfl) ?_
  show kv_Ev C _ _ _ [(h0, .inr (9, [.ref q1, .ref q2, .ref q4])), (q1, .inl (kv_ca C 15, 91, .inr (.inl (fun _ => 0)))), (q2, .inr (4, [.ref (qs3 0), .ref (qs3 1)])), ((qs3 0), .inl (kv_ca C 15, 91, .inr (.inl (fun _ => 0)))), ((qs3 1), .inl (kv_ca C 14, 91, .inl (fun _ => 0))), (q4, .inr (4, [.ref (qs5 0), .ref (qs5 1)])), ((qs5 0), .inl (kv_ca C 15, 91, .inr (.inl (fun _ => 0)))), ((qs5 1), .inl (kv_ca C 14, 91, .inl (fun _ => 0)))] _ _
  exact kv_ret F dX9_init_34 (hRt (fun i => [q1, q2, (qs3 0), (qs3 1), q4, (qs5 0), (qs5 1)].getD i 0))
-- X5_init
def W_X5_init (ca : Nat → ClassId) (h0 : Nat) (qs : Nat → Nat) : va_W := [(h0, .inr (5, [.ref (qs 0), .ref (qs 1), .ref (qs 2), .int 100, .int 2, .int 0, .int 0])), ((qs 0), .inl (ca 14, 13, .inl (fun _ => 0))), ((qs 1), .inl (ca 14, 13, .inl (fun _ => 0))), ((qs 2), .inl (ca 17, 4, .inr (.inr (.inr (.inr (va_up (va_up (va_up (va_up (fun _ => none) 0 (some (qs 3))) 1 (some (qs 4))) 2 (some (qs 5))) 3 (some (qs 6)))))))), ((qs 3), .inr (1, [.int 0, .int 0, .int 0, .int 0, .int 0, .int 0, .int 0, .int 0, .int 0, .int 0])), ((qs 4), .inr (1, [.int 0, .int 0, .int 0, .int 0, .int 0, .int 0, .int 0, .int 0, .int 0, .int 0])), ((qs 5), .inr (1, [.int 0, .int 0, .int 0, .int 0, .int 0, .int 0, .int 0, .int 0, .int 0, .int 0])), ((qs 6), .inr (1, [.int 0, .int 0, .int 0, .int 0, .int 0, .int 0, .int 0, .int 0, .int 0, .int 0]))]
theorem k_X5_init {cf : ob_Cf} : kv_Mt cf yX5_init cX5_init 2 2 44 7 70 5 [] (W_X5_init cf.2.2.2) := by
  refine kv_enter (by decide) rfl (fun h0 => Nat.le_of_ble_eq_true rfl) ?_
  intro h0 C hC F hI hrm hRt
  subst hC
  show kv_Ev C 0 [(0, .ref h0)] [] _ 0 0
  refine kv_aload_n F 0 dX5_init_0 rfl ?_
  refine kv_obj F dX5_init_1 tw1_36 tw1_29 tw1_30 (by decide) (Nat.le_of_ble_eq_true rfl) ?_
  refine kv_aload_n F 0 dX5_init_4 rfl ?_
  refine kv_bipush F (v := 13) dX5_init_5 (by decide) ?_
  refine kv_newaI F 13 dX5_init_7 ac_int (by decide) (by decide) (by decide) (hrm _ _ (by decide) (by decide)) (fun q1 => ?_)
  show kv_Ev C _ _ _ [(h0, .inr (5, [.null, .null, .null, .int 0, .int 0, .int 0, .int 0])), (q1, .inl (kv_ca C 14, 13, .inl (fun _ => 0)))] _ _
  refine kv_putF F (v := .ref q1) hI 0 dX5_init_9 kp_X5_9 rfl rfl rfl (Nat.le_of_ble_eq_true rfl) ?_
  show kv_Ev C _ _ _ [(h0, .inr (5, [.ref q1, .null, .null, .int 0, .int 0, .int 0, .int 0])), (q1, .inl (kv_ca C 14, 13, .inl (fun _ => 0)))] _ _
  refine kv_aload_n F 0 dX5_init_12 rfl ?_
  refine kv_bipush F (v := 13) dX5_init_13 (by decide) ?_
  refine kv_newaI F 13 dX5_init_15 ac_int (by decide) (by decide) (by decide) (hrm _ _ (by decide) (by decide)) (fun q2 => ?_)
  show kv_Ev C _ _ _ [(h0, .inr (5, [.ref q1, .null, .null, .int 0, .int 0, .int 0, .int 0])), (q1, .inl (kv_ca C 14, 13, .inl (fun _ => 0))), (q2, .inl (kv_ca C 14, 13, .inl (fun _ => 0)))] _ _
  refine kv_putF F (v := .ref q2) hI 0 dX5_init_17 kp_X5_15 rfl rfl rfl (Nat.le_of_ble_eq_true rfl) ?_
  show kv_Ev C _ _ _ [(h0, .inr (5, [.ref q1, .ref q2, .null, .int 0, .int 0, .int 0, .int 0])), (q1, .inl (kv_ca C 14, 13, .inl (fun _ => 0))), (q2, .inl (kv_ca C 14, 13, .inl (fun _ => 0)))] _ _
  refine kv_aload_n F 0 dX5_init_20 rfl ?_
  refine kv_iconst F (v := 4) dX5_init_21 (by decide) ?_
  refine kv_newq F 4 17 dX5_init_22 (Or.inl ⟨rfl, rfl⟩) tw1_37 (by decide) (by decide) (by decide) (hrm _ _ (by decide) (by decide)) (fun q3 => ?_)
  show kv_Ev C _ _ _ [(h0, .inr (5, [.ref q1, .ref q2, .null, .int 0, .int 0, .int 0, .int 0])), (q1, .inl (kv_ca C 14, 13, .inl (fun _ => 0))), (q2, .inl (kv_ca C 14, 13, .inl (fun _ => 0))), (q3, .inl (kv_ca C 17, 4, .inr (.inr (.inr (.inr (fun _ => none))))))] _ _
  refine kv_putF F (v := .ref q3) hI 0 dX5_init_25 kp_X5_20 rfl rfl rfl (Nat.le_of_ble_eq_true rfl) ?_
  show kv_Ev C _ _ _ [(h0, .inr (5, [.ref q1, .ref q2, .ref q3, .int 0, .int 0, .int 0, .int 0])), (q1, .inl (kv_ca C 14, 13, .inl (fun _ => 0))), (q2, .inl (kv_ca C 14, 13, .inl (fun _ => 0))), (q3, .inl (kv_ca C 17, 4, .inr (.inr (.inr (.inr (fun _ => none))))))] _ _
  refine kv_aload_n F 0 dX5_init_28 rfl ?_
  refine kv_bipush F (v := 100) dX5_init_29 (by decide) ?_
  refine kv_put F (v := .int 100) hI 0 dX5_init_31 kp_X5_24 rfl rfl rfl (Nat.le_of_ble_eq_true rfl) ?_
  show kv_Ev C _ _ _ [(h0, .inr (5, [.ref q1, .ref q2, .ref q3, .int 100, .int 0, .int 0, .int 0])), (q1, .inl (kv_ca C 14, 13, .inl (fun _ => 0))), (q2, .inl (kv_ca C 14, 13, .inl (fun _ => 0))), (q3, .inl (kv_ca C 17, 4, .inr (.inr (.inr (.inr (fun _ => none))))))] _ _
  refine kv_aload_n F 0 dX5_init_34 rfl ?_
  refine kv_iconst F (v := 2) dX5_init_35 (by decide) ?_
  refine kv_put F (v := .int 2) hI 0 dX5_init_36 kp_X5_28 rfl rfl rfl (Nat.le_of_ble_eq_true rfl) ?_
  show kv_Ev C _ _ _ [(h0, .inr (5, [.ref q1, .ref q2, .ref q3, .int 100, .int 2, .int 0, .int 0])), (q1, .inl (kv_ca C 14, 13, .inl (fun _ => 0))), (q2, .inl (kv_ca C 14, 13, .inl (fun _ => 0))), (q3, .inl (kv_ca C 17, 4, .inr (.inr (.inr (.inr (fun _ => none))))))] _ _
  refine kv_aload_n F 0 dX5_init_39 rfl ?_
  refine kv_iconst F (v := 0) dX5_init_40 (by decide) ?_
  refine kv_put F (v := .int 0) hI 0 dX5_init_41 kp_X5_31 rfl rfl rfl (Nat.le_of_ble_eq_true rfl) ?_
  show kv_Ev C _ _ _ [(h0, .inr (5, [.ref q1, .ref q2, .ref q3, .int 100, .int 2, .int 0, .int 0])), (q1, .inl (kv_ca C 14, 13, .inl (fun _ => 0))), (q2, .inl (kv_ca C 14, 13, .inl (fun _ => 0))), (q3, .inl (kv_ca C 17, 4, .inr (.inr (.inr (.inr (fun _ => none))))))] _ _
  refine kv_aload_n F 0 dX5_init_44 rfl ?_
  refine kv_iconst F (v := 0) dX5_init_45 (by decide) ?_
  refine kv_put F (v := .int 0) hI 0 dX5_init_46 kp_X5_34 rfl rfl rfl (Nat.le_of_ble_eq_true rfl) ?_
  show kv_Ev C _ _ _ [(h0, .inr (5, [.ref q1, .ref q2, .ref q3, .int 100, .int 2, .int 0, .int 0])), (q1, .inl (kv_ca C 14, 13, .inl (fun _ => 0))), (q2, .inl (kv_ca C 14, 13, .inl (fun _ => 0))), (q3, .inl (kv_ca C 17, 4, .inr (.inr (.inr (.inr (fun _ => none))))))] _ _
  refine kv_iconst F (v := 0) dX5_init_49 (by decide) ?_
  refine kv_istore_n F (ls2 := [(1, .int 0), (0, .ref h0)]) dX5_init_50 (by decide) rfl ?_
  refine kv_iload_n F 0 dX5_init_51 rfl ?_
  refine kv_iconst F (v := 4) dX5_init_52 (by decide) ?_
  refine kv_icmp_ge F 75 dX5_init_53 (by decide) (fun h => absurd h (by decide)) (fun _ => ?_)
  refine kv_aload_n F 1 dX5_init_56 rfl ?_
  refine kv_get F (K := 5) (j := 2) (v := .ref q3) 0 dX5_init_57 rfl (by decide) inX5 tw1_121 rfl rfl ?_
  refine kv_iload_n F 0 dX5_init_60 rfl ?_
  refine kv_new F dX5_init_61 cn_X5_18 (hrm _ _ (by decide) (by decide)) (fun q4 => ?_)
  show kv_Ev C _ _ _ [(h0, .inr (5, [.ref q1, .ref q2, .ref q3, .int 100, .int 2, .int 0, .int 0])), (q1, .inl (kv_ca C 14, 13, .inl (fun _ => 0))), (q2, .inl (kv_ca C 14, 13, .inl (fun _ => 0))), (q3, .inl (kv_ca C 17, 4, .inr (.inr (.inr (.inr (fun _ => none)))))), (q4, .inr (1, kv_df 1))] _ _
  refine kv_dup F dX5_init_64 rfl ?_
  refine kv_init F (ws0 := [(h0, .inr (5, [.ref q1, .ref q2, .ref q3, .int 100, .int 2, .int 0, .int 0])), (q1, .inl (kv_ca C 14, 13, .inl (fun _ => 0))), (q2, .inl (kv_ca C 14, 13, .inl (fun _ => 0))), (q3, .inl (kv_ca C 17, 4, .inr (.inr (.inr (.inr (fun _ => none))))))]) (K := 1) dX5_init_65 ib_X1_init tw1_41 rfl (Or.inr (by decide +kernel)) (k_X1_init) rfl rfl (Nat.le_of_ble_eq_true rfl) (by decide) (hrm _ _ (by decide) (by decide)) rfl (fun qs5 => ?_)
  show kv_Ev C _ _ _ [(h0, .inr (5, [.ref q1, .ref q2, .ref q3, .int 100, .int 2, .int 0, .int 0])), (q1, .inl (kv_ca C 14, 13, .inl (fun _ => 0))), (q2, .inl (kv_ca C 14, 13, .inl (fun _ => 0))), (q3, .inl (kv_ca C 17, 4, .inr (.inr (.inr (.inr (fun _ => none)))))), (q4, .inr (1, [.int 0, .int 0, .int 0, .int 0, .int 0, .int 0, .int 0, .int 0, .int 0, .int 0]))] _ _
  refine kv_ast F (K := 17) (Kc := 1) (i2 := 0) 3 4 dX5_init_68 (Or.inl ⟨rfl, rfl⟩) rfl rfl rfl (ob_in_iff.mp rfl) (by decide) ?_
  show kv_Ev C _ _ _ [(h0, .inr (5, [.ref q1, .ref q2, .ref q3, .int 100, .int 2, .int 0, .int 0])), (q1, .inl (kv_ca C 14, 13, .inl (fun _ => 0))), (q2, .inl (kv_ca C 14, 13, .inl (fun _ => 0))), (q3, .inl (kv_ca C 17, 4, .inr (.inr (.inr (.inr (va_up (fun _ => none) 0 (some q4))))))), (q4, .inr (1, [.int 0, .int 0, .int 0, .int 0, .int 0, .int 0, .int 0, .int 0, .int 0, .int 0]))] _ _
  refine kv_iinc F (v := 1) (ls2 := [(1, .int 1), (0, .ref h0)]) 0 dX5_init_69 rfl (by decide) (by decide) rfl ?_
  refine kv_goto F 51 dX5_init_72 (by decide) ?_
  refine kv_iload_n F 0 dX5_init_51 rfl ?_
  refine kv_iconst F (v := 4) dX5_init_52 (by decide) ?_
  refine kv_icmp_ge F 75 dX5_init_53 (by decide) (fun h => absurd h (by decide)) (fun _ => ?_)
  refine kv_aload_n F 1 dX5_init_56 rfl ?_
  refine kv_get F (K := 5) (j := 2) (v := .ref q3) 0 dX5_init_57 rfl (by decide) inX5 tw1_121 rfl rfl ?_
  refine kv_iload_n F 0 dX5_init_60 rfl ?_
  refine kv_new F dX5_init_61 cn_X5_18 (hrm _ _ (by decide) (by decide)) (fun q6 => ?_)
  show kv_Ev C _ _ _ [(h0, .inr (5, [.ref q1, .ref q2, .ref q3, .int 100, .int 2, .int 0, .int 0])), (q1, .inl (kv_ca C 14, 13, .inl (fun _ => 0))), (q2, .inl (kv_ca C 14, 13, .inl (fun _ => 0))), (q3, .inl (kv_ca C 17, 4, .inr (.inr (.inr (.inr (va_up (fun _ => none) 0 (some q4))))))), (q4, .inr (1, [.int 0, .int 0, .int 0, .int 0, .int 0, .int 0, .int 0, .int 0, .int 0, .int 0])), (q6, .inr (1, kv_df 1))] _ _
  refine kv_dup F dX5_init_64 rfl ?_
  refine kv_init F (ws0 := [(h0, .inr (5, [.ref q1, .ref q2, .ref q3, .int 100, .int 2, .int 0, .int 0])), (q1, .inl (kv_ca C 14, 13, .inl (fun _ => 0))), (q2, .inl (kv_ca C 14, 13, .inl (fun _ => 0))), (q3, .inl (kv_ca C 17, 4, .inr (.inr (.inr (.inr (va_up (fun _ => none) 0 (some q4))))))), (q4, .inr (1, [.int 0, .int 0, .int 0, .int 0, .int 0, .int 0, .int 0, .int 0, .int 0, .int 0]))]) (K := 1) dX5_init_65 ib_X1_init tw1_41 rfl (Or.inr (by decide +kernel)) (k_X1_init) rfl rfl (Nat.le_of_ble_eq_true rfl) (by decide) (hrm _ _ (by decide) (by decide)) rfl (fun qs7 => ?_)
  show kv_Ev C _ _ _ [(h0, .inr (5, [.ref q1, .ref q2, .ref q3, .int 100, .int 2, .int 0, .int 0])), (q1, .inl (kv_ca C 14, 13, .inl (fun _ => 0))), (q2, .inl (kv_ca C 14, 13, .inl (fun _ => 0))), (q3, .inl (kv_ca C 17, 4, .inr (.inr (.inr (.inr (va_up (fun _ => none) 0 (some q4))))))), (q4, .inr (1, [.int 0, .int 0, .int 0, .int 0, .int 0, .int 0, .int 0, .int 0, .int 0, .int 0])), (q6, .inr (1, [.int 0, .int 0, .int 0, .int 0, .int 0, .int 0, .int 0, .int 0, .int 0, .int 0]))] _ _
  refine kv_ast F (K := 17) (Kc := 1) (i2 := 1) 3 5 dX5_init_68 (Or.inl ⟨rfl, rfl⟩) rfl rfl rfl (ob_in_iff.mp rfl) (by decide) ?_
  show kv_Ev C _ _ _ [(h0, .inr (5, [.ref q1, .ref q2, .ref q3, .int 100, .int 2, .int 0, .int 0])), (q1, .inl (kv_ca C 14, 13, .inl (fun _ => 0))), (q2, .inl (kv_ca C 14, 13, .inl (fun _ => 0))), (q3, .inl (kv_ca C 17, 4, .inr (.inr (.inr (.inr (va_up (va_up (fun _ => none) 0 (some q4)) 1 (some q6))))))), (q4, .inr (1, [.int 0, .int 0, .int 0, .int 0, .int 0, .int 0, .int 0, .int 0, .int 0, .int 0])), (q6, .inr (1, [.int 0, .int 0, .int 0, .int 0, .int 0, .int 0, .int 0, .int 0, .int 0, .int 0]))] _ _
  refine kv_iinc F (v := 2) (ls2 := [(1, .int 2), (0, .ref h0)]) 0 dX5_init_69 rfl (by decide) (by decide) rfl ?_
  refine kv_goto F 51 dX5_init_72 (by decide) ?_
  refine kv_iload_n F 0 dX5_init_51 rfl ?_
  refine kv_iconst F (v := 4) dX5_init_52 (by decide) ?_
  refine kv_icmp_ge F 75 dX5_init_53 (by decide) (fun h => absurd h (by decide)) (fun _ => ?_)
  refine kv_aload_n F 1 dX5_init_56 rfl ?_
  refine kv_get F (K := 5) (j := 2) (v := .ref q3) 0 dX5_init_57 rfl (by decide) inX5 tw1_121 rfl rfl ?_
  refine kv_iload_n F 0 dX5_init_60 rfl ?_
  refine kv_new F dX5_init_61 cn_X5_18 (hrm _ _ (by decide) (by decide)) (fun q8 => ?_)
  show kv_Ev C _ _ _ [(h0, .inr (5, [.ref q1, .ref q2, .ref q3, .int 100, .int 2, .int 0, .int 0])), (q1, .inl (kv_ca C 14, 13, .inl (fun _ => 0))), (q2, .inl (kv_ca C 14, 13, .inl (fun _ => 0))), (q3, .inl (kv_ca C 17, 4, .inr (.inr (.inr (.inr (va_up (va_up (fun _ => none) 0 (some q4)) 1 (some q6))))))), (q4, .inr (1, [.int 0, .int 0, .int 0, .int 0, .int 0, .int 0, .int 0, .int 0, .int 0, .int 0])), (q6, .inr (1, [.int 0, .int 0, .int 0, .int 0, .int 0, .int 0, .int 0, .int 0, .int 0, .int 0])), (q8, .inr (1, kv_df 1))] _ _
  refine kv_dup F dX5_init_64 rfl ?_
  refine kv_init F (ws0 := [(h0, .inr (5, [.ref q1, .ref q2, .ref q3, .int 100, .int 2, .int 0, .int 0])), (q1, .inl (kv_ca C 14, 13, .inl (fun _ => 0))), (q2, .inl (kv_ca C 14, 13, .inl (fun _ => 0))), (q3, .inl (kv_ca C 17, 4, .inr (.inr (.inr (.inr (va_up (va_up (fun _ => none) 0 (some q4)) 1 (some q6))))))), (q4, .inr (1, [.int 0, .int 0, .int 0, .int 0, .int 0, .int 0, .int 0, .int 0, .int 0, .int 0])), (q6, .inr (1, [.int 0, .int 0, .int 0, .int 0, .int 0, .int 0, .int 0, .int 0, .int 0, .int 0]))]) (K := 1) dX5_init_65 ib_X1_init tw1_41 rfl (Or.inr (by decide +kernel)) (k_X1_init) rfl rfl (Nat.le_of_ble_eq_true rfl) (by decide) (hrm _ _ (by decide) (by decide)) rfl (fun qs9 => ?_)
  show kv_Ev C _ _ _ [(h0, .inr (5, [.ref q1, .ref q2, .ref q3, .int 100, .int 2, .int 0, .int 0])), (q1, .inl (kv_ca C 14, 13, .inl (fun _ => 0))), (q2, .inl (kv_ca C 14, 13, .inl (fun _ => 0))), (q3, .inl (kv_ca C 17, 4, .inr (.inr (.inr (.inr (va_up (va_up (fun _ => none) 0 (some q4)) 1 (some q6))))))), (q4, .inr (1, [.int 0, .int 0, .int 0, .int 0, .int 0, .int 0, .int 0, .int 0, .int 0, .int 0])), (q6, .inr (1, [.int 0, .int 0, .int 0, .int 0, .int 0, .int 0, .int 0, .int 0, .int 0, .int 0])), (q8, .inr (1, [.int 0, .int 0, .int 0, .int 0, .int 0, .int 0, .int 0, .int 0, .int 0, .int 0]))] _ _
  refine kv_ast F (K := 17) (Kc := 1) (i2 := 2) 3 6 dX5_init_68 (Or.inl ⟨rfl, rfl⟩) rfl rfl rfl (ob_in_iff.mp rfl) (by decide) ?_
  show kv_Ev C _ _ _ [(h0, .inr (5, [.ref q1, .ref q2, .ref q3, .int 100, .int 2, .int 0, .int 0])), (q1, .inl (kv_ca C 14, 13, .inl (fun _ => 0))), (q2, .inl (kv_ca C 14, 13, .inl (fun _ => 0))), (q3, .inl (kv_ca C 17, 4, .inr (.inr (.inr (.inr (va_up (va_up (va_up (fun _ => none) 0 (some q4)) 1 (some q6)) 2 (some q8))))))), (q4, .inr (1, [.int 0, .int 0, .int 0, .int 0, .int 0, .int 0, .int 0, .int 0, .int 0, .int 0])), (q6, .inr (1, [.int 0, .int 0, .int 0, .int 0, .int 0, .int 0, .int 0, .int 0, .int 0, .int 0])), (q8, .inr (1, [.int 0, .int 0, .int 0, .int 0, .int 0, .int 0, .int 0, .int 0, .int 0, .int 0]))] _ _
  refine kv_iinc F (v := 3) (ls2 := [(1, .int 3), (0, .ref h0)]) 0 dX5_init_69 rfl (by decide) (by decide) rfl ?_
  refine kv_goto F 51 dX5_init_72 (by decide) ?_
  refine kv_iload_n F 0 dX5_init_51 rfl ?_
  refine kv_iconst F (v := 4) dX5_init_52 (by decide) ?_
  refine kv_icmp_ge F 75 dX5_init_53 (by decide) (fun h => absurd h (by decide)) (fun _ => ?_)
  refine kv_aload_n F 1 dX5_init_56 rfl ?_
  refine kv_get F (K := 5) (j := 2) (v := .ref q3) 0 dX5_init_57 rfl (by decide) inX5 tw1_121 rfl rfl ?_
  refine kv_iload_n F 0 dX5_init_60 rfl ?_
  refine kv_new F dX5_init_61 cn_X5_18 (hrm _ _ (by decide) (by decide)) (fun q10 => ?_)
  show kv_Ev C _ _ _ [(h0, .inr (5, [.ref q1, .ref q2, .ref q3, .int 100, .int 2, .int 0, .int 0])), (q1, .inl (kv_ca C 14, 13, .inl (fun _ => 0))), (q2, .inl (kv_ca C 14, 13, .inl (fun _ => 0))), (q3, .inl (kv_ca C 17, 4, .inr (.inr (.inr (.inr (va_up (va_up (va_up (fun _ => none) 0 (some q4)) 1 (some q6)) 2 (some q8))))))), (q4, .inr (1, [.int 0, .int 0, .int 0, .int 0, .int 0, .int 0, .int 0, .int 0, .int 0, .int 0])), (q6, .inr (1, [.int 0, .int 0, .int 0, .int 0, .int 0, .int 0, .int 0, .int 0, .int 0, .int 0])), (q8, .inr (1, [.int 0, .int 0, .int 0, .int 0, .int 0, .int 0, .int 0, .int 0, .int 0, .int 0])), (q10, .inr (1, kv_df 1))] _ _
  refine kv_dup F dX5_init_64 rfl ?_
  refine kv_init F (ws0 := [(h0, .inr (5, [.ref q1, .ref q2, .ref q3, .int 100, .int 2, .int 0, .int 0])), (q1, .inl (kv_ca C 14, 13, .inl (fun _ => 0))), (q2, .inl (kv_ca C 14, 13, .inl (fun _ => 0))), (q3, .inl (kv_ca C 17, 4, .inr (.inr (.inr (.inr (va_up (va_up (va_up (fun _ => none) 0 (some q4)) 1 (some q6)) 2 (some q8))))))), (q4, .inr (1, [.int 0, .int 0, .int 0, .int 0, .int 0, .int 0, .int 0, .int 0, .int 0, .int 0])), (q6, .inr (1, [.int 0, .int 0, .int 0, .int 0, .int 0, .int 0, .int 0, .int 0, .int 0, .int 0])), (q8, .inr (1, [.int 0, .int 0, .int 0, .int 0, .int 0, .int 0, .int 0, .int 0, .int 0, .int 0]))]) (K := 1) dX5_init_65 ib_X1_init tw1_41 rfl (Or.inr (by decide +kernel)) (k_X1_init) rfl rfl (Nat.le_of_ble_eq_true rfl) (by decide) (hrm _ _ (by decide) (by decide)) rfl (fun qs11 => ?_)
  show kv_Ev C _ _ _ [(h0, .inr (5, [.ref q1, .ref q2, .ref q3, .int 100, .int 2, .int 0, .int 0])), (q1, .inl (kv_ca C 14, 13, .inl (fun _ => 0))), (q2, .inl (kv_ca C 14, 13, .inl (fun _ => 0))), (q3, .inl (kv_ca C 17, 4, .inr (.inr (.inr (.inr (va_up (va_up (va_up (fun _ => none) 0 (some q4)) 1 (some q6)) 2 (some q8))))))), (q4, .inr (1, [.int 0, .int 0, .int 0, .int 0, .int 0, .int 0, .int 0, .int 0, .int 0, .int 0])), (q6, .inr (1, [.int 0, .int 0, .int 0, .int 0, .int 0, .int 0, .int 0, .int 0, .int 0, .int 0])), (q8, .inr (1, [.int 0, .int 0, .int 0, .int 0, .int 0, .int 0, .int 0, .int 0, .int 0, .int 0])), (q10, .inr (1, [.int 0, .int 0, .int 0, .int 0, .int 0, .int 0, .int 0, .int 0, .int 0, .int 0]))] _ _
  refine kv_ast F (K := 17) (Kc := 1) (i2 := 3) 3 7 dX5_init_68 (Or.inl ⟨rfl, rfl⟩) rfl rfl rfl (ob_in_iff.mp rfl) (by decide) ?_
  show kv_Ev C _ _ _ [(h0, .inr (5, [.ref q1, .ref q2, .ref q3, .int 100, .int 2, .int 0, .int 0])), (q1, .inl (kv_ca C 14, 13, .inl (fun _ => 0))), (q2, .inl (kv_ca C 14, 13, .inl (fun _ => 0))), (q3, .inl (kv_ca C 17, 4, .inr (.inr (.inr (.inr (va_up (va_up (va_up (va_up (fun _ => none) 0 (some q4)) 1 (some q6)) 2 (some q8)) 3 (some q10))))))), (q4, .inr (1, [.int 0, .int 0, .int 0, .int 0, .int 0, .int 0, .int 0, .int 0, .int 0, .int 0])), (q6, .inr (1, [.int 0, .int 0, .int 0, .int 0, .int 0, .int 0, .int 0, .int 0, .int 0, .int 0])), (q8, .inr (1, [.int 0, .int 0, .int 0, .int 0, .int 0, .int 0, .int 0, .int 0, .int 0, .int 0])), (q10, .inr (1, [.int 0, .int 0, .int 0, .int 0, .int 0, .int 0, .int 0, .int 0, .int 0, .int 0]))] _ _
  refine kv_iinc F (v := 4) (ls2 := [(1, .int 4), (0, .ref h0)]) 0 dX5_init_69 rfl (by decide) (by decide) rfl ?_
  refine kv_goto F 51 dX5_init_72 (by decide) ?_
  refine kv_iload_n F 0 dX5_init_51 rfl ?_
  refine kv_iconst F (v := 4) dX5_init_52 (by decide) ?_
  refine kv_icmp_ge F 75 dX5_init_53 (by decide) (fun _ => ?_) (fun h => absurd (by decide) h)
  exact kv_ret F dX5_init_75 (hRt (fun i => [q1, q2, q3, q4, q6, q8, q10].getD i 0))
-- X0_init
def W_X0_init (ca : Nat → ClassId) (h0 : Nat) (qs : Nat → Nat) : va_W := [(h0, .inr (0, [.ref (qs 0), .ref (qs 1), .ref (qs 2), .int 0])), ((qs 0), .inl (ca 14, 8, .inl (fun _ => 0))), ((qs 1), .inl (ca 14, 8, .inl (fun _ => 0))), ((qs 2), .inl (ca 14, 8, .inl (fun _ => 0)))]
theorem k_X0_init {cf : ob_Cf} : kv_Mt cf yX0_init cX0_init 1 1 24 3 24 0 [] (W_X0_init cf.2.2.2) := by
  refine kv_enter (by decide) rfl (fun h0 => Nat.le_of_ble_eq_true rfl) ?_
  intro h0 C hC F hI hrm hRt
  subst hC
  show kv_Ev C 0 [(0, .ref h0)] [] _ 0 0
  refine kv_aload_n F 0 dX0_init_0 rfl ?_
  refine kv_obj F dX0_init_1 tw2_43 tw1_29 tw1_30 (by decide) (Nat.le_of_ble_eq_true rfl) ?_
  refine kv_aload_n F 0 dX0_init_4 rfl ?_
  refine kv_bipush F (v := 8) dX0_init_5 (by decide) ?_
  refine kv_newaI F 8 dX0_init_7 ac_int (by decide) (by decide) (by decide) (hrm _ _ (by decide) (by decide)) (fun q1 => ?_)
  show kv_Ev C _ _ _ [(h0, .inr (0, [.null, .null, .null, .int 0])), (q1, .inl (kv_ca C 14, 8, .inl (fun _ => 0)))] _ _
  refine kv_putF F (v := .ref q1) hI 0 dX0_init_9 kp_X0_9 rfl rfl rfl (Nat.le_of_ble_eq_true rfl) ?_
  show kv_Ev C _ _ _ [(h0, .inr (0, [.ref q1, .null, .null, .int 0])), (q1, .inl (kv_ca C 14, 8, .inl (fun _ => 0)))] _ _
  refine kv_aload_n F 0 dX0_init_12 rfl ?_
  refine kv_bipush F (v := 8) dX0_init_13 (by decide) ?_
  refine kv_newaI F 8 dX0_init_15 ac_int (by decide) (by decide) (by decide) (hrm _ _ (by decide) (by decide)) (fun q2 => ?_)
  show kv_Ev C _ _ _ [(h0, .inr (0, [.ref q1, .null, .null, .int 0])), (q1, .inl (kv_ca C 14, 8, .inl (fun _ => 0))), (q2, .inl (kv_ca C 14, 8, .inl (fun _ => 0)))] _ _
  refine kv_putF F (v := .ref q2) hI 0 dX0_init_17 kp_X0_15 rfl rfl rfl (Nat.le_of_ble_eq_true rfl) ?_
  show kv_Ev C _ _ _ [(h0, .inr (0, [.ref q1, .ref q2, .null, .int 0])), (q1, .inl (kv_ca C 14, 8, .inl (fun _ => 0))), (q2, .inl (kv_ca C 14, 8, .inl (fun _ => 0)))] _ _
  refine kv_aload_n F 0 dX0_init_20 rfl ?_
  refine kv_bipush F (v := 8) dX0_init_21 (by decide) ?_
  refine kv_newaI F 8 dX0_init_23 ac_int (by decide) (by decide) (by decide) (hrm _ _ (by decide) (by decide)) (fun q3 => ?_)
  show kv_Ev C _ _ _ [(h0, .inr (0, [.ref q1, .ref q2, .null, .int 0])), (q1, .inl (kv_ca C 14, 8, .inl (fun _ => 0))), (q2, .inl (kv_ca C 14, 8, .inl (fun _ => 0))), (q3, .inl (kv_ca C 14, 8, .inl (fun _ => 0)))] _ _
  refine kv_putF F (v := .ref q3) hI 0 dX0_init_25 kp_X0_18 rfl rfl rfl (Nat.le_of_ble_eq_true rfl) ?_
  show kv_Ev C _ _ _ [(h0, .inr (0, [.ref q1, .ref q2, .ref q3, .int 0])), (q1, .inl (kv_ca C 14, 8, .inl (fun _ => 0))), (q2, .inl (kv_ca C 14, 8, .inl (fun _ => 0))), (q3, .inl (kv_ca C 14, 8, .inl (fun _ => 0)))] _ _
  refine kv_aload_n F 0 dX0_init_28 rfl ?_
  refine kv_iconst F (v := 0) dX0_init_29 (by decide) ?_
  refine kv_put F (v := .int 0) hI 0 dX0_init_30 kp_X0_21 rfl rfl rfl (Nat.le_of_ble_eq_true rfl) ?_
  show kv_Ev C _ _ _ [(h0, .inr (0, [.ref q1, .ref q2, .ref q3, .int 0])), (q1, .inl (kv_ca C 14, 8, .inl (fun _ => 0))), (q2, .inl (kv_ca C 14, 8, .inl (fun _ => 0))), (q3, .inl (kv_ca C 14, 8, .inl (fun _ => 0)))] _ _
  exact kv_ret F dX0_init_33 (hRt (fun i => [q1, q2, q3].getD i 0))
-- X3_init
def W_X3_init (ca : Nat → ClassId) (a1 : Nat) (h0 : Nat) (qs : Nat → Nat) : va_W := [(h0, .inr (3, [.ref a1, .ref (qs 0), .ref (qs 1), .ref (qs 2), .ref (qs 3), .ref (qs 4), .int 1])), ((qs 0), .inl (ca 14, 91, .inl (fun _ => 0))), ((qs 1), .inl (ca 14, 91, .inl (fun _ => 0))), ((qs 2), .inl (ca 15, 13, .inr (.inl (fun _ => 0)))), ((qs 3), .inl (ca 19, 4, .inr (.inr (.inr (.inr (va_up (va_up (va_up (va_up (fun _ => none) 0 (some (qs 12))) 1 (some (qs 20))) 2 (some (qs 28))) 3 (some (qs 36)))))))), ((qs 4), .inr (9, [.ref (qs 5), .ref (qs 6), .ref (qs 9)])), ((qs 5), .inl (ca 15, 91, .inr (.inl (fun _ => 0)))), ((qs 6), .inr (4, [.ref (qs 7), .ref (qs 8)])), ((qs 7), .inl (ca 15, 91, .inr (.inl (fun _ => 0)))), ((qs 8), .inl (ca 14, 91, .inl (fun _ => 0))), ((qs 9), .inr (4, [.ref (qs 10), .ref (qs 11)])), ((qs 10), .inl (ca 15, 91, .inr (.inl (fun _ => 0)))), ((qs 11), .inl (ca 14, 91, .inl (fun _ => 0))), ((qs 12), .inr (9, [.ref (qs 13), .ref (qs 14), .ref (qs 17)])), ((qs 13), .inl (ca 15, 91, .inr (.inl (fun _ => 0)))), ((qs 14), .inr (4, [.ref (qs 15), .ref (qs 16)])), ((qs 15), .inl (ca 15, 91, .inr (.inl (fun _ => 0)))), ((qs 16), .inl (ca 14, 91, .inl (fun _ => 0))), ((qs 17), .inr (4, [.ref (qs 18), .ref (qs 19)])), ((qs 18), .inl (ca 15, 91, .inr (.inl (fun _ => 0)))), ((qs 19), .inl (ca 14, 91, .inl (fun _ => 0))), ((qs 20), .inr (9, [.ref (qs 21), .ref (qs 22), .ref (qs 25)])), ((qs 21), .inl (ca 15, 91, .inr (.inl (fun _ => 0)))), ((qs 22), .inr (4, [.ref (qs 23), .ref (qs 24)])), ((qs 23), .inl (ca 15, 91, .inr (.inl (fun _ => 0)))), ((qs 24), .inl (ca 14, 91, .inl (fun _ => 0))), ((qs 25), .inr (4, [.ref (qs 26), .ref (qs 27)])), ((qs 26), .inl (ca 15, 91, .inr (.inl (fun _ => 0)))), ((qs 27), .inl (ca 14, 91, .inl (fun _ => 0))), ((qs 28), .inr (9, [.ref (qs 29), .ref (qs 30), .ref (qs 33)])), ((qs 29), .inl (ca 15, 91, .inr (.inl (fun _ => 0)))), ((qs 30), .inr (4, [.ref (qs 31), .ref (qs 32)])), ((qs 31), .inl (ca 15, 91, .inr (.inl (fun _ => 0)))), ((qs 32), .inl (ca 14, 91, .inl (fun _ => 0))), ((qs 33), .inr (4, [.ref (qs 34), .ref (qs 35)])), ((qs 34), .inl (ca 15, 91, .inr (.inl (fun _ => 0)))), ((qs 35), .inl (ca 14, 91, .inl (fun _ => 0))), ((qs 36), .inr (9, [.ref (qs 37), .ref (qs 38), .ref (qs 41)])), ((qs 37), .inl (ca 15, 91, .inr (.inl (fun _ => 0)))), ((qs 38), .inr (4, [.ref (qs 39), .ref (qs 40)])), ((qs 39), .inl (ca 15, 91, .inr (.inl (fun _ => 0)))), ((qs 40), .inl (ca 14, 91, .inl (fun _ => 0))), ((qs 41), .inr (4, [.ref (qs 42), .ref (qs 43)])), ((qs 42), .inl (ca 15, 91, .inr (.inl (fun _ => 0)))), ((qs 43), .inl (ca 14, 91, .inl (fun _ => 0)))]
theorem k_X3_init {cf : ob_Cf} {a1 : Nat} : kv_Mt cf yX3_init cX3_init 3 3 64 44 2509 3 [.ref a1] (W_X3_init cf.2.2.2 a1) := by
  refine kv_enter (by decide) rfl (fun h0 => Nat.le_of_ble_eq_true rfl) ?_
  intro h0 C hC F hI hrm hRt
  subst hC
  show kv_Ev C 0 [(0, .ref h0), (1, .ref a1)] [] _ 0 0
  refine kv_aload_n F 0 dX3_init_0 rfl ?_
  refine kv_obj F dX3_init_1 tw2_66 tw1_29 tw1_30 (by decide) (Nat.le_of_ble_eq_true rfl) ?_
  refine kv_aload_n F 0 dX3_init_4 rfl ?_
  refine kv_bipush F (v := 91) dX3_init_5 (by decide) ?_
  refine kv_newaI F 91 dX3_init_7 ac_int (by decide) (by decide) (by decide) (hrm _ _ (by decide) (by decide)) (fun q1 => ?_)
  show kv_Ev C _ _ _ [(h0, .inr (3, [.null, .null, .null, .null, .null, .null, .int 0])), (q1, .inl (kv_ca C 14, 91, .inl (fun _ => 0)))] _ _
  refine kv_putF F (v := .ref q1) hI 0 dX3_init_9 kp_X3_9 rfl rfl rfl (Nat.le_of_ble_eq_true rfl) ?_
  show kv_Ev C _ _ _ [(h0, .inr (3, [.null, .ref q1, .null, .null, .null, .null, .int 0])), (q1, .inl (kv_ca C 14, 91, .inl (fun _ => 0)))] _ _
  refine kv_aload_n F 0 dX3_init_12 rfl ?_
  refine kv_bipush F (v := 91) dX3_init_13 (by decide) ?_
  refine kv_newaI F 91 dX3_init_15 ac_int (by decide) (by decide) (by decide) (hrm _ _ (by decide) (by decide)) (fun q2 => ?_)
  show kv_Ev C _ _ _ [(h0, .inr (3, [.null, .ref q1, .null, .null, .null, .null, .int 0])), (q1, .inl (kv_ca C 14, 91, .inl (fun _ => 0))), (q2, .inl (kv_ca C 14, 91, .inl (fun _ => 0)))] _ _
  refine kv_putF F (v := .ref q2) hI 0 dX3_init_17 kp_X3_15 rfl rfl rfl (Nat.le_of_ble_eq_true rfl) ?_
  show kv_Ev C _ _ _ [(h0, .inr (3, [.null, .ref q1, .ref q2, .null, .null, .null, .int 0])), (q1, .inl (kv_ca C 14, 91, .inl (fun _ => 0))), (q2, .inl (kv_ca C 14, 91, .inl (fun _ => 0)))] _ _
  refine kv_aload_n F 0 dX3_init_20 rfl ?_
  refine kv_bipush F (v := 13) dX3_init_21 (by decide) ?_
  refine kv_newaJ F 13 dX3_init_23 ac_long (by decide) (by decide) (by decide) (hrm _ _ (by decide) (by decide)) (fun q3 => ?_)
  show kv_Ev C _ _ _ [(h0, .inr (3, [.null, .ref q1, .ref q2, .null, .null, .null, .int 0])), (q1, .inl (kv_ca C 14, 91, .inl (fun _ => 0))), (q2, .inl (kv_ca C 14, 91, .inl (fun _ => 0))), (q3, .inl (kv_ca C 15, 13, .inr (.inl (fun _ => 0))))] _ _
  refine kv_putF F (v := .ref q3) hI 0 dX3_init_25 kp_X3_18 rfl rfl rfl (Nat.le_of_ble_eq_true rfl) ?_
  show kv_Ev C _ _ _ [(h0, .inr (3, [.null, .ref q1, .ref q2, .ref q3, .null, .null, .int 0])), (q1, .inl (kv_ca C 14, 91, .inl (fun _ => 0))), (q2, .inl (kv_ca C 14, 91, .inl (fun _ => 0))), (q3, .inl (kv_ca C 15, 13, .inr (.inl (fun _ => 0))))] _ _
  refine kv_aload_n F 0 dX3_init_28 rfl ?_
  refine kv_iconst F (v := 4) dX3_init_29 (by decide) ?_
  refine kv_newq F 4 19 dX3_init_30 (Or.inr (Or.inr ⟨rfl, rfl⟩)) tw2_67 (by decide) (by decide) (by decide) (hrm _ _ (by decide) (by decide)) (fun q4 => ?_)
  show kv_Ev C _ _ _ [(h0, .inr (3, [.null, .ref q1, .ref q2, .ref q3, .null, .null, .int 0])), (q1, .inl (kv_ca C 14, 91, .inl (fun _ => 0))), (q2, .inl (kv_ca C 14, 91, .inl (fun _ => 0))), (q3, .inl (kv_ca C 15, 13, .inr (.inl (fun _ => 0)))), (q4, .inl (kv_ca C 19, 4, .inr (.inr (.inr (.inr (fun _ => none))))))] _ _
  refine kv_putF F (v := .ref q4) hI 0 dX3_init_33 kp_X3_24 rfl rfl rfl (Nat.le_of_ble_eq_true rfl) ?_
  show kv_Ev C _ _ _ [(h0, .inr (3, [.null, .ref q1, .ref q2, .ref q3, .ref q4, .null, .int 0])), (q1, .inl (kv_ca C 14, 91, .inl (fun _ => 0))), (q2, .inl (kv_ca C 14, 91, .inl (fun _ => 0))), (q3, .inl (kv_ca C 15, 13, .inr (.inl (fun _ => 0)))), (q4, .inl (kv_ca C 19, 4, .inr (.inr (.inr (.inr (fun _ => none))))))] _ _
  refine kv_aload_n F 0 dX3_init_36 rfl ?_
  refine kv_new F dX3_init_37 cn_X3_22 (hrm _ _ (by decide) (by decide)) (fun q5 => ?_)
  show kv_Ev C _ _ _ [(h0, .inr (3, [.null, .ref q1, .ref q2, .ref q3, .ref q4, .null, .int 0])), (q1, .inl (kv_ca C 14, 91, .inl (fun _ => 0))), (q2, .inl (kv_ca C 14, 91, .inl (fun _ => 0))), (q3, .inl (kv_ca C 15, 13, .inr (.inl (fun _ => 0)))), (q4, .inl (kv_ca C 19, 4, .inr (.inr (.inr (.inr (fun _ => none)))))), (q5, .inr (9, kv_df 9))] _ _
  refine kv_dup F dX3_init_40 rfl ?_
  refine kv_init F (ws0 := [(h0, .inr (3, [.null, .ref q1, .ref q2, .ref q3, .ref q4, .null, .int 0])), (q1, .inl (kv_ca C 14, 91, .inl (fun _ => 0))), (q2, .inl (kv_ca C 14, 91, .inl (fun _ => 0))), (q3, .inl (kv_ca C 15, 13, .inr (.inl (fun _ => 0)))), (q4, .inl (kv_ca C 19, 4, .inr (.inr (.inr (.inr (fun _ => none))))))]) (K := 9) dX3_init_41 ib_X9_init tw2_71 rfl (Or.inr (by decide +kernel)) (k_X9_init) rfl rfl (Nat.le_of_ble_eq_true rfl) (by decide) (hrm _ _ (by decide) (by decide)) rfl (fun qs6 => ?_)
  show kv_Ev C _ _ _ [(h0, .inr (3, [.null, .ref q1, .ref q2, .ref q3, .ref q4, .null, .int 0])), (q1, .inl (kv_ca C 14, 91, .inl (fun _ => 0))), (q2, .inl (kv_ca C 14, 91, .inl (fun _ => 0))), (q3, .inl (kv_ca C 15, 13, .inr (.inl (fun _ => 0)))), (q4, .inl (kv_ca C 19, 4, .inr (.inr (.inr (.inr (fun _ => none)))))), (q5, .inr (9, [.ref (qs6 0), .ref (qs6 1), .ref (qs6 4)])), ((qs6 0), .inl (kv_ca C 15, 91, .inr (.inl (fun _ => 0)))), ((qs6 1), .inr (4, [.ref (qs6 2), .ref (qs6 3)])), ((qs6 2), .inl (kv_ca C 15, 91, .inr (.inl (fun _ => 0)))), ((qs6 3), .inl (kv_ca C 14, 91, .inl (fun _ => 0))), ((qs6 4), .inr (4, [.ref (qs6 5), .ref (qs6 6)])), ((qs6 5), .inl (kv_ca C 15, 91, .inr (.inl (fun _ => 0)))), ((qs6 6), .inl (kv_ca C 14, 91, .inl (fun _ => 0)))] _ _
  refine kv_putF F (v := .ref q5) hI 0 dX3_init_44 kp_X3_29 rfl rfl rfl (Nat.le_of_ble_eq_true rfl) ?_
  show kv_Ev C _ _ _ [(h0, .inr (3, [.null, .ref q1, .ref q2, .ref q3, .ref q4, .ref q5, .int 0])), (q1, .inl (kv_ca C 14, 91, .inl (fun _ => 0))), (q2, .inl (kv_ca C 14, 91, .inl (fun _ => 0))), (q3, .inl (kv_ca C 15, 13, .inr (.inl (fun _ => 0)))), (q4, .inl (kv_ca C 19, 4, .inr (.inr (.inr (.inr (fun _ => none)))))), (q5, .inr (9, [.ref (qs6 0), .ref (qs6 1), .ref (qs6 4)])), ((qs6 0), .inl (kv_ca C 15, 91, .inr (.inl (fun _ => 0)))), ((qs6 1), .inr (4, [.ref (qs6 2), .ref (qs6 3)])), ((qs6 2), .inl (kv_ca C 15, 91, .inr (.inl (fun _ => 0)))), ((qs6 3), .inl (kv_ca C 14, 91, .inl (fun _ => 0))), ((qs6 4), .inr (4, [.ref (qs6 5), .ref (qs6 6)])), ((qs6 5), .inl (kv_ca C 15, 91, .inr (.inl (fun _ => 0)))), ((qs6 6), .inl (kv_ca C 14, 91, .inl (fun _ => 0)))] _ _
  refine kv_aload_n F 0 dX3_init_47 rfl ?_
  refine kv_iconst F (v := 1) dX3_init_48 (by decide) ?_
  refine kv_put F (v := .int 1) hI 0 dX3_init_49 kp_X3_33 rfl rfl rfl (Nat.le_of_ble_eq_true rfl) ?_
  show kv_Ev C _ _ _ [(h0, .inr (3, [.null, .ref q1, .ref q2, .ref q3, .ref q4, .ref q5, .int 1])), (q1, .inl (kv_ca C 14, 91, .inl (fun _ => 0))), (q2, .inl (kv_ca C 14, 91, .inl (fun _ => 0))), (q3, .inl (kv_ca C 15, 13, .inr (.inl (fun _ => 0)))), (q4, .inl (kv_ca C 19, 4, .inr (.inr (.inr (.inr (fun _ => none)))))), (q5, .inr (9, [.ref (qs6 0), .ref (qs6 1), .ref (qs6 4)])), ((qs6 0), .inl (kv_ca C 15, 91, .inr (.inl (fun _ => 0)))), ((qs6 1), .inr (4, [.ref (qs6 2), .ref (qs6 3)])), ((qs6 2), .inl (kv_ca C 15, 91, .inr (.inl (fun _ => 0)))), ((qs6 3), .inl (kv_ca C 14, 91, .inl (fun _ => 0))), ((qs6 4), .inr (4, [.ref (qs6 5), .ref (qs6 6)])), ((qs6 5), .inl (kv_ca C 15, 91, .inr (.inl (fun _ => 0)))), ((qs6 6), .inl (kv_ca C 14, 91, .inl (fun _ => 0)))] _ _
  refine kv_aload_n F 0 dX3_init_52 rfl ?_
  refine kv_aload_n F 1 dX3_init_53 rfl ?_
  refine kv_putF F (v := .ref a1) hI 0 dX3_init_54 kp_X3_37 rfl rfl rfl (Nat.le_of_ble_eq_true rfl) ?_
  show kv_Ev C _ _ _ [(h0, .inr (3, [.ref a1, .ref q1, .ref q2, .ref q3, .ref q4, .ref q5, .int 1])), (q1, .inl (kv_ca C 14, 91, .inl (fun _ => 0))), (q2, .inl (kv_ca C 14, 91, .inl (fun _ => 0))), (q3, .inl (kv_ca C 15, 13, .inr (.inl (fun _ => 0)))), (q4, .inl (kv_ca C 19, 4, .inr (.inr (.inr (.inr (fun _ => none)))))), (q5, .inr (9, [.ref (qs6 0), .ref (qs6 1), .ref (qs6 4)])), ((qs6 0), .inl (kv_ca C 15, 91, .inr (.inl (fun _ => 0)))), ((qs6 1), .inr (4, [.ref (qs6 2), .ref (qs6 3)])), ((qs6 2), .inl (kv_ca C 15, 91, .inr (.inl (fun _ => 0)))), ((qs6 3), .inl (kv_ca C 14, 91, .inl (fun _ => 0))), ((qs6 4), .inr (4, [.ref (qs6 5), .ref (qs6 6)])), ((qs6 5), .inl (kv_ca C 15, 91, .inr (.inl (fun _ => 0)))), ((qs6 6), .inl (kv_ca C 14, 91, .inl (fun _ => 0)))] _ _
  refine kv_iconst F (v := 0) dX3_init_57 (by decide) ?_
  refine kv_istore_n F (ls2 := [(2, .int 0), (0, .ref h0), (1, .ref a1)]) dX3_init_58 (by decide) rfl ?_
  refine kv_iload_n F 0 dX3_init_59 rfl ?_
  refine kv_iconst F (v := 4) dX3_init_60 (by decide) ?_
  refine kv_icmp_ge F 83 dX3_init_61 (by decide) (fun h => absurd h (by decide)) (fun _ => ?_)
  refine kv_aload_n F 1 dX3_init_64 rfl ?_
  refine kv_get F (K := 3) (j := 4) (v := .ref q4) 0 dX3_init_65 rfl (by decide) inX3 tw2_129 rfl rfl ?_
  refine kv_iload_n F 0 dX3_init_68 rfl ?_
  refine kv_new F dX3_init_69 cn_X3_22 (hrm _ _ (by decide) (by decide)) (fun q7 => ?_)
  show kv_Ev C _ _ _ [(h0, .inr (3, [.ref a1, .ref q1, .ref q2, .ref q3, .ref q4, .ref q5, .int 1])), (q1, .inl (kv_ca C 14, 91, .inl (fun _ => 0))), (q2, .inl (kv_ca C 14, 91, .inl (fun _ => 0))), (q3, .inl (kv_ca C 15, 13, .inr (.inl (fun _ => 0)))), (q4, .inl (kv_ca C 19, 4, .inr (.inr (.inr (.inr (fun _ => none)))))), (q5, .inr (9, [.ref (qs6 0), .ref (qs6 1), .ref (qs6 4)])), ((qs6 0), .inl (kv_ca C 15, 91, .inr (.inl (fun _ => 0)))), ((qs6 1), .inr (4, [.ref (qs6 2), .ref (qs6 3)])), ((qs6 2), .inl (kv_ca C 15, 91, .inr (.inl (fun _ => 0)))), ((qs6 3), .inl (kv_ca C 14, 91, .inl (fun _ => 0))), ((qs6 4), .inr (4, [.ref (qs6 5), .ref (qs6 6)])), ((qs6 5), .inl (kv_ca C 15, 91, .inr (.inl (fun _ => 0)))), ((qs6 6), .inl (kv_ca C 14, 91, .inl (fun _ => 0))), (q7, .inr (9, kv_df 9))] _ _
  refine kv_dup F dX3_init_72 rfl ?_
  refine kv_init F (ws0 := [(h0, .inr (3, [.ref a1, .ref q1, .ref q2, .ref q3, .ref q4, .ref q5, .int 1])), (q1, .inl (kv_ca C 14, 91, .inl (fun _ => 0))), (q2, .inl (kv_ca C 14, 91, .inl (fun _ => 0))), (q3, .inl (kv_ca C 15, 13, .inr (.inl (fun _ => 0)))), (q4, .inl (kv_ca C 19, 4, .inr (.inr (.inr (.inr (fun _ => none)))))), (q5, .inr (9, [.ref (qs6 0), .ref (qs6 1), .ref (qs6 4)])), ((qs6 0), .inl (kv_ca C 15, 91, .inr (.inl (fun _ => 0)))), ((qs6 1), .inr (4, [.ref (qs6 2), .ref (qs6 3)])), ((qs6 2), .inl (kv_ca C 15, 91, .inr (.inl (fun _ => 0)))), ((qs6 3), .inl (kv_ca C 14, 91, .inl (fun _ => 0))), ((qs6 4), .inr (4, [.ref (qs6 5), .ref (qs6 6)])), ((qs6 5), .inl (kv_ca C 15, 91, .inr (.inl (fun _ => 0)))), ((qs6 6), .inl (kv_ca C 14, 91, .inl (fun _ => 0)))]) (K := 9) dX3_init_73 ib_X9_init tw2_71 rfl (Or.inr (by decide +kernel)) (k_X9_init) rfl rfl (Nat.le_of_ble_eq_true rfl) (by decide) (hrm _ _ (by decide) (by decide)) rfl (fun qs8 => ?_)
  show kv_Ev C _ _ _ [(h0, .inr (3, [.ref a1, .ref q1, .ref q2, .ref q3, .ref q4, .ref q5, .int 1])), (q1, .inl (kv_ca C 14, 91, .inl (fun _ => 0))), (q2, .inl (kv_ca C 14, 91, .inl (fun _ => 0))), (q3, .inl (kv_ca C 15, 13, .inr (.inl (fun _ => 0)))), (q4, .inl (kv_ca C 19, 4, .inr (.inr (.inr (.inr (fun _ => none)))))), (q5, .inr (9, [.ref (qs6 0), .ref (qs6 1), .ref (qs6 4)])), ((qs6 0), .inl (kv_ca C 15, 91, .inr (.inl (fun _ => 0)))), ((qs6 1), .inr (4, [.ref (qs6 2), .ref (qs6 3)])), ((qs6 2), .inl (kv_ca C 15, 91, .inr (.inl (fun _ => 0)))), ((qs6 3), .inl (kv_ca C 14, 91, .inl (fun _ => 0))), ((qs6 4), .inr (4, [.ref (qs6 5), .ref (qs6 6)])), ((qs6 5), .inl (kv_ca C 15, 91, .inr (.inl (fun _ => 0)))), ((qs6 6), .inl (kv_ca C 14, 91, .inl (fun _ => 0))), (q7, .inr (9, [.ref (qs8 0), .ref (qs8 1), .ref (qs8 4)])), ((qs8 0), .inl (kv_ca C 15, 91, .inr (.inl (fun _ => 0)))), ((qs8 1), .inr (4, [.ref (qs8 2), .ref (qs8 3)])), ((qs8 2), .inl (kv_ca C 15, 91, .inr (.inl (fun _ => 0)))), ((qs8 3), .inl (kv_ca C 14, 91, .inl (fun _ => 0))), ((qs8 4), .inr (4, [.ref (qs8 5), .ref (qs8 6)])), ((qs8 5), .inl (kv_ca C 15, 91, .inr (.inl (fun _ => 0)))), ((qs8 6), .inl (kv_ca C 14, 91, .inl (fun _ => 0)))] _ _
  refine kv_ast F (K := 19) (Kc := 9) (i2 := 0) 4 13 dX3_init_76 (Or.inr (Or.inr ⟨rfl, rfl⟩)) rfl rfl rfl (ob_in_iff.mp rfl) (by decide) ?_
  show kv_Ev C _ _ _ [(h0, .inr (3, [.ref a1, .ref q1, .ref q2, .ref q3, .ref q4, .ref q5, .int 1])), (q1, .inl (kv_ca C 14, 91, .inl (fun _ => 0))), (q2, .inl (kv_ca C 14, 91, .inl (fun _ => 0))), (q3, .inl (kv_ca C 15, 13, .inr (.inl (fun _ => 0)))), (q4, .inl (kv_ca C 19, 4, .inr (.inr (.inr (.inr (va_up (fun _ => none) 0 (some q7))))))), (q5, .inr (9, [.ref (qs6 0), .ref (qs6 1), .ref (qs6 4)])), ((qs6 0), .inl (kv_ca C 15, 91, .inr (.inl (fun _ => 0)))), ((qs6 1), .inr (4, [.ref (qs6 2), .ref (qs6 3)])), ((qs6 2), .inl (kv_ca C 15, 91, .inr (.inl (fun _ => 0)))), ((qs6 3), .inl (kv_ca C 14, 91, .inl (fun _ => 0))), ((qs6 4), .inr (4, [.ref (qs6 5), .ref (qs6 6)])), ((qs6 5), .inl (kv_ca C 15, 91, .inr (.inl (fun _ => 0)))), ((qs6 6), .inl (kv_ca C 14, 91, .inl (fun _ => 0))), (q7, .inr (9, [.ref (qs8 0), .ref (qs8 1), .ref (qs8 4)])), ((qs8 0), .inl (kv_ca C 15, 91, .inr (.inl (fun _ => 0)))), ((qs8 1), .inr (4, [.ref (qs8 2), .ref (qs8 3)])), ((qs8 2), .inl (kv_ca C 15, 91, .inr (.inl (fun _ => 0)))), ((qs8 3), .inl (kv_ca C 14, 91, .inl (fun _ => 0))), ((qs8 4), .inr (4, [.ref (qs8 5), .ref (qs8 6)])), ((qs8 5), .inl (kv_ca C 15, 91, .inr (.inl (fun _ => 0)))), ((qs8 6), .inl (kv_ca C 14, 91, .inl (fun _ => 0)))] _ _
  refine kv_iinc F (v := 1) (ls2 := [(2, .int 1), (0, .ref h0), (1, .ref a1)]) 0 dX3_init_77 rfl (by decide) (by decide) rfl ?_
  refine kv_goto F 59 dX3_init_80 (by decide) ?_
  refine kv_iload_n F 0 dX3_init_59 rfl ?_
  refine kv_iconst F (v := 4) dX3_init_60 (by decide) ?_
  refine kv_icmp_ge F 83 dX3_init_61 (by decide) (fun h => absurd h (by decide)) (fun _ => ?_)
  refine kv_aload_n F 1 dX3_init_64 rfl ?_
  refine kv_get F (K := 3) (j := 4) (v := .ref q4) 0 dX3_init_65 rfl (by decide) inX3 tw2_129 rfl rfl ?_
  refine kv_iload_n F 0 dX3_init_68 rfl ?_
  refine kv_new F dX3_init_69 cn_X3_22 (hrm _ _ (by decide) (by decide)) (fun q9 => ?_)
  show kv_Ev C _ _ _ [(h0, .inr (3, [.ref a1, .ref q1, .ref q2, .ref q3, .ref q4, .ref q5, .int 1])), (q1, .inl (kv_ca C 14, 91, .inl (fun _ => 0))), (q2, .inl (kv_ca C 14, 91, .inl (fun _ => 0))), (q3, .inl (kv_ca C 15, 13, .inr (.inl (fun _ => 0)))), (q4, .inl (kv_ca C 19, 4, .inr (.inr (.inr (.inr (va_up (fun _ => none) 0 (some q7))))))), (q5, .inr (9, [.ref (qs6 0), .ref (qs6 1), .ref (qs6 4)])), ((qs6 0), .inl (kv_ca C 15, 91, .inr (.inl (fun _ => 0)))), ((qs6 1), .inr (4, [.ref (qs6 2), .ref (qs6 3)])), ((qs6 2), .inl (kv_ca C 15, 91, .inr (.inl (fun _ => 0)))), ((qs6 3), .inl (kv_ca C 14, 91, .inl (fun _ => 0))), ((qs6 4), .inr (4, [.ref (qs6 5), .ref (qs6 6)])), ((qs6 5), .inl (kv_ca C 15, 91, .inr (.inl (fun _ => 0)))), ((qs6 6), .inl (kv_ca C 14, 91, .inl (fun _ => 0))), (q7, .inr (9, [.ref (qs8 0), .ref (qs8 1), .ref (qs8 4)])), ((qs8 0), .inl (kv_ca C 15, 91, .inr (.inl (fun _ => 0)))), ((qs8 1), .inr (4, [.ref (qs8 2), .ref (qs8 3)])), ((qs8 2), .inl (kv_ca C 15, 91, .inr (.inl (fun _ => 0)))), ((qs8 3), .inl (kv_ca C 14, 91, .inl (fun _ => 0))), ((qs8 4), .inr (4, [.ref (qs8 5), .ref (qs8 6)])), ((qs8 5), .inl (kv_ca C 15, 91, .inr (.inl (fun _ => 0)))), ((qs8 6), .inl (kv_ca C 14, 91, .inl (fun _ => 0))), (q9, .inr (9, kv_df 9))] _ _
  refine kv_dup F dX3_init_72 rfl ?_
  refine kv_init F (ws0 := [(h0, .inr (3, [.ref a1, .ref q1, .ref q2, .ref q3, .ref q4, .ref q5, .int 1])), (q1, .inl (kv_ca C 14, 91, .inl (fun _ => 0))), (q2, .inl (kv_ca C 14, 91, .inl (fun _ => 0))), (q3, .inl (kv_ca C 15, 13, .inr (.inl (fun _ => 0)))), (q4, .inl (kv_ca C 19, 4, .inr (.inr (.inr (.inr (va_up (fun _ => none) 0 (some q7))))))), (q5, .inr (9, [.ref (qs6 0), .ref (qs6 1), .ref (qs6 4)])), ((qs6 0), .inl (kv_ca C 15, 91, .inr (.inl (fun _ => 0)))), ((qs6 1), .inr (4, [.ref (qs6 2), .ref (qs6 3)])), ((qs6 2), .inl (kv_ca C 15, 91, .inr (.inl (fun _ => 0)))), ((qs6 3), .inl (kv_ca C 14, 91, .inl (fun _ => 0))), ((qs6 4), .inr (4, [.ref (qs6 5), .ref (qs6 6)])), ((qs6 5), .inl (kv_ca C 15, 91, .inr (.inl (fun _ => 0)))), ((qs6 6), .inl (kv_ca C 14, 91, .inl (fun _ => 0))), (q7, .inr (9, [.ref (qs8 0), .ref (qs8 1), .ref (qs8 4)])), ((qs8 0), .inl (kv_ca C 15, 91, .inr (.inl (fun _ => 0)))), ((qs8 1), .inr (4, [.ref (qs8 2), .ref (qs8 3)])), ((qs8 2), .inl (kv_ca C 15, 91, .inr (.inl (fun _ => 0)))), ((qs8 3), .inl (kv_ca C 14, 91, .inl (fun _ => 0))), ((qs8 4), .inr (4, [.ref (qs8 5), .ref (qs8 6)])), ((qs8 5), .inl (kv_ca C 15, 91, .inr (.inl (fun _ => 0)))), ((qs8 6), .inl (kv_ca C 14, 91, .inl (fun _ => 0)))]) (K := 9) dX3_init_73 ib_X9_init tw2_71 rfl (Or.inr (by decide +kernel)) (k_X9_init) rfl rfl (Nat.le_of_ble_eq_true rfl) (by decide) (hrm _ _ (by decide) (by decide)) rfl (fun qs10 => ?_)
  show kv_Ev C _ _ _ [(h0, .inr (3, [.ref a1, .ref q1, .ref q2, .ref q3, .ref q4, .ref q5, .int 1])), (q1, .inl (kv_ca C 14, 91, .inl (fun _ => 0))), (q2, .inl (kv_ca C 14, 91, .inl (fun _ => 0))), (q3, .inl (kv_ca C 15, 13, .inr (.inl (fun _ => 0)))), (q4, .inl (kv_ca C 19, 4, .inr (.inr (.inr (.inr (va_up (fun _ => none) 0 (some q7))))))), (q5, .inr (9, [.ref (qs6 0), .ref (qs6 1), .ref (qs6 4)])), ((qs6 0), .inl (kv_ca C 15, 91, .inr (.inl (fun _ => 0)))), ((qs6 1), .inr (4, [.ref (qs6 2), .ref (qs6 3)])), ((qs6 2), .inl (kv_ca C 15, 91, .inr (.inl (fun _ => 0)))), ((qs6 3), .inl (kv_ca C 14, 91, .inl (fun _ => 0))), ((qs6 4), .inr (4, [.ref (qs6 5), .ref (qs6 6)])), ((qs6 5), .inl (kv_ca C 15, 91, .inr (.inl (fun _ => 0)))), ((qs6 6), .inl (kv_ca C 14, 91, .inl (fun _ => 0))), (q7, .inr (9, [.ref (qs8 0), .ref (qs8 1), .ref (qs8 4)])), ((qs8 0), .inl (kv_ca C 15, 91, .inr (.inl (fun _ => 0)))), ((qs8 1), .inr (4, [.ref (qs8 2), .ref (qs8 3)])), ((qs8 2), .inl (kv_ca C 15, 91, .inr (.inl (fun _ => 0)))), ((qs8 3), .inl (kv_ca C 14, 91, .inl (fun _ => 0))), ((qs8 4), .inr (4, [.ref (qs8 5), .ref (qs8 6)])), ((qs8 5), .inl (kv_ca C 15, 91, .inr (.inl (fun _ => 0)))), ((qs8 6), .inl (kv_ca C 14, 91, .inl (fun _ => 0))), (q9, .inr (9, [.ref (qs10 0), .ref (qs10 1), .ref (qs10 4)])), ((qs10 0), .inl (kv_ca C 15, 91, .inr (.inl (fun _ => 0)))), ((qs10 1), .inr (4, [.ref (qs10 2), .ref (qs10 3)])), ((qs10 2), .inl (kv_ca C 15, 91, .inr (.inl (fun _ => 0)))), ((qs10 3), .inl (kv_ca C 14, 91, .inl (fun _ => 0))), ((qs10 4), .inr (4, [.ref (qs10 5), .ref (qs10 6)])), ((qs10 5), .inl (kv_ca C 15, 91, .inr (.inl (fun _ => 0)))), ((qs10 6), .inl (kv_ca C 14, 91, .inl (fun _ => 0)))] _ _
  refine kv_ast F (K := 19) (Kc := 9) (i2 := 1) 4 21 dX3_init_76 (Or.inr (Or.inr ⟨rfl, rfl⟩)) rfl rfl rfl (ob_in_iff.mp rfl) (by decide) ?_
  show kv_Ev C _ _ _ [(h0, .inr (3, [.ref a1, .ref q1, .ref q2, .ref q3, .ref q4, .ref q5, .int 1])), (q1, .inl (kv_ca C 14, 91, .inl (fun _ => 0))), (q2, .inl (kv_ca C 14, 91, .inl (fun _ => 0))), (q3, .inl (kv_ca C 15, 13, .inr (.inl (fun _ => 0)))), (q4, .inl (kv_ca C 19, 4, .inr (.inr (.inr (.inr (va_up (va_up (fun _ => none) 0 (some q7)) 1 (some q9))))))), (q5, .inr (9, [.ref (qs6 0), .ref (qs6 1), .ref (qs6 4)])), ((qs6 0), .inl (kv_ca C 15, 91, .inr (.inl (fun _ => 0)))), ((qs6 1), .inr (4, [.ref (qs6 2), .ref (qs6 3)])), ((qs6 2), .inl (kv_ca C 15, 91, .inr (.inl (fun _ => 0)))), ((qs6 3), .inl (kv_ca C 14, 91, .inl (fun _ => 0))), ((qs6 4), .inr (4, [.ref (qs6 5), .ref (qs6 6)])), ((qs6 5), .inl (kv_ca C 15, 91, .inr (.inl (fun _ => 0)))), ((qs6 6), .inl (kv_ca C 14, 91, .inl (fun _ => 0))), (q7, .inr (9, [.ref (qs8 0), .ref (qs8 1), .ref (qs8 4)])), ((qs8 0), .inl (kv_ca C 15, 91, .inr (.inl (fun _ => 0)))), ((qs8 1), .inr (4, [.ref (qs8 2), .ref (qs8 3)])), ((qs8 2), .inl (kv_ca C 15, 91, .inr (.inl (fun _ => 0)))), ((qs8 3), .inl (kv_ca C 14, 91, .inl (fun _ => 0))), ((qs8 4), .inr (4, [.ref (qs8 5), .ref (qs8 6)])), ((qs8 5), .inl (kv_ca C 15, 91, .inr (.inl (fun _ => 0)))), ((qs8 6), .inl (kv_ca C 14, 91, .inl (fun _ => 0))), (q9, .inr (9, [.ref (qs10 0), .ref (qs10 1), .ref (qs10 4)])), ((qs10 0), .inl (kv_ca C 15, 91, .inr (.inl (fun _ => 0)))), ((qs10 1), .inr (4, [.ref (qs10 2), .ref (qs10 3)])), ((qs10 2), .inl (kv_ca C 15, 91, .inr (.inl (fun _ => 0)))), ((qs10 3), .inl (kv_ca C 14, 91, .inl (fun _ => 0))), ((qs10 4), .inr (4, [.ref (qs10 5), .ref (qs10 6)])), ((qs10 5), .inl (kv_ca C 15, 91, .inr (.inl (fun _ => 0)))), ((qs10 6), .inl (kv_ca C 14, 91, .inl (fun _ => 0)))] _ _
  refine kv_iinc F (v := 2) (ls2 := [(2, .int 2), (0, .ref h0), (1, .ref a1)]) 0 dX3_init_77 rfl (by decide) (by decide) rfl ?_
  refine kv_goto F 59 dX3_init_80 (by decide) ?_
  refine kv_iload_n F 0 dX3_init_59 rfl ?_
  refine kv_iconst F (v := 4) dX3_init_60 (by decide) ?_
  refine kv_icmp_ge F 83 dX3_init_61 (by decide) (fun h => absurd h (by decide)) (fun _ => ?_)
  refine kv_aload_n F 1 dX3_init_64 rfl ?_
  refine kv_get F (K := 3) (j := 4) (v := .ref q4) 0 dX3_init_65 rfl (by decide) inX3 tw2_129 rfl rfl ?_
  refine kv_iload_n F 0 dX3_init_68 rfl ?_
  refine kv_new F dX3_init_69 cn_X3_22 (hrm _ _ (by decide) (by decide)) (fun q11 => ?_)
  show kv_Ev C _ _ _ [(h0, .inr (3, [.ref a1, .ref q1, .ref q2, .ref q3, .ref q4, .ref q5, .int 1])), (q1, .inl (kv_ca C 14, 91, .inl (fun _ => 0))), (q2, .inl (kv_ca C 14, 91, .inl (fun _ => 0))), (q3, .inl (kv_ca C 15, 13, .inr (.inl (fun _ => 0)))), (q4, .inl (kv_ca C 19, 4, .inr (.inr (.inr (.inr (va_up (va_up (fun _ => none) 0 (some q7)) 1 (some q9))))))), (q5, .inr (9, [.ref (qs6 0), .ref (qs6 1), .ref (qs6 4)])), ((qs6 0), .inl (kv_ca C 15, 91, .inr (.inl (fun _ => 0)))), ((qs6 1), .inr (4, [.ref (qs6 2), .ref (qs6 3)])), ((qs6 2), .inl (kv_ca C 15, 91, .inr (.inl (fun _ => 0)))), ((qs6 3), .inl (kv_ca C 14, 91, .inl (fun _ => 0))), ((qs6 4), .inr (4, [.ref (qs6 5), .ref (qs6 6)])), ((qs6 5), .inl (kv_ca C 15, 91, .inr (.inl (fun _ => 0)))), ((qs6 6), .inl (kv_ca C 14, 91, .inl (fun _ => 0))), (q7, .inr (9, [.ref (qs8 0), .ref (qs8 1), .ref (qs8 4)])), ((qs8 0), .inl (kv_ca C 15, 91, .inr (.inl (fun _ => 0)))), ((qs8 1), .inr (4, [.ref (qs8 2), .ref (qs8 3)])), ((qs8 2), .inl (kv_ca C 15, 91, .inr (.inl (fun _ => 0)))), ((qs8 3), .inl (kv_ca C 14, 91, .inl (fun _ => 0))), ((qs8 4), .inr (4, [.ref (qs8 5), .ref (qs8 6)])), ((qs8 5), .inl (kv_ca C 15, 91, .inr (.inl (fun _ => 0)))), ((qs8 6), .inl (kv_ca C 14, 91, .inl (fun _ => 0))), (q9, .inr (9, [.ref (qs10 0), .ref (qs10 1), .ref (qs10 4)])), ((qs10 0), .inl (kv_ca C 15, 91, .inr (.inl (fun _ => 0)))), ((qs10 1), .inr (4, [.ref (qs10 2), .ref (qs10 3)])), ((qs10 2), .inl (kv_ca C 15, 91, .inr (.inl (fun _ => 0)))), ((qs10 3), .inl (kv_ca C 14, 91, .inl (fun _ => 0))), ((qs10 4), .inr (4, [.ref (qs10 5), .ref (qs10 6)])), ((qs10 5), .inl (kv_ca C 15, 91, .inr (.inl (fun _ => 0)))), ((qs10 6), .inl (kv_ca C 14, 91, .inl (fun _ => 0))), (q11, .inr (9, kv_df 9))] _ _
  refine kv_dup F dX3_init_72 rfl ?_
  refine kv_init F (ws0 := [(h0, .inr (3, [.ref a1, .ref q1, .ref q2, .ref q3, .ref q4, .ref q5, .int 1])), (q1, .inl (kv_ca C 14, 91, .inl (fun _ => 0))), (q2, .inl (kv_ca C 14, 91, .inl (fun _ => 0))), (q3, .inl (kv_ca C 15, 13, .inr (.inl (fun _ => 0)))), (q4, .inl (kv_ca C 19, 4, .inr (.inr (.inr (.inr (va_up (va_up (fun _ => none) 0 (some q7)) 1 (some q9))))))), (q5, .inr (9, [.ref (qs6 0), .ref (qs6 1), .ref (qs6 4)])), ((qs6 0), .inl (kv_ca C 15, 91, .inr (.inl (fun _ => 0)))), ((qs6 1), .inr (4, [.ref (qs6 2), .ref (qs6 3)])), ((qs6 2), .inl (kv_ca C 15, 91, .inr (.inl (fun _ => 0)))), ((qs6 3), .inl (kv_ca C 14, 91, .inl (fun _ => 0))), ((qs6 4), .inr (4, [.ref (qs6 5), .ref (qs6 6)])), ((qs6 5), .inl (kv_ca C 15, 91, .inr (.inl (fun _ => 0)))), ((qs6 6), .inl (kv_ca C 14, 91, .inl (fun _ => 0))), (q7, .inr (9, [.ref (qs8 0), .ref (qs8 1), .ref (qs8 4)])), ((qs8 0), .inl (kv_ca C 15, 91, .inr (.inl (fun _ => 0)))), ((qs8 1), .inr (4, [.ref (qs8 2), .ref (qs8 3)])), ((qs8 2), .inl (kv_ca C 15, 91, .inr (.inl (fun _ => 0)))), ((qs8 3), .inl (kv_ca C 14, 91, .inl (fun _ => 0))), ((qs8 4), .inr (4, [.ref (qs8 5), .ref (qs8 6)])), ((qs8 5), .inl (kv_ca C 15, 91, .inr (.inl (fun _ => 0)))), ((qs8 6), .inl (kv_ca C 14, 91, .inl (fun _ => 0))), (q9, .inr (9, [.ref (qs10 0), .ref (qs10 1), .ref (qs10 4)])), ((qs10 0), .inl (kv_ca C 15, 91, .inr (.inl (fun _ => 0)))), ((qs10 1), .inr (4, [.ref (qs10 2), .ref (qs10 3)])), ((qs10 2), .inl (kv_ca C 15, 91, .inr (.inl (fun _ => 0)))), ((qs10 3), .inl (kv_ca C 14, 91, .inl (fun _ => 0))), ((qs10 4), .inr (4, [.ref (qs10 5), .ref (qs10 6)])), ((qs10 5), .inl (kv_ca C 15, 91, .inr (.inl (fun _ => 0)))), ((qs10 6), .inl (kv_ca C 14, 91, .inl (fun _ => 0)))]) (K := 9) dX3_init_73 ib_X9_init tw2_71 rfl (Or.inr (by decide +kernel)) (k_X9_init) rfl rfl (Nat.le_of_ble_eq_true rfl) (by decide) (hrm _ _ (by decide) (by decide)) rfl (fun qs12 => ?_)
  show kv_Ev C _ _ _ [(h0, .inr (3, [.ref a1, .ref q1, .ref q2, .ref q3, .ref q4, .ref q5, .int 1])), (q1, .inl (kv_ca C 14, 91, .inl (fun _ => 0))), (q2, .inl (kv_ca C 14, 91, .inl (fun _ => 0))), (q3, .inl (kv_ca C 15, 13, .inr (.inl (fun _ => 0)))), (q4, .inl (kv_ca C 19, 4, .inr (.inr (.inr (.inr (va_up (va_up (fun _ => none) 0 (some q7)) 1 (some q9))))))), (q5, .inr (9, [.ref (qs6 0), .ref (qs6 1), .ref (qs6 4)])), ((qs6 0), .inl (kv_ca C 15, 91, .inr (.inl (fun _ => 0)))), ((qs6 1), .inr (4, [.ref (qs6 2), .ref (qs6 3)])), ((qs6 2), .inl (kv_ca C 15, 91, .inr (.inl (fun _ => 0)))), ((qs6 3), .inl (kv_ca C 14, 91, .inl (fun _ => 0))), ((qs6 4), .inr (4, [.ref (qs6 5), .ref (qs6 6)])), ((qs6 5), .inl (kv_ca C 15, 91, .inr (.inl (fun _ => 0)))), ((qs6 6), .inl (kv_ca C 14, 91, .inl (fun _ => 0))), (q7, .inr (9, [.ref (qs8 0), .ref (qs8 1), .ref (qs8 4)])), ((qs8 0), .inl (kv_ca C 15, 91, .inr (.inl (fun _ => 0)))), ((qs8 1), .inr (4, [.ref (qs8 2), .ref (qs8 3)])), ((qs8 2), .inl (kv_ca C 15, 91, .inr (.inl (fun _ => 0)))), ((qs8 3), .inl (kv_ca C 14, 91, .inl (fun _ => 0))), ((qs8 4), .inr (4, [.ref (qs8 5), .ref (qs8 6)])), ((qs8 5), .inl (kv_ca C 15, 91, .inr (.inl (fun _ => 0)))), ((qs8 6), .inl (kv_ca C 14, 91, .inl (fun _ => 0))), (q9, .inr (9, [.ref (qs10 0), .ref (qs10 1), .ref (qs10 4)])), ((qs10 0), .inl (kv_ca C 15, 91, .inr (.inl (fun _ => 0)))), ((qs10 1), .inr (4, [.ref (qs10 2), .ref (qs10 3)])), ((qs10 2), .inl (kv_ca C 15, 91, .inr (.inl (fun _ => 0)))), ((qs10 3), .inl (kv_ca C 14, 91, .inl (fun _ => 0))), ((qs10 4), .inr (4, [.ref (qs10 5), .ref (qs10 6)])), ((qs10 5), .inl (kv_ca C 15, 91, .inr (.inl (fun _ => 0)))), ((qs10 6), .inl (kv_ca C 14, 91, .inl (fun _ => 0))), (q11, .inr (9, [.ref (qs12 0), .ref (qs12 1), .ref (qs12 4)])), ((qs12 0), .inl (kv_ca C 15, 91, .inr (.inl (fun _ => 0)))), ((qs12 1), .inr (4, [.ref (qs12 2), .ref (qs12 3)])), ((qs12 2), .inl (kv_ca C 15, 91, .inr (.inl (fun _ => 0)))), ((qs12 3), .inl (kv_ca C 14, 91, .inl (fun _ => 0))), ((qs12 4), .inr (4, [.ref (qs12 5), .ref (qs12 6)])), ((qs12 5), .inl (kv_ca C 15, 91, .inr (.inl (fun _ => 0)))), ((qs12 6), .inl (kv_ca C 14, 91, .inl (fun _ => 0)))] _ _
  refine kv_ast F (K := 19) (Kc := 9) (i2 := 2) 4 29 dX3_init_76 (Or.inr (Or.inr ⟨rfl, rfl⟩)) rfl rfl rfl (ob_in_iff.mp rfl) (by decide) ?_
  show kv_Ev C _ _ _ [(h0, .inr (3, [.ref a1, .ref q1, .ref q2, .ref q3, .ref q4, .ref q5, .int 1])), (q1, .inl (kv_ca C 14, 91, .inl (fun _ => 0))), (q2, .inl (kv_ca C 14, 91, .inl (fun _ => 0))), (q3, .inl (kv_ca C 15, 13, .inr (.inl (fun _ => 0)))), (q4, .inl (kv_ca C 19, 4, .inr (.inr (.inr (.inr (va_up (va_up (va_up (fun _ => none) 0 (some q7)) 1 (some q9)) 2 (some q11))))))), (q5, .inr (9, [.ref (qs6 0), .ref (qs6 1), .ref (qs6 4)])), ((qs6 0), .inl (kv_ca C 15, 91, .inr (.inl (fun _ => 0)))), ((qs6 1), .inr (4, [.ref (qs6 2), .ref (qs6 3)])), ((qs6 2), .inl (kv_ca C 15, 91, .inr (.inl (fun _ => 0)))), ((qs6 3), .inl (kv_ca C 14, 91, .inl (fun _ => 0))), ((qs6 4), .inr (4, [.ref (qs6 5), .ref (qs6 6)])), ((qs6 5), .inl (kv_ca C 15, 91, .inr (.inl (fun _ => 0)))), ((qs6 6), .inl (kv_ca C 14, 91, .inl (fun _ => 0))), (q7, .inr (9, [.ref (qs8 0), .ref (qs8 1), .ref (qs8 4)])), ((qs8 0), .inl (kv_ca C 15, 91, .inr (.inl (fun _ => 0)))), ((qs8 1), .inr (4, [.ref (qs8 2), .ref (qs8 3)])), ((qs8 2), .inl (kv_ca C 15, 91, .inr (.inl (fun _ => 0)))), ((qs8 3), .inl (kv_ca C 14, 91, .inl (fun _ => 0))), ((qs8 4), .inr (4, [.ref (qs8 5), .ref (qs8 6)])), ((qs8 5), .inl (kv_ca C 15, 91, .inr (.inl (fun _ => 0)))), ((qs8 6), .inl (kv_ca C 14, 91, .inl (fun _ => 0))), (q9, .inr (9, [.ref (qs10 0), .ref (qs10 1), .ref (qs10 4)])), ((qs10 0), .inl (kv_ca C 15, 91, .inr (.inl (fun _ => 0)))), ((qs10 1), .inr (4, [.ref (qs10 2), .ref (qs10 3)])), ((qs10 2), .inl (kv_ca C 15, 91, .inr (.inl (fun _ => 0)))), ((qs10 3), .inl (kv_ca C 14, 91, .inl (fun _ => 0))), ((qs10 4), .inr (4, [.ref (qs10 5), .ref (qs10 6)])), ((qs10 5), .inl (kv_ca C 15, 91, .inr (.inl (fun _ => 0)))), ((qs10 6), .inl (kv_ca C 14, 91, .inl (fun _ => 0))), (q11, .inr (9, [.ref (qs12 0), .ref (qs12 1), .ref (qs12 4)])), ((qs12 0), .inl (kv_ca C 15, 91, .inr (.inl (fun _ => 0)))), ((qs12 1), .inr (4, [.ref (qs12 2), .ref (qs12 3)])), ((qs12 2), .inl (kv_ca C 15, 91, .inr (.inl (fun _ => 0)))), ((qs12 3), .inl (kv_ca C 14, 91, .inl (fun _ => 0))), ((qs12 4), .inr (4, [.ref (qs12 5), .ref (qs12 6)])), ((qs12 5), .inl (kv_ca C 15, 91, .inr (.inl (fun _ => 0)))), ((qs12 6), .inl (kv_ca C 14, 91, .inl (fun _ => 0)))] _ _
  refine kv_iinc F (v := 3) (ls2 := [(2, .int 3), (0, .ref h0), (1, .ref a1)]) 0 dX3_init_77 rfl (by decide) (by decide) rfl ?_
  refine kv_goto F 59 dX3_init_80 (by decide) ?_
  refine kv_iload_n F 0 dX3_init_59 rfl ?_
  refine kv_iconst F (v := 4) dX3_init_60 (by decide) ?_
  refine kv_icmp_ge F 83 dX3_init_61 (by decide) (fun h => absurd h (by decide)) (fun _ => ?_)
  refine kv_aload_n F 1 dX3_init_64 rfl ?_
  refine kv_get F (K := 3) (j := 4) (v := .ref q4) 0 dX3_init_65 rfl (by decide) inX3 tw2_129 rfl rfl ?_
  refine kv_iload_n F 0 dX3_init_68 rfl ?_
  refine kv_new F dX3_init_69 cn_X3_22 (hrm _ _ (by decide) (by decide)) (fun q13 => ?_)
  show kv_Ev C _ _ _ [(h0, .inr (3, [.ref a1, .ref q1, .ref q2, .ref q3, .ref q4, .ref q5, .int 1])), (q1, .inl (kv_ca C 14, 91, .inl (fun _ => 0))), (q2, .inl (kv_ca C 14, 91, .inl (fun _ => 0))), (q3, .inl (kv_ca C 15, 13, .inr (.inl (fun _ => 0)))), (q4, .inl (kv_ca C 19, 4, .inr (.inr (.inr (.inr (va_up (va_up (va_up (fun _ => none) 0 (some q7)) 1 (some q9)) 2 (some q11))))))), (q5, .inr (9, [.ref (qs6 0), .ref (qs6 1), .ref (qs6 4)])), ((qs6 0), .inl (kv_ca C 15, 91, .inr (.inl (fun _ => 0)))), ((qs6 1), .inr (4, [.ref (qs6 2), .ref (qs6 3)])), ((qs6 2), .inl (kv_ca C 15, 91, .inr (.inl (fun _ => 0)))), ((qs6 3), .inl (kv_ca C 14, 91, .inl (fun _ => 0))), ((qs6 4), .inr (4, [.ref (qs6 5), .ref (qs6 6)])), ((qs6 5), .inl (kv_ca C 15, 91, .inr (.inl (fun _ => 0)))), ((qs6 6), .inl (kv_ca C 14, 91, .inl (fun _ => 0))), (q7, .inr (9, [.ref (qs8 0), .ref (qs8 1), .ref (qs8 4)])), ((qs8 0), .inl (kv_ca C 15, 91, .inr (.inl (fun _ => 0)))), ((qs8 1), .inr (4, [.ref (qs8 2), .ref (qs8 3)])), ((qs8 2), .inl (kv_ca C 15, 91, .inr (.inl (fun _ => 0)))), ((qs8 3), .inl (kv_ca C 14, 91, .inl (fun _ => 0))), ((qs8 4), .inr (4, [.ref (qs8 5), .ref (qs8 6)])), ((qs8 5), .inl (kv_ca C 15, 91, .inr (.inl (fun _ => 0)))), ((qs8 6), .inl (kv_ca C 14, 91, .inl (fun _ => 0))), (q9, .inr (9, [.ref (qs10 0), .ref (qs10 1), .ref (qs10 4)])), ((qs10 0), .inl (kv_ca C 15, 91, .inr (.inl (fun _ => 0)))), ((qs10 1), .inr (4, [.ref (qs10 2), .ref (qs10 3)])), ((qs10 2), .inl (kv_ca C 15, 91, .inr (.inl (fun _ => 0)))), ((qs10 3), .inl (kv_ca C 14, 91, .inl (fun _ => 0))), ((qs10 4), .inr (4, [.ref (qs10 5), .ref (qs10 6)])), ((qs10 5), .inl (kv_ca C 15, 91, .inr (.inl (fun _ => 0)))), ((qs10 6), .inl (kv_ca C 14, 91, .inl (fun _ => 0))), (q11, .inr (9, [.ref (qs12 0), .ref (qs12 1), .ref (qs12 4)])), ((qs12 0), .inl (kv_ca C 15, 91, .inr (.inl (fun _ => 0)))), ((qs12 1), .inr (4, [.ref (qs12 2), .ref (qs12 3)])), ((qs12 2), .inl (kv_ca C 15, 91, .inr (.inl (fun _ => 0)))), ((qs12 3), .inl (kv_ca C 14, 91, .inl (fun _ => 0))), ((qs12 4), .inr (4, [.ref (qs12 5), .ref (qs12 6)])), ((qs12 5), .inl (kv_ca C 15, 91, .inr (.inl (fun _ => 0)))), ((qs12 6), .inl (kv_ca C 14, 91, .inl (fun _ => 0))), (q13, .inr (9, kv_df 9))] _ _
  refine kv_dup F dX3_init_72 rfl ?_
  refine kv_init F (ws0 := [(h0, .inr (3, [.ref a1, .ref q1, .ref q2, .ref q3, .ref q4, .ref q5, .int 1])), (q1, .inl (kv_ca C 14, 91, .inl (fun _ => 0))), (q2, .inl (kv_ca C 14, 91, .inl (fun _ => 0))), (q3, .inl (kv_ca C 15, 13, .inr (.inl (fun _ => 0)))), (q4, .inl (kv_ca C 19, 4, .inr (.inr (.inr (.inr (va_up (va_up (va_up (fun _ => none) 0 (some q7)) 1 (some q9)) 2 (some q11))))))), (q5, .inr (9, [.ref (qs6 0), .ref (qs6 1), .ref (qs6 4)])), ((qs6 0), .inl (kv_ca C 15, 91, .inr (.inl (fun _ => 0)))), ((qs6 1), .inr (4, [.ref (qs6 2), .ref (qs6 3)])), ((qs6 2), .inl (kv_ca C 15, 91, .inr (.inl (fun _ => 0)))), ((qs6 3), .inl (kv_ca C 14, 91, .inl (fun _ => 0))), ((qs6 4), .inr (4, [.ref (qs6 5), .ref (qs6 6)])), ((qs6 5), .inl (kv_ca C 15, 91, .inr (.inl (fun _ => 0)))), ((qs6 6), .inl (kv_ca C 14, 91, .inl (fun _ => 0))), (q7, .inr (9, [.ref (qs8 0), .ref (qs8 1), .ref (qs8 4)])), ((qs8 0), .inl (kv_ca C 15, 91, .inr (.inl (fun _ => 0)))), ((qs8 1), .inr (4, [.ref (qs8 2), .ref (qs8 3)])), ((qs8 2), .inl (kv_ca C 15, 91, .inr (.inl (fun _ => 0)))), ((qs8 3), .inl (kv_ca C 14, 91, .inl (fun _ => 0))), ((qs8 4), .inr (4, [.ref (qs8 5), .ref (qs8 6)])), ((qs8 5), .inl (kv_ca C 15, 91, .inr (.inl (fun _ => 0)))), ((qs8 6), .inl (kv_ca C 14, 91, .inl (fun _ => 0))), (q9, .inr (9, [.ref (qs10 0), .ref (qs10 1), .ref (qs10 4)])), ((qs10 0), .inl (kv_ca C 15, 91, .inr (.inl (fun _ => 0)))), ((qs10 1), .inr (4, [.ref (qs10 2), .ref (qs10 3)])), ((qs10 2), .inl (kv_ca C 15, 91, .inr (.inl (fun _ => 0)))), ((qs10 3), .inl (kv_ca C 14, 91, .inl (fun _ => 0))), ((qs10 4), .inr (4, [.ref (qs10 5), .ref (qs10 6)])), ((qs10 5), .inl (kv_ca C 15, 91, .inr (.inl (fun _ => 0)))), ((qs10 6), .inl (kv_ca C 14, 91, .inl (fun _ => 0))), (q11, .inr (9, [.ref (qs12 0), .ref (qs12 1), .ref (qs12 4)])), ((qs12 0), .inl (kv_ca C 15, 91, .inr (.inl (fun _ => 0)))), ((qs12 1), .inr (4, [.ref (qs12 2), .ref (qs12 3)])), ((qs12 2), .inl (kv_ca C 15, 91, .inr (.inl (fun _ => 0)))), ((qs12 3), .inl (kv_ca C 14, 91, .inl (fun _ => 0))), ((qs12 4), .inr (4, [.ref (qs12 5), .ref (qs12 6)])), ((qs12 5), .inl (kv_ca C 15, 91, .inr (.inl (fun _ => 0)))), ((qs12 6), .inl (kv_ca C 14, 91, .inl (fun _ => 0)))]) (K := 9) dX3_init_73 ib_X9_init tw2_71 rfl (Or.inr (by decide +kernel)) (k_X9_init) rfl rfl (Nat.le_of_ble_eq_true rfl) (by decide) (hrm _ _ (by decide) (by decide)) rfl (fun qs14 => ?_)
  show kv_Ev C _ _ _ [(h0, .inr (3, [.ref a1, .ref q1, .ref q2, .ref q3, .ref q4, .ref q5, .int 1])), (q1, .inl (kv_ca C 14, 91, .inl (fun _ => 0))), (q2, .inl (kv_ca C 14, 91, .inl (fun _ => 0))), (q3, .inl (kv_ca C 15, 13, .inr (.inl (fun _ => 0)))), (q4, .inl (kv_ca C 19, 4, .inr (.inr (.inr (.inr (va_up (va_up (va_up (fun _ => none) 0 (some q7)) 1 (some q9)) 2 (some q11))))))), (q5, .inr (9, [.ref (qs6 0), .ref (qs6 1), .ref (qs6 4)])), ((qs6 0), .inl (kv_ca C 15, 91, .inr (.inl (fun _ => 0)))), ((qs6 1), .inr (4, [.ref (qs6 2), .ref (qs6 3)])), ((qs6 2), .inl (kv_ca C 15, 91, .inr (.inl (fun _ => 0)))), ((qs6 3), .inl (kv_ca C 14, 91, .inl (fun _ => 0))), ((qs6 4), .inr (4, [.ref (qs6 5), .ref (qs6 6)])), ((qs6 5), .inl (kv_ca C 15, 91, .inr (.inl (fun _ => 0)))), ((qs6 6), .inl (kv_ca C 14, 91, .inl (fun _ => 0))), (q7, .inr (9, [.ref (qs8 0), .ref (qs8 1), .ref (qs8 4)])), ((qs8 0), .inl (kv_ca C 15, 91, .inr (.inl (fun _ => 0)))), ((qs8 1), .inr (4, [.ref (qs8 2), .ref (qs8 3)])), ((qs8 2), .inl (kv_ca C 15, 91, .inr (.inl (fun _ => 0)))), ((qs8 3), .inl (kv_ca C 14, 91, .inl (fun _ => 0))), ((qs8 4), .inr (4, [.ref (qs8 5), .ref (qs8 6)])), ((qs8 5), .inl (kv_ca C 15, 91, .inr (.inl (fun _ => 0)))), ((qs8 6), .inl (kv_ca C 14, 91, .inl (fun _ => 0))), (q9, .inr (9, [.ref (qs10 0), .ref (qs10 1), .ref (qs10 4)])), ((qs10 0), .inl (kv_ca C 15, 91, .inr (.inl (fun _ => 0)))), ((qs10 1), .inr (4, [.ref (qs10 2), .ref (qs10 3)])), ((qs10 2), .inl (kv_ca C 15, 91, .inr (.inl (fun _ => 0)))), ((qs10 3), .inl (kv_ca C 14, 91, .inl (fun _ => 0))), ((qs10 4), .inr (4, [.ref (qs10 5), .ref (qs10 6)])), ((qs10 5), .inl (kv_ca C 15, 91, .inr (.inl (fun _ => 0)))), ((qs10 6), .inl (kv_ca C 14, 91, .inl (fun _ => 0))), (q11, .inr (9, [.ref (qs12 0), .ref (qs12 1), .ref (qs12 4)])), ((qs12 0), .inl (kv_ca C 15, 91, .inr (.inl (fun _ => 0)))), ((qs12 1), .inr (4, [.ref (qs12 2), .ref (qs12 3)])), ((qs12 2), .inl (kv_ca C 15, 91, .inr (.inl (fun _ => 0)))), ((qs12 3), .inl (kv_ca C 14, 91, .inl (fun _ => 0))), ((qs12 4), .inr (4, [.ref (qs12 5), .ref (qs12 6)])), ((qs12 5), .inl (kv_ca C 15, 91, .inr (.inl (fun _ => 0)))), ((qs12 6), .inl (kv_ca C 14, 91, .inl (fun _ => 0))), (q13, .inr (9, [.ref (qs14 0), .ref (qs14 1), .ref (qs14 4)])), ((qs14 0), .inl (kv_ca C 15, 91, .inr (.inl (fun _ => 0)))), ((qs14 1), .inr (4, [.ref (qs14 2), .ref (qs14 3)])), ((qs14 2), .inl (kv_ca C 15, 91, .inr (.inl (fun _ => 0)))), ((qs14 3), .inl (kv_ca C 14, 91, .inl (fun _ => 0))), ((qs14 4), .inr (4, [.ref (qs14 5), .ref (qs14 6)])), ((qs14 5), .inl (kv_ca C 15, 91, .inr (.inl (fun _ => 0)))), ((qs14 6), .inl (kv_ca C 14, 91, .inl (fun _ => 0)))] _ _
  refine kv_ast F (K := 19) (Kc := 9) (i2 := 3) 4 37 dX3_init_76 (Or.inr (Or.inr ⟨rfl, rfl⟩)) rfl rfl rfl (ob_in_iff.mp rfl) (by decide) ?_
  show kv_Ev C _ _ _ [(h0, .inr (3, [.ref a1, .ref q1, .ref q2, .ref q3, .ref q4, .ref q5, .int 1])), (q1, .inl (kv_ca C 14, 91, .inl (fun _ => 0))), (q2, .inl (kv_ca C 14, 91, .inl (fun _ => 0))), (q3, .inl (kv_ca C 15, 13, .inr (.inl (fun _ => 0)))), (q4, .inl (kv_ca C 19, 4, .inr (.inr (.inr (.inr (va_up (va_up (va_up (va_up (fun _ => none) 0 (some q7)) 1 (some q9)) 2 (some q11)) 3 (some q13))))))), (q5, .inr (9, [.ref (qs6 0), .ref (qs6 1), .ref (qs6 4)])), ((qs6 0), .inl (kv_ca C 15, 91, .inr (.inl (fun _ => 0)))), ((qs6 1), .inr (4, [.ref (qs6 2), .ref (qs6 3)])), ((qs6 2), .inl (kv_ca C 15, 91, .inr (.inl (fun _ => 0)))), ((qs6 3), .inl (kv_ca C 14, 91, .inl (fun _ => 0))), ((qs6 4), .inr (4, [.ref (qs6 5), .ref (qs6 6)])), ((qs6 5), .inl (kv_ca C 15, 91, .inr (.inl (fun _ => 0)))), ((qs6 6), .inl (kv_ca C 14, 91, .inl (fun _ => 0))), (q7, .inr (9, [.ref (qs8 0), .ref (qs8 1), .ref (qs8 4)])), ((qs8 0), .inl (kv_ca C 15, 91, .inr (.inl (fun _ => 0)))), ((qs8 1), .inr (4, [.ref (qs8 2), .ref (qs8 3)])), ((qs8 2), .inl (kv_ca C 15, 91, .inr (.inl (fun _ => 0)))), ((qs8 3), .inl (kv_ca C 14, 91, .inl (fun _ => 0))), ((qs8 4), .inr (4, [.ref (qs8 5), .ref (qs8 6)])), ((qs8 5), .inl (kv_ca C 15, 91, .inr (.inl (fun _ => 0)))), ((qs8 6), .inl (kv_ca C 14, 91, .inl (fun _ => 0))), (q9, .inr (9, [.ref (qs10 0), .ref (qs10 1), .ref (qs10 4)])), ((qs10 0), .inl (kv_ca C 15, 91, .inr (.inl (fun _ => 0)))), ((qs10 1), .inr (4, [.ref (qs10 2), .ref (qs10 3)])), ((qs10 2), .inl (kv_ca C 15, 91, .inr (.inl (fun _ => 0)))), ((qs10 3), .inl (kv_ca C 14, 91, .inl (fun _ => 0))), ((qs10 4), .inr (4, [.ref (qs10 5), .ref (qs10 6)])), ((qs10 5), .inl (kv_ca C 15, 91, .inr (.inl (fun _ => 0)))), ((qs10 6), .inl (kv_ca C 14, 91, .inl (fun _ => 0))), (q11, .inr (9, [.ref (qs12 0), .ref (qs12 1), .ref (qs12 4)])), ((qs12 0), .inl (kv_ca C 15, 91, .inr (.inl (fun _ => 0)))), ((qs12 1), .inr (4, [.ref (qs12 2), .ref (qs12 3)])), ((qs12 2), .inl (kv_ca C 15, 91, .inr (.inl (fun _ => 0)))), ((qs12 3), .inl (kv_ca C 14, 91, .inl (fun _ => 0))), ((qs12 4), .inr (4, [.ref (qs12 5), .ref (qs12 6)])), ((qs12 5), .inl (kv_ca C 15, 91, .inr (.inl (fun _ => 0)))), ((qs12 6), .inl (kv_ca C 14, 91, .inl (fun _ => 0))), (q13, .inr (9, [.ref (qs14 0), .ref (qs14 1), .ref (qs14 4)])), ((qs14 0), .inl (kv_ca C 15, 91, .inr (.inl (fun _ => 0)))), ((qs14 1), .inr (4, [.ref (qs14 2), .ref (qs14 3)])), ((qs14 2), .inl (kv_ca C 15, 91, .inr (.inl (fun _ => 0)))), ((qs14 3), .inl (kv_ca C 14, 91, .inl (fun _ => 0))), ((qs14 4), .inr (4, [.ref (qs14 5), .ref (qs14 6)])), ((qs14 5), .inl (kv_ca C 15, 91, .inr (.inl (fun _ => 0)))), ((qs14 6), .inl (kv_ca C 14, 91, .inl (fun _ => 0)))] _ _
  refine kv_iinc F (v := 4) (ls2 := [(2, .int 4), (0, .ref h0), (1, .ref a1)]) 0 dX3_init_77 rfl (by decide) (by decide) rfl ?_
  refine kv_goto F 59 dX3_init_80 (by decide) ?_
  refine kv_iload_n F 0 dX3_init_59 rfl ?_
  refine kv_iconst F (v := 4) dX3_init_60 (by decide) ?_
  refine kv_icmp_ge F 83 dX3_init_61 (by decide) (fun _ => ?_) (fun h => absurd (by decide) h)
  exact kv_ret F dX3_init_83 (hRt (fun i => [q1, q2, q3, q4, q5, (qs6 0), (qs6 1), (qs6 2), (qs6 3), (qs6 4), (qs6 5), (qs6 6), q7, (qs8 0), (qs8 1), (qs8 2), (qs8 3), (qs8 4), (qs8 5), (qs8 6), q9, (qs10 0), (qs10 1), (qs10 2), (qs10 3), (qs10 4), (qs10 5), (qs10 6), q11, (qs12 0), (qs12 1), (qs12 2), (qs12 3), (qs12 4), (qs12 5), (qs12 6), q13, (qs14 0), (qs14 1), (qs14 2), (qs14 3), (qs14 4), (qs14 5), (qs14 6)].getD i 0))
-- X6_init
def W_X6_init (ca : Nat → ClassId) (a1 : Nat) (h0 : Nat) (qs : Nat → Nat) : va_W := [(h0, .inr (6, [.ref a1, .ref (qs 0), .ref (qs 1)])), ((qs 0), .inl (ca 15, 91, .inr (.inl (fun _ => 0)))), ((qs 1), .inl (ca 15, 91, .inr (.inl (fun _ => 0))))]
theorem k_X6_init {cf : ob_Cf} {a1 : Nat} : kv_Mt cf yX6_init cX6_init 2 1 24 2 182 6 [.ref a1] (W_X6_init cf.2.2.2 a1) := by
  refine kv_enter (by decide) rfl (fun h0 => Nat.le_of_ble_eq_true rfl) ?_
  intro h0 C hC F hI hrm hRt
  subst hC
  show kv_Ev C 0 [(0, .ref h0), (1, .ref a1)] [] _ 0 0
  refine kv_aload_n F 0 dX6_init_0 rfl ?_
  refine kv_obj F dX6_init_1 tw2_154 tw1_29 tw1_30 (by decide) (Nat.le_of_ble_eq_true rfl) ?_
  refine kv_aload_n F 0 dX6_init_4 rfl ?_
  refine kv_bipush F (v := 91) dX6_init_5 (by decide) ?_
  refine kv_newaJ F 91 dX6_init_7 ac_long (by decide) (by decide) (by decide) (hrm _ _ (by decide) (by decide)) (fun q1 => ?_)
  show kv_Ev C _ _ _ [(h0, .inr (6, [.null, .null, .null])), (q1, .inl (kv_ca C 15, 91, .inr (.inl (fun _ => 0))))] _ _
  refine kv_putF F (v := .ref q1) hI 0 dX6_init_9 kp_X6_9 rfl rfl rfl (Nat.le_of_ble_eq_true rfl) ?_
  show kv_Ev C _ _ _ [(h0, .inr (6, [.null, .ref q1, .null])), (q1, .inl (kv_ca C 15, 91, .inr (.inl (fun _ => 0))))] _ _
  refine kv_aload_n F 0 dX6_init_12 rfl ?_
  refine kv_bipush F (v := 91) dX6_init_13 (by decide) ?_
  refine kv_newaJ F 91 dX6_init_15 ac_long (by decide) (by decide) (by decide) (hrm _ _ (by decide) (by decide)) (fun q2 => ?_)
  show kv_Ev C _ _ _ [(h0, .inr (6, [.null, .ref q1, .null])), (q1, .inl (kv_ca C 15, 91, .inr (.inl (fun _ => 0)))), (q2, .inl (kv_ca C 15, 91, .inr (.inl (fun _ => 0))))] _ _
  refine kv_putF F (v := .ref q2) hI 0 dX6_init_17 kp_X6_15 rfl rfl rfl (Nat.le_of_ble_eq_true rfl) ?_
  show kv_Ev C _ _ _ [(h0, .inr (6, [.null, .ref q1, .ref q2])), (q1, .inl (kv_ca C 15, 91, .inr (.inl (fun _ => 0)))), (q2, .inl (kv_ca C 15, 91, .inr (.inl (fun _ => 0))))] _ _
  refine kv_aload_n F 0 dX6_init_20 rfl ?_
  refine kv_aload_n F 1 dX6_init_21 rfl ?_
  refine kv_putF F (v := .ref a1) hI 0 dX6_init_22 kp_X6_18 rfl rfl rfl (Nat.le_of_ble_eq_true rfl) ?_
  show kv_Ev C _ _ _ [(h0, .inr (6, [.ref a1, .ref q1, .ref q2])), (q1, .inl (kv_ca C 15, 91, .inr (.inl (fun _ => 0)))), (q2, .inl (kv_ca C 15, 91, .inr (.inl (fun _ => 0))))] _ _
  exact kv_ret F dX6_init_25 (hRt (fun i => [q1, q2].getD i 0))
-- X2_init
def W_X2_init (ca : Nat → ClassId) (a1 : Nat) (h0 : Nat) (qs : Nat → Nat) : va_W := [(h0, .inr (2, [.ref a1, .ref (qs 0), .ref (qs 3)])), ((qs 0), .inl (ca 21, 2, .inr (.inr (.inr (.inr (fun i => if i = 0 then some (qs 1) else some (qs 2))))))), ((qs 1), .inl (ca 15, 91, .inr (.inl (fun _ => 0)))), ((qs 2), .inl (ca 15, 91, .inr (.inl (fun _ => 0)))), ((qs 3), .inl (ca 20, 2, .inr (.inr (.inr (.inr (fun i => if i = 0 then some (qs 4) else some (qs 5))))))), ((qs 4), .inl (ca 14, 91, .inl (fun _ => 0))), ((qs 5), .inl (ca 14, 91, .inl (fun _ => 0)))]
theorem k_X2_init {cf : ob_Cf} {a1 : Nat} : kv_Mt cf yX2_init cX2_init 2 1 24 6 368 2 [.ref a1] (W_X2_init cf.2.2.2 a1) := by
  refine kv_enter (by decide) rfl (fun h0 => Nat.le_of_ble_eq_true rfl) ?_
  intro h0 C hC F hI hrm hRt
  subst hC
  show kv_Ev C 0 [(0, .ref h0), (1, .ref a1)] [] _ 0 0
  refine kv_aload_n F 0 dX2_init_0 rfl ?_
  refine kv_obj F dX2_init_1 tw2_170 tw1_29 tw1_30 (by decide) (Nat.le_of_ble_eq_true rfl) ?_
  refine kv_aload_n F 0 dX2_init_4 rfl ?_
  refine kv_iconst F (v := 2) dX2_init_5 (by decide) ?_
  refine kv_bipush F (v := 91) dX2_init_6 (by decide) ?_
  refine kv_mna F (ty := .long) (K := 21) (z := (91, .inr (.inl (fun _ => 0)))) dX2_init_8 (Or.inr ⟨rfl, rfl, rfl⟩) rfl rfl tw2_171 ac_long (hrm _ _ (by decide) (by decide)) (fun q1 q2 q3 => ?_)
  show kv_Ev C _ _ _ [(h0, .inr (2, [.null, .null, .null])), (q1, .inl (kv_ca C 21, 2, .inr (.inr (.inr (.inr (fun i => if i = 0 then some q2 else some q3)))))), (q2, .inl (kv_ca C 15, 91, .inr (.inl (fun _ => 0)))), (q3, .inl (kv_ca C 15, 91, .inr (.inl (fun _ => 0))))] _ _
  refine kv_putF F (v := .ref q1) hI 0 dX2_init_12 kp_X2_11 rfl rfl rfl (Nat.le_of_ble_eq_true rfl) ?_
  show kv_Ev C _ _ _ [(h0, .inr (2, [.null, .ref q1, .null])), (q1, .inl (kv_ca C 21, 2, .inr (.inr (.inr (.inr (fun i => if i = 0 then some q2 else some q3)))))), (q2, .inl (kv_ca C 15, 91, .inr (.inl (fun _ => 0)))), (q3, .inl (kv_ca C 15, 91, .inr (.inl (fun _ => 0))))] _ _
  refine kv_aload_n F 0 dX2_init_15 rfl ?_
  refine kv_iconst F (v := 2) dX2_init_16 (by decide) ?_
  refine kv_bipush F (v := 91) dX2_init_17 (by decide) ?_
  refine kv_mna F (ty := .int) (K := 20) (z := (91, .inl (fun _ => 0))) dX2_init_19 (Or.inl ⟨rfl, rfl, rfl⟩) rfl rfl tw2_173 ac_int (hrm _ _ (by decide) (by decide)) (fun q4 q5 q6 => ?_)
  show kv_Ev C _ _ _ [(h0, .inr (2, [.null, .ref q1, .null])), (q1, .inl (kv_ca C 21, 2, .inr (.inr (.inr (.inr (fun i => if i = 0 then some q2 else some q3)))))), (q2, .inl (kv_ca C 15, 91, .inr (.inl (fun _ => 0)))), (q3, .inl (kv_ca C 15, 91, .inr (.inl (fun _ => 0)))), (q4, .inl (kv_ca C 20, 2, .inr (.inr (.inr (.inr (fun i => if i = 0 then some q5 else some q6)))))), (q5, .inl (kv_ca C 14, 91, .inl (fun _ => 0))), (q6, .inl (kv_ca C 14, 91, .inl (fun _ => 0)))] _ _
  refine kv_putF F (v := .ref q4) hI 0 dX2_init_23 kp_X2_18 rfl rfl rfl (Nat.le_of_ble_eq_true rfl) ?_
  show kv_Ev C _ _ _ [(h0, .inr (2, [.null, .ref q1, .ref q4])), (q1, .inl (kv_ca C 21, 2, .inr (.inr (.inr (.inr (fun i => if i = 0 then some q2 else some q3)))))), (q2, .inl (kv_ca C 15, 91, .inr (.inl (fun _ => 0)))), (q3, .inl (kv_ca C 15, 91, .inr (.inl (fun _ => 0)))), (q4, .inl (kv_ca C 20, 2, .inr (.inr (.inr (.inr (fun i => if i = 0 then some q5 else some q6)))))), (q5, .inl (kv_ca C 14, 91, .inl (fun _ => 0))), (q6, .inl (kv_ca C 14, 91, .inl (fun _ => 0)))] _ _
  refine kv_aload_n F 0 dX2_init_26 rfl ?_
  refine kv_aload_n F 1 dX2_init_27 rfl ?_
  refine kv_putF F (v := .ref a1) hI 0 dX2_init_28 kp_X2_21 rfl rfl rfl (Nat.le_of_ble_eq_true rfl) ?_
  show kv_Ev C _ _ _ [(h0, .inr (2, [.ref a1, .ref q1, .ref q4])), (q1, .inl (kv_ca C 21, 2, .inr (.inr (.inr (.inr (fun i => if i = 0 then some q2 else some q3)))))), (q2, .inl (kv_ca C 15, 91, .inr (.inl (fun _ => 0)))), (q3, .inl (kv_ca C 15, 91, .inr (.inl (fun _ => 0)))), (q4, .inl (kv_ca C 20, 2, .inr (.inr (.inr (.inr (fun i => if i = 0 then some q5 else some q6)))))), (q5, .inl (kv_ca C 14, 91, .inl (fun _ => 0))), (q6, .inl (kv_ca C 14, 91, .inl (fun _ => 0)))] _ _
  exact kv_ret F dX2_init_31 (hRt (fun i => [q1, q2, q3, q4, q5, q6].getD i 0))
-- X8_init
def W_X8_init (ca : Nat → ClassId) (a1 : Nat) (h0 : Nat) (qs : Nat → Nat) : va_W := [(h0, .inr (8, [.ref a1, .ref (qs 0), .ref (qs 1), .ref (qs 2), .int 0])), ((qs 0), .inl (ca 15, 91, .inr (.inl (fun _ => 0)))), ((qs 1), .inl (ca 15, 91, .inr (.inl (fun _ => 0)))), ((qs 2), .inl (ca 14, 92, .inl (fun _ => 0)))]
theorem k_X8_init {cf : ob_Cf} {a1 : Nat} : kv_Mt cf yX8_init cX8_init 2 1 24 3 274 8 [.ref a1] (W_X8_init cf.2.2.2 a1) := by
  refine kv_enter (by decide) rfl (fun h0 => Nat.le_of_ble_eq_true rfl) ?_
  intro h0 C hC F hI hrm hRt
  subst hC
  show kv_Ev C 0 [(0, .ref h0), (1, .ref a1)] [] _ 0 0
  refine kv_aload_n F 0 dX8_init_0 rfl ?_
  refine kv_obj F dX8_init_1 tw2_190 tw1_29 tw1_30 (by decide) (Nat.le_of_ble_eq_true rfl) ?_
  refine kv_aload_n F 0 dX8_init_4 rfl ?_
  refine kv_bipush F (v := 91) dX8_init_5 (by decide) ?_
  refine kv_newaJ F 91 dX8_init_7 ac_long (by decide) (by decide) (by decide) (hrm _ _ (by decide) (by decide)) (fun q1 => ?_)
  show kv_Ev C _ _ _ [(h0, .inr (8, [.null, .null, .null, .null, .int 0])), (q1, .inl (kv_ca C 15, 91, .inr (.inl (fun _ => 0))))] _ _
  refine kv_putF F (v := .ref q1) hI 0 dX8_init_9 kp_X8_9 rfl rfl rfl (Nat.le_of_ble_eq_true rfl) ?_
  show kv_Ev C _ _ _ [(h0, .inr (8, [.null, .ref q1, .null, .null, .int 0])), (q1, .inl (kv_ca C 15, 91, .inr (.inl (fun _ => 0))))] _ _
  refine kv_aload_n F 0 dX8_init_12 rfl ?_
  refine kv_bipush F (v := 91) dX8_init_13 (by decide) ?_
  refine kv_newaJ F 91 dX8_init_15 ac_long (by decide) (by decide) (by decide) (hrm _ _ (by decide) (by decide)) (fun q2 => ?_)
  show kv_Ev C _ _ _ [(h0, .inr (8, [.null, .ref q1, .null, .null, .int 0])), (q1, .inl (kv_ca C 15, 91, .inr (.inl (fun _ => 0)))), (q2, .inl (kv_ca C 15, 91, .inr (.inl (fun _ => 0))))] _ _
  refine kv_putF F (v := .ref q2) hI 0 dX8_init_17 kp_X8_15 rfl rfl rfl (Nat.le_of_ble_eq_true rfl) ?_
  show kv_Ev C _ _ _ [(h0, .inr (8, [.null, .ref q1, .ref q2, .null, .int 0])), (q1, .inl (kv_ca C 15, 91, .inr (.inl (fun _ => 0)))), (q2, .inl (kv_ca C 15, 91, .inr (.inl (fun _ => 0))))] _ _
  refine kv_aload_n F 0 dX8_init_20 rfl ?_
  refine kv_bipush F (v := 92) dX8_init_21 (by decide) ?_
  refine kv_newaI F 92 dX8_init_23 ac_int (by decide) (by decide) (by decide) (hrm _ _ (by decide) (by decide)) (fun q3 => ?_)
  show kv_Ev C _ _ _ [(h0, .inr (8, [.null, .ref q1, .ref q2, .null, .int 0])), (q1, .inl (kv_ca C 15, 91, .inr (.inl (fun _ => 0)))), (q2, .inl (kv_ca C 15, 91, .inr (.inl (fun _ => 0)))), (q3, .inl (kv_ca C 14, 92, .inl (fun _ => 0)))] _ _
  refine kv_putF F (v := .ref q3) hI 0 dX8_init_25 kp_X8_18 rfl rfl rfl (Nat.le_of_ble_eq_true rfl) ?_
  show kv_Ev C _ _ _ [(h0, .inr (8, [.null, .ref q1, .ref q2, .ref q3, .int 0])), (q1, .inl (kv_ca C 15, 91, .inr (.inl (fun _ => 0)))), (q2, .inl (kv_ca C 15, 91, .inr (.inl (fun _ => 0)))), (q3, .inl (kv_ca C 14, 92, .inl (fun _ => 0)))] _ _
  refine kv_aload_n F 0 dX8_init_28 rfl ?_
  refine kv_iconst F (v := 0) dX8_init_29 (by decide) ?_
  refine kv_put F (v := .int 0) hI 0 dX8_init_30 kp_X8_22 rfl rfl rfl (Nat.le_of_ble_eq_true rfl) ?_
  show kv_Ev C _ _ _ [(h0, .inr (8, [.null, .ref q1, .ref q2, .ref q3, .int 0])), (q1, .inl (kv_ca C 15, 91, .inr (.inl (fun _ => 0)))), (q2, .inl (kv_ca C 15, 91, .inr (.inl (fun _ => 0)))), (q3, .inl (kv_ca C 14, 92, .inl (fun _ => 0)))] _ _
  refine kv_aload_n F 0 dX8_init_33 rfl ?_
  refine kv_aload_n F 1 dX8_init_34 rfl ?_
  refine kv_putF F (v := .ref a1) hI 0 dX8_init_35 kp_X8_26 rfl rfl rfl (Nat.le_of_ble_eq_true rfl) ?_
  show kv_Ev C _ _ _ [(h0, .inr (8, [.ref a1, .ref q1, .ref q2, .ref q3, .int 0])), (q1, .inl (kv_ca C 15, 91, .inr (.inl (fun _ => 0)))), (q2, .inl (kv_ca C 15, 91, .inr (.inl (fun _ => 0)))), (q3, .inl (kv_ca C 14, 92, .inl (fun _ => 0)))] _ _
  exact kv_ret F dX8_init_38 (hRt (fun i => [q1, q2, q3].getD i 0))
