-- X12_price
def f_X12_price (g : ob_St) (n0 : Nat) (x1 : Int32) (x2 : Int32) (x3 : Int32) : Option (Int32 × ob_St) :=
  (ob_pI g 12 n0 0 0).bind fun g1 => (ob_ck 12 n0 (f_X12_isNode g1 n0 x1 x2)).bind fun v2 => (if v2 = 0 then (some ((-1), g1)) else ((f_X12_isIn x3 0 2).bind fun v3 => (if v3 = 0 then (some ((-1), g1)) else ((if x3 = 0 then ((ob_ck 12 n0 (f_X12_priceAt g1 n0 x1 x2)).bind fun v7 => some (v7, g1)) else ((if x3 = 1 then ((ob_ck 12 n0 (f_X12_stripped g1 n0 x1 x2)).bind fun v5 => (ob_ck 12 n0 (f_X12_cashFrom g1 n0 (x1 + 1))).bind fun v6 => some ((v5 + v6), g1)) else ((ob_ck 12 n0 (f_X12_stripped g1 n0 x1 x2)).bind fun v4 => some (v4, g1)))))))))
theorem b_X12_price_0 {C : ob_Cx} (F : ob_Fx C cX12_price 4 RX12 (some .int) 2 46) {g : ob_St} {n0 : Nat} {x1 : Int32} {x2 : Int32} {x3 : Int32} {r : (Int32 × ob_St)} (h : f_X12_price g n0 x1 x2 x3 = some r) (k : ob_Rt C (some (.int r.1)) r.2) : ob_Ev C 0 [(0, ob_rv C n0), (1, .int x1), (2, .int x2), (3, .int x3)] [] g := by
  unfold f_X12_price at h
  refine ob_rload_n F 0 dX12_price_0 rfl ?_
  refine ob_iconst F (v := 0) dX12_price_1 (by decide) ?_
  refine ob_putI F dX12_price_2 fp_X12_1 h fun g1 h => ?_
  refine ob_rload_n F 0 dX12_price_5 rfl ?_
  refine ob_iload_n F 1 dX12_price_6 rfl ?_
  refine ob_iload_n F 2 dX12_price_7 rfl ?_
  refine ob_cVi F dX12_price_8 im_X12_isNode tw6_162 h (fun b hb => t_X12_isNode hb) rfl rfl (Nat.le_of_ble_eq_true rfl) (by decide) fun v2 h => ?_
  refine ob_if_eq F 23 dX12_price_11 (by decide) h (fun h => ?_) (fun h => ?_)
  · refine ob_iconst F (v := (-1)) dX12_price_23 (by decide) ?_
    obtain rfl := Option.some.inj h
    exact ob_iret F dX12_price_24 k
  · refine ob_iload_n F 3 dX12_price_14 rfl ?_
    refine ob_iconst F (v := 0) dX12_price_15 (by decide) ?_
    refine ob_iconst F (v := 2) dX12_price_16 (by decide) ?_
    refine ob_cSi F dX12_price_17 im_X12_isIn tw6_67 h (fun b hb => t_X12_isIn hb) rfl rfl (Nat.le_of_ble_eq_true rfl) (by decide) fun v3 h => ?_
    refine ob_if_ne F 25 dX12_price_20 (by decide) h (fun h => ?_) (fun h => ?_)
    · refine ob_iload_n F 3 dX12_price_25 rfl ?_
      refine ob_if_ne F 38 dX12_price_26 (by decide) h (fun h => ?_) (fun h => ?_)
      · refine ob_iload_n F 3 dX12_price_38 rfl ?_
        refine ob_iconst F (v := 1) dX12_price_39 (by decide) ?_
        refine ob_icmp_ne F 60 dX12_price_40 (by decide) h (fun h => ?_) (fun h => ?_)
        · refine ob_rload_n F 0 dX12_price_60 rfl ?_
          refine ob_iload_n F 1 dX12_price_61 rfl ?_
          refine ob_iload_n F 2 dX12_price_62 rfl ?_
          refine ob_cVi F dX12_price_63 im_X12_stripped tw6_170 h (fun b hb => t_X12_stripped hb) rfl rfl (Nat.le_of_ble_eq_true rfl) (by decide) fun v4 h => ?_
          obtain rfl := Option.some.inj h
          exact ob_iret F dX12_price_66 k
        · refine ob_rload_n F 0 dX12_price_43 rfl ?_
          refine ob_iload_n F 1 dX12_price_44 rfl ?_
          refine ob_iload_n F 2 dX12_price_45 rfl ?_
          refine ob_cVi F dX12_price_46 im_X12_stripped tw6_170 h (fun b hb => t_X12_stripped hb) rfl rfl (Nat.le_of_ble_eq_true rfl) (by decide) fun v5 h => ?_
          refine ob_rload_n F 0 dX12_price_49 rfl ?_
          refine ob_iload_n F 1 dX12_price_50 rfl ?_
          refine ob_iconst F (v := 1) dX12_price_51 (by decide) ?_
          refine ob_iadd F dX12_price_52 ?_
          refine ob_cVi F dX12_price_53 im_X12_cashFrom tw6_133 h (fun b hb => t_X12_cashFrom hb) rfl rfl (Nat.le_of_ble_eq_true rfl) (by decide) fun v6 h => ?_
          refine ob_iadd F dX12_price_56 ?_
          refine ob_goto F 66 dX12_price_57 (by decide) ?_
          obtain rfl := Option.some.inj h
          exact ob_iret F dX12_price_66 k
      · refine ob_rload_n F 0 dX12_price_29 rfl ?_
        refine ob_iload_n F 1 dX12_price_30 rfl ?_
        refine ob_iload_n F 2 dX12_price_31 rfl ?_
        refine ob_cVi F dX12_price_32 im_X12_priceAt tw6_166 h (fun b hb => t_X12_priceAt hb) rfl rfl (Nat.le_of_ble_eq_true rfl) (by decide) fun v7 h => ?_
        refine ob_goto F 66 dX12_price_35 (by decide) ?_
        obtain rfl := Option.some.inj h
        exact ob_iret F dX12_price_66 k
    · refine ob_iconst F (v := (-1)) dX12_price_23 (by decide) ?_
      obtain rfl := Option.some.inj h
      exact ob_iret F dX12_price_24 k
theorem t_X12_price {cf : ob_Cf} {g : ob_St} {n0 : Nat} {x1 : Int32} {x2 : Int32} {x3 : Int32} {r : (Int32 × ob_St)} (h : f_X12_price g n0 x1 x2 x3 = some r) : ob_Mt cf yX12_price cX12_price 4 (some .int) 2 46 [ob_rw cf n0, .int x1, .int x2, .int x3] g (some (.int r.1)) r.2 := by
  refine ob_enter (by decide) (Nat.le_of_ble_eq_true rfl) (Or.inl rfl) ?_
  intro C hC F k
  subst hC
  exact b_X12_price_0 F h k
-- X12_cell
def f_X12_cell (x0 : Int32) (x1 : Int32) (x2 : Int32) : Option Int32 :=
  some (((169 * x0) + (13 * x1)) + x2)
theorem b_X12_cell_0 {C : ob_Cx} (F : ob_Fx C cX12_cell 3 RX12 (some .int) 0 0) {g : ob_St} {x0 : Int32} {x1 : Int32} {x2 : Int32} {r : Int32} (h : f_X12_cell x0 x1 x2 = some r) (k : ob_Rt C (some (.int r)) g) : ob_Ev C 0 [(0, .int x0), (1, .int x1), (2, .int x2)] [] g := by
  unfold f_X12_cell at h
  refine ob_sipush F (v := 169) dX12_cell_0 (by decide) ?_
  refine ob_iload_n F 0 dX12_cell_3 rfl ?_
  refine ob_imul F dX12_cell_4 ?_
  refine ob_bipush F (v := 13) dX12_cell_5 (by decide) ?_
  refine ob_iload_n F 1 dX12_cell_7 rfl ?_
  refine ob_imul F dX12_cell_8 ?_
  refine ob_iadd F dX12_cell_9 ?_
  refine ob_iload_n F 2 dX12_cell_10 rfl ?_
  refine ob_iadd F dX12_cell_11 ?_
  obtain rfl := Option.some.inj h
  exact ob_iret F dX12_cell_12 k
theorem t_X12_cell {cf : ob_Cf} {g : ob_St} {x0 : Int32} {x1 : Int32} {x2 : Int32} {r : Int32} (h : f_X12_cell x0 x1 x2 = some r) : ob_Mt cf yX12_cell cX12_cell 3 (some .int) 0 0 [.int x0, .int x1, .int x2] g (some (.int r)) g := by
  refine ob_enter (by decide) (Nat.le_of_ble_eq_true rfl) (Or.inl rfl) ?_
  intro C hC F k
  subst hC
  exact b_X12_cell_0 F h k
-- X12_may
def f_X12_may (g : ob_St) (n0 : Nat) (x1 : Int32) (x2 : Int32) : Option Int32 :=
  (ob_ck 12 n0 (f_X12_firstMay g n0 x1)).bind fun v1 => (if x2 < v1 then (some 0) else (some 1))
theorem b_X12_may_0 {C : ob_Cx} (F : ob_Fx C cX12_may 3 RX12 (some .boolean) 2 43) {g : ob_St} {n0 : Nat} {x1 : Int32} {x2 : Int32} {r : Int32} (h : f_X12_may g n0 x1 x2 = some r) (k : ob_Rt C (some (.int r)) g) : ob_Ev C 0 [(0, ob_rv C n0), (1, .int x1), (2, .int x2)] [] g := by
  unfold f_X12_may at h
  refine ob_iload_n F 2 dX12_may_0 rfl ?_
  refine ob_rload_n F 0 dX12_may_1 rfl ?_
  refine ob_iload_n F 1 dX12_may_2 rfl ?_
  refine ob_cVi F dX12_may_3 im_X12_firstMay tw6_150 h (fun b hb => t_X12_firstMay hb) rfl rfl (Nat.le_of_ble_eq_true rfl) (by decide) fun v1 h => ?_
  refine ob_icmp_lt F 13 dX12_may_6 (by decide) h (fun h => ?_) (fun h => ?_)
  · refine ob_iconst F (v := 0) dX12_may_13 (by decide) ?_
    obtain rfl := Option.some.inj h
    exact ob_zret F dX12_may_14 (Or.inl rfl) k
  · refine ob_iconst F (v := 1) dX12_may_9 (by decide) ?_
    refine ob_goto F 14 dX12_may_10 (by decide) ?_
    obtain rfl := Option.some.inj h
    exact ob_zret F dX12_may_14 (Or.inr rfl) k
theorem t_X12_may {cf : ob_Cf} {g : ob_St} {n0 : Nat} {x1 : Int32} {x2 : Int32} {r : Int32} (h : f_X12_may g n0 x1 x2 = some r) : ob_Mt cf yX12_may cX12_may 3 (some .boolean) 2 43 [ob_rw cf n0, .int x1, .int x2] g (some (.int r)) g := by
  refine ob_enter (by decide) (Nat.le_of_ble_eq_true rfl) (Or.inr rfl) ?_
  intro C hC F k
  subst hC
  exact b_X12_may_0 F h k
-- X12_isTouched
def f_X12_isTouched (g : ob_St) (n0 : Nat) (x1 : Int32) (x2 : Int32) (x3 : Int32) : Option Int32 :=
  (ob_ck 12 n0 (f_X12_get g n0 x1 5)).bind fun v1 => (if v1 = 1 then ((ob_ck 12 n0 (f_X12_priceAt g n0 x2 x3)).bind fun v4 => (ob_ck 12 n0 (f_X12_get g n0 x1 6)).bind fun v5 => (if v4 < v5 then (some 0) else (some 1))) else ((ob_ck 12 n0 (f_X12_priceAt g n0 x2 x3)).bind fun v2 => (ob_ck 12 n0 (f_X12_get g n0 x1 6)).bind fun v3 => (if v3 < v2 then (some 0) else (some 1))))
theorem b_X12_isTouched_0 {C : ob_Cx} (F : ob_Fx C cX12_isTouched 4 RX12 (some .boolean) 2 46) {g : ob_St} {n0 : Nat} {x1 : Int32} {x2 : Int32} {x3 : Int32} {r : Int32} (h : f_X12_isTouched g n0 x1 x2 x3 = some r) (k : ob_Rt C (some (.int r)) g) : ob_Ev C 0 [(0, ob_rv C n0), (1, .int x1), (2, .int x2), (3, .int x3)] [] g := by
  unfold f_X12_isTouched at h
  refine ob_rload_n F 0 dX12_isTouched_0 rfl ?_
  refine ob_iload_n F 1 dX12_isTouched_1 rfl ?_
  refine ob_iconst F (v := 5) dX12_isTouched_2 (by decide) ?_
  refine ob_cVi F dX12_isTouched_3 im_X12_get tw6_154 h (fun b hb => t_X12_get hb) rfl rfl (Nat.le_of_ble_eq_true rfl) (by decide) fun v1 h => ?_
  refine ob_iconst F (v := 1) dX12_isTouched_6 (by decide) ?_
  refine ob_icmp_ne F 34 dX12_isTouched_7 (by decide) h (fun h => ?_) (fun h => ?_)
  · refine ob_rload_n F 0 dX12_isTouched_34 rfl ?_
    refine ob_iload_n F 2 dX12_isTouched_35 rfl ?_
    refine ob_iload_n F 3 dX12_isTouched_36 rfl ?_
    refine ob_cVi F dX12_isTouched_37 im_X12_priceAt tw6_166 h (fun b hb => t_X12_priceAt hb) rfl rfl (Nat.le_of_ble_eq_true rfl) (by decide) fun v2 h => ?_
    refine ob_rload_n F 0 dX12_isTouched_40 rfl ?_
    refine ob_iload_n F 1 dX12_isTouched_41 rfl ?_
    refine ob_bipush F (v := 6) dX12_isTouched_42 (by decide) ?_
    refine ob_cVi F dX12_isTouched_44 im_X12_get tw6_154 h (fun b hb => t_X12_get hb) rfl rfl (Nat.le_of_ble_eq_true rfl) (by decide) fun v3 h => ?_
    refine ob_icmp_gt F 54 dX12_isTouched_47 (by decide) h (fun h => ?_) (fun h => ?_)
    · refine ob_iconst F (v := 0) dX12_isTouched_54 (by decide) ?_
      obtain rfl := Option.some.inj h
      exact ob_zret F dX12_isTouched_55 (Or.inl rfl) k
    · refine ob_iconst F (v := 1) dX12_isTouched_50 (by decide) ?_
      refine ob_goto F 55 dX12_isTouched_51 (by decide) ?_
      obtain rfl := Option.some.inj h
      exact ob_zret F dX12_isTouched_55 (Or.inr rfl) k
  · refine ob_rload_n F 0 dX12_isTouched_10 rfl ?_
    refine ob_iload_n F 2 dX12_isTouched_11 rfl ?_
    refine ob_iload_n F 3 dX12_isTouched_12 rfl ?_
    refine ob_cVi F dX12_isTouched_13 im_X12_priceAt tw6_166 h (fun b hb => t_X12_priceAt hb) rfl rfl (Nat.le_of_ble_eq_true rfl) (by decide) fun v4 h => ?_
    refine ob_rload_n F 0 dX12_isTouched_16 rfl ?_
    refine ob_iload_n F 1 dX12_isTouched_17 rfl ?_
    refine ob_bipush F (v := 6) dX12_isTouched_18 (by decide) ?_
    refine ob_cVi F dX12_isTouched_20 im_X12_get tw6_154 h (fun b hb => t_X12_get hb) rfl rfl (Nat.le_of_ble_eq_true rfl) (by decide) fun v5 h => ?_
    refine ob_icmp_lt F 30 dX12_isTouched_23 (by decide) h (fun h => ?_) (fun h => ?_)
    · refine ob_iconst F (v := 0) dX12_isTouched_30 (by decide) ?_
      refine ob_goto F 55 dX12_isTouched_31 (by decide) ?_
      obtain rfl := Option.some.inj h
      exact ob_zret F dX12_isTouched_55 (Or.inl rfl) k
    · refine ob_iconst F (v := 1) dX12_isTouched_26 (by decide) ?_
      refine ob_goto F 55 dX12_isTouched_27 (by decide) ?_
      obtain rfl := Option.some.inj h
      exact ob_zret F dX12_isTouched_55 (Or.inr rfl) k
theorem t_X12_isTouched {cf : ob_Cf} {g : ob_St} {n0 : Nat} {x1 : Int32} {x2 : Int32} {x3 : Int32} {r : Int32} (h : f_X12_isTouched g n0 x1 x2 x3 = some r) : ob_Mt cf yX12_isTouched cX12_isTouched 4 (some .boolean) 2 46 [ob_rw cf n0, .int x1, .int x2, .int x3] g (some (.int r)) g := by
  refine ob_enter (by decide) (Nat.le_of_ble_eq_true rfl) (Or.inr rfl) ?_
  intro C hC F k
  subst hC
  exact b_X12_isTouched_0 F h k
-- X12_powerAt
def f_X12_powerAt (g : ob_St) (n0 : Nat) (x1 : Int32) : Option Int64 :=
  (ob_gR 12 n0 22).bind fun v1 => (ob_gR 12 n0 1).bind fun v2 => (ob_rI g 14 v2 2).bind fun v3 => (ob_rL g v1 (v3 - x1)).bind fun v4 => some v4
theorem b_X12_powerAt_0 {C : ob_Cx} (F : ob_Fx C cX12_powerAt 2 RX12 (some .long) 0 0) {g : ob_St} {n0 : Nat} {x1 : Int32} {r : Int64} (h : f_X12_powerAt g n0 x1 = some r) (k : ob_Rt C (some (.long r)) g) : ob_Ev C 0 [(0, ob_rv C n0), (1, .int x1)] [] g := by
  unfold f_X12_powerAt at h
  refine ob_rload_n F 0 dX12_powerAt_0 rfl ?_
  refine ob_getR F dX12_powerAt_1 fl_X12_47 h fun v1 h => ?_
  refine ob_rload_n F 0 dX12_powerAt_4 rfl ?_
  refine ob_getR F dX12_powerAt_5 fl_X12_13 h fun v2 h => ?_
  refine ob_iconst F (v := 2) dX12_powerAt_8 (by decide) ?_
  refine ob_iald F dX12_powerAt_9 h fun v3 h => ?_
  refine ob_iload_n F 1 dX12_powerAt_10 rfl ?_
  refine ob_isub F dX12_powerAt_11 ?_
  refine ob_lald F dX12_powerAt_12 h fun v4 h => ?_
  obtain rfl := Option.some.inj h
  exact ob_lret F dX12_powerAt_13 k
theorem t_X12_powerAt {cf : ob_Cf} {g : ob_St} {n0 : Nat} {x1 : Int32} {r : Int64} (h : f_X12_powerAt g n0 x1 = some r) : ob_Mt cf yX12_powerAt cX12_powerAt 2 (some .long) 0 0 [ob_rw cf n0, .int x1] g (some (.long r)) g := by
  refine ob_enter (by decide) (Nat.le_of_ble_eq_true rfl) rfl ?_
  intro C hC F k
  subst hC
  exact b_X12_powerAt_0 F h k
-- X12_above0
def f_X12_above0 (y0 : Int64) : Option Int64 :=
  (if y0 ≤ 0 then (some 0) else (some y0))
theorem b_X12_above0_0 {C : ob_Cx} (F : ob_Fx C cX12_above0 2 RX12 (some .long) 0 0) {g : ob_St} {y0 : Int64} {r : Int64} (h : f_X12_above0 y0 = some r) (k : ob_Rt C (some (.long r)) g) : ob_Ev C 0 [(0, .long y0)] [] g := by
  unfold f_X12_above0 at h
  refine ob_lload_n F 0 dX12_above0_0 rfl ?_
  refine ob_lconst F (v := 0) dX12_above0_1 (by decide) ?_
  refine ob_lcmp_le F 10 dX12_above0_2 dX12_above0_3 (by decide) h (fun h => ?_) (fun h => ?_)
  · refine ob_lconst F (v := 0) dX12_above0_10 (by decide) ?_
    obtain rfl := Option.some.inj h
    exact ob_lret F dX12_above0_11 k
  · refine ob_lload_n F 0 dX12_above0_6 rfl ?_
    refine ob_goto F 11 dX12_above0_7 (by decide) ?_
    obtain rfl := Option.some.inj h
    exact ob_lret F dX12_above0_11 k
theorem t_X12_above0 {cf : ob_Cf} {g : ob_St} {y0 : Int64} {r : Int64} (h : f_X12_above0 y0 = some r) : ob_Mt cf yX12_above0 cX12_above0 2 (some .long) 0 0 [.long y0] g (some (.long r)) g := by
  refine ob_enter (by decide) (Nat.le_of_ble_eq_true rfl) rfl ?_
  intro C hC F k
  subst hC
  exact b_X12_above0_0 F h k
-- X12_paysAt
def B_X12_paysAt_143 (g : ob_St) (n0 : Nat) (x2 : Int32) (s0 : Int32) : Option Int64 :=
  (ob_ck 12 n0 (f_X12_powerAt g n0 x2)).bind fun v10 => some ((Int32.toInt64 s0) * v10)
theorem b_X12_paysAt_143 {C : ob_Cx} (F : ob_Fx C cX12_paysAt 7 RX12 (some .long) 2 46) {g : ob_St} {n0 : Nat} {x2 : Int32} {s0 : Int32} {r : Int64} (h : B_X12_paysAt_143 g n0 x2 s0 = some r) (k : ob_Rt C (some (.long r)) g) : ob_Ev C 143 [(0, ob_rv C n0), (2, .int x2)] [.int s0] g := by
  unfold B_X12_paysAt_143 at h
  refine ob_i2l F dX12_paysAt_143 ?_
  refine ob_rload_n F 0 dX12_paysAt_144 rfl ?_
  refine ob_iload_n F 1 dX12_paysAt_145 rfl ?_
  refine ob_cVl F dX12_paysAt_146 im_X12_powerAt tw6_219 h (fun b hb => t_X12_powerAt hb) rfl rfl (Nat.le_of_ble_eq_true rfl) (by decide) fun v10 h => ?_
  refine ob_lmul F dX12_paysAt_149 ?_
  obtain rfl := Option.some.inj h
  exact ob_lret F dX12_paysAt_150 k
def B_X12_paysAt_164 (g : ob_St) (n0 : Nat) (x2 : Int32) (s0 : Int32) : Option Int64 :=
  (ob_ck 12 n0 (f_X12_powerAt g n0 x2)).bind fun v11 => some ((Int32.toInt64 s0) * v11)
theorem b_X12_paysAt_164 {C : ob_Cx} (F : ob_Fx C cX12_paysAt 7 RX12 (some .long) 2 46) {g : ob_St} {n0 : Nat} {x2 : Int32} {s0 : Int32} {r : Int64} (h : B_X12_paysAt_164 g n0 x2 s0 = some r) (k : ob_Rt C (some (.long r)) g) : ob_Ev C 164 [(0, ob_rv C n0), (2, .int x2)] [.int s0] g := by
  unfold B_X12_paysAt_164 at h
  refine ob_i2l F dX12_paysAt_164 ?_
  refine ob_rload_n F 0 dX12_paysAt_165 rfl ?_
  refine ob_iload_n F 1 dX12_paysAt_166 rfl ?_
  refine ob_cVl F dX12_paysAt_167 im_X12_powerAt tw6_219 h (fun b hb => t_X12_powerAt hb) rfl rfl (Nat.le_of_ble_eq_true rfl) (by decide) fun v11 h => ?_
  refine ob_lmul F dX12_paysAt_170 ?_
  obtain rfl := Option.some.inj h
  exact ob_lret F dX12_paysAt_171 k
def f_X12_paysAt (g : ob_St) (n0 : Nat) (x1 : Int32) (x2 : Int32) (x3 : Int32) : Option Int64 :=
  (ob_ck 12 n0 (f_X12_get g n0 x1 1)).bind fun v1 => (ob_ck 12 n0 (f_X12_priceAt g n0 x2 x3)).bind fun v2 => (ob_ck 12 n0 (f_X12_get g n0 x1 2)).bind fun v3 => (ob_ck 12 n0 (f_X12_get g n0 x1 0)).bind fun v4 => (if v4 = 0 then ((f_X12_above0 (Int32.toInt64 (v2 - v1))).bind fun v5 => (ob_ck 12 n0 (f_X12_powerAt g n0 x2)).bind fun v6 => some (v5 * v6)) else (if v4 = 1 then ((f_X12_above0 (Int32.toInt64 (-(v2 - v1)))).bind fun v7 => (ob_ck 12 n0 (f_X12_powerAt g n0 x2)).bind fun v8 => some (v7 * v8)) else (if v4 = 2 then ((if (v2 - v1) < 0 then (some 0) else ((ob_ck 12 n0 (f_X12_powerAt g n0 x2)).bind fun v9 => some ((Int32.toInt64 v3) * v9)))) else (if v4 = 3 then ((if 0 ≤ (v2 - v1) then ((if (v3 - v1) ≤ (v2 - v1) then (B_X12_paysAt_143 g n0 x2 (v3 - v1)) else (B_X12_paysAt_143 g n0 x2 (v2 - v1)))) else (B_X12_paysAt_143 g n0 x2 0))) else (if v4 = 4 then ((if 0 ≤ (v2 - v1) then (B_X12_paysAt_164 g n0 x2 (v2 - v1)) else (B_X12_paysAt_164 g n0 x2 (-(v2 - v1))))) else ((ob_gR 12 n0 20).bind fun v12 => (f_X12_cell v3 x2 x3).bind fun v13 => (ob_rL g v12 v13).bind fun v14 => (ob_ck 12 n0 (f_X12_powerAt g n0 x2)).bind fun v15 => (f_X12_above0 (v14 - ((Int32.toInt64 v1) * v15))).bind fun v16 => some v16))))))
theorem b_X12_paysAt_0 {C : ob_Cx} (F : ob_Fx C cX12_paysAt 7 RX12 (some .long) 2 46) {g : ob_St} {n0 : Nat} {x1 : Int32} {x2 : Int32} {x3 : Int32} {r : Int64} (h : f_X12_paysAt g n0 x1 x2 x3 = some r) (k : ob_Rt C (some (.long r)) g) : ob_Ev C 0 [(0, ob_rv C n0), (1, .int x1), (2, .int x2), (3, .int x3)] [] g := by
  unfold f_X12_paysAt at h
  refine ob_rload_n F 0 dX12_paysAt_0 rfl ?_
  refine ob_iload_n F 1 dX12_paysAt_1 rfl ?_
  refine ob_iconst F (v := 1) dX12_paysAt_2 (by decide) ?_
  refine ob_cVi F dX12_paysAt_3 im_X12_get tw6_154 h (fun b hb => t_X12_get hb) rfl rfl (Nat.le_of_ble_eq_true rfl) (by decide) fun v1 h => ?_
  refine ob_istore F (ls2 := [(4, .int v1), (0, ob_rv C n0), (1, .int x1), (2, .int x2), (3, .int x3)]) dX12_paysAt_6 (by decide) rfl ?_
  refine ob_rload_n F 1 dX12_paysAt_8 rfl ?_
  refine ob_iload_n F 3 dX12_paysAt_9 rfl ?_
  refine ob_iload_n F 4 dX12_paysAt_10 rfl ?_
  refine ob_cVi F dX12_paysAt_11 im_X12_priceAt tw6_166 h (fun b hb => t_X12_priceAt hb) rfl rfl (Nat.le_of_ble_eq_true rfl) (by decide) fun v2 h => ?_
  refine ob_iload F 0 dX12_paysAt_14 rfl ?_
  refine ob_isub F dX12_paysAt_16 ?_
  refine ob_istore F (ls2 := [(5, .int (v2 - v1)), (4, .int v1), (0, ob_rv C n0), (1, .int x1), (2, .int x2), (3, .int x3)]) dX12_paysAt_17 (by decide) rfl ?_
  refine ob_rload_n F 2 dX12_paysAt_19 rfl ?_
  refine ob_iload_n F 3 dX12_paysAt_20 rfl ?_
  refine ob_iconst F (v := 2) dX12_paysAt_21 (by decide) ?_
  refine ob_cVi F dX12_paysAt_22 im_X12_get tw6_154 h (fun b hb => t_X12_get hb) rfl rfl (Nat.le_of_ble_eq_true rfl) (by decide) fun v3 h => ?_
  refine ob_istore F (ls2 := [(6, .int v3), (5, .int (v2 - v1)), (4, .int v1), (0, ob_rv C n0), (1, .int x1), (2, .int x2), (3, .int x3)]) dX12_paysAt_25 (by decide) rfl ?_
  refine ob_rload_n F 3 dX12_paysAt_27 rfl ?_
  refine ob_iload_n F 4 dX12_paysAt_28 rfl ?_
  refine ob_iconst F (v := 0) dX12_paysAt_29 (by decide) ?_
  refine ob_cVi F dX12_paysAt_30 im_X12_get tw6_154 h (fun b hb => t_X12_get hb) rfl rfl (Nat.le_of_ble_eq_true rfl) (by decide) fun v4 h => ?_
  by_cases c0 : v4 = 0
  · rw [if_pos c0] at h
    refine ob_tsi F 0 68 dX12_paysAt_33 c0 (by decide) (by decide) rfl (by decide) ?_
    refine ob_iload F 1 dX12_paysAt_68 rfl ?_
    refine ob_i2l F dX12_paysAt_70 ?_
    refine ob_cSl F dX12_paysAt_71 im_X12_above0 tw6_216 h (fun b hb => t_X12_above0 hb) rfl rfl (Nat.le_of_ble_eq_true rfl) (by decide) fun v5 h => ?_
    refine ob_rload_n F 3 dX12_paysAt_74 rfl ?_
    refine ob_iload_n F 5 dX12_paysAt_75 rfl ?_
    refine ob_cVl F dX12_paysAt_76 im_X12_powerAt tw6_219 h (fun b hb => t_X12_powerAt hb) rfl rfl (Nat.le_of_ble_eq_true rfl) (by decide) fun v6 h => ?_
    refine ob_lmul F dX12_paysAt_79 ?_
    obtain rfl := Option.some.inj h
    exact ob_lret F dX12_paysAt_80 k
  rw [if_neg c0] at h
  by_cases c1 : v4 = 1
  · rw [if_pos c1] at h
    refine ob_tsi F 1 81 dX12_paysAt_33 c1 (by decide) (by decide) rfl (by decide) ?_
    refine ob_iload F 1 dX12_paysAt_81 rfl ?_
    refine ob_ineg F dX12_paysAt_83 ?_
    refine ob_i2l F dX12_paysAt_84 ?_
    refine ob_cSl F dX12_paysAt_85 im_X12_above0 tw6_216 h (fun b hb => t_X12_above0 hb) rfl rfl (Nat.le_of_ble_eq_true rfl) (by decide) fun v7 h => ?_
    refine ob_rload_n F 3 dX12_paysAt_88 rfl ?_
    refine ob_iload_n F 5 dX12_paysAt_89 rfl ?_
    refine ob_cVl F dX12_paysAt_90 im_X12_powerAt tw6_219 h (fun b hb => t_X12_powerAt hb) rfl rfl (Nat.le_of_ble_eq_true rfl) (by decide) fun v8 h => ?_
    refine ob_lmul F dX12_paysAt_93 ?_
    obtain rfl := Option.some.inj h
    exact ob_lret F dX12_paysAt_94 k
  rw [if_neg c1] at h
  by_cases c2 : v4 = 2
  · rw [if_pos c2] at h
    refine ob_tsi F 2 95 dX12_paysAt_33 c2 (by decide) (by decide) rfl (by decide) ?_
    refine ob_iload F 1 dX12_paysAt_95 rfl ?_
    refine ob_if_lt F 112 dX12_paysAt_97 (by decide) h (fun h => ?_) (fun h => ?_)
    · refine ob_lconst F (v := 0) dX12_paysAt_112 (by decide) ?_
      obtain rfl := Option.some.inj h
      exact ob_lret F dX12_paysAt_113 k
    · refine ob_iload F 0 dX12_paysAt_100 rfl ?_
      refine ob_i2l F dX12_paysAt_102 ?_
      refine ob_rload_n F 3 dX12_paysAt_103 rfl ?_
      refine ob_iload_n F 5 dX12_paysAt_104 rfl ?_
      refine ob_cVl F dX12_paysAt_105 im_X12_powerAt tw6_219 h (fun b hb => t_X12_powerAt hb) rfl rfl (Nat.le_of_ble_eq_true rfl) (by decide) fun v9 h => ?_
      refine ob_lmul F dX12_paysAt_108 ?_
      refine ob_goto F 113 dX12_paysAt_109 (by decide) ?_
      obtain rfl := Option.some.inj h
      exact ob_lret F dX12_paysAt_113 k
  rw [if_neg c2] at h
  by_cases c3 : v4 = 3
  · rw [if_pos c3] at h
    refine ob_tsi F 3 114 dX12_paysAt_33 c3 (by decide) (by decide) rfl (by decide) ?_
    refine ob_iload F 1 dX12_paysAt_114 rfl ?_
    refine ob_if_ge F 123 dX12_paysAt_116 (by decide) h (fun h => ?_) (fun h => ?_)
    · refine ob_iload F 1 dX12_paysAt_123 rfl ?_
      refine ob_iload F 0 dX12_paysAt_125 rfl ?_
      refine ob_iload F 2 dX12_paysAt_127 rfl ?_
      refine ob_isub F dX12_paysAt_129 ?_
      refine ob_icmp_ge F 138 dX12_paysAt_130 (by decide) h (fun h => ?_) (fun h => ?_)
      · refine ob_iload F 0 dX12_paysAt_138 rfl ?_
        refine ob_iload F 2 dX12_paysAt_140 rfl ?_
        refine ob_isub F dX12_paysAt_142 ?_
        exact ob_sub [3, 5] rfl (b_X12_paysAt_143 F h k)
      · refine ob_iload F 1 dX12_paysAt_133 rfl ?_
        refine ob_goto F 143 dX12_paysAt_135 (by decide) ?_
        exact ob_sub [3, 5] rfl (b_X12_paysAt_143 F h k)
    · refine ob_iconst F (v := 0) dX12_paysAt_119 (by decide) ?_
      refine ob_goto F 143 dX12_paysAt_120 (by decide) ?_
      exact ob_sub [3, 5] rfl (b_X12_paysAt_143 F h k)
  rw [if_neg c3] at h
  by_cases c4 : v4 = 4
  · rw [if_pos c4] at h
    refine ob_tsi F 4 151 dX12_paysAt_33 c4 (by decide) (by decide) rfl (by decide) ?_
    refine ob_iload F 1 dX12_paysAt_151 rfl ?_
    refine ob_if_ge F 162 dX12_paysAt_153 (by decide) h (fun h => ?_) (fun h => ?_)
    · refine ob_iload F 1 dX12_paysAt_162 rfl ?_
      exact ob_sub [3, 5] rfl (b_X12_paysAt_164 F h k)
    · refine ob_iload F 1 dX12_paysAt_156 rfl ?_
      refine ob_ineg F dX12_paysAt_158 ?_
      refine ob_goto F 164 dX12_paysAt_159 (by decide) ?_
      exact ob_sub [3, 5] rfl (b_X12_paysAt_164 F h k)
  rw [if_neg c4] at h
  have q0 := ob_nei c0 (k := 0) rfl
  have q1 := ob_nei c1 (k := 1) rfl
  have q2 := ob_nei c2 (k := 2) rfl
  have q3 := ob_nei c3 (k := 3) rfl
  have q4 := ob_nei c4 (k := 4) rfl
  refine ob_tso F 172 dX12_paysAt_33 (by omega) (by decide) ?_
  refine ob_rload_n F 3 dX12_paysAt_172 rfl ?_
  refine ob_getR F dX12_paysAt_173 fl_X12_40 h fun v12 h => ?_
  refine ob_iload F 0 dX12_paysAt_176 rfl ?_
  refine ob_iload_n F 5 dX12_paysAt_178 rfl ?_
  refine ob_iload_n F 6 dX12_paysAt_179 rfl ?_
  refine ob_cSi F dX12_paysAt_180 im_X12_cell tw6_209 h (fun b hb => t_X12_cell hb) rfl rfl (Nat.le_of_ble_eq_true rfl) (by decide) fun v13 h => ?_
  refine ob_lald F dX12_paysAt_183 h fun v14 h => ?_
  refine ob_iload F 2 dX12_paysAt_184 rfl ?_
  refine ob_i2l F dX12_paysAt_186 ?_
  refine ob_rload_n F 3 dX12_paysAt_187 rfl ?_
  refine ob_iload_n F 5 dX12_paysAt_188 rfl ?_
  refine ob_cVl F dX12_paysAt_189 im_X12_powerAt tw6_219 h (fun b hb => t_X12_powerAt hb) rfl rfl (Nat.le_of_ble_eq_true rfl) (by decide) fun v15 h => ?_
  refine ob_lmul F dX12_paysAt_192 ?_
  refine ob_lsub F dX12_paysAt_193 ?_
  refine ob_cSl F dX12_paysAt_194 im_X12_above0 tw6_216 h (fun b hb => t_X12_above0 hb) rfl rfl (Nat.le_of_ble_eq_true rfl) (by decide) fun v16 h => ?_
  obtain rfl := Option.some.inj h
  exact ob_lret F dX12_paysAt_197 k
theorem t_X12_paysAt {cf : ob_Cf} {g : ob_St} {n0 : Nat} {x1 : Int32} {x2 : Int32} {x3 : Int32} {r : Int64} (h : f_X12_paysAt g n0 x1 x2 x3 = some r) : ob_Mt cf yX12_paysAt cX12_paysAt 7 (some .long) 2 46 [ob_rw cf n0, .int x1, .int x2, .int x3] g (some (.long r)) g := by
  refine ob_enter (by decide) (Nat.le_of_ble_eq_true rfl) rfl ?_
  intro C hC F k
  subst hC
  exact b_X12_paysAt_0 F h k
-- X12_heldOf
def f_X12_heldOf (g : ob_St) (n0 : Nat) (n1 : Nat) (x2 : Int32) (x3 : Int32) (x4 : Int32) : Option Int64 :=
  (ob_gR 12 n0 1).bind fun v1 => (ob_rI g 14 v1 2).bind fun v2 => (if x3 = v2 then (some 0) else ((ob_gR 12 n0 1).bind fun v3 => (ob_rI g 14 v3 ((3 + x3) + 1)).bind fun v4 => (f_X12_cell x2 (x3 + 1) (x4 + 1)).bind fun v5 => (ob_rL g n1 v5).bind fun v6 => (ob_gR 12 n0 1).bind fun v7 => (ob_rI g 14 v7 1).bind fun v8 => (f_X12_cell x2 (x3 + 1) x4).bind fun v9 => (ob_rL g n1 v9).bind fun v10 => some (((Int32.toInt64 v4) * v6) + ((Int32.toInt64 (v8 - v4)) * v10))))
theorem b_X12_heldOf_0 {C : ob_Cx} (F : ob_Fx C cX12_heldOf 6 RX12 (some .long) 1 22) {g : ob_St} {n0 : Nat} {n1 : Nat} {x2 : Int32} {x3 : Int32} {x4 : Int32} {r : Int64} (h : f_X12_heldOf g n0 n1 x2 x3 x4 = some r) (k : ob_Rt C (some (.long r)) g) : ob_Ev C 0 [(0, ob_rv C n0), (1, ob_rv C n1), (2, .int x2), (3, .int x3), (4, .int x4)] [] g := by
  unfold f_X12_heldOf at h
  refine ob_iload_n F 3 dX12_heldOf_0 rfl ?_
  refine ob_rload_n F 0 dX12_heldOf_1 rfl ?_
  refine ob_getR F dX12_heldOf_2 fl_X12_13 h fun v1 h => ?_
  refine ob_iconst F (v := 2) dX12_heldOf_5 (by decide) ?_
  refine ob_iald F dX12_heldOf_6 h fun v2 h => ?_
  refine ob_icmp_ne F 12 dX12_heldOf_7 (by decide) h (fun h => ?_) (fun h => ?_)
  · refine ob_rload_n F 0 dX12_heldOf_12 rfl ?_
    refine ob_getR F dX12_heldOf_13 fl_X12_13 h fun v3 h => ?_
    refine ob_iconst F (v := 3) dX12_heldOf_16 (by decide) ?_
    refine ob_iload_n F 3 dX12_heldOf_17 rfl ?_
    refine ob_iadd F dX12_heldOf_18 ?_
    refine ob_iconst F (v := 1) dX12_heldOf_19 (by decide) ?_
    refine ob_iadd F dX12_heldOf_20 ?_
    refine ob_iald F dX12_heldOf_21 h fun v4 h => ?_
    refine ob_istore F (ls2 := [(5, .int v4), (0, ob_rv C n0), (1, ob_rv C n1), (2, .int x2), (3, .int x3), (4, .int x4)]) dX12_heldOf_22 (by decide) rfl ?_
    refine ob_iload F 0 dX12_heldOf_24 rfl ?_
    refine ob_i2l F dX12_heldOf_26 ?_
    refine ob_rload_n F 2 dX12_heldOf_27 rfl ?_
    refine ob_iload_n F 3 dX12_heldOf_28 rfl ?_
    refine ob_iload_n F 4 dX12_heldOf_29 rfl ?_
    refine ob_iconst F (v := 1) dX12_heldOf_30 (by decide) ?_
    refine ob_iadd F dX12_heldOf_31 ?_
    refine ob_iload F 5 dX12_heldOf_32 rfl ?_
    refine ob_iconst F (v := 1) dX12_heldOf_34 (by decide) ?_
    refine ob_iadd F dX12_heldOf_35 ?_
    refine ob_cSi F dX12_heldOf_36 im_X12_cell tw6_209 h (fun b hb => t_X12_cell hb) rfl rfl (Nat.le_of_ble_eq_true rfl) (by decide) fun v5 h => ?_
    refine ob_lald F dX12_heldOf_39 h fun v6 h => ?_
    refine ob_lmul F dX12_heldOf_40 ?_
    refine ob_rload_n F 1 dX12_heldOf_41 rfl ?_
    refine ob_getR F dX12_heldOf_42 fl_X12_13 h fun v7 h => ?_
    refine ob_iconst F (v := 1) dX12_heldOf_45 (by decide) ?_
    refine ob_iald F dX12_heldOf_46 h fun v8 h => ?_
    refine ob_iload F 0 dX12_heldOf_47 rfl ?_
    refine ob_isub F dX12_heldOf_49 ?_
    refine ob_i2l F dX12_heldOf_50 ?_
    refine ob_rload_n F 2 dX12_heldOf_51 rfl ?_
    refine ob_iload_n F 3 dX12_heldOf_52 rfl ?_
    refine ob_iload_n F 4 dX12_heldOf_53 rfl ?_
    refine ob_iconst F (v := 1) dX12_heldOf_54 (by decide) ?_
    refine ob_iadd F dX12_heldOf_55 ?_
    refine ob_iload F 5 dX12_heldOf_56 rfl ?_
    refine ob_cSi F dX12_heldOf_58 im_X12_cell tw6_209 h (fun b hb => t_X12_cell hb) rfl rfl (Nat.le_of_ble_eq_true rfl) (by decide) fun v9 h => ?_
    refine ob_lald F dX12_heldOf_61 h fun v10 h => ?_
    refine ob_lmul F dX12_heldOf_62 ?_
    refine ob_ladd F dX12_heldOf_63 ?_
    obtain rfl := Option.some.inj h
    exact ob_lret F dX12_heldOf_64 k
  · refine ob_lconst F (v := 0) dX12_heldOf_10 (by decide) ?_
    obtain rfl := Option.some.inj h
    exact ob_lret F dX12_heldOf_11 k
theorem t_X12_heldOf {cf : ob_Cf} {g : ob_St} {n0 : Nat} {n1 : Nat} {x2 : Int32} {x3 : Int32} {x4 : Int32} {r : Int64} (h : f_X12_heldOf g n0 n1 x2 x3 x4 = some r) : ob_Mt cf yX12_heldOf cX12_heldOf 6 (some .long) 1 22 [ob_rw cf n0, ob_rw cf n1, .int x2, .int x3, .int x4] g (some (.long r)) g := by
  refine ob_enter (by decide) (Nat.le_of_ble_eq_true rfl) rfl ?_
  intro C hC F k
  subst hC
  exact b_X12_heldOf_0 F h k
-- X12_decides
def B_X12_decides_134 (g : ob_St) (n2 : Nat) (x3 : Int32) (x4 : Int32) (x5 : Int32) (y6 : Int64) (y10 : Int64) (x12 : Int32) (s0 : Nat) (s1 : Int32) (s2 : Int64) : Option ob_St :=
  (ob_wL g s0 s1 s2).bind fun g5 => (f_X12_cell x3 x4 x5).bind fun v6 => (if x12 = 0 then ((if y6 ≤ y10 then ((ob_wB g5 n2 v6 (Int8.toInt32 (Int32.toInt8 0))).bind fun g7 => some g7) else ((ob_wB g5 n2 v6 (Int8.toInt32 (Int32.toInt8 4))).bind fun g8 => some g8))) else ((ob_wB g5 n2 v6 (Int8.toInt32 (Int32.toInt8 1))).bind fun g9 => some g9))
theorem b_X12_decides_134 {C : ob_Cx} (F : ob_Fx C cX12_decides 13 RX12 none 3 72) {g : ob_St} {n2 : Nat} {x3 : Int32} {x4 : Int32} {x5 : Int32} {y6 : Int64} {y10 : Int64} {x12 : Int32} {s0 : Nat} {s1 : Int32} {s2 : Int64} {r : ob_St} (h : B_X12_decides_134 g n2 x3 x4 x5 y6 y10 x12 s0 s1 s2 = some r) (k : ob_Rt C none r) : ob_Ev C 134 [(2, ob_rv C n2), (3, .int x3), (4, .int x4), (5, .int x5), (6, .long y6), (10, .long y10), (12, .int x12)] [.long s2, .int s1, ob_rv C s0] g := by
  unfold B_X12_decides_134 at h
  refine ob_last F dX12_decides_134 h fun g5 h => ?_
  refine ob_rload_n F 0 dX12_decides_135 rfl ?_
  refine ob_iload_n F 1 dX12_decides_136 rfl ?_
  refine ob_iload F 2 dX12_decides_137 rfl ?_
  refine ob_iload F 3 dX12_decides_139 rfl ?_
  refine ob_cSi F dX12_decides_141 im_X12_cell tw6_209 h (fun b hb => t_X12_cell hb) rfl rfl (Nat.le_of_ble_eq_true rfl) (by decide) fun v6 h => ?_
  refine ob_iload F 6 dX12_decides_144 rfl ?_
  refine ob_if_eq F 153 dX12_decides_146 (by decide) h (fun h => ?_) (fun h => ?_)
  · refine ob_lload F 5 dX12_decides_153 rfl ?_
    refine ob_lload F 4 dX12_decides_155 rfl ?_
    refine ob_lcmp_ge F 165 dX12_decides_157 dX12_decides_158 (by decide) h (fun h => ?_) (fun h => ?_)
    · refine ob_iconst F (v := 0) dX12_decides_165 (by decide) ?_
      refine ob_i2b F dX12_decides_166 ?_
      refine ob_bast F dX12_decides_167 h fun g7 h => ?_
      obtain rfl := Option.some.inj h
      exact ob_vret F dX12_decides_168 k
    · refine ob_iconst F (v := 4) dX12_decides_161 (by decide) ?_
      refine ob_goto F 166 dX12_decides_162 (by decide) ?_
      refine ob_i2b F dX12_decides_166 ?_
      refine ob_bast F dX12_decides_167 h fun g8 h => ?_
      obtain rfl := Option.some.inj h
      exact ob_vret F dX12_decides_168 k
  · refine ob_iconst F (v := 1) dX12_decides_149 (by decide) ?_
    refine ob_goto F 166 dX12_decides_150 (by decide) ?_
    refine ob_i2b F dX12_decides_166 ?_
    refine ob_bast F dX12_decides_167 h fun g9 h => ?_
    obtain rfl := Option.some.inj h
    exact ob_vret F dX12_decides_168 k
def B_X12_decides_111 (g : ob_St) (n1 : Nat) (n2 : Nat) (x3 : Int32) (x4 : Int32) (x5 : Int32) (y6 : Int64) (y8 : Int64) (y10 : Int64) (s0 : Int32) : Option ob_St :=
  (f_X12_cell x3 x4 x5).bind fun v4 => (if s0 = 0 then (B_X12_decides_134 g n2 x3 x4 x5 y6 y10 s0 n1 v4 y10) else (B_X12_decides_134 g n2 x3 x4 x5 y6 y10 s0 n1 v4 y8))
theorem b_X12_decides_111 {C : ob_Cx} (F : ob_Fx C cX12_decides 13 RX12 none 3 72) {g : ob_St} {n1 : Nat} {n2 : Nat} {x3 : Int32} {x4 : Int32} {x5 : Int32} {y6 : Int64} {y8 : Int64} {y10 : Int64} {s0 : Int32} {r : ob_St} (h : B_X12_decides_111 g n1 n2 x3 x4 x5 y6 y8 y10 s0 = some r) (k : ob_Rt C none r) : ob_Ev C 111 [(1, ob_rv C n1), (2, ob_rv C n2), (3, .int x3), (4, .int x4), (5, .int x5), (6, .long y6), (8, .long y8), (10, .long y10)] [.int s0] g := by
  unfold B_X12_decides_111 at h
  refine ob_istore F (ls2 := [(12, .int s0), (1, ob_rv C n1), (2, ob_rv C n2), (3, .int x3), (4, .int x4), (5, .int x5), (6, .long y6), (8, .long y8), (10, .long y10)]) dX12_decides_111 (by decide) rfl ?_
  refine ob_rload_n F 1 dX12_decides_113 rfl ?_
  refine ob_iload_n F 3 dX12_decides_114 rfl ?_
  refine ob_iload F 4 dX12_decides_115 rfl ?_
  refine ob_iload F 5 dX12_decides_117 rfl ?_
  refine ob_cSi F dX12_decides_119 im_X12_cell tw6_209 h (fun b hb => t_X12_cell hb) rfl rfl (Nat.le_of_ble_eq_true rfl) (by decide) fun v4 h => ?_
  refine ob_iload F 0 dX12_decides_122 rfl ?_
  refine ob_if_eq F 132 dX12_decides_124 (by decide) h (fun h => ?_) (fun h => ?_)
  · refine ob_lload F 8 dX12_decides_132 rfl ?_
    exact ob_sub [2, 3, 4, 5, 6, 8, 0] rfl (b_X12_decides_134 F h k)
  · refine ob_lload F 7 dX12_decides_127 rfl ?_
    refine ob_goto F 134 dX12_decides_129 (by decide) ?_
    exact ob_sub [2, 3, 4, 5, 6, 8, 0] rfl (b_X12_decides_134 F h k)
def B_X12_decides_110 (g : ob_St) (n1 : Nat) (n2 : Nat) (x3 : Int32) (x4 : Int32) (x5 : Int32) (y6 : Int64) (y8 : Int64) (y10 : Int64) : Option ob_St :=
  B_X12_decides_111 g n1 n2 x3 x4 x5 y6 y8 y10 0
theorem b_X12_decides_110 {C : ob_Cx} (F : ob_Fx C cX12_decides 13 RX12 none 3 72) {g : ob_St} {n1 : Nat} {n2 : Nat} {x3 : Int32} {x4 : Int32} {x5 : Int32} {y6 : Int64} {y8 : Int64} {y10 : Int64} {r : ob_St} (h : B_X12_decides_110 g n1 n2 x3 x4 x5 y6 y8 y10 = some r) (k : ob_Rt C none r) : ob_Ev C 110 [(1, ob_rv C n1), (2, ob_rv C n2), (3, .int x3), (4, .int x4), (5, .int x5), (6, .long y6), (8, .long y8), (10, .long y10)] [] g := by
  unfold B_X12_decides_110 at h
  refine ob_iconst F (v := 0) dX12_decides_110 (by decide) ?_
  exact b_X12_decides_111 F h k
def B_X12_decides_81 (g : ob_St) (n0 : Nat) (n1 : Nat) (n2 : Nat) (x3 : Int32) (x4 : Int32) (x5 : Int32) (y6 : Int64) (y8 : Int64) (y10 : Int64) : Option ob_St :=
  (if y8 < y10 then (B_X12_decides_110 g n1 n2 x3 x4 x5 y6 y8 y10) else ((if y8 ≤ 0 then (B_X12_decides_110 g n1 n2 x3 x4 x5 y6 y8 y10) else ((ob_ck 12 n0 (f_X12_may g n0 x3 x4)).bind fun v10 => (if v10 = 0 then (B_X12_decides_110 g n1 n2 x3 x4 x5 y6 y8 y10) else (B_X12_decides_111 g n1 n2 x3 x4 x5 y6 y8 y10 1))))))
theorem b_X12_decides_81 {C : ob_Cx} (F : ob_Fx C cX12_decides 13 RX12 none 3 72) {g : ob_St} {n0 : Nat} {n1 : Nat} {n2 : Nat} {x3 : Int32} {x4 : Int32} {x5 : Int32} {y6 : Int64} {y8 : Int64} {y10 : Int64} {r : ob_St} (h : B_X12_decides_81 g n0 n1 n2 x3 x4 x5 y6 y8 y10 = some r) (k : ob_Rt C none r) : ob_Ev C 81 [(0, ob_rv C n0), (1, ob_rv C n1), (2, ob_rv C n2), (3, .int x3), (4, .int x4), (5, .int x5), (6, .long y6), (8, .long y8), (10, .long y10)] [] g := by
  unfold B_X12_decides_81 at h
  refine ob_lload F 7 dX12_decides_81 rfl ?_
  refine ob_lload F 8 dX12_decides_83 rfl ?_
  refine ob_lcmp_lt F 110 dX12_decides_85 dX12_decides_86 (by decide) h (fun h => ?_) (fun h => ?_)
  · exact ob_sub [1, 2, 3, 4, 5, 6, 7, 8] rfl (b_X12_decides_110 F h k)
  · refine ob_lload F 7 dX12_decides_89 rfl ?_
    refine ob_lconst F (v := 0) dX12_decides_91 (by decide) ?_
    refine ob_lcmp_le F 110 dX12_decides_92 dX12_decides_93 (by decide) h (fun h => ?_) (fun h => ?_)
    · exact ob_sub [1, 2, 3, 4, 5, 6, 7, 8] rfl (b_X12_decides_110 F h k)
    · refine ob_rload_n F 0 dX12_decides_96 rfl ?_
      refine ob_iload_n F 3 dX12_decides_97 rfl ?_
      refine ob_iload F 4 dX12_decides_98 rfl ?_
      refine ob_cVi F dX12_decides_100 im_X12_may tw6_223 h (fun b hb => t_X12_may hb) rfl rfl (Nat.le_of_ble_eq_true rfl) (by decide) fun v10 h => ?_
      refine ob_if_eq F 110 dX12_decides_103 (by decide) h (fun h => ?_) (fun h => ?_)
      · exact ob_sub [1, 2, 3, 4, 5, 6, 7, 8] rfl (b_X12_decides_110 F h k)
      · refine ob_iconst F (v := 1) dX12_decides_106 (by decide) ?_
        refine ob_goto F 111 dX12_decides_107 (by decide) ?_
        exact ob_sub [1, 2, 3, 4, 5, 6, 7, 8] rfl (b_X12_decides_111 F h k)
def f_X12_decides (g : ob_St) (n0 : Nat) (n1 : Nat) (n2 : Nat) (x3 : Int32) (x4 : Int32) (x5 : Int32) : Option ob_St :=
  (ob_ck 12 n0 (f_X12_heldOf g n0 n1 x3 x4 x5)).bind fun v1 => (ob_ck 12 n0 (f_X12_paysAt g n0 x3 x4 x5)).bind fun v2 => (ob_ck 12 n0 (f_X12_get g n0 x3 8)).bind fun v3 => (if v3 < 0 then (B_X12_decides_81 g n0 n1 n2 x3 x4 x5 v1 v2 v1) else ((ob_ck 12 n0 (f_X12_get g n0 x3 8)).bind fun v11 => (ob_ck 12 n0 (f_X12_powerAt g n0 x4)).bind fun v12 => (if v1 ≤ (v2 + ((Int32.toInt64 v11) * v12)) then (B_X12_decides_81 g n0 n1 n2 x3 x4 x5 v1 v2 v1) else ((ob_ck 12 n0 (f_X12_get g n0 x3 8)).bind fun v13 => (ob_ck 12 n0 (f_X12_powerAt g n0 x4)).bind fun v14 => ob_let (v2 + ((Int32.toInt64 v13) * v14)) fun z15 => B_X12_decides_81 g n0 n1 n2 x3 x4 x5 v1 v2 z15))))
theorem b_X12_decides_0 {C : ob_Cx} (F : ob_Fx C cX12_decides 13 RX12 none 3 72) {g : ob_St} {n0 : Nat} {n1 : Nat} {n2 : Nat} {x3 : Int32} {x4 : Int32} {x5 : Int32} {r : ob_St} (h : f_X12_decides g n0 n1 n2 x3 x4 x5 = some r) (k : ob_Rt C none r) : ob_Ev C 0 [(0, ob_rv C n0), (1, ob_rv C n1), (2, ob_rv C n2), (3, .int x3), (4, .int x4), (5, .int x5)] [] g := by
  unfold f_X12_decides at h
  refine ob_rload_n F 0 dX12_decides_0 rfl ?_
  refine ob_rload_n F 1 dX12_decides_1 rfl ?_
  refine ob_iload_n F 3 dX12_decides_2 rfl ?_
  refine ob_iload F 4 dX12_decides_3 rfl ?_
  refine ob_iload F 5 dX12_decides_5 rfl ?_
  refine ob_cVl F dX12_decides_7 im_X12_heldOf tw6_205 h (fun b hb => t_X12_heldOf hb) rfl rfl (Nat.le_of_ble_eq_true rfl) (by decide) fun v1 h => ?_
  refine ob_lstore F (ls2 := [(6, .long v1), (0, ob_rv C n0), (1, ob_rv C n1), (2, ob_rv C n2), (3, .int x3), (4, .int x4), (5, .int x5)]) dX12_decides_10 (by decide) rfl ?_
  refine ob_rload_n F 1 dX12_decides_12 rfl ?_
  refine ob_iload_n F 4 dX12_decides_13 rfl ?_
  refine ob_iload F 5 dX12_decides_14 rfl ?_
  refine ob_iload F 6 dX12_decides_16 rfl ?_
  refine ob_cVl F dX12_decides_18 im_X12_paysAt tw6_212 h (fun b hb => t_X12_paysAt hb) rfl rfl (Nat.le_of_ble_eq_true rfl) (by decide) fun v2 h => ?_
  refine ob_lstore F (ls2 := [(8, .long v2), (6, .long v1), (0, ob_rv C n0), (1, ob_rv C n1), (2, ob_rv C n2), (3, .int x3), (4, .int x4), (5, .int x5)]) dX12_decides_21 (by decide) rfl ?_
  refine ob_lload F 1 dX12_decides_23 rfl ?_
  refine ob_lstore F (ls2 := [(10, .long v1), (8, .long v2), (6, .long v1), (0, ob_rv C n0), (1, ob_rv C n1), (2, ob_rv C n2), (3, .int x3), (4, .int x4), (5, .int x5)]) dX12_decides_25 (by decide) rfl ?_
  refine ob_rload_n F 3 dX12_decides_27 rfl ?_
  refine ob_iload_n F 6 dX12_decides_28 rfl ?_
  refine ob_bipush F (v := 8) dX12_decides_29 (by decide) ?_
  refine ob_cVi F dX12_decides_31 im_X12_get tw6_154 h (fun b hb => t_X12_get hb) rfl rfl (Nat.le_of_ble_eq_true rfl) (by decide) fun v3 h => ?_
  refine ob_if_lt F 81 dX12_decides_34 (by decide) h (fun h => ?_) (fun h => ?_)
  · exact ob_sub [3, 4, 5, 6, 7, 8, 2, 1, 0] rfl (b_X12_decides_81 F h k)
  · refine ob_lload F 1 dX12_decides_37 rfl ?_
    refine ob_rload_n F 3 dX12_decides_39 rfl ?_
    refine ob_iload_n F 6 dX12_decides_40 rfl ?_
    refine ob_bipush F (v := 8) dX12_decides_41 (by decide) ?_
    refine ob_cVi F dX12_decides_43 im_X12_get tw6_154 h (fun b hb => t_X12_get hb) rfl rfl (Nat.le_of_ble_eq_true rfl) (by decide) fun v11 h => ?_
    refine ob_i2l F dX12_decides_46 ?_
    refine ob_rload_n F 3 dX12_decides_47 rfl ?_
    refine ob_iload F 7 dX12_decides_48 rfl ?_
    refine ob_cVl F dX12_decides_50 im_X12_powerAt tw6_219 h (fun b hb => t_X12_powerAt hb) rfl rfl (Nat.le_of_ble_eq_true rfl) (by decide) fun v12 h => ?_
    refine ob_lmul F dX12_decides_53 ?_
    refine ob_ladd F dX12_decides_54 ?_
    refine ob_lload F 2 dX12_decides_55 rfl ?_
    refine ob_lcmp_ge F 81 dX12_decides_57 dX12_decides_58 (by decide) h (fun h => ?_) (fun h => ?_)
    · exact ob_sub [3, 4, 5, 6, 7, 8, 2, 1, 0] rfl (b_X12_decides_81 F h k)
    · refine ob_lload F 1 dX12_decides_61 rfl ?_
      refine ob_rload_n F 3 dX12_decides_63 rfl ?_
      refine ob_iload_n F 6 dX12_decides_64 rfl ?_
      refine ob_bipush F (v := 8) dX12_decides_65 (by decide) ?_
      refine ob_cVi F dX12_decides_67 im_X12_get tw6_154 h (fun b hb => t_X12_get hb) rfl rfl (Nat.le_of_ble_eq_true rfl) (by decide) fun v13 h => ?_
      refine ob_i2l F dX12_decides_70 ?_
      refine ob_rload_n F 3 dX12_decides_71 rfl ?_
      refine ob_iload F 7 dX12_decides_72 rfl ?_
      refine ob_cVl F dX12_decides_74 im_X12_powerAt tw6_219 h (fun b hb => t_X12_powerAt hb) rfl rfl (Nat.le_of_ble_eq_true rfl) (by decide) fun v14 h => ?_
      refine ob_lmul F dX12_decides_77 ?_
      refine ob_ladd F dX12_decides_78 ?_
      refine ob_letl h fun z15 h => ?_
      refine ob_lstore F (ls2 := [(10, .long z15), (8, .long v2), (6, .long v1), (0, ob_rv C n0), (1, ob_rv C n1), (2, ob_rv C n2), (3, .int x3), (4, .int x4), (5, .int x5)]) dX12_decides_79 (by decide) rfl ?_
      exact ob_sub [3, 4, 5, 6, 7, 8, 2, 1, 0] rfl (b_X12_decides_81 F h k)
theorem t_X12_decides {cf : ob_Cf} {g : ob_St} {n0 : Nat} {n1 : Nat} {n2 : Nat} {x3 : Int32} {x4 : Int32} {x5 : Int32} {r : ob_St} (h : f_X12_decides g n0 n1 n2 x3 x4 x5 = some r) : ob_Mt cf yX12_decides cX12_decides 13 none 3 72 [ob_rw cf n0, ob_rw cf n1, ob_rw cf n2, .int x3, .int x4, .int x5] g none r := by
  refine ob_enter (by decide) (Nat.le_of_ble_eq_true rfl) rfl ?_
  intro C hC F k
  subst hC
  exact b_X12_decides_0 F h k
-- X12_laysNode
def B_X12_laysNode_91 (g : ob_St) (n0 : Nat) (x4 : Int32) (x6 : Int32) (s0 : Nat) (s1 : Int32) (s2 : Int64) : Option ob_St :=
  (ob_wL g s0 s1 s2).bind fun g18 => (ob_gR 12 n0 23).bind fun v19 => (if x6 = 0 then ((ob_wB g18 v19 x4 (Int8.toInt32 (Int32.toInt8 0))).bind fun g20 => some g20) else ((ob_wB g18 v19 x4 (Int8.toInt32 (Int32.toInt8 3))).bind fun g21 => some g21))
theorem b_X12_laysNode_91 {C : ob_Cx} (F : ob_Fx C cX12_laysNode 7 RX12 none 4 104) {g : ob_St} {n0 : Nat} {x4 : Int32} {x6 : Int32} {s0 : Nat} {s1 : Int32} {s2 : Int64} {r : ob_St} (h : B_X12_laysNode_91 g n0 x4 x6 s0 s1 s2 = some r) (k : ob_Rt C none r) : ob_Ev C 91 [(0, ob_rv C n0), (4, .int x4), (6, .int x6)] [.long s2, .int s1, ob_rv C s0] g := by
  unfold B_X12_laysNode_91 at h
  refine ob_last F dX12_laysNode_91 h fun g18 h => ?_
  refine ob_rload_n F 0 dX12_laysNode_92 rfl ?_
  refine ob_getR F dX12_laysNode_93 fl_X12_50 h fun v19 h => ?_
  refine ob_iload F 1 dX12_laysNode_96 rfl ?_
  refine ob_iload F 2 dX12_laysNode_98 rfl ?_
  refine ob_if_eq F 107 dX12_laysNode_100 (by decide) h (fun h => ?_) (fun h => ?_)
  · refine ob_iconst F (v := 0) dX12_laysNode_107 (by decide) ?_
    refine ob_i2b F dX12_laysNode_108 ?_
    refine ob_bast F dX12_laysNode_109 h fun g20 h => ?_
    refine ob_goto F 165 dX12_laysNode_110 (by decide) ?_
    obtain rfl := Option.some.inj h
    exact ob_vret F dX12_laysNode_165 k
  · refine ob_iconst F (v := 3) dX12_laysNode_103 (by decide) ?_
    refine ob_goto F 108 dX12_laysNode_104 (by decide) ?_
    refine ob_i2b F dX12_laysNode_108 ?_
    refine ob_bast F dX12_laysNode_109 h fun g21 h => ?_
    refine ob_goto F 165 dX12_laysNode_110 (by decide) ?_
    obtain rfl := Option.some.inj h
    exact ob_vret F dX12_laysNode_165 k
def B_X12_laysNode_51 (g : ob_St) (n0 : Nat) (x1 : Int32) (x2 : Int32) (x3 : Int32) (x4 : Int32) (x5 : Int32) (s0 : Int32) : Option ob_St :=
  (if x5 = 2 then ((ob_gR 12 n0 20).bind fun v15 => (if s0 = 0 then ((ob_gR 12 n0 20).bind fun v16 => (ob_ck 12 n0 (f_X12_heldOf g n0 v16 x1 x2 x3)).bind fun v17 => B_X12_laysNode_91 g n0 x4 s0 v15 x4 v17) else ((ob_gR 12 n0 21).bind fun v22 => (ob_rL g v22 x4).bind fun v23 => B_X12_laysNode_91 g n0 x4 s0 v15 x4 v23))) else ((if s0 = 0 then ((ob_gR 12 n0 20).bind fun v6 => (ob_gR 12 n0 23).bind fun v7 => (ob_ck 12 n0 (f_X12_decides g n0 v6 v7 x1 x2 x3)).bind fun g8 => some g8) else ((ob_gR 12 n0 20).bind fun v9 => (ob_ck 12 n0 (f_X12_get g n0 x1 7)).bind fun v10 => (ob_ck 12 n0 (f_X12_powerAt g n0 x2)).bind fun v11 => (ob_wL g v9 x4 ((Int32.toInt64 v10) * v11)).bind fun g12 => (ob_gR 12 n0 23).bind fun v13 => (ob_wB g12 v13 x4 2).bind fun g14 => some g14))))
theorem b_X12_laysNode_51 {C : ob_Cx} (F : ob_Fx C cX12_laysNode 7 RX12 none 4 104) {g : ob_St} {n0 : Nat} {x1 : Int32} {x2 : Int32} {x3 : Int32} {x4 : Int32} {x5 : Int32} {s0 : Int32} {r : ob_St} (h : B_X12_laysNode_51 g n0 x1 x2 x3 x4 x5 s0 = some r) (k : ob_Rt C none r) : ob_Ev C 51 [(0, ob_rv C n0), (1, .int x1), (2, .int x2), (3, .int x3), (4, .int x4), (5, .int x5)] [.int s0] g := by
  unfold B_X12_laysNode_51 at h
  refine ob_istore F (ls2 := [(6, .int s0), (0, ob_rv C n0), (1, .int x1), (2, .int x2), (3, .int x3), (4, .int x4), (5, .int x5)]) dX12_laysNode_51 (by decide) rfl ?_
  refine ob_iload F 6 dX12_laysNode_53 rfl ?_
  refine ob_iconst F (v := 2) dX12_laysNode_55 (by decide) ?_
  refine ob_icmp_ne F 113 dX12_laysNode_56 (by decide) h (fun h => ?_) (fun h => ?_)
  · refine ob_iload F 0 dX12_laysNode_113 rfl ?_
    refine ob_if_eq F 150 dX12_laysNode_115 (by decide) h (fun h => ?_) (fun h => ?_)
    · refine ob_rload_n F 1 dX12_laysNode_150 rfl ?_
      refine ob_rload_n F 1 dX12_laysNode_151 rfl ?_
      refine ob_getR F dX12_laysNode_152 fl_X12_40 h fun v6 h => ?_
      refine ob_rload_n F 1 dX12_laysNode_155 rfl ?_
      refine ob_getR F dX12_laysNode_156 fl_X12_50 h fun v7 h => ?_
      refine ob_iload_n F 2 dX12_laysNode_159 rfl ?_
      refine ob_iload_n F 3 dX12_laysNode_160 rfl ?_
      refine ob_iload_n F 4 dX12_laysNode_161 rfl ?_
      refine ob_cVvS F dX12_laysNode_162 im_X12_decides tw6_201 h (fun b hb => t_X12_decides hb) rfl rfl (Nat.le_of_ble_eq_true rfl) (by decide) fun g8 h => ?_
      obtain rfl := Option.some.inj h
      exact ob_vret F dX12_laysNode_165 k
    · refine ob_rload_n F 1 dX12_laysNode_118 rfl ?_
      refine ob_getR F dX12_laysNode_119 fl_X12_40 h fun v9 h => ?_
      refine ob_iload F 5 dX12_laysNode_122 rfl ?_
      refine ob_rload_n F 1 dX12_laysNode_124 rfl ?_
      refine ob_iload_n F 2 dX12_laysNode_125 rfl ?_
      refine ob_bipush F (v := 7) dX12_laysNode_126 (by decide) ?_
      refine ob_cVi F dX12_laysNode_128 im_X12_get tw6_154 h (fun b hb => t_X12_get hb) rfl rfl (Nat.le_of_ble_eq_true rfl) (by decide) fun v10 h => ?_
      refine ob_i2l F dX12_laysNode_131 ?_
      refine ob_rload_n F 1 dX12_laysNode_132 rfl ?_
      refine ob_iload_n F 3 dX12_laysNode_133 rfl ?_
      refine ob_cVl F dX12_laysNode_134 im_X12_powerAt tw6_219 h (fun b hb => t_X12_powerAt hb) rfl rfl (Nat.le_of_ble_eq_true rfl) (by decide) fun v11 h => ?_
      refine ob_lmul F dX12_laysNode_137 ?_
      refine ob_last F dX12_laysNode_138 h fun g12 h => ?_
      refine ob_rload_n F 1 dX12_laysNode_139 rfl ?_
      refine ob_getR F dX12_laysNode_140 fl_X12_50 h fun v13 h => ?_
      refine ob_iload F 5 dX12_laysNode_143 rfl ?_
      refine ob_iconst F (v := 2) dX12_laysNode_145 (by decide) ?_
      refine ob_bast F dX12_laysNode_146 h fun g14 h => ?_
      refine ob_goto F 165 dX12_laysNode_147 (by decide) ?_
      obtain rfl := Option.some.inj h
      exact ob_vret F dX12_laysNode_165 k
  · refine ob_rload_n F 1 dX12_laysNode_59 rfl ?_
    refine ob_getR F dX12_laysNode_60 fl_X12_40 h fun v15 h => ?_
    refine ob_iload F 5 dX12_laysNode_63 rfl ?_
    refine ob_iload F 0 dX12_laysNode_65 rfl ?_
    refine ob_if_eq F 80 dX12_laysNode_67 (by decide) h (fun h => ?_) (fun h => ?_)
    · refine ob_rload_n F 1 dX12_laysNode_80 rfl ?_
      refine ob_rload_n F 1 dX12_laysNode_81 rfl ?_
      refine ob_getR F dX12_laysNode_82 fl_X12_40 h fun v16 h => ?_
      refine ob_iload_n F 2 dX12_laysNode_85 rfl ?_
      refine ob_iload_n F 3 dX12_laysNode_86 rfl ?_
      refine ob_iload_n F 4 dX12_laysNode_87 rfl ?_
      refine ob_cVl F dX12_laysNode_88 im_X12_heldOf tw6_205 h (fun b hb => t_X12_heldOf hb) rfl rfl (Nat.le_of_ble_eq_true rfl) (by decide) fun v17 h => ?_
      exact ob_sub [1, 5, 0] rfl (b_X12_laysNode_91 F h k)
    · refine ob_rload_n F 1 dX12_laysNode_70 rfl ?_
      refine ob_getR F dX12_laysNode_71 fl_X12_44 h fun v22 h => ?_
      refine ob_iload F 5 dX12_laysNode_74 rfl ?_
      refine ob_lald F dX12_laysNode_76 h fun v23 h => ?_
      refine ob_goto F 91 dX12_laysNode_77 (by decide) ?_
      exact ob_sub [1, 5, 0] rfl (b_X12_laysNode_91 F h k)
def B_X12_laysNode_50 (g : ob_St) (n0 : Nat) (x1 : Int32) (x2 : Int32) (x3 : Int32) (x4 : Int32) (x5 : Int32) : Option ob_St :=
  B_X12_laysNode_51 g n0 x1 x2 x3 x4 x5 0
theorem b_X12_laysNode_50 {C : ob_Cx} (F : ob_Fx C cX12_laysNode 7 RX12 none 4 104) {g : ob_St} {n0 : Nat} {x1 : Int32} {x2 : Int32} {x3 : Int32} {x4 : Int32} {x5 : Int32} {r : ob_St} (h : B_X12_laysNode_50 g n0 x1 x2 x3 x4 x5 = some r) (k : ob_Rt C none r) : ob_Ev C 50 [(0, ob_rv C n0), (1, .int x1), (2, .int x2), (3, .int x3), (4, .int x4), (5, .int x5)] [] g := by
  unfold B_X12_laysNode_50 at h
  refine ob_iconst F (v := 0) dX12_laysNode_50 (by decide) ?_
  exact b_X12_laysNode_51 F h k
def f_X12_laysNode (g : ob_St) (n0 : Nat) (x1 : Int32) (x2 : Int32) (x3 : Int32) : Option ob_St :=
  (ob_gR 12 n0 21).bind fun v1 => (ob_gR 12 n0 24).bind fun v2 => (ob_ck 12 n0 (f_X12_decides g n0 v1 v2 x1 x2 x3)).bind fun g3 => (f_X12_cell x1 x2 x3).bind fun v4 => (ob_ck 12 n0 (f_X12_get g3 n0 x1 4)).bind fun v5 => (if v5 ≤ 0 then (B_X12_laysNode_50 g3 n0 x1 x2 x3 v4 v5) else ((ob_ck 12 n0 (f_X12_isTouched g3 n0 x1 x2 x3)).bind fun v24 => (if v24 = 0 then (B_X12_laysNode_50 g3 n0 x1 x2 x3 v4 v5) else (B_X12_laysNode_51 g3 n0 x1 x2 x3 v4 v5 1))))
theorem b_X12_laysNode_0 {C : ob_Cx} (F : ob_Fx C cX12_laysNode 7 RX12 none 4 104) {g : ob_St} {n0 : Nat} {x1 : Int32} {x2 : Int32} {x3 : Int32} {r : ob_St} (h : f_X12_laysNode g n0 x1 x2 x3 = some r) (k : ob_Rt C none r) : ob_Ev C 0 [(0, ob_rv C n0), (1, .int x1), (2, .int x2), (3, .int x3)] [] g := by
  unfold f_X12_laysNode at h
  refine ob_rload_n F 0 dX12_laysNode_0 rfl ?_
  refine ob_rload_n F 0 dX12_laysNode_1 rfl ?_
  refine ob_getR F dX12_laysNode_2 fl_X12_44 h fun v1 h => ?_
  refine ob_rload_n F 0 dX12_laysNode_5 rfl ?_
  refine ob_getR F dX12_laysNode_6 fl_X12_53 h fun v2 h => ?_
  refine ob_iload_n F 1 dX12_laysNode_9 rfl ?_
  refine ob_iload_n F 2 dX12_laysNode_10 rfl ?_
  refine ob_iload_n F 3 dX12_laysNode_11 rfl ?_
  refine ob_cVvS F dX12_laysNode_12 im_X12_decides tw6_201 h (fun b hb => t_X12_decides hb) rfl rfl (Nat.le_of_ble_eq_true rfl) (by decide) fun g3 h => ?_
  refine ob_iload_n F 1 dX12_laysNode_15 rfl ?_
  refine ob_iload_n F 2 dX12_laysNode_16 rfl ?_
  refine ob_iload_n F 3 dX12_laysNode_17 rfl ?_
  refine ob_cSi F dX12_laysNode_18 im_X12_cell tw6_209 h (fun b hb => t_X12_cell hb) rfl rfl (Nat.le_of_ble_eq_true rfl) (by decide) fun v4 h => ?_
  refine ob_istore F (ls2 := [(4, .int v4), (0, ob_rv C n0), (1, .int x1), (2, .int x2), (3, .int x3)]) dX12_laysNode_21 (by decide) rfl ?_
  refine ob_rload_n F 1 dX12_laysNode_23 rfl ?_
  refine ob_iload_n F 2 dX12_laysNode_24 rfl ?_
  refine ob_iconst F (v := 4) dX12_laysNode_25 (by decide) ?_
  refine ob_cVi F dX12_laysNode_26 im_X12_get tw6_154 h (fun b hb => t_X12_get hb) rfl rfl (Nat.le_of_ble_eq_true rfl) (by decide) fun v5 h => ?_
  refine ob_istore F (ls2 := [(5, .int v5), (4, .int v4), (0, ob_rv C n0), (1, .int x1), (2, .int x2), (3, .int x3)]) dX12_laysNode_29 (by decide) rfl ?_
  refine ob_iload F 0 dX12_laysNode_31 rfl ?_
  refine ob_if_le F 50 dX12_laysNode_33 (by decide) h (fun h => ?_) (fun h => ?_)
  · exact ob_sub [2, 3, 4, 5, 1, 0] rfl (b_X12_laysNode_50 F h k)
  · refine ob_rload_n F 2 dX12_laysNode_36 rfl ?_
    refine ob_iload_n F 3 dX12_laysNode_37 rfl ?_
    refine ob_iload_n F 4 dX12_laysNode_38 rfl ?_
    refine ob_iload_n F 5 dX12_laysNode_39 rfl ?_
    refine ob_cVi F dX12_laysNode_40 im_X12_isTouched tw6_227 h (fun b hb => t_X12_isTouched hb) rfl rfl (Nat.le_of_ble_eq_true rfl) (by decide) fun v24 h => ?_
    refine ob_if_eq F 50 dX12_laysNode_43 (by decide) h (fun h => ?_) (fun h => ?_)
    · exact ob_sub [2, 3, 4, 5, 1, 0] rfl (b_X12_laysNode_50 F h k)
    · refine ob_iconst F (v := 1) dX12_laysNode_46 (by decide) ?_
      refine ob_goto F 51 dX12_laysNode_47 (by decide) ?_
      exact ob_sub [2, 3, 4, 5, 1, 0] rfl (b_X12_laysNode_51 F h k)
theorem t_X12_laysNode {cf : ob_Cf} {g : ob_St} {n0 : Nat} {x1 : Int32} {x2 : Int32} {x3 : Int32} {r : ob_St} (h : f_X12_laysNode g n0 x1 x2 x3 = some r) : ob_Mt cf yX12_laysNode cX12_laysNode 7 none 4 104 [ob_rw cf n0, .int x1, .int x2, .int x3] g none r := by
  refine ob_enter (by decide) (Nat.le_of_ble_eq_true rfl) rfl ?_
  intro C hC F k
  subst hC
  exact b_X12_laysNode_0 F h k
-- X12_laysOption
def Lb_X12_laysOption_13 (rec : ob_St → Int32 → Option (ob_St)) (g : ob_St) (n0 : Nat) (x1 : Int32) (x2 : Int32) (x3 : Int32) : Option (ob_St) :=
  (if x2 < x3 then (some g) else ((ob_ck 12 n0 (f_X12_laysNode g n0 x1 x2 x3)).bind fun g3 => rec g3 (x3 + 1)))
def L_X12_laysOption_13 (n0 : Nat) (x1 : Int32) (x2 : Int32) : Nat → ob_St → Int32 → Option (ob_St)
  | 0, _, _ => none
  | n + 1, g, x3 => Lb_X12_laysOption_13 (L_X12_laysOption_13 n0 x1 x2 n) g n0 x1 x2 x3
theorem lb_X12_laysOption_13 {C : ob_Cx} {rec : ob_St → Int32 → Option (ob_St)} (F : ob_Fx C cX12_laysOption 4 RX12 none 5 130) {g : ob_St} {n0 : Nat} {x1 : Int32} {x2 : Int32} {x3 : Int32} {x : (ob_St)} (hr : ∀ {g : ob_St} {x3 : Int32} {x : (ob_St)}, rec g x3 = some x → ob_Ev C 31 [(0, ob_rv C n0), (1, .int x1), (2, .int x2)] [] x → ob_Ev C 13 [(0, ob_rv C n0), (1, .int x1), (2, .int x2), (3, .int x3)] [] g) (h : Lb_X12_laysOption_13 rec g n0 x1 x2 x3 = some x) (k0 : ob_Ev C 31 [(0, ob_rv C n0), (1, .int x1), (2, .int x2)] [] x) : ob_Ev C 13 [(0, ob_rv C n0), (1, .int x1), (2, .int x2), (3, .int x3)] [] g := by
  unfold Lb_X12_laysOption_13 at h
  refine ob_iload_n F 3 dX12_laysOption_13 rfl ?_
  refine ob_iload_n F 2 dX12_laysOption_14 rfl ?_
  refine ob_icmp_gt F 31 dX12_laysOption_15 (by decide) h (fun h => ?_) (fun h => ?_)
  · obtain rfl := Option.some.inj h
    exact ob_sub [0, 1, 2] rfl (k0)
  · refine ob_rload_n F 0 dX12_laysOption_18 rfl ?_
    refine ob_iload_n F 1 dX12_laysOption_19 rfl ?_
    refine ob_iload_n F 2 dX12_laysOption_20 rfl ?_
    refine ob_iload_n F 3 dX12_laysOption_21 rfl ?_
    refine ob_cVvS F dX12_laysOption_22 im_X12_laysNode tw6_197 h (fun b hb => t_X12_laysNode hb) rfl rfl (Nat.le_of_ble_eq_true rfl) (by decide) fun g3 h => ?_
    refine ob_iinc F (v := (x3 + 1)) (ls2 := [(3, .int (x3 + 1)), (0, ob_rv C n0), (1, .int x1), (2, .int x2)]) 3 dX12_laysOption_25 rfl rfl (by decide) rfl ?_
    refine ob_goto F 13 dX12_laysOption_28 (by decide) ?_
    exact ob_sub [1, 2, 3, 0] rfl (hr h k0)
theorem l_X12_laysOption_13 {C : ob_Cx} (F : ob_Fx C cX12_laysOption 4 RX12 none 5 130) {n0 : Nat} {x1 : Int32} {x2 : Int32} : ∀ (n : Nat) {g : ob_St} {x3 : Int32} {x : (ob_St)}, L_X12_laysOption_13 n0 x1 x2 n g x3 = some x → ob_Ev C 31 [(0, ob_rv C n0), (1, .int x1), (2, .int x2)] [] x → ob_Ev C 13 [(0, ob_rv C n0), (1, .int x1), (2, .int x2), (3, .int x3)] [] g := by
  intro n
  induction n with
  | zero => intro g x3 x h; exact ob_no h
  | succ n ih => intro g x3 x h k0; exact lb_X12_laysOption_13 F ih h k0
def Lb_X12_laysOption_7 (rec : ob_St → Int32 → Option (ob_St)) (g : ob_St) (n0 : Nat) (x1 : Int32) (x2 : Int32) : Option (ob_St) :=
  (if x2 < 0 then (some g) else ((L_X12_laysOption_13 n0 x1 x2 ob_FU g 0).bind fun x_4 => rec x_4 (x2 + (-1))))
def L_X12_laysOption_7 (n0 : Nat) (x1 : Int32) : Nat → ob_St → Int32 → Option (ob_St)
  | 0, _, _ => none
  | n + 1, g, x2 => Lb_X12_laysOption_7 (L_X12_laysOption_7 n0 x1 n) g n0 x1 x2
theorem lb_X12_laysOption_7 {C : ob_Cx} {rec : ob_St → Int32 → Option (ob_St)} (F : ob_Fx C cX12_laysOption 4 RX12 none 5 130) {g : ob_St} {n0 : Nat} {x1 : Int32} {x2 : Int32} {x : (ob_St)} (hr : ∀ {g : ob_St} {x2 : Int32} {x : (ob_St)}, rec g x2 = some x → ob_Ev C 37 [] [] x → ob_Ev C 7 [(0, ob_rv C n0), (1, .int x1), (2, .int x2)] [] g) (h : Lb_X12_laysOption_7 rec g n0 x1 x2 = some x) (k0 : ob_Ev C 37 [] [] x) : ob_Ev C 7 [(0, ob_rv C n0), (1, .int x1), (2, .int x2)] [] g := by
  unfold Lb_X12_laysOption_7 at h
  refine ob_iload_n F 2 dX12_laysOption_7 rfl ?_
  refine ob_if_lt F 37 dX12_laysOption_8 (by decide) h (fun h => ?_) (fun h => ?_)
  · obtain rfl := Option.some.inj h
    exact ob_sub [] rfl (k0)
  · refine ob_iconst F (v := 0) dX12_laysOption_11 (by decide) ?_
    refine ob_istore_n F (ls2 := [(3, .int 0), (0, ob_rv C n0), (1, .int x1), (2, .int x2)]) dX12_laysOption_12 (by decide) rfl ?_
    obtain ⟨x_4, hx, h⟩ := Option.bind_eq_some_iff.mp h
    refine ob_sub [1, 2, 3, 0] rfl (l_X12_laysOption_13 F ob_FU hx ?_)
    refine ob_iinc F (v := (x2 + (-1))) (ls2 := [(2, .int (x2 + (-1))), (0, ob_rv C n0), (1, .int x1)]) 2 dX12_laysOption_31 rfl rfl (by decide) rfl ?_
    refine ob_goto F 7 dX12_laysOption_34 (by decide) ?_
    exact ob_sub [1, 2, 0] rfl (hr h k0)
theorem l_X12_laysOption_7 {C : ob_Cx} (F : ob_Fx C cX12_laysOption 4 RX12 none 5 130) {n0 : Nat} {x1 : Int32} : ∀ (n : Nat) {g : ob_St} {x2 : Int32} {x : (ob_St)}, L_X12_laysOption_7 n0 x1 n g x2 = some x → ob_Ev C 37 [] [] x → ob_Ev C 7 [(0, ob_rv C n0), (1, .int x1), (2, .int x2)] [] g := by
  intro n
  induction n with
  | zero => intro g x2 x h; exact ob_no h
  | succ n ih => intro g x2 x h k0; exact lb_X12_laysOption_7 F ih h k0
def f_X12_laysOption (g : ob_St) (n0 : Nat) (x1 : Int32) : Option ob_St :=
  (ob_gR 12 n0 1).bind fun v1 => (ob_rI g 14 v1 2).bind fun v2 => (L_X12_laysOption_7 n0 x1 ob_FU g v2).bind fun x_5 => some x_5
theorem b_X12_laysOption_0 {C : ob_Cx} (F : ob_Fx C cX12_laysOption 4 RX12 none 5 130) {g : ob_St} {n0 : Nat} {x1 : Int32} {r : ob_St} (h : f_X12_laysOption g n0 x1 = some r) (k : ob_Rt C none r) : ob_Ev C 0 [(0, ob_rv C n0), (1, .int x1)] [] g := by
  unfold f_X12_laysOption at h
  refine ob_rload_n F 0 dX12_laysOption_0 rfl ?_
  refine ob_getR F dX12_laysOption_1 fl_X12_13 h fun v1 h => ?_
  refine ob_iconst F (v := 2) dX12_laysOption_4 (by decide) ?_
  refine ob_iald F dX12_laysOption_5 h fun v2 h => ?_
  refine ob_istore_n F (ls2 := [(2, .int v2), (0, ob_rv C n0), (1, .int x1)]) dX12_laysOption_6 (by decide) rfl ?_
  obtain ⟨x_5, hx, h⟩ := Option.bind_eq_some_iff.mp h
  refine ob_sub [1, 2, 0] rfl (l_X12_laysOption_7 F ob_FU hx ?_)
  obtain rfl := Option.some.inj h
  exact ob_vret F dX12_laysOption_37 k
theorem t_X12_laysOption {cf : ob_Cf} {g : ob_St} {n0 : Nat} {x1 : Int32} {r : ob_St} (h : f_X12_laysOption g n0 x1 = some r) : ob_Mt cf yX12_laysOption cX12_laysOption 4 none 5 130 [ob_rw cf n0, .int x1] g none r := by
  refine ob_enter (by decide) (Nat.le_of_ble_eq_true rfl) rfl ?_
  intro C hC F k
  subst hC
  exact b_X12_laysOption_0 F h k
-- X12_lays
def Lb_X12_lays_22 (rec : ob_St → Int32 → Option (ob_St)) (g : ob_St) (n0 : Nat) (x1 : Int32) : Option (ob_St) :=
  (if 14 ≤ x1 then (some g) else ((ob_gR 12 n0 22).bind fun v5 => (ob_gR 12 n0 22).bind fun v6 => (ob_rL g v6 (x1 - 1)).bind fun v7 => (ob_gR 12 n0 1).bind fun v8 => (ob_rI g 14 v8 1).bind fun v9 => (ob_wL g v5 x1 (v7 * (Int32.toInt64 v9))).bind fun g10 => rec g10 (x1 + 1)))
def L_X12_lays_22 (n0 : Nat) : Nat → ob_St → Int32 → Option (ob_St)
  | 0, _, _ => none
  | n + 1, g, x1 => Lb_X12_lays_22 (L_X12_lays_22 n0 n) g n0 x1
theorem lb_X12_lays_22 {C : ob_Cx} {rec : ob_St → Int32 → Option (ob_St)} (F : ob_Fx C cX12_lays 2 RX12 none 6 153) {g : ob_St} {n0 : Nat} {x1 : Int32} {x : (ob_St)} (hr : ∀ {g : ob_St} {x1 : Int32} {x : (ob_St)}, rec g x1 = some x → ob_Ev C 56 [(0, ob_rv C n0)] [] x → ob_Ev C 22 [(0, ob_rv C n0), (1, .int x1)] [] g) (h : Lb_X12_lays_22 rec g n0 x1 = some x) (k0 : ob_Ev C 56 [(0, ob_rv C n0)] [] x) : ob_Ev C 22 [(0, ob_rv C n0), (1, .int x1)] [] g := by
  unfold Lb_X12_lays_22 at h
  refine ob_iload_n F 1 dX12_lays_22 rfl ?_
  refine ob_bipush F (v := 14) dX12_lays_23 (by decide) ?_
  refine ob_icmp_ge F 56 dX12_lays_25 (by decide) h (fun h => ?_) (fun h => ?_)
  · obtain rfl := Option.some.inj h
    exact ob_sub [0] rfl (k0)
  · refine ob_rload_n F 0 dX12_lays_28 rfl ?_
    refine ob_getR F dX12_lays_29 fl_X12_47 h fun v5 h => ?_
    refine ob_iload_n F 1 dX12_lays_32 rfl ?_
    refine ob_rload_n F 0 dX12_lays_33 rfl ?_
    refine ob_getR F dX12_lays_34 fl_X12_47 h fun v6 h => ?_
    refine ob_iload_n F 1 dX12_lays_37 rfl ?_
    refine ob_iconst F (v := 1) dX12_lays_38 (by decide) ?_
    refine ob_isub F dX12_lays_39 ?_
    refine ob_lald F dX12_lays_40 h fun v7 h => ?_
    refine ob_rload_n F 0 dX12_lays_41 rfl ?_
    refine ob_getR F dX12_lays_42 fl_X12_13 h fun v8 h => ?_
    refine ob_iconst F (v := 1) dX12_lays_45 (by decide) ?_
    refine ob_iald F dX12_lays_46 h fun v9 h => ?_
    refine ob_i2l F dX12_lays_47 ?_
    refine ob_lmul F dX12_lays_48 ?_
    refine ob_last F dX12_lays_49 h fun g10 h => ?_
    refine ob_iinc F (v := (x1 + 1)) (ls2 := [(1, .int (x1 + 1)), (0, ob_rv C n0)]) 1 dX12_lays_50 rfl rfl (by decide) rfl ?_
    refine ob_goto F 22 dX12_lays_53 (by decide) ?_
    exact ob_sub [1, 0] rfl (hr h k0)
theorem l_X12_lays_22 {C : ob_Cx} (F : ob_Fx C cX12_lays 2 RX12 none 6 153) {n0 : Nat} : ∀ (n : Nat) {g : ob_St} {x1 : Int32} {x : (ob_St)}, L_X12_lays_22 n0 n g x1 = some x → ob_Ev C 56 [(0, ob_rv C n0)] [] x → ob_Ev C 22 [(0, ob_rv C n0), (1, .int x1)] [] g := by
  intro n
  induction n with
  | zero => intro g x1 x h; exact ob_no h
  | succ n ih => intro g x1 x h k0; exact lb_X12_lays_22 F ih h k0
def Lb_X12_lays_58 (rec : ob_St → Int32 → Option (ob_St)) (g : ob_St) (n0 : Nat) (x1 : Int32) : Option (ob_St) :=
  (ob_gR 12 n0 1).bind fun v12 => (ob_rI g 14 v12 29).bind fun v13 => (if v13 ≤ x1 then (some g) else ((ob_ck 12 n0 (f_X12_laysOption g n0 x1)).bind fun g14 => rec g14 (x1 + 1)))
def L_X12_lays_58 (n0 : Nat) : Nat → ob_St → Int32 → Option (ob_St)
  | 0, _, _ => none
  | n + 1, g, x1 => Lb_X12_lays_58 (L_X12_lays_58 n0 n) g n0 x1
theorem lb_X12_lays_58 {C : ob_Cx} {rec : ob_St → Int32 → Option (ob_St)} (F : ob_Fx C cX12_lays 2 RX12 none 6 153) {g : ob_St} {n0 : Nat} {x1 : Int32} {x : (ob_St)} (hr : ∀ {g : ob_St} {x1 : Int32} {x : (ob_St)}, rec g x1 = some x → ob_Ev C 80 [] [] x → ob_Ev C 58 [(0, ob_rv C n0), (1, .int x1)] [] g) (h : Lb_X12_lays_58 rec g n0 x1 = some x) (k0 : ob_Ev C 80 [] [] x) : ob_Ev C 58 [(0, ob_rv C n0), (1, .int x1)] [] g := by
  unfold Lb_X12_lays_58 at h
  refine ob_iload_n F 1 dX12_lays_58 rfl ?_
  refine ob_rload_n F 0 dX12_lays_59 rfl ?_
  refine ob_getR F dX12_lays_60 fl_X12_13 h fun v12 h => ?_
  refine ob_bipush F (v := 29) dX12_lays_63 (by decide) ?_
  refine ob_iald F dX12_lays_65 h fun v13 h => ?_
  refine ob_icmp_ge F 80 dX12_lays_66 (by decide) h (fun h => ?_) (fun h => ?_)
  · obtain rfl := Option.some.inj h
    exact ob_sub [] rfl (k0)
  · refine ob_rload_n F 0 dX12_lays_69 rfl ?_
    refine ob_iload_n F 1 dX12_lays_70 rfl ?_
    refine ob_cVvS F dX12_lays_71 im_X12_laysOption tw6_193 h (fun b hb => t_X12_laysOption hb) rfl rfl (Nat.le_of_ble_eq_true rfl) (by decide) fun g14 h => ?_
    refine ob_iinc F (v := (x1 + 1)) (ls2 := [(1, .int (x1 + 1)), (0, ob_rv C n0)]) 1 dX12_lays_74 rfl rfl (by decide) rfl ?_
    refine ob_goto F 58 dX12_lays_77 (by decide) ?_
    exact ob_sub [1, 0] rfl (hr h k0)
theorem l_X12_lays_58 {C : ob_Cx} (F : ob_Fx C cX12_lays 2 RX12 none 6 153) {n0 : Nat} : ∀ (n : Nat) {g : ob_St} {x1 : Int32} {x : (ob_St)}, L_X12_lays_58 n0 n g x1 = some x → ob_Ev C 80 [] [] x → ob_Ev C 58 [(0, ob_rv C n0), (1, .int x1)] [] g := by
  intro n
  induction n with
  | zero => intro g x1 x h; exact ob_no h
  | succ n ih => intro g x1 x h k0; exact lb_X12_lays_58 F ih h k0
def f_X12_lays (g : ob_St) (n0 : Nat) : Option ob_St :=
  (ob_gI g 12 n0 19).bind fun v1 => (if v1 = 0 then ((ob_pZ g 12 n0 19 1).bind fun g2 => (ob_gR 12 n0 22).bind fun v3 => (ob_wL g2 v3 0 1).bind fun g4 => (L_X12_lays_22 n0 ob_FU g4 1).bind fun x_11 => (L_X12_lays_58 n0 ob_FU x_11 0).bind fun x_15 => some x_15) else (some g))
theorem b_X12_lays_0 {C : ob_Cx} (F : ob_Fx C cX12_lays 2 RX12 none 6 153) {g : ob_St} {n0 : Nat} {r : ob_St} (h : f_X12_lays g n0 = some r) (k : ob_Rt C none r) : ob_Ev C 0 [(0, ob_rv C n0)] [] g := by
  unfold f_X12_lays at h
  refine ob_rload_n F 0 dX12_lays_0 rfl ?_
  refine ob_getI F dX12_lays_1 fl_X12_180 h fun v1 h => ?_
  refine ob_if_eq F 8 dX12_lays_4 (by decide) h (fun h => ?_) (fun h => ?_)
  · refine ob_rload_n F 0 dX12_lays_8 rfl ?_
    refine ob_iconst F (v := 1) dX12_lays_9 (by decide) ?_
    refine ob_putZ F dX12_lays_10 fp_X12_180 h fun g2 h => ?_
    refine ob_rload_n F 0 dX12_lays_13 rfl ?_
    refine ob_getR F dX12_lays_14 fl_X12_47 h fun v3 h => ?_
    refine ob_iconst F (v := 0) dX12_lays_17 (by decide) ?_
    refine ob_lconst F (v := 1) dX12_lays_18 (by decide) ?_
    refine ob_last F dX12_lays_19 h fun g4 h => ?_
    refine ob_iconst F (v := 1) dX12_lays_20 (by decide) ?_
    refine ob_istore_n F (ls2 := [(1, .int 1), (0, ob_rv C n0)]) dX12_lays_21 (by decide) rfl ?_
    obtain ⟨x_11, hx, h⟩ := Option.bind_eq_some_iff.mp h
    refine ob_sub [1, 0] rfl (l_X12_lays_22 F ob_FU hx ?_)
    refine ob_iconst F (v := 0) dX12_lays_56 (by decide) ?_
    refine ob_istore_n F (ls2 := [(1, .int 0), (0, ob_rv C n0)]) dX12_lays_57 (by decide) rfl ?_
    obtain ⟨x_15, hx, h⟩ := Option.bind_eq_some_iff.mp h
    refine ob_sub [1, 0] rfl (l_X12_lays_58 F ob_FU hx ?_)
    obtain rfl := Option.some.inj h
    exact ob_vret F dX12_lays_80 k
  · obtain rfl := Option.some.inj h
    exact ob_vret F dX12_lays_7 k
theorem t_X12_lays {cf : ob_Cf} {g : ob_St} {n0 : Nat} {r : ob_St} (h : f_X12_lays g n0 = some r) : ob_Mt cf yX12_lays cX12_lays 2 none 6 153 [ob_rw cf n0] g none r := by
  refine ob_enter (by decide) (Nat.le_of_ble_eq_true rfl) rfl ?_
  intro C hC F k
  subst hC
  exact b_X12_lays_0 F h k
-- X12_divisor
def Lb_X12_divisor_17 (rec : Int64 → Int64 → Option (Int64)) (y4 : Int64) (y6 : Int64) : Option (Int64) :=
  (if y6 = 0 then (some y4) else ((ob_rmL y4 y6).bind fun v1 => rec y6 v1))
def L_X12_divisor_17 : Nat → Int64 → Int64 → Option (Int64)
  | 0, _, _ => none
  | n + 1, y4, y6 => Lb_X12_divisor_17 (L_X12_divisor_17 n) y4 y6
theorem lb_X12_divisor_17 {C : ob_Cx} {rec : Int64 → Int64 → Option (Int64)} (F : ob_Fx C cX12_divisor 10 RX12 (some .long) 0 0) {g : ob_St} {y4 : Int64} {y6 : Int64} {x : (Int64)} (hr : ∀ {y4 : Int64} {y6 : Int64} {x : (Int64)}, rec y4 y6 = some x → ob_Ev C 42 [(4, .long x)] [] g → ob_Ev C 17 [(4, .long y4), (6, .long y6)] [] g) (h : Lb_X12_divisor_17 rec y4 y6 = some x) (k0 : ob_Ev C 42 [(4, .long x)] [] g) : ob_Ev C 17 [(4, .long y4), (6, .long y6)] [] g := by
  unfold Lb_X12_divisor_17 at h
  refine ob_lload F 1 dX12_divisor_17 rfl ?_
  refine ob_lconst F (v := 0) dX12_divisor_19 (by decide) ?_
  refine ob_lcmp_eq F 42 dX12_divisor_20 dX12_divisor_21 (by decide) h (fun h => ?_) (fun h => ?_)
  · obtain rfl := Option.some.inj h
    exact ob_sub [0] rfl (k0)
  · refine ob_lload F 0 dX12_divisor_24 rfl ?_
    refine ob_lload F 1 dX12_divisor_26 rfl ?_
    refine ob_lrem F dX12_divisor_28 h fun v1 h => ?_
    refine ob_lstore F (ls2 := [(8, .long v1), (4, .long y4), (6, .long y6)]) dX12_divisor_29 (by decide) rfl ?_
    refine ob_lload F 2 dX12_divisor_31 rfl ?_
    refine ob_lstore F (ls2 := [(4, .long y6), (8, .long v1), (6, .long y6)]) dX12_divisor_33 (by decide) rfl ?_
    refine ob_lload F 1 dX12_divisor_35 rfl ?_
    refine ob_lstore F (ls2 := [(6, .long v1), (4, .long y6), (8, .long v1)]) dX12_divisor_37 (by decide) rfl ?_
    refine ob_goto F 17 dX12_divisor_39 (by decide) ?_
    exact ob_sub [1, 0] rfl (hr h k0)
theorem l_X12_divisor_17 {C : ob_Cx} (F : ob_Fx C cX12_divisor 10 RX12 (some .long) 0 0) {g : ob_St} : ∀ (n : Nat) {y4 : Int64} {y6 : Int64} {x : (Int64)}, L_X12_divisor_17 n y4 y6 = some x → ob_Ev C 42 [(4, .long x)] [] g → ob_Ev C 17 [(4, .long y4), (6, .long y6)] [] g := by
  intro n
  induction n with
  | zero => intro y4 y6 x h; exact ob_no h
  | succ n ih => intro y4 y6 x h k0; exact lb_X12_divisor_17 F ih h k0
def B_X12_divisor_12 (y2 : Int64) (s0 : Int64) : Option Int64 :=
  (L_X12_divisor_17 ob_FU s0 y2).bind fun x_2 => some x_2
theorem b_X12_divisor_12 {C : ob_Cx} (F : ob_Fx C cX12_divisor 10 RX12 (some .long) 0 0) {g : ob_St} {y2 : Int64} {s0 : Int64} {r : Int64} (h : B_X12_divisor_12 y2 s0 = some r) (k : ob_Rt C (some (.long r)) g) : ob_Ev C 12 [(2, .long y2)] [.long s0] g := by
  unfold B_X12_divisor_12 at h
  refine ob_lstore F (ls2 := [(4, .long s0), (2, .long y2)]) dX12_divisor_12 (by decide) rfl ?_
  refine ob_lload_n F 1 dX12_divisor_14 rfl ?_
  refine ob_lstore F (ls2 := [(6, .long y2), (4, .long s0), (2, .long y2)]) dX12_divisor_15 (by decide) rfl ?_
  obtain ⟨x_2, hx, h⟩ := Option.bind_eq_some_iff.mp h
  refine ob_sub [1, 0] rfl (l_X12_divisor_17 F ob_FU hx ?_)
  refine ob_lload F 0 dX12_divisor_42 rfl ?_
  obtain rfl := Option.some.inj h
  exact ob_lret F dX12_divisor_44 k
def f_X12_divisor (y0 : Int64) (y2 : Int64) : Option Int64 :=
  (if 0 ≤ y0 then (B_X12_divisor_12 y2 y0) else (B_X12_divisor_12 y2 (-y0)))
theorem b_X12_divisor_0 {C : ob_Cx} (F : ob_Fx C cX12_divisor 10 RX12 (some .long) 0 0) {g : ob_St} {y0 : Int64} {y2 : Int64} {r : Int64} (h : f_X12_divisor y0 y2 = some r) (k : ob_Rt C (some (.long r)) g) : ob_Ev C 0 [(0, .long y0), (2, .long y2)] [] g := by
  unfold f_X12_divisor at h
  refine ob_lload_n F 0 dX12_divisor_0 rfl ?_
  refine ob_lconst F (v := 0) dX12_divisor_1 (by decide) ?_
  refine ob_lcmp_ge F 11 dX12_divisor_2 dX12_divisor_3 (by decide) h (fun h => ?_) (fun h => ?_)
  · refine ob_lload_n F 0 dX12_divisor_11 rfl ?_
    exact ob_sub [1] rfl (b_X12_divisor_12 F h k)
  · refine ob_lload_n F 0 dX12_divisor_6 rfl ?_
    refine ob_lneg F dX12_divisor_7 ?_
    refine ob_goto F 12 dX12_divisor_8 (by decide) ?_
    exact ob_sub [1] rfl (b_X12_divisor_12 F h k)
theorem t_X12_divisor {cf : ob_Cf} {g : ob_St} {y0 : Int64} {y2 : Int64} {r : Int64} (h : f_X12_divisor y0 y2 = some r) : ob_Mt cf yX12_divisor cX12_divisor 10 (some .long) 0 0 [.long y0, .long y2] g (some (.long r)) g := by
  refine ob_enter (by decide) (Nat.le_of_ble_eq_true rfl) rfl ?_
  intro C hC F k
  subst hC
  exact b_X12_divisor_0 F h k
-- X12_told
def f_X12_told (y0 : Int64) (y2 : Int64) (x4 : Int32) : Option Int64 :=
  (f_X12_divisor y0 y2).bind fun v1 => (if x4 = 0 then ((ob_dvL y0 v1).bind fun v3 => some v3) else ((ob_dvL y2 v1).bind fun v2 => some v2))
theorem b_X12_told_0 {C : ob_Cx} (F : ob_Fx C cX12_told 7 RX12 (some .long) 1 29) {g : ob_St} {y0 : Int64} {y2 : Int64} {x4 : Int32} {r : Int64} (h : f_X12_told y0 y2 x4 = some r) (k : ob_Rt C (some (.long r)) g) : ob_Ev C 0 [(0, .long y0), (2, .long y2), (4, .int x4)] [] g := by
  unfold f_X12_told at h
  refine ob_lload_n F 0 dX12_told_0 rfl ?_
  refine ob_lload_n F 1 dX12_told_1 rfl ?_
  refine ob_cSl F dX12_told_2 im_X12_divisor tw6_234 h (fun b hb => t_X12_divisor hb) rfl rfl (Nat.le_of_ble_eq_true rfl) (by decide) fun v1 h => ?_
  refine ob_lstore F (ls2 := [(5, .long v1), (0, .long y0), (2, .long y2), (4, .int x4)]) dX12_told_5 (by decide) rfl ?_
  refine ob_iload F 3 dX12_told_7 rfl ?_
  refine ob_if_ne F 19 dX12_told_9 (by decide) h (fun h => ?_) (fun h => ?_)
  · refine ob_lload_n F 2 dX12_told_19 rfl ?_
    refine ob_lload F 0 dX12_told_20 rfl ?_
    refine ob_ldiv F dX12_told_22 h fun v2 h => ?_
    obtain rfl := Option.some.inj h
    exact ob_lret F dX12_told_23 k
  · refine ob_lload_n F 1 dX12_told_12 rfl ?_
    refine ob_lload F 0 dX12_told_13 rfl ?_
    refine ob_ldiv F dX12_told_15 h fun v3 h => ?_
    refine ob_goto F 23 dX12_told_16 (by decide) ?_
    obtain rfl := Option.some.inj h
    exact ob_lret F dX12_told_23 k
theorem t_X12_told {cf : ob_Cf} {g : ob_St} {y0 : Int64} {y2 : Int64} {x4 : Int32} {r : Int64} (h : f_X12_told y0 y2 x4 = some r) : ob_Mt cf yX12_told cX12_told 7 (some .long) 1 29 [.long y0, .long y2, .int x4] g (some (.long r)) g := by
  refine ob_enter (by decide) (Nat.le_of_ble_eq_true rfl) rfl ?_
  intro C hC F k
  subst hC
  exact b_X12_told_0 F h k
-- X12_isPart
def f_X12_isPart (x0 : Int32) : Option Int32 :=
  (if x0 = 0 then (some 1) else ((if x0 = 1 then (some 1) else (some 0))))
theorem b_X12_isPart_0 {C : ob_Cx} (F : ob_Fx C cX12_isPart 1 RX12 (some .boolean) 0 0) {g : ob_St} {x0 : Int32} {r : Int32} (h : f_X12_isPart x0 = some r) (k : ob_Rt C (some (.int r)) g) : ob_Ev C 0 [(0, .int x0)] [] g := by
  unfold f_X12_isPart at h
  refine ob_iload_n F 0 dX12_isPart_0 rfl ?_
  refine ob_if_eq F 9 dX12_isPart_1 (by decide) h (fun h => ?_) (fun h => ?_)
  · refine ob_iconst F (v := 1) dX12_isPart_9 (by decide) ?_
    refine ob_goto F 14 dX12_isPart_10 (by decide) ?_
    obtain rfl := Option.some.inj h
    exact ob_zret F dX12_isPart_14 (Or.inr rfl) k
  · refine ob_iload_n F 0 dX12_isPart_4 rfl ?_
    refine ob_iconst F (v := 1) dX12_isPart_5 (by decide) ?_
    refine ob_icmp_ne F 13 dX12_isPart_6 (by decide) h (fun h => ?_) (fun h => ?_)
    · refine ob_iconst F (v := 0) dX12_isPart_13 (by decide) ?_
      obtain rfl := Option.some.inj h
      exact ob_zret F dX12_isPart_14 (Or.inl rfl) k
    · refine ob_iconst F (v := 1) dX12_isPart_9 (by decide) ?_
      refine ob_goto F 14 dX12_isPart_10 (by decide) ?_
      obtain rfl := Option.some.inj h
      exact ob_zret F dX12_isPart_14 (Or.inr rfl) k
theorem t_X12_isPart {cf : ob_Cf} {g : ob_St} {x0 : Int32} {r : Int32} (h : f_X12_isPart x0 = some r) : ob_Mt cf yX12_isPart cX12_isPart 1 (some .boolean) 0 0 [.int x0] g (some (.int r)) g := by
  refine ob_enter (by decide) (Nat.le_of_ble_eq_true rfl) (Or.inr rfl) ?_
  intro C hC F k
  subst hC
  exact b_X12_isPart_0 F h k
-- X12_isNone
def B_X12_isNone_31 (g : ob_St) (n0 : Nat) (s0 : Nat) (s1 : Int32) : Option (Int32 × ob_St) :=
  (ob_ck 12 s0 (f_X12_throwsIf g s0 s1)).bind fun v2 => (if v2.1 = 0 then ((ob_ck 12 n0 (f_X12_lays v2.2 n0)).bind fun g3 => some (0, g3)) else (some (1, v2.2)))
theorem b_X12_isNone_31 {C : ob_Cx} (F : ob_Fx C cX12_isNone 5 RX12 (some .boolean) 7 174) {g : ob_St} {n0 : Nat} {s0 : Nat} {s1 : Int32} {r : (Int32 × ob_St)} (h : B_X12_isNone_31 g n0 s0 s1 = some r) (k : ob_Rt C (some (.int r.1)) r.2) : ob_Ev C 31 [(0, ob_rv C n0)] [.int s1, ob_rv C s0] g := by
  unfold B_X12_isNone_31 at h
  refine ob_cViS F dX12_isNone_31 im_X12_throwsIf tw6_185 h (fun b hb => t_X12_throwsIf hb) rfl rfl (Nat.le_of_ble_eq_true rfl) (by decide) fun v2 h => ?_
  refine ob_if_eq F 39 dX12_isNone_34 (by decide) h (fun h => ?_) (fun h => ?_)
  · refine ob_rload_n F 0 dX12_isNone_39 rfl ?_
    refine ob_cVvS F dX12_isNone_40 im_X12_lays tw6_189 h (fun b hb => t_X12_lays hb) rfl rfl (Nat.le_of_ble_eq_true rfl) (by decide) fun g3 h => ?_
    refine ob_iconst F (v := 0) dX12_isNone_43 (by decide) ?_
    obtain rfl := Option.some.inj h
    exact ob_zret F dX12_isNone_44 (Or.inl rfl) k
  · refine ob_iconst F (v := 1) dX12_isNone_37 (by decide) ?_
    obtain rfl := Option.some.inj h
    exact ob_zret F dX12_isNone_38 (Or.inr rfl) k
def B_X12_isNone_26 (g : ob_St) (n0 : Nat) (s0 : Nat) : Option (Int32 × ob_St) :=
  B_X12_isNone_31 g n0 s0 1
theorem b_X12_isNone_26 {C : ob_Cx} (F : ob_Fx C cX12_isNone 5 RX12 (some .boolean) 7 174) {g : ob_St} {n0 : Nat} {s0 : Nat} {r : (Int32 × ob_St)} (h : B_X12_isNone_26 g n0 s0 = some r) (k : ob_Rt C (some (.int r.1)) r.2) : ob_Ev C 26 [(0, ob_rv C n0)] [ob_rv C s0] g := by
  unfold B_X12_isNone_26 at h
  refine ob_iconst F (v := 1) dX12_isNone_26 (by decide) ?_
  refine ob_goto F 31 dX12_isNone_27 (by decide) ?_
  exact b_X12_isNone_31 F h k
def f_X12_isNone (g : ob_St) (n0 : Nat) (x1 : Int32) (x2 : Int32) (x3 : Int32) (x4 : Int32) : Option (Int32 × ob_St) :=
  (ob_ck 12 n0 (f_X12_isOption g n0 x1)).bind fun v1 => (if v1 = 0 then (B_X12_isNone_26 g n0 n0) else ((ob_ck 12 n0 (f_X12_isNode g n0 x2 x3)).bind fun v4 => (if v4 = 0 then (B_X12_isNone_26 g n0 n0) else ((f_X12_isPart x4).bind fun v5 => (if v5 = 0 then (B_X12_isNone_26 g n0 n0) else (B_X12_isNone_31 g n0 n0 0))))))
theorem b_X12_isNone_0 {C : ob_Cx} (F : ob_Fx C cX12_isNone 5 RX12 (some .boolean) 7 174) {g : ob_St} {n0 : Nat} {x1 : Int32} {x2 : Int32} {x3 : Int32} {x4 : Int32} {r : (Int32 × ob_St)} (h : f_X12_isNone g n0 x1 x2 x3 x4 = some r) (k : ob_Rt C (some (.int r.1)) r.2) : ob_Ev C 0 [(0, ob_rv C n0), (1, .int x1), (2, .int x2), (3, .int x3), (4, .int x4)] [] g := by
  unfold f_X12_isNone at h
  refine ob_rload_n F 0 dX12_isNone_0 rfl ?_
  refine ob_rload_n F 0 dX12_isNone_1 rfl ?_
  refine ob_iload_n F 1 dX12_isNone_2 rfl ?_
  refine ob_cVi F dX12_isNone_3 im_X12_isOption tw6_145 h (fun b hb => t_X12_isOption hb) rfl rfl (Nat.le_of_ble_eq_true rfl) (by decide) fun v1 h => ?_
  refine ob_if_eq F 26 dX12_isNone_6 (by decide) h (fun h => ?_) (fun h => ?_)
  · exact ob_sub [0] rfl (b_X12_isNone_26 F h k)
  · refine ob_rload_n F 0 dX12_isNone_9 rfl ?_
    refine ob_iload_n F 2 dX12_isNone_10 rfl ?_
    refine ob_iload_n F 3 dX12_isNone_11 rfl ?_
    refine ob_cVi F dX12_isNone_12 im_X12_isNode tw6_162 h (fun b hb => t_X12_isNode hb) rfl rfl (Nat.le_of_ble_eq_true rfl) (by decide) fun v4 h => ?_
    refine ob_if_eq F 26 dX12_isNone_15 (by decide) h (fun h => ?_) (fun h => ?_)
    · exact ob_sub [0] rfl (b_X12_isNone_26 F h k)
    · refine ob_iload F 4 dX12_isNone_18 rfl ?_
      refine ob_cSi F dX12_isNone_20 im_X12_isPart tw6_182 h (fun b hb => t_X12_isPart hb) rfl rfl (Nat.le_of_ble_eq_true rfl) (by decide) fun v5 h => ?_
      refine ob_if_ne F 30 dX12_isNone_23 (by decide) h (fun h => ?_) (fun h => ?_)
      · refine ob_iconst F (v := 0) dX12_isNone_30 (by decide) ?_
        exact ob_sub [0] rfl (b_X12_isNone_31 F h k)
      · exact ob_sub [0] rfl (b_X12_isNone_26 F h k)
theorem t_X12_isNone {cf : ob_Cf} {g : ob_St} {n0 : Nat} {x1 : Int32} {x2 : Int32} {x3 : Int32} {x4 : Int32} {r : (Int32 × ob_St)} (h : f_X12_isNone g n0 x1 x2 x3 x4 = some r) : ob_Mt cf yX12_isNone cX12_isNone 5 (some .boolean) 7 174 [ob_rw cf n0, .int x1, .int x2, .int x3, .int x4] g (some (.int r.1)) r.2 := by
  refine ob_enter (by decide) (Nat.le_of_ble_eq_true rfl) (Or.inr rfl) ?_
  intro C hC F k
  subst hC
  exact b_X12_isNone_0 F h k
-- X12_pays
def f_X12_pays (g : ob_St) (n0 : Nat) (x1 : Int32) (x2 : Int32) (x3 : Int32) (x4 : Int32) : Option (Int64 × ob_St) :=
  (ob_ck 12 n0 (f_X12_isNone g n0 x1 x2 x3 x4)).bind fun v1 => (if v1.1 = 0 then ((ob_ck 12 n0 (f_X12_paysAt v1.2 n0 x1 x2 x3)).bind fun v2 => (ob_ck 12 n0 (f_X12_powerAt v1.2 n0 x2)).bind fun v3 => (f_X12_told v2 v3 x4).bind fun v4 => some (v4, v1.2)) else (some (0, v1.2)))
theorem b_X12_pays_0 {C : ob_Cx} (F : ob_Fx C cX12_pays 5 RX12 (some .long) 8 198) {g : ob_St} {n0 : Nat} {x1 : Int32} {x2 : Int32} {x3 : Int32} {x4 : Int32} {r : (Int64 × ob_St)} (h : f_X12_pays g n0 x1 x2 x3 x4 = some r) (k : ob_Rt C (some (.long r.1)) r.2) : ob_Ev C 0 [(0, ob_rv C n0), (1, .int x1), (2, .int x2), (3, .int x3), (4, .int x4)] [] g := by
  unfold f_X12_pays at h
  refine ob_rload_n F 0 dX12_pays_0 rfl ?_
  refine ob_iload_n F 1 dX12_pays_1 rfl ?_
  refine ob_iload_n F 2 dX12_pays_2 rfl ?_
  refine ob_iload_n F 3 dX12_pays_3 rfl ?_
  refine ob_iload F 4 dX12_pays_4 rfl ?_
  refine ob_cViS F dX12_pays_6 im_X12_isNone tw6_178 h (fun b hb => t_X12_isNone hb) rfl rfl (Nat.le_of_ble_eq_true rfl) (by decide) fun v1 h => ?_
  refine ob_if_eq F 16 dX12_pays_9 (by decide) h (fun h => ?_) (fun h => ?_)
  · refine ob_rload_n F 0 dX12_pays_16 rfl ?_
    refine ob_iload_n F 1 dX12_pays_17 rfl ?_
    refine ob_iload_n F 2 dX12_pays_18 rfl ?_
    refine ob_iload_n F 3 dX12_pays_19 rfl ?_
    refine ob_cVl F dX12_pays_20 im_X12_paysAt tw6_212 h (fun b hb => t_X12_paysAt hb) rfl rfl (Nat.le_of_ble_eq_true rfl) (by decide) fun v2 h => ?_
    refine ob_rload_n F 0 dX12_pays_23 rfl ?_
    refine ob_iload_n F 2 dX12_pays_24 rfl ?_
    refine ob_cVl F dX12_pays_25 im_X12_powerAt tw6_219 h (fun b hb => t_X12_powerAt hb) rfl rfl (Nat.le_of_ble_eq_true rfl) (by decide) fun v3 h => ?_
    refine ob_iload F 4 dX12_pays_28 rfl ?_
    refine ob_cSl F dX12_pays_30 im_X12_told tw6_231 h (fun b hb => t_X12_told hb) rfl rfl (Nat.le_of_ble_eq_true rfl) (by decide) fun v4 h => ?_
    obtain rfl := Option.some.inj h
    exact ob_lret F dX12_pays_33 k
  · refine ob_lconst F (v := 0) dX12_pays_12 (by decide) ?_
    refine ob_goto F 33 dX12_pays_13 (by decide) ?_
    obtain rfl := Option.some.inj h
    exact ob_lret F dX12_pays_33 k
theorem t_X12_pays {cf : ob_Cf} {g : ob_St} {n0 : Nat} {x1 : Int32} {x2 : Int32} {x3 : Int32} {x4 : Int32} {r : (Int64 × ob_St)} (h : f_X12_pays g n0 x1 x2 x3 x4 = some r) : ob_Mt cf yX12_pays cX12_pays 5 (some .long) 8 198 [ob_rw cf n0, .int x1, .int x2, .int x3, .int x4] g (some (.long r.1)) r.2 := by
  refine ob_enter (by decide) (Nat.le_of_ble_eq_true rfl) rfl ?_
  intro C hC F k
  subst hC
  exact b_X12_pays_0 F h k
-- X12_value
def f_X12_value (g : ob_St) (n0 : Nat) (x1 : Int32) (x2 : Int32) (x3 : Int32) (x4 : Int32) : Option (Int64 × ob_St) :=
  (ob_ck 12 n0 (f_X12_isNone g n0 x1 x2 x3 x4)).bind fun v1 => (if v1.1 = 0 then ((ob_gR 12 n0 20).bind fun v2 => (f_X12_cell x1 x2 x3).bind fun v3 => (ob_rL v1.2 v2 v3).bind fun v4 => (ob_ck 12 n0 (f_X12_powerAt v1.2 n0 x2)).bind fun v5 => (f_X12_told v4 v5 x4).bind fun v6 => some (v6, v1.2)) else (some (0, v1.2)))
theorem b_X12_value_0 {C : ob_Cx} (F : ob_Fx C cX12_value 5 RX12 (some .long) 8 198) {g : ob_St} {n0 : Nat} {x1 : Int32} {x2 : Int32} {x3 : Int32} {x4 : Int32} {r : (Int64 × ob_St)} (h : f_X12_value g n0 x1 x2 x3 x4 = some r) (k : ob_Rt C (some (.long r.1)) r.2) : ob_Ev C 0 [(0, ob_rv C n0), (1, .int x1), (2, .int x2), (3, .int x3), (4, .int x4)] [] g := by
  unfold f_X12_value at h
  refine ob_rload_n F 0 dX12_value_0 rfl ?_
  refine ob_iload_n F 1 dX12_value_1 rfl ?_
  refine ob_iload_n F 2 dX12_value_2 rfl ?_
  refine ob_iload_n F 3 dX12_value_3 rfl ?_
  refine ob_iload F 4 dX12_value_4 rfl ?_
  refine ob_cViS F dX12_value_6 im_X12_isNone tw6_178 h (fun b hb => t_X12_isNone hb) rfl rfl (Nat.le_of_ble_eq_true rfl) (by decide) fun v1 h => ?_
  refine ob_if_eq F 16 dX12_value_9 (by decide) h (fun h => ?_) (fun h => ?_)
  · refine ob_rload_n F 0 dX12_value_16 rfl ?_
    refine ob_getR F dX12_value_17 fl_X12_40 h fun v2 h => ?_
    refine ob_iload_n F 1 dX12_value_20 rfl ?_
    refine ob_iload_n F 2 dX12_value_21 rfl ?_
    refine ob_iload_n F 3 dX12_value_22 rfl ?_
    refine ob_cSi F dX12_value_23 im_X12_cell tw6_209 h (fun b hb => t_X12_cell hb) rfl rfl (Nat.le_of_ble_eq_true rfl) (by decide) fun v3 h => ?_
    refine ob_lald F dX12_value_26 h fun v4 h => ?_
    refine ob_rload_n F 0 dX12_value_27 rfl ?_
    refine ob_iload_n F 2 dX12_value_28 rfl ?_
    refine ob_cVl F dX12_value_29 im_X12_powerAt tw6_219 h (fun b hb => t_X12_powerAt hb) rfl rfl (Nat.le_of_ble_eq_true rfl) (by decide) fun v5 h => ?_
    refine ob_iload F 4 dX12_value_32 rfl ?_
    refine ob_cSl F dX12_value_34 im_X12_told tw6_231 h (fun b hb => t_X12_told hb) rfl rfl (Nat.le_of_ble_eq_true rfl) (by decide) fun v6 h => ?_
    obtain rfl := Option.some.inj h
    exact ob_lret F dX12_value_37 k
  · refine ob_lconst F (v := 0) dX12_value_12 (by decide) ?_
    refine ob_goto F 37 dX12_value_13 (by decide) ?_
    obtain rfl := Option.some.inj h
    exact ob_lret F dX12_value_37 k
theorem t_X12_value {cf : ob_Cf} {g : ob_St} {n0 : Nat} {x1 : Int32} {x2 : Int32} {x3 : Int32} {x4 : Int32} {r : (Int64 × ob_St)} (h : f_X12_value g n0 x1 x2 x3 x4 = some r) : ob_Mt cf yX12_value cX12_value 5 (some .long) 8 198 [ob_rw cf n0, .int x1, .int x2, .int x3, .int x4] g (some (.long r.1)) r.2 := by
  refine ob_enter (by decide) (Nat.le_of_ble_eq_true rfl) rfl ?_
  intro C hC F k
  subst hC
  exact b_X12_value_0 F h k
-- X12_plain
def f_X12_plain (g : ob_St) (n0 : Nat) (x1 : Int32) (x2 : Int32) (x3 : Int32) (x4 : Int32) : Option (Int64 × ob_St) :=
  (ob_ck 12 n0 (f_X12_isNone g n0 x1 x2 x3 x4)).bind fun v1 => (if v1.1 = 0 then ((ob_gR 12 n0 21).bind fun v2 => (f_X12_cell x1 x2 x3).bind fun v3 => (ob_rL v1.2 v2 v3).bind fun v4 => (ob_ck 12 n0 (f_X12_powerAt v1.2 n0 x2)).bind fun v5 => (f_X12_told v4 v5 x4).bind fun v6 => some (v6, v1.2)) else (some (0, v1.2)))
theorem b_X12_plain_0 {C : ob_Cx} (F : ob_Fx C cX12_plain 5 RX12 (some .long) 8 198) {g : ob_St} {n0 : Nat} {x1 : Int32} {x2 : Int32} {x3 : Int32} {x4 : Int32} {r : (Int64 × ob_St)} (h : f_X12_plain g n0 x1 x2 x3 x4 = some r) (k : ob_Rt C (some (.long r.1)) r.2) : ob_Ev C 0 [(0, ob_rv C n0), (1, .int x1), (2, .int x2), (3, .int x3), (4, .int x4)] [] g := by
  unfold f_X12_plain at h
  refine ob_rload_n F 0 dX12_plain_0 rfl ?_
  refine ob_iload_n F 1 dX12_plain_1 rfl ?_
  refine ob_iload_n F 2 dX12_plain_2 rfl ?_
  refine ob_iload_n F 3 dX12_plain_3 rfl ?_
  refine ob_iload F 4 dX12_plain_4 rfl ?_
  refine ob_cViS F dX12_plain_6 im_X12_isNone tw6_178 h (fun b hb => t_X12_isNone hb) rfl rfl (Nat.le_of_ble_eq_true rfl) (by decide) fun v1 h => ?_
  refine ob_if_eq F 16 dX12_plain_9 (by decide) h (fun h => ?_) (fun h => ?_)
  · refine ob_rload_n F 0 dX12_plain_16 rfl ?_
    refine ob_getR F dX12_plain_17 fl_X12_44 h fun v2 h => ?_
    refine ob_iload_n F 1 dX12_plain_20 rfl ?_
    refine ob_iload_n F 2 dX12_plain_21 rfl ?_
    refine ob_iload_n F 3 dX12_plain_22 rfl ?_
    refine ob_cSi F dX12_plain_23 im_X12_cell tw6_209 h (fun b hb => t_X12_cell hb) rfl rfl (Nat.le_of_ble_eq_true rfl) (by decide) fun v3 h => ?_
    refine ob_lald F dX12_plain_26 h fun v4 h => ?_
    refine ob_rload_n F 0 dX12_plain_27 rfl ?_
    refine ob_iload_n F 2 dX12_plain_28 rfl ?_
    refine ob_cVl F dX12_plain_29 im_X12_powerAt tw6_219 h (fun b hb => t_X12_powerAt hb) rfl rfl (Nat.le_of_ble_eq_true rfl) (by decide) fun v5 h => ?_
    refine ob_iload F 4 dX12_plain_32 rfl ?_
    refine ob_cSl F dX12_plain_34 im_X12_told tw6_231 h (fun b hb => t_X12_told hb) rfl rfl (Nat.le_of_ble_eq_true rfl) (by decide) fun v6 h => ?_
    obtain rfl := Option.some.inj h
    exact ob_lret F dX12_plain_37 k
  · refine ob_lconst F (v := 0) dX12_plain_12 (by decide) ?_
    refine ob_goto F 37 dX12_plain_13 (by decide) ?_
    obtain rfl := Option.some.inj h
    exact ob_lret F dX12_plain_37 k
theorem t_X12_plain {cf : ob_Cf} {g : ob_St} {n0 : Nat} {x1 : Int32} {x2 : Int32} {x3 : Int32} {x4 : Int32} {r : (Int64 × ob_St)} (h : f_X12_plain g n0 x1 x2 x3 x4 = some r) : ob_Mt cf yX12_plain cX12_plain 5 (some .long) 8 198 [ob_rw cf n0, .int x1, .int x2, .int x3, .int x4] g (some (.long r.1)) r.2 := by
  refine ob_enter (by decide) (Nat.le_of_ble_eq_true rfl) rfl ?_
  intro C hC F k
  subst hC
  exact b_X12_plain_0 F h k
