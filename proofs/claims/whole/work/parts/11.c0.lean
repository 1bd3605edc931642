-- X10_spelt
def f_X10_spelt (y0 : Int64) (x2 : Int32) : Option Int64 :=
  some ((((y0 * 32) + (Int32.toInt64 x2)) - 97) + 1)
theorem b_X10_spelt_0 {C : ob_Cx} (F : ob_Fx C cX10_spelt 3 RX10 (some .long) 0 0) {g : ob_St} {y0 : Int64} {x2 : Int32} {r : Int64} (h : f_X10_spelt y0 x2 = some r) (k : ob_Rt C (some (.long r)) g) : ob_Ev C 0 [(0, .long y0), (2, .int x2)] [] g := by
  unfold f_X10_spelt at h
  refine ob_lload_n F 0 dX10_spelt_0 rfl ?_
  refine ob_ldc2 F (v := 32) dX10_spelt_1 tw1_227 ?_
  refine ob_lmul F dX10_spelt_4 ?_
  refine ob_iload_n F 1 dX10_spelt_5 rfl ?_
  refine ob_i2l F dX10_spelt_6 ?_
  refine ob_ladd F dX10_spelt_7 ?_
  refine ob_ldc2 F (v := 97) dX10_spelt_8 tw1_228 ?_
  refine ob_lsub F dX10_spelt_11 ?_
  refine ob_lconst F (v := 1) dX10_spelt_12 (by decide) ?_
  refine ob_ladd F dX10_spelt_13 ?_
  obtain rfl := Option.some.inj h
  exact ob_lret F dX10_spelt_14 k
theorem t_X10_spelt {cf : ob_Cf} {g : ob_St} {y0 : Int64} {x2 : Int32} {r : Int64} (h : f_X10_spelt y0 x2 = some r) : ob_Mt cf yX10_spelt cX10_spelt 3 (some .long) 0 0 [.long y0, .int x2] g (some (.long r)) g := by
  refine ob_enter (by decide) (Nat.le_of_ble_eq_true rfl) rfl ?_
  intro C hC F k
  subst hC
  exact b_X10_spelt_0 F h k
-- X11_append
def Lb_X11_append_3 (rec : ob_St → Int32 → Option (ob_St)) (g : ob_St) (n0 : Nat) (x1 : Int32) (x2 : Int32) : Option (ob_St) :=
  (if x2 < 0 then (some g) else ((ob_gR 11 n0 0).bind fun v1 => (ob_gI g 11 n0 1).bind fun v2 => (ob_wB g v1 v2 (Int8.toInt32 (Int32.toInt8 (((x1).toUInt32 >>> ((x2).toUInt32 &&& Int32.toUInt32 31)).toInt32)))).bind fun g3 => (ob_gI g3 11 n0 1).bind fun v4 => (ob_pI g3 11 n0 1 (v4 + 1)).bind fun g5 => rec g5 (x2 + (-8))))
def L_X11_append_3 (n0 : Nat) (x1 : Int32) : Nat → ob_St → Int32 → Option (ob_St)
  | 0, _, _ => none
  | n + 1, g, x2 => Lb_X11_append_3 (L_X11_append_3 n0 x1 n) g n0 x1 x2
theorem lb_X11_append_3 {C : ob_Cx} {rec : ob_St → Int32 → Option (ob_St)} (F : ob_Fx C cX11_append 3 RX11 none 0 0) {g : ob_St} {n0 : Nat} {x1 : Int32} {x2 : Int32} {x : (ob_St)} (hr : ∀ {g : ob_St} {x2 : Int32} {x : (ob_St)}, rec g x2 = some x → ob_Ev C 36 [] [] x → ob_Ev C 3 [(0, ob_rv C n0), (1, .int x1), (2, .int x2)] [] g) (h : Lb_X11_append_3 rec g n0 x1 x2 = some x) (k0 : ob_Ev C 36 [] [] x) : ob_Ev C 3 [(0, ob_rv C n0), (1, .int x1), (2, .int x2)] [] g := by
  unfold Lb_X11_append_3 at h
  refine ob_iload_n F 2 dX11_append_3 rfl ?_
  refine ob_if_lt F 36 dX11_append_4 (by decide) h (fun h => ?_) (fun h => ?_)
  · obtain rfl := Option.some.inj h
    exact ob_sub [] rfl (k0)
  · refine ob_rload_n F 0 dX11_append_7 rfl ?_
    refine ob_getR F dX11_append_8 fl_X11_9 h fun v1 h => ?_
    refine ob_rload_n F 0 dX11_append_11 rfl ?_
    refine ob_getI F dX11_append_12 fl_X11_13 h fun v2 h => ?_
    refine ob_iload_n F 1 dX11_append_15 rfl ?_
    refine ob_iload_n F 2 dX11_append_16 rfl ?_
    refine ob_iushr F dX11_append_17 ?_
    refine ob_i2b F dX11_append_18 ?_
    refine ob_bast F dX11_append_19 h fun g3 h => ?_
    refine ob_rload_n F 0 dX11_append_20 rfl ?_
    refine ob_dup F dX11_append_21 rfl ?_
    refine ob_getI F dX11_append_22 fl_X11_13 h fun v4 h => ?_
    refine ob_iconst F (v := 1) dX11_append_25 (by decide) ?_
    refine ob_iadd F dX11_append_26 ?_
    refine ob_putI F dX11_append_27 fp_X11_13 h fun g5 h => ?_
    refine ob_iinc F (v := (x2 + (-8))) (ls2 := [(2, .int (x2 + (-8))), (0, ob_rv C n0), (1, .int x1)]) 2 dX11_append_30 rfl rfl (by decide) rfl ?_
    refine ob_goto F 3 dX11_append_33 (by decide) ?_
    exact ob_sub [1, 2, 0] rfl (hr h k0)
theorem l_X11_append_3 {C : ob_Cx} (F : ob_Fx C cX11_append 3 RX11 none 0 0) {n0 : Nat} {x1 : Int32} : ∀ (n : Nat) {g : ob_St} {x2 : Int32} {x : (ob_St)}, L_X11_append_3 n0 x1 n g x2 = some x → ob_Ev C 36 [] [] x → ob_Ev C 3 [(0, ob_rv C n0), (1, .int x1), (2, .int x2)] [] g := by
  intro n
  induction n with
  | zero => intro g x2 x h; exact ob_no h
  | succ n ih => intro g x2 x h k0; exact lb_X11_append_3 F ih h k0
def f_X11_append (g : ob_St) (n0 : Nat) (x1 : Int32) : Option ob_St :=
  (L_X11_append_3 n0 x1 ob_FU g 24).bind fun x_6 => some x_6
theorem b_X11_append_0 {C : ob_Cx} (F : ob_Fx C cX11_append 3 RX11 none 0 0) {g : ob_St} {n0 : Nat} {x1 : Int32} {r : ob_St} (h : f_X11_append g n0 x1 = some r) (k : ob_Rt C none r) : ob_Ev C 0 [(0, ob_rv C n0), (1, .int x1)] [] g := by
  unfold f_X11_append at h
  refine ob_bipush F (v := 24) dX11_append_0 (by decide) ?_
  refine ob_istore_n F (ls2 := [(2, .int 24), (0, ob_rv C n0), (1, .int x1)]) dX11_append_2 (by decide) rfl ?_
  obtain ⟨x_6, hx, h⟩ := Option.bind_eq_some_iff.mp h
  refine ob_sub [1, 2, 0] rfl (l_X11_append_3 F ob_FU hx ?_)
  obtain rfl := Option.some.inj h
  exact ob_vret F dX11_append_36 k
theorem t_X11_append {cf : ob_Cf} {g : ob_St} {n0 : Nat} {x1 : Int32} {r : ob_St} (h : f_X11_append g n0 x1 = some r) : ob_Mt cf yX11_append cX11_append 3 none 0 0 [ob_rw cf n0, .int x1] g none r := by
  refine ob_enter (by decide) (Nat.le_of_ble_eq_true rfl) rfl ?_
  intro C hC F k
  subst hC
  exact b_X11_append_0 F h k
-- X11_feed
def f_X11_feed (g : ob_St) (n0 : Nat) (x1 : Int32) (x2 : Int32) (x3 : Int32) (x4 : Int32) (x5 : Int32) : Option (Int32 × ob_St) :=
  (ob_gI g 11 n0 1).bind fun v1 => (if (v1 + 20) ≤ 540 then ((ob_ck 11 n0 (f_X11_append g n0 x1)).bind fun g2 => (ob_ck 11 n0 (f_X11_append g2 n0 x2)).bind fun g3 => (ob_ck 11 n0 (f_X11_append g3 n0 x3)).bind fun g4 => (ob_ck 11 n0 (f_X11_append g4 n0 x4)).bind fun g5 => (ob_ck 11 n0 (f_X11_append g5 n0 x5)).bind fun g6 => (ob_gI g6 11 n0 1).bind fun v7 => some (v7, g6)) else (some ((-1), g)))
theorem b_X11_feed_0 {C : ob_Cx} (F : ob_Fx C cX11_feed 6 RX11 (some .int) 1 22) {g : ob_St} {n0 : Nat} {x1 : Int32} {x2 : Int32} {x3 : Int32} {x4 : Int32} {x5 : Int32} {r : (Int32 × ob_St)} (h : f_X11_feed g n0 x1 x2 x3 x4 x5 = some r) (k : ob_Rt C (some (.int r.1)) r.2) : ob_Ev C 0 [(0, ob_rv C n0), (1, .int x1), (2, .int x2), (3, .int x3), (4, .int x4), (5, .int x5)] [] g := by
  unfold f_X11_feed at h
  refine ob_rload_n F 0 dX11_feed_0 rfl ?_
  refine ob_getI F dX11_feed_1 fl_X11_13 h fun v1 h => ?_
  refine ob_bipush F (v := 20) dX11_feed_4 (by decide) ?_
  refine ob_iadd F dX11_feed_6 ?_
  refine ob_sipush F (v := 540) dX11_feed_7 (by decide) ?_
  refine ob_icmp_le F 15 dX11_feed_10 (by decide) h (fun h => ?_) (fun h => ?_)
  · refine ob_rload_n F 0 dX11_feed_15 rfl ?_
    refine ob_iload_n F 1 dX11_feed_16 rfl ?_
    refine ob_cVvS F dX11_feed_17 im_X11_append tw3_8 h (fun b hb => t_X11_append hb) rfl rfl (Nat.le_of_ble_eq_true rfl) (by decide) fun g2 h => ?_
    refine ob_rload_n F 0 dX11_feed_20 rfl ?_
    refine ob_iload_n F 2 dX11_feed_21 rfl ?_
    refine ob_cVvS F dX11_feed_22 im_X11_append tw3_8 h (fun b hb => t_X11_append hb) rfl rfl (Nat.le_of_ble_eq_true rfl) (by decide) fun g3 h => ?_
    refine ob_rload_n F 0 dX11_feed_25 rfl ?_
    refine ob_iload_n F 3 dX11_feed_26 rfl ?_
    refine ob_cVvS F dX11_feed_27 im_X11_append tw3_8 h (fun b hb => t_X11_append hb) rfl rfl (Nat.le_of_ble_eq_true rfl) (by decide) fun g4 h => ?_
    refine ob_rload_n F 0 dX11_feed_30 rfl ?_
    refine ob_iload F 4 dX11_feed_31 rfl ?_
    refine ob_cVvS F dX11_feed_33 im_X11_append tw3_8 h (fun b hb => t_X11_append hb) rfl rfl (Nat.le_of_ble_eq_true rfl) (by decide) fun g5 h => ?_
    refine ob_rload_n F 0 dX11_feed_36 rfl ?_
    refine ob_iload F 5 dX11_feed_37 rfl ?_
    refine ob_cVvS F dX11_feed_39 im_X11_append tw3_8 h (fun b hb => t_X11_append hb) rfl rfl (Nat.le_of_ble_eq_true rfl) (by decide) fun g6 h => ?_
    refine ob_rload_n F 0 dX11_feed_42 rfl ?_
    refine ob_getI F dX11_feed_43 fl_X11_13 h fun v7 h => ?_
    obtain rfl := Option.some.inj h
    exact ob_iret F dX11_feed_46 k
  · refine ob_iconst F (v := (-1)) dX11_feed_13 (by decide) ?_
    obtain rfl := Option.some.inj h
    exact ob_iret F dX11_feed_14 k
theorem t_X11_feed {cf : ob_Cf} {g : ob_St} {n0 : Nat} {x1 : Int32} {x2 : Int32} {x3 : Int32} {x4 : Int32} {x5 : Int32} {r : (Int32 × ob_St)} (h : f_X11_feed g n0 x1 x2 x3 x4 x5 = some r) : ob_Mt cf yX11_feed cX11_feed 6 (some .int) 1 22 [ob_rw cf n0, .int x1, .int x2, .int x3, .int x4, .int x5] g (some (.int r.1)) r.2 := by
  refine ob_enter (by decide) (Nat.le_of_ble_eq_true rfl) (Or.inl rfl) ?_
  intro C hC F k
  subst hC
  exact b_X11_feed_0 F h k
-- X11_end
def f_X11_end (g : ob_St) (n0 : Nat) (x1 : Int32) : Option (Int32 × ob_St) :=
  (if x1 < 0 then (some (0, g)) else ((ob_gI g 11 n0 1).bind fun v1 => (if x1 ≤ v1 then ((ob_pI g 11 n0 1 x1).bind fun g2 => some (1, g2)) else (some (0, g)))))
theorem b_X11_end_0 {C : ob_Cx} (F : ob_Fx C cX11_end 2 RX11 (some .boolean) 0 0) {g : ob_St} {n0 : Nat} {x1 : Int32} {r : (Int32 × ob_St)} (h : f_X11_end g n0 x1 = some r) (k : ob_Rt C (some (.int r.1)) r.2) : ob_Ev C 0 [(0, ob_rv C n0), (1, .int x1)] [] g := by
  unfold f_X11_end at h
  refine ob_iload_n F 1 dX11_end_0 rfl ?_
  refine ob_if_lt F 12 dX11_end_1 (by decide) h (fun h => ?_) (fun h => ?_)
  · refine ob_iconst F (v := 0) dX11_end_12 (by decide) ?_
    obtain rfl := Option.some.inj h
    exact ob_zret F dX11_end_13 (Or.inl rfl) k
  · refine ob_iload_n F 1 dX11_end_4 rfl ?_
    refine ob_rload_n F 0 dX11_end_5 rfl ?_
    refine ob_getI F dX11_end_6 fl_X11_13 h fun v1 h => ?_
    refine ob_icmp_le F 14 dX11_end_9 (by decide) h (fun h => ?_) (fun h => ?_)
    · refine ob_rload_n F 0 dX11_end_14 rfl ?_
      refine ob_iload_n F 1 dX11_end_15 rfl ?_
      refine ob_putI F dX11_end_16 fp_X11_13 h fun g2 h => ?_
      refine ob_iconst F (v := 1) dX11_end_19 (by decide) ?_
      obtain rfl := Option.some.inj h
      exact ob_zret F dX11_end_20 (Or.inr rfl) k
    · refine ob_iconst F (v := 0) dX11_end_12 (by decide) ?_
      obtain rfl := Option.some.inj h
      exact ob_zret F dX11_end_13 (Or.inl rfl) k
theorem t_X11_end {cf : ob_Cf} {g : ob_St} {n0 : Nat} {x1 : Int32} {r : (Int32 × ob_St)} (h : f_X11_end g n0 x1 = some r) : ob_Mt cf yX11_end cX11_end 2 (some .boolean) 0 0 [ob_rw cf n0, .int x1] g (some (.int r.1)) r.2 := by
  refine ob_enter (by decide) (Nat.le_of_ble_eq_true rfl) (Or.inr rfl) ?_
  intro C hC F k
  subst hC
  exact b_X11_end_0 F h k
-- X5_clear
def Lb_X5_clear_23 (rec : ob_St → Int32 → Option (ob_St)) (g : ob_St) (n0 : Nat) (x1 : Int32) : Option (ob_St) :=
  (if 12 < x1 then (some g) else ((ob_gR 5 n0 0).bind fun v5 => (ob_wI g v5 x1 0).bind fun g6 => (ob_gR 5 n0 1).bind fun v7 => (ob_wI g6 v7 x1 0).bind fun g8 => rec g8 (x1 + 1)))
def L_X5_clear_23 (n0 : Nat) : Nat → ob_St → Int32 → Option (ob_St)
  | 0, _, _ => none
  | n + 1, g, x1 => Lb_X5_clear_23 (L_X5_clear_23 n0 n) g n0 x1
theorem lb_X5_clear_23 {C : ob_Cx} {rec : ob_St → Int32 → Option (ob_St)} (F : ob_Fx C cX5_clear 2 RX5 none 0 0) {g : ob_St} {n0 : Nat} {x1 : Int32} {x : (ob_St)} (hr : ∀ {g : ob_St} {x1 : Int32} {x : (ob_St)}, rec g x1 = some x → ob_Ev C 49 [] [] x → ob_Ev C 23 [(0, ob_rv C n0), (1, .int x1)] [] g) (h : Lb_X5_clear_23 rec g n0 x1 = some x) (k0 : ob_Ev C 49 [] [] x) : ob_Ev C 23 [(0, ob_rv C n0), (1, .int x1)] [] g := by
  unfold Lb_X5_clear_23 at h
  refine ob_iload_n F 1 dX5_clear_23 rfl ?_
  refine ob_bipush F (v := 12) dX5_clear_24 (by decide) ?_
  refine ob_icmp_gt F 49 dX5_clear_26 (by decide) h (fun h => ?_) (fun h => ?_)
  · obtain rfl := Option.some.inj h
    exact ob_sub [] rfl (k0)
  · refine ob_rload_n F 0 dX5_clear_29 rfl ?_
    refine ob_getR F dX5_clear_30 fl_X5_9 h fun v5 h => ?_
    refine ob_iload_n F 1 dX5_clear_33 rfl ?_
    refine ob_iconst F (v := 0) dX5_clear_34 (by decide) ?_
    refine ob_iast F dX5_clear_35 h fun g6 h => ?_
    refine ob_rload_n F 0 dX5_clear_36 rfl ?_
    refine ob_getR F dX5_clear_37 fl_X5_15 h fun v7 h => ?_
    refine ob_iload_n F 1 dX5_clear_40 rfl ?_
    refine ob_iconst F (v := 0) dX5_clear_41 (by decide) ?_
    refine ob_iast F dX5_clear_42 h fun g8 h => ?_
    refine ob_iinc F (v := (x1 + 1)) (ls2 := [(1, .int (x1 + 1)), (0, ob_rv C n0)]) 1 dX5_clear_43 rfl rfl (by decide) rfl ?_
    refine ob_goto F 23 dX5_clear_46 (by decide) ?_
    exact ob_sub [1, 0] rfl (hr h k0)
theorem l_X5_clear_23 {C : ob_Cx} (F : ob_Fx C cX5_clear 2 RX5 none 0 0) {n0 : Nat} : ∀ (n : Nat) {g : ob_St} {x1 : Int32} {x : (ob_St)}, L_X5_clear_23 n0 n g x1 = some x → ob_Ev C 49 [] [] x → ob_Ev C 23 [(0, ob_rv C n0), (1, .int x1)] [] g := by
  intro n
  induction n with
  | zero => intro g x1 x h; exact ob_no h
  | succ n ih => intro g x1 x h k0; exact lb_X5_clear_23 F ih h k0
def f_X5_clear (g : ob_St) (n0 : Nat) : Option ob_St :=
  (ob_pI g 5 n0 3 100).bind fun g1 => (ob_pI g1 5 n0 4 2).bind fun g2 => (ob_pI g2 5 n0 5 0).bind fun g3 => (ob_pI g3 5 n0 6 0).bind fun g4 => (L_X5_clear_23 n0 ob_FU g4 0).bind fun x_9 => some x_9
theorem b_X5_clear_0 {C : ob_Cx} (F : ob_Fx C cX5_clear 2 RX5 none 0 0) {g : ob_St} {n0 : Nat} {r : ob_St} (h : f_X5_clear g n0 = some r) (k : ob_Rt C none r) : ob_Ev C 0 [(0, ob_rv C n0)] [] g := by
  unfold f_X5_clear at h
  refine ob_rload_n F 0 dX5_clear_0 rfl ?_
  refine ob_bipush F (v := 100) dX5_clear_1 (by decide) ?_
  refine ob_putI F dX5_clear_3 fp_X5_24 h fun g1 h => ?_
  refine ob_rload_n F 0 dX5_clear_6 rfl ?_
  refine ob_iconst F (v := 2) dX5_clear_7 (by decide) ?_
  refine ob_putI F dX5_clear_8 fp_X5_28 h fun g2 h => ?_
  refine ob_rload_n F 0 dX5_clear_11 rfl ?_
  refine ob_iconst F (v := 0) dX5_clear_12 (by decide) ?_
  refine ob_putI F dX5_clear_13 fp_X5_31 h fun g3 h => ?_
  refine ob_rload_n F 0 dX5_clear_16 rfl ?_
  refine ob_iconst F (v := 0) dX5_clear_17 (by decide) ?_
  refine ob_putI F dX5_clear_18 fp_X5_34 h fun g4 h => ?_
  refine ob_iconst F (v := 0) dX5_clear_21 (by decide) ?_
  refine ob_istore_n F (ls2 := [(1, .int 0), (0, ob_rv C n0)]) dX5_clear_22 (by decide) rfl ?_
  obtain ⟨x_9, hx, h⟩ := Option.bind_eq_some_iff.mp h
  refine ob_sub [1, 0] rfl (l_X5_clear_23 F ob_FU hx ?_)
  obtain rfl := Option.some.inj h
  exact ob_vret F dX5_clear_49 k
theorem t_X5_clear {cf : ob_Cf} {g : ob_St} {n0 : Nat} {r : ob_St} (h : f_X5_clear g n0 = some r) : ob_Mt cf yX5_clear cX5_clear 2 none 0 0 [ob_rw cf n0] g none r := by
  refine ob_enter (by decide) (Nat.le_of_ble_eq_true rfl) rfl ?_
  intro C hC F k
  subst hC
  exact b_X5_clear_0 F h k
-- X7_failsAt
def f_X7_failsAt (g : ob_St) (n0 : Nat) (x1 : Int32) (x2 : Int32) : Option (Int32 × ob_St) :=
  (ob_pI g 7 n0 1 x1).bind fun g1 => (ob_pI g1 7 n0 2 x2).bind fun g2 => some (0, g2)
theorem b_X7_failsAt_0 {C : ob_Cx} (F : ob_Fx C cX7_failsAt 3 RX7 (some .boolean) 0 0) {g : ob_St} {n0 : Nat} {x1 : Int32} {x2 : Int32} {r : (Int32 × ob_St)} (h : f_X7_failsAt g n0 x1 x2 = some r) (k : ob_Rt C (some (.int r.1)) r.2) : ob_Ev C 0 [(0, ob_rv C n0), (1, .int x1), (2, .int x2)] [] g := by
  unfold f_X7_failsAt at h
  refine ob_rload_n F 0 dX7_failsAt_0 rfl ?_
  refine ob_iload_n F 1 dX7_failsAt_1 rfl ?_
  refine ob_putI F dX7_failsAt_2 fp_X7_18 h fun g1 h => ?_
  refine ob_rload_n F 0 dX7_failsAt_5 rfl ?_
  refine ob_iload_n F 2 dX7_failsAt_6 rfl ?_
  refine ob_putI F dX7_failsAt_7 fp_X7_22 h fun g2 h => ?_
  refine ob_iconst F (v := 0) dX7_failsAt_10 (by decide) ?_
  obtain rfl := Option.some.inj h
  exact ob_zret F dX7_failsAt_11 (Or.inl rfl) k
theorem t_X7_failsAt {cf : ob_Cf} {g : ob_St} {n0 : Nat} {x1 : Int32} {x2 : Int32} {r : (Int32 × ob_St)} (h : f_X7_failsAt g n0 x1 x2 = some r) : ob_Mt cf yX7_failsAt cX7_failsAt 3 (some .boolean) 0 0 [ob_rw cf n0, .int x1, .int x2] g (some (.int r.1)) r.2 := by
  refine ob_enter (by decide) (Nat.le_of_ble_eq_true rfl) (Or.inr rfl) ?_
  intro C hC F k
  subst hC
  exact b_X7_failsAt_0 F h k
-- X10_isLetter
def f_X10_isLetter (x0 : Int32) : Option Int32 :=
  (if x0 < 97 then (some 0) else ((if 122 < x0 then (some 0) else (some 1))))
theorem b_X10_isLetter_0 {C : ob_Cx} (F : ob_Fx C cX10_isLetter 1 RX10 (some .boolean) 0 0) {g : ob_St} {x0 : Int32} {r : Int32} (h : f_X10_isLetter x0 = some r) (k : ob_Rt C (some (.int r)) g) : ob_Ev C 0 [(0, .int x0)] [] g := by
  unfold f_X10_isLetter at h
  refine ob_iload_n F 0 dX10_isLetter_0 rfl ?_
  refine ob_bipush F (v := 97) dX10_isLetter_1 (by decide) ?_
  refine ob_icmp_lt F 16 dX10_isLetter_3 (by decide) h (fun h => ?_) (fun h => ?_)
  · refine ob_iconst F (v := 0) dX10_isLetter_16 (by decide) ?_
    obtain rfl := Option.some.inj h
    exact ob_zret F dX10_isLetter_17 (Or.inl rfl) k
  · refine ob_iload_n F 0 dX10_isLetter_6 rfl ?_
    refine ob_bipush F (v := 122) dX10_isLetter_7 (by decide) ?_
    refine ob_icmp_gt F 16 dX10_isLetter_9 (by decide) h (fun h => ?_) (fun h => ?_)
    · refine ob_iconst F (v := 0) dX10_isLetter_16 (by decide) ?_
      obtain rfl := Option.some.inj h
      exact ob_zret F dX10_isLetter_17 (Or.inl rfl) k
    · refine ob_iconst F (v := 1) dX10_isLetter_12 (by decide) ?_
      refine ob_goto F 17 dX10_isLetter_13 (by decide) ?_
      obtain rfl := Option.some.inj h
      exact ob_zret F dX10_isLetter_17 (Or.inr rfl) k
theorem t_X10_isLetter {cf : ob_Cf} {g : ob_St} {x0 : Int32} {r : Int32} (h : f_X10_isLetter x0 = some r) : ob_Mt cf yX10_isLetter cX10_isLetter 1 (some .boolean) 0 0 [.int x0] g (some (.int r)) g := by
  refine ob_enter (by decide) (Nat.le_of_ble_eq_true rfl) (Or.inr rfl) ?_
  intro C hC F k
  subst hC
  exact b_X10_isLetter_0 F h k
-- X10_isFigure
def f_X10_isFigure (x0 : Int32) : Option Int32 :=
  (if x0 < 48 then (some 0) else ((if 57 < x0 then (some 0) else (some 1))))
theorem b_X10_isFigure_0 {C : ob_Cx} (F : ob_Fx C cX10_isFigure 1 RX10 (some .boolean) 0 0) {g : ob_St} {x0 : Int32} {r : Int32} (h : f_X10_isFigure x0 = some r) (k : ob_Rt C (some (.int r)) g) : ob_Ev C 0 [(0, .int x0)] [] g := by
  unfold f_X10_isFigure at h
  refine ob_iload_n F 0 dX10_isFigure_0 rfl ?_
  refine ob_bipush F (v := 48) dX10_isFigure_1 (by decide) ?_
  refine ob_icmp_lt F 16 dX10_isFigure_3 (by decide) h (fun h => ?_) (fun h => ?_)
  · refine ob_iconst F (v := 0) dX10_isFigure_16 (by decide) ?_
    obtain rfl := Option.some.inj h
    exact ob_zret F dX10_isFigure_17 (Or.inl rfl) k
  · refine ob_iload_n F 0 dX10_isFigure_6 rfl ?_
    refine ob_bipush F (v := 57) dX10_isFigure_7 (by decide) ?_
    refine ob_icmp_gt F 16 dX10_isFigure_9 (by decide) h (fun h => ?_) (fun h => ?_)
    · refine ob_iconst F (v := 0) dX10_isFigure_16 (by decide) ?_
      obtain rfl := Option.some.inj h
      exact ob_zret F dX10_isFigure_17 (Or.inl rfl) k
    · refine ob_iconst F (v := 1) dX10_isFigure_12 (by decide) ?_
      refine ob_goto F 17 dX10_isFigure_13 (by decide) ?_
      obtain rfl := Option.some.inj h
      exact ob_zret F dX10_isFigure_17 (Or.inr rfl) k
theorem t_X10_isFigure {cf : ob_Cf} {g : ob_St} {x0 : Int32} {r : Int32} (h : f_X10_isFigure x0 = some r) : ob_Mt cf yX10_isFigure cX10_isFigure 1 (some .boolean) 0 0 [.int x0] g (some (.int r)) g := by
  refine ob_enter (by decide) (Nat.le_of_ble_eq_true rfl) (Or.inr rfl) ?_
  intro C hC F k
  subst hC
  exact b_X10_isFigure_0 F h k
-- X10_runEnd
def B_X10_runEnd_31 (rec : Int32 → Option (Int32)) (g : ob_St) (n0 : Nat) (x2 : Int32) (x3 : Int32) : Option (Int32) :=
  rec (x3 + 1)
theorem b_X10_runEnd_31 {C : ob_Cx} {rec : Int32 → Option (Int32)} (F : ob_Fx C cX10_runEnd 4 RX10 (some .int) 1 20) {g : ob_St} {n0 : Nat} {x2 : Int32} {x3 : Int32} {x : (Int32)} (hr : ∀ {x3 : Int32} {x : (Int32)}, rec x3 = some x → ob_Ev C 37 [(3, .int x)] [] g → ob_Ev C 2 [(0, ob_rv C n0), (2, .int x2), (3, .int x3)] [] g) (h : B_X10_runEnd_31 rec g n0 x2 x3 = some x) (k0 : ob_Ev C 37 [(3, .int x)] [] g) : ob_Ev C 31 [(0, ob_rv C n0), (2, .int x2), (3, .int x3)] [] g := by
  unfold B_X10_runEnd_31 at h
  refine ob_iinc F (v := (x3 + 1)) (ls2 := [(3, .int (x3 + 1)), (0, ob_rv C n0), (2, .int x2)]) 2 dX10_runEnd_31 rfl rfl (by decide) rfl ?_
  refine ob_goto F 2 dX10_runEnd_34 (by decide) ?_
  exact ob_sub [1, 2, 0] rfl (hr h k0)
def Lb_X10_runEnd_2 (rec : Int32 → Option (Int32)) (g : ob_St) (n0 : Nat) (x2 : Int32) (x3 : Int32) : Option (Int32) :=
  (if x2 ≤ x3 then (some x3) else ((ob_gR 10 n0 3).bind fun v1 => (ob_rI g 13 v1 x3).bind fun v2 => (f_X10_isLetter v2).bind fun v3 => (if v3 = 0 then ((ob_gR 10 n0 3).bind fun v4 => (ob_rI g 13 v4 x3).bind fun v5 => (f_X10_isFigure v5).bind fun v6 => (if v6 = 0 then (some x3) else (B_X10_runEnd_31 rec g n0 x2 x3))) else (B_X10_runEnd_31 rec g n0 x2 x3))))
def L_X10_runEnd_2 (g : ob_St) (n0 : Nat) (x2 : Int32) : Nat → Int32 → Option (Int32)
  | 0, _ => none
  | n + 1, x3 => Lb_X10_runEnd_2 (L_X10_runEnd_2 g n0 x2 n) g n0 x2 x3
theorem lb_X10_runEnd_2 {C : ob_Cx} {rec : Int32 → Option (Int32)} (F : ob_Fx C cX10_runEnd 4 RX10 (some .int) 1 20) {g : ob_St} {n0 : Nat} {x2 : Int32} {x3 : Int32} {x : (Int32)} (hr : ∀ {x3 : Int32} {x : (Int32)}, rec x3 = some x → ob_Ev C 37 [(3, .int x)] [] g → ob_Ev C 2 [(0, ob_rv C n0), (2, .int x2), (3, .int x3)] [] g) (h : Lb_X10_runEnd_2 rec g n0 x2 x3 = some x) (k0 : ob_Ev C 37 [(3, .int x)] [] g) : ob_Ev C 2 [(0, ob_rv C n0), (2, .int x2), (3, .int x3)] [] g := by
  unfold Lb_X10_runEnd_2 at h
  refine ob_iload_n F 2 dX10_runEnd_2 rfl ?_
  refine ob_iload_n F 1 dX10_runEnd_3 rfl ?_
  refine ob_icmp_ge F 37 dX10_runEnd_4 (by decide) h (fun h => ?_) (fun h => ?_)
  · obtain rfl := Option.some.inj h
    exact ob_sub [2] rfl (k0)
  · refine ob_rload_n F 0 dX10_runEnd_7 rfl ?_
    refine ob_getR F dX10_runEnd_8 fl_X10_25 h fun v1 h => ?_
    refine ob_iload_n F 2 dX10_runEnd_11 rfl ?_
    refine ob_bald F dX10_runEnd_12 h fun v2 h => ?_
    refine ob_cSi F dX10_runEnd_13 im_X10_isLetter tw3_40 h (fun b hb => t_X10_isLetter hb) rfl rfl (Nat.le_of_ble_eq_true rfl) (by decide) fun v3 h => ?_
    refine ob_if_ne F 31 dX10_runEnd_16 (by decide) h (fun h => ?_) (fun h => ?_)
    · exact b_X10_runEnd_31 F hr h k0
    · refine ob_rload_n F 0 dX10_runEnd_19 rfl ?_
      refine ob_getR F dX10_runEnd_20 fl_X10_25 h fun v4 h => ?_
      refine ob_iload_n F 2 dX10_runEnd_23 rfl ?_
      refine ob_bald F dX10_runEnd_24 h fun v5 h => ?_
      refine ob_cSi F dX10_runEnd_25 im_X10_isFigure tw3_43 h (fun b hb => t_X10_isFigure hb) rfl rfl (Nat.le_of_ble_eq_true rfl) (by decide) fun v6 h => ?_
      refine ob_if_eq F 37 dX10_runEnd_28 (by decide) h (fun h => ?_) (fun h => ?_)
      · obtain rfl := Option.some.inj h
        exact ob_sub [2] rfl (k0)
      · exact b_X10_runEnd_31 F hr h k0
theorem l_X10_runEnd_2 {C : ob_Cx} (F : ob_Fx C cX10_runEnd 4 RX10 (some .int) 1 20) {g : ob_St} {n0 : Nat} {x2 : Int32} : ∀ (n : Nat) {x3 : Int32} {x : (Int32)}, L_X10_runEnd_2 g n0 x2 n x3 = some x → ob_Ev C 37 [(3, .int x)] [] g → ob_Ev C 2 [(0, ob_rv C n0), (2, .int x2), (3, .int x3)] [] g := by
  intro n
  induction n with
  | zero => intro x3 x h; exact ob_no h
  | succ n ih => intro x3 x h k0; exact lb_X10_runEnd_2 F ih h k0
def f_X10_runEnd (g : ob_St) (n0 : Nat) (x1 : Int32) (x2 : Int32) : Option Int32 :=
  (L_X10_runEnd_2 g n0 x2 ob_FU x1).bind fun x_7 => some x_7
theorem b_X10_runEnd_0 {C : ob_Cx} (F : ob_Fx C cX10_runEnd 4 RX10 (some .int) 1 20) {g : ob_St} {n0 : Nat} {x1 : Int32} {x2 : Int32} {r : Int32} (h : f_X10_runEnd g n0 x1 x2 = some r) (k : ob_Rt C (some (.int r)) g) : ob_Ev C 0 [(0, ob_rv C n0), (1, .int x1), (2, .int x2)] [] g := by
  unfold f_X10_runEnd at h
  refine ob_iload_n F 1 dX10_runEnd_0 rfl ?_
  refine ob_istore_n F (ls2 := [(3, .int x1), (0, ob_rv C n0), (1, .int x1), (2, .int x2)]) dX10_runEnd_1 (by decide) rfl ?_
  obtain ⟨x_7, hx, h⟩ := Option.bind_eq_some_iff.mp h
  refine ob_sub [1, 3, 0] rfl (l_X10_runEnd_2 F ob_FU hx ?_)
  refine ob_iload_n F 0 dX10_runEnd_37 rfl ?_
  obtain rfl := Option.some.inj h
  exact ob_iret F dX10_runEnd_38 k
theorem t_X10_runEnd {cf : ob_Cf} {g : ob_St} {n0 : Nat} {x1 : Int32} {x2 : Int32} {r : Int32} (h : f_X10_runEnd g n0 x1 x2 = some r) : ob_Mt cf yX10_runEnd cX10_runEnd 4 (some .int) 1 20 [ob_rw cf n0, .int x1, .int x2] g (some (.int r)) g := by
  refine ob_enter (by decide) (Nat.le_of_ble_eq_true rfl) (Or.inl rfl) ?_
  intro C hC F k
  subst hC
  exact b_X10_runEnd_0 F h k
-- X10_keywordOf
def Lb_X10_keywordOf_2 (rec : Int32 → Option ((Int32) ⊕ Unit)) (g : ob_St) (n0 : Nat) (y1 : Int64) (x3 : Int32) : Option ((Int32) ⊕ Unit) :=
  (if 20 ≤ x3 then (some (.inr ())) else ((ob_gR 10 n0 4).bind fun v1 => (ob_rL g v1 x3).bind fun v2 => (if v2 = y1 then (some (.inl x3)) else (rec (x3 + 1)))))
def L_X10_keywordOf_2 (g : ob_St) (n0 : Nat) (y1 : Int64) : Nat → Int32 → Option ((Int32) ⊕ Unit)
  | 0, _ => none
  | n + 1, x3 => Lb_X10_keywordOf_2 (L_X10_keywordOf_2 g n0 y1 n) g n0 y1 x3
theorem lb_X10_keywordOf_2 {C : ob_Cx} {rec : Int32 → Option ((Int32) ⊕ Unit)} (F : ob_Fx C cX10_keywordOf 4 RX10 (some .int) 0 0) {g : ob_St} {n0 : Nat} {y1 : Int64} {x3 : Int32} {x : ((Int32) ⊕ Unit)} (hr : ∀ {x3 : Int32} {x : ((Int32) ⊕ Unit)}, rec x3 = some x → (∀ y, x = (.inl y) → ob_Ev C 19 [(3, .int y)] [] g) → (∀ y, x = (.inr y) → ob_Ev C 27 [] [] g) → ob_Ev C 2 [(0, ob_rv C n0), (1, .long y1), (3, .int x3)] [] g) (h : Lb_X10_keywordOf_2 rec g n0 y1 x3 = some x) (k0 : (∀ y, x = (.inl y) → ob_Ev C 19 [(3, .int y)] [] g)) (k1 : (∀ y, x = (.inr y) → ob_Ev C 27 [] [] g)) : ob_Ev C 2 [(0, ob_rv C n0), (1, .long y1), (3, .int x3)] [] g := by
  unfold Lb_X10_keywordOf_2 at h
  refine ob_iload_n F 2 dX10_keywordOf_2 rfl ?_
  refine ob_bipush F (v := 20) dX10_keywordOf_3 (by decide) ?_
  refine ob_icmp_ge F 27 dX10_keywordOf_5 (by decide) h (fun h => ?_) (fun h => ?_)
  · obtain rfl := Option.some.inj h
    exact ob_sub [] rfl (k1 _ rfl)
  · refine ob_rload_n F 0 dX10_keywordOf_8 rfl ?_
    refine ob_getR F dX10_keywordOf_9 fl_X10_22 h fun v1 h => ?_
    refine ob_iload_n F 2 dX10_keywordOf_12 rfl ?_
    refine ob_lald F dX10_keywordOf_13 h fun v2 h => ?_
    refine ob_lload_n F 1 dX10_keywordOf_14 rfl ?_
    refine ob_lcmp_ne F 21 dX10_keywordOf_15 dX10_keywordOf_16 (by decide) h (fun h => ?_) (fun h => ?_)
    · refine ob_iinc F (v := (x3 + 1)) (ls2 := [(3, .int (x3 + 1)), (0, ob_rv C n0), (1, .long y1)]) 2 dX10_keywordOf_21 rfl rfl (by decide) rfl ?_
      refine ob_goto F 2 dX10_keywordOf_24 (by decide) ?_
      exact ob_sub [1, 2, 0] rfl (hr h k0 k1)
    · obtain rfl := Option.some.inj h
      exact ob_sub [2] rfl (k0 _ rfl)
theorem l_X10_keywordOf_2 {C : ob_Cx} (F : ob_Fx C cX10_keywordOf 4 RX10 (some .int) 0 0) {g : ob_St} {n0 : Nat} {y1 : Int64} : ∀ (n : Nat) {x3 : Int32} {x : ((Int32) ⊕ Unit)}, L_X10_keywordOf_2 g n0 y1 n x3 = some x → (∀ y, x = (.inl y) → ob_Ev C 19 [(3, .int y)] [] g) → (∀ y, x = (.inr y) → ob_Ev C 27 [] [] g) → ob_Ev C 2 [(0, ob_rv C n0), (1, .long y1), (3, .int x3)] [] g := by
  intro n
  induction n with
  | zero => intro x3 x h; exact ob_no h
  | succ n ih => intro x3 x h k0 k1; exact lb_X10_keywordOf_2 F ih h k0 k1
def f_X10_keywordOf (g : ob_St) (n0 : Nat) (y1 : Int64) : Option Int32 :=
  (L_X10_keywordOf_2 g n0 y1 ob_FU 0).bind (Sum.elim (fun y_4 => some y_4) (fun y_5 => some (-1)))
theorem b_X10_keywordOf_0 {C : ob_Cx} (F : ob_Fx C cX10_keywordOf 4 RX10 (some .int) 0 0) {g : ob_St} {n0 : Nat} {y1 : Int64} {r : Int32} (h : f_X10_keywordOf g n0 y1 = some r) (k : ob_Rt C (some (.int r)) g) : ob_Ev C 0 [(0, ob_rv C n0), (1, .long y1)] [] g := by
  unfold f_X10_keywordOf at h
  refine ob_iconst F (v := 0) dX10_keywordOf_0 (by decide) ?_
  refine ob_istore_n F (ls2 := [(3, .int 0), (0, ob_rv C n0), (1, .long y1)]) dX10_keywordOf_1 (by decide) rfl ?_
  obtain ⟨x_3, hx, h⟩ := Option.bind_eq_some_iff.mp h
  refine ob_sub [1, 2, 0] rfl (l_X10_keywordOf_2 F ob_FU hx (fun y e => ?_) (fun y e => ?_))
  · subst e
    replace h := (ob_inl h)
    refine ob_iload_n F 0 dX10_keywordOf_19 rfl ?_
    obtain rfl := Option.some.inj h
    exact ob_iret F dX10_keywordOf_20 k
  · subst e
    replace h := (ob_inr h)
    refine ob_iconst F (v := (-1)) dX10_keywordOf_27 (by decide) ?_
    obtain rfl := Option.some.inj h
    exact ob_iret F dX10_keywordOf_28 k
theorem t_X10_keywordOf {cf : ob_Cf} {g : ob_St} {n0 : Nat} {y1 : Int64} {r : Int32} (h : f_X10_keywordOf g n0 y1 = some r) : ob_Mt cf yX10_keywordOf cX10_keywordOf 4 (some .int) 0 0 [ob_rw cf n0, .long y1] g (some (.int r)) g := by
  refine ob_enter (by decide) (Nat.le_of_ble_eq_true rfl) (Or.inl rfl) ?_
  intro C hC F k
  subst hC
  exact b_X10_keywordOf_0 F h k
-- X10_sort
def B_X10_sort_72 (rec : Int32 → Int64 → Int64 → Int32 → Option (Int32 × Int64 × Int64)) (g : ob_St) (n0 : Nat) (x1 : Int32) (x2 : Int32) (x3 : Int32) (x4 : Int32) (y5 : Int64) (y7 : Int64) (x9 : Int32) : Option (Int32 × Int64 × Int64) :=
  rec x4 y5 y7 (x9 + 1)
theorem b_X10_sort_72 {C : ob_Cx} {rec : Int32 → Int64 → Int64 → Int32 → Option (Int32 × Int64 × Int64)} (F : ob_Fx C cX10_sort 11 RX10 none 1 23) {g : ob_St} {n0 : Nat} {x1 : Int32} {x2 : Int32} {x3 : Int32} {x4 : Int32} {y5 : Int64} {y7 : Int64} {x9 : Int32} {x : (Int32 × Int64 × Int64)} (hr : ∀ {x4 : Int32} {y5 : Int64} {y7 : Int64} {x9 : Int32} {x : (Int32 × Int64 × Int64)}, rec x4 y5 y7 x9 = some x → ob_Ev C 78 [(0, ob_rv C n0), (1, .int x1), (2, .int x2), (3, .int x3), (4, .int x.1), (5, .long x.2.1), (7, .long x.2.2)] [] g → ob_Ev C 12 [(0, ob_rv C n0), (1, .int x1), (2, .int x2), (3, .int x3), (4, .int x4), (5, .long y5), (7, .long y7), (9, .int x9)] [] g) (h : B_X10_sort_72 rec g n0 x1 x2 x3 x4 y5 y7 x9 = some x) (k0 : ob_Ev C 78 [(0, ob_rv C n0), (1, .int x1), (2, .int x2), (3, .int x3), (4, .int x.1), (5, .long x.2.1), (7, .long x.2.2)] [] g) : ob_Ev C 72 [(0, ob_rv C n0), (1, .int x1), (2, .int x2), (3, .int x3), (4, .int x4), (5, .long y5), (7, .long y7), (9, .int x9)] [] g := by
  unfold B_X10_sort_72 at h
  refine ob_iinc F (v := (x9 + 1)) (ls2 := [(9, .int (x9 + 1)), (0, ob_rv C n0), (1, .int x1), (2, .int x2), (3, .int x3), (4, .int x4), (5, .long y5), (7, .long y7)]) 7 dX10_sort_72 rfl rfl (by decide) rfl ?_
  refine ob_goto F 12 dX10_sort_75 (by decide) ?_
  exact ob_sub [1, 2, 3, 4, 5, 6, 7, 0] rfl (hr h k0)
def Lb_X10_sort_12 (rec : Int32 → Int64 → Int64 → Int32 → Option (Int32 × Int64 × Int64)) (g : ob_St) (n0 : Nat) (x1 : Int32) (x2 : Int32) (x3 : Int32) (x4 : Int32) (y5 : Int64) (y7 : Int64) (x9 : Int32) : Option (Int32 × Int64 × Int64) :=
  (if x3 ≤ x9 then (some (x4, y5, y7)) else ((ob_gR 10 n0 3).bind fun v1 => (ob_rI g 13 v1 x9).bind fun v2 => (f_X10_isFigure v2).bind fun v3 => (if v3 = 0 then ((ob_gR 10 n0 3).bind fun v4 => (ob_rI g 13 v4 x9).bind fun v5 => (f_X10_spelt y7 v5).bind fun v6 => B_X10_sort_72 rec g n0 x1 x2 x3 x4 y5 v6 x9) else ((ob_gR 10 n0 3).bind fun v7 => (ob_rI g 13 v7 x9).bind fun v8 => ob_let (((y5 * 10) + (Int32.toInt64 v8)) - 48) fun z9 => B_X10_sort_72 rec g n0 x1 x2 x3 (x4 + 1) z9 y7 x9))))
def L_X10_sort_12 (g : ob_St) (n0 : Nat) (x1 : Int32) (x2 : Int32) (x3 : Int32) : Nat → Int32 → Int64 → Int64 → Int32 → Option (Int32 × Int64 × Int64)
  | 0, _, _, _, _ => none
  | n + 1, x4, y5, y7, x9 => Lb_X10_sort_12 (L_X10_sort_12 g n0 x1 x2 x3 n) g n0 x1 x2 x3 x4 y5 y7 x9
theorem lb_X10_sort_12 {C : ob_Cx} {rec : Int32 → Int64 → Int64 → Int32 → Option (Int32 × Int64 × Int64)} (F : ob_Fx C cX10_sort 11 RX10 none 1 23) {g : ob_St} {n0 : Nat} {x1 : Int32} {x2 : Int32} {x3 : Int32} {x4 : Int32} {y5 : Int64} {y7 : Int64} {x9 : Int32} {x : (Int32 × Int64 × Int64)} (hr : ∀ {x4 : Int32} {y5 : Int64} {y7 : Int64} {x9 : Int32} {x : (Int32 × Int64 × Int64)}, rec x4 y5 y7 x9 = some x → ob_Ev C 78 [(0, ob_rv C n0), (1, .int x1), (2, .int x2), (3, .int x3), (4, .int x.1), (5, .long x.2.1), (7, .long x.2.2)] [] g → ob_Ev C 12 [(0, ob_rv C n0), (1, .int x1), (2, .int x2), (3, .int x3), (4, .int x4), (5, .long y5), (7, .long y7), (9, .int x9)] [] g) (h : Lb_X10_sort_12 rec g n0 x1 x2 x3 x4 y5 y7 x9 = some x) (k0 : ob_Ev C 78 [(0, ob_rv C n0), (1, .int x1), (2, .int x2), (3, .int x3), (4, .int x.1), (5, .long x.2.1), (7, .long x.2.2)] [] g) : ob_Ev C 12 [(0, ob_rv C n0), (1, .int x1), (2, .int x2), (3, .int x3), (4, .int x4), (5, .long y5), (7, .long y7), (9, .int x9)] [] g := by
  unfold Lb_X10_sort_12 at h
  refine ob_iload F 7 dX10_sort_12 rfl ?_
  refine ob_iload_n F 3 dX10_sort_14 rfl ?_
  refine ob_icmp_ge F 78 dX10_sort_15 (by decide) h (fun h => ?_) (fun h => ?_)
  · obtain rfl := Option.some.inj h
    exact ob_sub [0, 1, 2, 3, 4, 5, 6] rfl (k0)
  · refine ob_rload_n F 0 dX10_sort_18 rfl ?_
    refine ob_getR F dX10_sort_19 fl_X10_25 h fun v1 h => ?_
    refine ob_iload F 7 dX10_sort_22 rfl ?_
    refine ob_bald F dX10_sort_24 h fun v2 h => ?_
    refine ob_cSi F dX10_sort_25 im_X10_isFigure tw3_43 h (fun b hb => t_X10_isFigure hb) rfl rfl (Nat.le_of_ble_eq_true rfl) (by decide) fun v3 h => ?_
    refine ob_if_eq F 58 dX10_sort_28 (by decide) h (fun h => ?_) (fun h => ?_)
    · refine ob_lload F 6 dX10_sort_58 rfl ?_
      refine ob_rload_n F 0 dX10_sort_60 rfl ?_
      refine ob_getR F dX10_sort_61 fl_X10_25 h fun v4 h => ?_
      refine ob_iload F 7 dX10_sort_64 rfl ?_
      refine ob_bald F dX10_sort_66 h fun v5 h => ?_
      refine ob_cSl F dX10_sort_67 im_X10_spelt tw1_224 h (fun b hb => t_X10_spelt hb) rfl rfl (Nat.le_of_ble_eq_true rfl) (by decide) fun v6 h => ?_
      refine ob_lstore F (ls2 := [(7, .long v6), (0, ob_rv C n0), (1, .int x1), (2, .int x2), (3, .int x3), (4, .int x4), (5, .long y5), (9, .int x9)]) dX10_sort_70 (by decide) rfl ?_
      exact ob_sub [1, 2, 3, 4, 5, 6, 0, 7] rfl (b_X10_sort_72 F hr h k0)
    · refine ob_iinc F (v := (x4 + 1)) (ls2 := [(4, .int (x4 + 1)), (0, ob_rv C n0), (1, .int x1), (2, .int x2), (3, .int x3), (5, .long y5), (7, .long y7), (9, .int x9)]) 4 dX10_sort_31 rfl rfl (by decide) rfl ?_
      refine ob_lload F 5 dX10_sort_34 rfl ?_
      refine ob_ldc2 F (v := 10) dX10_sort_36 tw3_50 ?_
      refine ob_lmul F dX10_sort_39 ?_
      refine ob_rload_n F 1 dX10_sort_40 rfl ?_
      refine ob_getR F dX10_sort_41 fl_X10_25 h fun v7 h => ?_
      refine ob_iload F 7 dX10_sort_44 rfl ?_
      refine ob_bald F dX10_sort_46 h fun v8 h => ?_
      refine ob_i2l F dX10_sort_47 ?_
      refine ob_ladd F dX10_sort_48 ?_
      refine ob_ldc2 F (v := 48) dX10_sort_49 tw3_51 ?_
      refine ob_lsub F dX10_sort_52 ?_
      refine ob_letl h fun z9 h => ?_
      refine ob_lstore F (ls2 := [(5, .long z9), (4, .int (x4 + 1)), (0, ob_rv C n0), (1, .int x1), (2, .int x2), (3, .int x3), (7, .long y7), (9, .int x9)]) dX10_sort_53 (by decide) rfl ?_
      refine ob_goto F 72 dX10_sort_55 (by decide) ?_
      exact ob_sub [2, 3, 4, 5, 1, 0, 6, 7] rfl (b_X10_sort_72 F hr h k0)
theorem l_X10_sort_12 {C : ob_Cx} (F : ob_Fx C cX10_sort 11 RX10 none 1 23) {g : ob_St} {n0 : Nat} {x1 : Int32} {x2 : Int32} {x3 : Int32} : ∀ (n : Nat) {x4 : Int32} {y5 : Int64} {y7 : Int64} {x9 : Int32} {x : (Int32 × Int64 × Int64)}, L_X10_sort_12 g n0 x1 x2 x3 n x4 y5 y7 x9 = some x → ob_Ev C 78 [(0, ob_rv C n0), (1, .int x1), (2, .int x2), (3, .int x3), (4, .int x.1), (5, .long x.2.1), (7, .long x.2.2)] [] g → ob_Ev C 12 [(0, ob_rv C n0), (1, .int x1), (2, .int x2), (3, .int x3), (4, .int x4), (5, .long y5), (7, .long y7), (9, .int x9)] [] g := by
  intro n
  induction n with
  | zero => intro x4 y5 y7 x9 x h; exact ob_no h
  | succ n ih => intro x4 y5 y7 x9 x h k0; exact lb_X10_sort_12 F ih h k0
def B_X10_sort_157 (g : ob_St) (n0 : Nat) (x1 : Int32) (y7 : Int64) (x10 : Int32) (s0 : Nat) (s1 : Int32) (s2 : Int32) : Option ob_St :=
  (ob_wI g s0 s1 s2).bind fun g15 => (ob_gR 10 n0 2).bind fun v16 => (if x10 = (-1) then ((ob_wL g15 v16 x1 y7).bind fun g18 => some g18) else ((ob_wL g15 v16 x1 (Int32.toInt64 x10)).bind fun g17 => some g17))
theorem b_X10_sort_157 {C : ob_Cx} (F : ob_Fx C cX10_sort 11 RX10 none 1 23) {g : ob_St} {n0 : Nat} {x1 : Int32} {y7 : Int64} {x10 : Int32} {s0 : Nat} {s1 : Int32} {s2 : Int32} {r : ob_St} (h : B_X10_sort_157 g n0 x1 y7 x10 s0 s1 s2 = some r) (k : ob_Rt C none r) : ob_Ev C 157 [(0, ob_rv C n0), (1, .int x1), (7, .long y7), (10, .int x10)] [.int s2, .int s1, ob_rv C s0] g := by
  unfold B_X10_sort_157 at h
  refine ob_iast F dX10_sort_157 h fun g15 h => ?_
  refine ob_rload_n F 0 dX10_sort_158 rfl ?_
  refine ob_getR F dX10_sort_159 fl_X10_18 h fun v16 h => ?_
  refine ob_iload_n F 1 dX10_sort_162 rfl ?_
  refine ob_iload F 3 dX10_sort_163 rfl ?_
  refine ob_iconst F (v := (-1)) dX10_sort_165 (by decide) ?_
  refine ob_icmp_ne F 174 dX10_sort_166 (by decide) h (fun h => ?_) (fun h => ?_)
  · refine ob_iload F 3 dX10_sort_174 rfl ?_
    refine ob_i2l F dX10_sort_176 ?_
    refine ob_last F dX10_sort_177 h fun g17 h => ?_
    obtain rfl := Option.some.inj h
    exact ob_vret F dX10_sort_178 k
  · refine ob_lload F 2 dX10_sort_169 rfl ?_
    refine ob_goto F 177 dX10_sort_171 (by decide) ?_
    refine ob_last F dX10_sort_177 h fun g18 h => ?_
    obtain rfl := Option.some.inj h
    exact ob_vret F dX10_sort_178 k
def B_X10_sort_121 (g : ob_St) (n0 : Nat) (x1 : Int32) (x4 : Int32) (y7 : Int64) (x9 : Int32) : Option ob_St :=
  (if x4 = 0 then ((if 8 < x9 then (some g) else ((ob_ck 10 n0 (f_X10_keywordOf g n0 y7)).bind fun v13 => (ob_gR 10 n0 0).bind fun v14 => (if v13 = (-1) then (B_X10_sort_157 g n0 x1 y7 v13 v14 x1 4) else (B_X10_sort_157 g n0 x1 y7 v13 v14 x1 5))))) else (some g))
theorem b_X10_sort_121 {C : ob_Cx} (F : ob_Fx C cX10_sort 11 RX10 none 1 23) {g : ob_St} {n0 : Nat} {x1 : Int32} {x4 : Int32} {y7 : Int64} {x9 : Int32} {r : ob_St} (h : B_X10_sort_121 g n0 x1 x4 y7 x9 = some r) (k : ob_Rt C none r) : ob_Ev C 121 [(0, ob_rv C n0), (1, .int x1), (4, .int x4), (7, .long y7), (9, .int x9)] [] g := by
  unfold B_X10_sort_121 at h
  refine ob_iload F 2 dX10_sort_121 rfl ?_
  refine ob_if_ne F 178 dX10_sort_123 (by decide) h (fun h => ?_) (fun h => ?_)
  · obtain rfl := Option.some.inj h
    exact ob_vret F dX10_sort_178 k
  · refine ob_iload F 4 dX10_sort_126 rfl ?_
    refine ob_bipush F (v := 8) dX10_sort_128 (by decide) ?_
    refine ob_icmp_gt F 178 dX10_sort_130 (by decide) h (fun h => ?_) (fun h => ?_)
    · obtain rfl := Option.some.inj h
      exact ob_vret F dX10_sort_178 k
    · refine ob_rload_n F 0 dX10_sort_133 rfl ?_
      refine ob_lload F 3 dX10_sort_134 rfl ?_
      refine ob_cVi F dX10_sort_136 im_X10_keywordOf tw3_52 h (fun b hb => t_X10_keywordOf hb) rfl rfl (Nat.le_of_ble_eq_true rfl) (by decide) fun v13 h => ?_
      refine ob_istore F (ls2 := [(10, .int v13), (0, ob_rv C n0), (1, .int x1), (4, .int x4), (7, .long y7), (9, .int x9)]) dX10_sort_139 (by decide) rfl ?_
      refine ob_rload_n F 1 dX10_sort_141 rfl ?_
      refine ob_getR F dX10_sort_142 fl_X10_9 h fun v14 h => ?_
      refine ob_iload_n F 2 dX10_sort_145 rfl ?_
      refine ob_iload F 0 dX10_sort_146 rfl ?_
      refine ob_iconst F (v := (-1)) dX10_sort_148 (by decide) ?_
      refine ob_icmp_ne F 156 dX10_sort_149 (by decide) h (fun h => ?_) (fun h => ?_)
      · refine ob_iconst F (v := 5) dX10_sort_156 (by decide) ?_
        exact ob_sub [1, 2, 4, 0] rfl (b_X10_sort_157 F h k)
      · refine ob_iconst F (v := 4) dX10_sort_152 (by decide) ?_
        refine ob_goto F 157 dX10_sort_153 (by decide) ?_
        exact ob_sub [1, 2, 4, 0] rfl (b_X10_sort_157 F h k)
def f_X10_sort (g : ob_St) (n0 : Nat) (x1 : Int32) (x2 : Int32) (x3 : Int32) : Option ob_St :=
  (L_X10_sort_12 g n0 x1 x2 x3 ob_FU 0 0 0 x2).bind fun x_10 => (ob_gR 10 n0 0).bind fun v11 => (ob_wI g v11 x1 1).bind fun g12 => (if x_10.1 = (x3 - x2) then ((if 3 < (x3 - x2) then (B_X10_sort_121 g12 n0 x1 x_10.1 x_10.2.2 (x3 - x2)) else ((ob_gR 10 n0 0).bind fun v19 => (ob_wI g12 v19 x1 3).bind fun g20 => (ob_gR 10 n0 2).bind fun v21 => (ob_wL g20 v21 x1 x_10.2.1).bind fun g22 => some g22))) else (B_X10_sort_121 g12 n0 x1 x_10.1 x_10.2.2 (x3 - x2)))
theorem b_X10_sort_0 {C : ob_Cx} (F : ob_Fx C cX10_sort 11 RX10 none 1 23) {g : ob_St} {n0 : Nat} {x1 : Int32} {x2 : Int32} {x3 : Int32} {r : ob_St} (h : f_X10_sort g n0 x1 x2 x3 = some r) (k : ob_Rt C none r) : ob_Ev C 0 [(0, ob_rv C n0), (1, .int x1), (2, .int x2), (3, .int x3)] [] g := by
  unfold f_X10_sort at h
  refine ob_iconst F (v := 0) dX10_sort_0 (by decide) ?_
  refine ob_istore F (ls2 := [(4, .int 0), (0, ob_rv C n0), (1, .int x1), (2, .int x2), (3, .int x3)]) dX10_sort_1 (by decide) rfl ?_
  refine ob_lconst F (v := 0) dX10_sort_3 (by decide) ?_
  refine ob_lstore F (ls2 := [(5, .long 0), (4, .int 0), (0, ob_rv C n0), (1, .int x1), (2, .int x2), (3, .int x3)]) dX10_sort_4 (by decide) rfl ?_
  refine ob_lconst F (v := 0) dX10_sort_6 (by decide) ?_
  refine ob_lstore F (ls2 := [(7, .long 0), (5, .long 0), (4, .int 0), (0, ob_rv C n0), (1, .int x1), (2, .int x2), (3, .int x3)]) dX10_sort_7 (by decide) rfl ?_
  refine ob_iload_n F 5 dX10_sort_9 rfl ?_
  refine ob_istore F (ls2 := [(9, .int x2), (7, .long 0), (5, .long 0), (4, .int 0), (0, ob_rv C n0), (1, .int x1), (2, .int x2), (3, .int x3)]) dX10_sort_10 (by decide) rfl ?_
  obtain ⟨x_10, hx, h⟩ := Option.bind_eq_some_iff.mp h
  refine ob_sub [4, 5, 6, 7, 3, 2, 1, 0] rfl (l_X10_sort_12 F ob_FU hx ?_)
  refine ob_iload_n F 3 dX10_sort_78 rfl ?_
  refine ob_iload_n F 2 dX10_sort_79 rfl ?_
  refine ob_isub F dX10_sort_80 ?_
  refine ob_istore F (ls2 := [(9, .int (x3 - x2)), (0, ob_rv C n0), (1, .int x1), (2, .int x2), (3, .int x3), (4, .int x_10.1), (5, .long x_10.2.1), (7, .long x_10.2.2)]) dX10_sort_81 (by decide) rfl ?_
  refine ob_rload_n F 1 dX10_sort_83 rfl ?_
  refine ob_getR F dX10_sort_84 fl_X10_9 h fun v11 h => ?_
  refine ob_iload_n F 2 dX10_sort_87 rfl ?_
  refine ob_iconst F (v := 1) dX10_sort_88 (by decide) ?_
  refine ob_iast F dX10_sort_89 h fun g12 h => ?_
  refine ob_iload F 5 dX10_sort_90 rfl ?_
  refine ob_iload F 0 dX10_sort_92 rfl ?_
  refine ob_icmp_ne F 121 dX10_sort_94 (by decide) h (fun h => ?_) (fun h => ?_)
  · exact ob_sub [1, 2, 5, 7, 0] rfl (b_X10_sort_121 F h k)
  · refine ob_iload F 0 dX10_sort_97 rfl ?_
    refine ob_iconst F (v := 3) dX10_sort_99 (by decide) ?_
    refine ob_icmp_gt F 121 dX10_sort_100 (by decide) h (fun h => ?_) (fun h => ?_)
    · exact ob_sub [1, 2, 5, 7, 0] rfl (b_X10_sort_121 F h k)
    · refine ob_rload_n F 1 dX10_sort_103 rfl ?_
      refine ob_getR F dX10_sort_104 fl_X10_9 h fun v19 h => ?_
      refine ob_iload_n F 2 dX10_sort_107 rfl ?_
      refine ob_iconst F (v := 3) dX10_sort_108 (by decide) ?_
      refine ob_iast F dX10_sort_109 h fun g20 h => ?_
      refine ob_rload_n F 1 dX10_sort_110 rfl ?_
      refine ob_getR F dX10_sort_111 fl_X10_18 h fun v21 h => ?_
      refine ob_iload_n F 2 dX10_sort_114 rfl ?_
      refine ob_lload F 6 dX10_sort_115 rfl ?_
      refine ob_last F dX10_sort_117 h fun g22 h => ?_
      refine ob_goto F 178 dX10_sort_118 (by decide) ?_
      obtain rfl := Option.some.inj h
      exact ob_vret F dX10_sort_178 k
theorem t_X10_sort {cf : ob_Cf} {g : ob_St} {n0 : Nat} {x1 : Int32} {x2 : Int32} {x3 : Int32} {r : ob_St} (h : f_X10_sort g n0 x1 x2 x3 = some r) : ob_Mt cf yX10_sort cX10_sort 11 none 1 23 [ob_rw cf n0, .int x1, .int x2, .int x3] g none r := by
  refine ob_enter (by decide) (Nat.le_of_ble_eq_true rfl) rfl ?_
  intro C hC F k
  subst hC
  exact b_X10_sort_0 F h k
-- X10_scan
def B_X10_scan_87 (rec : ob_St → Int32 → Int32 → Option (ob_St × Int32)) (g : ob_St) (n0 : Nat) (x1 : Int32) (x2 : Int32) (x3 : Int32) (x4 : Int32) : Option (ob_St × Int32) :=
  rec g x2 (ob_imax x4 (x3 + 1))
theorem b_X10_scan_87 {C : ob_Cx} {rec : ob_St → Int32 → Int32 → Option (ob_St × Int32)} (F : ob_Fx C cX10_scan 5 RX10 none 2 53) {g : ob_St} {n0 : Nat} {x1 : Int32} {x2 : Int32} {x3 : Int32} {x4 : Int32} {x : (ob_St × Int32)} (hr : ∀ {g : ob_St} {x2 : Int32} {x3 : Int32} {x : (ob_St × Int32)}, rec g x2 x3 = some x → ob_Ev C 99 [(0, ob_rv C n0), (1, .int x1), (2, .int x.2)] [] x.1 → ob_Ev C 4 [(0, ob_rv C n0), (1, .int x1), (2, .int x2), (3, .int x3)] [] g) (h : B_X10_scan_87 rec g n0 x1 x2 x3 x4 = some x) (k0 : ob_Ev C 99 [(0, ob_rv C n0), (1, .int x1), (2, .int x.2)] [] x.1) : ob_Ev C 87 [(0, ob_rv C n0), (1, .int x1), (2, .int x2), (3, .int x3), (4, .int x4)] [] g := by
  unfold B_X10_scan_87 at h
  refine ob_iload F 4 dX10_scan_87 rfl ?_
  refine ob_iload_n F 3 dX10_scan_89 rfl ?_
  refine ob_iconst F (v := 1) dX10_scan_90 (by decide) ?_
  refine ob_iadd F dX10_scan_91 ?_
  refine ob_mimax F dX10_scan_92 tw3_56 tw3_57 tw1_18 tw3_58 (Nat.le_of_ble_eq_true rfl) (by decide) ?_
  refine ob_istore_n F (ls2 := [(3, .int (ob_imax x4 (x3 + 1))), (0, ob_rv C n0), (1, .int x1), (2, .int x2), (4, .int x4)]) dX10_scan_95 (by decide) rfl ?_
  refine ob_goto F 4 dX10_scan_96 (by decide) ?_
  exact ob_sub [1, 2, 3, 0] rfl (hr h k0)
def B_X10_scan_83 (rec : ob_St → Int32 → Int32 → Option (ob_St × Int32)) (g : ob_St) (n0 : Nat) (x1 : Int32) (x2 : Int32) (x3 : Int32) (x4 : Int32) (s0 : Nat) (s1 : Int32) (s2 : Int32) : Option (ob_St × Int32) :=
  (ob_wI g s0 s1 s2).bind fun g9 => B_X10_scan_87 rec g9 n0 x1 (x2 + 1) x3 x4
theorem b_X10_scan_83 {C : ob_Cx} {rec : ob_St → Int32 → Int32 → Option (ob_St × Int32)} (F : ob_Fx C cX10_scan 5 RX10 none 2 53) {g : ob_St} {n0 : Nat} {x1 : Int32} {x2 : Int32} {x3 : Int32} {x4 : Int32} {s0 : Nat} {s1 : Int32} {s2 : Int32} {x : (ob_St × Int32)} (hr : ∀ {g : ob_St} {x2 : Int32} {x3 : Int32} {x : (ob_St × Int32)}, rec g x2 x3 = some x → ob_Ev C 99 [(0, ob_rv C n0), (1, .int x1), (2, .int x.2)] [] x.1 → ob_Ev C 4 [(0, ob_rv C n0), (1, .int x1), (2, .int x2), (3, .int x3)] [] g) (h : B_X10_scan_83 rec g n0 x1 x2 x3 x4 s0 s1 s2 = some x) (k0 : ob_Ev C 99 [(0, ob_rv C n0), (1, .int x1), (2, .int x.2)] [] x.1) : ob_Ev C 83 [(0, ob_rv C n0), (1, .int x1), (2, .int x2), (3, .int x3), (4, .int x4)] [.int s2, .int s1, ob_rv C s0] g := by
  unfold B_X10_scan_83 at h
  refine ob_iast F dX10_scan_83 h fun g9 h => ?_
  refine ob_iinc F (v := (x2 + 1)) (ls2 := [(2, .int (x2 + 1)), (0, ob_rv C n0), (1, .int x1), (3, .int x3), (4, .int x4)]) 2 dX10_scan_84 rfl rfl (by decide) rfl ?_
  exact ob_sub [1, 2, 0, 3, 4] rfl (b_X10_scan_87 F hr h k0)
def Lb_X10_scan_4 (rec : ob_St → Int32 → Int32 → Option (ob_St × Int32)) (g : ob_St) (n0 : Nat) (x1 : Int32) (x2 : Int32) (x3 : Int32) : Option (ob_St × Int32) :=
  (if x1 ≤ x3 then (some (g, x2)) else ((if 500 ≤ x2 then (some (g, x2)) else ((ob_ck 10 n0 (f_X10_runEnd g n0 x3 x1)).bind fun v1 => (ob_gR 10 n0 1).bind fun v2 => (ob_wI g v2 x2 x3).bind fun g3 => (if v1 ≤ x3 then ((ob_gR 10 n0 3).bind fun v4 => (ob_rI g3 13 v4 x3).bind fun v5 => (if v5 = 32 then (B_X10_scan_87 rec g3 n0 x1 x2 x3 v1) else ((ob_gR 10 n0 0).bind fun v6 => (ob_gR 10 n0 3).bind fun v7 => (ob_rI g3 13 v7 x3).bind fun v8 => (if v8 = 59 then (B_X10_scan_83 rec g3 n0 x1 x2 x3 v1 v6 x2 2) else (B_X10_scan_83 rec g3 n0 x1 x2 x3 v1 v6 x2 1))))) else ((ob_ck 10 n0 (f_X10_sort g3 n0 x2 x3 v1)).bind fun g10 => B_X10_scan_87 rec g10 n0 x1 (x2 + 1) x3 v1))))))
def L_X10_scan_4 (n0 : Nat) (x1 : Int32) : Nat → ob_St → Int32 → Int32 → Option (ob_St × Int32)
  | 0, _, _, _ => none
  | n + 1, g, x2, x3 => Lb_X10_scan_4 (L_X10_scan_4 n0 x1 n) g n0 x1 x2 x3
theorem lb_X10_scan_4 {C : ob_Cx} {rec : ob_St → Int32 → Int32 → Option (ob_St × Int32)} (F : ob_Fx C cX10_scan 5 RX10 none 2 53) {g : ob_St} {n0 : Nat} {x1 : Int32} {x2 : Int32} {x3 : Int32} {x : (ob_St × Int32)} (hr : ∀ {g : ob_St} {x2 : Int32} {x3 : Int32} {x : (ob_St × Int32)}, rec g x2 x3 = some x → ob_Ev C 99 [(0, ob_rv C n0), (1, .int x1), (2, .int x.2)] [] x.1 → ob_Ev C 4 [(0, ob_rv C n0), (1, .int x1), (2, .int x2), (3, .int x3)] [] g) (h : Lb_X10_scan_4 rec g n0 x1 x2 x3 = some x) (k0 : ob_Ev C 99 [(0, ob_rv C n0), (1, .int x1), (2, .int x.2)] [] x.1) : ob_Ev C 4 [(0, ob_rv C n0), (1, .int x1), (2, .int x2), (3, .int x3)] [] g := by
  unfold Lb_X10_scan_4 at h
  refine ob_iload_n F 3 dX10_scan_4 rfl ?_
  refine ob_iload_n F 1 dX10_scan_5 rfl ?_
  refine ob_icmp_ge F 99 dX10_scan_6 (by decide) h (fun h => ?_) (fun h => ?_)
  · obtain rfl := Option.some.inj h
    exact ob_sub [0, 1, 2] rfl (k0)
  · refine ob_iload_n F 2 dX10_scan_9 rfl ?_
    refine ob_sipush F (v := 500) dX10_scan_10 (by decide) ?_
    refine ob_icmp_ge F 99 dX10_scan_13 (by decide) h (fun h => ?_) (fun h => ?_)
    · obtain rfl := Option.some.inj h
      exact ob_sub [0, 1, 2] rfl (k0)
    · refine ob_rload_n F 0 dX10_scan_16 rfl ?_
      refine ob_iload_n F 3 dX10_scan_17 rfl ?_
      refine ob_iload_n F 1 dX10_scan_18 rfl ?_
      refine ob_cVi F dX10_scan_19 im_X10_runEnd tw3_36 h (fun b hb => t_X10_runEnd hb) rfl rfl (Nat.le_of_ble_eq_true rfl) (by decide) fun v1 h => ?_
      refine ob_istore F (ls2 := [(4, .int v1), (0, ob_rv C n0), (1, .int x1), (2, .int x2), (3, .int x3)]) dX10_scan_22 (by decide) rfl ?_
      refine ob_rload_n F 1 dX10_scan_24 rfl ?_
      refine ob_getR F dX10_scan_25 fl_X10_15 h fun v2 h => ?_
      refine ob_iload_n F 3 dX10_scan_28 rfl ?_
      refine ob_iload_n F 4 dX10_scan_29 rfl ?_
      refine ob_iast F dX10_scan_30 h fun g3 h => ?_
      refine ob_iload F 0 dX10_scan_31 rfl ?_
      refine ob_iload_n F 4 dX10_scan_33 rfl ?_
      refine ob_icmp_le F 51 dX10_scan_34 (by decide) h (fun h => ?_) (fun h => ?_)
      · refine ob_rload_n F 1 dX10_scan_51 rfl ?_
        refine ob_getR F dX10_scan_52 fl_X10_25 h fun v4 h => ?_
        refine ob_iload_n F 4 dX10_scan_55 rfl ?_
        refine ob_bald F dX10_scan_56 h fun v5 h => ?_
        refine ob_bipush F (v := 32) dX10_scan_57 (by decide) ?_
        refine ob_icmp_eq F 87 dX10_scan_59 (by decide) h (fun h => ?_) (fun h => ?_)
        · exact ob_sub [1, 2, 3, 4, 0] rfl (b_X10_scan_87 F hr h k0)
        · refine ob_rload_n F 1 dX10_scan_62 rfl ?_
          refine ob_getR F dX10_scan_63 fl_X10_9 h fun v6 h => ?_
          refine ob_iload_n F 3 dX10_scan_66 rfl ?_
          refine ob_rload_n F 1 dX10_scan_67 rfl ?_
          refine ob_getR F dX10_scan_68 fl_X10_25 h fun v7 h => ?_
          refine ob_iload_n F 4 dX10_scan_71 rfl ?_
          refine ob_bald F dX10_scan_72 h fun v8 h => ?_
          refine ob_bipush F (v := 59) dX10_scan_73 (by decide) ?_
          refine ob_icmp_ne F 82 dX10_scan_75 (by decide) h (fun h => ?_) (fun h => ?_)
          · refine ob_iconst F (v := 1) dX10_scan_82 (by decide) ?_
            exact ob_sub [1, 2, 3, 4, 0] rfl (b_X10_scan_83 F hr h k0)
          · refine ob_iconst F (v := 2) dX10_scan_78 (by decide) ?_
            refine ob_goto F 83 dX10_scan_79 (by decide) ?_
            exact ob_sub [1, 2, 3, 4, 0] rfl (b_X10_scan_83 F hr h k0)
      · refine ob_rload_n F 1 dX10_scan_37 rfl ?_
        refine ob_iload_n F 3 dX10_scan_38 rfl ?_
        refine ob_iload_n F 4 dX10_scan_39 rfl ?_
        refine ob_iload F 0 dX10_scan_40 rfl ?_
        refine ob_cVvS F dX10_scan_42 im_X10_sort tw3_46 h (fun b hb => t_X10_sort hb) rfl rfl (Nat.le_of_ble_eq_true rfl) (by decide) fun g10 h => ?_
        refine ob_iinc F (v := (x2 + 1)) (ls2 := [(2, .int (x2 + 1)), (4, .int v1), (0, ob_rv C n0), (1, .int x1), (3, .int x3)]) 3 dX10_scan_45 rfl rfl (by decide) rfl ?_
        refine ob_goto F 87 dX10_scan_48 (by decide) ?_
        exact ob_sub [2, 3, 0, 4, 1] rfl (b_X10_scan_87 F hr h k0)
theorem l_X10_scan_4 {C : ob_Cx} (F : ob_Fx C cX10_scan 5 RX10 none 2 53) {n0 : Nat} {x1 : Int32} : ∀ (n : Nat) {g : ob_St} {x2 : Int32} {x3 : Int32} {x : (ob_St × Int32)}, L_X10_scan_4 n0 x1 n g x2 x3 = some x → ob_Ev C 99 [(0, ob_rv C n0), (1, .int x1), (2, .int x.2)] [] x.1 → ob_Ev C 4 [(0, ob_rv C n0), (1, .int x1), (2, .int x2), (3, .int x3)] [] g := by
  intro n
  induction n with
  | zero => intro g x2 x3 x h; exact ob_no h
  | succ n ih => intro g x2 x3 x h k0; exact lb_X10_scan_4 F ih h k0
def f_X10_scan (g : ob_St) (n0 : Nat) (x1 : Int32) : Option ob_St :=
  (L_X10_scan_4 n0 x1 ob_FU g 0 0).bind fun x_11 => (ob_gR 10 n0 0).bind fun v12 => (ob_wI x_11.1 v12 x_11.2 0).bind fun g13 => (ob_gR 10 n0 1).bind fun v14 => (ob_wI g13 v14 x_11.2 x1).bind fun g15 => some g15
theorem b_X10_scan_0 {C : ob_Cx} (F : ob_Fx C cX10_scan 5 RX10 none 2 53) {g : ob_St} {n0 : Nat} {x1 : Int32} {r : ob_St} (h : f_X10_scan g n0 x1 = some r) (k : ob_Rt C none r) : ob_Ev C 0 [(0, ob_rv C n0), (1, .int x1)] [] g := by
  unfold f_X10_scan at h
  refine ob_iconst F (v := 0) dX10_scan_0 (by decide) ?_
  refine ob_istore_n F (ls2 := [(2, .int 0), (0, ob_rv C n0), (1, .int x1)]) dX10_scan_1 (by decide) rfl ?_
  refine ob_iconst F (v := 0) dX10_scan_2 (by decide) ?_
  refine ob_istore_n F (ls2 := [(3, .int 0), (2, .int 0), (0, ob_rv C n0), (1, .int x1)]) dX10_scan_3 (by decide) rfl ?_
  obtain ⟨x_11, hx, h⟩ := Option.bind_eq_some_iff.mp h
  refine ob_sub [2, 3, 1, 0] rfl (l_X10_scan_4 F ob_FU hx ?_)
  refine ob_rload_n F 0 dX10_scan_99 rfl ?_
  refine ob_getR F dX10_scan_100 fl_X10_9 h fun v12 h => ?_
  refine ob_iload_n F 2 dX10_scan_103 rfl ?_
  refine ob_iconst F (v := 0) dX10_scan_104 (by decide) ?_
  refine ob_iast F dX10_scan_105 h fun g13 h => ?_
  refine ob_rload_n F 0 dX10_scan_106 rfl ?_
  refine ob_getR F dX10_scan_107 fl_X10_15 h fun v14 h => ?_
  refine ob_iload_n F 2 dX10_scan_110 rfl ?_
  refine ob_iload_n F 1 dX10_scan_111 rfl ?_
  refine ob_iast F dX10_scan_112 h fun g15 h => ?_
  obtain rfl := Option.some.inj h
  exact ob_vret F dX10_scan_113 k
theorem t_X10_scan {cf : ob_Cf} {g : ob_St} {n0 : Nat} {x1 : Int32} {r : ob_St} (h : f_X10_scan g n0 x1 = some r) : ob_Mt cf yX10_scan cX10_scan 5 none 2 53 [ob_rw cf n0, .int x1] g none r := by
  refine ob_enter (by decide) (Nat.le_of_ble_eq_true rfl) rfl ?_
  intro C hC F k
  subst hC
  exact b_X10_scan_0 F h k
-- X7_isNext
def f_X7_isNext (g : ob_St) (n0 : Nat) (x1 : Int32) : Option Int32 :=
  (ob_gR 7 n0 3).bind fun v1 => (ob_gR 10 v1 0).bind fun v2 => (ob_gI g 7 n0 5).bind fun v3 => (ob_rI g 14 v2 v3).bind fun v4 => (if v4 = x1 then (some 1) else (some 0))
theorem b_X7_isNext_0 {C : ob_Cx} (F : ob_Fx C cX7_isNext 2 RX7 (some .boolean) 0 0) {g : ob_St} {n0 : Nat} {x1 : Int32} {r : Int32} (h : f_X7_isNext g n0 x1 = some r) (k : ob_Rt C (some (.int r)) g) : ob_Ev C 0 [(0, ob_rv C n0), (1, .int x1)] [] g := by
  unfold f_X7_isNext at h
  refine ob_rload_n F 0 dX7_isNext_0 rfl ?_
  refine ob_getR F dX7_isNext_1 fl_X7_43 h fun v1 h => ?_
  refine ob_getR F dX7_isNext_4 fl_X7_76 h fun v2 h => ?_
  refine ob_rload_n F 0 dX7_isNext_7 rfl ?_
  refine ob_getI F dX7_isNext_8 fl_X7_29 h fun v3 h => ?_
  refine ob_iald F dX7_isNext_11 h fun v4 h => ?_
  refine ob_iload_n F 1 dX7_isNext_12 rfl ?_
  refine ob_icmp_ne F 20 dX7_isNext_13 (by decide) h (fun h => ?_) (fun h => ?_)
  · refine ob_iconst F (v := 0) dX7_isNext_20 (by decide) ?_
    obtain rfl := Option.some.inj h
    exact ob_zret F dX7_isNext_21 (Or.inl rfl) k
  · refine ob_iconst F (v := 1) dX7_isNext_16 (by decide) ?_
    refine ob_goto F 21 dX7_isNext_17 (by decide) ?_
    obtain rfl := Option.some.inj h
    exact ob_zret F dX7_isNext_21 (Or.inr rfl) k
theorem t_X7_isNext {cf : ob_Cf} {g : ob_St} {n0 : Nat} {x1 : Int32} {r : Int32} (h : f_X7_isNext g n0 x1 = some r) : ob_Mt cf yX7_isNext cX7_isNext 2 (some .boolean) 0 0 [ob_rw cf n0, .int x1] g (some (.int r)) g := by
  refine ob_enter (by decide) (Nat.le_of_ble_eq_true rfl) (Or.inr rfl) ?_
  intro C hC F k
  subst hC
  exact b_X7_isNext_0 F h k
-- X7_isKeyword
def f_X7_isKeyword (g : ob_St) (n0 : Nat) (x1 : Int32) : Option Int32 :=
  (ob_ck 7 n0 (f_X7_isNext g n0 5)).bind fun v1 => (if v1 = 0 then (some 0) else ((ob_gR 7 n0 3).bind fun v2 => (ob_gR 10 v2 2).bind fun v3 => (ob_gI g 7 n0 5).bind fun v4 => (ob_rL g v3 v4).bind fun v5 => (if v5 = (Int32.toInt64 x1) then (some 1) else (some 0))))
theorem b_X7_isKeyword_0 {C : ob_Cx} (F : ob_Fx C cX7_isKeyword 2 RX7 (some .boolean) 1 21) {g : ob_St} {n0 : Nat} {x1 : Int32} {r : Int32} (h : f_X7_isKeyword g n0 x1 = some r) (k : ob_Rt C (some (.int r)) g) : ob_Ev C 0 [(0, ob_rv C n0), (1, .int x1)] [] g := by
  unfold f_X7_isKeyword at h
  refine ob_rload_n F 0 dX7_isKeyword_0 rfl ?_
  refine ob_iconst F (v := 5) dX7_isKeyword_1 (by decide) ?_
  refine ob_cVi F dX7_isKeyword_2 im_X7_isNext tw3_59 h (fun b hb => t_X7_isNext hb) rfl rfl (Nat.le_of_ble_eq_true rfl) (by decide) fun v1 h => ?_
  refine ob_if_eq F 30 dX7_isKeyword_5 (by decide) h (fun h => ?_) (fun h => ?_)
  · refine ob_iconst F (v := 0) dX7_isKeyword_30 (by decide) ?_
    obtain rfl := Option.some.inj h
    exact ob_zret F dX7_isKeyword_31 (Or.inl rfl) k
  · refine ob_rload_n F 0 dX7_isKeyword_8 rfl ?_
    refine ob_getR F dX7_isKeyword_9 fl_X7_43 h fun v2 h => ?_
    refine ob_getR F dX7_isKeyword_12 fl_X7_79 h fun v3 h => ?_
    refine ob_rload_n F 0 dX7_isKeyword_15 rfl ?_
    refine ob_getI F dX7_isKeyword_16 fl_X7_29 h fun v4 h => ?_
    refine ob_lald F dX7_isKeyword_19 h fun v5 h => ?_
    refine ob_iload_n F 1 dX7_isKeyword_20 rfl ?_
    refine ob_i2l F dX7_isKeyword_21 ?_
    refine ob_lcmp_ne F 30 dX7_isKeyword_22 dX7_isKeyword_23 (by decide) h (fun h => ?_) (fun h => ?_)
    · refine ob_iconst F (v := 0) dX7_isKeyword_30 (by decide) ?_
      obtain rfl := Option.some.inj h
      exact ob_zret F dX7_isKeyword_31 (Or.inl rfl) k
    · refine ob_iconst F (v := 1) dX7_isKeyword_26 (by decide) ?_
      refine ob_goto F 31 dX7_isKeyword_27 (by decide) ?_
      obtain rfl := Option.some.inj h
      exact ob_zret F dX7_isKeyword_31 (Or.inr rfl) k
theorem t_X7_isKeyword {cf : ob_Cf} {g : ob_St} {n0 : Nat} {x1 : Int32} {r : Int32} (h : f_X7_isKeyword g n0 x1 = some r) : ob_Mt cf yX7_isKeyword cX7_isKeyword 2 (some .boolean) 1 21 [ob_rw cf n0, .int x1] g (some (.int r)) g := by
  refine ob_enter (by decide) (Nat.le_of_ble_eq_true rfl) (Or.inr rfl) ?_
  intro C hC F k
  subst hC
  exact b_X7_isKeyword_0 F h k
-- X7_pass
def f_X7_pass (g : ob_St) (n0 : Nat) : Option ob_St :=
  (ob_gR 7 n0 3).bind fun v1 => (ob_gR 10 v1 0).bind fun v2 => (ob_gI g 7 n0 5).bind fun v3 => (ob_rI g 14 v2 v3).bind fun v4 => (if v4 = 0 then (some g) else ((ob_gI g 7 n0 5).bind fun v5 => (ob_pI g 7 n0 5 (v5 + 1)).bind fun g6 => some g6))
theorem b_X7_pass_0 {C : ob_Cx} (F : ob_Fx C cX7_pass 1 RX7 none 0 0) {g : ob_St} {n0 : Nat} {r : ob_St} (h : f_X7_pass g n0 = some r) (k : ob_Rt C none r) : ob_Ev C 0 [(0, ob_rv C n0)] [] g := by
  unfold f_X7_pass at h
  refine ob_rload_n F 0 dX7_pass_0 rfl ?_
  refine ob_getR F dX7_pass_1 fl_X7_43 h fun v1 h => ?_
  refine ob_getR F dX7_pass_4 fl_X7_76 h fun v2 h => ?_
  refine ob_rload_n F 0 dX7_pass_7 rfl ?_
  refine ob_getI F dX7_pass_8 fl_X7_29 h fun v3 h => ?_
  refine ob_iald F dX7_pass_11 h fun v4 h => ?_
  refine ob_if_eq F 25 dX7_pass_12 (by decide) h (fun h => ?_) (fun h => ?_)
  · obtain rfl := Option.some.inj h
    exact ob_vret F dX7_pass_25 k
  · refine ob_rload_n F 0 dX7_pass_15 rfl ?_
    refine ob_dup F dX7_pass_16 rfl ?_
    refine ob_getI F dX7_pass_17 fl_X7_29 h fun v5 h => ?_
    refine ob_iconst F (v := 1) dX7_pass_20 (by decide) ?_
    refine ob_iadd F dX7_pass_21 ?_
    refine ob_putI F dX7_pass_22 fp_X7_29 h fun g6 h => ?_
    obtain rfl := Option.some.inj h
    exact ob_vret F dX7_pass_25 k
theorem t_X7_pass {cf : ob_Cf} {g : ob_St} {n0 : Nat} {r : ob_St} (h : f_X7_pass g n0 = some r) : ob_Mt cf yX7_pass cX7_pass 1 none 0 0 [ob_rw cf n0] g none r := by
  refine ob_enter (by decide) (Nat.le_of_ble_eq_true rfl) rfl ?_
  intro C hC F k
  subst hC
  exact b_X7_pass_0 F h k
-- X7_fails
def f_X7_fails (g : ob_St) (n0 : Nat) (x1 : Int32) : Option (Int32 × ob_St) :=
  (ob_gR 7 n0 3).bind fun v1 => (ob_gR 10 v1 1).bind fun v2 => (ob_gI g 7 n0 5).bind fun v3 => (ob_rI g 14 v2 v3).bind fun v4 => (ob_ck 7 n0 (f_X7_failsAt g n0 x1 v4)).bind fun v5 => (ob_zr v5.1).bind fun z6 => some (z6, v5.2)
theorem b_X7_fails_0 {C : ob_Cx} (F : ob_Fx C cX7_fails 2 RX7 (some .boolean) 1 22) {g : ob_St} {n0 : Nat} {x1 : Int32} {r : (Int32 × ob_St)} (h : f_X7_fails g n0 x1 = some r) (k : ob_Rt C (some (.int r.1)) r.2) : ob_Ev C 0 [(0, ob_rv C n0), (1, .int x1)] [] g := by
  unfold f_X7_fails at h
  refine ob_rload_n F 0 dX7_fails_0 rfl ?_
  refine ob_iload_n F 1 dX7_fails_1 rfl ?_
  refine ob_rload_n F 0 dX7_fails_2 rfl ?_
  refine ob_getR F dX7_fails_3 fl_X7_43 h fun v1 h => ?_
  refine ob_getR F dX7_fails_6 fl_X7_72 h fun v2 h => ?_
  refine ob_rload_n F 0 dX7_fails_9 rfl ?_
  refine ob_getI F dX7_fails_10 fl_X7_29 h fun v3 h => ?_
  refine ob_iald F dX7_fails_13 h fun v4 h => ?_
  refine ob_cViS F dX7_fails_14 im_X7_failsAt tw3_28 h (fun b hb => t_X7_failsAt hb) rfl rfl (Nat.le_of_ble_eq_true rfl) (by decide) fun v5 h => ?_
  refine ob_zrow h fun hz h => ?_
  obtain rfl := Option.some.inj h
  exact ob_zret F dX7_fails_17 hz k
theorem t_X7_fails {cf : ob_Cf} {g : ob_St} {n0 : Nat} {x1 : Int32} {r : (Int32 × ob_St)} (h : f_X7_fails g n0 x1 = some r) : ob_Mt cf yX7_fails cX7_fails 2 (some .boolean) 1 22 [ob_rw cf n0, .int x1] g (some (.int r.1)) r.2 := by
  refine ob_enter (by decide) (Nat.le_of_ble_eq_true rfl) (Or.inr rfl) ?_
  intro C hC F k
  subst hC
  exact b_X7_fails_0 F h k
-- X7_readNumber
def B_X7_readNumber_50 (g : ob_St) (n0 : Nat) : Option (Int32 × ob_St) :=
  (ob_ck 7 n0 (f_X7_fails g n0 2)).bind fun v6 => (ob_zr v6.1).bind fun z7 => some (z7, v6.2)
theorem b_X7_readNumber_50 {C : ob_Cx} (F : ob_Fx C cX7_readNumber 3 RX7 (some .boolean) 2 43) {g : ob_St} {n0 : Nat} {r : (Int32 × ob_St)} (h : B_X7_readNumber_50 g n0 = some r) (k : ob_Rt C (some (.int r.1)) r.2) : ob_Ev C 50 [(0, ob_rv C n0)] [] g := by
  unfold B_X7_readNumber_50 at h
  refine ob_rload_n F 0 dX7_readNumber_50 rfl ?_
  refine ob_iconst F (v := 2) dX7_readNumber_51 (by decide) ?_
  refine ob_cViS F dX7_readNumber_52 im_X7_fails tw3_83 h (fun b hb => t_X7_fails hb) rfl rfl (Nat.le_of_ble_eq_true rfl) (by decide) fun v6 h => ?_
  refine ob_zrow h fun hz h => ?_
  obtain rfl := Option.some.inj h
  exact ob_zret F dX7_readNumber_55 hz k
def f_X7_readNumber (g : ob_St) (n0 : Nat) (x1 : Int32) (x2 : Int32) : Option (Int32 × ob_St) :=
  (ob_ck 7 n0 (f_X7_isNext g n0 3)).bind fun v1 => (if v1 = 0 then ((ob_ck 7 n0 (f_X7_fails g n0 1)).bind fun v23 => (ob_zr v23.1).bind fun z24 => some (z24, v23.2)) else ((ob_gR 7 n0 3).bind fun v2 => (ob_gR 10 v2 2).bind fun v3 => (ob_gI g 7 n0 5).bind fun v4 => (ob_rL g v3 v4).bind fun v5 => (if v5 < (Int32.toInt64 x1) then (B_X7_readNumber_50 g n0) else ((ob_gR 7 n0 3).bind fun v8 => (ob_gR 10 v8 2).bind fun v9 => (ob_gI g 7 n0 5).bind fun v10 => (ob_rL g v9 v10).bind fun v11 => (if v11 ≤ (Int32.toInt64 x2) then ((ob_gR 7 n0 3).bind fun v12 => (ob_gR 10 v12 2).bind fun v13 => (ob_gI g 7 n0 5).bind fun v14 => (ob_rL g v13 v14).bind fun v15 => (ob_pI g 7 n0 6 (Int64.toInt32 v15)).bind fun g16 => (ob_gR 7 n0 3).bind fun v17 => (ob_gR 10 v17 1).bind fun v18 => (ob_gI g16 7 n0 5).bind fun v19 => (ob_rI g16 14 v18 v19).bind fun v20 => (ob_pI g16 7 n0 7 v20).bind fun g21 => (ob_ck 7 n0 (f_X7_pass g21 n0)).bind fun g22 => some (1, g22)) else (B_X7_readNumber_50 g n0))))))
theorem b_X7_readNumber_0 {C : ob_Cx} (F : ob_Fx C cX7_readNumber 3 RX7 (some .boolean) 2 43) {g : ob_St} {n0 : Nat} {x1 : Int32} {x2 : Int32} {r : (Int32 × ob_St)} (h : f_X7_readNumber g n0 x1 x2 = some r) (k : ob_Rt C (some (.int r.1)) r.2) : ob_Ev C 0 [(0, ob_rv C n0), (1, .int x1), (2, .int x2)] [] g := by
  unfold f_X7_readNumber at h
  refine ob_rload_n F 0 dX7_readNumber_0 rfl ?_
  refine ob_iconst F (v := 3) dX7_readNumber_1 (by decide) ?_
  refine ob_cVi F dX7_readNumber_2 im_X7_isNext tw3_59 h (fun b hb => t_X7_isNext hb) rfl rfl (Nat.le_of_ble_eq_true rfl) (by decide) fun v1 h => ?_
  refine ob_if_ne F 14 dX7_readNumber_5 (by decide) h (fun h => ?_) (fun h => ?_)
  · refine ob_rload_n F 0 dX7_readNumber_14 rfl ?_
    refine ob_getR F dX7_readNumber_15 fl_X7_43 h fun v2 h => ?_
    refine ob_getR F dX7_readNumber_18 fl_X7_79 h fun v3 h => ?_
    refine ob_rload_n F 0 dX7_readNumber_21 rfl ?_
    refine ob_getI F dX7_readNumber_22 fl_X7_29 h fun v4 h => ?_
    refine ob_lald F dX7_readNumber_25 h fun v5 h => ?_
    refine ob_iload_n F 1 dX7_readNumber_26 rfl ?_
    refine ob_i2l F dX7_readNumber_27 ?_
    refine ob_lcmp_lt F 50 dX7_readNumber_28 dX7_readNumber_29 (by decide) h (fun h => ?_) (fun h => ?_)
    · exact ob_sub [0] rfl (b_X7_readNumber_50 F h k)
    · refine ob_rload_n F 0 dX7_readNumber_32 rfl ?_
      refine ob_getR F dX7_readNumber_33 fl_X7_43 h fun v8 h => ?_
      refine ob_getR F dX7_readNumber_36 fl_X7_79 h fun v9 h => ?_
      refine ob_rload_n F 0 dX7_readNumber_39 rfl ?_
      refine ob_getI F dX7_readNumber_40 fl_X7_29 h fun v10 h => ?_
      refine ob_lald F dX7_readNumber_43 h fun v11 h => ?_
      refine ob_iload_n F 2 dX7_readNumber_44 rfl ?_
      refine ob_i2l F dX7_readNumber_45 ?_
      refine ob_lcmp_le F 56 dX7_readNumber_46 dX7_readNumber_47 (by decide) h (fun h => ?_) (fun h => ?_)
      · refine ob_rload_n F 0 dX7_readNumber_56 rfl ?_
        refine ob_rload_n F 0 dX7_readNumber_57 rfl ?_
        refine ob_getR F dX7_readNumber_58 fl_X7_43 h fun v12 h => ?_
        refine ob_getR F dX7_readNumber_61 fl_X7_79 h fun v13 h => ?_
        refine ob_rload_n F 0 dX7_readNumber_64 rfl ?_
        refine ob_getI F dX7_readNumber_65 fl_X7_29 h fun v14 h => ?_
        refine ob_lald F dX7_readNumber_68 h fun v15 h => ?_
        refine ob_l2i F dX7_readNumber_69 ?_
        refine ob_putI F dX7_readNumber_70 fp_X7_32 h fun g16 h => ?_
        refine ob_rload_n F 0 dX7_readNumber_73 rfl ?_
        refine ob_rload_n F 0 dX7_readNumber_74 rfl ?_
        refine ob_getR F dX7_readNumber_75 fl_X7_43 h fun v17 h => ?_
        refine ob_getR F dX7_readNumber_78 fl_X7_72 h fun v18 h => ?_
        refine ob_rload_n F 0 dX7_readNumber_81 rfl ?_
        refine ob_getI F dX7_readNumber_82 fl_X7_29 h fun v19 h => ?_
        refine ob_iald F dX7_readNumber_85 h fun v20 h => ?_
        refine ob_putI F dX7_readNumber_86 fp_X7_35 h fun g21 h => ?_
        refine ob_rload_n F 0 dX7_readNumber_89 rfl ?_
        refine ob_cVvS F dX7_readNumber_90 im_X7_pass tw3_75 h (fun b hb => t_X7_pass hb) rfl rfl (Nat.le_of_ble_eq_true rfl) (by decide) fun g22 h => ?_
        refine ob_iconst F (v := 1) dX7_readNumber_93 (by decide) ?_
        obtain rfl := Option.some.inj h
        exact ob_zret F dX7_readNumber_94 (Or.inr rfl) k
      · exact ob_sub [0] rfl (b_X7_readNumber_50 F h k)
  · refine ob_rload_n F 0 dX7_readNumber_8 rfl ?_
    refine ob_iconst F (v := 1) dX7_readNumber_9 (by decide) ?_
    refine ob_cViS F dX7_readNumber_10 im_X7_fails tw3_83 h (fun b hb => t_X7_fails hb) rfl rfl (Nat.le_of_ble_eq_true rfl) (by decide) fun v23 h => ?_
    refine ob_zrow h fun hz h => ?_
    obtain rfl := Option.some.inj h
    exact ob_zret F dX7_readNumber_13 hz k
theorem t_X7_readNumber {cf : ob_Cf} {g : ob_St} {n0 : Nat} {x1 : Int32} {x2 : Int32} {r : (Int32 × ob_St)} (h : f_X7_readNumber g n0 x1 x2 = some r) : ob_Mt cf yX7_readNumber cX7_readNumber 3 (some .boolean) 2 43 [ob_rw cf n0, .int x1, .int x2] g (some (.int r.1)) r.2 := by
  refine ob_enter (by decide) (Nat.le_of_ble_eq_true rfl) (Or.inr rfl) ?_
  intro C hC F k
  subst hC
  exact b_X7_readNumber_0 F h k
-- X7_readStock
def f_X7_readStock (g : ob_St) (n0 : Nat) : Option (Int32 × ob_St) :=
  (ob_ck 7 n0 (f_X7_pass g n0)).bind fun g1 => (ob_ck 7 n0 (f_X7_readNumber g1 n0 0 999)).bind fun v2 => (if v2.1 = 0 then (some (0, v2.2)) else ((ob_gR 7 n0 0).bind fun v3 => (ob_gI v2.2 7 n0 6).bind fun v4 => (ob_pI v2.2 5 v3 3 v4).bind fun g5 => (ob_ck 7 n0 (f_X7_readNumber g5 n0 2 9)).bind fun v6 => (if v6.1 = 0 then (some (0, v6.2)) else ((ob_gR 7 n0 0).bind fun v7 => (ob_gI v6.2 7 n0 6).bind fun v8 => (ob_pI v6.2 5 v7 4 v8).bind fun g9 => some (1, g9)))))
theorem b_X7_readStock_0 {C : ob_Cx} (F : ob_Fx C cX7_readStock 1 RX7 (some .boolean) 3 65) {g : ob_St} {n0 : Nat} {r : (Int32 × ob_St)} (h : f_X7_readStock g n0 = some r) (k : ob_Rt C (some (.int r.1)) r.2) : ob_Ev C 0 [(0, ob_rv C n0)] [] g := by
  unfold f_X7_readStock at h
  refine ob_rload_n F 0 dX7_readStock_0 rfl ?_
  refine ob_cVvS F dX7_readStock_1 im_X7_pass tw3_75 h (fun b hb => t_X7_pass hb) rfl rfl (Nat.le_of_ble_eq_true rfl) (by decide) fun g1 h => ?_
  refine ob_rload_n F 0 dX7_readStock_4 rfl ?_
  refine ob_iconst F (v := 0) dX7_readStock_5 (by decide) ?_
  refine ob_sipush F (v := 999) dX7_readStock_6 (by decide) ?_
  refine ob_cViS F dX7_readStock_9 im_X7_readNumber tw3_79 h (fun b hb => t_X7_readNumber hb) rfl rfl (Nat.le_of_ble_eq_true rfl) (by decide) fun v2 h => ?_
  refine ob_if_ne F 17 dX7_readStock_12 (by decide) h (fun h => ?_) (fun h => ?_)
  · refine ob_rload_n F 0 dX7_readStock_17 rfl ?_
    refine ob_getR F dX7_readStock_18 fl_X7_12 h fun v3 h => ?_
    refine ob_rload_n F 0 dX7_readStock_21 rfl ?_
    refine ob_getI F dX7_readStock_22 fl_X7_32 h fun v4 h => ?_
    refine ob_putI F dX7_readStock_25 fp_X7_101 h fun g5 h => ?_
    refine ob_rload_n F 0 dX7_readStock_28 rfl ?_
    refine ob_iconst F (v := 2) dX7_readStock_29 (by decide) ?_
    refine ob_bipush F (v := 9) dX7_readStock_30 (by decide) ?_
    refine ob_cViS F dX7_readStock_32 im_X7_readNumber tw3_79 h (fun b hb => t_X7_readNumber hb) rfl rfl (Nat.le_of_ble_eq_true rfl) (by decide) fun v6 h => ?_
    refine ob_if_ne F 40 dX7_readStock_35 (by decide) h (fun h => ?_) (fun h => ?_)
    · refine ob_rload_n F 0 dX7_readStock_40 rfl ?_
      refine ob_getR F dX7_readStock_41 fl_X7_12 h fun v7 h => ?_
      refine ob_rload_n F 0 dX7_readStock_44 rfl ?_
      refine ob_getI F dX7_readStock_45 fl_X7_32 h fun v8 h => ?_
      refine ob_putI F dX7_readStock_48 fp_X7_104 h fun g9 h => ?_
      refine ob_iconst F (v := 1) dX7_readStock_51 (by decide) ?_
      obtain rfl := Option.some.inj h
      exact ob_zret F dX7_readStock_52 (Or.inr rfl) k
    · refine ob_iconst F (v := 0) dX7_readStock_38 (by decide) ?_
      obtain rfl := Option.some.inj h
      exact ob_zret F dX7_readStock_39 (Or.inl rfl) k
  · refine ob_iconst F (v := 0) dX7_readStock_15 (by decide) ?_
    obtain rfl := Option.some.inj h
    exact ob_zret F dX7_readStock_16 (Or.inl rfl) k
theorem t_X7_readStock {cf : ob_Cf} {g : ob_St} {n0 : Nat} {r : (Int32 × ob_St)} (h : f_X7_readStock g n0 = some r) : ob_Mt cf yX7_readStock cX7_readStock 1 (some .boolean) 3 65 [ob_rw cf n0] g (some (.int r.1)) r.2 := by
  refine ob_enter (by decide) (Nat.le_of_ble_eq_true rfl) (Or.inr rfl) ?_
  intro C hC F k
  subst hC
  exact b_X7_readStock_0 F h k
-- X5_lowest
def Lb_X5_lowest_7 (rec : Int32 → Int32 → Option (Int32)) (g : ob_St) (n0 : Nat) (x1 : Int32) (x2 : Int32) : Option (Int32) :=
  (ob_gI g 5 n0 5).bind fun v2 => (if v2 < x2 then (some x1) else ((ob_gR 5 n0 0).bind fun v3 => (ob_rI g 14 v3 x2).bind fun v4 => rec (x1 - v4) (x2 + 1)))
def L_X5_lowest_7 (g : ob_St) (n0 : Nat) : Nat → Int32 → Int32 → Option (Int32)
  | 0, _, _ => none
  | n + 1, x1, x2 => Lb_X5_lowest_7 (L_X5_lowest_7 g n0 n) g n0 x1 x2
theorem lb_X5_lowest_7 {C : ob_Cx} {rec : Int32 → Int32 → Option (Int32)} (F : ob_Fx C cX5_lowest 3 RX5 (some .int) 0 0) {g : ob_St} {n0 : Nat} {x1 : Int32} {x2 : Int32} {x : (Int32)} (hr : ∀ {x1 : Int32} {x2 : Int32} {x : (Int32)}, rec x1 x2 = some x → ob_Ev C 30 [(1, .int x)] [] g → ob_Ev C 7 [(0, ob_rv C n0), (1, .int x1), (2, .int x2)] [] g) (h : Lb_X5_lowest_7 rec g n0 x1 x2 = some x) (k0 : ob_Ev C 30 [(1, .int x)] [] g) : ob_Ev C 7 [(0, ob_rv C n0), (1, .int x1), (2, .int x2)] [] g := by
  unfold Lb_X5_lowest_7 at h
  refine ob_iload_n F 2 dX5_lowest_7 rfl ?_
  refine ob_rload_n F 0 dX5_lowest_8 rfl ?_
  refine ob_getI F dX5_lowest_9 fl_X5_31 h fun v2 h => ?_
  refine ob_icmp_gt F 30 dX5_lowest_12 (by decide) h (fun h => ?_) (fun h => ?_)
  · obtain rfl := Option.some.inj h
    exact ob_sub [1] rfl (k0)
  · refine ob_iload_n F 1 dX5_lowest_15 rfl ?_
    refine ob_rload_n F 0 dX5_lowest_16 rfl ?_
    refine ob_getR F dX5_lowest_17 fl_X5_9 h fun v3 h => ?_
    refine ob_iload_n F 2 dX5_lowest_20 rfl ?_
    refine ob_iald F dX5_lowest_21 h fun v4 h => ?_
    refine ob_isub F dX5_lowest_22 ?_
    refine ob_istore_n F (ls2 := [(1, .int (x1 - v4)), (0, ob_rv C n0), (2, .int x2)]) dX5_lowest_23 (by decide) rfl ?_
    refine ob_iinc F (v := (x2 + 1)) (ls2 := [(2, .int (x2 + 1)), (1, .int (x1 - v4)), (0, ob_rv C n0)]) 2 dX5_lowest_24 rfl rfl (by decide) rfl ?_
    refine ob_goto F 7 dX5_lowest_27 (by decide) ?_
    exact ob_sub [2, 1, 0] rfl (hr h k0)
theorem l_X5_lowest_7 {C : ob_Cx} (F : ob_Fx C cX5_lowest 3 RX5 (some .int) 0 0) {g : ob_St} {n0 : Nat} : ∀ (n : Nat) {x1 : Int32} {x2 : Int32} {x : (Int32)}, L_X5_lowest_7 g n0 n x1 x2 = some x → ob_Ev C 30 [(1, .int x)] [] g → ob_Ev C 7 [(0, ob_rv C n0), (1, .int x1), (2, .int x2)] [] g := by
  intro n
  induction n with
  | zero => intro x1 x2 x h; exact ob_no h
  | succ n ih => intro x1 x2 x h k0; exact lb_X5_lowest_7 F ih h k0
def f_X5_lowest (g : ob_St) (n0 : Nat) : Option Int32 :=
  (ob_gI g 5 n0 3).bind fun v1 => (L_X5_lowest_7 g n0 ob_FU v1 1).bind fun x_5 => some x_5
theorem b_X5_lowest_0 {C : ob_Cx} (F : ob_Fx C cX5_lowest 3 RX5 (some .int) 0 0) {g : ob_St} {n0 : Nat} {r : Int32} (h : f_X5_lowest g n0 = some r) (k : ob_Rt C (some (.int r)) g) : ob_Ev C 0 [(0, ob_rv C n0)] [] g := by
  unfold f_X5_lowest at h
  refine ob_rload_n F 0 dX5_lowest_0 rfl ?_
  refine ob_getI F dX5_lowest_1 fl_X5_24 h fun v1 h => ?_
  refine ob_istore_n F (ls2 := [(1, .int v1), (0, ob_rv C n0)]) dX5_lowest_4 (by decide) rfl ?_
  refine ob_iconst F (v := 1) dX5_lowest_5 (by decide) ?_
  refine ob_istore_n F (ls2 := [(2, .int 1), (1, .int v1), (0, ob_rv C n0)]) dX5_lowest_6 (by decide) rfl ?_
  obtain ⟨x_5, hx, h⟩ := Option.bind_eq_some_iff.mp h
  refine ob_sub [2, 1, 0] rfl (l_X5_lowest_7 F ob_FU hx ?_)
  refine ob_iload_n F 0 dX5_lowest_30 rfl ?_
  obtain rfl := Option.some.inj h
  exact ob_iret F dX5_lowest_31 k
theorem t_X5_lowest {cf : ob_Cf} {g : ob_St} {n0 : Nat} {r : Int32} (h : f_X5_lowest g n0 = some r) : ob_Mt cf yX5_lowest cX5_lowest 3 (some .int) 0 0 [ob_rw cf n0] g (some (.int r)) g := by
  refine ob_enter (by decide) (Nat.le_of_ble_eq_true rfl) (Or.inl rfl) ?_
  intro C hC F k
  subst hC
  exact b_X5_lowest_0 F h k
-- X5_addSteps
def Lb_X5_addSteps_2 (rec : ob_St → Int32 → Option (ob_St)) (g : ob_St) (n0 : Nat) (x1 : Int32) (x2 : Int32) (x3 : Int32) : Option (ob_St) :=
  (if x2 ≤ x3 then (some g) else ((ob_gI g 5 n0 5).bind fun v1 => (if 12 ≤ v1 then (some g) else ((ob_gI g 5 n0 5).bind fun v2 => (ob_pI g 5 n0 5 (v2 + 1)).bind fun g3 => (ob_gR 5 n0 0).bind fun v4 => (ob_gI g3 5 n0 5).bind fun v5 => (ob_wI g3 v4 v5 x1).bind fun g6 => rec g6 (x3 + 1)))))
def L_X5_addSteps_2 (n0 : Nat) (x1 : Int32) (x2 : Int32) : Nat → ob_St → Int32 → Option (ob_St)
  | 0, _, _ => none
  | n + 1, g, x3 => Lb_X5_addSteps_2 (L_X5_addSteps_2 n0 x1 x2 n) g n0 x1 x2 x3
theorem lb_X5_addSteps_2 {C : ob_Cx} {rec : ob_St → Int32 → Option (ob_St)} (F : ob_Fx C cX5_addSteps 4 RX5 none 0 0) {g : ob_St} {n0 : Nat} {x1 : Int32} {x2 : Int32} {x3 : Int32} {x : (ob_St)} (hr : ∀ {g : ob_St} {x3 : Int32} {x : (ob_St)}, rec g x3 = some x → ob_Ev C 42 [] [] x → ob_Ev C 2 [(0, ob_rv C n0), (1, .int x1), (2, .int x2), (3, .int x3)] [] g) (h : Lb_X5_addSteps_2 rec g n0 x1 x2 x3 = some x) (k0 : ob_Ev C 42 [] [] x) : ob_Ev C 2 [(0, ob_rv C n0), (1, .int x1), (2, .int x2), (3, .int x3)] [] g := by
  unfold Lb_X5_addSteps_2 at h
  refine ob_iload_n F 3 dX5_addSteps_2 rfl ?_
  refine ob_iload_n F 2 dX5_addSteps_3 rfl ?_
  refine ob_icmp_ge F 42 dX5_addSteps_4 (by decide) h (fun h => ?_) (fun h => ?_)
  · obtain rfl := Option.some.inj h
    exact ob_sub [] rfl (k0)
  · refine ob_rload_n F 0 dX5_addSteps_7 rfl ?_
    refine ob_getI F dX5_addSteps_8 fl_X5_31 h fun v1 h => ?_
    refine ob_bipush F (v := 12) dX5_addSteps_11 (by decide) ?_
    refine ob_icmp_ge F 42 dX5_addSteps_13 (by decide) h (fun h => ?_) (fun h => ?_)
    · obtain rfl := Option.some.inj h
      exact ob_sub [] rfl (k0)
    · refine ob_rload_n F 0 dX5_addSteps_16 rfl ?_
      refine ob_dup F dX5_addSteps_17 rfl ?_
      refine ob_getI F dX5_addSteps_18 fl_X5_31 h fun v2 h => ?_
      refine ob_iconst F (v := 1) dX5_addSteps_21 (by decide) ?_
      refine ob_iadd F dX5_addSteps_22 ?_
      refine ob_putI F dX5_addSteps_23 fp_X5_31 h fun g3 h => ?_
      refine ob_rload_n F 0 dX5_addSteps_26 rfl ?_
      refine ob_getR F dX5_addSteps_27 fl_X5_9 h fun v4 h => ?_
      refine ob_rload_n F 0 dX5_addSteps_30 rfl ?_
      refine ob_getI F dX5_addSteps_31 fl_X5_31 h fun v5 h => ?_
      refine ob_iload_n F 1 dX5_addSteps_34 rfl ?_
      refine ob_iast F dX5_addSteps_35 h fun g6 h => ?_
      refine ob_iinc F (v := (x3 + 1)) (ls2 := [(3, .int (x3 + 1)), (0, ob_rv C n0), (1, .int x1), (2, .int x2)]) 3 dX5_addSteps_36 rfl rfl (by decide) rfl ?_
      refine ob_goto F 2 dX5_addSteps_39 (by decide) ?_
      exact ob_sub [1, 2, 3, 0] rfl (hr h k0)
theorem l_X5_addSteps_2 {C : ob_Cx} (F : ob_Fx C cX5_addSteps 4 RX5 none 0 0) {n0 : Nat} {x1 : Int32} {x2 : Int32} : ∀ (n : Nat) {g : ob_St} {x3 : Int32} {x : (ob_St)}, L_X5_addSteps_2 n0 x1 x2 n g x3 = some x → ob_Ev C 42 [] [] x → ob_Ev C 2 [(0, ob_rv C n0), (1, .int x1), (2, .int x2), (3, .int x3)] [] g := by
  intro n
  induction n with
  | zero => intro g x3 x h; exact ob_no h
  | succ n ih => intro g x3 x h k0; exact lb_X5_addSteps_2 F ih h k0
def f_X5_addSteps (g : ob_St) (n0 : Nat) (x1 : Int32) (x2 : Int32) : Option ob_St :=
  (L_X5_addSteps_2 n0 x1 x2 ob_FU g 0).bind fun x_7 => some x_7
theorem b_X5_addSteps_0 {C : ob_Cx} (F : ob_Fx C cX5_addSteps 4 RX5 none 0 0) {g : ob_St} {n0 : Nat} {x1 : Int32} {x2 : Int32} {r : ob_St} (h : f_X5_addSteps g n0 x1 x2 = some r) (k : ob_Rt C none r) : ob_Ev C 0 [(0, ob_rv C n0), (1, .int x1), (2, .int x2)] [] g := by
  unfold f_X5_addSteps at h
  refine ob_iconst F (v := 0) dX5_addSteps_0 (by decide) ?_
  refine ob_istore_n F (ls2 := [(3, .int 0), (0, ob_rv C n0), (1, .int x1), (2, .int x2)]) dX5_addSteps_1 (by decide) rfl ?_
  obtain ⟨x_7, hx, h⟩ := Option.bind_eq_some_iff.mp h
  refine ob_sub [1, 2, 3, 0] rfl (l_X5_addSteps_2 F ob_FU hx ?_)
  obtain rfl := Option.some.inj h
  exact ob_vret F dX5_addSteps_42 k
theorem t_X5_addSteps {cf : ob_Cf} {g : ob_St} {n0 : Nat} {x1 : Int32} {x2 : Int32} {r : ob_St} (h : f_X5_addSteps g n0 x1 x2 = some r) : ob_Mt cf yX5_addSteps cX5_addSteps 4 none 0 0 [ob_rw cf n0, .int x1, .int x2] g none r := by
  refine ob_enter (by decide) (Nat.le_of_ble_eq_true rfl) rfl ?_
  intro C hC F k
  subst hC
  exact b_X5_addSteps_0 F h k
-- X7_readStep
def B_X7_readStep_86 (g : ob_St) (n0 : Nat) (x1 : Int32) (x2 : Int32) : Option (Int32 × ob_St) :=
  (ob_gR 7 n0 0).bind fun v9 => (ob_ck 5 v9 (f_X5_lowest g v9)).bind fun v10 => (if 0 ≤ (v10 - (x1 * x2)) then ((ob_gR 7 n0 0).bind fun v11 => (ob_ck 5 v11 (f_X5_addSteps g v11 x1 x2)).bind fun g12 => some (1, g12)) else ((ob_gI g 7 n0 7).bind fun v13 => (ob_ck 7 n0 (f_X7_failsAt g n0 2 v13)).bind fun v14 => (ob_zr v14.1).bind fun z15 => some (z15, v14.2)))
theorem b_X7_readStep_86 {C : ob_Cx} (F : ob_Fx C cX7_readStep 3 RX7 (some .boolean) 3 65) {g : ob_St} {n0 : Nat} {x1 : Int32} {x2 : Int32} {r : (Int32 × ob_St)} (h : B_X7_readStep_86 g n0 x1 x2 = some r) (k : ob_Rt C (some (.int r.1)) r.2) : ob_Ev C 86 [(0, ob_rv C n0), (1, .int x1), (2, .int x2)] [] g := by
  unfold B_X7_readStep_86 at h
  refine ob_rload_n F 0 dX7_readStep_86 rfl ?_
  refine ob_getR F dX7_readStep_87 fl_X7_12 h fun v9 h => ?_
  refine ob_cVi F dX7_readStep_90 im_X5_lowest tw3_91 h (fun b hb => t_X5_lowest hb) rfl rfl (Nat.le_of_ble_eq_true rfl) (by decide) fun v10 h => ?_
  refine ob_iload_n F 1 dX7_readStep_93 rfl ?_
  refine ob_iload_n F 2 dX7_readStep_94 rfl ?_
  refine ob_imul F dX7_readStep_95 ?_
  refine ob_isub F dX7_readStep_96 ?_
  refine ob_if_ge F 110 dX7_readStep_97 (by decide) h (fun h => ?_) (fun h => ?_)
  · refine ob_rload_n F 0 dX7_readStep_110 rfl ?_
    refine ob_getR F dX7_readStep_111 fl_X7_12 h fun v11 h => ?_
    refine ob_iload_n F 1 dX7_readStep_114 rfl ?_
    refine ob_iload_n F 2 dX7_readStep_115 rfl ?_
    refine ob_cVvS F dX7_readStep_116 im_X5_addSteps tw3_95 h (fun b hb => t_X5_addSteps hb) rfl rfl (Nat.le_of_ble_eq_true rfl) (by decide) fun g12 h => ?_
    refine ob_iconst F (v := 1) dX7_readStep_119 (by decide) ?_
    obtain rfl := Option.some.inj h
    exact ob_zret F dX7_readStep_120 (Or.inr rfl) k
  · refine ob_rload_n F 0 dX7_readStep_100 rfl ?_
    refine ob_iconst F (v := 2) dX7_readStep_101 (by decide) ?_
    refine ob_rload_n F 0 dX7_readStep_102 rfl ?_
    refine ob_getI F dX7_readStep_103 fl_X7_35 h fun v13 h => ?_
    refine ob_cViS F dX7_readStep_106 im_X7_failsAt tw3_28 h (fun b hb => t_X7_failsAt hb) rfl rfl (Nat.le_of_ble_eq_true rfl) (by decide) fun v14 h => ?_
    refine ob_zrow h fun hz h => ?_
    obtain rfl := Option.some.inj h
    exact ob_zret F dX7_readStep_109 hz k
def f_X7_readStep (g : ob_St) (n0 : Nat) : Option (Int32 × ob_St) :=
  (ob_gR 7 n0 0).bind fun v1 => (ob_gI g 5 v1 5).bind fun v2 => (if v2 < 12 then ((ob_ck 7 n0 (f_X7_pass g n0)).bind fun g3 => (ob_gR 7 n0 0).bind fun v4 => (ob_gI g3 5 v4 4).bind fun v5 => (ob_ck 7 n0 (f_X7_readNumber g3 n0 1 (v5 - 1))).bind fun v6 => (if v6.1 = 0 then (some (0, v6.2)) else ((ob_gI v6.2 7 n0 6).bind fun v7 => (ob_ck 7 n0 (f_X7_isKeyword v6.2 n0 10)).bind fun v8 => (if v8 = 0 then (B_X7_readStep_86 v6.2 n0 v7 1) else ((ob_ck 7 n0 (f_X7_pass v6.2 n0)).bind fun g16 => (ob_gR 7 n0 0).bind fun v17 => (ob_gI g16 5 v17 5).bind fun v18 => (ob_ck 7 n0 (f_X7_readNumber g16 n0 1 (12 - v18))).bind fun v19 => (if v19.1 = 0 then (some (0, v19.2)) else ((ob_gI v19.2 7 n0 6).bind fun v20 => B_X7_readStep_86 v19.2 n0 v7 v20))))))) else ((ob_ck 7 n0 (f_X7_fails g n0 4)).bind fun v21 => (ob_zr v21.1).bind fun z22 => some (z22, v21.2)))
theorem b_X7_readStep_0 {C : ob_Cx} (F : ob_Fx C cX7_readStep 3 RX7 (some .boolean) 3 65) {g : ob_St} {n0 : Nat} {r : (Int32 × ob_St)} (h : f_X7_readStep g n0 = some r) (k : ob_Rt C (some (.int r.1)) r.2) : ob_Ev C 0 [(0, ob_rv C n0)] [] g := by
  unfold f_X7_readStep at h
  refine ob_rload_n F 0 dX7_readStep_0 rfl ?_
  refine ob_getR F dX7_readStep_1 fl_X7_12 h fun v1 h => ?_
  refine ob_getI F dX7_readStep_4 fl_X7_107 h fun v2 h => ?_
  refine ob_bipush F (v := 12) dX7_readStep_7 (by decide) ?_
  refine ob_icmp_lt F 18 dX7_readStep_9 (by decide) h (fun h => ?_) (fun h => ?_)
  · refine ob_rload_n F 0 dX7_readStep_18 rfl ?_
    refine ob_cVvS F dX7_readStep_19 im_X7_pass tw3_75 h (fun b hb => t_X7_pass hb) rfl rfl (Nat.le_of_ble_eq_true rfl) (by decide) fun g3 h => ?_
    refine ob_rload_n F 0 dX7_readStep_22 rfl ?_
    refine ob_iconst F (v := 1) dX7_readStep_23 (by decide) ?_
    refine ob_rload_n F 0 dX7_readStep_24 rfl ?_
    refine ob_getR F dX7_readStep_25 fl_X7_12 h fun v4 h => ?_
    refine ob_getI F dX7_readStep_28 fl_X7_104 h fun v5 h => ?_
    refine ob_iconst F (v := 1) dX7_readStep_31 (by decide) ?_
    refine ob_isub F dX7_readStep_32 ?_
    refine ob_cViS F dX7_readStep_33 im_X7_readNumber tw3_79 h (fun b hb => t_X7_readNumber hb) rfl rfl (Nat.le_of_ble_eq_true rfl) (by decide) fun v6 h => ?_
    refine ob_if_ne F 41 dX7_readStep_36 (by decide) h (fun h => ?_) (fun h => ?_)
    · refine ob_rload_n F 0 dX7_readStep_41 rfl ?_
      refine ob_getI F dX7_readStep_42 fl_X7_32 h fun v7 h => ?_
      refine ob_istore_n F (ls2 := [(1, .int v7), (0, ob_rv C n0)]) dX7_readStep_45 (by decide) rfl ?_
      refine ob_iconst F (v := 1) dX7_readStep_46 (by decide) ?_
      refine ob_istore_n F (ls2 := [(2, .int 1), (1, .int v7), (0, ob_rv C n0)]) dX7_readStep_47 (by decide) rfl ?_
      refine ob_rload_n F 2 dX7_readStep_48 rfl ?_
      refine ob_bipush F (v := 10) dX7_readStep_49 (by decide) ?_
      refine ob_cVi F dX7_readStep_51 im_X7_isKeyword tw3_67 h (fun b hb => t_X7_isKeyword hb) rfl rfl (Nat.le_of_ble_eq_true rfl) (by decide) fun v8 h => ?_
      refine ob_if_eq F 86 dX7_readStep_54 (by decide) h (fun h => ?_) (fun h => ?_)
      · exact ob_sub [2, 1, 0] rfl (b_X7_readStep_86 F h k)
      · refine ob_rload_n F 2 dX7_readStep_57 rfl ?_
        refine ob_cVvS F dX7_readStep_58 im_X7_pass tw3_75 h (fun b hb => t_X7_pass hb) rfl rfl (Nat.le_of_ble_eq_true rfl) (by decide) fun g16 h => ?_
        refine ob_rload_n F 2 dX7_readStep_61 rfl ?_
        refine ob_iconst F (v := 1) dX7_readStep_62 (by decide) ?_
        refine ob_bipush F (v := 12) dX7_readStep_63 (by decide) ?_
        refine ob_rload_n F 2 dX7_readStep_65 rfl ?_
        refine ob_getR F dX7_readStep_66 fl_X7_12 h fun v17 h => ?_
        refine ob_getI F dX7_readStep_69 fl_X7_107 h fun v18 h => ?_
        refine ob_isub F dX7_readStep_72 ?_
        refine ob_cViS F dX7_readStep_73 im_X7_readNumber tw3_79 h (fun b hb => t_X7_readNumber hb) rfl rfl (Nat.le_of_ble_eq_true rfl) (by decide) fun v19 h => ?_
        refine ob_if_ne F 81 dX7_readStep_76 (by decide) h (fun h => ?_) (fun h => ?_)
        · refine ob_rload_n F 2 dX7_readStep_81 rfl ?_
          refine ob_getI F dX7_readStep_82 fl_X7_32 h fun v20 h => ?_
          refine ob_istore_n F (ls2 := [(2, .int v20), (1, .int v7), (0, ob_rv C n0)]) dX7_readStep_85 (by decide) rfl ?_
          exact ob_sub [2, 1, 0] rfl (b_X7_readStep_86 F h k)
        · refine ob_iconst F (v := 0) dX7_readStep_79 (by decide) ?_
          obtain rfl := Option.some.inj h
          exact ob_zret F dX7_readStep_80 (Or.inl rfl) k
    · refine ob_iconst F (v := 0) dX7_readStep_39 (by decide) ?_
      obtain rfl := Option.some.inj h
      exact ob_zret F dX7_readStep_40 (Or.inl rfl) k
  · refine ob_rload_n F 0 dX7_readStep_12 rfl ?_
    refine ob_iconst F (v := 4) dX7_readStep_13 (by decide) ?_
    refine ob_cViS F dX7_readStep_14 im_X7_fails tw3_83 h (fun b hb => t_X7_fails hb) rfl rfl (Nat.le_of_ble_eq_true rfl) (by decide) fun v21 h => ?_
    refine ob_zrow h fun hz h => ?_
    obtain rfl := Option.some.inj h
    exact ob_zret F dX7_readStep_17 hz k
theorem t_X7_readStep {cf : ob_Cf} {g : ob_St} {n0 : Nat} {r : (Int32 × ob_St)} (h : f_X7_readStep g n0 = some r) : ob_Mt cf yX7_readStep cX7_readStep 3 (some .boolean) 3 65 [ob_rw cf n0] g (some (.int r.1)) r.2 := by
  refine ob_enter (by decide) (Nat.le_of_ble_eq_true rfl) (Or.inr rfl) ?_
  intro C hC F k
  subst hC
  exact b_X7_readStep_0 F h k
-- X7_readCash
def f_X7_readCash (g : ob_St) (n0 : Nat) : Option (Int32 × ob_St) :=
  (ob_gR 7 n0 0).bind fun v1 => (ob_gR 5 v1 1).bind fun v2 => (ob_gR 7 n0 0).bind fun v3 => (ob_gI g 5 v3 5).bind fun v4 => (ob_rI g 14 v2 v4).bind fun v5 => (if v5 = 0 then ((ob_ck 7 n0 (f_X7_pass g n0)).bind fun g6 => (ob_ck 7 n0 (f_X7_readNumber g6 n0 1 99)).bind fun v7 => (if v7.1 = 0 then (some (0, v7.2)) else ((ob_gR 7 n0 0).bind fun v8 => (ob_gR 5 v8 1).bind fun v9 => (ob_gR 7 n0 0).bind fun v10 => (ob_gI v7.2 5 v10 5).bind fun v11 => (ob_gI v7.2 7 n0 6).bind fun v12 => (ob_wI v7.2 v9 v11 v12).bind fun g13 => some (1, g13)))) else ((ob_ck 7 n0 (f_X7_fails g n0 3)).bind fun v14 => (ob_zr v14.1).bind fun z15 => some (z15, v14.2)))
theorem b_X7_readCash_0 {C : ob_Cx} (F : ob_Fx C cX7_readCash 1 RX7 (some .boolean) 3 65) {g : ob_St} {n0 : Nat} {r : (Int32 × ob_St)} (h : f_X7_readCash g n0 = some r) (k : ob_Rt C (some (.int r.1)) r.2) : ob_Ev C 0 [(0, ob_rv C n0)] [] g := by
  unfold f_X7_readCash at h
  refine ob_rload_n F 0 dX7_readCash_0 rfl ?_
  refine ob_getR F dX7_readCash_1 fl_X7_12 h fun v1 h => ?_
  refine ob_getR F dX7_readCash_4 fl_X7_118 h fun v2 h => ?_
  refine ob_rload_n F 0 dX7_readCash_7 rfl ?_
  refine ob_getR F dX7_readCash_8 fl_X7_12 h fun v3 h => ?_
  refine ob_getI F dX7_readCash_11 fl_X7_107 h fun v4 h => ?_
  refine ob_iald F dX7_readCash_14 h fun v5 h => ?_
  refine ob_if_eq F 24 dX7_readCash_15 (by decide) h (fun h => ?_) (fun h => ?_)
  · refine ob_rload_n F 0 dX7_readCash_24 rfl ?_
    refine ob_cVvS F dX7_readCash_25 im_X7_pass tw3_75 h (fun b hb => t_X7_pass hb) rfl rfl (Nat.le_of_ble_eq_true rfl) (by decide) fun g6 h => ?_
    refine ob_rload_n F 0 dX7_readCash_28 rfl ?_
    refine ob_iconst F (v := 1) dX7_readCash_29 (by decide) ?_
    refine ob_bipush F (v := 99) dX7_readCash_30 (by decide) ?_
    refine ob_cViS F dX7_readCash_32 im_X7_readNumber tw3_79 h (fun b hb => t_X7_readNumber hb) rfl rfl (Nat.le_of_ble_eq_true rfl) (by decide) fun v7 h => ?_
    refine ob_if_ne F 40 dX7_readCash_35 (by decide) h (fun h => ?_) (fun h => ?_)
    · refine ob_rload_n F 0 dX7_readCash_40 rfl ?_
      refine ob_getR F dX7_readCash_41 fl_X7_12 h fun v8 h => ?_
      refine ob_getR F dX7_readCash_44 fl_X7_118 h fun v9 h => ?_
      refine ob_rload_n F 0 dX7_readCash_47 rfl ?_
      refine ob_getR F dX7_readCash_48 fl_X7_12 h fun v10 h => ?_
      refine ob_getI F dX7_readCash_51 fl_X7_107 h fun v11 h => ?_
      refine ob_rload_n F 0 dX7_readCash_54 rfl ?_
      refine ob_getI F dX7_readCash_55 fl_X7_32 h fun v12 h => ?_
      refine ob_iast F dX7_readCash_58 h fun g13 h => ?_
      refine ob_iconst F (v := 1) dX7_readCash_59 (by decide) ?_
      obtain rfl := Option.some.inj h
      exact ob_zret F dX7_readCash_60 (Or.inr rfl) k
    · refine ob_iconst F (v := 0) dX7_readCash_38 (by decide) ?_
      obtain rfl := Option.some.inj h
      exact ob_zret F dX7_readCash_39 (Or.inl rfl) k
  · refine ob_rload_n F 0 dX7_readCash_18 rfl ?_
    refine ob_iconst F (v := 3) dX7_readCash_19 (by decide) ?_
    refine ob_cViS F dX7_readCash_20 im_X7_fails tw3_83 h (fun b hb => t_X7_fails hb) rfl rfl (Nat.le_of_ble_eq_true rfl) (by decide) fun v14 h => ?_
    refine ob_zrow h fun hz h => ?_
    obtain rfl := Option.some.inj h
    exact ob_zret F dX7_readCash_23 hz k
theorem t_X7_readCash {cf : ob_Cf} {g : ob_St} {n0 : Nat} {r : (Int32 × ob_St)} (h : f_X7_readCash g n0 = some r) : ob_Mt cf yX7_readCash cX7_readCash 1 (some .boolean) 3 65 [ob_rw cf n0] g (some (.int r.1)) r.2 := by
  refine ob_enter (by decide) (Nat.le_of_ble_eq_true rfl) (Or.inr rfl) ?_
  intro C hC F k
  subst hC
  exact b_X7_readCash_0 F h k
-- X1_clear
def f_X1_clear (g : ob_St) (n0 : Nat) : Option ob_St :=
  (ob_pI g 1 n0 0 0).bind fun g1 => (ob_pI g1 1 n0 1 0).bind fun g2 => (ob_pI g2 1 n0 2 (-1)).bind fun g3 => (ob_pI g3 1 n0 3 13).bind fun g4 => (ob_pI g4 1 n0 4 0).bind fun g5 => (ob_pI g5 1 n0 5 (-1)).bind fun g6 => (ob_pI g6 1 n0 6 (-1)).bind fun g7 => (ob_pI g7 1 n0 7 0).bind fun g8 => (ob_pI g8 1 n0 8 (-1)).bind fun g9 => (ob_pI g9 1 n0 9 0).bind fun g10 => some g10
theorem b_X1_clear_0 {C : ob_Cx} (F : ob_Fx C cX1_clear 1 RX1 none 0 0) {g : ob_St} {n0 : Nat} {r : ob_St} (h : f_X1_clear g n0 = some r) (k : ob_Rt C none r) : ob_Ev C 0 [(0, ob_rv C n0)] [] g := by
  unfold f_X1_clear at h
  refine ob_rload_n F 0 dX1_clear_0 rfl ?_
  refine ob_iconst F (v := 0) dX1_clear_1 (by decide) ?_
  refine ob_putI F dX1_clear_2 fp_X1_9 h fun g1 h => ?_
  refine ob_rload_n F 0 dX1_clear_5 rfl ?_
  refine ob_iconst F (v := 0) dX1_clear_6 (by decide) ?_
  refine ob_putI F dX1_clear_7 fp_X1_15 h fun g2 h => ?_
  refine ob_rload_n F 0 dX1_clear_10 rfl ?_
  refine ob_iconst F (v := (-1)) dX1_clear_11 (by decide) ?_
  refine ob_putI F dX1_clear_12 fp_X1_18 h fun g3 h => ?_
  refine ob_rload_n F 0 dX1_clear_15 rfl ?_
  refine ob_bipush F (v := 13) dX1_clear_16 (by decide) ?_
  refine ob_putI F dX1_clear_18 fp_X1_21 h fun g4 h => ?_
  refine ob_rload_n F 0 dX1_clear_21 rfl ?_
  refine ob_iconst F (v := 0) dX1_clear_22 (by decide) ?_
  refine ob_putI F dX1_clear_23 fp_X1_24 h fun g5 h => ?_
  refine ob_rload_n F 0 dX1_clear_26 rfl ?_
  refine ob_iconst F (v := (-1)) dX1_clear_27 (by decide) ?_
  refine ob_putI F dX1_clear_28 fp_X1_27 h fun g6 h => ?_
  refine ob_rload_n F 0 dX1_clear_31 rfl ?_
  refine ob_iconst F (v := (-1)) dX1_clear_32 (by decide) ?_
  refine ob_putI F dX1_clear_33 fp_X1_30 h fun g7 h => ?_
  refine ob_rload_n F 0 dX1_clear_36 rfl ?_
  refine ob_iconst F (v := 0) dX1_clear_37 (by decide) ?_
  refine ob_putI F dX1_clear_38 fp_X1_33 h fun g8 h => ?_
  refine ob_rload_n F 0 dX1_clear_41 rfl ?_
  refine ob_iconst F (v := (-1)) dX1_clear_42 (by decide) ?_
  refine ob_putI F dX1_clear_43 fp_X1_36 h fun g9 h => ?_
  refine ob_rload_n F 0 dX1_clear_46 rfl ?_
  refine ob_iconst F (v := 0) dX1_clear_47 (by decide) ?_
  refine ob_putI F dX1_clear_48 fp_X1_39 h fun g10 h => ?_
  obtain rfl := Option.some.inj h
  exact ob_vret F dX1_clear_51 k
theorem t_X1_clear {cf : ob_Cf} {g : ob_St} {n0 : Nat} {r : ob_St} (h : f_X1_clear g n0 = some r) : ob_Mt cf yX1_clear cX1_clear 1 none 0 0 [ob_rw cf n0] g none r := by
  refine ob_enter (by decide) (Nat.le_of_ble_eq_true rfl) rfl ?_
  intro C hC F k
  subst hC
  exact b_X1_clear_0 F h k
-- X7_namedOption
def Lb_X7_namedOption_2 (rec : Int32 → Option ((Int32) ⊕ Unit)) (g : ob_St) (n0 : Nat) (x1 : Int32) : Option ((Int32) ⊕ Unit) :=
  (ob_gR 7 n0 0).bind fun v1 => (ob_gI g 5 v1 6).bind fun v2 => (if v2 ≤ x1 then (some (.inr ())) else ((ob_gR 7 n0 4).bind fun v3 => (ob_rL g v3 x1).bind fun v4 => (ob_gR 7 n0 3).bind fun v5 => (ob_gR 10 v5 2).bind fun v6 => (ob_gI g 7 n0 5).bind fun v7 => (ob_rL g v6 v7).bind fun v8 => (if v4 = v8 then (some (.inl x1)) else (rec (x1 + 1)))))
def L_X7_namedOption_2 (g : ob_St) (n0 : Nat) : Nat → Int32 → Option ((Int32) ⊕ Unit)
  | 0, _ => none
  | n + 1, x1 => Lb_X7_namedOption_2 (L_X7_namedOption_2 g n0 n) g n0 x1
theorem lb_X7_namedOption_2 {C : ob_Cx} {rec : Int32 → Option ((Int32) ⊕ Unit)} (F : ob_Fx C cX7_namedOption 2 RX7 (some .int) 0 0) {g : ob_St} {n0 : Nat} {x1 : Int32} {x : ((Int32) ⊕ Unit)} (hr : ∀ {x1 : Int32} {x : ((Int32) ⊕ Unit)}, rec x1 = some x → (∀ y, x = (.inl y) → ob_Ev C 35 [(1, .int y)] [] g) → (∀ y, x = (.inr y) → ob_Ev C 43 [] [] g) → ob_Ev C 2 [(0, ob_rv C n0), (1, .int x1)] [] g) (h : Lb_X7_namedOption_2 rec g n0 x1 = some x) (k0 : (∀ y, x = (.inl y) → ob_Ev C 35 [(1, .int y)] [] g)) (k1 : (∀ y, x = (.inr y) → ob_Ev C 43 [] [] g)) : ob_Ev C 2 [(0, ob_rv C n0), (1, .int x1)] [] g := by
  unfold Lb_X7_namedOption_2 at h
  refine ob_iload_n F 1 dX7_namedOption_2 rfl ?_
  refine ob_rload_n F 0 dX7_namedOption_3 rfl ?_
  refine ob_getR F dX7_namedOption_4 fl_X7_12 h fun v1 h => ?_
  refine ob_getI F dX7_namedOption_7 fl_X7_121 h fun v2 h => ?_
  refine ob_icmp_ge F 43 dX7_namedOption_10 (by decide) h (fun h => ?_) (fun h => ?_)
  · obtain rfl := Option.some.inj h
    exact ob_sub [] rfl (k1 _ rfl)
  · refine ob_rload_n F 0 dX7_namedOption_13 rfl ?_
    refine ob_getR F dX7_namedOption_14 fl_X7_25 h fun v3 h => ?_
    refine ob_iload_n F 1 dX7_namedOption_17 rfl ?_
    refine ob_lald F dX7_namedOption_18 h fun v4 h => ?_
    refine ob_rload_n F 0 dX7_namedOption_19 rfl ?_
    refine ob_getR F dX7_namedOption_20 fl_X7_43 h fun v5 h => ?_
    refine ob_getR F dX7_namedOption_23 fl_X7_79 h fun v6 h => ?_
    refine ob_rload_n F 0 dX7_namedOption_26 rfl ?_
    refine ob_getI F dX7_namedOption_27 fl_X7_29 h fun v7 h => ?_
    refine ob_lald F dX7_namedOption_30 h fun v8 h => ?_
    refine ob_lcmp_ne F 37 dX7_namedOption_31 dX7_namedOption_32 (by decide) h (fun h => ?_) (fun h => ?_)
    · refine ob_iinc F (v := (x1 + 1)) (ls2 := [(1, .int (x1 + 1)), (0, ob_rv C n0)]) 1 dX7_namedOption_37 rfl rfl (by decide) rfl ?_
      refine ob_goto F 2 dX7_namedOption_40 (by decide) ?_
      exact ob_sub [1, 0] rfl (hr h k0 k1)
    · obtain rfl := Option.some.inj h
      exact ob_sub [1] rfl (k0 _ rfl)
theorem l_X7_namedOption_2 {C : ob_Cx} (F : ob_Fx C cX7_namedOption 2 RX7 (some .int) 0 0) {g : ob_St} {n0 : Nat} : ∀ (n : Nat) {x1 : Int32} {x : ((Int32) ⊕ Unit)}, L_X7_namedOption_2 g n0 n x1 = some x → (∀ y, x = (.inl y) → ob_Ev C 35 [(1, .int y)] [] g) → (∀ y, x = (.inr y) → ob_Ev C 43 [] [] g) → ob_Ev C 2 [(0, ob_rv C n0), (1, .int x1)] [] g := by
  intro n
  induction n with
  | zero => intro x1 x h; exact ob_no h
  | succ n ih => intro x1 x h k0 k1; exact lb_X7_namedOption_2 F ih h k0 k1
def f_X7_namedOption (g : ob_St) (n0 : Nat) : Option Int32 :=
  (L_X7_namedOption_2 g n0 ob_FU 0).bind (Sum.elim (fun y_10 => some y_10) (fun y_11 => some (-1)))
theorem b_X7_namedOption_0 {C : ob_Cx} (F : ob_Fx C cX7_namedOption 2 RX7 (some .int) 0 0) {g : ob_St} {n0 : Nat} {r : Int32} (h : f_X7_namedOption g n0 = some r) (k : ob_Rt C (some (.int r)) g) : ob_Ev C 0 [(0, ob_rv C n0)] [] g := by
  unfold f_X7_namedOption at h
  refine ob_iconst F (v := 0) dX7_namedOption_0 (by decide) ?_
  refine ob_istore_n F (ls2 := [(1, .int 0), (0, ob_rv C n0)]) dX7_namedOption_1 (by decide) rfl ?_
  obtain ⟨x_9, hx, h⟩ := Option.bind_eq_some_iff.mp h
  refine ob_sub [1, 0] rfl (l_X7_namedOption_2 F ob_FU hx (fun y e => ?_) (fun y e => ?_))
  · subst e
    replace h := (ob_inl h)
    refine ob_iload_n F 0 dX7_namedOption_35 rfl ?_
    obtain rfl := Option.some.inj h
    exact ob_iret F dX7_namedOption_36 k
  · subst e
    replace h := (ob_inr h)
    refine ob_iconst F (v := (-1)) dX7_namedOption_43 (by decide) ?_
    obtain rfl := Option.some.inj h
    exact ob_iret F dX7_namedOption_44 k
theorem t_X7_namedOption {cf : ob_Cf} {g : ob_St} {n0 : Nat} {r : Int32} (h : f_X7_namedOption g n0 = some r) : ob_Mt cf yX7_namedOption cX7_namedOption 2 (some .int) 0 0 [ob_rw cf n0] g (some (.int r)) g := by
  refine ob_enter (by decide) (Nat.le_of_ble_eq_true rfl) (Or.inl rfl) ?_
  intro C hC F k
  subst hC
  exact b_X7_namedOption_0 F h k
