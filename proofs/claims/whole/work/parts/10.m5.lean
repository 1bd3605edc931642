-- X12_bookAt
def Lb_X12_bookAt_5 (rec : Int64 → Int32 → Option (Int64)) (g : ob_St) (n0 : Nat) (x1 : Int32) (x2 : Int32) (y3 : Int64) (x5 : Int32) : Option (Int64) :=
  (ob_gR 12 n0 1).bind fun v1 => (ob_rI g 14 v1 29).bind fun v2 => (if v2 ≤ x5 then (some y3) else ((ob_ck 12 n0 (f_X12_get g n0 x5 9)).bind fun v3 => (ob_gR 12 n0 20).bind fun v4 => (f_X12_cell x5 x1 x2).bind fun v5 => (ob_rL g v4 v5).bind fun v6 => ob_let (y3 + ((Int32.toInt64 v3) * v6)) fun z7 => rec z7 (x5 + 1)))
def L_X12_bookAt_5 (g : ob_St) (n0 : Nat) (x1 : Int32) (x2 : Int32) : Nat → Int64 → Int32 → Option (Int64)
  | 0, _, _ => none
  | n + 1, y3, x5 => Lb_X12_bookAt_5 (L_X12_bookAt_5 g n0 x1 x2 n) g n0 x1 x2 y3 x5
theorem lb_X12_bookAt_5 {C : ob_Cx} {rec : Int64 → Int32 → Option (Int64)} (F : ob_Fx C cX12_bookAt 6 RX12 (some .long) 1 22) {g : ob_St} {n0 : Nat} {x1 : Int32} {x2 : Int32} {y3 : Int64} {x5 : Int32} {x : (Int64)} (hr : ∀ {y3 : Int64} {x5 : Int32} {x : (Int64)}, rec y3 x5 = some x → ob_Ev C 48 [(3, .long x)] [] g → ob_Ev C 5 [(0, ob_rv C n0), (1, .int x1), (2, .int x2), (3, .long y3), (5, .int x5)] [] g) (h : Lb_X12_bookAt_5 rec g n0 x1 x2 y3 x5 = some x) (k0 : ob_Ev C 48 [(3, .long x)] [] g) : ob_Ev C 5 [(0, ob_rv C n0), (1, .int x1), (2, .int x2), (3, .long y3), (5, .int x5)] [] g := by
  unfold Lb_X12_bookAt_5 at h
  refine ob_iload F 4 dX12_bookAt_5 rfl ?_
  refine ob_rload_n F 0 dX12_bookAt_7 rfl ?_
  refine ob_getR F dX12_bookAt_8 fl_X12_13 h fun v1 h => ?_
  refine ob_bipush F (v := 29) dX12_bookAt_11 (by decide) ?_
  refine ob_iald F dX12_bookAt_13 h fun v2 h => ?_
  refine ob_icmp_ge F 48 dX12_bookAt_14 (by decide) h (fun h => ?_) (fun h => ?_)
  · obtain rfl := Option.some.inj h
    exact ob_sub [3] rfl (k0)
  · refine ob_lload_n F 3 dX12_bookAt_17 rfl ?_
    refine ob_rload_n F 0 dX12_bookAt_18 rfl ?_
    refine ob_iload F 4 dX12_bookAt_19 rfl ?_
    refine ob_bipush F (v := 9) dX12_bookAt_21 (by decide) ?_
    refine ob_cVi F dX12_bookAt_23 im_X12_get tw6_154 h (fun b hb => t_X12_get hb) rfl rfl (Nat.le_of_ble_eq_true rfl) (by decide) fun v3 h => ?_
    refine ob_i2l F dX12_bookAt_26 ?_
    refine ob_rload_n F 0 dX12_bookAt_27 rfl ?_
    refine ob_getR F dX12_bookAt_28 fl_X12_40 h fun v4 h => ?_
    refine ob_iload F 4 dX12_bookAt_31 rfl ?_
    refine ob_iload_n F 1 dX12_bookAt_33 rfl ?_
    refine ob_iload_n F 2 dX12_bookAt_34 rfl ?_
    refine ob_cSi F dX12_bookAt_35 im_X12_cell tw6_209 h (fun b hb => t_X12_cell hb) rfl rfl (Nat.le_of_ble_eq_true rfl) (by decide) fun v5 h => ?_
    refine ob_lald F dX12_bookAt_38 h fun v6 h => ?_
    refine ob_lmul F dX12_bookAt_39 ?_
    refine ob_ladd F dX12_bookAt_40 ?_
    refine ob_letl h fun z7 h => ?_
    refine ob_lstore_n F (ls2 := [(3, .long z7), (0, ob_rv C n0), (1, .int x1), (2, .int x2), (5, .int x5)]) dX12_bookAt_41 (by decide) rfl ?_
    refine ob_iinc F (v := (x5 + 1)) (ls2 := [(5, .int (x5 + 1)), (3, .long z7), (0, ob_rv C n0), (1, .int x1), (2, .int x2)]) 4 dX12_bookAt_42 rfl rfl (by decide) rfl ?_
    refine ob_goto F 5 dX12_bookAt_45 (by decide) ?_
    exact ob_sub [2, 3, 4, 1, 0] rfl (hr h k0)
theorem l_X12_bookAt_5 {C : ob_Cx} (F : ob_Fx C cX12_bookAt 6 RX12 (some .long) 1 22) {g : ob_St} {n0 : Nat} {x1 : Int32} {x2 : Int32} : ∀ (n : Nat) {y3 : Int64} {x5 : Int32} {x : (Int64)}, L_X12_bookAt_5 g n0 x1 x2 n y3 x5 = some x → ob_Ev C 48 [(3, .long x)] [] g → ob_Ev C 5 [(0, ob_rv C n0), (1, .int x1), (2, .int x2), (3, .long y3), (5, .int x5)] [] g := by
  intro n
  induction n with
  | zero => intro y3 x5 x h; exact ob_no h
  | succ n ih => intro y3 x5 x h k0; exact lb_X12_bookAt_5 F ih h k0
def f_X12_bookAt (g : ob_St) (n0 : Nat) (x1 : Int32) (x2 : Int32) : Option Int64 :=
  (L_X12_bookAt_5 g n0 x1 x2 ob_FU 0 0).bind fun x_8 => some x_8
theorem b_X12_bookAt_0 {C : ob_Cx} (F : ob_Fx C cX12_bookAt 6 RX12 (some .long) 1 22) {g : ob_St} {n0 : Nat} {x1 : Int32} {x2 : Int32} {r : Int64} (h : f_X12_bookAt g n0 x1 x2 = some r) (k : ob_Rt C (some (.long r)) g) : ob_Ev C 0 [(0, ob_rv C n0), (1, .int x1), (2, .int x2)] [] g := by
  unfold f_X12_bookAt at h
  refine ob_lconst F (v := 0) dX12_bookAt_0 (by decide) ?_
  refine ob_lstore_n F (ls2 := [(3, .long 0), (0, ob_rv C n0), (1, .int x1), (2, .int x2)]) dX12_bookAt_1 (by decide) rfl ?_
  refine ob_iconst F (v := 0) dX12_bookAt_2 (by decide) ?_
  refine ob_istore F (ls2 := [(5, .int 0), (3, .long 0), (0, ob_rv C n0), (1, .int x1), (2, .int x2)]) dX12_bookAt_3 (by decide) rfl ?_
  obtain ⟨x_8, hx, h⟩ := Option.bind_eq_some_iff.mp h
  refine ob_sub [2, 3, 4, 1, 0] rfl (l_X12_bookAt_5 F ob_FU hx ?_)
  refine ob_lload_n F 0 dX12_bookAt_48 rfl ?_
  obtain rfl := Option.some.inj h
  exact ob_lret F dX12_bookAt_49 k
theorem t_X12_bookAt {cf : ob_Cf} {g : ob_St} {n0 : Nat} {x1 : Int32} {x2 : Int32} {r : Int64} (h : f_X12_bookAt g n0 x1 x2 = some r) : ob_Mt cf yX12_bookAt cX12_bookAt 6 (some .long) 1 22 [ob_rw cf n0, .int x1, .int x2] g (some (.long r)) g := by
  refine ob_enter (by decide) (Nat.le_of_ble_eq_true rfl) rfl ?_
  intro C hC F k
  subst hC
  exact b_X12_bookAt_0 F h k
-- X12_coverAt
def Lb_X12_coverAt_5 (rec : Int64 → Int32 → Option (Int64)) (g : ob_St) (n0 : Nat) (x1 : Int32) (x2 : Int32) (y3 : Int64) (x5 : Int32) : Option (Int64) :=
  (ob_gR 12 n0 1).bind fun v1 => (ob_rI g 14 v1 29).bind fun v2 => (if v2 ≤ x5 then (some y3) else ((ob_ck 12 n0 (f_X12_get g n0 x5 9)).bind fun v3 => (ob_ck 12 n0 (f_X12_standsAt g n0 x5 x1 x2)).bind fun v4 => ob_let (y3 + ((Int32.toInt64 v3) * v4)) fun z5 => rec z5 (x5 + 1)))
def L_X12_coverAt_5 (g : ob_St) (n0 : Nat) (x1 : Int32) (x2 : Int32) : Nat → Int64 → Int32 → Option (Int64)
  | 0, _, _ => none
  | n + 1, y3, x5 => Lb_X12_coverAt_5 (L_X12_coverAt_5 g n0 x1 x2 n) g n0 x1 x2 y3 x5
theorem lb_X12_coverAt_5 {C : ob_Cx} {rec : Int64 → Int32 → Option (Int64)} (F : ob_Fx C cX12_coverAt 6 RX12 (some .long) 3 70) {g : ob_St} {n0 : Nat} {x1 : Int32} {x2 : Int32} {y3 : Int64} {x5 : Int32} {x : (Int64)} (hr : ∀ {y3 : Int64} {x5 : Int32} {x : (Int64)}, rec y3 x5 = some x → ob_Ev C 44 [(3, .long x)] [] g → ob_Ev C 5 [(0, ob_rv C n0), (1, .int x1), (2, .int x2), (3, .long y3), (5, .int x5)] [] g) (h : Lb_X12_coverAt_5 rec g n0 x1 x2 y3 x5 = some x) (k0 : ob_Ev C 44 [(3, .long x)] [] g) : ob_Ev C 5 [(0, ob_rv C n0), (1, .int x1), (2, .int x2), (3, .long y3), (5, .int x5)] [] g := by
  unfold Lb_X12_coverAt_5 at h
  refine ob_iload F 4 dX12_coverAt_5 rfl ?_
  refine ob_rload_n F 0 dX12_coverAt_7 rfl ?_
  refine ob_getR F dX12_coverAt_8 fl_X12_13 h fun v1 h => ?_
  refine ob_bipush F (v := 29) dX12_coverAt_11 (by decide) ?_
  refine ob_iald F dX12_coverAt_13 h fun v2 h => ?_
  refine ob_icmp_ge F 44 dX12_coverAt_14 (by decide) h (fun h => ?_) (fun h => ?_)
  · obtain rfl := Option.some.inj h
    exact ob_sub [3] rfl (k0)
  · refine ob_lload_n F 3 dX12_coverAt_17 rfl ?_
    refine ob_rload_n F 0 dX12_coverAt_18 rfl ?_
    refine ob_iload F 4 dX12_coverAt_19 rfl ?_
    refine ob_bipush F (v := 9) dX12_coverAt_21 (by decide) ?_
    refine ob_cVi F dX12_coverAt_23 im_X12_get tw6_154 h (fun b hb => t_X12_get hb) rfl rfl (Nat.le_of_ble_eq_true rfl) (by decide) fun v3 h => ?_
    refine ob_i2l F dX12_coverAt_26 ?_
    refine ob_rload_n F 0 dX12_coverAt_27 rfl ?_
    refine ob_iload F 4 dX12_coverAt_28 rfl ?_
    refine ob_iload_n F 1 dX12_coverAt_30 rfl ?_
    refine ob_iload_n F 2 dX12_coverAt_31 rfl ?_
    refine ob_cVl F dX12_coverAt_32 im_X12_standsAt tw7_17 h (fun b hb => t_X12_standsAt hb) rfl rfl (Nat.le_of_ble_eq_true rfl) (by decide) fun v4 h => ?_
    refine ob_lmul F dX12_coverAt_35 ?_
    refine ob_ladd F dX12_coverAt_36 ?_
    refine ob_letl h fun z5 h => ?_
    refine ob_lstore_n F (ls2 := [(3, .long z5), (0, ob_rv C n0), (1, .int x1), (2, .int x2), (5, .int x5)]) dX12_coverAt_37 (by decide) rfl ?_
    refine ob_iinc F (v := (x5 + 1)) (ls2 := [(5, .int (x5 + 1)), (3, .long z5), (0, ob_rv C n0), (1, .int x1), (2, .int x2)]) 4 dX12_coverAt_38 rfl rfl (by decide) rfl ?_
    refine ob_goto F 5 dX12_coverAt_41 (by decide) ?_
    exact ob_sub [2, 3, 4, 1, 0] rfl (hr h k0)
theorem l_X12_coverAt_5 {C : ob_Cx} (F : ob_Fx C cX12_coverAt 6 RX12 (some .long) 3 70) {g : ob_St} {n0 : Nat} {x1 : Int32} {x2 : Int32} : ∀ (n : Nat) {y3 : Int64} {x5 : Int32} {x : (Int64)}, L_X12_coverAt_5 g n0 x1 x2 n y3 x5 = some x → ob_Ev C 44 [(3, .long x)] [] g → ob_Ev C 5 [(0, ob_rv C n0), (1, .int x1), (2, .int x2), (3, .long y3), (5, .int x5)] [] g := by
  intro n
  induction n with
  | zero => intro y3 x5 x h; exact ob_no h
  | succ n ih => intro y3 x5 x h k0; exact lb_X12_coverAt_5 F ih h k0
def f_X12_coverAt (g : ob_St) (n0 : Nat) (x1 : Int32) (x2 : Int32) : Option Int64 :=
  (L_X12_coverAt_5 g n0 x1 x2 ob_FU 0 0).bind fun x_6 => some x_6
theorem b_X12_coverAt_0 {C : ob_Cx} (F : ob_Fx C cX12_coverAt 6 RX12 (some .long) 3 70) {g : ob_St} {n0 : Nat} {x1 : Int32} {x2 : Int32} {r : Int64} (h : f_X12_coverAt g n0 x1 x2 = some r) (k : ob_Rt C (some (.long r)) g) : ob_Ev C 0 [(0, ob_rv C n0), (1, .int x1), (2, .int x2)] [] g := by
  unfold f_X12_coverAt at h
  refine ob_lconst F (v := 0) dX12_coverAt_0 (by decide) ?_
  refine ob_lstore_n F (ls2 := [(3, .long 0), (0, ob_rv C n0), (1, .int x1), (2, .int x2)]) dX12_coverAt_1 (by decide) rfl ?_
  refine ob_iconst F (v := 0) dX12_coverAt_2 (by decide) ?_
  refine ob_istore F (ls2 := [(5, .int 0), (3, .long 0), (0, ob_rv C n0), (1, .int x1), (2, .int x2)]) dX12_coverAt_3 (by decide) rfl ?_
  obtain ⟨x_6, hx, h⟩ := Option.bind_eq_some_iff.mp h
  refine ob_sub [2, 3, 4, 1, 0] rfl (l_X12_coverAt_5 F ob_FU hx ?_)
  refine ob_lload_n F 0 dX12_coverAt_44 rfl ?_
  obtain rfl := Option.some.inj h
  exact ob_lret F dX12_coverAt_45 k
theorem t_X12_coverAt {cf : ob_Cf} {g : ob_St} {n0 : Nat} {x1 : Int32} {x2 : Int32} {r : Int64} (h : f_X12_coverAt g n0 x1 x2 = some r) : ob_Mt cf yX12_coverAt cX12_coverAt 6 (some .long) 3 70 [ob_rw cf n0, .int x1, .int x2] g (some (.long r)) g := by
  refine ob_enter (by decide) (Nat.le_of_ble_eq_true rfl) rfl ?_
  intro C hC F k
  subst hC
  exact b_X12_coverAt_0 F h k
-- X12_book
def B_X12_book_22 (g : ob_St) (n0 : Nat) (x1 : Int32) (x2 : Int32) (x3 : Int32) (s0 : Nat) (s1 : Int32) : Option (Int64 × ob_St) :=
  (ob_ck 12 s0 (f_X12_throwsIf g s0 s1)).bind fun v2 => (if v2.1 = 0 then ((ob_ck 12 n0 (f_X12_lays v2.2 n0)).bind fun g3 => (ob_ck 12 n0 (f_X12_bookAt g3 n0 x1 x2)).bind fun v4 => (ob_ck 12 n0 (f_X12_powerAt g3 n0 x1)).bind fun v5 => (f_X12_told v4 v5 x3).bind fun v6 => some (v6, g3)) else (some (0, v2.2)))
theorem b_X12_book_22 {C : ob_Cx} (F : ob_Fx C cX12_book 4 RX12 (some .long) 7 174) {g : ob_St} {n0 : Nat} {x1 : Int32} {x2 : Int32} {x3 : Int32} {s0 : Nat} {s1 : Int32} {r : (Int64 × ob_St)} (h : B_X12_book_22 g n0 x1 x2 x3 s0 s1 = some r) (k : ob_Rt C (some (.long r.1)) r.2) : ob_Ev C 22 [(0, ob_rv C n0), (1, .int x1), (2, .int x2), (3, .int x3)] [.int s1, ob_rv C s0] g := by
  unfold B_X12_book_22 at h
  refine ob_cViS F dX12_book_22 im_X12_throwsIf tw6_185 h (fun b hb => t_X12_throwsIf hb) rfl rfl (Nat.le_of_ble_eq_true rfl) (by decide) fun v2 h => ?_
  refine ob_if_eq F 30 dX12_book_25 (by decide) h (fun h => ?_) (fun h => ?_)
  · refine ob_rload_n F 0 dX12_book_30 rfl ?_
    refine ob_cVvS F dX12_book_31 im_X12_lays tw6_189 h (fun b hb => t_X12_lays hb) rfl rfl (Nat.le_of_ble_eq_true rfl) (by decide) fun g3 h => ?_
    refine ob_rload_n F 0 dX12_book_34 rfl ?_
    refine ob_iload_n F 1 dX12_book_35 rfl ?_
    refine ob_iload_n F 2 dX12_book_36 rfl ?_
    refine ob_cVl F dX12_book_37 im_X12_bookAt tw7_117 h (fun b hb => t_X12_bookAt hb) rfl rfl (Nat.le_of_ble_eq_true rfl) (by decide) fun v4 h => ?_
    refine ob_rload_n F 0 dX12_book_40 rfl ?_
    refine ob_iload_n F 1 dX12_book_41 rfl ?_
    refine ob_cVl F dX12_book_42 im_X12_powerAt tw6_219 h (fun b hb => t_X12_powerAt hb) rfl rfl (Nat.le_of_ble_eq_true rfl) (by decide) fun v5 h => ?_
    refine ob_iload_n F 3 dX12_book_45 rfl ?_
    refine ob_cSl F dX12_book_46 im_X12_told tw6_231 h (fun b hb => t_X12_told hb) rfl rfl (Nat.le_of_ble_eq_true rfl) (by decide) fun v6 h => ?_
    obtain rfl := Option.some.inj h
    exact ob_lret F dX12_book_49 k
  · refine ob_lconst F (v := 0) dX12_book_28 (by decide) ?_
    obtain rfl := Option.some.inj h
    exact ob_lret F dX12_book_29 k
def B_X12_book_17 (g : ob_St) (n0 : Nat) (x1 : Int32) (x2 : Int32) (x3 : Int32) (s0 : Nat) : Option (Int64 × ob_St) :=
  B_X12_book_22 g n0 x1 x2 x3 s0 1
theorem b_X12_book_17 {C : ob_Cx} (F : ob_Fx C cX12_book 4 RX12 (some .long) 7 174) {g : ob_St} {n0 : Nat} {x1 : Int32} {x2 : Int32} {x3 : Int32} {s0 : Nat} {r : (Int64 × ob_St)} (h : B_X12_book_17 g n0 x1 x2 x3 s0 = some r) (k : ob_Rt C (some (.long r.1)) r.2) : ob_Ev C 17 [(0, ob_rv C n0), (1, .int x1), (2, .int x2), (3, .int x3)] [ob_rv C s0] g := by
  unfold B_X12_book_17 at h
  refine ob_iconst F (v := 1) dX12_book_17 (by decide) ?_
  refine ob_goto F 22 dX12_book_18 (by decide) ?_
  exact b_X12_book_22 F h k
def f_X12_book (g : ob_St) (n0 : Nat) (x1 : Int32) (x2 : Int32) (x3 : Int32) : Option (Int64 × ob_St) :=
  (ob_ck 12 n0 (f_X12_isNode g n0 x1 x2)).bind fun v1 => (if v1 = 0 then (B_X12_book_17 g n0 x1 x2 x3 n0) else ((f_X12_isPart x3).bind fun v7 => (if v7 = 0 then (B_X12_book_17 g n0 x1 x2 x3 n0) else (B_X12_book_22 g n0 x1 x2 x3 n0 0))))
theorem b_X12_book_0 {C : ob_Cx} (F : ob_Fx C cX12_book 4 RX12 (some .long) 7 174) {g : ob_St} {n0 : Nat} {x1 : Int32} {x2 : Int32} {x3 : Int32} {r : (Int64 × ob_St)} (h : f_X12_book g n0 x1 x2 x3 = some r) (k : ob_Rt C (some (.long r.1)) r.2) : ob_Ev C 0 [(0, ob_rv C n0), (1, .int x1), (2, .int x2), (3, .int x3)] [] g := by
  unfold f_X12_book at h
  refine ob_rload_n F 0 dX12_book_0 rfl ?_
  refine ob_rload_n F 0 dX12_book_1 rfl ?_
  refine ob_iload_n F 1 dX12_book_2 rfl ?_
  refine ob_iload_n F 2 dX12_book_3 rfl ?_
  refine ob_cVi F dX12_book_4 im_X12_isNode tw6_162 h (fun b hb => t_X12_isNode hb) rfl rfl (Nat.le_of_ble_eq_true rfl) (by decide) fun v1 h => ?_
  refine ob_if_eq F 17 dX12_book_7 (by decide) h (fun h => ?_) (fun h => ?_)
  · exact b_X12_book_17 F h k
  · refine ob_iload_n F 3 dX12_book_10 rfl ?_
    refine ob_cSi F dX12_book_11 im_X12_isPart tw6_182 h (fun b hb => t_X12_isPart hb) rfl rfl (Nat.le_of_ble_eq_true rfl) (by decide) fun v7 h => ?_
    refine ob_if_ne F 21 dX12_book_14 (by decide) h (fun h => ?_) (fun h => ?_)
    · refine ob_iconst F (v := 0) dX12_book_21 (by decide) ?_
      exact b_X12_book_22 F h k
    · exact b_X12_book_17 F h k
theorem t_X12_book {cf : ob_Cf} {g : ob_St} {n0 : Nat} {x1 : Int32} {x2 : Int32} {x3 : Int32} {r : (Int64 × ob_St)} (h : f_X12_book g n0 x1 x2 x3 = some r) : ob_Mt cf yX12_book cX12_book 4 (some .long) 7 174 [ob_rw cf n0, .int x1, .int x2, .int x3] g (some (.long r.1)) r.2 := by
  refine ob_enter (by decide) (Nat.le_of_ble_eq_true rfl) rfl ?_
  intro C hC F k
  subst hC
  exact b_X12_book_0 F h k
-- X12_cover
def B_X12_cover_76 (g : ob_St) (n0 : Nat) (x1 : Int32) (x4 : Int32) (s0 : Int64) : Option (Int64 × ob_St) :=
  (ob_ck 12 n0 (f_X12_powerAt g n0 x1)).bind fun v7 => (f_X12_told s0 v7 x4).bind fun v8 => some (v8, g)
theorem b_X12_cover_76 {C : ob_Cx} (F : ob_Fx C cX12_cover 5 RX12 (some .long) 7 174) {g : ob_St} {n0 : Nat} {x1 : Int32} {x4 : Int32} {s0 : Int64} {r : (Int64 × ob_St)} (h : B_X12_cover_76 g n0 x1 x4 s0 = some r) (k : ob_Rt C (some (.long r.1)) r.2) : ob_Ev C 76 [(0, ob_rv C n0), (1, .int x1), (4, .int x4)] [.long s0] g := by
  unfold B_X12_cover_76 at h
  refine ob_rload_n F 0 dX12_cover_76 rfl ?_
  refine ob_iload_n F 1 dX12_cover_77 rfl ?_
  refine ob_cVl F dX12_cover_78 im_X12_powerAt tw6_219 h (fun b hb => t_X12_powerAt hb) rfl rfl (Nat.le_of_ble_eq_true rfl) (by decide) fun v7 h => ?_
  refine ob_iload F 2 dX12_cover_81 rfl ?_
  refine ob_cSl F dX12_cover_83 im_X12_told tw6_231 h (fun b hb => t_X12_told hb) rfl rfl (Nat.le_of_ble_eq_true rfl) (by decide) fun v8 h => ?_
  obtain rfl := Option.some.inj h
  exact ob_lret F dX12_cover_86 k
def B_X12_cover_30 (g : ob_St) (n0 : Nat) (x1 : Int32) (x2 : Int32) (x3 : Int32) (x4 : Int32) (s0 : Nat) (s1 : Int32) : Option (Int64 × ob_St) :=
  (ob_ck 12 s0 (f_X12_throwsIf g s0 s1)).bind fun v2 => (if v2.1 = 0 then ((ob_ck 12 n0 (f_X12_lays v2.2 n0)).bind fun g3 => (if x3 = 0 then ((ob_ck 12 n0 (f_X12_coverAt g3 n0 x1 x2)).bind fun v9 => B_X12_cover_76 g3 n0 x1 x4 v9) else ((ob_ck 12 n0 (f_X12_bookAt g3 n0 x1 x2)).bind fun v4 => (ob_ck 12 n0 (f_X12_coverAt g3 n0 x1 x2)).bind fun v5 => (ob_ck 12 n0 (f_X12_stripped g3 n0 x1 x2)).bind fun v6 => B_X12_cover_76 g3 n0 x1 x4 (v4 - (v5 * (Int32.toInt64 v6)))))) else (some (0, v2.2)))
theorem b_X12_cover_30 {C : ob_Cx} (F : ob_Fx C cX12_cover 5 RX12 (some .long) 7 174) {g : ob_St} {n0 : Nat} {x1 : Int32} {x2 : Int32} {x3 : Int32} {x4 : Int32} {s0 : Nat} {s1 : Int32} {r : (Int64 × ob_St)} (h : B_X12_cover_30 g n0 x1 x2 x3 x4 s0 s1 = some r) (k : ob_Rt C (some (.long r.1)) r.2) : ob_Ev C 30 [(0, ob_rv C n0), (1, .int x1), (2, .int x2), (3, .int x3), (4, .int x4)] [.int s1, ob_rv C s0] g := by
  unfold B_X12_cover_30 at h
  refine ob_cViS F dX12_cover_30 im_X12_throwsIf tw6_185 h (fun b hb => t_X12_throwsIf hb) rfl rfl (Nat.le_of_ble_eq_true rfl) (by decide) fun v2 h => ?_
  refine ob_if_eq F 38 dX12_cover_33 (by decide) h (fun h => ?_) (fun h => ?_)
  · refine ob_rload_n F 0 dX12_cover_38 rfl ?_
    refine ob_cVvS F dX12_cover_39 im_X12_lays tw6_189 h (fun b hb => t_X12_lays hb) rfl rfl (Nat.le_of_ble_eq_true rfl) (by decide) fun g3 h => ?_
    refine ob_iload_n F 3 dX12_cover_42 rfl ?_
    refine ob_if_ne F 55 dX12_cover_43 (by decide) h (fun h => ?_) (fun h => ?_)
    · refine ob_rload_n F 0 dX12_cover_55 rfl ?_
      refine ob_iload_n F 1 dX12_cover_56 rfl ?_
      refine ob_iload_n F 2 dX12_cover_57 rfl ?_
      refine ob_cVl F dX12_cover_58 im_X12_bookAt tw7_117 h (fun b hb => t_X12_bookAt hb) rfl rfl (Nat.le_of_ble_eq_true rfl) (by decide) fun v4 h => ?_
      refine ob_rload_n F 0 dX12_cover_61 rfl ?_
      refine ob_iload_n F 1 dX12_cover_62 rfl ?_
      refine ob_iload_n F 2 dX12_cover_63 rfl ?_
      refine ob_cVl F dX12_cover_64 im_X12_coverAt tw7_125 h (fun b hb => t_X12_coverAt hb) rfl rfl (Nat.le_of_ble_eq_true rfl) (by decide) fun v5 h => ?_
      refine ob_rload_n F 0 dX12_cover_67 rfl ?_
      refine ob_iload_n F 1 dX12_cover_68 rfl ?_
      refine ob_iload_n F 2 dX12_cover_69 rfl ?_
      refine ob_cVi F dX12_cover_70 im_X12_stripped tw6_170 h (fun b hb => t_X12_stripped hb) rfl rfl (Nat.le_of_ble_eq_true rfl) (by decide) fun v6 h => ?_
      refine ob_i2l F dX12_cover_73 ?_
      refine ob_lmul F dX12_cover_74 ?_
      refine ob_lsub F dX12_cover_75 ?_
      exact ob_sub [0, 1, 4] rfl (b_X12_cover_76 F h k)
    · refine ob_rload_n F 0 dX12_cover_46 rfl ?_
      refine ob_iload_n F 1 dX12_cover_47 rfl ?_
      refine ob_iload_n F 2 dX12_cover_48 rfl ?_
      refine ob_cVl F dX12_cover_49 im_X12_coverAt tw7_125 h (fun b hb => t_X12_coverAt hb) rfl rfl (Nat.le_of_ble_eq_true rfl) (by decide) fun v9 h => ?_
      refine ob_goto F 76 dX12_cover_52 (by decide) ?_
      exact ob_sub [0, 1, 4] rfl (b_X12_cover_76 F h k)
  · refine ob_lconst F (v := 0) dX12_cover_36 (by decide) ?_
    obtain rfl := Option.some.inj h
    exact ob_lret F dX12_cover_37 k
def B_X12_cover_25 (g : ob_St) (n0 : Nat) (x1 : Int32) (x2 : Int32) (x3 : Int32) (x4 : Int32) (s0 : Nat) : Option (Int64 × ob_St) :=
  B_X12_cover_30 g n0 x1 x2 x3 x4 s0 1
theorem b_X12_cover_25 {C : ob_Cx} (F : ob_Fx C cX12_cover 5 RX12 (some .long) 7 174) {g : ob_St} {n0 : Nat} {x1 : Int32} {x2 : Int32} {x3 : Int32} {x4 : Int32} {s0 : Nat} {r : (Int64 × ob_St)} (h : B_X12_cover_25 g n0 x1 x2 x3 x4 s0 = some r) (k : ob_Rt C (some (.long r.1)) r.2) : ob_Ev C 25 [(0, ob_rv C n0), (1, .int x1), (2, .int x2), (3, .int x3), (4, .int x4)] [ob_rv C s0] g := by
  unfold B_X12_cover_25 at h
  refine ob_iconst F (v := 1) dX12_cover_25 (by decide) ?_
  refine ob_goto F 30 dX12_cover_26 (by decide) ?_
  exact b_X12_cover_30 F h k
def f_X12_cover (g : ob_St) (n0 : Nat) (x1 : Int32) (x2 : Int32) (x3 : Int32) (x4 : Int32) : Option (Int64 × ob_St) :=
  (ob_ck 12 n0 (f_X12_isNode g n0 x1 x2)).bind fun v1 => (if v1 = 0 then (B_X12_cover_25 g n0 x1 x2 x3 x4 n0) else ((f_X12_isPart x3).bind fun v10 => (if v10 = 0 then (B_X12_cover_25 g n0 x1 x2 x3 x4 n0) else ((f_X12_isPart x4).bind fun v11 => (if v11 = 0 then (B_X12_cover_25 g n0 x1 x2 x3 x4 n0) else (B_X12_cover_30 g n0 x1 x2 x3 x4 n0 0))))))
theorem b_X12_cover_0 {C : ob_Cx} (F : ob_Fx C cX12_cover 5 RX12 (some .long) 7 174) {g : ob_St} {n0 : Nat} {x1 : Int32} {x2 : Int32} {x3 : Int32} {x4 : Int32} {r : (Int64 × ob_St)} (h : f_X12_cover g n0 x1 x2 x3 x4 = some r) (k : ob_Rt C (some (.long r.1)) r.2) : ob_Ev C 0 [(0, ob_rv C n0), (1, .int x1), (2, .int x2), (3, .int x3), (4, .int x4)] [] g := by
  unfold f_X12_cover at h
  refine ob_rload_n F 0 dX12_cover_0 rfl ?_
  refine ob_rload_n F 0 dX12_cover_1 rfl ?_
  refine ob_iload_n F 1 dX12_cover_2 rfl ?_
  refine ob_iload_n F 2 dX12_cover_3 rfl ?_
  refine ob_cVi F dX12_cover_4 im_X12_isNode tw6_162 h (fun b hb => t_X12_isNode hb) rfl rfl (Nat.le_of_ble_eq_true rfl) (by decide) fun v1 h => ?_
  refine ob_if_eq F 25 dX12_cover_7 (by decide) h (fun h => ?_) (fun h => ?_)
  · exact b_X12_cover_25 F h k
  · refine ob_iload_n F 3 dX12_cover_10 rfl ?_
    refine ob_cSi F dX12_cover_11 im_X12_isPart tw6_182 h (fun b hb => t_X12_isPart hb) rfl rfl (Nat.le_of_ble_eq_true rfl) (by decide) fun v10 h => ?_
    refine ob_if_eq F 25 dX12_cover_14 (by decide) h (fun h => ?_) (fun h => ?_)
    · exact b_X12_cover_25 F h k
    · refine ob_iload F 4 dX12_cover_17 rfl ?_
      refine ob_cSi F dX12_cover_19 im_X12_isPart tw6_182 h (fun b hb => t_X12_isPart hb) rfl rfl (Nat.le_of_ble_eq_true rfl) (by decide) fun v11 h => ?_
      refine ob_if_ne F 29 dX12_cover_22 (by decide) h (fun h => ?_) (fun h => ?_)
      · refine ob_iconst F (v := 0) dX12_cover_29 (by decide) ?_
        exact b_X12_cover_30 F h k
      · exact b_X12_cover_25 F h k
theorem t_X12_cover {cf : ob_Cf} {g : ob_St} {n0 : Nat} {x1 : Int32} {x2 : Int32} {x3 : Int32} {x4 : Int32} {r : (Int64 × ob_St)} (h : f_X12_cover g n0 x1 x2 x3 x4 = some r) : ob_Mt cf yX12_cover cX12_cover 5 (some .long) 7 174 [ob_rw cf n0, .int x1, .int x2, .int x3, .int x4] g (some (.long r.1)) r.2 := by
  refine ob_enter (by decide) (Nat.le_of_ble_eq_true rfl) rfl ?_
  intro C hC F k
  subst hC
  exact b_X12_cover_0 F h k
-- X12_extreme
def B_X12_extreme_83 (rec : Int32 → Int32 → Option (Int32)) (g : ob_St) (n0 : Nat) (x1 : Int32) (x2 : Int32) (x3 : Int32) : Option (Int32) :=
  rec x2 (x3 + 1)
theorem b_X12_extreme_83 {C : ob_Cx} {rec : Int32 → Int32 → Option (Int32)} (F : ob_Fx C cX12_extreme 8 RX12 (some .int) 7 174) {g : ob_St} {n0 : Nat} {x1 : Int32} {x2 : Int32} {x3 : Int32} {x : (Int32)} (hr : ∀ {x2 : Int32} {x3 : Int32} {x : (Int32)}, rec x2 x3 = some x → ob_Ev C 89 [(2, .int x)] [] g → ob_Ev C 22 [(0, ob_rv C n0), (1, .int x1), (2, .int x2), (3, .int x3)] [] g) (h : B_X12_extreme_83 rec g n0 x1 x2 x3 = some x) (k0 : ob_Ev C 89 [(2, .int x)] [] g) : ob_Ev C 83 [(0, ob_rv C n0), (1, .int x1), (2, .int x2), (3, .int x3)] [] g := by
  unfold B_X12_extreme_83 at h
  refine ob_iinc F (v := (x3 + 1)) (ls2 := [(3, .int (x3 + 1)), (0, ob_rv C n0), (1, .int x1), (2, .int x2)]) 3 dX12_extreme_83 rfl rfl (by decide) rfl ?_
  refine ob_goto F 22 dX12_extreme_86 (by decide) ?_
  exact ob_sub [1, 2, 3, 0] rfl (hr h k0)
def B_X12_extreme_81 (rec : Int32 → Int32 → Option (Int32)) (g : ob_St) (n0 : Nat) (x1 : Int32) (x3 : Int32) : Option (Int32) :=
  B_X12_extreme_83 rec g n0 x1 x3 x3
theorem b_X12_extreme_81 {C : ob_Cx} {rec : Int32 → Int32 → Option (Int32)} (F : ob_Fx C cX12_extreme 8 RX12 (some .int) 7 174) {g : ob_St} {n0 : Nat} {x1 : Int32} {x3 : Int32} {x : (Int32)} (hr : ∀ {x2 : Int32} {x3 : Int32} {x : (Int32)}, rec x2 x3 = some x → ob_Ev C 89 [(2, .int x)] [] g → ob_Ev C 22 [(0, ob_rv C n0), (1, .int x1), (2, .int x2), (3, .int x3)] [] g) (h : B_X12_extreme_81 rec g n0 x1 x3 = some x) (k0 : ob_Ev C 89 [(2, .int x)] [] g) : ob_Ev C 81 [(0, ob_rv C n0), (1, .int x1), (3, .int x3)] [] g := by
  unfold B_X12_extreme_81 at h
  refine ob_iload_n F 2 dX12_extreme_81 rfl ?_
  refine ob_istore_n F (ls2 := [(2, .int x3), (0, ob_rv C n0), (1, .int x1), (3, .int x3)]) dX12_extreme_82 (by decide) rfl ?_
  exact ob_sub [1, 2, 0, 3] rfl (b_X12_extreme_83 F hr h k0)
def Lb_X12_extreme_22 (rec : Int32 → Int32 → Option (Int32)) (g : ob_St) (n0 : Nat) (x1 : Int32) (x2 : Int32) (x3 : Int32) : Option (Int32) :=
  (ob_gR 12 n0 1).bind fun v4 => (ob_rI g 14 v4 2).bind fun v5 => (if v5 < x3 then (some x2) else ((ob_gR 12 n0 1).bind fun v6 => (ob_rI g 14 v6 2).bind fun v7 => (ob_ck 12 n0 (f_X12_bookAt g n0 v7 x3)).bind fun v8 => (ob_gR 12 n0 1).bind fun v9 => (ob_rI g 14 v9 2).bind fun v10 => (ob_ck 12 n0 (f_X12_bookAt g n0 v10 x2)).bind fun v11 => (if x1 = 0 then ((if v11 ≤ v8 then (B_X12_extreme_83 rec g n0 x1 x2 x3) else (B_X12_extreme_81 rec g n0 x1 x3))) else ((if v8 ≤ v11 then (B_X12_extreme_83 rec g n0 x1 x2 x3) else (B_X12_extreme_81 rec g n0 x1 x3))))))
def L_X12_extreme_22 (g : ob_St) (n0 : Nat) (x1 : Int32) : Nat → Int32 → Int32 → Option (Int32)
  | 0, _, _ => none
  | n + 1, x2, x3 => Lb_X12_extreme_22 (L_X12_extreme_22 g n0 x1 n) g n0 x1 x2 x3
theorem lb_X12_extreme_22 {C : ob_Cx} {rec : Int32 → Int32 → Option (Int32)} (F : ob_Fx C cX12_extreme 8 RX12 (some .int) 7 174) {g : ob_St} {n0 : Nat} {x1 : Int32} {x2 : Int32} {x3 : Int32} {x : (Int32)} (hr : ∀ {x2 : Int32} {x3 : Int32} {x : (Int32)}, rec x2 x3 = some x → ob_Ev C 89 [(2, .int x)] [] g → ob_Ev C 22 [(0, ob_rv C n0), (1, .int x1), (2, .int x2), (3, .int x3)] [] g) (h : Lb_X12_extreme_22 rec g n0 x1 x2 x3 = some x) (k0 : ob_Ev C 89 [(2, .int x)] [] g) : ob_Ev C 22 [(0, ob_rv C n0), (1, .int x1), (2, .int x2), (3, .int x3)] [] g := by
  unfold Lb_X12_extreme_22 at h
  refine ob_iload_n F 3 dX12_extreme_22 rfl ?_
  refine ob_rload_n F 0 dX12_extreme_23 rfl ?_
  refine ob_getR F dX12_extreme_24 fl_X12_13 h fun v4 h => ?_
  refine ob_iconst F (v := 2) dX12_extreme_27 (by decide) ?_
  refine ob_iald F dX12_extreme_28 h fun v5 h => ?_
  refine ob_icmp_gt F 89 dX12_extreme_29 (by decide) h (fun h => ?_) (fun h => ?_)
  · obtain rfl := Option.some.inj h
    exact ob_sub [2] rfl (k0)
  · refine ob_rload_n F 0 dX12_extreme_32 rfl ?_
    refine ob_rload_n F 0 dX12_extreme_33 rfl ?_
    refine ob_getR F dX12_extreme_34 fl_X12_13 h fun v6 h => ?_
    refine ob_iconst F (v := 2) dX12_extreme_37 (by decide) ?_
    refine ob_iald F dX12_extreme_38 h fun v7 h => ?_
    refine ob_iload_n F 3 dX12_extreme_39 rfl ?_
    refine ob_cVl F dX12_extreme_40 im_X12_bookAt tw7_117 h (fun b hb => t_X12_bookAt hb) rfl rfl (Nat.le_of_ble_eq_true rfl) (by decide) fun v8 h => ?_
    refine ob_lstore F (ls2 := [(4, .long v8), (0, ob_rv C n0), (1, .int x1), (2, .int x2), (3, .int x3)]) dX12_extreme_43 (by decide) rfl ?_
    refine ob_rload_n F 1 dX12_extreme_45 rfl ?_
    refine ob_rload_n F 1 dX12_extreme_46 rfl ?_
    refine ob_getR F dX12_extreme_47 fl_X12_13 h fun v9 h => ?_
    refine ob_iconst F (v := 2) dX12_extreme_50 (by decide) ?_
    refine ob_iald F dX12_extreme_51 h fun v10 h => ?_
    refine ob_iload_n F 3 dX12_extreme_52 rfl ?_
    refine ob_cVl F dX12_extreme_53 im_X12_bookAt tw7_117 h (fun b hb => t_X12_bookAt hb) rfl rfl (Nat.le_of_ble_eq_true rfl) (by decide) fun v11 h => ?_
    refine ob_lstore F (ls2 := [(6, .long v11), (4, .long v8), (0, ob_rv C n0), (1, .int x1), (2, .int x2), (3, .int x3)]) dX12_extreme_56 (by decide) rfl ?_
    refine ob_iload_n F 3 dX12_extreme_58 rfl ?_
    refine ob_if_ne F 73 dX12_extreme_59 (by decide) h (fun h => ?_) (fun h => ?_)
    · refine ob_lload F 1 dX12_extreme_73 rfl ?_
      refine ob_lload F 0 dX12_extreme_75 rfl ?_
      refine ob_lcmp_le F 83 dX12_extreme_77 dX12_extreme_78 (by decide) h (fun h => ?_) (fun h => ?_)
      · exact ob_sub [2, 3, 4, 5] rfl (b_X12_extreme_83 F hr h k0)
      · exact ob_sub [2, 3, 5] rfl (b_X12_extreme_81 F hr h k0)
    · refine ob_lload F 1 dX12_extreme_62 rfl ?_
      refine ob_lload F 0 dX12_extreme_64 rfl ?_
      refine ob_lcmp_ge F 83 dX12_extreme_66 dX12_extreme_67 (by decide) h (fun h => ?_) (fun h => ?_)
      · exact ob_sub [2, 3, 4, 5] rfl (b_X12_extreme_83 F hr h k0)
      · refine ob_goto F 81 dX12_extreme_70 (by decide) ?_
        exact ob_sub [2, 3, 5] rfl (b_X12_extreme_81 F hr h k0)
theorem l_X12_extreme_22 {C : ob_Cx} (F : ob_Fx C cX12_extreme 8 RX12 (some .int) 7 174) {g : ob_St} {n0 : Nat} {x1 : Int32} : ∀ (n : Nat) {x2 : Int32} {x3 : Int32} {x : (Int32)}, L_X12_extreme_22 g n0 x1 n x2 x3 = some x → ob_Ev C 89 [(2, .int x)] [] g → ob_Ev C 22 [(0, ob_rv C n0), (1, .int x1), (2, .int x2), (3, .int x3)] [] g := by
  intro n
  induction n with
  | zero => intro x2 x3 x h; exact ob_no h
  | succ n ih => intro x2 x3 x h k0; exact lb_X12_extreme_22 F ih h k0
def f_X12_extreme (g : ob_St) (n0 : Nat) (x1 : Int32) : Option (Int32 × ob_St) :=
  (ob_pI g 12 n0 0 0).bind fun g1 => (f_X12_isPart x1).bind fun v2 => (if v2 = 0 then (some ((-1), g1)) else ((ob_ck 12 n0 (f_X12_lays g1 n0)).bind fun g3 => (L_X12_extreme_22 g3 n0 x1 ob_FU 0 1).bind fun x_12 => some (x_12, g3)))
theorem b_X12_extreme_0 {C : ob_Cx} (F : ob_Fx C cX12_extreme 8 RX12 (some .int) 7 174) {g : ob_St} {n0 : Nat} {x1 : Int32} {r : (Int32 × ob_St)} (h : f_X12_extreme g n0 x1 = some r) (k : ob_Rt C (some (.int r.1)) r.2) : ob_Ev C 0 [(0, ob_rv C n0), (1, .int x1)] [] g := by
  unfold f_X12_extreme at h
  refine ob_rload_n F 0 dX12_extreme_0 rfl ?_
  refine ob_iconst F (v := 0) dX12_extreme_1 (by decide) ?_
  refine ob_putI F dX12_extreme_2 fp_X12_1 h fun g1 h => ?_
  refine ob_iload_n F 1 dX12_extreme_5 rfl ?_
  refine ob_cSi F dX12_extreme_6 im_X12_isPart tw6_182 h (fun b hb => t_X12_isPart hb) rfl rfl (Nat.le_of_ble_eq_true rfl) (by decide) fun v2 h => ?_
  refine ob_if_ne F 14 dX12_extreme_9 (by decide) h (fun h => ?_) (fun h => ?_)
  · refine ob_rload_n F 0 dX12_extreme_14 rfl ?_
    refine ob_cVvS F dX12_extreme_15 im_X12_lays tw6_189 h (fun b hb => t_X12_lays hb) rfl rfl (Nat.le_of_ble_eq_true rfl) (by decide) fun g3 h => ?_
    refine ob_iconst F (v := 0) dX12_extreme_18 (by decide) ?_
    refine ob_istore_n F (ls2 := [(2, .int 0), (0, ob_rv C n0), (1, .int x1)]) dX12_extreme_19 (by decide) rfl ?_
    refine ob_iconst F (v := 1) dX12_extreme_20 (by decide) ?_
    refine ob_istore_n F (ls2 := [(3, .int 1), (2, .int 0), (0, ob_rv C n0), (1, .int x1)]) dX12_extreme_21 (by decide) rfl ?_
    obtain ⟨x_12, hx, h⟩ := Option.bind_eq_some_iff.mp h
    refine ob_sub [2, 3, 1, 0] rfl (l_X12_extreme_22 F ob_FU hx ?_)
    refine ob_iload_n F 0 dX12_extreme_89 rfl ?_
    obtain rfl := Option.some.inj h
    exact ob_iret F dX12_extreme_90 k
  · refine ob_iconst F (v := (-1)) dX12_extreme_12 (by decide) ?_
    obtain rfl := Option.some.inj h
    exact ob_iret F dX12_extreme_13 k
theorem t_X12_extreme {cf : ob_Cf} {g : ob_St} {n0 : Nat} {x1 : Int32} {r : (Int32 × ob_St)} (h : f_X12_extreme g n0 x1 = some r) : ob_Mt cf yX12_extreme cX12_extreme 8 (some .int) 7 174 [ob_rw cf n0, .int x1] g (some (.int r.1)) r.2 := by
  refine ob_enter (by decide) (Nat.le_of_ble_eq_true rfl) (Or.inl rfl) ?_
  intro C hC F k
  subst hC
  exact b_X12_extreme_0 F h k
-- X12_keeps
def B_X12_keeps_49 (g : ob_St) (n0 : Nat) : Option ob_St :=
  (ob_gR 12 n0 1).bind fun v2 => (ob_gR 12 n0 4).bind fun v3 => (ob_gI g 12 n0 6).bind fun v4 => (f_X12_copies g v2 0 v3 (70 * v4)).bind fun g5 => (ob_gI g5 12 n0 6).bind fun v6 => (ob_pI g5 12 n0 6 (v6 + 1)).bind fun g7 => (ob_pZ g7 12 n0 19 0).bind fun g8 => some g8
theorem b_X12_keeps_49 {C : ob_Cx} (F : ob_Fx C cX12_keeps 2 RX12 none 1 24) {g : ob_St} {n0 : Nat} {r : ob_St} (h : B_X12_keeps_49 g n0 = some r) (k : ob_Rt C none r) : ob_Ev C 49 [(0, ob_rv C n0)] [] g := by
  unfold B_X12_keeps_49 at h
  refine ob_rload_n F 0 dX12_keeps_49 rfl ?_
  refine ob_getR F dX12_keeps_50 fl_X12_13 h fun v2 h => ?_
  refine ob_iconst F (v := 0) dX12_keeps_53 (by decide) ?_
  refine ob_rload_n F 0 dX12_keeps_54 rfl ?_
  refine ob_getR F dX12_keeps_55 fl_X12_23 h fun v3 h => ?_
  refine ob_bipush F (v := 70) dX12_keeps_58 (by decide) ?_
  refine ob_rload_n F 0 dX12_keeps_60 rfl ?_
  refine ob_getI F dX12_keeps_61 fl_X12_177 h fun v4 h => ?_
  refine ob_imul F dX12_keeps_64 ?_
  refine ob_cSvS F dX12_keeps_65 im_X12_copies tw6_122 h (fun b hb => t_X12_copies hb) rfl rfl (Nat.le_of_ble_eq_true rfl) (by decide) fun g5 h => ?_
  refine ob_rload_n F 0 dX12_keeps_68 rfl ?_
  refine ob_dup F dX12_keeps_69 rfl ?_
  refine ob_getI F dX12_keeps_70 fl_X12_177 h fun v6 h => ?_
  refine ob_iconst F (v := 1) dX12_keeps_73 (by decide) ?_
  refine ob_iadd F dX12_keeps_74 ?_
  refine ob_putI F dX12_keeps_75 fp_X12_177 h fun g7 h => ?_
  refine ob_rload_n F 0 dX12_keeps_78 rfl ?_
  refine ob_iconst F (v := 0) dX12_keeps_79 (by decide) ?_
  refine ob_putZ F dX12_keeps_80 fp_X12_180 h fun g8 h => ?_
  obtain rfl := Option.some.inj h
  exact ob_vret F dX12_keeps_83 k
def Lb_X12_keeps_11 (rec : ob_St → Int32 → Option (ob_St)) (g : ob_St) (n0 : Nat) (x1 : Int32) : Option (ob_St) :=
  (if 490 ≤ x1 then (some g) else ((ob_gR 12 n0 4).bind fun v9 => (ob_gR 12 n0 4).bind fun v10 => (ob_rI g 14 v10 (x1 + 70)).bind fun v11 => (ob_wI g v9 x1 v11).bind fun g12 => rec g12 (x1 + 1)))
def L_X12_keeps_11 (n0 : Nat) : Nat → ob_St → Int32 → Option (ob_St)
  | 0, _, _ => none
  | n + 1, g, x1 => Lb_X12_keeps_11 (L_X12_keeps_11 n0 n) g n0 x1
theorem lb_X12_keeps_11 {C : ob_Cx} {rec : ob_St → Int32 → Option (ob_St)} (F : ob_Fx C cX12_keeps 2 RX12 none 1 24) {g : ob_St} {n0 : Nat} {x1 : Int32} {x : (ob_St)} (hr : ∀ {g : ob_St} {x1 : Int32} {x : (ob_St)}, rec g x1 = some x → ob_Ev C 39 [(0, ob_rv C n0)] [] x → ob_Ev C 11 [(0, ob_rv C n0), (1, .int x1)] [] g) (h : Lb_X12_keeps_11 rec g n0 x1 = some x) (k0 : ob_Ev C 39 [(0, ob_rv C n0)] [] x) : ob_Ev C 11 [(0, ob_rv C n0), (1, .int x1)] [] g := by
  unfold Lb_X12_keeps_11 at h
  refine ob_iload_n F 1 dX12_keeps_11 rfl ?_
  refine ob_sipush F (v := 490) dX12_keeps_12 (by decide) ?_
  refine ob_icmp_ge F 39 dX12_keeps_15 (by decide) h (fun h => ?_) (fun h => ?_)
  · obtain rfl := Option.some.inj h
    exact ob_sub [0] rfl (k0)
  · refine ob_rload_n F 0 dX12_keeps_18 rfl ?_
    refine ob_getR F dX12_keeps_19 fl_X12_23 h fun v9 h => ?_
    refine ob_iload_n F 1 dX12_keeps_22 rfl ?_
    refine ob_rload_n F 0 dX12_keeps_23 rfl ?_
    refine ob_getR F dX12_keeps_24 fl_X12_23 h fun v10 h => ?_
    refine ob_iload_n F 1 dX12_keeps_27 rfl ?_
    refine ob_bipush F (v := 70) dX12_keeps_28 (by decide) ?_
    refine ob_iadd F dX12_keeps_30 ?_
    refine ob_iald F dX12_keeps_31 h fun v11 h => ?_
    refine ob_iast F dX12_keeps_32 h fun g12 h => ?_
    refine ob_iinc F (v := (x1 + 1)) (ls2 := [(1, .int (x1 + 1)), (0, ob_rv C n0)]) 1 dX12_keeps_33 rfl rfl (by decide) rfl ?_
    refine ob_goto F 11 dX12_keeps_36 (by decide) ?_
    exact ob_sub [1, 0] rfl (hr h k0)
theorem l_X12_keeps_11 {C : ob_Cx} (F : ob_Fx C cX12_keeps 2 RX12 none 1 24) {n0 : Nat} : ∀ (n : Nat) {g : ob_St} {x1 : Int32} {x : (ob_St)}, L_X12_keeps_11 n0 n g x1 = some x → ob_Ev C 39 [(0, ob_rv C n0)] [] x → ob_Ev C 11 [(0, ob_rv C n0), (1, .int x1)] [] g := by
  intro n
  induction n with
  | zero => intro g x1 x h; exact ob_no h
  | succ n ih => intro g x1 x h k0; exact lb_X12_keeps_11 F ih h k0
def f_X12_keeps (g : ob_St) (n0 : Nat) : Option ob_St :=
  (ob_gI g 12 n0 6).bind fun v1 => (if v1 = 8 then ((L_X12_keeps_11 n0 ob_FU g 0).bind fun x_13 => (ob_gI x_13 12 n0 6).bind fun v14 => (ob_pI x_13 12 n0 6 (v14 - 1)).bind fun g15 => B_X12_keeps_49 g15 n0) else (B_X12_keeps_49 g n0))
theorem b_X12_keeps_0 {C : ob_Cx} (F : ob_Fx C cX12_keeps 2 RX12 none 1 24) {g : ob_St} {n0 : Nat} {r : ob_St} (h : f_X12_keeps g n0 = some r) (k : ob_Rt C none r) : ob_Ev C 0 [(0, ob_rv C n0)] [] g := by
  unfold f_X12_keeps at h
  refine ob_rload_n F 0 dX12_keeps_0 rfl ?_
  refine ob_getI F dX12_keeps_1 fl_X12_177 h fun v1 h => ?_
  refine ob_bipush F (v := 8) dX12_keeps_4 (by decide) ?_
  refine ob_icmp_ne F 49 dX12_keeps_6 (by decide) h (fun h => ?_) (fun h => ?_)
  · exact b_X12_keeps_49 F h k
  · refine ob_iconst F (v := 0) dX12_keeps_9 (by decide) ?_
    refine ob_istore_n F (ls2 := [(1, .int 0), (0, ob_rv C n0)]) dX12_keeps_10 (by decide) rfl ?_
    obtain ⟨x_13, hx, h⟩ := Option.bind_eq_some_iff.mp h
    refine ob_sub [1, 0] rfl (l_X12_keeps_11 F ob_FU hx ?_)
    refine ob_rload_n F 0 dX12_keeps_39 rfl ?_
    refine ob_dup F dX12_keeps_40 rfl ?_
    refine ob_getI F dX12_keeps_41 fl_X12_177 h fun v14 h => ?_
    refine ob_iconst F (v := 1) dX12_keeps_44 (by decide) ?_
    refine ob_isub F dX12_keeps_45 ?_
    refine ob_putI F dX12_keeps_46 fp_X12_177 h fun g15 h => ?_
    exact b_X12_keeps_49 F h k
theorem t_X12_keeps {cf : ob_Cf} {g : ob_St} {n0 : Nat} {r : ob_St} (h : f_X12_keeps g n0 = some r) : ob_Mt cf yX12_keeps cX12_keeps 2 none 1 24 [ob_rw cf n0] g none r := by
  refine ob_enter (by decide) (Nat.le_of_ble_eq_true rfl) rfl ?_
  intro C hC F k
  subst hC
  exact b_X12_keeps_0 F h k
-- X12_becomes
def f_X12_becomes (g : ob_St) (n0 : Nat) (x1 : Int32) (x2 : Int32) : Option (Int32 × ob_St) :=
  (ob_gR 12 n0 1).bind fun v1 => (ob_rI g 14 v1 x1).bind fun v2 => (if v2 = x2 then (some (1, g)) else ((ob_ck 12 n0 (f_X12_keeps g n0)).bind fun g3 => (ob_gR 12 n0 1).bind fun v4 => (ob_wI g3 v4 x1 x2).bind fun g5 => some (0, g5)))
theorem b_X12_becomes_0 {C : ob_Cx} (F : ob_Fx C cX12_becomes 3 RX12 (some .int) 2 45) {g : ob_St} {n0 : Nat} {x1 : Int32} {x2 : Int32} {r : (Int32 × ob_St)} (h : f_X12_becomes g n0 x1 x2 = some r) (k : ob_Rt C (some (.int r.1)) r.2) : ob_Ev C 0 [(0, ob_rv C n0), (1, .int x1), (2, .int x2)] [] g := by
  unfold f_X12_becomes at h
  refine ob_rload_n F 0 dX12_becomes_0 rfl ?_
  refine ob_getR F dX12_becomes_1 fl_X12_13 h fun v1 h => ?_
  refine ob_iload_n F 1 dX12_becomes_4 rfl ?_
  refine ob_iald F dX12_becomes_5 h fun v2 h => ?_
  refine ob_iload_n F 2 dX12_becomes_6 rfl ?_
  refine ob_icmp_ne F 12 dX12_becomes_7 (by decide) h (fun h => ?_) (fun h => ?_)
  · refine ob_rload_n F 0 dX12_becomes_12 rfl ?_
    refine ob_cVvS F dX12_becomes_13 im_X12_keeps tw7_137 h (fun b hb => t_X12_keeps hb) rfl rfl (Nat.le_of_ble_eq_true rfl) (by decide) fun g3 h => ?_
    refine ob_rload_n F 0 dX12_becomes_16 rfl ?_
    refine ob_getR F dX12_becomes_17 fl_X12_13 h fun v4 h => ?_
    refine ob_iload_n F 1 dX12_becomes_20 rfl ?_
    refine ob_iload_n F 2 dX12_becomes_21 rfl ?_
    refine ob_iast F dX12_becomes_22 h fun g5 h => ?_
    refine ob_iconst F (v := 0) dX12_becomes_23 (by decide) ?_
    obtain rfl := Option.some.inj h
    exact ob_iret F dX12_becomes_24 k
  · refine ob_iconst F (v := 1) dX12_becomes_10 (by decide) ?_
    obtain rfl := Option.some.inj h
    exact ob_iret F dX12_becomes_11 k
theorem t_X12_becomes {cf : ob_Cf} {g : ob_St} {n0 : Nat} {x1 : Int32} {x2 : Int32} {r : (Int32 × ob_St)} (h : f_X12_becomes g n0 x1 x2 = some r) : ob_Mt cf yX12_becomes cX12_becomes 3 (some .int) 2 45 [ob_rw cf n0, .int x1, .int x2] g (some (.int r.1)) r.2 := by
  refine ob_enter (by decide) (Nat.le_of_ble_eq_true rfl) (Or.inl rfl) ?_
  intro C hC F k
  subst hC
  exact b_X12_becomes_0 F h k
-- X12_own
def f_X12_own (g : ob_St) (n0 : Nat) (x1 : Int32) (x2 : Int32) : Option (Int32 × ob_St) :=
  (ob_pI g 12 n0 0 0).bind fun g1 => (ob_ck 12 n0 (f_X12_isOption g1 n0 x1)).bind fun v2 => (if v2 = 0 then (some ((-1000000), g1)) else ((f_X12_isIn x2 (-9) 9).bind fun v3 => (if v3 = 0 then (some ((-1000000), g1)) else ((ob_ck 12 n0 (f_X12_keeps g1 n0)).bind fun g4 => (ob_ck 12 n0 (f_X12_get g4 n0 x1 9)).bind fun v5 => (ob_gR 12 n0 1).bind fun v6 => (ob_wI g4 v6 ((30 + (10 * x1)) + 9) x2).bind fun g7 => some (v5, g7)))))
theorem b_X12_own_0 {C : ob_Cx} (F : ob_Fx C cX12_own 4 RX12 (some .int) 2 45) {g : ob_St} {n0 : Nat} {x1 : Int32} {x2 : Int32} {r : (Int32 × ob_St)} (h : f_X12_own g n0 x1 x2 = some r) (k : ob_Rt C (some (.int r.1)) r.2) : ob_Ev C 0 [(0, ob_rv C n0), (1, .int x1), (2, .int x2)] [] g := by
  unfold f_X12_own at h
  refine ob_rload_n F 0 dX12_own_0 rfl ?_
  refine ob_iconst F (v := 0) dX12_own_1 (by decide) ?_
  refine ob_putI F dX12_own_2 fp_X12_1 h fun g1 h => ?_
  refine ob_rload_n F 0 dX12_own_5 rfl ?_
  refine ob_iload_n F 1 dX12_own_6 rfl ?_
  refine ob_cVi F dX12_own_7 im_X12_isOption tw6_145 h (fun b hb => t_X12_isOption hb) rfl rfl (Nat.le_of_ble_eq_true rfl) (by decide) fun v2 h => ?_
  refine ob_if_eq F 24 dX12_own_10 (by decide) h (fun h => ?_) (fun h => ?_)
  · refine ob_ldc F (v := (-1000000)) dX12_own_24 tw6_149 ?_
    obtain rfl := Option.some.inj h
    exact ob_iret F dX12_own_26 k
  · refine ob_iload_n F 2 dX12_own_13 rfl ?_
    refine ob_bipush F (v := (-9)) dX12_own_14 (by decide) ?_
    refine ob_bipush F (v := 9) dX12_own_16 (by decide) ?_
    refine ob_cSi F dX12_own_18 im_X12_isIn tw6_67 h (fun b hb => t_X12_isIn hb) rfl rfl (Nat.le_of_ble_eq_true rfl) (by decide) fun v3 h => ?_
    refine ob_if_ne F 27 dX12_own_21 (by decide) h (fun h => ?_) (fun h => ?_)
    · refine ob_rload_n F 0 dX12_own_27 rfl ?_
      refine ob_cVvS F dX12_own_28 im_X12_keeps tw7_137 h (fun b hb => t_X12_keeps hb) rfl rfl (Nat.le_of_ble_eq_true rfl) (by decide) fun g4 h => ?_
      refine ob_rload_n F 0 dX12_own_31 rfl ?_
      refine ob_iload_n F 1 dX12_own_32 rfl ?_
      refine ob_bipush F (v := 9) dX12_own_33 (by decide) ?_
      refine ob_cVi F dX12_own_35 im_X12_get tw6_154 h (fun b hb => t_X12_get hb) rfl rfl (Nat.le_of_ble_eq_true rfl) (by decide) fun v5 h => ?_
      refine ob_istore_n F (ls2 := [(3, .int v5), (0, ob_rv C n0), (1, .int x1), (2, .int x2)]) dX12_own_38 (by decide) rfl ?_
      refine ob_rload_n F 1 dX12_own_39 rfl ?_
      refine ob_getR F dX12_own_40 fl_X12_13 h fun v6 h => ?_
      refine ob_bipush F (v := 30) dX12_own_43 (by decide) ?_
      refine ob_bipush F (v := 10) dX12_own_45 (by decide) ?_
      refine ob_iload_n F 2 dX12_own_47 rfl ?_
      refine ob_imul F dX12_own_48 ?_
      refine ob_iadd F dX12_own_49 ?_
      refine ob_bipush F (v := 9) dX12_own_50 (by decide) ?_
      refine ob_iadd F dX12_own_52 ?_
      refine ob_iload_n F 3 dX12_own_53 rfl ?_
      refine ob_iast F dX12_own_54 h fun g7 h => ?_
      refine ob_iload_n F 0 dX12_own_55 rfl ?_
      obtain rfl := Option.some.inj h
      exact ob_iret F dX12_own_56 k
    · refine ob_ldc F (v := (-1000000)) dX12_own_24 tw6_149 ?_
      obtain rfl := Option.some.inj h
      exact ob_iret F dX12_own_26 k
theorem t_X12_own {cf : ob_Cf} {g : ob_St} {n0 : Nat} {x1 : Int32} {x2 : Int32} {r : (Int32 × ob_St)} (h : f_X12_own g n0 x1 x2 = some r) : ob_Mt cf yX12_own cX12_own 4 (some .int) 2 45 [ob_rw cf n0, .int x1, .int x2] g (some (.int r.1)) r.2 := by
  refine ob_enter (by decide) (Nat.le_of_ble_eq_true rfl) (Or.inl rfl) ?_
  intro C hC F k
  subst hC
  exact b_X12_own_0 F h k
-- X12_move
def f_X12_move (g : ob_St) (n0 : Nat) (x1 : Int32) : Option (Int32 × ob_St) :=
  (ob_pI g 12 n0 0 0).bind fun g1 => (f_X12_isIn x1 0 999).bind fun v2 => (if v2 = 0 then (some ((-1), g1)) else ((ob_gR 12 n0 1).bind fun v3 => (f_X12_lowest g1 v3).bind fun v4 => (ob_gR 12 n0 1).bind fun v5 => (ob_rI g1 14 v5 0).bind fun v6 => (if ((v4 - v6) + x1) < 0 then (some ((-1), g1)) else ((ob_ck 12 n0 (f_X12_becomes g1 n0 0 x1)).bind fun v7 => some (v7.1, v7.2)))))
theorem b_X12_move_0 {C : ob_Cx} (F : ob_Fx C cX12_move 2 RX12 (some .int) 3 67) {g : ob_St} {n0 : Nat} {x1 : Int32} {r : (Int32 × ob_St)} (h : f_X12_move g n0 x1 = some r) (k : ob_Rt C (some (.int r.1)) r.2) : ob_Ev C 0 [(0, ob_rv C n0), (1, .int x1)] [] g := by
  unfold f_X12_move at h
  refine ob_rload_n F 0 dX12_move_0 rfl ?_
  refine ob_iconst F (v := 0) dX12_move_1 (by decide) ?_
  refine ob_putI F dX12_move_2 fp_X12_1 h fun g1 h => ?_
  refine ob_iload_n F 1 dX12_move_5 rfl ?_
  refine ob_iconst F (v := 0) dX12_move_6 (by decide) ?_
  refine ob_sipush F (v := 999) dX12_move_7 (by decide) ?_
  refine ob_cSi F dX12_move_10 im_X12_isIn tw6_67 h (fun b hb => t_X12_isIn hb) rfl rfl (Nat.le_of_ble_eq_true rfl) (by decide) fun v2 h => ?_
  refine ob_if_eq F 44 dX12_move_13 (by decide) h (fun h => ?_) (fun h => ?_)
  · refine ob_iconst F (v := (-1)) dX12_move_44 (by decide) ?_
    obtain rfl := Option.some.inj h
    exact ob_iret F dX12_move_45 k
  · refine ob_rload_n F 0 dX12_move_16 rfl ?_
    refine ob_getR F dX12_move_17 fl_X12_13 h fun v3 h => ?_
    refine ob_cSi F dX12_move_20 im_X12_lowest tw6_95 h (fun b hb => t_X12_lowest hb) rfl rfl (Nat.le_of_ble_eq_true rfl) (by decide) fun v4 h => ?_
    refine ob_rload_n F 0 dX12_move_23 rfl ?_
    refine ob_getR F dX12_move_24 fl_X12_13 h fun v5 h => ?_
    refine ob_iconst F (v := 0) dX12_move_27 (by decide) ?_
    refine ob_iald F dX12_move_28 h fun v6 h => ?_
    refine ob_isub F dX12_move_29 ?_
    refine ob_iload_n F 1 dX12_move_30 rfl ?_
    refine ob_iadd F dX12_move_31 ?_
    refine ob_if_lt F 44 dX12_move_32 (by decide) h (fun h => ?_) (fun h => ?_)
    · refine ob_iconst F (v := (-1)) dX12_move_44 (by decide) ?_
      obtain rfl := Option.some.inj h
      exact ob_iret F dX12_move_45 k
    · refine ob_rload_n F 0 dX12_move_35 rfl ?_
      refine ob_iconst F (v := 0) dX12_move_36 (by decide) ?_
      refine ob_iload_n F 1 dX12_move_37 rfl ?_
      refine ob_cViS F dX12_move_38 im_X12_becomes tw7_145 h (fun b hb => t_X12_becomes hb) rfl rfl (Nat.le_of_ble_eq_true rfl) (by decide) fun v7 h => ?_
      refine ob_goto F 45 dX12_move_41 (by decide) ?_
      obtain rfl := Option.some.inj h
      exact ob_iret F dX12_move_45 k
theorem t_X12_move {cf : ob_Cf} {g : ob_St} {n0 : Nat} {x1 : Int32} {r : (Int32 × ob_St)} (h : f_X12_move g n0 x1 = some r) : ob_Mt cf yX12_move cX12_move 2 (some .int) 3 67 [ob_rw cf n0, .int x1] g (some (.int r.1)) r.2 := by
  refine ob_enter (by decide) (Nat.le_of_ble_eq_true rfl) (Or.inl rfl) ?_
  intro C hC F k
  subst hC
  exact b_X12_move_0 F h k
-- X12_fall
def f_X12_fall (g : ob_St) (n0 : Nat) (x1 : Int32) (x2 : Int32) : Option (Int32 × ob_St) :=
  (ob_pI g 12 n0 0 0).bind fun g1 => (ob_gR 12 n0 1).bind fun v2 => (ob_rI g1 14 v2 2).bind fun v3 => (f_X12_isIn x1 1 v3).bind fun v4 => (if v4 = 0 then (some ((-1), g1)) else ((ob_gR 12 n0 1).bind fun v5 => (ob_rI g1 14 v5 1).bind fun v6 => (f_X12_isIn x2 1 (v6 - 1)).bind fun v7 => (if v7 = 0 then (some ((-1), g1)) else ((ob_gR 12 n0 1).bind fun v8 => (f_X12_lowest g1 v8).bind fun v9 => (ob_gR 12 n0 1).bind fun v10 => (ob_rI g1 14 v10 (3 + x1)).bind fun v11 => (if x2 ≤ (v9 + v11) then ((ob_ck 12 n0 (f_X12_becomes g1 n0 (3 + x1) x2)).bind fun v12 => some (v12.1, v12.2)) else (some ((-1), g1)))))))
theorem b_X12_fall_0 {C : ob_Cx} (F : ob_Fx C cX12_fall 3 RX12 (some .int) 3 67) {g : ob_St} {n0 : Nat} {x1 : Int32} {x2 : Int32} {r : (Int32 × ob_St)} (h : f_X12_fall g n0 x1 x2 = some r) (k : ob_Rt C (some (.int r.1)) r.2) : ob_Ev C 0 [(0, ob_rv C n0), (1, .int x1), (2, .int x2)] [] g := by
  unfold f_X12_fall at h
  refine ob_rload_n F 0 dX12_fall_0 rfl ?_
  refine ob_iconst F (v := 0) dX12_fall_1 (by decide) ?_
  refine ob_putI F dX12_fall_2 fp_X12_1 h fun g1 h => ?_
  refine ob_iload_n F 1 dX12_fall_5 rfl ?_
  refine ob_iconst F (v := 1) dX12_fall_6 (by decide) ?_
  refine ob_rload_n F 0 dX12_fall_7 rfl ?_
  refine ob_getR F dX12_fall_8 fl_X12_13 h fun v2 h => ?_
  refine ob_iconst F (v := 2) dX12_fall_11 (by decide) ?_
  refine ob_iald F dX12_fall_12 h fun v3 h => ?_
  refine ob_cSi F dX12_fall_13 im_X12_isIn tw6_67 h (fun b hb => t_X12_isIn hb) rfl rfl (Nat.le_of_ble_eq_true rfl) (by decide) fun v4 h => ?_
  refine ob_if_eq F 55 dX12_fall_16 (by decide) h (fun h => ?_) (fun h => ?_)
  · refine ob_iconst F (v := (-1)) dX12_fall_55 (by decide) ?_
    obtain rfl := Option.some.inj h
    exact ob_iret F dX12_fall_56 k
  · refine ob_iload_n F 2 dX12_fall_19 rfl ?_
    refine ob_iconst F (v := 1) dX12_fall_20 (by decide) ?_
    refine ob_rload_n F 0 dX12_fall_21 rfl ?_
    refine ob_getR F dX12_fall_22 fl_X12_13 h fun v5 h => ?_
    refine ob_iconst F (v := 1) dX12_fall_25 (by decide) ?_
    refine ob_iald F dX12_fall_26 h fun v6 h => ?_
    refine ob_iconst F (v := 1) dX12_fall_27 (by decide) ?_
    refine ob_isub F dX12_fall_28 ?_
    refine ob_cSi F dX12_fall_29 im_X12_isIn tw6_67 h (fun b hb => t_X12_isIn hb) rfl rfl (Nat.le_of_ble_eq_true rfl) (by decide) fun v7 h => ?_
    refine ob_if_eq F 55 dX12_fall_32 (by decide) h (fun h => ?_) (fun h => ?_)
    · refine ob_iconst F (v := (-1)) dX12_fall_55 (by decide) ?_
      obtain rfl := Option.some.inj h
      exact ob_iret F dX12_fall_56 k
    · refine ob_rload_n F 0 dX12_fall_35 rfl ?_
      refine ob_getR F dX12_fall_36 fl_X12_13 h fun v8 h => ?_
      refine ob_cSi F dX12_fall_39 im_X12_lowest tw6_95 h (fun b hb => t_X12_lowest hb) rfl rfl (Nat.le_of_ble_eq_true rfl) (by decide) fun v9 h => ?_
      refine ob_rload_n F 0 dX12_fall_42 rfl ?_
      refine ob_getR F dX12_fall_43 fl_X12_13 h fun v10 h => ?_
      refine ob_iconst F (v := 3) dX12_fall_46 (by decide) ?_
      refine ob_iload_n F 1 dX12_fall_47 rfl ?_
      refine ob_iadd F dX12_fall_48 ?_
      refine ob_iald F dX12_fall_49 h fun v11 h => ?_
      refine ob_iadd F dX12_fall_50 ?_
      refine ob_iload_n F 2 dX12_fall_51 rfl ?_
      refine ob_icmp_ge F 57 dX12_fall_52 (by decide) h (fun h => ?_) (fun h => ?_)
      · refine ob_rload_n F 0 dX12_fall_57 rfl ?_
        refine ob_iconst F (v := 3) dX12_fall_58 (by decide) ?_
        refine ob_iload_n F 1 dX12_fall_59 rfl ?_
        refine ob_iadd F dX12_fall_60 ?_
        refine ob_iload_n F 2 dX12_fall_61 rfl ?_
        refine ob_cViS F dX12_fall_62 im_X12_becomes tw7_145 h (fun b hb => t_X12_becomes hb) rfl rfl (Nat.le_of_ble_eq_true rfl) (by decide) fun v12 h => ?_
        obtain rfl := Option.some.inj h
        exact ob_iret F dX12_fall_65 k
      · refine ob_iconst F (v := (-1)) dX12_fall_55 (by decide) ?_
        obtain rfl := Option.some.inj h
        exact ob_iret F dX12_fall_56 k
theorem t_X12_fall {cf : ob_Cf} {g : ob_St} {n0 : Nat} {x1 : Int32} {x2 : Int32} {r : (Int32 × ob_St)} (h : f_X12_fall g n0 x1 x2 = some r) : ob_Mt cf yX12_fall cX12_fall 3 (some .int) 3 67 [ob_rw cf n0, .int x1, .int x2] g (some (.int r.1)) r.2 := by
  refine ob_enter (by decide) (Nat.le_of_ble_eq_true rfl) (Or.inl rfl) ?_
  intro C hC F k
  subst hC
  exact b_X12_fall_0 F h k
-- X12_cash
def f_X12_cash (g : ob_St) (n0 : Nat) (x1 : Int32) (x2 : Int32) : Option (Int32 × ob_St) :=
  (ob_pI g 12 n0 0 0).bind fun g1 => (ob_gR 12 n0 1).bind fun v2 => (ob_rI g1 14 v2 2).bind fun v3 => (f_X12_isIn x1 0 v3).bind fun v4 => (if v4 = 0 then (some ((-1), g1)) else ((f_X12_isIn x2 0 99).bind fun v5 => (if v5 = 0 then (some ((-1), g1)) else ((ob_ck 12 n0 (f_X12_becomes g1 n0 (16 + x1) x2)).bind fun v6 => some (v6.1, v6.2)))))
theorem b_X12_cash_0 {C : ob_Cx} (F : ob_Fx C cX12_cash 3 RX12 (some .int) 3 67) {g : ob_St} {n0 : Nat} {x1 : Int32} {x2 : Int32} {r : (Int32 × ob_St)} (h : f_X12_cash g n0 x1 x2 = some r) (k : ob_Rt C (some (.int r.1)) r.2) : ob_Ev C 0 [(0, ob_rv C n0), (1, .int x1), (2, .int x2)] [] g := by
  unfold f_X12_cash at h
  refine ob_rload_n F 0 dX12_cash_0 rfl ?_
  refine ob_iconst F (v := 0) dX12_cash_1 (by decide) ?_
  refine ob_putI F dX12_cash_2 fp_X12_1 h fun g1 h => ?_
  refine ob_iload_n F 1 dX12_cash_5 rfl ?_
  refine ob_iconst F (v := 0) dX12_cash_6 (by decide) ?_
  refine ob_rload_n F 0 dX12_cash_7 rfl ?_
  refine ob_getR F dX12_cash_8 fl_X12_13 h fun v2 h => ?_
  refine ob_iconst F (v := 2) dX12_cash_11 (by decide) ?_
  refine ob_iald F dX12_cash_12 h fun v3 h => ?_
  refine ob_cSi F dX12_cash_13 im_X12_isIn tw6_67 h (fun b hb => t_X12_isIn hb) rfl rfl (Nat.le_of_ble_eq_true rfl) (by decide) fun v4 h => ?_
  refine ob_if_eq F 41 dX12_cash_16 (by decide) h (fun h => ?_) (fun h => ?_)
  · refine ob_iconst F (v := (-1)) dX12_cash_41 (by decide) ?_
    obtain rfl := Option.some.inj h
    exact ob_iret F dX12_cash_42 k
  · refine ob_iload_n F 2 dX12_cash_19 rfl ?_
    refine ob_iconst F (v := 0) dX12_cash_20 (by decide) ?_
    refine ob_bipush F (v := 99) dX12_cash_21 (by decide) ?_
    refine ob_cSi F dX12_cash_23 im_X12_isIn tw6_67 h (fun b hb => t_X12_isIn hb) rfl rfl (Nat.le_of_ble_eq_true rfl) (by decide) fun v5 h => ?_
    refine ob_if_eq F 41 dX12_cash_26 (by decide) h (fun h => ?_) (fun h => ?_)
    · refine ob_iconst F (v := (-1)) dX12_cash_41 (by decide) ?_
      obtain rfl := Option.some.inj h
      exact ob_iret F dX12_cash_42 k
    · refine ob_rload_n F 0 dX12_cash_29 rfl ?_
      refine ob_bipush F (v := 16) dX12_cash_30 (by decide) ?_
      refine ob_iload_n F 1 dX12_cash_32 rfl ?_
      refine ob_iadd F dX12_cash_33 ?_
      refine ob_iload_n F 2 dX12_cash_34 rfl ?_
      refine ob_cViS F dX12_cash_35 im_X12_becomes tw7_145 h (fun b hb => t_X12_becomes hb) rfl rfl (Nat.le_of_ble_eq_true rfl) (by decide) fun v6 h => ?_
      refine ob_goto F 42 dX12_cash_38 (by decide) ?_
      obtain rfl := Option.some.inj h
      exact ob_iret F dX12_cash_42 k
theorem t_X12_cash {cf : ob_Cf} {g : ob_St} {n0 : Nat} {x1 : Int32} {x2 : Int32} {r : (Int32 × ob_St)} (h : f_X12_cash g n0 x1 x2 = some r) : ob_Mt cf yX12_cash cX12_cash 3 (some .int) 3 67 [ob_rw cf n0, .int x1, .int x2] g (some (.int r.1)) r.2 := by
  refine ob_enter (by decide) (Nat.le_of_ble_eq_true rfl) (Or.inl rfl) ?_
  intro C hC F k
  subst hC
  exact b_X12_cash_0 F h k
-- X12_restrike
def B_X12_restrike_46 (g : ob_St) (n0 : Nat) (x1 : Int32) (x2 : Int32) : Option (Int32 × ob_St) :=
  (ob_ck 12 n0 (f_X12_becomes g n0 ((30 + (10 * x1)) + 1) x2)).bind fun v5 => some (v5.1, v5.2)
theorem b_X12_restrike_46 {C : ob_Cx} (F : ob_Fx C cX12_restrike 3 RX12 (some .int) 3 67) {g : ob_St} {n0 : Nat} {x1 : Int32} {x2 : Int32} {r : (Int32 × ob_St)} (h : B_X12_restrike_46 g n0 x1 x2 = some r) (k : ob_Rt C (some (.int r.1)) r.2) : ob_Ev C 46 [(0, ob_rv C n0), (1, .int x1), (2, .int x2)] [] g := by
  unfold B_X12_restrike_46 at h
  refine ob_rload_n F 0 dX12_restrike_46 rfl ?_
  refine ob_bipush F (v := 30) dX12_restrike_47 (by decide) ?_
  refine ob_bipush F (v := 10) dX12_restrike_49 (by decide) ?_
  refine ob_iload_n F 1 dX12_restrike_51 rfl ?_
  refine ob_imul F dX12_restrike_52 ?_
  refine ob_iadd F dX12_restrike_53 ?_
  refine ob_iconst F (v := 1) dX12_restrike_54 (by decide) ?_
  refine ob_iadd F dX12_restrike_55 ?_
  refine ob_iload_n F 2 dX12_restrike_56 rfl ?_
  refine ob_cViS F dX12_restrike_57 im_X12_becomes tw7_145 h (fun b hb => t_X12_becomes hb) rfl rfl (Nat.le_of_ble_eq_true rfl) (by decide) fun v5 h => ?_
  obtain rfl := Option.some.inj h
  exact ob_iret F dX12_restrike_60 k
def f_X12_restrike (g : ob_St) (n0 : Nat) (x1 : Int32) (x2 : Int32) : Option (Int32 × ob_St) :=
  (ob_pI g 12 n0 0 0).bind fun g1 => (ob_ck 12 n0 (f_X12_isOption g1 n0 x1)).bind fun v2 => (if v2 = 0 then (some ((-1), g1)) else ((f_X12_isIn x2 0 999).bind fun v3 => (if v3 = 0 then (some ((-1), g1)) else ((ob_ck 12 n0 (f_X12_get g1 n0 x1 0)).bind fun v4 => (if v4 = 3 then ((ob_ck 12 n0 (f_X12_get g1 n0 x1 2)).bind fun v6 => (if x2 < v6 then (B_X12_restrike_46 g1 n0 x1 x2) else (some ((-1), g1)))) else (B_X12_restrike_46 g1 n0 x1 x2))))))
theorem b_X12_restrike_0 {C : ob_Cx} (F : ob_Fx C cX12_restrike 3 RX12 (some .int) 3 67) {g : ob_St} {n0 : Nat} {x1 : Int32} {x2 : Int32} {r : (Int32 × ob_St)} (h : f_X12_restrike g n0 x1 x2 = some r) (k : ob_Rt C (some (.int r.1)) r.2) : ob_Ev C 0 [(0, ob_rv C n0), (1, .int x1), (2, .int x2)] [] g := by
  unfold f_X12_restrike at h
  refine ob_rload_n F 0 dX12_restrike_0 rfl ?_
  refine ob_iconst F (v := 0) dX12_restrike_1 (by decide) ?_
  refine ob_putI F dX12_restrike_2 fp_X12_1 h fun g1 h => ?_
  refine ob_rload_n F 0 dX12_restrike_5 rfl ?_
  refine ob_iload_n F 1 dX12_restrike_6 rfl ?_
  refine ob_cVi F dX12_restrike_7 im_X12_isOption tw6_145 h (fun b hb => t_X12_isOption hb) rfl rfl (Nat.le_of_ble_eq_true rfl) (by decide) fun v2 h => ?_
  refine ob_if_eq F 44 dX12_restrike_10 (by decide) h (fun h => ?_) (fun h => ?_)
  · refine ob_iconst F (v := (-1)) dX12_restrike_44 (by decide) ?_
    obtain rfl := Option.some.inj h
    exact ob_iret F dX12_restrike_45 k
  · refine ob_iload_n F 2 dX12_restrike_13 rfl ?_
    refine ob_iconst F (v := 0) dX12_restrike_14 (by decide) ?_
    refine ob_sipush F (v := 999) dX12_restrike_15 (by decide) ?_
    refine ob_cSi F dX12_restrike_18 im_X12_isIn tw6_67 h (fun b hb => t_X12_isIn hb) rfl rfl (Nat.le_of_ble_eq_true rfl) (by decide) fun v3 h => ?_
    refine ob_if_eq F 44 dX12_restrike_21 (by decide) h (fun h => ?_) (fun h => ?_)
    · refine ob_iconst F (v := (-1)) dX12_restrike_44 (by decide) ?_
      obtain rfl := Option.some.inj h
      exact ob_iret F dX12_restrike_45 k
    · refine ob_rload_n F 0 dX12_restrike_24 rfl ?_
      refine ob_iload_n F 1 dX12_restrike_25 rfl ?_
      refine ob_iconst F (v := 0) dX12_restrike_26 (by decide) ?_
      refine ob_cVi F dX12_restrike_27 im_X12_get tw6_154 h (fun b hb => t_X12_get hb) rfl rfl (Nat.le_of_ble_eq_true rfl) (by decide) fun v4 h => ?_
      refine ob_iconst F (v := 3) dX12_restrike_30 (by decide) ?_
      refine ob_icmp_ne F 46 dX12_restrike_31 (by decide) h (fun h => ?_) (fun h => ?_)
      · exact b_X12_restrike_46 F h k
      · refine ob_iload_n F 2 dX12_restrike_34 rfl ?_
        refine ob_rload_n F 0 dX12_restrike_35 rfl ?_
        refine ob_iload_n F 1 dX12_restrike_36 rfl ?_
        refine ob_iconst F (v := 2) dX12_restrike_37 (by decide) ?_
        refine ob_cVi F dX12_restrike_38 im_X12_get tw6_154 h (fun b hb => t_X12_get hb) rfl rfl (Nat.le_of_ble_eq_true rfl) (by decide) fun v6 h => ?_
        refine ob_icmp_lt F 46 dX12_restrike_41 (by decide) h (fun h => ?_) (fun h => ?_)
        · exact b_X12_restrike_46 F h k
        · refine ob_iconst F (v := (-1)) dX12_restrike_44 (by decide) ?_
          obtain rfl := Option.some.inj h
          exact ob_iret F dX12_restrike_45 k
theorem t_X12_restrike {cf : ob_Cf} {g : ob_St} {n0 : Nat} {x1 : Int32} {x2 : Int32} {r : (Int32 × ob_St)} (h : f_X12_restrike g n0 x1 x2 = some r) : ob_Mt cf yX12_restrike cX12_restrike 3 (some .int) 3 67 [ob_rw cf n0, .int x1, .int x2] g (some (.int r.1)) r.2 := by
  refine ob_enter (by decide) (Nat.le_of_ble_eq_true rfl) (Or.inl rfl) ?_
  intro C hC F k
  subst hC
  exact b_X12_restrike_0 F h k
-- X12_undo
def f_X12_undo (g : ob_St) (n0 : Nat) : Option (Int32 × ob_St) :=
  (ob_pI g 12 n0 0 0).bind fun g1 => (ob_gI g1 12 n0 6).bind fun v2 => (if v2 = 0 then (some ((-1), g1)) else ((ob_gI g1 12 n0 6).bind fun v3 => (ob_pI g1 12 n0 6 (v3 - 1)).bind fun g4 => (ob_gR 12 n0 4).bind fun v5 => (ob_gI g4 12 n0 6).bind fun v6 => (ob_gR 12 n0 1).bind fun v7 => (f_X12_copies g4 v5 (70 * v6) v7 0).bind fun g8 => (ob_pZ g8 12 n0 19 0).bind fun g9 => (ob_gI g9 12 n0 6).bind fun v10 => some (v10, g9)))
theorem b_X12_undo_0 {C : ob_Cx} (F : ob_Fx C cX12_undo 1 RX12 (some .int) 1 24) {g : ob_St} {n0 : Nat} {r : (Int32 × ob_St)} (h : f_X12_undo g n0 = some r) (k : ob_Rt C (some (.int r.1)) r.2) : ob_Ev C 0 [(0, ob_rv C n0)] [] g := by
  unfold f_X12_undo at h
  refine ob_rload_n F 0 dX12_undo_0 rfl ?_
  refine ob_iconst F (v := 0) dX12_undo_1 (by decide) ?_
  refine ob_putI F dX12_undo_2 fp_X12_1 h fun g1 h => ?_
  refine ob_rload_n F 0 dX12_undo_5 rfl ?_
  refine ob_getI F dX12_undo_6 fl_X12_177 h fun v2 h => ?_
  refine ob_if_ne F 14 dX12_undo_9 (by decide) h (fun h => ?_) (fun h => ?_)
  · refine ob_rload_n F 0 dX12_undo_14 rfl ?_
    refine ob_dup F dX12_undo_15 rfl ?_
    refine ob_getI F dX12_undo_16 fl_X12_177 h fun v3 h => ?_
    refine ob_iconst F (v := 1) dX12_undo_19 (by decide) ?_
    refine ob_isub F dX12_undo_20 ?_
    refine ob_putI F dX12_undo_21 fp_X12_177 h fun g4 h => ?_
    refine ob_rload_n F 0 dX12_undo_24 rfl ?_
    refine ob_getR F dX12_undo_25 fl_X12_23 h fun v5 h => ?_
    refine ob_bipush F (v := 70) dX12_undo_28 (by decide) ?_
    refine ob_rload_n F 0 dX12_undo_30 rfl ?_
    refine ob_getI F dX12_undo_31 fl_X12_177 h fun v6 h => ?_
    refine ob_imul F dX12_undo_34 ?_
    refine ob_rload_n F 0 dX12_undo_35 rfl ?_
    refine ob_getR F dX12_undo_36 fl_X12_13 h fun v7 h => ?_
    refine ob_iconst F (v := 0) dX12_undo_39 (by decide) ?_
    refine ob_cSvS F dX12_undo_40 im_X12_copies tw6_122 h (fun b hb => t_X12_copies hb) rfl rfl (Nat.le_of_ble_eq_true rfl) (by decide) fun g8 h => ?_
    refine ob_rload_n F 0 dX12_undo_43 rfl ?_
    refine ob_iconst F (v := 0) dX12_undo_44 (by decide) ?_
    refine ob_putZ F dX12_undo_45 fp_X12_180 h fun g9 h => ?_
    refine ob_rload_n F 0 dX12_undo_48 rfl ?_
    refine ob_getI F dX12_undo_49 fl_X12_177 h fun v10 h => ?_
    obtain rfl := Option.some.inj h
    exact ob_iret F dX12_undo_52 k
  · refine ob_iconst F (v := (-1)) dX12_undo_12 (by decide) ?_
    obtain rfl := Option.some.inj h
    exact ob_iret F dX12_undo_13 k
theorem t_X12_undo {cf : ob_Cf} {g : ob_St} {n0 : Nat} {r : (Int32 × ob_St)} (h : f_X12_undo g n0 = some r) : ob_Mt cf yX12_undo cX12_undo 1 (some .int) 1 24 [ob_rw cf n0] g (some (.int r.1)) r.2 := by
  refine ob_enter (by decide) (Nat.le_of_ble_eq_true rfl) (Or.inl rfl) ?_
  intro C hC F k
  subst hC
  exact b_X12_undo_0 F h k
-- X12_image
def f_X12_image (g : ob_St) (n0 : Nat) (x1 : Int32) : Option (Int32 × ob_St) :=
  (ob_pI g 12 n0 0 0).bind fun g1 => (f_X12_isIn x1 0 1).bind fun v2 => (if v2 = 0 then (some (0, g1)) else ((ob_gR 12 n0 1).bind fun v3 => (ob_gR 12 n0 3).bind fun v4 => (f_X12_copies g1 v3 0 v4 (70 * x1)).bind fun g5 => (ob_gR 12 n0 5).bind fun v6 => (ob_wZ g5 v6 x1 1).bind fun g7 => some (1, g7)))
theorem b_X12_image_0 {C : ob_Cx} (F : ob_Fx C cX12_image 2 RX12 (some .boolean) 1 24) {g : ob_St} {n0 : Nat} {x1 : Int32} {r : (Int32 × ob_St)} (h : f_X12_image g n0 x1 = some r) (k : ob_Rt C (some (.int r.1)) r.2) : ob_Ev C 0 [(0, ob_rv C n0), (1, .int x1)] [] g := by
  unfold f_X12_image at h
  refine ob_rload_n F 0 dX12_image_0 rfl ?_
  refine ob_iconst F (v := 0) dX12_image_1 (by decide) ?_
  refine ob_putI F dX12_image_2 fp_X12_1 h fun g1 h => ?_
  refine ob_iload_n F 1 dX12_image_5 rfl ?_
  refine ob_iconst F (v := 0) dX12_image_6 (by decide) ?_
  refine ob_iconst F (v := 1) dX12_image_7 (by decide) ?_
  refine ob_cSi F dX12_image_8 im_X12_isIn tw6_67 h (fun b hb => t_X12_isIn hb) rfl rfl (Nat.le_of_ble_eq_true rfl) (by decide) fun v2 h => ?_
  refine ob_if_ne F 16 dX12_image_11 (by decide) h (fun h => ?_) (fun h => ?_)
  · refine ob_rload_n F 0 dX12_image_16 rfl ?_
    refine ob_getR F dX12_image_17 fl_X12_13 h fun v3 h => ?_
    refine ob_iconst F (v := 0) dX12_image_20 (by decide) ?_
    refine ob_rload_n F 0 dX12_image_21 rfl ?_
    refine ob_getR F dX12_image_22 fl_X12_20 h fun v4 h => ?_
    refine ob_bipush F (v := 70) dX12_image_25 (by decide) ?_
    refine ob_iload_n F 1 dX12_image_27 rfl ?_
    refine ob_imul F dX12_image_28 ?_
    refine ob_cSvS F dX12_image_29 im_X12_copies tw6_122 h (fun b hb => t_X12_copies hb) rfl rfl (Nat.le_of_ble_eq_true rfl) (by decide) fun g5 h => ?_
    refine ob_rload_n F 0 dX12_image_32 rfl ?_
    refine ob_getR F dX12_image_33 fl_X12_26 h fun v6 h => ?_
    refine ob_iload_n F 1 dX12_image_36 rfl ?_
    refine ob_iconst F (v := 1) dX12_image_37 (by decide) ?_
    refine ob_zast F dX12_image_38 h fun g7 h => ?_
    refine ob_iconst F (v := 1) dX12_image_39 (by decide) ?_
    obtain rfl := Option.some.inj h
    exact ob_zret F dX12_image_40 (Or.inr rfl) k
  · refine ob_iconst F (v := 0) dX12_image_14 (by decide) ?_
    obtain rfl := Option.some.inj h
    exact ob_zret F dX12_image_15 (Or.inl rfl) k
theorem t_X12_image {cf : ob_Cf} {g : ob_St} {n0 : Nat} {x1 : Int32} {r : (Int32 × ob_St)} (h : f_X12_image g n0 x1 = some r) : ob_Mt cf yX12_image cX12_image 2 (some .boolean) 1 24 [ob_rw cf n0, .int x1] g (some (.int r.1)) r.2 := by
  refine ob_enter (by decide) (Nat.le_of_ble_eq_true rfl) (Or.inr rfl) ?_
  intro C hC F k
  subst hC
  exact b_X12_image_0 F h k
-- X12_restore
def f_X12_restore (g : ob_St) (n0 : Nat) (x1 : Int32) : Option (Int32 × ob_St) :=
  (ob_pI g 12 n0 0 0).bind fun g1 => (f_X12_isIn x1 0 1).bind fun v2 => (if v2 = 0 then (some (0, g1)) else ((ob_gR 12 n0 5).bind fun v3 => (ob_rI g1 16 v3 x1).bind fun v4 => (if v4 = 0 then (some (0, g1)) else ((ob_gR 12 n0 3).bind fun v5 => (ob_gR 12 n0 1).bind fun v6 => (f_X12_copies g1 v5 (70 * x1) v6 0).bind fun g7 => (ob_pI g7 12 n0 6 0).bind fun g8 => (ob_pZ g8 12 n0 19 0).bind fun g9 => some (1, g9)))))
theorem b_X12_restore_0 {C : ob_Cx} (F : ob_Fx C cX12_restore 2 RX12 (some .boolean) 1 24) {g : ob_St} {n0 : Nat} {x1 : Int32} {r : (Int32 × ob_St)} (h : f_X12_restore g n0 x1 = some r) (k : ob_Rt C (some (.int r.1)) r.2) : ob_Ev C 0 [(0, ob_rv C n0), (1, .int x1)] [] g := by
  unfold f_X12_restore at h
  refine ob_rload_n F 0 dX12_restore_0 rfl ?_
  refine ob_iconst F (v := 0) dX12_restore_1 (by decide) ?_
  refine ob_putI F dX12_restore_2 fp_X12_1 h fun g1 h => ?_
  refine ob_iload_n F 1 dX12_restore_5 rfl ?_
  refine ob_iconst F (v := 0) dX12_restore_6 (by decide) ?_
  refine ob_iconst F (v := 1) dX12_restore_7 (by decide) ?_
  refine ob_cSi F dX12_restore_8 im_X12_isIn tw6_67 h (fun b hb => t_X12_isIn hb) rfl rfl (Nat.le_of_ble_eq_true rfl) (by decide) fun v2 h => ?_
  refine ob_if_eq F 23 dX12_restore_11 (by decide) h (fun h => ?_) (fun h => ?_)
  · refine ob_iconst F (v := 0) dX12_restore_23 (by decide) ?_
    obtain rfl := Option.some.inj h
    exact ob_zret F dX12_restore_24 (Or.inl rfl) k
  · refine ob_rload_n F 0 dX12_restore_14 rfl ?_
    refine ob_getR F dX12_restore_15 fl_X12_26 h fun v3 h => ?_
    refine ob_iload_n F 1 dX12_restore_18 rfl ?_
    refine ob_zald F dX12_restore_19 h fun v4 h => ?_
    refine ob_if_ne F 25 dX12_restore_20 (by decide) h (fun h => ?_) (fun h => ?_)
    · refine ob_rload_n F 0 dX12_restore_25 rfl ?_
      refine ob_getR F dX12_restore_26 fl_X12_20 h fun v5 h => ?_
      refine ob_bipush F (v := 70) dX12_restore_29 (by decide) ?_
      refine ob_iload_n F 1 dX12_restore_31 rfl ?_
      refine ob_imul F dX12_restore_32 ?_
      refine ob_rload_n F 0 dX12_restore_33 rfl ?_
      refine ob_getR F dX12_restore_34 fl_X12_13 h fun v6 h => ?_
      refine ob_iconst F (v := 0) dX12_restore_37 (by decide) ?_
      refine ob_cSvS F dX12_restore_38 im_X12_copies tw6_122 h (fun b hb => t_X12_copies hb) rfl rfl (Nat.le_of_ble_eq_true rfl) (by decide) fun g7 h => ?_
      refine ob_rload_n F 0 dX12_restore_41 rfl ?_
      refine ob_iconst F (v := 0) dX12_restore_42 (by decide) ?_
      refine ob_putI F dX12_restore_43 fp_X12_177 h fun g8 h => ?_
      refine ob_rload_n F 0 dX12_restore_46 rfl ?_
      refine ob_iconst F (v := 0) dX12_restore_47 (by decide) ?_
      refine ob_putZ F dX12_restore_48 fp_X12_180 h fun g9 h => ?_
      refine ob_iconst F (v := 1) dX12_restore_51 (by decide) ?_
      obtain rfl := Option.some.inj h
      exact ob_zret F dX12_restore_52 (Or.inr rfl) k
    · refine ob_iconst F (v := 0) dX12_restore_23 (by decide) ?_
      obtain rfl := Option.some.inj h
      exact ob_zret F dX12_restore_24 (Or.inl rfl) k
theorem t_X12_restore {cf : ob_Cf} {g : ob_St} {n0 : Nat} {x1 : Int32} {r : (Int32 × ob_St)} (h : f_X12_restore g n0 x1 = some r) : ob_Mt cf yX12_restore cX12_restore 2 (some .boolean) 1 24 [ob_rw cf n0, .int x1] g (some (.int r.1)) r.2 := by
  refine ob_enter (by decide) (Nat.le_of_ble_eq_true rfl) (Or.inr rfl) ?_
  intro C hC F k
  subst hC
  exact b_X12_restore_0 F h k
