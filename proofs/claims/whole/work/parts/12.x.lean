-- X11_pays
def B_X11_pays_33 (g : ob_St) (n0 : Nat) (x1 : Int32) (x2 : Int32) (x3 : Int32) (x4 : Int32) : Option (Int64 × ob_St) :=
  (ob_ck 11 n0 (f_X11_sheetOf g n0 x1)).bind fun v2 => (ob_gR 9 v2.1 0).bind fun v3 => (f_X11_nodeAt x2 x3).bind fun v4 => (ob_rL v2.2 v3 v4).bind fun v5 => (ob_gR 11 n0 8).bind fun v6 => (ob_ck 3 v6 (f_X3_scaleAt v2.2 v6 x2)).bind fun v7 => (f_X11_told v5 v7 x4).bind fun v8 => some (v8, v2.2)
theorem b_X11_pays_33 {C : ob_Cx} (F : ob_Fx C cX11_pays 5 RX11 (some .long) 7 175) {g : ob_St} {n0 : Nat} {x1 : Int32} {x2 : Int32} {x3 : Int32} {x4 : Int32} {r : (Int64 × ob_St)} (h : B_X11_pays_33 g n0 x1 x2 x3 x4 = some r) (k : ob_Rt C (some (.long r.1)) r.2) : ob_Ev C 33 [(0, ob_rv C n0), (1, .int x1), (2, .int x2), (3, .int x3), (4, .int x4)] [] g := by
  unfold B_X11_pays_33 at h
  refine ob_rload_n F 0 dX11_pays_33 rfl ?_
  refine ob_iload_n F 1 dX11_pays_34 rfl ?_
  refine ob_cVrS F dX11_pays_35 im_X11_sheetOf tw4_30 h (fun b hb => t_X11_sheetOf hb) rfl rfl (Nat.le_of_ble_eq_true rfl) (by decide) fun v2 h => ?_
  refine ob_getR F dX11_pays_38 fl_X11_207 h fun v3 h => ?_
  refine ob_iload_n F 2 dX11_pays_41 rfl ?_
  refine ob_iload_n F 3 dX11_pays_42 rfl ?_
  refine ob_cSi F dX11_pays_43 im_X11_nodeAt tw4_25 h (fun b hb => t_X11_nodeAt hb) rfl rfl (Nat.le_of_ble_eq_true rfl) (by decide) fun v4 h => ?_
  refine ob_lald F dX11_pays_46 h fun v5 h => ?_
  refine ob_rload_n F 0 dX11_pays_47 rfl ?_
  refine ob_getR F dX11_pays_48 fl_X11_56 h fun v6 h => ?_
  refine ob_iload_n F 2 dX11_pays_51 rfl ?_
  refine ob_cVl F dX11_pays_52 im_X3_scaleAt tw4_104 h (fun b hb => t_X3_scaleAt hb) rfl rfl (Nat.le_of_ble_eq_true rfl) (by decide) fun v7 h => ?_
  refine ob_iload F 4 dX11_pays_55 rfl ?_
  refine ob_cSl F dX11_pays_57 im_X11_told tw5_43 h (fun b hb => t_X11_told hb) rfl rfl (Nat.le_of_ble_eq_true rfl) (by decide) fun v8 h => ?_
  obtain rfl := Option.some.inj h
  exact ob_lret F dX11_pays_60 k
def B_X11_pays_30 (g : ob_St) (n0 : Nat) (x1 : Int32) (x2 : Int32) (x3 : Int32) (x4 : Int32) (s0 : Int32) : Option (Option (Int64 × ob_St)) :=
  (if s0 = 0 then (some none) else ((B_X11_pays_33 g n0 x1 x2 x3 x4).bind fun v9 => some (some v9)))
theorem b_X11_pays_30 {C : ob_Cx} (F : ob_Fx C cX11_pays 5 RX11 (some .long) 7 175) {g : ob_St} {n0 : Nat} {x1 : Int32} {x2 : Int32} {x3 : Int32} {x4 : Int32} {s0 : Int32} {r : (Option (Int64 × ob_St))} (F2 : ob_Fx (ob_w C) cX11_pays 5 RX11 (some .long) 7 175) (hst : (ob_cf C).1.stackTraces = false) (h : B_X11_pays_30 g n0 x1 x2 x3 x4 s0 = some r) (kR : ∀ v, r = some v → ob_Rt (ob_w C) (some (.long v.1)) v.2) (kT : ∀ pc ls, r = none → ob_Tw C pc ls g) : ob_Ev C 30 [(0, ob_rv C n0), (1, .int x1), (2, .int x2), (3, .int x3), (4, .int x4)] [.int s0] g := by
  unfold B_X11_pays_30 at h
  refine ob_callSX F F2 dX11_pays_30 im_X11_require tw4_219 (t_X11_require hst) rfl rfl (Nat.le_of_ble_eq_true rfl) (by decide) (fun g2 hw => ?_) (fun v g2 hw => ?_)
  · obtain ⟨q, rfl⟩ := ob_wl hw
    rw [if_pos q] at h
    exact kT _ _ (Option.some.inj h).symm
  · obtain ⟨q, rfl, rfl⟩ := ob_wr hw
    rw [if_neg q] at h
    obtain ⟨v9, hv, h⟩ := Option.bind_eq_some_iff.mp h
    exact b_X11_pays_33 F2 hv (kR _ (Option.some.inj h).symm)
def B_X11_pays_29 (g : ob_St) (n0 : Nat) (x1 : Int32) (x2 : Int32) (x3 : Int32) (x4 : Int32) : Option (Option (Int64 × ob_St)) :=
  B_X11_pays_30 g n0 x1 x2 x3 x4 0
theorem b_X11_pays_29 {C : ob_Cx} (F : ob_Fx C cX11_pays 5 RX11 (some .long) 7 175) {g : ob_St} {n0 : Nat} {x1 : Int32} {x2 : Int32} {x3 : Int32} {x4 : Int32} {r : (Option (Int64 × ob_St))} (F2 : ob_Fx (ob_w C) cX11_pays 5 RX11 (some .long) 7 175) (hst : (ob_cf C).1.stackTraces = false) (h : B_X11_pays_29 g n0 x1 x2 x3 x4 = some r) (kR : ∀ v, r = some v → ob_Rt (ob_w C) (some (.long v.1)) v.2) (kT : ∀ pc ls, r = none → ob_Tw C pc ls g) : ob_Ev C 29 [(0, ob_rv C n0), (1, .int x1), (2, .int x2), (3, .int x3), (4, .int x4)] [] g := by
  unfold B_X11_pays_29 at h
  refine ob_iconst F (v := 0) dX11_pays_29 (by decide) ?_
  exact b_X11_pays_30 F F2 hst h kR kT
def f_X11_pays (g : ob_St) (n0 : Nat) (x1 : Int32) (x2 : Int32) (x3 : Int32) (x4 : Int32) : Option (Option (Int64 × ob_St)) :=
  (ob_ck 11 n0 (f_X11_isOption g n0 x1)).bind fun v1 => (if v1 = 0 then (B_X11_pays_29 g n0 x1 x2 x3 x4) else ((ob_ck 11 n0 (f_X11_isNode g n0 x2 x3)).bind fun v10 => (if v10 = 0 then (B_X11_pays_29 g n0 x1 x2 x3 x4) else ((f_X11_isBit x4).bind fun v11 => (if v11 = 0 then (B_X11_pays_29 g n0 x1 x2 x3 x4) else (B_X11_pays_30 g n0 x1 x2 x3 x4 1))))))
theorem b_X11_pays_0 {C : ob_Cx} (F : ob_Fx C cX11_pays 5 RX11 (some .long) 7 175) {g : ob_St} {n0 : Nat} {x1 : Int32} {x2 : Int32} {x3 : Int32} {x4 : Int32} {r : (Option (Int64 × ob_St))} (F2 : ob_Fx (ob_w C) cX11_pays 5 RX11 (some .long) 7 175) (hst : (ob_cf C).1.stackTraces = false) (h : f_X11_pays g n0 x1 x2 x3 x4 = some r) (kR : ∀ v, r = some v → ob_Rt (ob_w C) (some (.long v.1)) v.2) (kT : ∀ pc ls, r = none → ob_Tw C pc ls g) : ob_Ev C 0 [(0, ob_rv C n0), (1, .int x1), (2, .int x2), (3, .int x3), (4, .int x4)] [] g := by
  unfold f_X11_pays at h
  refine ob_rload_n F 0 dX11_pays_0 rfl ?_
  refine ob_iload_n F 1 dX11_pays_1 rfl ?_
  refine ob_cVi F dX11_pays_2 im_X11_isOption tw3_176 h (fun b hb => t_X11_isOption hb) rfl rfl (Nat.le_of_ble_eq_true rfl) (by decide) fun v1 h => ?_
  refine ob_if_eq F 29 dX11_pays_5 (by decide) h (fun h => ?_) (fun h => ?_)
  · exact b_X11_pays_29 F F2 hst h kR kT
  · refine ob_rload_n F 0 dX11_pays_8 rfl ?_
    refine ob_iload_n F 2 dX11_pays_9 rfl ?_
    refine ob_iload_n F 3 dX11_pays_10 rfl ?_
    refine ob_cVi F dX11_pays_11 im_X11_isNode tw3_188 h (fun b hb => t_X11_isNode hb) rfl rfl (Nat.le_of_ble_eq_true rfl) (by decide) fun v10 h => ?_
    refine ob_if_eq F 29 dX11_pays_14 (by decide) h (fun h => ?_) (fun h => ?_)
    · exact b_X11_pays_29 F F2 hst h kR kT
    · refine ob_iload F 4 dX11_pays_17 rfl ?_
      refine ob_cSi F dX11_pays_19 im_X11_isBit tw4_113 h (fun b hb => t_X11_isBit hb) rfl rfl (Nat.le_of_ble_eq_true rfl) (by decide) fun v11 h => ?_
      refine ob_if_eq F 29 dX11_pays_22 (by decide) h (fun h => ?_) (fun h => ?_)
      · exact b_X11_pays_29 F F2 hst h kR kT
      · refine ob_iconst F (v := 1) dX11_pays_25 (by decide) ?_
        refine ob_goto F 30 dX11_pays_26 (by decide) ?_
        exact b_X11_pays_30 F F2 hst h kR kT
theorem t_X11_pays {cf : ob_Cf} {g : ob_St} {n0 : Nat} {x1 : Int32} {x2 : Int32} {x3 : Int32} {x4 : Int32} {r : (Option (Int64 × ob_St))} (hst : cf.1.stackTraces = false) (h : f_X11_pays g n0 x1 x2 x3 x4 = some r) : ob_Mx cf yX11_pays cX11_pays 5 (some .long) 7 175 [ob_rw cf n0, .int x1, .int x2, .int x3, .int x4] g (match r with | none => .inl g | some v => .inr (some (.long v.1), v.2)) := by
  refine ob_enterX (by decide) (Nat.le_of_ble_eq_true rfl) ?_ ?_
  · intro v g2 hw
    cases r with
    | none => cases hw
    | some z => cases hw; exact ⟨_, rfl⟩
  · intro C hC F F2 hR hT
    subst hC
    exact b_X11_pays_0 F F2 hst h (fun v e => by subst e; exact hR _ _ rfl) (fun pc ls e => by subst e; exact hT pc ls _ rfl)
-- X11_value
def B_X11_value_33 (g : ob_St) (n0 : Nat) (x1 : Int32) (x2 : Int32) (x3 : Int32) (x4 : Int32) : Option (Int64 × ob_St) :=
  (ob_ck 11 n0 (f_X11_sheetOf g n0 x1)).bind fun v2 => (ob_gR 9 v2.1 2).bind fun v3 => (ob_gR 4 v3 0).bind fun v4 => (f_X11_nodeAt x2 x3).bind fun v5 => (ob_rL v2.2 v4 v5).bind fun v6 => (ob_gR 11 n0 8).bind fun v7 => (ob_ck 3 v7 (f_X3_scaleAt v2.2 v7 x2)).bind fun v8 => (f_X11_told v6 v8 x4).bind fun v9 => some (v9, v2.2)
theorem b_X11_value_33 {C : ob_Cx} (F : ob_Fx C cX11_value 5 RX11 (some .long) 7 175) {g : ob_St} {n0 : Nat} {x1 : Int32} {x2 : Int32} {x3 : Int32} {x4 : Int32} {r : (Int64 × ob_St)} (h : B_X11_value_33 g n0 x1 x2 x3 x4 = some r) (k : ob_Rt C (some (.long r.1)) r.2) : ob_Ev C 33 [(0, ob_rv C n0), (1, .int x1), (2, .int x2), (3, .int x3), (4, .int x4)] [] g := by
  unfold B_X11_value_33 at h
  refine ob_rload_n F 0 dX11_value_33 rfl ?_
  refine ob_iload_n F 1 dX11_value_34 rfl ?_
  refine ob_cVrS F dX11_value_35 im_X11_sheetOf tw4_30 h (fun b hb => t_X11_sheetOf hb) rfl rfl (Nat.le_of_ble_eq_true rfl) (by decide) fun v2 h => ?_
  refine ob_getR F dX11_value_38 fl_X11_221 h fun v3 h => ?_
  refine ob_getR F dX11_value_41 fl_X11_225 h fun v4 h => ?_
  refine ob_iload_n F 2 dX11_value_44 rfl ?_
  refine ob_iload_n F 3 dX11_value_45 rfl ?_
  refine ob_cSi F dX11_value_46 im_X11_nodeAt tw4_25 h (fun b hb => t_X11_nodeAt hb) rfl rfl (Nat.le_of_ble_eq_true rfl) (by decide) fun v5 h => ?_
  refine ob_lald F dX11_value_49 h fun v6 h => ?_
  refine ob_rload_n F 0 dX11_value_50 rfl ?_
  refine ob_getR F dX11_value_51 fl_X11_56 h fun v7 h => ?_
  refine ob_iload_n F 2 dX11_value_54 rfl ?_
  refine ob_cVl F dX11_value_55 im_X3_scaleAt tw4_104 h (fun b hb => t_X3_scaleAt hb) rfl rfl (Nat.le_of_ble_eq_true rfl) (by decide) fun v8 h => ?_
  refine ob_iload F 4 dX11_value_58 rfl ?_
  refine ob_cSl F dX11_value_60 im_X11_told tw5_43 h (fun b hb => t_X11_told hb) rfl rfl (Nat.le_of_ble_eq_true rfl) (by decide) fun v9 h => ?_
  obtain rfl := Option.some.inj h
  exact ob_lret F dX11_value_63 k
def B_X11_value_30 (g : ob_St) (n0 : Nat) (x1 : Int32) (x2 : Int32) (x3 : Int32) (x4 : Int32) (s0 : Int32) : Option (Option (Int64 × ob_St)) :=
  (if s0 = 0 then (some none) else ((B_X11_value_33 g n0 x1 x2 x3 x4).bind fun v10 => some (some v10)))
theorem b_X11_value_30 {C : ob_Cx} (F : ob_Fx C cX11_value 5 RX11 (some .long) 7 175) {g : ob_St} {n0 : Nat} {x1 : Int32} {x2 : Int32} {x3 : Int32} {x4 : Int32} {s0 : Int32} {r : (Option (Int64 × ob_St))} (F2 : ob_Fx (ob_w C) cX11_value 5 RX11 (some .long) 7 175) (hst : (ob_cf C).1.stackTraces = false) (h : B_X11_value_30 g n0 x1 x2 x3 x4 s0 = some r) (kR : ∀ v, r = some v → ob_Rt (ob_w C) (some (.long v.1)) v.2) (kT : ∀ pc ls, r = none → ob_Tw C pc ls g) : ob_Ev C 30 [(0, ob_rv C n0), (1, .int x1), (2, .int x2), (3, .int x3), (4, .int x4)] [.int s0] g := by
  unfold B_X11_value_30 at h
  refine ob_callSX F F2 dX11_value_30 im_X11_require tw4_219 (t_X11_require hst) rfl rfl (Nat.le_of_ble_eq_true rfl) (by decide) (fun g2 hw => ?_) (fun v g2 hw => ?_)
  · obtain ⟨q, rfl⟩ := ob_wl hw
    rw [if_pos q] at h
    exact kT _ _ (Option.some.inj h).symm
  · obtain ⟨q, rfl, rfl⟩ := ob_wr hw
    rw [if_neg q] at h
    obtain ⟨v10, hv, h⟩ := Option.bind_eq_some_iff.mp h
    exact b_X11_value_33 F2 hv (kR _ (Option.some.inj h).symm)
def B_X11_value_29 (g : ob_St) (n0 : Nat) (x1 : Int32) (x2 : Int32) (x3 : Int32) (x4 : Int32) : Option (Option (Int64 × ob_St)) :=
  B_X11_value_30 g n0 x1 x2 x3 x4 0
theorem b_X11_value_29 {C : ob_Cx} (F : ob_Fx C cX11_value 5 RX11 (some .long) 7 175) {g : ob_St} {n0 : Nat} {x1 : Int32} {x2 : Int32} {x3 : Int32} {x4 : Int32} {r : (Option (Int64 × ob_St))} (F2 : ob_Fx (ob_w C) cX11_value 5 RX11 (some .long) 7 175) (hst : (ob_cf C).1.stackTraces = false) (h : B_X11_value_29 g n0 x1 x2 x3 x4 = some r) (kR : ∀ v, r = some v → ob_Rt (ob_w C) (some (.long v.1)) v.2) (kT : ∀ pc ls, r = none → ob_Tw C pc ls g) : ob_Ev C 29 [(0, ob_rv C n0), (1, .int x1), (2, .int x2), (3, .int x3), (4, .int x4)] [] g := by
  unfold B_X11_value_29 at h
  refine ob_iconst F (v := 0) dX11_value_29 (by decide) ?_
  exact b_X11_value_30 F F2 hst h kR kT
def f_X11_value (g : ob_St) (n0 : Nat) (x1 : Int32) (x2 : Int32) (x3 : Int32) (x4 : Int32) : Option (Option (Int64 × ob_St)) :=
  (ob_ck 11 n0 (f_X11_isOption g n0 x1)).bind fun v1 => (if v1 = 0 then (B_X11_value_29 g n0 x1 x2 x3 x4) else ((ob_ck 11 n0 (f_X11_isNode g n0 x2 x3)).bind fun v11 => (if v11 = 0 then (B_X11_value_29 g n0 x1 x2 x3 x4) else ((f_X11_isBit x4).bind fun v12 => (if v12 = 0 then (B_X11_value_29 g n0 x1 x2 x3 x4) else (B_X11_value_30 g n0 x1 x2 x3 x4 1))))))
theorem b_X11_value_0 {C : ob_Cx} (F : ob_Fx C cX11_value 5 RX11 (some .long) 7 175) {g : ob_St} {n0 : Nat} {x1 : Int32} {x2 : Int32} {x3 : Int32} {x4 : Int32} {r : (Option (Int64 × ob_St))} (F2 : ob_Fx (ob_w C) cX11_value 5 RX11 (some .long) 7 175) (hst : (ob_cf C).1.stackTraces = false) (h : f_X11_value g n0 x1 x2 x3 x4 = some r) (kR : ∀ v, r = some v → ob_Rt (ob_w C) (some (.long v.1)) v.2) (kT : ∀ pc ls, r = none → ob_Tw C pc ls g) : ob_Ev C 0 [(0, ob_rv C n0), (1, .int x1), (2, .int x2), (3, .int x3), (4, .int x4)] [] g := by
  unfold f_X11_value at h
  refine ob_rload_n F 0 dX11_value_0 rfl ?_
  refine ob_iload_n F 1 dX11_value_1 rfl ?_
  refine ob_cVi F dX11_value_2 im_X11_isOption tw3_176 h (fun b hb => t_X11_isOption hb) rfl rfl (Nat.le_of_ble_eq_true rfl) (by decide) fun v1 h => ?_
  refine ob_if_eq F 29 dX11_value_5 (by decide) h (fun h => ?_) (fun h => ?_)
  · exact b_X11_value_29 F F2 hst h kR kT
  · refine ob_rload_n F 0 dX11_value_8 rfl ?_
    refine ob_iload_n F 2 dX11_value_9 rfl ?_
    refine ob_iload_n F 3 dX11_value_10 rfl ?_
    refine ob_cVi F dX11_value_11 im_X11_isNode tw3_188 h (fun b hb => t_X11_isNode hb) rfl rfl (Nat.le_of_ble_eq_true rfl) (by decide) fun v11 h => ?_
    refine ob_if_eq F 29 dX11_value_14 (by decide) h (fun h => ?_) (fun h => ?_)
    · exact b_X11_value_29 F F2 hst h kR kT
    · refine ob_iload F 4 dX11_value_17 rfl ?_
      refine ob_cSi F dX11_value_19 im_X11_isBit tw4_113 h (fun b hb => t_X11_isBit hb) rfl rfl (Nat.le_of_ble_eq_true rfl) (by decide) fun v12 h => ?_
      refine ob_if_eq F 29 dX11_value_22 (by decide) h (fun h => ?_) (fun h => ?_)
      · exact b_X11_value_29 F F2 hst h kR kT
      · refine ob_iconst F (v := 1) dX11_value_25 (by decide) ?_
        refine ob_goto F 30 dX11_value_26 (by decide) ?_
        exact b_X11_value_30 F F2 hst h kR kT
theorem t_X11_value {cf : ob_Cf} {g : ob_St} {n0 : Nat} {x1 : Int32} {x2 : Int32} {x3 : Int32} {x4 : Int32} {r : (Option (Int64 × ob_St))} (hst : cf.1.stackTraces = false) (h : f_X11_value g n0 x1 x2 x3 x4 = some r) : ob_Mx cf yX11_value cX11_value 5 (some .long) 7 175 [ob_rw cf n0, .int x1, .int x2, .int x3, .int x4] g (match r with | none => .inl g | some v => .inr (some (.long v.1), v.2)) := by
  refine ob_enterX (by decide) (Nat.le_of_ble_eq_true rfl) ?_ ?_
  · intro v g2 hw
    cases r with
    | none => cases hw
    | some z => cases hw; exact ⟨_, rfl⟩
  · intro C hC F F2 hR hT
    subst hC
    exact b_X11_value_0 F F2 hst h (fun v e => by subst e; exact hR _ _ rfl) (fun pc ls e => by subst e; exact hT pc ls _ rfl)
-- X11_plain
def B_X11_plain_33 (g : ob_St) (n0 : Nat) (x1 : Int32) (x2 : Int32) (x3 : Int32) (x4 : Int32) : Option (Int64 × ob_St) :=
  (ob_ck 11 n0 (f_X11_sheetOf g n0 x1)).bind fun v2 => (ob_gR 9 v2.1 1).bind fun v3 => (ob_gR 4 v3 0).bind fun v4 => (f_X11_nodeAt x2 x3).bind fun v5 => (ob_rL v2.2 v4 v5).bind fun v6 => (ob_gR 11 n0 8).bind fun v7 => (ob_ck 3 v7 (f_X3_scaleAt v2.2 v7 x2)).bind fun v8 => (f_X11_told v6 v8 x4).bind fun v9 => some (v9, v2.2)
theorem b_X11_plain_33 {C : ob_Cx} (F : ob_Fx C cX11_plain 5 RX11 (some .long) 7 175) {g : ob_St} {n0 : Nat} {x1 : Int32} {x2 : Int32} {x3 : Int32} {x4 : Int32} {r : (Int64 × ob_St)} (h : B_X11_plain_33 g n0 x1 x2 x3 x4 = some r) (k : ob_Rt C (some (.long r.1)) r.2) : ob_Ev C 33 [(0, ob_rv C n0), (1, .int x1), (2, .int x2), (3, .int x3), (4, .int x4)] [] g := by
  unfold B_X11_plain_33 at h
  refine ob_rload_n F 0 dX11_plain_33 rfl ?_
  refine ob_iload_n F 1 dX11_plain_34 rfl ?_
  refine ob_cVrS F dX11_plain_35 im_X11_sheetOf tw4_30 h (fun b hb => t_X11_sheetOf hb) rfl rfl (Nat.le_of_ble_eq_true rfl) (by decide) fun v2 h => ?_
  refine ob_getR F dX11_plain_38 fl_X11_230 h fun v3 h => ?_
  refine ob_getR F dX11_plain_41 fl_X11_225 h fun v4 h => ?_
  refine ob_iload_n F 2 dX11_plain_44 rfl ?_
  refine ob_iload_n F 3 dX11_plain_45 rfl ?_
  refine ob_cSi F dX11_plain_46 im_X11_nodeAt tw4_25 h (fun b hb => t_X11_nodeAt hb) rfl rfl (Nat.le_of_ble_eq_true rfl) (by decide) fun v5 h => ?_
  refine ob_lald F dX11_plain_49 h fun v6 h => ?_
  refine ob_rload_n F 0 dX11_plain_50 rfl ?_
  refine ob_getR F dX11_plain_51 fl_X11_56 h fun v7 h => ?_
  refine ob_iload_n F 2 dX11_plain_54 rfl ?_
  refine ob_cVl F dX11_plain_55 im_X3_scaleAt tw4_104 h (fun b hb => t_X3_scaleAt hb) rfl rfl (Nat.le_of_ble_eq_true rfl) (by decide) fun v8 h => ?_
  refine ob_iload F 4 dX11_plain_58 rfl ?_
  refine ob_cSl F dX11_plain_60 im_X11_told tw5_43 h (fun b hb => t_X11_told hb) rfl rfl (Nat.le_of_ble_eq_true rfl) (by decide) fun v9 h => ?_
  obtain rfl := Option.some.inj h
  exact ob_lret F dX11_plain_63 k
def B_X11_plain_30 (g : ob_St) (n0 : Nat) (x1 : Int32) (x2 : Int32) (x3 : Int32) (x4 : Int32) (s0 : Int32) : Option (Option (Int64 × ob_St)) :=
  (if s0 = 0 then (some none) else ((B_X11_plain_33 g n0 x1 x2 x3 x4).bind fun v10 => some (some v10)))
theorem b_X11_plain_30 {C : ob_Cx} (F : ob_Fx C cX11_plain 5 RX11 (some .long) 7 175) {g : ob_St} {n0 : Nat} {x1 : Int32} {x2 : Int32} {x3 : Int32} {x4 : Int32} {s0 : Int32} {r : (Option (Int64 × ob_St))} (F2 : ob_Fx (ob_w C) cX11_plain 5 RX11 (some .long) 7 175) (hst : (ob_cf C).1.stackTraces = false) (h : B_X11_plain_30 g n0 x1 x2 x3 x4 s0 = some r) (kR : ∀ v, r = some v → ob_Rt (ob_w C) (some (.long v.1)) v.2) (kT : ∀ pc ls, r = none → ob_Tw C pc ls g) : ob_Ev C 30 [(0, ob_rv C n0), (1, .int x1), (2, .int x2), (3, .int x3), (4, .int x4)] [.int s0] g := by
  unfold B_X11_plain_30 at h
  refine ob_callSX F F2 dX11_plain_30 im_X11_require tw4_219 (t_X11_require hst) rfl rfl (Nat.le_of_ble_eq_true rfl) (by decide) (fun g2 hw => ?_) (fun v g2 hw => ?_)
  · obtain ⟨q, rfl⟩ := ob_wl hw
    rw [if_pos q] at h
    exact kT _ _ (Option.some.inj h).symm
  · obtain ⟨q, rfl, rfl⟩ := ob_wr hw
    rw [if_neg q] at h
    obtain ⟨v10, hv, h⟩ := Option.bind_eq_some_iff.mp h
    exact b_X11_plain_33 F2 hv (kR _ (Option.some.inj h).symm)
def B_X11_plain_29 (g : ob_St) (n0 : Nat) (x1 : Int32) (x2 : Int32) (x3 : Int32) (x4 : Int32) : Option (Option (Int64 × ob_St)) :=
  B_X11_plain_30 g n0 x1 x2 x3 x4 0
theorem b_X11_plain_29 {C : ob_Cx} (F : ob_Fx C cX11_plain 5 RX11 (some .long) 7 175) {g : ob_St} {n0 : Nat} {x1 : Int32} {x2 : Int32} {x3 : Int32} {x4 : Int32} {r : (Option (Int64 × ob_St))} (F2 : ob_Fx (ob_w C) cX11_plain 5 RX11 (some .long) 7 175) (hst : (ob_cf C).1.stackTraces = false) (h : B_X11_plain_29 g n0 x1 x2 x3 x4 = some r) (kR : ∀ v, r = some v → ob_Rt (ob_w C) (some (.long v.1)) v.2) (kT : ∀ pc ls, r = none → ob_Tw C pc ls g) : ob_Ev C 29 [(0, ob_rv C n0), (1, .int x1), (2, .int x2), (3, .int x3), (4, .int x4)] [] g := by
  unfold B_X11_plain_29 at h
  refine ob_iconst F (v := 0) dX11_plain_29 (by decide) ?_
  exact b_X11_plain_30 F F2 hst h kR kT
def f_X11_plain (g : ob_St) (n0 : Nat) (x1 : Int32) (x2 : Int32) (x3 : Int32) (x4 : Int32) : Option (Option (Int64 × ob_St)) :=
  (ob_ck 11 n0 (f_X11_isOption g n0 x1)).bind fun v1 => (if v1 = 0 then (B_X11_plain_29 g n0 x1 x2 x3 x4) else ((ob_ck 11 n0 (f_X11_isNode g n0 x2 x3)).bind fun v11 => (if v11 = 0 then (B_X11_plain_29 g n0 x1 x2 x3 x4) else ((f_X11_isBit x4).bind fun v12 => (if v12 = 0 then (B_X11_plain_29 g n0 x1 x2 x3 x4) else (B_X11_plain_30 g n0 x1 x2 x3 x4 1))))))
theorem b_X11_plain_0 {C : ob_Cx} (F : ob_Fx C cX11_plain 5 RX11 (some .long) 7 175) {g : ob_St} {n0 : Nat} {x1 : Int32} {x2 : Int32} {x3 : Int32} {x4 : Int32} {r : (Option (Int64 × ob_St))} (F2 : ob_Fx (ob_w C) cX11_plain 5 RX11 (some .long) 7 175) (hst : (ob_cf C).1.stackTraces = false) (h : f_X11_plain g n0 x1 x2 x3 x4 = some r) (kR : ∀ v, r = some v → ob_Rt (ob_w C) (some (.long v.1)) v.2) (kT : ∀ pc ls, r = none → ob_Tw C pc ls g) : ob_Ev C 0 [(0, ob_rv C n0), (1, .int x1), (2, .int x2), (3, .int x3), (4, .int x4)] [] g := by
  unfold f_X11_plain at h
  refine ob_rload_n F 0 dX11_plain_0 rfl ?_
  refine ob_iload_n F 1 dX11_plain_1 rfl ?_
  refine ob_cVi F dX11_plain_2 im_X11_isOption tw3_176 h (fun b hb => t_X11_isOption hb) rfl rfl (Nat.le_of_ble_eq_true rfl) (by decide) fun v1 h => ?_
  refine ob_if_eq F 29 dX11_plain_5 (by decide) h (fun h => ?_) (fun h => ?_)
  · exact b_X11_plain_29 F F2 hst h kR kT
  · refine ob_rload_n F 0 dX11_plain_8 rfl ?_
    refine ob_iload_n F 2 dX11_plain_9 rfl ?_
    refine ob_iload_n F 3 dX11_plain_10 rfl ?_
    refine ob_cVi F dX11_plain_11 im_X11_isNode tw3_188 h (fun b hb => t_X11_isNode hb) rfl rfl (Nat.le_of_ble_eq_true rfl) (by decide) fun v11 h => ?_
    refine ob_if_eq F 29 dX11_plain_14 (by decide) h (fun h => ?_) (fun h => ?_)
    · exact b_X11_plain_29 F F2 hst h kR kT
    · refine ob_iload F 4 dX11_plain_17 rfl ?_
      refine ob_cSi F dX11_plain_19 im_X11_isBit tw4_113 h (fun b hb => t_X11_isBit hb) rfl rfl (Nat.le_of_ble_eq_true rfl) (by decide) fun v12 h => ?_
      refine ob_if_eq F 29 dX11_plain_22 (by decide) h (fun h => ?_) (fun h => ?_)
      · exact b_X11_plain_29 F F2 hst h kR kT
      · refine ob_iconst F (v := 1) dX11_plain_25 (by decide) ?_
        refine ob_goto F 30 dX11_plain_26 (by decide) ?_
        exact b_X11_plain_30 F F2 hst h kR kT
theorem t_X11_plain {cf : ob_Cf} {g : ob_St} {n0 : Nat} {x1 : Int32} {x2 : Int32} {x3 : Int32} {x4 : Int32} {r : (Option (Int64 × ob_St))} (hst : cf.1.stackTraces = false) (h : f_X11_plain g n0 x1 x2 x3 x4 = some r) : ob_Mx cf yX11_plain cX11_plain 5 (some .long) 7 175 [ob_rw cf n0, .int x1, .int x2, .int x3, .int x4] g (match r with | none => .inl g | some v => .inr (some (.long v.1), v.2)) := by
  refine ob_enterX (by decide) (Nat.le_of_ble_eq_true rfl) ?_ ?_
  · intro v g2 hw
    cases r with
    | none => cases hw
    | some z => cases hw; exact ⟨_, rfl⟩
  · intro C hC F F2 hR hT
    subst hC
    exact b_X11_plain_0 F F2 hst h (fun v e => by subst e; exact hR _ _ rfl) (fun pc ls e => by subst e; exact hT pc ls _ rfl)
-- X11_held
def B_X11_held_33 (g : ob_St) (n0 : Nat) (x1 : Int32) (x2 : Int32) (x3 : Int32) (x4 : Int32) : Option (Int64 × ob_St) :=
  (ob_ck 11 n0 (f_X11_sheetOf g n0 x1)).bind fun v2 => (ob_gR 9 v2.1 2).bind fun v3 => (ob_gR 4 v3 0).bind fun v4 => (ob_gR 11 n0 8).bind fun v5 => (f_X11_nodeAt x2 x3).bind fun v6 => (ob_ck 3 v5 (f_X3_heldOf v2.2 v5 v4 x2 v6)).bind fun v7 => (ob_gR 11 n0 8).bind fun v8 => (ob_ck 3 v8 (f_X3_scaleAt v2.2 v8 x2)).bind fun v9 => (f_X11_told v7 v9 x4).bind fun v10 => some (v10, v2.2)
theorem b_X11_held_33 {C : ob_Cx} (F : ob_Fx C cX11_held 6 RX11 (some .long) 7 175) {g : ob_St} {n0 : Nat} {x1 : Int32} {x2 : Int32} {x3 : Int32} {x4 : Int32} {r : (Int64 × ob_St)} (h : B_X11_held_33 g n0 x1 x2 x3 x4 = some r) (k : ob_Rt C (some (.long r.1)) r.2) : ob_Ev C 33 [(0, ob_rv C n0), (1, .int x1), (2, .int x2), (3, .int x3), (4, .int x4)] [] g := by
  unfold B_X11_held_33 at h
  refine ob_rload_n F 0 dX11_held_33 rfl ?_
  refine ob_iload_n F 1 dX11_held_34 rfl ?_
  refine ob_cVrS F dX11_held_35 im_X11_sheetOf tw4_30 h (fun b hb => t_X11_sheetOf hb) rfl rfl (Nat.le_of_ble_eq_true rfl) (by decide) fun v2 h => ?_
  refine ob_getR F dX11_held_38 fl_X11_221 h fun v3 h => ?_
  refine ob_getR F dX11_held_41 fl_X11_225 h fun v4 h => ?_
  refine ob_rstore F (ls2 := [(5, ob_rv C v4), (0, ob_rv C n0), (1, .int x1), (2, .int x2), (3, .int x3), (4, .int x4)]) dX11_held_44 (by decide) rfl ?_
  refine ob_rload_n F 1 dX11_held_46 rfl ?_
  refine ob_getR F dX11_held_47 fl_X11_56 h fun v5 h => ?_
  refine ob_rload F 0 dX11_held_50 rfl ?_
  refine ob_iload_n F 3 dX11_held_52 rfl ?_
  refine ob_iload_n F 3 dX11_held_53 rfl ?_
  refine ob_iload_n F 4 dX11_held_54 rfl ?_
  refine ob_cSi F dX11_held_55 im_X11_nodeAt tw4_25 h (fun b hb => t_X11_nodeAt hb) rfl rfl (Nat.le_of_ble_eq_true rfl) (by decide) fun v6 h => ?_
  refine ob_cVl F dX11_held_58 im_X3_heldOf tw5_73 h (fun b hb => t_X3_heldOf hb) rfl rfl (Nat.le_of_ble_eq_true rfl) (by decide) fun v7 h => ?_
  refine ob_rload_n F 1 dX11_held_61 rfl ?_
  refine ob_getR F dX11_held_62 fl_X11_56 h fun v8 h => ?_
  refine ob_iload_n F 3 dX11_held_65 rfl ?_
  refine ob_cVl F dX11_held_66 im_X3_scaleAt tw4_104 h (fun b hb => t_X3_scaleAt hb) rfl rfl (Nat.le_of_ble_eq_true rfl) (by decide) fun v9 h => ?_
  refine ob_iload F 5 dX11_held_69 rfl ?_
  refine ob_cSl F dX11_held_71 im_X11_told tw5_43 h (fun b hb => t_X11_told hb) rfl rfl (Nat.le_of_ble_eq_true rfl) (by decide) fun v10 h => ?_
  obtain rfl := Option.some.inj h
  exact ob_lret F dX11_held_74 k
def B_X11_held_30 (g : ob_St) (n0 : Nat) (x1 : Int32) (x2 : Int32) (x3 : Int32) (x4 : Int32) (s0 : Int32) : Option (Option (Int64 × ob_St)) :=
  (if s0 = 0 then (some none) else ((B_X11_held_33 g n0 x1 x2 x3 x4).bind fun v11 => some (some v11)))
theorem b_X11_held_30 {C : ob_Cx} (F : ob_Fx C cX11_held 6 RX11 (some .long) 7 175) {g : ob_St} {n0 : Nat} {x1 : Int32} {x2 : Int32} {x3 : Int32} {x4 : Int32} {s0 : Int32} {r : (Option (Int64 × ob_St))} (F2 : ob_Fx (ob_w C) cX11_held 6 RX11 (some .long) 7 175) (hst : (ob_cf C).1.stackTraces = false) (h : B_X11_held_30 g n0 x1 x2 x3 x4 s0 = some r) (kR : ∀ v, r = some v → ob_Rt (ob_w C) (some (.long v.1)) v.2) (kT : ∀ pc ls, r = none → ob_Tw C pc ls g) : ob_Ev C 30 [(0, ob_rv C n0), (1, .int x1), (2, .int x2), (3, .int x3), (4, .int x4)] [.int s0] g := by
  unfold B_X11_held_30 at h
  refine ob_callSX F F2 dX11_held_30 im_X11_require tw4_219 (t_X11_require hst) rfl rfl (Nat.le_of_ble_eq_true rfl) (by decide) (fun g2 hw => ?_) (fun v g2 hw => ?_)
  · obtain ⟨q, rfl⟩ := ob_wl hw
    rw [if_pos q] at h
    exact kT _ _ (Option.some.inj h).symm
  · obtain ⟨q, rfl, rfl⟩ := ob_wr hw
    rw [if_neg q] at h
    obtain ⟨v11, hv, h⟩ := Option.bind_eq_some_iff.mp h
    exact b_X11_held_33 F2 hv (kR _ (Option.some.inj h).symm)
def B_X11_held_29 (g : ob_St) (n0 : Nat) (x1 : Int32) (x2 : Int32) (x3 : Int32) (x4 : Int32) : Option (Option (Int64 × ob_St)) :=
  B_X11_held_30 g n0 x1 x2 x3 x4 0
theorem b_X11_held_29 {C : ob_Cx} (F : ob_Fx C cX11_held 6 RX11 (some .long) 7 175) {g : ob_St} {n0 : Nat} {x1 : Int32} {x2 : Int32} {x3 : Int32} {x4 : Int32} {r : (Option (Int64 × ob_St))} (F2 : ob_Fx (ob_w C) cX11_held 6 RX11 (some .long) 7 175) (hst : (ob_cf C).1.stackTraces = false) (h : B_X11_held_29 g n0 x1 x2 x3 x4 = some r) (kR : ∀ v, r = some v → ob_Rt (ob_w C) (some (.long v.1)) v.2) (kT : ∀ pc ls, r = none → ob_Tw C pc ls g) : ob_Ev C 29 [(0, ob_rv C n0), (1, .int x1), (2, .int x2), (3, .int x3), (4, .int x4)] [] g := by
  unfold B_X11_held_29 at h
  refine ob_iconst F (v := 0) dX11_held_29 (by decide) ?_
  exact b_X11_held_30 F F2 hst h kR kT
def f_X11_held (g : ob_St) (n0 : Nat) (x1 : Int32) (x2 : Int32) (x3 : Int32) (x4 : Int32) : Option (Option (Int64 × ob_St)) :=
  (ob_ck 11 n0 (f_X11_isOption g n0 x1)).bind fun v1 => (if v1 = 0 then (B_X11_held_29 g n0 x1 x2 x3 x4) else ((ob_ck 11 n0 (f_X11_isNode g n0 x2 x3)).bind fun v12 => (if v12 = 0 then (B_X11_held_29 g n0 x1 x2 x3 x4) else ((f_X11_isBit x4).bind fun v13 => (if v13 = 0 then (B_X11_held_29 g n0 x1 x2 x3 x4) else (B_X11_held_30 g n0 x1 x2 x3 x4 1))))))
theorem b_X11_held_0 {C : ob_Cx} (F : ob_Fx C cX11_held 6 RX11 (some .long) 7 175) {g : ob_St} {n0 : Nat} {x1 : Int32} {x2 : Int32} {x3 : Int32} {x4 : Int32} {r : (Option (Int64 × ob_St))} (F2 : ob_Fx (ob_w C) cX11_held 6 RX11 (some .long) 7 175) (hst : (ob_cf C).1.stackTraces = false) (h : f_X11_held g n0 x1 x2 x3 x4 = some r) (kR : ∀ v, r = some v → ob_Rt (ob_w C) (some (.long v.1)) v.2) (kT : ∀ pc ls, r = none → ob_Tw C pc ls g) : ob_Ev C 0 [(0, ob_rv C n0), (1, .int x1), (2, .int x2), (3, .int x3), (4, .int x4)] [] g := by
  unfold f_X11_held at h
  refine ob_rload_n F 0 dX11_held_0 rfl ?_
  refine ob_iload_n F 1 dX11_held_1 rfl ?_
  refine ob_cVi F dX11_held_2 im_X11_isOption tw3_176 h (fun b hb => t_X11_isOption hb) rfl rfl (Nat.le_of_ble_eq_true rfl) (by decide) fun v1 h => ?_
  refine ob_if_eq F 29 dX11_held_5 (by decide) h (fun h => ?_) (fun h => ?_)
  · exact b_X11_held_29 F F2 hst h kR kT
  · refine ob_rload_n F 0 dX11_held_8 rfl ?_
    refine ob_iload_n F 2 dX11_held_9 rfl ?_
    refine ob_iload_n F 3 dX11_held_10 rfl ?_
    refine ob_cVi F dX11_held_11 im_X11_isNode tw3_188 h (fun b hb => t_X11_isNode hb) rfl rfl (Nat.le_of_ble_eq_true rfl) (by decide) fun v12 h => ?_
    refine ob_if_eq F 29 dX11_held_14 (by decide) h (fun h => ?_) (fun h => ?_)
    · exact b_X11_held_29 F F2 hst h kR kT
    · refine ob_iload F 4 dX11_held_17 rfl ?_
      refine ob_cSi F dX11_held_19 im_X11_isBit tw4_113 h (fun b hb => t_X11_isBit hb) rfl rfl (Nat.le_of_ble_eq_true rfl) (by decide) fun v13 h => ?_
      refine ob_if_eq F 29 dX11_held_22 (by decide) h (fun h => ?_) (fun h => ?_)
      · exact b_X11_held_29 F F2 hst h kR kT
      · refine ob_iconst F (v := 1) dX11_held_25 (by decide) ?_
        refine ob_goto F 30 dX11_held_26 (by decide) ?_
        exact b_X11_held_30 F F2 hst h kR kT
theorem t_X11_held {cf : ob_Cf} {g : ob_St} {n0 : Nat} {x1 : Int32} {x2 : Int32} {x3 : Int32} {x4 : Int32} {r : (Option (Int64 × ob_St))} (hst : cf.1.stackTraces = false) (h : f_X11_held g n0 x1 x2 x3 x4 = some r) : ob_Mx cf yX11_held cX11_held 6 (some .long) 7 175 [ob_rw cf n0, .int x1, .int x2, .int x3, .int x4] g (match r with | none => .inl g | some v => .inr (some (.long v.1), v.2)) := by
  refine ob_enterX (by decide) (Nat.le_of_ble_eq_true rfl) ?_ ?_
  · intro v g2 hw
    cases r with
    | none => cases hw
    | some z => cases hw; exact ⟨_, rfl⟩
  · intro C hC F F2 hR hT
    subst hC
    exact b_X11_held_0 F F2 hst h (fun v e => by subst e; exact hR _ _ rfl) (fun pc ls e => by subst e; exact hT pc ls _ rfl)
-- X11_stands
def B_X11_stands_33 (g : ob_St) (n0 : Nat) (x1 : Int32) (x2 : Int32) (x3 : Int32) (x4 : Int32) : Option (Int64 × ob_St) :=
  (ob_gR 11 n0 8).bind fun v2 => (ob_ck 11 n0 (f_X11_sheetOf g n0 x1)).bind fun v3 => (f_X11_nodeAt x2 x3).bind fun v4 => (ob_ck 3 v2 (f_X3_standing v3.2 v2 v3.1 x2 v4)).bind fun v5 => (ob_gR 11 n0 8).bind fun v6 => (ob_ck 3 v6 (f_X3_scaleAt v3.2 v6 x2)).bind fun v7 => (f_X11_told v5 v7 x4).bind fun v8 => some (v8, v3.2)
theorem b_X11_stands_33 {C : ob_Cx} (F : ob_Fx C cX11_stands 5 RX11 (some .long) 7 175) {g : ob_St} {n0 : Nat} {x1 : Int32} {x2 : Int32} {x3 : Int32} {x4 : Int32} {r : (Int64 × ob_St)} (h : B_X11_stands_33 g n0 x1 x2 x3 x4 = some r) (k : ob_Rt C (some (.long r.1)) r.2) : ob_Ev C 33 [(0, ob_rv C n0), (1, .int x1), (2, .int x2), (3, .int x3), (4, .int x4)] [] g := by
  unfold B_X11_stands_33 at h
  refine ob_rload_n F 0 dX11_stands_33 rfl ?_
  refine ob_getR F dX11_stands_34 fl_X11_56 h fun v2 h => ?_
  refine ob_rload_n F 0 dX11_stands_37 rfl ?_
  refine ob_iload_n F 1 dX11_stands_38 rfl ?_
  refine ob_cVrS F dX11_stands_39 im_X11_sheetOf tw4_30 h (fun b hb => t_X11_sheetOf hb) rfl rfl (Nat.le_of_ble_eq_true rfl) (by decide) fun v3 h => ?_
  refine ob_iload_n F 2 dX11_stands_42 rfl ?_
  refine ob_iload_n F 2 dX11_stands_43 rfl ?_
  refine ob_iload_n F 3 dX11_stands_44 rfl ?_
  refine ob_cSi F dX11_stands_45 im_X11_nodeAt tw4_25 h (fun b hb => t_X11_nodeAt hb) rfl rfl (Nat.le_of_ble_eq_true rfl) (by decide) fun v4 h => ?_
  refine ob_cVl F dX11_stands_48 im_X3_standing tw5_81 h (fun b hb => t_X3_standing hb) rfl rfl (Nat.le_of_ble_eq_true rfl) (by decide) fun v5 h => ?_
  refine ob_rload_n F 0 dX11_stands_51 rfl ?_
  refine ob_getR F dX11_stands_52 fl_X11_56 h fun v6 h => ?_
  refine ob_iload_n F 2 dX11_stands_55 rfl ?_
  refine ob_cVl F dX11_stands_56 im_X3_scaleAt tw4_104 h (fun b hb => t_X3_scaleAt hb) rfl rfl (Nat.le_of_ble_eq_true rfl) (by decide) fun v7 h => ?_
  refine ob_iload F 4 dX11_stands_59 rfl ?_
  refine ob_cSl F dX11_stands_61 im_X11_told tw5_43 h (fun b hb => t_X11_told hb) rfl rfl (Nat.le_of_ble_eq_true rfl) (by decide) fun v8 h => ?_
  obtain rfl := Option.some.inj h
  exact ob_lret F dX11_stands_64 k
def B_X11_stands_30 (g : ob_St) (n0 : Nat) (x1 : Int32) (x2 : Int32) (x3 : Int32) (x4 : Int32) (s0 : Int32) : Option (Option (Int64 × ob_St)) :=
  (if s0 = 0 then (some none) else ((B_X11_stands_33 g n0 x1 x2 x3 x4).bind fun v9 => some (some v9)))
theorem b_X11_stands_30 {C : ob_Cx} (F : ob_Fx C cX11_stands 5 RX11 (some .long) 7 175) {g : ob_St} {n0 : Nat} {x1 : Int32} {x2 : Int32} {x3 : Int32} {x4 : Int32} {s0 : Int32} {r : (Option (Int64 × ob_St))} (F2 : ob_Fx (ob_w C) cX11_stands 5 RX11 (some .long) 7 175) (hst : (ob_cf C).1.stackTraces = false) (h : B_X11_stands_30 g n0 x1 x2 x3 x4 s0 = some r) (kR : ∀ v, r = some v → ob_Rt (ob_w C) (some (.long v.1)) v.2) (kT : ∀ pc ls, r = none → ob_Tw C pc ls g) : ob_Ev C 30 [(0, ob_rv C n0), (1, .int x1), (2, .int x2), (3, .int x3), (4, .int x4)] [.int s0] g := by
  unfold B_X11_stands_30 at h
  refine ob_callSX F F2 dX11_stands_30 im_X11_require tw4_219 (t_X11_require hst) rfl rfl (Nat.le_of_ble_eq_true rfl) (by decide) (fun g2 hw => ?_) (fun v g2 hw => ?_)
  · obtain ⟨q, rfl⟩ := ob_wl hw
    rw [if_pos q] at h
    exact kT _ _ (Option.some.inj h).symm
  · obtain ⟨q, rfl, rfl⟩ := ob_wr hw
    rw [if_neg q] at h
    obtain ⟨v9, hv, h⟩ := Option.bind_eq_some_iff.mp h
    exact b_X11_stands_33 F2 hv (kR _ (Option.some.inj h).symm)
def B_X11_stands_29 (g : ob_St) (n0 : Nat) (x1 : Int32) (x2 : Int32) (x3 : Int32) (x4 : Int32) : Option (Option (Int64 × ob_St)) :=
  B_X11_stands_30 g n0 x1 x2 x3 x4 0
theorem b_X11_stands_29 {C : ob_Cx} (F : ob_Fx C cX11_stands 5 RX11 (some .long) 7 175) {g : ob_St} {n0 : Nat} {x1 : Int32} {x2 : Int32} {x3 : Int32} {x4 : Int32} {r : (Option (Int64 × ob_St))} (F2 : ob_Fx (ob_w C) cX11_stands 5 RX11 (some .long) 7 175) (hst : (ob_cf C).1.stackTraces = false) (h : B_X11_stands_29 g n0 x1 x2 x3 x4 = some r) (kR : ∀ v, r = some v → ob_Rt (ob_w C) (some (.long v.1)) v.2) (kT : ∀ pc ls, r = none → ob_Tw C pc ls g) : ob_Ev C 29 [(0, ob_rv C n0), (1, .int x1), (2, .int x2), (3, .int x3), (4, .int x4)] [] g := by
  unfold B_X11_stands_29 at h
  refine ob_iconst F (v := 0) dX11_stands_29 (by decide) ?_
  exact b_X11_stands_30 F F2 hst h kR kT
def f_X11_stands (g : ob_St) (n0 : Nat) (x1 : Int32) (x2 : Int32) (x3 : Int32) (x4 : Int32) : Option (Option (Int64 × ob_St)) :=
  (ob_ck 11 n0 (f_X11_isOption g n0 x1)).bind fun v1 => (if v1 = 0 then (B_X11_stands_29 g n0 x1 x2 x3 x4) else ((ob_ck 11 n0 (f_X11_isNode g n0 x2 x3)).bind fun v10 => (if v10 = 0 then (B_X11_stands_29 g n0 x1 x2 x3 x4) else ((f_X11_isBit x4).bind fun v11 => (if v11 = 0 then (B_X11_stands_29 g n0 x1 x2 x3 x4) else (B_X11_stands_30 g n0 x1 x2 x3 x4 1))))))
theorem b_X11_stands_0 {C : ob_Cx} (F : ob_Fx C cX11_stands 5 RX11 (some .long) 7 175) {g : ob_St} {n0 : Nat} {x1 : Int32} {x2 : Int32} {x3 : Int32} {x4 : Int32} {r : (Option (Int64 × ob_St))} (F2 : ob_Fx (ob_w C) cX11_stands 5 RX11 (some .long) 7 175) (hst : (ob_cf C).1.stackTraces = false) (h : f_X11_stands g n0 x1 x2 x3 x4 = some r) (kR : ∀ v, r = some v → ob_Rt (ob_w C) (some (.long v.1)) v.2) (kT : ∀ pc ls, r = none → ob_Tw C pc ls g) : ob_Ev C 0 [(0, ob_rv C n0), (1, .int x1), (2, .int x2), (3, .int x3), (4, .int x4)] [] g := by
  unfold f_X11_stands at h
  refine ob_rload_n F 0 dX11_stands_0 rfl ?_
  refine ob_iload_n F 1 dX11_stands_1 rfl ?_
  refine ob_cVi F dX11_stands_2 im_X11_isOption tw3_176 h (fun b hb => t_X11_isOption hb) rfl rfl (Nat.le_of_ble_eq_true rfl) (by decide) fun v1 h => ?_
  refine ob_if_eq F 29 dX11_stands_5 (by decide) h (fun h => ?_) (fun h => ?_)
  · exact b_X11_stands_29 F F2 hst h kR kT
  · refine ob_rload_n F 0 dX11_stands_8 rfl ?_
    refine ob_iload_n F 2 dX11_stands_9 rfl ?_
    refine ob_iload_n F 3 dX11_stands_10 rfl ?_
    refine ob_cVi F dX11_stands_11 im_X11_isNode tw3_188 h (fun b hb => t_X11_isNode hb) rfl rfl (Nat.le_of_ble_eq_true rfl) (by decide) fun v10 h => ?_
    refine ob_if_eq F 29 dX11_stands_14 (by decide) h (fun h => ?_) (fun h => ?_)
    · exact b_X11_stands_29 F F2 hst h kR kT
    · refine ob_iload F 4 dX11_stands_17 rfl ?_
      refine ob_cSi F dX11_stands_19 im_X11_isBit tw4_113 h (fun b hb => t_X11_isBit hb) rfl rfl (Nat.le_of_ble_eq_true rfl) (by decide) fun v11 h => ?_
      refine ob_if_eq F 29 dX11_stands_22 (by decide) h (fun h => ?_) (fun h => ?_)
      · exact b_X11_stands_29 F F2 hst h kR kT
      · refine ob_iconst F (v := 1) dX11_stands_25 (by decide) ?_
        refine ob_goto F 30 dX11_stands_26 (by decide) ?_
        exact b_X11_stands_30 F F2 hst h kR kT
theorem t_X11_stands {cf : ob_Cf} {g : ob_St} {n0 : Nat} {x1 : Int32} {x2 : Int32} {x3 : Int32} {x4 : Int32} {r : (Option (Int64 × ob_St))} (hst : cf.1.stackTraces = false) (h : f_X11_stands g n0 x1 x2 x3 x4 = some r) : ob_Mx cf yX11_stands cX11_stands 5 (some .long) 7 175 [ob_rw cf n0, .int x1, .int x2, .int x3, .int x4] g (match r with | none => .inl g | some v => .inr (some (.long v.1), v.2)) := by
  refine ob_enterX (by decide) (Nat.le_of_ble_eq_true rfl) ?_ ?_
  · intro v g2 hw
    cases r with
    | none => cases hw
    | some z => cases hw; exact ⟨_, rfl⟩
  · intro C hC F F2 hR hT
    subst hC
    exact b_X11_stands_0 F F2 hst h (fun v e => by subst e; exact hR _ _ rfl) (fun pc ls e => by subst e; exact hT pc ls _ rfl)
-- X11_ending
def B_X11_ending_41 (g : ob_St) (n0 : Nat) (x1 : Int32) (x2 : Int32) (x3 : Int32) (x4 : Int32) : Option (Int64 × ob_St) :=
  (ob_ck 11 n0 (f_X11_sheetOf g n0 x1)).bind fun v2 => (ob_gR 11 n0 9).bind fun v3 => (ob_ck 6 v3 (f_X6_follow v2.2 v3 v2.1 0)).bind fun g4 => (ob_gR 11 n0 9).bind fun v5 => (ob_ck 6 v5 (f_X6_endingAt g4 v5 v2.1 x2 x3)).bind fun v6 => (ob_gR 11 n0 8).bind fun v7 => (ob_gR 3 v7 3).bind fun v8 => (ob_rL g4 v8 x2).bind fun v9 => (f_X11_told v6 v9 x4).bind fun v10 => some (v10, g4)
theorem b_X11_ending_41 {C : ob_Cx} (F : ob_Fx C cX11_ending 6 RX11 (some .long) 7 175) {g : ob_St} {n0 : Nat} {x1 : Int32} {x2 : Int32} {x3 : Int32} {x4 : Int32} {r : (Int64 × ob_St)} (h : B_X11_ending_41 g n0 x1 x2 x3 x4 = some r) (k : ob_Rt C (some (.long r.1)) r.2) : ob_Ev C 41 [(0, ob_rv C n0), (1, .int x1), (2, .int x2), (3, .int x3), (4, .int x4)] [] g := by
  unfold B_X11_ending_41 at h
  refine ob_rload_n F 0 dX11_ending_41 rfl ?_
  refine ob_iload_n F 1 dX11_ending_42 rfl ?_
  refine ob_cVrS F dX11_ending_43 im_X11_sheetOf tw4_30 h (fun b hb => t_X11_sheetOf hb) rfl rfl (Nat.le_of_ble_eq_true rfl) (by decide) fun v2 h => ?_
  refine ob_rstore F (ls2 := [(5, ob_rv C v2.1), (0, ob_rv C n0), (1, .int x1), (2, .int x2), (3, .int x3), (4, .int x4)]) dX11_ending_46 (by decide) rfl ?_
  refine ob_rload_n F 1 dX11_ending_48 rfl ?_
  refine ob_getR F dX11_ending_49 fl_X11_65 h fun v3 h => ?_
  refine ob_rload F 0 dX11_ending_52 rfl ?_
  refine ob_iconst F (v := 0) dX11_ending_54 (by decide) ?_
  refine ob_cVvS F dX11_ending_55 im_X6_follow tw4_42 h (fun b hb => t_X6_follow hb) rfl rfl (Nat.le_of_ble_eq_true rfl) (by decide) fun g4 h => ?_
  refine ob_rload_n F 1 dX11_ending_58 rfl ?_
  refine ob_getR F dX11_ending_59 fl_X11_65 h fun v5 h => ?_
  refine ob_rload F 0 dX11_ending_62 rfl ?_
  refine ob_iload_n F 3 dX11_ending_64 rfl ?_
  refine ob_iload_n F 4 dX11_ending_65 rfl ?_
  refine ob_cVl F dX11_ending_66 im_X6_endingAt tw5_93 h (fun b hb => t_X6_endingAt hb) rfl rfl (Nat.le_of_ble_eq_true rfl) (by decide) fun v6 h => ?_
  refine ob_rload_n F 1 dX11_ending_69 rfl ?_
  refine ob_getR F dX11_ending_70 fl_X11_56 h fun v7 h => ?_
  refine ob_getR F dX11_ending_73 fl_X11_254 h fun v8 h => ?_
  refine ob_iload_n F 3 dX11_ending_76 rfl ?_
  refine ob_lald F dX11_ending_77 h fun v9 h => ?_
  refine ob_iload F 5 dX11_ending_78 rfl ?_
  refine ob_cSl F dX11_ending_80 im_X11_told tw5_43 h (fun b hb => t_X11_told hb) rfl rfl (Nat.le_of_ble_eq_true rfl) (by decide) fun v10 h => ?_
  obtain rfl := Option.some.inj h
  exact ob_lret F dX11_ending_83 k
def B_X11_ending_38 (g : ob_St) (n0 : Nat) (x1 : Int32) (x2 : Int32) (x3 : Int32) (x4 : Int32) (s0 : Int32) : Option (Option (Int64 × ob_St)) :=
  (if s0 = 0 then (some none) else ((B_X11_ending_41 g n0 x1 x2 x3 x4).bind fun v11 => some (some v11)))
theorem b_X11_ending_38 {C : ob_Cx} (F : ob_Fx C cX11_ending 6 RX11 (some .long) 7 175) {g : ob_St} {n0 : Nat} {x1 : Int32} {x2 : Int32} {x3 : Int32} {x4 : Int32} {s0 : Int32} {r : (Option (Int64 × ob_St))} (F2 : ob_Fx (ob_w C) cX11_ending 6 RX11 (some .long) 7 175) (hst : (ob_cf C).1.stackTraces = false) (h : B_X11_ending_38 g n0 x1 x2 x3 x4 s0 = some r) (kR : ∀ v, r = some v → ob_Rt (ob_w C) (some (.long v.1)) v.2) (kT : ∀ pc ls, r = none → ob_Tw C pc ls g) : ob_Ev C 38 [(0, ob_rv C n0), (1, .int x1), (2, .int x2), (3, .int x3), (4, .int x4)] [.int s0] g := by
  unfold B_X11_ending_38 at h
  refine ob_callSX F F2 dX11_ending_38 im_X11_require tw4_219 (t_X11_require hst) rfl rfl (Nat.le_of_ble_eq_true rfl) (by decide) (fun g2 hw => ?_) (fun v g2 hw => ?_)
  · obtain ⟨q, rfl⟩ := ob_wl hw
    rw [if_pos q] at h
    exact kT _ _ (Option.some.inj h).symm
  · obtain ⟨q, rfl, rfl⟩ := ob_wr hw
    rw [if_neg q] at h
    obtain ⟨v11, hv, h⟩ := Option.bind_eq_some_iff.mp h
    exact b_X11_ending_41 F2 hv (kR _ (Option.some.inj h).symm)
def B_X11_ending_37 (g : ob_St) (n0 : Nat) (x1 : Int32) (x2 : Int32) (x3 : Int32) (x4 : Int32) : Option (Option (Int64 × ob_St)) :=
  B_X11_ending_38 g n0 x1 x2 x3 x4 0
theorem b_X11_ending_37 {C : ob_Cx} (F : ob_Fx C cX11_ending 6 RX11 (some .long) 7 175) {g : ob_St} {n0 : Nat} {x1 : Int32} {x2 : Int32} {x3 : Int32} {x4 : Int32} {r : (Option (Int64 × ob_St))} (F2 : ob_Fx (ob_w C) cX11_ending 6 RX11 (some .long) 7 175) (hst : (ob_cf C).1.stackTraces = false) (h : B_X11_ending_37 g n0 x1 x2 x3 x4 = some r) (kR : ∀ v, r = some v → ob_Rt (ob_w C) (some (.long v.1)) v.2) (kT : ∀ pc ls, r = none → ob_Tw C pc ls g) : ob_Ev C 37 [(0, ob_rv C n0), (1, .int x1), (2, .int x2), (3, .int x3), (4, .int x4)] [] g := by
  unfold B_X11_ending_37 at h
  refine ob_iconst F (v := 0) dX11_ending_37 (by decide) ?_
  exact b_X11_ending_38 F F2 hst h kR kT
def f_X11_ending (g : ob_St) (n0 : Nat) (x1 : Int32) (x2 : Int32) (x3 : Int32) (x4 : Int32) : Option (Option (Int64 × ob_St)) :=
  (ob_ck 11 n0 (f_X11_isOption g n0 x1)).bind fun v1 => (if v1 = 0 then (B_X11_ending_37 g n0 x1 x2 x3 x4) else ((ob_ck 11 n0 (f_X11_isStep g n0 x2)).bind fun v12 => (if v12 = 0 then (B_X11_ending_37 g n0 x1 x2 x3 x4) else ((if x3 < 0 then (B_X11_ending_37 g n0 x1 x2 x3 x4) else ((if 4 ≤ x3 then (B_X11_ending_37 g n0 x1 x2 x3 x4) else ((f_X11_isBit x4).bind fun v13 => (if v13 = 0 then (B_X11_ending_37 g n0 x1 x2 x3 x4) else (B_X11_ending_38 g n0 x1 x2 x3 x4 1))))))))))
theorem b_X11_ending_0 {C : ob_Cx} (F : ob_Fx C cX11_ending 6 RX11 (some .long) 7 175) {g : ob_St} {n0 : Nat} {x1 : Int32} {x2 : Int32} {x3 : Int32} {x4 : Int32} {r : (Option (Int64 × ob_St))} (F2 : ob_Fx (ob_w C) cX11_ending 6 RX11 (some .long) 7 175) (hst : (ob_cf C).1.stackTraces = false) (h : f_X11_ending g n0 x1 x2 x3 x4 = some r) (kR : ∀ v, r = some v → ob_Rt (ob_w C) (some (.long v.1)) v.2) (kT : ∀ pc ls, r = none → ob_Tw C pc ls g) : ob_Ev C 0 [(0, ob_rv C n0), (1, .int x1), (2, .int x2), (3, .int x3), (4, .int x4)] [] g := by
  unfold f_X11_ending at h
  refine ob_rload_n F 0 dX11_ending_0 rfl ?_
  refine ob_iload_n F 1 dX11_ending_1 rfl ?_
  refine ob_cVi F dX11_ending_2 im_X11_isOption tw3_176 h (fun b hb => t_X11_isOption hb) rfl rfl (Nat.le_of_ble_eq_true rfl) (by decide) fun v1 h => ?_
  refine ob_if_eq F 37 dX11_ending_5 (by decide) h (fun h => ?_) (fun h => ?_)
  · exact b_X11_ending_37 F F2 hst h kR kT
  · refine ob_rload_n F 0 dX11_ending_8 rfl ?_
    refine ob_iload_n F 2 dX11_ending_9 rfl ?_
    refine ob_cVi F dX11_ending_10 im_X11_isStep tw3_168 h (fun b hb => t_X11_isStep hb) rfl rfl (Nat.le_of_ble_eq_true rfl) (by decide) fun v12 h => ?_
    refine ob_if_eq F 37 dX11_ending_13 (by decide) h (fun h => ?_) (fun h => ?_)
    · exact b_X11_ending_37 F F2 hst h kR kT
    · refine ob_iload_n F 3 dX11_ending_16 rfl ?_
      refine ob_if_lt F 37 dX11_ending_17 (by decide) h (fun h => ?_) (fun h => ?_)
      · exact b_X11_ending_37 F F2 hst h kR kT
      · refine ob_iload_n F 3 dX11_ending_20 rfl ?_
        refine ob_iconst F (v := 4) dX11_ending_21 (by decide) ?_
        refine ob_icmp_ge F 37 dX11_ending_22 (by decide) h (fun h => ?_) (fun h => ?_)
        · exact b_X11_ending_37 F F2 hst h kR kT
        · refine ob_iload F 4 dX11_ending_25 rfl ?_
          refine ob_cSi F dX11_ending_27 im_X11_isBit tw4_113 h (fun b hb => t_X11_isBit hb) rfl rfl (Nat.le_of_ble_eq_true rfl) (by decide) fun v13 h => ?_
          refine ob_if_eq F 37 dX11_ending_30 (by decide) h (fun h => ?_) (fun h => ?_)
          · exact b_X11_ending_37 F F2 hst h kR kT
          · refine ob_iconst F (v := 1) dX11_ending_33 (by decide) ?_
            refine ob_goto F 38 dX11_ending_34 (by decide) ?_
            exact b_X11_ending_38 F F2 hst h kR kT
theorem t_X11_ending {cf : ob_Cf} {g : ob_St} {n0 : Nat} {x1 : Int32} {x2 : Int32} {x3 : Int32} {x4 : Int32} {r : (Option (Int64 × ob_St))} (hst : cf.1.stackTraces = false) (h : f_X11_ending g n0 x1 x2 x3 x4 = some r) : ob_Mx cf yX11_ending cX11_ending 6 (some .long) 7 175 [ob_rw cf n0, .int x1, .int x2, .int x3, .int x4] g (match r with | none => .inl g | some v => .inr (some (.long v.1), v.2)) := by
  refine ob_enterX (by decide) (Nat.le_of_ble_eq_true rfl) ?_ ?_
  · intro v g2 hw
    cases r with
    | none => cases hw
    | some z => cases hw; exact ⟨_, rfl⟩
  · intro C hC F F2 hR hT
    subst hC
    exact b_X11_ending_0 F F2 hst h (fun v e => by subst e; exact hR _ _ rfl) (fun pc ls e => by subst e; exact hT pc ls _ rfl)
-- X11_life
def B_X11_life_23 (g : ob_St) (n0 : Nat) (x1 : Int32) (x2 : Int32) : Option (Int64 × ob_St) :=
  (ob_ck 11 n0 (f_X11_sheetOf g n0 x1)).bind fun v2 => (ob_gR 11 n0 9).bind fun v3 => (ob_ck 6 v3 (f_X6_follow v2.2 v3 v2.1 0)).bind fun g4 => (ob_gR 11 n0 9).bind fun v5 => (ob_ck 6 v5 (f_X6_lifeOf g4 v5 v2.1)).bind fun v6 => (ob_gR 11 n0 8).bind fun v7 => (ob_ck 3 v7 (f_X3_scaleAt g4 v7 0)).bind fun v8 => (f_X11_told v6 v8 x2).bind fun v9 => some (v9, g4)
theorem b_X11_life_23 {C : ob_Cx} (F : ob_Fx C cX11_life 4 RX11 (some .long) 7 175) {g : ob_St} {n0 : Nat} {x1 : Int32} {x2 : Int32} {r : (Int64 × ob_St)} (h : B_X11_life_23 g n0 x1 x2 = some r) (k : ob_Rt C (some (.long r.1)) r.2) : ob_Ev C 23 [(0, ob_rv C n0), (1, .int x1), (2, .int x2)] [] g := by
  unfold B_X11_life_23 at h
  refine ob_rload_n F 0 dX11_life_23 rfl ?_
  refine ob_iload_n F 1 dX11_life_24 rfl ?_
  refine ob_cVrS F dX11_life_25 im_X11_sheetOf tw4_30 h (fun b hb => t_X11_sheetOf hb) rfl rfl (Nat.le_of_ble_eq_true rfl) (by decide) fun v2 h => ?_
  refine ob_rstore_n F (ls2 := [(3, ob_rv C v2.1), (0, ob_rv C n0), (1, .int x1), (2, .int x2)]) dX11_life_28 (by decide) rfl ?_
  refine ob_rload_n F 1 dX11_life_29 rfl ?_
  refine ob_getR F dX11_life_30 fl_X11_65 h fun v3 h => ?_
  refine ob_rload_n F 0 dX11_life_33 rfl ?_
  refine ob_iconst F (v := 0) dX11_life_34 (by decide) ?_
  refine ob_cVvS F dX11_life_35 im_X6_follow tw4_42 h (fun b hb => t_X6_follow hb) rfl rfl (Nat.le_of_ble_eq_true rfl) (by decide) fun g4 h => ?_
  refine ob_rload_n F 1 dX11_life_38 rfl ?_
  refine ob_getR F dX11_life_39 fl_X11_65 h fun v5 h => ?_
  refine ob_rload_n F 0 dX11_life_42 rfl ?_
  refine ob_cVl F dX11_life_43 im_X6_lifeOf tw5_104 h (fun b hb => t_X6_lifeOf hb) rfl rfl (Nat.le_of_ble_eq_true rfl) (by decide) fun v6 h => ?_
  refine ob_rload_n F 1 dX11_life_46 rfl ?_
  refine ob_getR F dX11_life_47 fl_X11_56 h fun v7 h => ?_
  refine ob_iconst F (v := 0) dX11_life_50 (by decide) ?_
  refine ob_cVl F dX11_life_51 im_X3_scaleAt tw4_104 h (fun b hb => t_X3_scaleAt hb) rfl rfl (Nat.le_of_ble_eq_true rfl) (by decide) fun v8 h => ?_
  refine ob_iload_n F 3 dX11_life_54 rfl ?_
  refine ob_cSl F dX11_life_55 im_X11_told tw5_43 h (fun b hb => t_X11_told hb) rfl rfl (Nat.le_of_ble_eq_true rfl) (by decide) fun v9 h => ?_
  obtain rfl := Option.some.inj h
  exact ob_lret F dX11_life_58 k
def B_X11_life_20 (g : ob_St) (n0 : Nat) (x1 : Int32) (x2 : Int32) (s0 : Int32) : Option (Option (Int64 × ob_St)) :=
  (if s0 = 0 then (some none) else ((B_X11_life_23 g n0 x1 x2).bind fun v10 => some (some v10)))
theorem b_X11_life_20 {C : ob_Cx} (F : ob_Fx C cX11_life 4 RX11 (some .long) 7 175) {g : ob_St} {n0 : Nat} {x1 : Int32} {x2 : Int32} {s0 : Int32} {r : (Option (Int64 × ob_St))} (F2 : ob_Fx (ob_w C) cX11_life 4 RX11 (some .long) 7 175) (hst : (ob_cf C).1.stackTraces = false) (h : B_X11_life_20 g n0 x1 x2 s0 = some r) (kR : ∀ v, r = some v → ob_Rt (ob_w C) (some (.long v.1)) v.2) (kT : ∀ pc ls, r = none → ob_Tw C pc ls g) : ob_Ev C 20 [(0, ob_rv C n0), (1, .int x1), (2, .int x2)] [.int s0] g := by
  unfold B_X11_life_20 at h
  refine ob_callSX F F2 dX11_life_20 im_X11_require tw4_219 (t_X11_require hst) rfl rfl (Nat.le_of_ble_eq_true rfl) (by decide) (fun g2 hw => ?_) (fun v g2 hw => ?_)
  · obtain ⟨q, rfl⟩ := ob_wl hw
    rw [if_pos q] at h
    exact kT _ _ (Option.some.inj h).symm
  · obtain ⟨q, rfl, rfl⟩ := ob_wr hw
    rw [if_neg q] at h
    obtain ⟨v10, hv, h⟩ := Option.bind_eq_some_iff.mp h
    exact b_X11_life_23 F2 hv (kR _ (Option.some.inj h).symm)
def B_X11_life_19 (g : ob_St) (n0 : Nat) (x1 : Int32) (x2 : Int32) : Option (Option (Int64 × ob_St)) :=
  B_X11_life_20 g n0 x1 x2 0
theorem b_X11_life_19 {C : ob_Cx} (F : ob_Fx C cX11_life 4 RX11 (some .long) 7 175) {g : ob_St} {n0 : Nat} {x1 : Int32} {x2 : Int32} {r : (Option (Int64 × ob_St))} (F2 : ob_Fx (ob_w C) cX11_life 4 RX11 (some .long) 7 175) (hst : (ob_cf C).1.stackTraces = false) (h : B_X11_life_19 g n0 x1 x2 = some r) (kR : ∀ v, r = some v → ob_Rt (ob_w C) (some (.long v.1)) v.2) (kT : ∀ pc ls, r = none → ob_Tw C pc ls g) : ob_Ev C 19 [(0, ob_rv C n0), (1, .int x1), (2, .int x2)] [] g := by
  unfold B_X11_life_19 at h
  refine ob_iconst F (v := 0) dX11_life_19 (by decide) ?_
  exact b_X11_life_20 F F2 hst h kR kT
def f_X11_life (g : ob_St) (n0 : Nat) (x1 : Int32) (x2 : Int32) : Option (Option (Int64 × ob_St)) :=
  (ob_ck 11 n0 (f_X11_isOption g n0 x1)).bind fun v1 => (if v1 = 0 then (B_X11_life_19 g n0 x1 x2) else ((f_X11_isBit x2).bind fun v11 => (if v11 = 0 then (B_X11_life_19 g n0 x1 x2) else (B_X11_life_20 g n0 x1 x2 1))))
theorem b_X11_life_0 {C : ob_Cx} (F : ob_Fx C cX11_life 4 RX11 (some .long) 7 175) {g : ob_St} {n0 : Nat} {x1 : Int32} {x2 : Int32} {r : (Option (Int64 × ob_St))} (F2 : ob_Fx (ob_w C) cX11_life 4 RX11 (some .long) 7 175) (hst : (ob_cf C).1.stackTraces = false) (h : f_X11_life g n0 x1 x2 = some r) (kR : ∀ v, r = some v → ob_Rt (ob_w C) (some (.long v.1)) v.2) (kT : ∀ pc ls, r = none → ob_Tw C pc ls g) : ob_Ev C 0 [(0, ob_rv C n0), (1, .int x1), (2, .int x2)] [] g := by
  unfold f_X11_life at h
  refine ob_rload_n F 0 dX11_life_0 rfl ?_
  refine ob_iload_n F 1 dX11_life_1 rfl ?_
  refine ob_cVi F dX11_life_2 im_X11_isOption tw3_176 h (fun b hb => t_X11_isOption hb) rfl rfl (Nat.le_of_ble_eq_true rfl) (by decide) fun v1 h => ?_
  refine ob_if_eq F 19 dX11_life_5 (by decide) h (fun h => ?_) (fun h => ?_)
  · exact b_X11_life_19 F F2 hst h kR kT
  · refine ob_iload_n F 2 dX11_life_8 rfl ?_
    refine ob_cSi F dX11_life_9 im_X11_isBit tw4_113 h (fun b hb => t_X11_isBit hb) rfl rfl (Nat.le_of_ble_eq_true rfl) (by decide) fun v11 h => ?_
    refine ob_if_eq F 19 dX11_life_12 (by decide) h (fun h => ?_) (fun h => ?_)
    · exact b_X11_life_19 F F2 hst h kR kT
    · refine ob_iconst F (v := 1) dX11_life_15 (by decide) ?_
      refine ob_goto F 20 dX11_life_16 (by decide) ?_
      exact b_X11_life_20 F F2 hst h kR kT
theorem t_X11_life {cf : ob_Cf} {g : ob_St} {n0 : Nat} {x1 : Int32} {x2 : Int32} {r : (Option (Int64 × ob_St))} (hst : cf.1.stackTraces = false) (h : f_X11_life g n0 x1 x2 = some r) : ob_Mx cf yX11_life cX11_life 4 (some .long) 7 175 [ob_rw cf n0, .int x1, .int x2] g (match r with | none => .inl g | some v => .inr (some (.long v.1), v.2)) := by
  refine ob_enterX (by decide) (Nat.le_of_ble_eq_true rfl) ?_ ?_
  · intro v g2 hw
    cases r with
    | none => cases hw
    | some z => cases hw; exact ⟨_, rfl⟩
  · intro C hC F F2 hR hT
    subst hC
    exact b_X11_life_0 F F2 hst h (fun v e => by subst e; exact hR _ _ rfl) (fun pc ls e => by subst e; exact hT pc ls _ rfl)
-- X11_gain
def B_X11_gain_40 (g : ob_St) (n0 : Nat) (x1 : Int32) (x2 : Int32) (x3 : Int32) (x4 : Int32) : Option (Int64 × ob_St) :=
  (ob_gR 11 n0 10).bind fun v2 => (ob_ck 11 n0 (f_X11_sheetOf g n0 x1)).bind fun v3 => (ob_gR 11 n0 3).bind fun v4 => (ob_gR 5 v4 2).bind fun v5 => (ob_rR 17 v5 x1).bind fun v6 => (ob_ck 2 v2 (f_X2_leftAlong v3.2 v2 v3.1 v6 x2 x3)).bind fun v7 => (ob_gR 11 n0 8).bind fun v8 => (ob_ck 3 v8 (f_X3_scaleAt v3.2 v8 0)).bind fun v9 => (f_X11_told v7 v9 x4).bind fun v10 => some (v10, v3.2)
theorem b_X11_gain_40 {C : ob_Cx} (F : ob_Fx C cX11_gain 5 RX11 (some .long) 7 175) {g : ob_St} {n0 : Nat} {x1 : Int32} {x2 : Int32} {x3 : Int32} {x4 : Int32} {r : (Int64 × ob_St)} (h : B_X11_gain_40 g n0 x1 x2 x3 x4 = some r) (k : ob_Rt C (some (.long r.1)) r.2) : ob_Ev C 40 [(0, ob_rv C n0), (1, .int x1), (2, .int x2), (3, .int x3), (4, .int x4)] [] g := by
  unfold B_X11_gain_40 at h
  refine ob_rload_n F 0 dX11_gain_40 rfl ?_
  refine ob_getR F dX11_gain_41 fl_X11_72 h fun v2 h => ?_
  refine ob_rload_n F 0 dX11_gain_44 rfl ?_
  refine ob_iload_n F 1 dX11_gain_45 rfl ?_
  refine ob_cVrS F dX11_gain_46 im_X11_sheetOf tw4_30 h (fun b hb => t_X11_sheetOf hb) rfl rfl (Nat.le_of_ble_eq_true rfl) (by decide) fun v3 h => ?_
  refine ob_rload_n F 0 dX11_gain_49 rfl ?_
  refine ob_getR F dX11_gain_50 fl_X11_23 h fun v4 h => ?_
  refine ob_getR F dX11_gain_53 fl_X11_138 h fun v5 h => ?_
  refine ob_iload_n F 1 dX11_gain_56 rfl ?_
  refine ob_aald F dX11_gain_57 (by decide) h fun v6 h => ?_
  refine ob_iload_n F 2 dX11_gain_58 rfl ?_
  refine ob_iload_n F 3 dX11_gain_59 rfl ?_
  refine ob_cVl F dX11_gain_60 im_X2_leftAlong tw5_121 h (fun b hb => t_X2_leftAlong hb) rfl rfl (Nat.le_of_ble_eq_true rfl) (by decide) fun v7 h => ?_
  refine ob_rload_n F 0 dX11_gain_63 rfl ?_
  refine ob_getR F dX11_gain_64 fl_X11_56 h fun v8 h => ?_
  refine ob_iconst F (v := 0) dX11_gain_67 (by decide) ?_
  refine ob_cVl F dX11_gain_68 im_X3_scaleAt tw4_104 h (fun b hb => t_X3_scaleAt hb) rfl rfl (Nat.le_of_ble_eq_true rfl) (by decide) fun v9 h => ?_
  refine ob_iload F 4 dX11_gain_71 rfl ?_
  refine ob_cSl F dX11_gain_73 im_X11_told tw5_43 h (fun b hb => t_X11_told hb) rfl rfl (Nat.le_of_ble_eq_true rfl) (by decide) fun v10 h => ?_
  obtain rfl := Option.some.inj h
  exact ob_lret F dX11_gain_76 k
def B_X11_gain_37 (g : ob_St) (n0 : Nat) (x1 : Int32) (x2 : Int32) (x3 : Int32) (x4 : Int32) (s0 : Int32) : Option (Option (Int64 × ob_St)) :=
  (if s0 = 0 then (some none) else ((B_X11_gain_40 g n0 x1 x2 x3 x4).bind fun v11 => some (some v11)))
theorem b_X11_gain_37 {C : ob_Cx} (F : ob_Fx C cX11_gain 5 RX11 (some .long) 7 175) {g : ob_St} {n0 : Nat} {x1 : Int32} {x2 : Int32} {x3 : Int32} {x4 : Int32} {s0 : Int32} {r : (Option (Int64 × ob_St))} (F2 : ob_Fx (ob_w C) cX11_gain 5 RX11 (some .long) 7 175) (hst : (ob_cf C).1.stackTraces = false) (h : B_X11_gain_37 g n0 x1 x2 x3 x4 s0 = some r) (kR : ∀ v, r = some v → ob_Rt (ob_w C) (some (.long v.1)) v.2) (kT : ∀ pc ls, r = none → ob_Tw C pc ls g) : ob_Ev C 37 [(0, ob_rv C n0), (1, .int x1), (2, .int x2), (3, .int x3), (4, .int x4)] [.int s0] g := by
  unfold B_X11_gain_37 at h
  refine ob_callSX F F2 dX11_gain_37 im_X11_require tw4_219 (t_X11_require hst) rfl rfl (Nat.le_of_ble_eq_true rfl) (by decide) (fun g2 hw => ?_) (fun v g2 hw => ?_)
  · obtain ⟨q, rfl⟩ := ob_wl hw
    rw [if_pos q] at h
    exact kT _ _ (Option.some.inj h).symm
  · obtain ⟨q, rfl, rfl⟩ := ob_wr hw
    rw [if_neg q] at h
    obtain ⟨v11, hv, h⟩ := Option.bind_eq_some_iff.mp h
    exact b_X11_gain_40 F2 hv (kR _ (Option.some.inj h).symm)
def B_X11_gain_36 (g : ob_St) (n0 : Nat) (x1 : Int32) (x2 : Int32) (x3 : Int32) (x4 : Int32) : Option (Option (Int64 × ob_St)) :=
  B_X11_gain_37 g n0 x1 x2 x3 x4 0
theorem b_X11_gain_36 {C : ob_Cx} (F : ob_Fx C cX11_gain 5 RX11 (some .long) 7 175) {g : ob_St} {n0 : Nat} {x1 : Int32} {x2 : Int32} {x3 : Int32} {x4 : Int32} {r : (Option (Int64 × ob_St))} (F2 : ob_Fx (ob_w C) cX11_gain 5 RX11 (some .long) 7 175) (hst : (ob_cf C).1.stackTraces = false) (h : B_X11_gain_36 g n0 x1 x2 x3 x4 = some r) (kR : ∀ v, r = some v → ob_Rt (ob_w C) (some (.long v.1)) v.2) (kT : ∀ pc ls, r = none → ob_Tw C pc ls g) : ob_Ev C 36 [(0, ob_rv C n0), (1, .int x1), (2, .int x2), (3, .int x3), (4, .int x4)] [] g := by
  unfold B_X11_gain_36 at h
  refine ob_iconst F (v := 0) dX11_gain_36 (by decide) ?_
  exact b_X11_gain_37 F F2 hst h kR kT
def f_X11_gain (g : ob_St) (n0 : Nat) (x1 : Int32) (x2 : Int32) (x3 : Int32) (x4 : Int32) : Option (Option (Int64 × ob_St)) :=
  (ob_ck 11 n0 (f_X11_isOption g n0 x1)).bind fun v1 => (if v1 = 0 then (B_X11_gain_36 g n0 x1 x2 x3 x4) else ((ob_ck 11 n0 (f_X11_isPath g n0 x2)).bind fun v12 => (if v12 = 0 then (B_X11_gain_36 g n0 x1 x2 x3 x4) else ((ob_ck 11 n0 (f_X11_isExercise g n0 x3)).bind fun v13 => (if v13 = 0 then (B_X11_gain_36 g n0 x1 x2 x3 x4) else ((f_X11_isBit x4).bind fun v14 => (if v14 = 0 then (B_X11_gain_36 g n0 x1 x2 x3 x4) else (B_X11_gain_37 g n0 x1 x2 x3 x4 1))))))))
theorem b_X11_gain_0 {C : ob_Cx} (F : ob_Fx C cX11_gain 5 RX11 (some .long) 7 175) {g : ob_St} {n0 : Nat} {x1 : Int32} {x2 : Int32} {x3 : Int32} {x4 : Int32} {r : (Option (Int64 × ob_St))} (F2 : ob_Fx (ob_w C) cX11_gain 5 RX11 (some .long) 7 175) (hst : (ob_cf C).1.stackTraces = false) (h : f_X11_gain g n0 x1 x2 x3 x4 = some r) (kR : ∀ v, r = some v → ob_Rt (ob_w C) (some (.long v.1)) v.2) (kT : ∀ pc ls, r = none → ob_Tw C pc ls g) : ob_Ev C 0 [(0, ob_rv C n0), (1, .int x1), (2, .int x2), (3, .int x3), (4, .int x4)] [] g := by
  unfold f_X11_gain at h
  refine ob_rload_n F 0 dX11_gain_0 rfl ?_
  refine ob_iload_n F 1 dX11_gain_1 rfl ?_
  refine ob_cVi F dX11_gain_2 im_X11_isOption tw3_176 h (fun b hb => t_X11_isOption hb) rfl rfl (Nat.le_of_ble_eq_true rfl) (by decide) fun v1 h => ?_
  refine ob_if_eq F 36 dX11_gain_5 (by decide) h (fun h => ?_) (fun h => ?_)
  · exact b_X11_gain_36 F F2 hst h kR kT
  · refine ob_rload_n F 0 dX11_gain_8 rfl ?_
    refine ob_iload_n F 2 dX11_gain_9 rfl ?_
    refine ob_cVi F dX11_gain_10 im_X11_isPath tw5_117 h (fun b hb => t_X11_isPath hb) rfl rfl (Nat.le_of_ble_eq_true rfl) (by decide) fun v12 h => ?_
    refine ob_if_eq F 36 dX11_gain_13 (by decide) h (fun h => ?_) (fun h => ?_)
    · exact b_X11_gain_36 F F2 hst h kR kT
    · refine ob_rload_n F 0 dX11_gain_16 rfl ?_
      refine ob_iload_n F 3 dX11_gain_17 rfl ?_
      refine ob_cVi F dX11_gain_18 im_X11_isExercise tw4_65 h (fun b hb => t_X11_isExercise hb) rfl rfl (Nat.le_of_ble_eq_true rfl) (by decide) fun v13 h => ?_
      refine ob_if_eq F 36 dX11_gain_21 (by decide) h (fun h => ?_) (fun h => ?_)
      · exact b_X11_gain_36 F F2 hst h kR kT
      · refine ob_iload F 4 dX11_gain_24 rfl ?_
        refine ob_cSi F dX11_gain_26 im_X11_isBit tw4_113 h (fun b hb => t_X11_isBit hb) rfl rfl (Nat.le_of_ble_eq_true rfl) (by decide) fun v14 h => ?_
        refine ob_if_eq F 36 dX11_gain_29 (by decide) h (fun h => ?_) (fun h => ?_)
        · exact b_X11_gain_36 F F2 hst h kR kT
        · refine ob_iconst F (v := 1) dX11_gain_32 (by decide) ?_
          refine ob_goto F 37 dX11_gain_33 (by decide) ?_
          exact b_X11_gain_37 F F2 hst h kR kT
theorem t_X11_gain {cf : ob_Cf} {g : ob_St} {n0 : Nat} {x1 : Int32} {x2 : Int32} {x3 : Int32} {x4 : Int32} {r : (Option (Int64 × ob_St))} (hst : cf.1.stackTraces = false) (h : f_X11_gain g n0 x1 x2 x3 x4 = some r) : ob_Mx cf yX11_gain cX11_gain 5 (some .long) 7 175 [ob_rw cf n0, .int x1, .int x2, .int x3, .int x4] g (match r with | none => .inl g | some v => .inr (some (.long v.1), v.2)) := by
  refine ob_enterX (by decide) (Nat.le_of_ble_eq_true rfl) ?_ ?_
  · intro v g2 hw
    cases r with
    | none => cases hw
    | some z => cases hw; exact ⟨_, rfl⟩
  · intro C hC F F2 hR hT
    subst hC
    exact b_X11_gain_0 F F2 hst h (fun v e => by subst e; exact hR _ _ rfl) (fun pc ls e => by subst e; exact hT pc ls _ rfl)
-- X11_early
def B_X11_early_23 (g : ob_St) (n0 : Nat) (x1 : Int32) (x2 : Int32) : Option (Int64 × ob_St) :=
  (ob_gR 11 n0 3).bind fun v2 => (ob_gR 5 v2 2).bind fun v3 => (ob_rR 17 v3 x1).bind fun v4 => (ob_ck 11 n0 (f_X11_sheetOf g n0 x1)).bind fun v5 => (ob_gR 9 v5.1 2).bind fun v6 => (ob_gR 4 v6 0).bind fun v7 => (ob_rL v5.2 v7 0).bind fun v8 => (ob_gR 11 n0 8).bind fun v9 => (ob_gI v5.2 1 v4 1).bind fun v10 => (ob_ck 3 v9 (f_X3_startWorth v5.2 v9 v4 v10 13)).bind fun v11 => (ob_gR 11 n0 8).bind fun v12 => (ob_ck 3 v12 (f_X3_scaleAt v11.2 v12 0)).bind fun v13 => (f_X11_told (v8 - v11.1) v13 x2).bind fun v14 => some (v14, v11.2)
theorem b_X11_early_23 {C : ob_Cx} (F : ob_Fx C cX11_early 6 RX11 (some .long) 7 175) {g : ob_St} {n0 : Nat} {x1 : Int32} {x2 : Int32} {r : (Int64 × ob_St)} (h : B_X11_early_23 g n0 x1 x2 = some r) (k : ob_Rt C (some (.long r.1)) r.2) : ob_Ev C 23 [(0, ob_rv C n0), (1, .int x1), (2, .int x2)] [] g := by
  unfold B_X11_early_23 at h
  refine ob_rload_n F 0 dX11_early_23 rfl ?_
  refine ob_getR F dX11_early_24 fl_X11_23 h fun v2 h => ?_
  refine ob_getR F dX11_early_27 fl_X11_138 h fun v3 h => ?_
  refine ob_iload_n F 1 dX11_early_30 rfl ?_
  refine ob_aald F dX11_early_31 (by decide) h fun v4 h => ?_
  refine ob_rstore_n F (ls2 := [(3, ob_rv C v4), (0, ob_rv C n0), (1, .int x1), (2, .int x2)]) dX11_early_32 (by decide) rfl ?_
  refine ob_rload_n F 1 dX11_early_33 rfl ?_
  refine ob_iload_n F 2 dX11_early_34 rfl ?_
  refine ob_cVrS F dX11_early_35 im_X11_sheetOf tw4_30 h (fun b hb => t_X11_sheetOf hb) rfl rfl (Nat.le_of_ble_eq_true rfl) (by decide) fun v5 h => ?_
  refine ob_getR F dX11_early_38 fl_X11_221 h fun v6 h => ?_
  refine ob_getR F dX11_early_41 fl_X11_225 h fun v7 h => ?_
  refine ob_iconst F (v := 0) dX11_early_44 (by decide) ?_
  refine ob_lald F dX11_early_45 h fun v8 h => ?_
  refine ob_lstore F (ls2 := [(4, .long v8), (3, ob_rv C v4), (0, ob_rv C n0), (1, .int x1), (2, .int x2)]) dX11_early_46 (by decide) rfl ?_
  refine ob_lload F 0 dX11_early_48 rfl ?_
  refine ob_rload_n F 2 dX11_early_50 rfl ?_
  refine ob_getR F dX11_early_51 fl_X11_56 h fun v9 h => ?_
  refine ob_rload_n F 1 dX11_early_54 rfl ?_
  refine ob_rload_n F 1 dX11_early_55 rfl ?_
  refine ob_getI F dX11_early_56 fl_X11_147 h fun v10 h => ?_
  refine ob_bipush F (v := 13) dX11_early_59 (by decide) ?_
  refine ob_cVlS F dX11_early_61 im_X3_startWorth tw4_105 h (fun b hb => t_X3_startWorth hb) rfl rfl (Nat.le_of_ble_eq_true rfl) (by decide) fun v11 h => ?_
  refine ob_lsub F dX11_early_64 ?_
  refine ob_rload_n F 2 dX11_early_65 rfl ?_
  refine ob_getR F dX11_early_66 fl_X11_56 h fun v12 h => ?_
  refine ob_iconst F (v := 0) dX11_early_69 (by decide) ?_
  refine ob_cVl F dX11_early_70 im_X3_scaleAt tw4_104 h (fun b hb => t_X3_scaleAt hb) rfl rfl (Nat.le_of_ble_eq_true rfl) (by decide) fun v13 h => ?_
  refine ob_iload_n F 4 dX11_early_73 rfl ?_
  refine ob_cSl F dX11_early_74 im_X11_told tw5_43 h (fun b hb => t_X11_told hb) rfl rfl (Nat.le_of_ble_eq_true rfl) (by decide) fun v14 h => ?_
  obtain rfl := Option.some.inj h
  exact ob_lret F dX11_early_77 k
def B_X11_early_20 (g : ob_St) (n0 : Nat) (x1 : Int32) (x2 : Int32) (s0 : Int32) : Option (Option (Int64 × ob_St)) :=
  (if s0 = 0 then (some none) else ((B_X11_early_23 g n0 x1 x2).bind fun v15 => some (some v15)))
theorem b_X11_early_20 {C : ob_Cx} (F : ob_Fx C cX11_early 6 RX11 (some .long) 7 175) {g : ob_St} {n0 : Nat} {x1 : Int32} {x2 : Int32} {s0 : Int32} {r : (Option (Int64 × ob_St))} (F2 : ob_Fx (ob_w C) cX11_early 6 RX11 (some .long) 7 175) (hst : (ob_cf C).1.stackTraces = false) (h : B_X11_early_20 g n0 x1 x2 s0 = some r) (kR : ∀ v, r = some v → ob_Rt (ob_w C) (some (.long v.1)) v.2) (kT : ∀ pc ls, r = none → ob_Tw C pc ls g) : ob_Ev C 20 [(0, ob_rv C n0), (1, .int x1), (2, .int x2)] [.int s0] g := by
  unfold B_X11_early_20 at h
  refine ob_callSX F F2 dX11_early_20 im_X11_require tw4_219 (t_X11_require hst) rfl rfl (Nat.le_of_ble_eq_true rfl) (by decide) (fun g2 hw => ?_) (fun v g2 hw => ?_)
  · obtain ⟨q, rfl⟩ := ob_wl hw
    rw [if_pos q] at h
    exact kT _ _ (Option.some.inj h).symm
  · obtain ⟨q, rfl, rfl⟩ := ob_wr hw
    rw [if_neg q] at h
    obtain ⟨v15, hv, h⟩ := Option.bind_eq_some_iff.mp h
    exact b_X11_early_23 F2 hv (kR _ (Option.some.inj h).symm)
def B_X11_early_19 (g : ob_St) (n0 : Nat) (x1 : Int32) (x2 : Int32) : Option (Option (Int64 × ob_St)) :=
  B_X11_early_20 g n0 x1 x2 0
theorem b_X11_early_19 {C : ob_Cx} (F : ob_Fx C cX11_early 6 RX11 (some .long) 7 175) {g : ob_St} {n0 : Nat} {x1 : Int32} {x2 : Int32} {r : (Option (Int64 × ob_St))} (F2 : ob_Fx (ob_w C) cX11_early 6 RX11 (some .long) 7 175) (hst : (ob_cf C).1.stackTraces = false) (h : B_X11_early_19 g n0 x1 x2 = some r) (kR : ∀ v, r = some v → ob_Rt (ob_w C) (some (.long v.1)) v.2) (kT : ∀ pc ls, r = none → ob_Tw C pc ls g) : ob_Ev C 19 [(0, ob_rv C n0), (1, .int x1), (2, .int x2)] [] g := by
  unfold B_X11_early_19 at h
  refine ob_iconst F (v := 0) dX11_early_19 (by decide) ?_
  exact b_X11_early_20 F F2 hst h kR kT
def f_X11_early (g : ob_St) (n0 : Nat) (x1 : Int32) (x2 : Int32) : Option (Option (Int64 × ob_St)) :=
  (ob_ck 11 n0 (f_X11_isOption g n0 x1)).bind fun v1 => (if v1 = 0 then (B_X11_early_19 g n0 x1 x2) else ((f_X11_isBit x2).bind fun v16 => (if v16 = 0 then (B_X11_early_19 g n0 x1 x2) else (B_X11_early_20 g n0 x1 x2 1))))
theorem b_X11_early_0 {C : ob_Cx} (F : ob_Fx C cX11_early 6 RX11 (some .long) 7 175) {g : ob_St} {n0 : Nat} {x1 : Int32} {x2 : Int32} {r : (Option (Int64 × ob_St))} (F2 : ob_Fx (ob_w C) cX11_early 6 RX11 (some .long) 7 175) (hst : (ob_cf C).1.stackTraces = false) (h : f_X11_early g n0 x1 x2 = some r) (kR : ∀ v, r = some v → ob_Rt (ob_w C) (some (.long v.1)) v.2) (kT : ∀ pc ls, r = none → ob_Tw C pc ls g) : ob_Ev C 0 [(0, ob_rv C n0), (1, .int x1), (2, .int x2)] [] g := by
  unfold f_X11_early at h
  refine ob_rload_n F 0 dX11_early_0 rfl ?_
  refine ob_iload_n F 1 dX11_early_1 rfl ?_
  refine ob_cVi F dX11_early_2 im_X11_isOption tw3_176 h (fun b hb => t_X11_isOption hb) rfl rfl (Nat.le_of_ble_eq_true rfl) (by decide) fun v1 h => ?_
  refine ob_if_eq F 19 dX11_early_5 (by decide) h (fun h => ?_) (fun h => ?_)
  · exact b_X11_early_19 F F2 hst h kR kT
  · refine ob_iload_n F 2 dX11_early_8 rfl ?_
    refine ob_cSi F dX11_early_9 im_X11_isBit tw4_113 h (fun b hb => t_X11_isBit hb) rfl rfl (Nat.le_of_ble_eq_true rfl) (by decide) fun v16 h => ?_
    refine ob_if_eq F 19 dX11_early_12 (by decide) h (fun h => ?_) (fun h => ?_)
    · exact b_X11_early_19 F F2 hst h kR kT
    · refine ob_iconst F (v := 1) dX11_early_15 (by decide) ?_
      refine ob_goto F 20 dX11_early_16 (by decide) ?_
      exact b_X11_early_20 F F2 hst h kR kT
theorem t_X11_early {cf : ob_Cf} {g : ob_St} {n0 : Nat} {x1 : Int32} {x2 : Int32} {r : (Option (Int64 × ob_St))} (hst : cf.1.stackTraces = false) (h : f_X11_early g n0 x1 x2 = some r) : ob_Mx cf yX11_early cX11_early 6 (some .long) 7 175 [ob_rw cf n0, .int x1, .int x2] g (match r with | none => .inl g | some v => .inr (some (.long v.1), v.2)) := by
  refine ob_enterX (by decide) (Nat.le_of_ble_eq_true rfl) ?_ ?_
  · intro v g2 hw
    cases r with
    | none => cases hw
    | some z => cases hw; exact ⟨_, rfl⟩
  · intro C hC F F2 hR hT
    subst hC
    exact b_X11_early_0 F F2 hst h (fun v e => by subst e; exact hR _ _ rfl) (fun pc ls e => by subst e; exact hT pc ls _ rfl)
-- X11_worthBy
def B_X11_worthBy_38 (g : ob_St) (n0 : Nat) (x1 : Int32) (x2 : Int32) (x3 : Int32) (x4 : Int32) : Option (Int64 × ob_St) :=
  (ob_gR 11 n0 11).bind fun v2 => (ob_ck 11 n0 (f_X11_sheetOf g n0 x1)).bind fun v3 => (ob_gR 11 n0 3).bind fun v4 => (ob_gR 5 v4 2).bind fun v5 => (ob_rR 17 v5 x1).bind fun v6 => (ob_ck 8 v2 (f_X8_worthOf v3.2 v2 v3.1 v6 x2 x3)).bind fun v7 => (ob_gR 11 n0 8).bind fun v8 => (ob_ck 3 v8 (f_X3_scaleAt v7.2 v8 0)).bind fun v9 => (f_X11_told v7.1 v9 x4).bind fun v10 => some (v10, v7.2)
theorem b_X11_worthBy_38 {C : ob_Cx} (F : ob_Fx C cX11_worthBy 5 RX11 (some .long) 7 175) {g : ob_St} {n0 : Nat} {x1 : Int32} {x2 : Int32} {x3 : Int32} {x4 : Int32} {r : (Int64 × ob_St)} (h : B_X11_worthBy_38 g n0 x1 x2 x3 x4 = some r) (k : ob_Rt C (some (.long r.1)) r.2) : ob_Ev C 38 [(0, ob_rv C n0), (1, .int x1), (2, .int x2), (3, .int x3), (4, .int x4)] [] g := by
  unfold B_X11_worthBy_38 at h
  refine ob_rload_n F 0 dX11_worthBy_38 rfl ?_
  refine ob_getR F dX11_worthBy_39 fl_X11_79 h fun v2 h => ?_
  refine ob_rload_n F 0 dX11_worthBy_42 rfl ?_
  refine ob_iload_n F 1 dX11_worthBy_43 rfl ?_
  refine ob_cVrS F dX11_worthBy_44 im_X11_sheetOf tw4_30 h (fun b hb => t_X11_sheetOf hb) rfl rfl (Nat.le_of_ble_eq_true rfl) (by decide) fun v3 h => ?_
  refine ob_rload_n F 0 dX11_worthBy_47 rfl ?_
  refine ob_getR F dX11_worthBy_48 fl_X11_23 h fun v4 h => ?_
  refine ob_getR F dX11_worthBy_51 fl_X11_138 h fun v5 h => ?_
  refine ob_iload_n F 1 dX11_worthBy_54 rfl ?_
  refine ob_aald F dX11_worthBy_55 (by decide) h fun v6 h => ?_
  refine ob_iload_n F 2 dX11_worthBy_56 rfl ?_
  refine ob_iload_n F 3 dX11_worthBy_57 rfl ?_
  refine ob_cVlS F dX11_worthBy_58 im_X8_worthOf tw5_142 h (fun b hb => t_X8_worthOf hb) rfl rfl (Nat.le_of_ble_eq_true rfl) (by decide) fun v7 h => ?_
  refine ob_rload_n F 0 dX11_worthBy_61 rfl ?_
  refine ob_getR F dX11_worthBy_62 fl_X11_56 h fun v8 h => ?_
  refine ob_iconst F (v := 0) dX11_worthBy_65 (by decide) ?_
  refine ob_cVl F dX11_worthBy_66 im_X3_scaleAt tw4_104 h (fun b hb => t_X3_scaleAt hb) rfl rfl (Nat.le_of_ble_eq_true rfl) (by decide) fun v9 h => ?_
  refine ob_iload F 4 dX11_worthBy_69 rfl ?_
  refine ob_cSl F dX11_worthBy_71 im_X11_told tw5_43 h (fun b hb => t_X11_told hb) rfl rfl (Nat.le_of_ble_eq_true rfl) (by decide) fun v10 h => ?_
  obtain rfl := Option.some.inj h
  exact ob_lret F dX11_worthBy_74 k
def B_X11_worthBy_35 (g : ob_St) (n0 : Nat) (x1 : Int32) (x2 : Int32) (x3 : Int32) (x4 : Int32) (s0 : Int32) : Option (Option (Int64 × ob_St)) :=
  (if s0 = 0 then (some none) else ((B_X11_worthBy_38 g n0 x1 x2 x3 x4).bind fun v11 => some (some v11)))
theorem b_X11_worthBy_35 {C : ob_Cx} (F : ob_Fx C cX11_worthBy 5 RX11 (some .long) 7 175) {g : ob_St} {n0 : Nat} {x1 : Int32} {x2 : Int32} {x3 : Int32} {x4 : Int32} {s0 : Int32} {r : (Option (Int64 × ob_St))} (F2 : ob_Fx (ob_w C) cX11_worthBy 5 RX11 (some .long) 7 175) (hst : (ob_cf C).1.stackTraces = false) (h : B_X11_worthBy_35 g n0 x1 x2 x3 x4 s0 = some r) (kR : ∀ v, r = some v → ob_Rt (ob_w C) (some (.long v.1)) v.2) (kT : ∀ pc ls, r = none → ob_Tw C pc ls g) : ob_Ev C 35 [(0, ob_rv C n0), (1, .int x1), (2, .int x2), (3, .int x3), (4, .int x4)] [.int s0] g := by
  unfold B_X11_worthBy_35 at h
  refine ob_callSX F F2 dX11_worthBy_35 im_X11_require tw4_219 (t_X11_require hst) rfl rfl (Nat.le_of_ble_eq_true rfl) (by decide) (fun g2 hw => ?_) (fun v g2 hw => ?_)
  · obtain ⟨q, rfl⟩ := ob_wl hw
    rw [if_pos q] at h
    exact kT _ _ (Option.some.inj h).symm
  · obtain ⟨q, rfl, rfl⟩ := ob_wr hw
    rw [if_neg q] at h
    obtain ⟨v11, hv, h⟩ := Option.bind_eq_some_iff.mp h
    exact b_X11_worthBy_38 F2 hv (kR _ (Option.some.inj h).symm)
def B_X11_worthBy_34 (g : ob_St) (n0 : Nat) (x1 : Int32) (x2 : Int32) (x3 : Int32) (x4 : Int32) : Option (Option (Int64 × ob_St)) :=
  B_X11_worthBy_35 g n0 x1 x2 x3 x4 0
theorem b_X11_worthBy_34 {C : ob_Cx} (F : ob_Fx C cX11_worthBy 5 RX11 (some .long) 7 175) {g : ob_St} {n0 : Nat} {x1 : Int32} {x2 : Int32} {x3 : Int32} {x4 : Int32} {r : (Option (Int64 × ob_St))} (F2 : ob_Fx (ob_w C) cX11_worthBy 5 RX11 (some .long) 7 175) (hst : (ob_cf C).1.stackTraces = false) (h : B_X11_worthBy_34 g n0 x1 x2 x3 x4 = some r) (kR : ∀ v, r = some v → ob_Rt (ob_w C) (some (.long v.1)) v.2) (kT : ∀ pc ls, r = none → ob_Tw C pc ls g) : ob_Ev C 34 [(0, ob_rv C n0), (1, .int x1), (2, .int x2), (3, .int x3), (4, .int x4)] [] g := by
  unfold B_X11_worthBy_34 at h
  refine ob_iconst F (v := 0) dX11_worthBy_34 (by decide) ?_
  exact b_X11_worthBy_35 F F2 hst h kR kT
def f_X11_worthBy (g : ob_St) (n0 : Nat) (x1 : Int32) (x2 : Int32) (x3 : Int32) (x4 : Int32) : Option (Option (Int64 × ob_St)) :=
  (ob_ck 11 n0 (f_X11_isOption g n0 x1)).bind fun v1 => (if v1 = 0 then (B_X11_worthBy_34 g n0 x1 x2 x3 x4) else ((f_X11_isMark x2).bind fun v12 => (if v12 = 0 then (B_X11_worthBy_34 g n0 x1 x2 x3 x4) else ((f_X11_isBit x3).bind fun v13 => (if v13 = 0 then (B_X11_worthBy_34 g n0 x1 x2 x3 x4) else ((f_X11_isBit x4).bind fun v14 => (if v14 = 0 then (B_X11_worthBy_34 g n0 x1 x2 x3 x4) else (B_X11_worthBy_35 g n0 x1 x2 x3 x4 1))))))))
theorem b_X11_worthBy_0 {C : ob_Cx} (F : ob_Fx C cX11_worthBy 5 RX11 (some .long) 7 175) {g : ob_St} {n0 : Nat} {x1 : Int32} {x2 : Int32} {x3 : Int32} {x4 : Int32} {r : (Option (Int64 × ob_St))} (F2 : ob_Fx (ob_w C) cX11_worthBy 5 RX11 (some .long) 7 175) (hst : (ob_cf C).1.stackTraces = false) (h : f_X11_worthBy g n0 x1 x2 x3 x4 = some r) (kR : ∀ v, r = some v → ob_Rt (ob_w C) (some (.long v.1)) v.2) (kT : ∀ pc ls, r = none → ob_Tw C pc ls g) : ob_Ev C 0 [(0, ob_rv C n0), (1, .int x1), (2, .int x2), (3, .int x3), (4, .int x4)] [] g := by
  unfold f_X11_worthBy at h
  refine ob_rload_n F 0 dX11_worthBy_0 rfl ?_
  refine ob_iload_n F 1 dX11_worthBy_1 rfl ?_
  refine ob_cVi F dX11_worthBy_2 im_X11_isOption tw3_176 h (fun b hb => t_X11_isOption hb) rfl rfl (Nat.le_of_ble_eq_true rfl) (by decide) fun v1 h => ?_
  refine ob_if_eq F 34 dX11_worthBy_5 (by decide) h (fun h => ?_) (fun h => ?_)
  · exact b_X11_worthBy_34 F F2 hst h kR kT
  · refine ob_iload_n F 2 dX11_worthBy_8 rfl ?_
    refine ob_cSi F dX11_worthBy_9 im_X11_isMark tw5_139 h (fun b hb => t_X11_isMark hb) rfl rfl (Nat.le_of_ble_eq_true rfl) (by decide) fun v12 h => ?_
    refine ob_if_eq F 34 dX11_worthBy_12 (by decide) h (fun h => ?_) (fun h => ?_)
    · exact b_X11_worthBy_34 F F2 hst h kR kT
    · refine ob_iload_n F 3 dX11_worthBy_15 rfl ?_
      refine ob_cSi F dX11_worthBy_16 im_X11_isBit tw4_113 h (fun b hb => t_X11_isBit hb) rfl rfl (Nat.le_of_ble_eq_true rfl) (by decide) fun v13 h => ?_
      refine ob_if_eq F 34 dX11_worthBy_19 (by decide) h (fun h => ?_) (fun h => ?_)
      · exact b_X11_worthBy_34 F F2 hst h kR kT
      · refine ob_iload F 4 dX11_worthBy_22 rfl ?_
        refine ob_cSi F dX11_worthBy_24 im_X11_isBit tw4_113 h (fun b hb => t_X11_isBit hb) rfl rfl (Nat.le_of_ble_eq_true rfl) (by decide) fun v14 h => ?_
        refine ob_if_eq F 34 dX11_worthBy_27 (by decide) h (fun h => ?_) (fun h => ?_)
        · exact b_X11_worthBy_34 F F2 hst h kR kT
        · refine ob_iconst F (v := 1) dX11_worthBy_30 (by decide) ?_
          refine ob_goto F 35 dX11_worthBy_31 (by decide) ?_
          exact b_X11_worthBy_35 F F2 hst h kR kT
theorem t_X11_worthBy {cf : ob_Cf} {g : ob_St} {n0 : Nat} {x1 : Int32} {x2 : Int32} {x3 : Int32} {x4 : Int32} {r : (Option (Int64 × ob_St))} (hst : cf.1.stackTraces = false) (h : f_X11_worthBy g n0 x1 x2 x3 x4 = some r) : ob_Mx cf yX11_worthBy cX11_worthBy 5 (some .long) 7 175 [ob_rw cf n0, .int x1, .int x2, .int x3, .int x4] g (match r with | none => .inl g | some v => .inr (some (.long v.1), v.2)) := by
  refine ob_enterX (by decide) (Nat.le_of_ble_eq_true rfl) ?_ ?_
  · intro v g2 hw
    cases r with
    | none => cases hw
    | some z => cases hw; exact ⟨_, rfl⟩
  · intro C hC F F2 hR hT
    subst hC
    exact b_X11_worthBy_0 F F2 hst h (fun v e => by subst e; exact hR _ _ rfl) (fun pc ls e => by subst e; exact hT pc ls _ rfl)
-- X11_reach
def B_X11_reach_29 (g : ob_St) (n0 : Nat) (x1 : Int32) (x2 : Int32) (x3 : Int32) : Option (Int64 × ob_St) :=
  (ob_gR 11 n0 8).bind fun v2 => (ob_ck 3 v2 (f_X3_refresh g v2)).bind fun g3 => (ob_gR 11 n0 11).bind fun v4 => (ob_ck 8 v4 (f_X8_oddsOf g3 v4 x1 x2)).bind fun v5 => (ob_gR 11 n0 8).bind fun v6 => (ob_ck 3 v6 (f_X3_scaleAt v5.2 v6 0)).bind fun v7 => (f_X11_told v5.1 v7 x3).bind fun v8 => some (v8, v5.2)
theorem b_X11_reach_29 {C : ob_Cx} (F : ob_Fx C cX11_reach 4 RX11 (some .long) 7 154) {g : ob_St} {n0 : Nat} {x1 : Int32} {x2 : Int32} {x3 : Int32} {r : (Int64 × ob_St)} (h : B_X11_reach_29 g n0 x1 x2 x3 = some r) (k : ob_Rt C (some (.long r.1)) r.2) : ob_Ev C 29 [(0, ob_rv C n0), (1, .int x1), (2, .int x2), (3, .int x3)] [] g := by
  unfold B_X11_reach_29 at h
  refine ob_rload_n F 0 dX11_reach_29 rfl ?_
  refine ob_getR F dX11_reach_30 fl_X11_56 h fun v2 h => ?_
  refine ob_cVvS F dX11_reach_33 im_X3_refresh tw3_192 h (fun b hb => t_X3_refresh hb) rfl rfl (Nat.le_of_ble_eq_true rfl) (by decide) fun g3 h => ?_
  refine ob_rload_n F 0 dX11_reach_36 rfl ?_
  refine ob_getR F dX11_reach_37 fl_X11_79 h fun v4 h => ?_
  refine ob_iload_n F 1 dX11_reach_40 rfl ?_
  refine ob_iload_n F 2 dX11_reach_41 rfl ?_
  refine ob_cVlS F dX11_reach_42 im_X8_oddsOf tw5_150 h (fun b hb => t_X8_oddsOf hb) rfl rfl (Nat.le_of_ble_eq_true rfl) (by decide) fun v5 h => ?_
  refine ob_rload_n F 0 dX11_reach_45 rfl ?_
  refine ob_getR F dX11_reach_46 fl_X11_56 h fun v6 h => ?_
  refine ob_iconst F (v := 0) dX11_reach_49 (by decide) ?_
  refine ob_cVl F dX11_reach_50 im_X3_scaleAt tw4_104 h (fun b hb => t_X3_scaleAt hb) rfl rfl (Nat.le_of_ble_eq_true rfl) (by decide) fun v7 h => ?_
  refine ob_iload_n F 3 dX11_reach_53 rfl ?_
  refine ob_cSl F dX11_reach_54 im_X11_told tw5_43 h (fun b hb => t_X11_told hb) rfl rfl (Nat.le_of_ble_eq_true rfl) (by decide) fun v8 h => ?_
  obtain rfl := Option.some.inj h
  exact ob_lret F dX11_reach_57 k
def B_X11_reach_26 (g : ob_St) (n0 : Nat) (x1 : Int32) (x2 : Int32) (x3 : Int32) (s0 : Int32) : Option (Option (Int64 × ob_St)) :=
  (if s0 = 0 then (some none) else ((B_X11_reach_29 g n0 x1 x2 x3).bind fun v9 => some (some v9)))
theorem b_X11_reach_26 {C : ob_Cx} (F : ob_Fx C cX11_reach 4 RX11 (some .long) 7 154) {g : ob_St} {n0 : Nat} {x1 : Int32} {x2 : Int32} {x3 : Int32} {s0 : Int32} {r : (Option (Int64 × ob_St))} (F2 : ob_Fx (ob_w C) cX11_reach 4 RX11 (some .long) 7 154) (hst : (ob_cf C).1.stackTraces = false) (h : B_X11_reach_26 g n0 x1 x2 x3 s0 = some r) (kR : ∀ v, r = some v → ob_Rt (ob_w C) (some (.long v.1)) v.2) (kT : ∀ pc ls, r = none → ob_Tw C pc ls g) : ob_Ev C 26 [(0, ob_rv C n0), (1, .int x1), (2, .int x2), (3, .int x3)] [.int s0] g := by
  unfold B_X11_reach_26 at h
  refine ob_callSX F F2 dX11_reach_26 im_X11_require tw4_219 (t_X11_require hst) rfl rfl (Nat.le_of_ble_eq_true rfl) (by decide) (fun g2 hw => ?_) (fun v g2 hw => ?_)
  · obtain ⟨q, rfl⟩ := ob_wl hw
    rw [if_pos q] at h
    exact kT _ _ (Option.some.inj h).symm
  · obtain ⟨q, rfl, rfl⟩ := ob_wr hw
    rw [if_neg q] at h
    obtain ⟨v9, hv, h⟩ := Option.bind_eq_some_iff.mp h
    exact b_X11_reach_29 F2 hv (kR _ (Option.some.inj h).symm)
def B_X11_reach_25 (g : ob_St) (n0 : Nat) (x1 : Int32) (x2 : Int32) (x3 : Int32) : Option (Option (Int64 × ob_St)) :=
  B_X11_reach_26 g n0 x1 x2 x3 0
theorem b_X11_reach_25 {C : ob_Cx} (F : ob_Fx C cX11_reach 4 RX11 (some .long) 7 154) {g : ob_St} {n0 : Nat} {x1 : Int32} {x2 : Int32} {x3 : Int32} {r : (Option (Int64 × ob_St))} (F2 : ob_Fx (ob_w C) cX11_reach 4 RX11 (some .long) 7 154) (hst : (ob_cf C).1.stackTraces = false) (h : B_X11_reach_25 g n0 x1 x2 x3 = some r) (kR : ∀ v, r = some v → ob_Rt (ob_w C) (some (.long v.1)) v.2) (kT : ∀ pc ls, r = none → ob_Tw C pc ls g) : ob_Ev C 25 [(0, ob_rv C n0), (1, .int x1), (2, .int x2), (3, .int x3)] [] g := by
  unfold B_X11_reach_25 at h
  refine ob_iconst F (v := 0) dX11_reach_25 (by decide) ?_
  exact b_X11_reach_26 F F2 hst h kR kT
def f_X11_reach (g : ob_St) (n0 : Nat) (x1 : Int32) (x2 : Int32) (x3 : Int32) : Option (Option (Int64 × ob_St)) :=
  (f_X11_isMark x1).bind fun v1 => (if v1 = 0 then (B_X11_reach_25 g n0 x1 x2 x3) else ((f_X11_isBit x2).bind fun v10 => (if v10 = 0 then (B_X11_reach_25 g n0 x1 x2 x3) else ((f_X11_isBit x3).bind fun v11 => (if v11 = 0 then (B_X11_reach_25 g n0 x1 x2 x3) else (B_X11_reach_26 g n0 x1 x2 x3 1))))))
theorem b_X11_reach_0 {C : ob_Cx} (F : ob_Fx C cX11_reach 4 RX11 (some .long) 7 154) {g : ob_St} {n0 : Nat} {x1 : Int32} {x2 : Int32} {x3 : Int32} {r : (Option (Int64 × ob_St))} (F2 : ob_Fx (ob_w C) cX11_reach 4 RX11 (some .long) 7 154) (hst : (ob_cf C).1.stackTraces = false) (h : f_X11_reach g n0 x1 x2 x3 = some r) (kR : ∀ v, r = some v → ob_Rt (ob_w C) (some (.long v.1)) v.2) (kT : ∀ pc ls, r = none → ob_Tw C pc ls g) : ob_Ev C 0 [(0, ob_rv C n0), (1, .int x1), (2, .int x2), (3, .int x3)] [] g := by
  unfold f_X11_reach at h
  refine ob_iload_n F 1 dX11_reach_0 rfl ?_
  refine ob_cSi F dX11_reach_1 im_X11_isMark tw5_139 h (fun b hb => t_X11_isMark hb) rfl rfl (Nat.le_of_ble_eq_true rfl) (by decide) fun v1 h => ?_
  refine ob_if_eq F 25 dX11_reach_4 (by decide) h (fun h => ?_) (fun h => ?_)
  · exact b_X11_reach_25 F F2 hst h kR kT
  · refine ob_iload_n F 2 dX11_reach_7 rfl ?_
    refine ob_cSi F dX11_reach_8 im_X11_isBit tw4_113 h (fun b hb => t_X11_isBit hb) rfl rfl (Nat.le_of_ble_eq_true rfl) (by decide) fun v10 h => ?_
    refine ob_if_eq F 25 dX11_reach_11 (by decide) h (fun h => ?_) (fun h => ?_)
    · exact b_X11_reach_25 F F2 hst h kR kT
    · refine ob_iload_n F 3 dX11_reach_14 rfl ?_
      refine ob_cSi F dX11_reach_15 im_X11_isBit tw4_113 h (fun b hb => t_X11_isBit hb) rfl rfl (Nat.le_of_ble_eq_true rfl) (by decide) fun v11 h => ?_
      refine ob_if_eq F 25 dX11_reach_18 (by decide) h (fun h => ?_) (fun h => ?_)
      · exact b_X11_reach_25 F F2 hst h kR kT
      · refine ob_iconst F (v := 1) dX11_reach_21 (by decide) ?_
        refine ob_goto F 26 dX11_reach_22 (by decide) ?_
        exact b_X11_reach_26 F F2 hst h kR kT
theorem t_X11_reach {cf : ob_Cf} {g : ob_St} {n0 : Nat} {x1 : Int32} {x2 : Int32} {x3 : Int32} {r : (Option (Int64 × ob_St))} (hst : cf.1.stackTraces = false) (h : f_X11_reach g n0 x1 x2 x3 = some r) : ob_Mx cf yX11_reach cX11_reach 4 (some .long) 7 154 [ob_rw cf n0, .int x1, .int x2, .int x3] g (match r with | none => .inl g | some v => .inr (some (.long v.1), v.2)) := by
  refine ob_enterX (by decide) (Nat.le_of_ble_eq_true rfl) ?_ ?_
  · intro v g2 hw
    cases r with
    | none => cases hw
    | some z => cases hw; exact ⟨_, rfl⟩
  · intro C hC F F2 hR hT
    subst hC
    exact b_X11_reach_0 F F2 hst h (fun v e => by subst e; exact hR _ _ rfl) (fun pc ls e => by subst e; exact hT pc ls _ rfl)
-- X11_book
def B_X11_book_24 (g : ob_St) (n0 : Nat) (x1 : Int32) (x2 : Int32) (x3 : Int32) : Option (Int64 × ob_St) :=
  (ob_gR 11 n0 8).bind fun v2 => (ob_ck 3 v2 (f_X3_refresh g v2)).bind fun g3 => (f_X11_nodeAt x1 x2).bind fun v4 => (ob_ck 11 n0 (f_X11_bookWorth g3 n0 v4)).bind fun v5 => (ob_gR 11 n0 8).bind fun v6 => (ob_ck 3 v6 (f_X3_scaleAt g3 v6 x1)).bind fun v7 => (f_X11_told v5 v7 x3).bind fun v8 => some (v8, g3)
theorem b_X11_book_24 {C : ob_Cx} (F : ob_Fx C cX11_book 4 RX11 (some .long) 7 154) {g : ob_St} {n0 : Nat} {x1 : Int32} {x2 : Int32} {x3 : Int32} {r : (Int64 × ob_St)} (h : B_X11_book_24 g n0 x1 x2 x3 = some r) (k : ob_Rt C (some (.long r.1)) r.2) : ob_Ev C 24 [(0, ob_rv C n0), (1, .int x1), (2, .int x2), (3, .int x3)] [] g := by
  unfold B_X11_book_24 at h
  refine ob_rload_n F 0 dX11_book_24 rfl ?_
  refine ob_getR F dX11_book_25 fl_X11_56 h fun v2 h => ?_
  refine ob_cVvS F dX11_book_28 im_X3_refresh tw3_192 h (fun b hb => t_X3_refresh hb) rfl rfl (Nat.le_of_ble_eq_true rfl) (by decide) fun g3 h => ?_
  refine ob_rload_n F 0 dX11_book_31 rfl ?_
  refine ob_iload_n F 1 dX11_book_32 rfl ?_
  refine ob_iload_n F 2 dX11_book_33 rfl ?_
  refine ob_cSi F dX11_book_34 im_X11_nodeAt tw4_25 h (fun b hb => t_X11_nodeAt hb) rfl rfl (Nat.le_of_ble_eq_true rfl) (by decide) fun v4 h => ?_
  refine ob_cVl F dX11_book_37 im_X11_bookWorth tw4_174 h (fun b hb => t_X11_bookWorth hb) rfl rfl (Nat.le_of_ble_eq_true rfl) (by decide) fun v5 h => ?_
  refine ob_rload_n F 0 dX11_book_40 rfl ?_
  refine ob_getR F dX11_book_41 fl_X11_56 h fun v6 h => ?_
  refine ob_iload_n F 1 dX11_book_44 rfl ?_
  refine ob_cVl F dX11_book_45 im_X3_scaleAt tw4_104 h (fun b hb => t_X3_scaleAt hb) rfl rfl (Nat.le_of_ble_eq_true rfl) (by decide) fun v7 h => ?_
  refine ob_iload_n F 3 dX11_book_48 rfl ?_
  refine ob_cSl F dX11_book_49 im_X11_told tw5_43 h (fun b hb => t_X11_told hb) rfl rfl (Nat.le_of_ble_eq_true rfl) (by decide) fun v8 h => ?_
  obtain rfl := Option.some.inj h
  exact ob_lret F dX11_book_52 k
def B_X11_book_21 (g : ob_St) (n0 : Nat) (x1 : Int32) (x2 : Int32) (x3 : Int32) (s0 : Int32) : Option (Option (Int64 × ob_St)) :=
  (if s0 = 0 then (some none) else ((B_X11_book_24 g n0 x1 x2 x3).bind fun v9 => some (some v9)))
theorem b_X11_book_21 {C : ob_Cx} (F : ob_Fx C cX11_book 4 RX11 (some .long) 7 154) {g : ob_St} {n0 : Nat} {x1 : Int32} {x2 : Int32} {x3 : Int32} {s0 : Int32} {r : (Option (Int64 × ob_St))} (F2 : ob_Fx (ob_w C) cX11_book 4 RX11 (some .long) 7 154) (hst : (ob_cf C).1.stackTraces = false) (h : B_X11_book_21 g n0 x1 x2 x3 s0 = some r) (kR : ∀ v, r = some v → ob_Rt (ob_w C) (some (.long v.1)) v.2) (kT : ∀ pc ls, r = none → ob_Tw C pc ls g) : ob_Ev C 21 [(0, ob_rv C n0), (1, .int x1), (2, .int x2), (3, .int x3)] [.int s0] g := by
  unfold B_X11_book_21 at h
  refine ob_callSX F F2 dX11_book_21 im_X11_require tw4_219 (t_X11_require hst) rfl rfl (Nat.le_of_ble_eq_true rfl) (by decide) (fun g2 hw => ?_) (fun v g2 hw => ?_)
  · obtain ⟨q, rfl⟩ := ob_wl hw
    rw [if_pos q] at h
    exact kT _ _ (Option.some.inj h).symm
  · obtain ⟨q, rfl, rfl⟩ := ob_wr hw
    rw [if_neg q] at h
    obtain ⟨v9, hv, h⟩ := Option.bind_eq_some_iff.mp h
    exact b_X11_book_24 F2 hv (kR _ (Option.some.inj h).symm)
def B_X11_book_20 (g : ob_St) (n0 : Nat) (x1 : Int32) (x2 : Int32) (x3 : Int32) : Option (Option (Int64 × ob_St)) :=
  B_X11_book_21 g n0 x1 x2 x3 0
theorem b_X11_book_20 {C : ob_Cx} (F : ob_Fx C cX11_book 4 RX11 (some .long) 7 154) {g : ob_St} {n0 : Nat} {x1 : Int32} {x2 : Int32} {x3 : Int32} {r : (Option (Int64 × ob_St))} (F2 : ob_Fx (ob_w C) cX11_book 4 RX11 (some .long) 7 154) (hst : (ob_cf C).1.stackTraces = false) (h : B_X11_book_20 g n0 x1 x2 x3 = some r) (kR : ∀ v, r = some v → ob_Rt (ob_w C) (some (.long v.1)) v.2) (kT : ∀ pc ls, r = none → ob_Tw C pc ls g) : ob_Ev C 20 [(0, ob_rv C n0), (1, .int x1), (2, .int x2), (3, .int x3)] [] g := by
  unfold B_X11_book_20 at h
  refine ob_iconst F (v := 0) dX11_book_20 (by decide) ?_
  exact b_X11_book_21 F F2 hst h kR kT
def f_X11_book (g : ob_St) (n0 : Nat) (x1 : Int32) (x2 : Int32) (x3 : Int32) : Option (Option (Int64 × ob_St)) :=
  (ob_ck 11 n0 (f_X11_isNode g n0 x1 x2)).bind fun v1 => (if v1 = 0 then (B_X11_book_20 g n0 x1 x2 x3) else ((f_X11_isBit x3).bind fun v10 => (if v10 = 0 then (B_X11_book_20 g n0 x1 x2 x3) else (B_X11_book_21 g n0 x1 x2 x3 1))))
theorem b_X11_book_0 {C : ob_Cx} (F : ob_Fx C cX11_book 4 RX11 (some .long) 7 154) {g : ob_St} {n0 : Nat} {x1 : Int32} {x2 : Int32} {x3 : Int32} {r : (Option (Int64 × ob_St))} (F2 : ob_Fx (ob_w C) cX11_book 4 RX11 (some .long) 7 154) (hst : (ob_cf C).1.stackTraces = false) (h : f_X11_book g n0 x1 x2 x3 = some r) (kR : ∀ v, r = some v → ob_Rt (ob_w C) (some (.long v.1)) v.2) (kT : ∀ pc ls, r = none → ob_Tw C pc ls g) : ob_Ev C 0 [(0, ob_rv C n0), (1, .int x1), (2, .int x2), (3, .int x3)] [] g := by
  unfold f_X11_book at h
  refine ob_rload_n F 0 dX11_book_0 rfl ?_
  refine ob_iload_n F 1 dX11_book_1 rfl ?_
  refine ob_iload_n F 2 dX11_book_2 rfl ?_
  refine ob_cVi F dX11_book_3 im_X11_isNode tw3_188 h (fun b hb => t_X11_isNode hb) rfl rfl (Nat.le_of_ble_eq_true rfl) (by decide) fun v1 h => ?_
  refine ob_if_eq F 20 dX11_book_6 (by decide) h (fun h => ?_) (fun h => ?_)
  · exact b_X11_book_20 F F2 hst h kR kT
  · refine ob_iload_n F 3 dX11_book_9 rfl ?_
    refine ob_cSi F dX11_book_10 im_X11_isBit tw4_113 h (fun b hb => t_X11_isBit hb) rfl rfl (Nat.le_of_ble_eq_true rfl) (by decide) fun v10 h => ?_
    refine ob_if_eq F 20 dX11_book_13 (by decide) h (fun h => ?_) (fun h => ?_)
    · exact b_X11_book_20 F F2 hst h kR kT
    · refine ob_iconst F (v := 1) dX11_book_16 (by decide) ?_
      refine ob_goto F 21 dX11_book_17 (by decide) ?_
      exact b_X11_book_21 F F2 hst h kR kT
theorem t_X11_book {cf : ob_Cf} {g : ob_St} {n0 : Nat} {x1 : Int32} {x2 : Int32} {x3 : Int32} {r : (Option (Int64 × ob_St))} (hst : cf.1.stackTraces = false) (h : f_X11_book g n0 x1 x2 x3 = some r) : ob_Mx cf yX11_book cX11_book 4 (some .long) 7 154 [ob_rw cf n0, .int x1, .int x2, .int x3] g (match r with | none => .inl g | some v => .inr (some (.long v.1), v.2)) := by
  refine ob_enterX (by decide) (Nat.le_of_ble_eq_true rfl) ?_ ?_
  · intro v g2 hw
    cases r with
    | none => cases hw
    | some z => cases hw; exact ⟨_, rfl⟩
  · intro C hC F F2 hR hT
    subst hC
    exact b_X11_book_0 F F2 hst h (fun v e => by subst e; exact hR _ _ rfl) (fun pc ls e => by subst e; exact hT pc ls _ rfl)
-- X11_cover
def Lb_X11_cover_52 (rec : Int64 → Int32 → Option (Int64)) (g : ob_St) (n0 : Nat) (x1 : Int32) (x3 : Int32) (x4 : Int32) (x5 : Int32) (y6 : Int64) (x8 : Int32) : Option (Int64) :=
  (ob_gR 11 n0 3).bind fun v5 => (ob_gI g 5 v5 6).bind fun v6 => (if v6 ≤ x8 then (some y6) else ((ob_gR 11 n0 3).bind fun v7 => (ob_gR 5 v7 2).bind fun v8 => (ob_rR 17 v8 x8).bind fun v9 => (ob_gI g 1 v9 9).bind fun v10 => (ob_gR 11 n0 8).bind fun v11 => (ob_gR 11 n0 8).bind fun v12 => (ob_gR 3 v12 4).bind fun v13 => (ob_rR 19 v13 x8).bind fun v14 => (ob_ck 3 v11 (f_X3_standing g v11 v14 x1 x5)).bind fun v15 => ob_let (y6 + ((Int32.toInt64 v10) * v15)) fun z16 => rec z16 (x8 + 1)))
def L_X11_cover_52 (g : ob_St) (n0 : Nat) (x1 : Int32) (x3 : Int32) (x4 : Int32) (x5 : Int32) : Nat → Int64 → Int32 → Option (Int64)
  | 0, _, _ => none
  | n + 1, y6, x8 => Lb_X11_cover_52 (L_X11_cover_52 g n0 x1 x3 x4 x5 n) g n0 x1 x3 x4 x5 y6 x8
theorem lb_X11_cover_52 {C : ob_Cx} {rec : Int64 → Int32 → Option (Int64)} (F : ob_Fx C cX11_cover 10 RX11 (some .long) 7 154) {g : ob_St} {n0 : Nat} {x1 : Int32} {x3 : Int32} {x4 : Int32} {x5 : Int32} {y6 : Int64} {x8 : Int32} {x : (Int64)} (hr : ∀ {y6 : Int64} {x8 : Int32} {x : (Int64)}, rec y6 x8 = some x → ob_Ev C 110 [(0, ob_rv C n0), (1, .int x1), (3, .int x3), (4, .int x4), (5, .int x5), (6, .long x)] [] g → ob_Ev C 52 [(0, ob_rv C n0), (1, .int x1), (3, .int x3), (4, .int x4), (5, .int x5), (6, .long y6), (8, .int x8)] [] g) (h : Lb_X11_cover_52 rec g n0 x1 x3 x4 x5 y6 x8 = some x) (k0 : ob_Ev C 110 [(0, ob_rv C n0), (1, .int x1), (3, .int x3), (4, .int x4), (5, .int x5), (6, .long x)] [] g) : ob_Ev C 52 [(0, ob_rv C n0), (1, .int x1), (3, .int x3), (4, .int x4), (5, .int x5), (6, .long y6), (8, .int x8)] [] g := by
  unfold Lb_X11_cover_52 at h
  refine ob_iload F 6 dX11_cover_52 rfl ?_
  refine ob_rload_n F 0 dX11_cover_54 rfl ?_
  refine ob_getR F dX11_cover_55 fl_X11_23 h fun v5 h => ?_
  refine ob_getI F dX11_cover_58 fl_X11_108 h fun v6 h => ?_
  refine ob_icmp_ge F 110 dX11_cover_61 (by decide) h (fun h => ?_) (fun h => ?_)
  · obtain rfl := Option.some.inj h
    exact ob_sub [0, 1, 2, 3, 4, 5] rfl (k0)
  · refine ob_lload F 5 dX11_cover_64 rfl ?_
    refine ob_rload_n F 0 dX11_cover_66 rfl ?_
    refine ob_getR F dX11_cover_67 fl_X11_23 h fun v7 h => ?_
    refine ob_getR F dX11_cover_70 fl_X11_138 h fun v8 h => ?_
    refine ob_iload F 6 dX11_cover_73 rfl ?_
    refine ob_aald F dX11_cover_75 (by decide) h fun v9 h => ?_
    refine ob_getI F dX11_cover_76 fl_X11_174 h fun v10 h => ?_
    refine ob_i2l F dX11_cover_79 ?_
    refine ob_rload_n F 0 dX11_cover_80 rfl ?_
    refine ob_getR F dX11_cover_81 fl_X11_56 h fun v11 h => ?_
    refine ob_rload_n F 0 dX11_cover_84 rfl ?_
    refine ob_getR F dX11_cover_85 fl_X11_56 h fun v12 h => ?_
    refine ob_getR F dX11_cover_88 fl_X11_306 h fun v13 h => ?_
    refine ob_iload F 6 dX11_cover_91 rfl ?_
    refine ob_aald F dX11_cover_93 (by decide) h fun v14 h => ?_
    refine ob_iload_n F 1 dX11_cover_94 rfl ?_
    refine ob_iload F 4 dX11_cover_95 rfl ?_
    refine ob_cVl F dX11_cover_97 im_X3_standing tw5_81 h (fun b hb => t_X3_standing hb) rfl rfl (Nat.le_of_ble_eq_true rfl) (by decide) fun v15 h => ?_
    refine ob_lmul F dX11_cover_100 ?_
    refine ob_ladd F dX11_cover_101 ?_
    refine ob_letl h fun z16 h => ?_
    refine ob_lstore F (ls2 := [(6, .long z16), (0, ob_rv C n0), (1, .int x1), (3, .int x3), (4, .int x4), (5, .int x5), (8, .int x8)]) dX11_cover_102 (by decide) rfl ?_
    refine ob_iinc F (v := (x8 + 1)) (ls2 := [(8, .int (x8 + 1)), (6, .long z16), (0, ob_rv C n0), (1, .int x1), (3, .int x3), (4, .int x4), (5, .int x5)]) 6 dX11_cover_104 rfl rfl (by decide) rfl ?_
    refine ob_goto F 52 dX11_cover_107 (by decide) ?_
    exact ob_sub [2, 3, 4, 5, 6, 1, 0] rfl (hr h k0)
theorem l_X11_cover_52 {C : ob_Cx} (F : ob_Fx C cX11_cover 10 RX11 (some .long) 7 154) {g : ob_St} {n0 : Nat} {x1 : Int32} {x3 : Int32} {x4 : Int32} {x5 : Int32} : ∀ (n : Nat) {y6 : Int64} {x8 : Int32} {x : (Int64)}, L_X11_cover_52 g n0 x1 x3 x4 x5 n y6 x8 = some x → ob_Ev C 110 [(0, ob_rv C n0), (1, .int x1), (3, .int x3), (4, .int x4), (5, .int x5), (6, .long x)] [] g → ob_Ev C 52 [(0, ob_rv C n0), (1, .int x1), (3, .int x3), (4, .int x4), (5, .int x5), (6, .long y6), (8, .int x8)] [] g := by
  intro n
  induction n with
  | zero => intro y6 x8 x h; exact ob_no h
  | succ n ih => intro y6 x8 x h k0; exact lb_X11_cover_52 F ih h k0
def B_X11_cover_140 (g : ob_St) (n0 : Nat) (x1 : Int32) (x4 : Int32) (s0 : Int64) : Option (Int64 × ob_St) :=
  (ob_gR 11 n0 8).bind fun v22 => (ob_ck 3 v22 (f_X3_scaleAt g v22 x1)).bind fun v23 => (f_X11_told s0 v23 x4).bind fun v24 => some (v24, g)
theorem b_X11_cover_140 {C : ob_Cx} (F : ob_Fx C cX11_cover 10 RX11 (some .long) 7 154) {g : ob_St} {n0 : Nat} {x1 : Int32} {x4 : Int32} {s0 : Int64} {r : (Int64 × ob_St)} (h : B_X11_cover_140 g n0 x1 x4 s0 = some r) (k : ob_Rt C (some (.long r.1)) r.2) : ob_Ev C 140 [(0, ob_rv C n0), (1, .int x1), (4, .int x4)] [.long s0] g := by
  unfold B_X11_cover_140 at h
  refine ob_lstore F (ls2 := [(8, .long s0), (0, ob_rv C n0), (1, .int x1), (4, .int x4)]) dX11_cover_140 (by decide) rfl ?_
  refine ob_lload F 0 dX11_cover_142 rfl ?_
  refine ob_rload_n F 1 dX11_cover_144 rfl ?_
  refine ob_getR F dX11_cover_145 fl_X11_56 h fun v22 h => ?_
  refine ob_iload_n F 2 dX11_cover_148 rfl ?_
  refine ob_cVl F dX11_cover_149 im_X3_scaleAt tw4_104 h (fun b hb => t_X3_scaleAt hb) rfl rfl (Nat.le_of_ble_eq_true rfl) (by decide) fun v23 h => ?_
  refine ob_iload F 3 dX11_cover_152 rfl ?_
  refine ob_cSl F dX11_cover_154 im_X11_told tw5_43 h (fun b hb => t_X11_told hb) rfl rfl (Nat.le_of_ble_eq_true rfl) (by decide) fun v24 h => ?_
  obtain rfl := Option.some.inj h
  exact ob_lret F dX11_cover_157 k
def B_X11_cover_32 (g : ob_St) (n0 : Nat) (x1 : Int32) (x2 : Int32) (x3 : Int32) (x4 : Int32) : Option (Int64 × ob_St) :=
  (ob_gR 11 n0 8).bind fun v2 => (ob_ck 3 v2 (f_X3_refresh g v2)).bind fun g3 => (f_X11_nodeAt x1 x2).bind fun v4 => (L_X11_cover_52 g3 n0 x1 x3 x4 v4 ob_FU 0 0).bind fun x_17 => (if x3 = 0 then (B_X11_cover_140 g3 n0 x1 x4 x_17) else ((ob_ck 11 n0 (f_X11_bookWorth g3 n0 v4)).bind fun v18 => (ob_gR 11 n0 8).bind fun v19 => (ob_gR 3 v19 1).bind fun v20 => (ob_rI g3 14 v20 v4).bind fun v21 => B_X11_cover_140 g3 n0 x1 x4 (v18 - (x_17 * (Int32.toInt64 v21)))))
theorem b_X11_cover_32 {C : ob_Cx} (F : ob_Fx C cX11_cover 10 RX11 (some .long) 7 154) {g : ob_St} {n0 : Nat} {x1 : Int32} {x2 : Int32} {x3 : Int32} {x4 : Int32} {r : (Int64 × ob_St)} (h : B_X11_cover_32 g n0 x1 x2 x3 x4 = some r) (k : ob_Rt C (some (.long r.1)) r.2) : ob_Ev C 32 [(0, ob_rv C n0), (1, .int x1), (2, .int x2), (3, .int x3), (4, .int x4)] [] g := by
  unfold B_X11_cover_32 at h
  refine ob_rload_n F 0 dX11_cover_32 rfl ?_
  refine ob_getR F dX11_cover_33 fl_X11_56 h fun v2 h => ?_
  refine ob_cVvS F dX11_cover_36 im_X3_refresh tw3_192 h (fun b hb => t_X3_refresh hb) rfl rfl (Nat.le_of_ble_eq_true rfl) (by decide) fun g3 h => ?_
  refine ob_iload_n F 1 dX11_cover_39 rfl ?_
  refine ob_iload_n F 2 dX11_cover_40 rfl ?_
  refine ob_cSi F dX11_cover_41 im_X11_nodeAt tw4_25 h (fun b hb => t_X11_nodeAt hb) rfl rfl (Nat.le_of_ble_eq_true rfl) (by decide) fun v4 h => ?_
  refine ob_istore F (ls2 := [(5, .int v4), (0, ob_rv C n0), (1, .int x1), (2, .int x2), (3, .int x3), (4, .int x4)]) dX11_cover_44 (by decide) rfl ?_
  refine ob_lconst F (v := 0) dX11_cover_46 (by decide) ?_
  refine ob_lstore F (ls2 := [(6, .long 0), (5, .int v4), (0, ob_rv C n0), (1, .int x1), (2, .int x2), (3, .int x3), (4, .int x4)]) dX11_cover_47 (by decide) rfl ?_
  refine ob_iconst F (v := 0) dX11_cover_49 (by decide) ?_
  refine ob_istore F (ls2 := [(8, .int 0), (6, .long 0), (5, .int v4), (0, ob_rv C n0), (1, .int x1), (2, .int x2), (3, .int x3), (4, .int x4)]) dX11_cover_50 (by decide) rfl ?_
  obtain ⟨x_17, hx, h⟩ := Option.bind_eq_some_iff.mp h
  refine ob_sub [3, 4, 6, 7, 2, 1, 0] rfl (l_X11_cover_52 F ob_FU hx ?_)
  refine ob_iload_n F 2 dX11_cover_110 rfl ?_
  refine ob_if_ne F 119 dX11_cover_111 (by decide) h (fun h => ?_) (fun h => ?_)
  · refine ob_rload_n F 0 dX11_cover_119 rfl ?_
    refine ob_iload F 4 dX11_cover_120 rfl ?_
    refine ob_cVl F dX11_cover_122 im_X11_bookWorth tw4_174 h (fun b hb => t_X11_bookWorth hb) rfl rfl (Nat.le_of_ble_eq_true rfl) (by decide) fun v18 h => ?_
    refine ob_lload F 5 dX11_cover_125 rfl ?_
    refine ob_rload_n F 0 dX11_cover_127 rfl ?_
    refine ob_getR F dX11_cover_128 fl_X11_56 h fun v19 h => ?_
    refine ob_getR F dX11_cover_131 fl_X11_193 h fun v20 h => ?_
    refine ob_iload F 4 dX11_cover_134 rfl ?_
    refine ob_iald F dX11_cover_136 h fun v21 h => ?_
    refine ob_i2l F dX11_cover_137 ?_
    refine ob_lmul F dX11_cover_138 ?_
    refine ob_lsub F dX11_cover_139 ?_
    exact ob_sub [0, 1, 3] rfl (b_X11_cover_140 F h k)
  · refine ob_lload F 5 dX11_cover_114 rfl ?_
    refine ob_goto F 140 dX11_cover_116 (by decide) ?_
    exact ob_sub [0, 1, 3] rfl (b_X11_cover_140 F h k)
def B_X11_cover_29 (g : ob_St) (n0 : Nat) (x1 : Int32) (x2 : Int32) (x3 : Int32) (x4 : Int32) (s0 : Int32) : Option (Option (Int64 × ob_St)) :=
  (if s0 = 0 then (some none) else ((B_X11_cover_32 g n0 x1 x2 x3 x4).bind fun v25 => some (some v25)))
theorem b_X11_cover_29 {C : ob_Cx} (F : ob_Fx C cX11_cover 10 RX11 (some .long) 7 154) {g : ob_St} {n0 : Nat} {x1 : Int32} {x2 : Int32} {x3 : Int32} {x4 : Int32} {s0 : Int32} {r : (Option (Int64 × ob_St))} (F2 : ob_Fx (ob_w C) cX11_cover 10 RX11 (some .long) 7 154) (hst : (ob_cf C).1.stackTraces = false) (h : B_X11_cover_29 g n0 x1 x2 x3 x4 s0 = some r) (kR : ∀ v, r = some v → ob_Rt (ob_w C) (some (.long v.1)) v.2) (kT : ∀ pc ls, r = none → ob_Tw C pc ls g) : ob_Ev C 29 [(0, ob_rv C n0), (1, .int x1), (2, .int x2), (3, .int x3), (4, .int x4)] [.int s0] g := by
  unfold B_X11_cover_29 at h
  refine ob_callSX F F2 dX11_cover_29 im_X11_require tw4_219 (t_X11_require hst) rfl rfl (Nat.le_of_ble_eq_true rfl) (by decide) (fun g2 hw => ?_) (fun v g2 hw => ?_)
  · obtain ⟨q, rfl⟩ := ob_wl hw
    rw [if_pos q] at h
    exact kT _ _ (Option.some.inj h).symm
  · obtain ⟨q, rfl, rfl⟩ := ob_wr hw
    rw [if_neg q] at h
    obtain ⟨v25, hv, h⟩ := Option.bind_eq_some_iff.mp h
    exact b_X11_cover_32 F2 hv (kR _ (Option.some.inj h).symm)
def B_X11_cover_28 (g : ob_St) (n0 : Nat) (x1 : Int32) (x2 : Int32) (x3 : Int32) (x4 : Int32) : Option (Option (Int64 × ob_St)) :=
  B_X11_cover_29 g n0 x1 x2 x3 x4 0
theorem b_X11_cover_28 {C : ob_Cx} (F : ob_Fx C cX11_cover 10 RX11 (some .long) 7 154) {g : ob_St} {n0 : Nat} {x1 : Int32} {x2 : Int32} {x3 : Int32} {x4 : Int32} {r : (Option (Int64 × ob_St))} (F2 : ob_Fx (ob_w C) cX11_cover 10 RX11 (some .long) 7 154) (hst : (ob_cf C).1.stackTraces = false) (h : B_X11_cover_28 g n0 x1 x2 x3 x4 = some r) (kR : ∀ v, r = some v → ob_Rt (ob_w C) (some (.long v.1)) v.2) (kT : ∀ pc ls, r = none → ob_Tw C pc ls g) : ob_Ev C 28 [(0, ob_rv C n0), (1, .int x1), (2, .int x2), (3, .int x3), (4, .int x4)] [] g := by
  unfold B_X11_cover_28 at h
  refine ob_iconst F (v := 0) dX11_cover_28 (by decide) ?_
  exact b_X11_cover_29 F F2 hst h kR kT
def f_X11_cover (g : ob_St) (n0 : Nat) (x1 : Int32) (x2 : Int32) (x3 : Int32) (x4 : Int32) : Option (Option (Int64 × ob_St)) :=
  (ob_ck 11 n0 (f_X11_isNode g n0 x1 x2)).bind fun v1 => (if v1 = 0 then (B_X11_cover_28 g n0 x1 x2 x3 x4) else ((f_X11_isBit x3).bind fun v26 => (if v26 = 0 then (B_X11_cover_28 g n0 x1 x2 x3 x4) else ((f_X11_isBit x4).bind fun v27 => (if v27 = 0 then (B_X11_cover_28 g n0 x1 x2 x3 x4) else (B_X11_cover_29 g n0 x1 x2 x3 x4 1))))))
theorem b_X11_cover_0 {C : ob_Cx} (F : ob_Fx C cX11_cover 10 RX11 (some .long) 7 154) {g : ob_St} {n0 : Nat} {x1 : Int32} {x2 : Int32} {x3 : Int32} {x4 : Int32} {r : (Option (Int64 × ob_St))} (F2 : ob_Fx (ob_w C) cX11_cover 10 RX11 (some .long) 7 154) (hst : (ob_cf C).1.stackTraces = false) (h : f_X11_cover g n0 x1 x2 x3 x4 = some r) (kR : ∀ v, r = some v → ob_Rt (ob_w C) (some (.long v.1)) v.2) (kT : ∀ pc ls, r = none → ob_Tw C pc ls g) : ob_Ev C 0 [(0, ob_rv C n0), (1, .int x1), (2, .int x2), (3, .int x3), (4, .int x4)] [] g := by
  unfold f_X11_cover at h
  refine ob_rload_n F 0 dX11_cover_0 rfl ?_
  refine ob_iload_n F 1 dX11_cover_1 rfl ?_
  refine ob_iload_n F 2 dX11_cover_2 rfl ?_
  refine ob_cVi F dX11_cover_3 im_X11_isNode tw3_188 h (fun b hb => t_X11_isNode hb) rfl rfl (Nat.le_of_ble_eq_true rfl) (by decide) fun v1 h => ?_
  refine ob_if_eq F 28 dX11_cover_6 (by decide) h (fun h => ?_) (fun h => ?_)
  · exact b_X11_cover_28 F F2 hst h kR kT
  · refine ob_iload_n F 3 dX11_cover_9 rfl ?_
    refine ob_cSi F dX11_cover_10 im_X11_isBit tw4_113 h (fun b hb => t_X11_isBit hb) rfl rfl (Nat.le_of_ble_eq_true rfl) (by decide) fun v26 h => ?_
    refine ob_if_eq F 28 dX11_cover_13 (by decide) h (fun h => ?_) (fun h => ?_)
    · exact b_X11_cover_28 F F2 hst h kR kT
    · refine ob_iload F 4 dX11_cover_16 rfl ?_
      refine ob_cSi F dX11_cover_18 im_X11_isBit tw4_113 h (fun b hb => t_X11_isBit hb) rfl rfl (Nat.le_of_ble_eq_true rfl) (by decide) fun v27 h => ?_
      refine ob_if_eq F 28 dX11_cover_21 (by decide) h (fun h => ?_) (fun h => ?_)
      · exact b_X11_cover_28 F F2 hst h kR kT
      · refine ob_iconst F (v := 1) dX11_cover_24 (by decide) ?_
        refine ob_goto F 29 dX11_cover_25 (by decide) ?_
        exact b_X11_cover_29 F F2 hst h kR kT
theorem t_X11_cover {cf : ob_Cf} {g : ob_St} {n0 : Nat} {x1 : Int32} {x2 : Int32} {x3 : Int32} {x4 : Int32} {r : (Option (Int64 × ob_St))} (hst : cf.1.stackTraces = false) (h : f_X11_cover g n0 x1 x2 x3 x4 = some r) : ob_Mx cf yX11_cover cX11_cover 10 (some .long) 7 154 [ob_rw cf n0, .int x1, .int x2, .int x3, .int x4] g (match r with | none => .inl g | some v => .inr (some (.long v.1), v.2)) := by
  refine ob_enterX (by decide) (Nat.le_of_ble_eq_true rfl) ?_ ?_
  · intro v g2 hw
    cases r with
    | none => cases hw
    | some z => cases hw; exact ⟨_, rfl⟩
  · intro C hC F F2 hR hT
    subst hC
    exact b_X11_cover_0 F F2 hst h (fun v e => by subst e; exact hR _ _ rfl) (fun pc ls e => by subst e; exact hT pc ls _ rfl)
