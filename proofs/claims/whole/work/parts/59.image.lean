/-! image, restore, feed, end, fault -/
def cpP (g : ob_St) (n0 n1 f : Nat) (s : ob_St) : Prop := (∀ m, m ≠ n0 → s.1 m = g.1 m) ∧ s.2 = g.2 ∧ ∀ i, i < f → s.1 n0 i = g.1 n1 i
theorem cpF {g s : ob_St} {n0 n1 f : Nat} (hne : n0 ≠ n1) (h : cpP g n0 n1 f s) : s.1 n1 f = g.1 n1 f ∧ cpP g n0 n1 (f + 1) (ob_up s.1 n0 f (g.1 n1 f), s.2) := by
  refine ⟨by rw [h.1 n1 (Ne.symm hne)], fun m hm => ?_, h.2.1, fun i hi => ?_⟩
  · show ob_up s.1 n0 f _ m = _
    rw [pu_up_ne hm, h.1 m hm]
  · show ob_up s.1 n0 f _ n0 i = _
    rw [pu_up_eq]
    by_cases e : i = f
    · subst e; rw [pu_upd_eq]
    · rw [pu_upd_ne e, h.2.2 i (by omega)]
theorem c_copyC {g : ob_St} {n0 n1 : Nat} (h0 : ob_kd n0 = 1) (h1 : ob_kd n1 = 1) (hne : n0 ≠ n1) : ∃ g', f_X1_copyFrom g n0 n1 = some g' ∧ cpP g n0 n1 10 g' := by
  obtain ⟨e0, p0⟩ := cpF (f := 0) (s := g) (g := g) hne ⟨fun _ _ => rfl, rfl, fun i hi => by omega⟩
  obtain ⟨e1, p1⟩ := cpF hne p0
  obtain ⟨e2, p2⟩ := cpF hne p1
  obtain ⟨e3, p3⟩ := cpF hne p2
  obtain ⟨e4, p4⟩ := cpF hne p3
  obtain ⟨e5, p5⟩ := cpF hne p4
  obtain ⟨e6, p6⟩ := cpF hne p5
  obtain ⟨e7, p7⟩ := cpF hne p6
  obtain ⟨e8, p8⟩ := cpF hne p7
  obtain ⟨e9, p9⟩ := cpF hne p8
  refine ⟨_, ?_, p9⟩
  unfold f_X1_copyFrom
  rw [pu_gI h1, Option.bind_some, pu_pI h0, Option.bind_some, pu_gI h1, Option.bind_some, e1, pu_pI h0, Option.bind_some, pu_gI h1, Option.bind_some, e2, pu_pI h0, Option.bind_some, pu_gI h1, Option.bind_some, e3, pu_pI h0, Option.bind_some, pu_gI h1, Option.bind_some, e4, pu_pI h0, Option.bind_some,
    pu_gI h1, Option.bind_some, e5, pu_pI h0, Option.bind_some, pu_gI h1, Option.bind_some, e6, pu_pI h0, Option.bind_some, pu_gI h1, Option.bind_some, e7, pu_pI h0, Option.bind_some, pu_gI h1, Option.bind_some, e8, pu_pI h0, Option.bind_some, pu_gI h1, Option.bind_some, e9, pu_pI h0, Option.bind_some]
def mkP (g : ob_St) (b b' : Nat) (s : ob_St) : Prop := (∀ m, m < b ∨ b + 8 ≤ m → s.1 m = g.1 m) ∧ s.2 = g.2
theorem c_copy {g : ob_St} {b b' : Nat} (hb : c_Mk b) (hb' : c_Mk b') (hne : b ≠ b') : ∃ g', f_X5_copyFrom g b b' = some g' ∧ (∀ m, m < b ∨ b + 8 ≤ m → g'.1 m = g.1 m) ∧ g'.2 = g.2 ∧ (∀ i, 3 ≤ i → i < 7 → g'.1 b i = g.1 b' i) ∧ (∀ t, t ≤ 12 → g'.1 (b + 1) t = g.1 (b' + 1) t ∧ g'.1 (b + 2) t = g.1 (b' + 2) t) ∧ ∀ k, k < 4 → ∀ f, f < 10 → g'.1 (b + 4 + k) f = g.1 (b' + 4 + k) f := by
  have far : b + 8 ≤ b' ∨ b' + 8 ≤ b := by unfold c_Mk at hb hb'; omega
  obtain ⟨k0, ⟨k1, l1⟩, k2, l2⟩ := mk_k hb
  obtain ⟨k0', ⟨k1', l1'⟩, k2', l2'⟩ := mk_k hb'
  obtain ⟨r0, r1, r2⟩ := mk_r hb
  obtain ⟨r0', r1', r2'⟩ := mk_r hb'
  generalize hg8 : ((ob_up (ob_up (ob_up (ob_up g.1 b 3 (g.1 b' 3)) b 4 (g.1 b' 4)) b 5 (g.1 b' 5)) b 6 (g.1 b' 6), g.2) : ob_St) = g8
  have f8 : ∀ m, m ≠ b → g8.1 m = g.1 m := fun m hm => by
    rw [← hg8]
    dsimp only
    rw [pu_up_ne hm, pu_up_ne hm, pu_up_ne hm, pu_up_ne hm]
  have f82 : g8.2 = g.2 := by rw [← hg8]
  have f8b : ∀ i, 3 ≤ i → i < 7 → g8.1 b i = g.1 b' i := by
    intro i h3 h7
    rw [← hg8]
    dsimp only
    rcases (by omega : i = 3 ∨ i = 4 ∨ i = 5 ∨ i = 6) with rfl | rfl | rfl | rfl
    · rw [pu_up_eq, pu_upd_ne (by omega), pu_up_eq, pu_upd_ne (by omega), pu_up_eq, pu_upd_ne (by omega), pu_up_eq, pu_upd_eq]
    · rw [pu_up_eq, pu_upd_ne (by omega), pu_up_eq, pu_upd_ne (by omega), pu_up_eq, pu_upd_eq]
    · rw [pu_up_eq, pu_upd_ne (by omega), pu_up_eq, pu_upd_eq]
    · rw [pu_up_eq, pu_upd_eq]
  obtain ⟨g9, a1, a2, a3, a4⟩ := pu_up (fun f s i => L_X5_copyFrom_34 b b' f s (nI i)) (fun i s => (∀ m, m ≠ b + 1 → m ≠ b + 2 → s.1 m = g8.1 m) ∧ s.2 = g8.2 ∧ ∀ t, t < i → s.1 (b + 1) t = g.1 (b' + 1) t ∧ s.1 (b + 2) t = g.1 (b' + 2) t) 13
    (fun s => (∀ m, m ≠ b + 1 → m ≠ b + 2 → s.1 m = g8.1 m) ∧ s.2 = g8.2 ∧ ∀ t, t < 13 → s.1 (b + 1) t = g.1 (b' + 1) t ∧ s.1 (b + 2) t = g.1 (b' + 2) t)
    (fun f s hI => ⟨s, by
      show Lb_X5_copyFrom_34 _ _ _ _ _ = _
      unfold Lb_X5_copyFrom_34
      have h : (12 : Int32) < nI 13 := nI_lt (a := 12) (b := 13) (by omega) (by omega)
      rw [if_pos h], hI⟩)
    (fun f i s hi hI => by
      obtain ⟨i1, i2, i3⟩ := hI
      have v1 : s.1 (b' + 1) i = g.1 (b' + 1) i := by rw [i1 (b' + 1) (by omega) (by omega), f8 _ (by omega)]
      have v2 : s.1 (b' + 2) i = g.1 (b' + 2) i := by rw [i1 (b' + 2) (by omega) (by omega), f8 _ (by omega)]
      refine ⟨(ob_up (ob_up s.1 (b + 1) i (g.1 (b' + 1) i)) (b + 2) i (g.1 (b' + 2) i), s.2), ⟨fun m x y => ?_, i2, fun t ht => ⟨?_, ?_⟩⟩, ?_⟩
      · show ob_up (ob_up s.1 (b + 1) i _) (b + 2) i _ m = _
        rw [pu_up_ne y, pu_up_ne x, i1 m x y]
      · show ob_up (ob_up s.1 (b + 1) i _) (b + 2) i _ (b + 1) t = _
        rw [pu_up_ne (by omega), pu_up_eq]
        by_cases e : t = i
        · subst e; rw [pu_upd_eq]
        · rw [pu_upd_ne e]; exact (i3 t (by omega)).1
      · show ob_up (ob_up s.1 (b + 1) i _) (b + 2) i _ (b + 2) t = _
        rw [pu_up_eq, pu_up_ne (by omega)]
        by_cases e : t = i
        · subst e; rw [pu_upd_eq]
        · rw [pu_upd_ne e]; exact (i3 t (by omega)).2
      · show Lb_X5_copyFrom_34 _ _ _ _ _ = _
        unfold Lb_X5_copyFrom_34
        have h : ¬ (12 : Int32) < nI i := nI_nlt (a := 12) (b := i) (by omega) (by omega)
        rw [if_neg h, r0, Option.bind_some, r0', Option.bind_some, pu_rI (n := b' + 1) k1' rfl (by omega), Option.bind_some, v1, pu_wI (n := b + 1) k1 rfl (by omega), Option.bind_some, r1, Option.bind_some, r1', Option.bind_some, pu_rI (n := b' + 2) k2' rfl (by omega), Option.bind_some]
        dsimp only
        rw [pu_up_ne (by omega), v2, pu_wI (n := b + 2) k2 rfl (by omega), Option.bind_some, nI_1])
    13 0 ob_FU g8 (by omega) (by unfold ob_FU; omega) ⟨fun _ _ _ => rfl, rfl, fun t ht => by omega⟩
  obtain ⟨g', b1, b2, b3, b4⟩ := pu_up (fun f s i => L_X5_copyFrom_72 b b' f s (nI i)) (fun i s => (∀ m, m < b + 4 ∨ b + 8 ≤ m → s.1 m = g9.1 m) ∧ s.2 = g9.2 ∧ ∀ k, k < i → ∀ f, f < 10 → s.1 (b + 4 + k) f = g.1 (b' + 4 + k) f) 4
    (fun s => (∀ m, m < b + 4 ∨ b + 8 ≤ m → s.1 m = g9.1 m) ∧ s.2 = g9.2 ∧ ∀ k, k < 4 → ∀ f, f < 10 → s.1 (b + 4 + k) f = g.1 (b' + 4 + k) f)
    (fun f s hI => ⟨s, by
      show Lb_X5_copyFrom_72 _ _ _ _ _ = _
      unfold Lb_X5_copyFrom_72
      have h : (4 : Int32) ≤ nI 4 := nI_le (a := 4) (b := 4) (by omega) (by omega)
      rw [if_pos h], hI⟩)
    (fun f i s hi hI => by
      obtain ⟨i1, i2, i3⟩ := hI
      obtain ⟨c1, c2⟩ := mk_c hb hi
      obtain ⟨c1', c2'⟩ := mk_c hb' hi
      obtain ⟨s', d1, d2, d3, d4⟩ := c_copyC (g := s) c2 c2' (by omega)
      refine ⟨s', ⟨fun m hm => by rw [d2 m (by omega), i1 m hm], d3.trans i2, fun k hk f hf => ?_⟩, ?_⟩
      · by_cases e : k = i
        · subst e
          rw [d4 f hf, i1 _ (by omega), a2 _ (by omega) (by omega), f8 _ (by omega)]
        · rw [d2 _ (by omega)]
          exact i3 k (by omega) f hf
      · show Lb_X5_copyFrom_72 _ _ _ _ _ = _
        unfold Lb_X5_copyFrom_72
        have h : ¬ (4 : Int32) ≤ nI i := nI_ge (a := i) (b := 4) (by omega) (by omega)
        rw [if_neg h, r2, Option.bind_some, c1, Option.bind_some, r2', Option.bind_some, c1', Option.bind_some, d1, pu_ck c2, Option.bind_some, nI_1])
    4 0 ob_FU g9 (by omega) (by unfold ob_FU; omega) ⟨fun _ _ => rfl, rfl, fun k hk => by omega⟩
  refine ⟨g', ?_, fun m hm => ?_, ?_, fun i h3 h7 => ?_, fun t ht => ?_, b4⟩
  · unfold f_X5_copyFrom
    rw [pu_gI k0', Option.bind_some, pu_pI k0, Option.bind_some, pu_gI k0', Option.bind_some]
    dsimp only
    rw [pu_up_ne (Ne.symm hne), pu_pI k0, Option.bind_some, pu_gI k0', Option.bind_some]
    dsimp only
    rw [pu_up_ne (Ne.symm hne), pu_up_ne (Ne.symm hne), pu_pI k0, Option.bind_some, pu_gI k0', Option.bind_some]
    dsimp only
    rw [pu_up_ne (Ne.symm hne), pu_up_ne (Ne.symm hne), pu_up_ne (Ne.symm hne), pu_pI k0, Option.bind_some]
    dsimp only
    rw [hg8]
    refine (pu_b a1).trans ?_
    exact pu_b b1
  · rw [b2 m (by omega), a2 m (by omega) (by omega), f8 m (by omega)]
  · rw [b3, a3, f82]
  · rw [b2 b (by omega), a2 b (by omega) (by omega), f8b i h3 h7]
  · rw [b2 (b + 1) (by omega), b2 (b + 2) (by omega)]
    exact a4 t (by omega)
theorem c_M_copy {S : Nat → Int32} {g g' : ob_St} {b b' : Nat} (h3 : ∀ i, 3 ≤ i → i < 7 → g'.1 b i = g.1 b' i) (h4 : ∀ t, t ≤ 12 → g'.1 (b + 1) t = g.1 (b' + 1) t ∧ g'.1 (b + 2) t = g.1 (b' + 2) t) (h5 : ∀ k, k < 4 → ∀ f, f < 10 → g'.1 (b + 4 + k) f = g.1 (b' + 4 + k) f) (hn : sN S 29 ≤ 4) (hM : c_M b' S g) : c_M b S g' := by
  obtain ⟨m0, m1, m2, m3, m4, m5⟩ := hM
  refine ⟨by rw [h3 3 (by omega) (by omega)]; exact m0, by rw [h3 4 (by omega) (by omega)]; exact m1, by rw [h3 5 (by omega) (by omega)]; exact m2, by rw [h3 6 (by omega) (by omega)]; exact m3, fun t ht => by rw [(h4 t ht).1, (h4 t ht).2]; exact m4 t ht, fun k hk => ?_⟩
  have hc := m5 k hk
  unfold c_C at hc ⊢
  have e : ∀ f, f < 10 → g'.1 (b + 4 + k) f = g.1 (b' + 4 + k) f := fun f hf => h5 k (by omega) f hf
  rw [e 0 (by omega), e 1 (by omega), e 2 (by omega), e 3 (by omega), e 4 (by omega), e 5 (by omega), e 6 (by omega), e 7 (by omega), e 8 (by omega), e 9 (by omega)]
  exact hc
theorem nar_b1 : vp_nar .boolean 1 = 1 := by decide +kernel
theorem c_M_c70 {S S' : Nat → Int32} {g : ob_St} {b : Nat} (h : ∀ x, x < 70 → S' x = S x) (hn : sN S 29 ≤ 4) (hM : c_M b S g) : c_M b S' g := by
  obtain ⟨m0, m1, m2, m3, m4, m5⟩ := hM
  have e29 : sN S' 29 = sN S 29 := by unfold sN; rw [h 29 (by omega)]
  refine ⟨by rw [h 0 (by omega)]; exact m0, by rw [h 1 (by omega)]; exact m1, by rw [h 2 (by omega)]; exact m2, by rw [h 29 (by omega)]; exact m3, fun t ht => by rw [h (3 + t) (by omega), h (16 + t) (by omega)]; exact m4 t ht, fun k hk => ?_⟩
  rw [e29] at hk
  have hc := m5 k hk
  have o : ∀ w, w < 10 → sp_o S' k w = sp_o S k w := fun w hw => h _ (by omega)
  unfold c_C at hc ⊢
  rw [o 0 (by omega), o 1 (by omega), o 2 (by omega), o 3 (by omega), o 4 (by omega), o 5 (by omega), o 6 (by omega), o 7 (by omega), o 8 (by omega), o 9 (by omega)]
  exact hc
theorem ew_22 {k : Nat} (h : k < 2) : ob_rR 18 22 (nI k) = some (40 + 8 * k) := by rcases (by omega : k = 0 ∨ k = 1) with rfl | rfl <;> rfl
theorem mk_im {k : Nat} (h : k < 2) : c_Mk (40 + 8 * k) := by unfold c_Mk; omega
theorem PR_image {g : ob_St} {x : Int32} (hI : Inv g) : PR (f_X11_image g 20 x) (fun g1 => f_X12_image g1 0 x) := by
  obtain ⟨i1, i2, i3, i4, i5, i6⟩ := id hI
  have hW := i2.1
  have p : ∀ g1 : ob_St, ob_pI g1 12 0 0 0 = some (m_Th g1 0) := fun _ => rfl
  have md : ∀ g1 : ob_St, f_X12_image g1 0 x = if x < 0 then some (0, m_Th g1 0) else if 1 < x then some (0, m_Th g1 0) else ((f_X12_copies (m_Th g1 0) 1 0 3 (70 * x)).bind fun g5 => (ob_wZ g5 5 x 1).bind fun g7 => some (1, g7)) := fun g1 => by
    unfold f_X12_image f_X12_isIn
    rw [p, Option.bind_some, ev_r0_1, Option.bind_some, ev_r0_3, Option.bind_some]
    by_cases c1 : x < 0
    · rw [if_pos c1, if_pos c1]; rfl
    rw [if_neg c1, if_neg c1]
    by_cases c2 : 1 < x
    · rw [if_pos c2, if_pos c2]; rfl
    · rw [if_neg c2, if_neg c2]; rfl
  unfold f_X11_image
  by_cases c1 : x < 0
  · rw [if_pos c1]
    exact PR_no hI rfl (by rw [md g, if_pos c1])
  rw [if_neg c1]
  have e12 : (x < 2) ↔ ¬ (1 < x) := by
    rw [ni_lt, ni_lt]
    show x.toInt < 2 ↔ ¬ (1 : Int) < x.toInt
    omega
  by_cases c2 : x < 2
  · rw [if_pos c2]
    obtain ⟨k, hk0, rfl⟩ := nI_of c1
    have hk : k < 2 := (nI_ltI (a := k) (b := 2) hk0 (by omega)).mp c2
    obtain ⟨g4, a1, a2, a3, a4, a5, a6⟩ := c_copy (g := g) (mk_im hk) (show c_Mk 24 from Or.inl rfl) (by omega)
    have wz : ob_wZ g4 23 (nI k) 1 = some (ob_up g4.1 23 k 1, g4.2) := by rw [pu_wZ (n := 23) rfl rfl (show k < 2 from hk), nar_b1]
    generalize hg1 : ((ob_up g4.1 23 k 1, g4.2) : ob_St) = g1 at wz
    have e1 : ∀ m, m ≠ 23 → (m < 40 + 8 * k ∨ 40 + 8 * k + 8 ≤ m) → g1.1 m = g.1 m := fun m x y => by
      rw [← hg1]
      dsimp only
      rw [pu_up_ne x, a2 m y]
    have e2 : g1.2 = g.2 := by rw [← hg1]; exact a3
    have e23 : g1.1 23 = upd (g.1 23) k 1 := by
      rw [← hg1]
      dsimp only
      rw [pu_up_eq, a2 23 (by omega)]
    have em : c_M (40 + 8 * k) (g.1 1) g1 := c_M_fr (wf_4 hW) (fun m m1 m2 => by rw [← hg1]; dsimp only; rw [pu_up_ne (by omega)]) (c_M_copy a4 a5 a6 (wf_4 hW) i2.2.1)
    obtain ⟨g5, c5, d2, d3, d4⟩ := m_copies (g := m_Th g1 0) (n0 := 1) (n2 := 3) (a := 0) (b := 70 * k) rfl rfl (by show 0 + 70 ≤ 70; omega) (by show 70 * k + 70 ≤ 140; omega) (by omega)
    have c5 : f_X12_copies (m_Th g1 0) 1 0 3 (nI (70 * k)) = some g5 := c5
    have wz5 : ob_wZ g5 5 (nI k) 1 = some (ob_up g5.1 5 k 1, g5.2) := by rw [pu_wZ (n := 5) rfl rfl (show k < 2 from hk), nar_b1]
    generalize hg7 : ((ob_up g5.1 5 k 1, g5.2) : ob_St) = g7 at wz5
    have th : ∀ m, m ≠ 0 → (m_Th g1 0).1 m = g1.1 m := fun m hm => pu_up_ne hm
    have f : ∀ m, m ≠ 0 → m ≠ 3 → m ≠ 5 → g7.1 m = g1.1 m := fun m x y z => by
      rw [← hg7]
      dsimp only
      rw [pu_up_ne z, d2 m y, th m x]
    have f0 : ∀ i, i ≠ 0 → g7.1 0 i = g.1 0 i := fun i hi => by
      rw [← hg7]
      dsimp only
      rw [pu_up_ne (by omega), d2 0 (by omega)]
      show upd (g1.1 0) 0 0 i = _
      rw [pu_upd_ne hi, e1 0 (by omega) (by omega)]
    have f2 : g7.2 = g.2 := by rw [← hg7]; dsimp only; rw [d3]; exact e2
    have f5 : g7.1 5 = upd (g.1 5) k 1 := by
      rw [← hg7]
      dsimp only
      rw [pu_up_eq, d2 5 (by omega), th 5 (by omega), e1 5 (by omega) (by omega)]
    have f3 : ∀ y, g7.1 3 y = if 70 * k ≤ y ∧ y < 70 * k + 70 then g.1 1 (y - 70 * k) else g.1 3 y := fun y => by
      rw [← hg7]
      dsimp only
      rw [pu_up_ne (by omega), d4 y, th 1 (by omega), th 3 (by omega), e1 1 (by omega) (by omega), e1 3 (by omega) (by omega), Nat.zero_add]
    refine ⟨1, g1, g7, ?_, ?_, ?_⟩
    · rw [ev_r20_4, Option.bind_some, ew_22 hk, Option.bind_some, ev_r20_3, Option.bind_some, a1, pu_ck (mk_k (mk_im hk)).1, Option.bind_some, ev_r20_5, Option.bind_some, wz, Option.bind_some]
    · show f_X12_image g1 0 (nI k) = _
      rw [md g1, if_neg c1, if_neg (e12.mp c2), pu_mul]
      show ((f_X12_copies (m_Th g1 0) 1 0 3 (nI (70 * k))).bind _) = _
      rw [c5, Option.bind_some, wz5, Option.bind_some]
    · have r1 : g7.1 1 = g.1 1 := by rw [f 1 (by omega) (by omega) (by omega), e1 1 (by omega) (by omega)]
      have mq : m_Q g7 := by
        unfold m_Q m_Laid m_Pw m_H at i1 ⊢
        rw [r1, f0 19 (by omega), f 12 (by omega) (by omega) (by omega), f 13 (by omega) (by omega) (by omega), e1 12 (by omega) (by omega), e1 13 (by omega) (by omega), f2]
        exact i1
      refine ⟨mq, ?_, ?_, ?_, ?_, ?_⟩
      · rw [r1]
        refine ⟨hW, c_M_fr (wf_4 hW) (fun m m1 m2 => by rw [f m (by omega) (by omega) (by omega), e1 m (by omega) (by omega)]) i2.2.1, ?_⟩
        rw [f 67 (by omega) (by omega) (by omega), e1 67 (by omega) (by omega)]
        exact i2.2.2.imp (fun x => x) (fun x => ⟨x.1, c_Lat_m hW (fun n hn => by rw [f n (by omega) (by omega) (by omega), e1 n (by omega) (by omega)]) (fun n hn => by rw [f2]) x.2⟩)
      · exact I_T_fr (by rw [f 20 (by omega) (by omega) (by omega), e1 20 (by omega) (by omega)]) (by rw [f 21 (by omega) (by omega) (by omega), e1 21 (by omega) (by omega)]) (by rw [f 6 (by omega) (by omega) (by omega), e1 6 (by omega) (by omega)]) (f0 8 (by omega)) (f0 15 (by omega)) i3
      · intro q hq
        rw [f 23 (by omega) (by omega) (by omega), e23, f5]
        by_cases e : q = k
        · subst e
          have row : ∀ y, y < 70 → im_r g7 q y = g.1 1 y := fun y hy => by
            show g7.1 3 (70 * q + y) = _
            rw [f3, if_pos (by omega), show 70 * q + y - 70 * q = y by omega]
          rw [pu_upd_eq, pu_upd_eq]
          refine ⟨rfl, Or.inr ⟨rfl, wf_c70 hW row, c_M_c70 row (wf_4 hW) ?_⟩⟩
          exact c_M_fr (wf_4 hW) (fun m m1 m2 => f m (by omega) (by omega) (by omega)) em
        · obtain ⟨b1, b2⟩ := i4 q hq
          rw [pu_upd_ne e, pu_upd_ne e]
          refine ⟨b1, b2.imp (fun x => x) (fun x => ⟨x.1, ?_⟩)⟩
          have row : im_r g7 q = im_r g q ∨ ∀ y, y < 70 → im_r g7 q y = im_r g q y := Or.inr fun y hy => by
            show g7.1 3 (70 * q + y) = g.1 3 (70 * q + y)
            rw [f3, if_neg (by omega)]
          have row := row.resolve_left
          have row' : ∀ y, y < 70 → im_r g7 q y = im_r g q y := fun y hy => by
            show g7.1 3 (70 * q + y) = g.1 3 (70 * q + y)
            rw [f3, if_neg (by omega)]
          exact ⟨wf_c70 x.2.1 row', c_M_c70 row' (wf_4 x.2.1) (c_M_fr (wf_4 x.2.1) (fun m m1 m2 => by rw [f m (by omega) (by omega) (by omega), e1 m (by omega) (by omega)]) x.2.2)⟩
      · exact I_U_fr r1 (by rw [f 4 (by omega) (by omega) (by omega), e1 4 (by omega) (by omega)]) (by rw [f 63 (by omega) (by omega) (by omega), e1 63 (by omega) (by omega)]) (by rw [f 64 (by omega) (by omega) (by omega), e1 64 (by omega) (by omega)]) (by rw [f 65 (by omega) (by omega) (by omega), e1 65 (by omega) (by omega)]) (by rw [f 66 (by omega) (by omega) (by omega), e1 66 (by omega) (by omega)]) (f0 6 (by omega)) i5
      · exact I_K_fr (by rw [f2]) i6
  · rw [if_neg c2]
    have c3 : 1 < x := by
      rcases Classical.em (1 < x) with q | q
      · exact q
      · exact absurd (e12.mpr q) c2
    exact PR_no hI rfl (by rw [md g, if_neg c1, if_pos c3])
theorem PR_restore {g : ob_St} {x : Int32} (hI : Inv g) : PR (f_X11_restore g 20 x) (fun g1 => f_X12_restore g1 0 x) := by
  obtain ⟨i1, i2, i3, i4, i5, i6⟩ := id hI
  have p : ∀ g1 : ob_St, ob_pI g1 12 0 0 0 = some (m_Th g1 0) := fun _ => rfl
  have md : ∀ g1 : ob_St, f_X12_restore g1 0 x = if x < 0 then some (0, m_Th g1 0) else if 1 < x then some (0, m_Th g1 0) else ((ob_rI (m_Th g1 0) 16 5 x).bind fun v4 => (if v4 = 0 then (some (0, m_Th g1 0)) else ((f_X12_copies (m_Th g1 0) 3 (70 * x) 1 0).bind fun g7 => (ob_pI g7 12 0 6 0).bind fun g8 => (ob_pZ g8 12 0 19 0).bind fun g9 => some (1, g9)))) := fun g1 => by
    unfold f_X12_restore f_X12_isIn
    rw [p, Option.bind_some, ev_r0_1, ev_r0_3, ev_r0_5]
    simp only [Option.bind_some]
    by_cases c1 : x < 0
    · rw [if_pos c1, if_pos c1]; rfl
    rw [if_neg c1, if_neg c1]
    by_cases c2 : 1 < x
    · rw [if_pos c2, if_pos c2]; rfl
    · rw [if_neg c2, if_neg c2]; rfl
  have e12 : (2 ≤ x) ↔ (1 < x) := by
    rw [ni_lt, ni_le]
    show (2 : Int) ≤ x.toInt ↔ (1 : Int) < x.toInt
    omega
  unfold f_X11_restore
  by_cases c1 : x < 0
  · rw [if_pos c1]
    exact PR_no hI rfl (by rw [md g, if_pos c1])
  rw [if_neg c1]
  by_cases c2 : 2 ≤ x
  · rw [if_pos c2]
    exact PR_no hI rfl (by rw [md g, if_neg c1, if_pos (e12.mp c2)])
  rw [if_neg c2]
  have c3 : ¬ 1 < x := fun z => c2 (e12.mpr z)
  obtain ⟨k, hk0, rfl⟩ := nI_of c1
  have hk : k < 2 := by
    rcases Nat.lt_or_ge k 2 with q | q
    · exact q
    · exact absurd (nI_le (a := 2) (b := k) q (by omega)) c2
  obtain ⟨b1, b2⟩ := i4 k hk
  have r23 : ob_rI g 16 23 (nI k) = some (g.1 23 k) := pu_rI (n := 23) rfl rfl (show k < 2 from hk)
  have r5 : ∀ g1 : ob_St, g1.1 5 = g.1 5 → ob_rI (m_Th g1 0) 16 5 (nI k) = some (g.1 5 k) := fun g1 e => by
    have : ob_rI (m_Th g1 0) 16 5 (nI k) = some ((m_Th g1 0).1 5 k) := pu_rI (n := 5) rfl rfl (show k < 2 from hk)
    rw [this]
    show some (g1.1 5 k) = _
    rw [e]
  rw [ev_r20_5, Option.bind_some, r23, Option.bind_some, b1]
  rcases b2 with b2 | ⟨b2, hW', hM'⟩
  · rw [if_pos b2]
    exact PR_no hI rfl (by rw [md g, if_neg c1, if_neg c3, r5 g rfl, Option.bind_some, if_pos b2])
  · have n1 : ¬ g.1 5 k = 0 := by rw [b2]; decide
    rw [if_neg n1]
    obtain ⟨g6, a1, a2, a3, a4, a5, a6⟩ := c_copy (g := g) (show c_Mk 24 from Or.inl rfl) (mk_im hk) (by omega)
    have hM6 : c_M 24 (im_r g k) g6 := c_M_copy a4 a5 a6 (wf_4 hW') hM'
    generalize hg1 : ((ob_up (ob_up g6.1 63 3 0) 67 6 1, g6.2) : ob_St) = g1
    have e1 : ∀ m, m ≠ 63 → m ≠ 67 → (m < 24 ∨ 32 ≤ m) → g1.1 m = g.1 m := fun m x y z => by
      rw [← hg1]
      dsimp only
      rw [pu_up_ne y, pu_up_ne x, a2 m z]
    have e2 : g1.2 = g.2 := by rw [← hg1]; exact a3
    have e63 : g1.1 63 3 = 0 := by
      rw [← hg1]
      dsimp only
      rw [pu_up_ne (by omega), pu_up_eq, pu_upd_eq]
    have e67 : g1.1 67 6 = 1 := by
      rw [← hg1]
      dsimp only
      rw [pu_up_eq, pu_upd_eq]
    have hM1 : c_M 24 (im_r g k) g1 := c_M_fr (wf_4 hW') (fun m m1 m2 => by rw [← hg1]; dsimp only; rw [pu_up_ne (by omega), pu_up_ne (by omega)]) hM6
    obtain ⟨g7, c5, d2, d3, d4⟩ := m_copies (g := m_Th g1 0) (n0 := 3) (n2 := 1) (a := 70 * k) (b := 0) rfl rfl (by show 70 * k + 70 ≤ 140; omega) (by show 0 + 70 ≤ 70; omega) (by omega)
    have c5 : f_X12_copies (m_Th g1 0) 3 (nI (70 * k)) 1 0 = some g7 := c5
    have th : ∀ m, m ≠ 0 → (m_Th g1 0).1 m = g1.1 m := fun m hm => pu_up_ne hm
    generalize hg9 : ((ob_up (ob_up g7.1 0 6 0) 0 19 0, g7.2) : ob_St) = g9
    have f : ∀ m, m ≠ 0 → m ≠ 1 → g9.1 m = g1.1 m := fun m x y => by
      rw [← hg9]
      dsimp only
      rw [pu_up_ne x, pu_up_ne x, d2 m y, th m x]
    have f0 : ∀ i, i ≠ 0 → i ≠ 6 → i ≠ 19 → g9.1 0 i = g.1 0 i := fun i x y z => by
      rw [← hg9]
      dsimp only
      rw [pu_up_eq, pu_upd_ne z, pu_up_eq, pu_upd_ne y, d2 0 (by omega)]
      show upd (g1.1 0) 0 0 i = _
      rw [pu_upd_ne x, e1 0 (by omega) (by omega) (by omega)]
    have f06 : g9.1 0 6 = 0 := by
      rw [← hg9]
      dsimp only
      rw [pu_up_eq, pu_upd_ne (by omega), pu_up_eq, pu_upd_eq]
    have f19 : g9.1 0 19 = 0 := by
      rw [← hg9]
      dsimp only
      rw [pu_up_eq, pu_upd_eq]
    have f2 : g9.2 = g.2 := by rw [← hg9]; dsimp only; rw [d3]; exact e2
    have f1 : ∀ y, y < 70 → g9.1 1 y = im_r g k y := fun y hy => by
      rw [← hg9]
      dsimp only
      rw [pu_up_ne (by omega), pu_up_ne (by omega), d4 y, if_pos (by omega), th 3 (by omega), e1 3 (by omega) (by omega) (by omega), Nat.sub_zero]
      rfl
    have hW9 : sp_WF (g9.1 1) := wf_c70 hW' f1
    refine ⟨1, g1, g9, ?_, ?_, ?_⟩
    · rw [ev_r20_3, Option.bind_some, ev_r20_4, Option.bind_some, ew_22 hk, Option.bind_some, a1, ev_ck24, Option.bind_some, ev_r20_7, Option.bind_some, ev_p63, Option.bind_some, ev_r20_8, Option.bind_some, pu_pZ (K := 3) (n := 67) rfl (Or.inr rfl), Option.bind_some]
      dsimp only
      rw [hg1]
    · show f_X12_restore g1 0 (nI k) = _
      rw [md g1, if_neg c1, if_neg c3, r5 g1 (e1 5 (by omega) (by omega) (by omega)), Option.bind_some, if_neg n1, pu_mul]
      show ((f_X12_copies (m_Th g1 0) 3 (nI (70 * k)) 1 0).bind _) = _
      rw [c5, Option.bind_some, ev_p0, Option.bind_some, pu_pZ (K := 12) (n := 0) rfl (Or.inl rfl), Option.bind_some]
      dsimp only
      rw [hg9]
    · refine ⟨⟨hW9, Or.inl f19⟩, ⟨hW9, ?_, Or.inl ?_⟩, ?_, ?_, ⟨0, by omega, ?_, f06, fun i hi => by omega⟩, ?_⟩
      · exact c_M_c70 f1 (wf_4 hW') (c_M_fr (wf_4 hW') (fun m m1 m2 => f m (by omega) (by omega)) hM1)
      · rw [f 67 (by omega) (by omega), e67]
      · exact I_T_fr (by rw [f 20 (by omega) (by omega), e1 20 (by omega) (by omega) (by omega)]) (by rw [f 21 (by omega) (by omega), e1 21 (by omega) (by omega) (by omega)]) (by rw [f 6 (by omega) (by omega), e1 6 (by omega) (by omega) (by omega)]) (f0 8 (by omega) (by omega) (by omega)) (f0 15 (by omega) (by omega) (by omega)) i3
      · exact I_I_fr (by rw [f 23 (by omega) (by omega), e1 23 (by omega) (by omega) (by omega)]) (by rw [f 5 (by omega) (by omega), e1 5 (by omega) (by omega) (by omega)]) (by rw [f 3 (by omega) (by omega), e1 3 (by omega) (by omega) (by omega)]) (fun m x y => by rw [f m (by omega) (by omega), e1 m (by omega) (by omega) (by omega)]) i4
      · rw [f 63 (by omega) (by omega), e63]; rfl
      · exact I_K_fr (by rw [f2]) i6
/-! the tape -/
theorem PR_feed {g : ob_St} {x1 x2 x3 x4 x5 : Int32} (hI : Inv g) : PR (f_X11_feed g 20 x1 x2 x3 x4 x5) (fun g1 => f_X12_feed g1 0 x1 x2 x3 x4 x5) := by
  obtain ⟨i1, i2, ⟨n, n1, n2, n3, n4, n5⟩, i4, i5, i6⟩ := id hI
  rcases c_feed (x1 := x1) (x2 := x2) (x3 := x3) (x4 := x4) (x5 := x5) n2 n1 with ⟨c1, c2⟩ | ⟨c1, g1, c2, ⟨t1, t2, t3⟩, c3, c4⟩
  · rcases m_feed (x1 := x1) (x2 := x2) (x3 := x3) (x4 := x4) (x5 := x5) n3 n1 with ⟨d1, d2⟩ | ⟨d1, d2⟩
    · exact PR_no hI c2 d2
    · omega
  · have e0 : g1.1 0 = g.1 0 := t1 0 (by omega) (by omega)
    rcases m_feed (g := g1) (x1 := x1) (x2 := x2) (x3 := x3) (x4 := x4) (x5 := x5) (by rw [e0]; exact n3) n1 with ⟨d1, d2⟩ | ⟨d1, g2, d2, ⟨u1, u2, u3⟩, d3, d4⟩
    · omega
    · have th : ∀ m, m ≠ 0 → (m_Th g1 0).1 m = g1.1 m := fun m hm => pu_up_ne hm
      have f : ∀ m, m ≠ 0 → m ≠ 6 → g2.1 m = g1.1 m := fun m x y => by rw [u1 m x y, th m x]
      have f0 : ∀ i, i ≠ 0 → i ≠ 8 → g2.1 0 i = g.1 0 i := fun i x y => by
        rw [u2 i y]
        show upd (g1.1 0) 0 0 i = _
        rw [pu_upd_ne x, e0]
      have f2 : g2.2 = g.2 := by rw [u3]; exact t3
      have ff : ∀ m, m ≠ 0 → m ≠ 6 → m ≠ 20 → m ≠ 21 → g2.1 m = g.1 m := fun m x y z w => by rw [f m x y, t1 m z w]
      refine ⟨nI (n + 20), g1, g2, c2, d2, ?_⟩
      have r1 : g2.1 1 = g.1 1 := ff 1 (by omega) (by omega) (by omega) (by omega)
      refine ⟨?_, ?_, ⟨n + 20, c1, by rw [f 20 (by omega) (by omega), c3], d3, fun i hi => ?_, ?_⟩, ?_, ?_, ?_⟩
      · unfold m_Q m_Laid m_Pw m_H at i1 ⊢
        rw [r1, f0 19 (by omega) (by omega), ff 12 (by omega) (by omega) (by omega) (by omega), ff 13 (by omega) (by omega) (by omega) (by omega), f2]
        exact i1
      · rw [r1]
        refine ⟨i2.1, c_M_fr (wf_4 i2.1) (fun m m1 m2 => ff m (by omega) (by omega) (by omega) (by omega)) i2.2.1, ?_⟩
        rw [ff 67 (by omega) (by omega) (by omega) (by omega)]
        exact i2.2.2.imp (fun x => x) (fun x => ⟨x.1, c_Lat_m i2.1 (fun n hn => ff n (by omega) (by omega) (by omega) (by omega)) (fun n hn => by rw [f2]) x.2⟩)
      · rw [f 21 (by omega) (by omega), c4 i hi, d4 i hi]
        by_cases c : i < n
        · rw [if_pos c, if_pos c, th 6 (by omega), t1 6 (by omega) (by omega)]
          exact n4 i c
        · rw [if_neg c, if_neg c]
          exact ⟨rfl, bt_ok _ _⟩
      · rw [f 20 (by omega) (by omega), t2 2 (by omega), f0 15 (by omega) (by omega)]
        exact n5
      · exact I_I_fr (ff 23 (by omega) (by omega) (by omega) (by omega)) (ff 5 (by omega) (by omega) (by omega) (by omega)) (ff 3 (by omega) (by omega) (by omega) (by omega)) (fun m x y => ff m (by omega) (by omega) (by omega) (by omega)) i4
      · exact I_U_fr r1 (ff 4 (by omega) (by omega) (by omega) (by omega)) (by rw [ff 63 (by omega) (by omega) (by omega) (by omega)]) (ff 64 (by omega) (by omega) (by omega) (by omega)) (ff 65 (by omega) (by omega) (by omega) (by omega)) (ff 66 (by omega) (by omega) (by omega) (by omega)) (f0 6 (by omega) (by omega)) i5
      · exact I_K_fr (by rw [f2]) i6
theorem PR_end {g : ob_St} {x : Int32} (hI : Inv g) : PR (f_X11_end g 20 x) (fun g1 => f_X12_end g1 0 x) := by
  obtain ⟨i1, i2, ⟨n, n1, n2, n3, n4, n5⟩, i4, i5, i6⟩ := id hI
  have p : ∀ g1 : ob_St, ob_pI g1 12 0 0 0 = some (m_Th g1 0) := fun _ => rfl
  have md : ∀ g1 : ob_St, g1.1 0 8 = nI n → f_X12_end g1 0 x = if x < 0 then some (0, m_Th g1 0) else if x ≤ nI n then some (1, (ob_up (m_Th g1 0).1 0 8 x, (m_Th g1 0).2)) else some (0, m_Th g1 0) := fun g1 e => by
    have e8 : (m_Th g1 0).1 0 8 = nI n := e
    unfold f_X12_end
    rw [p, Option.bind_some, ev_g0, Option.bind_some, e8, ev_p0, Option.bind_some]
  have cd : f_X11_end g 20 x = if x < 0 then some (0, g) else if x ≤ nI n then some (1, (ob_up g.1 20 1 x, g.2)) else some (0, g) := by
    unfold f_X11_end
    rw [ev_g20, Option.bind_some, n2, ev_p20, Option.bind_some]
  rw [cd]
  by_cases c1 : x < 0
  · rw [if_pos c1]
    exact PR_no hI rfl (by rw [md g n3, if_pos c1])
  rw [if_neg c1]
  by_cases c2 : x ≤ nI n
  · rw [if_pos c2]
    obtain ⟨q, hq, rfl⟩ := nI_of c1
    have hqn : q ≤ n := (nI_leI hq (by omega)).mp c2
    refine ⟨1, _, _, rfl, by
      show f_X12_end _ 0 (nI q) = _
      rw [md _ (by show ob_up g.1 20 1 (nI q) 0 8 = _; rw [pu_up_ne (by omega), n3]), if_neg c1, if_pos c2], ?_⟩
    generalize hg2 : ((ob_up (m_Th (ob_up g.1 20 1 (nI q), g.2) 0).1 0 8 (nI q), (m_Th (ob_up g.1 20 1 (nI q), g.2) 0).2) : ob_St) = g2
    have f : ∀ m, m ≠ 0 → m ≠ 20 → g2.1 m = g.1 m := fun m x y => by
      rw [← hg2]
      show ob_up (ob_up (ob_up g.1 20 1 (nI q)) 0 0 0) 0 8 (nI q) m = _
      rw [pu_up_ne x, pu_up_ne x, pu_up_ne y]
    have f0 : ∀ i, i ≠ 0 → i ≠ 8 → g2.1 0 i = g.1 0 i := fun i x y => by
      rw [← hg2]
      show ob_up (ob_up (ob_up g.1 20 1 (nI q)) 0 0 0) 0 8 (nI q) 0 i = _
      rw [pu_up_eq, pu_upd_ne y, pu_up_eq, pu_upd_ne x, pu_up_ne (by omega)]
    have f8 : g2.1 0 8 = nI q := by
      rw [← hg2]
      show ob_up (ob_up (ob_up g.1 20 1 (nI q)) 0 0 0) 0 8 (nI q) 0 8 = _
      rw [pu_up_eq, pu_upd_eq]
    have f20 : ∀ i, i ≠ 1 → g2.1 20 i = g.1 20 i := fun i x => by
      rw [← hg2]
      show ob_up (ob_up (ob_up g.1 20 1 (nI q)) 0 0 0) 0 8 (nI q) 20 i = _
      rw [pu_up_ne (by omega), pu_up_ne (by omega), pu_up_eq, pu_upd_ne x]
    have f201 : g2.1 20 1 = nI q := by
      rw [← hg2]
      show ob_up (ob_up (ob_up g.1 20 1 (nI q)) 0 0 0) 0 8 (nI q) 20 1 = _
      rw [pu_up_ne (by omega), pu_up_ne (by omega), pu_up_eq, pu_upd_eq]
    have f2 : g2.2 = g.2 := by rw [← hg2]; rfl
    have r1 : g2.1 1 = g.1 1 := f 1 (by omega) (by omega)
    refine ⟨?_, ?_, ⟨q, by omega, f201, f8, fun i hi => ?_, ?_⟩, ?_, ?_, ?_⟩
    · unfold m_Q m_Laid m_Pw m_H at i1 ⊢
      rw [r1, f0 19 (by omega) (by omega), f 12 (by omega) (by omega), f 13 (by omega) (by omega), f2]
      exact i1
    · rw [r1]
      refine ⟨i2.1, c_M_fr (wf_4 i2.1) (fun m m1 m2 => f m (by omega) (by omega)) i2.2.1, ?_⟩
      rw [f 67 (by omega) (by omega)]
      exact i2.2.2.imp (fun x => x) (fun x => ⟨x.1, c_Lat_m i2.1 (fun n hn => f n (by omega) (by omega)) (fun n hn => by rw [f2]) x.2⟩)
    · rw [f 21 (by omega) (by omega), f 6 (by omega) (by omega)]
      exact n4 i (by omega)
    · rw [f20 2 (by omega), f0 15 (by omega) (by omega)]
      exact n5
    · exact I_I_fr (f 23 (by omega) (by omega)) (f 5 (by omega) (by omega)) (f 3 (by omega) (by omega)) (fun m x y => f m (by omega) (by omega)) i4
    · exact I_U_fr r1 (f 4 (by omega) (by omega)) (by rw [f 63 (by omega) (by omega)]) (f 64 (by omega) (by omega)) (f 65 (by omega) (by omega)) (f 66 (by omega) (by omega)) (f0 6 (by omega) (by omega)) i5
    · exact I_K_fr (by rw [f2]) i6
  · rw [if_neg c2]
    exact PR_no hI rfl (by rw [md g n3, if_neg c1, if_neg c2])
