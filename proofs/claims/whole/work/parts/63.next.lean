/-! the reference's next token -/
def m_T (b : Nat → Int32) (n : Nat) (g : ob_St) : Prop := g.1 0 9 = nI n ∧ n ≤ 500 ∧ ∀ i, i < n → g.1 6 i = b i ∧ by_ok (b i)
def pk (b : Nat → Int32) (n p : Nat) : Int32 := if p < n then b p &&& 255 else -1
def m_NF (g0 g : ob_St) : Prop := (∀ m, m ≠ 0 → m ≠ 7 → g.1 m = g0.1 m) ∧ (∀ i, i < 10 ∨ 14 < i → g.1 0 i = g0.1 0 i) ∧ g.2 = g0.2
theorem m_NF_refl {g : ob_St} : m_NF g g := ⟨fun _ _ _ => rfl, fun _ _ => rfl, rfl⟩
theorem m_NF_trans {g g1 g2 : ob_St} (h1 : m_NF g g1) (h2 : m_NF g1 g2) : m_NF g g2 := ⟨fun m a b => (h2.1 m a b).trans (h1.1 m a b), fun i h => (h2.2.1 i h).trans (h1.2.1 i h), h2.2.2.trans h1.2.2⟩
theorem m_NF_p {g : ob_St} {k : Nat} {v : Int32} (hk : 10 ≤ k) (hk' : k ≤ 14) : m_NF g (ob_up g.1 0 k v, g.2) := ⟨fun m a _ => pu_up_ne a, fun i h => by show ob_up g.1 0 k v 0 i = _; rw [pu_up_eq, pu_upd_ne (by omega)], rfl⟩
theorem m_NF_7 {g : ob_St} {k : Nat} {v : Int32} : m_NF g (ob_up g.1 7 k v, g.2) := ⟨fun m _ b => pu_up_ne b, fun i h => by show ob_up g.1 7 k v 0 i = _; rw [pu_up_ne (by omega)], rfl⟩
theorem m_T_fr {b : Nat → Int32} {n : Nat} {g g' : ob_St} (h : m_NF g g') (hT : m_T b n g) : m_T b n g' := ⟨by rw [h.2.1 9 (by omega)]; exact hT.1, hT.2.1, fun i hi => by rw [h.1 6 (by omega) (by omega)]; exact hT.2.2 i hi⟩
theorem o_eq {g : ob_St} {k : Nat} {v : Int32} {w : Nat → Nat → Int64} : ((ob_up g.1 0 k v, w) : ob_St).1 0 k = v := by show ob_up g.1 0 k v 0 k = _; rw [pu_up_eq, pu_upd_eq]
theorem o_ne {g : ob_St} {k i : Nat} {v : Int32} {w : Nat → Nat → Int64} (h : i ≠ k) : ((ob_up g.1 0 k v, w) : ob_St).1 0 i = g.1 0 i := by show ob_up g.1 0 k v 0 i = _; rw [pu_up_eq, pu_upd_ne h]
theorem m_peek {g : ob_St} {b : Nat → Int32} {n p : Nat} (hT : m_T b n g) (hp : g.1 0 10 = nI p) (hpn : p ≤ n) : f_X12_peek g 0 = some (pk b n p) := by
  have hn := hT.2.1
  unfold f_X12_peek pk
  rw [ev_g0, Option.bind_some, ev_g0, Option.bind_some, hp, hT.1]
  by_cases c : p < n
  · rw [if_neg (nI_ge c (by omega)), if_pos c, ev_r0_7, Option.bind_some, Option.bind_some, ev_a6 (by omega), Option.bind_some, (hT.2.2 p c).1]
  · rw [if_pos (nI_le (by omega) (by omega)), if_neg c]
theorem pk_f {b : Nat → Int32} {n p : Nat} (hb : ∀ i, i < n → by_ok (b i)) : (tL (pk b n p) = true ↔ p < n ∧ tL (b p) = true) ∧ (tF (pk b n p) = true ↔ p < n ∧ tF (b p) = true) ∧ (pk b n p = 32 ↔ p < n ∧ b p = 32) ∧ (pk b n p = 59 ↔ p < n ∧ b p = 59) ∧ (pk b n p = -1 ↔ ¬ p < n) ∧ (p < n → tA (b p) = true → pk b n p = b p ∧ vp_nar .byte (pk b n p).toInt8.toInt32 = b p ∧ b p ≠ 32) := by
  unfold pk
  by_cases c : p < n
  · rw [if_pos c]
    obtain ⟨h1, h2, h3, h4, h5, h6⟩ := by_p (hb p c)
    rw [h1, h2]
    refine ⟨⟨fun h => ⟨c, h⟩, fun h => h.2⟩, ⟨fun h => ⟨c, h⟩, fun h => h.2⟩, ⟨fun h => ⟨c, h3.mp h⟩, fun h => h3.mpr h.2⟩, ⟨fun h => ⟨c, h4.mp h⟩, fun h => h4.mpr h.2⟩, ⟨fun h => absurd h h5, fun h => absurd c h⟩, fun _ ha => ?_⟩
    obtain ⟨a1, a2, a3, a4⟩ := h6 ha
    rw [a1, a2, a3]
    exact ⟨rfl, rfl, a4⟩
  · rw [if_neg c]
    exact ⟨⟨fun h => absurd h (by decide), fun h => absurd h.1 c⟩, ⟨fun h => absurd h (by decide), fun h => absurd h.1 c⟩, ⟨fun h => absurd h (by decide), fun h => absurd h.1 c⟩, ⟨fun h => absurd h (by decide), fun h => absurd h.1 c⟩, ⟨fun _ => c, fun _ => rfl⟩, fun h => absurd h c⟩
theorem m_skip {b : Nat → Int32} {n : Nat} : ∀ d p fuel (g : ob_St), p + d = n → d < fuel → m_T b n g → g.1 0 10 = nI p → ∃ g', L_X12_next_0 0 fuel g = some g' ∧ m_NF g g' ∧ g'.1 0 10 = nI (sk b n p) := by
  intro d
  induction d with
  | zero =>
    intro p fuel g hd hf hT hp
    obtain ⟨f, rfl⟩ : ∃ f, fuel = f + 1 := ⟨fuel - 1, by omega⟩
    have hn := hT.2.1
    have := (pk_f (b := b) (n := n) (p := p) (fun i hi => (hT.2.2 i hi).2)).2.2.1
    refine ⟨g, ?_, m_NF_refl, ?_⟩
    · show Lb_X12_next_0 _ _ _ = _
      unfold Lb_X12_next_0
      rw [m_peek hT hp (by omega), ev_ck0, Option.bind_some, if_neg (fun h => by have := (this.mp h).1; omega)]
    · rw [hp, show p = n by omega, sk_n]
  | succ d ih =>
    intro p fuel g hd hf hT hp
    obtain ⟨f, rfl⟩ : ∃ f, fuel = f + 1 := ⟨fuel - 1, by omega⟩
    have hn := hT.2.1
    have t := (pk_f (b := b) (n := n) (p := p) (fun i hi => (hT.2.2 i hi).2)).2.2.1
    by_cases c : b p = 32
    · obtain ⟨g', e1, e2, e3⟩ := ih (p + 1) f (ob_up g.1 0 10 (nI (p + 1)), g.2) (by omega) (by omega) (m_T_fr (m_NF_p (by omega) (by omega)) hT) o_eq
      refine ⟨g', ?_, m_NF_trans (m_NF_p (by omega) (by omega)) e2, by rw [e3, sk_1 (by omega) c]⟩
      show Lb_X12_next_0 _ _ _ = _
      unfold Lb_X12_next_0
      rw [m_peek hT hp (by omega), ev_ck0, Option.bind_some, if_pos (t.mpr ⟨by omega, c⟩), ev_g0, Option.bind_some, hp, nI_1, ev_p0, Option.bind_some]
      exact e1
    · refine ⟨g, ?_, m_NF_refl, by rw [hp, sk_0 (by omega) c]⟩
      show Lb_X12_next_0 _ _ _ = _
      unfold Lb_X12_next_0
      rw [m_peek hT hp (by omega), ev_ck0, Option.bind_some, if_neg (fun h => c (t.mp h).2)]
/-- a run of signs -/
def m_RI (b : Nat → Int32) (n q : Nat) (g0 : ob_St) (l : Nat) (g : ob_St) : Prop := m_NF g0 g ∧ q + l ≤ n ∧ g.1 0 10 = nI (q + l) ∧ g.1 0 11 = nI q ∧ g.1 0 13 = lx_n b q l ∧ (∀ j, j < l → j < 8 → g.1 7 j = b (q + j)) ∧ ∀ j, j < l → tA (b (q + j)) = true
theorem lx_f_1 {b : Nat → Int32} {q l : Nat} : lx_f b q (l + 1) = if tF (b (q + l)) = true then lx_f b q l + 1 else lx_f b q l := rfl
theorem tLF {x : Int32} (h : tL x = true) : ¬ tF x = true := fun h' => by
  have a := tL_i h
  have b := tF_i h'
  omega
theorem m_run {b : Nat → Int32} {n q : Nat} {g0 : ob_St} (hT0 : m_T b n g0) : ∀ d l fuel (g : ob_St), q + l + d = n → d < fuel → m_RI b n q g0 l g → ∃ g' l', L_X12_next_93 0 fuel g (nI (l - lx_f b q l)) = some (g', nI (l' - lx_f b q l')) ∧ m_RI b n q g0 l' g' ∧ re b n (q + l) = q + l' := by
  intro d
  induction d with
  | zero =>
    intro l fuel g hd hf hJ
    obtain ⟨f, rfl⟩ : ∃ f, fuel = f + 1 := ⟨fuel - 1, by omega⟩
    obtain ⟨j1, j2, j3, j4, j5, j6, j7⟩ := id hJ
    have hT := m_T_fr j1 hT0
    obtain ⟨t1, t2, _⟩ := pk_f (b := b) (n := n) (p := q + l) (fun i hi => (hT.2.2 i hi).2)
    refine ⟨g, l, ?_, hJ, by rw [show q + l = n by omega, re_n]⟩
    show Lb_X12_next_93 _ _ _ _ = _
    unfold Lb_X12_next_93
    rw [m_peek hT j3 (by omega), ev_ck0, Option.bind_some, m_isSmall, Option.bind_some, if_pos (bI_0.mpr (fun h => by have := (t1.mp h).1; omega)), Option.bind_some, m_isDigit, Option.bind_some, if_pos (bI_0.mpr (fun h => by have := (t2.mp h).1; omega))]
  | succ d ih =>
    intro l fuel g hd hf hJ
    obtain ⟨f, rfl⟩ : ∃ f, fuel = f + 1 := ⟨fuel - 1, by omega⟩
    obtain ⟨j1, j2, j3, j4, j5, j6, j7⟩ := id hJ
    have hT := m_T_fr j1 hT0
    have hn := hT.2.1
    obtain ⟨t1, t2, t3, t4, t5, t6⟩ := pk_f (b := b) (n := n) (p := q + l) (fun i hi => (hT.2.2 i hi).2)
    have fl := lx_f_le (b := b) (q := q) l
    by_cases c : tA (b (q + l)) = true
    · obtain ⟨u1, u2, u3⟩ := t6 (by omega) c
      -- the letter is kept
      have w7 : ∃ g24, (if 8 ≤ nI l then some g else ((ob_gR 12 0 17).bind fun v22 => (ob_ck 12 0 (f_X12_peek g 0)).bind fun v23 => (ob_wB g v22 (nI l) (Int8.toInt32 (Int32.toInt8 v23))))) = some g24 ∧ m_RI b n q g0 l g24 ∧ (l < 8 → g24.1 7 l = b (q + l)) := by
        by_cases c8 : l < 8
        · have c8' : ¬ (8 : Int32) ≤ nI l := nI_ge (a := l) (b := 8) c8 (by omega)
          refine ⟨(ob_up g.1 7 l (b (q + l)), g.2), ?_, ⟨m_NF_trans j1 m_NF_7, j2, ?_, ?_, ?_, fun j jl j8 => ?_, j7⟩, fun _ => ?_⟩
          · rw [if_neg c8', ev_r0_17, Option.bind_some, m_peek hT j3 (by omega), ev_ck0, Option.bind_some, ev_w7 c8, u2]
          · show ob_up g.1 7 l (b (q + l)) 0 10 = _; rw [pu_up_ne (by omega), j3]
          · show ob_up g.1 7 l (b (q + l)) 0 11 = _; rw [pu_up_ne (by omega), j4]
          · show ob_up g.1 7 l (b (q + l)) 0 13 = _; rw [pu_up_ne (by omega), j5]
          · show ob_up g.1 7 l (b (q + l)) 7 j = _; rw [pu_up_eq, pu_upd_ne (by omega)]; exact j6 j jl j8
          · show ob_up g.1 7 l (b (q + l)) 7 l = _; rw [pu_up_eq, pu_upd_eq]
        · have c8' : (8 : Int32) ≤ nI l := nI_le (a := 8) (b := l) (by omega) (by omega)
          exact ⟨g, by rw [if_pos c8'], hJ, fun h => absurd h c8⟩
      obtain ⟨g24, w1, w2, w3⟩ := w7
      obtain ⟨k1, k2, k3, k4, k5, k6, k7⟩ := w2
      have hT4 := m_T_fr k1 hT0
      -- the number
      have N : ∀ g25, m_NF g24 g25 → g25.1 0 10 = nI (q + l + 1) → g25.1 0 11 = nI q → g25.1 0 13 = lx_n b q (l + 1) → g25.1 7 = g24.1 7 → m_RI b n q g0 (l + 1) g25 := by
        intro g25 f1 f2 f3 f4 f5
        refine ⟨m_NF_trans k1 f1, by omega, f2, f3, f4, fun j jl j8 => ?_, fun j jl => ?_⟩
        · rw [f5]
          by_cases e : j = l
          · subst e; exact w3 j8
          · exact k6 j (by omega) j8
        · by_cases e : j = l
          · subst e; exact c
          · exact k7 j (by omega)
      have T : ∀ x : Int32, x = nI (l + 1 - lx_f b q (l + 1)) → ∃ g' l', B_X12_next_156 (L_X12_next_93 0 f) g24 0 (nI l) x 0 = some (g', nI (l' - lx_f b q l')) ∧ m_RI b n q g0 l' g' ∧ re b n (q + l) = q + l' := by
        intro x hx
        have e13 : lx_n b q (l + 1) = if l < 3 then 10 * lx_n b q l + b (q + l) - 48 else lx_n b q l := rfl
        have fin : ∀ v, v = lx_n b q (l + 1) → ∃ g' l', B_X12_next_186 (L_X12_next_93 0 f) g24 0 x 0 v = some (g', nI (l' - lx_f b q l')) ∧ m_RI b n q g0 l' g' ∧ re b n (q + l) = q + l' := by
          intro v hv
          have J := N (ob_up (ob_up g24.1 0 13 v) 0 10 (nI (q + l + 1)), g24.2) (m_NF_trans (m_NF_p (g := g24) (k := 13) (v := v) (by omega) (by omega)) (m_NF_p (g := (ob_up g24.1 0 13 v, g24.2)) (k := 10) (by omega) (by omega)))
            (o_eq (g := (ob_up g24.1 0 13 v, g24.2)))
            ((o_ne (g := (ob_up g24.1 0 13 v, g24.2)) (by omega)).trans ((o_ne (by omega)).trans k4))
            ((o_ne (g := (ob_up g24.1 0 13 v, g24.2)) (by omega)).trans (o_eq.trans hv))
            (show ob_up (ob_up g24.1 0 13 v) 0 10 (nI (q + l + 1)) 7 = g24.1 7 by rw [pu_up_ne (by omega), pu_up_ne (by omega)])
          obtain ⟨g', l', h1, h2, h3⟩ := ih (l + 1) f _ (by omega) (by omega) J
          refine ⟨g', l', ?_, h2, by rw [re_1 (by omega) c]; exact h3⟩
          unfold B_X12_next_186
          rw [ev_p0, Option.bind_some, ev_g0, Option.bind_some, o_ne (by omega), k3, nI_1, ev_p0, Option.bind_some, hx]
          exact h1
        unfold B_X12_next_156
        by_cases c3 : l < 3
        · have c3' : ¬ (3 : Int32) ≤ nI l := nI_ge (a := l) (b := 3) c3 (by omega)
          rw [if_neg c3', ev_g0, Option.bind_some, m_peek hT4 k3 (by omega), ev_ck0, Option.bind_some, u1, k5, Int32.add_zero]
          exact fin _ (by rw [e13, if_pos c3])
        · have c3' : (3 : Int32) ≤ nI l := nI_le (a := 3) (b := l) (by omega) (by omega)
          rw [if_pos c3', ev_g0, Option.bind_some, k5, Int32.add_zero]
          exact fin _ (by rw [e13, if_neg c3])
      have T2 : ∃ g' l', B_X12_next_140 (L_X12_next_93 0 f) g24 0 (nI (l - lx_f b q l)) (nI l) = some (g', nI (l' - lx_f b q l')) ∧ m_RI b n q g0 l' g' ∧ re b n (q + l) = q + l' := by
        unfold B_X12_next_140
        rw [m_peek hT4 k3 (by omega), ev_ck0, Option.bind_some, m_isSmall, Option.bind_some]
        by_cases cL : tL (b (q + l)) = true
        · rw [if_neg (fun h => bI_0.mp h (t1.mpr ⟨by omega, cL⟩))]
          have := T (nI (l - lx_f b q l) + 1) (by rw [nI_1, lx_f_1, if_neg (tLF cL), show l + 1 - lx_f b q l = l - lx_f b q l + 1 by omega])
          have sw : B_X12_next_156 (L_X12_next_93 0 f) g24 0 (nI l) (nI (l - lx_f b q l)) 1 = B_X12_next_156 (L_X12_next_93 0 f) g24 0 (nI l) (nI (l - lx_f b q l) + 1) 0 := by
            unfold B_X12_next_156
            rw [Int32.add_zero]
          rw [sw]
          exact this
        · have cF : tF (b (q + l)) = true := (tA_i.mp c).resolve_left cL
          rw [if_pos (bI_0.mpr (fun h => cL (t1.mp h).2))]
          exact T _ (by rw [lx_f_1, if_pos cF, Nat.add_sub_add_right])
      have T3 : ∃ g' l', B_X12_next_113 (L_X12_next_93 0 f) g 0 (nI (l - lx_f b q l)) = some (g', nI (l' - lx_f b q l')) ∧ m_RI b n q g0 l' g' ∧ re b n (q + l) = q + l' := by
        obtain ⟨g', l', h1, h2⟩ := T2
        refine ⟨g', l', ?_, h2⟩
        unfold B_X12_next_113
        rw [ev_g0, Option.bind_some, ev_g0, Option.bind_some, j3, j4, pk_sub (by omega), Nat.add_sub_cancel_left]
        by_cases c8 : (8 : Int32) ≤ nI l
        · rw [if_pos c8] at w1 ⊢
          cases w1
          exact h1
        · rw [if_neg c8] at w1 ⊢
          rw [ev_r0_17, Option.bind_some, m_peek hT j3 (by omega), ev_ck0, Option.bind_some] at w1 ⊢
          rw [w1, Option.bind_some]
          exact h1
      show ∃ g' l', Lb_X12_next_93 (L_X12_next_93 0 f) g 0 (nI (l - lx_f b q l)) = _ ∧ _
      unfold Lb_X12_next_93
      rw [m_peek hT j3 (by omega), ev_ck0, Option.bind_some, m_isSmall, Option.bind_some]
      by_cases cL : tL (b (q + l)) = true
      · rw [if_neg (fun h => bI_0.mp h (t1.mpr ⟨by omega, cL⟩))]
        exact T3
      · have cF : tF (b (q + l)) = true := (tA_i.mp c).resolve_left cL
        rw [if_pos (bI_0.mpr (fun h => cL (t1.mp h).2)), Option.bind_some, m_isDigit, Option.bind_some, if_neg (fun h => bI_0.mp h (t2.mpr ⟨by omega, cF⟩))]
        exact T3
    · refine ⟨g, l, ?_, hJ, re_0 (by omega) c⟩
      show Lb_X12_next_93 _ _ _ _ = _
      unfold Lb_X12_next_93
      rw [m_peek hT j3 (by omega), ev_ck0, Option.bind_some, m_isSmall, Option.bind_some, if_pos (bI_0.mpr (fun h => c (tA_i.mpr (Or.inl (t1.mp h).2)))), Option.bind_some, m_isDigit, Option.bind_some, if_pos (bI_0.mpr (fun h => c (tA_i.mpr (Or.inr (t2.mp h).2))))]

/-- the reference's token from a place on -/
def tc (k : Nat) : Nat := if k = 0 then 0 else if k = 1 then 4 else if k = 2 then 3 else if k = 3 then 2 else 1
def m_TK (b : Nat → Int32) (n p : Nat) (g : ob_St) : Prop := g.1 0 10 = nI (lx_nx b n p) ∧ g.1 0 11 = nI (sk b n p) ∧ g.1 0 12 = nI (tc (lx_k b n p)) ∧ (lx_k b n p = 3 → g.1 0 13 = lx_n b (sk b n p) (lx_l b n p)) ∧ (4 ≤ lx_k b n p → g.1 0 14 = nI (lx_l b n p) ∧ ∀ j, j < lx_l b n p → g.1 7 j = b (sk b n p + j))
theorem m_next {g : ob_St} {b : Nat → Int32} {n p : Nat} (hT : m_T b n g) (hp : g.1 0 10 = nI p) (hpn : p ≤ n) : ∃ g', f_X12_next g 0 = some g' ∧ m_NF g g' ∧ m_TK b n p g' := by
  have hn := hT.2.1
  obtain ⟨g4, e4, f4, p4⟩ := m_skip (n - p) p ob_FU g (by omega) (by unfold ob_FU; omega) hT hp
  generalize hq : sk b n p = q at p4
  have hql : q ≤ n := by rw [← hq]; exact (sk_le hpn).2
  generalize hg6 : ((ob_up g4.1 0 11 (nI q), g4.2) : ob_St) = g6
  have f6 : m_NF g g6 := by rw [← hg6]; exact m_NF_trans f4 (m_NF_p (by omega) (by omega))
  have p6 : g6.1 0 10 = nI q := by rw [← hg6]; exact (o_ne (by omega)).trans p4
  have a6 : g6.1 0 11 = nI q := by rw [← hg6]; exact o_eq
  have hT6 := m_T_fr f6 hT
  obtain ⟨t1, t2, t3, t4, t5, t6⟩ := pk_f (b := b) (n := n) (p := q) (fun i hi => (hT.2.2 i hi).2)
  unfold f_X12_next m_TK
  rw [e4, Option.bind_some, ev_g0, Option.bind_some, p4, ev_p0, Option.bind_some, hg6, m_peek hT6 p6 hql, ev_ck0, Option.bind_some]
  by_cases c0 : q < n
  · have c0' : ¬ n ≤ q := by omega
    rw [if_neg (fun h => t5.mp h c0), m_isSmall, Option.bind_some]
    by_cases cA : tA (b q) = true
    · -- a run
      have T : ∃ g', B_X12_next_86 g6 0 = some g' ∧ m_NF g g' ∧ (g'.1 0 10 = nI (re b n q) ∧ g'.1 0 11 = nI q ∧ g'.1 0 12 = nI (tc (lx_rk b q (re b n q - q))) ∧ (lx_rk b q (re b n q - q) = 3 → g'.1 0 13 = lx_n b q (re b n q - q)) ∧ (4 ≤ lx_rk b q (re b n q - q) → g'.1 0 14 = nI (re b n q - q) ∧ ∀ j, j < re b n q - q → g'.1 7 j = b (q + j))) := by
        have J : m_RI b n q g 0 (ob_up g6.1 0 13 0, g6.2) := ⟨m_NF_trans f6 (m_NF_p (by omega) (by omega)), by omega, (o_ne (by omega)).trans p6, (o_ne (by omega)).trans a6, o_eq, fun j hj => by omega, fun j hj => by omega⟩
        obtain ⟨g7, l, e7, ⟨j1, j2, j3, j4, j5, j6, j7⟩, r7⟩ := m_run hT (n - q) 0 ob_FU _ (by omega) (by unfold ob_FU; omega) J
        have r7 : re b n q = q + l := r7
        have r8 := re_1 c0 cA
        have r9 := re_le (b := b) (n := n) (p := q + 1) (by omega)
        have fl := lx_f_le (b := b) (q := q) l
        rw [r7, Nat.add_sub_cancel_left]
        generalize hg8 : ((ob_up g7.1 0 14 (nI l), g7.2) : ob_St) = g8
        have f8 : m_NF g g8 := by rw [← hg8]; exact m_NF_trans j1 (m_NF_p (by omega) (by omega))
        have k10 : g8.1 0 10 = nI (q + l) := by rw [← hg8]; exact (o_ne (by omega)).trans j3
        have k11 : g8.1 0 11 = nI q := by rw [← hg8]; exact (o_ne (by omega)).trans j4
        have k13 : g8.1 0 13 = lx_n b q l := by rw [← hg8]; exact (o_ne (by omega)).trans j5
        have k14 : g8.1 0 14 = nI l := by rw [← hg8]; exact o_eq
        have k7 : g8.1 7 = g7.1 7 := by rw [← hg8]; show ob_up g7.1 0 14 (nI l) 7 = _; rw [pu_up_ne (by omega)]
        have W : ∀ t, t = tc (lx_rk b q l) → ∃ g', some ((ob_up g8.1 0 12 (nI t), g8.2) : ob_St) = some g' ∧ m_NF g g' ∧ (g'.1 0 10 = nI (q + l) ∧ g'.1 0 11 = nI q ∧ g'.1 0 12 = nI (tc (lx_rk b q l)) ∧ (lx_rk b q l = 3 → g'.1 0 13 = lx_n b q l) ∧ (4 ≤ lx_rk b q l → g'.1 0 14 = nI l ∧ ∀ j, j < l → g'.1 7 j = b (q + j))) := by
          intro t ht
          refine ⟨_, rfl, m_NF_trans f8 (m_NF_p (by omega) (by omega)), (o_ne (by omega)).trans k10, (o_ne (by omega)).trans k11, by rw [← ht]; exact o_eq, fun _ => (o_ne (by omega)).trans k13, fun h4 => ⟨(o_ne (by omega)).trans k14, fun j hj => ?_⟩⟩
          have l8 : l ≤ 8 := by
            unfold lx_rk at h4
            by_cases c1 : lx_f b q l = l ∧ l ≤ 3
            · omega
            rw [if_neg c1] at h4
            by_cases c2 : lx_f b q l = 0 ∧ l ≤ 8
            · omega
            rw [if_neg c2] at h4
            omega
          show ob_up g8.1 0 12 (nI t) 7 j = _
          rw [pu_up_ne (by omega), k7]
          exact j6 j hj (by omega)
        have e7 : L_X12_next_93 0 ob_FU (ob_up g6.1 0 13 0, g6.2) 0 = some (g7, nI (l - lx_f b q l)) := e7
        unfold B_X12_next_86
        rw [ev_p0, Option.bind_some, e7, Option.bind_some]
        show ∃ g', ((ob_gI g7 12 0 10).bind _) = _ ∧ _
        rw [ev_g0, Option.bind_some, ev_g0, Option.bind_some, j3, j4, pk_sub (by omega), Nat.add_sub_cancel_left, ev_p0, Option.bind_some, hg8, ev_g0, Option.bind_some, k14]
        show ∃ g', (if nI (l - lx_f b q l) = nI l then ((some (nI l)).bind fun v36 => (if 9 ≤ v36 then B_X12_next_237 g8 0 (nI (l - lx_f b q l)) 0 else ((ob_pI g8 12 0 12 1).bind fun g37 => some g37))) else B_X12_next_237 g8 0 (nI (l - lx_f b q l)) 0) = _ ∧ _
        rw [Option.bind_some]
        have z : ∀ x t, x = t → t = tc (lx_rk b q l) → ∃ g', ((ob_pI g8 12 0 12 (nI x)).bind fun g34 => some g34) = some g' ∧ m_NF g g' ∧ (g'.1 0 10 = nI (q + l) ∧ g'.1 0 11 = nI q ∧ g'.1 0 12 = nI (tc (lx_rk b q l)) ∧ (lx_rk b q l = 3 → g'.1 0 13 = lx_n b q l) ∧ (4 ≤ lx_rk b q l → g'.1 0 14 = nI l ∧ ∀ j, j < l → g'.1 7 j = b (q + j))) := by
          intro x t hx ht
          rw [ev_p0, Option.bind_some, hx]
          exact W t ht
        by_cases d1 : lx_f b q l = 0
        · have d1' : nI (l - lx_f b q l) = nI l := by rw [d1]; rfl
          rw [if_pos d1']
          by_cases d2 : l ≤ 8
          · have d2' : ¬ (9 : Int32) ≤ nI l := nI_ge (a := l) (b := 9) (by omega) (by omega)
            rw [if_neg d2']
            refine z 1 1 rfl ?_
            unfold lx_rk
            rw [if_neg (fun h => by omega), if_pos ⟨d1, d2⟩]
            by_cases d3 : (lx_kw b q l).isSome = true
            · rw [if_pos d3]; rfl
            · rw [if_neg d3]; rfl
          · have d2' : (9 : Int32) ≤ nI l := nI_le (a := 9) (b := l) (by omega) (by omega)
            rw [if_pos d2', d1']
            unfold B_X12_next_237
            rw [if_neg (nI_ne0 (by omega) (by omega))]
            refine z 4 4 rfl ?_
            unfold lx_rk
            rw [if_neg (fun h => by omega), if_neg (fun h => d2 h.2)]
            rfl
        · rw [if_neg (fun h => by have := (nI_eq (by omega) (by omega)).mp h; omega)]
          unfold B_X12_next_237
          by_cases d2 : lx_f b q l = l
          · have d2' : nI (l - lx_f b q l) = 0 := by rw [d2, Nat.sub_self]; rfl
            rw [if_pos d2', ev_g0, Option.bind_some, k14]
            by_cases d3 : l ≤ 3
            · have d3' : ¬ (4 : Int32) ≤ nI l := nI_ge (a := l) (b := 4) (by omega) (by omega)
              rw [if_neg d3']
              refine z 2 2 rfl ?_
              unfold lx_rk
              rw [if_pos ⟨d2, d3⟩]
              rfl
            · have d3' : (4 : Int32) ≤ nI l := nI_le (a := 4) (b := l) (by omega) (by omega)
              rw [if_pos d3']
              refine z 4 4 rfl ?_
              unfold lx_rk
              rw [if_neg (fun h => d3 h.2), if_neg (fun h => d1 h.1)]
              rfl
          · rw [if_neg (nI_ne0 (by omega) (by omega))]
            refine z 4 4 rfl ?_
            unfold lx_rk
            rw [if_neg (fun h => d2 h.1), if_neg (fun h => d1 h.1)]
            rfl
      have ek : lx_k b n p = lx_rk b q (re b n q - q) := by
        unfold lx_k lx_l
        rw [hq, if_neg c0', if_pos cA]
      have en : lx_nx b n p = re b n q := by
        unfold lx_nx
        rw [hq, if_neg c0', if_pos cA]
      have el : lx_l b n p = re b n q - q := by unfold lx_l; rw [hq]
      rw [hq, ek, en, el]
      by_cases cL : tL (b q) = true
      · rw [if_neg (fun h => bI_0.mp h (t1.mpr ⟨c0, cL⟩))]
        exact T
      · have cF : tF (b q) = true := (tA_i.mp cA).resolve_left cL
        rw [if_pos (bI_0.mpr (fun h => cL (t1.mp h).2)), m_isDigit, Option.bind_some, if_neg (fun h => bI_0.mp h (t2.mpr ⟨c0, cF⟩))]
        exact T
    · have en : lx_nx b n p = q + 1 := by
        unfold lx_nx
        rw [hq, if_neg c0', if_neg cA]
      rw [if_pos (bI_0.mpr (fun h => cA (tA_i.mpr (Or.inl (t1.mp h).2)))), m_isDigit, Option.bind_some, if_pos (bI_0.mpr (fun h => cA (tA_i.mpr (Or.inr (t2.mp h).2)))), ev_g0, Option.bind_some, p6, nI_1, ev_p0, Option.bind_some]
      have W : ∀ k t, k = lx_k b n p → t = tc k → k < 3 → ∃ g', ((ob_pI (ob_up g6.1 0 10 (nI (q + 1)), g6.2) 12 0 12 (nI t)).bind fun g42 => some g42) = some g' ∧ m_NF g g' ∧ (g'.1 0 10 = nI (lx_nx b n p) ∧ g'.1 0 11 = nI (sk b n p) ∧ g'.1 0 12 = nI (tc (lx_k b n p)) ∧ (lx_k b n p = 3 → g'.1 0 13 = lx_n b (sk b n p) (lx_l b n p)) ∧ (4 ≤ lx_k b n p → g'.1 0 14 = nI (lx_l b n p) ∧ ∀ j, j < lx_l b n p → g'.1 7 j = b (sk b n p + j))) := by
        intro k t hk ht k3
        rw [ev_p0, Option.bind_some, ← hk, en, hq, ← ht]
        exact ⟨_, rfl, m_NF_trans f6 (m_NF_trans (m_NF_p (g := g6) (k := 10) (v := nI (q + 1)) (by omega) (by omega)) (m_NF_p (g := (ob_up g6.1 0 10 (nI (q + 1)), g6.2)) (by omega) (by omega))), (o_ne (g := (ob_up g6.1 0 10 (nI (q + 1)), g6.2)) (by omega)).trans o_eq, (o_ne (g := (ob_up g6.1 0 10 (nI (q + 1)), g6.2)) (by omega)).trans ((o_ne (by omega)).trans a6), o_eq (g := (ob_up g6.1 0 10 (nI (q + 1)), g6.2)), fun h => by omega, fun h => by omega⟩
      by_cases c5 : b q = 59
      · rw [if_pos (t4.mpr ⟨c0, c5⟩)]
        exact W 2 3 (by unfold lx_k; rw [hq, if_neg c0', if_neg cA, if_pos c5]) rfl (by omega)
      · rw [if_neg (fun h => c5 (t4.mp h).2)]
        exact W 1 4 (by unfold lx_k; rw [hq, if_neg c0', if_neg cA, if_neg c5]) rfl (by omega)
  · have en : lx_nx b n p = q := by
      unfold lx_nx
      rw [hq, if_pos (by omega)]
      omega
    have ek : lx_k b n p = 0 := by
      unfold lx_k
      rw [hq, if_pos (by omega)]
    rw [if_pos (t5.mpr c0), ev_p0, Option.bind_some, hq, en, ek]
    exact ⟨_, rfl, m_NF_trans f6 (m_NF_p (by omega) (by omega)), (o_ne (by omega)).trans p6, (o_ne (by omega)).trans a6, o_eq, fun h => by omega, fun h => by omega⟩
