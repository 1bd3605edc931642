/-! bestBy: both sides -/
theorem c_bestMark {S : Nat → Int32} {g : ob_St} {k u : Nat} (hW : sp_WF S) (hM : c_M 24 S g) (hL : c_Lat S g) (hk : k < sN S 29) (hu : u ≤ 1) : ∃ g', f_X8_bestMark g 122 (72 + 8 * k) (28 + k) (nI u) = some (nI (sp_am (sp_F S k (nI u)) 2999), g') ∧ c_BF g g' := by
  have h12 := wf_12 hW
  obtain ⟨g1, o1, o2, a, K, a1, a2, a3⟩ := c_collect hW hM hL hk hu
  have hK : K < 92 := by
    have h1 : c_tri (sN S 2) ≤ 78 := by
      rcases Nat.lt_or_ge (sN S 2) 12 with q | q
      · have := c_tri_lt q
        have h2 : c_tri 12 = 78 := rfl
        omega
      · rw [show sN S 2 = 12 by omega]
        exact Nat.le_refl _
    unfold nd at a2
    omega
  have keep : ∀ g2 g3 : ob_St, m_RF (fun m => m = 123 ∨ m = 124) g2 g3 → c_MA g2 a K → c_MA g3 a K := fun g2 g3 h hA => by
    unfold c_MA at hA ⊢
    rw [h.1]
    exact hA
  have w0 := c_worthOf (mk := 0) (up := nI u) hW (c_M_B o2 hM hW) (c_Lat_B o2 hL hW) hk
  obtain ⟨g2, w1, w2⟩ := w0
  have w1 : f_X8_worthOf g1 122 (72 + 8 * k) (28 + k) 0 (nI u) = some (sp_F S k (nI u) (mk_b a 0), g2) := w1
  obtain ⟨r, l1, l2⟩ := pu_up (fun f (s : ob_St × Int32 × Int64) i => L_X8_bestMark_23 122 (72 + 8 * k) (28 + k) (nI u) f s.1 s.2.1 s.2.2 (nI i))
    (fun i s => c_BF g s.1 ∧ c_MA s.1 a K ∧ ∃ x, x ≤ i ∧ s.2.1 = nI (mk_b a x) ∧ s.2.2 = sp_F S k (nI u) (mk_b a x) ∧ (∀ y, y ≤ i → sp_F S k (nI u) (mk_b a y) ≤ sp_F S k (nI u) (mk_b a x)) ∧ ∀ y, y < x → sp_F S k (nI u) (mk_b a y) < sp_F S k (nI u) (mk_b a x)) K
    (fun r => c_BF g r.1 ∧ r.2 = nI (sp_am (sp_F S k (nI u)) 2999))
    (fun f s hI => by
      obtain ⟨i1, i2, x, x1, x2, x3, x4, x5⟩ := hI
      refine ⟨(s.1, s.2.1), ?_, i1, ?_⟩
      · show Lb_X8_bestMark_23 _ _ _ _ _ _ _ _ _ = _
        unfold Lb_X8_bestMark_23
        rw [ev_g122, Option.bind_some, i2.1, if_pos (nI_le (by omega) (by omega))]
      · show s.2.1 = _
        rw [x2, mk_best hW hu (fun i hi => (a1.2.1 i hi).2) a1.2.2 (fun t j ht hj hc => a3 t j ht hj (by omega) hc) x1 x4 x5])
    (fun f i s hi hI => by
      obtain ⟨i1, i2, x, x1, x2, x3, x4, x5⟩ := hI
      obtain ⟨g3, v1, v2⟩ := c_worthOf (mk := nI (a i)) (up := nI u) hW (c_M_B i1 hM hW) (c_Lat_B i1 hL hW) hk
      have v1 : f_X8_worthOf s.1 122 (72 + 8 * k) (28 + k) (nI (a i)) (nI u) = some (sp_F S k (nI u) (mk_b a (i + 1)), g3) := v1
      have A3 := keep _ _ v2 i2
      have B3 := c_BF_tr i1 (c_BF_RF v2 (fun m hm => by omega))
      have hd : L_X8_bestMark_23 122 (72 + 8 * k) (28 + k) (nI u) (f + 1) s.1 s.2.1 s.2.2 (nI i) = if sp_F S k (nI u) (mk_b a (i + 1)) ≤ s.2.2 then L_X8_bestMark_23 122 (72 + 8 * k) (28 + k) (nI u) f g3 s.2.1 s.2.2 (nI (i + 1)) else L_X8_bestMark_23 122 (72 + 8 * k) (28 + k) (nI u) f g3 (nI (mk_b a (i + 1))) (sp_F S k (nI u) (mk_b a (i + 1))) (nI (i + 1)) := by
        show Lb_X8_bestMark_23 _ _ _ _ _ _ _ _ _ = _
        unfold Lb_X8_bestMark_23 B_X8_bestMark_69
        rw [ev_g122, Option.bind_some, i2.1, if_neg (nI_ge (by omega) (by omega)), ev_r122_3, Option.bind_some, ev_a125 (by omega), Option.bind_some, (i2.2.1 i hi).1, v1, ev_ck122, Option.bind_some, nI_1, Option.bind_some]
        show (if _ then _ else ((ob_rI g3 14 125 (nI i)).bind _)) = _
        rw [ev_a125 (by omega), Option.bind_some, (A3.2.1 i hi).1]
        rfl
      rw [hd]
      by_cases c : sp_F S k (nI u) (mk_b a (i + 1)) ≤ s.2.2
      · rw [if_pos c]
        refine ⟨(g3, s.2.1, s.2.2), ⟨B3, A3, x, by omega, x2, x3, fun y hy => ?_, x5⟩, rfl⟩
        by_cases e : y = i + 1
        · subst e
          rw [← x3]
          exact c
        · exact x4 y (by omega)
      · rw [if_neg c]
        have c' : sp_F S k (nI u) (mk_b a x) < sp_F S k (nI u) (mk_b a (i + 1)) := by
          rw [← x3]
          exact Int64.not_le.mp c
        have lt : ∀ y, y ≤ i → sp_F S k (nI u) (mk_b a y) < sp_F S k (nI u) (mk_b a (i + 1)) := fun y hy => by
          have := x4 y hy
          rw [nu_le] at this
          rw [nu_lt] at c' ⊢
          omega
        refine ⟨(g3, nI (mk_b a (i + 1)), sp_F S k (nI u) (mk_b a (i + 1))), ⟨B3, A3, i + 1, Nat.le_refl _, rfl, rfl, fun y hy => ?_, fun y hy => lt y (by omega)⟩, rfl⟩
        by_cases e : y = i + 1
        · subst e
          exact Int64.le_refl _
        · exact Int64.le_of_lt (lt y (by omega)))
    K 0 ob_FU (g2, 0, sp_F S k (nI u) (mk_b a 0)) (by omega) (by unfold ob_FU; omega) ⟨c_BF_tr o2 (c_BF_RF w2 (fun m hm => by omega)), keep _ _ w2 a1, 0, Nat.le_refl _, rfl, rfl, fun y hy => by
      have : y = 0 := by omega
      subst this
      exact Int64.le_refl _, fun y hy => by omega⟩
  refine ⟨r.1, ?_, l2.1⟩
  unfold f_X8_bestMark
  rw [o1, ev_ck122, Option.bind_some, w1, ev_ck122, Option.bind_some]
  refine (pu_b l1).trans ?_
  rw [l2.2]
def an_best (S : Nat → Int32) (x1 x2 : Int32) : Int32 := if (qO S x1 && qB x2) = true then nI (sp_am (sp_F S x1.toNatClampNeg x2) 2999) else -1
theorem qB_e {p : Int32} (h : qB p = true) : ∃ u, u ≤ 1 ∧ p = nI u := by
  unfold qB at h
  by_cases h1 : p = 0
  · exact ⟨0, by omega, h1⟩
  rw [if_neg h1] at h
  by_cases h2 : p = 1
  · exact ⟨1, by omega, h2⟩
  · rw [if_neg h2] at h
    exact absurd h (by decide)
theorem c_bestBy {S : Nat → Int32} {g : ob_St} {x1 x2 : Int32} (hQ : c_Q S g) : c_I S g (an_best S x1 x2) (f_X11_bestBy g 20 x1 x2) := by
  have hW := hQ.1
  have hM := hQ.2.1
  have h4 := wf_4 hW
  unfold f_X11_bestBy an_best
  rw [c_isOption hM, ev_ck20, Option.bind_some, bI_if, c_isBit, Option.bind_some, bI_if]
  by_cases c1 : qO S x1 = true
  · rw [if_pos c1]
    by_cases c2 : qB x2 = true
    · rw [if_pos c2, if_pos (an_and2.mpr ⟨c1, c2⟩)]
      obtain ⟨k, hk, rfl⟩ := qO_e hW c1
      obtain ⟨u, hu, rfl⟩ := qB_e c2
      rw [nI_clamp (by omega)]
      obtain ⟨g1, s1, s2, s3, s4, s5, s6⟩ := c_sheetOf hQ hk
      obtain ⟨g', o1, o2⟩ := c_bestMark hW s4 s5 hk hu
      have e6 : g'.1 67 6 = 0 := by rw [(o2 67 (by omega)).1]; exact s6
      refine ⟨g', ?_, c_K_tr s2 (c_K_B o2), c_Lat_Q hW (c_M_B o2 s4 hW) e6 (c_Lat_B o2 s5 hW)⟩
      rw [ev_r20_11, Option.bind_some, s1, ev_ck20, Option.bind_some, ev_r20_3, Option.bind_some, ev_r24_2, Option.bind_some, ew_27 (by omega), Option.bind_some, o1, ev_ck122, Option.bind_some]
    · rw [if_neg c2, if_neg (fun h => c2 (an_and2.mp h).2)]
      exact ⟨g, rfl, c_K_refl g, hQ⟩
  · rw [if_neg c1, if_neg (fun h => c1 (an_and2.mp h).1)]
    exact ⟨g, rfl, c_K_refl g, hQ⟩
theorem m_RF_tr {r : Nat → Prop} {a b c : ob_St} (h : m_RF r a b) (h' : m_RF r b c) : m_RF r a c := ⟨h'.1.trans h.1, fun m hm => (h'.2 m hm).trans (h.2 m hm)⟩
theorem m_bestL {g : ob_St} {k u : Nat} (hW : sp_WF (g.1 1)) (hL : m_Laid g) (hk : k < sN (g.1 1) 29) (g2 : ob_St) (hg2 : m_RF (fun m => m = 17 ∨ m = 18) g g2) :
    ∃ r, L_X12_bestBy_40 0 (nI k) (nI u) ob_FU g2 0 (sp_F (g.1 1) k (nI u) 0) (nI 1) = some r ∧ m_RF (fun m => m = 17 ∨ m = 18) g r.1 ∧ r.2 = nI (sp_am (sp_F (g.1 1) k (nI u)) 2999) := by
  exact pu_up (fun f (s : ob_St × Int32 × Int64) i => L_X12_bestBy_40 0 (nI k) (nI u) f s.1 s.2.1 s.2.2 (nI i))
    (fun i s => 1 ≤ i ∧ m_RF (fun m => m = 17 ∨ m = 18) g s.1 ∧ s.2.1 = nI (sp_am (sp_F (g.1 1) k (nI u)) (i - 1)) ∧ s.2.2 = sp_F (g.1 1) k (nI u) (sp_am (sp_F (g.1 1) k (nI u)) (i - 1))) 3000
    (fun r => m_RF (fun m => m = 17 ∨ m = 18) g r.1 ∧ r.2 = nI (sp_am (sp_F (g.1 1) k (nI u)) 2999))
    (fun f s hI => ⟨(s.1, s.2.1), by
      show Lb_X12_bestBy_40 _ _ _ _ _ _ _ _ = _
      unfold Lb_X12_bestBy_40
      have h3 : (3000 : Int32) ≤ nI 3000 := nI_le (a := 3000) (b := 3000) (by omega) (by omega)
      rw [if_pos h3], hI.2.1, hI.2.2.1⟩)
    (fun f i s hi hI => by
      obtain ⟨h1, h2, h3, h4⟩ := hI
      obtain ⟨i', rfl⟩ : ∃ i', i = i' + 1 := ⟨i - 1, by omega⟩
      rw [Nat.add_sub_cancel] at h3 h4
      have e1 : s.1.1 1 = g.1 1 := by rw [h2.1]
      have wa := m_worthAt (g := s.1) (k := k) (mk := nI (i' + 1)) (up := nI u)
      rw [e1] at wa
      obtain ⟨g3, v1, v2⟩ := wa hW (m_Laid_RF h2 (fun m hm => by omega) hL) hk
      have v1 : f_X12_worthAt s.1 0 (nI k) (nI (i' + 1)) (nI u) = some (sp_F (g.1 1) k (nI u) (i' + 1), g3) := v1
      have n3 : ¬ (3000 : Int32) ≤ nI (i' + 1) := nI_ge (a := i' + 1) (b := 3000) (by omega) (by omega)
      have hd : L_X12_bestBy_40 0 (nI k) (nI u) (f + 1) s.1 s.2.1 s.2.2 (nI (i' + 1)) = if s.2.2 < sp_F (g.1 1) k (nI u) (i' + 1) then L_X12_bestBy_40 0 (nI k) (nI u) f g3 (nI (i' + 1)) (sp_F (g.1 1) k (nI u) (i' + 1)) (nI (i' + 1 + 1)) else L_X12_bestBy_40 0 (nI k) (nI u) f g3 s.2.1 s.2.2 (nI (i' + 1 + 1)) := by
        show Lb_X12_bestBy_40 _ _ _ _ _ _ _ _ = _
        unfold Lb_X12_bestBy_40 B_X12_bestBy_76
        rw [if_neg n3, v1, ev_ck0, Option.bind_some, nI_1]
      have step : sp_am (sp_F (g.1 1) k (nI u)) (i' + 1) = if sp_F (g.1 1) k (nI u) (sp_am (sp_F (g.1 1) k (nI u)) i') < sp_F (g.1 1) k (nI u) (i' + 1) then i' + 1 else sp_am (sp_F (g.1 1) k (nI u)) i' := rfl
      rw [hd, h4]
      by_cases c : sp_F (g.1 1) k (nI u) (sp_am (sp_F (g.1 1) k (nI u)) i') < sp_F (g.1 1) k (nI u) (i' + 1)
      · rw [if_pos c]
        rw [if_pos c] at step
        exact ⟨(g3, nI (i' + 1), sp_F (g.1 1) k (nI u) (i' + 1)), ⟨by omega, m_RF_tr h2 v2, by rw [Nat.add_sub_cancel, step], by rw [Nat.add_sub_cancel, step]⟩, rfl⟩
      · rw [if_neg c]
        rw [if_neg c] at step
        exact ⟨(g3, s.2.1, sp_F (g.1 1) k (nI u) (sp_am (sp_F (g.1 1) k (nI u)) i')), ⟨by omega, m_RF_tr h2 v2, by rw [Nat.add_sub_cancel, step]; exact h3, by rw [Nat.add_sub_cancel, step]⟩, rfl⟩)
    2999 1 ob_FU (g2, 0, sp_F (g.1 1) k (nI u) 0) (by omega) (by unfold ob_FU; omega) ⟨Nat.le_refl _, hg2, rfl, rfl⟩
theorem m_bestBy {g : ob_St} {x1 x2 : Int32} (hQ : m_Q g) : m_I g (an_best (g.1 1) x1 x2) (f_X12_bestBy g 0 x1 x2) := by
  have hW := hQ.1
  have h4 := wf_4 hW
  unfold f_X12_bestBy an_best
  rw [ev_p0, Option.bind_some]
  show m_I g _ ((ob_ck 12 0 (f_X12_isOption (m_Th g 0) 0 x1)).bind _)
  rw [m_isOption (m_Q_th hQ).1, ev_ck0, Option.bind_some, bI_if, m_isUpper, Option.bind_some, bI_if]
  show m_I g _ (if qO (g.1 1) x1 = true then (if qB x2 = true then ((ob_ck 12 0 (f_X12_lays (m_Th g 0) 0)).bind _) else some (-1, m_Th g 0)) else some (-1, m_Th g 0))
  by_cases c1 : qO (g.1 1) x1 = true
  · rw [if_pos c1]
    by_cases c2 : qB x2 = true
    · rw [if_pos c2, if_pos (an_and2.mpr ⟨c1, c2⟩)]
      obtain ⟨k, hk, rfl⟩ := qO_e hW c1
      obtain ⟨u, hu, rfl⟩ := qB_e c2
      rw [nI_clamp (by omega)]
      obtain ⟨g1, k0, k1, k2, k3, k4, k5⟩ := m_layTh (v := 0) hQ
      rw [k0, ev_ck0, Option.bind_some]
      rw [← k5] at hW hk ⊢
      obtain ⟨g2, v1, v2⟩ := m_worthAt (mk := 0) (up := nI u) hW k4 hk
      have v1 : f_X12_worthAt g1 0 (nI k) 0 (nI u) = some (sp_F (g1.1 1) k (nI u) 0, g2) := v1
      obtain ⟨r, l1, l2, l3⟩ := m_bestL (u := u) hW k4 hk g2 v2
      refine ⟨r.1, ?_, m_K_tr k1 (m_K_RF l2 (fun m hm => by omega)), m_Q_RF l2 (fun m hm => by omega) k2⟩
      rw [v1, ev_ck0, Option.bind_some]
      refine (pu_b l1).trans ?_
      rw [l3]
    · rw [if_neg c2, if_neg (fun h => c2 (an_and2.mp h).2)]
      exact ⟨m_Th g 0, rfl, m_K_th, m_Q_th hQ⟩
  · rw [if_neg c1, if_neg (fun h => c1 (an_and2.mp h).1)]
    exact ⟨m_Th g 0, rfl, m_K_th, m_Q_th hQ⟩
