/-! pays, value, plain, held, stands: both sides (written by a program) -/
theorem bd_HV {S : Nat → Int32} (hW : sp_WF S) {k t j : Nat} (hk : k < sN S 29) (ht : t ≤ sN S 2) (hj : j ≤ t) : bd (sp_hd S (sp_V S k) t j) (2394 * sN S 1 ^ (sN S 2 - t)) :=
  bd_hd hW ht (by omega) (fun h => ⟨bd_V hW hk (by omega) (by omega), bd_V hW hk (by omega) (by omega)⟩)
theorem c_pays {S : Nat → Int32} {g : ob_St} {x1 x2 x3 x4 : Int32} (hQ : c_Q S g) : c_A S g (an_node S (sp_P S) x1 x2 x3 x4) (f_X11_pays g 20 x1 x2 x3 x4) := by
  have hW := hQ.1
  have hM := hQ.2.1
  have h12 := wf_12 hW
  have h4 := wf_4 hW
  have bad : B_X11_pays_29 g 20 x1 x2 x3 x4 = some none := rfl
  unfold f_X11_pays an_node
  rw [c_isOption hM, ev_ck20, Option.bind_some, bI_if, c_isNode hM, ev_ck20, Option.bind_some, bI_if, c_isBit, Option.bind_some, bI_if, bad]
  by_cases c1 : qO S x1 = true
  · rw [if_pos c1]
    by_cases c2 : qN S x2 x3 = true
    · rw [if_pos c2]
      by_cases c3 : qB x4 = true
      · rw [if_pos c3, if_pos (an_and.mpr ⟨c1, c2, c3⟩)]
        obtain ⟨k, hk, rfl⟩ := qO_e hW c1
        obtain ⟨t, j, ht, hj, rfl, rfl⟩ := qN_e hW c2
        rw [nI_clamp (by omega), nI_clamp (by omega), nI_clamp (by omega)]
        obtain ⟨g', s1, s2, s3, s4, s5, s6⟩ := c_sheetOf hQ hk
        refine ⟨g', s2, s3, ?_⟩
        have hn := c_Sh_k (k := k) (by omega)
        have hl := nd_lt (t := t) (j := j) (by omega) hj
        have hH := s5.2 k hk t j ht hj
        have hsc := c_scaleAt hW s4 s5.1.1 ht
        have td := c_told (p := x4) (bd_gt (bd_P hW hk ht hj)) (sp_sc_pos hW t)
        unfold B_X11_pays_30 B_X11_pays_33
        rw [if_neg (by decide)]
        have e : g'.2 (72 + 8 * k + 1) (nd t j) = sp_P S k t j := hH.1
        simp only [s1, ev_ck20, Option.bind_some, es_0 hn, c_nodeAt (show t ≤ 12 by omega), es_a1 hn hl, e, ev_r20_8, hsc, ev_ck67, td, Option.map_some]
      · rw [if_neg c3, if_neg (fun h => c3 (an_and.mp h).2.2)]
        exact ⟨g, c_K_refl g, hQ, rfl⟩
    · rw [if_neg c2, if_neg (fun h => c2 (an_and.mp h).2.1)]
      exact ⟨g, c_K_refl g, hQ, rfl⟩
  · rw [if_neg c1, if_neg (fun h => c1 (an_and.mp h).1)]
    exact ⟨g, c_K_refl g, hQ, rfl⟩
theorem m_pays {g : ob_St} {x1 x2 x3 x4 : Int32} (hQ : m_Q g) : m_A g (an_node (g.1 1) (sp_P (g.1 1)) x1 x2 x3 x4) (f_X12_pays g 0 x1 x2 x3 x4) := by
  have hW := hQ.1
  have h12 := wf_12 hW
  have h4 := wf_4 hW
  unfold f_X12_pays an_node
  rcases m_isNone (x1 := x1) (x2 := x2) (x3 := x3) (x4 := x4) hQ with ⟨c, e⟩ | ⟨c, g', e, k1, k2, k3, k4, k5⟩
  · rw [e, c, ev_ck0, Option.bind_some]
    exact ⟨m_Th g 1, if_neg (show ¬ (1 : Int32) = 0 by decide), m_K_th, m_Q_th hQ, rfl⟩
  · rw [e, if_pos c, ev_ck0, Option.bind_some]
    obtain ⟨c1, c2, c3⟩ := an_and.mp c
    obtain ⟨k, hk, rfl⟩ := qO_e hW c1
    obtain ⟨t, j, ht, hj, rfl, rfl⟩ := qN_e hW c2
    rw [nI_clamp (by omega), nI_clamp (by omega), nI_clamp (by omega)]
    refine ⟨g', ?_, k1, k2, k3⟩
    show (if (0 : Int32) = 0 then _ else _) = _
    rw [if_pos rfl]
    have td := m_told (p := x4) (bd_gt (bd_P (S := g.1 1) hW hk ht hj)) (sp_sc_pos hW t)
    rw [← k5] at hW hk ht h12 h4
    have hH := k4.2 k hk t j ht hj
    have hpw := m_power hW ht k4.1
    have e : f_X12_paysAt g' 0 (nI k) (nI t) (nI j) = some (sp_P (g'.1 1) k t j) := by
      rw [m_paysAt hW hk ht hj k4.1]
      refine congrArg some (sp_pay_V (wf_o hW hk) (fun q hq => ?_))
      rw [sp_Vs_lt hq]
      exact (k4.2 q (by omega) t j ht hj).2.1
    simp only [e, hpw, ev_ck0, Option.bind_some]
    rw [k5]
    exact pu_b td
theorem c_value {S : Nat → Int32} {g : ob_St} {x1 x2 x3 x4 : Int32} (hQ : c_Q S g) : c_A S g (an_node S (sp_V S) x1 x2 x3 x4) (f_X11_value g 20 x1 x2 x3 x4) := by
  have hW := hQ.1
  have hM := hQ.2.1
  have h12 := wf_12 hW
  have h4 := wf_4 hW
  have bad : B_X11_value_29 g 20 x1 x2 x3 x4 = some none := rfl
  unfold f_X11_value an_node
  rw [c_isOption hM, ev_ck20, Option.bind_some, bI_if, c_isNode hM, ev_ck20, Option.bind_some, bI_if, c_isBit, Option.bind_some, bI_if, bad]
  by_cases c1 : qO S x1 = true
  · rw [if_pos c1]
    by_cases c2 : qN S x2 x3 = true
    · rw [if_pos c2]
      by_cases c3 : qB x4 = true
      · rw [if_pos c3, if_pos (an_and.mpr ⟨c1, c2, c3⟩)]
        obtain ⟨k, hk, rfl⟩ := qO_e hW c1
        obtain ⟨t, j, ht, hj, rfl, rfl⟩ := qN_e hW c2
        rw [nI_clamp (by omega), nI_clamp (by omega), nI_clamp (by omega)]
        obtain ⟨g', s1, s2, s3, s4, s5, s6⟩ := c_sheetOf hQ hk
        refine ⟨g', s2, s3, ?_⟩
        have hn := c_Sh_k (k := k) (by omega)
        have hl := nd_lt (t := t) (j := j) (by omega) hj
        have hH := s5.2 k hk t j ht hj
        have hsc := c_scaleAt hW s4 s5.1.1 ht
        have td := c_told (p := x4) (bd_gt (bd_V hW hk ht hj)) (sp_sc_pos hW t)
        unfold B_X11_value_30 B_X11_value_33
        rw [if_neg (by decide)]
        have e : g'.2 (72 + 8 * k + 6) (nd t j) = sp_V S k t j := hH.2.2.2.1
        simp only [s1, ev_ck20, Option.bind_some, es_2 hn, es_b0 hn, c_nodeAt (show t ≤ 12 by omega), es_a6 hn hl, e, ev_r20_8, hsc, ev_ck67, td, Option.map_some]
      · rw [if_neg c3, if_neg (fun h => c3 (an_and.mp h).2.2)]
        exact ⟨g, c_K_refl g, hQ, rfl⟩
    · rw [if_neg c2, if_neg (fun h => c2 (an_and.mp h).2.1)]
      exact ⟨g, c_K_refl g, hQ, rfl⟩
  · rw [if_neg c1, if_neg (fun h => c1 (an_and.mp h).1)]
    exact ⟨g, c_K_refl g, hQ, rfl⟩
theorem m_value {g : ob_St} {x1 x2 x3 x4 : Int32} (hQ : m_Q g) : m_A g (an_node (g.1 1) (sp_V (g.1 1)) x1 x2 x3 x4) (f_X12_value g 0 x1 x2 x3 x4) := by
  have hW := hQ.1
  have h12 := wf_12 hW
  have h4 := wf_4 hW
  unfold f_X12_value an_node
  rcases m_isNone (x1 := x1) (x2 := x2) (x3 := x3) (x4 := x4) hQ with ⟨c, e⟩ | ⟨c, g', e, k1, k2, k3, k4, k5⟩
  · rw [e, c, ev_ck0, Option.bind_some]
    exact ⟨m_Th g 1, if_neg (show ¬ (1 : Int32) = 0 by decide), m_K_th, m_Q_th hQ, rfl⟩
  · rw [e, if_pos c, ev_ck0, Option.bind_some]
    obtain ⟨c1, c2, c3⟩ := an_and.mp c
    obtain ⟨k, hk, rfl⟩ := qO_e hW c1
    obtain ⟨t, j, ht, hj, rfl, rfl⟩ := qN_e hW c2
    rw [nI_clamp (by omega), nI_clamp (by omega), nI_clamp (by omega)]
    refine ⟨g', ?_, k1, k2, k3⟩
    show (if (0 : Int32) = 0 then _ else _) = _
    rw [if_pos rfl]
    have td := m_told (p := x4) (bd_gt (bd_V (S := g.1 1) hW hk ht hj)) (sp_sc_pos hW t)
    rw [← k5] at hW hk ht h12 h4
    have hH := k4.2 k hk t j ht hj
    have hpw := m_power hW ht k4.1
    have e : g'.2 9 (169 * k + 13 * t + j) = sp_V (g'.1 1) k t j := hH.2.1
    simp (disch := omega) only [e, m_cell, hpw, Option.bind_some, pu_add, pu_addr, pu_mul, nI_1, nI_add, pk_mul, ev_ck0, ev_g0, ev_p0, ev_r0_1, ev_r0_2, ev_r0_3, ev_r0_4, ev_r0_5, ev_r0_7, ev_r0_17, ev_r0_18, ev_r0_20, ev_r0_21, ev_r0_22, ev_r0_23, ev_r0_24, ev_r0_25, ev_r0_26, ev_r0_27, ev_r0_28, ev_r0_29, ev_a1, ev_l1, ev_w1, ev_a2, ev_l2, ev_w2, ev_a3, ev_l3, ev_w3, ev_a4, ev_l4, ev_w4, ev_a5, ev_l5, ev_a6, ev_l6, ev_w6, ev_a7, ev_l7, ev_w7, ev_a8, ev_l8, ev_w8, ev_a9, ev_w9, ev_a10, ev_w10, ev_a11, ev_w11, ev_a12, ev_l12, ev_w12, ev_a13, ev_l13, ev_w13, ev_a14, ev_w14, ev_a15, ev_w15, ev_a16, ev_w16, ev_a17, ev_w17, ev_a18, ev_w18]
    rw [k5]
    exact pu_b td
theorem c_plain {S : Nat → Int32} {g : ob_St} {x1 x2 x3 x4 : Int32} (hQ : c_Q S g) : c_A S g (an_node S (sp_L S) x1 x2 x3 x4) (f_X11_plain g 20 x1 x2 x3 x4) := by
  have hW := hQ.1
  have hM := hQ.2.1
  have h12 := wf_12 hW
  have h4 := wf_4 hW
  have bad : B_X11_plain_29 g 20 x1 x2 x3 x4 = some none := rfl
  unfold f_X11_plain an_node
  rw [c_isOption hM, ev_ck20, Option.bind_some, bI_if, c_isNode hM, ev_ck20, Option.bind_some, bI_if, c_isBit, Option.bind_some, bI_if, bad]
  by_cases c1 : qO S x1 = true
  · rw [if_pos c1]
    by_cases c2 : qN S x2 x3 = true
    · rw [if_pos c2]
      by_cases c3 : qB x4 = true
      · rw [if_pos c3, if_pos (an_and.mpr ⟨c1, c2, c3⟩)]
        obtain ⟨k, hk, rfl⟩ := qO_e hW c1
        obtain ⟨t, j, ht, hj, rfl, rfl⟩ := qN_e hW c2
        rw [nI_clamp (by omega), nI_clamp (by omega), nI_clamp (by omega)]
        obtain ⟨g', s1, s2, s3, s4, s5, s6⟩ := c_sheetOf hQ hk
        refine ⟨g', s2, s3, ?_⟩
        have hn := c_Sh_k (k := k) (by omega)
        have hl := nd_lt (t := t) (j := j) (by omega) hj
        have hH := s5.2 k hk t j ht hj
        have hsc := c_scaleAt hW s4 s5.1.1 ht
        have td := c_told (p := x4) (bd_gt (bd_L hW hk ht hj)) (sp_sc_pos hW t)
        unfold B_X11_plain_30 B_X11_plain_33
        rw [if_neg (by decide)]
        have e : g'.2 (72 + 8 * k + 3) (nd t j) = sp_L S k t j := hH.2.1
        simp only [s1, ev_ck20, Option.bind_some, es_1 hn, es_p0 hn, c_nodeAt (show t ≤ 12 by omega), es_a3 hn hl, e, ev_r20_8, hsc, ev_ck67, td, Option.map_some]
      · rw [if_neg c3, if_neg (fun h => c3 (an_and.mp h).2.2)]
        exact ⟨g, c_K_refl g, hQ, rfl⟩
    · rw [if_neg c2, if_neg (fun h => c2 (an_and.mp h).2.1)]
      exact ⟨g, c_K_refl g, hQ, rfl⟩
  · rw [if_neg c1, if_neg (fun h => c1 (an_and.mp h).1)]
    exact ⟨g, c_K_refl g, hQ, rfl⟩
theorem m_plain {g : ob_St} {x1 x2 x3 x4 : Int32} (hQ : m_Q g) : m_A g (an_node (g.1 1) (sp_L (g.1 1)) x1 x2 x3 x4) (f_X12_plain g 0 x1 x2 x3 x4) := by
  have hW := hQ.1
  have h12 := wf_12 hW
  have h4 := wf_4 hW
  unfold f_X12_plain an_node
  rcases m_isNone (x1 := x1) (x2 := x2) (x3 := x3) (x4 := x4) hQ with ⟨c, e⟩ | ⟨c, g', e, k1, k2, k3, k4, k5⟩
  · rw [e, c, ev_ck0, Option.bind_some]
    exact ⟨m_Th g 1, if_neg (show ¬ (1 : Int32) = 0 by decide), m_K_th, m_Q_th hQ, rfl⟩
  · rw [e, if_pos c, ev_ck0, Option.bind_some]
    obtain ⟨c1, c2, c3⟩ := an_and.mp c
    obtain ⟨k, hk, rfl⟩ := qO_e hW c1
    obtain ⟨t, j, ht, hj, rfl, rfl⟩ := qN_e hW c2
    rw [nI_clamp (by omega), nI_clamp (by omega), nI_clamp (by omega)]
    refine ⟨g', ?_, k1, k2, k3⟩
    show (if (0 : Int32) = 0 then _ else _) = _
    rw [if_pos rfl]
    have td := m_told (p := x4) (bd_gt (bd_L (S := g.1 1) hW hk ht hj)) (sp_sc_pos hW t)
    rw [← k5] at hW hk ht h12 h4
    have hH := k4.2 k hk t j ht hj
    have hpw := m_power hW ht k4.1
    have e : g'.2 10 (169 * k + 13 * t + j) = sp_L (g'.1 1) k t j := hH.1
    simp (disch := omega) only [e, m_cell, hpw, Option.bind_some, pu_add, pu_addr, pu_mul, nI_1, nI_add, pk_mul, ev_ck0, ev_g0, ev_p0, ev_r0_1, ev_r0_2, ev_r0_3, ev_r0_4, ev_r0_5, ev_r0_7, ev_r0_17, ev_r0_18, ev_r0_20, ev_r0_21, ev_r0_22, ev_r0_23, ev_r0_24, ev_r0_25, ev_r0_26, ev_r0_27, ev_r0_28, ev_r0_29, ev_a1, ev_l1, ev_w1, ev_a2, ev_l2, ev_w2, ev_a3, ev_l3, ev_w3, ev_a4, ev_l4, ev_w4, ev_a5, ev_l5, ev_a6, ev_l6, ev_w6, ev_a7, ev_l7, ev_w7, ev_a8, ev_l8, ev_w8, ev_a9, ev_w9, ev_a10, ev_w10, ev_a11, ev_w11, ev_a12, ev_l12, ev_w12, ev_a13, ev_l13, ev_w13, ev_a14, ev_w14, ev_a15, ev_w15, ev_a16, ev_w16, ev_a17, ev_w17, ev_a18, ev_w18]
    rw [k5]
    exact pu_b td
theorem c_held {S : Nat → Int32} {g : ob_St} {x1 x2 x3 x4 : Int32} (hQ : c_Q S g) : c_A S g (an_node S ((fun k => sp_hd S (sp_V S k))) x1 x2 x3 x4) (f_X11_held g 20 x1 x2 x3 x4) := by
  have hW := hQ.1
  have hM := hQ.2.1
  have h12 := wf_12 hW
  have h4 := wf_4 hW
  have bad : B_X11_held_29 g 20 x1 x2 x3 x4 = some none := rfl
  unfold f_X11_held an_node
  rw [c_isOption hM, ev_ck20, Option.bind_some, bI_if, c_isNode hM, ev_ck20, Option.bind_some, bI_if, c_isBit, Option.bind_some, bI_if, bad]
  by_cases c1 : qO S x1 = true
  · rw [if_pos c1]
    by_cases c2 : qN S x2 x3 = true
    · rw [if_pos c2]
      by_cases c3 : qB x4 = true
      · rw [if_pos c3, if_pos (an_and.mpr ⟨c1, c2, c3⟩)]
        obtain ⟨k, hk, rfl⟩ := qO_e hW c1
        obtain ⟨t, j, ht, hj, rfl, rfl⟩ := qN_e hW c2
        rw [nI_clamp (by omega), nI_clamp (by omega), nI_clamp (by omega)]
        obtain ⟨g', s1, s2, s3, s4, s5, s6⟩ := c_sheetOf hQ hk
        refine ⟨g', s2, s3, ?_⟩
        have hn := c_Sh_k (k := k) (by omega)
        have hl := nd_lt (t := t) (j := j) (by omega) hj
        have hH := s5.2 k hk t j ht hj
        have hsc := c_scaleAt hW s4 s5.1.1 ht
        have td := c_told (p := x4) (bd_gt (bd_HV hW hk ht hj)) (sp_sc_pos hW t)
        unfold B_X11_held_30 B_X11_held_33
        rw [if_neg (by decide)]
        have hh := c_heldOf (g := g') (es_k hn).2.2.2.1.1 (es_k hn).2.2.2.1.2 hW s4 ht hj
        rw [sp_hd_loc2 (R' := sp_V S k) ht hj (fun h i hi => (s5.2 k hk (t + 1) i (by omega) hi).2.2.2.1)] at hh
        simp only [s1, ev_ck20, Option.bind_some, es_2 hn, es_b0 hn, c_nodeAt (show t ≤ 12 by omega), hh, ev_r20_8, hsc, ev_ck67, td, Option.map_some]
      · rw [if_neg c3, if_neg (fun h => c3 (an_and.mp h).2.2)]
        exact ⟨g, c_K_refl g, hQ, rfl⟩
    · rw [if_neg c2, if_neg (fun h => c2 (an_and.mp h).2.1)]
      exact ⟨g, c_K_refl g, hQ, rfl⟩
  · rw [if_neg c1, if_neg (fun h => c1 (an_and.mp h).1)]
    exact ⟨g, c_K_refl g, hQ, rfl⟩
theorem m_held {g : ob_St} {x1 x2 x3 x4 : Int32} (hQ : m_Q g) : m_A g (an_node (g.1 1) ((fun k => sp_hd (g.1 1) (sp_V (g.1 1) k))) x1 x2 x3 x4) (f_X12_held g 0 x1 x2 x3 x4) := by
  have hW := hQ.1
  have h12 := wf_12 hW
  have h4 := wf_4 hW
  unfold f_X12_held an_node
  rcases m_isNone (x1 := x1) (x2 := x2) (x3 := x3) (x4 := x4) hQ with ⟨c, e⟩ | ⟨c, g', e, k1, k2, k3, k4, k5⟩
  · rw [e, c, ev_ck0, Option.bind_some]
    exact ⟨m_Th g 1, if_neg (show ¬ (1 : Int32) = 0 by decide), m_K_th, m_Q_th hQ, rfl⟩
  · rw [e, if_pos c, ev_ck0, Option.bind_some]
    obtain ⟨c1, c2, c3⟩ := an_and.mp c
    obtain ⟨k, hk, rfl⟩ := qO_e hW c1
    obtain ⟨t, j, ht, hj, rfl, rfl⟩ := qN_e hW c2
    rw [nI_clamp (by omega), nI_clamp (by omega), nI_clamp (by omega)]
    refine ⟨g', ?_, k1, k2, k3⟩
    show (if (0 : Int32) = 0 then _ else _) = _
    rw [if_pos rfl]
    have td := m_told (p := x4) (bd_gt (bd_HV (S := g.1 1) hW hk ht hj)) (sp_sc_pos hW t)
    rw [← k5] at hW hk ht h12 h4
    have hH := k4.2 k hk t j ht hj
    have hpw := m_power hW ht k4.1
    have e := m_heldOf (g := g') (r := 9) (k := k) (t := t) (j := j) rfl rfl hW (by omega) ht hj
    rw [sp_hd_loc2 (R' := sp_V (g'.1 1) k) ht hj (fun h i hi => (k4.2 k hk (t + 1) i (by omega) hi).2.1)] at e
    simp only [e, hpw, ev_r0_20, ev_ck0, Option.bind_some]
    rw [k5]
    exact pu_b td
theorem c_stands {S : Nat → Int32} {g : ob_St} {x1 x2 x3 x4 : Int32} (hQ : c_Q S g) : c_A S g (an_node S (sp_st S) x1 x2 x3 x4) (f_X11_stands g 20 x1 x2 x3 x4) := by
  have hW := hQ.1
  have hM := hQ.2.1
  have h12 := wf_12 hW
  have h4 := wf_4 hW
  have bad : B_X11_stands_29 g 20 x1 x2 x3 x4 = some none := rfl
  unfold f_X11_stands an_node
  rw [c_isOption hM, ev_ck20, Option.bind_some, bI_if, c_isNode hM, ev_ck20, Option.bind_some, bI_if, c_isBit, Option.bind_some, bI_if, bad]
  by_cases c1 : qO S x1 = true
  · rw [if_pos c1]
    by_cases c2 : qN S x2 x3 = true
    · rw [if_pos c2]
      by_cases c3 : qB x4 = true
      · rw [if_pos c3, if_pos (an_and.mpr ⟨c1, c2, c3⟩)]
        obtain ⟨k, hk, rfl⟩ := qO_e hW c1
        obtain ⟨t, j, ht, hj, rfl, rfl⟩ := qN_e hW c2
        rw [nI_clamp (by omega), nI_clamp (by omega), nI_clamp (by omega)]
        obtain ⟨g', s1, s2, s3, s4, s5, s6⟩ := c_sheetOf hQ hk
        refine ⟨g', s2, s3, ?_⟩
        have hn := c_Sh_k (k := k) (by omega)
        have hl := nd_lt (t := t) (j := j) (by omega) hj
        have hH := s5.2 k hk t j ht hj
        have hsc := c_scaleAt hW s4 s5.1.1 ht
        have td := c_told (p := x4) (gt_st hW hk ht hj) (sp_sc_pos hW t)
        unfold B_X11_stands_30 B_X11_stands_33
        rw [if_neg (by decide)]
        simp only [s1, ev_ck20, Option.bind_some, c_nodeAt (show t ≤ 12 by omega), c_standing hW s4 s5 hk ht hj, ev_r20_8, hsc, ev_ck67, td, Option.map_some]
      · rw [if_neg c3, if_neg (fun h => c3 (an_and.mp h).2.2)]
        exact ⟨g, c_K_refl g, hQ, rfl⟩
    · rw [if_neg c2, if_neg (fun h => c2 (an_and.mp h).2.1)]
      exact ⟨g, c_K_refl g, hQ, rfl⟩
  · rw [if_neg c1, if_neg (fun h => c1 (an_and.mp h).1)]
    exact ⟨g, c_K_refl g, hQ, rfl⟩
theorem m_stands {g : ob_St} {x1 x2 x3 x4 : Int32} (hQ : m_Q g) : m_A g (an_node (g.1 1) (sp_st (g.1 1)) x1 x2 x3 x4) (f_X12_stands g 0 x1 x2 x3 x4) := by
  have hW := hQ.1
  have h12 := wf_12 hW
  have h4 := wf_4 hW
  unfold f_X12_stands an_node
  rcases m_isNone (x1 := x1) (x2 := x2) (x3 := x3) (x4 := x4) hQ with ⟨c, e⟩ | ⟨c, g', e, k1, k2, k3, k4, k5⟩
  · rw [e, c, ev_ck0, Option.bind_some]
    exact ⟨m_Th g 1, if_neg (show ¬ (1 : Int32) = 0 by decide), m_K_th, m_Q_th hQ, rfl⟩
  · rw [e, if_pos c, ev_ck0, Option.bind_some]
    obtain ⟨c1, c2, c3⟩ := an_and.mp c
    obtain ⟨k, hk, rfl⟩ := qO_e hW c1
    obtain ⟨t, j, ht, hj, rfl, rfl⟩ := qN_e hW c2
    rw [nI_clamp (by omega), nI_clamp (by omega), nI_clamp (by omega)]
    refine ⟨g', ?_, k1, k2, k3⟩
    show (if (0 : Int32) = 0 then _ else _) = _
    rw [if_pos rfl]
    have td := m_told (p := x4) (gt_st (S := g.1 1) hW hk ht hj) (sp_sc_pos hW t)
    rw [← k5] at hW hk ht h12 h4
    have hH := k4.2 k hk t j ht hj
    have hpw := m_power hW ht k4.1
    simp only [m_standsAt hW k4 hk ht hj, hpw, ev_ck0, Option.bind_some]
    rw [k5]
    exact pu_b td
