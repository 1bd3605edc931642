/-! the reference's small methods -/
theorem m_isIn {x a b : Int32} : f_X12_isIn x a b = some (if a ≤ x ∧ x ≤ b then 1 else 0) := by
  unfold f_X12_isIn
  by_cases h1 : x < a
  · rw [if_pos h1, if_neg (fun h => Int32.not_lt.mpr h.1 h1)]
  · rw [if_neg h1]
    by_cases h2 : b < x
    · rw [if_pos h2, if_neg (fun h => Int32.not_lt.mpr h.2 h2)]
    · rw [if_neg h2, if_pos ⟨Int32.not_lt.mp h1, Int32.not_lt.mp h2⟩]
theorem m_thrown {g : ob_St} : f_X12_thrown g 0 = some (g.1 0 0) := rfl
theorem m_get {g : ob_St} {k w : Nat} (h : 30 + 10 * k + w < 70) : f_X12_get g 0 (nI k) (nI w) = some (sp_o (g.1 1) k w) := by
  simp (disch := omega) only [f_X12_get, sp_o, Option.bind_some, pu_add, pu_addr, pu_mul, nI_1, nI_add, pk_mul, ev_ck0, ev_g0, ev_p0, ev_r0_1, ev_r0_2, ev_r0_3, ev_r0_4, ev_r0_5, ev_r0_7, ev_r0_17, ev_r0_18, ev_r0_20, ev_r0_21, ev_r0_22, ev_r0_23, ev_r0_24, ev_r0_25, ev_r0_26, ev_r0_27, ev_r0_28, ev_r0_29, ev_a1, ev_l1, ev_w1, ev_a2, ev_l2, ev_w2, ev_a3, ev_l3, ev_w3, ev_a4, ev_l4, ev_w4, ev_a5, ev_l5, ev_a6, ev_l6, ev_w6, ev_a7, ev_l7, ev_w7, ev_a8, ev_l8, ev_w8, ev_a9, ev_w9, ev_a10, ev_w10, ev_a11, ev_w11, ev_a12, ev_l12, ev_w12, ev_a13, ev_l13, ev_w13, ev_a14, ev_w14, ev_a15, ev_w15, ev_a16, ev_w16, ev_a17, ev_w17, ev_a18, ev_w18]
theorem m_getl {g : ob_St} {k w : Nat} (h : 30 + 10 * k + (OfNat.ofNat w : Nat) < 70) : f_X12_get g 0 (nI k) (no_index (OfNat.ofNat w)) = some (sp_o (g.1 1) k (OfNat.ofNat w : Nat)) := m_get h
theorem m_cell {k t j : Nat} : f_X12_cell (nI k) (nI t) (nI j) = some (nI (169 * k + 13 * t + j)) := by
  simp only [f_X12_cell, pu_mul, nI_add]
theorem m_spot {k t j : Nat} : f_X12_spot (nI k) (nI t) (nI j) = some (nI (169 * k + 13 * t + j)) := by
  simp only [f_X12_spot, pu_mul, nI_add]
theorem m_strL {g : ob_St} {t : Nat} (ht : t ≤ 12) (v : Int32) : L_X12_stripped_19 g 0 (nI t) ob_FU v 1 = some (v - sp_fs (g.1 1) t) := by
  obtain ⟨r, h1, h2⟩ := pu_up (fun n s i => L_X12_stripped_19 g 0 (nI t) n s (nI i)) (fun i s => 1 ≤ i ∧ s = v - sp_fs (g.1 1) (i - 1)) (t + 1) (fun r => r = v - sp_fs (g.1 1) t)
    (fun n s hI => ⟨s, by
      show (if nI t < nI (t + 1) then _ else _) = _
      rw [if_pos (nI_lt (by omega) (by omega))], hI.2⟩)
    (fun n i s hi hI => ⟨s - g.1 1 (3 + i), ⟨by omega, by
      obtain ⟨m, rfl⟩ : ∃ m, i = m + 1 := ⟨i - 1, by omega⟩
      rw [hI.2]
      show _ = v - (sp_fs (g.1 1) m + g.1 1 (3 + (m + 1)))
      simp only [Nat.add_sub_cancel]
      grind⟩, by
      show (if nI t < nI i then _ else _) = _
      rw [if_neg (nI_nlt (by omega) (by omega))]
      simp (disch := omega) only [Option.bind_some, pu_add, pu_addr, pu_mul, nI_1, nI_add, pk_mul, ev_ck0, ev_g0, ev_p0, ev_r0_1, ev_r0_2, ev_r0_3, ev_r0_4, ev_r0_5, ev_r0_7, ev_r0_17, ev_r0_18, ev_r0_20, ev_r0_21, ev_r0_22, ev_r0_23, ev_r0_24, ev_r0_25, ev_r0_26, ev_r0_27, ev_r0_28, ev_r0_29, ev_a1, ev_l1, ev_w1, ev_a2, ev_l2, ev_w2, ev_a3, ev_l3, ev_w3, ev_a4, ev_l4, ev_w4, ev_a5, ev_l5, ev_a6, ev_l6, ev_w6, ev_a7, ev_l7, ev_w7, ev_a8, ev_l8, ev_w8, ev_a9, ev_w9, ev_a10, ev_w10, ev_a11, ev_w11, ev_a12, ev_l12, ev_w12, ev_a13, ev_l13, ev_w13, ev_a14, ev_w14, ev_a15, ev_w15, ev_a16, ev_w16, ev_a17, ev_w17, ev_a18, ev_w18]⟩)
    t 1 ob_FU v (by omega) (by unfold ob_FU; omega) ⟨by omega, by show v = v - 0; grind⟩
  rw [← h2]
  exact h1
theorem m_stripped {g : ob_St} {t j : Nat} (ht : t ≤ 12) : f_X12_stripped g 0 (nI t) (nI j) = some (sp_str (g.1 1) t j) := by
  simp (disch := omega) only [f_X12_stripped, m_strL ht, sp_str, Option.bind_some, pu_add, pu_addr, pu_mul, nI_1, nI_add, pk_mul, ev_ck0, ev_g0, ev_p0, ev_r0_1, ev_r0_2, ev_r0_3, ev_r0_4, ev_r0_5, ev_r0_7, ev_r0_17, ev_r0_18, ev_r0_20, ev_r0_21, ev_r0_22, ev_r0_23, ev_r0_24, ev_r0_25, ev_r0_26, ev_r0_27, ev_r0_28, ev_r0_29, ev_a1, ev_l1, ev_w1, ev_a2, ev_l2, ev_w2, ev_a3, ev_l3, ev_w3, ev_a4, ev_l4, ev_w4, ev_a5, ev_l5, ev_a6, ev_l6, ev_w6, ev_a7, ev_l7, ev_w7, ev_a8, ev_l8, ev_w8, ev_a9, ev_w9, ev_a10, ev_w10, ev_a11, ev_w11, ev_a12, ev_l12, ev_w12, ev_a13, ev_l13, ev_w13, ev_a14, ev_w14, ev_a15, ev_w15, ev_a16, ev_w16, ev_a17, ev_w17, ev_a18, ev_w18]
theorem m_cshL {g : ob_St} {n t : Nat} (hn : n ≤ 12) (h2 : g.1 1 2 = nI n) (ht : t ≤ n + 1) : L_X12_cashFrom_4 g 0 ob_FU 0 (nI t) = some (sp_cs (g.1 1) t (n + 1 - t)) := by
  obtain ⟨r, h1, h3⟩ := pu_up (fun n s i => L_X12_cashFrom_4 g 0 n s (nI i)) (fun i s => t ≤ i ∧ s = sp_cs (g.1 1) t (i - t)) (n + 1) (fun r => r = sp_cs (g.1 1) t (n + 1 - t))
    (fun n' s hI => ⟨s, by
      show Lb_X12_cashFrom_4 _ _ _ _ _ = _
      simp (disch := omega) only [Lb_X12_cashFrom_4, h2, Option.bind_some, pu_add, pu_addr, pu_mul, nI_1, nI_add, pk_mul, ev_ck0, ev_g0, ev_p0, ev_r0_1, ev_r0_2, ev_r0_3, ev_r0_4, ev_r0_5, ev_r0_7, ev_r0_17, ev_r0_18, ev_r0_20, ev_r0_21, ev_r0_22, ev_r0_23, ev_r0_24, ev_r0_25, ev_r0_26, ev_r0_27, ev_r0_28, ev_r0_29, ev_a1, ev_l1, ev_w1, ev_a2, ev_l2, ev_w2, ev_a3, ev_l3, ev_w3, ev_a4, ev_l4, ev_w4, ev_a5, ev_l5, ev_a6, ev_l6, ev_w6, ev_a7, ev_l7, ev_w7, ev_a8, ev_l8, ev_w8, ev_a9, ev_w9, ev_a10, ev_w10, ev_a11, ev_w11, ev_a12, ev_l12, ev_w12, ev_a13, ev_l13, ev_w13, ev_a14, ev_w14, ev_a15, ev_w15, ev_a16, ev_w16, ev_a17, ev_w17, ev_a18, ev_w18]
      rw [if_pos (nI_lt (by omega) (by omega))], hI.2⟩)
    (fun n' i s hi hI => ⟨s + g.1 1 (16 + i), ⟨by omega, by
      obtain ⟨m, rfl⟩ : ∃ m, i = t + m := ⟨i - t, by omega⟩
      rw [hI.2, show t + m - t = m by omega, show t + m + 1 - t = m + 1 by omega]
      rfl⟩, by
      show Lb_X12_cashFrom_4 _ _ _ _ _ = _
      simp (disch := omega) only [Lb_X12_cashFrom_4, h2, Option.bind_some, pu_add, pu_addr, pu_mul, nI_1, nI_add, pk_mul, ev_ck0, ev_g0, ev_p0, ev_r0_1, ev_r0_2, ev_r0_3, ev_r0_4, ev_r0_5, ev_r0_7, ev_r0_17, ev_r0_18, ev_r0_20, ev_r0_21, ev_r0_22, ev_r0_23, ev_r0_24, ev_r0_25, ev_r0_26, ev_r0_27, ev_r0_28, ev_r0_29, ev_a1, ev_l1, ev_w1, ev_a2, ev_l2, ev_w2, ev_a3, ev_l3, ev_w3, ev_a4, ev_l4, ev_w4, ev_a5, ev_l5, ev_a6, ev_l6, ev_w6, ev_a7, ev_l7, ev_w7, ev_a8, ev_l8, ev_w8, ev_a9, ev_w9, ev_a10, ev_w10, ev_a11, ev_w11, ev_a12, ev_l12, ev_w12, ev_a13, ev_l13, ev_w13, ev_a14, ev_w14, ev_a15, ev_w15, ev_a16, ev_w16, ev_a17, ev_w17, ev_a18, ev_w18]
      rw [if_neg (nI_nlt (by omega) (by omega))]⟩)
    (n + 1 - t) t ob_FU 0 (by omega) (by unfold ob_FU; omega) ⟨by omega, by rw [Nat.sub_self]; rfl⟩
  rw [← h3]
  exact h1
theorem m_cashFrom {g : ob_St} {t : Nat} (hW : sp_WF (g.1 1)) (ht : t ≤ sN (g.1 1) 2 + 1) : f_X12_cashFrom g 0 (nI t) = some (sp_cf (g.1 1) t) := by
  simp only [f_X12_cashFrom, m_cshL (wf_12 hW) (wf_2 hW) ht, sp_cf, Option.bind_some]
theorem m_priceAt {g : ob_St} {t j : Nat} (hW : sp_WF (g.1 1)) (ht : t ≤ sN (g.1 1) 2) : f_X12_priceAt g 0 (nI t) (nI j) = some (sp_pr (g.1 1) t j) := by
  have h12 := wf_12 hW
  simp only [f_X12_priceAt, m_stripped (show t ≤ 12 by omega), m_cashFrom hW (show t ≤ sN (g.1 1) 2 + 1 by omega), sp_pr, Option.bind_some, pu_add, pu_addr, pu_mul, nI_1, nI_add, pk_mul, ev_ck0, ev_g0, ev_p0, ev_r0_1, ev_r0_2, ev_r0_3, ev_r0_4, ev_r0_5, ev_r0_7, ev_r0_17, ev_r0_18, ev_r0_20, ev_r0_21, ev_r0_22, ev_r0_23, ev_r0_24, ev_r0_25, ev_r0_26, ev_r0_27, ev_r0_28, ev_r0_29, ev_a1, ev_l1, ev_w1, ev_a2, ev_l2, ev_w2, ev_a3, ev_l3, ev_w3, ev_a4, ev_l4, ev_w4, ev_a5, ev_l5, ev_a6, ev_l6, ev_w6, ev_a7, ev_l7, ev_w7, ev_a8, ev_l8, ev_w8, ev_a9, ev_w9, ev_a10, ev_w10, ev_a11, ev_w11, ev_a12, ev_l12, ev_w12, ev_a13, ev_l13, ev_w13, ev_a14, ev_w14, ev_a15, ev_w15, ev_a16, ev_w16, ev_a17, ev_w17, ev_a18, ev_w18]
theorem m_firstMay {g : ob_St} {k : Nat} (hk : k < 4) : f_X12_firstMay g 0 (nI k) = some (sp_fm (g.1 1) (sp_o (g.1 1) k 3)) := by
  simp (disch := omega) only [f_X12_firstMay, m_getl, sp_fm, Option.bind_some, pu_add, pu_addr, pu_mul, nI_1, nI_add, pk_mul, ev_ck0, ev_g0, ev_p0, ev_r0_1, ev_r0_2, ev_r0_3, ev_r0_4, ev_r0_5, ev_r0_7, ev_r0_17, ev_r0_18, ev_r0_20, ev_r0_21, ev_r0_22, ev_r0_23, ev_r0_24, ev_r0_25, ev_r0_26, ev_r0_27, ev_r0_28, ev_r0_29, ev_a1, ev_l1, ev_w1, ev_a2, ev_l2, ev_w2, ev_a3, ev_l3, ev_w3, ev_a4, ev_l4, ev_w4, ev_a5, ev_l5, ev_a6, ev_l6, ev_w6, ev_a7, ev_l7, ev_w7, ev_a8, ev_l8, ev_w8, ev_a9, ev_w9, ev_a10, ev_w10, ev_a11, ev_w11, ev_a12, ev_l12, ev_w12, ev_a13, ev_l13, ev_w13, ev_a14, ev_w14, ev_a15, ev_w15, ev_a16, ev_w16, ev_a17, ev_w17, ev_a18, ev_w18]
  split <;> rfl
theorem m_may {g : ob_St} {k t : Nat} (hk : k < 4) : f_X12_may g 0 (nI k) (nI t) = some (if sp_may (g.1 1) (sp_o (g.1 1) k 3) t = true then 1 else 0) := by
  simp only [f_X12_may, m_firstMay hk, Option.bind_some, pu_add, pu_addr, pu_mul, nI_1, nI_add, pk_mul, ev_ck0, ev_g0, ev_p0, ev_r0_1, ev_r0_2, ev_r0_3, ev_r0_4, ev_r0_5, ev_r0_7, ev_r0_17, ev_r0_18, ev_r0_20, ev_r0_21, ev_r0_22, ev_r0_23, ev_r0_24, ev_r0_25, ev_r0_26, ev_r0_27, ev_r0_28, ev_r0_29, ev_a1, ev_l1, ev_w1, ev_a2, ev_l2, ev_w2, ev_a3, ev_l3, ev_w3, ev_a4, ev_l4, ev_w4, ev_a5, ev_l5, ev_a6, ev_l6, ev_w6, ev_a7, ev_l7, ev_w7, ev_a8, ev_l8, ev_w8, ev_a9, ev_w9, ev_a10, ev_w10, ev_a11, ev_w11, ev_a12, ev_l12, ev_w12, ev_a13, ev_l13, ev_w13, ev_a14, ev_w14, ev_a15, ev_w15, ev_a16, ev_w16, ev_a17, ev_w17, ev_a18, ev_w18]
  by_cases h : nI t < sp_fm (g.1 1) (sp_o (g.1 1) k 3)
  · rw [if_pos h, if_neg (by unfold sp_may; rw [decide_eq_true_eq]; exact Int32.not_le.mpr h)]
  · rw [if_neg h, if_pos (by unfold sp_may; rw [decide_eq_true_eq]; exact Int32.not_lt.mp h)]
theorem m_isTouched {g : ob_St} {k t j : Nat} (hW : sp_WF (g.1 1)) (hk : k < 4) (ht : t ≤ sN (g.1 1) 2) : f_X12_isTouched g 0 (nI k) (nI t) (nI j) = some (if sp_tch (g.1 1) k t j = true then 1 else 0) := by
  simp (disch := omega) only [f_X12_isTouched, m_getl, m_priceAt hW ht, Option.bind_some, pu_add, pu_addr, pu_mul, nI_1, nI_add, pk_mul, ev_ck0, ev_g0, ev_p0, ev_r0_1, ev_r0_2, ev_r0_3, ev_r0_4, ev_r0_5, ev_r0_7, ev_r0_17, ev_r0_18, ev_r0_20, ev_r0_21, ev_r0_22, ev_r0_23, ev_r0_24, ev_r0_25, ev_r0_26, ev_r0_27, ev_r0_28, ev_r0_29, ev_a1, ev_l1, ev_w1, ev_a2, ev_l2, ev_w2, ev_a3, ev_l3, ev_w3, ev_a4, ev_l4, ev_w4, ev_a5, ev_l5, ev_a6, ev_l6, ev_w6, ev_a7, ev_l7, ev_w7, ev_a8, ev_l8, ev_w8, ev_a9, ev_w9, ev_a10, ev_w10, ev_a11, ev_w11, ev_a12, ev_l12, ev_w12, ev_a13, ev_l13, ev_w13, ev_a14, ev_w14, ev_a15, ev_w15, ev_a16, ev_w16, ev_a17, ev_w17, ev_a18, ev_w18]
  by_cases h1 : sp_o (g.1 1) k 5 = 1
  · rw [if_pos h1]
    by_cases h : sp_pr (g.1 1) t j < sp_o (g.1 1) k 6
    · rw [if_pos h, if_neg (by unfold sp_tch; rw [if_pos h1, decide_eq_true_eq]; exact Int32.not_le.mpr h)]
    · rw [if_neg h, if_pos (by unfold sp_tch; rw [if_pos h1, decide_eq_true_eq]; exact Int32.not_lt.mp h)]
  · rw [if_neg h1]
    by_cases h : sp_o (g.1 1) k 6 < sp_pr (g.1 1) t j
    · rw [if_pos h, if_neg (by unfold sp_tch; rw [if_neg h1, decide_eq_true_eq]; exact Int32.not_le.mpr h)]
    · rw [if_neg h, if_pos (by unfold sp_tch; rw [if_neg h1, decide_eq_true_eq]; exact Int32.not_lt.mp h)]
theorem m_powerAt {g : ob_St} {t : Nat} (hW : sp_WF (g.1 1)) (ht : t ≤ sN (g.1 1) 2) : f_X12_powerAt g 0 (nI t) = some (g.2 11 (sN (g.1 1) 2 - t)) := by
  have h12 := wf_12 hW
  simp (disch := omega) only [f_X12_powerAt, wf_2 hW, pk_sub, Option.bind_some, pu_add, pu_addr, pu_mul, nI_1, nI_add, pk_mul, ev_ck0, ev_g0, ev_p0, ev_r0_1, ev_r0_2, ev_r0_3, ev_r0_4, ev_r0_5, ev_r0_7, ev_r0_17, ev_r0_18, ev_r0_20, ev_r0_21, ev_r0_22, ev_r0_23, ev_r0_24, ev_r0_25, ev_r0_26, ev_r0_27, ev_r0_28, ev_r0_29, ev_a1, ev_l1, ev_w1, ev_a2, ev_l2, ev_w2, ev_a3, ev_l3, ev_w3, ev_a4, ev_l4, ev_w4, ev_a5, ev_l5, ev_a6, ev_l6, ev_w6, ev_a7, ev_l7, ev_w7, ev_a8, ev_l8, ev_w8, ev_a9, ev_w9, ev_a10, ev_w10, ev_a11, ev_w11, ev_a12, ev_l12, ev_w12, ev_a13, ev_l13, ev_w13, ev_a14, ev_w14, ev_a15, ev_w15, ev_a16, ev_w16, ev_a17, ev_w17, ev_a18, ev_w18]
theorem m_above0 {y : Int64} : f_X12_above0 y = some (sp_ab0 y) := by
  unfold f_X12_above0 sp_ab0
  split <;> rfl
