/-! the reference lays -/
def m_V (g : ob_St) (q t j : Nat) : Int64 := g.2 9 (169 * q + 13 * t + j)
def m_Pw (g : ob_St) : Prop := ∀ i, i < 14 → g.2 11 i = sp_pw (g.1 1) i
theorem wo_5 {S : Nat → Int32} {k : Nat} (ho : sp_WO S k) (h0 : ¬ sp_o S k 0 = 0) (h1 : ¬ sp_o S k 0 = 1) (h2 : ¬ sp_o S k 0 = 2) (h3 : ¬ sp_o S k 0 = 3) (h4 : ¬ sp_o S k 0 = 4) : sN S (30 + 10 * k + 0) = 5 := by
  have hk := ho.1.1
  have hl := ho.1.2
  have : ∀ i, i ≤ 5 → sN S (30 + 10 * k + 0) = i → ¬ sp_o S k 0 = nI i → False := fun i _ h h' => h' (by rw [hk, h])
  have a0 := this 0 (by omega); have a1 := this 1 (by omega); have a2 := this 2 (by omega); have a3 := this 3 (by omega); have a4 := this 4 (by omega)
  rcases Nat.lt_or_ge (sN S (30 + 10 * k + 0)) 5 with h | h
  · exfalso
    rcases (by omega : sN S (30 + 10 * k + 0) = 0 ∨ sN S (30 + 10 * k + 0) = 1 ∨ sN S (30 + 10 * k + 0) = 2 ∨ sN S (30 + 10 * k + 0) = 3 ∨ sN S (30 + 10 * k + 0) = 4) with e | e | e | e | e
    · exact a0 e h0
    · exact a1 e h1
    · exact a2 e h2
    · exact a3 e h3
    · exact a4 e h4
  · omega
theorem m_power {g : ob_St} {t : Nat} (hW : sp_WF (g.1 1)) (ht : t ≤ sN (g.1 1) 2) (hP : m_Pw g) : f_X12_powerAt g 0 (nI t) = some (sp_sc (g.1 1) t) := by
  have h12 := wf_12 hW
  rw [m_powerAt hW ht, hP _ (by omega)]
  rfl
theorem m_paysAt {g : ob_St} {k t j : Nat} (hW : sp_WF (g.1 1)) (hk : k < sN (g.1 1) 29) (ht : t ≤ sN (g.1 1) 2) (hj : j ≤ t) (hP : m_Pw g) :
    f_X12_paysAt g 0 (nI k) (nI t) (nI j) = some (sp_pay (g.1 1) (m_V g) k (sp_o (g.1 1) k 1) t j) := by
  have h12 := wf_12 hW
  have h4 := wf_4 hW
  have ho := wf_o hW hk
  simp (disch := omega) only [f_X12_paysAt, B_X12_paysAt_143, B_X12_paysAt_164, m_getl, m_priceAt hW ht, m_power hW ht hP, m_above0, Option.bind_some, pu_add, pu_addr, pu_mul, nI_1, nI_add, pk_mul, ev_ck0, ev_g0, ev_p0, ev_r0_1, ev_r0_2, ev_r0_3, ev_r0_4, ev_r0_5, ev_r0_7, ev_r0_17, ev_r0_18, ev_r0_20, ev_r0_21, ev_r0_22, ev_r0_23, ev_r0_24, ev_r0_25, ev_r0_26, ev_r0_27, ev_r0_28, ev_r0_29, ev_a1, ev_l1, ev_w1, ev_a2, ev_l2, ev_w2, ev_a3, ev_l3, ev_w3, ev_a4, ev_l4, ev_w4, ev_a5, ev_l5, ev_a6, ev_l6, ev_w6, ev_a7, ev_l7, ev_w7, ev_a8, ev_l8, ev_w8, ev_a9, ev_w9, ev_a10, ev_w10, ev_a11, ev_w11, ev_a12, ev_l12, ev_w12, ev_a13, ev_l13, ev_w13, ev_a14, ev_w14, ev_a15, ev_w15, ev_a16, ev_w16, ev_a17, ev_w17, ev_a18, ev_w18]
  unfold sp_pay
  by_cases h0 : sp_o (g.1 1) k 0 = 0
  · rw [if_pos h0, if_pos h0]
  rw [if_neg h0, if_neg h0]
  by_cases h1 : sp_o (g.1 1) k 0 = 1
  · rw [if_pos h1, if_pos h1]
  rw [if_neg h1, if_neg h1]
  by_cases h2 : sp_o (g.1 1) k 0 = 2
  · rw [if_pos h2, if_pos h2]
    split <;> rfl
  rw [if_neg h2, if_neg h2]
  by_cases h3 : sp_o (g.1 1) k 0 = 3
  · rw [if_pos h3, if_pos h3]
    split
    · split <;> rfl
    · rfl
  rw [if_neg h3, if_neg h3]
  by_cases h4 : sp_o (g.1 1) k 0 = 4
  · rw [if_pos h4, if_pos h4]
    split <;> rfl
  rw [if_neg h4, if_neg h4]
  obtain ⟨e1, e2⟩ := ho.2.2.1.1 (wo_5 ho h0 h1 h2 h3 h4)
  rw [e1, m_cell]
  simp (disch := omega) only [Option.bind_some, pu_add, pu_addr, pu_mul, nI_1, nI_add, pk_mul, ev_ck0, ev_g0, ev_p0, ev_r0_1, ev_r0_2, ev_r0_3, ev_r0_4, ev_r0_5, ev_r0_7, ev_r0_17, ev_r0_18, ev_r0_20, ev_r0_21, ev_r0_22, ev_r0_23, ev_r0_24, ev_r0_25, ev_r0_26, ev_r0_27, ev_r0_28, ev_r0_29, ev_a1, ev_l1, ev_w1, ev_a2, ev_l2, ev_w2, ev_a3, ev_l3, ev_w3, ev_a4, ev_l4, ev_w4, ev_a5, ev_l5, ev_a6, ev_l6, ev_w6, ev_a7, ev_l7, ev_w7, ev_a8, ev_l8, ev_w8, ev_a9, ev_w9, ev_a10, ev_w10, ev_a11, ev_w11, ev_a12, ev_l12, ev_w12, ev_a13, ev_l13, ev_w13, ev_a14, ev_w14, ev_a15, ev_w15, ev_a16, ev_w16, ev_a17, ev_w17, ev_a18, ev_w18]
  rfl
theorem m_heldOf {g : ob_St} {r k t j : Nat} (hr : ob_kd r = 15) (hl : ob_ln r = 676) (hW : sp_WF (g.1 1)) (hk : k < 4) (ht : t ≤ sN (g.1 1) 2) (hj : j ≤ t) :
    f_X12_heldOf g 0 r (nI k) (nI t) (nI j) = some (sp_hd (g.1 1) (fun t j => g.2 r (169 * k + 13 * t + j)) t j) := by
  have h12 := wf_12 hW
  simp (disch := omega) only [f_X12_heldOf, wf_2 hW, nI_eq, m_cell, Option.bind_some, pu_add, pu_addr, pu_mul, nI_1, nI_add, pk_mul, ev_ck0, ev_g0, ev_p0, ev_r0_1, ev_r0_2, ev_r0_3, ev_r0_4, ev_r0_5, ev_r0_7, ev_r0_17, ev_r0_18, ev_r0_20, ev_r0_21, ev_r0_22, ev_r0_23, ev_r0_24, ev_r0_25, ev_r0_26, ev_r0_27, ev_r0_28, ev_r0_29, ev_a1, ev_l1, ev_w1, ev_a2, ev_l2, ev_w2, ev_a3, ev_l3, ev_w3, ev_a4, ev_l4, ev_w4, ev_a5, ev_l5, ev_a6, ev_l6, ev_w6, ev_a7, ev_l7, ev_w7, ev_a8, ev_l8, ev_w8, ev_a9, ev_w9, ev_a10, ev_w10, ev_a11, ev_w11, ev_a12, ev_l12, ev_w12, ev_a13, ev_l13, ev_w13, ev_a14, ev_w14, ev_a15, ev_w15, ev_a16, ev_w16, ev_a17, ev_w17, ev_a18, ev_w18]
  unfold sp_hd
  by_cases h : t = sN (g.1 1) 2
  · rw [if_pos h, if_pos h]
  · rw [if_neg h, if_neg h, pu_rL (n := r) hr rfl (by omega), pu_rL (n := r) hr rfl (by omega)]
    rfl
theorem m_may1 {b : Bool} {α : Type} {x y : α} : (if (if b = true then (1 : Int32) else 0) = 0 then x else y) = if b = true then y else x := by
  cases b <;> rfl
theorem m_decides {g : ob_St} {r d k t j : Nat} (hr : ob_kd r = 15) (hl : ob_ln r = 676) (hr' : ob_kd d = 13) (hl' : ob_ln d = 676) (hW : sp_WF (g.1 1)) (hk : k < sN (g.1 1) 29) (ht : t ≤ sN (g.1 1) 2) (hj : j ≤ t) (hP : m_Pw g)
    (hd py : Int64) (ehd : sp_hd (g.1 1) (fun t j => g.2 r (169 * k + 13 * t + j)) t j = hd) (epy : sp_pay (g.1 1) (m_V g) k (sp_o (g.1 1) k 1) t j = py) :
    f_X12_decides g 0 r d (nI k) (nI t) (nI j) = some (ob_up g.1 d (169 * k + 13 * t + j) (sp_dd (g.1 1) k (sp_o (g.1 1) k 3) t hd py), ob_upL g.2 r (169 * k + 13 * t + j) (sp_dw (g.1 1) k (sp_o (g.1 1) k 3) t hd py)) := by
  have h12 := wf_12 hW
  have h4 := wf_4 hW
  have key : ∀ kp : Int64, kp = sp_kp (g.1 1) k t hd py → B_X12_decides_81 g 0 r d (nI k) (nI t) (nI j) hd py kp = some (ob_up g.1 d (169 * k + 13 * t + j) (sp_dd (g.1 1) k (sp_o (g.1 1) k 3) t hd py), ob_upL g.2 r (169 * k + 13 * t + j) (sp_dw (g.1 1) k (sp_o (g.1 1) k 3) t hd py)) := by
    intro kp ekp
    have hB : ∀ b : Bool, B_X12_decides_111 g r d (nI k) (nI t) (nI j) hd py kp (if b = true then 1 else 0) = some (ob_up g.1 d (169 * k + 13 * t + j) (if b = true then 1 else if hd ≤ kp then 0 else 4), ob_upL g.2 r (169 * k + 13 * t + j) (if b = true then py else kp)) := by
      intro b
      have hB1 : ∀ (x : Int32) (v : Int64), B_X12_decides_134 g d (nI k) (nI t) (nI j) hd kp x r (nI (169 * k + 13 * t + j)) v = some (ob_up g.1 d (169 * k + 13 * t + j) (if x = 0 then (if hd ≤ kp then 0 else 4) else 1), ob_upL g.2 r (169 * k + 13 * t + j) v) := by
        intro x v
        unfold B_X12_decides_134
        rw [pu_wL (n := r) hr rfl (by omega)]
        simp only [m_cell, Option.bind_some]
        rw [pu_wB (n := d) hr' rfl (by omega), pu_wB (n := d) hr' rfl (by omega), pu_wB (n := d) hr' rfl (by omega)]
        by_cases hx : x = 0
        · rw [if_pos hx, if_pos hx]
          by_cases hh : hd ≤ kp
          · rw [if_pos hh, if_pos hh]; rfl
          · rw [if_neg hh, if_neg hh]; rfl
        · rw [if_neg hx, if_neg hx]; rfl
      unfold B_X12_decides_111
      rw [m_cell]
      simp only [Option.bind_some, hB1]
      cases b <;> rfl
    have e0 := hB false
    have e1 := hB true
    simp only [B_X12_decides_81, B_X12_decides_110, m_may (show k < 4 by omega), m_may1, Option.bind_some, pu_add, pu_addr, pu_mul, nI_1, nI_add, pk_mul, ev_ck0, ev_g0, ev_p0, ev_r0_1, ev_r0_2, ev_r0_3, ev_r0_4, ev_r0_5, ev_r0_7, ev_r0_17, ev_r0_18, ev_r0_20, ev_r0_21, ev_r0_22, ev_r0_23, ev_r0_24, ev_r0_25, ev_r0_26, ev_r0_27, ev_r0_28, ev_r0_29, ev_a1, ev_l1, ev_w1, ev_a2, ev_l2, ev_w2, ev_a3, ev_l3, ev_w3, ev_a4, ev_l4, ev_w4, ev_a5, ev_l5, ev_a6, ev_l6, ev_w6, ev_a7, ev_l7, ev_w7, ev_a8, ev_l8, ev_w8, ev_a9, ev_w9, ev_a10, ev_w10, ev_a11, ev_w11, ev_a12, ev_l12, ev_w12, ev_a13, ev_l13, ev_w13, ev_a14, ev_w14, ev_a15, ev_w15, ev_a16, ev_w16, ev_a17, ev_w17, ev_a18, ev_w18]
    unfold sp_dd sp_dw
    rw [← ekp]
    unfold sp_ex
    rw [← ekp]
    by_cases c1 : py < kp
    · rw [if_pos c1, if_pos c1]; exact e0
    rw [if_neg c1, if_neg c1]
    by_cases c2 : py ≤ 0
    · rw [if_pos c2, if_pos c2]; exact e0
    rw [if_neg c2, if_neg c2]
    by_cases c3 : sp_may (g.1 1) (sp_o (g.1 1) k 3) t = true
    · rw [if_pos c3, c3]; exact e1
    · rw [if_neg c3]
      rw [Bool.not_eq_true] at c3
      rw [c3]
      exact e0
  unfold f_X12_decides
  rw [m_heldOf hr hl hW (by omega) ht hj, ehd, m_paysAt hW hk ht hj hP, epy]
  simp (disch := omega) only [m_getl, m_power hW ht hP, Option.bind_some, pu_add, pu_addr, pu_mul, nI_1, nI_add, pk_mul, ev_ck0, ev_g0, ev_p0, ev_r0_1, ev_r0_2, ev_r0_3, ev_r0_4, ev_r0_5, ev_r0_7, ev_r0_17, ev_r0_18, ev_r0_20, ev_r0_21, ev_r0_22, ev_r0_23, ev_r0_24, ev_r0_25, ev_r0_26, ev_r0_27, ev_r0_28, ev_r0_29, ev_a1, ev_l1, ev_w1, ev_a2, ev_l2, ev_w2, ev_a3, ev_l3, ev_w3, ev_a4, ev_l4, ev_w4, ev_a5, ev_l5, ev_a6, ev_l6, ev_w6, ev_a7, ev_l7, ev_w7, ev_a8, ev_l8, ev_w8, ev_a9, ev_w9, ev_a10, ev_w10, ev_a11, ev_w11, ev_a12, ev_l12, ev_w12, ev_a13, ev_l13, ev_w13, ev_a14, ev_w14, ev_a15, ev_w15, ev_a16, ev_w16, ev_a17, ev_w17, ev_a18, ev_w18]
  by_cases c1 : sp_o (g.1 1) k 8 < 0
  · rw [if_pos c1]
    exact key _ (by unfold sp_kp; rw [if_pos c1])
  rw [if_neg c1]
  by_cases c2 : hd ≤ py + (sp_o (g.1 1) k 8).toInt64 * sp_sc (g.1 1) t
  · rw [if_pos c2]
    exact key _ (by unfold sp_kp; rw [if_neg c1, if_pos c2])
  · rw [if_neg c2]
    exact key _ (by unfold sp_kp; rw [if_neg c1, if_neg c2])
