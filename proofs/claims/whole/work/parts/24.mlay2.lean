/-! the reference lays a node, an option, all -/
theorem m_laysNode {g : ob_St} {k t j : Nat} (hW : sp_WF (g.1 1)) (hk : k < sN (g.1 1) 29) (ht : t ≤ sN (g.1 1) 2) (hj : j ≤ t) (hP : m_Pw g)
    (hl hv py : Int64) (ehl : sp_hd (g.1 1) (fun t j => g.2 10 (169 * k + 13 * t + j)) t j = hl) (ehv : sp_hd (g.1 1) (fun t j => g.2 9 (169 * k + 13 * t + j)) t j = hv) (epy : sp_pay (g.1 1) (m_V g) k (sp_o (g.1 1) k 1) t j = py) :
    f_X12_laysNode g 0 (nI k) (nI t) (nI j) = some
      (ob_up (ob_up g.1 13 (169 * k + 13 * t + j) (sp_dd (g.1 1) k (sp_o (g.1 1) k 3) t hl py)) 12 (169 * k + 13 * t + j) (sp_vd (g.1 1) k (sp_o (g.1 1) k 3) t j hv py),
       ob_upL (ob_upL g.2 10 (169 * k + 13 * t + j) (sp_dw (g.1 1) k (sp_o (g.1 1) k 3) t hl py)) 9 (169 * k + 13 * t + j) (sp_vw (g.1 1) k (sp_o (g.1 1) k 3) t j (sp_dw (g.1 1) k (sp_o (g.1 1) k 3) t hl py) hv py)) := by
  have h12 := wf_12 hW
  have h4 := wf_4 hW
  have ho := wf_o hW hk
  unfold f_X12_laysNode
  simp only [ev_r0_21, ev_r0_24, Option.bind_some, ev_ck0]
  rw [m_decides (r := 10) (d := 13) rfl rfl rfl rfl hW hk ht hj hP hl py ehl epy]
  simp only [Option.bind_some, m_cell]
  generalize hc : 169 * k + 13 * t + j = c
  have hc' : c < 676 := by omega
  generalize hg3 : ((ob_up g.1 13 c (sp_dd (g.1 1) k (sp_o (g.1 1) k 3) t hl py), ob_upL g.2 10 c (sp_dw (g.1 1) k (sp_o (g.1 1) k 3) t hl py)) : ob_St) = g3
  have e1 : g3.1 1 = g.1 1 := by rw [← hg3]; rfl
  have e9 : g3.2 9 = g.2 9 := by rw [← hg3]; rfl
  have e11 : g3.2 11 = g.2 11 := by rw [← hg3]; rfl
  have e10 : g3.2 10 c = sp_dw (g.1 1) k (sp_o (g.1 1) k 3) t hl py := by rw [← hg3]; exact pu_updL_eq
  have f1 : g3.1 = ob_up g.1 13 c (sp_dd (g.1 1) k (sp_o (g.1 1) k 3) t hl py) := by rw [← hg3]
  have f2 : g3.2 = ob_upL g.2 10 c (sp_dw (g.1 1) k (sp_o (g.1 1) k 3) t hl py) := by rw [← hg3]
  rw [← f1, ← f2]
  have hW3 : sp_WF (g3.1 1) := by rw [e1]; exact hW
  have hP3 : m_Pw g3 := by intro i hi; rw [e11, e1]; exact hP i hi
  have hV3 : m_V g3 = m_V g := by funext q t j; unfold m_V; rw [e9]
  have dec : f_X12_decides g3 0 9 12 (nI k) (nI t) (nI j) = some (ob_up g3.1 12 c (sp_dd (g.1 1) k (sp_o (g.1 1) k 3) t hv py), ob_upL g3.2 9 c (sp_dw (g.1 1) k (sp_o (g.1 1) k 3) t hv py)) := by
    have := m_decides (g := g3) (r := 9) (d := 12) (k := k) (t := t) (j := j) rfl rfl rfl rfl hW3 (by rw [e1]; exact hk) (by rw [e1]; exact ht) hj hP3 hv py (by rw [e1, e9]; exact ehv) (by rw [e1, hV3]; exact epy)
    rw [e1, hc] at this
    exact this
  have held : f_X12_heldOf g3 0 9 (nI k) (nI t) (nI j) = some hv := by
    rw [m_heldOf (g := g3) (r := 9) rfl rfl hW3 (by omega) (by rw [e1]; exact ht) hj, e1, e9, ehv]
  have hb := ho.2.2.2.2.1
  have hg4 : f_X12_get g3 0 (nI k) 4 = some (sp_o (g.1 1) k 4) := by have h := m_get (g := g3) (k := k) (w := 4) (by omega); rw [e1] at h; exact h
  have hg7 : f_X12_get g3 0 (nI k) 7 = some (sp_o (g.1 1) k 7) := by have h := m_get (g := g3) (k := k) (w := 7) (by omega); rw [e1] at h; exact h
  have hpw : f_X12_powerAt g3 0 (nI t) = some (sp_sc (g.1 1) t) := by rw [m_power hW3 (by rw [e1]; exact ht) hP3, e1]
  have htc : f_X12_isTouched g3 0 (nI k) (nI t) (nI j) = some (if sp_tch (g.1 1) k t j = true then 1 else 0) := by rw [m_isTouched hW3 (by omega) (by rw [e1]; exact ht), e1]
  have hB : ∀ (b : Bool), B_X12_laysNode_51 g3 0 (nI k) (nI t) (nI j) (nI c) (sp_o (g.1 1) k 4) (if b = true then 1 else 0) =
      some (ob_up g3.1 12 c (if sp_o (g.1 1) k 4 = 2 then (if b = true then 3 else 0) else if b = true then 2 else sp_dd (g.1 1) k (sp_o (g.1 1) k 3) t hv py),
        ob_upL g3.2 9 c (if sp_o (g.1 1) k 4 = 2 then (if b = true then sp_dw (g.1 1) k (sp_o (g.1 1) k 3) t hl py else hv) else if b = true then (sp_o (g.1 1) k 7).toInt64 * sp_sc (g.1 1) t else sp_dw (g.1 1) k (sp_o (g.1 1) k 3) t hv py)) := by
    intro b
    simp (disch := omega) only [B_X12_laysNode_51, B_X12_laysNode_91, held, hg7, hpw, dec, e10, Option.bind_some, pu_add, pu_addr, pu_mul, nI_1, nI_add, pk_mul, ev_ck0, ev_g0, ev_p0, ev_r0_1, ev_r0_2, ev_r0_3, ev_r0_4, ev_r0_5, ev_r0_7, ev_r0_17, ev_r0_18, ev_r0_20, ev_r0_21, ev_r0_22, ev_r0_23, ev_r0_24, ev_r0_25, ev_r0_26, ev_r0_27, ev_r0_28, ev_r0_29, ev_a1, ev_l1, ev_w1, ev_a2, ev_l2, ev_w2, ev_a3, ev_l3, ev_w3, ev_a4, ev_l4, ev_w4, ev_a5, ev_l5, ev_a6, ev_l6, ev_w6, ev_a7, ev_l7, ev_w7, ev_a8, ev_l8, ev_w8, ev_a9, ev_w9, ev_a10, ev_w10, ev_a11, ev_w11, ev_a12, ev_l12, ev_w12, ev_a13, ev_l13, ev_w13, ev_a14, ev_w14, ev_a15, ev_w15, ev_a16, ev_w16, ev_a17, ev_w17, ev_a18, ev_w18]
    by_cases h2 : sp_o (g.1 1) k 4 = 2
    · rw [if_pos h2, if_pos h2, if_pos h2]
      cases b <;> rfl
    · rw [if_neg h2, if_neg h2, if_neg h2]
      cases b <;> rfl
  rw [hg4]
  simp only [ev_ck0, Option.bind_some, htc, B_X12_laysNode_50]
  have e0 := hB false
  have e1' := hB true
  unfold sp_vd sp_vw
  by_cases c1 : sp_o (g.1 1) k 4 ≤ 0
  · rw [if_pos c1]
    refine e0.trans ?_
    have n2 : ¬ sp_o (g.1 1) k 4 = 2 := by intro h; rw [h] at c1; exact absurd c1 (by decide)
    have n3 : ¬ (0 < sp_o (g.1 1) k 4 ∧ sp_tch (g.1 1) k t j = true) := fun h => Int32.not_lt.mpr c1 h.1
    rw [if_neg n2, if_neg n2, if_neg n2, if_neg n2, if_neg n3, if_neg n3]
    rfl
  · rw [if_neg c1, m_may1]
    have c1' : 0 < sp_o (g.1 1) k 4 := Int32.not_le.mp c1
    by_cases c2 : sp_tch (g.1 1) k t j = true
    · rw [if_pos c2]
      refine e1'.trans ?_
      simp only [c2, c1', and_self, if_true]
    · rw [if_neg c2]
      refine e0.trans ?_
      simp only [c2, and_false, if_false, Bool.false_eq_true]
theorem sp_pay_V {S : Nat → Int32} {V V' : Nat → Nat → Nat → Int64} {k : Nat} {st : Int32} {t j : Nat} (ho : sp_WO S k) (h : ∀ q, q < k → V q t j = V' q t j) : sp_pay S V k st t j = sp_pay S V' k st t j := by
  unfold sp_pay
  by_cases h0 : sp_o S k 0 = 0
  · rw [if_pos h0, if_pos h0]
  rw [if_neg h0, if_neg h0]
  by_cases h1 : sp_o S k 0 = 1
  · rw [if_pos h1, if_pos h1]
  rw [if_neg h1, if_neg h1]
  by_cases h2 : sp_o S k 0 = 2
  · rw [if_pos h2, if_pos h2]
  rw [if_neg h2, if_neg h2]
  by_cases h3 : sp_o S k 0 = 3
  · rw [if_pos h3, if_pos h3]
  rw [if_neg h3, if_neg h3]
  by_cases h4 : sp_o S k 0 = 4
  · rw [if_pos h4, if_pos h4]
  rw [if_neg h4, if_neg h4]
  obtain ⟨e1, e2⟩ := ho.2.2.1.1 (wo_5 ho h0 h1 h2 h3 h4)
  rw [h _ e2]
/-- what stands at a node of an option -/
def m_H (g : ob_St) (S : Nat → Int32) (k : Nat) (P : Nat → Nat → Int64) (t j : Nat) : Prop :=
  g.2 10 (169 * k + 13 * t + j) = sp_pl S k (sp_o S k 3) P t j ∧ g.2 9 (169 * k + 13 * t + j) = sp_vl S k (sp_o S k 3) P t j ∧
  g.1 13 (169 * k + 13 * t + j) = sp_pd S k (sp_o S k 3) P t j ∧ g.1 12 (169 * k + 13 * t + j) = sp_de S k (sp_o S k 3) P t j
def m_F (g0 g : ob_St) (k : Nat) : Prop :=
  (∀ n, n ≠ 12 → n ≠ 13 → g.1 n = g0.1 n) ∧ (∀ n, n ≠ 9 → n ≠ 10 → g.2 n = g0.2 n) ∧
  (∀ c, c < 169 * k ∨ 169 * k + 169 ≤ c → g.1 12 c = g0.1 12 c ∧ g.1 13 c = g0.1 13 c ∧ g.2 9 c = g0.2 9 c ∧ g.2 10 c = g0.2 10 c)
def m_J (g0 g : ob_St) (k : Nat) (P : Nat → Nat → Int64) (T j : Nat) : Prop :=
  m_F g0 g k ∧ ∀ t' j', t' ≤ sN (g0.1 1) 2 → j' ≤ t' → (T ≤ t' ∨ t' + 1 = T ∧ j' < j) → m_H g (g0.1 1) k P t' j'
theorem m_nodeStep {g0 g : ob_St} {k t j : Nat} {P : Nat → Nat → Int64} (hW : sp_WF (g0.1 1)) (hk : k < sN (g0.1 1) 29) (ht : t ≤ sN (g0.1 1) 2) (hj : j ≤ t) (hP : m_Pw g0)
    (eP : P = sp_pay (g0.1 1) (m_V g0) k (sp_o (g0.1 1) k 1)) (h : m_J g0 g k P (t + 1) j) :
    ∃ g', f_X12_laysNode g 0 (nI k) (nI t) (nI j) = some g' ∧ m_J g0 g' k P (t + 1) (j + 1) := by
  obtain ⟨⟨a1, a2, a3⟩, a4⟩ := h
  have h12 := wf_12 hW
  have h4 := wf_4 hW
  have ho := wf_o hW hk
  have e1 : g.1 1 = g0.1 1 := a1 1 (by omega) (by omega)
  have e11 : g.2 11 = g0.2 11 := a2 11 (by omega) (by omega)
  have hp : sp_pay (g0.1 1) (m_V g) k (sp_o (g0.1 1) k 1) t j = P t j := by
    rw [eP]
    refine sp_pay_V ho (fun q hq => ?_)
    exact (a3 (169 * q + 13 * t + j) (Or.inl (by omega))).2.2.1
  have hpl : sp_hd (g0.1 1) (fun t j => g.2 10 (169 * k + 13 * t + j)) t j = sp_hd (g0.1 1) (sp_pl (g0.1 1) k (sp_o (g0.1 1) k 3) P) t j := by
    unfold sp_hd
    by_cases hn : t = sN (g0.1 1) 2
    · rw [if_pos hn, if_pos hn]
    · rw [if_neg hn, if_neg hn]
      dsimp only
      rw [(a4 (t + 1) (j + 1) (by omega) (by omega) (Or.inl (by omega))).1, (a4 (t + 1) j (by omega) (by omega) (Or.inl (by omega))).1]
  have hvl : sp_hd (g0.1 1) (fun t j => g.2 9 (169 * k + 13 * t + j)) t j = sp_hd (g0.1 1) (sp_vl (g0.1 1) k (sp_o (g0.1 1) k 3) P) t j := by
    unfold sp_hd
    by_cases hn : t = sN (g0.1 1) 2
    · rw [if_pos hn, if_pos hn]
    · rw [if_neg hn, if_neg hn]
      dsimp only
      rw [(a4 (t + 1) (j + 1) (by omega) (by omega) (Or.inl (by omega))).2.1, (a4 (t + 1) j (by omega) (by omega) (Or.inl (by omega))).2.1]
  have st := m_laysNode (g := g) (k := k) (t := t) (j := j) (by rw [e1]; exact hW) (by rw [e1]; exact hk) (by rw [e1]; exact ht) hj (fun i hi => by rw [e11, e1]; exact hP i hi) _ _ _ rfl rfl rfl
  rw [e1, hp, hpl, hvl] at st
  refine ⟨_, st, ⟨?_, ?_, ?_⟩, ?_⟩
  · intro n n1 n2
    show ob_up (ob_up g.1 13 _ _) 12 _ _ n = _
    rw [pu_up_ne n1, pu_up_ne n2, a1 n n1 n2]
  · intro n n1 n2
    show ob_upL (ob_upL g.2 10 _ _) 9 _ _ n = _
    rw [pu_upL_ne n1, pu_upL_ne n2, a2 n n1 n2]
  · intro c hc
    have hne : c ≠ 169 * k + 13 * t + j := by omega
    have := a3 c hc
    refine ⟨?_, ?_, ?_, ?_⟩
    · show upd ((ob_up g.1 13 _ _) 12) _ _ c = _
      rw [pu_upd_ne hne]
      exact this.1
    · show upd (g.1 13) _ _ c = _
      rw [pu_upd_ne hne]
      exact this.2.1
    · show vp_updL (g.2 9) _ _ c = _
      rw [pu_updL_ne hne]
      exact this.2.2.1
    · show vp_updL (g.2 10) _ _ c = _
      rw [pu_updL_ne hne]
      exact this.2.2.2
  · intro t' j' ht' hj' hd
    by_cases hc : t' = t ∧ j' = j
    · obtain ⟨rfl, rfl⟩ := hc
      refine ⟨?_, ?_, ?_, ?_⟩
      · show vp_updL (g.2 10) _ _ _ = _
        rw [pu_updL_eq, sp_pl_eq ht]
      · show vp_updL (g.2 9) _ _ _ = _
        rw [pu_updL_eq, sp_vl_eq ht, sp_pl_eq ht]
      · show upd (g.1 13) _ _ _ = _
        rw [pu_upd_eq]
        rfl
      · show upd (g.1 12) _ _ _ = _
        rw [pu_upd_eq]
        rfl
    · have hne : 169 * k + 13 * t' + j' ≠ 169 * k + 13 * t + j := by omega
      have := a4 t' j' ht' hj' (by omega)
      refine ⟨?_, ?_, ?_, ?_⟩
      · show vp_updL (g.2 10) _ _ _ = _
        rw [pu_updL_ne hne]
        exact this.1
      · show vp_updL (g.2 9) _ _ _ = _
        rw [pu_updL_ne hne]
        exact this.2.1
      · show upd (g.1 13) _ _ _ = _
        rw [pu_upd_ne hne]
        exact this.2.2.1
      · show upd (g.1 12) _ _ _ = _
        rw [pu_upd_ne hne]
        exact this.2.2.2
theorem m_laysOption {g : ob_St} {k : Nat} (hW : sp_WF (g.1 1)) (hk : k < sN (g.1 1) 29) (hP : m_Pw g) (P : Nat → Nat → Int64) (eP : P = sp_pay (g.1 1) (m_V g) k (sp_o (g.1 1) k 1)) :
    ∃ g', f_X12_laysOption g 0 (nI k) = some g' ∧ m_F g g' k ∧ ∀ t j, t ≤ sN (g.1 1) 2 → j ≤ t → m_H g' (g.1 1) k P t j := by
  have h12 := wf_12 hW
  have inner : ∀ (t : Nat) (s : ob_St), t ≤ sN (g.1 1) 2 → m_J g s k P (t + 1) 0 → ∃ s', L_X12_laysOption_13 0 (nI k) (nI t) ob_FU s 0 = some s' ∧ m_J g s' k P t 0 := by
    intro t s ht hs
    have := pu_up (fun n s i => L_X12_laysOption_13 0 (nI k) (nI t) n s (nI i)) (fun i s => m_J g s k P (t + 1) i) (t + 1) (fun r => m_J g r k P t 0)
      (fun n s hI => ⟨s, by
        show (if nI t < nI (t + 1) then _ else _) = _
        rw [if_pos (nI_lt (by omega) (by omega))], hI.1, fun t' j' h1 h2 h3 => hI.2 t' j' h1 h2 (by omega)⟩)
      (fun n i s hi hI => by
        obtain ⟨g', h1, h2⟩ := m_nodeStep hW hk ht (by omega : i ≤ t) hP eP hI
        refine ⟨g', h2, ?_⟩
        show (if nI t < nI i then _ else _) = _
        rw [if_neg (nI_nlt (by omega) (by omega)), h1]
        simp only [Option.bind_some, pu_add, pu_addr, pu_mul, nI_1, nI_add, pk_mul, ev_ck0, ev_g0, ev_p0, ev_r0_1, ev_r0_2, ev_r0_3, ev_r0_4, ev_r0_5, ev_r0_7, ev_r0_17, ev_r0_18, ev_r0_20, ev_r0_21, ev_r0_22, ev_r0_23, ev_r0_24, ev_r0_25, ev_r0_26, ev_r0_27, ev_r0_28, ev_r0_29, ev_a1, ev_l1, ev_w1, ev_a2, ev_l2, ev_w2, ev_a3, ev_l3, ev_w3, ev_a4, ev_l4, ev_w4, ev_a5, ev_l5, ev_a6, ev_l6, ev_w6, ev_a7, ev_l7, ev_w7, ev_a8, ev_l8, ev_w8, ev_a9, ev_w9, ev_a10, ev_w10, ev_a11, ev_w11, ev_a12, ev_l12, ev_w12, ev_a13, ev_l13, ev_w13, ev_a14, ev_w14, ev_a15, ev_w15, ev_a16, ev_w16, ev_a17, ev_w17, ev_a18, ev_w18])
      (t + 1) 0 ob_FU s (by omega) (by unfold ob_FU; omega) hs
    exact this
  have := pu_dn (fun n s i => L_X12_laysOption_7 0 (nI k) n s (nI i)) (fun n s => L_X12_laysOption_7 0 (nI k) n s (nI 0 + -1)) (fun T s => T ≤ sN (g.1 1) 2 + 1 ∧ m_J g s k P T 0) (fun r => m_J g r k P 0 0)
    (fun n s hI => ⟨s, rfl, hI.2⟩)
    (fun n s hI => by
      obtain ⟨s', h1, h2⟩ := inner 0 s (by omega) hI.2
      refine ⟨s', ⟨by omega, h2⟩, ?_⟩
      show Lb_X12_laysOption_7 _ _ _ _ _ = _
      unfold Lb_X12_laysOption_7
      rw [if_neg (nI_pos (by omega)), h1]
      rfl)
    (fun n i s hI => by
      obtain ⟨s', h1, h2⟩ := inner (i + 1) s (by omega) hI.2
      refine ⟨s', ⟨by omega, h2⟩, ?_⟩
      show Lb_X12_laysOption_7 _ _ _ _ _ = _
      unfold Lb_X12_laysOption_7
      rw [if_neg (nI_pos (by omega)), h1]
      simp only [Option.bind_some, pu_pred])
    (sN (g.1 1) 2) ob_FU g (by unfold ob_FU; omega) ⟨Nat.le_refl _, ⟨fun _ _ _ => rfl, fun _ _ _ => rfl, fun _ _ => ⟨rfl, rfl, rfl, rfl⟩⟩, fun t' j' h1 h2 h3 => by omega⟩
  obtain ⟨r, h1, h2⟩ := this
  refine ⟨r, ?_, h2.1, fun t j ht hj => h2.2 t j ht hj (Or.inl (by omega))⟩
  simp (disch := omega) only [f_X12_laysOption, wf_2 hW, h1, Option.bind_some, pu_add, pu_addr, pu_mul, nI_1, nI_add, pk_mul, ev_ck0, ev_g0, ev_p0, ev_r0_1, ev_r0_2, ev_r0_3, ev_r0_4, ev_r0_5, ev_r0_7, ev_r0_17, ev_r0_18, ev_r0_20, ev_r0_21, ev_r0_22, ev_r0_23, ev_r0_24, ev_r0_25, ev_r0_26, ev_r0_27, ev_r0_28, ev_r0_29, ev_a1, ev_l1, ev_w1, ev_a2, ev_l2, ev_w2, ev_a3, ev_l3, ev_w3, ev_a4, ev_l4, ev_w4, ev_a5, ev_l5, ev_a6, ev_l6, ev_w6, ev_a7, ev_l7, ev_w7, ev_a8, ev_l8, ev_w8, ev_a9, ev_w9, ev_a10, ev_w10, ev_a11, ev_w11, ev_a12, ev_l12, ev_w12, ev_a13, ev_l13, ev_w13, ev_a14, ev_w14, ev_a15, ev_w15, ev_a16, ev_w16, ev_a17, ev_w17, ev_a18, ev_w18]
theorem sp_row_congr {n : Nat} {F G : Nat → (Nat → Nat → Int64) → Nat → Int64} (h : ∀ t R j, t ≤ n → j ≤ t → F t R j = G t R j) (hF : ∀ t R R' j, t ≤ n → j ≤ t → (t < n → ∀ i, i ≤ t + 1 → R (t + 1) i = R' (t + 1) i) → G t R j = G t R' j) :
    ∀ d, d ≤ n → ∀ j, j ≤ n - d → sp_row n F d j = sp_row n G d j := by
  intro d
  induction d with
  | zero => intro _ j hj; exact h n _ j (Nat.le_refl _) (by omega)
  | succ d ih =>
    intro hd j hj
    show F (n - (d + 1)) _ j = G (n - (d + 1)) _ j
    rw [h _ _ _ (by omega) hj]
    exact hF _ _ _ _ (by omega) hj (fun _ i hi => ih (by omega) i (by omega))
theorem sp_tab_congr {n : Nat} {F G : Nat → (Nat → Nat → Int64) → Nat → Int64} (h : ∀ t R j, t ≤ n → j ≤ t → F t R j = G t R j) (hF : ∀ t R R' j, t ≤ n → j ≤ t → (t < n → ∀ i, i ≤ t + 1 → R (t + 1) i = R' (t + 1) i) → G t R j = G t R' j)
    {t j : Nat} (ht : t ≤ n) (hj : j ≤ t) : sp_tab n F t j = sp_tab n G t j := sp_row_congr h hF (n - t) (by omega) j (by omega)
theorem sp_hd_loc2 {S : Nat → Int32} {R R' : Nat → Nat → Int64} {t j : Nat} (ht : t ≤ sN S 2) (hj : j ≤ t) (h : t < sN S 2 → ∀ i, i ≤ t + 1 → R (t + 1) i = R' (t + 1) i) : sp_hd S R t j = sp_hd S R' t j := by
  unfold sp_hd
  by_cases h1 : t = sN S 2
  · rw [if_pos h1, if_pos h1]
  · rw [if_neg h1, if_neg h1, h (by omega) _ (by omega), h (by omega) _ (by omega)]
theorem sp_pl_congr {S : Nat → Int32} {k : Nat} {fr : Int32} {P P' : Nat → Nat → Int64} (h : ∀ t j, t ≤ sN S 2 → j ≤ t → P t j = P' t j) {t j : Nat} (ht : t ≤ sN S 2) (hj : j ≤ t) : sp_pl S k fr P t j = sp_pl S k fr P' t j :=
  sp_tab_congr (fun t R j ht hj => by rw [h t j ht hj]) (fun t R R' j ht hj hR => by rw [sp_hd_loc2 ht hj hR]) ht hj
theorem sp_vl_congr {S : Nat → Int32} {k : Nat} {fr : Int32} {P P' : Nat → Nat → Int64} (h : ∀ t j, t ≤ sN S 2 → j ≤ t → P t j = P' t j) {t j : Nat} (ht : t ≤ sN S 2) (hj : j ≤ t) : sp_vl S k fr P t j = sp_vl S k fr P' t j :=
  sp_tab_congr (fun t R j ht hj => by rw [h t j ht hj, sp_pl_congr h ht hj]) (fun t R R' j ht hj hR => by rw [sp_hd_loc2 ht hj hR]) ht hj
theorem m_H_congr {g : ob_St} {S : Nat → Int32} {k : Nat} {P P' : Nat → Nat → Int64} (h : ∀ t j, t ≤ sN S 2 → j ≤ t → P t j = P' t j) {t j : Nat} (hm : m_H g S k P t j) (ht : t ≤ sN S 2) (hj : j ≤ t) : m_H g S k P' t j := by
  obtain ⟨h1, h2, h3, h4⟩ := hm
  refine ⟨?_, ?_, ?_, ?_⟩
  · rw [h1, sp_pl_congr h ht hj]
  · rw [h2, sp_vl_congr h ht hj]
  · rw [h3]
    unfold sp_pd
    rw [h t j ht hj, sp_hd_loc2 ht hj (fun hlt i hi => sp_pl_congr h (by omega) hi)]
  · rw [h4]
    unfold sp_de
    rw [h t j ht hj, sp_hd_loc2 ht hj (fun hlt i hi => sp_vl_congr h (by omega) hi)]
/-- all is laid -/
def m_Laid (g : ob_St) : Prop := m_Pw g ∧ ∀ k, k < sN (g.1 1) 29 → ∀ t j, t ≤ sN (g.1 1) 2 → j ≤ t → m_H g (g.1 1) k (sp_P (g.1 1) k) t j
def m_Q (g : ob_St) : Prop := sp_WF (g.1 1) ∧ (g.1 0 19 = 0 ∨ (g.1 0 19 = 1 ∧ m_Laid g))
/-- what a question leaves as it was -/
def m_K (g g' : ob_St) : Prop :=
  (∀ n, n ≠ 0 → n ≠ 12 → n ≠ 13 → g'.1 n = g.1 n) ∧ (∀ i, i ≠ 0 → i ≠ 19 → g'.1 0 i = g.1 0 i) ∧ (∀ n, n < 9 ∨ 18 < n → g'.2 n = g.2 n)
theorem m_K_refl (g : ob_St) : m_K g g := ⟨fun _ _ _ _ => rfl, fun _ _ _ => rfl, fun _ _ => rfl⟩
theorem m_K_tr {a b c : ob_St} (h : m_K a b) (h' : m_K b c) : m_K a c :=
  ⟨fun n h1 h2 h3 => (h'.1 n h1 h2 h3).trans (h.1 n h1 h2 h3), fun i h1 h2 => (h'.2.1 i h1 h2).trans (h.2.1 i h1 h2), fun n hn => (h'.2.2 n hn).trans (h.2.2 n hn)⟩
theorem m_laysP {g : ob_St} : ∃ r, L_X12_lays_22 0 ob_FU (ob_up g.1 0 19 1, ob_upL g.2 11 0 1) (nI 1) = some r ∧ r.1 = ob_up g.1 0 19 1 ∧ (∀ n, n ≠ 11 → r.2 n = g.2 n) ∧ ∀ a, a < 14 → r.2 11 a = sp_pw (g.1 1) a := by
  exact pu_up (fun n s i => L_X12_lays_22 0 n s (nI i)) (fun i s => 1 ≤ i ∧ s.1 = ob_up g.1 0 19 1 ∧ (∀ n, n ≠ 11 → s.2 n = g.2 n) ∧ ∀ a, a < i → s.2 11 a = sp_pw (g.1 1) a) 14
    (fun r => r.1 = ob_up g.1 0 19 1 ∧ (∀ n, n ≠ 11 → r.2 n = g.2 n) ∧ ∀ a, a < 14 → r.2 11 a = sp_pw (g.1 1) a)
    (fun n s hI => ⟨s, by
      show Lb_X12_lays_22 _ _ _ _ = _
      unfold Lb_X12_lays_22
      have h14 : (14 : Int32) ≤ nI 14 := by decide
      rw [if_pos h14], hI.2⟩)
    (fun n i s hi hI => by
      obtain ⟨i1, i2, i3, i4⟩ := hI
      obtain ⟨m, rfl⟩ : ∃ m, i = m + 1 := ⟨i - 1, by omega⟩
      refine ⟨(s.1, ob_upL s.2 11 (m + 1) (s.2 11 m * (g.1 1 1).toInt64)), ⟨by omega, i2, ?_, ?_⟩, ?_⟩
      · intro n hn
        show ob_upL s.2 11 _ _ n = _
        rw [pu_upL_ne hn, i3 n hn]
      · intro a ha
        show vp_updL (s.2 11) _ _ a = _
        by_cases e : a = m + 1
        · subst e
          rw [pu_updL_eq, i4 m (by omega)]
          rfl
        · rw [pu_updL_ne e, i4 a (by omega)]
      · show Lb_X12_lays_22 _ _ _ _ = _
        have e1 : s.1 1 = g.1 1 := by rw [i2]; rfl
        have hn : ¬ (14 : Int32) ≤ nI (m + 1) := nI_ge (b := 14) (by omega) (by omega)
        unfold Lb_X12_lays_22
        rw [if_neg hn]
        have hm : nI (m + 1) - 1 = nI m := nI_pred m
        simp (disch := omega) only [hm, e1, Option.bind_some, pu_add, pu_addr, pu_mul, nI_1, nI_add, pk_mul, ev_ck0, ev_g0, ev_p0, ev_r0_1, ev_r0_2, ev_r0_3, ev_r0_4, ev_r0_5, ev_r0_7, ev_r0_17, ev_r0_18, ev_r0_20, ev_r0_21, ev_r0_22, ev_r0_23, ev_r0_24, ev_r0_25, ev_r0_26, ev_r0_27, ev_r0_28, ev_r0_29, ev_a1, ev_l1, ev_w1, ev_a2, ev_l2, ev_w2, ev_a3, ev_l3, ev_w3, ev_a4, ev_l4, ev_w4, ev_a5, ev_l5, ev_a6, ev_l6, ev_w6, ev_a7, ev_l7, ev_w7, ev_a8, ev_l8, ev_w8, ev_a9, ev_w9, ev_a10, ev_w10, ev_a11, ev_w11, ev_a12, ev_l12, ev_w12, ev_a13, ev_l13, ev_w13, ev_a14, ev_w14, ev_a15, ev_w15, ev_a16, ev_w16, ev_a17, ev_w17, ev_a18, ev_w18])
    13 1 ob_FU (ob_up g.1 0 19 1, ob_upL g.2 11 0 1) (by omega) (by unfold ob_FU; omega)
    ⟨by omega, rfl, fun n hn => pu_upL_ne hn, fun a ha => by
      have : a = 0 := by omega
      subst this
      show vp_updL (g.2 11) 0 1 0 = _
      rw [pu_updL_eq]
      rfl⟩
theorem m_laysO {g g1 : ob_St} (hW : sp_WF (g.1 1)) (e1 : g1.1 1 = g.1 1) (p4 : ∀ a, a < 14 → g1.2 11 a = sp_pw (g.1 1) a) : ∃ s, L_X12_lays_58 0 ob_FU g1 (nI 0) = some s ∧ (∀ n, n ≠ 12 → n ≠ 13 → s.1 n = g1.1 n) ∧ (∀ n, n ≠ 9 → n ≠ 10 → s.2 n = g1.2 n) ∧ ∀ k, k < sN (g.1 1) 29 → ∀ t j, t ≤ sN (g.1 1) 2 → j ≤ t → m_H s (g.1 1) k (sp_P (g.1 1) k) t j := by
  have h12 := wf_12 hW
  have h4 := wf_4 hW
  exact pu_up (fun n s i => L_X12_lays_58 0 n s (nI i))
    (fun i s => i ≤ sN (g.1 1) 29 ∧ (∀ n, n ≠ 12 → n ≠ 13 → s.1 n = g1.1 n) ∧ (∀ n, n ≠ 9 → n ≠ 10 → s.2 n = g1.2 n) ∧ ∀ k, k < i → ∀ t j, t ≤ sN (g.1 1) 2 → j ≤ t → m_H s (g.1 1) k (sp_P (g.1 1) k) t j) (sN (g.1 1) 29)
    (fun s => (∀ n, n ≠ 12 → n ≠ 13 → s.1 n = g1.1 n) ∧ (∀ n, n ≠ 9 → n ≠ 10 → s.2 n = g1.2 n) ∧ ∀ k, k < sN (g.1 1) 29 → ∀ t j, t ≤ sN (g.1 1) 2 → j ≤ t → m_H s (g.1 1) k (sp_P (g.1 1) k) t j)
    (fun n s hI => ⟨s, by
      obtain ⟨i0, i1, i2, i3⟩ := hI
      have e : s.1 1 = g.1 1 := by rw [i1 1 (by omega) (by omega), e1]
      show Lb_X12_lays_58 _ _ _ _ = _
      simp (disch := omega) only [Lb_X12_lays_58, e, wf_29 hW, Option.bind_some, pu_add, pu_addr, pu_mul, nI_1, nI_add, pk_mul, ev_ck0, ev_g0, ev_p0, ev_r0_1, ev_r0_2, ev_r0_3, ev_r0_4, ev_r0_5, ev_r0_7, ev_r0_17, ev_r0_18, ev_r0_20, ev_r0_21, ev_r0_22, ev_r0_23, ev_r0_24, ev_r0_25, ev_r0_26, ev_r0_27, ev_r0_28, ev_r0_29, ev_a1, ev_l1, ev_w1, ev_a2, ev_l2, ev_w2, ev_a3, ev_l3, ev_w3, ev_a4, ev_l4, ev_w4, ev_a5, ev_l5, ev_a6, ev_l6, ev_w6, ev_a7, ev_l7, ev_w7, ev_a8, ev_l8, ev_w8, ev_a9, ev_w9, ev_a10, ev_w10, ev_a11, ev_w11, ev_a12, ev_l12, ev_w12, ev_a13, ev_l13, ev_w13, ev_a14, ev_w14, ev_a15, ev_w15, ev_a16, ev_w16, ev_a17, ev_w17, ev_a18, ev_w18]
      rw [if_pos (nI_le (by omega) (by omega))], hI.2⟩)
    (fun n i s hi hI => by
      obtain ⟨i0, i1, i2, i3⟩ := hI
      have e : s.1 1 = g.1 1 := by rw [i1 1 (by omega) (by omega), e1]
      have hVs : sp_pay (g.1 1) (m_V s) i (sp_o (g.1 1) i 1) = sp_pay (g.1 1) (m_V s) i (sp_o (g.1 1) i 1) := rfl
      have hPs : m_Pw s := by
        intro a ha
        rw [i2 11 (by omega) (by omega), e]
        exact p4 a ha
      obtain ⟨g', l1, l2, l3⟩ := m_laysOption (g := s) (k := i) (by rw [e]; exact hW) (by rw [e]; exact hi) hPs _ rfl
      rw [e] at l3
      have hq : ∀ t j, t ≤ sN (g.1 1) 2 → j ≤ t → sp_pay (g.1 1) (m_V s) i (sp_o (g.1 1) i 1) t j = sp_P (g.1 1) i t j := by
        intro t j ht hj
        refine sp_pay_V (wf_o hW hi) (fun q hq => ?_)
        rw [sp_Vs_lt hq]
        exact (i3 q hq t j ht hj).2.1
      refine ⟨g', ⟨by omega, fun n h1 h2 => (l2.1 n h1 h2).trans (i1 n h1 h2), fun n h1 h2 => (l2.2.1 n h1 h2).trans (i2 n h1 h2), ?_⟩, ?_⟩
      · intro k hk t j ht hj
        by_cases hki : k = i
        · subst hki
          exact m_H_congr hq (l3 t j ht hj) ht hj
        · have := i3 k (by omega) t j ht hj
          have c := l2.2.2 (169 * k + 13 * t + j) (by omega)
          exact ⟨c.2.2.2.trans this.1, c.2.2.1.trans this.2.1, c.2.1.trans this.2.2.1, c.1.trans this.2.2.2⟩
      · show Lb_X12_lays_58 _ _ _ _ = _
        simp (disch := omega) only [Lb_X12_lays_58, e, wf_29 hW, l1, Option.bind_some, pu_add, pu_addr, pu_mul, nI_1, nI_add, pk_mul, ev_ck0, ev_g0, ev_p0, ev_r0_1, ev_r0_2, ev_r0_3, ev_r0_4, ev_r0_5, ev_r0_7, ev_r0_17, ev_r0_18, ev_r0_20, ev_r0_21, ev_r0_22, ev_r0_23, ev_r0_24, ev_r0_25, ev_r0_26, ev_r0_27, ev_r0_28, ev_r0_29, ev_a1, ev_l1, ev_w1, ev_a2, ev_l2, ev_w2, ev_a3, ev_l3, ev_w3, ev_a4, ev_l4, ev_w4, ev_a5, ev_l5, ev_a6, ev_l6, ev_w6, ev_a7, ev_l7, ev_w7, ev_a8, ev_l8, ev_w8, ev_a9, ev_w9, ev_a10, ev_w10, ev_a11, ev_w11, ev_a12, ev_l12, ev_w12, ev_a13, ev_l13, ev_w13, ev_a14, ev_w14, ev_a15, ev_w15, ev_a16, ev_w16, ev_a17, ev_w17, ev_a18, ev_w18]
        rw [if_neg (nI_ge (by omega) (by omega))])
    (sN (g.1 1) 29) 0 ob_FU g1 (by omega) (by unfold ob_FU; omega) ⟨by omega, fun _ _ _ => rfl, fun _ _ _ => rfl, fun k hk => by omega⟩
theorem m_lays {g : ob_St} (hQ : m_Q g) : ∃ g', f_X12_lays g 0 = some g' ∧ m_K g g' ∧ g'.1 0 0 = g.1 0 0 ∧ g'.1 0 19 = 1 ∧ m_Laid g' := by
  obtain ⟨hW, hL⟩ := hQ
  rcases hL.symm with ⟨h1, h2⟩ | h0
  · refine ⟨g, ?_, m_K_refl g, rfl, h1, h2⟩
    unfold f_X12_lays
    rw [ev_g0, Option.bind_some, h1]
    exact if_neg (by decide)
  have h12 := wf_12 hW
  have h4 := wf_4 hW
  obtain ⟨g1, p1, p2, p3, p4⟩ := m_laysP (g := g)
  have e1 : g1.1 1 = g.1 1 := by rw [p2]; rfl
  have hW1 : sp_WF (g1.1 1) := by rw [e1]; exact hW
  obtain ⟨g2, q1, q2, q3, q4⟩ := m_laysO hW e1 p4
  have e2 : g2.1 1 = g.1 1 := by rw [q2 1 (by omega) (by omega), e1]
  refine ⟨g2, ?_, ⟨?_, ?_, ?_⟩, ?_, ?_, ?_, ?_⟩
  · have hz : ob_pZ g 12 0 19 1 = some (ob_up g.1 0 19 1, g.2) := pu_pZ rfl (Or.inr rfl)
    have hw : ob_wL (ob_up g.1 0 19 1, g.2) 11 0 1 = some (ob_up g.1 0 19 1, ob_upL g.2 11 0 1) := pu_wL (n := 11) (i := 0) rfl rfl (by decide)
    have p1' : L_X12_lays_22 0 ob_FU (ob_up g.1 0 19 1, ob_upL g.2 11 0 1) 1 = some g1 := p1
    have q1' : L_X12_lays_58 0 ob_FU g1 0 = some g2 := q1
    unfold f_X12_lays
    rw [ev_g0, Option.bind_some, if_pos h0, hz, Option.bind_some, ev_r0_22, Option.bind_some, hw, Option.bind_some, p1', Option.bind_some, q1', Option.bind_some]
  · intro n n0 n1 n2
    rw [q2 n n1 n2, p2, pu_up_ne n0]
  · intro i h0 h1
    rw [q2 0 (by omega) (by omega), p2, pu_up_eq, pu_upd_ne h1]
  · intro n hn
    rw [q3 n (by omega) (by omega), p3 n (by omega)]
  · rw [q2 0 (by omega) (by omega), p2, pu_up_eq, pu_upd_ne (by omega)]
  · rw [q2 0 (by omega) (by omega), p2, pu_up_eq, pu_upd_eq]
  · intro a ha
    rw [q3 11 (by omega) (by omega), e2]
    exact p4 a ha
  · rw [e2]
    exact q4
