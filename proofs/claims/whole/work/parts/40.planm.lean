/-! BY PLAN: the reference -/
def m_cm (g : ob_St) (p q v : Nat) : ob_St := (g.1, ob_upL (ob_upL g.2 14 q (g.2 14 q + g.2 14 p * lN v)) 15 q (g.2 15 q + g.2 15 p))
theorem m_comes {g : ob_St} {p q v : Nat} (hp : p < 338) (hq : q < 338) (hv : v < 2 ^ 31) : f_X12_comes g 0 (nI p) (nI q) (nI v) = some (m_cm g p q v) := by
  unfold f_X12_comes m_cm
  simp (disch := omega) only [nI_l, pu_upL_ne, Option.bind_some, pu_add, pu_addr, pu_mul, nI_1, nI_add, pk_mul, ev_ck0, ev_g0, ev_p0, ev_r0_1, ev_r0_2, ev_r0_3, ev_r0_4, ev_r0_5, ev_r0_7, ev_r0_17, ev_r0_18, ev_r0_20, ev_r0_21, ev_r0_22, ev_r0_23, ev_r0_24, ev_r0_25, ev_r0_26, ev_r0_27, ev_r0_28, ev_r0_29, ev_a1, ev_l1, ev_w1, ev_a2, ev_l2, ev_w2, ev_a3, ev_l3, ev_w3, ev_a4, ev_l4, ev_w4, ev_a5, ev_l5, ev_a6, ev_l6, ev_w6, ev_a7, ev_l7, ev_w7, ev_a8, ev_l8, ev_w8, ev_a9, ev_w9, ev_a10, ev_w10, ev_a11, ev_w11, ev_a12, ev_l12, ev_w12, ev_a13, ev_l13, ev_w13, ev_a14, ev_w14, ev_a15, ev_w15, ev_a16, ev_w16, ev_a17, ev_w17, ev_a18, ev_w18]
theorem m_cm_ne {g : ob_St} {p q v m : Nat} (h1 : m ≠ 14) (h2 : m ≠ 15) : (m_cm g p q v).2 m = g.2 m := by
  unfold m_cm
  dsimp only
  rw [pu_upL_ne h2, pu_upL_ne h1]
def m_AR (g : ob_St) (N : Nat) (X C : Nat → Nat → Nat → Nat) : Prop := ∀ l t j, l ≤ 1 → t ≤ N → j ≤ t → g.2 14 (169 * l + 13 * t + j) = lN (X l t j) ∧ g.2 15 (169 * l + 13 * t + j) = lN (C l t j)
theorem m_AR_c {g : ob_St} {N : Nat} {X C X' C' : Nat → Nat → Nat → Nat} (h : m_AR g N X C) (e : ∀ l t j, l ≤ 1 → t ≤ N → j ≤ t → X' l t j = X l t j ∧ C' l t j = C l t j) : m_AR g N X' C' := fun l t j a b c => by
  rw [(e l t j a b c).1, (e l t j a b c).2]; exact h l t j a b c
theorem ix3 {l t j l' t' j' : Nat} (ht : t ≤ 12) (hj : j ≤ 12) (ht' : t' ≤ 12) (hj' : j' ≤ 12) (h : 169 * l + 13 * t + j = 169 * l' + 13 * t' + j') : l = l' ∧ t = t' ∧ j = j' := by
  have a : (169 * l + 13 * t + j) % 13 = j := by omega
  have b : (169 * l' + 13 * t' + j') % 13 = j' := by omega
  have c : j = j' := by rw [← a, ← b, h]
  have d : 13 * l + t = 13 * l' + t' := by omega
  have a2 : (13 * l + t) % 13 = t := by omega
  have b2 : (13 * l' + t') % 13 = t' := by omega
  have c2 : t = t' := by rw [← a2, ← b2, d]
  exact ⟨by omega, c2, c⟩
theorem m_AR_cm {g : ob_St} {N l t j l2 t2 j2 v : Nat} {X C : Nat → Nat → Nat → Nat} (hN : N ≤ 12) (hl : l ≤ 1) (ht : t ≤ N) (hj : j ≤ t) (hl2 : l2 ≤ 1) (ht2 : t2 ≤ N) (hj2 : j2 ≤ t2) (h : m_AR g N X C) :
    m_AR (m_cm g (169 * l + 13 * t + j) (169 * l2 + 13 * t2 + j2) v) N (pl_ad X l2 t2 j2 (X l t j * v)) (pl_ad C l2 t2 j2 (C l t j)) := by
  intro l' t' j' a1 a2 a3
  obtain ⟨p1, p2⟩ := h l t j hl ht hj
  obtain ⟨q1, q2⟩ := h l2 t2 j2 hl2 ht2 hj2
  obtain ⟨r1, r2⟩ := h l' t' j' a1 a2 a3
  unfold m_cm
  dsimp only
  rw [pu_upL_ne (a := 14) (n := 15) (by omega), pu_upL_eq (n := 14), pu_upL_eq (n := 15), pu_upL_ne (a := 15) (n := 14) (by omega), p1, p2, q1, q2, lN_mul, lN_add, lN_add]
  by_cases e : l' = l2 ∧ t' = t2 ∧ j' = j2
  · obtain ⟨rfl, rfl, rfl⟩ := e
    rw [pu_updL_eq, pu_updL_eq, pl_ad_eq, pl_ad_eq]
    exact ⟨rfl, rfl⟩
  · have ne : 169 * l' + 13 * t' + j' ≠ 169 * l2 + 13 * t2 + j2 := fun q => e (ix3 (by omega) (by omega) (by omega) (by omega) q)
    rw [pu_updL_ne ne, pu_updL_ne ne, pl_ad_ne e, pl_ad_ne e]
    exact ⟨r1, r2⟩
/-- what a layer's step leaves in the ends -/
def m_en (D : Nat → Nat → Nat → Int32) (N : Nat) (X : Nat → Nat → Nat → Nat) (l t j : Nat) (w : Nat) : Nat := if pl_e (D l t j) (decide (t = N)) = nI w ∧ ¬ D l t j = 3 then X l t j else 0
def m_ER (g : ob_St) (N : Nat) (e : Nat → Nat → Nat) : Prop := ∀ w t, w < 4 → t ≤ N → g.2 16 (13 * w + t) = lN (e w t)
def m_LF (g0 g : ob_St) : Prop := g.1 = g0.1 ∧ ∀ m, m ≠ 14 → m ≠ 15 → m ≠ 16 → g.2 m = g0.2 m
theorem m_leaves {g : ob_St} {k l t j : Nat} {X C : Nat → Nat → Nat → Nat} {e : Nat → Nat → Nat} (hW : sp_WF (g.1 1)) (hL : m_Laid g) (hk : k < sN (g.1 1) 29) (hl : l ≤ 1) (ht : t ≤ sN (g.1 1) 2) (hj : j ≤ t) (hZ : pl_Z C X) (hC : C l t j < 2 ^ 63)
    (hA : m_AR g (sN (g.1 1) 2) X C) (hE : m_ER g (sN (g.1 1) 2) e) :
    ∃ g', f_X12_leaves g 0 (nI k) (nI l) (nI t) (nI j) = some g' ∧ m_LF g g' ∧ m_AR g' (sN (g.1 1) 2) (pl_s (sp_DE (g.1 1) k) (sN (g.1 1) 2) (sp_a (g.1 1)) (sp_b (g.1 1)) l t j X) (pl_s (sp_DE (g.1 1) k) (sN (g.1 1) 2) pl_1 pl_1 l t j C) ∧
      m_ER g' (sN (g.1 1) 2) (fun w t' => if t' = t then e w t' + m_en (sp_DE (g.1 1) k) (sN (g.1 1) 2) X l t j w else e w t') := by
  have h12 := wf_12 hW
  have h4 := wf_4 hW
  generalize hS : g.1 1 = S at *
  generalize hN : sN S 2 = N at *
  obtain ⟨a14, a15⟩ := hA l t j hl ht hj
  have hd : sp_DE S k l t j = 0 ∨ sp_DE S k l t j = 1 ∨ sp_DE S k l t j = 2 ∨ sp_DE S k l t j = 3 ∨ sp_DE S k l t j = 4 := by
    rcases (by omega : l = 0 ∨ l = 1) with rfl | rfl
    · exact sp_D_c S k t j
    · rcases sp_E_c S k t j with q | q | q
      · exact Or.inl q
      · exact Or.inr (Or.inl q)
      · exact Or.inr (Or.inr (Or.inr (Or.inr q)))
  have sp : f_X12_spot (nI l) (nI t) (nI j) = some (nI (169 * l + 13 * t + j)) := m_spot
  have body : ∀ d, d = sp_DE S k l t j → ∀ g', B_X12_leaves_54 g 0 (nI l) (nI t) (nI j) (nI (169 * l + 13 * t + j)) d = some g' → ¬ lN (C l t j) = 0 → f_X12_leaves g 0 (nI k) (nI l) (nI t) (nI j) = some g' := by
    intro d hd' g' hb hc
    have hHk := hL.2 k (by rw [hS]; exact hk) t j (by rw [hS, hN]; exact ht) hj
    unfold m_H at hHk
    rw [hS] at hHk
    unfold f_X12_leaves
    rw [sp, Option.bind_some, ev_r0_26, Option.bind_some, ev_a15 (by omega), Option.bind_some, a15, if_neg hc]
    rcases (by omega : l = 0 ∨ l = 1) with rfl | rfl
    · have e12 : g.1 12 (169 * k + 13 * t + j) = d := hHk.2.2.2.trans hd'.symm
      rw [if_neg (by decide), ev_r0_23, Option.bind_some, m_cell, Option.bind_some, ev_a12 (by omega), Option.bind_some, e12]
      exact hb
    · have e13 : g.1 13 (169 * k + 13 * t + j) = d := hHk.2.2.1.trans hd'.symm
      rw [if_pos (show nI 1 = 1 from rfl), ev_r0_24, Option.bind_some, m_cell, Option.bind_some, ev_a13 (by omega), Option.bind_some, e13]
      exact hb
  by_cases hc : lN (C l t j) = 0
  · have c0 : C l t j = 0 := (pk_lEQ (b := 0) hC (by omega)).mp hc
    have x0 : X l t j = 0 := hZ l t j c0
    refine ⟨g, ?_, ⟨rfl, fun _ _ _ _ => rfl⟩, m_AR_c hA (fun l' t' j' _ _ _ => ?_), fun w t' hw ht' => ?_⟩
    · unfold f_X12_leaves
      rw [sp, Option.bind_some, ev_r0_26, Option.bind_some, ev_a15 (by omega), Option.bind_some, a15, if_pos hc]
    · unfold pl_s pl_mv
      constructor
      · split
        · rw [x0, pl_ad_0]
        · split
          · rw [x0, Nat.zero_mul, Nat.zero_mul, pl_ad_0, pl_ad_0]
          · rfl
      · split
        · rw [c0, pl_ad_0]
        · split
          · rw [c0]
            unfold pl_1
            rw [Nat.zero_mul, pl_ad_0, pl_ad_0]
          · rfl
    · rw [hE w t' hw ht']
      unfold m_en
      dsimp only
      rw [x0, ite_self, Nat.add_zero, ite_self]
  · have endc : ∀ w0, w0 < 4 → pl_e (sp_DE S k l t j) (decide (t = N)) = nI w0 → ¬ sp_DE S k l t j = 3 → ¬ (sp_DE S k l t j = 0 ∧ t < N) → B_X12_leaves_54 g 0 (nI l) (nI t) (nI j) (nI (169 * l + 13 * t + j)) (sp_DE S k l t j) = B_X12_leaves_123 g 0 (nI t) (nI (169 * l + 13 * t + j)) (nI w0) →
        ∃ g', f_X12_leaves g 0 (nI k) (nI l) (nI t) (nI j) = some g' ∧ m_LF g g' ∧ m_AR g' N (pl_s (sp_DE S k) N (sp_a S) (sp_b S) l t j X) (pl_s (sp_DE S k) N pl_1 pl_1 l t j C) ∧
          m_ER g' N (fun w t' => if t' = t then e w t' + m_en (sp_DE S k) N X l t j w else e w t') := by
      intro w0 hw0 hp h3 h0 hB
      have e16 := hE w0 t hw0 ht
      refine ⟨(g.1, ob_upL g.2 16 (13 * w0 + t) (lN (e w0 t + X l t j))), body _ rfl _ ?_ hc, ⟨rfl, fun m _ _ h => pu_upL_ne h⟩, fun l' t' j' q1 q2 q3 => ?_, fun w t' hw ht' => ?_⟩
      · rw [hB]
        unfold B_X12_leaves_123
        simp (disch := omega) only [a14, e16, lN_add, Option.bind_some, pu_add, pu_addr, pu_mul, nI_1, nI_add, pk_mul, ev_ck0, ev_g0, ev_p0, ev_r0_1, ev_r0_2, ev_r0_3, ev_r0_4, ev_r0_5, ev_r0_7, ev_r0_17, ev_r0_18, ev_r0_20, ev_r0_21, ev_r0_22, ev_r0_23, ev_r0_24, ev_r0_25, ev_r0_26, ev_r0_27, ev_r0_28, ev_r0_29, ev_a1, ev_l1, ev_w1, ev_a2, ev_l2, ev_w2, ev_a3, ev_l3, ev_w3, ev_a4, ev_l4, ev_w4, ev_a5, ev_l5, ev_a6, ev_l6, ev_w6, ev_a7, ev_l7, ev_w7, ev_a8, ev_l8, ev_w8, ev_a9, ev_w9, ev_a10, ev_w10, ev_a11, ev_w11, ev_a12, ev_l12, ev_w12, ev_a13, ev_l13, ev_w13, ev_a14, ev_w14, ev_a15, ev_w15, ev_a16, ev_w16, ev_a17, ev_w17, ev_a18, ev_w18]
      · dsimp only
        rw [pu_upL_ne (a := 14) (by omega), pu_upL_ne (a := 15) (by omega)]
        unfold pl_s
        rw [if_neg h3, if_neg h0, if_neg h3, if_neg h0]
        exact hA l' t' j' q1 q2 q3
      · show ob_upL g.2 16 _ _ 16 _ = _
        rw [pu_upL_eq]
        unfold m_en
        dsimp only
        by_cases et : t' = t
        · subst et
          by_cases ew : w = w0
          · subst ew
            rw [pu_updL_eq, if_pos rfl, if_pos ⟨hp, h3⟩]
          · rw [pu_updL_ne (by omega), if_pos rfl, if_neg (fun z => ew ((nI_eq (by omega) (by omega)).mp (hp.symm.trans z.1)).symm), Nat.add_zero]
            exact hE w t' hw ht'
        · rw [pu_updL_ne (by omega), if_neg et]
          exact hE w t' hw ht'
    have noE : (∀ w, ¬ (pl_e (sp_DE S k l t j) (decide (t = N)) = nI w ∧ ¬ sp_DE S k l t j = 3 ∧ w < 4)) → ∀ g', g'.2 16 = g.2 16 → m_ER g' N (fun w t' => if t' = t then e w t' + m_en (sp_DE S k) N X l t j w else e w t') := by
      intro hno g' h16 w t' hw ht'
      rw [h16, hE w t' hw ht']
      have z : m_en (sp_DE S k) N X l t j w = 0 := if_neg (fun z => hno w ⟨z.1, z.2, hw⟩)
      dsimp only
      rw [z, Nat.add_zero, ite_self]
    have e2 : g.1 1 2 = nI N := by rw [hS, wf_2 hW, hN]
    rcases hd with d | d | d | d | d
    · by_cases et : t = N
      · refine endc 2 (by omega) (by rw [d, decide_eq_true et]; rfl) (by rw [d]; decide) (fun z => by omega) ?_
        rw [d]
        unfold B_X12_leaves_54 B_X12_leaves_92
        rw [if_neg (by decide), if_neg (by decide), ev_r0_1, Option.bind_some, ev_l1 (by omega), Option.bind_some, e2, et, if_pos rfl, if_neg (by decide), if_neg (by decide), if_neg (by decide)]
        rfl
      · have hf := hW.2.2.2.2.2.1 (t + 1) (by omega) (by omega)
        have hw := hW.2.1.2
        have hlt : t < N := by omega
        have f1 : g.1 1 (3 + t + 1) = nI (sp_a S t) := by rw [hS]; exact hf.1
        have b1 : sp_a S t < 2 ^ 31 := by unfold sp_a; omega
        have b2 : sp_b S t < 2 ^ 31 := by unfold sp_b; omega
        have A1 := m_AR_cm (v := sp_a S t) h12 hl ht hj hl (show t + 1 ≤ N by omega) (show j + 1 ≤ t + 1 by omega) hA
        have A2 := m_AR_cm (v := sp_b S t) h12 hl ht hj hl (show t + 1 ≤ N by omega) (show j ≤ t + 1 by omega) A1
        refine ⟨m_cm (m_cm g (169 * l + 13 * t + j) (169 * l + 13 * (t + 1) + (j + 1)) (sp_a S t)) (169 * l + 13 * t + j) (169 * l + 13 * (t + 1) + j) (sp_b S t), body _ rfl _ ?_ hc, ⟨rfl, fun m h1 h2 _ => ?_⟩, m_AR_c A2 (fun l' t' j' _ _ _ => ?_), noE ?_ _ ?_⟩
        · rw [d]
          have g17 : (m_cm g (169 * l + 13 * t + j) (169 * l + 13 * (t + 1) + (j + 1)) (sp_a S t)).1 1 1 = nI (sN S 1) := by
            show g.1 1 1 = _
            rw [hS, wf_1 hW]
          have sb : nI (sN S 1) - nI (sp_a S t) = nI (sp_b S t) := by
            unfold sp_a sp_b
            rw [pk_sub (by omega)]
          unfold B_X12_leaves_54
          rw [if_neg (by decide), if_neg (by decide), ev_r0_1, Option.bind_some, ev_l1 (by omega), Option.bind_some, e2, if_neg (fun z => et ((nI_eq (by omega) (by omega)).mp z)), Option.bind_some, pu_add, nI_1, ev_a1 (by omega), Option.bind_some, nI_1, nI_1, m_spot, Option.bind_some, f1, m_comes (by omega) (by omega) b1, ev_ck0, Option.bind_some, m_spot, Option.bind_some, Option.bind_some, ev_l1 (by omega), Option.bind_some, g17, sb, m_comes (by omega) (by omega) b2, ev_ck0, Option.bind_some]
        · rw [m_cm_ne h1 h2, m_cm_ne h1 h2]
        · unfold pl_s
          rw [if_neg (by rw [d]; decide), if_pos ⟨d, hlt⟩, if_neg (by rw [d]; decide), if_pos ⟨d, hlt⟩]
          unfold pl_mv
          have n1 : ∀ (Q : Nat → Nat → Nat → Nat) v, pl_ad Q l (t + 1) (j + 1) v l t j = Q l t j := fun Q v => pl_ad_ne (by omega)
          rw [n1, n1]
          unfold pl_1
          rw [Nat.mul_one]
          exact ⟨rfl, rfl⟩
        · intro w z
          rw [d, decide_eq_false et] at z
          have z1 : (-1 : Int32) = nI w := z.1
          have : (nI w).toInt = -1 := by rw [← z1]; decide
          rw [ni_of (by omega)] at this
          omega
        · rw [m_cm_ne (by omega) (by omega), m_cm_ne (by omega) (by omega)]
    · refine endc 0 (by omega) (by rw [d]; rfl) (by rw [d]; decide) (fun z => absurd z.1 (by rw [d]; decide)) ?_
      rw [d]
      unfold B_X12_leaves_54 B_X12_leaves_92
      rw [if_neg (by decide), if_pos (by decide), if_pos rfl]
      rfl
    · refine endc 1 (by omega) (by rw [d]; rfl) (by rw [d]; decide) (fun z => absurd z.1 (by rw [d]; decide)) ?_
      rw [d]
      unfold B_X12_leaves_54 B_X12_leaves_92
      rw [if_neg (by decide), if_pos (by decide), if_neg (by decide), if_pos rfl]
      rfl
    · have A1 := m_AR_cm (v := 1) h12 hl ht hj (show 1 ≤ 1 by omega) ht hj hA
      refine ⟨m_cm g (169 * l + 13 * t + j) (169 * 1 + 13 * t + j) 1, body _ rfl _ ?_ hc, ⟨rfl, fun m h1 h2 _ => ?_⟩, m_AR_c A1 (fun l' t' j' _ _ _ => ?_), noE ?_ _ ?_⟩
      · rw [d]
        have sp1 : f_X12_spot 1 (nI t) (nI j) = some (nI (169 * 1 + 13 * t + j)) := m_spot (k := 1)
        have cm1 : f_X12_comes g 0 (nI (169 * l + 13 * t + j)) (nI (169 * 1 + 13 * t + j)) 1 = some (m_cm g (169 * l + 13 * t + j) (169 * 1 + 13 * t + j) 1) := m_comes (v := 1) (by omega) (by omega) (by omega)
        unfold B_X12_leaves_54
        rw [if_pos rfl, sp1, Option.bind_some, cm1, ev_ck0, Option.bind_some]
      · exact m_cm_ne h1 h2
      · unfold pl_s
        rw [if_pos d, if_pos d, Nat.mul_one]
        exact ⟨rfl, rfl⟩
      · intro w z
        exact z.2.1 d
      · exact m_cm_ne (by omega) (by omega)
    · refine endc 3 (by omega) (by rw [d]; rfl) (by rw [d]; decide) (fun z => absurd z.1 (by rw [d]; decide)) ?_
      rw [d]
      unfold B_X12_leaves_54 B_X12_leaves_92
      rw [if_neg (by decide), if_pos (by decide), if_neg (by decide), if_neg (by decide), if_pos rfl]
      rfl
