/-! reach, worthBy -/
theorem pu_tj {σ : Type} (L2 : Nat → σ → Int32 → Option σ) (L1 : Nat → Nat → σ → Int32 → Option σ) (n : Nat) (hn : n ≤ 12) (J : Nat → Nat → σ → Prop)
    (h2e : ∀ f s, L2 (f + 1) s (nI 0 + -1) = some s)
    (h2 : ∀ f s t, t ≤ n → J (t + 1) 0 s → L2 (f + 1) s (nI t) = (L1 t ob_FU s (nI 0)).bind (fun s' => L2 f s' (nI t + -1)))
    (h1e : ∀ t f s, t ≤ n → L1 t (f + 1) s (nI (t + 1)) = some s)
    (h1 : ∀ t j f s, t ≤ n → j ≤ t → J (t + 1) j s → ∃ s', J (t + 1) (j + 1) s' ∧ L1 t (f + 1) s (nI j) = L1 t f s' (nI (j + 1)))
    (hw : ∀ t s, t ≤ n → J (t + 1) (t + 1) s → J t 0 s) (s : σ) (hs : J (n + 1) 0 s) : ∃ s', L2 ob_FU s (nI n) = some s' ∧ J 0 0 s' := by
  have inner : ∀ (t : Nat) (q : σ), t ≤ n → J (t + 1) 0 q → ∃ q', L1 t ob_FU q (nI 0) = some q' ∧ J t 0 q' := by
    intro t q ht hq
    exact pu_up (fun m q i => L1 t m q (nI i)) (fun i q => J (t + 1) i q) (t + 1) (fun r => J t 0 r)
      (fun m q hI => ⟨q, h1e t m q ht, hw t q ht hI⟩)
      (fun m i q hi hI => h1 t i m q ht (by omega) hI)
      (t + 1) 0 ob_FU q (by omega) (by unfold ob_FU; omega) hq
  exact pu_dn (fun m q i => L2 m q (nI i)) (fun m q => L2 m q (nI 0 + -1)) (fun T q => T ≤ n + 1 ∧ J T 0 q) (fun r => J 0 0 r)
    (fun m q hI => ⟨q, h2e m q, hI.2⟩)
    (fun m q hI => by
      obtain ⟨q', a1, a2⟩ := inner 0 q (by omega) hI.2
      refine ⟨q', ⟨by omega, a2⟩, ?_⟩
      show L2 (m + 1) q (nI 0) = _
      rw [h2 m q 0 (by omega) hI.2, a1, Option.bind_some])
    (fun m i q hI => by
      obtain ⟨q', a1, a2⟩ := inner (i + 1) q (by omega) hI.2
      refine ⟨q', ⟨by omega, a2⟩, ?_⟩
      show L2 (m + 1) q (nI (i + 1)) = _
      rw [h2 m q (i + 1) (by omega) hI.2, a1, Option.bind_some, pu_pred])
    n ob_FU s (by unfold ob_FU; omega) ⟨Nat.le_refl _, hs⟩
def sp_rc (S : Nat → Int32) (mk up : Int32) (t j : Nat) : Bool := if up = 1 then decide (mk ≤ sp_pr S t j) else decide (sp_pr S t j ≤ mk)
theorem pu_past {p m u : Int32} : (if u = 1 then (if p < m then some (0 : Int32) else some 1) else (if m < p then some 0 else some 1)) = some (bI (if u = 1 then decide (m ≤ p) else decide (p ≤ m))) := by
  by_cases h1 : u = 1
  · rw [if_pos h1, if_pos h1]
    by_cases h : p < m
    · rw [if_pos h, decide_eq_false (Int32.not_le.mpr h)]; rfl
    · rw [if_neg h, decide_eq_true (Int32.not_lt.mp h)]; rfl
  · rw [if_neg h1, if_neg h1]
    by_cases h : m < p
    · rw [if_pos h, decide_eq_false (Int32.not_le.mpr h)]; rfl
    · rw [if_neg h, decide_eq_true (Int32.not_lt.mp h)]; rfl
theorem m_isReached {S : Nat → Int32} {mk up : Int32} {t j : Nat} : f_X12_isReached (sp_pr S t j) mk up = some (bI (sp_rc S mk up t j)) := pu_past
theorem c_isPast {S : Nat → Int32} {mk up : Int32} {t j : Nat} : f_X11_isPast (sp_pr S t j) mk up = some (bI (sp_rc S mk up t j)) := pu_past
def sp_od (S : Nat → Int32) (mk up : Int32) : Nat → Nat → Int64 := sp_tab (sN S 2) (fun t R j => if sp_rc S mk up t j = true then sp_sc S t else sp_hd S R t j)
theorem sp_od_eq {S : Nat → Int32} {mk up : Int32} {t : Nat} (ht : t ≤ sN S 2) (j : Nat) : sp_od S mk up t j = if sp_rc S mk up t j = true then sp_sc S t else sp_hd S (sp_od S mk up) t j :=
  sp_tab_eq (F := fun t R j => if sp_rc S mk up t j = true then sp_sc S t else sp_hd S R t j) (fun t j R R' ht h => by dsimp only; rw [sp_hd_loc ht h]) ht j
def sp_ch (S : Nat → Int32) (k : Nat) (mk up : Int32) (t j : Nat) : Bool := if sp_P S k t j ≤ 0 then false else if sp_may S (sp_o S k 3) t = true then (if sp_rc S mk up t j = true then true else decide (t = sN S 2)) else false
def sp_wp (S : Nat → Int32) (k : Nat) (mk up : Int32) : Nat → Nat → Int64 := sp_tab (sN S 2) (fun t R j => if sp_ch S k mk up t j = true then sp_P S k t j else sp_hd S R t j)
def sp_wF (S : Nat → Int32) (k : Nat) (mk up : Int32) (t j : Nat) (pl hv : Int64) : Int64 :=
  if sp_o S k 4 = 2 then (if sp_tch S k t j = true then pl else hv) else if 0 < sp_o S k 4 ∧ sp_tch S k t j = true then (sp_o S k 7).toInt64 * sp_sc S t else if sp_ch S k mk up t j = true then sp_P S k t j else hv
def sp_wv (S : Nat → Int32) (k : Nat) (mk up : Int32) : Nat → Nat → Int64 := sp_tab (sN S 2) (fun t R j => sp_wF S k mk up t j (sp_wp S k mk up t j) (sp_hd S R t j))
theorem sp_wp_eq {S : Nat → Int32} {k : Nat} {mk up : Int32} {t : Nat} (ht : t ≤ sN S 2) (j : Nat) : sp_wp S k mk up t j = if sp_ch S k mk up t j = true then sp_P S k t j else sp_hd S (sp_wp S k mk up) t j :=
  sp_tab_eq (F := fun t R j => if sp_ch S k mk up t j = true then sp_P S k t j else sp_hd S R t j) (fun t j R R' ht h => by dsimp only; rw [sp_hd_loc ht h]) ht j
theorem sp_wv_eq {S : Nat → Int32} {k : Nat} {mk up : Int32} {t : Nat} (ht : t ≤ sN S 2) (j : Nat) : sp_wv S k mk up t j = sp_wF S k mk up t j (sp_wp S k mk up t j) (sp_hd S (sp_wv S k mk up) t j) :=
  sp_tab_eq (F := fun t R j => sp_wF S k mk up t j (sp_wp S k mk up t j) (sp_hd S R t j)) (fun t j R R' ht h => by dsimp only; rw [sp_hd_loc ht h]) ht j
theorem sp_wv_0 {S : Nat → Int32} {k : Nat} {mk up : Int32} (h0 : sp_o S k 4 = 0) : ∀ d t j, t + d = sN S 2 → sp_wv S k mk up t j = sp_wp S k mk up t j := by
  have hv : ∀ t j pl hv, sp_wF S k mk up t j pl hv = if sp_ch S k mk up t j = true then sp_P S k t j else hv := by
    intro t j pl hv
    unfold sp_wF
    rw [h0]
    rfl
  intro d
  induction d with
  | zero =>
    intro t j ht
    rw [sp_wv_eq (by omega), sp_wp_eq (by omega), hv, sp_hd_loc (R := sp_wv S k mk up) (R' := sp_wp S k mk up) (by omega) (fun h => by omega)]
  | succ d ih =>
    intro t j ht
    rw [sp_wv_eq (by omega), hv, sp_wp_eq (by omega), sp_hd_loc (R := sp_wv S k mk up) (R' := sp_wp S k mk up) (by omega) (fun h i => ih (t + 1) i (by omega))]
theorem bd_od {S : Nat → Int32} {mk up : Int32} (hW : sp_WF S) : ∀ d t j, t + d = sN S 2 → bd (sp_od S mk up t j) (1 * sN S 1 ^ (sN S 2 - t)) := by
  intro d
  induction d with
  | zero =>
    intro t j ht
    rw [sp_od_eq (by omega)]
    split
    · rw [Nat.one_mul]; exact bd_sc hW t
    · exact bd_hd hW (by omega) (by omega) (fun h => by omega)
  | succ d ih =>
    intro t j ht
    rw [sp_od_eq (by omega)]
    split
    · rw [Nat.one_mul]; exact bd_sc hW t
    · exact bd_hd hW (by omega) (by omega) (fun h => ⟨ih (t + 1) (j + 1) (by omega), ih (t + 1) j (by omega)⟩)
theorem bd_wp {S : Nat → Int32} {k : Nat} {mk up : Int32} (hW : sp_WF S) (hk : k < sN S 29) : ∀ d t j, t + d = sN S 2 → j ≤ t → bd (sp_wp S k mk up t j) (2394 * sN S 1 ^ (sN S 2 - t)) := by
  intro d
  induction d with
  | zero =>
    intro t j ht hj
    rw [sp_wp_eq (by omega)]
    split
    · exact bd_P hW hk (by omega) hj
    · exact bd_hd hW (by omega) (by omega) (fun h => by omega)
  | succ d ih =>
    intro t j ht hj
    rw [sp_wp_eq (by omega)]
    split
    · exact bd_P hW hk (by omega) hj
    · exact bd_hd hW (by omega) (by omega) (fun h => ⟨ih (t + 1) (j + 1) (by omega) (by omega), ih (t + 1) j (by omega) (by omega)⟩)
theorem bd_wv {S : Nat → Int32} {k : Nat} {mk up : Int32} (hW : sp_WF S) (hk : k < sN S 29) : ∀ d t j, t + d = sN S 2 → j ≤ t → bd (sp_wv S k mk up t j) (2394 * sN S 1 ^ (sN S 2 - t)) := by
  have key : ∀ t j pl hv, t ≤ sN S 2 → j ≤ t → bd pl (2394 * sN S 1 ^ (sN S 2 - t)) → bd hv (2394 * sN S 1 ^ (sN S 2 - t)) → bd (sp_wF S k mk up t j pl hv) (2394 * sN S 1 ^ (sN S 2 - t)) := by
    intro t j pl hv ht hj h1 h2
    unfold sp_wF
    split
    · split
      · exact h1
      · exact h2
    · split
      · exact bd_reb hW (wf_o hW hk) (by omega)
      · split
        · exact bd_P hW hk ht hj
        · exact h2
  intro d
  induction d with
  | zero =>
    intro t j ht hj
    rw [sp_wv_eq (by omega)]
    exact key t j _ _ (by omega) hj (bd_wp hW hk 0 t j ht hj) (bd_hd hW (by omega) (by omega) (fun h => by omega))
  | succ d ih =>
    intro t j ht hj
    rw [sp_wv_eq (by omega)]
    exact key t j _ _ (by omega) hj (bd_wp hW hk (d + 1) t j ht hj) (bd_hd hW (by omega) (by omega) (fun h => ⟨ih (t + 1) (j + 1) (by omega) (by omega), ih (t + 1) j (by omega) (by omega)⟩))
/-! the reference -/
theorem m_heldOf0 {g : ob_St} {r t j : Nat} (hr : ob_kd r = 15) (hl : ob_ln r = 169) (hW : sp_WF (g.1 1)) (ht : t ≤ sN (g.1 1) 2) (hj : j ≤ t) :
    f_X12_heldOf0 g 0 r (nI t) (nI j) = some (sp_hd (g.1 1) (fun t j => g.2 r (13 * t + j)) t j) := by
  have h12 := wf_12 hW
  simp (disch := omega) only [f_X12_heldOf0, wf_2 hW, nI_eq, Option.bind_some, pu_add, pu_addr, pu_mul, nI_1, nI_add, pk_mul, ev_ck0, ev_g0, ev_p0, ev_r0_1, ev_r0_2, ev_r0_3, ev_r0_4, ev_r0_5, ev_r0_7, ev_r0_17, ev_r0_18, ev_r0_20, ev_r0_21, ev_r0_22, ev_r0_23, ev_r0_24, ev_r0_25, ev_r0_26, ev_r0_27, ev_r0_28, ev_r0_29, ev_a1, ev_l1, ev_w1, ev_a2, ev_l2, ev_w2, ev_a3, ev_l3, ev_w3, ev_a4, ev_l4, ev_w4, ev_a5, ev_l5, ev_a6, ev_l6, ev_w6, ev_a7, ev_l7, ev_w7, ev_a8, ev_l8, ev_w8, ev_a9, ev_w9, ev_a10, ev_w10, ev_a11, ev_w11, ev_a12, ev_l12, ev_w12, ev_a13, ev_l13, ev_w13, ev_a14, ev_w14, ev_a15, ev_w15, ev_a16, ev_w16, ev_a17, ev_w17, ev_a18, ev_w18]
  unfold sp_hd
  by_cases h : t = sN (g.1 1) 2
  · rw [if_pos h, if_pos h]
  · rw [if_neg h, if_neg h, pu_rL (n := r) hr rfl (by omega), pu_rL (n := r) hr rfl (by omega)]
    rfl
def m_RF (r : Nat → Prop) (g0 g : ob_St) : Prop := g.1 = g0.1 ∧ ∀ m, ¬ r m → g.2 m = g0.2 m
def m_RJ (r : Nat → Prop) (H : ob_St → Nat → Nat → Prop) (n : Nat) (g0 : ob_St) (T j : Nat) (g : ob_St) : Prop :=
  m_RF r g0 g ∧ ∀ t' j', t' ≤ n → j' ≤ t' → (T ≤ t' ∨ t' + 1 = T ∧ j' < j) → H g t' j'
theorem m_RJ_w {r : Nat → Prop} {H : ob_St → Nat → Nat → Prop} {n : Nat} {g0 : ob_St} {t : Nat} {g : ob_St} (h : m_RJ r H n g0 (t + 1) (t + 1) g) : m_RJ r H n g0 t 0 g :=
  ⟨h.1, fun t' j' h1 h2 h3 => h.2 t' j' h1 h2 (by omega)⟩
theorem m_odds {g : ob_St} {mk up x3 : Int32} (hW : sp_WF (g.1 1)) (hP : m_Pw g) : ∃ g', L_X12_reach_51 0 mk up x3 ob_FU g (nI (sN (g.1 1) 2)) = some g' ∧ m_RF (fun m => m = 17) g g' ∧ g'.2 17 0 = sp_od (g.1 1) mk up 0 0 := by
  have h12 := wf_12 hW
  obtain ⟨g', h1, h2⟩ := pu_tj (fun f s x => L_X12_reach_51 0 mk up x3 f s x) (fun t f s x => L_X12_reach_59 0 mk up x3 (nI t) f s x) (sN (g.1 1) 2) h12
    (m_RJ (fun m => m = 17) (fun s t j => s.2 17 (13 * t + j) = sp_od (g.1 1) mk up t j) (sN (g.1 1) 2) g)
    (fun f s => by
      show Lb_X12_reach_51 _ _ _ _ _ _ _ = _
      unfold Lb_X12_reach_51
      exact if_pos (by decide))
    (fun f s t ht hJ => by
      show Lb_X12_reach_51 _ _ _ _ _ _ _ = _
      unfold Lb_X12_reach_51
      rw [if_neg (nI_pos (by omega))]
      rfl)
    (fun t f s ht => by
      show Lb_X12_reach_59 _ _ _ _ _ _ _ _ = _
      unfold Lb_X12_reach_59
      rw [if_pos (nI_lt (by omega) (by omega))])
    (fun t j f s ht hj hJ => by
      obtain ⟨⟨a1, a2⟩, a3⟩ := hJ
      have e1 : s.1 1 = g.1 1 := by rw [a1]
      have hWs : sp_WF (s.1 1) := by rw [e1]; exact hW
      have hPs : m_Pw s := fun i hi => by rw [e1, a2 11 (by omega)]; exact hP i hi
      have hts : t ≤ sN (s.1 1) 2 := by rw [e1]; exact ht
      have hp := m_priceAt (j := j) hWs hts
      have hpw := m_power hWs hts hPs
      have hh := m_heldOf0 (g := s) (r := 17) (j := j) rfl rfl hWs hts hj
      rw [e1] at hp hpw hh
      rw [sp_hd_loc2 (R' := sp_od (g.1 1) mk up) ht hj (fun h i hi => a3 (t + 1) i (by omega) hi (Or.inl (by omega)))] at hh
      have fin : ∀ v, v = sp_od (g.1 1) mk up t j → B_X12_reach_115 (L_X12_reach_59 0 mk up x3 (nI t) f) s 0 mk up x3 (nI t) (nI j) 17 (nI (13 * t + j)) v = L_X12_reach_59 0 mk up x3 (nI t) f (s.1, ob_upL s.2 17 (13 * t + j) (sp_od (g.1 1) mk up t j)) (nI (j + 1)) := by
        intro v hv
        subst hv
        unfold B_X12_reach_115
        rw [ev_w17 (by omega), Option.bind_some, nI_1]
      refine ⟨(s.1, ob_upL s.2 17 (13 * t + j) (sp_od (g.1 1) mk up t j)), ⟨⟨a1, fun m hm => ?_⟩, fun t' j' h1 h2 h3 => ?_⟩, ?_⟩
      · show ob_upL s.2 17 _ _ m = _
        rw [pu_upL_ne hm, a2 m hm]
      · show vp_updL (s.2 17) _ _ _ = _
        by_cases hc : t' = t ∧ j' = j
        · obtain ⟨rfl, rfl⟩ := hc
          rw [pu_updL_eq]
        · rw [pu_updL_ne (by omega)]
          exact a3 t' j' h1 h2 (by omega)
      · show Lb_X12_reach_59 _ _ _ _ _ _ _ _ = _
        simp only [Lb_X12_reach_59, hp, m_isReached, hpw, hh, bI_if, Option.bind_some, pu_add, pu_addr, pu_mul, nI_1, nI_add, pk_mul, ev_ck0, ev_g0, ev_p0, ev_r0_1, ev_r0_2, ev_r0_3, ev_r0_4, ev_r0_5, ev_r0_7, ev_r0_17, ev_r0_18, ev_r0_20, ev_r0_21, ev_r0_22, ev_r0_23, ev_r0_24, ev_r0_25, ev_r0_26, ev_r0_27, ev_r0_28, ev_r0_29, ev_a1, ev_l1, ev_w1, ev_a2, ev_l2, ev_w2, ev_a3, ev_l3, ev_w3, ev_a4, ev_l4, ev_w4, ev_a5, ev_l5, ev_a6, ev_l6, ev_w6, ev_a7, ev_l7, ev_w7, ev_a8, ev_l8, ev_w8, ev_a9, ev_w9, ev_a10, ev_w10, ev_a11, ev_w11, ev_a12, ev_l12, ev_w12, ev_a13, ev_l13, ev_w13, ev_a14, ev_w14, ev_a15, ev_w15, ev_a16, ev_w16, ev_a17, ev_w17, ev_a18, ev_w18]
        rw [if_neg (nI_nlt (by omega) (by omega))]
        by_cases c : sp_rc (g.1 1) mk up t j = true
        · rw [if_pos c]
          exact fin _ (by rw [sp_od_eq ht, if_pos c])
        · rw [if_neg c]
          exact fin _ (by rw [sp_od_eq ht, if_neg c]))
    (fun t s ht h => m_RJ_w h) g ⟨⟨rfl, fun _ _ => rfl⟩, fun t' j' h1 h2 h3 => by omega⟩
  exact ⟨g', h1, h2.1, h2.2 0 0 (by omega) (by omega) (Or.inl (by omega))⟩
theorem m_chosen {g : ob_St} {r k t j : Nat} {mk up : Int32} (hr : ob_kd r = 15) (hl : ob_ln r = 169) (hW : sp_WF (g.1 1)) (hk : k < sN (g.1 1) 29) (ht : t ≤ sN (g.1 1) 2) (hj : j ≤ t)
    (hp : f_X12_paysAt g 0 (nI k) (nI t) (nI j) = some (sp_P (g.1 1) k t j)) :
    f_X12_chosen g 0 r (nI k) (nI t) (nI j) (bI (sp_rc (g.1 1) mk up t j)) = some (if sp_ch (g.1 1) k mk up t j = true then sp_P (g.1 1) k t j else sp_hd (g.1 1) (fun t j => g.2 r (13 * t + j)) t j) := by
  have h12 := wf_12 hW
  have h4 := wf_4 hW
  have hh := m_heldOf0 hr hl hW ht hj
  have hB : B_X12_chosen_44 g 0 r (nI t) (nI j) = some (sp_hd (g.1 1) (fun t j => g.2 r (13 * t + j)) t j) := by
    simp (disch := omega) only [B_X12_chosen_44, wf_2 hW, nI_eq, hh, Option.bind_some, pu_add, pu_addr, pu_mul, nI_1, nI_add, pk_mul, ev_ck0, ev_g0, ev_p0, ev_r0_1, ev_r0_2, ev_r0_3, ev_r0_4, ev_r0_5, ev_r0_7, ev_r0_17, ev_r0_18, ev_r0_20, ev_r0_21, ev_r0_22, ev_r0_23, ev_r0_24, ev_r0_25, ev_r0_26, ev_r0_27, ev_r0_28, ev_r0_29, ev_a1, ev_l1, ev_w1, ev_a2, ev_l2, ev_w2, ev_a3, ev_l3, ev_w3, ev_a4, ev_l4, ev_w4, ev_a5, ev_l5, ev_a6, ev_l6, ev_w6, ev_a7, ev_l7, ev_w7, ev_a8, ev_l8, ev_w8, ev_a9, ev_w9, ev_a10, ev_w10, ev_a11, ev_w11, ev_a12, ev_l12, ev_w12, ev_a13, ev_l13, ev_w13, ev_a14, ev_w14, ev_a15, ev_w15, ev_a16, ev_w16, ev_a17, ev_w17, ev_a18, ev_w18]
    by_cases h : t = sN (g.1 1) 2
    · rw [if_pos h]; unfold sp_hd; rw [if_pos h]
    · rw [if_neg h]
  simp (disch := omega) only [f_X12_chosen, hp, hB, m_may (show k < 4 by omega), m_may1, bI_if, wf_2 hW, nI_eq, Option.bind_some, pu_add, pu_addr, pu_mul, nI_1, nI_add, pk_mul, ev_ck0, ev_g0, ev_p0, ev_r0_1, ev_r0_2, ev_r0_3, ev_r0_4, ev_r0_5, ev_r0_7, ev_r0_17, ev_r0_18, ev_r0_20, ev_r0_21, ev_r0_22, ev_r0_23, ev_r0_24, ev_r0_25, ev_r0_26, ev_r0_27, ev_r0_28, ev_r0_29, ev_a1, ev_l1, ev_w1, ev_a2, ev_l2, ev_w2, ev_a3, ev_l3, ev_w3, ev_a4, ev_l4, ev_w4, ev_a5, ev_l5, ev_a6, ev_l6, ev_w6, ev_a7, ev_l7, ev_w7, ev_a8, ev_l8, ev_w8, ev_a9, ev_w9, ev_a10, ev_w10, ev_a11, ev_w11, ev_a12, ev_l12, ev_w12, ev_a13, ev_l13, ev_w13, ev_a14, ev_w14, ev_a15, ev_w15, ev_a16, ev_w16, ev_a17, ev_w17, ev_a18, ev_w18]
  unfold sp_ch
  by_cases c1 : sp_P (g.1 1) k t j ≤ 0
  · rw [if_pos c1, if_pos c1]; rfl
  rw [if_neg c1, if_neg c1]
  by_cases c2 : sp_may (g.1 1) (sp_o (g.1 1) k 3) t = true
  · rw [if_pos c2, if_pos c2]
    by_cases c3 : sp_rc (g.1 1) mk up t j = true
    · rw [if_pos c3, if_pos c3]; rfl
    · rw [if_neg c3, if_neg c3]
      by_cases c4 : t = sN (g.1 1) 2
      · rw [if_pos c4, decide_eq_true c4]; rfl
      · rw [if_neg c4, decide_eq_false c4]; rfl
  · rw [if_neg c2, if_neg c2]; rfl
theorem m_worthAt {g : ob_St} {k : Nat} {mk up : Int32} (hW : sp_WF (g.1 1)) (hL : m_Laid g) (hk : k < sN (g.1 1) 29) : ∃ g', f_X12_worthAt g 0 (nI k) mk up = some (sp_wv (g.1 1) k mk up 0 0, g') ∧ m_RF (fun m => m = 17 ∨ m = 18) g g' := by
  have h12 := wf_12 hW
  have h4 := wf_4 hW
  have ho := wf_o hW hk
  obtain ⟨g', h1, h2⟩ := pu_tj (fun f s x => L_X12_worthAt_16 0 (nI k) mk up (sp_o (g.1 1) k 4) f s x) (fun t f s x => L_X12_worthAt_24 0 (nI k) mk up (sp_o (g.1 1) k 4) (nI t) f s x) (sN (g.1 1) 2) h12
    (m_RJ (fun m => m = 17 ∨ m = 18) (fun s t j => s.2 17 (13 * t + j) = sp_wv (g.1 1) k mk up t j ∧ s.2 18 (13 * t + j) = sp_wp (g.1 1) k mk up t j) (sN (g.1 1) 2) g)
    (fun f s => by
      show Lb_X12_worthAt_16 _ _ _ _ _ _ _ _ = _
      unfold Lb_X12_worthAt_16
      exact if_pos (by decide))
    (fun f s t ht hJ => by
      show Lb_X12_worthAt_16 _ _ _ _ _ _ _ _ = _
      unfold Lb_X12_worthAt_16
      rw [if_neg (nI_pos (by omega))]
      rfl)
    (fun t f s ht => by
      show Lb_X12_worthAt_24 _ _ _ _ _ _ _ _ _ = _
      unfold Lb_X12_worthAt_24
      rw [if_pos (nI_lt (by omega) (by omega))])
    (fun t j f s ht hj hJ => by
      obtain ⟨⟨a1, a2⟩, a3⟩ := hJ
      have pay : ∀ q : ob_St, q.1 = g.1 → (∀ m, ¬ (m = 17 ∨ m = 18) → q.2 m = g.2 m) → f_X12_paysAt q 0 (nI k) (nI t) (nI j) = some (sp_P (g.1 1) k t j) := by
        intro q e1 e2
        have e : q.1 1 = g.1 1 := by rw [e1]
        have := m_paysAt (g := q) (k := k) (t := t) (j := j) (by rw [e]; exact hW) (by rw [e]; exact hk) (by rw [e]; exact ht) hj (fun i hi => by rw [e, e2 11 (by omega)]; exact hL.1 i hi)
        rw [this, e]
        refine congrArg some (sp_pay_V ho (fun q' hq => ?_))
        rw [sp_Vs_lt hq]
        unfold m_V
        rw [e2 9 (by omega)]
        exact (hL.2 q' (by omega) t j ht hj).2.1
      have e1 : s.1 1 = g.1 1 := by rw [a1]
      have hWs : sp_WF (s.1 1) := by rw [e1]; exact hW
      have hts : t ≤ sN (s.1 1) 2 := by rw [e1]; exact ht
      have hks : k < sN (s.1 1) 29 := by rw [e1]; exact hk
      have hp := m_priceAt (j := j) hWs hts
      have htc := m_isTouched (g := s) (k := k) (j := j) hWs (by omega) hts
      have hch := m_chosen (g := s) (r := 18) (k := k) (t := t) (j := j) (mk := mk) (up := up) rfl rfl hWs hks hts hj (by rw [e1]; exact pay s a1 a2)
      rw [e1] at hp htc hch
      rw [sp_hd_loc2 (R' := sp_wp (g.1 1) k mk up) ht hj (fun h i hi => (a3 (t + 1) i (by omega) hi (Or.inl (by omega))).2), ← sp_wp_eq ht] at hch
      generalize hg9 : ((s.1, ob_upL s.2 18 (13 * t + j) (sp_wp (g.1 1) k mk up t j)) : ob_St) = g9
      have f9 : g9.1 = g.1 := by rw [← hg9]; exact a1
      have f9b : g9.2 = ob_upL s.2 18 (13 * t + j) (sp_wp (g.1 1) k mk up t j) := by rw [← hg9]
      have f9c : ∀ m, ¬ (m = 17 ∨ m = 18) → g9.2 m = g.2 m := by
        intro m hm
        rw [f9b, pu_upL_ne (by omega), a2 m hm]
      have e91 : g9.1 1 = g.1 1 := by rw [f9]
      have hW9 : sp_WF (g9.1 1) := by rw [e91]; exact hW
      have ht9 : t ≤ sN (g9.1 1) 2 := by rw [e91]; exact ht
      have hk9 : k < sN (g9.1 1) 29 := by rw [e91]; exact hk
      have hch9 := m_chosen (g := g9) (r := 17) (k := k) (t := t) (j := j) (mk := mk) (up := up) rfl rfl hW9 hk9 ht9 hj (by rw [e91]; exact pay g9 f9 f9c)
      have hh9 := m_heldOf0 (g := g9) (r := 17) (j := j) rfl rfl hW9 ht9 hj
      have hpw9 := m_power hW9 ht9 (fun i hi => by rw [e91, f9c 11 (by omega)]; exact hL.1 i hi)
      have hg7 := m_get (g := g9) (k := k) (w := 7) (by omega)
      have e917 : ∀ t' i, t' ≤ sN (g.1 1) 2 → i ≤ t' → t + 1 ≤ t' → g9.2 17 (13 * t' + i) = sp_wv (g.1 1) k mk up t' i := by
        intro t' i h1 h2 h3
        rw [f9b, pu_upL_ne (by omega)]
        exact (a3 t' i h1 h2 (Or.inl h3)).1
      rw [e91] at hch9 hh9 hpw9 hg7
      rw [sp_hd_loc2 (R' := sp_wv (g.1 1) k mk up) ht hj (fun h i hi => e917 (t + 1) i (by omega) hi (by omega))] at hch9 hh9
      have e918 : g9.2 18 (13 * t + j) = sp_wp (g.1 1) k mk up t j := by rw [f9b, pu_upL_eq, pu_updL_eq]
      have hB : ∀ b : Bool, B_X12_worthAt_68 (L_X12_worthAt_24 0 (nI k) mk up (sp_o (g.1 1) k 4) (nI t) f) s 0 (nI k) mk up (sp_o (g.1 1) k 4) (nI t) (nI j) (bI (sp_rc (g.1 1) mk up t j)) (bI b) =
          L_X12_worthAt_24 0 (nI k) mk up (sp_o (g.1 1) k 4) (nI t) f (g9.1, ob_upL g9.2 17 (13 * t + j) (if sp_o (g.1 1) k 4 = 2 then (if b = true then sp_wp (g.1 1) k mk up t j else sp_hd (g.1 1) (sp_wv (g.1 1) k mk up) t j) else if b = true then (sp_o (g.1 1) k 7).toInt64 * sp_sc (g.1 1) t else (if sp_ch (g.1 1) k mk up t j = true then sp_P (g.1 1) k t j else sp_hd (g.1 1) (sp_wv (g.1 1) k mk up) t j))) (nI (j + 1)) := by
        intro b
        have hg7' : f_X12_get g9 0 (nI k) 7 = some (sp_o (g.1 1) k 7) := hg7
        simp (disch := omega) only [B_X12_worthAt_68, B_X12_worthAt_141, B_X12_worthAt_197, hch, hg9, hch9, hh9, hpw9, hg7', e918, bI_if, Option.bind_some, pu_add, pu_addr, pu_mul, nI_1, nI_add, pk_mul, ev_ck0, ev_g0, ev_p0, ev_r0_1, ev_r0_2, ev_r0_3, ev_r0_4, ev_r0_5, ev_r0_7, ev_r0_17, ev_r0_18, ev_r0_20, ev_r0_21, ev_r0_22, ev_r0_23, ev_r0_24, ev_r0_25, ev_r0_26, ev_r0_27, ev_r0_28, ev_r0_29, ev_a1, ev_l1, ev_w1, ev_a2, ev_l2, ev_w2, ev_a3, ev_l3, ev_w3, ev_a4, ev_l4, ev_w4, ev_a5, ev_l5, ev_a6, ev_l6, ev_w6, ev_a7, ev_l7, ev_w7, ev_a8, ev_l8, ev_w8, ev_a9, ev_w9, ev_a10, ev_w10, ev_a11, ev_w11, ev_a12, ev_l12, ev_w12, ev_a13, ev_l13, ev_w13, ev_a14, ev_w14, ev_a15, ev_w15, ev_a16, ev_w16, ev_a17, ev_w17, ev_a18, ev_w18]
        by_cases c2 : sp_o (g.1 1) k 4 = 2
        · rw [if_pos c2, if_pos c2]
          cases b <;> rfl
        · rw [if_neg c2, if_neg c2]
          cases b <;> rfl
      refine ⟨(g9.1, ob_upL g9.2 17 (13 * t + j) (sp_wv (g.1 1) k mk up t j)), ⟨⟨f9, fun m hm => ?_⟩, fun t' j' h1 h2 h3 => ?_⟩, ?_⟩
      · show ob_upL g9.2 17 _ _ m = _
        rw [pu_upL_ne (by omega), f9c m hm]
      · have z17 : ∀ y, (ob_upL g9.2 17 (13 * t + j) (sp_wv (g.1 1) k mk up t j)) 17 y = vp_updL (s.2 17) (13 * t + j) (sp_wv (g.1 1) k mk up t j) y := by
          intro y; rw [pu_upL_eq, f9b, pu_upL_ne (by omega)]
        have z18 : ∀ y, (ob_upL g9.2 17 (13 * t + j) (sp_wv (g.1 1) k mk up t j)) 18 y = vp_updL (s.2 18) (13 * t + j) (sp_wp (g.1 1) k mk up t j) y := by
          intro y; rw [pu_upL_ne (by omega), f9b, pu_upL_eq]
        simp only [z17, z18]
        by_cases hc : t' = t ∧ j' = j
        · obtain ⟨rfl, rfl⟩ := hc
          rw [pu_updL_eq, pu_updL_eq]
          exact ⟨rfl, rfl⟩
        · rw [pu_updL_ne (by omega), pu_updL_ne (by omega)]
          exact a3 t' j' h1 h2 (by omega)
      · show Lb_X12_worthAt_24 _ _ _ _ _ _ _ _ _ = _
        unfold Lb_X12_worthAt_24
        rw [if_neg (nI_nlt (by omega) (by omega)), hp, ev_ck0, Option.bind_some, m_isReached, Option.bind_some, htc, ev_ck0, Option.bind_some, m_may1]
        have t0 := hB false
        have t1 := hB true
        rw [sp_wv_eq ht]
        unfold sp_wF B_X12_worthAt_67
        by_cases c1 : sp_o (g.1 1) k 4 ≤ 0
        · rw [if_pos c1]
          refine t0.trans ?_
          have n2 : ¬ sp_o (g.1 1) k 4 = 2 := by intro h; rw [h] at c1; exact absurd c1 (by decide)
          have n3 : ¬ (0 < sp_o (g.1 1) k 4 ∧ sp_tch (g.1 1) k t j = true) := fun h => Int32.not_lt.mpr c1 h.1
          rw [if_neg n2, if_neg n2, if_neg n3]
          rfl
        · rw [if_neg c1]
          have c1' : 0 < sp_o (g.1 1) k 4 := Int32.not_le.mp c1
          by_cases c2 : sp_tch (g.1 1) k t j = true
          · rw [if_pos c2]
            refine t1.trans ?_
            simp only [c2, c1', and_self, if_true]
          · rw [if_neg c2]
            refine t0.trans ?_
            simp only [c2, and_false, if_false, Bool.false_eq_true])
    (fun t s ht h => m_RJ_w h) g ⟨⟨rfl, fun _ _ => rfl⟩, fun t' j' h1 h2 h3 => by omega⟩
  have e0 : g'.2 17 0 = sp_wv (g.1 1) k mk up 0 0 := (h2.2 0 0 (by omega) (by omega) (Or.inl (by omega))).1
  refine ⟨g', ?_, h2.1⟩
  have hg4 : f_X12_get g 0 (nI k) 4 = some (sp_o (g.1 1) k 4) := m_get (w := 4) (by omega)
  have hr : ob_rL g' 17 0 = some (g'.2 17 0) := pu_rL (n := 17) (i := 0) rfl rfl (by decide)
  unfold f_X12_worthAt
  rw [hg4, ev_ck0, Option.bind_some, ev_r0_1, Option.bind_some, ev_l1 (by omega), Option.bind_some, wf_2 hW]
  refine (pu_b h1).trans ?_
  rw [ev_r0_28, Option.bind_some, hr, Option.bind_some, e0]
