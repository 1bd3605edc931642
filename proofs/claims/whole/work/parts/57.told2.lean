/-! own, move, fall, cash, restrike -/
def PR (r : Option (Int32 × ob_St)) (m : ob_St → Option (Int32 × ob_St)) : Prop := ∃ a g1 g2, r = some (a, g1) ∧ m g1 = some (a, g2) ∧ Inv g2
theorem wo_own {S S' : Nat → Int32} {k : Nat} (h : ∀ w, w < 10 → w ≠ 9 → sp_o S' k w = sp_o S k w) (h9 : -9 ≤ (sp_o S' k 9).toInt ∧ (sp_o S' k 9).toInt ≤ 9) (ho : sp_WO S k) : sp_WO S' k := by
  have e : ∀ w, w < 10 → w ≠ 9 → S' (30 + 10 * k + w) = S (30 + 10 * k + w) := h
  have eN : ∀ w, w < 10 → w ≠ 9 → sN S' (30 + 10 * k + w) = sN S (30 + 10 * k + w) := fun w a b => by unfold sN; rw [e w a b]
  unfold sp_WO at ho ⊢
  rw [h 0 (by omega) (by omega), h 1 (by omega) (by omega), h 2 (by omega) (by omega), h 3 (by omega) (by omega), h 4 (by omega) (by omega), h 5 (by omega) (by omega), h 6 (by omega) (by omega), h 7 (by omega) (by omega), h 8 (by omega) (by omega),
    eN 0 (by omega) (by omega), eN 1 (by omega) (by omega), eN 2 (by omega) (by omega), eN 3 (by omega) (by omega), eN 4 (by omega) (by omega), eN 5 (by omega) (by omega), eN 6 (by omega) (by omega), eN 7 (by omega) (by omega), eN 8 (by omega) (by omega)]
  obtain ⟨a0, a1, a2, a3, a4, a5, a6, a7, a8⟩ := ho
  exact ⟨a0, a1, a2, a3, a4, a5, a6, a7, h9⟩
theorem wf_own {S : Nat → Int32} {k : Nat} {v : Int32} (hW : sp_WF S) (h9 : -9 ≤ v.toInt ∧ v.toInt ≤ 9) : sp_WF (upd S (30 + 10 * k + 9) v) := by
  refine wf_opt hW (fun i hi => pu_upd_ne (by omega)) (fun q hq => ?_)
  by_cases e : q = k
  · subst e
    exact wo_own (fun w a b => pu_upd_ne (by omega)) (by rw [show sp_o (upd S (30 + 10 * q + 9) v) q 9 = v from pu_upd_eq]; exact h9) (wf_o hW hq)
  · exact wo_congr (fun w a => pu_upd_ne (by omega)) (wf_o hW hq)
theorem wf_cash {S : Nat → Int32} {t n : Nat} (hW : sp_WF S) (ht : t ≤ 12) (hn : n ≤ 99) : sp_WF (upd S (16 + t) (nI n)) := by
  have h12 := wf_12 hW
  have z : ∀ i, i ≠ 16 + t → upd S (16 + t) (nI n) i = S i := fun i hi => pu_upd_ne hi
  have zN : ∀ i, i ≠ 16 + t → sN (upd S (16 + t) (nI n)) i = sN S i := fun i hi => by unfold sN; rw [z i hi]
  obtain ⟨a0, a1, a2, a29, a3, af, ac, al, ao⟩ := hW
  refine ⟨by rw [z 0 (by omega), zN 0 (by omega)]; exact a0, by rw [z 1 (by omega), zN 1 (by omega)]; exact a1, by rw [z 2 (by omega), zN 2 (by omega)]; exact a2, by rw [z 29 (by omega), zN 29 (by omega)]; exact a29, by rw [z 3 (by omega)]; exact a3, fun q h1 h2 => ?_, fun q h1 => ?_, ?_, fun q hq => ?_⟩
  · rw [zN 2 (by omega)] at h2
    rw [z (3 + q) (by omega), zN (3 + q) (by omega), zN 1 (by omega)]
    exact af q h1 h2
  · by_cases e : q = t
    · subst e
      have e1 : upd S (16 + q) (nI n) (16 + q) = nI n := pu_upd_eq
      rw [sN_nI e1 (by omega), e1]
      exact ⟨rfl, hn⟩
    · rw [z (16 + q) (by omega), zN (16 + q) (by omega)]
      exact ac q h1
  · rw [zN 2 (by omega), zN 0 (by omega), sp_fN_c (S := S) _ (fun i _ hi => z (3 + i) (by omega))]
    exact al
  · rw [zN 29 (by omega)] at hq
    exact wo_congr (fun w hw => z _ (by omega)) (ao q hq)
theorem wf_move {S : Nat → Int32} {n : Nat} (hW : sp_WF S) (hn : n ≤ 999) (hl : sp_fN S (sN S 2) ≤ n) : sp_WF (upd S 0 (nI n)) := by
  have h12 := wf_12 hW
  have z : ∀ i, i ≠ 0 → upd S 0 (nI n) i = S i := fun i hi => pu_upd_ne hi
  have zN : ∀ i, i ≠ 0 → sN (upd S 0 (nI n)) i = sN S i := fun i hi => by unfold sN; rw [z i hi]
  have e1 : upd S 0 (nI n) 0 = nI n := pu_upd_eq
  have e2 : sN (upd S 0 (nI n)) 0 = n := sN_nI e1 (by omega)
  obtain ⟨a0, a1, a2, a29, a3, af, ac, al, ao⟩ := hW
  refine ⟨by rw [e1, e2]; exact ⟨rfl, hn⟩, by rw [z 1 (by omega), zN 1 (by omega)]; exact a1, by rw [z 2 (by omega), zN 2 (by omega)]; exact a2, by rw [z 29 (by omega), zN 29 (by omega)]; exact a29, by rw [z 3 (by omega)]; exact a3, fun q h1 h2 => ?_, fun q h1 => ?_, ?_, fun q hq => ?_⟩
  · rw [zN 2 (by omega)] at h2
    rw [z (3 + q) (by omega), zN (3 + q) (by omega), zN 1 (by omega)]
    exact af q h1 h2
  · rw [z (16 + q) (by omega), zN (16 + q) (by omega)]
    exact ac q h1
  · rw [zN 2 (by omega), e2, sp_fN_c (S := S) _ (fun i _ hi => z (3 + i) (by omega))]
    exact hl
  · rw [zN 29 (by omega)] at hq
    exact wo_congr (fun w hw => z _ (by omega)) (ao q hq)
theorem fN_upd {S : Nat → Int32} {t n : Nat} (hn : n < 2 ^ 31) (h1 : 1 ≤ t) : ∀ m, sp_fN (upd S (3 + t) (nI n)) m + (if t ≤ m then sN S (3 + t) else 0) = sp_fN S m + (if t ≤ m then n else 0) := by
  intro m
  induction m with
  | zero => rw [if_neg (by omega), if_neg (by omega)]; rfl
  | succ m ih =>
    show sp_fN (upd S (3 + t) (nI n)) m + sN (upd S (3 + t) (nI n)) (3 + (m + 1)) + _ = sp_fN S m + sN S (3 + (m + 1)) + _
    by_cases e : t = m + 1
    · subst e
      have e1 : upd S (3 + (m + 1)) (nI n) (3 + (m + 1)) = nI n := pu_upd_eq
      rw [sN_nI e1 hn, if_pos (by omega), if_pos (by omega)]
      rw [if_neg (by omega), if_neg (by omega)] at ih
      omega
    · have e1 : sN (upd S (3 + t) (nI n)) (3 + (m + 1)) = sN S (3 + (m + 1)) := by unfold sN; rw [pu_upd_ne (by omega)]
      rw [e1]
      by_cases c : t ≤ m
      · rw [if_pos c, if_pos c] at ih
        rw [if_pos (by omega), if_pos (by omega)]
        omega
      · rw [if_neg c, if_neg c] at ih
        rw [if_neg (by omega), if_neg (by omega)]
        omega
theorem wf_fall {S : Nat → Int32} {t n : Nat} (hW : sp_WF S) (h1 : 1 ≤ t) (ht : t ≤ sN S 2) (hn1 : 1 ≤ n) (hn : n < sN S 1) (hl : sp_fN S (sN S 2) + n ≤ sN S 0 + sN S (3 + t)) : sp_WF (upd S (3 + t) (nI n)) := by
  have h12 := wf_12 hW
  have hw9 := hW.2.1.2.2
  have z : ∀ i, i ≠ 3 + t → upd S (3 + t) (nI n) i = S i := fun i hi => pu_upd_ne hi
  have zN : ∀ i, i ≠ 3 + t → sN (upd S (3 + t) (nI n)) i = sN S i := fun i hi => by unfold sN; rw [z i hi]
  have fu := fN_upd (S := S) (t := t) (n := n) (by omega) h1 (sN S 2)
  rw [if_pos ht, if_pos ht] at fu
  obtain ⟨a0, a1, a2, a29, a3, af, ac, al, ao⟩ := hW
  refine ⟨by rw [z 0 (by omega), zN 0 (by omega)]; exact a0, by rw [z 1 (by omega), zN 1 (by omega)]; exact a1, by rw [z 2 (by omega), zN 2 (by omega)]; exact a2, by rw [z 29 (by omega), zN 29 (by omega)]; exact a29, by rw [z 3 (by omega)]; exact a3, fun q h1 h2 => ?_, fun q h1 => ?_, ?_, fun q hq => ?_⟩
  · rw [zN 2 (by omega)] at h2
    rw [zN 1 (by omega)]
    by_cases e : q = t
    · subst e
      have e1 : upd S (3 + q) (nI n) (3 + q) = nI n := pu_upd_eq
      rw [sN_nI e1 (by omega), e1]
      exact ⟨rfl, hn1, hn⟩
    · rw [z (3 + q) (by omega), zN (3 + q) (by omega)]
      exact af q h1 h2
  · rw [z (16 + q) (by omega), zN (16 + q) (by omega)]
    exact ac q h1
  · rw [zN 2 (by omega), zN 0 (by omega)]
    omega
  · rw [zN 29 (by omega)] at hq
    exact wo_congr (fun w hw => z _ (by omega)) (ao q hq)
/-! the lowest price -/
theorem m_lowest {g : ob_St} {n0 N : Nat} (hk : ob_kd n0 = 14) (hl : ob_ln n0 = 70) (h2 : g.1 n0 2 = nI N) (hN : N ≤ 12) : f_X12_lowest g n0 = some (g.1 n0 0 - sp_fs (g.1 n0) N) := by
  have r2 : ob_rI g 14 n0 2 = some (g.1 n0 2) := pu_rI (n := n0) (i := 2) hk rfl (by rw [hl]; omega)
  have r0 : ob_rI g 14 n0 0 = some (g.1 n0 0) := pu_rI (n := n0) (i := 0) hk rfl (by rw [hl]; omega)
  obtain ⟨r, h1, h3⟩ := pu_up (fun f s i => L_X12_lowest_6 g n0 f s (nI i)) (fun i s => 1 ≤ i ∧ s = g.1 n0 0 - sp_fs (g.1 n0) (i - 1)) (N + 1) (fun r => r = g.1 n0 0 - sp_fs (g.1 n0) N)
    (fun f s hI => ⟨s, by
      show Lb_X12_lowest_6 _ _ _ _ _ = _
      unfold Lb_X12_lowest_6
      rw [r2, Option.bind_some, h2, if_pos (nI_lt (by omega) (by omega))], hI.2⟩)
    (fun f i s hi hI => ⟨s - g.1 n0 (3 + i), ⟨by omega, by
      obtain ⟨m, rfl⟩ : ∃ m, i = m + 1 := ⟨i - 1, by omega⟩
      rw [hI.2]
      show _ = g.1 n0 0 - (sp_fs (g.1 n0) m + g.1 n0 (3 + (m + 1)))
      simp only [Nat.add_sub_cancel]
      grind⟩, by
      show Lb_X12_lowest_6 _ _ _ _ _ = _
      unfold Lb_X12_lowest_6
      rw [r2, Option.bind_some, h2, if_neg (nI_nlt (by omega) (by omega)), pu_add]
      show (ob_rI g 14 n0 (nI (3 + i))).bind _ = _
      rw [pu_rI (n := n0) hk rfl (by omega), Option.bind_some, nI_1]⟩)
    N 1 ob_FU (g.1 n0 0) (by omega) (by unfold ob_FU; omega) ⟨by omega, by show _ = g.1 n0 0 - 0; grind⟩
  subst h3
  unfold f_X12_lowest
  rw [r0, Option.bind_some]
  exact pu_b h1
def c_Mk (b : Nat) : Prop := b = 24 ∨ b = 32 ∨ b = 40 ∨ b = 48
theorem mk_r {b : Nat} (h : c_Mk b) : ob_gR 5 b 0 = some (b + 1) ∧ ob_gR 5 b 1 = some (b + 2) ∧ ob_gR 5 b 2 = some (b + 3) := by rcases h with rfl | rfl | rfl | rfl <;> exact ⟨rfl, rfl, rfl⟩
theorem mk_k {b : Nat} (h : c_Mk b) : ob_kd b = 5 ∧ (ob_kd (b + 1) = 14 ∧ ob_ln (b + 1) = 13) ∧ (ob_kd (b + 2) = 14 ∧ ob_ln (b + 2) = 13) := by rcases h with rfl | rfl | rfl | rfl <;> exact ⟨rfl, ⟨rfl, rfl⟩, rfl, rfl⟩
theorem mk_c {b k : Nat} (h : c_Mk b) (hk : k < 4) : ob_rR 17 (b + 3) (nI k) = some (b + 4 + k) ∧ ob_kd (b + 4 + k) = 1 := by
  rcases h with rfl | rfl | rfl | rfl <;> rcases (by omega : k = 0 ∨ k = 1 ∨ k = 2 ∨ k = 3) with rfl | rfl | rfl | rfl <;> exact ⟨rfl, rfl⟩
theorem c_lowest {S : Nat → Int32} {g : ob_St} {b N : Nat} (hb : c_Mk b) (h3 : g.1 b 3 = S 0) (h5 : g.1 b 5 = nI N) (hN : N ≤ 12) (hf : ∀ t, t ≤ 12 → g.1 (b + 1) t = S (3 + t)) : f_X5_lowest g b = some (S 0 - sp_fs S N) := by
  obtain ⟨k0, ⟨k1, l1⟩, k2⟩ := mk_k hb
  obtain ⟨r, h1, h6⟩ := pu_up (fun f s i => L_X5_lowest_7 g b f s (nI i)) (fun i s => 1 ≤ i ∧ s = S 0 - sp_fs S (i - 1)) (N + 1) (fun r => r = S 0 - sp_fs S N)
    (fun f s hI => ⟨s, by
      show Lb_X5_lowest_7 _ _ _ _ _ = _
      unfold Lb_X5_lowest_7
      rw [pu_gI k0, Option.bind_some, h5, if_pos (nI_lt (by omega) (by omega))], hI.2⟩)
    (fun f i s hi hI => ⟨s - S (3 + i), ⟨by omega, by
      obtain ⟨m, rfl⟩ : ∃ m, i = m + 1 := ⟨i - 1, by omega⟩
      rw [hI.2]
      show _ = S 0 - (sp_fs S m + S (3 + (m + 1)))
      simp only [Nat.add_sub_cancel]
      grind⟩, by
      show Lb_X5_lowest_7 _ _ _ _ _ = _
      unfold Lb_X5_lowest_7
      rw [pu_gI k0, Option.bind_some, h5, if_neg (nI_nlt (by omega) (by omega)), (mk_r hb).1, Option.bind_some, pu_rI (n := b + 1) k1 rfl (by omega), Option.bind_some, hf i (by omega), nI_1]⟩)
    N 1 ob_FU (S 0) (by omega) (by unfold ob_FU; omega) ⟨by omega, by show _ = S 0 - 0; grind⟩
  subst h6
  unfold f_X5_lowest
  rw [pu_gI k0, Option.bind_some, h3]
  exact pu_b h1
theorem low_n {S : Nat → Int32} (hW : sp_WF S) : S 0 - sp_fs S (sN S 2) = nI (sN S 0 - sp_fN S (sN S 2)) := by
  rw [wf_0 hW, sp_fs_n hW (Nat.le_refl _), pk_sub hW.2.2.2.2.2.2.2.1]
/-! changed and becomes -/
theorem PR_chg {g : ob_St} {a w : Nat} {v : Int32} (hI : Inv g) (h : ac_ok (g.1 1) a w) (hW' : sp_WF (upd (g.1 1) (ac_c a w) v)) :
    ∃ b g1 g2, f_X11_changed g 20 (nI a) (nI w) v = some (b, g1) ∧ (∀ n, n < 19 → g1.1 n = g.1 n ∧ g1.2 n = g.2 n) ∧ f_X12_becomes (m_Th g1 0) 0 (nI (ac_c a w)) v = some (b, g2) ∧ Inv g2 := by
  have hW := hI.2.1.1
  have hlt := ac_lt hW h
  have cu := c_current hW hI.2.1.2.1 h
  by_cases e : g.1 1 (ac_c a w) = v
  · refine ⟨1, g, m_Th g 0, ?_, fun _ _ => ⟨rfl, rfl⟩, ?_, Inv_th hI⟩
    · unfold f_X11_changed
      rw [ev_r20_3, Option.bind_some, cu, ev_ck24, Option.bind_some, if_pos e]
    · unfold f_X12_becomes
      rw [ev_r0_1, Option.bind_some, ev_a1 hlt.1, Option.bind_some]
      exact if_pos e
  · obtain ⟨g1, c1, c2, g2, c3, c4, g3, c5, c6⟩ := chg hI h hW'
    refine ⟨0, g1, g3, ?_, c2, ?_, c6⟩
    · unfold f_X11_changed
      rw [ev_r20_3, Option.bind_some, cu, ev_ck24, Option.bind_some, if_neg e, c1, ev_ck20, Option.bind_some]
    · have e1 : (m_Th g1 0).1 1 (ac_c a w) = g.1 1 (ac_c a w) := by
        show g1.1 1 (ac_c a w) = _
        rw [(c2 1 (by omega)).1]
      unfold f_X12_becomes
      rw [ev_r0_1, Option.bind_some, ev_a1 hlt.1, Option.bind_some, e1, if_neg e, c3, ev_ck0, Option.bind_some, Option.bind_some, c5, Option.bind_some]
theorem PR_no {g : ob_St} {a : Int32} {r : Option (Int32 × ob_St)} {m : ob_St → Option (Int32 × ob_St)} (hI : Inv g) (h1 : r = some (a, g)) (h2 : m g = some (a, m_Th g 0)) : PR r m := ⟨a, g, m_Th g 0, h1, h2, Inv_th hI⟩
theorem PR_own {g : ob_St} {x1 x2 : Int32} (hI : Inv g) : PR (f_X11_own g 20 x1 x2) (fun g1 => f_X12_own g1 0 x1 x2) := by
  have hW := hI.2.1.1
  have hM := hI.2.1.2.1
  have h4 := wf_4 hW
  have io : ∀ g1 : ob_St, g1.1 1 = g.1 1 → f_X12_isOption (m_Th g1 0) 0 x1 = some (bI (qO (g.1 1) x1)) := fun g1 e => by
    have := m_isOption (g := m_Th g1 0) (x := x1) (by show sp_WF (g1.1 1); rw [e]; exact hW)
    rw [this]
    show some (bI (qO (g1.1 1) x1)) = _
    rw [e]
  have p : ∀ g1 : ob_St, ob_pI g1 12 0 0 0 = some (m_Th g1 0) := fun _ => rfl
  have md : ∀ g1 : ob_St, g1.1 1 = g.1 1 → f_X12_own g1 0 x1 x2 = if qO (g.1 1) x1 = true then (if x2 < -9 then some (-1000000, m_Th g1 0) else if 9 < x2 then some (-1000000, m_Th g1 0) else ((ob_ck 12 0 (f_X12_keeps (m_Th g1 0) 0)).bind fun g4 => (ob_ck 12 0 (f_X12_get g4 0 x1 9)).bind fun v5 => (ob_gR 12 0 1).bind fun v6 => (ob_wI g4 v6 ((30 + (10 * x1)) + 9) x2).bind fun g7 => some (v5, g7))) else some (-1000000, m_Th g1 0) := fun g1 e => by
    unfold f_X12_own f_X12_isIn
    rw [p, Option.bind_some, io g1 e, ev_ck0, Option.bind_some, bI_if]
    by_cases c1 : qO (g.1 1) x1 = true
    · rw [if_pos c1, if_pos c1]
      by_cases c2 : x2 < -9
      · rw [if_pos c2, if_pos c2]; rfl
      · rw [if_neg c2, if_neg c2]
        by_cases c3 : 9 < x2
        · rw [if_pos c3, if_pos c3]; rfl
        · rw [if_neg c3, if_neg c3]; rfl
    · rw [if_neg c1, if_neg c1]
  have cd : f_X11_own g 20 x1 x2 = if qO (g.1 1) x1 = true then (if x2 < -9 then some (-1000000, g) else if x2 ≤ 9 then ((ob_gR 11 20 3).bind fun v2 => (ob_gR 5 v2 2).bind fun v3 => (ob_rR 17 v3 x1).bind fun v4 => (ob_gI g 1 v4 9).bind fun v5 => (ob_ck 11 20 (f_X11_change g 20 0 x1 x2)).bind fun g6 => some (v5, g6)) else some (-1000000, g)) else some (-1000000, g) := by
    unfold f_X11_own
    rw [c_isOption hM, ev_ck20, Option.bind_some, bI_if]
  rw [cd]
  by_cases c1 : qO (g.1 1) x1 = true
  · rw [if_pos c1]
    by_cases c2 : x2 < -9
    · rw [if_pos c2]
      exact PR_no hI rfl (by rw [md g rfl, if_pos c1, if_pos c2])
    rw [if_neg c2]
    by_cases c3 : x2 ≤ 9
    · rw [if_pos c3]
      obtain ⟨k, hk, rfl⟩ := qO_e hW c1
      have h9 : -9 ≤ x2.toInt ∧ x2.toInt ≤ 9 := by
        rw [ni_lt] at c2
        rw [ni_le] at c3
        have e1 : (-9 : Int32).toInt = -9 := rfl
        have e2 : (9 : Int32).toInt = 9 := rfl
        omega
      obtain ⟨g1, d1, d2, g2, d3, d4, g3, d5, d6⟩ := chg (a := 0) (w := k) (v := x2) hI ⟨by omega, fun _ => hk, fun z => by omega, fun z => by omega, fun z => by omega, fun z => by omega⟩ (wf_own hW h9)
      have d1 : f_X11_change g 20 0 (nI k) x2 = some g1 := d1
      have d5 : ob_wI g2 1 (nI (30 + 10 * k + 9)) x2 = some g3 := d5
      have e9 : g.1 (28 + k) 9 = g.1 1 (30 + 10 * k + 9) := (hM.2.2.2.2.2 k hk).2.2.2.2.2.2.2.2.2
      have gt : f_X12_get g2 0 (nI k) 9 = some (g.1 1 (30 + 10 * k + 9)) := by
        have : f_X12_get g2 0 (nI k) (nI 9) = some (sp_o (g2.1 1) k 9) := m_get (by omega)
        rw [d4] at this
        exact this
      refine ⟨g.1 1 (30 + 10 * k + 9), g1, g3, ?_, ?_, d6⟩
      · rw [ev_r20_3, Option.bind_some, ev_r24_2, Option.bind_some, ew_27 (by omega), Option.bind_some, ew_gc (by omega), Option.bind_some, d1, ev_ck20, Option.bind_some, e9]
      · show f_X12_own g1 0 (nI k) x2 = _
        rw [md g1 (d2 1 (by omega)).1, if_pos c1, if_neg c2, if_neg (Int32.not_lt.mpr c3), d3, ev_ck0, Option.bind_some, gt, ev_ck0, Option.bind_some, ev_r0_1, Option.bind_some, pu_mul, pu_add, pu_addr]
        show (ob_wI g2 1 (nI (30 + 10 * k + 9)) x2).bind _ = _
        rw [d5, Option.bind_some]
    · rw [if_neg c3]
      exact PR_no hI rfl (by rw [md g rfl, if_pos c1, if_neg c2, if_pos (Int32.not_le.mp c3)])
  · rw [if_neg c1]
    exact PR_no hI rfl (by rw [md g rfl, if_neg c1])
theorem PR_move {g : ob_St} {x : Int32} (hI : Inv g) : PR (f_X11_move g 20 x) (fun g1 => f_X12_move g1 0 x) := by
  have hW := hI.2.1.1
  have hM := hI.2.1.2.1
  have h12 := wf_12 hW
  have hs0 := hW.1.2
  have hfl := hW.2.2.2.2.2.2.2.1
  have cl : f_X5_lowest g 24 = some (g.1 1 0 - sp_fs (g.1 1) (sN (g.1 1) 2)) := c_lowest (Or.inl rfl) hM.1 (hM.2.2.1.trans (wf_2 hW)) h12 (fun t ht => (hM.2.2.2.2.1 t ht).1)
  have ml : ∀ g1 : ob_St, g1.1 1 = g.1 1 → f_X12_lowest (m_Th g1 0) 1 = some (g.1 1 0 - sp_fs (g.1 1) (sN (g.1 1) 2)) := fun g1 e => by
    have e' : (m_Th g1 0).1 1 = g.1 1 := e
    rw [m_lowest (n0 := 1) rfl rfl (by rw [e']; exact wf_2 hW) h12, e']
  have p : ∀ g1 : ob_St, ob_pI g1 12 0 0 0 = some (m_Th g1 0) := fun _ => rfl
  have md : ∀ g1 : ob_St, g1.1 1 = g.1 1 → f_X12_move g1 0 x = if x < 0 then some (-1, m_Th g1 0) else if 999 < x then some (-1, m_Th g1 0) else if ((g.1 1 0 - sp_fs (g.1 1) (sN (g.1 1) 2)) - g.1 1 0) + x < 0 then some (-1, m_Th g1 0) else ((ob_ck 12 0 (f_X12_becomes (m_Th g1 0) 0 0 x)).bind fun v7 => some (v7.1, v7.2)) := fun g1 e => by
    have r0 : ob_rI (m_Th g1 0) 14 1 0 = some (g.1 1 0) := by
      have : ob_rI (m_Th g1 0) 14 1 0 = some ((m_Th g1 0).1 1 0) := ev_l1 (i := 0) (by show 0 < 70; omega)
      rw [this]
      show some (g1.1 1 0) = _
      rw [e]
    unfold f_X12_move f_X12_isIn
    rw [p, Option.bind_some, ev_r0_1, Option.bind_some, ml g1 e, Option.bind_some, Option.bind_some, r0, Option.bind_some]
    by_cases c1 : x < 0
    · rw [if_pos c1, if_pos c1]; rfl
    rw [if_neg c1, if_neg c1]
    by_cases c2 : 999 < x
    · rw [if_pos c2, if_pos c2]; rfl
    · rw [if_neg c2, if_neg c2]; rfl
  have cd : f_X11_move g 20 x = if x < 0 then some (-1, g) else if 999 < x then some (-1, g) else if 0 ≤ ((g.1 1 0 - sp_fs (g.1 1) (sN (g.1 1) 2)) - g.1 1 0) + x then ((ob_ck 11 20 (f_X11_changed g 20 1 0 x)).bind fun v5 => some (v5.1, v5.2)) else some (-1, g) := by
    unfold f_X11_move
    simp only [ev_r20_3, ev_g24, cl, ev_ck24, Option.bind_some, hM.1]
  rw [cd]
  by_cases c1 : x < 0
  · rw [if_pos c1]
    exact PR_no hI rfl (by rw [md g rfl, if_pos c1])
  rw [if_neg c1]
  by_cases c2 : 999 < x
  · rw [if_pos c2]
    exact PR_no hI rfl (by rw [md g rfl, if_neg c1, if_pos c2])
  rw [if_neg c2]
  by_cases c3 : 0 ≤ ((g.1 1 0 - sp_fs (g.1 1) (sN (g.1 1) 2)) - g.1 1 0) + x
  · rw [if_pos c3]
    obtain ⟨n, hn, rfl⟩ := nI_of c1
    have hn9 : n ≤ 999 := by
      rcases Nat.lt_or_ge 999 n with q | q
      · exact absurd (nI_lt (a := 999) (b := n) q (by omega)) c2
      · exact q
    have hfn : sp_fN (g.1 1) (sN (g.1 1) 2) ≤ n := by
      rw [low_n hW, wf_0 hW, ni_le, ni_0] at c3
      have t1 : (nI (sN (g.1 1) 0 - sp_fN (g.1 1) (sN (g.1 1) 2)) - nI (sN (g.1 1) 0)).toInt = ((sN (g.1 1) 0 - sp_fN (g.1 1) (sN (g.1 1) 2) : Nat) : Int) - sN (g.1 1) 0 := by
        rw [ni_sub (by rw [ni_of (by omega), ni_of (by omega)]; omega) (by rw [ni_of (by omega), ni_of (by omega)]; omega), ni_of (by omega), ni_of (by omega)]
      rw [ni_add (by rw [t1, ni_of (by omega)]; omega) (by rw [t1, ni_of (by omega)]; omega), t1, ni_of (by omega)] at c3
      omega
    obtain ⟨b, g1, g2, d1, d2, d3, d4⟩ := PR_chg (a := 1) (w := 0) (v := nI n) hI ⟨by omega, fun z => by omega, fun z => by omega, fun z => by omega, fun z => by omega, fun _ => rfl⟩ (wf_move hW hn9 hfn)
    have d1 : f_X11_changed g 20 1 0 (nI n) = some (b, g1) := d1
    have d3 : f_X12_becomes (m_Th g1 0) 0 0 (nI n) = some (b, g2) := d3
    refine ⟨b, g1, g2, by rw [d1, ev_ck20, Option.bind_some], ?_, d4⟩
    show f_X12_move g1 0 (nI n) = _
    rw [md g1 (d2 1 (by omega)).1, if_neg c1, if_neg c2, if_neg (Int32.not_lt.mpr c3), d3, ev_ck0, Option.bind_some]
  · rw [if_neg c3]
    exact PR_no hI rfl (by rw [md g rfl, if_neg c1, if_neg c2, if_pos (Int32.not_le.mp c3)])
