/-! gain, richest: the reference -/
theorem m_isPath {g : ob_St} {x : Int32} (hW : sp_WF (g.1 1)) : f_X12_isIn x 0 ((1 <<< (g.1 1 2 &&& 31)) - 1) = some (bI (qP (g.1 1) x)) := by
  have h12 := wf_12 hW
  have hp : 2 ^ sN (g.1 1) 2 ≤ 2 ^ 12 := Nat.pow_le_pow_right (by omega) h12
  have h0 : 0 < 2 ^ sN (g.1 1) 2 := Nat.two_pow_pos _
  rw [wf_2 hW, sh_N _ (by omega)]
  have e : (nI (2 ^ sN (g.1 1) 2) - 1 < x) ↔ (nI (2 ^ sN (g.1 1) 2) ≤ x) := by
    have e1 : (1 : Int32).toInt = 1 := rfl
    have t1 : (nI (2 ^ sN (g.1 1) 2) - 1).toInt = (2 ^ sN (g.1 1) 2 : Nat) - 1 := by
      rw [ni_sub (by rw [ni_of (by omega), e1]; omega) (by rw [ni_of (by omega), e1]; omega), ni_of (by omega), e1]
    rw [ni_lt, ni_le, t1, ni_of (by omega)]
    omega
  rw [m_isIn0 (S := g.1 1)]
  unfold qP
  by_cases h1 : x < 0
  · rw [if_pos h1, if_pos h1]
  rw [if_neg h1, if_neg h1]
  by_cases h2 : nI (2 ^ sN (g.1 1) 2) ≤ x
  · rw [if_pos h2, if_pos (e.mpr h2)]
  · rw [if_neg h2, if_neg (fun h => h2 (e.mp h))]
theorem m_isExer {g : ob_St} {x : Int32} (hW : sp_WF (g.1 1)) : f_X12_isIn x (-1) (g.1 1 2) = some (bI (qX (g.1 1) x)) := by
  have h12 := wf_12 hW
  have en : ((-1 : Int32)).toInt = -1 := rfl
  have t2 : (g.1 1 2).toInt = (sN (g.1 1) 2 : Int) := by rw [wf_2 hW, ni_of (by omega)]
  unfold f_X12_isIn qX qT
  by_cases h0 : x = -1
  · subst h0
    rw [if_neg (by decide), if_pos rfl, if_neg (by rw [ni_lt, t2, en]; omega)]
    rfl
  · have hx : ¬ x.toInt = -1 := fun z => h0 (Int32.toInt_inj.mp (by rw [z, en]))
    rw [if_neg (c := x = -1) h0]
    by_cases h1 : x < 0
    · have h1' : x < -1 := by
        rw [ni_lt] at h1 ⊢
        rw [ni_0] at h1
        rw [en]
        omega
      rw [if_pos h1', if_pos h1]; rfl
    · have h1' : ¬ x < -1 := by
        rw [ni_lt] at h1 ⊢
        rw [ni_0] at h1
        rw [en]
        omega
      rw [if_neg h1', if_neg h1]
      by_cases h2 : g.1 1 2 < x
      · rw [if_pos h2, if_pos h2]; rfl
      · rw [if_neg h2, if_neg h2]; rfl
theorem m_gain {g : ob_St} {x1 x2 x3 x4 : Int32} (hQ : m_Q g) : m_A g (an_gain (g.1 1) x1 x2 x3 x4) (f_X12_gain g 0 x1 x2 x3 x4) := by
  have hW := hQ.1
  have h12 := wf_12 hW
  have h4 := wf_4 hW
  have t1 : f_X12_throwsIf g 0 1 = some (1, m_Th g 1) := m_throws (b := true)
  have t0 : f_X12_throwsIf g 0 0 = some (0, m_Th g 0) := m_throws (b := false)
  have bad : B_X12_gain_49 g 0 x1 x2 x3 x4 0 = some (0, m_Th g 1) := by
    unfold B_X12_gain_49 B_X12_gain_54
    rw [t1, ev_ck0, Option.bind_some]
    exact if_neg (show ¬ (1 : Int32) = 0 by decide)
  unfold f_X12_gain an_gain
  rw [m_isOption hW, ev_ck0, Option.bind_some, bI_if, ev_r0_1, Option.bind_some, ev_l1 (by omega), Option.bind_some]
  show m_A g _ (if qO (g.1 1) x1 = true then ((f_X12_isIn x2 0 ((1 <<< (g.1 1 2 &&& 31)) - 1)).bind _) else _)
  rw [m_isPath hW, Option.bind_some, bI_if, Option.bind_some, ev_l1 (by omega), Option.bind_some]
  show m_A g _ (if qO (g.1 1) x1 = true then (if qP (g.1 1) x2 = true then ((f_X12_isIn x3 (-1) (g.1 1 2)).bind _) else _) else _)
  rw [m_isExer hW, Option.bind_some, bI_if, m_isPart, Option.bind_some, bI_if, bad]
  by_cases c0 : qO (g.1 1) x1 = true
  · rw [if_pos c0]
    by_cases c1 : qP (g.1 1) x2 = true
    · rw [if_pos c1]
      by_cases c2 : qX (g.1 1) x3 = true
      · rw [if_pos c2]
        by_cases c3 : qB x4 = true
        · rw [if_pos c3, if_pos (an_and4.mpr ⟨c0, c1, c2, c3⟩)]
          obtain ⟨k, hk, rfl⟩ := qO_e hW c0
          obtain ⟨p, hp, hp2, rfl⟩ := qP_e hW c1
          rw [nI_clamp (by omega), nI_clamp hp2]
          obtain ⟨g', k0, k1, k2, k3, k4, k5⟩ := m_layTh (v := 0) hQ
          have hb := (gt_gain (p := p) (e := x3) hW hk).1
          have td := m_told (y := sp_gain (g.1 1) k p x3) (p := x4) (by have := hb.1; omega) (sp_sc_pos hW 0)
          refine ⟨g', ?_, k1, k2, k3⟩
          rw [← k5] at hW hk td ⊢
          have hg := m_gains (e := x3) hW k4 hk hp2
          have pw := m_pwAt hW k4.1
          unfold B_X12_gain_54
          rw [t0, ev_ck0, Option.bind_some]
          show (if (0 : Int32) = 0 then _ else _) = _
          rw [if_pos rfl, k0, ev_ck0, Option.bind_some, hg, ev_ck0, Option.bind_some, ev_r0_22, Option.bind_some, ev_r0_1, Option.bind_some]
          rw [ev_l1 (by omega), Option.bind_some] at pw ⊢
          rw [pw, Option.bind_some]
          exact pu_b td
        · rw [if_neg c3, if_neg (fun h => c3 (an_and4.mp h).2.2.2)]
          exact ⟨m_Th g 1, rfl, m_K_th, m_Q_th hQ, rfl⟩
      · rw [if_neg c2, if_neg (fun h => c2 (an_and4.mp h).2.2.1)]
        exact ⟨m_Th g 1, rfl, m_K_th, m_Q_th hQ, rfl⟩
    · rw [if_neg c1, if_neg (fun h => c1 (an_and4.mp h).2.1)]
      exact ⟨m_Th g 1, rfl, m_K_th, m_Q_th hQ, rfl⟩
  · rw [if_neg c0, if_neg (fun h => c0 (an_and4.mp h).1)]
    exact ⟨m_Th g 1, rfl, m_K_th, m_Q_th hQ, rfl⟩
/-- a scan that keeps the first of the greatest -/
theorem m_scan {F : Nat → Int64} {n i : Nat} {m : Int64} {p : Nat} (h : sp_bst F i m p) : sp_bst F (i + 1) (if m < F i then F i else m) (if m < F i then i else p) := by
  obtain ⟨h1, h2, h3⟩ := h
  by_cases c : m < F i
  · rw [if_pos c, if_pos c]
    refine ⟨by omega, rfl, fun q hq => ?_⟩
    by_cases e : q = i
    · subst e
      exact ⟨Int64.le_refl _, fun _ => Nat.le_refl _⟩
    · have z := (h3 q (by omega)).1
      have zz : F q < F i := by rw [nu_lt] at c ⊢; rw [nu_le] at z; omega
      exact ⟨Int64.le_of_lt zz, fun y => by rw [y] at zz; exact absurd zz (Int64.lt_irrefl)⟩
  · rw [if_neg c, if_neg c]
    refine ⟨by omega, h2, fun q hq => ?_⟩
    by_cases e : q = i
    · subst e
      exact ⟨Int64.not_lt.mp c, fun _ => by omega⟩
    · exact h3 q (by omega)
theorem m_richL {g : ob_St} {k : Nat} {e : Int32} (hW : sp_WF (g.1 1)) (hL : m_Laid g) (hk : k < sN (g.1 1) 29) :
    ∃ r, L_X12_richest_47 g 0 (nI k) e ob_FU 0 (sp_gain (g.1 1) k 0 e) (nI 1) = some r ∧ ∃ p, r = nI p ∧ ∃ m, sp_bst (fun q => sp_gain (g.1 1) k q e) (2 ^ sN (g.1 1) 2) m p := by
  have h12 := wf_12 hW
  have hp : 2 ^ sN (g.1 1) 2 ≤ 2 ^ 12 := Nat.pow_le_pow_right (by omega) h12
  have h0 : 0 < 2 ^ sN (g.1 1) 2 := Nat.two_pow_pos _
  exact pu_up (fun f (s : Int32 × Int64) i => L_X12_richest_47 g 0 (nI k) e f s.1 s.2 (nI i)) (fun i s => 1 ≤ i ∧ ∃ p, s.1 = nI p ∧ sp_bst (fun q => sp_gain (g.1 1) k q e) i s.2 p) (2 ^ sN (g.1 1) 2) (fun r => ∃ p, r = nI p ∧ ∃ m, sp_bst (fun q => sp_gain (g.1 1) k q e) (2 ^ sN (g.1 1) 2) m p)
    (fun f s hI => ⟨s.1, by
      show Lb_X12_richest_47 _ _ _ _ _ _ _ _ = _
      unfold Lb_X12_richest_47
      rw [ev_r0_1, Option.bind_some, ev_l1 (by omega), Option.bind_some]
      show (if (1 <<< (g.1 1 2 &&& 31)) ≤ _ then _ else _) = _
      rw [wf_2 hW, sh_N _ (by omega), if_pos (nI_le (by omega) (by omega))], by
      obtain ⟨_, p, a, b⟩ := hI
      exact ⟨p, a, _, b⟩⟩)
    (fun f i s hi hI => by
      obtain ⟨h1, p, a, b⟩ := hI
      have hg := m_gains (p := i) (e := e) hW hL hk (by omega)
      refine ⟨(if s.2 < sp_gain (g.1 1) k i e then nI i else s.1, if s.2 < sp_gain (g.1 1) k i e then sp_gain (g.1 1) k i e else s.2), ⟨by omega, (if s.2 < sp_gain (g.1 1) k i e then i else p), ?_, m_scan (n := 0) b⟩, ?_⟩
      · show (if _ then _ else _) = nI (if _ then _ else _)
        by_cases c : s.2 < sp_gain (g.1 1) k i e
        · rw [if_pos c, if_pos c]
        · rw [if_neg c, if_neg c, a]
      · show Lb_X12_richest_47 _ _ _ _ _ _ _ _ = _
        unfold Lb_X12_richest_47
        rw [ev_r0_1, Option.bind_some, ev_l1 (by omega), Option.bind_some]
        show (if (1 <<< (g.1 1 2 &&& 31)) ≤ _ then _ else _) = _
        rw [wf_2 hW, sh_N _ (by omega), if_neg (nI_ge (by omega) (by omega)), hg, ev_ck0, Option.bind_some]
        unfold B_X12_richest_88
        rw [nI_1]
        by_cases c : s.2 < sp_gain (g.1 1) k i e
        · rw [if_pos c, if_pos c, if_pos c]
        · rw [if_neg c, if_neg c, if_neg c])
    (2 ^ sN (g.1 1) 2 - 1) 1 ob_FU (0, sp_gain (g.1 1) k 0 e) (by omega) (by unfold ob_FU; omega) ⟨Nat.le_refl _, 0, rfl, by omega, rfl, fun q hq => by
      have : q = 0 := by omega
      subst this
      exact ⟨Int64.le_refl _, fun _ => Nat.le_refl _⟩⟩
theorem sp_rich_eq {S : Nat → Int32} {k p : Nat} {e : Int32} {m : Int64} (hW : sp_WF S) (hk : k < sN S 29) (h : sp_bst (fun q => sp_gain S k q e) (2 ^ sN S 2) m p) : p = (sp_dp S k e (sN S 2) 0 0 false).2 := by
  have hd := dp_best (e := e) hW hk (sN S 2) 0 0 false (by omega) (by omega)
  obtain ⟨a1, a2, a3⟩ := h
  refine sp_bst_u (m := sp_G S k e (sN S 2) 0 0 false p) ⟨a1, rfl, fun q hq => ?_⟩ hd
  have z := a3 q hq
  rw [← a2] at z
  have t1 := (gt_gain (p := p) (e := e) hW hk).2
  have t2 := (gt_gain (p := q) (e := e) hW hk).2
  have z1 := nu_le.mp z.1
  have z1 : (sp_gain S k q e).toInt ≤ (sp_gain S k p e).toInt := z1
  refine ⟨nu_le.mpr (by omega), fun y => z.2 ?_⟩
  show sp_gain S k q e = sp_gain S k p e
  exact Int64.toInt_inj.mp (by rw [t1, t2, y])
theorem m_richest {g : ob_St} {x1 x2 : Int32} (hQ : m_Q g) : m_I g (an_rich (g.1 1) x1 x2) (f_X12_richest g 0 x1 x2) := by
  have hW := hQ.1
  have h12 := wf_12 hW
  have h4 := wf_4 hW
  unfold f_X12_richest an_rich
  rw [ev_p0, Option.bind_some]
  show m_I g _ ((ob_ck 12 0 (f_X12_isOption (m_Th g 0) 0 x1)).bind _)
  rw [m_isOption (m_Q_th hQ).1, ev_ck0, Option.bind_some, bI_if]
  show m_I g _ (if qO (g.1 1) x1 = true then ((ob_gR 12 0 1).bind fun v3 => (ob_rI (m_Th g 0) 14 v3 2).bind _) else some (-1, m_Th g 0))
  rw [ev_r0_1, Option.bind_some, ev_l1 (by omega), Option.bind_some]
  show m_I g _ (if qO (g.1 1) x1 = true then ((f_X12_isIn x2 (-1) (g.1 1 2)).bind _) else some (-1, m_Th g 0))
  rw [m_isExer hW, Option.bind_some, bI_if]
  show m_I g _ (if qO (g.1 1) x1 = true then (if qX (g.1 1) x2 = true then ((ob_ck 12 0 (f_X12_lays (m_Th g 0) 0)).bind _) else some (-1, m_Th g 0)) else some (-1, m_Th g 0))
  by_cases c1 : qO (g.1 1) x1 = true
  · rw [if_pos c1]
    by_cases c2 : qX (g.1 1) x2 = true
    · rw [if_pos c2, if_pos (an_and2.mpr ⟨c1, c2⟩)]
      obtain ⟨k, hk, rfl⟩ := qO_e hW c1
      rw [nI_clamp (by omega)]
      obtain ⟨g', k0, k1, k2, k3, k4, k5⟩ := m_layTh (v := 0) hQ
      refine ⟨g', ?_, k1, k2⟩
      rw [k0, ev_ck0, Option.bind_some]
      rw [← k5] at hW hk ⊢
      have hg : f_X12_gains g' 0 (nI k) 0 x2 = some (sp_gain (g'.1 1) k 0 x2) := m_gains (p := 0) hW k4 hk (by omega)
      obtain ⟨r, r1, p, r2, m, r3⟩ := m_richL (e := x2) hW k4 hk
      rw [hg, ev_ck0, Option.bind_some]
      refine (pu_b r1).trans ?_
      rw [r2, sp_rich_eq hW hk r3]
    · rw [if_neg c2, if_neg (fun h => c2 (an_and2.mp h).2)]
      exact ⟨m_Th g 0, rfl, m_K_th, m_Q_th hQ⟩
  · rw [if_neg c1, if_neg (fun h => c1 (an_and2.mp h).1)]
    exact ⟨m_Th g 0, rfl, m_K_th, m_Q_th hQ⟩
