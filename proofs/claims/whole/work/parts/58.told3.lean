/-! fall, cash, restrike, undo -/
theorem PR_fall {g : ob_St} {x1 x2 : Int32} (hI : Inv g) : PR (f_X11_fall g 20 x1 x2) (fun g1 => f_X12_fall g1 0 x1 x2) := by
  have hW := hI.2.1.1
  have hM := hI.2.1.2.1
  have h12 := wf_12 hW
  have hs0 := hW.1.2
  have hw9 := hW.2.1.2
  have hfl := hW.2.2.2.2.2.2.2.1
  have cl : f_X5_lowest g 24 = some (g.1 1 0 - sp_fs (g.1 1) (sN (g.1 1) 2)) := c_lowest (Or.inl rfl) hM.1 (hM.2.2.1.trans (wf_2 hW)) h12 (fun t ht => (hM.2.2.2.2.1 t ht).1)
  have ml : ∀ g1 : ob_St, g1.1 1 = g.1 1 → f_X12_lowest (m_Th g1 0) 1 = some (g.1 1 0 - sp_fs (g.1 1) (sN (g.1 1) 2)) := fun g1 e => by
    have e' : (m_Th g1 0).1 1 = g.1 1 := e
    rw [m_lowest (n0 := 1) rfl rfl (by rw [e']; exact wf_2 hW) h12, e']
  have p : ∀ g1 : ob_St, ob_pI g1 12 0 0 0 = some (m_Th g1 0) := fun _ => rfl
  have md : ∀ g1 : ob_St, g1.1 1 = g.1 1 → f_X12_fall g1 0 x1 x2 = if qF (g.1 1) x1 = true then (if (if x2 < 1 then false else if g.1 1 1 - 1 < x2 then false else true) = true then ((ob_rI (m_Th g1 0) 14 1 (3 + x1)).bind fun v11 => (if x2 ≤ ((g.1 1 0 - sp_fs (g.1 1) (sN (g.1 1) 2)) + v11) then ((ob_ck 12 0 (f_X12_becomes (m_Th g1 0) 0 (3 + x1) x2)).bind fun v12 => some (v12.1, v12.2)) else some (-1, m_Th g1 0))) else some (-1, m_Th g1 0)) else some (-1, m_Th g1 0) := fun g1 e => by
    have r2 : ob_rI (m_Th g1 0) 14 1 2 = some (g.1 1 2) := by
      have : ob_rI (m_Th g1 0) 14 1 2 = some ((m_Th g1 0).1 1 2) := ev_l1 (i := 2) (by show 2 < 70; omega)
      rw [this]
      show some (g1.1 1 2) = _
      rw [e]
    have r1 : ob_rI (m_Th g1 0) 14 1 1 = some (g.1 1 1) := by
      have : ob_rI (m_Th g1 0) 14 1 1 = some ((m_Th g1 0).1 1 1) := ev_l1 (i := 1) (by show 1 < 70; omega)
      rw [this]
      show some (g1.1 1 1) = _
      rw [e]
    have i1 : f_X12_isIn x1 1 (g.1 1 2) = some (bI (qF (g.1 1) x1)) := m_isIn1
    unfold f_X12_fall
    rw [p, Option.bind_some]
    simp only [ev_r0_1, r2, r1, ml g1 e, i1, m_isIn1, bI_if, Option.bind_some]
    rfl
  have cd : f_X11_fall g 20 x1 x2 = if qF (g.1 1) x1 = true then (if x2 < 1 then some (-1, g) else if x2 < g.1 1 1 then ((ob_rI g 14 25 x1).bind fun v9 => (if 0 ≤ (((g.1 1 0 - sp_fs (g.1 1) (sN (g.1 1) 2)) + v9) - x2) then ((ob_ck 11 20 (f_X11_changed g 20 2 x1 x2)).bind fun v10 => some (v10.1, v10.2)) else some (-1, g))) else some (-1, g)) else some (-1, g) := by
    unfold f_X11_fall
    simp only [ev_r20_3, ev_g24, ev_r24_0, cl, ev_ck24, Option.bind_some, hM.2.1, hM.2.2.1]
    unfold qF
    by_cases c1 : x1 < 1
    · rw [if_pos c1, if_pos c1]; rfl
    rw [if_neg c1, if_neg c1]
    by_cases c2 : g.1 1 2 < x1
    · rw [if_pos c2, if_pos c2]; rfl
    · rw [if_neg c2, if_neg c2]; rfl
  have eW : (g.1 1 1 - 1 < x2) ↔ ¬ (x2 < g.1 1 1) := by
    have e1 : (1 : Int32).toInt = 1 := rfl
    rw [wf_1 hW]
    have t1 : (nI (sN (g.1 1) 1) - 1).toInt = (sN (g.1 1) 1 : Int) - 1 := by rw [ni_sub (by rw [ni_of (by omega), e1]; omega) (by rw [ni_of (by omega), e1]; omega), ni_of (by omega), e1]
    rw [ni_lt, ni_lt, t1, ni_of (by omega)]
    omega
  rw [cd]
  by_cases c1 : qF (g.1 1) x1 = true
  · rw [if_pos c1]
    obtain ⟨t, t1, t2, rfl⟩ := qF_e hW c1
    by_cases c2 : x2 < 1
    · rw [if_pos c2]
      exact PR_no hI rfl (by rw [md g rfl, if_pos c1, if_pos c2]; rfl)
    rw [if_neg c2]
    by_cases c3 : x2 < g.1 1 1
    · rw [if_pos c3, ev_a25 (by omega), Option.bind_some, (hM.2.2.2.2.1 t (by omega)).1]
      have n0 : ¬ x2 < 0 := fun z => c2 (by rw [ni_lt] at z ⊢; rw [ni_0] at z; show x2.toInt < 1; omega)
      obtain ⟨n, hn, rfl⟩ := nI_of n0
      have n1 : 1 ≤ n := by
        rcases Nat.lt_or_ge n 1 with q | q
        · exact absurd (nI_lt (a := n) (b := 1) q (by omega)) c2
        · exact q
      have n2 : n < sN (g.1 1) 1 := by rw [wf_1 hW, nI_ltI hn (by omega)] at c3; exact c3
      have hf := hW.2.2.2.2.2.1 t t1 t2
      have eA : (g.1 1 0 - sp_fs (g.1 1) (sN (g.1 1) 2)) + g.1 1 (3 + t) = nI (sN (g.1 1) 0 - sp_fN (g.1 1) (sN (g.1 1) 2) + sN (g.1 1) (3 + t)) := by rw [low_n hW, hf.1, nI_add]
      rw [eA]
      have cond1 : (0 ≤ nI (sN (g.1 1) 0 - sp_fN (g.1 1) (sN (g.1 1) 2) + sN (g.1 1) (3 + t)) - nI n) ↔ n ≤ sN (g.1 1) 0 - sp_fN (g.1 1) (sN (g.1 1) 2) + sN (g.1 1) (3 + t) := by
        rw [ni_le, ni_0, ni_sub (by rw [ni_of (by omega), ni_of (by omega)]; omega) (by rw [ni_of (by omega), ni_of (by omega)]; omega), ni_of (by omega), ni_of (by omega)]
        omega
      have cond2 : (nI n ≤ nI (sN (g.1 1) 0 - sp_fN (g.1 1) (sN (g.1 1) 2) + sN (g.1 1) (3 + t))) ↔ n ≤ sN (g.1 1) 0 - sp_fN (g.1 1) (sN (g.1 1) 2) + sN (g.1 1) (3 + t) := nI_leI (by omega) (by omega)
      have mr : ∀ g1 : ob_St, g1.1 1 = g.1 1 → f_X12_fall g1 0 (nI t) (nI n) = if n ≤ sN (g.1 1) 0 - sp_fN (g.1 1) (sN (g.1 1) 2) + sN (g.1 1) (3 + t) then ((ob_ck 12 0 (f_X12_becomes (m_Th g1 0) 0 (nI (3 + t)) (nI n))).bind fun v12 => some (v12.1, v12.2)) else some (-1, m_Th g1 0) := fun g1 e => by
        have rt : ob_rI (m_Th g1 0) 14 1 (nI (3 + t)) = some (g.1 1 (3 + t)) := by
          rw [ev_a1 (by omega)]
          show some (g1.1 1 (3 + t)) = _
          rw [e]
        rw [md g1 e, if_pos c1, if_neg c2, if_neg (fun z => eW.mp z c3), if_pos rfl, pu_add]
        show ((ob_rI (m_Th g1 0) 14 1 (nI (3 + t))).bind fun v11 => (if nI n ≤ ((g.1 1 0 - sp_fs (g.1 1) (sN (g.1 1) 2)) + v11) then ((ob_ck 12 0 (f_X12_becomes (m_Th g1 0) 0 (nI (3 + t)) (nI n))).bind fun v12 => some (v12.1, v12.2)) else some (-1, m_Th g1 0))) = _
        rw [rt, Option.bind_some, eA]
        by_cases cc : n ≤ sN (g.1 1) 0 - sp_fN (g.1 1) (sN (g.1 1) 2) + sN (g.1 1) (3 + t)
        · rw [if_pos cc, if_pos (cond2.mpr cc)]
        · rw [if_neg cc, if_neg (fun z => cc (cond2.mp z))]
      by_cases cc : n ≤ sN (g.1 1) 0 - sp_fN (g.1 1) (sN (g.1 1) 2) + sN (g.1 1) (3 + t)
      · rw [if_pos (cond1.mpr cc)]
        obtain ⟨b, g1, g2, d1, d2, d3, d4⟩ := PR_chg (a := 2) (w := t) (v := nI n) hI ⟨by omega, fun z => by omega, fun z => by omega, fun _ => ⟨t1, t2⟩, fun z => by omega, fun z => by omega⟩ (wf_fall hW t1 t2 n1 n2 (by omega))
        have d1 : f_X11_changed g 20 2 (nI t) (nI n) = some (b, g1) := d1
        have d3 : f_X12_becomes (m_Th g1 0) 0 (nI (3 + t)) (nI n) = some (b, g2) := d3
        refine ⟨b, g1, g2, by rw [d1, ev_ck20, Option.bind_some], ?_, d4⟩
        show f_X12_fall g1 0 (nI t) (nI n) = _
        rw [mr g1 (d2 1 (by omega)).1, if_pos cc, d3, ev_ck0, Option.bind_some]
      · rw [if_neg (fun z => cc (cond1.mp z))]
        exact PR_no hI rfl (by rw [mr g rfl, if_neg cc])
    · rw [if_neg c3]
      exact PR_no hI rfl (by rw [md g rfl, if_pos c1, if_neg c2, if_pos (eW.mpr c3)]; rfl)
  · rw [if_neg c1]
    exact PR_no hI rfl (by rw [md g rfl, if_neg c1])
theorem PR_cash {g : ob_St} {x1 x2 : Int32} (hI : Inv g) : PR (f_X11_cash g 20 x1 x2) (fun g1 => f_X12_cash g1 0 x1 x2) := by
  have hW := hI.2.1.1
  have hM := hI.2.1.2.1
  have h12 := wf_12 hW
  have p : ∀ g1 : ob_St, ob_pI g1 12 0 0 0 = some (m_Th g1 0) := fun _ => rfl
  have md : ∀ g1 : ob_St, g1.1 1 = g.1 1 → f_X12_cash g1 0 x1 x2 = if qT (g.1 1) x1 = true then (if x2 < 0 then some (-1, m_Th g1 0) else if 99 < x2 then some (-1, m_Th g1 0) else ((ob_ck 12 0 (f_X12_becomes (m_Th g1 0) 0 (16 + x1) x2)).bind fun v6 => some (v6.1, v6.2))) else some (-1, m_Th g1 0) := fun g1 e => by
    have r2 : ob_rI (m_Th g1 0) 14 1 2 = some (g.1 1 2) := by
      have : ob_rI (m_Th g1 0) 14 1 2 = some ((m_Th g1 0).1 1 2) := ev_l1 (i := 2) (by show 2 < 70; omega)
      rw [this]
      show some (g1.1 1 2) = _
      rw [e]
    have i1 : f_X12_isIn x1 0 (g.1 1 2) = some (bI (qT (g.1 1) x1)) := m_isStep (g := g)
    unfold f_X12_cash
    rw [p, Option.bind_some, ev_r0_1, Option.bind_some, r2, Option.bind_some, i1, Option.bind_some, bI_if]
    by_cases c1 : qT (g.1 1) x1 = true
    · rw [if_pos c1, if_pos c1]
      unfold f_X12_isIn
      by_cases c2 : x2 < 0
      · rw [if_pos c2, if_pos c2]; rfl
      rw [if_neg c2, if_neg c2]
      by_cases c3 : 99 < x2
      · rw [if_pos c3, if_pos c3]; rfl
      · rw [if_neg c3, if_neg c3]; rfl
    · rw [if_neg c1, if_neg c1]
  unfold f_X11_cash
  rw [c_isStep hM, ev_ck20, Option.bind_some, bI_if]
  by_cases c1 : qT (g.1 1) x1 = true
  · rw [if_pos c1]
    obtain ⟨t, t2, rfl⟩ := qT_e hW c1
    by_cases c2 : x2 < 0
    · rw [if_pos c2]
      exact PR_no hI rfl (by rw [md g rfl, if_pos c1, if_pos c2])
    rw [if_neg c2]
    by_cases c3 : x2 ≤ 99
    · rw [if_pos c3]
      obtain ⟨n, hn, rfl⟩ := nI_of c2
      have n2 : n ≤ 99 := (nI_leI (a := n) (b := 99) hn (by omega)).mp c3
      obtain ⟨b, g1, g2, d1, d2, d3, d4⟩ := PR_chg (a := 3) (w := t) (v := nI n) hI ⟨by omega, fun z => by omega, fun z => by omega, fun z => by omega, fun _ => t2, fun z => by omega⟩ (wf_cash hW (by omega) n2)
      have d1 : f_X11_changed g 20 3 (nI t) (nI n) = some (b, g1) := d1
      have d3 : f_X12_becomes (m_Th g1 0) 0 (nI (16 + t)) (nI n) = some (b, g2) := d3
      refine ⟨b, g1, g2, by rw [d1, ev_ck20, Option.bind_some], ?_, d4⟩
      show f_X12_cash g1 0 (nI t) (nI n) = _
      rw [md g1 (d2 1 (by omega)).1, if_pos c1, if_neg c2, if_neg (Int32.not_lt.mpr c3), pu_add]
      show ((ob_ck 12 0 (f_X12_becomes (m_Th g1 0) 0 (nI (16 + t)) (nI n))).bind _) = _
      rw [d3, ev_ck0, Option.bind_some]
    · rw [if_neg c3]
      exact PR_no hI rfl (by rw [md g rfl, if_pos c1, if_neg c2, if_pos (Int32.not_le.mp c3)])
  · rw [if_neg c1]
    exact PR_no hI rfl (by rw [md g rfl, if_neg c1])
theorem PR_restrike {g : ob_St} {x1 x2 : Int32} (hI : Inv g) : PR (f_X11_restrike g 20 x1 x2) (fun g1 => f_X12_restrike g1 0 x1 x2) := by
  have hW := hI.2.1.1
  have hM := hI.2.1.2.1
  have h4 := wf_4 hW
  have p : ∀ g1 : ob_St, ob_pI g1 12 0 0 0 = some (m_Th g1 0) := fun _ => rfl
  have io : ∀ g1 : ob_St, g1.1 1 = g.1 1 → f_X12_isOption (m_Th g1 0) 0 x1 = some (bI (qO (g.1 1) x1)) := fun g1 e => by
    have := m_isOption (g := m_Th g1 0) (x := x1) (by show sp_WF (g1.1 1); rw [e]; exact hW)
    rw [this]
    show some (bI (qO (g1.1 1) x1)) = _
    rw [e]
  have md : ∀ g1 : ob_St, g1.1 1 = g.1 1 → f_X12_restrike g1 0 x1 x2 = if qO (g.1 1) x1 = true then (if x2 < 0 then some (-1, m_Th g1 0) else if 999 < x2 then some (-1, m_Th g1 0) else ((ob_ck 12 0 (f_X12_get (m_Th g1 0) 0 x1 0)).bind fun v4 => (if v4 = 3 then ((ob_ck 12 0 (f_X12_get (m_Th g1 0) 0 x1 2)).bind fun v6 => (if x2 < v6 then (B_X12_restrike_46 (m_Th g1 0) 0 x1 x2) else (some ((-1), m_Th g1 0)))) else (B_X12_restrike_46 (m_Th g1 0) 0 x1 x2)))) else some (-1, m_Th g1 0) := fun g1 e => by
    unfold f_X12_restrike
    rw [p, Option.bind_some, io g1 e, ev_ck0, Option.bind_some, bI_if]
    by_cases c1 : qO (g.1 1) x1 = true
    · rw [if_pos c1, if_pos c1]
      unfold f_X12_isIn
      by_cases c2 : x2 < 0
      · rw [if_pos c2, if_pos c2]; rfl
      rw [if_neg c2, if_neg c2]
      by_cases c3 : 999 < x2
      · rw [if_pos c3, if_pos c3]; rfl
      · rw [if_neg c3, if_neg c3]; rfl
    · rw [if_neg c1, if_neg c1]
  unfold f_X11_restrike
  rw [c_isOption hM, ev_ck20, Option.bind_some, bI_if]
  by_cases c1 : qO (g.1 1) x1 = true
  · rw [if_pos c1]
    obtain ⟨k, hk, rfl⟩ := qO_e hW c1
    have ho := wf_o hW hk
    by_cases c2 : x2 < 0
    · rw [if_pos c2]
      exact PR_no hI rfl (by rw [md g rfl, if_pos c1, if_pos c2])
    rw [if_neg c2]
    by_cases c3 : x2 ≤ 999
    · rw [if_pos c3]
      obtain ⟨n, hn, rfl⟩ := nI_of c2
      have n2 : n ≤ 999 := (nI_leI (a := n) (b := 999) hn (by omega)).mp c3
      have e0 : g.1 (28 + k) 0 = sp_o (g.1 1) k 0 := (hM.2.2.2.2.2 k hk).1
      have e2 : g.1 (28 + k) 2 = sp_o (g.1 1) k 2 := (hM.2.2.2.2.2 k hk).2.2.1
      have get : ∀ g1 : ob_St, g1.1 1 = g.1 1 → ∀ w, w < 10 → f_X12_get (m_Th g1 0) 0 (nI k) (nI w) = some (sp_o (g.1 1) k w) := fun g1 e w hw => by
        have := m_get (g := m_Th g1 0) (k := k) (w := w) (by omega)
        rw [this]
        show some (sp_o (g1.1 1) k w) = _
        rw [e]
      have mr : ∀ g1 : ob_St, g1.1 1 = g.1 1 → f_X12_restrike g1 0 (nI k) (nI n) = if sp_o (g.1 1) k 0 = 3 then (if nI n < sp_o (g.1 1) k 2 then (B_X12_restrike_46 (m_Th g1 0) 0 (nI k) (nI n)) else some (-1, m_Th g1 0)) else (B_X12_restrike_46 (m_Th g1 0) 0 (nI k) (nI n)) := fun g1 e => by
        have q0 : f_X12_get (m_Th g1 0) 0 (nI k) 0 = some (sp_o (g.1 1) k 0) := get g1 e 0 (by omega)
        have q2 : f_X12_get (m_Th g1 0) 0 (nI k) 2 = some (sp_o (g.1 1) k 2) := get g1 e 2 (by omega)
        rw [md g1 e, if_pos c1, if_neg c2, if_neg (Int32.not_lt.mpr c3), q0, ev_ck0, Option.bind_some, q2, ev_ck0, Option.bind_some]
      have yes : (sN (g.1 1) (30 + 10 * k + 0) = 3 → n < sN (g.1 1) (30 + 10 * k + 2)) → ∃ b g1 g2, B_X11_restrike_49 g 20 (nI k) (nI n) = some (b, g1) ∧ g1.1 1 = g.1 1 ∧ B_X12_restrike_46 (m_Th g1 0) 0 (nI k) (nI n) = some (b, g2) ∧ Inv g2 := by
        intro h3
        obtain ⟨b, g1, g2, d1, d2, d3, d4⟩ := PR_chg (a := 4) (w := k) (v := nI n) hI ⟨by omega, fun z => by omega, fun _ => hk, fun z => by omega, fun z => by omega, fun z => by omega⟩ (wf_strike hW hk n2 h3)
        have d1 : f_X11_changed g 20 4 (nI k) (nI n) = some (b, g1) := d1
        have d3 : f_X12_becomes (m_Th g1 0) 0 (nI (30 + 10 * k + 1)) (nI n) = some (b, g2) := d3
        refine ⟨b, g1, g2, ?_, (d2 1 (by omega)).1, ?_, d4⟩
        · unfold B_X11_restrike_49
          rw [d1, ev_ck20, Option.bind_some]
        · unfold B_X12_restrike_46
          rw [pu_mul, pu_add, pu_addr]
          show ((ob_ck 12 0 (f_X12_becomes (m_Th g1 0) 0 (nI (30 + 10 * k + 1)) (nI n))).bind _) = _
          rw [d3, ev_ck0, Option.bind_some]
      rw [ev_r20_3, Option.bind_some, ev_r24_2, Option.bind_some, ew_27 (by omega), Option.bind_some, ew_gc (by omega), Option.bind_some, e0, ew_gc (by omega), Option.bind_some, e2]
      by_cases c4 : sp_o (g.1 1) k 0 = 3
      · rw [if_pos c4]
        have k3 : sN (g.1 1) (30 + 10 * k + 0) = 3 := (nI_eq (by have := ho.1.2; omega) (b := 3) (by omega)).mp (ho.1.1.symm.trans c4)
        have h2 := ho.2.2.1.2.2 k3
        by_cases c5 : nI n < sp_o (g.1 1) k 2
        · rw [if_pos c5]
          have n3 : n < sN (g.1 1) (30 + 10 * k + 2) := by rw [h2.1, nI_ltI hn (by omega)] at c5; exact c5
          obtain ⟨b, g1, g2, y1, y2, y3, y4⟩ := yes (fun _ => n3)
          refine ⟨b, g1, g2, y1, ?_, y4⟩
          show f_X12_restrike g1 0 (nI k) (nI n) = _
          rw [mr g1 y2, if_pos c4, if_pos c5, y3]
        · rw [if_neg c5]
          exact PR_no hI rfl (by rw [mr g rfl, if_pos c4, if_neg c5])
      · rw [if_neg c4]
        obtain ⟨b, g1, g2, y1, y2, y3, y4⟩ := yes (fun z => by
          have := ho.1.1
          rw [z] at this
          exact absurd this c4)
        refine ⟨b, g1, g2, y1, ?_, y4⟩
        show f_X12_restrike g1 0 (nI k) (nI n) = _
        rw [mr g1 y2, if_neg c4, y3]
    · rw [if_neg c3]
      exact PR_no hI rfl (by rw [md g rfl, if_pos c1, if_neg c2, if_pos (Int32.not_le.mp c3)])
  · rw [if_neg c1]
    exact PR_no hI rfl (by rw [md g rfl, if_neg c1])
theorem PR_undo {g : ob_St} (hI : Inv g) : PR (f_X11_undo g 20) (fun g1 => f_X12_undo g1 0) := by
  obtain ⟨i1, i2, i3, i4, ⟨n, n1, n2, n3, n4⟩, i6⟩ := id hI
  have hW := i2.1
  have p : ∀ g1 : ob_St, ob_pI g1 12 0 0 0 = some (m_Th g1 0) := fun _ => rfl
  have h06 : ∀ g1 : ob_St, g1.1 0 = g.1 0 → (m_Th g1 0).1 0 6 = nI n := fun g1 e => by
    show upd (g1.1 0) 0 0 6 = _
    rw [pu_upd_ne (by omega), e, n3]
  unfold f_X11_undo
  rw [ev_r20_7, Option.bind_some, ev_g63, Option.bind_some, n2]
  cases n with
  | zero =>
    rw [if_pos (show nI 0 = 0 from rfl)]
    refine PR_no hI rfl ?_
    show f_X12_undo g 0 = _
    unfold f_X12_undo
    rw [p, Option.bind_some, ev_g0, Option.bind_some, h06 g rfl, if_pos (show nI 0 = 0 from rfl)]
  | succ m =>
    have n0 : ¬ nI (m + 1) = 0 := nI_ne0 (by omega) (by omega)
    obtain ⟨u1, a, w, u2, u3, u4, u5⟩ := n4 m (by omega)
    have last : un_r g (m + 1) (m + 1) = g.1 1 := by unfold un_r; rw [if_neg (by omega)]
    rw [last] at u4 u5
    have hlt := ac_lt hW u4
    have hW' : sp_WF (upd (g.1 1) (ac_c a w) (g.1 66 m)) := wf_c70 u1 (fun x hx => (u5 x hx).symm)
    generalize hg6 : ((ob_up g.1 63 3 (nI m), g.2) : ob_St) = g6
    have q6 : ∀ x, x ≠ 63 → g6.1 x = g.1 x := fun x hx => by rw [← hg6]; exact pu_up_ne hx
    have q62 : g6.2 = g.2 := by rw [← hg6]
    have q63 : g6.1 63 3 = nI m := by rw [← hg6]; show ob_up g.1 63 3 (nI m) 63 3 = _; rw [pu_up_eq, pu_upd_eq]
    have cq6 : c_Q (g.1 1) g6 := by
      refine ⟨hW, c_M_fr (wf_4 hW) (fun x x1 x2 => q6 x (by omega)) i2.2.1, ?_⟩
      rw [q6 67 (by omega)]
      exact i2.2.2.imp (fun x => x) (fun x => ⟨x.1, c_Lat_m hW (fun n hn => q6 n (by omega)) (fun n hn => by rw [q62]) x.2⟩)
    obtain ⟨g1, b1, b2, b3, b4⟩ := c_tell (v := g.1 66 m) cq6 u4 hW'
    have e1 : ∀ x, x < 24 ∨ (32 ≤ x ∧ x < 67 ∧ x ≠ 63) → g1.1 x = g.1 x := fun x hx => by rw [b2 x (by omega), q6 x (by omega)]
    have e2 : g1.2 = g.2 := by rw [b3, q62]
    -- the reference
    generalize hg4 : ((ob_up (m_Th g1 0).1 0 6 (nI m), (m_Th g1 0).2) : ob_St) = g4
    have r4 : ∀ x, x ≠ 0 → g4.1 x = g1.1 x := fun x hx => by
      rw [← hg4]
      show ob_up (ob_up g1.1 0 0 0) 0 6 (nI m) x = _
      rw [pu_up_ne hx, pu_up_ne hx]
    have r40 : ∀ i, i ≠ 0 → i ≠ 6 → g4.1 0 i = g.1 0 i := fun i x y => by
      rw [← hg4]
      show ob_up (ob_up g1.1 0 0 0) 0 6 (nI m) 0 i = _
      rw [pu_up_eq, pu_upd_ne y, pu_up_eq, pu_upd_ne x, e1 0 (by omega)]
    have r46 : g4.1 0 6 = nI m := by
      rw [← hg4]
      show ob_up (ob_up g1.1 0 0 0) 0 6 (nI m) 0 6 = _
      rw [pu_up_eq, pu_upd_eq]
    have r42 : g4.2 = g.2 := by rw [← hg4]; exact e2
    obtain ⟨g8, c1, c2, c3, c4⟩ := m_copies (g := g4) (n0 := 4) (n2 := 1) (a := 70 * m) (b := 0) rfl rfl (by show 70 * m + 70 ≤ 560; omega) (by show 0 + 70 ≤ 70; omega) (by omega)
    have c1 : f_X12_copies g4 4 (nI (70 * m)) 1 0 = some g8 := c1
    have s8 : g8.1 1 = upd (g.1 1) (ac_c a w) (g.1 66 m) := by
      funext x
      rw [c4 x]
      by_cases c : x < 70
      · rw [if_pos (by omega), r4 4 (by omega), e1 4 (by omega), Nat.sub_zero]
        have := u5 x c
        unfold un_r at this
        rw [if_pos (by omega)] at this
        exact this
      · rw [if_neg (by omega), pu_upd_ne (by omega), r4 1 (by omega), e1 1 (by omega)]
    refine ⟨nI m, g1, (ob_up g8.1 0 19 0, g8.2), ?_, ?_, ?_⟩
    · rw [if_neg n0, Option.bind_some, ev_g63, Option.bind_some, n2, Option.bind_some, nI_pred, ev_p63, Option.bind_some, Option.bind_some, ev_r63_0, Option.bind_some]
      show ((ob_rI (ob_up g.1 63 3 (nI m), g.2) 14 64 (nI m)).bind _) = _
      rw [hg6, ev_a64 (by omega), Option.bind_some, q6 64 (by omega), u2, Option.bind_some, ev_r63_1, Option.bind_some, ev_a65 (by omega), Option.bind_some, q6 65 (by omega), u3, Option.bind_some, ev_r63_2, Option.bind_some, ev_a66 (by omega), Option.bind_some, q6 66 (by omega), b1, ev_ck20, Option.bind_some]
    · show f_X12_undo g1 0 = _
      unfold f_X12_undo
      rw [p, Option.bind_some, ev_g0, Option.bind_some, h06 g1 (e1 0 (by omega)), if_neg n0, Option.bind_some, nI_pred, ev_p0, Option.bind_some]
      show ((ob_gR 12 0 4).bind fun v5 => (ob_gI (ob_up (m_Th g1 0).1 0 6 (nI m), (m_Th g1 0).2) 12 0 6).bind fun v6 => (ob_gR 12 0 1).bind fun v7 => (f_X12_copies (ob_up (m_Th g1 0).1 0 6 (nI m), (m_Th g1 0).2) v5 (70 * v6) v7 0).bind _) = _
      rw [hg4, ev_r0_4, Option.bind_some, ev_g0, Option.bind_some, r46, ev_r0_1, Option.bind_some, pu_mul]
      show ((f_X12_copies g4 4 (nI (70 * m)) 1 0).bind _) = _
      rw [c1, Option.bind_some, pu_pZ (K := 12) (n := 0) rfl (Or.inl rfl), Option.bind_some, ev_g0, Option.bind_some]
      show some (ob_up g8.1 0 19 0 0 6, _) = _
      rw [pu_up_eq, pu_upd_ne (by omega), c2 0 (by omega), r46]
    · have f : ∀ x, x ≠ 0 → x ≠ 1 → ob_up g8.1 0 19 0 x = g1.1 x := fun x y z => by rw [pu_up_ne y, c2 x z, r4 x y]
      have f0 : ∀ i, i ≠ 0 → i ≠ 6 → i ≠ 19 → ob_up g8.1 0 19 0 0 i = g.1 0 i := fun i x y z => by rw [pu_up_eq, pu_upd_ne z, c2 0 (by omega), r40 i x y]
      have f1 : ob_up g8.1 0 19 0 1 = upd (g.1 1) (ac_c a w) (g.1 66 m) := by rw [pu_up_ne (by omega), s8]
      have f2 : g8.2 = g.2 := by rw [c3, r42]
      refine ⟨⟨?_, Or.inl ?_⟩, ?_, ?_, ?_, ?_, ?_⟩
      · show sp_WF (ob_up g8.1 0 19 0 1)
        rw [f1]; exact hW'
      · show ob_up g8.1 0 19 0 0 19 = 0
        rw [pu_up_eq, pu_upd_eq]
      · show c_Q (ob_up g8.1 0 19 0 1) _
        rw [f1]
        exact c_Q_m (fun x hx => f x (by omega) (by omega)) (fun x hx => by show g8.2 x = _; rw [f2, e2]) b4
      · exact I_T_fr ((f 20 (by omega) (by omega)).trans (e1 20 (by omega))) ((f 21 (by omega) (by omega)).trans (e1 21 (by omega))) ((f 6 (by omega) (by omega)).trans (e1 6 (by omega))) (f0 8 (by omega) (by omega) (by omega)) (f0 15 (by omega) (by omega) (by omega)) i3
      · exact I_I_fr ((f 23 (by omega) (by omega)).trans (e1 23 (by omega))) ((f 5 (by omega) (by omega)).trans (e1 5 (by omega))) ((f 3 (by omega) (by omega)).trans (e1 3 (by omega))) (fun x y z => (f x (by omega) (by omega)).trans (e1 x (by omega))) i4
      · generalize hgz : ((ob_up g8.1 0 19 0, g8.2) : ob_St) = gz
        have z1 : gz.1 1 = upd (g.1 1) (ac_c a w) (g.1 66 m) := by rw [← hgz]; exact f1
        have zx : ∀ x, x ≠ 0 → x ≠ 1 → gz.1 x = g1.1 x := fun x y z => by rw [← hgz]; exact f x y z
        have z06 : gz.1 0 6 = nI m := by
          rw [← hgz]
          show ob_up g8.1 0 19 0 0 6 = _
          rw [pu_up_eq, pu_upd_ne (by omega), c2 0 (by omega), r46]
        have row : ∀ i x, i ≤ m → x < 70 → un_r gz m i x = un_r g (m + 1) i x := by
          intro i x hi hx
          by_cases e : i = m
          · subst e
            rw [u5 x hx]
            unfold un_r
            rw [if_neg (by omega), z1]
          · unfold un_r
            rw [if_pos (by omega), if_pos (by omega)]
            show gz.1 4 _ = g.1 4 _
            rw [zx 4 (by omega) (by omega), e1 4 (by omega)]
        refine ⟨m, by omega, by rw [zx 63 (by omega) (by omega), b2 63 (by omega)]; exact q63, z06, fun i hi => ?_⟩
        obtain ⟨v1, a', w', v2, v3, v4, v5⟩ := n4 i (by omega)
        unfold un_ok
        rw [zx 64 (by omega) (by omega), zx 65 (by omega) (by omega), zx 66 (by omega) (by omega), e1 64 (by omega), e1 65 (by omega), e1 66 (by omega)]
        refine ⟨wf_c70 v1 (fun x hx => row i x (by omega) hx), a', w', v2, v3, ac_ok_c (row (i + 1) 2 (by omega) (by omega)) (row (i + 1) 29 (by omega) (by omega)) v4, fun x hx => ?_⟩
        rw [row i x (by omega) hx, v5 x hx]
        by_cases ex : x = ac_c a' w'
        · subst ex; rw [pu_upd_eq, pu_upd_eq]
        · rw [pu_upd_ne ex, pu_upd_ne ex, row (i + 1) x (by omega) hx]
      · exact I_K_fr (by show g8.2 61 = _; rw [f2]) i6
