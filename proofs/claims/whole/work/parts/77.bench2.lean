/-! bench -/
def bn_S (g : ob_St) (n : Nat) : ob_St := (ob_up (ob_up (ob_up (ob_up g.1 0 0 0) 0 9 (nI n)) 0 8 0) 0 15 0, g.2)
theorem bn_f {g : ob_St} {n : Nat} : (∀ x, x ≠ 0 → (bn_S g n).1 x = g.1 x) ∧ (bn_S g n).2 = g.2 ∧ (bn_S g n).1 0 8 = 0 ∧ (bn_S g n).1 0 9 = nI n ∧ (bn_S g n).1 0 15 = 0 ∧ ∀ i, i ≠ 0 → i ≠ 8 → i ≠ 9 → i ≠ 15 → (bn_S g n).1 0 i = g.1 0 i := by
  have e : ∀ i, (bn_S g n).1 0 i = upd (upd (upd (upd (g.1 0) 0 0) 9 (nI n)) 8 0) 15 0 i := fun i => by
    show ob_up (ob_up (ob_up (ob_up g.1 0 0 0) 0 9 (nI n)) 0 8 0) 0 15 0 0 i = _
    rw [pu_up_eq, pu_up_eq, pu_up_eq, pu_up_eq]
  refine ⟨fun x hx => ?_, rfl, ?_, ?_, ?_, fun i a b c d => ?_⟩
  · show ob_up (ob_up (ob_up (ob_up g.1 0 0 0) 0 9 (nI n)) 0 8 0) 0 15 0 x = _
    rw [pu_up_ne hx, pu_up_ne hx, pu_up_ne hx, pu_up_ne hx]
  · rw [e, pu_upd_ne (by omega), pu_upd_eq]
  · rw [e, pu_upd_ne (by omega), pu_upd_ne (by omega), pu_upd_eq]
  · rw [e, pu_upd_eq]
  · rw [e, pu_upd_ne d, pu_upd_ne b, pu_upd_ne c, pu_upd_ne a]
theorem m_Q_f {g g' : ob_St} (h1 : g'.1 1 = g.1 1) (h19 : g'.1 0 19 = g.1 0 19) (h12 : g'.1 12 = g.1 12) (h13 : g'.1 13 = g.1 13) (h2 : ∀ n, n < 19 → g'.2 n = g.2 n) (hQ : m_Q g) : m_Q g' := by
  unfold m_Q m_Laid m_Pw m_H at hQ ⊢
  rw [h1, h19, h12, h13, h2 9 (by omega), h2 10 (by omega), h2 11 (by omega)]
  exact hQ
theorem PR_bench {g : ob_St} (hI : Inv g) : PR (f_X11_bench g 20) (fun g1 => f_X12_bench g1 0) := by
  obtain ⟨i1, i2, ⟨n, n1, n2, n3, n4, n5⟩, i4, i5, i6⟩ := id hI
  have hW := i2.1
  -- what both read, whatever the class has left
  have RTg : ∀ g1 : ob_St, (∀ x, x < 19 → g1.1 x = g.1 x) → _ := fun g1 e => RT (g := g) (gm := bn_S g1 n) (b := g.1 6) (n := n) i6 n1 (fun i hi => (n4 i hi).1) bn_f.2.2.2.1 (fun i hi => ⟨by rw [bn_f.1 6 (by omega), e 6 (by omega)], (n4 i hi).2⟩) bn_f.2.2.2.2.1
  have mst : ∀ g1 : ob_St, (∀ x, x < 19 → g1.1 x = g.1 x) → f_X12_bench g1 0 = (f_X12_reads (bn_S g1 n) 0).bind fun v6 => (if v6.1 = 0 then ((ob_gI v6.2 12 0 16).bind fun v14 => some (((-1000) - v14), v6.2)) else ((ob_gR 12 0 2).bind fun v7 => (ob_gR 12 0 1).bind fun v8 => (f_X12_copies v6.2 v7 0 v8 0).bind fun g9 => (ob_pI g9 12 0 6 0).bind fun g10 => (ob_pZ g10 12 0 19 0).bind fun g11 => (ob_gR 12 0 1).bind fun v12 => (ob_rI g11 14 v12 29).bind fun v13 => some (v13, g11))) := fun g1 e => by
    unfold f_X12_bench
    rw [ev_p0, Option.bind_some, ev_g0, Option.bind_some, o_ne (by omega), e 0 (by omega), n3, ev_p0, Option.bind_some, ev_p0, Option.bind_some, ev_p0, Option.bind_some, ev_ck0]
    rfl
  have cst : f_X11_bench g 20 = (f_X7_readText g 56 (nI n)).bind fun v3 => (ob_pI v3.2 11 20 1 0).bind fun g4 => (ob_gI g4 7 56 1).bind fun v6 => (ob_pI g4 11 20 2 v6).bind fun g7 => (if v3.1 = 0 then ((ob_gI g7 7 56 2).bind fun v19 => some (((-1000) - v19), g7)) else ((ob_ck 5 24 (f_X5_copyFrom g7 24 32)).bind fun g11 => (ob_pI g11 0 63 3 0).bind fun g13 => (ob_pZ g13 3 67 6 1).bind fun g15 => (ob_gI g15 5 24 6).bind fun v17 => some (v17, g15))) := by
    unfold f_X11_bench
    rw [ev_r20_6, Option.bind_some, ev_g20, Option.bind_some, n2, ev_ck56, ev_r20_3, ev_r20_7, ev_r20_8]
    rfl
  rw [PR, cst]
  rcases RTg g (fun _ _ => rfl) with ⟨gc, _, r1, _, f1, _⟩ | ⟨gc, _, r1, _, f1, _⟩
  · -- the text is taken
    generalize hg7 : ((ob_up (ob_up gc.1 20 1 0) 20 2 (gc.1 56 1), gc.2) : ob_St) = g7
    have a1 : ∀ x, x ≠ 20 → g7.1 x = gc.1 x := fun x hx => by
      rw [← hg7]
      show ob_up (ob_up gc.1 20 1 0) 20 2 (gc.1 56 1) x = _
      rw [pu_up_ne hx, pu_up_ne hx]
    have a2 : g7.2 = gc.2 := by rw [← hg7]
    have a3 : g7.1 20 1 = 0 := by rw [← hg7, u_ne (by omega), pu_up_eq, pu_upd_eq]
    have a4 : g7.1 20 2 = gc.1 56 1 := by rw [← hg7]; exact u_eq
    obtain ⟨g11, d1, d2, d3, d4, d5, d6⟩ := c_copy (g := g7) (b := 24) (b' := 32) (Or.inl rfl) (Or.inr (Or.inl rfl)) (by omega)
    generalize hg15 : ((ob_up (ob_up g11.1 63 3 0) 67 6 1, g11.2) : ob_St) = g15
    have b1 : ∀ x, x ≠ 63 → x ≠ 67 → g15.1 x = g11.1 x := fun x c d => by
      rw [← hg15]
      show ob_up (ob_up g11.1 63 3 0) 67 6 1 x = _
      rw [pu_up_ne d, pu_up_ne c]
    have b63 : g15.1 63 3 = 0 := by
      rw [← hg15]
      show ob_up (ob_up g11.1 63 3 0) 67 6 1 63 3 = _
      rw [pu_up_ne (by omega), pu_up_eq, pu_upd_eq]
    have b67 : g15.1 67 6 = 1 := by rw [← hg15]; exact u_eq
    have b2 : g15.2 = g11.2 := by rw [← hg15]
    have eC : ∀ x, x ≠ 20 → ¬ (24 ≤ x ∧ x < 32) → ¬ (32 ≤ x ∧ x < 40) → x ≠ 56 → x ≠ 58 → x ≠ 59 → x ≠ 63 → x ≠ 67 → g15.1 x = g.1 x := fun x y1 y2 y3 y4 y5 y6 y7 y8 => by rw [b1 x y7 y8, d2 x (by omega), a1 x y1, f1.1 x y4 y5 y6 y3]
    have eC2 : ∀ x, x ≠ 60 → x ≠ 62 → g15.2 x = g.2 x := fun x y1 y2 => by rw [b2, d3, a2, f1.2 x y1 y2]
    have pC : ((f_X7_readText g 56 (nI n)).bind fun v3 => (ob_pI v3.2 11 20 1 0).bind fun g4 => (ob_gI g4 7 56 1).bind fun v6 => (ob_pI g4 11 20 2 v6).bind fun g7 => (if v3.1 = 0 then ((ob_gI g7 7 56 2).bind fun v19 => some (((-1000) - v19), g7)) else ((ob_ck 5 24 (f_X5_copyFrom g7 24 32)).bind fun g11 => (ob_pI g11 0 63 3 0).bind fun g13 => (ob_pZ g13 3 67 6 1).bind fun g15 => (ob_gI g15 5 24 6).bind fun v17 => some (v17, g15)))) = some (g15.1 24 6, g15) := by
      rw [r1, Option.bind_some]
      dsimp only
      rw [ev_p20, Option.bind_some, ev_g56, Option.bind_some, ev_p20, Option.bind_some, if_neg one0]
      show ((ob_ck 5 24 (f_X5_copyFrom (ob_up (ob_up gc.1 20 1 0) 20 2 (ob_up gc.1 20 1 0 56 1), gc.2) 24 32)).bind _) = _
      rw [pu_up_ne (show (56 : Nat) ≠ 20 by omega), hg7, d1, ev_ck24, Option.bind_some, ev_p63, Option.bind_some, pu_pZ (K := 3) (n := 67) rfl (Or.inr rfl), Option.bind_some]
      show ((ob_gI (ob_up (ob_up g11.1 63 3 0) 67 6 1, g11.2) 5 24 6).bind fun v17 => some (v17, (ob_up (ob_up g11.1 63 3 0) 67 6 1, g11.2))) = _
      rw [hg15, ev_g24, Option.bind_some]
    have eM : ∀ x, x < 19 → g15.1 x = g.1 x := fun x hx => eC x (by omega) (by omega) (by omega) (by omega) (by omega) (by omega) (by omega) (by omega)
    rcases RTg g15 eM with ⟨gc', gm', s1, s2, _, s4, s5, s6, s7⟩ | ⟨gc', gm', s1, _⟩
    · rw [r1] at s1
      have s1 : gc = gc' := by cases s1; rfl
      subst s1
      have h4 := wf_4 s6
      obtain ⟨p1, p2, p3, p4, p5, p6⟩ := bn_f (g := g15) (n := n)
      obtain ⟨g9, c1, c2, c3, c4⟩ := m_copies (g := gm') (n0 := 2) (n2 := 1) (a := 0) (b := 0) rfl rfl (by show 0 + 70 ≤ 70; omega) (by show 0 + 70 ≤ 70; omega) (by omega)
      have c1 : f_X12_copies gm' 2 0 1 0 = some g9 := c1
      generalize hgz : ((ob_up (ob_up g9.1 0 6 0) 0 19 0, g9.2) : ob_St) = gz
      have z1 : ∀ x, x ≠ 0 → gz.1 x = g9.1 x := fun x hx => by
        rw [← hgz]
        show ob_up (ob_up g9.1 0 6 0) 0 19 0 x = _
        rw [pu_up_ne hx, pu_up_ne hx]
      have z2 : gz.2 = gm'.2 := by rw [← hgz]; exact c3
      have z19 : gz.1 0 19 = 0 := by rw [← hgz]; exact u_eq
      have z6 : gz.1 0 6 = 0 := by rw [← hgz, u_ne (by omega), pu_up_eq, pu_upd_eq]
      have z0 : ∀ i, i ≠ 6 → i ≠ 19 → gz.1 0 i = gm'.1 0 i := fun i c d => by rw [← hgz, u_ne d, pu_up_eq, pu_upd_ne c, c2 0 (by omega)]
      have row : ∀ x, x < 70 → gz.1 1 x = gm'.1 2 x := fun x hx => by rw [z1 1 (by omega), c4 x, if_pos (by omega), Nat.sub_zero, Nat.zero_add]
      have hW' : sp_WF (gz.1 1) := wf_c70 s6 row
      have q : ∀ x, x ≠ 0 → x ≠ 1 → x ≠ 2 → x ≠ 7 → x ≠ 8 → gz.1 x = g15.1 x := fun x y0 y1 y2 y7 y8 => by rw [z1 x y0, c2 x y1, s4.1 x y0 y2 y7 y8, p1 x y0]
      have q2 : gz.2 = g15.2 := by rw [z2, s4.2.2, p2]
      have M24 : c_M 24 (gz.1 1) gz := by
        have M1 : c_M 24 (gm'.1 2) g11 := c_M_copy d4 d5 d6 h4 (c_M_fr h4 (fun x y1 y2 => a1 x (by omega)) s7)
        have M2 : c_M 24 (gm'.1 2) gz := c_M_fr h4 (fun x y1 y2 => by rw [q x (by omega) (by omega) (by omega) (by omega) (by omega), b1 x (by omega) (by omega)]) M1
        exact c_M_c70 row h4 M2
      refine ⟨g15.1 24 6, g15, gz, pC, ?_, ⟨hW', Or.inl z19⟩, ⟨hW', M24, Or.inl ?_⟩, ?_, ?_, ?_, ?_⟩
      · show f_X12_bench g15 0 = _
        rw [mst g15 eM, s2, Option.bind_some]
        dsimp only
        rw [if_neg one0, ev_r0_2, Option.bind_some, ev_r0_1, Option.bind_some, c1, Option.bind_some, ev_p0, Option.bind_some, pu_pZ (K := 12) (n := 0) rfl (Or.inl rfl), Option.bind_some, Option.bind_some]
        show ((ob_rI (ob_up (ob_up g9.1 0 6 0) 0 19 0, g9.2) 14 1 29).bind fun v13 => some (v13, (ob_up (ob_up g9.1 0 6 0) 0 19 0, g9.2))) = _
        have r29 : ob_rI gz 14 1 29 = some (gz.1 1 29) := ev_l1 (i := 29) (by show 29 < 70; omega)
        rw [hgz, r29, Option.bind_some, row 29 (by omega), b1 24 (by omega) (by omega), d4 6 (by omega) (by omega), a1 32 (by omega), s7.2.2.2.1]
      · rw [q 67 (by omega) (by omega) (by omega) (by omega) (by omega)]; exact b67
      · refine ⟨0, by omega, ?_, ?_, fun i hi => by omega, ?_⟩
        · rw [q 20 (by omega) (by omega) (by omega) (by omega) (by omega), b1 20 (by omega) (by omega), d2 20 (by omega)]; exact a3
        · rw [z0 8 (by omega) (by omega), s4.2.1 8 (by omega)]; exact p3
        · rw [q 20 (by omega) (by omega) (by omega) (by omega) (by omega), b1 20 (by omega) (by omega), d2 20 (by omega), a4, z0 15 (by omega) (by omega)]; exact s5
      · have e : ∀ x, x ≠ 0 → x ≠ 1 → x ≠ 2 → x ≠ 7 → x ≠ 8 → x ≠ 20 → ¬ (24 ≤ x ∧ x < 40) → x < 56 → gz.1 x = g.1 x := fun x y0 y1 y2 y7 y8 y20 yM y56 => by rw [q x y0 y1 y2 y7 y8, eC x y20 (by omega) (by omega) (by omega) (by omega) (by omega) (by omega) (by omega)]
        exact I_I_fr (e 23 (by omega) (by omega) (by omega) (by omega) (by omega) (by omega) (by omega) (by omega)) (e 5 (by omega) (by omega) (by omega) (by omega) (by omega) (by omega) (by omega) (by omega)) (e 3 (by omega) (by omega) (by omega) (by omega) (by omega) (by omega) (by omega) (by omega)) (fun x y1 y2 => e x (by omega) (by omega) (by omega) (by omega) (by omega) (by omega) (by omega) (by omega)) i4
      · exact ⟨0, by omega, by rw [q 63 (by omega) (by omega) (by omega) (by omega) (by omega)]; exact b63, z6, fun i hi => by omega⟩
      · exact I_K_fr (by rw [q2]; exact eC2 61 (by omega) (by omega)) i6
    · rw [r1] at s1
      exact absurd s1 (fun z => one0 (congrArg (fun o => (o.getD (0, g)).1) z))
  · -- a fault
    generalize hg7 : ((ob_up (ob_up gc.1 20 1 0) 20 2 (gc.1 56 1), gc.2) : ob_St) = g7
    have a1 : ∀ x, x ≠ 20 → g7.1 x = gc.1 x := fun x hx => by
      rw [← hg7]
      show ob_up (ob_up gc.1 20 1 0) 20 2 (gc.1 56 1) x = _
      rw [pu_up_ne hx, pu_up_ne hx]
    have a2 : g7.2 = gc.2 := by rw [← hg7]
    have a3 : g7.1 20 1 = 0 := by rw [← hg7, u_ne (by omega), pu_up_eq, pu_upd_eq]
    have a4 : g7.1 20 2 = gc.1 56 1 := by rw [← hg7]; exact u_eq
    have eC : ∀ x, x ≠ 20 → ¬ (32 ≤ x ∧ x < 40) → x ≠ 56 → x ≠ 58 → x ≠ 59 → g7.1 x = g.1 x := fun x y1 y3 y4 y5 y6 => by rw [a1 x y1, f1.1 x y4 y5 y6 y3]
    have eC2 : ∀ x, x ≠ 60 → x ≠ 62 → g7.2 x = g.2 x := fun x y1 y2 => by rw [a2, f1.2 x y1 y2]
    have pC : ((f_X7_readText g 56 (nI n)).bind fun v3 => (ob_pI v3.2 11 20 1 0).bind fun g4 => (ob_gI g4 7 56 1).bind fun v6 => (ob_pI g4 11 20 2 v6).bind fun g7 => (if v3.1 = 0 then ((ob_gI g7 7 56 2).bind fun v19 => some (((-1000) - v19), g7)) else ((ob_ck 5 24 (f_X5_copyFrom g7 24 32)).bind fun g11 => (ob_pI g11 0 63 3 0).bind fun g13 => (ob_pZ g13 3 67 6 1).bind fun g15 => (ob_gI g15 5 24 6).bind fun v17 => some (v17, g15)))) = some (-1000 - gc.1 56 2, g7) := by
      rw [r1, Option.bind_some]
      dsimp only
      rw [ev_p20, Option.bind_some, ev_g56, Option.bind_some, ev_p20, Option.bind_some, if_pos rfl]
      show ((ob_gI (ob_up (ob_up gc.1 20 1 0) 20 2 (ob_up gc.1 20 1 0 56 1), gc.2) 7 56 2).bind fun v19 => some (-1000 - v19, (ob_up (ob_up gc.1 20 1 0) 20 2 (ob_up gc.1 20 1 0 56 1), gc.2))) = _
      rw [pu_up_ne (show (56 : Nat) ≠ 20 by omega), hg7, ev_g56, Option.bind_some, a1 56 (by omega)]
    have eM : ∀ x, x < 19 → g7.1 x = g.1 x := fun x hx => eC x (by omega) (by omega) (by omega) (by omega) (by omega)
    rcases RTg g7 eM with ⟨gc', gm', s1, _⟩ | ⟨gc', gm', s1, s2, _, s4, s5, s6⟩
    · rw [r1] at s1
      exact absurd s1 (fun z => one0 (congrArg (fun o => (o.getD (0, g)).1) z).symm)
    · rw [r1] at s1
      have s1 : gc = gc' := by cases s1; rfl
      subst s1
      obtain ⟨p1, p2, p3, p4, p5, p6⟩ := bn_f (g := g7) (n := n)
      have q : ∀ x, x ≠ 0 → x ≠ 2 → x ≠ 7 → x ≠ 8 → gm'.1 x = g7.1 x := fun x y0 y2 y7 y8 => by rw [s4.1 x y0 y2 y7 y8, p1 x y0]
      have q2 : gm'.2 = g7.2 := by rw [s4.2.2, p2]
      have q0 : ∀ i, i ≠ 0 → i ≠ 8 → i ≠ 9 → (i < 10 ∨ 16 < i) → gm'.1 0 i = g.1 0 i := fun i y0 y8 y9 h => by rw [s4.2.1 i h, p6 i y0 y8 y9 (by omega), eM 0 (by omega)]
      have e : ∀ x, x ≠ 0 → x ≠ 2 → x ≠ 7 → x ≠ 8 → x ≠ 20 → ¬ (32 ≤ x ∧ x < 40) → x ≠ 56 → x ≠ 58 → x ≠ 59 → gm'.1 x = g.1 x := fun x y0 y2 y7 y8 y20 yM y56 y58 y59 => by rw [q x y0 y2 y7 y8, eC x y20 yM y56 y58 y59]
      have e2 : ∀ x, x ≠ 60 → x ≠ 62 → gm'.2 x = g.2 x := fun x y z => by rw [q2, eC2 x y z]
      refine ⟨-1000 - gc.1 56 2, g7, gm', pC, ?_, ?_, ?_, ?_, ?_, ?_, ?_⟩
      · show f_X12_bench g7 0 = _
        rw [mst g7 eM, s2, Option.bind_some]
        dsimp only
        rw [if_pos rfl, ev_g0, Option.bind_some, s6]
      · exact m_Q_f (e 1 (by omega) (by omega) (by omega) (by omega) (by omega) (by omega) (by omega) (by omega) (by omega)) (q0 19 (by omega) (by omega) (by omega) (by omega)) (e 12 (by omega) (by omega) (by omega) (by omega) (by omega) (by omega) (by omega) (by omega) (by omega)) (e 13 (by omega) (by omega) (by omega) (by omega) (by omega) (by omega) (by omega) (by omega) (by omega)) (fun x hx => e2 x (by omega) (by omega)) i1
      · rw [e 1 (by omega) (by omega) (by omega) (by omega) (by omega) (by omega) (by omega) (by omega) (by omega)]
        refine ⟨hW, c_M_fr (wf_4 hW) (fun x y1 y2 => e x (by omega) (by omega) (by omega) (by omega) (by omega) (by omega) (by omega) (by omega) (by omega)) i2.2.1, ?_⟩
        rw [e 67 (by omega) (by omega) (by omega) (by omega) (by omega) (by omega) (by omega) (by omega) (by omega)]
        exact i2.2.2.imp (fun x => x) (fun x => ⟨x.1, c_Lat_m hW (fun n hn => e n (by omega) (by omega) (by omega) (by omega) (by omega) (by omega) (by omega) (by omega) (by omega)) (fun n hn => e2 n (by omega) (by omega)) x.2⟩)
      · refine ⟨0, by omega, ?_, ?_, fun i hi => by omega, ?_⟩
        · rw [q 20 (by omega) (by omega) (by omega) (by omega)]; exact a3
        · rw [s4.2.1 8 (by omega)]; exact p3
        · rw [q 20 (by omega) (by omega) (by omega) (by omega), a4]; exact s5
      · exact I_I_fr (e 23 (by omega) (by omega) (by omega) (by omega) (by omega) (by omega) (by omega) (by omega) (by omega)) (e 5 (by omega) (by omega) (by omega) (by omega) (by omega) (by omega) (by omega) (by omega) (by omega)) (e 3 (by omega) (by omega) (by omega) (by omega) (by omega) (by omega) (by omega) (by omega) (by omega)) (fun x y1 y2 => e x (by omega) (by omega) (by omega) (by omega) (by omega) (by omega) (by omega) (by omega) (by omega)) i4
      · exact I_U_fr (e 1 (by omega) (by omega) (by omega) (by omega) (by omega) (by omega) (by omega) (by omega) (by omega)) (e 4 (by omega) (by omega) (by omega) (by omega) (by omega) (by omega) (by omega) (by omega) (by omega)) (by rw [e 63 (by omega) (by omega) (by omega) (by omega) (by omega) (by omega) (by omega) (by omega) (by omega)]) (e 64 (by omega) (by omega) (by omega) (by omega) (by omega) (by omega) (by omega) (by omega) (by omega)) (e 65 (by omega) (by omega) (by omega) (by omega) (by omega) (by omega) (by omega) (by omega) (by omega)) (e 66 (by omega) (by omega) (by omega) (by omega) (by omega) (by omega) (by omega) (by omega) (by omega)) (q0 6 (by omega) (by omega) (by omega) (by omega)) i5
      · exact I_K_fr (e2 61 (by omega) (by omega)) i6
