/-! the whole text, and bench -/
theorem c_clearM {g : ob_St} : ∃ g', f_X5_clear g 32 = some g' ∧ (∀ x, x ≠ 32 → x ≠ 33 → x ≠ 34 → g'.1 x = g.1 x) ∧ g'.2 = g.2 ∧ g'.1 32 3 = 100 ∧ g'.1 32 4 = 2 ∧ g'.1 32 5 = 0 ∧ g'.1 32 6 = 0 ∧ ∀ t, t ≤ 12 → g'.1 33 t = 0 ∧ g'.1 34 t = 0 := by
  generalize hg4 : ((ob_up (ob_up (ob_up (ob_up g.1 32 3 100) 32 4 2) 32 5 0) 32 6 0, g.2) : ob_St) = g4
  have e : ∀ x, x ≠ 32 → g4.1 x = g.1 x := fun x hx => by
    rw [← hg4]
    show ob_up (ob_up (ob_up (ob_up g.1 32 3 100) 32 4 2) 32 5 0) 32 6 0 x = _
    rw [pu_up_ne hx, pu_up_ne hx, pu_up_ne hx, pu_up_ne hx]
  have f : ∀ j, g4.1 32 j = upd (upd (upd (upd (g.1 32) 3 100) 4 2) 5 0) 6 0 j := fun j => by
    rw [← hg4]
    show ob_up (ob_up (ob_up (ob_up g.1 32 3 100) 32 4 2) 32 5 0) 32 6 0 32 j = _
    rw [pu_up_eq, pu_up_eq, pu_up_eq, pu_up_eq]
  obtain ⟨r, h1, a1, a2, a3⟩ := pu_up (fun f s i => L_X5_clear_23 32 f s (nI i)) (fun t s => (∀ x, x ≠ 33 → x ≠ 34 → s.1 x = g4.1 x) ∧ s.2 = g4.2 ∧ ∀ u, u < t → s.1 33 u = 0 ∧ s.1 34 u = 0) 13 (fun s => (∀ x, x ≠ 33 → x ≠ 34 → s.1 x = g4.1 x) ∧ s.2 = g4.2 ∧ ∀ u, u < 13 → s.1 33 u = 0 ∧ s.1 34 u = 0)
    (fun f s hI => ⟨s, by
      have h12 : (12 : Int32) < nI 13 := nI_lt (a := 12) (by omega) (by omega)
      show Lb_X5_clear_23 _ _ _ _ = _
      unfold Lb_X5_clear_23
      rw [if_pos h12], hI⟩)
    (fun f t s ht hI => by
      obtain ⟨a1, a2, a3⟩ := hI
      have h12 : ¬ (12 : Int32) < nI t := nI_nlt (a := 12) (by omega) (by omega)
      refine ⟨(ob_up (ob_up s.1 33 t 0) 34 t 0, s.2), ⟨fun x c d => ?_, a2, fun u hu => ?_⟩, ?_⟩
      · show ob_up (ob_up s.1 33 t 0) 34 t 0 x = _
        rw [pu_up_ne d, pu_up_ne c, a1 x c d]
      · show ob_up (ob_up s.1 33 t 0) 34 t 0 33 u = _ ∧ ob_up (ob_up s.1 33 t 0) 34 t 0 34 u = _
        rw [pu_up_ne (by omega), pu_up_eq, pu_up_eq, pu_up_ne (by omega)]
        by_cases c : u = t
        · rw [c, pu_upd_eq, pu_upd_eq]; exact ⟨rfl, rfl⟩
        · rw [pu_upd_ne c, pu_upd_ne c]; exact a3 u (by omega)
      · show Lb_X5_clear_23 _ _ _ _ = _
        unfold Lb_X5_clear_23
        rw [if_neg h12, ev_r32_0, Option.bind_some, ev_w33 (by omega), Option.bind_some, ev_r32_1, Option.bind_some, ev_w34 (by omega), Option.bind_some, nI_1])
    13 0 ob_FU g4 (by omega) (by unfold ob_FU; omega) ⟨fun _ _ _ => rfl, rfl, fun u hu => by omega⟩
  have h1 : L_X5_clear_23 32 ob_FU g4 0 = some r := h1
  refine ⟨r, ?_, fun x a c d => by rw [a1 x c d, e x a], by rw [a2, ← hg4], ?_, ?_, ?_, ?_, fun t ht => a3 t (by omega)⟩
  · unfold f_X5_clear
    rw [ev_p32, Option.bind_some, ev_p32, Option.bind_some, ev_p32, Option.bind_some, ev_p32, Option.bind_some]
    show ((L_X5_clear_23 32 ob_FU (ob_up (ob_up (ob_up (ob_up g.1 32 3 100) 32 4 2) 32 5 0) 32 6 0, g.2) 0).bind _) = _
    rw [hg4, h1, Option.bind_some]
  · rw [a1 32 (by omega) (by omega), f, pu_upd_ne (by omega), pu_upd_ne (by omega), pu_upd_ne (by omega), pu_upd_eq]
  · rw [a1 32 (by omega) (by omega), f, pu_upd_ne (by omega), pu_upd_ne (by omega), pu_upd_eq]
  · rw [a1 32 (by omega) (by omega), f, pu_upd_ne (by omega), pu_upd_eq]
  · rw [a1 32 (by omega) (by omega), f, pu_upd_eq]
theorem m_bare {g : ob_St} : ∃ g', f_X12_bare g 2 = some g' ∧ (∀ x, x ≠ 2 → g'.1 x = g.1 x) ∧ g'.2 = g.2 ∧ g'.1 2 0 = 100 ∧ g'.1 2 1 = 2 ∧ ∀ j, 2 ≤ j → j < 70 → g'.1 2 j = 0 := by
  obtain ⟨r, h1, a1, a2, a3⟩ := pu_up (fun f s i => L_X12_bare_2 2 f s (nI i)) (fun t s => (∀ x, x ≠ 2 → s.1 x = g.1 x) ∧ s.2 = g.2 ∧ ∀ u, u < t → s.1 2 u = 0) 70 (fun s => (∀ x, x ≠ 2 → s.1 x = g.1 x) ∧ s.2 = g.2 ∧ ∀ u, u < 70 → s.1 2 u = 0)
    (fun f s hI => ⟨s, by
      have h70 : (70 : Int32) ≤ nI 70 := nI_le (a := 70) (by omega) (by omega)
      show Lb_X12_bare_2 _ _ _ _ = _
      unfold Lb_X12_bare_2
      rw [if_pos h70], hI⟩)
    (fun f t s ht hI => by
      obtain ⟨a1, a2, a3⟩ := hI
      have h70 : ¬ (70 : Int32) ≤ nI t := nI_ge (b := 70) ht (by omega)
      refine ⟨(ob_up s.1 2 t 0, s.2), ⟨fun x c => (pu_up_ne c).trans (a1 x c), a2, fun u hu => ?_⟩, ?_⟩
      · by_cases c : u = t
        · rw [c]; exact u_eq
        · exact (u_ne c).trans (a3 u (by omega))
      · show Lb_X12_bare_2 _ _ _ _ = _
        unfold Lb_X12_bare_2
        rw [if_neg h70, ev_w2 ht, Option.bind_some, nI_1])
    70 0 ob_FU g (by omega) (by unfold ob_FU; omega) ⟨fun _ _ => rfl, rfl, fun u hu => by omega⟩
  have h1 : L_X12_bare_2 2 ob_FU g 0 = some r := h1
  have w0 : ob_wI r 2 0 100 = some (ob_up r.1 2 0 100, r.2) := pu_wI (n := 2) (i := 0) rfl rfl (by show 0 < 70; omega)
  have w1 : ob_wI (ob_up r.1 2 0 100, r.2) 2 1 2 = some (ob_up (ob_up r.1 2 0 100) 2 1 2, r.2) := pu_wI (n := 2) (i := 1) rfl rfl (by show 1 < 70; omega)
  refine ⟨(ob_up (ob_up r.1 2 0 100) 2 1 2, r.2), ?_, fun x c => (pu_up_ne c).trans ((pu_up_ne c).trans (a1 x c)), a2, ?_, u_eq, fun j c d => ?_⟩
  · unfold f_X12_bare
    rw [h1, Option.bind_some, w0, Option.bind_some, w1, Option.bind_some]
  · exact (u_ne (by omega)).trans (by rw [pu_up_eq, pu_upd_eq])
  · exact (u_ne (by omega)).trans (by rw [pu_up_eq, pu_upd_ne (by omega)]; exact a3 j d)
def c_F3 (g0 g : ob_St) : Prop := (∀ x, x ≠ 56 → x ≠ 58 → x ≠ 59 → ¬ (32 ≤ x ∧ x < 40) → g.1 x = g0.1 x) ∧ ∀ x, x ≠ 60 → x ≠ 62 → g.2 x = g0.2 x
theorem RT {g gm : ob_St} {b : Nat → Int32} {n : Nat} (hK : I_K g) (hn : n ≤ 540) (hb : ∀ i, i < n → g.1 21 i = b i) (h9 : gm.1 0 9 = nI n) (h6 : ∀ i, i < n → gm.1 6 i = b i ∧ by_ok (b i)) (h15 : gm.1 0 15 = 0) :
    (∃ gc' gm', f_X7_readText g 56 (nI n) = some (1, gc') ∧ f_X12_reads gm 0 = some (1, gm') ∧ c_F3 g gc' ∧ m_Fr gm gm' ∧ gc'.1 56 1 = gm'.1 0 15 ∧ sp_WF (gm'.1 2) ∧ c_M 32 (gm'.1 2) gc') ∨
    (∃ gc' gm', f_X7_readText g 56 (nI n) = some (0, gc') ∧ f_X12_reads gm 0 = some (0, gm') ∧ c_F3 g gc' ∧ m_Fr gm gm' ∧ gc'.1 56 1 = gm'.1 0 15 ∧ gc'.1 56 2 = gm'.1 0 16) := by
  obtain ⟨g4, c1, c2, c3, c4, c5, c6, c7, c8⟩ := c_clearM (g := (ob_up (ob_up g.1 56 1 0) 56 2 0, g.2))
  generalize hg5 : ((ob_up g4.1 56 5 0, g4.2) : ob_St) = g5
  have q1 : ∀ x, x ≠ 56 → x ≠ 32 → x ≠ 33 → x ≠ 34 → g5.1 x = g.1 x := fun x a c d e => by
    rw [← hg5]
    show ob_up g4.1 56 5 0 x = _
    rw [pu_up_ne a, c2 x c d e]
    show ob_up (ob_up g.1 56 1 0) 56 2 0 x = _
    rw [pu_up_ne a, pu_up_ne a]
  have q2 : g5.2 = g.2 := by rw [← hg5]; show g4.2 = _; rw [c3]
  have q5 : g5.1 56 5 = 0 := by rw [← hg5]; exact u_eq
  have q56 : g5.1 56 1 = 0 := by
    rw [← hg5, u_ne (by omega), c2 56 (by omega) (by omega) (by omega)]
    show ob_up (ob_up g.1 56 1 0) 56 2 0 56 1 = _
    rw [pu_up_eq, pu_upd_ne (by omega), pu_up_eq, pu_upd_eq]
  have q4 : ∀ x, 32 ≤ x → x < 56 → g5.1 x = g4.1 x := fun x a c => by rw [← hg5]; show ob_up g4.1 56 5 0 x = _; rw [pu_up_ne (by omega)]
  obtain ⟨gb, b1, b2, b3, b4, b5, b6⟩ := m_bare (g := gm)
  unfold f_X7_readText f_X12_reads
  rw [ev_p56, Option.bind_some, ev_p56, Option.bind_some, ev_r56_0, Option.bind_some, c1, ev_ck32, Option.bind_some, ev_p56, Option.bind_some, hg5, ev_r0_2, Option.bind_some, b1, Option.bind_some, ev_g0, Option.bind_some, b2 0 (by omega), h9]
  have fr0 : m_Fr gm gb := ⟨fun x _ c _ _ => b2 x c, fun i _ => by rw [b2 0 (by omega)], b3⟩
  by_cases c500 : n ≤ 500
  · have c500' : nI n ≤ 500 := nI_le (b := 500) c500 (by omega)
    obtain ⟨g7, m, s1, s2, s3, s4⟩ := c_scan (g := g5) (b := b) (n := n) (I_K_fr (by rw [q2]) hK) (fun i hi => by rw [q1 21 (by omega) (by omega) (by omega) (by omega)]; exact hb i hi) c500
    have hTb : m_T b n (ob_up gb.1 0 10 0, gb.2) := by
      refine ⟨(o_ne (by omega)).trans (by rw [b2 0 (by omega)]; exact h9), c500, fun i hi => ⟨?_, (h6 i hi).2⟩⟩
      show ob_up gb.1 0 10 0 6 i = _
      rw [pu_up_ne (by omega), b2 6 (by omega)]
      exact (h6 i hi).1
    obtain ⟨gm5, t1, t2, t3⟩ := m_next (p := 0) hTb o_eq (by omega)
    have e2 : gm5.1 2 = gb.1 2 := by rw [t2.1 2 (by omega) (by omega)]; show ob_up gb.1 0 10 0 2 = _; rw [pu_up_ne (by omega)]
    have fr5 : m_Fr gm gm5 := by
      refine ⟨fun x a c d e => ?_, fun i hi => ?_, by rw [t2.2.2]; exact b3⟩
      · rw [t2.1 x a d]; show ob_up gb.1 0 10 0 x = _; rw [pu_up_ne a, b2 x c]
      · rw [t2.2.1 i (by omega), o_ne (by omega), b2 0 (by omega)]
    have f15 : gm5.1 0 15 = 0 := by rw [t2.2.1 15 (by omega), o_ne (by omega), b2 0 (by omega), h15]
    have e7 : ∀ x, x ≠ 58 → x ≠ 59 → g7.1 x = g5.1 x := s3
    have B0 : BR g7 gm b n m 0 g7 gm5 := ⟨⟨s2, by omega, by rw [e7 56 (by omega) (by omega)]; exact q5, m_T_fr t2 hTb, t3⟩, ⟨fun _ _ _ => rfl, fun _ _ => rfl⟩, fr5, by rw [e7 56 (by omega) (by omega), q56, f15]⟩
    have z0 : ∀ j, 2 ≤ j → j < 70 → gm5.1 2 j = 0 := fun j a c => by rw [e2]; exact b6 j a c
    have zn : ∀ j, 2 ≤ j → j < 70 → sN (gm5.1 2) j = 0 := fun j a c => sN_nI (a := 0) (z0 j a c) (by omega)
    have y0 : gm5.1 2 0 = 100 := by rw [e2]; exact b4
    have y1 : gm5.1 2 1 = 2 := by rw [e2]; exact b5
    have n0 : sN (gm5.1 2) 0 = 100 := sN_nI (a := 100) y0 (by omega)
    have n1 : sN (gm5.1 2) 1 = 2 := sN_nI (a := 2) y1 (by omega)
    have L0 : LR g7 gm b n m 0 g7 gm5 := by
      refine ⟨B0, ⟨⟨by rw [y0, n0]; rfl, by omega⟩, ⟨by rw [y1, n1]; rfl, by omega, by omega⟩, ⟨by rw [z0 2 (by omega) (by omega), zn 2 (by omega) (by omega)]; rfl, by rw [zn 2 (by omega) (by omega)]; omega⟩, ⟨by rw [z0 29 (by omega) (by omega), zn 29 (by omega) (by omega)]; rfl, by rw [zn 29 (by omega) (by omega)]; omega⟩, z0 3 (by omega) (by omega), fun t a c => ?_, fun t ht => ?_, ?_, fun k hk => ?_⟩, ⟨?_, ?_, ?_, ?_, fun t ht => ?_, fun k hk => ?_⟩, fun o ho => ?_⟩
      · rw [zn 2 (by omega) (by omega)] at c; omega
      · rw [z0 _ (by omega) (by omega), zn _ (by omega) (by omega)]; exact ⟨rfl, by omega⟩
      · rw [zn 2 (by omega) (by omega)]; exact Nat.zero_le _
      · rw [zn 29 (by omega) (by omega)] at hk; omega
      · rw [e7 32 (by omega) (by omega), q4 32 (by omega) (by omega), c4, y0]
      · rw [e7 32 (by omega) (by omega), q4 32 (by omega) (by omega), c5, y1]
      · rw [e7 32 (by omega) (by omega), q4 32 (by omega) (by omega), c6, z0 2 (by omega) (by omega)]
      · rw [e7 32 (by omega) (by omega), q4 32 (by omega) (by omega), c7, z0 29 (by omega) (by omega)]
      · rw [e7 (32 + 1) (by omega) (by omega), q4 (32 + 1) (by omega) (by omega), e7 (32 + 2) (by omega) (by omega), q4 (32 + 2) (by omega) (by omega), z0 _ (by omega) (by omega), z0 _ (by omega) (by omega)]
        exact c8 t ht
      · rw [zn 29 (by omega) (by omega)] at hk; omega
      · rw [zn 29 (by omega) (by omega)] at ho; omega
    have hm := s2.1
    have R := rd_loop (m + 1) 0 0 ob_FU ob_FU g7 gm5 (by omega) (by unfold ob_FU; omega) (by unfold ob_FU; omega) L0 (Nat.le_refl _) (fun _ => zn 2 (by omega) (by omega))
    have R : RS g7 gm (RQ g7 gm b n m) ((L_X7_readText_48 56 (nI n) ob_FU g7 0).bind rd_C) ((L_X12_reads_37 0 ob_FU gm5 1).bind rd_M) := R
    have F3 : ∀ gc, c_Fr g7 gc → c_F3 g gc := fun gc h => ⟨fun x a c d e => by rw [h.1 x a e, e7 x c d, q1 x a (by omega) (by omega) (by omega)], fun x a c => by rw [h.2 x c, s4 x a, q2]⟩
    rw [if_pos c500', if_pos c500', ev_r56_3, Option.bind_some, s1, ev_ck57, Option.bind_some, ev_p0, Option.bind_some, t1, ev_ck0, Option.bind_some]
    rcases R with ⟨gc', gm', r1, r2, i, L⟩ | ⟨gc', gm', r1, r2, f1, f2, f3, f4⟩
    · exact Or.inl ⟨gc', gm', r1, r2, F3 gc' L.1.2.1, L.1.2.2.1, L.1.2.2.2, L.2.1, L.2.2.1⟩
    · exact Or.inr ⟨gc', gm', r1, r2, F3 gc' f1, f2, f3, f4⟩
  · have c500' : ¬ nI n ≤ 500 := nI_ge (a := 500) (by omega) (by omega)
    rw [if_neg c500', if_neg c500', ev_ck56, ev_ck0]
    have R : RS g5 gm (fun _ _ => False) _ _ := RS_zc (RS_zm (FL_at (c0 := g5) (m0 := gm) (gc := g5) (gm := gb) (x := 1) (y := 500) (Q := fun _ _ => False) ⟨fun _ _ _ => rfl, fun _ _ => rfl⟩ fr0))
    rcases R with ⟨gc', gm', r1, r2, q⟩ | ⟨gc', gm', r1, r2, f1, f2, f3, f4⟩
    · exact q.elim
    · exact Or.inr ⟨gc', gm', r1, r2, ⟨fun x a c d e => by rw [f1.1 x a e, q1 x a (by omega) (by omega) (by omega)], fun x a c => by rw [f1.2 x c, q2]⟩, f2, f3, f4⟩
