/-! acts: rows copied, what was told kept -/
theorem wf_c70 {S S' : Nat → Int32} (hW : sp_WF S) (h : ∀ x, x < 70 → S' x = S x) : sp_WF S' := by
  have h4 := wf_4 hW
  exact wf_opt hW (fun i hi => h i (by omega)) (fun q hq => wo_congr (fun w hw => h _ (by omega)) (wf_o hW hq))
theorem m_copies {g : ob_St} {n0 n2 a b : Nat} (h0 : ob_kd n0 = 14) (h2 : ob_kd n2 = 14) (l0 : a + 70 ≤ ob_ln n0) (l2 : b + 70 ≤ ob_ln n2) (hne : n0 ≠ n2) :
    ∃ g', f_X12_copies g n0 (nI a) n2 (nI b) = some g' ∧ (∀ m, m ≠ n2 → g'.1 m = g.1 m) ∧ g'.2 = g.2 ∧ ∀ x, g'.1 n2 x = if b ≤ x ∧ x < b + 70 then g.1 n0 (a + (x - b)) else g.1 n2 x := by
  obtain ⟨g', o1, o2⟩ := pu_up (fun f s i => L_X12_copies_3 n0 (nI a) n2 (nI b) f s (nI i)) (fun i s => (∀ m, m ≠ n2 → s.1 m = g.1 m) ∧ s.2 = g.2 ∧ ∀ x, s.1 n2 x = if b ≤ x ∧ x < b + i then g.1 n0 (a + (x - b)) else g.1 n2 x) 70
    (fun g' => (∀ m, m ≠ n2 → g'.1 m = g.1 m) ∧ g'.2 = g.2 ∧ ∀ x, g'.1 n2 x = if b ≤ x ∧ x < b + 70 then g.1 n0 (a + (x - b)) else g.1 n2 x)
    (fun f s hI => ⟨s, by
      show Lb_X12_copies_3 _ _ _ _ _ _ _ = _
      unfold Lb_X12_copies_3
      have h70 : (70 : Int32) ≤ nI 70 := nI_le (a := 70) (b := 70) (by omega) (by omega)
      rw [if_pos h70], hI⟩)
    (fun f i s hi hI => by
      obtain ⟨i1, i2, i3⟩ := hI
      refine ⟨(ob_up s.1 n2 (b + i) (g.1 n0 (a + i)), s.2), ⟨fun m hm => ?_, i2, fun x => ?_⟩, ?_⟩
      · show ob_up s.1 n2 (b + i) _ m = _
        rw [pu_up_ne hm, i1 m hm]
      · show ob_up s.1 n2 (b + i) _ n2 x = _
        rw [pu_up_eq]
        by_cases e : x = b + i
        · subst e
          rw [pu_upd_eq, if_pos (by omega), show b + i - b = i by omega]
        · rw [pu_upd_ne e, i3 x]
          by_cases c : b ≤ x ∧ x < b + i
          · rw [if_pos c, if_pos (by omega)]
          · rw [if_neg c, if_neg (by omega)]
      · show Lb_X12_copies_3 _ _ _ _ _ _ _ = _
        unfold Lb_X12_copies_3
        have h70 : ¬ (70 : Int32) ≤ nI i := nI_ge (a := i) (b := 70) (by omega) (by omega)
        rw [if_neg h70, nI_add, pu_rI (n := n0) h0 rfl (by omega), Option.bind_some, i1 n0 hne, nI_add, pu_wI (n := n2) h2 rfl (by omega), Option.bind_some, nI_1])
    70 0 ob_FU g (by omega) (by unfold ob_FU; omega) ⟨fun _ _ => rfl, rfl, fun x => by rw [if_neg (by omega)]⟩
  refine ⟨g', ?_, o2⟩
  unfold f_X12_copies
  exact pu_b o1
/-- what is kept ahead of a change: rows of the reference -/
theorem m_keeps {g : ob_St} {n : Nat} (hn : n ≤ 8) (h6 : g.1 0 6 = nI n) : ∃ g', f_X12_keeps g 0 = some g' ∧ (∀ m, m ≠ 0 → m ≠ 4 → g'.1 m = g.1 m) ∧ (∀ i, i ≠ 6 → i ≠ 19 → g'.1 0 i = g.1 0 i) ∧ g'.2 = g.2 ∧ g'.1 0 19 = 0 ∧ g'.1 0 6 = nI (if n = 8 then 8 else n + 1) ∧
    (∀ i x, i < (if n = 8 then 7 else n) → x < 70 → g'.1 4 (70 * i + x) = g.1 4 (70 * (if n = 8 then i + 1 else i) + x)) ∧ ∀ x, x < 70 → g'.1 4 (70 * (if n = 8 then 7 else n) + x) = g.1 1 x := by
  have b49 : ∀ (g1 : ob_St) (q : Nat), q ≤ 7 → g1.1 0 6 = nI q → ∃ g', B_X12_keeps_49 g1 0 = some g' ∧ (∀ m, m ≠ 0 → m ≠ 4 → g'.1 m = g1.1 m) ∧ (∀ i, i ≠ 6 → i ≠ 19 → g'.1 0 i = g1.1 0 i) ∧ g'.2 = g1.2 ∧ g'.1 0 19 = 0 ∧ g'.1 0 6 = nI (q + 1) ∧ (∀ i, i < 70 * q → g'.1 4 i = g1.1 4 i) ∧ ∀ x, x < 70 → g'.1 4 (70 * q + x) = g1.1 1 x := by
    intro g1 q hq hg
    obtain ⟨g2, c1, c2, c3, c4⟩ := m_copies (g := g1) (n0 := 1) (n2 := 4) (a := 0) (b := 70 * q) rfl rfl (by show 0 + 70 ≤ 70; omega) (by show 70 * q + 70 ≤ 560; omega) (by omega)
    have c1 : f_X12_copies g1 1 0 4 (nI (70 * q)) = some g2 := c1
    have e6 : g2.1 0 6 = nI q := by rw [c2 0 (by omega), hg]
    refine ⟨(ob_up (ob_up g2.1 0 6 (nI (q + 1))) 0 19 0, g2.2), ?_, fun m a b => ?_, fun i a b => ?_, c3, ?_, ?_, fun i hi => ?_, fun x hx => ?_⟩
    · unfold B_X12_keeps_49
      rw [ev_r0_1, Option.bind_some, ev_r0_4, Option.bind_some, ev_g0, Option.bind_some, hg, pu_mul]
      show (f_X12_copies g1 1 0 4 (nI (70 * q))).bind _ = _
      rw [c1, Option.bind_some, ev_g0, Option.bind_some, e6, nI_1, ev_p0, Option.bind_some, pu_pZ (K := 12) (n := 0) rfl (Or.inl rfl), Option.bind_some]
    · show ob_up (ob_up g2.1 0 6 (nI (q + 1))) 0 19 0 m = _
      rw [pu_up_ne a, pu_up_ne a, c2 m b]
    · show ob_up (ob_up g2.1 0 6 (nI (q + 1))) 0 19 0 0 i = _
      rw [pu_up_eq, pu_upd_ne b, pu_up_eq, pu_upd_ne a, c2 0 (by omega)]
    · show ob_up (ob_up g2.1 0 6 (nI (q + 1))) 0 19 0 0 19 = _
      rw [pu_up_eq, pu_upd_eq]
    · show ob_up (ob_up g2.1 0 6 (nI (q + 1))) 0 19 0 0 6 = _
      rw [pu_up_eq, pu_upd_ne (by omega), pu_up_eq, pu_upd_eq]
    · show ob_up (ob_up g2.1 0 6 (nI (q + 1))) 0 19 0 4 i = _
      rw [pu_up_ne (by omega), pu_up_ne (by omega), c4, if_neg (by omega)]
    · show ob_up (ob_up g2.1 0 6 (nI (q + 1))) 0 19 0 4 (70 * q + x) = _
      rw [pu_up_ne (by omega), pu_up_ne (by omega), c4, if_pos (by omega), show 0 + (70 * q + x - 70 * q) = x by omega]
  unfold f_X12_keeps
  rw [ev_g0, Option.bind_some, h6]
  by_cases c : n = 8
  · subst c
    obtain ⟨g1, o1, o2, o3, o4⟩ := pu_up (fun f s i => L_X12_keeps_11 0 f s (nI i)) (fun i s => (∀ m, m ≠ 4 → s.1 m = g.1 m) ∧ s.2 = g.2 ∧ ∀ x, s.1 4 x = if x < i then g.1 4 (x + 70) else g.1 4 x) 490
      (fun s => (∀ m, m ≠ 4 → s.1 m = g.1 m) ∧ s.2 = g.2 ∧ ∀ x, s.1 4 x = if x < 490 then g.1 4 (x + 70) else g.1 4 x)
      (fun f s hI => ⟨s, by
        show Lb_X12_keeps_11 _ _ _ _ = _
        unfold Lb_X12_keeps_11
        have h : (490 : Int32) ≤ nI 490 := nI_le (a := 490) (b := 490) (by omega) (by omega)
        rw [if_pos h], hI⟩)
      (fun f i s hi hI => by
        obtain ⟨i1, i2, i3⟩ := hI
        have e : s.1 4 (i + 70) = g.1 4 (i + 70) := by rw [i3, if_neg (by omega)]
        refine ⟨(ob_up s.1 4 i (g.1 4 (i + 70)), s.2), ⟨fun m hm => ?_, i2, fun x => ?_⟩, ?_⟩
        · show ob_up s.1 4 i _ m = _
          rw [pu_up_ne hm, i1 m hm]
        · show ob_up s.1 4 i _ 4 x = _
          rw [pu_up_eq]
          by_cases ex : x = i
          · subst ex
            rw [pu_upd_eq, if_pos (by omega)]
          · rw [pu_upd_ne ex, i3 x]
            by_cases c : x < i
            · rw [if_pos c, if_pos (by omega)]
            · rw [if_neg c, if_neg (by omega)]
        · show Lb_X12_keeps_11 _ _ _ _ = _
          unfold Lb_X12_keeps_11
          have h : ¬ (490 : Int32) ≤ nI i := nI_ge (a := i) (b := 490) (by omega) (by omega)
          rw [if_neg h, ev_r0_4, Option.bind_some, Option.bind_some, pu_addr, ev_a4 (show i + 70 < 560 by omega), Option.bind_some]
          show (ob_wI s 4 (nI i) (s.1 4 (i + 70))).bind _ = _
          rw [e, ev_w4 (by omega), Option.bind_some, nI_1])
      490 0 ob_FU g (by omega) (by unfold ob_FU; omega) ⟨fun _ _ => rfl, rfl, fun x => by rw [if_neg (by omega)]⟩
    have e6 : g1.1 0 6 = nI 8 := by rw [o2 0 (by omega), h6]
    obtain ⟨g', p1, p2, p3, p4, p5, p6, p7, p8⟩ := b49 (ob_up g1.1 0 6 (nI 7), g1.2) 7 (by omega) (by
      show ob_up g1.1 0 6 (nI 7) 0 6 = _
      rw [pu_up_eq, pu_upd_eq])
    refine ⟨g', ?_, fun m a b => ?_, fun i a b => ?_, ?_, p5, p6, fun i x hi hx => ?_, fun x hx => ?_⟩
    · rw [if_pos (show nI 8 = 8 from rfl)]
      refine (pu_b o1).trans ?_
      rw [ev_g0, Option.bind_some, e6, nI_pred, ev_p0, Option.bind_some]
      exact p1
    · rw [p2 m a b]
      show ob_up g1.1 0 6 (nI 7) m = _
      rw [pu_up_ne a, o2 m b]
    · rw [p3 i a b]
      show ob_up g1.1 0 6 (nI 7) 0 i = _
      rw [pu_up_eq, pu_upd_ne a, o2 0 (by omega)]
    · rw [p4]; exact o3
    · rw [if_pos rfl] at hi ⊢
      rw [p7 _ (by omega)]
      show ob_up g1.1 0 6 (nI 7) 4 _ = _
      rw [pu_up_ne (by omega), o4, if_pos (by omega), show 70 * i + x + 70 = 70 * (i + 1) + x by omega]
    · rw [if_pos rfl, p8 x hx]
      show ob_up g1.1 0 6 (nI 7) 1 x = _
      rw [pu_up_ne (by omega), o2 1 (by omega)]
  · obtain ⟨g', p1, p2, p3, p4, p5, p6, p7, p8⟩ := b49 g n (by omega) h6
    refine ⟨g', ?_, p2, p3, p4, p5, ?_, fun i x hi hx => ?_, fun x hx => ?_⟩
    · have n8 : ¬ nI n = 8 := fun z => c ((nI_eq (a := n) (b := 8) (by omega) (by omega)).mp z)
      rw [if_neg n8, p1]
    · rw [if_neg c, p6]
    · rw [if_neg c] at hi ⊢
      exact p7 _ (by omega)
    · rw [if_neg c]
      exact p8 x hx
/-- ... and acts of the class -/
theorem c_keep {g : ob_St} {n : Nat} {a w o : Int32} (hn : n ≤ 8) (h3 : g.1 63 3 = nI n) : ∃ g', f_X0_keep g 63 a w o = some g' ∧ (∀ m, m < 63 ∨ 66 < m → g'.1 m = g.1 m) ∧ g'.2 = g.2 ∧ g'.1 63 3 = nI (if n = 8 then 8 else n + 1) ∧
    (∀ i, i < (if n = 8 then 7 else n) → g'.1 64 i = g.1 64 (if n = 8 then i + 1 else i) ∧ g'.1 65 i = g.1 65 (if n = 8 then i + 1 else i) ∧ g'.1 66 i = g.1 66 (if n = 8 then i + 1 else i)) ∧
    g'.1 64 (if n = 8 then 7 else n) = a ∧ g'.1 65 (if n = 8 then 7 else n) = w ∧ g'.1 66 (if n = 8 then 7 else n) = o := by
  have b13 : ∀ (g1 : ob_St) (q : Nat), q ≤ 7 → g1.1 63 3 = nI q → ∃ g', B_X0_keep_13 g1 63 a w o = some g' ∧ (∀ m, m < 63 ∨ 66 < m → g'.1 m = g1.1 m) ∧ g'.2 = g1.2 ∧ g'.1 63 3 = nI (q + 1) ∧ (∀ i, i < q → g'.1 64 i = g1.1 64 i ∧ g'.1 65 i = g1.1 65 i ∧ g'.1 66 i = g1.1 66 i) ∧ g'.1 64 q = a ∧ g'.1 65 q = w ∧ g'.1 66 q = o := by
    intro g1 q hq hg
    refine ⟨(ob_up (ob_up (ob_up (ob_up g1.1 64 q a) 65 q w) 66 q o) 63 3 (nI (q + 1)), g1.2), ?_, fun m hm => ?_, rfl, ?_, fun i hi => ⟨?_, ?_, ?_⟩, ?_, ?_, ?_⟩
    · unfold B_X0_keep_13
      rw [ev_r63_0, Option.bind_some, ev_g63, Option.bind_some, hg, ev_w64 (by omega), Option.bind_some, ev_r63_1, Option.bind_some, ev_g63, Option.bind_some]
      show (ob_wI _ 65 (ob_up g1.1 64 q a 63 3) w).bind _ = _
      rw [pu_up_ne (by omega), hg, ev_w65 (by omega), Option.bind_some, ev_r63_2, Option.bind_some, ev_g63, Option.bind_some]
      show (ob_wI _ 66 (ob_up (ob_up g1.1 64 q a) 65 q w 63 3) o).bind _ = _
      rw [pu_up_ne (by omega), pu_up_ne (by omega), hg, ev_w66 (by omega), Option.bind_some, ev_g63, Option.bind_some]
      show (ob_pI _ 0 63 3 (ob_up (ob_up (ob_up g1.1 64 q a) 65 q w) 66 q o 63 3 + 1)).bind _ = _
      rw [pu_up_ne (by omega), pu_up_ne (by omega), pu_up_ne (by omega), hg, nI_1, ev_p63, Option.bind_some]
    · show ob_up (ob_up (ob_up (ob_up g1.1 64 q a) 65 q w) 66 q o) 63 3 (nI (q + 1)) m = _
      rw [pu_up_ne (by omega), pu_up_ne (by omega), pu_up_ne (by omega), pu_up_ne (by omega)]
    · show ob_up (ob_up (ob_up (ob_up g1.1 64 q a) 65 q w) 66 q o) 63 3 (nI (q + 1)) 63 3 = _
      rw [pu_up_eq, pu_upd_eq]
    · show ob_up (ob_up (ob_up (ob_up g1.1 64 q a) 65 q w) 66 q o) 63 3 (nI (q + 1)) 64 i = _
      rw [pu_up_ne (by omega), pu_up_ne (by omega), pu_up_ne (by omega), pu_up_eq, pu_upd_ne (by omega)]
    · show ob_up (ob_up (ob_up (ob_up g1.1 64 q a) 65 q w) 66 q o) 63 3 (nI (q + 1)) 65 i = _
      rw [pu_up_ne (by omega), pu_up_ne (by omega), pu_up_eq, pu_upd_ne (by omega), pu_up_ne (by omega)]
    · show ob_up (ob_up (ob_up (ob_up g1.1 64 q a) 65 q w) 66 q o) 63 3 (nI (q + 1)) 66 i = _
      rw [pu_up_ne (by omega), pu_up_eq, pu_upd_ne (by omega), pu_up_ne (by omega), pu_up_ne (by omega)]
    · show ob_up (ob_up (ob_up (ob_up g1.1 64 q a) 65 q w) 66 q o) 63 3 (nI (q + 1)) 64 q = _
      rw [pu_up_ne (by omega), pu_up_ne (by omega), pu_up_ne (by omega), pu_up_eq, pu_upd_eq]
    · show ob_up (ob_up (ob_up (ob_up g1.1 64 q a) 65 q w) 66 q o) 63 3 (nI (q + 1)) 65 q = _
      rw [pu_up_ne (by omega), pu_up_ne (by omega), pu_up_eq, pu_upd_eq]
    · show ob_up (ob_up (ob_up (ob_up g1.1 64 q a) 65 q w) 66 q o) 63 3 (nI (q + 1)) 66 q = _
      rw [pu_up_ne (by omega), pu_up_eq, pu_upd_eq]
  unfold f_X0_keep
  rw [ev_g63, Option.bind_some, h3]
  by_cases c : n = 8
  · subst c
    obtain ⟨g1, o1, o2, o3, o4⟩ := pu_up (fun f s i => L_X0_dropFirst_2 63 f s (nI i)) (fun i s => 1 ≤ i ∧ (∀ m, m < 64 ∨ 66 < m → s.1 m = g.1 m) ∧ s.2 = g.2 ∧ ∀ m, 64 ≤ m → m ≤ 66 → ∀ x, s.1 m x = if x + 1 < i then g.1 m (x + 1) else g.1 m x) 8
      (fun s => (∀ m, m < 64 ∨ 66 < m → s.1 m = g.1 m) ∧ s.2 = g.2 ∧ ∀ m, 64 ≤ m → m ≤ 66 → ∀ x, s.1 m x = if x + 1 < 8 then g.1 m (x + 1) else g.1 m x)
      (fun f s hI => ⟨s, by
        show Lb_X0_dropFirst_2 _ _ _ _ = _
        unfold Lb_X0_dropFirst_2
        rw [ev_g63, Option.bind_some, hI.2.1 63 (by omega), h3, if_pos (nI_le (by omega) (by omega))], hI.2⟩)
      (fun f i s hi hI => by
        obtain ⟨i0, i1, i2, i3⟩ := hI
        obtain ⟨j, rfl⟩ : ∃ j, i = j + 1 := ⟨i - 1, by omega⟩
        have e : ∀ m, 64 ≤ m → m ≤ 66 → s.1 m (j + 1) = g.1 m (j + 1) := fun m a b => by rw [i3 m a b, if_neg (by omega)]
        refine ⟨(ob_up (ob_up (ob_up s.1 64 j (g.1 64 (j + 1))) 65 j (g.1 65 (j + 1))) 66 j (g.1 66 (j + 1)), s.2), ⟨by omega, fun m hm => ?_, i2, fun m ma mb x => ?_⟩, ?_⟩
        · show ob_up (ob_up (ob_up s.1 64 j _) 65 j _) 66 j _ m = _
          rw [pu_up_ne (by omega), pu_up_ne (by omega), pu_up_ne (by omega), i1 m hm]
        · have val : ob_up (ob_up (ob_up s.1 64 j (g.1 64 (j + 1))) 65 j (g.1 65 (j + 1))) 66 j (g.1 66 (j + 1)) m x = upd (s.1 m) j (g.1 m (j + 1)) x := by
            rcases (by omega : m = 64 ∨ m = 65 ∨ m = 66) with rfl | rfl | rfl
            · rw [pu_up_ne (by omega), pu_up_ne (by omega), pu_up_eq]
            · rw [pu_up_ne (by omega), pu_up_eq, pu_up_ne (by omega)]
            · rw [pu_up_eq, pu_up_ne (by omega), pu_up_ne (by omega)]
          show ob_up (ob_up (ob_up s.1 64 j _) 65 j _) 66 j _ m x = _
          rw [val]
          by_cases ex : x = j
          · subst ex
            rw [pu_upd_eq, if_pos (by omega)]
          · rw [pu_upd_ne ex, i3 m ma mb x]
            by_cases cx : x + 1 < j + 1
            · rw [if_pos cx, if_pos (by omega)]
            · rw [if_neg cx, if_neg (by omega)]
        · show Lb_X0_dropFirst_2 _ _ _ _ = _
          unfold Lb_X0_dropFirst_2
          rw [ev_g63, Option.bind_some, i1 63 (by omega), h3, if_neg (nI_ge (by omega) (by omega)), ev_r63_0, Option.bind_some, Option.bind_some, ev_a64 (by omega), Option.bind_some, e 64 (by omega) (by omega), nI_pred, ev_w64 (by omega), Option.bind_some, ev_r63_1, Option.bind_some, Option.bind_some, ev_a65 (by omega), Option.bind_some]
          dsimp only
          rw [pu_up_ne (by omega), e 65 (by omega) (by omega), ev_w65 (by omega), Option.bind_some, ev_r63_2, Option.bind_some, Option.bind_some, ev_a66 (by omega), Option.bind_some]
          dsimp only
          rw [pu_up_ne (by omega), pu_up_ne (by omega), e 66 (by omega) (by omega), ev_w66 (by omega), Option.bind_some, nI_1])
      7 1 ob_FU g (by omega) (by unfold ob_FU; omega) ⟨by omega, fun _ _ => rfl, rfl, fun m _ _ x => by rw [if_neg (by omega)]⟩
    have e3 : g1.1 63 3 = nI 8 := by rw [o2 63 (by omega), h3]
    obtain ⟨g', p1, p2, p3, p4, p5, p6⟩ := b13 (ob_up g1.1 63 3 (nI 7), g1.2) 7 (by omega) (by
      show ob_up g1.1 63 3 (nI 7) 63 3 = _
      rw [pu_up_eq, pu_upd_eq])
    refine ⟨g', ?_, fun m hm => ?_, ?_, p4, fun i hi => ?_, p6⟩
    · rw [if_pos (show nI 8 = 8 from rfl)]
      unfold f_X0_dropFirst
      have o1 : L_X0_dropFirst_2 63 ob_FU g 1 = some g1 := o1
      rw [o1, Option.bind_some, ev_g63, Option.bind_some, e3, nI_pred, ev_p63, Option.bind_some, ev_ck63, Option.bind_some]
      exact p1
    · rw [p2 m hm]
      show ob_up g1.1 63 3 (nI 7) m = _
      rw [pu_up_ne (by omega), o2 m (by omega)]
    · rw [p3]; exact o3
    · rw [if_pos rfl] at hi ⊢
      obtain ⟨q1, q2, q3⟩ := p5 i hi
      have v : ∀ m, 64 ≤ m → m ≤ 66 → ob_up g1.1 63 3 (nI 7) m i = g.1 m (i + 1) := fun m ma mb => by rw [pu_up_ne (by omega), o4 m ma mb, if_pos (by omega)]
      exact ⟨q1.trans (v 64 (by omega) (by omega)), q2.trans (v 65 (by omega) (by omega)), q3.trans (v 66 (by omega) (by omega))⟩
  · obtain ⟨g', p1, p2, p3, p4, p5, p6⟩ := b13 g n (by omega) h3
    refine ⟨g', ?_, p2, p3, ?_, fun i hi => ?_, ?_⟩
    · have n8 : ¬ nI n = 8 := fun z => c ((nI_eq (a := n) (b := 8) (by omega) (by omega)).mp z)
      rw [if_neg n8, p1]
    · rw [if_neg c, p4]
    · rw [if_neg c] at hi ⊢
      exact p5 i hi
    · rw [if_neg c]
      exact p6
