/-! the law, call by call -/
theorem sx {L i : Nat} {xs : Nat → Int32} (k : Nat) (h : i + k < L) (hL : L ≤ 3072) : ob_sI L xs (nI i + nI k) = some (xs (i + k)) := by
  unfold ob_sI
  rw [nI_add, if_pos (pu_in h (by omega)), nI_clamp (by omega)]
theorem law_P {r : Option (Int32 × ob_St)} {m : ob_St → Option (Int32 × ob_St)} {rec : ob_St → Option ob_St} (h : PR r m) (hr : ∀ g', Inv g' → ∃ x, rec g' = some x) : ∃ x, (r.bind fun v => (m v.2).bind fun w => if v.1 = w.1 then rec w.2 else none) = some x := by
  obtain ⟨a, g1, g2, e1, e2, e3⟩ := h
  obtain ⟨x, hx⟩ := hr g2 e3
  refine ⟨x, ?_⟩
  rw [e1, Option.bind_some, e2, Option.bind_some, if_pos rfl]
  exact hx
theorem law_N {g : ob_St} {a : Int32} {r : Option Int32} {m : Option (Int32 × ob_St)} {rec : ob_St → Option ob_St} (hI : Inv g) (h1 : r = some a) (h2 : m = some (a, m_Th g 0)) (hr : ∀ g', Inv g' → ∃ x, rec g' = some x) : ∃ x, (r.bind fun v => m.bind fun w => if v = w.1 then rec w.2 else none) = some x := by
  obtain ⟨x, hx⟩ := hr _ (Inv_th hI)
  refine ⟨x, ?_⟩
  rw [h1, Option.bind_some, h2, Option.bind_some, if_pos rfl]
  exact hx
theorem lc_0 {L i : Nat} {xs : Nat → Int32} {rec : ob_St → Int32 → Option ob_St} {g : ob_St} (hi : i + 5 < L) (hL : L ≤ 3072) (hI : Inv g) (hr : ∀ g', Inv g' → ∃ x, rec g' (nI i + 6) = some x) : ∃ x, law_0 L xs 20 0 19 rec g (nI i) = some x := by
  have s1 : ob_sI L xs (nI i + 1) = some (xs (i + 1)) := sx 1 (by omega) hL
  have s2 : ob_sI L xs (nI i + 2) = some (xs (i + 2)) := sx 2 (by omega) hL
  have s3 : ob_sI L xs (nI i + 3) = some (xs (i + 3)) := sx 3 (by omega) hL
  have s4 : ob_sI L xs (nI i + 4) = some (xs (i + 4)) := sx 4 (by omega) hL
  have s5 : ob_sI L xs (nI i + 5) = some (xs (i + 5)) := sx 5 (by omega) hL
  unfold law_0
  simp only [s1, s2, s3, s4, s5, Option.bind_some, ev_ck20, ev_ck0]
  exact law_P (m := fun g1 => f_X12_feed g1 0 (xs (i + 1)) (xs (i + 2)) (xs (i + 3)) (xs (i + 4)) (xs (i + 5))) (rec := fun g' => rec g' (nI i + 6)) (PR_feed hI) hr
theorem lc_1 {L i : Nat} {xs : Nat → Int32} {rec : ob_St → Int32 → Option ob_St} {g : ob_St} (hi : i + 5 < L) (hL : L ≤ 3072) (hI : Inv g) (hr : ∀ g', Inv g' → ∃ x, rec g' (nI i + 6) = some x) : ∃ x, law_1 L xs 20 0 19 rec g (nI i) = some x := by
  have s1 : ob_sI L xs (nI i + 1) = some (xs (i + 1)) := sx 1 (by omega) hL
  unfold law_1
  simp only [s1, Option.bind_some, ev_ck20, ev_ck0]
  exact law_P (m := fun g1 => f_X12_end g1 0 (xs (i + 1))) (rec := fun g' => rec g' (nI i + 6)) (PR_end hI) hr
theorem lc_2 {L i : Nat} {xs : Nat → Int32} {rec : ob_St → Int32 → Option ob_St} {g : ob_St} (hi : i + 5 < L) (hL : L ≤ 3072) (hI : Inv g) (hr : ∀ g', Inv g' → ∃ x, rec g' (nI i + 6) = some x) : ∃ x, law_2 L xs 20 0 19 rec g (nI i) = some x := by
  unfold law_2
  simp only [Option.bind_some, ev_ck20, ev_ck0]
  exact law_P (m := fun g1 => f_X12_bench g1 0) (rec := fun g' => rec g' (nI i + 6)) (PR_bench hI) hr
theorem lc_3 {L i : Nat} {xs : Nat → Int32} {rec : ob_St → Int32 → Option ob_St} {g : ob_St} (hi : i + 5 < L) (hL : L ≤ 3072) (hI : Inv g) (hr : ∀ g', Inv g' → ∃ x, rec g' (nI i + 6) = some x) : ∃ x, law_3 L xs 20 0 19 rec g (nI i) = some x := by
  unfold law_3
  simp only [Option.bind_some, ev_ck20, ev_ck0]
  exact law_N (rec := fun g' => rec g' (nI i + 6)) hI (a := g.1 20 2) rfl (by rw [hI.2.2.1.choose_spec.2.2.2.2]; rfl) hr
theorem lc_4 {L i : Nat} {xs : Nat → Int32} {rec : ob_St → Int32 → Option ob_St} {g : ob_St} (hi : i + 5 < L) (hL : L ≤ 3072) (hI : Inv g) (hr : ∀ g', Inv g' → ∃ x, rec g' (nI i + 6) = some x) : ∃ x, law_4 L xs 20 0 19 rec g (nI i) = some x := by
  have s1 : ob_sI L xs (nI i + 1) = some (xs (i + 1)) := sx 1 (by omega) hL
  unfold law_4
  simp only [s1, Option.bind_some, ev_ck20, ev_ck0]
  exact law_N (rec := fun g' => rec g' (nI i + 6)) hI (c_count hI) (m_count hI.1.1) hr
theorem lc_5 {L i : Nat} {xs : Nat → Int32} {rec : ob_St → Int32 → Option ob_St} {g : ob_St} (hi : i + 5 < L) (hL : L ≤ 3072) (hI : Inv g) (hr : ∀ g', Inv g' → ∃ x, rec g' (nI i + 6) = some x) : ∃ x, law_5 L xs 20 0 19 rec g (nI i) = some x := by
  have s1 : ob_sI L xs (nI i + 1) = some (xs (i + 1)) := sx 1 (by omega) hL
  have s2 : ob_sI L xs (nI i + 2) = some (xs (i + 2)) := sx 2 (by omega) hL
  unfold law_5
  simp only [s1, s2, Option.bind_some, ev_ck20, ev_ck0]
  exact law_N (rec := fun g' => rec g' (nI i + 6)) hI (c_step hI.2.1.1 hI.2.1.2.1) (m_step hI.1.1) hr
theorem lc_6 {L i : Nat} {xs : Nat → Int32} {rec : ob_St → Int32 → Option ob_St} {g : ob_St} (hi : i + 5 < L) (hL : L ≤ 3072) (hI : Inv g) (hr : ∀ g', Inv g' → ∃ x, rec g' (nI i + 6) = some x) : ∃ x, law_6 L xs 20 0 19 rec g (nI i) = some x := by
  have s1 : ob_sI L xs (nI i + 1) = some (xs (i + 1)) := sx 1 (by omega) hL
  have s2 : ob_sI L xs (nI i + 2) = some (xs (i + 2)) := sx 2 (by omega) hL
  unfold law_6
  simp only [s1, s2, Option.bind_some, ev_ck20, ev_ck0]
  exact law_N (rec := fun g' => rec g' (nI i + 6)) hI (c_option hI.2.1.1 hI.2.1.2.1) (m_option hI.1.1) hr
theorem lc_7 {L i : Nat} {xs : Nat → Int32} {rec : ob_St → Int32 → Option ob_St} {g : ob_St} (hi : i + 5 < L) (hL : L ≤ 3072) (hI : Inv g) (hr : ∀ g', Inv g' → ∃ x, rec g' (nI i + 6) = some x) : ∃ x, law_7 L xs 20 0 19 rec g (nI i) = some x := by
  have s1 : ob_sI L xs (nI i + 1) = some (xs (i + 1)) := sx 1 (by omega) hL
  have s2 : ob_sI L xs (nI i + 2) = some (xs (i + 2)) := sx 2 (by omega) hL
  have s3 : ob_sI L xs (nI i + 3) = some (xs (i + 3)) := sx 3 (by omega) hL
  unfold law_7
  simp only [s1, s2, s3, Option.bind_some, ev_ck20, ev_ck0]
  exact law_I (m := fun g1 => f_X12_price g1 0 (xs (i + 1)) (xs (i + 2)) (xs (i + 3))) (rec := fun g' => rec g' (nI i + 6)) hI (c_price hI.2.1) (fun g1 q e => by have z := m_price (g := g1) (x1 := xs (i + 1)) (x2 := xs (i + 2)) (x3 := xs (i + 3)) q; rw [e] at z; exact z) hr
theorem lc_8 {L i : Nat} {xs : Nat → Int32} {rec : ob_St → Int32 → Option ob_St} {g : ob_St} (hi : i + 5 < L) (hL : L ≤ 3072) (hI : Inv g) (hr : ∀ g', Inv g' → ∃ x, rec g' (nI i + 6) = some x) : ∃ x, law_8 L xs 20 0 19 rec g (nI i) = some x := by
  have s1 : ob_sI L xs (nI i + 1) = some (xs (i + 1)) := sx 1 (by omega) hL
  have s2 : ob_sI L xs (nI i + 2) = some (xs (i + 2)) := sx 2 (by omega) hL
  have s3 : ob_sI L xs (nI i + 3) = some (xs (i + 3)) := sx 3 (by omega) hL
  have s4 : ob_sI L xs (nI i + 4) = some (xs (i + 4)) := sx 4 (by omega) hL
  unfold law_8 f_L_pays
  simp only [s1, s2, s3, s4, Option.bind_some, ev_ck20, ev_ck0]
  have z := law_A (m := fun g1 => f_X12_pays g1 0 (xs (i + 1)) (xs (i + 2)) (xs (i + 3)) (xs (i + 4))) (rec := fun g' => rec g' (nI i + 6)) hI (c_pays hI.2.1) (fun g1 q e => by have z := m_pays (g := g1) (x1 := xs (i + 1)) (x2 := xs (i + 2)) (x3 := xs (i + 3)) (x4 := xs (i + 4)) q; rw [e] at z; exact z) hr
  simp only [ev_ck0] at z
  exact z
theorem lc_9 {L i : Nat} {xs : Nat → Int32} {rec : ob_St → Int32 → Option ob_St} {g : ob_St} (hi : i + 5 < L) (hL : L ≤ 3072) (hI : Inv g) (hr : ∀ g', Inv g' → ∃ x, rec g' (nI i + 6) = some x) : ∃ x, law_9 L xs 20 0 19 rec g (nI i) = some x := by
  have s1 : ob_sI L xs (nI i + 1) = some (xs (i + 1)) := sx 1 (by omega) hL
  have s2 : ob_sI L xs (nI i + 2) = some (xs (i + 2)) := sx 2 (by omega) hL
  have s3 : ob_sI L xs (nI i + 3) = some (xs (i + 3)) := sx 3 (by omega) hL
  have s4 : ob_sI L xs (nI i + 4) = some (xs (i + 4)) := sx 4 (by omega) hL
  unfold law_9 f_L_value
  simp only [s1, s2, s3, s4, Option.bind_some, ev_ck20, ev_ck0]
  have z := law_A (m := fun g1 => f_X12_value g1 0 (xs (i + 1)) (xs (i + 2)) (xs (i + 3)) (xs (i + 4))) (rec := fun g' => rec g' (nI i + 6)) hI (c_value hI.2.1) (fun g1 q e => by have z := m_value (g := g1) (x1 := xs (i + 1)) (x2 := xs (i + 2)) (x3 := xs (i + 3)) (x4 := xs (i + 4)) q; rw [e] at z; exact z) hr
  simp only [ev_ck0] at z
  exact z
theorem lc_10 {L i : Nat} {xs : Nat → Int32} {rec : ob_St → Int32 → Option ob_St} {g : ob_St} (hi : i + 5 < L) (hL : L ≤ 3072) (hI : Inv g) (hr : ∀ g', Inv g' → ∃ x, rec g' (nI i + 6) = some x) : ∃ x, law_10 L xs 20 0 19 rec g (nI i) = some x := by
  have s1 : ob_sI L xs (nI i + 1) = some (xs (i + 1)) := sx 1 (by omega) hL
  have s2 : ob_sI L xs (nI i + 2) = some (xs (i + 2)) := sx 2 (by omega) hL
  have s3 : ob_sI L xs (nI i + 3) = some (xs (i + 3)) := sx 3 (by omega) hL
  have s4 : ob_sI L xs (nI i + 4) = some (xs (i + 4)) := sx 4 (by omega) hL
  unfold law_10 f_L_plain
  simp only [s1, s2, s3, s4, Option.bind_some, ev_ck20, ev_ck0]
  have z := law_A (m := fun g1 => f_X12_plain g1 0 (xs (i + 1)) (xs (i + 2)) (xs (i + 3)) (xs (i + 4))) (rec := fun g' => rec g' (nI i + 6)) hI (c_plain hI.2.1) (fun g1 q e => by have z := m_plain (g := g1) (x1 := xs (i + 1)) (x2 := xs (i + 2)) (x3 := xs (i + 3)) (x4 := xs (i + 4)) q; rw [e] at z; exact z) hr
  simp only [ev_ck0] at z
  exact z
theorem lc_11 {L i : Nat} {xs : Nat → Int32} {rec : ob_St → Int32 → Option ob_St} {g : ob_St} (hi : i + 5 < L) (hL : L ≤ 3072) (hI : Inv g) (hr : ∀ g', Inv g' → ∃ x, rec g' (nI i + 6) = some x) : ∃ x, law_11 L xs 20 0 19 rec g (nI i) = some x := by
  have s1 : ob_sI L xs (nI i + 1) = some (xs (i + 1)) := sx 1 (by omega) hL
  have s2 : ob_sI L xs (nI i + 2) = some (xs (i + 2)) := sx 2 (by omega) hL
  have s3 : ob_sI L xs (nI i + 3) = some (xs (i + 3)) := sx 3 (by omega) hL
  have s4 : ob_sI L xs (nI i + 4) = some (xs (i + 4)) := sx 4 (by omega) hL
  unfold law_11 f_L_held
  simp only [s1, s2, s3, s4, Option.bind_some, ev_ck20, ev_ck0]
  have z := law_A (m := fun g1 => f_X12_held g1 0 (xs (i + 1)) (xs (i + 2)) (xs (i + 3)) (xs (i + 4))) (rec := fun g' => rec g' (nI i + 6)) hI (c_held hI.2.1) (fun g1 q e => by have z := m_held (g := g1) (x1 := xs (i + 1)) (x2 := xs (i + 2)) (x3 := xs (i + 3)) (x4 := xs (i + 4)) q; rw [e] at z; exact z) hr
  simp only [ev_ck0] at z
  exact z
theorem lc_12 {L i : Nat} {xs : Nat → Int32} {rec : ob_St → Int32 → Option ob_St} {g : ob_St} (hi : i + 5 < L) (hL : L ≤ 3072) (hI : Inv g) (hr : ∀ g', Inv g' → ∃ x, rec g' (nI i + 6) = some x) : ∃ x, law_12 L xs 20 0 19 rec g (nI i) = some x := by
  have s1 : ob_sI L xs (nI i + 1) = some (xs (i + 1)) := sx 1 (by omega) hL
  have s2 : ob_sI L xs (nI i + 2) = some (xs (i + 2)) := sx 2 (by omega) hL
  have s3 : ob_sI L xs (nI i + 3) = some (xs (i + 3)) := sx 3 (by omega) hL
  unfold law_12
  simp only [s1, s2, s3, Option.bind_some, ev_ck20, ev_ck0]
  exact law_I (m := fun g1 => f_X12_does g1 0 (xs (i + 1)) (xs (i + 2)) (xs (i + 3))) (rec := fun g' => rec g' (nI i + 6)) hI (c_does hI.2.1) (fun g1 q e => by have z := m_does (g := g1) (x1 := xs (i + 1)) (x2 := xs (i + 2)) (x3 := xs (i + 3)) q; rw [e] at z; exact z) hr
theorem lc_13 {L i : Nat} {xs : Nat → Int32} {rec : ob_St → Int32 → Option ob_St} {g : ob_St} (hi : i + 5 < L) (hL : L ≤ 3072) (hI : Inv g) (hr : ∀ g', Inv g' → ∃ x, rec g' (nI i + 6) = some x) : ∃ x, law_13 L xs 20 0 19 rec g (nI i) = some x := by
  have s1 : ob_sI L xs (nI i + 1) = some (xs (i + 1)) := sx 1 (by omega) hL
  have s2 : ob_sI L xs (nI i + 2) = some (xs (i + 2)) := sx 2 (by omega) hL
  have s3 : ob_sI L xs (nI i + 3) = some (xs (i + 3)) := sx 3 (by omega) hL
  have s4 : ob_sI L xs (nI i + 4) = some (xs (i + 4)) := sx 4 (by omega) hL
  unfold law_13 f_L_stands
  simp only [s1, s2, s3, s4, Option.bind_some, ev_ck20, ev_ck0]
  have z := law_A (m := fun g1 => f_X12_stands g1 0 (xs (i + 1)) (xs (i + 2)) (xs (i + 3)) (xs (i + 4))) (rec := fun g' => rec g' (nI i + 6)) hI (c_stands hI.2.1) (fun g1 q e => by have z := m_stands (g := g1) (x1 := xs (i + 1)) (x2 := xs (i + 2)) (x3 := xs (i + 3)) (x4 := xs (i + 4)) q; rw [e] at z; exact z) hr
  simp only [ev_ck0] at z
  exact z
theorem lc_14 {L i : Nat} {xs : Nat → Int32} {rec : ob_St → Int32 → Option ob_St} {g : ob_St} (hi : i + 5 < L) (hL : L ≤ 3072) (hI : Inv g) (hr : ∀ g', Inv g' → ∃ x, rec g' (nI i + 6) = some x) : ∃ x, law_14 L xs 20 0 19 rec g (nI i) = some x := by
  have s1 : ob_sI L xs (nI i + 1) = some (xs (i + 1)) := sx 1 (by omega) hL
  have s2 : ob_sI L xs (nI i + 2) = some (xs (i + 2)) := sx 2 (by omega) hL
  unfold law_14
  simp only [s1, s2, Option.bind_some, ev_ck20, ev_ck0]
  exact law_I (m := fun g1 => f_X12_frontier g1 0 (xs (i + 1)) (xs (i + 2))) (rec := fun g' => rec g' (nI i + 6)) hI (c_frontier hI.2.1) (fun g1 q e => by have z := m_frontier (g := g1) (x1 := xs (i + 1)) (x2 := xs (i + 2)) q; rw [e] at z; exact z) hr
theorem lc_15 {L i : Nat} {xs : Nat → Int32} {rec : ob_St → Int32 → Option ob_St} {g : ob_St} (hi : i + 5 < L) (hL : L ≤ 3072) (hI : Inv g) (hr : ∀ g', Inv g' → ∃ x, rec g' (nI i + 6) = some x) : ∃ x, law_15 L xs 20 0 19 rec g (nI i) = some x := by
  have s1 : ob_sI L xs (nI i + 1) = some (xs (i + 1)) := sx 1 (by omega) hL
  have s2 : ob_sI L xs (nI i + 2) = some (xs (i + 2)) := sx 2 (by omega) hL
  have s3 : ob_sI L xs (nI i + 3) = some (xs (i + 3)) := sx 3 (by omega) hL
  unfold law_15
  simp only [s1, s2, s3, Option.bind_some, ev_ck20, ev_ck0]
  exact law_I (m := fun g1 => f_X12_ways g1 0 (xs (i + 1)) (xs (i + 2)) (xs (i + 3))) (rec := fun g' => rec g' (nI i + 6)) hI (c_ways hI.2.1) (fun g1 q e => by have z := m_ways (g := g1) (x1 := xs (i + 1)) (x2 := xs (i + 2)) (x3 := xs (i + 3)) q; rw [e] at z; exact z) hr
theorem lc_16 {L i : Nat} {xs : Nat → Int32} {rec : ob_St → Int32 → Option ob_St} {g : ob_St} (hi : i + 5 < L) (hL : L ≤ 3072) (hI : Inv g) (hr : ∀ g', Inv g' → ∃ x, rec g' (nI i + 6) = some x) : ∃ x, law_16 L xs 20 0 19 rec g (nI i) = some x := by
  have s1 : ob_sI L xs (nI i + 1) = some (xs (i + 1)) := sx 1 (by omega) hL
  have s2 : ob_sI L xs (nI i + 2) = some (xs (i + 2)) := sx 2 (by omega) hL
  have s3 : ob_sI L xs (nI i + 3) = some (xs (i + 3)) := sx 3 (by omega) hL
  have s4 : ob_sI L xs (nI i + 4) = some (xs (i + 4)) := sx 4 (by omega) hL
  unfold law_16 f_L_ending
  simp only [s1, s2, s3, s4, Option.bind_some, ev_ck20, ev_ck0]
  have z := law_A (m := fun g1 => f_X12_ending g1 0 (xs (i + 1)) (xs (i + 2)) (xs (i + 3)) (xs (i + 4))) (rec := fun g' => rec g' (nI i + 6)) hI (c_ending hI.2.1) (fun g1 q e => by have z := m_ending (g := g1) (x1 := xs (i + 1)) (x2 := xs (i + 2)) (x3 := xs (i + 3)) (x4 := xs (i + 4)) q; rw [e] at z; exact z) hr
  simp only [ev_ck0] at z
  exact z
theorem lc_17 {L i : Nat} {xs : Nat → Int32} {rec : ob_St → Int32 → Option ob_St} {g : ob_St} (hi : i + 5 < L) (hL : L ≤ 3072) (hI : Inv g) (hr : ∀ g', Inv g' → ∃ x, rec g' (nI i + 6) = some x) : ∃ x, law_17 L xs 20 0 19 rec g (nI i) = some x := by
  have s1 : ob_sI L xs (nI i + 1) = some (xs (i + 1)) := sx 1 (by omega) hL
  have s2 : ob_sI L xs (nI i + 2) = some (xs (i + 2)) := sx 2 (by omega) hL
  unfold law_17 f_L_life
  simp only [s1, s2, Option.bind_some, ev_ck20, ev_ck0]
  have z := law_A (m := fun g1 => f_X12_life g1 0 (xs (i + 1)) (xs (i + 2))) (rec := fun g' => rec g' (nI i + 6)) hI (c_life hI.2.1) (fun g1 q e => by have z := m_life (g := g1) (x1 := xs (i + 1)) (x2 := xs (i + 2)) q; rw [e] at z; exact z) hr
  simp only [ev_ck0] at z
  exact z
theorem lc_18 {L i : Nat} {xs : Nat → Int32} {rec : ob_St → Int32 → Option ob_St} {g : ob_St} (hi : i + 5 < L) (hL : L ≤ 3072) (hI : Inv g) (hr : ∀ g', Inv g' → ∃ x, rec g' (nI i + 6) = some x) : ∃ x, law_18 L xs 20 0 19 rec g (nI i) = some x := by
  have s1 : ob_sI L xs (nI i + 1) = some (xs (i + 1)) := sx 1 (by omega) hL
  have s2 : ob_sI L xs (nI i + 2) = some (xs (i + 2)) := sx 2 (by omega) hL
  have s3 : ob_sI L xs (nI i + 3) = some (xs (i + 3)) := sx 3 (by omega) hL
  have s4 : ob_sI L xs (nI i + 4) = some (xs (i + 4)) := sx 4 (by omega) hL
  unfold law_18 f_L_gain
  simp only [s1, s2, s3, s4, Option.bind_some, ev_ck20, ev_ck0]
  have z := law_A (m := fun g1 => f_X12_gain g1 0 (xs (i + 1)) (xs (i + 2)) (xs (i + 3)) (xs (i + 4))) (rec := fun g' => rec g' (nI i + 6)) hI (c_gain hI.2.1) (fun g1 q e => by have z := m_gain (g := g1) (x1 := xs (i + 1)) (x2 := xs (i + 2)) (x3 := xs (i + 3)) (x4 := xs (i + 4)) q; rw [e] at z; exact z) hr
  simp only [ev_ck0] at z
  exact z
theorem lc_19 {L i : Nat} {xs : Nat → Int32} {rec : ob_St → Int32 → Option ob_St} {g : ob_St} (hi : i + 5 < L) (hL : L ≤ 3072) (hI : Inv g) (hr : ∀ g', Inv g' → ∃ x, rec g' (nI i + 6) = some x) : ∃ x, law_19 L xs 20 0 19 rec g (nI i) = some x := by
  have s1 : ob_sI L xs (nI i + 1) = some (xs (i + 1)) := sx 1 (by omega) hL
  have s2 : ob_sI L xs (nI i + 2) = some (xs (i + 2)) := sx 2 (by omega) hL
  unfold law_19
  simp only [s1, s2, Option.bind_some, ev_ck20, ev_ck0]
  exact law_I (m := fun g1 => f_X12_richest g1 0 (xs (i + 1)) (xs (i + 2))) (rec := fun g' => rec g' (nI i + 6)) hI (c_richest hI.2.1) (fun g1 q e => by have z := m_richest (g := g1) (x1 := xs (i + 1)) (x2 := xs (i + 2)) q; rw [e] at z; exact z) hr
theorem lc_20 {L i : Nat} {xs : Nat → Int32} {rec : ob_St → Int32 → Option ob_St} {g : ob_St} (hi : i + 5 < L) (hL : L ≤ 3072) (hI : Inv g) (hr : ∀ g', Inv g' → ∃ x, rec g' (nI i + 6) = some x) : ∃ x, law_20 L xs 20 0 19 rec g (nI i) = some x := by
  have s1 : ob_sI L xs (nI i + 1) = some (xs (i + 1)) := sx 1 (by omega) hL
  have s2 : ob_sI L xs (nI i + 2) = some (xs (i + 2)) := sx 2 (by omega) hL
  unfold law_20
  simp only [s1, s2, Option.bind_some, ev_ck20, ev_ck0]
  exact law_I (m := fun g1 => f_X12_strike g1 0 (xs (i + 1)) (xs (i + 2))) (rec := fun g' => rec g' (nI i + 6)) hI (c_strike hI.2.1) (fun g1 q e => by have z := m_strike (g := g1) (x1 := xs (i + 1)) (x2 := xs (i + 2)) q; rw [e] at z; exact z) hr
theorem lc_21 {L i : Nat} {xs : Nat → Int32} {rec : ob_St → Int32 → Option ob_St} {g : ob_St} (hi : i + 5 < L) (hL : L ≤ 3072) (hI : Inv g) (hr : ∀ g', Inv g' → ∃ x, rec g' (nI i + 6) = some x) : ∃ x, law_21 L xs 20 0 19 rec g (nI i) = some x := by
  have s1 : ob_sI L xs (nI i + 1) = some (xs (i + 1)) := sx 1 (by omega) hL
  have s2 : ob_sI L xs (nI i + 2) = some (xs (i + 2)) := sx 2 (by omega) hL
  unfold law_21 f_L_early
  simp only [s1, s2, Option.bind_some, ev_ck20, ev_ck0]
  have z := law_A (m := fun g1 => f_X12_early g1 0 (xs (i + 1)) (xs (i + 2))) (rec := fun g' => rec g' (nI i + 6)) hI (c_early hI.2.1) (fun g1 q e => by have z := m_early (g := g1) (x1 := xs (i + 1)) (x2 := xs (i + 2)) q; rw [e] at z; exact z) hr
  simp only [ev_ck0] at z
  exact z
theorem lc_22 {L i : Nat} {xs : Nat → Int32} {rec : ob_St → Int32 → Option ob_St} {g : ob_St} (hi : i + 5 < L) (hL : L ≤ 3072) (hI : Inv g) (hr : ∀ g', Inv g' → ∃ x, rec g' (nI i + 6) = some x) : ∃ x, law_22 L xs 20 0 19 rec g (nI i) = some x := by
  have s1 : ob_sI L xs (nI i + 1) = some (xs (i + 1)) := sx 1 (by omega) hL
  have s2 : ob_sI L xs (nI i + 2) = some (xs (i + 2)) := sx 2 (by omega) hL
  have s3 : ob_sI L xs (nI i + 3) = some (xs (i + 3)) := sx 3 (by omega) hL
  have s4 : ob_sI L xs (nI i + 4) = some (xs (i + 4)) := sx 4 (by omega) hL
  unfold law_22 f_L_worthBy
  simp only [s1, s2, s3, s4, Option.bind_some, ev_ck20, ev_ck0]
  have z := law_A (m := fun g1 => f_X12_worthBy g1 0 (xs (i + 1)) (xs (i + 2)) (xs (i + 3)) (xs (i + 4))) (rec := fun g' => rec g' (nI i + 6)) hI (c_worthBy hI.2.1) (fun g1 q e => by have z := m_worthBy (g := g1) (x1 := xs (i + 1)) (x2 := xs (i + 2)) (x3 := xs (i + 3)) (x4 := xs (i + 4)) q; rw [e] at z; exact z) hr
  simp only [ev_ck0] at z
  exact z
theorem lc_23 {L i : Nat} {xs : Nat → Int32} {rec : ob_St → Int32 → Option ob_St} {g : ob_St} (hi : i + 5 < L) (hL : L ≤ 3072) (hI : Inv g) (hr : ∀ g', Inv g' → ∃ x, rec g' (nI i + 6) = some x) : ∃ x, law_23 L xs 20 0 19 rec g (nI i) = some x := by
  have s1 : ob_sI L xs (nI i + 1) = some (xs (i + 1)) := sx 1 (by omega) hL
  have s2 : ob_sI L xs (nI i + 2) = some (xs (i + 2)) := sx 2 (by omega) hL
  unfold law_23
  simp only [s1, s2, Option.bind_some, ev_ck20, ev_ck0]
  exact law_I (m := fun g1 => f_X12_bestBy g1 0 (xs (i + 1)) (xs (i + 2))) (rec := fun g' => rec g' (nI i + 6)) hI (c_bestBy hI.2.1) (fun g1 q e => by have z := m_bestBy (g := g1) (x1 := xs (i + 1)) (x2 := xs (i + 2)) q; rw [e] at z; exact z) hr
theorem lc_24 {L i : Nat} {xs : Nat → Int32} {rec : ob_St → Int32 → Option ob_St} {g : ob_St} (hi : i + 5 < L) (hL : L ≤ 3072) (hI : Inv g) (hr : ∀ g', Inv g' → ∃ x, rec g' (nI i + 6) = some x) : ∃ x, law_24 L xs 20 0 19 rec g (nI i) = some x := by
  have s1 : ob_sI L xs (nI i + 1) = some (xs (i + 1)) := sx 1 (by omega) hL
  have s2 : ob_sI L xs (nI i + 2) = some (xs (i + 2)) := sx 2 (by omega) hL
  have s3 : ob_sI L xs (nI i + 3) = some (xs (i + 3)) := sx 3 (by omega) hL
  unfold law_24 f_L_reach
  simp only [s1, s2, s3, Option.bind_some, ev_ck20, ev_ck0]
  have z := law_A (m := fun g1 => f_X12_reach g1 0 (xs (i + 1)) (xs (i + 2)) (xs (i + 3))) (rec := fun g' => rec g' (nI i + 6)) hI (c_reach hI.2.1) (fun g1 q e => by have z := m_reach (g := g1) (x1 := xs (i + 1)) (x2 := xs (i + 2)) (x3 := xs (i + 3)) q; rw [e] at z; exact z) hr
  simp only [ev_ck0] at z
  exact z
theorem lc_25 {L i : Nat} {xs : Nat → Int32} {rec : ob_St → Int32 → Option ob_St} {g : ob_St} (hi : i + 5 < L) (hL : L ≤ 3072) (hI : Inv g) (hr : ∀ g', Inv g' → ∃ x, rec g' (nI i + 6) = some x) : ∃ x, law_25 L xs 20 0 19 rec g (nI i) = some x := by
  have s1 : ob_sI L xs (nI i + 1) = some (xs (i + 1)) := sx 1 (by omega) hL
  have s2 : ob_sI L xs (nI i + 2) = some (xs (i + 2)) := sx 2 (by omega) hL
  unfold law_25
  simp only [s1, s2, Option.bind_some, ev_ck20, ev_ck0]
  exact law_P (m := fun g1 => f_X12_own g1 0 (xs (i + 1)) (xs (i + 2))) (rec := fun g' => rec g' (nI i + 6)) (PR_own hI) hr
theorem lc_26 {L i : Nat} {xs : Nat → Int32} {rec : ob_St → Int32 → Option ob_St} {g : ob_St} (hi : i + 5 < L) (hL : L ≤ 3072) (hI : Inv g) (hr : ∀ g', Inv g' → ∃ x, rec g' (nI i + 6) = some x) : ∃ x, law_26 L xs 20 0 19 rec g (nI i) = some x := by
  have s1 : ob_sI L xs (nI i + 1) = some (xs (i + 1)) := sx 1 (by omega) hL
  have s2 : ob_sI L xs (nI i + 2) = some (xs (i + 2)) := sx 2 (by omega) hL
  have s3 : ob_sI L xs (nI i + 3) = some (xs (i + 3)) := sx 3 (by omega) hL
  unfold law_26 f_L_book
  simp only [s1, s2, s3, Option.bind_some, ev_ck20, ev_ck0]
  have z := law_A (m := fun g1 => f_X12_book g1 0 (xs (i + 1)) (xs (i + 2)) (xs (i + 3))) (rec := fun g' => rec g' (nI i + 6)) hI (c_book hI.2.1) (fun g1 q e => by have z := m_book (g := g1) (x1 := xs (i + 1)) (x2 := xs (i + 2)) (x3 := xs (i + 3)) q; rw [e] at z; exact z) hr
  simp only [ev_ck0] at z
  exact z
theorem lc_27 {L i : Nat} {xs : Nat → Int32} {rec : ob_St → Int32 → Option ob_St} {g : ob_St} (hi : i + 5 < L) (hL : L ≤ 3072) (hI : Inv g) (hr : ∀ g', Inv g' → ∃ x, rec g' (nI i + 6) = some x) : ∃ x, law_27 L xs 20 0 19 rec g (nI i) = some x := by
  have s1 : ob_sI L xs (nI i + 1) = some (xs (i + 1)) := sx 1 (by omega) hL
  have s2 : ob_sI L xs (nI i + 2) = some (xs (i + 2)) := sx 2 (by omega) hL
  have s3 : ob_sI L xs (nI i + 3) = some (xs (i + 3)) := sx 3 (by omega) hL
  have s4 : ob_sI L xs (nI i + 4) = some (xs (i + 4)) := sx 4 (by omega) hL
  unfold law_27 f_L_cover
  simp only [s1, s2, s3, s4, Option.bind_some, ev_ck20, ev_ck0]
  have z := law_A (m := fun g1 => f_X12_cover g1 0 (xs (i + 1)) (xs (i + 2)) (xs (i + 3)) (xs (i + 4))) (rec := fun g' => rec g' (nI i + 6)) hI (c_cover hI.2.1) (fun g1 q e => by have z := m_cover (g := g1) (x1 := xs (i + 1)) (x2 := xs (i + 2)) (x3 := xs (i + 3)) (x4 := xs (i + 4)) q; rw [e] at z; exact z) hr
  simp only [ev_ck0] at z
  exact z
theorem lc_28 {L i : Nat} {xs : Nat → Int32} {rec : ob_St → Int32 → Option ob_St} {g : ob_St} (hi : i + 5 < L) (hL : L ≤ 3072) (hI : Inv g) (hr : ∀ g', Inv g' → ∃ x, rec g' (nI i + 6) = some x) : ∃ x, law_28 L xs 20 0 19 rec g (nI i) = some x := by
  have s1 : ob_sI L xs (nI i + 1) = some (xs (i + 1)) := sx 1 (by omega) hL
  unfold law_28
  simp only [s1, Option.bind_some, ev_ck20, ev_ck0]
  exact law_I (m := fun g1 => f_X12_extreme g1 0 (xs (i + 1))) (rec := fun g' => rec g' (nI i + 6)) hI (c_extreme hI.2.1) (fun g1 q e => by have z := m_extreme (g := g1) (x := xs (i + 1)) q; rw [e] at z; exact z) hr
theorem lc_29 {L i : Nat} {xs : Nat → Int32} {rec : ob_St → Int32 → Option ob_St} {g : ob_St} (hi : i + 5 < L) (hL : L ≤ 3072) (hI : Inv g) (hr : ∀ g', Inv g' → ∃ x, rec g' (nI i + 6) = some x) : ∃ x, law_29 L xs 20 0 19 rec g (nI i) = some x := by
  have s1 : ob_sI L xs (nI i + 1) = some (xs (i + 1)) := sx 1 (by omega) hL
  unfold law_29
  simp only [s1, Option.bind_some, ev_ck20, ev_ck0]
  exact law_P (m := fun g1 => f_X12_move g1 0 (xs (i + 1))) (rec := fun g' => rec g' (nI i + 6)) (PR_move hI) hr
theorem lc_30 {L i : Nat} {xs : Nat → Int32} {rec : ob_St → Int32 → Option ob_St} {g : ob_St} (hi : i + 5 < L) (hL : L ≤ 3072) (hI : Inv g) (hr : ∀ g', Inv g' → ∃ x, rec g' (nI i + 6) = some x) : ∃ x, law_30 L xs 20 0 19 rec g (nI i) = some x := by
  have s1 : ob_sI L xs (nI i + 1) = some (xs (i + 1)) := sx 1 (by omega) hL
  have s2 : ob_sI L xs (nI i + 2) = some (xs (i + 2)) := sx 2 (by omega) hL
  unfold law_30
  simp only [s1, s2, Option.bind_some, ev_ck20, ev_ck0]
  exact law_P (m := fun g1 => f_X12_fall g1 0 (xs (i + 1)) (xs (i + 2))) (rec := fun g' => rec g' (nI i + 6)) (PR_fall hI) hr
theorem lc_31 {L i : Nat} {xs : Nat → Int32} {rec : ob_St → Int32 → Option ob_St} {g : ob_St} (hi : i + 5 < L) (hL : L ≤ 3072) (hI : Inv g) (hr : ∀ g', Inv g' → ∃ x, rec g' (nI i + 6) = some x) : ∃ x, law_31 L xs 20 0 19 rec g (nI i) = some x := by
  have s1 : ob_sI L xs (nI i + 1) = some (xs (i + 1)) := sx 1 (by omega) hL
  have s2 : ob_sI L xs (nI i + 2) = some (xs (i + 2)) := sx 2 (by omega) hL
  unfold law_31
  simp only [s1, s2, Option.bind_some, ev_ck20, ev_ck0]
  exact law_P (m := fun g1 => f_X12_cash g1 0 (xs (i + 1)) (xs (i + 2))) (rec := fun g' => rec g' (nI i + 6)) (PR_cash hI) hr
theorem lc_32 {L i : Nat} {xs : Nat → Int32} {rec : ob_St → Int32 → Option ob_St} {g : ob_St} (hi : i + 5 < L) (hL : L ≤ 3072) (hI : Inv g) (hr : ∀ g', Inv g' → ∃ x, rec g' (nI i + 6) = some x) : ∃ x, law_32 L xs 20 0 19 rec g (nI i) = some x := by
  have s1 : ob_sI L xs (nI i + 1) = some (xs (i + 1)) := sx 1 (by omega) hL
  have s2 : ob_sI L xs (nI i + 2) = some (xs (i + 2)) := sx 2 (by omega) hL
  unfold law_32
  simp only [s1, s2, Option.bind_some, ev_ck20, ev_ck0]
  exact law_P (m := fun g1 => f_X12_restrike g1 0 (xs (i + 1)) (xs (i + 2))) (rec := fun g' => rec g' (nI i + 6)) (PR_restrike hI) hr
theorem lc_33 {L i : Nat} {xs : Nat → Int32} {rec : ob_St → Int32 → Option ob_St} {g : ob_St} (hi : i + 5 < L) (hL : L ≤ 3072) (hI : Inv g) (hr : ∀ g', Inv g' → ∃ x, rec g' (nI i + 6) = some x) : ∃ x, law_33 L xs 20 0 19 rec g (nI i) = some x := by
  unfold law_33
  simp only [Option.bind_some, ev_ck20, ev_ck0]
  exact law_P (m := fun g1 => f_X12_undo g1 0) (rec := fun g' => rec g' (nI i + 6)) (PR_undo hI) hr
theorem lc_34 {L i : Nat} {xs : Nat → Int32} {rec : ob_St → Int32 → Option ob_St} {g : ob_St} (hi : i + 5 < L) (hL : L ≤ 3072) (hI : Inv g) (hr : ∀ g', Inv g' → ∃ x, rec g' (nI i + 6) = some x) : ∃ x, law_34 L xs 20 0 19 rec g (nI i) = some x := by
  have s1 : ob_sI L xs (nI i + 1) = some (xs (i + 1)) := sx 1 (by omega) hL
  unfold law_34
  simp only [s1, Option.bind_some, ev_ck20, ev_ck0]
  exact law_P (m := fun g1 => f_X12_image g1 0 (xs (i + 1))) (rec := fun g' => rec g' (nI i + 6)) (PR_image hI) hr
theorem lc_35 {L i : Nat} {xs : Nat → Int32} {rec : ob_St → Int32 → Option ob_St} {g : ob_St} (hi : i + 5 < L) (hL : L ≤ 3072) (hI : Inv g) (hr : ∀ g', Inv g' → ∃ x, rec g' (nI i + 6) = some x) : ∃ x, law_35 L xs 20 0 19 rec g (nI i) = some x := by
  have s1 : ob_sI L xs (nI i + 1) = some (xs (i + 1)) := sx 1 (by omega) hL
  unfold law_35
  simp only [s1, Option.bind_some, ev_ck20, ev_ck0]
  exact law_P (m := fun g1 => f_X12_restore g1 0 (xs (i + 1))) (rec := fun g' => rec g' (nI i + 6)) (PR_restore hI) hr
theorem law_one {L i : Nat} {xs : Nat → Int32} {rec : ob_St → Int32 → Option ob_St} {g : ob_St} (hL : L ≤ 3072) (hi : i < 10000) (hI : Inv g) (hr : i + 5 < L → ∀ g', Inv g' → ∃ x, rec g' (nI i + 6) = some x) : ∃ x, law_b L xs 20 0 19 rec g (nI i) = some x := by
  unfold law_b ob_let
  by_cases c : i + 5 < L
  · have hr := hr c
    have n6 : ¬ (Int32.ofNat L - 6) < nI i := by
      have e : Int32.ofNat L - 6 = nI (L - 6) := pk_sub (a := L) (b := 6) (by omega)
      rw [e]
      exact nI_nlt (by omega) (by omega)
    have s0 : ob_sI L xs (nI i) = some (xs i) := by
      unfold ob_sI
      rw [if_pos (pu_in (by omega) (by omega)), nI_clamp (by omega)]
    rw [if_neg n6, s0, Option.bind_some]
    generalize xs i &&& 63 = z
    dsimp only
    by_cases c0 : z = 0
    · rw [if_pos c0]; exact lc_0 c hL hI hr
    rw [if_neg c0]
    by_cases c1 : z = 1
    · rw [if_pos c1]; exact lc_1 c hL hI hr
    rw [if_neg c1]
    by_cases c2 : z = 2
    · rw [if_pos c2]; exact lc_2 c hL hI hr
    rw [if_neg c2]
    by_cases c3 : z = 3
    · rw [if_pos c3]; exact lc_3 c hL hI hr
    rw [if_neg c3]
    by_cases c4 : z = 4
    · rw [if_pos c4]; exact lc_4 c hL hI hr
    rw [if_neg c4]
    by_cases c5 : z = 5
    · rw [if_pos c5]; exact lc_5 c hL hI hr
    rw [if_neg c5]
    by_cases c6 : z = 6
    · rw [if_pos c6]; exact lc_6 c hL hI hr
    rw [if_neg c6]
    by_cases c7 : z = 7
    · rw [if_pos c7]; exact lc_7 c hL hI hr
    rw [if_neg c7]
    by_cases c8 : z = 8
    · rw [if_pos c8]; exact lc_8 c hL hI hr
    rw [if_neg c8]
    by_cases c9 : z = 9
    · rw [if_pos c9]; exact lc_9 c hL hI hr
    rw [if_neg c9]
    by_cases c10 : z = 10
    · rw [if_pos c10]; exact lc_10 c hL hI hr
    rw [if_neg c10]
    by_cases c11 : z = 11
    · rw [if_pos c11]; exact lc_11 c hL hI hr
    rw [if_neg c11]
    by_cases c12 : z = 12
    · rw [if_pos c12]; exact lc_12 c hL hI hr
    rw [if_neg c12]
    by_cases c13 : z = 13
    · rw [if_pos c13]; exact lc_13 c hL hI hr
    rw [if_neg c13]
    by_cases c14 : z = 14
    · rw [if_pos c14]; exact lc_14 c hL hI hr
    rw [if_neg c14]
    by_cases c15 : z = 15
    · rw [if_pos c15]; exact lc_15 c hL hI hr
    rw [if_neg c15]
    by_cases c16 : z = 16
    · rw [if_pos c16]; exact lc_16 c hL hI hr
    rw [if_neg c16]
    by_cases c17 : z = 17
    · rw [if_pos c17]; exact lc_17 c hL hI hr
    rw [if_neg c17]
    by_cases c18 : z = 18
    · rw [if_pos c18]; exact lc_18 c hL hI hr
    rw [if_neg c18]
    by_cases c19 : z = 19
    · rw [if_pos c19]; exact lc_19 c hL hI hr
    rw [if_neg c19]
    by_cases c20 : z = 20
    · rw [if_pos c20]; exact lc_20 c hL hI hr
    rw [if_neg c20]
    by_cases c21 : z = 21
    · rw [if_pos c21]; exact lc_21 c hL hI hr
    rw [if_neg c21]
    by_cases c22 : z = 22
    · rw [if_pos c22]; exact lc_22 c hL hI hr
    rw [if_neg c22]
    by_cases c23 : z = 23
    · rw [if_pos c23]; exact lc_23 c hL hI hr
    rw [if_neg c23]
    by_cases c24 : z = 24
    · rw [if_pos c24]; exact lc_24 c hL hI hr
    rw [if_neg c24]
    by_cases c25 : z = 25
    · rw [if_pos c25]; exact lc_25 c hL hI hr
    rw [if_neg c25]
    by_cases c26 : z = 26
    · rw [if_pos c26]; exact lc_26 c hL hI hr
    rw [if_neg c26]
    by_cases c27 : z = 27
    · rw [if_pos c27]; exact lc_27 c hL hI hr
    rw [if_neg c27]
    by_cases c28 : z = 28
    · rw [if_pos c28]; exact lc_28 c hL hI hr
    rw [if_neg c28]
    by_cases c29 : z = 29
    · rw [if_pos c29]; exact lc_29 c hL hI hr
    rw [if_neg c29]
    by_cases c30 : z = 30
    · rw [if_pos c30]; exact lc_30 c hL hI hr
    rw [if_neg c30]
    by_cases c31 : z = 31
    · rw [if_pos c31]; exact lc_31 c hL hI hr
    rw [if_neg c31]
    by_cases c32 : z = 32
    · rw [if_pos c32]; exact lc_32 c hL hI hr
    rw [if_neg c32]
    by_cases c33 : z = 33
    · rw [if_pos c33]; exact lc_33 c hL hI hr
    rw [if_neg c33]
    by_cases c34 : z = 34
    · rw [if_pos c34]; exact lc_34 c hL hI hr
    rw [if_neg c34]
    by_cases c35 : z = 35
    · rw [if_pos c35]; exact lc_35 c hL hI hr
    rw [if_neg c35]
    exact hr g hI
  · refine ⟨g, ?_⟩
    have n6 : (Int32.ofNat L - 6) < nI i := by
      have h1 : (Int32.ofNat L).toInt = (L : Int) := ni_of (n := L) (by omega)
      have h6 : (6 : Int32).toInt = 6 := rfl
      rw [ni_lt, ni_sub (by omega) (by omega), ni_of (by omega), h1, h6]
      omega
    rw [if_pos n6]
theorem law_run {L : Nat} {xs : Nat → Int32} (hL : L ≤ 3072) : ∀ f t g, t + f = 512 → Inv g → ∃ x, law_f L xs 20 0 19 (f + 1) g (nI (6 * t)) = some x := by
  intro f
  induction f with
  | zero =>
    intro t g ht hI
    show ∃ x, law_b L xs 20 0 19 (law_f L xs 20 0 19 0) g (nI (6 * t)) = some x
    exact law_one hL (by omega) hI (fun h => by omega)
  | succ f ih =>
    intro t g ht hI
    show ∃ x, law_b L xs 20 0 19 (law_f L xs 20 0 19 (f + 1)) g (nI (6 * t)) = some x
    refine law_one hL (by omega) hI (fun h g' hI' => ?_)
    have e : nI (6 * t) + 6 = nI (6 * (t + 1)) := nI_add (6 * t) 6
    rw [e]
    exact ih (t + 1) g' (by omega) hI'
theorem Inv_0 : Inv st_g0 := by
  have hS : ∀ j, st_g0.1 1 j = upd (upd (fun _ => 0) 0 100) 1 2 j := fun j => by
    unfold st_g0
    dsimp only
    rw [if_pos rfl]
  have r0 : ∀ n k, n ≠ 1 → n ≠ 24 → n ≠ 32 → n ≠ 40 → n ≠ 48 → n ≠ 67 → st_g0.1 n k = 0 := fun n k h1 h2 h3 h4 h5 h6 => by
    unfold st_g0
    dsimp only
    rw [if_neg h1, if_neg (by omega), if_neg (by omega)]
  have r24 : ∀ k, st_g0.1 24 k = if k = 3 then 100 else if k = 4 then 2 else 0 := fun k => by
    unfold st_g0
    dsimp only
    rw [if_neg (by omega), if_pos (Or.inl rfl)]
  have r67 : st_g0.1 67 6 = 1 := by
    unfold st_g0
    dsimp only
    rw [if_neg (by omega), if_neg (by omega), if_pos ⟨rfl, rfl⟩]
  have rK : ∀ i, st_g0.2 61 i = kv_kf 110 i := fun i => by
    unfold st_g0
    dsimp only
    rw [if_pos rfl]
  generalize st_g0 = G at *
  have z : ∀ j, 2 ≤ j → G.1 1 j = 0 := fun j hj => by rw [hS, pu_upd_ne (by omega), pu_upd_ne (by omega)]
  have zn : ∀ j, 2 ≤ j → sN (G.1 1) j = 0 := fun j hj => sN_nI (a := 0) (z j hj) (by omega)
  have y0 : G.1 1 0 = 100 := by rw [hS, pu_upd_ne (by omega), pu_upd_eq]
  have y1 : G.1 1 1 = 2 := by rw [hS, pu_upd_eq]
  have n0 : sN (G.1 1) 0 = 100 := sN_nI (a := 100) y0 (by omega)
  have n1 : sN (G.1 1) 1 = 2 := sN_nI (a := 2) y1 (by omega)
  have hW : sp_WF (G.1 1) := by
    refine ⟨⟨by rw [y0, n0]; rfl, by omega⟩, ⟨by rw [y1, n1]; rfl, by omega, by omega⟩, ⟨by rw [z 2 (by omega), zn 2 (by omega)]; rfl, by rw [zn 2 (by omega)]; omega⟩, ⟨by rw [z 29 (by omega), zn 29 (by omega)]; rfl, by rw [zn 29 (by omega)]; omega⟩, z 3 (by omega), fun t a c => ?_, fun t ht => ?_, ?_, fun k hk => ?_⟩
    · rw [zn 2 (by omega)] at c; omega
    · rw [z _ (by omega), zn _ (by omega)]; exact ⟨rfl, by omega⟩
    · rw [zn 2 (by omega)]; exact Nat.zero_le _
    · rw [zn 29 (by omega)] at hk; omega
  have q : ∀ n k, n ≠ 1 → n ≠ 24 → n ≠ 32 → n ≠ 40 → n ≠ 48 → n ≠ 67 → G.1 n k = nI 0 := r0
  refine ⟨⟨hW, Or.inl (q 0 19 (by omega) (by omega) (by omega) (by omega) (by omega) (by omega))⟩, ⟨hW, ⟨?_, ?_, ?_, ?_, fun t ht => ?_, fun k hk => ?_⟩, Or.inl r67⟩, ⟨0, by omega, q 20 1 (by omega) (by omega) (by omega) (by omega) (by omega) (by omega), q 0 8 (by omega) (by omega) (by omega) (by omega) (by omega) (by omega), fun i hi => by omega, ?_⟩, fun k hk => ⟨?_, Or.inl (q 5 k (by omega) (by omega) (by omega) (by omega) (by omega) (by omega))⟩, ⟨0, by omega, q 63 3 (by omega) (by omega) (by omega) (by omega) (by omega) (by omega), q 0 6 (by omega) (by omega) (by omega) (by omega) (by omega) (by omega), fun i hi => by omega⟩, fun i _ => rK i⟩
  · rw [r24, if_pos rfl, y0]
  · rw [r24, if_neg (by omega), if_pos rfl, y1]
  · rw [r24, if_neg (by omega), if_neg (by omega), z 2 (by omega)]
  · rw [r24, if_neg (by omega), if_neg (by omega), z 29 (by omega)]
  · rw [z _ (by omega), z _ (by omega)]
    exact ⟨q 25 t (by omega) (by omega) (by omega) (by omega) (by omega) (by omega), q 26 t (by omega) (by omega) (by omega) (by omega) (by omega) (by omega)⟩
  · rw [zn 29 (by omega)] at hk; omega
  · rw [q 20 2 (by omega) (by omega) (by omega) (by omega) (by omega) (by omega), q 0 15 (by omega) (by omega) (by omega) (by omega) (by omega) (by omega)]
  · rw [q 23 k (by omega) (by omega) (by omega) (by omega) (by omega) (by omega), q 5 k (by omega) (by omega) (by omega) (by omega) (by omega) (by omega)]
theorem pure_all : ∀ (L : Nat) (xs : Nat → Int32), L ≤ 3072 → ∃ x, law_f L xs 20 0 19 513 st_g0 0 = some x := fun L xs hL => law_run hL 512 0 st_g0 (by omega) Inv_0
