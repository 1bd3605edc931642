/-! the class's scan -/
def c_SS (i k : Nat) (v : Int64) (g0 g : ob_St) : Prop := (∀ m, m ≠ 58 → g.1 m = g0.1 m) ∧ (∀ x, x ≠ i → g.1 58 x = g0.1 58 x) ∧ g.1 58 i = nI k ∧ (∀ m, m ≠ 60 → g.2 m = g0.2 m) ∧ (∀ x, x ≠ i → g.2 60 x = g0.2 60 x) ∧ (k ≠ 1 → g.2 60 i = v)
theorem c_SS_1 {i : Nat} {v : Int64} {g : ob_St} : c_SS i 1 v g (ob_up g.1 58 i 1, g.2) :=
  ⟨fun m hm => pu_up_ne hm, fun x hx => by show ob_up g.1 58 i 1 58 x = _; rw [pu_up_eq, pu_upd_ne hx], by show ob_up g.1 58 i 1 58 i = _; rw [pu_up_eq, pu_upd_eq]; rfl, fun m _ => rfl, fun x _ => rfl, fun h => absurd rfl h⟩
theorem c_SS_2 {i k : Nat} {v : Int64} {g : ob_St} : c_SS i k v g (ob_up (ob_up g.1 58 i 1) 58 i (nI k), ob_upL g.2 60 i v) :=
  ⟨fun m hm => (pu_up_ne hm).trans (pu_up_ne hm), fun x hx => by show ob_up (ob_up g.1 58 i 1) 58 i (nI k) 58 x = _; rw [pu_up_eq, pu_upd_ne hx, pu_up_eq, pu_upd_ne hx], by show ob_up (ob_up g.1 58 i 1) 58 i (nI k) 58 i = _; rw [pu_up_eq, pu_upd_eq], fun m hm => pu_upL_ne hm, fun x hx => by show ob_upL g.2 60 i v 60 x = _; rw [pu_upL_eq, pu_updL_ne hx], fun _ => by show ob_upL g.2 60 i v 60 i = _; rw [pu_upL_eq, pu_updL_eq]⟩
theorem lx_f_L {b : Nat → Int32} {q l : Nat} (hA : ∀ i, i < l → tA (b (q + i)) = true) (h : lx_f b q l = 0) : ∀ i, i < l → tL (b (q + i)) = true := fun i hi => by
  have a := hA i hi
  have f := lx_f_none l h i hi
  unfold tA at a
  by_cases c : tL (b (q + i)) = true
  · exact c
  · rw [if_neg c] at a
    exact absurd a f
theorem nI_m1 {a : Nat} (h : a < 100) : ¬ nI a = (-1 : Int32) := by
  have : ∀ a, a < 100 → ¬ nI a = (-1 : Int32) := by decide +kernel
  exact this a h
theorem c_sort {g : ob_St} {b : Nat → Int32} {n q r i : Nat} (hK : I_K g) (hb : ∀ i, i < n → g.1 21 i = b i) (hn : n ≤ 500) (hq : q < r) (hr : r ≤ n) (hi : i < 501) (hA : ∀ i, i < r - q → tA (b (q + i)) = true) : ∃ g', f_X10_sort g 57 (nI i) (nI q) (nI r) = some g' ∧ c_SS i (lx_rk b q (r - q)) (lx_rv b q (r - q)) g g' := by
  have lle := lx_f_le (b := b) (q := q) (r - q)
  generalize hg12 : ((ob_up g.1 58 i 1, g.2) : ob_St) = g12
  have r12 : B_X10_sort_121 g12 57 (nI i) (nI (lx_f b q (r - q))) (lx_h b q (r - q)) (nI (r - q)) = (if lx_f b q (r - q) = 0 then (if 8 < r - q then some g12 else (lx_kw b q (r - q)).elim (some (ob_up g12.1 58 i (nI 4), ob_upL g12.2 60 i (lx_h b q (r - q)))) (fun k => some (ob_up g12.1 58 i (nI 5), ob_upL g12.2 60 i (nI (kw_s k)).toInt64))) else some g12) := by
    unfold B_X10_sort_121
    by_cases c1 : lx_f b q (r - q) = 0
    · have c1' : nI (lx_f b q (r - q)) = 0 := by rw [c1]; rfl
      rw [if_pos c1', if_pos c1]
      by_cases c2 : 8 < r - q
      · have c2' : (8 : Int32) < nI (r - q) := nI_lt (a := 8) c2 (by omega)
        rw [if_pos c2', if_pos c2]
      · have c2' : ¬ (8 : Int32) < nI (r - q) := nI_nlt (b := r - q) (a := 8) (by omega) (by omega)
        have hK' : I_K g12 := I_K_fr (g := g) (by rw [← hg12]) hK
        have hL := lx_f_L hA c1
        have hN := lx_f_none (r - q) c1
        rw [if_neg c2', if_neg c2, c_keywordOf hK', kw_cls (by omega) hL hN, ev_ck57, Option.bind_some, ev_r57_0, Option.bind_some]
        cases hk : lx_kw b q (r - q) with
        | none =>
          show (if (-1 : Int32) = -1 then B_X10_sort_157 g12 57 (nI i) (lx_h b q (r - q)) (-1) 58 (nI i) 4 else B_X10_sort_157 g12 57 (nI i) (lx_h b q (r - q)) (-1) 58 (nI i) 5) = _
          rw [if_pos rfl]
          unfold B_X10_sort_157
          rw [ev_w58 hi, Option.bind_some, ev_r57_2, Option.bind_some, if_pos rfl, ev_w60 hi, Option.bind_some]
          rfl
        | some k =>
          have k20 := (kw_si k (sp_fst_e 20 k hk).1).2.2.1
          have km : ¬ nI (kw_s k) = (-1 : Int32) := nI_m1 (by omega)
          show (if nI (kw_s k) = -1 then B_X10_sort_157 g12 57 (nI i) (lx_h b q (r - q)) (nI (kw_s k)) 58 (nI i) 4 else B_X10_sort_157 g12 57 (nI i) (lx_h b q (r - q)) (nI (kw_s k)) 58 (nI i) 5) = _
          rw [if_neg km]
          unfold B_X10_sort_157
          rw [ev_w58 hi, Option.bind_some, ev_r57_2, Option.bind_some, if_neg km, ev_w60 hi, Option.bind_some]
          rfl
    · have c1' : ¬ nI (lx_f b q (r - q)) = 0 := nI_ne0 (by omega) (by omega)
      rw [if_neg c1', if_neg c1]
  unfold f_X10_sort
  rw [c_sortL hb hn (by omega) hr, Option.bind_some, ev_r57_0, Option.bind_some, ev_w58 hi, Option.bind_some, hg12]
  show ∃ g', (if nI (lx_f b q (r - q)) = nI r - nI q then _ else _) = _ ∧ _
  rw [pk_sub (by omega)]
  by_cases c1 : lx_f b q (r - q) = r - q
  · rw [if_pos (by rw [c1])]
    by_cases c2 : r - q ≤ 3
    · have c2' : ¬ (3 : Int32) < nI (r - q) := nI_nlt (b := r - q) (a := 3) c2 (by omega)
      refine ⟨(ob_up g12.1 58 i (nI 3), ob_upL g12.2 60 i (lx_s b q (r - q))), ?_, ?_⟩
      · rw [if_neg c2', Option.bind_some, ev_w58 hi, Option.bind_some, ev_r57_2, Option.bind_some, ev_w60 hi, Option.bind_some]
        rfl
      · rw [← hg12]
        unfold lx_rk lx_rv
        rw [if_pos ⟨c1, c2⟩, if_pos ⟨c1, c2⟩]
        exact c_SS_2
    · have c2' : (3 : Int32) < nI (r - q) := nI_lt (a := 3) (by omega) (by omega)
      refine ⟨g12, ?_, ?_⟩
      · rw [if_pos c2']
        show B_X10_sort_121 g12 57 (nI i) (nI (lx_f b q (r - q))) (lx_h b q (r - q)) (nI (r - q)) = _
        rw [r12, if_neg (by omega)]
      · unfold lx_rk
        rw [if_neg (fun h => c2 h.2), if_neg (fun h => by omega), ← hg12]
        exact c_SS_1
  · rw [if_neg (fun h => c1 ((nI_eq (by omega) (by omega)).mp h))]
    show ∃ g', B_X10_sort_121 g12 57 (nI i) (nI (lx_f b q (r - q))) (lx_h b q (r - q)) (nI (r - q)) = _ ∧ _
    rw [r12]
    unfold lx_rk lx_rv
    have c1' : ¬ (lx_f b q (r - q) = r - q ∧ r - q ≤ 3) := fun h => c1 h.1
    rw [if_neg c1', if_neg c1']
    by_cases c3 : lx_f b q (r - q) = 0
    · rw [if_pos c3]
      by_cases c4 : 8 < r - q
      · rw [if_pos c4, if_neg (fun h => by omega)]
        exact ⟨g12, rfl, by rw [← hg12]; exact c_SS_1⟩
      · rw [if_neg c4, if_pos ⟨c3, by omega⟩]
        cases hk : lx_kw b q (r - q) with
        | none => exact ⟨_, rfl, by rw [← hg12]; exact c_SS_2⟩
        | some k => exact ⟨_, rfl, by rw [← hg12]; exact c_SS_2⟩
    · rw [if_neg c3, if_neg (fun h => c3 h.1)]
      exact ⟨g12, rfl, by rw [← hg12]; exact c_SS_1⟩
theorem bI_0 {x : Bool} : bI x = 0 ↔ ¬ x = true := by cases x <;> decide
theorem tA_i {x : Int32} : tA x = true ↔ tL x = true ∨ tF x = true := by
  unfold tA
  by_cases c : tL x = true
  · rw [if_pos c]; exact ⟨fun _ => Or.inl c, fun _ => rfl⟩
  · rw [if_neg c]; exact ⟨Or.inr, fun h => h.resolve_left c⟩
theorem c_runEnd {g : ob_St} {b : Nat → Int32} {n q : Nat} (hb : ∀ i, i < n → g.1 21 i = b i) (hn : n ≤ 500) (hq : q ≤ n) : f_X10_runEnd g 57 (nI q) (nI n) = some (nI (re b n q)) := by
  have key : ∀ d q fuel, q + d = n → d < fuel → L_X10_runEnd_2 g 57 (nI n) fuel (nI q) = some (nI (re b n q)) := by
    intro d
    induction d with
    | zero =>
      intro q fuel hq hf
      obtain ⟨f, rfl⟩ : ∃ f, fuel = f + 1 := ⟨fuel - 1, by omega⟩
      have : q = n := by omega
      subst this
      show Lb_X10_runEnd_2 _ _ _ _ _ = _
      unfold Lb_X10_runEnd_2
      rw [if_pos (nI_le (by omega) (by omega)), re_n]
    | succ d ih =>
      intro q fuel hq hf
      obtain ⟨f, rfl⟩ : ∃ f, fuel = f + 1 := ⟨fuel - 1, by omega⟩
      show Lb_X10_runEnd_2 _ _ _ _ _ = _
      unfold Lb_X10_runEnd_2 B_X10_runEnd_31
      rw [if_neg (nI_ge (by omega) (by omega)), ev_r57_3, Option.bind_some, ev_a21 (by omega), Option.bind_some, hb q (by omega), c_isLetter, Option.bind_some]
      have go : tA (b q) = true → L_X10_runEnd_2 g 57 (nI n) f (nI q + 1) = some (nI (re b n q)) := fun c => by
        rw [nI_1, ih (q + 1) f (by omega) (by omega), re_1 (by omega) c]
      by_cases c1 : tL (b q) = true
      · rw [if_neg (fun h => bI_0.mp h c1)]
        exact go (tA_i.mpr (Or.inl c1))
      · rw [if_pos (bI_0.mpr c1), Option.bind_some, ev_a21 (by omega), Option.bind_some, hb q (by omega), c_isFigure, Option.bind_some]
        by_cases c2 : tF (b q) = true
        · rw [if_neg (fun h => bI_0.mp h c2)]
          exact go (tA_i.mpr (Or.inr c2))
        · rw [if_pos (bI_0.mpr c2), re_0 (by omega) (fun h => (tA_i.mp h).elim c1 c2)]
  unfold f_X10_runEnd
  rw [key (n - q) q ob_FU (by omega) (by unfold ob_FU; omega), Option.bind_some]

/-- the tokens that the class holds -/
def c_Tk (b : Nat → Int32) (n m : Nat) (g : ob_St) : Prop := (m ≤ n ∧ n ≤ 500) ∧ (∀ i, i ≤ m → g.1 58 i = nI (lx_k b n (lx_ps b n i)) ∧ g.1 59 i = nI (sk b n (lx_ps b n i))) ∧ (∀ i, i < m → lx_k b n (lx_ps b n i) ≠ 0 ∧ (3 ≤ lx_k b n (lx_ps b n i) → g.2 60 i = lx_v b n (lx_ps b n i))) ∧ lx_k b n (lx_ps b n m) = 0
def c_SI (b : Nat → Int32) (n : Nat) (g0 : ob_St) (i a : Nat) (g : ob_St) : Prop :=
  ((∀ m, m ≠ 58 → m ≠ 59 → g.1 m = g0.1 m) ∧ (∀ m, m ≠ 60 → g.2 m = g0.2 m)) ∧ i ≤ a ∧ sk b n (lx_ps b n i) = sk b n a ∧
  ∀ x, x < i → g.1 58 x = nI (lx_k b n (lx_ps b n x)) ∧ g.1 59 x = nI (sk b n (lx_ps b n x)) ∧ lx_k b n (lx_ps b n x) ≠ 0 ∧ (3 ≤ lx_k b n (lx_ps b n x) → g.2 60 x = lx_v b n (lx_ps b n x))
theorem tA_32 : ¬ tA 32 = true := by decide
theorem nI_max {a b : Nat} (ha : a < 2 ^ 31) (hb : b < 2 ^ 31) : ob_imax (nI a) (nI b) = nI (if a < b then b else a) := by
  unfold ob_imax
  by_cases c : a < b
  · rw [if_pos (nI_lt c hb), if_pos c]
  · rw [if_neg (nI_nlt (by omega) ha), if_neg c]
theorem lx_rk_ok {b : Nat → Int32} {q l : Nat} : lx_rk b q l ≠ 0 := by
  unfold lx_rk
  by_cases c1 : lx_f b q l = l ∧ l ≤ 3
  · rw [if_pos c1]; omega
  rw [if_neg c1]
  by_cases c2 : lx_f b q l = 0 ∧ l ≤ 8
  · rw [if_pos c2]
    by_cases c3 : (lx_kw b q l).isSome = true
    · rw [if_pos c3]; omega
    · rw [if_neg c3]; omega
  · rw [if_neg c2]; omega
theorem c_scanL {g0 : ob_St} {b : Nat → Int32} {n : Nat} (hK : I_K g0) (hb : ∀ i, i < n → g0.1 21 i = b i) (hn : n ≤ 500) : ∀ d i a fuel g, a + d = n → d < fuel → c_SI b n g0 i a g → ∃ g' m, L_X10_scan_4 57 (nI n) fuel g (nI i) (nI a) = some (g', nI m) ∧ c_SI b n g0 m n g' := by
  intro d
  induction d using Nat.strongRecOn with
  | _ d ih =>
    intro i a fuel g ha hf hJ
    obtain ⟨f, rfl⟩ : ∃ f, fuel = f + 1 := ⟨fuel - 1, by omega⟩
    obtain ⟨⟨j1, j2⟩, j3, j4, j5⟩ := id hJ
    by_cases cd : d = 0
    · have : a = n := by omega
      subst this
      refine ⟨g, i, ?_, hJ⟩
      show Lb_X10_scan_4 _ _ _ _ _ _ = _
      unfold Lb_X10_scan_4
      rw [if_pos (nI_le (by omega) (by omega))]
    · have han : a < n := by omega
      have h500 : ¬ (500 : Int32) ≤ nI i := nI_ge (a := i) (b := 500) (by omega) (by omega)
      have hb1 : ∀ i, i < n → g.1 21 i = b i := fun i hi => by rw [j1 21 (by omega) (by omega)]; exact hb i hi
      generalize hg3 : ((ob_up g.1 59 i (nI a), g.2) : ob_St) = g3
      have q1 : ∀ m, m ≠ 59 → g3.1 m = g.1 m := fun m hm => by rw [← hg3]; exact pu_up_ne hm
      have q2 : g3.2 = g.2 := by rw [← hg3]
      have q3 : ∀ x, x ≠ i → g3.1 59 x = g.1 59 x := fun x hx => by rw [← hg3]; show ob_up g.1 59 i (nI a) 59 x = _; rw [pu_up_eq, pu_upd_ne hx]
      have q4 : g3.1 59 i = nI a := by rw [← hg3]; show ob_up g.1 59 i (nI a) 59 i = _; rw [pu_up_eq, pu_upd_eq]
      have hb3 : ∀ i, i < n → g3.1 21 i = b i := fun i hi => by rw [q1 21 (by omega)]; exact hb1 i hi
      have hre := re_le (b := b) (n := n) (p := a) (by omega)
      -- a token that is written
      have fin : ∀ g4 k a', ((∀ m, m ≠ 58 → g4.1 m = g3.1 m) ∧ (∀ x, x ≠ i → g4.1 58 x = g3.1 58 x) ∧ g4.1 58 i = nI k ∧ (∀ m, m ≠ 60 → g4.2 m = g3.2 m) ∧ (∀ x, x ≠ i → g4.2 60 x = g3.2 60 x)) → ¬ b a = 32 → k = lx_k b n (lx_ps b n i) → k ≠ 0 → (3 ≤ k → g4.2 60 i = lx_v b n (lx_ps b n i)) → a < a' → a' ≤ n → lx_nx b n (lx_ps b n i) = a' → c_SI b n g0 (i + 1) a' g4 := by
        intro g4 k a' ⟨h1, h2, h3, h4, h5⟩ h32 hk k0 hv ha' ha2 hnx
        refine ⟨⟨fun m x y => by rw [h1 m x, q1 m y, j1 m x y], fun m x => by rw [h4 m x, q2, j2 m x]⟩, by omega, by show sk b n (lx_nx b n (lx_ps b n i)) = _; rw [hnx], fun x hx => ?_⟩
        by_cases e : x = i
        · subst e
          rw [h3, h1 59 (by omega), q4, j4, sk_0 han h32, ← hk]
          exact ⟨rfl, rfl, k0, hv⟩
        · rw [h2 x e, h1 59 (by omega), q3 x e, h5 x e, q1 58 (by omega), q2]
          exact j5 x (by omega)
      show ∃ g' m, Lb_X10_scan_4 (L_X10_scan_4 57 (nI n) f) g 57 (nI n) (nI i) (nI a) = _ ∧ _
      unfold Lb_X10_scan_4 B_X10_scan_87
      rw [if_neg (nI_ge han (by omega)), if_neg h500, c_runEnd hb1 hn (by omega), ev_ck57, Option.bind_some, ev_r57_1, Option.bind_some, ev_w59 (by omega), Option.bind_some, hg3]
      by_cases c1 : tA (b a) = true
      · have h32 : ¬ b a = 32 := fun h => tA_32 (h ▸ c1)
        have hr1 := re_1 (b := b) (n := n) han c1
        have hr2 := re_le (b := b) (n := n) (p := a + 1) (by omega)
        have esk : sk b n (lx_ps b n i) = a := by rw [j4, sk_0 han h32]
        obtain ⟨g4, e4, s1, s2, s3, s4, s5, s6⟩ := c_sort (g := g3) (b := b) (n := n) (q := a) (r := re b n a) (i := i) (I_K_fr (by rw [q2, j2 61 (by omega)]) hK) hb3 hn (by omega) (by omega) (by omega) (fun x hx => re_in (n := n) (p := a) (by omega) (by omega))
        have hk : lx_k b n (lx_ps b n i) = lx_rk b a (re b n a - a) := by
          unfold lx_k lx_l
          rw [esk, if_neg (by omega), if_pos c1]
        have hv : lx_v b n (lx_ps b n i) = lx_rv b a (re b n a - a) := by
          unfold lx_v lx_l
          rw [esk]
        have hnx : lx_nx b n (lx_ps b n i) = re b n a := by
          unfold lx_nx
          rw [esk, if_neg (by omega), if_pos c1]
        have J := fin g4 _ (re b n a) ⟨s1, s2, s3, s4, s5⟩ h32 hk.symm lx_rk_ok (fun h => by rw [hv]; exact s6 (by omega)) (by omega) (by omega) hnx
        rw [if_neg (nI_ge (by omega) (by omega)), e4, ev_ck57, Option.bind_some, nI_1, nI_1, nI_max (by omega) (by omega), if_neg (by omega)]
        exact ih (n - re b n a) (by omega) (i + 1) (re b n a) f g4 (by omega) (by omega) J
      · rw [if_pos (by rw [re_0 han c1]; exact nI_le (Nat.le_refl _) (by omega)), ev_r57_3, Option.bind_some, ev_a21 (by omega), Option.bind_some, hb3 a han, re_0 han c1]
        by_cases c2 : b a = 32
        · rw [if_pos c2, nI_1, nI_max (by omega) (by omega), if_pos (by omega)]
          refine ih (d - 1) (by omega) i (a + 1) f g3 (by omega) (by omega) ⟨⟨fun m x y => by rw [q1 m y, j1 m x y], fun m x => by rw [q2, j2 m x]⟩, by omega, by rw [j4, sk_1 han c2], fun x hx => ?_⟩
          rw [q1 58 (by omega), q3 x (by omega), q2]
          exact j5 x hx
        · have esk : sk b n (lx_ps b n i) = a := by rw [j4, sk_0 han c2]
          have hnx : lx_nx b n (lx_ps b n i) = a + 1 := by
            unfold lx_nx
            rw [esk, if_neg (by omega), if_neg c1]
          rw [if_neg c2, ev_r57_0, Option.bind_some, Option.bind_some, ev_a21 (by omega), Option.bind_some, hb3 a han]
          have one : ∀ k, k = lx_k b n (lx_ps b n i) → k ≠ 0 → k < 3 → ∃ g' m, B_X10_scan_83 (L_X10_scan_4 57 (nI n) f) g3 57 (nI n) (nI i) (nI a) (nI a) 58 (nI i) (nI k) = some (g', nI m) ∧ c_SI b n g0 m n g' := by
            intro k hk k0 k3
            have J := fin (ob_up g3.1 58 i (nI k), g3.2) k (a + 1) ⟨fun m hm => pu_up_ne hm, fun x hx => by show ob_up g3.1 58 i (nI k) 58 x = _; rw [pu_up_eq, pu_upd_ne hx], by show ob_up g3.1 58 i (nI k) 58 i = _; rw [pu_up_eq, pu_upd_eq], fun m _ => rfl, fun x _ => rfl⟩ c2 hk k0 (fun h => by omega) (by omega) (by omega) hnx
            unfold B_X10_scan_83 B_X10_scan_87
            rw [ev_w58 (by omega), Option.bind_some, nI_1, nI_1, nI_max (by omega) (by omega), if_pos (by omega)]
            exact ih (d - 1) (by omega) (i + 1) (a + 1) f _ (by omega) (by omega) J
          by_cases c3 : b a = 59
          · rw [if_pos c3]
            exact one 2 (by unfold lx_k; rw [esk, if_neg (by omega), if_neg c1, if_pos c3]) (by omega) (by omega)
          · rw [if_neg c3]
            exact one 1 (by unfold lx_k; rw [esk, if_neg (by omega), if_neg c1, if_neg c3]) (by omega) (by omega)
theorem c_scan {g : ob_St} {b : Nat → Int32} {n : Nat} (hK : I_K g) (hb : ∀ i, i < n → g.1 21 i = b i) (hn : n ≤ 500) : ∃ g' m, f_X10_scan g 57 (nI n) = some g' ∧ c_Tk b n m g' ∧ (∀ m, m ≠ 58 → m ≠ 59 → g'.1 m = g.1 m) ∧ (∀ m, m ≠ 60 → g'.2 m = g.2 m) := by
  obtain ⟨g1, m, e1, ⟨j1, j2⟩, j3, j4, j5⟩ := c_scanL hK hb hn n 0 0 ob_FU g (by omega) (by unfold ob_FU; omega) ⟨⟨fun m _ _ => rfl, fun m _ => rfl⟩, Nat.le_refl _, rfl, fun x hx => by omega⟩
  have e1 : L_X10_scan_4 57 (nI n) ob_FU g 0 0 = some (g1, nI m) := e1
  rw [sk_n] at j4
  have k0 : lx_k b n (lx_ps b n m) = 0 := by unfold lx_k; rw [if_pos (by omega)]
  refine ⟨(ob_up (ob_up g1.1 58 m 0) 59 m (nI n), g1.2), m, ?_, ⟨⟨by omega, hn⟩, fun i hi => ?_, fun i hi => (j5 i hi).2.2, k0⟩, fun m a b => by rw [← j1 m a b]; exact (pu_up_ne b).trans (pu_up_ne a), j2⟩
  · unfold f_X10_scan
    rw [e1, Option.bind_some, ev_r57_0, Option.bind_some, ev_w58 (by omega), Option.bind_some, ev_r57_1, Option.bind_some, ev_w59 (by omega), Option.bind_some]
  · show ob_up (ob_up g1.1 58 m 0) 59 m (nI n) 58 i = _ ∧ ob_up (ob_up g1.1 58 m 0) 59 m (nI n) 59 i = _
    rw [pu_up_ne (by omega), pu_up_eq, pu_up_eq, pu_up_ne (by omega)]
    by_cases e : i = m
    · subst e
      rw [pu_upd_eq, pu_upd_eq, k0, j4]
      exact ⟨rfl, rfl⟩
    · rw [pu_upd_ne e, pu_upd_ne e]
      exact ⟨(j5 i (by omega)).1, (j5 i (by omega)).2.1⟩
