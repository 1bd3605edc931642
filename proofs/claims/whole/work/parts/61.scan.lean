/-! tokens, and the class's scan -/
theorem sp_fst_e {M : Nat → Bool} : ∀ n p, sp_fst M n = some p → p < n ∧ M p = true ∧ ∀ q, q < p → M q = false := by
  intro n
  induction n with
  | zero => intro p h; exact absurd h (by intro z; cases z)
  | succ n ih =>
    intro p h
    have h : (sp_fst M n).elim (if M n = true then some n else none) some = some p := h
    cases hn : sp_fst M n with
    | some r =>
      rw [hn] at h
      have h : some r = some p := h
      cases h
      obtain ⟨a, b, c⟩ := ih p hn
      exact ⟨by omega, b, c⟩
    | none =>
      rw [hn] at h
      have h : (if M n = true then some n else none) = some p := h
      by_cases c : M n = true
      · rw [if_pos c] at h
        cases h
        refine ⟨by omega, c, fun q hq => ?_⟩
        rcases Bool.eq_false_or_eq_true (M q) with z | z
        · exfalso
          have key : ∀ m, (∃ q, q < m ∧ M q = true) → sp_fst M m ≠ none := by
            intro m
            induction m with
            | zero => intro ⟨q, hq, _⟩; omega
            | succ m ihm =>
              intro ⟨q, hq, hz⟩ hnn
              have hnn : (sp_fst M m).elim (if M m = true then some m else none) some = none := hnn
              cases hm : sp_fst M m with
              | some r => rw [hm] at hnn; cases hnn
              | none =>
                rw [hm] at hnn
                have hnn : (if M m = true then some m else none) = none := hnn
                by_cases e : q = m
                · subst e
                  rw [if_pos hz] at hnn
                  cases hnn
                · exact ihm ⟨q, by omega, hz⟩ hm
          exact key n ⟨q, hq, z⟩ hn
        · exact z
      · rw [if_neg c] at h
        cases h
theorem sp_fst_no {M : Nat → Bool} : ∀ n, sp_fst M n = none → ∀ q, q < n → M q = false := by
  intro n
  induction n with
  | zero => intro _ q hq; omega
  | succ n ih =>
    intro h q hq
    have h : (sp_fst M n).elim (if M n = true then some n else none) some = none := h
    cases hn : sp_fst M n with
    | some r => rw [hn] at h; cases h
    | none =>
      rw [hn] at h
      have h : (if M n = true then some n else none) = none := h
      by_cases e : q = n
      · subst e
        rcases Bool.eq_false_or_eq_true (M q) with z | z
        · rw [if_pos z] at h; cases h
        · exact z
      · exact ih hn q (by omega)
def kw_al (P : Nat → Bool) : Nat → Bool
  | 0 => true
  | n + 1 => if P n = true then kw_al P n else false
theorem kw_ali {P : Nat → Bool} : ∀ n, kw_al P n = true ↔ ∀ i, i < n → P i = true := by
  intro n
  induction n with
  | zero => exact ⟨fun _ i hi => by omega, fun _ => rfl⟩
  | succ n ih =>
    show (if P n = true then kw_al P n else false) = true ↔ _
    by_cases c : P n = true
    · rw [if_pos c, ih]
      refine ⟨fun h i hi => ?_, fun h i hi => h i (by omega)⟩
      by_cases e : i = n
      · subst e; exact c
      · exact h i (by omega)
    · rw [if_neg c]
      exact ⟨fun h => absurd h (by decide), fun h => absurd (h n (by omega)) c⟩
def kw_M (b : Nat → Int32) (q l k : Nat) : Bool := if l < 7 then kw_al (fun i => decide (ob_kn (6 * k + i) = lx_pad b q l i)) 6 else false
theorem kw_Mi {b : Nat → Int32} {q l k : Nat} : kw_M b q l k = true ↔ l < 7 ∧ ∀ i, i < 6 → ob_kn (6 * k + i) = lx_pad b q l i := by
  unfold kw_M
  by_cases c : l < 7
  · rw [if_pos c, kw_ali]
    exact ⟨fun h => ⟨c, fun i hi => of_decide_eq_true (h i hi)⟩, fun h i hi => decide_eq_true (h.2 i hi)⟩
  · rw [if_neg c]
    exact ⟨fun h => absurd h (by decide), fun h => absurd h.1 c⟩
def lx_kw (b : Nat → Int32) (q l : Nat) : Option Nat := sp_fst (kw_M b q l) 20
def kw_l (k : Nat) : Nat := if ob_kn (6 * k + 2) = 0 then 2 else if ob_kn (6 * k + 3) = 0 then 3 else if ob_kn (6 * k + 4) = 0 then 4 else if ob_kn (6 * k + 5) = 0 then 5 else 6
theorem kw_t : ∀ k, k < 20 → kw_l k ≤ 6 ∧ (∀ i, i < 6 → (i < kw_l k → tL (ob_kn (6 * k + i)) = true ∧ tF (ob_kn (6 * k + i)) = false) ∧ (¬ i < kw_l k → ob_kn (6 * k + i) = 0)) := by decide +kernel
theorem kw_v : ∀ k, k < 20 → kv_kf 110 (kw_s k) = lx_h ob_kn (6 * k) (kw_l k) := by decide +kernel
theorem kw_u : ∀ k, k < 20 → ∀ k', k' < 20 → (∀ i, i < 6 → ob_kn (6 * k + i) = ob_kn (6 * k' + i)) → k = k' := by decide +kernel
theorem kw_h {b : Nat → Int32} {q l k : Nat} (hk : k < 20) (hl : l ≤ 8) (h : ∀ i, i < l → tL (b (q + i)) = true) (n : ∀ i, i < l → ¬ tF (b (q + i)) = true) : (kv_kf 110 (kw_s k) = lx_h b q l) ↔ kw_M b q l k = true := by
  obtain ⟨t1, t2⟩ := kw_t k hk
  have pk : ∀ i, i < 6 → lx_pad ob_kn (6 * k) (kw_l k) i = ob_kn (6 * k + i) := fun i hi => by
    unfold lx_pad
    by_cases c : i < kw_l k
    · rw [if_pos c]
    · rw [if_neg c, (t2 i hi).2 c]
  have pk2 : ∀ i, 6 ≤ i → lx_pad ob_kn (6 * k) (kw_l k) i = 0 := fun i hi => by
    unfold lx_pad
    rw [if_neg (by omega)]
  rw [kw_v k hk, lx_h_pad (by omega) hl (fun i hi => ((t2 i (by omega)).1 hi).1) h (fun i hi => by rw [((t2 i (by omega)).1 hi).2]; decide) n]
  rw [kw_Mi]
  constructor
  · intro e
    refine ⟨?_, fun i hi => by rw [← pk i hi]; exact e i (by omega)⟩
    rcases Nat.lt_or_ge l 7 with c | c
    · exact c
    · exfalso
      have z := e 6 (by omega)
      rw [pk2 6 (by omega)] at z
      unfold lx_pad at z
      rw [if_pos (by omega)] at z
      exact tL_0 (h 6 (by omega)) z.symm
  · intro ⟨e1, e2⟩ i hi
    by_cases c : i < 6
    · rw [pk i c]; exact e2 i c
    · rw [pk2 i (by omega)]
      unfold lx_pad
      rw [if_neg (by omega)]
theorem kw_one {b : Nat → Int32} {q l k k' : Nat} (hk : k < 20) (hk' : k' < 20) (h : kw_M b q l k = true) (h' : kw_M b q l k' = true) : k = k' := by
  have h := (kw_Mi.mp h).2
  have h' := (kw_Mi.mp h').2
  exact kw_u k hk k' hk' (fun i hi => by rw [h i hi, h' i hi])
/-- the class finds the same keyword -/
theorem kw_cls {b : Nat → Int32} {q l : Nat} (hl : l ≤ 8) (h : ∀ i, i < l → tL (b (q + i)) = true) (n : ∀ i, i < l → ¬ tF (b (q + i)) = true) : sp_fst (fun k => decide (kv_kf 110 k = lx_h b q l)) 20 = (lx_kw b q l).map kw_s := by
  have key : ∀ j, j < 20 → (decide (kv_kf 110 j = lx_h b q l) = true ↔ kw_M b q l (kw_i j) = true) := fun j hj => by
    obtain ⟨a, b', c, d⟩ := kw_si j hj
    have z := kw_h (k := kw_i j) d hl h n
    rw [a] at z
    rw [decide_eq_true_eq]
    exact z
  unfold lx_kw
  cases hf : sp_fst (kw_M b q l) 20 with
  | none =>
    have z := sp_fst_no 20 hf
    refine sp_fst_n 20 (fun j hj => ?_)
    rcases Bool.eq_false_or_eq_true (decide (kv_kf 110 j = lx_h b q l)) with w | w
    · have := (key j hj).mp w
      rw [z _ (kw_si j hj).2.2.2] at this
      exact absurd this (by decide)
    · exact w
  | some k =>
    obtain ⟨k1, k2, k3⟩ := sp_fst_e 20 k hf
    obtain ⟨a, b', c, d⟩ := kw_si k k1
    refine sp_fst_s (p := kw_s k) ((key _ c).mpr (by rw [b']; exact k2)) (fun j hj => ?_) 20 c
    rcases Bool.eq_false_or_eq_true (decide (kv_kf 110 j = lx_h b q l)) with w | w
    · exfalso
      have w := (key j (by omega)).mp w
      have e := kw_one (kw_si j (by omega)).2.2.2 k1 w k2
      have : kw_s (kw_i j) = j := (kw_si j (by omega)).1
      rw [e] at this
      omega
    · exact w
theorem c_keywordOf {g : ob_St} {y : Int64} (hK : I_K g) : f_X10_keywordOf g 57 y = some ((sp_fst (fun k => decide (kv_kf 110 k = y)) 20).elim (-1) nI) := by
  have key : ∀ d i fuel, i + d = 20 → d < fuel → (∀ q, q < i → ¬ kv_kf 110 q = y) → (L_X10_keywordOf_2 g 57 y fuel (nI i)).bind (Sum.elim (fun y_4 => some y_4) (fun y_5 => some (-1))) = some ((sp_fst (fun k => decide (kv_kf 110 k = y)) 20).elim (-1) nI) := by
    intro d
    induction d with
    | zero =>
      intro i fuel hi hf hq
      obtain ⟨f, rfl⟩ : ∃ f, fuel = f + 1 := ⟨fuel - 1, by omega⟩
      have h20 : (20 : Int32) ≤ nI i := nI_le (a := 20) (b := i) (by omega) (by omega)
      show (Lb_X10_keywordOf_2 _ _ _ _ _).bind _ = _
      unfold Lb_X10_keywordOf_2
      rw [if_pos h20, Option.bind_some, sp_fst_n 20 (fun q hqq => decide_eq_false (hq q (by omega)))]
      rfl
    | succ d ih =>
      intro i fuel hi hf hq
      obtain ⟨f, rfl⟩ : ∃ f, fuel = f + 1 := ⟨fuel - 1, by omega⟩
      have h20 : ¬ (20 : Int32) ≤ nI i := nI_ge (a := i) (b := 20) (by omega) (by omega)
      show (Lb_X10_keywordOf_2 _ _ _ _ _).bind _ = _
      unfold Lb_X10_keywordOf_2
      rw [if_neg h20, ev_r57_4, Option.bind_some, ev_a61 (by omega), Option.bind_some, hK i (by omega)]
      by_cases c : kv_kf 110 i = y
      · rw [if_pos c, Option.bind_some, sp_fst_s (p := i) (decide_eq_true c) (fun q hqq => decide_eq_false (hq q hqq)) 20 (by omega)]
        rfl
      · rw [if_neg c, nI_1]
        exact ih (i + 1) f (by omega) (by omega) (fun q hqq => by
          by_cases e : q = i
          · subst e; exact c
          · exact hq q (by omega))
  unfold f_X10_keywordOf
  exact key 20 0 ob_FU (by omega) (by unfold ob_FU; omega) (fun q hq => by omega)
/-! a token from a place on -/
def lx_nx (b : Nat → Int32) (n p : Nat) : Nat := if n ≤ sk b n p then n else if tA (b (sk b n p)) = true then re b n (sk b n p) else sk b n p + 1
def lx_l (b : Nat → Int32) (n p : Nat) : Nat := re b n (sk b n p) - sk b n p
def lx_rk (b : Nat → Int32) (q l : Nat) : Nat := if lx_f b q l = l ∧ l ≤ 3 then 3 else if lx_f b q l = 0 ∧ l ≤ 8 then (if (lx_kw b q l).isSome = true then 5 else 4) else 1
def lx_rv (b : Nat → Int32) (q l : Nat) : Int64 := if lx_f b q l = l ∧ l ≤ 3 then lx_s b q l else (lx_kw b q l).elim (lx_h b q l) (fun k => (nI (kw_s k)).toInt64)
def lx_k (b : Nat → Int32) (n p : Nat) : Nat :=
  if n ≤ sk b n p then 0 else if tA (b (sk b n p)) = true then lx_rk b (sk b n p) (lx_l b n p) else if b (sk b n p) = 59 then 2 else 1
def lx_v (b : Nat → Int32) (n p : Nat) : Int64 := lx_rv b (sk b n p) (lx_l b n p)
def lx_ps (b : Nat → Int32) (n : Nat) : Nat → Nat
  | 0 => 0
  | i + 1 => lx_nx b n (lx_ps b n i)
theorem lx_nx_le {b : Nat → Int32} {n p : Nat} (hp : p ≤ n) : p ≤ lx_nx b n p ∧ lx_nx b n p ≤ n ∧ (sk b n p < n → sk b n p < lx_nx b n p) := by
  have h1 := sk_le (b := b) hp
  unfold lx_nx
  by_cases c1 : n ≤ sk b n p
  · rw [if_pos c1]; omega
  rw [if_neg c1]
  have h2 := re_le (b := b) h1.2
  by_cases c2 : tA (b (sk b n p)) = true
  · rw [if_pos c2]
    have h3 := re_1 (b := b) (n := n) (p := sk b n p) (by omega) c2
    have h4 := re_le (b := b) (n := n) (p := sk b n p + 1) (by omega)
    omega
  · rw [if_neg c2]; omega
theorem lx_ps_le {b : Nat → Int32} {n : Nat} : ∀ i, lx_ps b n i ≤ n := by
  intro i
  induction i with
  | zero => exact Nat.zero_le _
  | succ i ih => exact (lx_nx_le ih).2.1
/-! the class sorts a run -/
theorem c_sortL {g : ob_St} {b : Nat → Int32} {n q r : Nat} {x1 : Int32} (hb : ∀ i, i < n → g.1 21 i = b i) (hn : n ≤ 500) (hq : q ≤ r) (hr : r ≤ n) : L_X10_sort_12 g 57 x1 (nI q) (nI r) ob_FU 0 0 0 (nI q) = some (nI (lx_f b q (r - q)), lx_s b q (r - q), lx_h b q (r - q)) := by
  obtain ⟨res, h1, h2⟩ := pu_up (fun f (s : Int32 × Int64 × Int64) i => L_X10_sort_12 g 57 x1 (nI q) (nI r) f s.1 s.2.1 s.2.2 (nI i)) (fun i s => q ≤ i ∧ s = (nI (lx_f b q (i - q)), lx_s b q (i - q), lx_h b q (i - q))) r (fun s => s = (nI (lx_f b q (r - q)), lx_s b q (r - q), lx_h b q (r - q)))
    (fun f s hI => ⟨s, by
      show Lb_X10_sort_12 _ _ _ _ _ _ _ _ _ _ = _
      unfold Lb_X10_sort_12
      rw [if_pos (nI_le (by omega) (by omega))], hI.2⟩)
    (fun f i s hi hI => by
      obtain ⟨h3, h4⟩ := hI
      refine ⟨(nI (lx_f b q (i + 1 - q)), lx_s b q (i + 1 - q), lx_h b q (i + 1 - q)), ⟨by omega, rfl⟩, ?_⟩
      rw [show i + 1 - q = (i - q) + 1 by omega]
      have eb : b (q + (i - q)) = b i := by rw [show q + (i - q) = i by omega]
      have e1 : lx_f b q (i - q + 1) = if tF (b i) = true then lx_f b q (i - q) + 1 else lx_f b q (i - q) := by show (if tF (b (q + (i - q))) = true then _ else _) = _; rw [eb]
      have e2 : lx_s b q (i - q + 1) = if tF (b i) = true then lx_s b q (i - q) * 10 + (b i).toInt64 - 48 else lx_s b q (i - q) := by show (if tF (b (q + (i - q))) = true then lx_s b q (i - q) * 10 + (b (q + (i - q))).toInt64 - 48 else _) = _; rw [eb]
      have e3 : lx_h b q (i - q + 1) = if tF (b i) = true then lx_h b q (i - q) else lx_h b q (i - q) * 32 + (b i).toInt64 - 97 + 1 := by show (if tF (b (q + (i - q))) = true then _ else lx_h b q (i - q) * 32 + (b (q + (i - q))).toInt64 - 97 + 1) = _; rw [eb]
      rw [e1, e2, e3, h4]
      show Lb_X10_sort_12 _ _ _ _ _ _ _ _ _ _ = _
      unfold Lb_X10_sort_12 B_X10_sort_72 f_X10_spelt ob_let
      rw [if_neg (nI_ge (by omega) (by omega)), ev_r57_3, Option.bind_some, ev_a21 (by omega), Option.bind_some, hb i (by omega), c_isFigure, Option.bind_some, bI_if]
      simp only [Option.bind_some, ev_a21 (show i < 540 by omega), hb i (by omega), nI_1]
      by_cases c : tF (b i) = true
      · rw [if_pos c, if_pos c, if_pos c, if_pos c]
      · rw [if_neg c, if_neg c, if_neg c, if_neg c])
    (r - q) q ob_FU (0, 0, 0) (by omega) (by unfold ob_FU; omega) ⟨Nat.le_refl _, by rw [Nat.sub_self]; rfl⟩
  subst h2
  exact h1
