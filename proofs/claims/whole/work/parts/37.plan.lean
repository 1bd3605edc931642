/-! BY PLAN: what comes where, in whole numbers -/
def pl_ad (X : Nat → Nat → Nat → Nat) (l t j v : Nat) : Nat → Nat → Nat → Nat := fun l' t' j' => if l' = l ∧ t' = t ∧ j' = j then X l' t' j' + v else X l' t' j'
def pl_mv (X : Nat → Nat → Nat → Nat) (l t j a b : Nat) : Nat → Nat → Nat → Nat := pl_ad (pl_ad X l (t + 1) (j + 1) (X l t j * a)) l (t + 1) j (X l t j * b)
def pl_s (D : Nat → Nat → Nat → Int32) (N : Nat) (a b : Nat → Nat) (l t j : Nat) (X : Nat → Nat → Nat → Nat) : Nat → Nat → Nat → Nat :=
  if D l t j = 3 then pl_ad X 1 t j (X l t j) else if D l t j = 0 ∧ t < N then pl_mv X l t j (a t) (b t) else X
def pl_n (D : Nat → Nat → Nat → Int32) (N : Nat) (a b : Nat → Nat) (t j : Nat) (X : Nat → Nat → Nat → Nat) : Nat → Nat → Nat → Nat := pl_s D N a b 1 t j (pl_s D N a b 0 t j X)
def pl_R (D : Nat → Nat → Nat → Int32) (N : Nat) (a b : Nat → Nat) (t : Nat) (X : Nat → Nat → Nat → Nat) : Nat → Nat → Nat → Nat → Nat
  | 0 => X
  | j + 1 => pl_n D N a b t j (pl_R D N a b t X j)
def pl_S (D : Nat → Nat → Nat → Int32) (N : Nat) (a b : Nat → Nat) : Nat → Nat → Nat → Nat → Nat
  | 0 => fun l t j => if l = 0 ∧ t = 0 ∧ j = 0 then 1 else 0
  | t + 1 => pl_R D N a b t (pl_S D N a b t) (t + 1)
theorem pl_ad_ne {X : Nat → Nat → Nat → Nat} {l t j v l' t' j' : Nat} (h : ¬ (l' = l ∧ t' = t ∧ j' = j)) : pl_ad X l t j v l' t' j' = X l' t' j' := if_neg h
theorem pl_ad_eq {X : Nat → Nat → Nat → Nat} {l t j v : Nat} : pl_ad X l t j v l t j = X l t j + v := if_pos ⟨rfl, rfl, rfl⟩
theorem pl_ad_0 {X : Nat → Nat → Nat → Nat} {l t j l' t' j' : Nat} : pl_ad X l t j 0 l' t' j' = X l' t' j' := by
  unfold pl_ad
  split <;> rfl
theorem pl_s_old {D : Nat → Nat → Nat → Int32} {N : Nat} {a b : Nat → Nat} {l t j l' t' j' : Nat} {X : Nat → Nat → Nat → Nat} (h : t' ≤ t) (hn : ¬ (l' = 1 ∧ t' = t ∧ j' = j)) : pl_s D N a b l t j X l' t' j' = X l' t' j' := by
  unfold pl_s
  split
  · exact pl_ad_ne hn
  · split
    · unfold pl_mv
      rw [pl_ad_ne (by omega), pl_ad_ne (by omega)]
    · rfl
theorem pl_s_in {D : Nat → Nat → Nat → Int32} {N : Nat} {a b : Nat → Nat} {t j : Nat} {X : Nat → Nat → Nat → Nat} : pl_s D N a b 0 t j X 1 t j = X 1 t j + (if D 0 t j = 3 then X 0 t j else 0) := by
  unfold pl_s
  by_cases h : D 0 t j = 3
  · rw [if_pos h, if_pos h, pl_ad_eq]
  · rw [if_neg h, if_neg h]
    split
    · unfold pl_mv
      rw [pl_ad_ne (by omega), pl_ad_ne (by omega)]
      rfl
    · rfl
theorem pl_s_1 {D : Nat → Nat → Nat → Int32} {N : Nat} {a b : Nat → Nat} {t j : Nat} {X : Nat → Nat → Nat → Nat} (h : ¬ D 1 t j = 3) : pl_s D N a b 1 t j X 1 t j = X 1 t j := by
  unfold pl_s
  rw [if_neg h]
  split
  · unfold pl_mv
    rw [pl_ad_ne (by omega), pl_ad_ne (by omega)]
  · rfl
theorem pl_n_old {D : Nat → Nat → Nat → Int32} {N : Nat} {a b : Nat → Nat} {t j l' t' j' : Nat} {X : Nat → Nat → Nat → Nat} (h : t' ≤ t) (hn : ¬ (l' = 1 ∧ t' = t ∧ j' = j)) : pl_n D N a b t j X l' t' j' = X l' t' j' := by
  unfold pl_n
  rw [pl_s_old h hn, pl_s_old h hn]
theorem pl_n_1 {D : Nat → Nat → Nat → Int32} {N : Nat} {a b : Nat → Nat} {t j : Nat} {X : Nat → Nat → Nat → Nat} (h : ¬ D 1 t j = 3) : pl_n D N a b t j X 1 t j = X 1 t j + (if D 0 t j = 3 then X 0 t j else 0) := by
  unfold pl_n
  rw [pl_s_1 h, pl_s_in]
/-- a row's run leaves what lies ahead of it -/
theorem pl_R_0 {D : Nat → Nat → Nat → Int32} {N : Nat} {a b : Nat → Nat} {t : Nat} {X : Nat → Nat → Nat → Nat} : ∀ j t' j', t' ≤ t → pl_R D N a b t X j 0 t' j' = X 0 t' j' := by
  intro j
  induction j with
  | zero => intro t' j' _; rfl
  | succ j ih =>
    intro t' j' h
    show pl_n D N a b t j _ 0 t' j' = _
    rw [pl_n_old h (by omega), ih t' j' h]
theorem pl_R_1 {D : Nat → Nat → Nat → Int32} {N : Nat} {a b : Nat → Nat} {t : Nat} {X : Nat → Nat → Nat → Nat} : ∀ j t' j', (t' < t ∨ t' = t ∧ j ≤ j') → pl_R D N a b t X j 1 t' j' = X 1 t' j' := by
  intro j
  induction j with
  | zero => intro t' j' _; rfl
  | succ j ih =>
    intro t' j' h
    show pl_n D N a b t j _ 1 t' j' = _
    rw [pl_n_old (by omega) (by omega), ih t' j' (by omega)]
theorem pl_R_2 {D : Nat → Nat → Nat → Int32} {N : Nat} {a b : Nat → Nat} {t : Nat} {X : Nat → Nat → Nat → Nat} (hD : ∀ j, ¬ D 1 t j = 3) : ∀ j j', j' < j → pl_R D N a b t X j 1 t j' = X 1 t j' + (if D 0 t j' = 3 then X 0 t j' else 0) := by
  intro j
  induction j with
  | zero => intro j' h; omega
  | succ j ih =>
    intro j' h
    show pl_n D N a b t j _ 1 t j' = _
    by_cases e : j' = j
    · subst e
      rw [pl_n_1 (hD j'), pl_R_1 j' t j' (Or.inr ⟨rfl, Nat.le_refl _⟩), pl_R_0 j' t j' (Nat.le_refl _)]
    · rw [pl_n_old (Nat.le_refl _) (by omega), ih j' (by omega)]
theorem pl_S_0 {D : Nat → Nat → Nat → Int32} {N : Nat} {a b : Nat → Nat} {t j : Nat} : ∀ d, pl_S D N a b (t + d) 0 t j = pl_S D N a b t 0 t j := by
  intro d
  induction d with
  | zero => rfl
  | succ d ih =>
    show pl_R D N a b (t + d) (pl_S D N a b (t + d)) (t + d + 1) 0 t j = _
    rw [pl_R_0 _ _ _ (by omega), ih]
theorem pl_S_1 {D : Nat → Nat → Nat → Int32} {N : Nat} {a b : Nat → Nat} {t j : Nat} (hD : ∀ t j, ¬ D 1 t j = 3) (hj : j ≤ t) : ∀ d, pl_S D N a b (t + 1 + d) 1 t j = pl_S D N a b t 1 t j + (if D 0 t j = 3 then pl_S D N a b t 0 t j else 0) := by
  intro d
  induction d with
  | zero =>
    show pl_R D N a b t (pl_S D N a b t) (t + 1) 1 t j = _
    rw [pl_R_2 (hD t) _ _ (by omega)]
  | succ d ih =>
    show pl_R D N a b (t + 1 + d) (pl_S D N a b (t + 1 + d)) (t + 1 + d + 1) 1 t j = _
    rw [pl_R_1 _ _ _ (by omega), ih]
def pl_F (D : Nat → Nat → Nat → Int32) (N : Nat) (a b : Nat → Nat) : Nat → Nat → Nat → Nat := pl_S D N a b (N + 1)
theorem pl_F_0 {D : Nat → Nat → Nat → Int32} {N : Nat} {a b : Nat → Nat} {t j : Nat} (ht : t ≤ N) : pl_F D N a b 0 t j = pl_S D N a b t 0 t j := by
  have h := pl_S_0 (D := D) (N := N) (a := a) (b := b) (t := t) (j := j) (N + 1 - t)
  rw [show t + (N + 1 - t) = N + 1 by omega] at h
  exact h
theorem pl_F_1 {D : Nat → Nat → Nat → Int32} {N : Nat} {a b : Nat → Nat} {t j : Nat} (hD : ∀ t j, ¬ D 1 t j = 3) (hj : j ≤ t) (ht : t ≤ N) : pl_F D N a b 1 t j = pl_S D N a b t 1 t j + (if D 0 t j = 3 then pl_S D N a b t 0 t j else 0) := by
  have h := pl_S_1 (D := D) (N := N) (a := a) (b := b) (t := t) (j := j) hD hj (N - t)
  rw [show t + 1 + (N - t) = N + 1 by omega] at h
  exact h
/-- at its time a node bears what stands there in the end -/
theorem pl_at_0 {D : Nat → Nat → Nat → Int32} {N : Nat} {a b : Nat → Nat} {t j : Nat} (ht : t ≤ N) : pl_R D N a b t (pl_S D N a b t) j 0 t j = pl_F D N a b 0 t j := by
  rw [pl_R_0 _ _ _ (Nat.le_refl _), pl_F_0 ht]
theorem pl_at_1 {D : Nat → Nat → Nat → Int32} {N : Nat} {a b : Nat → Nat} {t j : Nat} (hD : ∀ t j, ¬ D 1 t j = 3) (hj : j ≤ t) (ht : t ≤ N) : pl_s D N a b 0 t j (pl_R D N a b t (pl_S D N a b t) j) 1 t j = pl_F D N a b 1 t j := by
  rw [pl_s_in, pl_R_1 _ _ _ (Or.inr ⟨rfl, Nat.le_refl _⟩), pl_R_0 _ _ _ (Nat.le_refl _), pl_F_1 hD hj ht]
/-- bounds -/
def pl_LI (A B c t j : Nat) (Z : Nat → Nat → Nat) : Prop := (∀ j', j' < j → Z (t + 1) j' ≤ (A + B) * c) ∧ Z (t + 1) j ≤ A * c ∧ (∀ j', j < j' → Z (t + 1) j' = 0) ∧ ∀ t' j', t + 1 < t' → Z t' j' = 0
theorem pl_LI_A {A B c t j : Nat} {Z Z' : Nat → Nat → Nat} (h : ∀ t' j', t < t' → Z' t' j' = Z t' j') (hL : pl_LI A B c t j Z) : pl_LI A B c t j Z' := by
  obtain ⟨h1, h2, h3, h4⟩ := hL
  exact ⟨fun j' hj => by rw [h _ _ (by omega)]; exact h1 j' hj, by rw [h _ _ (by omega)]; exact h2, fun j' hj => by rw [h _ _ (by omega)]; exact h3 j' hj, fun t' j' ht => by rw [h _ _ (by omega)]; exact h4 t' j' ht⟩
theorem pl_LI_C {A B c t j : Nat} {Z : Nat → Nat → Nat} (hL : pl_LI A B c t j Z) : pl_LI A B c t (j + 1) Z := by
  obtain ⟨h1, h2, h3, h4⟩ := hL
  refine ⟨fun j' hj => ?_, by rw [h3 (j + 1) (by omega)]; exact Nat.zero_le _, fun j' hj => h3 j' (by omega), h4⟩
  by_cases e : j' = j
  · subst e
    exact Nat.le_trans h2 (Nat.mul_le_mul_right c (Nat.le_add_right A B))
  · exact h1 j' (by omega)
theorem pl_LI_B {A B c l t j : Nat} {X : Nat → Nat → Nat → Nat} (hv : X l t j ≤ c) (hL : pl_LI A B c t j (X l)) : pl_LI A B c t (j + 1) (pl_mv X l t j A B l) := by
  obtain ⟨h1, h2, h3, h4⟩ := hL
  have ha : X l t j * A ≤ A * c := by rw [Nat.mul_comm]; exact Nat.mul_le_mul_left A hv
  have hb : X l t j * B ≤ B * c := by rw [Nat.mul_comm]; exact Nat.mul_le_mul_left B hv
  refine ⟨fun j' hj => ?_, ?_, fun j' hj => ?_, fun t' j' ht => ?_⟩
  · by_cases e : j' = j
    · subst e
      unfold pl_mv
      rw [pl_ad_eq, pl_ad_ne (by omega), Nat.add_mul]
      exact Nat.add_le_add h2 hb
    · unfold pl_mv
      rw [pl_ad_ne (by omega), pl_ad_ne (by omega)]
      exact h1 j' (by omega)
  · unfold pl_mv
    rw [pl_ad_ne (by omega), pl_ad_eq, h3 (j + 1) (by omega), Nat.zero_add]
    exact ha
  · unfold pl_mv
    rw [pl_ad_ne (by omega), pl_ad_ne (by omega)]
    exact h3 j' (by omega)
  · unfold pl_mv
    rw [pl_ad_ne (by omega), pl_ad_ne (by omega)]
    exact h4 t' j' ht
theorem pl_s_far {D : Nat → Nat → Nat → Int32} {N : Nat} {a b : Nat → Nat} {l t j m t' j' : Nat} {X : Nat → Nat → Nat → Nat} (hm : m ≠ l ∨ D l t j = 3) (h : t < t') : pl_s D N a b l t j X m t' j' = X m t' j' := by
  unfold pl_s
  by_cases h3 : D l t j = 3
  · rw [if_pos h3, pl_ad_ne (by omega)]
  · rw [if_neg h3]
    have hm' : m ≠ l := hm.resolve_right h3
    split
    · unfold pl_mv
      rw [pl_ad_ne (by omega), pl_ad_ne (by omega)]
    · rfl
theorem pl_LI_s {D : Nat → Nat → Nat → Int32} {N : Nat} {a b : Nat → Nat} {l t j c : Nat} {X : Nat → Nat → Nat → Nat} (hv : X l t j ≤ c) (hL : pl_LI (a t) (b t) c t j (X l)) : pl_LI (a t) (b t) c t (j + 1) (pl_s D N a b l t j X l) := by
  by_cases h3 : D l t j = 3
  · exact pl_LI_A (fun t' j' h => pl_s_far (Or.inr h3) h) (pl_LI_C hL)
  · unfold pl_s
    rw [if_neg h3]
    split
    · exact pl_LI_B hv hL
    · exact pl_LI_C hL
theorem pl_row_bd {D : Nat → Nat → Nat → Int32} {N : Nat} {a b : Nat → Nat} {t c : Nat} {X : Nat → Nat → Nat → Nat} (h0 : ∀ j, X 0 t j ≤ c) (h1 : ∀ j, X 1 t j ≤ t * c) (hz : ∀ l t' j', l ≤ 1 → t < t' → X l t' j' = 0) :
    ∀ j, pl_LI (a t) (b t) c t j (pl_R D N a b t X j 0) ∧ pl_LI (a t) (b t) ((t + 1) * c) t j (pl_R D N a b t X j 1) := by
  intro j
  induction j with
  | zero =>
    have : ∀ l c', l ≤ 1 → pl_LI (a t) (b t) c' t 0 (X l) := fun l c' hl => ⟨fun j' h => by omega, by rw [hz l _ _ hl (by omega)]; exact Nat.zero_le _, fun j' _ => hz l _ _ hl (by omega), fun t' j' ht => hz l _ _ hl (by omega)⟩
    exact ⟨this 0 _ (by omega), this 1 _ (by omega)⟩
  | succ j ih =>
    have v0 : pl_R D N a b t X j 0 t j ≤ c := by rw [pl_R_0 _ _ _ (Nat.le_refl _)]; exact h0 j
    have v1 : pl_s D N a b 0 t j (pl_R D N a b t X j) 1 t j ≤ (t + 1) * c := by
      rw [pl_s_in, pl_R_1 _ _ _ (Or.inr ⟨rfl, Nat.le_refl _⟩), pl_R_0 _ _ _ (Nat.le_refl _), Nat.add_mul, Nat.one_mul]
      refine Nat.add_le_add (h1 j) ?_
      split
      · exact h0 j
      · exact Nat.zero_le _
    constructor
    · exact pl_LI_A (fun t' j' h => pl_s_far (Or.inl (by omega)) h) (pl_LI_s v0 ih.1)
    · exact pl_LI_s v1 (pl_LI_A (fun t' j' h => pl_s_far (Or.inl (by omega)) h) ih.2)
theorem pl_bd {D : Nat → Nat → Nat → Int32} {N W : Nat} {a b : Nat → Nat} (hab : ∀ t, t < N → a t + b t ≤ W) : ∀ t, t ≤ N → (∀ j, pl_S D N a b t 0 t j ≤ W ^ t) ∧ (∀ j, pl_S D N a b t 1 t j ≤ t * W ^ t) ∧ ∀ l t' j', l ≤ 1 → t < t' → pl_S D N a b t l t' j' = 0 := by
  intro t
  induction t with
  | zero =>
    intro _
    refine ⟨fun j => ?_, fun j => ?_, fun l t' j' hl h => ?_⟩
    · show (if _ then 1 else 0) ≤ 1
      split <;> omega
    · have e : pl_S D N a b 0 1 0 j = 0 := by
        show (if ((1 : Nat) = 0 ∧ (0 : Nat) = 0 ∧ j = 0) then 1 else 0) = 0
        exact if_neg (by omega)
      rw [e]
      exact Nat.zero_le _
    · show (if _ then 1 else 0) = 0
      rw [if_neg (by omega)]
  | succ t ih =>
    intro ht
    obtain ⟨i1, i2, i3⟩ := ih (by omega)
    obtain ⟨⟨a1, a2, a3, a4⟩, ⟨b1, b2, b3, b4⟩⟩ := pl_row_bd (D := D) (N := N) (a := a) (b := b) i1 i2 i3 (t + 1)
    have hw := hab t (by omega)
    have e0 : (a t + b t) * W ^ t ≤ W ^ (t + 1) := by rw [Nat.pow_succ, Nat.mul_comm (W ^ t) W]; exact Nat.mul_le_mul_right _ hw
    have e1 : a t * W ^ t ≤ (a t + b t) * W ^ t := Nat.mul_le_mul_right _ (Nat.le_add_right _ _)
    have f0 : (a t + b t) * ((t + 1) * W ^ t) ≤ (t + 1) * W ^ (t + 1) := by rw [Nat.mul_left_comm]; exact Nat.mul_le_mul_left _ e0
    have f1 : a t * ((t + 1) * W ^ t) ≤ (a t + b t) * ((t + 1) * W ^ t) := Nat.mul_le_mul_right _ (Nat.le_add_right _ _)
    refine ⟨fun j => ?_, fun j => ?_, fun l t' j' hl h => ?_⟩
    · show pl_R D N a b t (pl_S D N a b t) (t + 1) 0 (t + 1) j ≤ _
      rcases Nat.lt_trichotomy j (t + 1) with h | h | h
      · exact Nat.le_trans (a1 j h) e0
      · subst h; exact Nat.le_trans a2 (Nat.le_trans e1 e0)
      · rw [a3 j h]; exact Nat.zero_le _
    · show pl_R D N a b t (pl_S D N a b t) (t + 1) 1 (t + 1) j ≤ _
      rcases Nat.lt_trichotomy j (t + 1) with h | h | h
      · exact Nat.le_trans (b1 j h) f0
      · subst h; exact Nat.le_trans b2 (Nat.le_trans f1 f0)
      · rw [b3 j h]; exact Nat.zero_le _
    · rcases (by omega : l = 0 ∨ l = 1) with rfl | rfl
      · exact a4 t' j' h
      · exact b4 t' j' h
theorem pl_F_bd {D : Nat → Nat → Nat → Int32} {N W : Nat} {a b : Nat → Nat} (hD : ∀ t j, ¬ D 1 t j = 3) (hab : ∀ t, t < N → a t + b t ≤ W) {l t j : Nat} (hl : l ≤ 1) (ht : t ≤ N) (hj : j ≤ t) : pl_F D N a b l t j ≤ (t + 1) * W ^ t := by
  obtain ⟨i1, i2, i3⟩ := pl_bd (D := D) hab t ht
  have a1 := i1 j
  have a2 := i2 j
  rcases (by omega : l = 0 ∨ l = 1) with rfl | rfl
  · rw [pl_F_0 ht, Nat.add_mul, Nat.one_mul]
    omega
  · rw [pl_F_1 hD hj ht, Nat.add_mul, Nat.one_mul]
    split <;> omega
/-- where no path comes nothing weighs -/
def pl_Z (C X : Nat → Nat → Nat → Nat) : Prop := ∀ l t j, C l t j = 0 → X l t j = 0
theorem pl_Z_ad {C X : Nat → Nat → Nat → Nat} {l t j u v : Nat} (h : pl_Z C X) (hv : u = 0 → v = 0) : pl_Z (pl_ad C l t j u) (pl_ad X l t j v) := by
  intro l' t' j' h0
  by_cases e : l' = l ∧ t' = t ∧ j' = j
  · obtain ⟨rfl, rfl, rfl⟩ := e
    rw [pl_ad_eq] at h0 ⊢
    rw [h l' t' j' (by omega), hv (by omega)]
  · rw [pl_ad_ne e] at h0 ⊢
    exact h l' t' j' h0
theorem pl_Z_s {D : Nat → Nat → Nat → Int32} {N : Nat} {a b a' b' : Nat → Nat} {l t j : Nat} {C X : Nat → Nat → Nat → Nat} (ha : ∀ t, 0 < a t) (hb : ∀ t, 0 < b t) (h : pl_Z C X) : pl_Z (pl_s D N a b l t j C) (pl_s D N a' b' l t j X) := by
  unfold pl_s
  split
  · exact pl_Z_ad h (h l t j)
  · split
    · have z : ∀ x y, 0 < x → C l t j * x = 0 → X l t j * y = 0 := fun x y hx h0 => by
        rcases Nat.mul_eq_zero.mp h0 with h1 | h1
        · rw [h l t j h1, Nat.zero_mul]
        · omega
      exact pl_Z_ad (pl_Z_ad h (z _ _ (ha t))) (z _ _ (hb t))
    · exact h
theorem pl_Z_R {D : Nat → Nat → Nat → Int32} {N : Nat} {a b a' b' : Nat → Nat} {t : Nat} {C X : Nat → Nat → Nat → Nat} (ha : ∀ t, 0 < a t) (hb : ∀ t, 0 < b t) (h : pl_Z C X) : ∀ j, pl_Z (pl_R D N a b t C j) (pl_R D N a' b' t X j) := by
  intro j
  induction j with
  | zero => exact h
  | succ j ih => exact pl_Z_s ha hb (pl_Z_s ha hb ih)
theorem pl_Z_S {D : Nat → Nat → Nat → Int32} {N : Nat} {a b a' b' : Nat → Nat} (ha : ∀ t, 0 < a t) (hb : ∀ t, 0 < b t) : ∀ t, pl_Z (pl_S D N a b t) (pl_S D N a' b' t) := by
  intro t
  induction t with
  | zero => exact fun l t j h => h
  | succ t ih => exact pl_Z_R ha hb ih (t + 1)
/-- how it ends -/
def pl_e (d : Int32) (last : Bool) : Int32 := if d = 1 then 0 else if d = 2 then 1 else if d = 4 then 3 else if last = true then 2 else -1
def pl_es (D : Nat → Nat → Nat → Int32) (N : Nat) (F : Nat → Nat → Nat → Nat) (t : Nat) (w : Int32) : Nat → Nat
  | 0 => 0
  | j + 1 => pl_es D N F t w j + (if pl_e (D 0 t j) (decide (t = N)) = w ∧ ¬ D 0 t j = 3 then F 0 t j else 0) + (if pl_e (D 1 t j) (decide (t = N)) = w then F 1 t j else 0)
def sp_DE (S : Nat → Int32) (k : Nat) (l t j : Nat) : Int32 := if l = 0 then sp_D S k t j else sp_E S k t j
def sp_a (S : Nat → Int32) (t : Nat) : Nat := sN S (3 + (t + 1))
def sp_b (S : Nat → Int32) (t : Nat) : Nat := sN S 1 - sN S (3 + (t + 1))
def pl_1 (t : Nat) : Nat := 1
def sp_FW (S : Nat → Int32) (k : Nat) : Nat → Nat → Nat → Nat := pl_F (sp_DE S k) (sN S 2) (sp_a S) (sp_b S)
def sp_FC (S : Nat → Int32) (k : Nat) : Nat → Nat → Nat → Nat := pl_F (sp_DE S k) (sN S 2) pl_1 pl_1
theorem sp_dd_c {S : Nat → Int32} {k : Nat} {fr : Int32} {t : Nat} {hd py : Int64} : sp_dd S k fr t hd py = 0 ∨ sp_dd S k fr t hd py = 1 ∨ sp_dd S k fr t hd py = 4 := by
  unfold sp_dd
  split
  · exact Or.inr (Or.inl rfl)
  · split
    · exact Or.inl rfl
    · exact Or.inr (Or.inr rfl)
theorem sp_E_c (S : Nat → Int32) (k t j : Nat) : sp_E S k t j = 0 ∨ sp_E S k t j = 1 ∨ sp_E S k t j = 4 := sp_dd_c
theorem sp_D_c (S : Nat → Int32) (k t j : Nat) : sp_D S k t j = 0 ∨ sp_D S k t j = 1 ∨ sp_D S k t j = 2 ∨ sp_D S k t j = 3 ∨ sp_D S k t j = 4 := by
  show sp_vd _ _ _ _ _ _ _ = 0 ∨ sp_vd _ _ _ _ _ _ _ = 1 ∨ sp_vd _ _ _ _ _ _ _ = 2 ∨ sp_vd _ _ _ _ _ _ _ = 3 ∨ sp_vd _ _ _ _ _ _ _ = 4
  unfold sp_vd
  split
  · split
    · exact Or.inr (Or.inr (Or.inr (Or.inl rfl)))
    · exact Or.inl rfl
  · split
    · exact Or.inr (Or.inr (Or.inl rfl))
    · rcases sp_dd_c (S := S) (k := k) (fr := sp_o S k 3) (t := t) (hd := sp_hd S (sp_vl S k (sp_o S k 3) (sp_P S k)) t j) (py := sp_P S k t j) with h | h | h
      · exact Or.inl h
      · exact Or.inr (Or.inl h)
      · exact Or.inr (Or.inr (Or.inr (Or.inr h)))
theorem sp_DE_3 {S : Nat → Int32} {k : Nat} : ∀ t j, ¬ sp_DE S k 1 t j = 3 := by
  intro t j
  show ¬ sp_E S k t j = 3
  rcases sp_E_c S k t j with h | h | h <;> rw [h] <;> decide
theorem sp_ab {S : Nat → Int32} (hW : sp_WF S) : ∀ t, t < sN S 2 → sp_a S t + sp_b S t ≤ sN S 1 := by
  intro t ht
  have := hW.2.2.2.2.2.1 (t + 1) (by omega) (by omega)
  unfold sp_a sp_b
  omega
theorem sp_FW_bd {S : Nat → Int32} (hW : sp_WF S) {k l t j : Nat} (hl : l ≤ 1) (ht : t ≤ sN S 2) (hj : j ≤ t) : sp_FW S k l t j ≤ 13 * sN S 1 ^ t := by
  have h12 := wf_12 hW
  have h := pl_F_bd (D := sp_DE S k) (a := sp_a S) (b := sp_b S) sp_DE_3 (sp_ab hW) hl ht hj
  exact Nat.le_trans h (Nat.mul_le_mul_right _ (by omega))
theorem sp_FC_bd {S : Nat → Int32} (hW : sp_WF S) {k l t j : Nat} (hl : l ≤ 1) (ht : t ≤ sN S 2) (hj : j ≤ t) : sp_FC S k l t j ≤ 53248 := by
  have h12 := wf_12 hW
  have h := pl_F_bd (D := sp_DE S k) (N := sN S 2) (W := 2) (a := pl_1) (b := pl_1) sp_DE_3 (fun _ _ => Nat.le_refl _) hl ht hj
  have h2 : 2 ^ t ≤ 2 ^ 12 := Nat.pow_le_pow_right (by omega) (by omega)
  have h3 : (t + 1) * 2 ^ t ≤ 13 * 2 ^ 12 := Nat.mul_le_mul (by omega) h2
  exact Nat.le_trans h h3
def sp_en (S : Nat → Int32) (k t : Nat) (w : Int32) (j : Nat) : Nat := pl_es (sp_DE S k) (sN S 2) (sp_FW S k) t w j
theorem sp_en_bd {S : Nat → Int32} (hW : sp_WF S) {k t : Nat} {w : Int32} (ht : t ≤ sN S 2) : ∀ j, j ≤ t + 1 → sp_en S k t w j ≤ 26 * j * sN S 1 ^ t := by
  intro j
  induction j with
  | zero => intro _; exact Nat.zero_le _
  | succ j ih =>
    intro hj
    have h := ih (by omega)
    have b0 := sp_FW_bd hW (k := k) (l := 0) (by omega) ht (show j ≤ t by omega)
    have b1 := sp_FW_bd hW (k := k) (l := 1) (by omega) ht (show j ≤ t by omega)
    have e : 26 * (j + 1) * sN S 1 ^ t = 26 * j * sN S 1 ^ t + 13 * sN S 1 ^ t + 13 * sN S 1 ^ t := by
      rw [Nat.mul_add, Nat.add_mul, Nat.mul_one]
      omega
    show sp_en S k t w j + (if _ then sp_FW S k 0 t j else 0) + (if _ then sp_FW S k 1 t j else 0) ≤ _
    rw [e]
    refine Nat.add_le_add (Nat.add_le_add h ?_) ?_
    · split
      · exact b0
      · exact Nat.zero_le _
    · split
      · exact b1
      · exact Nat.zero_le _
def sp_end (S : Nat → Int32) (k t : Nat) (w : Int32) : Nat := sp_en S k t w (t + 1)
theorem sp_end_bd {S : Nat → Int32} (hW : sp_WF S) {k t : Nat} {w : Int32} (ht : t ≤ sN S 2) : sp_end S k t w ≤ 338 * sN S 1 ^ t := by
  have h12 := wf_12 hW
  exact Nat.le_trans (sp_en_bd hW ht (t + 1) (Nat.le_refl _)) (Nat.mul_le_mul_right _ (by omega))
