/-! the text's tokens -/
def tL (x : Int32) : Bool := if x < 97 then false else if 122 < x then false else true
def tF (x : Int32) : Bool := if x < 48 then false else if 57 < x then false else true
def tA (x : Int32) : Bool := if tL x = true then true else tF x
theorem c_isLetter {x : Int32} : f_X10_isLetter x = some (bI (tL x)) := by
  unfold f_X10_isLetter tL
  by_cases h1 : x < 97
  · rw [if_pos h1, if_pos h1]; rfl
  rw [if_neg h1, if_neg h1]
  by_cases h2 : 122 < x
  · rw [if_pos h2, if_pos h2]; rfl
  · rw [if_neg h2, if_neg h2]; rfl
theorem c_isFigure {x : Int32} : f_X10_isFigure x = some (bI (tF x)) := by
  unfold f_X10_isFigure tF
  by_cases h1 : x < 48
  · rw [if_pos h1, if_pos h1]; rfl
  rw [if_neg h1, if_neg h1]
  by_cases h2 : 57 < x
  · rw [if_pos h2, if_pos h2]; rfl
  · rw [if_neg h2, if_neg h2]; rfl
theorem bI_zr {b : Bool} : ob_zr (bI b) = some (bI b) := by cases b <;> rfl
theorem m_isSmall {x : Int32} : f_X12_isSmall x = some (bI (tL x)) := by
  have h : f_X12_isIn x 97 122 = some (bI (tL x)) := c_isLetter
  unfold f_X12_isSmall
  rw [h, Option.bind_some, bI_zr, Option.bind_some]
theorem m_isDigit {x : Int32} : f_X12_isDigit x = some (bI (tF x)) := by
  have h : f_X12_isIn x 48 57 = some (bI (tF x)) := c_isFigure
  unfold f_X12_isDigit
  rw [h, Option.bind_some, bI_zr, Option.bind_some]
theorem by_e {x : Int32} (h : by_ok x) : ∃ k : Nat, k < 256 ∧ x = Int32.ofInt ((k : Int) - 128) := by
  obtain ⟨h1, h2⟩ := h
  refine ⟨(x.toInt + 128).toNat, by omega, ?_⟩
  rw [show (((x.toInt + 128).toNat : Nat) : Int) - 128 = x.toInt by omega]
  exact (Int32.ofInt_toInt x).symm
theorem by_255 : ∀ k : Nat, k < 256 → (tL (Int32.ofInt ((k : Int) - 128) &&& 255) = tL (Int32.ofInt ((k : Int) - 128)) ∧ tF (Int32.ofInt ((k : Int) - 128) &&& 255) = tF (Int32.ofInt ((k : Int) - 128))) ∧
    (((Int32.ofInt ((k : Int) - 128) &&& 255) = 32 ↔ Int32.ofInt ((k : Int) - 128) = 32) ∧ ((Int32.ofInt ((k : Int) - 128) &&& 255) = 59 ↔ Int32.ofInt ((k : Int) - 128) = 59)) ∧ ¬ (Int32.ofInt ((k : Int) - 128) &&& 255) = -1 ∧
    (tA (Int32.ofInt ((k : Int) - 128)) = true → (Int32.ofInt ((k : Int) - 128) &&& 255) = Int32.ofInt ((k : Int) - 128) ∧ (Int32.ofInt ((k : Int) - 128)).toInt8.toInt32 = Int32.ofInt ((k : Int) - 128) ∧ vp_nar .byte (Int32.ofInt ((k : Int) - 128)) = Int32.ofInt ((k : Int) - 128) ∧ Int32.ofInt ((k : Int) - 128) ≠ 32) := by decide +kernel
theorem by_p {x : Int32} (h : by_ok x) : tL (x &&& 255) = tL x ∧ tF (x &&& 255) = tF x ∧ ((x &&& 255) = 32 ↔ x = 32) ∧ ((x &&& 255) = 59 ↔ x = 59) ∧ ¬ (x &&& 255) = -1 ∧ (tA x = true → (x &&& 255) = x ∧ x.toInt8.toInt32 = x ∧ vp_nar .byte x = x ∧ x ≠ 32) := by
  obtain ⟨k, hk, rfl⟩ := by_e h
  obtain ⟨⟨a, b⟩, ⟨c, d⟩, e, f⟩ := by_255 k hk
  exact ⟨a, b, c, d, e, f⟩
/-! where tokens lie -/
def lx_sk (b : Nat → Int32) : Nat → Nat → Nat
  | 0, p => p
  | d + 1, p => if b p = 32 then lx_sk b d (p + 1) else p
def lx_re (b : Nat → Int32) : Nat → Nat → Nat
  | 0, p => p
  | d + 1, p => if tA (b p) = true then lx_re b d (p + 1) else p
def sk (b : Nat → Int32) (n p : Nat) : Nat := lx_sk b (n - p) p
def re (b : Nat → Int32) (n p : Nat) : Nat := lx_re b (n - p) p
theorem sk_n {b : Nat → Int32} {n : Nat} : sk b n n = n := by unfold sk; rw [Nat.sub_self]; rfl
theorem sk_1 {b : Nat → Int32} {n p : Nat} (hp : p < n) (h : b p = 32) : sk b n p = sk b n (p + 1) := by
  unfold sk
  rw [show n - p = (n - (p + 1)) + 1 by omega]
  exact if_pos h
theorem sk_0 {b : Nat → Int32} {n p : Nat} (hp : p < n) (h : ¬ b p = 32) : sk b n p = p := by
  unfold sk
  rw [show n - p = (n - (p + 1)) + 1 by omega]
  exact if_neg h
theorem re_n {b : Nat → Int32} {n : Nat} : re b n n = n := by unfold re; rw [Nat.sub_self]; rfl
theorem re_1 {b : Nat → Int32} {n p : Nat} (hp : p < n) (h : tA (b p) = true) : re b n p = re b n (p + 1) := by
  unfold re
  rw [show n - p = (n - (p + 1)) + 1 by omega]
  exact if_pos h
theorem re_0 {b : Nat → Int32} {n p : Nat} (hp : p < n) (h : ¬ tA (b p) = true) : re b n p = p := by
  unfold re
  rw [show n - p = (n - (p + 1)) + 1 by omega]
  exact if_neg h
theorem lx_sk_le {b : Nat → Int32} : ∀ d p, p ≤ lx_sk b d p ∧ lx_sk b d p ≤ p + d := by
  intro d
  induction d with
  | zero => intro p; exact ⟨Nat.le_refl _, Nat.le_refl _⟩
  | succ d ih =>
    intro p
    show p ≤ (if b p = 32 then lx_sk b d (p + 1) else p) ∧ (if b p = 32 then lx_sk b d (p + 1) else p) ≤ _
    have := ih (p + 1)
    split <;> omega
theorem lx_re_le {b : Nat → Int32} : ∀ d p, p ≤ lx_re b d p ∧ lx_re b d p ≤ p + d := by
  intro d
  induction d with
  | zero => intro p; exact ⟨Nat.le_refl _, Nat.le_refl _⟩
  | succ d ih =>
    intro p
    show p ≤ (if tA (b p) = true then lx_re b d (p + 1) else p) ∧ (if tA (b p) = true then lx_re b d (p + 1) else p) ≤ _
    have := ih (p + 1)
    split <;> omega
theorem lx_re_in {b : Nat → Int32} : ∀ d p i, p ≤ i → i < lx_re b d p → tA (b i) = true := by
  intro d
  induction d with
  | zero => intro p i h1 h2; exact absurd h2 (by show ¬ i < p; omega)
  | succ d ih =>
    intro p i h1 h2
    have h2 : i < (if tA (b p) = true then lx_re b d (p + 1) else p) := h2
    by_cases c : tA (b p) = true
    · rw [if_pos c] at h2
      by_cases e : i = p
      · subst e; exact c
      · exact ih (p + 1) i (by omega) h2
    · rw [if_neg c] at h2
      omega
theorem sk_le {b : Nat → Int32} {n p : Nat} (hp : p ≤ n) : p ≤ sk b n p ∧ sk b n p ≤ n := by
  have := lx_sk_le (b := b) (n - p) p
  unfold sk
  omega
theorem re_le {b : Nat → Int32} {n p : Nat} (hp : p ≤ n) : p ≤ re b n p ∧ re b n p ≤ n := by
  have := lx_re_le (b := b) (n - p) p
  unfold re
  omega
theorem re_in {b : Nat → Int32} {n p i : Nat} (h1 : p ≤ i) (h2 : i < re b n p) : tA (b i) = true := lx_re_in (n - p) p i h1 h2
/-- what a run of signs is -/
def lx_f (b : Nat → Int32) (q : Nat) : Nat → Nat
  | 0 => 0
  | l + 1 => if tF (b (q + l)) = true then lx_f b q l + 1 else lx_f b q l
def lx_s (b : Nat → Int32) (q : Nat) : Nat → Int64
  | 0 => 0
  | l + 1 => if tF (b (q + l)) = true then lx_s b q l * 10 + (b (q + l)).toInt64 - 48 else lx_s b q l
def lx_h (b : Nat → Int32) (q : Nat) : Nat → Int64
  | 0 => 0
  | l + 1 => if tF (b (q + l)) = true then lx_h b q l else lx_h b q l * 32 + (b (q + l)).toInt64 - 97 + 1
def lx_n (b : Nat → Int32) (q : Nat) : Nat → Int32
  | 0 => 0
  | l + 1 => if l < 3 then 10 * lx_n b q l + b (q + l) - 48 else lx_n b q l
def lx_pad (b : Nat → Int32) (q l i : Nat) : Int32 := if i < l then b (q + i) else 0
theorem lx_f_le {b : Nat → Int32} {q : Nat} : ∀ l, lx_f b q l ≤ l := by
  intro l
  induction l with
  | zero => exact Nat.le_refl _
  | succ l ih =>
    show (if tF (b (q + l)) = true then lx_f b q l + 1 else lx_f b q l) ≤ l + 1
    split <;> omega
theorem lx_f_all {b : Nat → Int32} {q : Nat} : ∀ l, lx_f b q l = l → ∀ i, i < l → tF (b (q + i)) = true := by
  intro l
  induction l with
  | zero => intro _ i hi; omega
  | succ l ih =>
    intro h i hi
    have h : (if tF (b (q + l)) = true then lx_f b q l + 1 else lx_f b q l) = l + 1 := h
    have hl := lx_f_le (b := b) (q := q) l
    by_cases c : tF (b (q + l)) = true
    · rw [if_pos c] at h
      by_cases e : i = l
      · subst e; exact c
      · exact ih (by omega) i (by omega)
    · rw [if_neg c] at h
      omega
theorem lx_f_none {b : Nat → Int32} {q : Nat} : ∀ l, lx_f b q l = 0 → ∀ i, i < l → ¬ tF (b (q + i)) = true := by
  intro l
  induction l with
  | zero => intro _ i hi; omega
  | succ l ih =>
    intro h i hi
    have h : (if tF (b (q + l)) = true then lx_f b q l + 1 else lx_f b q l) = 0 := h
    by_cases c : tF (b (q + l)) = true
    · rw [if_pos c] at h
      omega
    · rw [if_neg c] at h
      by_cases e : i = l
      · subst e; exact c
      · exact ih h i (by omega)
/-! keywords -/
def kw_s : Nat → Nat := fun k => [0, 1, 2, 3, 4, 5, 11, 12, 13, 14, 15, 16, 17, 18, 19, 6, 7, 10, 8, 9].getD k 0
def kw_i : Nat → Nat := fun k => [0, 1, 2, 3, 4, 5, 15, 16, 18, 19, 17, 6, 7, 8, 9, 10, 11, 12, 13, 14].getD k 0
theorem kw_si : ∀ k, k < 20 → kw_s (kw_i k) = k ∧ kw_i (kw_s k) = k ∧ kw_s k < 20 ∧ kw_i k < 20 := by decide +kernel
/-- a word as a number: five bits a letter -/
def hN (s : Nat → Nat) : Nat → Nat
  | 0 => 0
  | l + 1 => hN s l * 32 + s l
theorem hN_inj {s s' : Nat → Nat} : ∀ l l', (∀ i, i < l → 1 ≤ s i ∧ s i ≤ 26) → (∀ i, i < l' → 1 ≤ s' i ∧ s' i ≤ 26) → hN s l = hN s' l' → l = l' ∧ ∀ i, i < l → s i = s' i := by
  intro l
  induction l with
  | zero =>
    intro l' h1 h2 h
    cases l' with
    | zero => exact ⟨rfl, fun i hi => by omega⟩
    | succ l' =>
      have := h2 l' (by omega)
      have h : 0 = hN s' l' * 32 + s' l' := h
      omega
  | succ l ih =>
    intro l' h1 h2 h
    have a := h1 l (by omega)
    cases l' with
    | zero =>
      have h : hN s l * 32 + s l = 0 := h
      omega
    | succ l' =>
      have b := h2 l' (by omega)
      have h : hN s l * 32 + s l = hN s' l' * 32 + s' l' := h
      have e1 : hN s l = hN s' l' := by omega
      have e2 : s l = s' l' := by omega
      obtain ⟨c1, c2⟩ := ih l' (fun i hi => h1 i (by omega)) (fun i hi => h2 i (by omega)) e1
      subst c1
      refine ⟨rfl, fun i hi => ?_⟩
      by_cases e : i = l
      · subst e; exact e2
      · exact c2 i (by omega)
theorem hN_lt {s : Nat → Nat} : ∀ l, (∀ i, i < l → s i ≤ 26) → hN s l < 32 ^ l := by
  intro l
  induction l with
  | zero => intro _; show 0 < 1; omega
  | succ l ih =>
    intro h
    have a := h l (by omega)
    have b := ih (fun i hi => h i (by omega))
    show hN s l * 32 + s l < 32 ^ (l + 1)
    rw [Nat.pow_succ]
    omega
theorem p32_8 : (32 : Nat) ^ 8 = 1099511627776 := by decide
theorem hN_b {s : Nat → Nat} {l : Nat} (hl : l ≤ 8) (h : ∀ i, i < l → s i ≤ 26) : hN s l < 2 ^ 63 := by
  have h1 := hN_lt l h
  have hp : 32 ^ l ≤ 32 ^ 8 := Nat.pow_le_pow_right (by omega) hl
  rw [p32_8] at hp
  omega
def dg (x : Int32) : Nat := (x.toInt - 96).toNat
theorem tL_i {x : Int32} (h : tL x = true) : 97 ≤ x.toInt ∧ x.toInt ≤ 122 := by
  unfold tL at h
  by_cases h1 : x < 97
  · rw [if_pos h1] at h; exact absurd h (by decide)
  rw [if_neg h1] at h
  by_cases h2 : 122 < x
  · rw [if_pos h2] at h; exact absurd h (by decide)
  rw [ni_lt] at h1 h2
  have e1 : (97 : Int32).toInt = 97 := rfl
  have e2 : (122 : Int32).toInt = 122 := rfl
  omega
theorem tF_i {x : Int32} (h : tF x = true) : 48 ≤ x.toInt ∧ x.toInt ≤ 57 := by
  unfold tF at h
  by_cases h1 : x < 48
  · rw [if_pos h1] at h; exact absurd h (by decide)
  rw [if_neg h1] at h
  by_cases h2 : 57 < x
  · rw [if_pos h2] at h; exact absurd h (by decide)
  rw [ni_lt] at h1 h2
  have e1 : (48 : Int32).toInt = 48 := rfl
  have e2 : (57 : Int32).toInt = 57 := rfl
  omega
theorem dg_ok {x : Int32} (h : tL x = true) : 1 ≤ dg x ∧ dg x ≤ 26 ∧ x.toInt = (dg x : Int) + 96 := by
  have := tL_i h
  unfold dg
  omega
theorem dg_inj {x y : Int32} (h : tL x = true) (h' : tL y = true) (e : dg x = dg y) : x = y := by
  have a := (dg_ok h).2.2
  have b := (dg_ok h').2.2
  exact Int32.toInt_inj.mp (by omega)
theorem lx_h_N {b : Nat → Int32} {q : Nat} : ∀ l, l ≤ 8 → (∀ i, i < l → tL (b (q + i)) = true) → (∀ i, i < l → ¬ tF (b (q + i)) = true) → lx_h b q l = lN (hN (fun i => dg (b (q + i))) l) := by
  intro l
  induction l with
  | zero => intro _ _ _; rfl
  | succ l ih =>
    intro hl h1 h2
    have i1 := ih (by omega) (fun i hi => h1 i (by omega)) (fun i hi => h2 i (by omega))
    have a := dg_ok (h1 l (by omega))
    have e : (b (q + l)).toInt64 = lN (dg (b (q + l)) + 96) := by
      apply Int64.toInt_inj.mp
      rw [Int32.toInt_toInt64, pk_lT (by omega), a.2.2]
      omega
    have hlt := hN_lt (s := fun i => dg (b (q + i))) l (fun i hi => (dg_ok (h1 i (by omega))).2.1)
    have hp : 32 ^ l ≤ 32 ^ 7 := Nat.pow_le_pow_right (by omega) (by omega)
    have h7 : 32 ^ 7 = 34359738368 := by decide
    show (if _ then _ else lx_h b q l * 32 + (b (q + l)).toInt64 - 97 + 1) = lN (hN (fun i => dg (b (q + i))) l * 32 + dg (b (q + l)))
    rw [if_neg (h2 l (by omega)), i1, e]
    generalize hN (fun i => dg (b (q + i))) l = H at *
    have e32 : (32 : Int64) = lN 32 := rfl
    have e97 : (97 : Int64) = lN 97 := rfl
    rw [e32, lN_mul, lN_add, e97, lN_sub (by omega), lN_1]
    congr 1
    omega
/-- words are alike where their numbers are -/
theorem lx_h_pad1 {b b' : Nat → Int32} {q q' l l' : Nat} (h : ∀ i, i < l → tL (b (q + i)) = true) (h' : ∀ i, i < l' → tL (b' (q' + i)) = true) (e : hN (fun i => dg (b (q + i))) l = hN (fun i => dg (b' (q' + i))) l') (i : Nat) : lx_pad b q l i = lx_pad b' q' l' i := by
  obtain ⟨e1, e2⟩ := hN_inj l l' (fun i hi => ⟨(dg_ok (h i hi)).1, (dg_ok (h i hi)).2.1⟩) (fun i hi => ⟨(dg_ok (h' i hi)).1, (dg_ok (h' i hi)).2.1⟩) e
  subst e1
  unfold lx_pad
  by_cases c : i < l
  · rw [if_pos c, if_pos c]
    exact dg_inj (h i c) (h' i c) (e2 i c)
  · rw [if_neg c, if_neg c]
theorem tL_0 {x : Int32} (hx : tL x = true) : ¬ x = 0 := fun z => by
  have h := (tL_i hx).1
  rw [z] at h
  exact absurd h (by decide)
theorem lx_h_pad2 {b b' : Nat → Int32} {q q' l l' : Nat} (hl : l ≤ 8) (hl' : l' ≤ 8) (h : ∀ i, i < l → tL (b (q + i)) = true) (h' : ∀ i, i < l' → tL (b' (q' + i)) = true) (e : ∀ i, i < 8 → lx_pad b q l i = lx_pad b' q' l' i) : l = l' := by
  rcases Nat.lt_trichotomy l l' with c | c | c
  · have z := e l (by omega)
    unfold lx_pad at z
    rw [if_neg (by omega), if_pos c] at z
    exact absurd z.symm (tL_0 (h' l c))
  · exact c
  · have z := e l' (by omega)
    unfold lx_pad at z
    rw [if_pos c, if_neg (by omega)] at z
    exact absurd z (tL_0 (h l' c))
theorem hN_0 (s : Nat → Nat) : hN s 0 = 0 := rfl
theorem hN_cg {s s' : Nat → Nat} {m : Nat} (h : hN s m = hN s' m) (e : s m = s' m) : hN s (m + 1) = hN s' (m + 1) := by
  unfold hN
  rw [h, e]
theorem lx_h_pad3 {b b' : Nat → Int32} {q q' l : Nat} (hl : l ≤ 8) (e : ∀ i, i < 8 → lx_pad b q l i = lx_pad b' q' l i) : ∀ m, m ≤ l → hN (fun i => dg (b (q + i))) m = hN (fun i => dg (b' (q' + i))) m := by
  intro m
  induction m with
  | zero => intro _; exact (hN_0 _).trans (hN_0 _).symm
  | succ m ih =>
    intro hm
    have z := e m (by omega)
    unfold lx_pad at z
    rw [if_pos (by omega), if_pos (by omega)] at z
    exact hN_cg (ih (by omega)) (congrArg dg z)
theorem lx_h_pad {b b' : Nat → Int32} {q q' l l' : Nat} (hl : l ≤ 8) (hl' : l' ≤ 8) (h : ∀ i, i < l → tL (b (q + i)) = true) (h' : ∀ i, i < l' → tL (b' (q' + i)) = true) (n : ∀ i, i < l → ¬ tF (b (q + i)) = true) (n' : ∀ i, i < l' → ¬ tF (b' (q' + i)) = true) :
    lx_h b q l = lx_h b' q' l' ↔ ∀ i, i < 8 → lx_pad b q l i = lx_pad b' q' l' i := by
  have b1 := hN_b (s := fun i => dg (b (q + i))) hl (fun i hi => (dg_ok (h i hi)).2.1)
  have b2 := hN_b (s := fun i => dg (b' (q' + i))) hl' (fun i hi => (dg_ok (h' i hi)).2.1)
  have e1 := lx_h_N l hl h n
  have e2 := lx_h_N l' hl' h' n'
  constructor
  · intro e i _
    rw [e1, e2] at e
    exact lx_h_pad1 h h' ((pk_lEQ b1 b2).mp e) i
  · intro e
    have el := lx_h_pad2 hl hl' h h' e
    subst el
    rw [e1, e2, lx_h_pad3 hl e l (Nat.le_refl _)]
