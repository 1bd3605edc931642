/-! how a fraction is told -/
def sp_gcd (y b : Int64) : Int64 := lN (Nat.gcd y.toInt.natAbs b.toInt.natAbs)
def sp_told (y b : Int64) (p : Int32) : Int64 := if p = 0 then y / sp_gcd y b else b / sp_gcd y b
theorem gc_half {b c : Nat} (h0 : 0 < c) (hc : c < b) : 2 * (b % c) < b := by
  have h1 : b % c < c := Nat.mod_lt b h0
  have h2 : c * (b / c) + b % c = b := Nat.div_add_mod b c
  have h3 : 1 ≤ b / c := Nat.div_pos (by omega) h0
  have h4 : c * 1 ≤ c * (b / c) := Nat.mul_le_mul_left c h3
  omega
theorem gc_rm {a b : Nat} (ha : a < 2 ^ 63) (h0 : 0 < b) (hb : b < 2 ^ 63) : ob_rmL (lN a) (lN b) = some (lN (a % b)) := by
  unfold ob_rmL
  have hne : ¬ lN b = 0 := fun h => by
    have := (pk_lEQ hb (by omega : 0 < 2 ^ 63)).mp h
    omega
  rw [if_neg hne, pk_lRem ha h0 hb]
theorem gc_ne {b : Nat} (h0 : 0 < b) (hb : b < 2 ^ 63) : ¬ lN b = 0 := fun h => by
  have := (pk_lEQ hb (by omega : 0 < 2 ^ 63)).mp h
  omega
theorem gc_c : ∀ (k a b i fuel : Nat), a < 2 ^ 63 → b < 2 ^ 63 → b < 2 ^ k → i + 2 * k ≤ 126 → 2 * k < fuel → L_X11_commonDivisor_9 fuel (lN a) (lN b) (nI i) = some (lN (Nat.gcd a b)) := by
  intro k
  induction k with
  | zero =>
    intro a b i fuel ha hb hk hi hf
    have hb0 : b = 0 := by omega
    subst hb0
    obtain ⟨n, rfl⟩ : ∃ n, fuel = n + 1 := ⟨fuel - 1, by omega⟩
    show Lb_X11_commonDivisor_9 _ _ _ _ = _
    unfold Lb_X11_commonDivisor_9
    rw [if_pos (show lN 0 = 0 from rfl), Nat.gcd_zero_right]
  | succ k ih =>
    intro a b i fuel ha hb hk hi hf
    obtain ⟨n, rfl⟩ : ∃ n, fuel = n + 3 := ⟨fuel - 3, by omega⟩
    by_cases hb0 : b = 0
    · subst hb0
      show Lb_X11_commonDivisor_9 _ _ _ _ = _
      unfold Lb_X11_commonDivisor_9
      rw [if_pos (show lN 0 = 0 from rfl), Nat.gcd_zero_right]
    have hbp : 0 < b := by omega
    have n130 : ∀ q, q ≤ 126 → ¬ (130 : Int32) ≤ nI q := fun q hq => nI_ge (b := 130) (by omega) (by omega)
    have st : L_X11_commonDivisor_9 (n + 3) (lN a) (lN b) (nI i) = L_X11_commonDivisor_9 (n + 2) (lN b) (lN (a % b)) (nI (i + 1)) := by
      show Lb_X11_commonDivisor_9 _ _ _ _ = _
      unfold Lb_X11_commonDivisor_9
      rw [if_neg (gc_ne hbp hb), if_neg (n130 i (by omega)), gc_rm ha hbp hb, Option.bind_some, nI_1]
    rw [st, Nat.gcd_comm a b, Nat.gcd_rec b a]
    have hc : a % b < b := Nat.mod_lt a hbp
    by_cases hc0 : a % b = 0
    · rw [hc0]
      show Lb_X11_commonDivisor_9 _ _ _ _ = _
      unfold Lb_X11_commonDivisor_9
      rw [if_pos (show lN 0 = 0 from rfl), Nat.gcd_zero_left]
    have hcp : 0 < a % b := by omega
    have st2 : L_X11_commonDivisor_9 (n + 2) (lN b) (lN (a % b)) (nI (i + 1)) = L_X11_commonDivisor_9 (n + 1) (lN (a % b)) (lN (b % (a % b))) (nI (i + 2)) := by
      show Lb_X11_commonDivisor_9 _ _ _ _ = _
      unfold Lb_X11_commonDivisor_9
      rw [if_neg (gc_ne hcp (by omega)), if_neg (n130 (i + 1) (by omega)), gc_rm hb hcp (by omega), Option.bind_some, nI_1]
    have hh := gc_half hcp hc
    rw [st2, ih (a % b) (b % (a % b)) (i + 2) (n + 1) (by omega) (by omega) (by rw [Nat.pow_succ] at hk; omega) (by omega) (by omega), Nat.gcd_comm, ← Nat.gcd_rec]
theorem gc_m : ∀ (k a b fuel : Nat), a < 2 ^ 63 → b < 2 ^ 63 → b < 2 ^ k → 2 * k < fuel → L_X12_divisor_17 fuel (lN a) (lN b) = some (lN (Nat.gcd a b)) := by
  intro k
  induction k with
  | zero =>
    intro a b fuel ha hb hk hf
    have hb0 : b = 0 := by omega
    subst hb0
    obtain ⟨n, rfl⟩ : ∃ n, fuel = n + 1 := ⟨fuel - 1, by omega⟩
    show Lb_X12_divisor_17 _ _ _ = _
    unfold Lb_X12_divisor_17
    rw [if_pos (show lN 0 = 0 from rfl), Nat.gcd_zero_right]
  | succ k ih =>
    intro a b fuel ha hb hk hf
    obtain ⟨n, rfl⟩ : ∃ n, fuel = n + 3 := ⟨fuel - 3, by omega⟩
    by_cases hb0 : b = 0
    · subst hb0
      show Lb_X12_divisor_17 _ _ _ = _
      unfold Lb_X12_divisor_17
      rw [if_pos (show lN 0 = 0 from rfl), Nat.gcd_zero_right]
    have hbp : 0 < b := by omega
    have st : L_X12_divisor_17 (n + 3) (lN a) (lN b) = L_X12_divisor_17 (n + 2) (lN b) (lN (a % b)) := by
      show Lb_X12_divisor_17 _ _ _ = _
      unfold Lb_X12_divisor_17
      rw [if_neg (gc_ne hbp hb), gc_rm ha hbp hb, Option.bind_some]
    rw [st, Nat.gcd_comm a b, Nat.gcd_rec b a]
    have hc : a % b < b := Nat.mod_lt a hbp
    by_cases hc0 : a % b = 0
    · rw [hc0]
      show Lb_X12_divisor_17 _ _ _ = _
      unfold Lb_X12_divisor_17
      rw [if_pos (show lN 0 = 0 from rfl), Nat.gcd_zero_left]
    have hcp : 0 < a % b := by omega
    have st2 : L_X12_divisor_17 (n + 2) (lN b) (lN (a % b)) = L_X12_divisor_17 (n + 1) (lN (a % b)) (lN (b % (a % b))) := by
      show Lb_X12_divisor_17 _ _ _ = _
      unfold Lb_X12_divisor_17
      rw [if_neg (gc_ne hcp (by omega)), gc_rm hb hcp (by omega), Option.bind_some]
    have hh := gc_half hcp hc
    rw [st2, ih (a % b) (b % (a % b)) (n + 1) (by omega) (by omega) (by rw [Nat.pow_succ] at hk; omega) (by omega), Nat.gcd_comm, ← Nat.gcd_rec]
theorem gc_abs {y : Int64} (h : -9223372036854775808 < y.toInt) : y.toInt.natAbs < 2 ^ 63 ∧ (0 ≤ y → y = lN y.toInt.natAbs) ∧ (y ≤ 0 → -y = lN y.toInt.natAbs) := by
  have h1 := y.toInt_lt
  have h2 : y.toInt.natAbs < 2 ^ 63 := by omega
  refine ⟨h2, fun h0 => ?_, fun h0 => ?_⟩
  · rw [nu_le, nu_0] at h0
    exact Int64.toInt_inj.mp (by rw [pk_lT h2]; omega)
  · rw [nu_le, nu_0] at h0
    exact Int64.toInt_inj.mp (by rw [pk_lT h2, nu_neg h]; omega)
theorem gc_pos {y b : Int64} (h : -9223372036854775808 < y.toInt) (hb : 0 < b.toInt) : 0 < Nat.gcd y.toInt.natAbs b.toInt.natAbs ∧ Nat.gcd y.toInt.natAbs b.toInt.natAbs < 2 ^ 63 := by
  have h1 := b.toInt_lt
  have hp : 0 < b.toInt.natAbs := by omega
  refine ⟨Nat.gcd_pos_of_pos_right _ hp, ?_⟩
  have := Nat.gcd_le_right y.toInt.natAbs hp
  omega
theorem gc_lb {b : Int64} (hb : 0 < b.toInt) : b = lN b.toInt.natAbs ∧ b.toInt.natAbs < 2 ^ 63 := by
  have h1 := b.toInt_lt
  have h2 : b.toInt.natAbs < 2 ^ 63 := by omega
  exact ⟨Int64.toInt_inj.mp (by rw [pk_lT h2]; omega), h2⟩
theorem c_told {y b : Int64} {p : Int32} (h : -9223372036854775808 < y.toInt) (hb : 0 < b.toInt) : f_X11_told y b p = some (sp_told y b p) := by
  obtain ⟨a1, a2, a3⟩ := gc_abs h
  obtain ⟨b1, b2⟩ := gc_lb hb
  obtain ⟨p1, p2⟩ := gc_pos h hb
  have hl : ob_labs y = lN y.toInt.natAbs := by
    unfold ob_labs
    by_cases hy : 0 < y
    · rw [if_pos hy]; exact a2 (Int64.le_of_lt hy)
    · rw [if_neg hy]; exact a3 (Int64.not_lt.mp hy)
  have hd : f_X11_commonDivisor (ob_labs y) b = some (sp_gcd y b) := by
    have := gc_c 63 y.toInt.natAbs b.toInt.natAbs 0 ob_FU a1 b2 b2 (by omega) (by unfold ob_FU; omega)
    rw [← b1, ← hl] at this
    exact pu_b this
  unfold f_X11_told
  rw [hd, Option.bind_some]
  have h1 : (1 : Int64) ≤ sp_gcd y b := by
    unfold sp_gcd
    rw [nu_le, pk_lT p2, nu_1]
    omega
  have hn : ¬ sp_gcd y b = 0 := gc_ne p1 p2
  unfold sp_told ob_dvL
  rw [if_pos h1, if_neg hn, if_neg hn]
  split <;> rfl
theorem m_told {y b : Int64} {p : Int32} (h : -9223372036854775808 < y.toInt) (hb : 0 < b.toInt) : f_X12_told y b p = some (sp_told y b p) := by
  obtain ⟨a1, a2, a3⟩ := gc_abs h
  obtain ⟨b1, b2⟩ := gc_lb hb
  obtain ⟨p1, p2⟩ := gc_pos h hb
  have hg := gc_m 63 y.toInt.natAbs b.toInt.natAbs ob_FU a1 b2 b2 (by unfold ob_FU; omega)
  have hd : f_X12_divisor y b = some (sp_gcd y b) := by
    unfold f_X12_divisor B_X12_divisor_12
    by_cases hy : 0 ≤ y
    · rw [if_pos hy]
      have := hg
      rw [← b1, ← a2 hy] at this
      exact pu_b this
    · rw [if_neg hy]
      have := hg
      rw [← b1, ← a3 (Int64.le_of_lt (Int64.not_le.mp hy))] at this
      exact pu_b this
  have hn : ¬ sp_gcd y b = 0 := gc_ne p1 p2
  unfold f_X12_told
  rw [hd, Option.bind_some]
  unfold sp_told ob_dvL
  rw [if_neg hn, if_neg hn]
  split <;> rfl
