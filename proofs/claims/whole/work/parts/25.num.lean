/-! numbers: exact where nothing wraps; nodes of the class -/
theorem nu_add {x y : Int64} (h : -9223372036854775808 ≤ x.toInt + y.toInt) (h' : x.toInt + y.toInt < 9223372036854775808) : (x + y).toInt = x.toInt + y.toInt := by
  rw [Int64.toInt_add]
  exact Int.bmod_eq_of_le_mul_two (by simp only [Nat.reducePow]; omega) (by simp only [Nat.reducePow]; omega)
theorem nu_mul {x y : Int64} (h : -9223372036854775808 ≤ x.toInt * y.toInt) (h' : x.toInt * y.toInt < 9223372036854775808) : (x * y).toInt = x.toInt * y.toInt := by
  rw [Int64.toInt_mul]
  exact Int.bmod_eq_of_le_mul_two (by simp only [Nat.reducePow]; omega) (by simp only [Nat.reducePow]; omega)
theorem nu_neg {x : Int64} (h : -9223372036854775808 < x.toInt) : (-x).toInt = -x.toInt := by
  have := x.toInt_lt
  rw [Int64.toInt_neg]
  exact Int.bmod_eq_of_le_mul_two (by simp only [Nat.reducePow]; omega) (by simp only [Nat.reducePow]; omega)
theorem nu_sub {x y : Int64} (h : -9223372036854775808 ≤ x.toInt - y.toInt) (h' : x.toInt - y.toInt < 9223372036854775808) : (x - y).toInt = x.toInt - y.toInt := by
  rw [Int64.toInt_sub]
  exact Int.bmod_eq_of_le_mul_two (by simp only [Nat.reducePow]; omega) (by simp only [Nat.reducePow]; omega)
theorem ni_add {x y : Int32} (h : -2147483648 ≤ x.toInt + y.toInt) (h' : x.toInt + y.toInt < 2147483648) : (x + y).toInt = x.toInt + y.toInt := by
  rw [Int32.toInt_add]
  exact Int.bmod_eq_of_le_mul_two (by simp only [Nat.reducePow]; omega) (by simp only [Nat.reducePow]; omega)
theorem ni_mul {x y : Int32} (h : -2147483648 ≤ x.toInt * y.toInt) (h' : x.toInt * y.toInt < 2147483648) : (x * y).toInt = x.toInt * y.toInt := by
  rw [Int32.toInt_mul]
  exact Int.bmod_eq_of_le_mul_two (by simp only [Nat.reducePow]; omega) (by simp only [Nat.reducePow]; omega)
theorem ni_neg {x : Int32} (h : -2147483648 < x.toInt) : (-x).toInt = -x.toInt := by
  have := x.toInt_lt
  rw [Int32.toInt_neg]
  exact Int.bmod_eq_of_le_mul_two (by simp only [Nat.reducePow]; omega) (by simp only [Nat.reducePow]; omega)
theorem ni_sub {x y : Int32} (h : -2147483648 ≤ x.toInt - y.toInt) (h' : x.toInt - y.toInt < 2147483648) : (x - y).toInt = x.toInt - y.toInt := by
  rw [Int32.toInt_sub]
  exact Int.bmod_eq_of_le_mul_two (by simp only [Nat.reducePow]; omega) (by simp only [Nat.reducePow]; omega)
theorem ni_le {x y : Int32} : x ≤ y ↔ x.toInt ≤ y.toInt := Int32.le_iff_toInt_le
theorem ni_lt {x y : Int32} : x < y ↔ x.toInt < y.toInt := Int32.lt_iff_toInt_lt
theorem nu_le {x y : Int64} : x ≤ y ↔ x.toInt ≤ y.toInt := Int64.le_iff_toInt_le
theorem nu_lt {x y : Int64} : x < y ↔ x.toInt < y.toInt := Int64.lt_iff_toInt_lt
theorem ni_0 : (0 : Int32).toInt = 0 := rfl
theorem nu_0 : (0 : Int64).toInt = 0 := rfl
theorem nu_1 : (1 : Int64).toInt = 1 := rfl
def c_tri : Nat → Nat
  | 0 => 0
  | t + 1 => c_tri t + (t + 1)
def nd (t j : Nat) : Nat := c_tri t + j
theorem c_tri_lt {t t' : Nat} (h : t < t') : c_tri t + t < c_tri t' := by
  induction t' with
  | zero => omega
  | succ m ih =>
    show _ < c_tri m + (m + 1)
    by_cases hm : t = m
    · subst hm; omega
    · have := ih (by omega); omega
theorem nd_lt {t j : Nat} (ht : t ≤ 12) (hj : j ≤ t) : nd t j < 91 := by
  have h1 : c_tri t + t < c_tri 13 := c_tri_lt (by omega)
  have h2 : c_tri 13 = 91 := rfl
  unfold nd
  omega
theorem nd_up (t j : Nat) : nd (t + 1) (j + 1) = nd t j + t + 2 := by
  show c_tri t + (t + 1) + (j + 1) = c_tri t + j + t + 2
  omega
theorem nd_dn (t j : Nat) : nd (t + 1) j = nd t j + t + 1 := by
  show c_tri t + (t + 1) + j = c_tri t + j + t + 1
  omega
theorem nd_inj {t j t' j' : Nat} (hj : j ≤ t) (hj' : j' ≤ t') (h : nd t j = nd t' j') : t = t' ∧ j = j' := by
  unfold nd at h
  rcases Nat.lt_trichotomy t t' with h1 | h1 | h1
  · have := c_tri_lt h1; omega
  · subst h1; omega
  · have := c_tri_lt h1; omega
theorem c_triI : ∀ t, t < 13 → ob_dv (nI t * (nI t + 1)) 2 = some (nI (c_tri t)) := by decide +kernel
theorem c_nodeAt {t j : Nat} (ht : t ≤ 12) : f_X11_nodeAt (nI t) (nI j) = some (nI (nd t j)) := by
  unfold f_X11_nodeAt nd
  rw [c_triI t (by omega), Option.bind_some, nI_add]
theorem c_upFrom {n t j : Nat} : f_X3_upFrom n (nI t) (nI (nd t j)) = some (nI (nd (t + 1) (j + 1))) := by
  unfold f_X3_upFrom
  rw [nd_up, nI_add]
  exact congrArg some (nI_add _ 2)
theorem c_downFrom {n t j : Nat} : f_X3_downFrom n (nI t) (nI (nd t j)) = some (nI (nd (t + 1) j)) := by
  unfold f_X3_downFrom
  rw [nd_dn, nI_add]
  exact congrArg some (nI_add _ 1)
/-! prices in whole numbers -/
def sp_cN (S : Nat → Int32) (t : Nat) : Nat → Nat
  | 0 => 0
  | c + 1 => sp_cN S t c + sN S (16 + (t + c))
def sp_strN (S : Nat → Int32) (t j : Nat) : Nat := sN S 0 + j * sN S 1 - sp_fN S t
def sp_prN (S : Nat → Int32) (t j : Nat) : Nat := sp_strN S t j + sp_cN S t (sN S 2 + 1 - t)
theorem sp_fs_n {S : Nat → Int32} (hW : sp_WF S) : ∀ {t : Nat}, t ≤ sN S 2 → sp_fs S t = nI (sp_fN S t) := by
  intro t
  induction t with
  | zero => intro _; rfl
  | succ t ih =>
    intro ht
    show sp_fs S t + S (3 + (t + 1)) = nI (sp_fN S t + sN S (3 + (t + 1)))
    rw [ih (by omega), (hW.2.2.2.2.2.1 (t + 1) (by omega) ht).1, nI_add]
theorem sp_fN_mono {S : Nat → Int32} {t t' : Nat} (h : t ≤ t') : sp_fN S t ≤ sp_fN S t' := by
  induction t' with
  | zero => have : t = 0 := by omega
            subst this; exact Nat.le_refl _
  | succ m ih =>
    by_cases hm : t = m + 1
    · subst hm; exact Nat.le_refl _
    · have := ih (by omega)
      show _ ≤ sp_fN S m + _
      omega
theorem sp_str_n {S : Nat → Int32} (hW : sp_WF S) {t j : Nat} (ht : t ≤ sN S 2) : sp_str S t j = nI (sp_strN S t j) := by
  unfold sp_str sp_strN
  rw [sp_fs_n hW ht, wf_0 hW, wf_1 hW, pk_mul, nI_add, pk_sub]
  have h1 := sp_fN_mono (S := S) ht
  have h2 := hW.2.2.2.2.2.2.2.1
  omega
theorem sp_cs_n {S : Nat → Int32} (hW : sp_WF S) {t : Nat} : ∀ {c : Nat}, t + c ≤ 13 → sp_cs S t c = nI (sp_cN S t c) ∧ sp_cN S t c ≤ 99 * c := by
  intro c
  induction c with
  | zero => intro _; exact ⟨rfl, Nat.zero_le _⟩
  | succ c ih =>
    intro h
    have hc := hW.2.2.2.2.2.2.1 (t + c) (by omega)
    have := ih (by omega)
    constructor
    · show sp_cs S t c + S (16 + (t + c)) = nI (sp_cN S t c + sN S (16 + (t + c)))
      rw [this.1, ← nI_add, ← hc.1]
    · show sp_cN S t c + sN S (16 + (t + c)) ≤ _
      omega
theorem sp_strN_le {S : Nat → Int32} (hW : sp_WF S) {t j : Nat} (hj : j ≤ 12) : sp_strN S t j ≤ 1107 := by
  have h0 := hW.1.2
  have h1 := hW.2.1.2.2
  have : j * sN S 1 ≤ 12 * 9 := Nat.mul_le_mul hj h1
  unfold sp_strN
  omega
theorem sp_pr_n {S : Nat → Int32} (hW : sp_WF S) {t j : Nat} (ht : t ≤ sN S 2) : sp_pr S t j = nI (sp_prN S t j) := by
  have h12 := wf_12 hW
  unfold sp_pr sp_cf sp_prN
  rw [sp_str_n hW ht, (sp_cs_n hW (by omega)).1, nI_add]
theorem sp_prN_le {S : Nat → Int32} (hW : sp_WF S) {t j : Nat} (ht : t ≤ sN S 2) (hj : j ≤ 12) : sp_prN S t j ≤ 2394 := by
  have h12 := wf_12 hW
  have h1 := sp_strN_le hW (t := t) hj
  have h2 := (sp_cs_n hW (t := t) (c := sN S 2 + 1 - t) (by omega)).2
  unfold sp_prN
  omega
theorem nu_ab0 (x : Int32) : (ob_imax 0 x).toInt64 = sp_ab0 x.toInt64 := by
  have e : (x.toInt64 ≤ 0) ↔ x ≤ 0 := by rw [nu_le, ni_le, Int32.toInt_toInt64]; rfl
  unfold ob_imax sp_ab0
  by_cases h : x ≤ 0
  · rw [if_pos (e.mpr h), if_neg (Int32.not_lt.mpr h)]; rfl
  · rw [if_neg (fun h' => h (e.mp h')), if_pos (Int32.not_le.mp h)]
theorem nu_max0 (y : Int64) : ob_lmax 0 y = sp_ab0 y := by
  unfold ob_lmax sp_ab0
  by_cases h : y < 0
  · rw [if_pos h, if_pos (Int64.le_of_lt h)]
  · rw [if_neg h]
    by_cases h' : y ≤ 0
    · rw [if_pos h']; exact Int64.le_antisymm h' (Int64.not_lt.mp h)
    · rw [if_neg h']
theorem ni_of {n : Nat} (h : n < 2147483648) : (nI n).toInt = (n : Int) := nI_toInt (by omega)
/-- what the class takes for whole pay, by the reference's words -/
theorem c_whole {p s m : Nat} (hp : p ≤ 2394) (hs : s ≤ 999) (hm : m ≤ 999) :
    (ob_imax 0 (nI s - nI p) = ob_imax 0 (-(nI p - nI s))) ∧
    ((nI p < nI s) ↔ (nI p - nI s < 0)) ∧ ob_imax 0 (nI m) = nI m ∧
    (s < m → ob_imax 0 (ob_imin (nI p) (nI m) - nI s) = (if 0 ≤ nI p - nI s then (if nI m - nI s ≤ nI p - nI s then (nI m - nI s) else (nI p - nI s)) else 0)) ∧
    (ob_imax 0 (ob_iabs (nI p - nI s)) = (if 0 ≤ nI p - nI s then (nI p - nI s) else (-(nI p - nI s)))) := by
  have tp := ni_of (n := p) (by omega)
  have ts := ni_of (n := s) (by omega)
  have tm := ni_of (n := m) (by omega)
  have tps : (nI p - nI s).toInt = (p : Int) - s := by rw [ni_sub (by omega) (by omega)]; omega
  have tsp : (nI s - nI p).toInt = (s : Int) - p := by rw [ni_sub (by omega) (by omega)]; omega
  have tms : (nI m - nI s).toInt = (m : Int) - s := by rw [ni_sub (by omega) (by omega)]; omega
  have en : nI s - nI p = -(nI p - nI s) := Int32.toInt_inj.mp (by rw [tsp, ni_neg (by omega), tps]; omega)
  refine ⟨by rw [en], by rw [ni_lt, ni_lt, tp, ts, tps, ni_0]; omega, ?_, ?_, ?_⟩
  · unfold ob_imax
    by_cases h : (0 : Int32) < nI m
    · rw [if_pos h]
    · rw [if_neg h]
      rw [ni_lt, tm, ni_0] at h
      exact Int32.toInt_inj.mp (by rw [tm, ni_0]; omega)
  · intro hsm
    unfold ob_imin
    by_cases h0 : 0 ≤ nI p - nI s
    · rw [if_pos h0]
      rw [ni_le, tps, ni_0] at h0
      by_cases h1 : nI m < nI p
      · rw [if_pos h1]
        rw [ni_lt, tm, tp] at h1
        rw [if_pos (by rw [ni_le, tms, tps]; omega)]
        unfold ob_imax
        rw [if_pos (by rw [ni_lt, tms, ni_0]; omega)]
      · rw [if_neg h1]
        rw [ni_lt, tm, tp] at h1
        unfold ob_imax
        by_cases h2 : nI m - nI s ≤ nI p - nI s
        · rw [if_pos h2]
          rw [ni_le, tms, tps] at h2
          have : p = m := by omega
          subst this
          rw [if_pos (by rw [ni_lt, tms, ni_0]; omega)]
        · rw [if_neg h2]
          by_cases h3 : (0 : Int32) < nI p - nI s
          · rw [if_pos h3]
          · rw [if_neg h3]
            rw [ni_lt, tps, ni_0] at h3
            exact Int32.toInt_inj.mp (by rw [tps, ni_0]; omega)
    · rw [if_neg h0]
      rw [ni_le, tps, ni_0] at h0
      rw [if_neg (by rw [ni_lt, tm, tp]; omega)]
      unfold ob_imax
      rw [if_neg (by rw [ni_lt, tps, ni_0]; omega)]
  · unfold ob_iabs
    by_cases h0 : 0 ≤ nI p - nI s
    · rw [if_pos h0, if_pos h0]
      rw [ni_le, tps, ni_0] at h0
      unfold ob_imax
      by_cases h3 : (0 : Int32) < nI p - nI s
      · rw [if_pos h3]
      · rw [if_neg h3]
        rw [ni_lt, tps, ni_0] at h3
        exact Int32.toInt_inj.mp (by rw [tps, ni_0]; omega)
    · rw [if_neg h0, if_neg h0]
      rw [ni_le, tps, ni_0] at h0
      have tn : (-(nI p - nI s)).toInt = (s : Int) - p := by rw [← en, tsp]
      have e0 : 0 - (nI p - nI s) = -(nI p - nI s) := by grind
      rw [e0]
      unfold ob_imax
      rw [if_pos (by rw [ni_lt, tn, ni_0]; omega)]
