/-! the writer: what he gives, what he gains -/
def gv_i (S : Nat → Int32) (k t j : Nat) (i : Bool) : Bool := i || decide (sp_D S k t j = 3)
def sp_gv (S : Nat → Int32) (k : Nat) (e : Int32) (t j : Nat) (i : Bool) : Option Int64 :=
  if sp_D S k t j = 2 then some ((sp_o S k 7).toInt64 * sp_sc S t)
  else if sp_o S k 4 = 2 ∧ i = false then none
  else if nI t = e ∧ 0 < sp_P S k t j ∧ sp_may S (sp_o S k 3) t = true then some (sp_P S k t j)
  else if (if i = true then sp_E S k t j else sp_D S k t j) = 4 then some (sp_P S k t j + (sp_o S k 8).toInt64 * sp_sc S t) else none
def sp_gt (S : Nat → Int32) (k t j : Nat) (i u : Bool) : Int64 := sp_sb S (if i = true then sp_L S k else sp_V S k) t j * sp_pw S t * ((if u = true then S 1 else 0) - S (3 + (t + 1))).toInt64
def sp_G (S : Nat → Int32) (k : Nat) (e : Int32) : Nat → Nat → Nat → Bool → Nat → Int64
  | 0, t, j, i, _ => (sp_gv S k e t j (gv_i S k t j i)).elim 0 (fun v => -(v * sp_pw S t))
  | d + 1, t, j, i, q => (sp_gv S k e t j (gv_i S k t j i)).elim (sp_gt S k t j (gv_i S k t j i) (decide (q % 2 = 1)) + sp_G S k e d (t + 1) (if q % 2 = 1 then j + 1 else j) (gv_i S k t j i) (q / 2)) (fun v => -(v * sp_pw S t))
theorem sp_D_3 {S : Nat → Int32} {k t j : Nat} (h : sp_D S k t j = 3) : sp_o S k 4 = 2 := by
  have h : sp_vd S k (sp_o S k 3) t j (sp_hd S (sp_vl S k (sp_o S k 3) (sp_P S k)) t j) (sp_P S k t j) = 3 := h
  unfold sp_vd at h
  by_cases c : sp_o S k 4 = 2
  · exact c
  · rw [if_neg c] at h
    by_cases c2 : 0 < sp_o S k 4 ∧ sp_tch S k t j = true
    · rw [if_pos c2] at h
      exact absurd h (by decide)
    · rw [if_neg c2] at h
      rcases sp_dd_c (S := S) (k := k) (fr := sp_o S k 3) (t := t) (hd := sp_hd S (sp_vl S k (sp_o S k 3) (sp_P S k)) t j) (py := sp_P S k t j) with e | e | e <;> rw [e] at h <;> exact absurd h (by decide)
theorem sp_D_in {S : Nat → Int32} {k t j : Nat} (h : sp_o S k 4 = 2) : sp_D S k t j = 3 ∨ sp_D S k t j = 0 := by
  show sp_vd S k (sp_o S k 3) t j (sp_hd S (sp_vl S k (sp_o S k 3) (sp_P S k)) t j) (sp_P S k t j) = 3 ∨ sp_vd S k (sp_o S k 3) t j (sp_hd S (sp_vl S k (sp_o S k 3) (sp_P S k)) t j) (sp_P S k t j) = 0
  unfold sp_vd
  rw [if_pos h]
  split
  · exact Or.inl rfl
  · exact Or.inr rfl
theorem gv_in {S : Nat → Int32} {k t j : Nat} {i : Bool} (hi : i = true → sp_o S k 4 = 2) (h : gv_i S k t j i = true) : sp_o S k 4 = 2 := by
  unfold gv_i at h
  rcases (Bool.or_eq_true _ _).mp h with h | h
  · exact hi h
  · exact sp_D_3 (of_decide_eq_true h)
/-! bounds -/
def ab (x : Int64) (B : Nat) : Prop := -(B : Int) ≤ x.toInt ∧ x.toInt ≤ B
theorem ab_0 (B : Nat) : ab 0 B := ⟨by rw [nu_0]; omega, by rw [nu_0]; omega⟩
theorem ab_mono {x : Int64} {A B : Nat} (h : ab x A) (hAB : A ≤ B) : ab x B := ⟨by have := h.1; omega, by have := h.2; omega⟩
theorem ab_bd {x : Int64} {A : Nat} (h : bd x A) : ab x A := ⟨by have := h.1; omega, h.2⟩
theorem ab_add {x y : Int64} {A B : Nat} (hx : ab x A) (hy : ab y B) (h : A + B < 9223372036854775808) : ab (x + y) (A + B) ∧ (x + y).toInt = x.toInt + y.toInt := by
  obtain ⟨x1, x2⟩ := hx
  obtain ⟨y1, y2⟩ := hy
  have e : (x + y).toInt = x.toInt + y.toInt := nu_add (by omega) (by omega)
  exact ⟨⟨by omega, by omega⟩, e⟩
theorem ab_neg {x : Int64} {A : Nat} (hx : ab x A) (h : A < 9223372036854775808) : ab (-x) A ∧ (-x).toInt = -x.toInt := by
  obtain ⟨x1, x2⟩ := hx
  have e : (-x).toInt = -x.toInt := nu_neg (by omega)
  exact ⟨⟨by omega, by omega⟩, e⟩
theorem ab_mulI {x y A B : Int} (x1 : -A ≤ x) (x2 : x ≤ A) (y1 : -B ≤ y) (y2 : y ≤ B) : -(A * B) ≤ x * y ∧ x * y ≤ A * B := by
  have hA : 0 ≤ A := by omega
  have hB : 0 ≤ B := by omega
  rcases Int.le_total 0 y with h | h
  · have a1 : x * y ≤ A * y := Int.mul_le_mul_of_nonneg_right x2 h
    have a2 : A * y ≤ A * B := Int.mul_le_mul_of_nonneg_left y2 hA
    have a3 : -A * y ≤ x * y := Int.mul_le_mul_of_nonneg_right x1 h
    rw [Int.neg_mul] at a3
    omega
  · have a1 : x * (-y) ≤ A * (-y) := Int.mul_le_mul_of_nonneg_right x2 (by omega)
    have a2 : A * (-y) ≤ A * B := Int.mul_le_mul_of_nonneg_left (by omega) hA
    have a3 : -A * (-y) ≤ x * (-y) := Int.mul_le_mul_of_nonneg_right x1 (by omega)
    rw [Int.neg_mul] at a3
    rw [Int.mul_neg] at a1 a2 a3
    rw [Int.mul_neg] at a1 a3
    omega
theorem ab_mul {x y : Int64} {A B : Nat} (hx : ab x A) (hy : ab y B) (h : A * B < 9223372036854775808) : ab (x * y) (A * B) ∧ (x * y).toInt = x.toInt * y.toInt := by
  have hm := ab_mulI hx.1 hx.2 hy.1 hy.2
  have hc : ((A * B : Nat) : Int) = (A : Int) * B := Int.natCast_mul A B
  have hh : (A : Int) * B < 9223372036854775808 := by omega
  have e : (x * y).toInt = x.toInt * y.toInt := nu_mul (by omega) (by omega)
  unfold ab
  rw [e, hc]
  exact ⟨hm, rfl⟩
theorem bd_pwS {S : Nat → Int32} (hW : sp_WF S) {t : Nat} (ht : t ≤ 12) : bd (sp_pw S t) (sN S 1 ^ t) := by
  have := sp_pw_t hW ht
  exact ⟨by rw [this]; omega, by rw [this]; omega⟩
theorem sp_pwsc {S : Nat → Int32} (hW : sp_WF S) {t : Nat} (ht : t ≤ sN S 2) : sN S 1 ^ (sN S 2 - t) * sN S 1 ^ t = sN S 1 ^ sN S 2 := by rw [← Nat.pow_add, show sN S 2 - t + t = sN S 2 by omega]
theorem sp_scpw {S : Nat → Int32} (hW : sp_WF S) {t : Nat} (ht : t ≤ sN S 2) : sp_sc S t * sp_pw S t = sp_pw S (sN S 2) := by
  unfold sp_sc
  rw [sp_pw_n hW, sp_pw_n hW, sp_pw_n hW, lN_mul, sp_pwsc hW ht]
theorem gv_bd {S : Nat → Int32} {k t j : Nat} {e : Int32} {i : Bool} {v : Int64} (hW : sp_WF S) (hk : k < sN S 29) (ht : t ≤ sN S 2) (hj : j ≤ t) (h : sp_gv S k e t j i = some v) : bd v (2493 * sN S 1 ^ (sN S 2 - t)) := by
  have h12 := wf_12 hW
  have ho := wf_o hW hk
  have hP := bd_P hW hk ht hj
  have hw := sp_wle hW (i := sN S 2 - t) (by omega)
  have m1 : 2394 * sN S 1 ^ (sN S 2 - t) ≤ 2493 * sN S 1 ^ (sN S 2 - t) := Nat.mul_le_mul_right _ (by omega)
  unfold sp_gv at h
  by_cases c1 : sp_D S k t j = 2
  · rw [if_pos c1] at h
    rw [← Option.some.inj h]
    exact bd_reb hW ho (by omega)
  rw [if_neg c1] at h
  by_cases c2 : sp_o S k 4 = 2 ∧ i = false
  · rw [if_pos c2] at h
    exact absurd h (by intro q; cases q)
  rw [if_neg c2] at h
  by_cases c3 : nI t = e ∧ 0 < sp_P S k t j ∧ sp_may S (sp_o S k 3) t = true
  · rw [if_pos c3] at h
    rw [← Option.some.inj h]
    exact bd_mono hP m1
  rw [if_neg c3] at h
  by_cases c4 : (if i = true then sp_E S k t j else sp_D S k t j) = 4
  · rw [if_pos c4] at h
    rw [← Option.some.inj h]
    have hr8 : sp_o S k 8 = -1 ∨ bd ((sp_o S k 8).toInt64 * sp_sc S t) (99 * sN S 1 ^ (sN S 2 - t)) := by
      rcases ho.2.2.2.2.2.2.2.1 with q | q
      · exact Or.inl q
      · right
        rw [q.1]
        exact bd_mulsc hW (by omega) (bd_nI q.2.2 (by omega))
    rcases hr8 with q | q
    · exfalso
      have dz : ∀ hd py, ¬ sp_dd S k (sp_o S k 3) t hd py = 4 := by
        intro hd py z
        unfold sp_dd at z
        by_cases x1 : sp_ex S k (sp_o S k 3) t hd py = true
        · rw [if_pos x1] at z
          exact absurd z (by decide)
        · rw [if_neg x1] at z
          have kp : sp_kp S k t hd py = hd := by
            unfold sp_kp
            rw [q, if_pos (by decide)]
          rw [kp, if_pos (Int64.le_refl _)] at z
          exact absurd z (by decide)
      cases i with
      | true => exact dz _ _ c4
      | false =>
        have c4 : sp_vd S k (sp_o S k 3) t j (sp_hd S (sp_vl S k (sp_o S k 3) (sp_P S k)) t j) (sp_P S k t j) = 4 := c4
        unfold sp_vd at c4
        by_cases x1 : sp_o S k 4 = 2
        · exact c2 ⟨x1, rfl⟩
        · rw [if_neg x1] at c4
          by_cases x2 : 0 < sp_o S k 4 ∧ sp_tch S k t j = true
          · rw [if_pos x2] at c4
            exact absurd c4 (by decide)
          · rw [if_neg x2] at c4
            exact dz _ _ c4
    · have := (bd_add hP q (by omega)).1
      rw [← Nat.add_mul] at this
      exact this
  · rw [if_neg c4] at h
    exact absurd h (by intro q; cases q)
theorem gv_pw {S : Nat → Int32} {k t j : Nat} {e : Int32} {i : Bool} {v : Int64} (hW : sp_WF S) (hk : k < sN S 29) (ht : t ≤ sN S 2) (hj : j ≤ t) (h : sp_gv S k e t j i = some v) : ab (-(v * sp_pw S t)) 704096834447133 := by
  have h12 := wf_12 hW
  have h1 := gv_bd hW hk ht hj h
  have hw := sp_wle hW (i := sN S 2) h12
  have e1 : 2493 * sN S 1 ^ (sN S 2 - t) * sN S 1 ^ t = 2493 * sN S 1 ^ sN S 2 := by rw [Nat.mul_assoc, sp_pwsc hW ht]
  have h2 := (bd_mul h1 (bd_pwS hW (show t ≤ 12 by omega)) (by rw [e1]; omega)).1
  rw [e1] at h2
  exact (ab_neg (ab_mono (ab_bd h2) (by omega)) (by omega)).1
theorem gt_bd {S : Nat → Int32} {k t j : Nat} {i u : Bool} (hW : sp_WF S) (hk : k < sN S 29) (ht : t < sN S 2) (hj : j ≤ t) : ab (sp_gt S k t j i u) 676136310335514 := by
  have h12 := wf_12 hW
  have hf := hW.2.2.2.2.2.1 (t + 1) (by omega) (by omega)
  have hw1 := hW.2.1.2
  have hR : ∀ t j, t ≤ sN S 2 → j ≤ t → bd ((if i = true then sp_L S k else sp_V S k) t j) (2394 * sN S 1 ^ (sN S 2 - t)) := by
    intro t j a b
    cases i with
    | true => exact bd_L hW hk a b
    | false => exact bd_V hW hk a b
  have h1 := hR (t + 1) (j + 1) (by omega) (by omega)
  have h2 := hR (t + 1) j (by omega) (by omega)
  have hsb : ab (sp_sb S (if i = true then sp_L S k else sp_V S k) t j) (2394 * sN S 1 ^ (sN S 2 - (t + 1))) := by
    unfold sp_sb
    rw [if_neg (by omega)]
    have hw := sp_wle hW (i := sN S 2 - (t + 1)) (by omega)
    have a1 := h1.1; have a2 := h1.2; have a3 := h2.1; have a4 := h2.2
    unfold ab
    rw [nu_sub (by omega) (by omega)]
    omega
  have hw : sN S 1 ^ (sN S 2 - 1) ≤ 31381059609 := by
    have h1 : sN S 1 ^ (sN S 2 - 1) ≤ 9 ^ (sN S 2 - 1) := Nat.pow_le_pow_left hW.2.1.2.2 _
    have h2 : 9 ^ (sN S 2 - 1) ≤ 9 ^ 11 := Nat.pow_le_pow_right (by omega) (by omega)
    have h3 : (9 : Nat) ^ 11 = 31381059609 := by decide
    omega
  have e1 : 2394 * sN S 1 ^ (sN S 2 - (t + 1)) * sN S 1 ^ t = 2394 * sN S 1 ^ (sN S 2 - 1) := by
    rw [Nat.mul_assoc, ← Nat.pow_add, show sN S 2 - (t + 1) + t = sN S 2 - 1 by omega]
  have h3 := (ab_mul hsb (ab_bd (bd_pwS hW (show t ≤ 12 by omega))) (by rw [e1]; omega)).1
  rw [e1] at h3
  have h4 : ab ((if u = true then S 1 else 0) - S (3 + (t + 1))).toInt64 9 := by
    unfold ab
    rw [Int32.toInt_toInt64, hf.1]
    cases u with
    | true =>
      show _ ≤ (S 1 - _).toInt ∧ (S 1 - _).toInt ≤ _
      rw [wf_1 hW, ni_sub (by rw [ni_of (by omega), ni_of (by omega)]; omega) (by rw [ni_of (by omega), ni_of (by omega)]; omega), ni_of (by omega), ni_of (by omega)]
      omega
    | false =>
      show _ ≤ ((0 : Int32) - _).toInt ∧ ((0 : Int32) - _).toInt ≤ _
      rw [ni_sub (by rw [ni_0, ni_of (by omega)]; omega) (by rw [ni_0, ni_of (by omega)]; omega), ni_0, ni_of (by omega)]
      omega
  exact ab_mono (ab_mul h3 h4 (by omega)).1 (by omega)
theorem G_bd {S : Nat → Int32} {k : Nat} {e : Int32} (hW : sp_WF S) (hk : k < sN S 29) : ∀ d t j i q, t + d = sN S 2 → j ≤ t → ab (sp_G S k e d t j i q) (704096834447133 + d * 676136310335514) := by
  have h12 := wf_12 hW
  intro d
  induction d with
  | zero =>
    intro t j i q ht hj
    unfold sp_G
    cases h : sp_gv S k e t j (gv_i S k t j i) with
    | none => exact ab_0 _
    | some v => exact ab_mono (gv_pw hW hk (by omega) hj h) (by omega)
  | succ d ih =>
    intro t j i q ht hj
    unfold sp_G
    cases h : sp_gv S k e t j (gv_i S k t j i) with
    | none =>
      have h1 := gt_bd (i := gv_i S k t j i) (u := decide (q % 2 = 1)) hW hk (show t < sN S 2 by omega) hj
      have h2 := ih (t + 1) (if q % 2 = 1 then j + 1 else j) (gv_i S k t j i) (q / 2) (by omega) (by split <;> omega)
      exact ab_mono (ab_add h1 h2 (by omega)).1 (by omega)
    | some v => exact ab_mono (gv_pw hW hk (by omega) hj h) (by omega)
/-! the path that is richest: by nodes, backward -/
def sp_dp (S : Nat → Int32) (k : Nat) (e : Int32) : Nat → Nat → Nat → Bool → Int64 × Nat
  | 0, t, j, i => ((sp_gv S k e t j (gv_i S k t j i)).elim 0 (fun v => -(v * sp_pw S t)), 0)
  | d + 1, t, j, i => (sp_gv S k e t j (gv_i S k t j i)).elim
      (if (sp_dp S k e d (t + 1) j (gv_i S k t j i)).1 + sp_gt S k t j (gv_i S k t j i) false < (sp_dp S k e d (t + 1) (j + 1) (gv_i S k t j i)).1 + sp_gt S k t j (gv_i S k t j i) true ∨
          ((sp_dp S k e d (t + 1) (j + 1) (gv_i S k t j i)).1 + sp_gt S k t j (gv_i S k t j i) true = (sp_dp S k e d (t + 1) j (gv_i S k t j i)).1 + sp_gt S k t j (gv_i S k t j i) false ∧ (sp_dp S k e d (t + 1) (j + 1) (gv_i S k t j i)).2 * 2 + 1 < (sp_dp S k e d (t + 1) j (gv_i S k t j i)).2 * 2)
        then ((sp_dp S k e d (t + 1) (j + 1) (gv_i S k t j i)).1 + sp_gt S k t j (gv_i S k t j i) true, (sp_dp S k e d (t + 1) (j + 1) (gv_i S k t j i)).2 * 2 + 1)
        else ((sp_dp S k e d (t + 1) j (gv_i S k t j i)).1 + sp_gt S k t j (gv_i S k t j i) false, (sp_dp S k e d (t + 1) j (gv_i S k t j i)).2 * 2))
      (fun v => (-(v * sp_pw S t), 0))
/-- least number of the best -/
def sp_bst (F : Nat → Int64) (n : Nat) (m : Int64) (p : Nat) : Prop := p < n ∧ F p = m ∧ ∀ q, q < n → F q ≤ m ∧ (F q = m → p ≤ q)
theorem sp_bst_u {F : Nat → Int64} {n : Nat} {m m' : Int64} {p p' : Nat} (h : sp_bst F n m p) (h' : sp_bst F n m' p') : p = p' := by
  obtain ⟨a1, a2, a3⟩ := h
  obtain ⟨b1, b2, b3⟩ := h'
  have e : m = m' := Int64.le_antisymm (by rw [← a2]; exact (b3 p a1).1) (by rw [← b2]; exact (a3 p' b1).1)
  have h1 := (a3 p' b1).2 (b2.trans e.symm)
  have h2 := (b3 p a1).2 (a2.trans e)
  omega
theorem dp_best {S : Nat → Int32} {k : Nat} {e : Int32} (hW : sp_WF S) (hk : k < sN S 29) : ∀ d t j i, t + d = sN S 2 → j ≤ t → sp_bst (sp_G S k e d t j i) (2 ^ d) (sp_dp S k e d t j i).1 (sp_dp S k e d t j i).2 := by
  have h12 := wf_12 hW
  intro d
  induction d with
  | zero =>
    intro t j i ht hj
    refine ⟨by show 0 < 1; omega, rfl, fun q hq => ?_⟩
    exact ⟨Int64.le_refl _, fun _ => Nat.zero_le _⟩
  | succ d ih =>
    intro t j i ht hj
    cases h : sp_gv S k e t j (gv_i S k t j i) with
    | some v =>
      have hd : sp_dp S k e (d + 1) t j i = (-(v * sp_pw S t), 0) := by
        unfold sp_dp
        rw [h]
        rfl
      have hG : ∀ q, sp_G S k e (d + 1) t j i q = -(v * sp_pw S t) := by
        intro q
        unfold sp_G
        rw [h]
        rfl
      rw [hd]
      refine ⟨Nat.two_pow_pos _, hG 0, fun q hq => ?_⟩
      rw [hG q]
      exact ⟨Int64.le_refl _, fun _ => Nat.zero_le _⟩
    | none =>
      generalize hi : gv_i S k t j i = i' at h
      obtain ⟨u1, u2, u3⟩ := ih (t + 1) (j + 1) i' (by omega) (by omega)
      obtain ⟨w1, w2, w3⟩ := ih (t + 1) j i' (by omega) (by omega)
      have gu := gt_bd (i := i') (u := true) hW hk (show t < sN S 2 by omega) hj
      have gd := gt_bd (i := i') (u := false) hW hk (show t < sN S 2 by omega) hj
      have hGe : ∀ q, sp_G S k e (d + 1) t j i q = sp_gt S k t j i' (decide (q % 2 = 1)) + sp_G S k e d (t + 1) (if q % 2 = 1 then j + 1 else j) i' (q / 2) := by
        intro q
        conv => lhs; unfold sp_G
        rw [hi, h]
        rfl
      have hG1 : ∀ q, q % 2 = 1 → sp_G S k e (d + 1) t j i q = sp_gt S k t j i' true + sp_G S k e d (t + 1) (j + 1) i' (q / 2) := by
        intro q hq
        rw [hGe q, decide_eq_true hq, if_pos hq]
      have hG0 : ∀ q, ¬ q % 2 = 1 → sp_G S k e (d + 1) t j i q = sp_gt S k t j i' false + sp_G S k e d (t + 1) j i' (q / 2) := by
        intro q hq
        rw [hGe q, decide_eq_false hq, if_neg hq]
      have hd : sp_dp S k e (d + 1) t j i = (if (sp_dp S k e d (t + 1) j i').1 + sp_gt S k t j i' false < (sp_dp S k e d (t + 1) (j + 1) i').1 + sp_gt S k t j i' true ∨
          ((sp_dp S k e d (t + 1) (j + 1) i').1 + sp_gt S k t j i' true = (sp_dp S k e d (t + 1) j i').1 + sp_gt S k t j i' false ∧ (sp_dp S k e d (t + 1) (j + 1) i').2 * 2 + 1 < (sp_dp S k e d (t + 1) j i').2 * 2)
          then ((sp_dp S k e d (t + 1) (j + 1) i').1 + sp_gt S k t j i' true, (sp_dp S k e d (t + 1) (j + 1) i').2 * 2 + 1)
          else ((sp_dp S k e d (t + 1) j i').1 + sp_gt S k t j i' false, (sp_dp S k e d (t + 1) j i').2 * 2)) := by
        conv => lhs; unfold sp_dp
        rw [hi, h]
        rfl
      generalize hU : sp_dp S k e d (t + 1) (j + 1) i' = U at *
      generalize hV : sp_dp S k e d (t + 1) j i' = V at *
      have bG : ∀ j' q, j' ≤ t + 1 → ab (sp_G S k e d (t + 1) j' i' q) (704096834447133 + d * 676136310335514) := fun j' q hj' => G_bd hW hk d (t + 1) j' i' q (by omega) hj'
      have bU : ab U.1 (704096834447133 + d * 676136310335514) := by rw [← u2]; exact bG (j + 1) _ (by omega)
      have bV : ab V.1 (704096834447133 + d * 676136310335514) := by rw [← w2]; exact bG j _ (by omega)
      have eU := (ab_add bU gu (by omega)).2
      have eV := (ab_add bV gd (by omega)).2
      have tU : ∀ q, q % 2 = 1 → (sp_G S k e (d + 1) t j i q).toInt = (sp_gt S k t j i' true).toInt + (sp_G S k e d (t + 1) (j + 1) i' (q / 2)).toInt := by
        intro q hq
        rw [hG1 q hq]
        exact (ab_add gu (bG (j + 1) (q / 2) (by omega)) (by omega)).2
      have tV : ∀ q, ¬ q % 2 = 1 → (sp_G S k e (d + 1) t j i q).toInt = (sp_gt S k t j i' false).toInt + (sp_G S k e d (t + 1) j i' (q / 2)).toInt := by
        intro q hq
        rw [hG0 q hq]
        exact (ab_add gd (bG j (q / 2) (by omega)) (by omega)).2
      have hp : 2 ^ (d + 1) = 2 * 2 ^ d := by rw [Nat.pow_succ, Nat.mul_comm]
      have lU : ∀ q, q < 2 ^ (d + 1) → q % 2 = 1 → (sp_G S k e (d + 1) t j i q).toInt ≤ (U.1 + sp_gt S k t j i' true).toInt ∧ ((sp_G S k e (d + 1) t j i q).toInt = (U.1 + sp_gt S k t j i' true).toInt → U.2 * 2 + 1 ≤ q) := by
        intro q hq h1
        have z := u3 (q / 2) (by omega)
        have z1 := nu_le.mp z.1
        rw [tU q h1, eU]
        refine ⟨by omega, fun x => ?_⟩
        have : U.2 ≤ q / 2 := z.2 (Int64.toInt_inj.mp (by omega))
        omega
      have lV : ∀ q, q < 2 ^ (d + 1) → ¬ q % 2 = 1 → (sp_G S k e (d + 1) t j i q).toInt ≤ (V.1 + sp_gt S k t j i' false).toInt ∧ ((sp_G S k e (d + 1) t j i q).toInt = (V.1 + sp_gt S k t j i' false).toInt → V.2 * 2 ≤ q) := by
        intro q hq h1
        have z := w3 (q / 2) (by omega)
        have z1 := nu_le.mp z.1
        rw [tV q h1, eV]
        refine ⟨by omega, fun x => ?_⟩
        have : V.2 ≤ q / 2 := z.2 (Int64.toInt_inj.mp (by omega))
        omega
      rw [hd]
      by_cases c : V.1 + sp_gt S k t j i' false < U.1 + sp_gt S k t j i' true ∨ (U.1 + sp_gt S k t j i' true = V.1 + sp_gt S k t j i' false ∧ U.2 * 2 + 1 < V.2 * 2)
      · rw [if_pos c]
        have c' : (V.1 + sp_gt S k t j i' false).toInt < (U.1 + sp_gt S k t j i' true).toInt ∨ ((U.1 + sp_gt S k t j i' true).toInt = (V.1 + sp_gt S k t j i' false).toInt ∧ U.2 * 2 + 1 < V.2 * 2) := by
          rcases c with c | c
          · exact Or.inl (nu_lt.mp c)
          · exact Or.inr ⟨by rw [c.1], c.2⟩
        refine ⟨by show U.2 * 2 + 1 < _; omega, ?_, fun q hq => ?_⟩
        · show sp_G S k e (d + 1) t j i (U.2 * 2 + 1) = _
          rw [hG1 _ (by omega), show (U.2 * 2 + 1) / 2 = U.2 by omega, u2, Int64.add_comm]
        · show sp_G S k e (d + 1) t j i q ≤ U.1 + sp_gt S k t j i' true ∧ (sp_G S k e (d + 1) t j i q = U.1 + sp_gt S k t j i' true → U.2 * 2 + 1 ≤ q)
          by_cases h1 : q % 2 = 1
          · have z := lU q hq h1
            exact ⟨nu_le.mpr z.1, fun x => z.2 (by rw [x])⟩
          · have z := lV q hq h1
            refine ⟨nu_le.mpr (by omega), fun x => ?_⟩
            have x' : (sp_G S k e (d + 1) t j i q).toInt = (U.1 + sp_gt S k t j i' true).toInt := by rw [x]
            have := z.2 (by omega)
            omega
      · rw [if_neg c]
        have c1 : (U.1 + sp_gt S k t j i' true).toInt ≤ (V.1 + sp_gt S k t j i' false).toInt := by
          have : ¬ (V.1 + sp_gt S k t j i' false).toInt < (U.1 + sp_gt S k t j i' true).toInt := fun z => c (Or.inl (nu_lt.mpr z))
          omega
        have c2 : (U.1 + sp_gt S k t j i' true).toInt = (V.1 + sp_gt S k t j i' false).toInt → V.2 * 2 ≤ U.2 * 2 + 1 := fun z => by
          have : ¬ U.2 * 2 + 1 < V.2 * 2 := fun y => c (Or.inr ⟨Int64.toInt_inj.mp z, y⟩)
          omega
        refine ⟨by show V.2 * 2 < _; omega, ?_, fun q hq => ?_⟩
        · show sp_G S k e (d + 1) t j i (V.2 * 2) = _
          rw [hG0 _ (by omega), show V.2 * 2 / 2 = V.2 by omega, w2, Int64.add_comm]
        · show sp_G S k e (d + 1) t j i q ≤ V.1 + sp_gt S k t j i' false ∧ (sp_G S k e (d + 1) t j i q = V.1 + sp_gt S k t j i' false → V.2 * 2 ≤ q)
          by_cases h1 : q % 2 = 1
          · have z := lU q hq h1
            refine ⟨nu_le.mpr (by omega), fun x => ?_⟩
            have x' : (sp_G S k e (d + 1) t j i q).toInt = (V.1 + sp_gt S k t j i' false).toInt := by rw [x]
            have y1 := z.2 (by omega)
            have y2 := c2 (by omega)
            omega
          · have z := lV q hq h1
            exact ⟨nu_le.mpr z.1, fun x => z.2 (by rw [x])⟩
