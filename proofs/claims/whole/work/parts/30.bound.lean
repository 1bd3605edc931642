/-! bounds -/
def bd (x : Int64) (X : Nat) : Prop := 0 ≤ x.toInt ∧ x.toInt ≤ X
theorem sp_pw_n {S : Nat → Int32} (hW : sp_WF S) (i : Nat) : sp_pw S i = lN (sN S 1 ^ i) := by
  induction i with
  | zero => rfl
  | succ i ih =>
    show sp_pw S i * (S 1).toInt64 = _
    have h9 := hW.2.1.2.2
    rw [ih, wf_1 hW, nI_l (by omega), lN_mul, Nat.pow_succ]
theorem sp_wpos {S : Nat → Int32} (hW : sp_WF S) (i : Nat) : 1 ≤ sN S 1 ^ i := Nat.pow_pos (by have := hW.2.1.2.1; omega)
theorem sp_wle {S : Nat → Int32} (hW : sp_WF S) {i : Nat} (hi : i ≤ 12) : sN S 1 ^ i ≤ 282429536481 := by
  have h1 : sN S 1 ^ i ≤ 9 ^ i := Nat.pow_le_pow_left hW.2.1.2.2 i
  have h2 : 9 ^ i ≤ 9 ^ 12 := Nat.pow_le_pow_right (by omega) hi
  have h3 : (9 : Nat) ^ 12 = 282429536481 := by decide
  omega
theorem sp_pw_t {S : Nat → Int32} (hW : sp_WF S) {i : Nat} (hi : i ≤ 12) : (sp_pw S i).toInt = ((sN S 1 ^ i : Nat) : Int) := by
  have := sp_wle hW hi
  rw [sp_pw_n hW, pk_lT (by omega)]
theorem sp_sc_t {S : Nat → Int32} (hW : sp_WF S) (t : Nat) : (sp_sc S t).toInt = ((sN S 1 ^ (sN S 2 - t) : Nat) : Int) := by
  have := wf_12 hW
  exact sp_pw_t hW (by omega)
theorem sp_sc_pos {S : Nat → Int32} (hW : sp_WF S) (t : Nat) : 0 < (sp_sc S t).toInt := by
  rw [sp_sc_t hW]
  have := sp_wpos hW (sN S 2 - t)
  omega
theorem bd_mono {x : Int64} {X Y : Nat} (h : bd x X) (hXY : X ≤ Y) : bd x Y := ⟨h.1, by have := h.2; omega⟩
theorem bd_0 (X : Nat) : bd 0 X := ⟨Int.le_refl _, by show (0 : Int) ≤ X; omega⟩
theorem bd_mul {x y : Int64} {X Y : Nat} (hx : bd x X) (hy : bd y Y) (h : X * Y < 9223372036854775808) : bd (x * y) (X * Y) ∧ (x * y).toInt = x.toInt * y.toInt := by
  have h0 : 0 ≤ x.toInt * y.toInt := Int.mul_nonneg hx.1 hy.1
  have h1 : x.toInt * y.toInt ≤ (X : Int) * Y := Int.mul_le_mul hx.2 hy.2 hy.1 (by omega)
  have h2 : ((X * Y : Nat) : Int) = (X : Int) * Y := Int.natCast_mul X Y
  have e := nu_mul (x := x) (y := y) (by omega) (by omega)
  exact ⟨⟨by rw [e]; exact h0, by rw [e, h2]; exact h1⟩, e⟩
theorem bd_add {x y : Int64} {X Y : Nat} (hx : bd x X) (hy : bd y Y) (h : X + Y < 9223372036854775808) : bd (x + y) (X + Y) ∧ (x + y).toInt = x.toInt + y.toInt := by
  have h1 := hx.1; have h2 := hx.2; have h3 := hy.1; have h4 := hy.2
  have e := nu_add (x := x) (y := y) (by omega) (by omega)
  exact ⟨⟨by rw [e]; omega, by rw [e]; omega⟩, e⟩
theorem bd_nI {a X : Nat} (h : a ≤ X) (hX : X < 2147483648) : bd (nI a).toInt64 X := by
  have e : (nI a).toInt64.toInt = (a : Int) := by rw [Int32.toInt_toInt64, ni_of (by omega)]
  exact ⟨by rw [e]; omega, by rw [e]; omega⟩
theorem bd_sc {S : Nat → Int32} (hW : sp_WF S) (t : Nat) : bd (sp_sc S t) (sN S 1 ^ (sN S 2 - t)) := by
  unfold bd
  rw [sp_sc_t hW]
  omega
/-- held: exact, and within -/
theorem bd_hd {S : Nat → Int32} {R : Nat → Nat → Int64} {t j B : Nat} (hW : sp_WF S) (ht : t ≤ sN S 2) (hB : B ≤ 100000) (h : t < sN S 2 → bd (R (t + 1) (j + 1)) (B * sN S 1 ^ (sN S 2 - (t + 1))) ∧ bd (R (t + 1) j) (B * sN S 1 ^ (sN S 2 - (t + 1)))) :
    bd (sp_hd S R t j) (B * sN S 1 ^ (sN S 2 - t)) := by
  have h12 := wf_12 hW
  unfold sp_hd
  by_cases e : t = sN S 2
  · rw [if_pos e]
    exact bd_0 _
  · rw [if_neg e]
    obtain ⟨h1, h2⟩ := h (by omega)
    have hf := hW.2.2.2.2.2.1 (t + 1) (by omega) (by omega)
    have hw9 := hW.2.1.2.2
    have hwle := sp_wle hW (i := sN S 2 - (t + 1)) (by omega)
    have hp : sN S 1 ^ (sN S 2 - t) = sN S 1 * sN S 1 ^ (sN S 2 - (t + 1)) := by
      rw [show sN S 2 - t = (sN S 2 - (t + 1)) + 1 by omega, Nat.pow_succ, Nat.mul_comm]
    generalize hX : sN S 1 ^ (sN S 2 - (t + 1)) = X at *
    generalize hff : sN S (3 + (t + 1)) = f at *
    rw [hf.1, wf_1 hW, pk_sub (by omega)]
    have hBX : B * X ≤ 100000 * 282429536481 := Nat.mul_le_mul hB hwle
    have b1 := bd_mul (bd_nI (Nat.le_refl f) (by omega)) h1 (by
      have : f * (B * X) ≤ 9 * (100000 * 282429536481) := Nat.mul_le_mul (by omega) hBX
      omega)
    have b2 := bd_mul (bd_nI (Nat.le_refl (sN S 1 - f)) (by omega)) h2 (by
      have : (sN S 1 - f) * (B * X) ≤ 9 * (100000 * 282429536481) := Nat.mul_le_mul (by omega) hBX
      omega)
    have hsum : f * (B * X) + (sN S 1 - f) * (B * X) = B * (sN S 1 * X) := by
      rw [← Nat.add_mul, show f + (sN S 1 - f) = sN S 1 by omega, Nat.mul_left_comm]
    have b3 := bd_add b1.1 b2.1 (by
      rw [hsum]
      have : B * (sN S 1 * X) ≤ 100000 * (9 * 282429536481) := Nat.mul_le_mul hB (Nat.mul_le_mul hw9 hwle)
      omega)
    rw [hp, ← hsum]
    exact b3.1
theorem bd_kp {S : Nat → Int32} {k t B : Nat} {hd py : Int64} (hW : sp_WF S) (ho : sp_WO S k) (hB : B ≤ 100000) (h1 : bd hd (B * sN S 1 ^ (sN S 2 - t))) (h2 : bd py (B * sN S 1 ^ (sN S 2 - t))) :
    bd (sp_kp S k t hd py) (B * sN S 1 ^ (sN S 2 - t)) := by
  have h12 := wf_12 hW
  have hwle := sp_wle hW (i := sN S 2 - t) (by omega)
  unfold sp_kp
  by_cases c1 : sp_o S k 8 < 0
  · rw [if_pos c1]; exact h1
  rw [if_neg c1]
  by_cases c2 : hd ≤ py + (sp_o S k 8).toInt64 * sp_sc S t
  · rw [if_pos c2]; exact h1
  rw [if_neg c2]
  rcases ho.2.2.2.2.2.2.2.1 with e | ⟨e, e1, e2⟩
  · rw [e] at c1; exact absurd (by decide) c1
  have b0 := bd_sc hW t
  generalize sN S 1 ^ (sN S 2 - t) = X at *
  have hBX : B * X ≤ 100000 * 282429536481 := Nat.mul_le_mul hB hwle
  have b1 := bd_mul (x := (sp_o S k 8).toInt64) (X := 99) (by rw [e]; exact bd_nI e2 (by omega)) b0 (by omega)
  have b2 := bd_add h2 b1.1 (by omega)
  refine ⟨b2.1.1, ?_⟩
  have := Int64.not_le.mp c2
  rw [nu_lt] at this
  have := h1.2
  omega
theorem bd_dw {S : Nat → Int32} {k t B : Nat} {fr : Int32} {hd py : Int64} (hW : sp_WF S) (ho : sp_WO S k) (hB : B ≤ 100000) (h1 : bd hd (B * sN S 1 ^ (sN S 2 - t))) (h2 : bd py (B * sN S 1 ^ (sN S 2 - t))) :
    bd (sp_dw S k fr t hd py) (B * sN S 1 ^ (sN S 2 - t)) := by
  unfold sp_dw
  by_cases c : sp_ex S k fr t hd py = true
  · rw [if_pos c]; exact h2
  · rw [if_neg c]; exact bd_kp hW ho hB h1 h2
theorem bd_reb {S : Nat → Int32} {k t B : Nat} (hW : sp_WF S) (ho : sp_WO S k) (hB : 99 ≤ B) : bd ((sp_o S k 7).toInt64 * sp_sc S t) (B * sN S 1 ^ (sN S 2 - t)) := by
  have h12 := wf_12 hW
  have hwle := sp_wle hW (i := sN S 2 - t) (by omega)
  have b0 := bd_sc hW t
  generalize sN S 1 ^ (sN S 2 - t) = X at *
  have b1 := bd_mul (x := (sp_o S k 7).toInt64) (X := 99) (by rw [ho.2.2.2.2.2.2.1.1]; exact bd_nI ho.2.2.2.2.2.2.1.2 (by omega)) b0 (by omega)
  exact bd_mono b1.1 (Nat.mul_le_mul_right X hB)
theorem bd_pl {S : Nat → Int32} {k B : Nat} {fr : Int32} {P : Nat → Nat → Int64} (hW : sp_WF S) (ho : sp_WO S k) (hB : B ≤ 100000) (hP : ∀ t j, t ≤ sN S 2 → j ≤ t → bd (P t j) (B * sN S 1 ^ (sN S 2 - t))) :
    ∀ d t j, t + d = sN S 2 → j ≤ t → bd (sp_pl S k fr P t j) (B * sN S 1 ^ (sN S 2 - t)) := by
  intro d
  induction d with
  | zero =>
    intro t j ht hj
    rw [sp_pl_eq (by omega)]
    exact bd_dw hW ho hB (bd_hd hW (by omega) hB (fun h => by omega)) (hP t j (by omega) hj)
  | succ d ih =>
    intro t j ht hj
    rw [sp_pl_eq (by omega)]
    exact bd_dw hW ho hB (bd_hd hW (by omega) hB (fun h => ⟨ih (t + 1) (j + 1) (by omega) (by omega), ih (t + 1) j (by omega) (by omega)⟩)) (hP t j (by omega) hj)
theorem bd_vw {S : Nat → Int32} {k t j B : Nat} {fr : Int32} {pl hv py : Int64} (hW : sp_WF S) (ho : sp_WO S k) (hB : B ≤ 100000) (hB' : 99 ≤ B) (h0 : bd pl (B * sN S 1 ^ (sN S 2 - t))) (h1 : bd hv (B * sN S 1 ^ (sN S 2 - t))) (h2 : bd py (B * sN S 1 ^ (sN S 2 - t))) :
    bd (sp_vw S k fr t j pl hv py) (B * sN S 1 ^ (sN S 2 - t)) := by
  unfold sp_vw
  split
  · split
    · exact h0
    · exact h1
  · split
    · exact bd_reb hW ho hB'
    · exact bd_dw hW ho hB h1 h2
theorem bd_vl {S : Nat → Int32} {k B : Nat} {fr : Int32} {P : Nat → Nat → Int64} (hW : sp_WF S) (ho : sp_WO S k) (hB : B ≤ 100000) (hB' : 99 ≤ B) (hP : ∀ t j, t ≤ sN S 2 → j ≤ t → bd (P t j) (B * sN S 1 ^ (sN S 2 - t))) :
    ∀ d t j, t + d = sN S 2 → j ≤ t → bd (sp_vl S k fr P t j) (B * sN S 1 ^ (sN S 2 - t)) := by
  intro d
  induction d with
  | zero =>
    intro t j ht hj
    rw [sp_vl_eq (by omega)]
    exact bd_vw hW ho hB hB' (bd_pl hW ho hB hP 0 t j ht hj) (bd_hd hW (by omega) hB (fun h => by omega)) (hP t j (by omega) hj)
  | succ d ih =>
    intro t j ht hj
    rw [sp_vl_eq (by omega)]
    exact bd_vw hW ho hB hB' (bd_pl hW ho hB hP (d + 1) t j ht hj) (bd_hd hW (by omega) hB (fun h => ⟨ih (t + 1) (j + 1) (by omega) (by omega), ih (t + 1) j (by omega) (by omega)⟩)) (hP t j (by omega) hj)
theorem bd_ab0 {y : Int64} {X : Nat} (h : y.toInt ≤ X) : bd (sp_ab0 y) X := by
  unfold sp_ab0
  by_cases c : y ≤ 0
  · rw [if_pos c]; exact bd_0 X
  · rw [if_neg c]
    have := Int64.not_le.mp c
    rw [nu_lt, nu_0] at this
    exact ⟨by omega, h⟩
theorem bd_mulsc {S : Nat → Int32} {x : Int64} {B t : Nat} (hW : sp_WF S) (hB : B ≤ 100000) (h : bd x B) : bd (x * sp_sc S t) (B * sN S 1 ^ (sN S 2 - t)) := by
  have h12 := wf_12 hW
  have hwle := sp_wle hW (i := sN S 2 - t) (by omega)
  have b0 := bd_sc hW t
  generalize sN S 1 ^ (sN S 2 - t) = X at *
  have hBX : B * X ≤ 100000 * 282429536481 := Nat.mul_le_mul hB hwle
  exact (bd_mul h b0 (by omega)).1
theorem bd_pay {S : Nat → Int32} {V : Nat → Nat → Nat → Int64} {k s t j : Nat} (hW : sp_WF S) (ho : sp_WO S k) (hs : s ≤ 999) (hs3 : sp_o S k 0 = 3 → s < sN S (30 + 10 * k + 2)) (ht : t ≤ sN S 2) (hj : j ≤ t)
    (hV : ∀ q, q < k → bd (V q t j) (2394 * sN S 1 ^ (sN S 2 - t))) : bd (sp_pay S V k (nI s) t j) (2394 * sN S 1 ^ (sN S 2 - t)) := by
  have h12 := wf_12 hW
  have hpr := sp_pr_n hW (j := j) ht
  have hple := sp_prN_le hW (j := j) ht (by omega)
  have tp := ni_of (n := sp_prN S t j) (by omega)
  have ts := ni_of (n := s) (by omega)
  have tps : (nI (sp_prN S t j) - nI s).toInt = (sp_prN S t j : Int) - s := by rw [ni_sub (by omega) (by omega)]; omega
  have tn : (-(nI (sp_prN S t j) - nI s)).toInt = (s : Int) - sp_prN S t j := by rw [ni_neg (by omega), tps]; omega
  unfold sp_pay
  rw [hpr]
  by_cases c0 : sp_o S k 0 = 0
  · rw [if_pos c0]
    exact bd_mulsc hW (by omega) (bd_ab0 (by rw [Int32.toInt_toInt64, tps]; omega))
  rw [if_neg c0]
  by_cases c1 : sp_o S k 0 = 1
  · rw [if_pos c1]
    exact bd_mulsc hW (by omega) (bd_ab0 (by rw [Int32.toInt_toInt64, tn]; omega))
  rw [if_neg c1]
  by_cases c2 : sp_o S k 0 = 2
  · rw [if_pos c2]
    have hk2 : sN S (30 + 10 * k + 0) = 2 := (nI_eq (by have := ho.1.2; omega) (b := 2) (by omega)).mp (ho.1.1.symm.trans c2)
    obtain ⟨a1, a2, a3⟩ := ho.2.2.1.2.1 hk2
    split
    · exact bd_0 _
    · rw [a1]
      exact bd_mulsc hW (by omega) (bd_nI (by omega) (by omega))
  rw [if_neg c2]
  by_cases c3 : sp_o S k 0 = 3
  · rw [if_pos c3]
    have hk3 : sN S (30 + 10 * k + 0) = 3 := (nI_eq (by have := ho.1.2; omega) (b := 3) (by omega)).mp (ho.1.1.symm.trans c3)
    obtain ⟨a1, a2, a3⟩ := ho.2.2.1.2.2 hk3
    have hlt := hs3 c3
    have tm := ni_of (n := sN S (30 + 10 * k + 2)) (by omega)
    have tms : (nI (sN S (30 + 10 * k + 2)) - nI s).toInt = (sN S (30 + 10 * k + 2) : Int) - s := by rw [ni_sub (by omega) (by omega)]; omega
    refine bd_mulsc hW (by omega) ?_
    rw [a1]
    split
    · rename_i h0
      rw [ni_le, ni_0, tps] at h0
      split
      · exact ⟨by rw [Int32.toInt_toInt64, tms]; omega, by rw [Int32.toInt_toInt64, tms]; omega⟩
      · exact ⟨by rw [Int32.toInt_toInt64, tps]; omega, by rw [Int32.toInt_toInt64, tps]; omega⟩
    · exact bd_0 _
  rw [if_neg c3]
  by_cases c4 : sp_o S k 0 = 4
  · rw [if_pos c4]
    refine bd_mulsc hW (by omega) ?_
    split
    · rename_i h0
      rw [ni_le, ni_0, tps] at h0
      exact ⟨by rw [Int32.toInt_toInt64, tps]; omega, by rw [Int32.toInt_toInt64, tps]; omega⟩
    · rename_i h0
      rw [ni_le, ni_0, tps] at h0
      exact ⟨by rw [Int32.toInt_toInt64, tn]; omega, by rw [Int32.toInt_toInt64, tn]; omega⟩
  rw [if_neg c4]
  obtain ⟨e1, e2⟩ := ho.2.2.1.1 (wo_5 ho c0 c1 c2 c3 c4)
  have hv := hV _ e2
  have b1 := bd_mulsc (t := t) hW (B := 999) (by omega) (bd_nI hs (by omega))
  have hwle := sp_wle hW (i := sN S 2 - t) (by omega)
  refine bd_ab0 ?_
  generalize sN S 1 ^ (sN S 2 - t) = X at *
  have p1 := hv.1; have p2 := hv.2; have p3 := b1.1; have p4 := b1.2
  rw [nu_sub (by omega) (by omega)]
  omega
/-- all values of a bench are within -/
theorem sp_bd {S : Nat → Int32} (hW : sp_WF S) : ∀ m k, k < m → k < sN S 29 → (∀ t j, t ≤ sN S 2 → j ≤ t → bd (sp_P S k t j) (2394 * sN S 1 ^ (sN S 2 - t))) ∧ (∀ t j, t ≤ sN S 2 → j ≤ t → bd (sp_L S k t j) (2394 * sN S 1 ^ (sN S 2 - t))) ∧ (∀ t j, t ≤ sN S 2 → j ≤ t → bd (sp_V S k t j) (2394 * sN S 1 ^ (sN S 2 - t))) := by
  intro m
  induction m with
  | zero => intro k h; omega
  | succ m ih =>
    intro k h hk
    by_cases hm : k < m
    · exact ih k hm hk
    have ho := wf_o hW hk
    have hP : ∀ t j, t ≤ sN S 2 → j ≤ t → bd (sp_P S k t j) (2394 * sN S 1 ^ (sN S 2 - t)) := by
      intro t j ht hj
      unfold sp_P
      rw [ho.2.1.1]
      refine bd_pay hW ho ho.2.1.2 (fun e => ?_) ht hj (fun q hq => ?_)
      · have hk3 : sN S (30 + 10 * k + 0) = 3 := (nI_eq (by have := ho.1.2; omega) (b := 3) (by omega)).mp (ho.1.1.symm.trans e)
        exact (ho.2.2.1.2.2 hk3).2.1
      · rw [sp_Vs_lt hq]
        exact (ih q (by omega) (by omega)).2.2 t j ht hj
    exact ⟨hP, fun t j ht hj => bd_pl hW ho (by omega) hP (sN S 2 - t) t j (by omega) hj, fun t j ht hj => bd_vl hW ho (by omega) (by omega) hP (sN S 2 - t) t j (by omega) hj⟩
theorem bd_P {S : Nat → Int32} (hW : sp_WF S) {k t j : Nat} (hk : k < sN S 29) (ht : t ≤ sN S 2) (hj : j ≤ t) : bd (sp_P S k t j) (2394 * sN S 1 ^ (sN S 2 - t)) := (sp_bd hW (k + 1) k (by omega) hk).1 t j ht hj
theorem bd_L {S : Nat → Int32} (hW : sp_WF S) {k t j : Nat} (hk : k < sN S 29) (ht : t ≤ sN S 2) (hj : j ≤ t) : bd (sp_L S k t j) (2394 * sN S 1 ^ (sN S 2 - t)) := (sp_bd hW (k + 1) k (by omega) hk).2.1 t j ht hj
theorem bd_V {S : Nat → Int32} (hW : sp_WF S) {k t j : Nat} (hk : k < sN S 29) (ht : t ≤ sN S 2) (hj : j ≤ t) : bd (sp_V S k t j) (2394 * sN S 1 ^ (sN S 2 - t)) := (sp_bd hW (k + 1) k (by omega) hk).2.2 t j ht hj
