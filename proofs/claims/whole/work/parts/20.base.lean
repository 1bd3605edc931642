/-! the pure side: reads and writes by numbers -/
theorem pu_lit (n : Nat) : (OfNat.ofNat n : Int32) = nI n := rfl
theorem pu_in {i N : Nat} (h : i < N) (hN : N < 2 ^ 31) : ob_in (nI i) N = true := ob_in_iff.mpr (vp_in_nI h hN)
theorem pu_ln (n : Nat) : ob_ln n ≤ 676 := by
  unfold ob_ln
  rw [List.getD_eq_getElem?_getD]
  cases h : ob_lns[n]? with
  | none => exact Nat.zero_le _
  | some v =>
    have h1 : ∀ v ∈ ob_lns, v ≤ 676 := by decide +kernel
    exact h1 v (List.mem_of_getElem? h)
theorem pu_rI {g : ob_St} {K n i : Nat} {x : Int32} (hk : ob_kd n = K) (hx : x = nI i) (hi : i < ob_ln n) : ob_rI g K n x = some (g.1 n i) := by
  have := pu_ln n
  unfold ob_rI
  rw [if_pos ⟨hk, by rw [hx]; exact pu_in hi (by omega)⟩, hx, nI_clamp (by omega)]
theorem pu_rL {g : ob_St} {n i : Nat} {x : Int32} (hk : ob_kd n = 15) (hx : x = nI i) (hi : i < ob_ln n) : ob_rL g n x = some (g.2 n i) := by
  have := pu_ln n
  unfold ob_rL
  rw [if_pos ⟨hk, by rw [hx]; exact pu_in hi (by omega)⟩, hx, nI_clamp (by omega)]
theorem pu_rR {K n i : Nat} {x : Int32} (hk : ob_kd n = K) (hx : x = nI i) (hi : i < ob_ln n) : ob_rR K n x = some (ob_rf n i) := by
  have := pu_ln n
  unfold ob_rR
  rw [if_pos ⟨hk, by rw [hx]; exact pu_in hi (by omega)⟩, hx, nI_clamp (by omega)]
theorem pu_rK {i : Nat} {x : Int32} (hx : x = nI i) (hi : i < 120) : ob_rK x = some (ob_kn i) := by
  unfold ob_rK
  rw [if_pos (by rw [hx]; exact pu_in hi (by omega)), hx, nI_clamp (by omega)]
theorem pu_wI {g : ob_St} {n i : Nat} {x v : Int32} (hk : ob_kd n = 14) (hx : x = nI i) (hi : i < ob_ln n) : ob_wI g n x v = some (ob_up g.1 n i v, g.2) := by
  have := pu_ln n
  unfold ob_wI
  rw [if_pos ⟨hk, by rw [hx]; exact pu_in hi (by omega)⟩, hx, nI_clamp (by omega)]
theorem pu_wB {g : ob_St} {n i : Nat} {x v : Int32} (hk : ob_kd n = 13) (hx : x = nI i) (hi : i < ob_ln n) : ob_wB g n x v = some (ob_up g.1 n i (vp_nar .byte v), g.2) := by
  have := pu_ln n
  unfold ob_wB
  rw [if_pos ⟨hk, by rw [hx]; exact pu_in hi (by omega)⟩, hx, nI_clamp (by omega)]
theorem pu_wZ {g : ob_St} {n i : Nat} {x v : Int32} (hk : ob_kd n = 16) (hx : x = nI i) (hi : i < ob_ln n) : ob_wZ g n x v = some (ob_up g.1 n i (vp_nar .boolean v), g.2) := by
  have := pu_ln n
  unfold ob_wZ
  rw [if_pos ⟨hk, by rw [hx]; exact pu_in hi (by omega)⟩, hx, nI_clamp (by omega)]
theorem pu_wL {g : ob_St} {n i : Nat} {x : Int32} {v : Int64} (hk : ob_kd n = 15) (hx : x = nI i) (hi : i < ob_ln n) : ob_wL g n x v = some (g.1, ob_upL g.2 n i v) := by
  have := pu_ln n
  unfold ob_wL
  rw [if_pos ⟨hk, by rw [hx]; exact pu_in hi (by omega)⟩, hx, nI_clamp (by omega)]
theorem pu_gI {g : ob_St} {K n k : Nat} (hk : ob_kd n = K) : ob_gI g K n k = some (g.1 n k) := if_pos hk
theorem pu_gR {K n k : Nat} (hk : ob_kd n = K) : ob_gR K n k = some (ob_rf n k) := if_pos hk
theorem pu_pI {g : ob_St} {K n k : Nat} {v : Int32} (hk : ob_kd n = K) : ob_pI g K n k v = some (ob_up g.1 n k v, g.2) := if_pos hk
theorem pu_pZ {g : ob_St} {K n k : Nat} {v : Int32} (hk : ob_kd n = K) (hv : v = 0 ∨ v = 1) : ob_pZ g K n k v = some (ob_up g.1 n k v, g.2) := if_pos ⟨hk, hv⟩
theorem pu_ck {α : Type} {K n : Nat} {x : Option α} (hk : ob_kd n = K) : ob_ck K n x = x := if_pos hk
theorem pu_zr {v : Int32} (hv : v = 0 ∨ v = 1) : ob_zr v = some v := if_pos hv
theorem pu_up_ne {f : Nat → Nat → Int32} {n k a : Nat} {v : Int32} (h : a ≠ n) : ob_up f n k v a = f a := if_neg h
theorem pu_up_eq {f : Nat → Nat → Int32} {n k : Nat} {v : Int32} : ob_up f n k v n = upd (f n) k v := if_pos rfl
theorem pu_upL_ne {f : Nat → Nat → Int64} {n k a : Nat} {v : Int64} (h : a ≠ n) : ob_upL f n k v a = f a := if_neg h
theorem pu_upL_eq {f : Nat → Nat → Int64} {n k : Nat} {v : Int64} : ob_upL f n k v n = vp_updL (f n) k v := if_pos rfl
theorem pu_upd_eq {f : Nat → Int32} {k : Nat} {v : Int32} : upd f k v k = v := if_pos rfl
theorem pu_upd_ne {f : Nat → Int32} {k j : Nat} {v : Int32} (h : j ≠ k) : upd f k v j = f j := if_neg h
theorem pu_updL_eq {f : Nat → Int64} {k : Nat} {v : Int64} : vp_updL f k v k = v := if_pos rfl
theorem pu_updL_ne {f : Nat → Int64} {k j : Nat} {v : Int64} (h : j ≠ k) : vp_updL f k v j = f j := if_neg h
/-- isIn(v, low, high) -/
theorem m_isIn {x a b : Int32} : f_X12_isIn x a b = some (if a ≤ x ∧ x ≤ b then 1 else 0) := by
  unfold f_X12_isIn
  by_cases h1 : x < a
  · rw [if_pos h1, if_neg (fun h => Int32.not_lt.mpr h.1 h1)]
  · rw [if_neg h1]
    by_cases h2 : b < x
    · rw [if_pos h2, if_neg (fun h => Int32.not_lt.mpr h.2 h2)]
    · rw [if_neg h2, if_pos ⟨Int32.not_lt.mp h1, Int32.not_lt.mp h2⟩]
theorem m_thrown {g : ob_St} : f_X12_thrown g 0 = some (g.1 0 0) := rfl
theorem m_get {g : ob_St} {k w : Nat} (h : 30 + 10 * k + w < 70) : f_X12_get g 0 (nI k) (nI w) = some (g.1 1 (30 + 10 * k + w)) := by
  show ((ob_rI g 14 1 ((30 + (10 * nI k)) + nI w)).bind fun v2 => some v2) = _
  rw [pu_rI (i := 30 + 10 * k + w) rfl (by rw [pu_lit, pu_lit, pk_mul, nI_add, nI_add]) h]
  rfl
