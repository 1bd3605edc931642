/-! the pure side: reads and writes by numbers -/
theorem pu_lit (n : Nat) : (OfNat.ofNat n : Int32) = nI n := rfl
theorem pu_in {i N : Nat} (h : i < N) (hN : N < 2 ^ 31) : ob_in (nI i) N = true := ob_in_iff.mpr (vp_in_nI h hN)
theorem pu_ln (n : Nat) : ob_ln n ≤ 676 := by
  unfold ob_ln
  rw [List.getD_eq_getElem?_getD]
  cases h : ob_lns[n]? with
  | none => exact Nat.zero_le _
  | some v =>
    have h1 : ∀ v ∈ ob_lns, v ≤ 676 := by decide +kernel
    exact h1 v (List.mem_of_getElem? h)
theorem pu_rI {g : ob_St} {K n i : Nat} {x : Int32} (hk : ob_kd n = K) (hx : x = nI i) (hi : i < ob_ln n) : ob_rI g K n x = some (g.1 n i) := by
  have := pu_ln n
  unfold ob_rI
  rw [if_pos ⟨hk, by rw [hx]; exact pu_in hi (by omega)⟩, hx, nI_clamp (by omega)]
theorem pu_rL {g : ob_St} {n i : Nat} {x : Int32} (hk : ob_kd n = 15) (hx : x = nI i) (hi : i < ob_ln n) : ob_rL g n x = some (g.2 n i) := by
  have := pu_ln n
  unfold ob_rL
  rw [if_pos ⟨hk, by rw [hx]; exact pu_in hi (by omega)⟩, hx, nI_clamp (by omega)]
theorem pu_rR {K n i : Nat} {x : Int32} (hk : ob_kd n = K) (hx : x = nI i) (hi : i < ob_ln n) : ob_rR K n x = some (ob_rf n i) := by
  have := pu_ln n
  unfold ob_rR
  rw [if_pos ⟨hk, by rw [hx]; exact pu_in hi (by omega)⟩, hx, nI_clamp (by omega)]
theorem pu_rK {i : Nat} {x : Int32} (hx : x = nI i) (hi : i < 120) : ob_rK x = some (ob_kn i) := by
  unfold ob_rK
  rw [if_pos (by rw [hx]; exact pu_in hi (by omega)), hx, nI_clamp (by omega)]
theorem pu_wI {g : ob_St} {n i : Nat} {x v : Int32} (hk : ob_kd n = 14) (hx : x = nI i) (hi : i < ob_ln n) : ob_wI g n x v = some (ob_up g.1 n i v, g.2) := by
  have := pu_ln n
  unfold ob_wI
  rw [if_pos ⟨hk, by rw [hx]; exact pu_in hi (by omega)⟩, hx, nI_clamp (by omega)]
theorem pu_wB {g : ob_St} {n i : Nat} {x v : Int32} (hk : ob_kd n = 13) (hx : x = nI i) (hi : i < ob_ln n) : ob_wB g n x v = some (ob_up g.1 n i (vp_nar .byte v), g.2) := by
  have := pu_ln n
  unfold ob_wB
  rw [if_pos ⟨hk, by rw [hx]; exact pu_in hi (by omega)⟩, hx, nI_clamp (by omega)]
theorem pu_wZ {g : ob_St} {n i : Nat} {x v : Int32} (hk : ob_kd n = 16) (hx : x = nI i) (hi : i < ob_ln n) : ob_wZ g n x v = some (ob_up g.1 n i (vp_nar .boolean v), g.2) := by
  have := pu_ln n
  unfold ob_wZ
  rw [if_pos ⟨hk, by rw [hx]; exact pu_in hi (by omega)⟩, hx, nI_clamp (by omega)]
theorem pu_wL {g : ob_St} {n i : Nat} {x : Int32} {v : Int64} (hk : ob_kd n = 15) (hx : x = nI i) (hi : i < ob_ln n) : ob_wL g n x v = some (g.1, ob_upL g.2 n i v) := by
  have := pu_ln n
  unfold ob_wL
  rw [if_pos ⟨hk, by rw [hx]; exact pu_in hi (by omega)⟩, hx, nI_clamp (by omega)]
theorem pu_gI {g : ob_St} {K n k : Nat} (hk : ob_kd n = K) : ob_gI g K n k = some (g.1 n k) := if_pos hk
theorem pu_gR {K n k : Nat} (hk : ob_kd n = K) : ob_gR K n k = some (ob_rf n k) := if_pos hk
theorem pu_pI {g : ob_St} {K n k : Nat} {v : Int32} (hk : ob_kd n = K) : ob_pI g K n k v = some (ob_up g.1 n k v, g.2) := if_pos hk
theorem pu_pZ {g : ob_St} {K n k : Nat} {v : Int32} (hk : ob_kd n = K) (hv : v = 0 ∨ v = 1) : ob_pZ g K n k v = some (ob_up g.1 n k v, g.2) := if_pos ⟨hk, hv⟩
theorem pu_ck {α : Type} {K n : Nat} {x : Option α} (hk : ob_kd n = K) : ob_ck K n x = x := if_pos hk
theorem pu_zr {v : Int32} (hv : v = 0 ∨ v = 1) : ob_zr v = some v := if_pos hv
theorem pu_up_ne {f : Nat → Nat → Int32} {n k a : Nat} {v : Int32} (h : a ≠ n) : ob_up f n k v a = f a := if_neg h
theorem pu_up_eq {f : Nat → Nat → Int32} {n k : Nat} {v : Int32} : ob_up f n k v n = upd (f n) k v := if_pos rfl
theorem pu_upL_ne {f : Nat → Nat → Int64} {n k a : Nat} {v : Int64} (h : a ≠ n) : ob_upL f n k v a = f a := if_neg h
theorem pu_upL_eq {f : Nat → Nat → Int64} {n k : Nat} {v : Int64} : ob_upL f n k v n = vp_updL (f n) k v := if_pos rfl
theorem pu_upd_eq {f : Nat → Int32} {k : Nat} {v : Int32} : upd f k v k = v := if_pos rfl
theorem pu_upd_ne {f : Nat → Int32} {k j : Nat} {v : Int32} (h : j ≠ k) : upd f k v j = f j := if_neg h
theorem pu_updL_eq {f : Nat → Int64} {k : Nat} {v : Int64} : vp_updL f k v k = v := if_pos rfl
theorem pu_updL_ne {f : Nat → Int64} {k j : Nat} {v : Int64} (h : j ≠ k) : vp_updL f k v j = f j := if_neg h
theorem pu_add (a b : Nat) : no_index (OfNat.ofNat a : Int32) + nI b = nI ((OfNat.ofNat a : Nat) + b) := nI_add a b
theorem pu_addr (a b : Nat) : nI a + no_index (OfNat.ofNat b : Int32) = nI (a + (OfNat.ofNat b : Nat)) := nI_add a b
theorem pu_mul (a b : Nat) : no_index (OfNat.ofNat a : Int32) * nI b = nI ((OfNat.ofNat a : Nat) * b) := pk_mul a b
theorem pu_pred (a : Nat) : nI (a + 1) + (-1) = nI a := pk_m1 a
/-- a loop that counts up: at each place it goes on with a next state, at its end it answers -/
theorem pu_up {σ τ : Type} (L : Nat → σ → Nat → Option τ) (I : Nat → σ → Prop) (e : Nat) (Q : τ → Prop)
    (hx : ∀ n s, I e s → ∃ r, L (n + 1) s e = some r ∧ Q r)
    (hs : ∀ n i s, i < e → I i s → ∃ s', I (i + 1) s' ∧ L (n + 1) s i = L n s' (i + 1)) :
    ∀ (d i fuel : Nat) (s : σ), i + d = e → d < fuel → I i s → ∃ r, L fuel s i = some r ∧ Q r := by
  intro d
  induction d with
  | zero =>
    intro i fuel s hi hf hI
    obtain ⟨n, rfl⟩ : ∃ n, fuel = n + 1 := ⟨fuel - 1, by omega⟩
    have : i = e := by omega
    subst this
    exact hx n s hI
  | succ d ih =>
    intro i fuel s hi hf hI
    obtain ⟨n, rfl⟩ : ∃ n, fuel = n + 1 := ⟨fuel - 1, by omega⟩
    obtain ⟨s', h1, h2⟩ := hs n i s (by omega) hI
    rw [h2]
    exact ih (i + 1) n s' (by omega) (by omega) h1
/-- a loop that counts down to 0, and ends behind it -/
theorem pu_dn {σ τ : Type} (L : Nat → σ → Nat → Option τ) (X : Nat → σ → Option τ) (I : Nat → σ → Prop) (Q : τ → Prop)
    (hx : ∀ n s, I 0 s → ∃ r, X (n + 1) s = some r ∧ Q r)
    (h0 : ∀ n s, I 1 s → ∃ s', I 0 s' ∧ L (n + 1) s 0 = X n s')
    (hs : ∀ n i s, I (i + 2) s → ∃ s', I (i + 1) s' ∧ L (n + 1) s (i + 1) = L n s' i) :
    ∀ (i fuel : Nat) (s : σ), i + 1 < fuel → I (i + 1) s → ∃ r, L fuel s i = some r ∧ Q r := by
  intro i
  induction i with
  | zero =>
    intro fuel s hf hI
    obtain ⟨n, rfl⟩ : ∃ n, fuel = n + 2 := ⟨fuel - 2, by omega⟩
    obtain ⟨s', h1, h2⟩ := h0 (n + 1) s hI
    rw [h2]
    exact hx n s' h1
  | succ i ih =>
    intro fuel s hf hI
    obtain ⟨n, rfl⟩ : ∃ n, fuel = n + 1 := ⟨fuel - 1, by omega⟩
    obtain ⟨s', h1, h2⟩ := hs n i s hI
    rw [h2]
    exact ih n s' (by omega) h1
theorem ev_ck0 {α : Type} {x : Option α} : ob_ck 12 0 x = x := rfl
theorem ev_g0 {g : ob_St} {k : Nat} : ob_gI g 12 0 k = some (g.1 0 k) := rfl
theorem ev_p0 {g : ob_St} {k : Nat} {v : Int32} : ob_pI g 12 0 k v = some (ob_up g.1 0 k v, g.2) := rfl
theorem ev_r0_1 : ob_gR 12 0 1 = some 1 := rfl
theorem ev_r0_2 : ob_gR 12 0 2 = some 2 := rfl
theorem ev_r0_3 : ob_gR 12 0 3 = some 3 := rfl
theorem ev_r0_4 : ob_gR 12 0 4 = some 4 := rfl
theorem ev_r0_5 : ob_gR 12 0 5 = some 5 := rfl
theorem ev_r0_7 : ob_gR 12 0 7 = some 6 := rfl
theorem ev_r0_17 : ob_gR 12 0 17 = some 7 := rfl
theorem ev_r0_18 : ob_gR 12 0 18 = some 8 := rfl
theorem ev_r0_20 : ob_gR 12 0 20 = some 9 := rfl
theorem ev_r0_21 : ob_gR 12 0 21 = some 10 := rfl
theorem ev_r0_22 : ob_gR 12 0 22 = some 11 := rfl
theorem ev_r0_23 : ob_gR 12 0 23 = some 12 := rfl
theorem ev_r0_24 : ob_gR 12 0 24 = some 13 := rfl
theorem ev_r0_25 : ob_gR 12 0 25 = some 14 := rfl
theorem ev_r0_26 : ob_gR 12 0 26 = some 15 := rfl
theorem ev_r0_27 : ob_gR 12 0 27 = some 16 := rfl
theorem ev_r0_28 : ob_gR 12 0 28 = some 17 := rfl
theorem ev_r0_29 : ob_gR 12 0 29 = some 18 := rfl
theorem ev_a1 {g : ob_St} {i : Nat} (h : i < 70) : ob_rI g 14 1 (nI i) = some (g.1 1 i) := pu_rI (n := 1) rfl rfl h
theorem ev_l1 {g : ob_St} {i : Nat} (h : (OfNat.ofNat i : Nat) < 70) : ob_rI g 14 1 (no_index (OfNat.ofNat i)) = some (g.1 1 (OfNat.ofNat i : Nat)) := pu_rI (n := 1) rfl rfl h
theorem ev_w1 {g : ob_St} {i : Nat} {v : Int32} (h : i < 70) : ob_wI g 1 (nI i) v = some (ob_up g.1 1 i v, g.2) := pu_wI (n := 1) rfl rfl h
theorem ev_a2 {g : ob_St} {i : Nat} (h : i < 70) : ob_rI g 14 2 (nI i) = some (g.1 2 i) := pu_rI (n := 2) rfl rfl h
theorem ev_l2 {g : ob_St} {i : Nat} (h : (OfNat.ofNat i : Nat) < 70) : ob_rI g 14 2 (no_index (OfNat.ofNat i)) = some (g.1 2 (OfNat.ofNat i : Nat)) := pu_rI (n := 2) rfl rfl h
theorem ev_w2 {g : ob_St} {i : Nat} {v : Int32} (h : i < 70) : ob_wI g 2 (nI i) v = some (ob_up g.1 2 i v, g.2) := pu_wI (n := 2) rfl rfl h
theorem ev_a3 {g : ob_St} {i : Nat} (h : i < 140) : ob_rI g 14 3 (nI i) = some (g.1 3 i) := pu_rI (n := 3) rfl rfl h
theorem ev_l3 {g : ob_St} {i : Nat} (h : (OfNat.ofNat i : Nat) < 140) : ob_rI g 14 3 (no_index (OfNat.ofNat i)) = some (g.1 3 (OfNat.ofNat i : Nat)) := pu_rI (n := 3) rfl rfl h
theorem ev_w3 {g : ob_St} {i : Nat} {v : Int32} (h : i < 140) : ob_wI g 3 (nI i) v = some (ob_up g.1 3 i v, g.2) := pu_wI (n := 3) rfl rfl h
theorem ev_a4 {g : ob_St} {i : Nat} (h : i < 560) : ob_rI g 14 4 (nI i) = some (g.1 4 i) := pu_rI (n := 4) rfl rfl h
theorem ev_l4 {g : ob_St} {i : Nat} (h : (OfNat.ofNat i : Nat) < 560) : ob_rI g 14 4 (no_index (OfNat.ofNat i)) = some (g.1 4 (OfNat.ofNat i : Nat)) := pu_rI (n := 4) rfl rfl h
theorem ev_w4 {g : ob_St} {i : Nat} {v : Int32} (h : i < 560) : ob_wI g 4 (nI i) v = some (ob_up g.1 4 i v, g.2) := pu_wI (n := 4) rfl rfl h
theorem ev_a5 {g : ob_St} {i : Nat} (h : i < 2) : ob_rI g 16 5 (nI i) = some (g.1 5 i) := pu_rI (n := 5) rfl rfl h
theorem ev_l5 {g : ob_St} {i : Nat} (h : (OfNat.ofNat i : Nat) < 2) : ob_rI g 16 5 (no_index (OfNat.ofNat i)) = some (g.1 5 (OfNat.ofNat i : Nat)) := pu_rI (n := 5) rfl rfl h
theorem ev_a6 {g : ob_St} {i : Nat} (h : i < 540) : ob_rI g 13 6 (nI i) = some (g.1 6 i) := pu_rI (n := 6) rfl rfl h
theorem ev_l6 {g : ob_St} {i : Nat} (h : (OfNat.ofNat i : Nat) < 540) : ob_rI g 13 6 (no_index (OfNat.ofNat i)) = some (g.1 6 (OfNat.ofNat i : Nat)) := pu_rI (n := 6) rfl rfl h
theorem ev_w6 {g : ob_St} {i : Nat} {v : Int32} (h : i < 540) : ob_wB g 6 (nI i) v = some (ob_up g.1 6 i (vp_nar .byte v), g.2) := pu_wB (n := 6) rfl rfl h
theorem ev_a7 {g : ob_St} {i : Nat} (h : i < 8) : ob_rI g 13 7 (nI i) = some (g.1 7 i) := pu_rI (n := 7) rfl rfl h
theorem ev_l7 {g : ob_St} {i : Nat} (h : (OfNat.ofNat i : Nat) < 8) : ob_rI g 13 7 (no_index (OfNat.ofNat i)) = some (g.1 7 (OfNat.ofNat i : Nat)) := pu_rI (n := 7) rfl rfl h
theorem ev_w7 {g : ob_St} {i : Nat} {v : Int32} (h : i < 8) : ob_wB g 7 (nI i) v = some (ob_up g.1 7 i (vp_nar .byte v), g.2) := pu_wB (n := 7) rfl rfl h
theorem ev_a8 {g : ob_St} {i : Nat} (h : i < 32) : ob_rI g 13 8 (nI i) = some (g.1 8 i) := pu_rI (n := 8) rfl rfl h
theorem ev_l8 {g : ob_St} {i : Nat} (h : (OfNat.ofNat i : Nat) < 32) : ob_rI g 13 8 (no_index (OfNat.ofNat i)) = some (g.1 8 (OfNat.ofNat i : Nat)) := pu_rI (n := 8) rfl rfl h
theorem ev_w8 {g : ob_St} {i : Nat} {v : Int32} (h : i < 32) : ob_wB g 8 (nI i) v = some (ob_up g.1 8 i (vp_nar .byte v), g.2) := pu_wB (n := 8) rfl rfl h
theorem ev_a9 {g : ob_St} {i : Nat} (h : i < 676) : ob_rL g 9 (nI i) = some (g.2 9 i) := pu_rL (n := 9) rfl rfl h
theorem ev_w9 {g : ob_St} {i : Nat} {v : Int64} (h : i < 676) : ob_wL g 9 (nI i) v = some (g.1, ob_upL g.2 9 i v) := pu_wL (n := 9) rfl rfl h
theorem ev_a10 {g : ob_St} {i : Nat} (h : i < 676) : ob_rL g 10 (nI i) = some (g.2 10 i) := pu_rL (n := 10) rfl rfl h
theorem ev_w10 {g : ob_St} {i : Nat} {v : Int64} (h : i < 676) : ob_wL g 10 (nI i) v = some (g.1, ob_upL g.2 10 i v) := pu_wL (n := 10) rfl rfl h
theorem ev_a11 {g : ob_St} {i : Nat} (h : i < 14) : ob_rL g 11 (nI i) = some (g.2 11 i) := pu_rL (n := 11) rfl rfl h
theorem ev_w11 {g : ob_St} {i : Nat} {v : Int64} (h : i < 14) : ob_wL g 11 (nI i) v = some (g.1, ob_upL g.2 11 i v) := pu_wL (n := 11) rfl rfl h
theorem ev_a12 {g : ob_St} {i : Nat} (h : i < 676) : ob_rI g 13 12 (nI i) = some (g.1 12 i) := pu_rI (n := 12) rfl rfl h
theorem ev_l12 {g : ob_St} {i : Nat} (h : (OfNat.ofNat i : Nat) < 676) : ob_rI g 13 12 (no_index (OfNat.ofNat i)) = some (g.1 12 (OfNat.ofNat i : Nat)) := pu_rI (n := 12) rfl rfl h
theorem ev_w12 {g : ob_St} {i : Nat} {v : Int32} (h : i < 676) : ob_wB g 12 (nI i) v = some (ob_up g.1 12 i (vp_nar .byte v), g.2) := pu_wB (n := 12) rfl rfl h
theorem ev_a13 {g : ob_St} {i : Nat} (h : i < 676) : ob_rI g 13 13 (nI i) = some (g.1 13 i) := pu_rI (n := 13) rfl rfl h
theorem ev_l13 {g : ob_St} {i : Nat} (h : (OfNat.ofNat i : Nat) < 676) : ob_rI g 13 13 (no_index (OfNat.ofNat i)) = some (g.1 13 (OfNat.ofNat i : Nat)) := pu_rI (n := 13) rfl rfl h
theorem ev_w13 {g : ob_St} {i : Nat} {v : Int32} (h : i < 676) : ob_wB g 13 (nI i) v = some (ob_up g.1 13 i (vp_nar .byte v), g.2) := pu_wB (n := 13) rfl rfl h
theorem ev_a14 {g : ob_St} {i : Nat} (h : i < 338) : ob_rL g 14 (nI i) = some (g.2 14 i) := pu_rL (n := 14) rfl rfl h
theorem ev_w14 {g : ob_St} {i : Nat} {v : Int64} (h : i < 338) : ob_wL g 14 (nI i) v = some (g.1, ob_upL g.2 14 i v) := pu_wL (n := 14) rfl rfl h
theorem ev_a15 {g : ob_St} {i : Nat} (h : i < 338) : ob_rL g 15 (nI i) = some (g.2 15 i) := pu_rL (n := 15) rfl rfl h
theorem ev_w15 {g : ob_St} {i : Nat} {v : Int64} (h : i < 338) : ob_wL g 15 (nI i) v = some (g.1, ob_upL g.2 15 i v) := pu_wL (n := 15) rfl rfl h
theorem ev_a16 {g : ob_St} {i : Nat} (h : i < 52) : ob_rL g 16 (nI i) = some (g.2 16 i) := pu_rL (n := 16) rfl rfl h
theorem ev_w16 {g : ob_St} {i : Nat} {v : Int64} (h : i < 52) : ob_wL g 16 (nI i) v = some (g.1, ob_upL g.2 16 i v) := pu_wL (n := 16) rfl rfl h
theorem ev_a17 {g : ob_St} {i : Nat} (h : i < 169) : ob_rL g 17 (nI i) = some (g.2 17 i) := pu_rL (n := 17) rfl rfl h
theorem ev_w17 {g : ob_St} {i : Nat} {v : Int64} (h : i < 169) : ob_wL g 17 (nI i) v = some (g.1, ob_upL g.2 17 i v) := pu_wL (n := 17) rfl rfl h
theorem ev_a18 {g : ob_St} {i : Nat} (h : i < 169) : ob_rL g 18 (nI i) = some (g.2 18 i) := pu_rL (n := 18) rfl rfl h
theorem ev_w18 {g : ob_St} {i : Nat} {v : Int64} (h : i < 169) : ob_wL g 18 (nI i) v = some (g.1, ob_upL g.2 18 i v) := pu_wL (n := 18) rfl rfl h
theorem ev_ck20 {α : Type} {x : Option α} : ob_ck 11 20 x = x := rfl
theorem ev_g20 {g : ob_St} {k : Nat} : ob_gI g 11 20 k = some (g.1 20 k) := rfl
theorem ev_p20 {g : ob_St} {k : Nat} {v : Int32} : ob_pI g 11 20 k v = some (ob_up g.1 20 k v, g.2) := rfl
theorem ev_r20_0 : ob_gR 11 20 0 = some 21 := rfl
theorem ev_r20_3 : ob_gR 11 20 3 = some 24 := rfl
theorem ev_r20_4 : ob_gR 11 20 4 = some 22 := rfl
theorem ev_r20_5 : ob_gR 11 20 5 = some 23 := rfl
theorem ev_r20_6 : ob_gR 11 20 6 = some 56 := rfl
theorem ev_r20_7 : ob_gR 11 20 7 = some 63 := rfl
theorem ev_r20_8 : ob_gR 11 20 8 = some 67 := rfl
theorem ev_r20_9 : ob_gR 11 20 9 = some 112 := rfl
theorem ev_r20_10 : ob_gR 11 20 10 = some 115 := rfl
theorem ev_r20_11 : ob_gR 11 20 11 = some 122 := rfl
theorem ev_a21 {g : ob_St} {i : Nat} (h : i < 540) : ob_rI g 13 21 (nI i) = some (g.1 21 i) := pu_rI (n := 21) rfl rfl h
theorem ev_l21 {g : ob_St} {i : Nat} (h : (OfNat.ofNat i : Nat) < 540) : ob_rI g 13 21 (no_index (OfNat.ofNat i)) = some (g.1 21 (OfNat.ofNat i : Nat)) := pu_rI (n := 21) rfl rfl h
theorem ev_w21 {g : ob_St} {i : Nat} {v : Int32} (h : i < 540) : ob_wB g 21 (nI i) v = some (ob_up g.1 21 i (vp_nar .byte v), g.2) := pu_wB (n := 21) rfl rfl h
theorem ev_q22_0 : ob_rR 18 22 (nI 0) = some 40 := rfl
theorem ev_q22_1 : ob_rR 18 22 (nI 1) = some 48 := rfl
theorem ev_a23 {g : ob_St} {i : Nat} (h : i < 2) : ob_rI g 16 23 (nI i) = some (g.1 23 i) := pu_rI (n := 23) rfl rfl h
theorem ev_l23 {g : ob_St} {i : Nat} (h : (OfNat.ofNat i : Nat) < 2) : ob_rI g 16 23 (no_index (OfNat.ofNat i)) = some (g.1 23 (OfNat.ofNat i : Nat)) := pu_rI (n := 23) rfl rfl h
theorem ev_ck24 {α : Type} {x : Option α} : ob_ck 5 24 x = x := rfl
theorem ev_g24 {g : ob_St} {k : Nat} : ob_gI g 5 24 k = some (g.1 24 k) := rfl
theorem ev_p24 {g : ob_St} {k : Nat} {v : Int32} : ob_pI g 5 24 k v = some (ob_up g.1 24 k v, g.2) := rfl
theorem ev_r24_0 : ob_gR 5 24 0 = some 25 := rfl
theorem ev_r24_1 : ob_gR 5 24 1 = some 26 := rfl
theorem ev_r24_2 : ob_gR 5 24 2 = some 27 := rfl
theorem ev_a25 {g : ob_St} {i : Nat} (h : i < 13) : ob_rI g 14 25 (nI i) = some (g.1 25 i) := pu_rI (n := 25) rfl rfl h
theorem ev_l25 {g : ob_St} {i : Nat} (h : (OfNat.ofNat i : Nat) < 13) : ob_rI g 14 25 (no_index (OfNat.ofNat i)) = some (g.1 25 (OfNat.ofNat i : Nat)) := pu_rI (n := 25) rfl rfl h
theorem ev_w25 {g : ob_St} {i : Nat} {v : Int32} (h : i < 13) : ob_wI g 25 (nI i) v = some (ob_up g.1 25 i v, g.2) := pu_wI (n := 25) rfl rfl h
theorem ev_a26 {g : ob_St} {i : Nat} (h : i < 13) : ob_rI g 14 26 (nI i) = some (g.1 26 i) := pu_rI (n := 26) rfl rfl h
theorem ev_l26 {g : ob_St} {i : Nat} (h : (OfNat.ofNat i : Nat) < 13) : ob_rI g 14 26 (no_index (OfNat.ofNat i)) = some (g.1 26 (OfNat.ofNat i : Nat)) := pu_rI (n := 26) rfl rfl h
theorem ev_w26 {g : ob_St} {i : Nat} {v : Int32} (h : i < 13) : ob_wI g 26 (nI i) v = some (ob_up g.1 26 i v, g.2) := pu_wI (n := 26) rfl rfl h
theorem ev_q27_0 : ob_rR 17 27 (nI 0) = some 28 := rfl
theorem ev_q27_1 : ob_rR 17 27 (nI 1) = some 29 := rfl
theorem ev_q27_2 : ob_rR 17 27 (nI 2) = some 30 := rfl
theorem ev_q27_3 : ob_rR 17 27 (nI 3) = some 31 := rfl
theorem ev_ck28 {α : Type} {x : Option α} : ob_ck 1 28 x = x := rfl
theorem ev_g28 {g : ob_St} {k : Nat} : ob_gI g 1 28 k = some (g.1 28 k) := rfl
theorem ev_p28 {g : ob_St} {k : Nat} {v : Int32} : ob_pI g 1 28 k v = some (ob_up g.1 28 k v, g.2) := rfl
theorem ev_ck29 {α : Type} {x : Option α} : ob_ck 1 29 x = x := rfl
theorem ev_g29 {g : ob_St} {k : Nat} : ob_gI g 1 29 k = some (g.1 29 k) := rfl
theorem ev_p29 {g : ob_St} {k : Nat} {v : Int32} : ob_pI g 1 29 k v = some (ob_up g.1 29 k v, g.2) := rfl
theorem ev_ck30 {α : Type} {x : Option α} : ob_ck 1 30 x = x := rfl
theorem ev_g30 {g : ob_St} {k : Nat} : ob_gI g 1 30 k = some (g.1 30 k) := rfl
theorem ev_p30 {g : ob_St} {k : Nat} {v : Int32} : ob_pI g 1 30 k v = some (ob_up g.1 30 k v, g.2) := rfl
theorem ev_ck31 {α : Type} {x : Option α} : ob_ck 1 31 x = x := rfl
theorem ev_g31 {g : ob_St} {k : Nat} : ob_gI g 1 31 k = some (g.1 31 k) := rfl
theorem ev_p31 {g : ob_St} {k : Nat} {v : Int32} : ob_pI g 1 31 k v = some (ob_up g.1 31 k v, g.2) := rfl
theorem ev_ck32 {α : Type} {x : Option α} : ob_ck 5 32 x = x := rfl
theorem ev_g32 {g : ob_St} {k : Nat} : ob_gI g 5 32 k = some (g.1 32 k) := rfl
theorem ev_p32 {g : ob_St} {k : Nat} {v : Int32} : ob_pI g 5 32 k v = some (ob_up g.1 32 k v, g.2) := rfl
theorem ev_r32_0 : ob_gR 5 32 0 = some 33 := rfl
theorem ev_r32_1 : ob_gR 5 32 1 = some 34 := rfl
theorem ev_r32_2 : ob_gR 5 32 2 = some 35 := rfl
theorem ev_a33 {g : ob_St} {i : Nat} (h : i < 13) : ob_rI g 14 33 (nI i) = some (g.1 33 i) := pu_rI (n := 33) rfl rfl h
theorem ev_l33 {g : ob_St} {i : Nat} (h : (OfNat.ofNat i : Nat) < 13) : ob_rI g 14 33 (no_index (OfNat.ofNat i)) = some (g.1 33 (OfNat.ofNat i : Nat)) := pu_rI (n := 33) rfl rfl h
theorem ev_w33 {g : ob_St} {i : Nat} {v : Int32} (h : i < 13) : ob_wI g 33 (nI i) v = some (ob_up g.1 33 i v, g.2) := pu_wI (n := 33) rfl rfl h
theorem ev_a34 {g : ob_St} {i : Nat} (h : i < 13) : ob_rI g 14 34 (nI i) = some (g.1 34 i) := pu_rI (n := 34) rfl rfl h
theorem ev_l34 {g : ob_St} {i : Nat} (h : (OfNat.ofNat i : Nat) < 13) : ob_rI g 14 34 (no_index (OfNat.ofNat i)) = some (g.1 34 (OfNat.ofNat i : Nat)) := pu_rI (n := 34) rfl rfl h
theorem ev_w34 {g : ob_St} {i : Nat} {v : Int32} (h : i < 13) : ob_wI g 34 (nI i) v = some (ob_up g.1 34 i v, g.2) := pu_wI (n := 34) rfl rfl h
theorem ev_q35_0 : ob_rR 17 35 (nI 0) = some 36 := rfl
theorem ev_q35_1 : ob_rR 17 35 (nI 1) = some 37 := rfl
theorem ev_q35_2 : ob_rR 17 35 (nI 2) = some 38 := rfl
theorem ev_q35_3 : ob_rR 17 35 (nI 3) = some 39 := rfl
theorem ev_ck36 {α : Type} {x : Option α} : ob_ck 1 36 x = x := rfl
theorem ev_g36 {g : ob_St} {k : Nat} : ob_gI g 1 36 k = some (g.1 36 k) := rfl
theorem ev_p36 {g : ob_St} {k : Nat} {v : Int32} : ob_pI g 1 36 k v = some (ob_up g.1 36 k v, g.2) := rfl
theorem ev_ck37 {α : Type} {x : Option α} : ob_ck 1 37 x = x := rfl
theorem ev_g37 {g : ob_St} {k : Nat} : ob_gI g 1 37 k = some (g.1 37 k) := rfl
theorem ev_p37 {g : ob_St} {k : Nat} {v : Int32} : ob_pI g 1 37 k v = some (ob_up g.1 37 k v, g.2) := rfl
theorem ev_ck38 {α : Type} {x : Option α} : ob_ck 1 38 x = x := rfl
theorem ev_g38 {g : ob_St} {k : Nat} : ob_gI g 1 38 k = some (g.1 38 k) := rfl
theorem ev_p38 {g : ob_St} {k : Nat} {v : Int32} : ob_pI g 1 38 k v = some (ob_up g.1 38 k v, g.2) := rfl
theorem ev_ck39 {α : Type} {x : Option α} : ob_ck 1 39 x = x := rfl
theorem ev_g39 {g : ob_St} {k : Nat} : ob_gI g 1 39 k = some (g.1 39 k) := rfl
theorem ev_p39 {g : ob_St} {k : Nat} {v : Int32} : ob_pI g 1 39 k v = some (ob_up g.1 39 k v, g.2) := rfl
theorem ev_ck40 {α : Type} {x : Option α} : ob_ck 5 40 x = x := rfl
theorem ev_g40 {g : ob_St} {k : Nat} : ob_gI g 5 40 k = some (g.1 40 k) := rfl
theorem ev_p40 {g : ob_St} {k : Nat} {v : Int32} : ob_pI g 5 40 k v = some (ob_up g.1 40 k v, g.2) := rfl
theorem ev_r40_0 : ob_gR 5 40 0 = some 41 := rfl
theorem ev_r40_1 : ob_gR 5 40 1 = some 42 := rfl
theorem ev_r40_2 : ob_gR 5 40 2 = some 43 := rfl
theorem ev_a41 {g : ob_St} {i : Nat} (h : i < 13) : ob_rI g 14 41 (nI i) = some (g.1 41 i) := pu_rI (n := 41) rfl rfl h
theorem ev_l41 {g : ob_St} {i : Nat} (h : (OfNat.ofNat i : Nat) < 13) : ob_rI g 14 41 (no_index (OfNat.ofNat i)) = some (g.1 41 (OfNat.ofNat i : Nat)) := pu_rI (n := 41) rfl rfl h
theorem ev_w41 {g : ob_St} {i : Nat} {v : Int32} (h : i < 13) : ob_wI g 41 (nI i) v = some (ob_up g.1 41 i v, g.2) := pu_wI (n := 41) rfl rfl h
theorem ev_a42 {g : ob_St} {i : Nat} (h : i < 13) : ob_rI g 14 42 (nI i) = some (g.1 42 i) := pu_rI (n := 42) rfl rfl h
theorem ev_l42 {g : ob_St} {i : Nat} (h : (OfNat.ofNat i : Nat) < 13) : ob_rI g 14 42 (no_index (OfNat.ofNat i)) = some (g.1 42 (OfNat.ofNat i : Nat)) := pu_rI (n := 42) rfl rfl h
theorem ev_w42 {g : ob_St} {i : Nat} {v : Int32} (h : i < 13) : ob_wI g 42 (nI i) v = some (ob_up g.1 42 i v, g.2) := pu_wI (n := 42) rfl rfl h
theorem ev_q43_0 : ob_rR 17 43 (nI 0) = some 44 := rfl
theorem ev_q43_1 : ob_rR 17 43 (nI 1) = some 45 := rfl
theorem ev_q43_2 : ob_rR 17 43 (nI 2) = some 46 := rfl
theorem ev_q43_3 : ob_rR 17 43 (nI 3) = some 47 := rfl
theorem ev_ck44 {α : Type} {x : Option α} : ob_ck 1 44 x = x := rfl
theorem ev_g44 {g : ob_St} {k : Nat} : ob_gI g 1 44 k = some (g.1 44 k) := rfl
theorem ev_p44 {g : ob_St} {k : Nat} {v : Int32} : ob_pI g 1 44 k v = some (ob_up g.1 44 k v, g.2) := rfl
theorem ev_ck45 {α : Type} {x : Option α} : ob_ck 1 45 x = x := rfl
theorem ev_g45 {g : ob_St} {k : Nat} : ob_gI g 1 45 k = some (g.1 45 k) := rfl
theorem ev_p45 {g : ob_St} {k : Nat} {v : Int32} : ob_pI g 1 45 k v = some (ob_up g.1 45 k v, g.2) := rfl
theorem ev_ck46 {α : Type} {x : Option α} : ob_ck 1 46 x = x := rfl
theorem ev_g46 {g : ob_St} {k : Nat} : ob_gI g 1 46 k = some (g.1 46 k) := rfl
theorem ev_p46 {g : ob_St} {k : Nat} {v : Int32} : ob_pI g 1 46 k v = some (ob_up g.1 46 k v, g.2) := rfl
theorem ev_ck47 {α : Type} {x : Option α} : ob_ck 1 47 x = x := rfl
theorem ev_g47 {g : ob_St} {k : Nat} : ob_gI g 1 47 k = some (g.1 47 k) := rfl
theorem ev_p47 {g : ob_St} {k : Nat} {v : Int32} : ob_pI g 1 47 k v = some (ob_up g.1 47 k v, g.2) := rfl
theorem ev_ck48 {α : Type} {x : Option α} : ob_ck 5 48 x = x := rfl
theorem ev_g48 {g : ob_St} {k : Nat} : ob_gI g 5 48 k = some (g.1 48 k) := rfl
theorem ev_p48 {g : ob_St} {k : Nat} {v : Int32} : ob_pI g 5 48 k v = some (ob_up g.1 48 k v, g.2) := rfl
theorem ev_r48_0 : ob_gR 5 48 0 = some 49 := rfl
theorem ev_r48_1 : ob_gR 5 48 1 = some 50 := rfl
theorem ev_r48_2 : ob_gR 5 48 2 = some 51 := rfl
theorem ev_a49 {g : ob_St} {i : Nat} (h : i < 13) : ob_rI g 14 49 (nI i) = some (g.1 49 i) := pu_rI (n := 49) rfl rfl h
theorem ev_l49 {g : ob_St} {i : Nat} (h : (OfNat.ofNat i : Nat) < 13) : ob_rI g 14 49 (no_index (OfNat.ofNat i)) = some (g.1 49 (OfNat.ofNat i : Nat)) := pu_rI (n := 49) rfl rfl h
theorem ev_w49 {g : ob_St} {i : Nat} {v : Int32} (h : i < 13) : ob_wI g 49 (nI i) v = some (ob_up g.1 49 i v, g.2) := pu_wI (n := 49) rfl rfl h
theorem ev_a50 {g : ob_St} {i : Nat} (h : i < 13) : ob_rI g 14 50 (nI i) = some (g.1 50 i) := pu_rI (n := 50) rfl rfl h
theorem ev_l50 {g : ob_St} {i : Nat} (h : (OfNat.ofNat i : Nat) < 13) : ob_rI g 14 50 (no_index (OfNat.ofNat i)) = some (g.1 50 (OfNat.ofNat i : Nat)) := pu_rI (n := 50) rfl rfl h
theorem ev_w50 {g : ob_St} {i : Nat} {v : Int32} (h : i < 13) : ob_wI g 50 (nI i) v = some (ob_up g.1 50 i v, g.2) := pu_wI (n := 50) rfl rfl h
theorem ev_q51_0 : ob_rR 17 51 (nI 0) = some 52 := rfl
theorem ev_q51_1 : ob_rR 17 51 (nI 1) = some 53 := rfl
theorem ev_q51_2 : ob_rR 17 51 (nI 2) = some 54 := rfl
theorem ev_q51_3 : ob_rR 17 51 (nI 3) = some 55 := rfl
theorem ev_ck52 {α : Type} {x : Option α} : ob_ck 1 52 x = x := rfl
theorem ev_g52 {g : ob_St} {k : Nat} : ob_gI g 1 52 k = some (g.1 52 k) := rfl
theorem ev_p52 {g : ob_St} {k : Nat} {v : Int32} : ob_pI g 1 52 k v = some (ob_up g.1 52 k v, g.2) := rfl
theorem ev_ck53 {α : Type} {x : Option α} : ob_ck 1 53 x = x := rfl
theorem ev_g53 {g : ob_St} {k : Nat} : ob_gI g 1 53 k = some (g.1 53 k) := rfl
theorem ev_p53 {g : ob_St} {k : Nat} {v : Int32} : ob_pI g 1 53 k v = some (ob_up g.1 53 k v, g.2) := rfl
theorem ev_ck54 {α : Type} {x : Option α} : ob_ck 1 54 x = x := rfl
theorem ev_g54 {g : ob_St} {k : Nat} : ob_gI g 1 54 k = some (g.1 54 k) := rfl
theorem ev_p54 {g : ob_St} {k : Nat} {v : Int32} : ob_pI g 1 54 k v = some (ob_up g.1 54 k v, g.2) := rfl
theorem ev_ck55 {α : Type} {x : Option α} : ob_ck 1 55 x = x := rfl
theorem ev_g55 {g : ob_St} {k : Nat} : ob_gI g 1 55 k = some (g.1 55 k) := rfl
theorem ev_p55 {g : ob_St} {k : Nat} {v : Int32} : ob_pI g 1 55 k v = some (ob_up g.1 55 k v, g.2) := rfl
theorem ev_ck56 {α : Type} {x : Option α} : ob_ck 7 56 x = x := rfl
theorem ev_g56 {g : ob_St} {k : Nat} : ob_gI g 7 56 k = some (g.1 56 k) := rfl
theorem ev_p56 {g : ob_St} {k : Nat} {v : Int32} : ob_pI g 7 56 k v = some (ob_up g.1 56 k v, g.2) := rfl
theorem ev_r56_0 : ob_gR 7 56 0 = some 32 := rfl
theorem ev_r56_3 : ob_gR 7 56 3 = some 57 := rfl
theorem ev_r56_4 : ob_gR 7 56 4 = some 62 := rfl
theorem ev_ck57 {α : Type} {x : Option α} : ob_ck 10 57 x = x := rfl
theorem ev_g57 {g : ob_St} {k : Nat} : ob_gI g 10 57 k = some (g.1 57 k) := rfl
theorem ev_p57 {g : ob_St} {k : Nat} {v : Int32} : ob_pI g 10 57 k v = some (ob_up g.1 57 k v, g.2) := rfl
theorem ev_r57_0 : ob_gR 10 57 0 = some 58 := rfl
theorem ev_r57_1 : ob_gR 10 57 1 = some 59 := rfl
theorem ev_r57_2 : ob_gR 10 57 2 = some 60 := rfl
theorem ev_r57_3 : ob_gR 10 57 3 = some 21 := rfl
theorem ev_r57_4 : ob_gR 10 57 4 = some 61 := rfl
theorem ev_a58 {g : ob_St} {i : Nat} (h : i < 501) : ob_rI g 14 58 (nI i) = some (g.1 58 i) := pu_rI (n := 58) rfl rfl h
theorem ev_l58 {g : ob_St} {i : Nat} (h : (OfNat.ofNat i : Nat) < 501) : ob_rI g 14 58 (no_index (OfNat.ofNat i)) = some (g.1 58 (OfNat.ofNat i : Nat)) := pu_rI (n := 58) rfl rfl h
theorem ev_w58 {g : ob_St} {i : Nat} {v : Int32} (h : i < 501) : ob_wI g 58 (nI i) v = some (ob_up g.1 58 i v, g.2) := pu_wI (n := 58) rfl rfl h
theorem ev_a59 {g : ob_St} {i : Nat} (h : i < 501) : ob_rI g 14 59 (nI i) = some (g.1 59 i) := pu_rI (n := 59) rfl rfl h
theorem ev_l59 {g : ob_St} {i : Nat} (h : (OfNat.ofNat i : Nat) < 501) : ob_rI g 14 59 (no_index (OfNat.ofNat i)) = some (g.1 59 (OfNat.ofNat i : Nat)) := pu_rI (n := 59) rfl rfl h
theorem ev_w59 {g : ob_St} {i : Nat} {v : Int32} (h : i < 501) : ob_wI g 59 (nI i) v = some (ob_up g.1 59 i v, g.2) := pu_wI (n := 59) rfl rfl h
theorem ev_a60 {g : ob_St} {i : Nat} (h : i < 501) : ob_rL g 60 (nI i) = some (g.2 60 i) := pu_rL (n := 60) rfl rfl h
theorem ev_w60 {g : ob_St} {i : Nat} {v : Int64} (h : i < 501) : ob_wL g 60 (nI i) v = some (g.1, ob_upL g.2 60 i v) := pu_wL (n := 60) rfl rfl h
theorem ev_a61 {g : ob_St} {i : Nat} (h : i < 20) : ob_rL g 61 (nI i) = some (g.2 61 i) := pu_rL (n := 61) rfl rfl h
theorem ev_w61 {g : ob_St} {i : Nat} {v : Int64} (h : i < 20) : ob_wL g 61 (nI i) v = some (g.1, ob_upL g.2 61 i v) := pu_wL (n := 61) rfl rfl h
theorem ev_a62 {g : ob_St} {i : Nat} (h : i < 4) : ob_rL g 62 (nI i) = some (g.2 62 i) := pu_rL (n := 62) rfl rfl h
theorem ev_w62 {g : ob_St} {i : Nat} {v : Int64} (h : i < 4) : ob_wL g 62 (nI i) v = some (g.1, ob_upL g.2 62 i v) := pu_wL (n := 62) rfl rfl h
theorem ev_ck63 {α : Type} {x : Option α} : ob_ck 0 63 x = x := rfl
theorem ev_g63 {g : ob_St} {k : Nat} : ob_gI g 0 63 k = some (g.1 63 k) := rfl
theorem ev_p63 {g : ob_St} {k : Nat} {v : Int32} : ob_pI g 0 63 k v = some (ob_up g.1 63 k v, g.2) := rfl
theorem ev_r63_0 : ob_gR 0 63 0 = some 64 := rfl
theorem ev_r63_1 : ob_gR 0 63 1 = some 65 := rfl
theorem ev_r63_2 : ob_gR 0 63 2 = some 66 := rfl
theorem ev_a64 {g : ob_St} {i : Nat} (h : i < 8) : ob_rI g 14 64 (nI i) = some (g.1 64 i) := pu_rI (n := 64) rfl rfl h
theorem ev_l64 {g : ob_St} {i : Nat} (h : (OfNat.ofNat i : Nat) < 8) : ob_rI g 14 64 (no_index (OfNat.ofNat i)) = some (g.1 64 (OfNat.ofNat i : Nat)) := pu_rI (n := 64) rfl rfl h
theorem ev_w64 {g : ob_St} {i : Nat} {v : Int32} (h : i < 8) : ob_wI g 64 (nI i) v = some (ob_up g.1 64 i v, g.2) := pu_wI (n := 64) rfl rfl h
theorem ev_a65 {g : ob_St} {i : Nat} (h : i < 8) : ob_rI g 14 65 (nI i) = some (g.1 65 i) := pu_rI (n := 65) rfl rfl h
theorem ev_l65 {g : ob_St} {i : Nat} (h : (OfNat.ofNat i : Nat) < 8) : ob_rI g 14 65 (no_index (OfNat.ofNat i)) = some (g.1 65 (OfNat.ofNat i : Nat)) := pu_rI (n := 65) rfl rfl h
theorem ev_w65 {g : ob_St} {i : Nat} {v : Int32} (h : i < 8) : ob_wI g 65 (nI i) v = some (ob_up g.1 65 i v, g.2) := pu_wI (n := 65) rfl rfl h
theorem ev_a66 {g : ob_St} {i : Nat} (h : i < 8) : ob_rI g 14 66 (nI i) = some (g.1 66 i) := pu_rI (n := 66) rfl rfl h
theorem ev_l66 {g : ob_St} {i : Nat} (h : (OfNat.ofNat i : Nat) < 8) : ob_rI g 14 66 (no_index (OfNat.ofNat i)) = some (g.1 66 (OfNat.ofNat i : Nat)) := pu_rI (n := 66) rfl rfl h
theorem ev_w66 {g : ob_St} {i : Nat} {v : Int32} (h : i < 8) : ob_wI g 66 (nI i) v = some (ob_up g.1 66 i v, g.2) := pu_wI (n := 66) rfl rfl h
theorem ev_ck67 {α : Type} {x : Option α} : ob_ck 3 67 x = x := rfl
theorem ev_g67 {g : ob_St} {k : Nat} : ob_gI g 3 67 k = some (g.1 67 k) := rfl
theorem ev_p67 {g : ob_St} {k : Nat} {v : Int32} : ob_pI g 3 67 k v = some (ob_up g.1 67 k v, g.2) := rfl
theorem ev_r67_0 : ob_gR 3 67 0 = some 24 := rfl
theorem ev_r67_1 : ob_gR 3 67 1 = some 68 := rfl
theorem ev_r67_2 : ob_gR 3 67 2 = some 69 := rfl
theorem ev_r67_3 : ob_gR 3 67 3 = some 70 := rfl
theorem ev_r67_4 : ob_gR 3 67 4 = some 71 := rfl
theorem ev_r67_5 : ob_gR 3 67 5 = some 104 := rfl
theorem ev_a68 {g : ob_St} {i : Nat} (h : i < 91) : ob_rI g 14 68 (nI i) = some (g.1 68 i) := pu_rI (n := 68) rfl rfl h
theorem ev_l68 {g : ob_St} {i : Nat} (h : (OfNat.ofNat i : Nat) < 91) : ob_rI g 14 68 (no_index (OfNat.ofNat i)) = some (g.1 68 (OfNat.ofNat i : Nat)) := pu_rI (n := 68) rfl rfl h
theorem ev_w68 {g : ob_St} {i : Nat} {v : Int32} (h : i < 91) : ob_wI g 68 (nI i) v = some (ob_up g.1 68 i v, g.2) := pu_wI (n := 68) rfl rfl h
theorem ev_a69 {g : ob_St} {i : Nat} (h : i < 91) : ob_rI g 14 69 (nI i) = some (g.1 69 i) := pu_rI (n := 69) rfl rfl h
theorem ev_l69 {g : ob_St} {i : Nat} (h : (OfNat.ofNat i : Nat) < 91) : ob_rI g 14 69 (no_index (OfNat.ofNat i)) = some (g.1 69 (OfNat.ofNat i : Nat)) := pu_rI (n := 69) rfl rfl h
theorem ev_w69 {g : ob_St} {i : Nat} {v : Int32} (h : i < 91) : ob_wI g 69 (nI i) v = some (ob_up g.1 69 i v, g.2) := pu_wI (n := 69) rfl rfl h
theorem ev_a70 {g : ob_St} {i : Nat} (h : i < 13) : ob_rL g 70 (nI i) = some (g.2 70 i) := pu_rL (n := 70) rfl rfl h
theorem ev_w70 {g : ob_St} {i : Nat} {v : Int64} (h : i < 13) : ob_wL g 70 (nI i) v = some (g.1, ob_upL g.2 70 i v) := pu_wL (n := 70) rfl rfl h
theorem ev_q71_0 : ob_rR 19 71 (nI 0) = some 72 := rfl
theorem ev_q71_1 : ob_rR 19 71 (nI 1) = some 80 := rfl
theorem ev_q71_2 : ob_rR 19 71 (nI 2) = some 88 := rfl
theorem ev_q71_3 : ob_rR 19 71 (nI 3) = some 96 := rfl
theorem ev_ck72 {α : Type} {x : Option α} : ob_ck 9 72 x = x := rfl
theorem ev_g72 {g : ob_St} {k : Nat} : ob_gI g 9 72 k = some (g.1 72 k) := rfl
theorem ev_p72 {g : ob_St} {k : Nat} {v : Int32} : ob_pI g 9 72 k v = some (ob_up g.1 72 k v, g.2) := rfl
theorem ev_r72_0 : ob_gR 9 72 0 = some 73 := rfl
theorem ev_r72_1 : ob_gR 9 72 1 = some 74 := rfl
theorem ev_r72_2 : ob_gR 9 72 2 = some 77 := rfl
theorem ev_a73 {g : ob_St} {i : Nat} (h : i < 91) : ob_rL g 73 (nI i) = some (g.2 73 i) := pu_rL (n := 73) rfl rfl h
theorem ev_w73 {g : ob_St} {i : Nat} {v : Int64} (h : i < 91) : ob_wL g 73 (nI i) v = some (g.1, ob_upL g.2 73 i v) := pu_wL (n := 73) rfl rfl h
theorem ev_ck74 {α : Type} {x : Option α} : ob_ck 4 74 x = x := rfl
theorem ev_g74 {g : ob_St} {k : Nat} : ob_gI g 4 74 k = some (g.1 74 k) := rfl
theorem ev_p74 {g : ob_St} {k : Nat} {v : Int32} : ob_pI g 4 74 k v = some (ob_up g.1 74 k v, g.2) := rfl
theorem ev_r74_0 : ob_gR 4 74 0 = some 75 := rfl
theorem ev_r74_1 : ob_gR 4 74 1 = some 76 := rfl
theorem ev_a75 {g : ob_St} {i : Nat} (h : i < 91) : ob_rL g 75 (nI i) = some (g.2 75 i) := pu_rL (n := 75) rfl rfl h
theorem ev_w75 {g : ob_St} {i : Nat} {v : Int64} (h : i < 91) : ob_wL g 75 (nI i) v = some (g.1, ob_upL g.2 75 i v) := pu_wL (n := 75) rfl rfl h
theorem ev_a76 {g : ob_St} {i : Nat} (h : i < 91) : ob_rI g 14 76 (nI i) = some (g.1 76 i) := pu_rI (n := 76) rfl rfl h
theorem ev_l76 {g : ob_St} {i : Nat} (h : (OfNat.ofNat i : Nat) < 91) : ob_rI g 14 76 (no_index (OfNat.ofNat i)) = some (g.1 76 (OfNat.ofNat i : Nat)) := pu_rI (n := 76) rfl rfl h
theorem ev_w76 {g : ob_St} {i : Nat} {v : Int32} (h : i < 91) : ob_wI g 76 (nI i) v = some (ob_up g.1 76 i v, g.2) := pu_wI (n := 76) rfl rfl h
theorem ev_ck77 {α : Type} {x : Option α} : ob_ck 4 77 x = x := rfl
theorem ev_g77 {g : ob_St} {k : Nat} : ob_gI g 4 77 k = some (g.1 77 k) := rfl
theorem ev_p77 {g : ob_St} {k : Nat} {v : Int32} : ob_pI g 4 77 k v = some (ob_up g.1 77 k v, g.2) := rfl
theorem ev_r77_0 : ob_gR 4 77 0 = some 78 := rfl
theorem ev_r77_1 : ob_gR 4 77 1 = some 79 := rfl
theorem ev_a78 {g : ob_St} {i : Nat} (h : i < 91) : ob_rL g 78 (nI i) = some (g.2 78 i) := pu_rL (n := 78) rfl rfl h
theorem ev_w78 {g : ob_St} {i : Nat} {v : Int64} (h : i < 91) : ob_wL g 78 (nI i) v = some (g.1, ob_upL g.2 78 i v) := pu_wL (n := 78) rfl rfl h
theorem ev_a79 {g : ob_St} {i : Nat} (h : i < 91) : ob_rI g 14 79 (nI i) = some (g.1 79 i) := pu_rI (n := 79) rfl rfl h
theorem ev_l79 {g : ob_St} {i : Nat} (h : (OfNat.ofNat i : Nat) < 91) : ob_rI g 14 79 (no_index (OfNat.ofNat i)) = some (g.1 79 (OfNat.ofNat i : Nat)) := pu_rI (n := 79) rfl rfl h
theorem ev_w79 {g : ob_St} {i : Nat} {v : Int32} (h : i < 91) : ob_wI g 79 (nI i) v = some (ob_up g.1 79 i v, g.2) := pu_wI (n := 79) rfl rfl h
theorem ev_ck80 {α : Type} {x : Option α} : ob_ck 9 80 x = x := rfl
theorem ev_g80 {g : ob_St} {k : Nat} : ob_gI g 9 80 k = some (g.1 80 k) := rfl
theorem ev_p80 {g : ob_St} {k : Nat} {v : Int32} : ob_pI g 9 80 k v = some (ob_up g.1 80 k v, g.2) := rfl
theorem ev_r80_0 : ob_gR 9 80 0 = some 81 := rfl
theorem ev_r80_1 : ob_gR 9 80 1 = some 82 := rfl
theorem ev_r80_2 : ob_gR 9 80 2 = some 85 := rfl
theorem ev_a81 {g : ob_St} {i : Nat} (h : i < 91) : ob_rL g 81 (nI i) = some (g.2 81 i) := pu_rL (n := 81) rfl rfl h
theorem ev_w81 {g : ob_St} {i : Nat} {v : Int64} (h : i < 91) : ob_wL g 81 (nI i) v = some (g.1, ob_upL g.2 81 i v) := pu_wL (n := 81) rfl rfl h
theorem ev_ck82 {α : Type} {x : Option α} : ob_ck 4 82 x = x := rfl
theorem ev_g82 {g : ob_St} {k : Nat} : ob_gI g 4 82 k = some (g.1 82 k) := rfl
theorem ev_p82 {g : ob_St} {k : Nat} {v : Int32} : ob_pI g 4 82 k v = some (ob_up g.1 82 k v, g.2) := rfl
theorem ev_r82_0 : ob_gR 4 82 0 = some 83 := rfl
theorem ev_r82_1 : ob_gR 4 82 1 = some 84 := rfl
theorem ev_a83 {g : ob_St} {i : Nat} (h : i < 91) : ob_rL g 83 (nI i) = some (g.2 83 i) := pu_rL (n := 83) rfl rfl h
theorem ev_w83 {g : ob_St} {i : Nat} {v : Int64} (h : i < 91) : ob_wL g 83 (nI i) v = some (g.1, ob_upL g.2 83 i v) := pu_wL (n := 83) rfl rfl h
theorem ev_a84 {g : ob_St} {i : Nat} (h : i < 91) : ob_rI g 14 84 (nI i) = some (g.1 84 i) := pu_rI (n := 84) rfl rfl h
theorem ev_l84 {g : ob_St} {i : Nat} (h : (OfNat.ofNat i : Nat) < 91) : ob_rI g 14 84 (no_index (OfNat.ofNat i)) = some (g.1 84 (OfNat.ofNat i : Nat)) := pu_rI (n := 84) rfl rfl h
theorem ev_w84 {g : ob_St} {i : Nat} {v : Int32} (h : i < 91) : ob_wI g 84 (nI i) v = some (ob_up g.1 84 i v, g.2) := pu_wI (n := 84) rfl rfl h
theorem ev_ck85 {α : Type} {x : Option α} : ob_ck 4 85 x = x := rfl
theorem ev_g85 {g : ob_St} {k : Nat} : ob_gI g 4 85 k = some (g.1 85 k) := rfl
theorem ev_p85 {g : ob_St} {k : Nat} {v : Int32} : ob_pI g 4 85 k v = some (ob_up g.1 85 k v, g.2) := rfl
theorem ev_r85_0 : ob_gR 4 85 0 = some 86 := rfl
theorem ev_r85_1 : ob_gR 4 85 1 = some 87 := rfl
theorem ev_a86 {g : ob_St} {i : Nat} (h : i < 91) : ob_rL g 86 (nI i) = some (g.2 86 i) := pu_rL (n := 86) rfl rfl h
theorem ev_w86 {g : ob_St} {i : Nat} {v : Int64} (h : i < 91) : ob_wL g 86 (nI i) v = some (g.1, ob_upL g.2 86 i v) := pu_wL (n := 86) rfl rfl h
theorem ev_a87 {g : ob_St} {i : Nat} (h : i < 91) : ob_rI g 14 87 (nI i) = some (g.1 87 i) := pu_rI (n := 87) rfl rfl h
theorem ev_l87 {g : ob_St} {i : Nat} (h : (OfNat.ofNat i : Nat) < 91) : ob_rI g 14 87 (no_index (OfNat.ofNat i)) = some (g.1 87 (OfNat.ofNat i : Nat)) := pu_rI (n := 87) rfl rfl h
theorem ev_w87 {g : ob_St} {i : Nat} {v : Int32} (h : i < 91) : ob_wI g 87 (nI i) v = some (ob_up g.1 87 i v, g.2) := pu_wI (n := 87) rfl rfl h
theorem ev_ck88 {α : Type} {x : Option α} : ob_ck 9 88 x = x := rfl
theorem ev_g88 {g : ob_St} {k : Nat} : ob_gI g 9 88 k = some (g.1 88 k) := rfl
theorem ev_p88 {g : ob_St} {k : Nat} {v : Int32} : ob_pI g 9 88 k v = some (ob_up g.1 88 k v, g.2) := rfl
theorem ev_r88_0 : ob_gR 9 88 0 = some 89 := rfl
theorem ev_r88_1 : ob_gR 9 88 1 = some 90 := rfl
theorem ev_r88_2 : ob_gR 9 88 2 = some 93 := rfl
theorem ev_a89 {g : ob_St} {i : Nat} (h : i < 91) : ob_rL g 89 (nI i) = some (g.2 89 i) := pu_rL (n := 89) rfl rfl h
theorem ev_w89 {g : ob_St} {i : Nat} {v : Int64} (h : i < 91) : ob_wL g 89 (nI i) v = some (g.1, ob_upL g.2 89 i v) := pu_wL (n := 89) rfl rfl h
theorem ev_ck90 {α : Type} {x : Option α} : ob_ck 4 90 x = x := rfl
theorem ev_g90 {g : ob_St} {k : Nat} : ob_gI g 4 90 k = some (g.1 90 k) := rfl
theorem ev_p90 {g : ob_St} {k : Nat} {v : Int32} : ob_pI g 4 90 k v = some (ob_up g.1 90 k v, g.2) := rfl
theorem ev_r90_0 : ob_gR 4 90 0 = some 91 := rfl
theorem ev_r90_1 : ob_gR 4 90 1 = some 92 := rfl
theorem ev_a91 {g : ob_St} {i : Nat} (h : i < 91) : ob_rL g 91 (nI i) = some (g.2 91 i) := pu_rL (n := 91) rfl rfl h
theorem ev_w91 {g : ob_St} {i : Nat} {v : Int64} (h : i < 91) : ob_wL g 91 (nI i) v = some (g.1, ob_upL g.2 91 i v) := pu_wL (n := 91) rfl rfl h
theorem ev_a92 {g : ob_St} {i : Nat} (h : i < 91) : ob_rI g 14 92 (nI i) = some (g.1 92 i) := pu_rI (n := 92) rfl rfl h
theorem ev_l92 {g : ob_St} {i : Nat} (h : (OfNat.ofNat i : Nat) < 91) : ob_rI g 14 92 (no_index (OfNat.ofNat i)) = some (g.1 92 (OfNat.ofNat i : Nat)) := pu_rI (n := 92) rfl rfl h
theorem ev_w92 {g : ob_St} {i : Nat} {v : Int32} (h : i < 91) : ob_wI g 92 (nI i) v = some (ob_up g.1 92 i v, g.2) := pu_wI (n := 92) rfl rfl h
theorem ev_ck93 {α : Type} {x : Option α} : ob_ck 4 93 x = x := rfl
theorem ev_g93 {g : ob_St} {k : Nat} : ob_gI g 4 93 k = some (g.1 93 k) := rfl
theorem ev_p93 {g : ob_St} {k : Nat} {v : Int32} : ob_pI g 4 93 k v = some (ob_up g.1 93 k v, g.2) := rfl
theorem ev_r93_0 : ob_gR 4 93 0 = some 94 := rfl
theorem ev_r93_1 : ob_gR 4 93 1 = some 95 := rfl
theorem ev_a94 {g : ob_St} {i : Nat} (h : i < 91) : ob_rL g 94 (nI i) = some (g.2 94 i) := pu_rL (n := 94) rfl rfl h
theorem ev_w94 {g : ob_St} {i : Nat} {v : Int64} (h : i < 91) : ob_wL g 94 (nI i) v = some (g.1, ob_upL g.2 94 i v) := pu_wL (n := 94) rfl rfl h
theorem ev_a95 {g : ob_St} {i : Nat} (h : i < 91) : ob_rI g 14 95 (nI i) = some (g.1 95 i) := pu_rI (n := 95) rfl rfl h
theorem ev_l95 {g : ob_St} {i : Nat} (h : (OfNat.ofNat i : Nat) < 91) : ob_rI g 14 95 (no_index (OfNat.ofNat i)) = some (g.1 95 (OfNat.ofNat i : Nat)) := pu_rI (n := 95) rfl rfl h
theorem ev_w95 {g : ob_St} {i : Nat} {v : Int32} (h : i < 91) : ob_wI g 95 (nI i) v = some (ob_up g.1 95 i v, g.2) := pu_wI (n := 95) rfl rfl h
theorem ev_ck96 {α : Type} {x : Option α} : ob_ck 9 96 x = x := rfl
theorem ev_g96 {g : ob_St} {k : Nat} : ob_gI g 9 96 k = some (g.1 96 k) := rfl
theorem ev_p96 {g : ob_St} {k : Nat} {v : Int32} : ob_pI g 9 96 k v = some (ob_up g.1 96 k v, g.2) := rfl
theorem ev_r96_0 : ob_gR 9 96 0 = some 97 := rfl
theorem ev_r96_1 : ob_gR 9 96 1 = some 98 := rfl
theorem ev_r96_2 : ob_gR 9 96 2 = some 101 := rfl
theorem ev_a97 {g : ob_St} {i : Nat} (h : i < 91) : ob_rL g 97 (nI i) = some (g.2 97 i) := pu_rL (n := 97) rfl rfl h
theorem ev_w97 {g : ob_St} {i : Nat} {v : Int64} (h : i < 91) : ob_wL g 97 (nI i) v = some (g.1, ob_upL g.2 97 i v) := pu_wL (n := 97) rfl rfl h
theorem ev_ck98 {α : Type} {x : Option α} : ob_ck 4 98 x = x := rfl
theorem ev_g98 {g : ob_St} {k : Nat} : ob_gI g 4 98 k = some (g.1 98 k) := rfl
theorem ev_p98 {g : ob_St} {k : Nat} {v : Int32} : ob_pI g 4 98 k v = some (ob_up g.1 98 k v, g.2) := rfl
theorem ev_r98_0 : ob_gR 4 98 0 = some 99 := rfl
theorem ev_r98_1 : ob_gR 4 98 1 = some 100 := rfl
theorem ev_a99 {g : ob_St} {i : Nat} (h : i < 91) : ob_rL g 99 (nI i) = some (g.2 99 i) := pu_rL (n := 99) rfl rfl h
theorem ev_w99 {g : ob_St} {i : Nat} {v : Int64} (h : i < 91) : ob_wL g 99 (nI i) v = some (g.1, ob_upL g.2 99 i v) := pu_wL (n := 99) rfl rfl h
theorem ev_a100 {g : ob_St} {i : Nat} (h : i < 91) : ob_rI g 14 100 (nI i) = some (g.1 100 i) := pu_rI (n := 100) rfl rfl h
theorem ev_l100 {g : ob_St} {i : Nat} (h : (OfNat.ofNat i : Nat) < 91) : ob_rI g 14 100 (no_index (OfNat.ofNat i)) = some (g.1 100 (OfNat.ofNat i : Nat)) := pu_rI (n := 100) rfl rfl h
theorem ev_w100 {g : ob_St} {i : Nat} {v : Int32} (h : i < 91) : ob_wI g 100 (nI i) v = some (ob_up g.1 100 i v, g.2) := pu_wI (n := 100) rfl rfl h
theorem ev_ck101 {α : Type} {x : Option α} : ob_ck 4 101 x = x := rfl
theorem ev_g101 {g : ob_St} {k : Nat} : ob_gI g 4 101 k = some (g.1 101 k) := rfl
theorem ev_p101 {g : ob_St} {k : Nat} {v : Int32} : ob_pI g 4 101 k v = some (ob_up g.1 101 k v, g.2) := rfl
theorem ev_r101_0 : ob_gR 4 101 0 = some 102 := rfl
theorem ev_r101_1 : ob_gR 4 101 1 = some 103 := rfl
theorem ev_a102 {g : ob_St} {i : Nat} (h : i < 91) : ob_rL g 102 (nI i) = some (g.2 102 i) := pu_rL (n := 102) rfl rfl h
theorem ev_w102 {g : ob_St} {i : Nat} {v : Int64} (h : i < 91) : ob_wL g 102 (nI i) v = some (g.1, ob_upL g.2 102 i v) := pu_wL (n := 102) rfl rfl h
theorem ev_a103 {g : ob_St} {i : Nat} (h : i < 91) : ob_rI g 14 103 (nI i) = some (g.1 103 i) := pu_rI (n := 103) rfl rfl h
theorem ev_l103 {g : ob_St} {i : Nat} (h : (OfNat.ofNat i : Nat) < 91) : ob_rI g 14 103 (no_index (OfNat.ofNat i)) = some (g.1 103 (OfNat.ofNat i : Nat)) := pu_rI (n := 103) rfl rfl h
theorem ev_w103 {g : ob_St} {i : Nat} {v : Int32} (h : i < 91) : ob_wI g 103 (nI i) v = some (ob_up g.1 103 i v, g.2) := pu_wI (n := 103) rfl rfl h
theorem ev_ck104 {α : Type} {x : Option α} : ob_ck 9 104 x = x := rfl
theorem ev_g104 {g : ob_St} {k : Nat} : ob_gI g 9 104 k = some (g.1 104 k) := rfl
theorem ev_p104 {g : ob_St} {k : Nat} {v : Int32} : ob_pI g 9 104 k v = some (ob_up g.1 104 k v, g.2) := rfl
theorem ev_r104_0 : ob_gR 9 104 0 = some 105 := rfl
theorem ev_r104_1 : ob_gR 9 104 1 = some 106 := rfl
theorem ev_r104_2 : ob_gR 9 104 2 = some 109 := rfl
theorem ev_a105 {g : ob_St} {i : Nat} (h : i < 91) : ob_rL g 105 (nI i) = some (g.2 105 i) := pu_rL (n := 105) rfl rfl h
theorem ev_w105 {g : ob_St} {i : Nat} {v : Int64} (h : i < 91) : ob_wL g 105 (nI i) v = some (g.1, ob_upL g.2 105 i v) := pu_wL (n := 105) rfl rfl h
theorem ev_ck106 {α : Type} {x : Option α} : ob_ck 4 106 x = x := rfl
theorem ev_g106 {g : ob_St} {k : Nat} : ob_gI g 4 106 k = some (g.1 106 k) := rfl
theorem ev_p106 {g : ob_St} {k : Nat} {v : Int32} : ob_pI g 4 106 k v = some (ob_up g.1 106 k v, g.2) := rfl
theorem ev_r106_0 : ob_gR 4 106 0 = some 107 := rfl
theorem ev_r106_1 : ob_gR 4 106 1 = some 108 := rfl
theorem ev_a107 {g : ob_St} {i : Nat} (h : i < 91) : ob_rL g 107 (nI i) = some (g.2 107 i) := pu_rL (n := 107) rfl rfl h
theorem ev_w107 {g : ob_St} {i : Nat} {v : Int64} (h : i < 91) : ob_wL g 107 (nI i) v = some (g.1, ob_upL g.2 107 i v) := pu_wL (n := 107) rfl rfl h
theorem ev_a108 {g : ob_St} {i : Nat} (h : i < 91) : ob_rI g 14 108 (nI i) = some (g.1 108 i) := pu_rI (n := 108) rfl rfl h
theorem ev_l108 {g : ob_St} {i : Nat} (h : (OfNat.ofNat i : Nat) < 91) : ob_rI g 14 108 (no_index (OfNat.ofNat i)) = some (g.1 108 (OfNat.ofNat i : Nat)) := pu_rI (n := 108) rfl rfl h
theorem ev_w108 {g : ob_St} {i : Nat} {v : Int32} (h : i < 91) : ob_wI g 108 (nI i) v = some (ob_up g.1 108 i v, g.2) := pu_wI (n := 108) rfl rfl h
theorem ev_ck109 {α : Type} {x : Option α} : ob_ck 4 109 x = x := rfl
theorem ev_g109 {g : ob_St} {k : Nat} : ob_gI g 4 109 k = some (g.1 109 k) := rfl
theorem ev_p109 {g : ob_St} {k : Nat} {v : Int32} : ob_pI g 4 109 k v = some (ob_up g.1 109 k v, g.2) := rfl
theorem ev_r109_0 : ob_gR 4 109 0 = some 110 := rfl
theorem ev_r109_1 : ob_gR 4 109 1 = some 111 := rfl
theorem ev_a110 {g : ob_St} {i : Nat} (h : i < 91) : ob_rL g 110 (nI i) = some (g.2 110 i) := pu_rL (n := 110) rfl rfl h
theorem ev_w110 {g : ob_St} {i : Nat} {v : Int64} (h : i < 91) : ob_wL g 110 (nI i) v = some (g.1, ob_upL g.2 110 i v) := pu_wL (n := 110) rfl rfl h
theorem ev_a111 {g : ob_St} {i : Nat} (h : i < 91) : ob_rI g 14 111 (nI i) = some (g.1 111 i) := pu_rI (n := 111) rfl rfl h
theorem ev_l111 {g : ob_St} {i : Nat} (h : (OfNat.ofNat i : Nat) < 91) : ob_rI g 14 111 (no_index (OfNat.ofNat i)) = some (g.1 111 (OfNat.ofNat i : Nat)) := pu_rI (n := 111) rfl rfl h
theorem ev_w111 {g : ob_St} {i : Nat} {v : Int32} (h : i < 91) : ob_wI g 111 (nI i) v = some (ob_up g.1 111 i v, g.2) := pu_wI (n := 111) rfl rfl h
theorem ev_ck112 {α : Type} {x : Option α} : ob_ck 6 112 x = x := rfl
theorem ev_g112 {g : ob_St} {k : Nat} : ob_gI g 6 112 k = some (g.1 112 k) := rfl
theorem ev_p112 {g : ob_St} {k : Nat} {v : Int32} : ob_pI g 6 112 k v = some (ob_up g.1 112 k v, g.2) := rfl
theorem ev_r112_0 : ob_gR 6 112 0 = some 67 := rfl
theorem ev_r112_1 : ob_gR 6 112 1 = some 113 := rfl
theorem ev_r112_2 : ob_gR 6 112 2 = some 114 := rfl
theorem ev_a113 {g : ob_St} {i : Nat} (h : i < 91) : ob_rL g 113 (nI i) = some (g.2 113 i) := pu_rL (n := 113) rfl rfl h
theorem ev_w113 {g : ob_St} {i : Nat} {v : Int64} (h : i < 91) : ob_wL g 113 (nI i) v = some (g.1, ob_upL g.2 113 i v) := pu_wL (n := 113) rfl rfl h
theorem ev_a114 {g : ob_St} {i : Nat} (h : i < 91) : ob_rL g 114 (nI i) = some (g.2 114 i) := pu_rL (n := 114) rfl rfl h
theorem ev_w114 {g : ob_St} {i : Nat} {v : Int64} (h : i < 91) : ob_wL g 114 (nI i) v = some (g.1, ob_upL g.2 114 i v) := pu_wL (n := 114) rfl rfl h
theorem ev_ck115 {α : Type} {x : Option α} : ob_ck 2 115 x = x := rfl
theorem ev_g115 {g : ob_St} {k : Nat} : ob_gI g 2 115 k = some (g.1 115 k) := rfl
theorem ev_p115 {g : ob_St} {k : Nat} {v : Int32} : ob_pI g 2 115 k v = some (ob_up g.1 115 k v, g.2) := rfl
theorem ev_r115_0 : ob_gR 2 115 0 = some 67 := rfl
theorem ev_r115_1 : ob_gR 2 115 1 = some 116 := rfl
theorem ev_r115_2 : ob_gR 2 115 2 = some 119 := rfl
theorem ev_q116_0 : ob_rR 21 116 (nI 0) = some 117 := rfl
theorem ev_q116_1 : ob_rR 21 116 (nI 1) = some 118 := rfl
theorem ev_a117 {g : ob_St} {i : Nat} (h : i < 91) : ob_rL g 117 (nI i) = some (g.2 117 i) := pu_rL (n := 117) rfl rfl h
theorem ev_w117 {g : ob_St} {i : Nat} {v : Int64} (h : i < 91) : ob_wL g 117 (nI i) v = some (g.1, ob_upL g.2 117 i v) := pu_wL (n := 117) rfl rfl h
theorem ev_a118 {g : ob_St} {i : Nat} (h : i < 91) : ob_rL g 118 (nI i) = some (g.2 118 i) := pu_rL (n := 118) rfl rfl h
theorem ev_w118 {g : ob_St} {i : Nat} {v : Int64} (h : i < 91) : ob_wL g 118 (nI i) v = some (g.1, ob_upL g.2 118 i v) := pu_wL (n := 118) rfl rfl h
theorem ev_q119_0 : ob_rR 20 119 (nI 0) = some 120 := rfl
theorem ev_q119_1 : ob_rR 20 119 (nI 1) = some 121 := rfl
theorem ev_a120 {g : ob_St} {i : Nat} (h : i < 91) : ob_rI g 14 120 (nI i) = some (g.1 120 i) := pu_rI (n := 120) rfl rfl h
theorem ev_l120 {g : ob_St} {i : Nat} (h : (OfNat.ofNat i : Nat) < 91) : ob_rI g 14 120 (no_index (OfNat.ofNat i)) = some (g.1 120 (OfNat.ofNat i : Nat)) := pu_rI (n := 120) rfl rfl h
theorem ev_w120 {g : ob_St} {i : Nat} {v : Int32} (h : i < 91) : ob_wI g 120 (nI i) v = some (ob_up g.1 120 i v, g.2) := pu_wI (n := 120) rfl rfl h
theorem ev_a121 {g : ob_St} {i : Nat} (h : i < 91) : ob_rI g 14 121 (nI i) = some (g.1 121 i) := pu_rI (n := 121) rfl rfl h
theorem ev_l121 {g : ob_St} {i : Nat} (h : (OfNat.ofNat i : Nat) < 91) : ob_rI g 14 121 (no_index (OfNat.ofNat i)) = some (g.1 121 (OfNat.ofNat i : Nat)) := pu_rI (n := 121) rfl rfl h
theorem ev_w121 {g : ob_St} {i : Nat} {v : Int32} (h : i < 91) : ob_wI g 121 (nI i) v = some (ob_up g.1 121 i v, g.2) := pu_wI (n := 121) rfl rfl h
theorem ev_ck122 {α : Type} {x : Option α} : ob_ck 8 122 x = x := rfl
theorem ev_g122 {g : ob_St} {k : Nat} : ob_gI g 8 122 k = some (g.1 122 k) := rfl
theorem ev_p122 {g : ob_St} {k : Nat} {v : Int32} : ob_pI g 8 122 k v = some (ob_up g.1 122 k v, g.2) := rfl
theorem ev_r122_0 : ob_gR 8 122 0 = some 67 := rfl
theorem ev_r122_1 : ob_gR 8 122 1 = some 123 := rfl
theorem ev_r122_2 : ob_gR 8 122 2 = some 124 := rfl
theorem ev_r122_3 : ob_gR 8 122 3 = some 125 := rfl
theorem ev_a123 {g : ob_St} {i : Nat} (h : i < 91) : ob_rL g 123 (nI i) = some (g.2 123 i) := pu_rL (n := 123) rfl rfl h
theorem ev_w123 {g : ob_St} {i : Nat} {v : Int64} (h : i < 91) : ob_wL g 123 (nI i) v = some (g.1, ob_upL g.2 123 i v) := pu_wL (n := 123) rfl rfl h
theorem ev_a124 {g : ob_St} {i : Nat} (h : i < 91) : ob_rL g 124 (nI i) = some (g.2 124 i) := pu_rL (n := 124) rfl rfl h
theorem ev_w124 {g : ob_St} {i : Nat} {v : Int64} (h : i < 91) : ob_wL g 124 (nI i) v = some (g.1, ob_upL g.2 124 i v) := pu_wL (n := 124) rfl rfl h
theorem ev_a125 {g : ob_St} {i : Nat} (h : i < 92) : ob_rI g 14 125 (nI i) = some (g.1 125 i) := pu_rI (n := 125) rfl rfl h
theorem ev_l125 {g : ob_St} {i : Nat} (h : (OfNat.ofNat i : Nat) < 92) : ob_rI g 14 125 (no_index (OfNat.ofNat i)) = some (g.1 125 (OfNat.ofNat i : Nat)) := pu_rI (n := 125) rfl rfl h
theorem ev_w125 {g : ob_St} {i : Nat} {v : Int32} (h : i < 92) : ob_wI g 125 (nI i) v = some (ob_up g.1 125 i v, g.2) := pu_wI (n := 125) rfl rfl h
