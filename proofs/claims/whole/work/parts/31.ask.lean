/-! questions: who may ask what -/
def bI (b : Bool) : Int32 := if b = true then 1 else 0
theorem bI_if {b : Bool} {α : Type} {x y : α} : (if bI b = 0 then x else y) = if b = true then y else x := by cases b <;> rfl
def qO (S : Nat → Int32) (x : Int32) : Bool := if x < 0 then false else if S 29 ≤ x then false else true
def qT (S : Nat → Int32) (x : Int32) : Bool := if x < 0 then false else if S 2 < x then false else true
def qN (S : Nat → Int32) (x y : Int32) : Bool := if qT S x = true then (if y < 0 then false else if x < y then false else true) else false
def qB (p : Int32) : Bool := if p = 0 then true else if p = 1 then true else false
theorem qO_e {S : Nat → Int32} {x : Int32} (hW : sp_WF S) (h : qO S x = true) : ∃ k, k < sN S 29 ∧ x = nI k := by
  have h4 := wf_4 hW
  unfold qO at h
  by_cases h1 : x < 0
  · rw [if_pos h1] at h; exact absurd h (by decide)
  rw [if_neg h1] at h
  by_cases h2 : S 29 ≤ x
  · rw [if_pos h2] at h; exact absurd h (by decide)
  obtain ⟨j, hj, rfl⟩ := nI_of h1
  rw [wf_29 hW, nI_leI (by omega) hj] at h2
  exact ⟨j, by omega, rfl⟩
theorem qT_e {S : Nat → Int32} {x : Int32} (hW : sp_WF S) (h : qT S x = true) : ∃ t, t ≤ sN S 2 ∧ x = nI t := by
  have h12 := wf_12 hW
  unfold qT at h
  by_cases h1 : x < 0
  · rw [if_pos h1] at h; exact absurd h (by decide)
  rw [if_neg h1] at h
  by_cases h2 : S 2 < x
  · rw [if_pos h2] at h; exact absurd h (by decide)
  obtain ⟨j, hj, rfl⟩ := nI_of h1
  rw [wf_2 hW, nI_ltI (by omega) hj] at h2
  exact ⟨j, by omega, rfl⟩
theorem qN_e {S : Nat → Int32} {x y : Int32} (hW : sp_WF S) (h : qN S x y = true) : ∃ t j, t ≤ sN S 2 ∧ j ≤ t ∧ x = nI t ∧ y = nI j := by
  have h12 := wf_12 hW
  unfold qN at h
  by_cases h0 : qT S x = true
  · rw [if_pos h0] at h
    obtain ⟨t, ht, rfl⟩ := qT_e hW h0
    by_cases h1 : y < 0
    · rw [if_pos h1] at h; exact absurd h (by decide)
    rw [if_neg h1] at h
    by_cases h2 : nI t < y
    · rw [if_pos h2] at h; exact absurd h (by decide)
    obtain ⟨j, hj, rfl⟩ := nI_of h1
    rw [nI_ltI (by omega) hj] at h2
    exact ⟨t, j, ht, by omega, rfl, rfl⟩
  · rw [if_neg h0] at h; exact absurd h (by decide)
theorem m_isIn0 {S : Nat → Int32} {x : Int32} {b : Int32} : f_X12_isIn x 0 b = some (bI (if x < 0 then false else if b < x then false else true)) := by
  unfold f_X12_isIn
  by_cases h1 : x < 0
  · rw [if_pos h1, if_pos h1]; rfl
  rw [if_neg h1, if_neg h1]
  by_cases h2 : b < x
  · rw [if_pos h2, if_pos h2]; rfl
  · rw [if_neg h2, if_neg h2]; rfl
theorem m_isOption {g : ob_St} {x : Int32} (hW : sp_WF (g.1 1)) : f_X12_isOption g 0 x = some (bI (qO (g.1 1) x)) := by
  have h4 := wf_4 hW
  have t1 : (nI (sN (g.1 1) 29) - 1).toInt = (sN (g.1 1) 29 : Int) - 1 := by
    have e1 : (1 : Int32).toInt = 1 := rfl
    rw [ni_sub (by rw [ni_of (by omega), e1]; omega) (by rw [ni_of (by omega), e1]; omega), ni_of (by omega), e1]
  have e : (g.1 1 29 - 1 < x) ↔ (g.1 1 29 ≤ x) := by
    rw [wf_29 hW, ni_lt, ni_le, t1, ni_of (by omega)]
    omega
  unfold f_X12_isOption qO
  rw [ev_r0_1, Option.bind_some, ev_l1 (by omega), Option.bind_some, m_isIn0 (S := g.1 1), Option.bind_some]
  by_cases h1 : x < 0
  · rw [if_pos h1, if_pos h1]; rfl
  rw [if_neg h1, if_neg h1]
  by_cases h2 : g.1 1 29 ≤ x
  · rw [if_pos h2, if_pos (e.mpr h2)]; rfl
  · rw [if_neg h2, if_neg (fun h => h2 (e.mp h))]; rfl
theorem m_isStep {g : ob_St} {x : Int32} : f_X12_isIn x 0 (g.1 1 2) = some (bI (qT (g.1 1) x)) := m_isIn0 (S := g.1 1)
theorem m_isNode {g : ob_St} {x y : Int32} : f_X12_isNode g 0 x y = some (bI (qN (g.1 1) x y)) := by
  unfold f_X12_isNode qN
  rw [ev_r0_1, Option.bind_some, ev_l1 (by omega), Option.bind_some, m_isStep, Option.bind_some, bI_if]
  by_cases h0 : qT (g.1 1) x = true
  · rw [if_pos h0, if_pos h0, m_isIn0 (S := g.1 1), Option.bind_some, bI_if]
    by_cases h1 : y < 0
    · rw [if_pos h1, if_neg (by decide)]; rfl
    rw [if_neg h1]
    by_cases h2 : x < y
    · rw [if_pos h2, if_neg (by decide)]; rfl
    · rw [if_neg h2, if_pos rfl]; rfl
  · rw [if_neg h0, if_neg h0]; rfl
theorem m_isPart {p : Int32} : f_X12_isPart p = some (bI (qB p)) := by
  unfold f_X12_isPart qB
  by_cases h1 : p = 0
  · rw [if_pos h1, if_pos h1]; rfl
  rw [if_neg h1, if_neg h1]
  by_cases h2 : p = 1
  · rw [if_pos h2, if_pos h2]; rfl
  · rw [if_neg h2, if_neg h2]; rfl
theorem m_isUpper {p : Int32} : f_X12_isUpper p = some (bI (qB p)) := by
  unfold f_X12_isUpper qB
  by_cases h1 : p = 0
  · rw [if_pos h1, if_pos h1]; rfl
  rw [if_neg h1, if_neg h1]
  by_cases h2 : p = 1
  · rw [if_pos h2, if_pos h2]; rfl
  · rw [if_neg h2, if_neg h2]; rfl
theorem c_isOption {S : Nat → Int32} {g : ob_St} {x : Int32} (hM : c_M 24 S g) : f_X11_isOption g 20 x = some (bI (qO S x)) := by
  unfold f_X11_isOption qO
  rw [ev_r20_3, Option.bind_some, ev_g24, Option.bind_some, hM.2.2.2.1]
  by_cases h1 : x < 0
  · rw [if_pos h1, if_pos h1]; rfl
  rw [if_neg h1, if_neg h1]
  by_cases h2 : S 29 ≤ x
  · rw [if_pos h2, if_pos h2]; rfl
  · rw [if_neg h2, if_neg h2]; rfl
theorem c_isStep {S : Nat → Int32} {g : ob_St} {x : Int32} (hM : c_M 24 S g) : f_X11_isStep g 20 x = some (bI (qT S x)) := by
  unfold f_X11_isStep qT
  rw [ev_r20_3, Option.bind_some, ev_g24, Option.bind_some, hM.2.2.1]
  by_cases h1 : x < 0
  · rw [if_pos h1, if_pos h1]; rfl
  rw [if_neg h1, if_neg h1]
  by_cases h2 : S 2 < x
  · rw [if_pos h2, if_pos h2]; rfl
  · rw [if_neg h2, if_neg h2]; rfl
theorem c_isNode {S : Nat → Int32} {g : ob_St} {x y : Int32} (hM : c_M 24 S g) : f_X11_isNode g 20 x y = some (bI (qN S x y)) := by
  unfold f_X11_isNode qN
  rw [c_isStep hM, ev_ck20, Option.bind_some, bI_if]
  by_cases h0 : qT S x = true
  · rw [if_pos h0, if_pos h0]
    by_cases h1 : y < 0
    · rw [if_pos h1, if_pos h1]; rfl
    rw [if_neg h1, if_neg h1]
    by_cases h2 : x < y
    · rw [if_pos h2, if_pos h2]; rfl
    · rw [if_neg h2, if_neg h2]; rfl
  · rw [if_neg h0, if_neg h0]; rfl
theorem c_isBit {p : Int32} : f_X11_isBit p = some (bI (qB p)) := by
  unfold f_X11_isBit qB
  by_cases h1 : p = 0
  · rw [if_pos h1, if_pos h1]; rfl
  rw [if_neg h1, if_neg h1]
  by_cases h2 : p = 1
  · rw [if_pos h2, if_pos h2]; rfl
  · rw [if_neg h2, if_neg h2]; rfl
/-! what a question's answer leaves -/
def c_I (S : Nat → Int32) (g : ob_St) (a : Int32) (r : Option (Int32 × ob_St)) : Prop := ∃ g', r = some (a, g') ∧ c_K g g' ∧ c_Q S g'
def m_I (g : ob_St) (a : Int32) (r : Option (Int32 × ob_St)) : Prop := ∃ g', r = some (a, g') ∧ m_K g g' ∧ m_Q g'
def c_A (S : Nat → Int32) (g : ob_St) (a : Option Int64) (r : Option (Option (Int64 × ob_St))) : Prop := ∃ g', c_K g g' ∧ c_Q S g' ∧ r = some (a.map fun v => (v, g'))
def m_A (g : ob_St) (a : Option Int64) (r : Option (Int64 × ob_St)) : Prop := ∃ g', r = some (a.getD 0, g') ∧ m_K g g' ∧ m_Q g' ∧ g'.1 0 0 = bI a.isNone
def m_Th (g : ob_St) (v : Int32) : ob_St := (ob_up g.1 0 0 v, g.2)
theorem m_Q_th {g : ob_St} {v : Int32} (h : m_Q g) : m_Q (m_Th g v) := h
theorem m_K_th {g : ob_St} {v : Int32} : m_K g (m_Th g v) :=
  ⟨fun n h1 _ _ => pu_up_ne h1, fun i h1 _ => by
    show upd (g.1 0) 0 v i = _
    exact pu_upd_ne h1, fun _ _ => rfl⟩
theorem m_Th_0 {g : ob_St} {v : Int32} : (m_Th g v).1 0 0 = v := rfl
theorem m_throws {g : ob_St} {b : Bool} : f_X12_throwsIf g 0 (bI b) = some (bI b, m_Th g (bI b)) := by cases b <;> rfl
theorem m_Laid_Q {g : ob_St} (hW : sp_WF (g.1 1)) (h : g.1 0 19 = 1) (hL : m_Laid g) : m_Q g := ⟨hW, Or.inr ⟨h, hL⟩⟩
/-- the reference lays, if it may -/
theorem m_layTh {g : ob_St} {v : Int32} (hQ : m_Q g) : ∃ g', f_X12_lays (m_Th g v) 0 = some g' ∧ m_K g g' ∧ m_Q g' ∧ g'.1 0 0 = v ∧ m_Laid g' ∧ g'.1 1 = g.1 1 := by
  obtain ⟨g', h1, h2, h3, h4, h5⟩ := m_lays (m_Q_th (v := v) hQ)
  have e : g'.1 1 = g.1 1 := h2.1 1 (by omega) (by omega) (by omega)
  exact ⟨g', h1, m_K_tr m_K_th h2, m_Laid_Q (by rw [e]; exact hQ.1) h4 h5, h3.trans m_Th_0, h5, e⟩
theorem m_isNone {g : ob_St} {x1 x2 x3 x4 : Int32} (hQ : m_Q g) : ((qO (g.1 1) x1 && qN (g.1 1) x2 x3 && qB x4) = false ∧ f_X12_isNone g 0 x1 x2 x3 x4 = some (1, m_Th g 1)) ∨
    ((qO (g.1 1) x1 && qN (g.1 1) x2 x3 && qB x4) = true ∧ ∃ g', f_X12_isNone g 0 x1 x2 x3 x4 = some (0, g') ∧ m_K g g' ∧ m_Q g' ∧ g'.1 0 0 = 0 ∧ m_Laid g' ∧ g'.1 1 = g.1 1) := by
  have t1 : f_X12_throwsIf g 0 1 = some (1, m_Th g 1) := m_throws (b := true)
  have t0 : f_X12_throwsIf g 0 0 = some (0, m_Th g 0) := m_throws (b := false)
  have n10 : ¬ (1 : Int32) = 0 := by decide
  have bad : B_X12_isNone_26 g 0 0 = some (1, m_Th g 1) := by
    unfold B_X12_isNone_26 B_X12_isNone_31
    rw [t1, ev_ck0, Option.bind_some]
    exact if_neg n10
  unfold f_X12_isNone
  rw [m_isOption hQ.1, ev_ck0, Option.bind_some, bI_if, m_isNode, ev_ck0, Option.bind_some, bI_if, m_isPart, Option.bind_some, bI_if]
  by_cases c1 : qO (g.1 1) x1 = true
  · rw [if_pos c1, c1]
    by_cases c2 : qN (g.1 1) x2 x3 = true
    · rw [if_pos c2, c2]
      by_cases c3 : qB x4 = true
      · right
        rw [if_pos c3, c3]
        obtain ⟨g', h1, h2⟩ := m_layTh (v := 0) hQ
        refine ⟨rfl, g', ?_, h2⟩
        unfold B_X12_isNone_31
        rw [t0, ev_ck0, Option.bind_some, if_pos rfl, h1, ev_ck0, Option.bind_some]
      · left
        rw [if_neg c3]
        rw [Bool.not_eq_true] at c3
        rw [c3]
        exact ⟨rfl, bad⟩
    · left
      rw [if_neg c2]
      rw [Bool.not_eq_true] at c2
      rw [c2]
      exact ⟨rfl, bad⟩
  · left
    rw [if_neg c1]
    rw [Bool.not_eq_true] at c1
    rw [c1]
    exact ⟨rfl, bad⟩
theorem c_Lat_Q {S : Nat → Int32} {g : ob_St} (hW : sp_WF S) (hM : c_M 24 S g) (h : g.1 67 6 = 0) (hL : c_Lat S g) : c_Q S g := ⟨hW, hM, Or.inr ⟨h, hL⟩⟩
theorem c_sheetOf {S : Nat → Int32} {g : ob_St} {k : Nat} (hQ : c_Q S g) (hk : k < sN S 29) : ∃ g', f_X11_sheetOf g 20 (nI k) = some (72 + 8 * k, g') ∧ c_K g g' ∧ c_Q S g' ∧ c_M 24 S g' ∧ c_Lat S g' ∧ g'.1 67 6 = 0 := by
  obtain ⟨g', h1, h2, h3, h4, h5⟩ := c_refresh hQ
  have hk4 := wf_4 hQ.1
  refine ⟨g', ?_, h2, c_Lat_Q hQ.1 h3 h4 h5, h3, h5, h4⟩
  unfold f_X11_sheetOf
  rw [ev_r20_8, Option.bind_some, h1, ev_ck67, Option.bind_some, Option.bind_some, ev_r67_4, Option.bind_some, ew_71 (by omega), Option.bind_some]
/-! pays, value, plain, held, stands -/
def sp_sb (S : Nat → Int32) (R : Nat → Nat → Int64) (t j : Nat) : Int64 := if t = sN S 2 then 0 else R (t + 1) (j + 1) - R (t + 1) j
def sp_st (S : Nat → Int32) (k t j : Nat) : Int64 := if sp_D S k t j = 2 then 0 else if sp_D S k t j = 3 then sp_sb S (sp_L S k) t j else sp_sb S (sp_V S k) t j
def an_node (S : Nat → Int32) (X : Nat → Nat → Nat → Int64) (x1 x2 x3 x4 : Int32) : Option Int64 :=
  if (qO S x1 && qN S x2 x3 && qB x4) = true then some (sp_told (X x1.toNatClampNeg x2.toNatClampNeg x3.toNatClampNeg) (sp_sc S x2.toNatClampNeg) x4) else none
theorem an_and {a b c : Bool} : (a && b && c) = true ↔ a = true ∧ b = true ∧ c = true := by cases a <;> cases b <;> cases c <;> decide
theorem bd_gt {x : Int64} {X : Nat} (h : bd x X) : -9223372036854775808 < x.toInt := by have := h.1; omega
theorem bd_sb {S : Nat → Int32} {R : Nat → Nat → Int64} {t j : Nat} (hW : sp_WF S) (hj : j ≤ t) (hR : ∀ t j, t ≤ sN S 2 → j ≤ t → bd (R t j) (2394 * sN S 1 ^ (sN S 2 - t))) (ht : t ≤ sN S 2) :
    -(2394 * 282429536481) ≤ (sp_sb S R t j).toInt ∧ (sp_sb S R t j).toInt ≤ 2394 * 282429536481 := by
  have h12 := wf_12 hW
  unfold sp_sb
  by_cases e : t = sN S 2
  · rw [if_pos e, nu_0]; omega
  · rw [if_neg e]
    have h1 := hR (t + 1) (j + 1) (by omega) (by omega)
    have h2 := hR (t + 1) j (by omega) (by omega)
    have hw := sp_wle hW (i := sN S 2 - (t + 1)) (by omega)
    generalize sN S 1 ^ (sN S 2 - (t + 1)) = X at *
    have a1 := h1.1; have a2 := h1.2; have a3 := h2.1; have a4 := h2.2
    rw [nu_sub (by omega) (by omega)]
    omega
theorem bd_st {S : Nat → Int32} {k t j : Nat} (hW : sp_WF S) (hk : k < sN S 29) (ht : t ≤ sN S 2) (hj : j ≤ t) : -(2394 * 282429536481) ≤ (sp_st S k t j).toInt ∧ (sp_st S k t j).toInt ≤ 2394 * 282429536481 := by
  unfold sp_st
  split
  · rw [nu_0]; omega
  · split
    · exact bd_sb hW hj (fun t j a b => bd_L hW hk a b) ht
    · exact bd_sb hW hj (fun t j a b => bd_V hW hk a b) ht
theorem gt_st {S : Nat → Int32} {k t j : Nat} (hW : sp_WF S) (hk : k < sN S 29) (ht : t ≤ sN S 2) (hj : j ≤ t) : -9223372036854775808 < (sp_st S k t j).toInt := by have := (bd_st hW hk ht hj).1; omega
theorem m_standsBy {g : ob_St} {r k t j : Nat} (hr : ob_kd r = 15) (hl : ob_ln r = 676) (hW : sp_WF (g.1 1)) (hk : k < 4) (ht : t ≤ sN (g.1 1) 2) (hj : j ≤ t) :
    f_X12_standsBy g 0 r (nI k) (nI t) (nI j) = some (sp_sb (g.1 1) (fun t j => g.2 r (169 * k + 13 * t + j)) t j) := by
  have h12 := wf_12 hW
  simp (disch := omega) only [f_X12_standsBy, wf_2 hW, nI_eq, m_cell, Option.bind_some, pu_add, pu_addr, pu_mul, nI_1, nI_add, pk_mul, ev_ck0, ev_g0, ev_p0, ev_r0_1, ev_r0_2, ev_r0_3, ev_r0_4, ev_r0_5, ev_r0_7, ev_r0_17, ev_r0_18, ev_r0_20, ev_r0_21, ev_r0_22, ev_r0_23, ev_r0_24, ev_r0_25, ev_r0_26, ev_r0_27, ev_r0_28, ev_r0_29, ev_a1, ev_l1, ev_w1, ev_a2, ev_l2, ev_w2, ev_a3, ev_l3, ev_w3, ev_a4, ev_l4, ev_w4, ev_a5, ev_l5, ev_a6, ev_l6, ev_w6, ev_a7, ev_l7, ev_w7, ev_a8, ev_l8, ev_w8, ev_a9, ev_w9, ev_a10, ev_w10, ev_a11, ev_w11, ev_a12, ev_l12, ev_w12, ev_a13, ev_l13, ev_w13, ev_a14, ev_w14, ev_a15, ev_w15, ev_a16, ev_w16, ev_a17, ev_w17, ev_a18, ev_w18]
  unfold sp_sb
  by_cases h : t = sN (g.1 1) 2
  · rw [if_pos h, if_pos h]
  · rw [if_neg h, if_neg h, pu_rL (n := r) hr rfl (by omega), pu_rL (n := r) hr rfl (by omega)]
    rfl
theorem sp_sb_loc {S : Nat → Int32} {R R' : Nat → Nat → Int64} {t j : Nat} (ht : t ≤ sN S 2) (hj : j ≤ t) (h : ∀ t j, t ≤ sN S 2 → j ≤ t → R t j = R' t j) : sp_sb S R t j = sp_sb S R' t j := by
  unfold sp_sb
  by_cases h1 : t = sN S 2
  · rw [if_pos h1, if_pos h1]
  · rw [if_neg h1, if_neg h1, h _ _ (by omega) (by omega), h _ _ (by omega) (by omega)]
theorem m_standsAt {g : ob_St} {k t j : Nat} (hW : sp_WF (g.1 1)) (hL : m_Laid g) (hk : k < sN (g.1 1) 29) (ht : t ≤ sN (g.1 1) 2) (hj : j ≤ t) : f_X12_standsAt g 0 (nI k) (nI t) (nI j) = some (sp_st (g.1 1) k t j) := by
  have h12 := wf_12 hW
  have h4 := wf_4 hW
  have hd : g.1 12 (169 * k + 13 * t + j) = sp_D (g.1 1) k t j := (hL.2 k hk t j ht hj).2.2.2
  have e10 : sp_sb (g.1 1) (fun t j => g.2 10 (169 * k + 13 * t + j)) t j = sp_sb (g.1 1) (sp_L (g.1 1) k) t j := sp_sb_loc ht hj (fun t j a b => (hL.2 k hk t j a b).1)
  have e9 : sp_sb (g.1 1) (fun t j => g.2 9 (169 * k + 13 * t + j)) t j = sp_sb (g.1 1) (sp_V (g.1 1) k) t j := sp_sb_loc ht hj (fun t j a b => (hL.2 k hk t j a b).2.1)
  simp (disch := omega) only [f_X12_standsAt, B_X12_standsAt_41, m_cell, hd, m_standsBy (r := 10) rfl rfl hW (show k < 4 by omega) ht hj, m_standsBy (r := 9) rfl rfl hW (show k < 4 by omega) ht hj, e10, e9, Option.bind_some, pu_add, pu_addr, pu_mul, nI_1, nI_add, pk_mul, ev_ck0, ev_g0, ev_p0, ev_r0_1, ev_r0_2, ev_r0_3, ev_r0_4, ev_r0_5, ev_r0_7, ev_r0_17, ev_r0_18, ev_r0_20, ev_r0_21, ev_r0_22, ev_r0_23, ev_r0_24, ev_r0_25, ev_r0_26, ev_r0_27, ev_r0_28, ev_r0_29, ev_a1, ev_l1, ev_w1, ev_a2, ev_l2, ev_w2, ev_a3, ev_l3, ev_w3, ev_a4, ev_l4, ev_w4, ev_a5, ev_l5, ev_a6, ev_l6, ev_w6, ev_a7, ev_l7, ev_w7, ev_a8, ev_l8, ev_w8, ev_a9, ev_w9, ev_a10, ev_w10, ev_a11, ev_w11, ev_a12, ev_l12, ev_w12, ev_a13, ev_l13, ev_w13, ev_a14, ev_w14, ev_a15, ev_w15, ev_a16, ev_w16, ev_a17, ev_w17, ev_a18, ev_w18]
  unfold sp_st
  split
  · rfl
  · split <;> rfl
theorem c_standingBy {S : Nat → Int32} {g : ob_St} {p r t j : Nat} (hp : ob_gR 4 p 0 = some r) (hr : ob_kd r = 15) (hl : ob_ln r = 91) (hW : sp_WF S) (hM : c_M 24 S g) (ht : t ≤ sN S 2) (hj : j ≤ t) :
    f_X3_standingBy g 67 p (nI t) (nI (nd t j)) = some (sp_sb S (fun t j => g.2 r (nd t j)) t j) := by
  have h12 := wf_12 hW
  have h5 : g.1 24 5 = nI (sN S 2) := hM.2.2.1.trans (wf_2 hW)
  simp (disch := omega) only [f_X3_standingBy, h5, nI_ltI, c_upFrom, c_downFrom, hp, Option.bind_some, pu_add, pu_addr, pu_mul, nI_1, nI_add, pk_mul, ev_ck20, ev_g20, ev_p20, ev_r20_0, ev_r20_3, ev_r20_4, ev_r20_5, ev_r20_6, ev_r20_7, ev_r20_8, ev_r20_9, ev_r20_10, ev_r20_11, ev_a21, ev_l21, ev_w21, ev_q22_0, ev_q22_1, ev_a23, ev_l23, ev_ck24, ev_g24, ev_p24, ev_r24_0, ev_r24_1, ev_r24_2, ev_a25, ev_l25, ev_w25, ev_a26, ev_l26, ev_w26, ev_q27_0, ev_q27_1, ev_q27_2, ev_q27_3, ev_ck28, ev_g28, ev_p28, ev_ck29, ev_g29, ev_p29, ev_ck30, ev_g30, ev_p30, ev_ck31, ev_g31, ev_p31, ev_ck32, ev_g32, ev_p32, ev_r32_0, ev_r32_1, ev_r32_2, ev_a33, ev_l33, ev_w33, ev_a34, ev_l34, ev_w34, ev_q35_0, ev_q35_1, ev_q35_2, ev_q35_3, ev_ck36, ev_g36, ev_p36, ev_ck37, ev_g37, ev_p37, ev_ck38, ev_g38, ev_p38, ev_ck39, ev_g39, ev_p39, ev_ck40, ev_g40, ev_p40, ev_r40_0, ev_r40_1, ev_r40_2, ev_a41, ev_l41, ev_w41, ev_a42, ev_l42, ev_w42, ev_q43_0, ev_q43_1, ev_q43_2, ev_q43_3, ev_ck44, ev_g44, ev_p44, ev_ck45, ev_g45, ev_p45, ev_ck46, ev_g46, ev_p46, ev_ck47, ev_g47, ev_p47, ev_ck48, ev_g48, ev_p48, ev_r48_0, ev_r48_1, ev_r48_2, ev_a49, ev_l49, ev_w49, ev_a50, ev_l50, ev_w50, ev_q51_0, ev_q51_1, ev_q51_2, ev_q51_3, ev_ck52, ev_g52, ev_p52, ev_ck53, ev_g53, ev_p53, ev_ck54, ev_g54, ev_p54, ev_ck55, ev_g55, ev_p55, ev_ck56, ev_g56, ev_p56, ev_r56_0, ev_r56_3, ev_r56_4, ev_ck57, ev_g57, ev_p57, ev_r57_0, ev_r57_1, ev_r57_2, ev_r57_3, ev_r57_4, ev_a58, ev_l58, ev_w58, ev_a59, ev_l59, ev_w59, ev_a60, ev_w60, ev_a61, ev_w61, ev_a62, ev_w62, ev_ck63, ev_g63, ev_p63, ev_r63_0, ev_r63_1, ev_r63_2, ev_a64, ev_l64, ev_w64, ev_a65, ev_l65, ev_w65, ev_a66, ev_l66, ev_w66, ev_ck67, ev_g67, ev_p67, ev_r67_0, ev_r67_1, ev_r67_2, ev_r67_3, ev_r67_4, ev_r67_5, ev_a68, ev_l68, ev_w68, ev_a69, ev_l69, ev_w69, ev_a70, ev_w70, ev_q71_0, ev_q71_1, ev_q71_2, ev_q71_3, ev_ck72, ev_g72, ev_p72, ev_r72_0, ev_r72_1, ev_r72_2, ev_a73, ev_w73, ev_ck74, ev_g74, ev_p74, ev_r74_0, ev_r74_1, ev_a75, ev_w75, ev_a76, ev_l76, ev_w76, ev_ck77, ev_g77, ev_p77, ev_r77_0, ev_r77_1, ev_a78, ev_w78, ev_a79, ev_l79, ev_w79, ev_ck80, ev_g80, ev_p80, ev_r80_0, ev_r80_1, ev_r80_2, ev_a81, ev_w81, ev_ck82, ev_g82, ev_p82, ev_r82_0, ev_r82_1, ev_a83, ev_w83, ev_a84, ev_l84, ev_w84, ev_ck85, ev_g85, ev_p85, ev_r85_0, ev_r85_1, ev_a86, ev_w86, ev_a87, ev_l87, ev_w87, ev_ck88, ev_g88, ev_p88, ev_r88_0, ev_r88_1, ev_r88_2, ev_a89, ev_w89, ev_ck90, ev_g90, ev_p90, ev_r90_0, ev_r90_1, ev_a91, ev_w91, ev_a92, ev_l92, ev_w92, ev_ck93, ev_g93, ev_p93, ev_r93_0, ev_r93_1, ev_a94, ev_w94, ev_a95, ev_l95, ev_w95, ev_ck96, ev_g96, ev_p96, ev_r96_0, ev_r96_1, ev_r96_2, ev_a97, ev_w97, ev_ck98, ev_g98, ev_p98, ev_r98_0, ev_r98_1, ev_a99, ev_w99, ev_a100, ev_l100, ev_w100, ev_ck101, ev_g101, ev_p101, ev_r101_0, ev_r101_1, ev_a102, ev_w102, ev_a103, ev_l103, ev_w103, ev_ck104, ev_g104, ev_p104, ev_r104_0, ev_r104_1, ev_r104_2, ev_a105, ev_w105, ev_ck106, ev_g106, ev_p106, ev_r106_0, ev_r106_1, ev_a107, ev_w107, ev_a108, ev_l108, ev_w108, ev_ck109, ev_g109, ev_p109, ev_r109_0, ev_r109_1, ev_a110, ev_w110, ev_a111, ev_l111, ev_w111, ev_ck112, ev_g112, ev_p112, ev_r112_0, ev_r112_1, ev_r112_2, ev_a113, ev_w113, ev_a114, ev_w114, ev_ck115, ev_g115, ev_p115, ev_r115_0, ev_r115_1, ev_r115_2, ev_q116_0, ev_q116_1, ev_a117, ev_w117, ev_a118, ev_w118, ev_q119_0, ev_q119_1, ev_a120, ev_l120, ev_w120, ev_a121, ev_l121, ev_w121, ev_ck122, ev_g122, ev_p122, ev_r122_0, ev_r122_1, ev_r122_2, ev_r122_3, ev_a123, ev_w123, ev_a124, ev_w124, ev_a125, ev_l125, ev_w125]
  unfold sp_sb
  by_cases h : t = sN S 2
  · rw [if_pos h, if_neg (by omega)]
  · have hu := nd_lt (t := t + 1) (j := j + 1) (by omega) (by omega)
    have hd := nd_lt (t := t + 1) (j := j) (by omega) (by omega)
    rw [if_neg h, if_pos (by omega), pu_rL (n := r) hr rfl (by omega), pu_rL (n := r) hr rfl (by omega)]
    rfl
theorem c_standing {S : Nat → Int32} {g : ob_St} {k t j : Nat} (hW : sp_WF S) (hM : c_M 24 S g) (hL : c_Lat S g) (hk : k < sN S 29) (ht : t ≤ sN S 2) (hj : j ≤ t) : f_X3_standing g 67 (72 + 8 * k) (nI t) (nI (nd t j)) = some (sp_st S k t j) := by
  have h12 := wf_12 hW
  have h4 := wf_4 hW
  have hn := c_Sh_k (k := k) (by omega)
  have hkk := es_k hn
  have hl := nd_lt (t := t) (j := j) (by omega) hj
  have hd : g.1 (72 + 8 * k + 7) (nd t j) = sp_D S k t j := (hL.2 k hk t j ht hj).2.2.2.2
  have e3 : sp_sb S (fun t j => g.2 (72 + 8 * k + 3) (nd t j)) t j = sp_sb S (sp_L S k) t j := sp_sb_loc ht hj (fun t j a b => (hL.2 k hk t j a b).2.1)
  have e6 : sp_sb S (fun t j => g.2 (72 + 8 * k + 6) (nd t j)) t j = sp_sb S (sp_V S k) t j := sp_sb_loc ht hj (fun t j a b => (hL.2 k hk t j a b).2.2.2.1)
  have s3 := c_standingBy (g := g) (es_p0 hn) hkk.2.1.1 hkk.2.1.2 hW hM ht hj
  have s6 := c_standingBy (g := g) (es_b0 hn) hkk.2.2.2.1.1 hkk.2.2.2.1.2 hW hM ht hj
  simp only [f_X3_standing, B_X3_standing_37, es_2 hn, es_1 hn, es_b1 hn, es_a7 hn hl, hd, s3, s6, e3, e6, Option.bind_some, ev_ck67]
  unfold sp_st
  split
  · rfl
  · split <;> rfl
