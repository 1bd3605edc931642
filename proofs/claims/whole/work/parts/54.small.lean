/-! count, step, option, fault, feed, end -/
theorem Inv_th {g : ob_St} (hI : Inv g) : Inv (m_Th g 0) := Inv_q hI (c_K_refl g) hI.2.1 (m_K_K m_K_th) (m_Q_th hI.1)
def an_count (g : ob_St) (x : Int32) : Int32 := if x = 0 then g.1 1 2 else if x = 1 then g.1 1 29 else if x = 2 then g.1 1 1 else if x = 3 then g.1 1 0 else if x = 4 then sp_cf (g.1 1) 0 else if x = 5 then g.1 0 6 else if x = 6 then g.1 0 8 else -1
theorem c_count {g : ob_St} {x : Int32} (hI : Inv g) : f_X11_count g 20 x = some (an_count g x) := by
  obtain ⟨i1, ⟨hW, hM, hL⟩, ⟨n, n1, n2, n3, n4, n5⟩, i4, ⟨u, u1, u2, u3, u4⟩, i6⟩ := hI
  have cf : f_X5_cashFrom g 24 0 = some (sp_cf (g.1 1) 0) := c_cashFrom (t := 0) hW hM (by omega)
  unfold f_X11_count an_count
  simp only [ev_r20_3, ev_r20_7, ev_g24, ev_g20, ev_g63, ev_ck24, cf, Option.bind_some, hM.1, hM.2.1, hM.2.2.1, hM.2.2.2.1, u2, u3, n2, n3]
  by_cases k0 : x = 0
  · rw [if_pos k0, if_pos k0]
  rw [if_neg k0, if_neg k0]
  by_cases k1 : x = 1
  · rw [if_pos k1, if_pos k1]
  rw [if_neg k1, if_neg k1]
  by_cases k2 : x = 2
  · rw [if_pos k2, if_pos k2]
  rw [if_neg k2, if_neg k2]
  by_cases k3 : x = 3
  · rw [if_pos k3, if_pos k3]
  rw [if_neg k3, if_neg k3]
  by_cases k4 : x = 4
  · rw [if_pos k4, if_pos k4]
  rw [if_neg k4, if_neg k4]
  by_cases k5 : x = 5
  · rw [if_pos k5, if_pos k5]
  rw [if_neg k5, if_neg k5]
  by_cases k6 : x = 6
  · rw [if_pos k6, if_pos k6]
  rw [if_neg k6, if_neg k6]
theorem m_count {g : ob_St} {x : Int32} (hW : sp_WF (g.1 1)) : f_X12_count g 0 x = some (an_count g x, m_Th g 0) := by
  have cf : f_X12_cashFrom (m_Th g 0) 0 0 = some (sp_cf (g.1 1) 0) := m_cashFrom (g := m_Th g 0) (t := 0) hW (by omega)
  have p : ob_pI g 12 0 0 0 = some (m_Th g 0) := rfl
  have q : ∀ i, i < 70 → (m_Th g 0).1 1 i = g.1 1 i := fun i _ => rfl
  have q6 : (m_Th g 0).1 0 6 = g.1 0 6 := rfl
  have q8 : (m_Th g 0).1 0 8 = g.1 0 8 := rfl
  unfold f_X12_count an_count
  rw [p, Option.bind_some]
  simp only [ev_r0_1, ev_g0, ev_ck0, cf, Option.bind_some, q6, q8]
  rw [ev_l1 (by omega), ev_l1 (by omega), ev_l1 (by omega), ev_l1 (by omega)]
  have q1 : (m_Th g 0).1 1 = g.1 1 := rfl
  simp only [Option.bind_some, q1]
  by_cases k0 : x = 0
  · rw [if_pos k0, if_pos k0]
  rw [if_neg k0, if_neg k0]
  by_cases k1 : x = 1
  · rw [if_pos k1, if_pos k1]
  rw [if_neg k1, if_neg k1]
  by_cases k2 : x = 2
  · rw [if_pos k2, if_pos k2]
  rw [if_neg k2, if_neg k2]
  by_cases k3 : x = 3
  · rw [if_pos k3, if_pos k3]
  rw [if_neg k3, if_neg k3]
  by_cases k4 : x = 4
  · rw [if_pos k4, if_pos k4]
  rw [if_neg k4, if_neg k4]
  by_cases k5 : x = 5
  · rw [if_pos k5, if_pos k5]
  rw [if_neg k5, if_neg k5]
  by_cases k6 : x = 6
  · rw [if_pos k6, if_pos k6]
  rw [if_neg k6, if_neg k6]
def qF (S : Nat → Int32) (x : Int32) : Bool := if x < 1 then false else if S 2 < x then false else true
theorem qF_e {S : Nat → Int32} {x : Int32} (hW : sp_WF S) (h : qF S x = true) : ∃ t, 1 ≤ t ∧ t ≤ sN S 2 ∧ x = nI t := by
  have h12 := wf_12 hW
  unfold qF at h
  by_cases h1 : x < 1
  · rw [if_pos h1] at h; exact absurd h (by decide)
  rw [if_neg h1] at h
  by_cases h2 : S 2 < x
  · rw [if_pos h2] at h; exact absurd h (by decide)
  have h0 : ¬ x < 0 := fun z => h1 (by rw [ni_lt] at z ⊢; rw [ni_0] at z; show x.toInt < 1; omega)
  obtain ⟨j, hj, rfl⟩ := nI_of h0
  rw [wf_2 hW, nI_ltI (by omega) hj] at h2
  have : ¬ j < 1 := fun z => h1 (nI_lt (a := j) (b := 1) z (by omega))
  exact ⟨j, by omega, by omega, rfl⟩
theorem m_isIn1 {x b : Int32} : f_X12_isIn x 1 b = some (bI (if x < 1 then false else if b < x then false else true)) := by
  unfold f_X12_isIn
  by_cases h1 : x < 1
  · rw [if_pos h1, if_pos h1]; rfl
  rw [if_neg h1, if_neg h1]
  by_cases h2 : b < x
  · rw [if_pos h2, if_pos h2]; rfl
  · rw [if_neg h2, if_neg h2]; rfl
def an_step (S : Nat → Int32) (x1 x2 : Int32) : Int32 := if x2 = 0 then (if qF S x1 = true then S (3 + x1.toNatClampNeg) else -1) else if x2 = 1 then (if qT S x1 = true then S (16 + x1.toNatClampNeg) else -1) else -1
theorem c_step {S : Nat → Int32} {g : ob_St} {x1 x2 : Int32} (hW : sp_WF S) (hM : c_M 24 S g) : f_X11_step g 20 x1 x2 = some (an_step S x1 x2) := by
  have h12 := wf_12 hW
  unfold f_X11_step B_X11_step_30 an_step
  simp only [ev_r20_3, ev_g24, hM.2.2.1, ev_r24_0, ev_r24_1, c_isStep hM, ev_ck20, Option.bind_some, bI_if]
  by_cases c0 : x2 = 0
  · subst c0
    have n01 : ¬ (0 : Int32) = 1 := by decide
    rw [if_pos rfl, if_pos rfl, if_neg n01]
    unfold qF
    by_cases c1 : x1 < 1
    · rw [if_pos c1, if_pos c1]; rfl
    rw [if_neg c1, if_neg c1]
    by_cases c2 : S 2 < x1
    · rw [if_pos c2, if_pos c2]; rfl
    · rw [if_neg c2, if_neg c2]
      obtain ⟨t, t1, t2, rfl⟩ := qF_e (S := S) (x := x1) hW (by unfold qF; rw [if_neg c1, if_neg c2])
      rw [if_pos rfl, ev_a25 (by omega), Option.bind_some, nI_clamp (by omega), (hM.2.2.2.2.1 t (by omega)).1]
  · rw [if_neg c0, if_neg c0]
    by_cases c1 : x2 = 1
    · rw [if_pos c1, if_pos c1]
      by_cases c2 : qT S x1 = true
      · rw [if_pos c2, if_pos c2]
        obtain ⟨t, t1, rfl⟩ := qT_e hW c2
        rw [ev_a26 (by omega), Option.bind_some, nI_clamp (by omega), (hM.2.2.2.2.1 t (by omega)).2]
      · rw [if_neg c2, if_neg c2]
    · rw [if_neg c1, if_neg c1]
theorem m_step {g : ob_St} {x1 x2 : Int32} (hW : sp_WF (g.1 1)) : f_X12_step g 0 x1 x2 = some (an_step (g.1 1) x1 x2, m_Th g 0) := by
  have h12 := wf_12 hW
  have p : ob_pI g 12 0 0 0 = some (m_Th g 0) := rfl
  have q2 : (m_Th g 0).1 1 = g.1 1 := rfl
  have s1 : f_X12_isIn x1 1 ((m_Th g 0).1 1 2) = some (bI (qF (g.1 1) x1)) := m_isIn1
  have s0 : f_X12_isIn x1 0 ((m_Th g 0).1 1 2) = some (bI (qT (g.1 1) x1)) := m_isStep (g := m_Th g 0)
  unfold f_X12_step B_X12_step_32 an_step
  have r2 : ob_rI (m_Th g 0) 14 1 2 = some ((m_Th g 0).1 1 2) := ev_l1 (by omega)
  rw [p, Option.bind_some]
  simp only [ev_r0_1, r2, s1, s0, Option.bind_some, bI_if]
  by_cases c0 : x2 = 0
  · subst c0
    rw [if_pos rfl, if_pos rfl]
    by_cases c2 : qF (g.1 1) x1 = true
    · rw [if_pos c2, if_pos c2]
      obtain ⟨t, t1, t2, rfl⟩ := qF_e hW c2
      rw [pu_add]
      show (ob_rI (m_Th g 0) 14 1 (nI (3 + t))).bind _ = _
      rw [ev_a1 (by omega), Option.bind_some, nI_clamp (by omega), q2]
    · rw [if_neg c2, if_neg c2]; rfl
  · rw [if_neg c0, if_neg c0]
    by_cases c1 : x2 = 1
    · rw [if_pos c1, if_pos c1]
      by_cases c2 : qT (g.1 1) x1 = true
      · rw [if_pos c2, if_pos c2]
        obtain ⟨t, t1, rfl⟩ := qT_e hW c2
        rw [pu_add]
        show (ob_rI (m_Th g 0) 14 1 (nI (16 + t))).bind _ = _
        rw [ev_a1 (by omega), Option.bind_some, nI_clamp (by omega), q2]
      · rw [if_neg c2, if_neg c2]
    · rw [if_neg c1, if_neg c1]
def an_option (S : Nat → Int32) (x1 x2 : Int32) : Int32 := if qO S x1 = true then
  (if x2 = 0 then sp_o S x1.toNatClampNeg 0 else if x2 = 1 then sp_o S x1.toNatClampNeg 1 else if x2 = 2 then sp_o S x1.toNatClampNeg 2 else if x2 = 3 then sp_fm S (sp_o S x1.toNatClampNeg 3) else if x2 = 4 then sp_o S x1.toNatClampNeg 4 else if x2 = 5 then sp_o S x1.toNatClampNeg 5
   else if x2 = 6 then sp_o S x1.toNatClampNeg 6 else if x2 = 7 then sp_o S x1.toNatClampNeg 7 else if x2 = 8 then sp_o S x1.toNatClampNeg 9 else if x2 = 9 then sp_o S x1.toNatClampNeg 8 else -1000000) else -1000000
theorem c_option {S : Nat → Int32} {g : ob_St} {x1 x2 : Int32} (hW : sp_WF S) (hM : c_M 24 S g) : f_X11_option g 20 x1 x2 = some (an_option S x1 x2) := by
  have h12 := wf_12 hW
  have h4 := wf_4 hW
  unfold f_X11_option an_option
  rw [c_isOption hM, ev_ck20, Option.bind_some, bI_if]
  by_cases c1 : qO S x1 = true
  · rw [if_pos c1, if_pos c1]
    obtain ⟨k, hk, rfl⟩ := qO_e hW c1
    have ho := wf_o hW hk
    rw [nI_clamp (by omega)]
    obtain ⟨e0, e1, e2, e3, e4, e5, e6, e7, e8, e9⟩ := hM.2.2.2.2.2 k hk
    have g0 : ∀ f, ob_gI g 1 (28 + k) f = some (g.1 (28 + k) f) := fun f => ew_gc (by omega)
    have e3' : ob_imin (c_fr (sp_o S k 3)) (S 2) = sp_fm S (sp_o S k 3) := by
      unfold ob_imin c_fr sp_fm
      rw [ho.2.2.2.1.1, wf_2 hW]
      rcases ho.2.2.2.1.2 with q | q
      · rw [if_neg (c := nI (sN S (30 + 10 * k + 3)) = 99) (fun z => by
          have := (nI_eq (a := sN S (30 + 10 * k + 3)) (b := 99) (by omega) (by omega)).mp z
          omega)]
        by_cases c : sN S 2 < sN S (30 + 10 * k + 3)
        · rw [if_pos (nI_lt c (by omega)), if_pos (nI_le (by omega) (by omega))]
        · rw [if_neg (nI_nlt (by omega) (by omega))]
          by_cases c2 : sN S 2 = sN S (30 + 10 * k + 3)
          · rw [if_pos (nI_le (by omega) (by omega)), c2]
          · rw [if_neg (nI_ge (by omega) (by omega))]
      · rw [q, if_pos (c := nI 99 = 99) rfl]
        have l1 : nI (sN S 2) < 13 := nI_lt (a := sN S 2) (b := 13) (by omega) (by omega)
        rw [if_pos l1, if_pos (nI_le (by omega) (by omega))]
    have e3'' : ob_imin (g.1 (28 + k) 3) (g.1 24 5) = sp_fm S (sp_o S k 3) := by
      have : g.1 (28 + k) 3 = c_fr (sp_o S k 3) := e3
      rw [this, hM.2.2.1, e3']
    rw [ev_r20_3, Option.bind_some, ev_r24_2, Option.bind_some, ew_27 (by omega), Option.bind_some]
    simp only [g0, Option.bind_some, ev_r20_3, ev_g24, e3'']
    have f0 : g.1 (28 + k) 0 = sp_o S k 0 := e0
    have f1 : g.1 (28 + k) 1 = sp_o S k 1 := e1
    have f2 : g.1 (28 + k) 2 = sp_o S k 2 := e2
    have f4 : g.1 (28 + k) 4 = sp_o S k 4 := e4
    have f5 : g.1 (28 + k) 5 = sp_o S k 5 := e5
    have f6 : g.1 (28 + k) 6 = sp_o S k 6 := e6
    have f7 : g.1 (28 + k) 7 = sp_o S k 7 := e7
    have f8 : g.1 (28 + k) 8 = sp_o S k 8 := e8
    have f9 : g.1 (28 + k) 9 = sp_o S k 9 := e9
    rw [f0, f1, f2, f4, f5, f6, f7, f8, f9]
    by_cases k0 : x2 = 0
    · rw [if_pos k0, if_pos k0]
    rw [if_neg k0, if_neg k0]
    by_cases k1 : x2 = 1
    · rw [if_pos k1, if_pos k1]
    rw [if_neg k1, if_neg k1]
    by_cases k2 : x2 = 2
    · rw [if_pos k2, if_pos k2]
    rw [if_neg k2, if_neg k2]
    by_cases k3 : x2 = 3
    · rw [if_pos k3, if_pos k3]
    rw [if_neg k3, if_neg k3]
    by_cases k4 : x2 = 4
    · rw [if_pos k4, if_pos k4]
    rw [if_neg k4, if_neg k4]
    by_cases k5 : x2 = 5
    · rw [if_pos k5, if_pos k5]
    rw [if_neg k5, if_neg k5]
    by_cases k6 : x2 = 6
    · rw [if_pos k6, if_pos k6]
    rw [if_neg k6, if_neg k6]
    by_cases k7 : x2 = 7
    · rw [if_pos k7, if_pos k7]
    rw [if_neg k7, if_neg k7]
    by_cases k8 : x2 = 8
    · rw [if_pos k8, if_pos k8]
    rw [if_neg k8, if_neg k8]
    by_cases k9 : x2 = 9
    · rw [if_pos k9, if_pos k9]
    rw [if_neg k9, if_neg k9]
  · rw [if_neg c1, if_neg c1]
theorem m_option {g : ob_St} {x1 x2 : Int32} (hW : sp_WF (g.1 1)) : f_X12_option g 0 x1 x2 = some (an_option (g.1 1) x1 x2, m_Th g 0) := by
  have h12 := wf_12 hW
  have h4 := wf_4 hW
  have p : ob_pI g 12 0 0 0 = some (m_Th g 0) := rfl
  have io : f_X12_isOption (m_Th g 0) 0 x1 = some (bI (qO (g.1 1) x1)) := m_isOption (g := m_Th g 0) hW
  unfold f_X12_option an_option
  rw [p, Option.bind_some, io, ev_ck0, Option.bind_some, bI_if]
  by_cases c1 : qO (g.1 1) x1 = true
  · rw [if_pos c1, if_pos c1]
    obtain ⟨k, hk, rfl⟩ := qO_e hW c1
    rw [nI_clamp (by omega)]
    have gt : ∀ w, w < 10 → f_X12_get (m_Th g 0) 0 (nI k) (nI w) = some (sp_o (g.1 1) k w) := fun w hw => m_get (g := m_Th g 0) (by omega)
    have g9 : f_X12_get (m_Th g 0) 0 (nI k) 9 = some (sp_o (g.1 1) k 9) := gt 9 (by omega)
    have g8 : f_X12_get (m_Th g 0) 0 (nI k) 8 = some (sp_o (g.1 1) k 8) := gt 8 (by omega)
    have fm : f_X12_firstMay (m_Th g 0) 0 (nI k) = some (sp_fm (g.1 1) (sp_o (g.1 1) k 3)) := m_firstMay (g := m_Th g 0) (by omega)
    rw [m_isIn0 (S := g.1 1), Option.bind_some, bI_if, fm, ev_ck0, Option.bind_some, g9, ev_ck0, Option.bind_some, g8, ev_ck0, Option.bind_some, ev_ck0]
    by_cases n0 : x2 < 0
    · have ne : ∀ a : Nat, a < 10 → ¬ x2 = nI a := fun a ha z => by rw [z] at n0; exact nI_pos (by omega) n0
      rw [if_pos n0, if_neg (by decide)]
      have a0 : ¬ x2 = 0 := ne 0 (by omega); have a1 : ¬ x2 = 1 := ne 1 (by omega); have a2 : ¬ x2 = 2 := ne 2 (by omega); have a3 : ¬ x2 = 3 := ne 3 (by omega); have a4 : ¬ x2 = 4 := ne 4 (by omega)
      have a5 : ¬ x2 = 5 := ne 5 (by omega); have a6 : ¬ x2 = 6 := ne 6 (by omega); have a7 : ¬ x2 = 7 := ne 7 (by omega); have a8 : ¬ x2 = 8 := ne 8 (by omega); have a9 : ¬ x2 = 9 := ne 9 (by omega)
      rw [if_neg a0, if_neg a1, if_neg a2, if_neg a3, if_neg a4, if_neg a5, if_neg a6, if_neg a7, if_neg a8, if_neg a9]
    · rw [if_neg n0]
      obtain ⟨b, hb, rfl⟩ := nI_of n0
      by_cases n9 : (9 : Int32) < nI b
      · have hb9 : 9 < b := (nI_ltI (a := 9) (b := b) (by omega) hb).mp n9
        have ne : ∀ a : Nat, a < 10 → ¬ nI b = nI a := fun a ha z => by
          have := (nI_eq hb (by omega)).mp z
          omega
        rw [if_pos n9, if_neg (by decide)]
        have a0 : ¬ nI b = 0 := ne 0 (by omega); have a1 : ¬ nI b = 1 := ne 1 (by omega); have a2 : ¬ nI b = 2 := ne 2 (by omega); have a3 : ¬ nI b = 3 := ne 3 (by omega); have a4 : ¬ nI b = 4 := ne 4 (by omega)
        have a5 : ¬ nI b = 5 := ne 5 (by omega); have a6 : ¬ nI b = 6 := ne 6 (by omega); have a7 : ¬ nI b = 7 := ne 7 (by omega); have a8 : ¬ nI b = 8 := ne 8 (by omega); have a9 : ¬ nI b = 9 := ne 9 (by omega)
        rw [if_neg a0, if_neg a1, if_neg a2, if_neg a3, if_neg a4, if_neg a5, if_neg a6, if_neg a7, if_neg a8, if_neg a9]
      · have hb9 : b ≤ 9 := by
          rcases Nat.lt_or_ge 9 b with q | q
          · exact absurd (nI_lt (a := 9) (b := b) q (by omega)) n9
          · exact q
        rw [if_neg n9, if_pos rfl, gt b (by omega), Option.bind_some]
        rcases (by omega : b = 0 ∨ b = 1 ∨ b = 2 ∨ b = 3 ∨ b = 4 ∨ b = 5 ∨ b = 6 ∨ b = 7 ∨ b = 8 ∨ b = 9) with rfl | rfl | rfl | rfl | rfl | rfl | rfl | rfl | rfl | rfl <;> rfl
  · rw [if_neg c1, if_neg c1]
/-! the tape -/
def bt (x : Int32) (j : Nat) : Int32 := (x >>> (nI (24 - 8 * j) &&& 31)).toInt8.toInt32
theorem bt_ok (x : Int32) (j : Nat) : by_ok (bt x j) := by
  unfold by_ok bt
  rw [Int8.toInt_toInt32]
  have h1 := Int8.le_toInt (x >>> (nI (24 - 8 * j) &&& 31)).toInt8
  have h2 := Int8.toInt_lt (x >>> (nI (24 - 8 * j) &&& 31)).toInt8
  omega
theorem bt_u (x : Int32) {j : Nat} (hj : j < 4) : (x.toUInt32 >>> ((nI (24 - 8 * j)).toUInt32 &&& Int32.toUInt32 31)).toInt32.toInt8.toInt32 = bt x j := by
  have hs : ∀ j, j < 4 → ((nI (24 - 8 * j) &&& 31).toBitVec.smod 32).toNat = 24 - 8 * j := by decide +kernel
  have hu : ∀ j, j < 4 → (((nI (24 - 8 * j)).toUInt32 &&& Int32.toUInt32 31).toBitVec % 32).toNat = 24 - 8 * j := by decide +kernel
  unfold bt
  refine congrArg Int8.toInt32 ?_
  have e1 := pk_shr x (nI (24 - 8 * j) &&& 31) (24 - 8 * j) (hs j hj)
  have e2 := pk_ushr x (nI (24 - 8 * j)) (24 - 8 * j) (hu j hj)
  generalize (x.toUInt32 >>> ((nI (24 - 8 * j)).toUInt32 &&& Int32.toUInt32 31)).toInt32 = u at *
  generalize x >>> (nI (24 - 8 * j) &&& 31) = s at *
  have b1 : u.toBitVec = x.toBitVec >>> (24 - 8 * j) := BitVec.eq_of_toNat_eq (by rw [e2, BitVec.toNat_ushiftRight, Nat.shiftRight_eq_div_pow])
  have b2 : s.toBitVec = x.toBitVec.sshiftRight (24 - 8 * j) := BitVec.eq_of_toInt_eq (by rw [BitVec.toInt_sshiftRight]; exact e1)
  apply Int8.toBitVec_inj.mp
  rw [Int32.toBitVec_toInt8, Int32.toBitVec_toInt8, b1, b2, BitVec.signExtend_eq_setWidth_of_le _ (by omega), BitVec.signExtend_eq_setWidth_of_le _ (by omega)]
  apply BitVec.eq_of_getLsbD_eq
  intro i hi
  rw [BitVec.getLsbD_setWidth, BitVec.getLsbD_setWidth, BitVec.getLsbD_ushiftRight, BitVec.getLsbD_sshiftRight, if_pos (by omega), decide_eq_false (by omega : ¬ 32 ≤ i)]
  rfl

theorem c_ap1 {g : ob_St} {x : Int32} {n j f : Nat} (hj : j < 4) (hn : n < 540) (hg : g.1 20 1 = nI n) : L_X11_append_3 20 x (f + 1) g (nI (24 - 8 * j)) = L_X11_append_3 20 x f (ob_up (ob_up g.1 21 n (bt x j)) 20 1 (nI (n + 1)), g.2) (nI (24 - 8 * j) + -8) := by
  show Lb_X11_append_3 _ _ _ _ _ = _
  unfold Lb_X11_append_3
  rw [if_neg (nI_pos (by omega)), ev_r20_0, Option.bind_some, ev_g20, Option.bind_some, hg, ev_w21 hn, Option.bind_some, ev_g20, Option.bind_some]
  dsimp only
  rw [pu_up_ne (by omega), hg, nI_1, pk_vb, bt_u x hj, ev_p20, Option.bind_some]
def c_TF (g0 g : ob_St) : Prop := (∀ m, m ≠ 20 → m ≠ 21 → g.1 m = g0.1 m) ∧ (∀ i, i ≠ 1 → g.1 20 i = g0.1 20 i) ∧ g.2 = g0.2
theorem c_ap {g : ob_St} {x : Int32} {n : Nat} (hn : n + 4 ≤ 540) (hg : g.1 20 1 = nI n) : ∃ g', f_X11_append g 20 x = some g' ∧ c_TF g g' ∧ g'.1 20 1 = nI (n + 4) ∧ (∀ i, i < n → g'.1 21 i = g.1 21 i) ∧ ∀ j, j < 4 → g'.1 21 (n + j) = bt x j := by
  obtain ⟨f, hf⟩ : ∃ f, ob_FU = f + 5 := ⟨4995, rfl⟩
  have key : ∀ j, j ≤ 4 → ∃ g', c_TF g g' ∧ g'.1 20 1 = nI (n + j) ∧ (∀ i, i < n → g'.1 21 i = g.1 21 i) ∧ (∀ q, q < j → g'.1 21 (n + q) = bt x q) ∧ L_X11_append_3 20 x (f + 5) g 24 = L_X11_append_3 20 x (f + 5 - j) g' (if j = 4 then -8 else nI (24 - 8 * j)) := by
    intro j
    induction j with
    | zero => intro _; exact ⟨g, ⟨fun _ _ _ => rfl, fun _ _ => rfl, rfl⟩, hg, fun _ _ => rfl, fun q hq => by omega, rfl⟩
    | succ j ih =>
      intro hj
      obtain ⟨g1, h1, h2, h3, h4, h5⟩ := ih (by omega)
      refine ⟨(ob_up (ob_up g1.1 21 (n + j) (bt x j)) 20 1 (nI (n + j + 1)), g1.2), ⟨fun m a b => ?_, fun i a => ?_, h1.2.2⟩, ?_, fun i hi => ?_, fun q hq => ?_, ?_⟩
      · show ob_up (ob_up g1.1 21 (n + j) (bt x j)) 20 1 (nI (n + j + 1)) m = _
        rw [pu_up_ne a, pu_up_ne b, h1.1 m a b]
      · show ob_up (ob_up g1.1 21 (n + j) (bt x j)) 20 1 (nI (n + j + 1)) 20 i = _
        rw [pu_up_eq, pu_upd_ne a, pu_up_ne (by omega), h1.2.1 i a]
      · show ob_up (ob_up g1.1 21 (n + j) (bt x j)) 20 1 (nI (n + j + 1)) 20 1 = _
        rw [pu_up_eq, pu_upd_eq]
        rfl
      · show ob_up (ob_up g1.1 21 (n + j) (bt x j)) 20 1 (nI (n + j + 1)) 21 i = _
        rw [pu_up_ne (by omega), pu_up_eq, pu_upd_ne (by omega), h3 i hi]
      · show ob_up (ob_up g1.1 21 (n + j) (bt x j)) 20 1 (nI (n + j + 1)) 21 (n + q) = _
        rw [pu_up_ne (by omega), pu_up_eq]
        by_cases e : q = j
        · subst e
          rw [pu_upd_eq]
        · rw [pu_upd_ne (by omega), h4 q (by omega)]
      · rw [h5, if_neg (by omega), show f + 5 - j = (f + 5 - (j + 1)) + 1 by omega, c_ap1 (by omega) (by omega) h2]
        have e : nI (24 - 8 * j) + -8 = (if j + 1 = 4 then -8 else nI (24 - 8 * (j + 1))) := by
          rcases (by omega : j = 0 ∨ j = 1 ∨ j = 2 ∨ j = 3) with rfl | rfl | rfl | rfl <;> decide +kernel
        rw [e]
  obtain ⟨g', h1, h2, h3, h4, h5⟩ := key 4 (by omega)
  refine ⟨g', ?_, h1, h2, h3, h4⟩
  unfold f_X11_append
  rw [hf, h5, if_pos rfl]
  show (Lb_X11_append_3 _ _ _ _ _).bind _ = _
  unfold Lb_X11_append_3
  rw [if_pos (by decide), Option.bind_some]
def c_TP (w : Nat → Int32) (g0 : ob_St) (n0 n : Nat) (g : ob_St) : Prop := c_TF g0 g ∧ g.1 20 1 = nI n ∧ ∀ i, i < n → g.1 21 i = if i < n0 then g0.1 21 i else bt (w ((i - n0) / 4)) ((i - n0) % 4)
theorem c_apP {w : Nat → Int32} {g0 g : ob_St} {n0 q : Nat} (h : c_TP w g0 n0 (n0 + 4 * q) g) (hn : n0 + 4 * q + 4 ≤ 540) : ∃ g', f_X11_append g 20 (w q) = some g' ∧ c_TP w g0 n0 (n0 + 4 * (q + 1)) g' := by
  obtain ⟨h1, h2, h3⟩ := h
  obtain ⟨g', a1, a2, a3, a4, a5⟩ := c_ap (x := w q) hn h2
  refine ⟨g', a1, ⟨fun m x y => (a2.1 m x y).trans (h1.1 m x y), fun i x => (a2.2.1 i x).trans (h1.2.1 i x), a2.2.2.trans h1.2.2⟩, a3, fun i hi => ?_⟩
  by_cases c : i < n0 + 4 * q
  · rw [a4 i c, h3 i c]
  · obtain ⟨j, rfl⟩ : ∃ j, i = n0 + 4 * q + j := ⟨i - (n0 + 4 * q), by omega⟩
    rw [a5 j (by omega), if_neg (by omega), show (n0 + 4 * q + j - n0) / 4 = q by omega, show (n0 + 4 * q + j - n0) % 4 = j by omega]

theorem m_ap1 {g : ob_St} {x : Int32} {n j f : Nat} (hj : j < 4) (hn : n < 540) (hg : g.1 0 8 = nI n) : L_X12_four_3 0 x (f + 1) g (nI (24 - 8 * j)) = L_X12_four_3 0 x f (ob_up (ob_up g.1 6 n (bt x j)) 0 8 (nI (n + 1)), g.2) (nI (24 - 8 * j) + -8) := by
  show Lb_X12_four_3 _ _ _ _ _ = _
  unfold Lb_X12_four_3
  rw [if_neg (nI_pos (by omega)), ev_r0_7, Option.bind_some, ev_g0, Option.bind_some, hg, ev_w6 hn, Option.bind_some, ev_g0, Option.bind_some]
  dsimp only
  rw [pu_up_ne (by omega), hg, nI_1, pk_vb, ev_p0, Option.bind_some]
  rfl
def m_TF (g0 g : ob_St) : Prop := (∀ m, m ≠ 0 → m ≠ 6 → g.1 m = g0.1 m) ∧ (∀ i, i ≠ 8 → g.1 0 i = g0.1 0 i) ∧ g.2 = g0.2
theorem m_ap {g : ob_St} {x : Int32} {n : Nat} (hn : n + 4 ≤ 540) (hg : g.1 0 8 = nI n) : ∃ g', f_X12_four g 0 x = some g' ∧ m_TF g g' ∧ g'.1 0 8 = nI (n + 4) ∧ (∀ i, i < n → g'.1 6 i = g.1 6 i) ∧ ∀ j, j < 4 → g'.1 6 (n + j) = bt x j := by
  obtain ⟨f, hf⟩ : ∃ f, ob_FU = f + 5 := ⟨4995, rfl⟩
  have key : ∀ j, j ≤ 4 → ∃ g', m_TF g g' ∧ g'.1 0 8 = nI (n + j) ∧ (∀ i, i < n → g'.1 6 i = g.1 6 i) ∧ (∀ q, q < j → g'.1 6 (n + q) = bt x q) ∧ L_X12_four_3 0 x (f + 5) g 24 = L_X12_four_3 0 x (f + 5 - j) g' (if j = 4 then -8 else nI (24 - 8 * j)) := by
    intro j
    induction j with
    | zero => intro _; exact ⟨g, ⟨fun _ _ _ => rfl, fun _ _ => rfl, rfl⟩, hg, fun _ _ => rfl, fun q hq => by omega, rfl⟩
    | succ j ih =>
      intro hj
      obtain ⟨g1, h1, h2, h3, h4, h5⟩ := ih (by omega)
      refine ⟨(ob_up (ob_up g1.1 6 (n + j) (bt x j)) 0 8 (nI (n + j + 1)), g1.2), ⟨fun m a b => ?_, fun i a => ?_, h1.2.2⟩, ?_, fun i hi => ?_, fun q hq => ?_, ?_⟩
      · show ob_up (ob_up g1.1 6 (n + j) (bt x j)) 0 8 (nI (n + j + 1)) m = _
        rw [pu_up_ne a, pu_up_ne b, h1.1 m a b]
      · show ob_up (ob_up g1.1 6 (n + j) (bt x j)) 0 8 (nI (n + j + 1)) 0 i = _
        rw [pu_up_eq, pu_upd_ne a, pu_up_ne (by omega), h1.2.1 i a]
      · show ob_up (ob_up g1.1 6 (n + j) (bt x j)) 0 8 (nI (n + j + 1)) 0 8 = _
        rw [pu_up_eq, pu_upd_eq]
        rfl
      · show ob_up (ob_up g1.1 6 (n + j) (bt x j)) 0 8 (nI (n + j + 1)) 6 i = _
        rw [pu_up_ne (by omega), pu_up_eq, pu_upd_ne (by omega), h3 i hi]
      · show ob_up (ob_up g1.1 6 (n + j) (bt x j)) 0 8 (nI (n + j + 1)) 6 (n + q) = _
        rw [pu_up_ne (by omega), pu_up_eq]
        by_cases e : q = j
        · subst e
          rw [pu_upd_eq]
        · rw [pu_upd_ne (by omega), h4 q (by omega)]
      · rw [h5, if_neg (by omega), show f + 5 - j = (f + 5 - (j + 1)) + 1 by omega, m_ap1 (by omega) (by omega) h2]
        have e : nI (24 - 8 * j) + -8 = (if j + 1 = 4 then -8 else nI (24 - 8 * (j + 1))) := by
          rcases (by omega : j = 0 ∨ j = 1 ∨ j = 2 ∨ j = 3) with rfl | rfl | rfl | rfl <;> decide +kernel
        rw [e]
  obtain ⟨g', h1, h2, h3, h4, h5⟩ := key 4 (by omega)
  refine ⟨g', ?_, h1, h2, h3, h4⟩
  unfold f_X12_four
  rw [hf, h5, if_pos rfl]
  show (Lb_X12_four_3 _ _ _ _ _).bind _ = _
  unfold Lb_X12_four_3
  rw [if_pos (by decide), Option.bind_some]
def m_TP (w : Nat → Int32) (g0 : ob_St) (n0 n : Nat) (g : ob_St) : Prop := m_TF g0 g ∧ g.1 0 8 = nI n ∧ ∀ i, i < n → g.1 6 i = if i < n0 then g0.1 6 i else bt (w ((i - n0) / 4)) ((i - n0) % 4)
theorem m_apP {w : Nat → Int32} {g0 g : ob_St} {n0 q : Nat} (h : m_TP w g0 n0 (n0 + 4 * q) g) (hn : n0 + 4 * q + 4 ≤ 540) : ∃ g', f_X12_four g 0 (w q) = some g' ∧ m_TP w g0 n0 (n0 + 4 * (q + 1)) g' := by
  obtain ⟨h1, h2, h3⟩ := h
  obtain ⟨g', a1, a2, a3, a4, a5⟩ := m_ap (x := w q) hn h2
  refine ⟨g', a1, ⟨fun m x y => (a2.1 m x y).trans (h1.1 m x y), fun i x => (a2.2.1 i x).trans (h1.2.1 i x), a2.2.2.trans h1.2.2⟩, a3, fun i hi => ?_⟩
  by_cases c : i < n0 + 4 * q
  · rw [a4 i c, h3 i c]
  · obtain ⟨j, rfl⟩ : ∃ j, i = n0 + 4 * q + j := ⟨i - (n0 + 4 * q), by omega⟩
    rw [a5 j (by omega), if_neg (by omega), show (n0 + 4 * q + j - n0) / 4 = q by omega, show (n0 + 4 * q + j - n0) % 4 = j by omega]

def wd5 (x1 x2 x3 x4 x5 : Int32) (q : Nat) : Int32 := if q = 0 then x1 else if q = 1 then x2 else if q = 2 then x3 else if q = 3 then x4 else x5
theorem c_feed {g : ob_St} {x1 x2 x3 x4 x5 : Int32} {n : Nat} (hg : g.1 20 1 = nI n) (hn : n ≤ 540) : (540 < n + 20 ∧ f_X11_feed g 20 x1 x2 x3 x4 x5 = some (-1, g)) ∨ (n + 20 ≤ 540 ∧ ∃ g', f_X11_feed g 20 x1 x2 x3 x4 x5 = some (nI (n + 20), g') ∧ c_TP (wd5 x1 x2 x3 x4 x5) g n (n + 20) g') := by
  by_cases c : n + 20 ≤ 540
  · right
    obtain ⟨g1, a1, b1⟩ := c_apP (w := wd5 x1 x2 x3 x4 x5) (g0 := g) (g := g) (n0 := n) (q := 0) ⟨⟨fun _ _ _ => rfl, fun _ _ => rfl, rfl⟩, hg, fun i hi => by rw [if_pos (by omega)]⟩ (by omega)
    obtain ⟨g2, a2, b2⟩ := c_apP b1 (by omega)
    obtain ⟨g3, a3, b3⟩ := c_apP b2 (by omega)
    obtain ⟨g4, a4, b4⟩ := c_apP b3 (by omega)
    obtain ⟨g5, a5, b5⟩ := c_apP b4 (by omega)
    have a1 : f_X11_append g 20 x1 = some g1 := a1
    have a2 : f_X11_append g1 20 x2 = some g2 := a2
    have a3 : f_X11_append g2 20 x3 = some g3 := a3
    have a4 : f_X11_append g3 20 x4 = some g4 := a4
    have a5 : f_X11_append g4 20 x5 = some g5 := a5
    refine ⟨c, g5, ?_, b5⟩
    have l : nI n + 20 ≤ 540 := by rw [pu_addr]; exact nI_le (a := n + 20) (b := 540) c (by omega)
    have e := b5.2.1
    unfold f_X11_feed
    rw [ev_g20, Option.bind_some, hg, if_pos l, a1, ev_ck20, Option.bind_some, a2, ev_ck20, Option.bind_some, a3, ev_ck20, Option.bind_some, a4, ev_ck20, Option.bind_some, a5, ev_ck20, Option.bind_some, ev_g20, Option.bind_some, e]
  · left
    refine ⟨by omega, ?_⟩
    have l : ¬ nI n + 20 ≤ 540 := by rw [pu_addr]; exact nI_ge (a := 540) (b := n + 20) (by omega) (by omega)
    unfold f_X11_feed
    rw [ev_g20, Option.bind_some, hg, if_neg l]
theorem m_feed {g : ob_St} {x1 x2 x3 x4 x5 : Int32} {n : Nat} (hg : g.1 0 8 = nI n) (hn : n ≤ 540) : (540 < n + 20 ∧ f_X12_feed g 0 x1 x2 x3 x4 x5 = some (-1, m_Th g 0)) ∨ (n + 20 ≤ 540 ∧ ∃ g', f_X12_feed g 0 x1 x2 x3 x4 x5 = some (nI (n + 20), g') ∧ m_TP (wd5 x1 x2 x3 x4 x5) (m_Th g 0) n (n + 20) g') := by
  have hg' : (m_Th g 0).1 0 8 = nI n := hg
  have p : ob_pI g 12 0 0 0 = some (m_Th g 0) := rfl
  by_cases c : n + 20 ≤ 540
  · right
    obtain ⟨g1, a1, b1⟩ := m_apP (w := wd5 x1 x2 x3 x4 x5) (g0 := m_Th g 0) (g := m_Th g 0) (n0 := n) (q := 0) ⟨⟨fun _ _ _ => rfl, fun _ _ => rfl, rfl⟩, hg', fun i hi => by rw [if_pos (by omega)]⟩ (by omega)
    obtain ⟨g2, a2, b2⟩ := m_apP b1 (by omega)
    obtain ⟨g3, a3, b3⟩ := m_apP b2 (by omega)
    obtain ⟨g4, a4, b4⟩ := m_apP b3 (by omega)
    obtain ⟨g5, a5, b5⟩ := m_apP b4 (by omega)
    have a1 : f_X12_four (m_Th g 0) 0 x1 = some g1 := a1
    have a2 : f_X12_four g1 0 x2 = some g2 := a2
    have a3 : f_X12_four g2 0 x3 = some g3 := a3
    have a4 : f_X12_four g3 0 x4 = some g4 := a4
    have a5 : f_X12_four g4 0 x5 = some g5 := a5
    refine ⟨c, g5, ?_, b5⟩
    have l : nI n + 20 ≤ 540 := by rw [pu_addr]; exact nI_le (a := n + 20) (b := 540) c (by omega)
    have e := b5.2.1
    unfold f_X12_feed
    rw [p, Option.bind_some, ev_g0, Option.bind_some, hg', if_pos l, a1, ev_ck0, Option.bind_some, a2, ev_ck0, Option.bind_some, a3, ev_ck0, Option.bind_some, a4, ev_ck0, Option.bind_some, a5, ev_ck0, Option.bind_some, ev_g0, Option.bind_some, e]
  · left
    refine ⟨by omega, ?_⟩
    have l : ¬ nI n + 20 ≤ 540 := by rw [pu_addr]; exact nI_ge (a := 540) (b := n + 20) (by omega) (by omega)
    unfold f_X12_feed
    rw [p, Option.bind_some, ev_g0, Option.bind_some, hg', if_neg l]
