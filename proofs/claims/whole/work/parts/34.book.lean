/-! book, cover, extreme -/
def sp_bk (S : Nat → Int32) (X : Nat → Int64) : Nat → Int64
  | 0 => 0
  | k + 1 => sp_bk S X k + (sp_o S k 9).toInt64 * X k
def sp_book (S : Nat → Int32) (t j : Nat) : Int64 := sp_bk S (fun k => sp_V S k t j) (sN S 29)
def sp_cov (S : Nat → Int32) (t j : Nat) : Int64 := sp_bk S (fun k => sp_st S k t j) (sN S 29)
def sp_cvr (S : Nat → Int32) (what : Int32) (t j : Nat) : Int64 := if what = 0 then sp_cov S t j else sp_book S t j - sp_cov S t j * (sp_str S t j).toInt64
theorem bk_mul {a x : Int} {X : Int} (ha : -9 ≤ a) (ha' : a ≤ 9) (hx : -X ≤ x) (hx' : x ≤ X) : -(9 * X) ≤ a * x ∧ a * x ≤ 9 * X := by
  rcases (by omega : a = -9 ∨ a = -8 ∨ a = -7 ∨ a = -6 ∨ a = -5 ∨ a = -4 ∨ a = -3 ∨ a = -2 ∨ a = -1 ∨ a = 0 ∨ a = 1 ∨ a = 2 ∨ a = 3 ∨ a = 4 ∨ a = 5 ∨ a = 6 ∨ a = 7 ∨ a = 8 ∨ a = 9) with rfl | rfl | rfl | rfl | rfl | rfl | rfl | rfl | rfl | rfl | rfl | rfl | rfl | rfl | rfl | rfl | rfl | rfl | rfl <;> omega
theorem bd_bk {S : Nat → Int32} {X : Nat → Int64} {B : Int} (hW : sp_WF S) (hB : B ≤ 676136310335514) (hX : ∀ k, k < sN S 29 → -B ≤ (X k).toInt ∧ (X k).toInt ≤ B) : ∀ k, k ≤ sN S 29 → -(9 * B * k) ≤ (sp_bk S X k).toInt ∧ (sp_bk S X k).toInt ≤ 9 * B * k := by
  have h4 := wf_4 hW
  intro k
  induction k with
  | zero => intro _; show -(9 * B * 0) ≤ (0 : Int) ∧ (0 : Int) ≤ 9 * B * 0; omega
  | succ k ih =>
    intro hk
    have h := ih (by omega)
    have ho := (wf_o hW (show k < sN S 29 by omega)).2.2.2.2.2.2.2.2
    have hx := hX k (by omega)
    have hm := bk_mul ho.1 ho.2 hx.1 hx.2
    have hB0 : 0 ≤ B := by omega
    have e1 : ((sp_o S k 9).toInt64 * X k).toInt = (sp_o S k 9).toInt * (X k).toInt := by
      rw [nu_mul (by rw [Int32.toInt_toInt64]; omega) (by rw [Int32.toInt_toInt64]; omega), Int32.toInt_toInt64]
    have hk4 : 9 * B * (k : Int) ≤ 9 * B * 4 := Int.mul_le_mul_of_nonneg_left (by omega) (by omega)
    have e2 : (sp_bk S X (k + 1)).toInt = (sp_bk S X k).toInt + (sp_o S k 9).toInt * (X k).toInt := by
      show (sp_bk S X k + (sp_o S k 9).toInt64 * X k).toInt = _
      rw [nu_add (by rw [e1]; omega) (by rw [e1]; omega), e1]
    have e3 : 9 * B * ((k + 1 : Nat) : Int) = 9 * B * k + 9 * B := by rw [Int.natCast_succ, Int.mul_add, Int.mul_one]
    rw [e2, e3]
    omega
theorem bd_book {S : Nat → Int32} {t j : Nat} (hW : sp_WF S) (ht : t ≤ sN S 2) (hj : j ≤ t) : -(36 * 676136310335514) ≤ (sp_book S t j).toInt ∧ (sp_book S t j).toInt ≤ 36 * 676136310335514 := by
  have h12 := wf_12 hW
  have h4 := wf_4 hW
  have h := bd_bk (X := fun k => sp_V S k t j) (B := 676136310335514) hW (by omega) (fun k hk => by
    have := bd_V hW hk ht hj
    have hw := sp_wle hW (i := sN S 2 - t) (by omega)
    generalize sN S 1 ^ (sN S 2 - t) = X at *
    have a := this.1; have b := this.2
    exact ⟨by omega, by omega⟩) (sN S 29) (Nat.le_refl _)
  unfold sp_book
  omega
theorem bd_cov {S : Nat → Int32} {t j : Nat} (hW : sp_WF S) (ht : t ≤ sN S 2) (hj : j ≤ t) : -(36 * 75126256703946) ≤ (sp_cov S t j).toInt ∧ (sp_cov S t j).toInt ≤ 36 * 75126256703946 := by
  have h12 := wf_12 hW
  have h4 := wf_4 hW
  have key : ∀ R : Nat → Nat → Int64, (∀ t j, t ≤ sN S 2 → j ≤ t → bd (R t j) (2394 * sN S 1 ^ (sN S 2 - t))) → -75126256703946 ≤ (sp_sb S R t j).toInt ∧ (sp_sb S R t j).toInt ≤ 75126256703946 := by
    intro R hR
    unfold sp_sb
    by_cases e : t = sN S 2
    · rw [if_pos e, nu_0]; omega
    · rw [if_neg e]
      have h1 := hR (t + 1) (j + 1) (by omega) (by omega)
      have h2 := hR (t + 1) j (by omega) (by omega)
      have hw : sN S 1 ^ (sN S 2 - (t + 1)) ≤ 31381059609 := by
        have h1 : sN S 1 ^ (sN S 2 - (t + 1)) ≤ 9 ^ (sN S 2 - (t + 1)) := Nat.pow_le_pow_left hW.2.1.2.2 _
        have h2 : 9 ^ (sN S 2 - (t + 1)) ≤ 9 ^ 11 := Nat.pow_le_pow_right (by omega) (by omega)
        have h3 : (9 : Nat) ^ 11 = 31381059609 := by decide
        omega
      generalize sN S 1 ^ (sN S 2 - (t + 1)) = X at *
      have a1 := h1.1; have a2 := h1.2; have a3 := h2.1; have a4 := h2.2
      rw [nu_sub (by omega) (by omega)]
      omega
  have h := bd_bk (X := fun k => sp_st S k t j) (B := 75126256703946) hW (by omega) (fun k hk => by
    show _ ≤ (sp_st S k t j).toInt ∧ (sp_st S k t j).toInt ≤ _
    unfold sp_st
    split
    · rw [nu_0]; omega
    · split
      · exact key _ (fun t j a b => bd_L hW hk a b)
      · exact key _ (fun t j a b => bd_V hW hk a b)) (sN S 29) (Nat.le_refl _)
  unfold sp_cov
  omega
theorem bk_mul2 {c : Int} {s : Nat} {C : Int} (hc : -C ≤ c) (hc' : c ≤ C) (hs : s ≤ 1107) : -(C * 1107) ≤ c * s ∧ c * s ≤ C * 1107 := by
  have hC : 0 ≤ C := by omega
  have h1 : c * s ≤ C * s := Int.mul_le_mul_of_nonneg_right hc' (by omega)
  have h2 : -C * s ≤ c * s := Int.mul_le_mul_of_nonneg_right hc (by omega)
  have h3 : C * (s : Int) ≤ C * 1107 := Int.mul_le_mul_of_nonneg_left (by omega) hC
  rw [Int.neg_mul] at h2
  omega
theorem gt_cvr {S : Nat → Int32} {w : Int32} {t j : Nat} (hW : sp_WF S) (ht : t ≤ sN S 2) (hj : j ≤ t) : -9223372036854775808 < (sp_cvr S w t j).toInt := by
  have h12 := wf_12 hW
  have hc := bd_cov hW ht hj
  have hb := bd_book hW ht hj
  unfold sp_cvr
  split
  · omega
  · have hs := sp_strN_le hW (t := t) (j := j) (by omega)
    have es : (sp_str S t j).toInt64.toInt = (sp_strN S t j : Int) := by rw [Int32.toInt_toInt64, sp_str_n hW ht, ni_of (by omega)]
    have hm := bk_mul2 hc.1 hc.2 hs
    have e1 : (sp_cov S t j * (sp_str S t j).toInt64).toInt = (sp_cov S t j).toInt * (sp_strN S t j : Int) := by
      rw [nu_mul (by rw [es]; omega) (by rw [es]; omega), es]
    rw [nu_sub (by rw [e1]; omega) (by rw [e1]; omega), e1]
    omega
theorem c_bookWorth {S : Nat → Int32} {g : ob_St} {t j : Nat} (hW : sp_WF S) (hM : c_M 24 S g) (hL : c_Lat S g) (ht : t ≤ sN S 2) (hj : j ≤ t) : f_X11_bookWorth g 20 (nI (nd t j)) = some (sp_book S t j) := by
  have h12 := wf_12 hW
  have h4 := wf_4 hW
  have hl := nd_lt (t := t) (j := j) (by omega) hj
  have h6 : g.1 24 6 = nI (sN S 29) := hM.2.2.2.1.trans (wf_29 hW)
  obtain ⟨r, h1, h2⟩ := pu_up (fun n s i => L_X11_bookWorth_5 g 20 (nI (nd t j)) n s (nI i)) (fun i s => s = sp_bk S (fun k => sp_V S k t j) i) (sN S 29) (fun r => r = sp_book S t j)
    (fun n s hI => ⟨s, by
      show Lb_X11_bookWorth_5 _ _ _ _ _ _ = _
      unfold Lb_X11_bookWorth_5
      rw [ev_r20_3, Option.bind_some, ev_g24, Option.bind_some, h6, if_pos (nI_le (by omega) (by omega))], hI⟩)
    (fun n i s hi hI => ⟨_, rfl, by
      have hn := c_Sh_k (k := i) (by omega)
      have e : g.2 (72 + 8 * i + 6) (nd t j) = sp_V S i t j := (hL.2 i hi t j ht hj).2.2.2.1
      have e9 : g.1 (28 + i) 9 = sp_o S i 9 := (hM.2.2.2.2.2 i hi).2.2.2.2.2.2.2.2.2
      show Lb_X11_bookWorth_5 _ _ _ _ _ _ = _
      unfold Lb_X11_bookWorth_5
      rw [ev_r20_3, Option.bind_some, ev_g24, Option.bind_some, h6, if_neg (nI_ge (by omega) (by omega)), Option.bind_some, ev_r24_2, Option.bind_some, ew_27 (by omega), Option.bind_some, ew_gc (by omega), Option.bind_some, ev_r20_8, Option.bind_some, ev_r67_4, Option.bind_some, ew_71 (by omega), Option.bind_some, es_2 hn, Option.bind_some, es_b0 hn, Option.bind_some, es_a6 hn hl, Option.bind_some, e, e9, nI_1, hI]
      rfl⟩)
    (sN S 29) 0 ob_FU 0 (by omega) (by unfold ob_FU; omega) rfl
  subst h2
  exact pu_b h1
theorem c_coverL {S : Nat → Int32} {g : ob_St} {t j : Nat} {x3 x4 : Int32} (hW : sp_WF S) (hM : c_M 24 S g) (hL : c_Lat S g) (ht : t ≤ sN S 2) (hj : j ≤ t) : L_X11_cover_52 g 20 (nI t) x3 x4 (nI (nd t j)) ob_FU 0 (nI 0) = some (sp_cov S t j) := by
  have h12 := wf_12 hW
  have h4 := wf_4 hW
  have h6 : g.1 24 6 = nI (sN S 29) := hM.2.2.2.1.trans (wf_29 hW)
  obtain ⟨r, h1, h2⟩ := pu_up (fun n s i => L_X11_cover_52 g 20 (nI t) x3 x4 (nI (nd t j)) n s (nI i)) (fun i s => s = sp_bk S (fun k => sp_st S k t j) i) (sN S 29) (fun r => r = sp_cov S t j)
    (fun n s hI => ⟨s, by
      show Lb_X11_cover_52 _ _ _ _ _ _ _ _ _ = _
      unfold Lb_X11_cover_52
      rw [ev_r20_3, Option.bind_some, ev_g24, Option.bind_some, h6, if_pos (nI_le (by omega) (by omega))], hI⟩)
    (fun n i s hi hI => ⟨_, rfl, by
      have e9 : g.1 (28 + i) 9 = sp_o S i 9 := (hM.2.2.2.2.2 i hi).2.2.2.2.2.2.2.2.2
      show Lb_X11_cover_52 _ _ _ _ _ _ _ _ _ = _
      unfold Lb_X11_cover_52
      rw [ev_r20_3, Option.bind_some, ev_g24, Option.bind_some, h6, if_neg (nI_ge (by omega) (by omega)), Option.bind_some, ev_r24_2, Option.bind_some, ew_27 (by omega), Option.bind_some, ew_gc (by omega), Option.bind_some, ev_r20_8, Option.bind_some, Option.bind_some, ev_r67_4, Option.bind_some, ew_71 (by omega), Option.bind_some, c_standing hW hM hL hi ht hj, ev_ck67, Option.bind_some, e9, nI_1, hI]
      rfl⟩)
    (sN S 29) 0 ob_FU 0 (by omega) (by unfold ob_FU; omega) rfl
  subst h2
  exact h1
theorem m_bookAt {g : ob_St} {t j : Nat} (hW : sp_WF (g.1 1)) (hL : m_Laid g) (ht : t ≤ sN (g.1 1) 2) (hj : j ≤ t) : f_X12_bookAt g 0 (nI t) (nI j) = some (sp_book (g.1 1) t j) := by
  have h12 := wf_12 hW
  have h4 := wf_4 hW
  obtain ⟨r, h1, h2⟩ := pu_up (fun n s i => L_X12_bookAt_5 g 0 (nI t) (nI j) n s (nI i)) (fun i s => s = sp_bk (g.1 1) (fun k => sp_V (g.1 1) k t j) i) (sN (g.1 1) 29) (fun r => r = sp_book (g.1 1) t j)
    (fun n s hI => ⟨s, by
      show Lb_X12_bookAt_5 _ _ _ _ _ _ _ = _
      unfold Lb_X12_bookAt_5
      rw [ev_r0_1, Option.bind_some, ev_l1 (by omega), Option.bind_some, wf_29 hW, if_pos (nI_le (by omega) (by omega))], hI⟩)
    (fun n i s hi hI => ⟨_, rfl, by
      have e : g.2 9 (169 * i + 13 * t + j) = sp_V (g.1 1) i t j := (hL.2 i hi t j ht hj).2.1
      have eg := m_get (g := g) (k := i) (w := 9) (by omega)
      show Lb_X12_bookAt_5 _ _ _ _ _ _ _ = _
      unfold Lb_X12_bookAt_5
      rw [ev_r0_1, Option.bind_some, ev_l1 (by omega), Option.bind_some, wf_29 hW, if_neg (nI_ge (by omega) (by omega)), ev_ck0]
      refine (pu_b eg).trans ?_
      rw [ev_r0_20, Option.bind_some, m_cell, Option.bind_some, ev_a9 (by omega), Option.bind_some, e, nI_1, hI]
      rfl⟩)
    (sN (g.1 1) 29) 0 ob_FU 0 (by omega) (by unfold ob_FU; omega) rfl
  subst h2
  exact pu_b h1
theorem m_coverAt {g : ob_St} {t j : Nat} (hW : sp_WF (g.1 1)) (hL : m_Laid g) (ht : t ≤ sN (g.1 1) 2) (hj : j ≤ t) : f_X12_coverAt g 0 (nI t) (nI j) = some (sp_cov (g.1 1) t j) := by
  have h12 := wf_12 hW
  have h4 := wf_4 hW
  obtain ⟨r, h1, h2⟩ := pu_up (fun n s i => L_X12_coverAt_5 g 0 (nI t) (nI j) n s (nI i)) (fun i s => s = sp_bk (g.1 1) (fun k => sp_st (g.1 1) k t j) i) (sN (g.1 1) 29) (fun r => r = sp_cov (g.1 1) t j)
    (fun n s hI => ⟨s, by
      show Lb_X12_coverAt_5 _ _ _ _ _ _ _ = _
      unfold Lb_X12_coverAt_5
      rw [ev_r0_1, Option.bind_some, ev_l1 (by omega), Option.bind_some, wf_29 hW, if_pos (nI_le (by omega) (by omega))], hI⟩)
    (fun n i s hi hI => ⟨_, rfl, by
      have eg := m_get (g := g) (k := i) (w := 9) (by omega)
      show Lb_X12_coverAt_5 _ _ _ _ _ _ _ = _
      unfold Lb_X12_coverAt_5
      rw [ev_r0_1, Option.bind_some, ev_l1 (by omega), Option.bind_some, wf_29 hW, if_neg (nI_ge (by omega) (by omega)), ev_ck0]
      refine (pu_b eg).trans ?_
      rw [m_standsAt hW hL hi ht hj, ev_ck0, Option.bind_some, nI_1, hI]
      rfl⟩)
    (sN (g.1 1) 29) 0 ob_FU 0 (by omega) (by unfold ob_FU; omega) rfl
  subst h2
  exact pu_b h1
def an_book (S : Nat → Int32) (x1 x2 x3 : Int32) : Option Int64 := if (qN S x1 x2 && qB x3) = true then some (sp_told (sp_book S x1.toNatClampNeg x2.toNatClampNeg) (sp_sc S x1.toNatClampNeg) x3) else none
def an_cover (S : Nat → Int32) (x1 x2 x3 x4 : Int32) : Option Int64 := if (qN S x1 x2 && qB x3 && qB x4) = true then some (sp_told (sp_cvr S x3 x1.toNatClampNeg x2.toNatClampNeg) (sp_sc S x1.toNatClampNeg) x4) else none
theorem c_book {S : Nat → Int32} {g : ob_St} {x1 x2 x3 : Int32} (hQ : c_Q S g) : c_A S g (an_book S x1 x2 x3) (f_X11_book g 20 x1 x2 x3) := by
  have hW := hQ.1
  have hM := hQ.2.1
  have h12 := wf_12 hW
  have bad : B_X11_book_20 g 20 x1 x2 x3 = some none := rfl
  unfold f_X11_book an_book
  rw [c_isNode hM, ev_ck20, Option.bind_some, bI_if, c_isBit, Option.bind_some, bI_if, bad]
  by_cases c2 : qN S x1 x2 = true
  · rw [if_pos c2]
    by_cases c3 : qB x3 = true
    · rw [if_pos c3, if_pos (an_and2.mpr ⟨c2, c3⟩)]
      obtain ⟨t, j, ht, hj, rfl, rfl⟩ := qN_e hW c2
      rw [nI_clamp (by omega), nI_clamp (by omega)]
      obtain ⟨g', h1, h2, h3, h4, h5⟩ := c_refresh hQ
      refine ⟨g', h2, c_Lat_Q hW h3 h4 h5, ?_⟩
      have td := c_told (y := sp_book S t j) (p := x3) (by have := (bd_book hW ht hj).1; omega) (sp_sc_pos hW t)
      unfold B_X11_book_21 B_X11_book_24
      rw [if_neg (by decide)]
      simp only [ev_r20_8, h1, ev_ck20, ev_ck67, Option.bind_some, c_nodeAt (show t ≤ 12 by omega), c_bookWorth hW h3 h5 ht hj, c_scaleAt hW h3 h5.1.1 ht, td, Option.map_some]
    · rw [if_neg c3, if_neg (fun h => c3 (an_and2.mp h).2)]
      exact ⟨g, c_K_refl g, hQ, rfl⟩
  · rw [if_neg c2, if_neg (fun h => c2 (an_and2.mp h).1)]
    exact ⟨g, c_K_refl g, hQ, rfl⟩
theorem c_cover {S : Nat → Int32} {g : ob_St} {x1 x2 x3 x4 : Int32} (hQ : c_Q S g) : c_A S g (an_cover S x1 x2 x3 x4) (f_X11_cover g 20 x1 x2 x3 x4) := by
  have hW := hQ.1
  have hM := hQ.2.1
  have h12 := wf_12 hW
  have bad : B_X11_cover_28 g 20 x1 x2 x3 x4 = some none := rfl
  unfold f_X11_cover an_cover
  rw [c_isNode hM, ev_ck20, Option.bind_some, bI_if, c_isBit, Option.bind_some, bI_if, c_isBit, Option.bind_some, bI_if, bad]
  by_cases c2 : qN S x1 x2 = true
  · rw [if_pos c2]
    by_cases c3 : qB x3 = true
    · rw [if_pos c3]
      by_cases c4 : qB x4 = true
      · rw [if_pos c4, if_pos (an_and.mpr ⟨c2, c3, c4⟩)]
        obtain ⟨t, j, ht, hj, rfl, rfl⟩ := qN_e hW c2
        rw [nI_clamp (by omega), nI_clamp (by omega)]
        obtain ⟨g', h1, h2, h3, h4, h5⟩ := c_refresh hQ
        refine ⟨g', h2, c_Lat_Q hW h3 h4 h5, ?_⟩
        have hl := nd_lt (t := t) (j := j) (by omega) hj
        have td := c_told (y := sp_cvr S x3 t j) (p := x4) (gt_cvr hW ht hj) (sp_sc_pos hW t)
        have e68 : g'.1 68 (nd t j) = sp_str S t j := (h5.1.2 t j ht hj).1
        have fin : ∀ y, y = sp_cvr S x3 t j → B_X11_cover_140 g' 20 (nI t) x4 y = some (sp_told (sp_cvr S x3 t j) (sp_sc S t) x4, g') := by
          intro y hy
          subst hy
          unfold B_X11_cover_140
          simp only [ev_r20_8, ev_ck67, Option.bind_some, c_scaleAt hW h3 h5.1.1 ht, td]
        unfold B_X11_cover_29 B_X11_cover_32
        rw [if_neg (by decide), ev_r20_8, Option.bind_some, h1, ev_ck67, Option.bind_some, c_nodeAt (show t ≤ 12 by omega), Option.bind_some]
        have hcl := c_coverL (x3 := x3) (x4 := x4) hW h3 h5 ht hj
        rw [show ((L_X11_cover_52 g' 20 (nI t) x3 x4 (nI (nd t j)) ob_FU 0 0)) = some (sp_cov S t j) from hcl, Option.bind_some, c_bookWorth hW h3 h5 ht hj, ev_ck20, Option.bind_some, Option.bind_some, ev_r67_1, Option.bind_some, ev_a68 hl, Option.bind_some, e68]
        by_cases d : x3 = 0
        · rw [if_pos d, fin _ (by unfold sp_cvr; rw [if_pos d])]
          rfl
        · rw [if_neg d, fin _ (by unfold sp_cvr; rw [if_neg d])]
          rfl
      · rw [if_neg c4, if_neg (fun h => c4 (an_and.mp h).2.2)]
        exact ⟨g, c_K_refl g, hQ, rfl⟩
    · rw [if_neg c3, if_neg (fun h => c3 (an_and.mp h).2.1)]
      exact ⟨g, c_K_refl g, hQ, rfl⟩
  · rw [if_neg c2, if_neg (fun h => c2 (an_and.mp h).1)]
    exact ⟨g, c_K_refl g, hQ, rfl⟩
theorem m_book {g : ob_St} {x1 x2 x3 : Int32} (hQ : m_Q g) : m_A g (an_book (g.1 1) x1 x2 x3) (f_X12_book g 0 x1 x2 x3) := by
  have hW := hQ.1
  have h12 := wf_12 hW
  have t1 : f_X12_throwsIf g 0 1 = some (1, m_Th g 1) := m_throws (b := true)
  have t0 : f_X12_throwsIf g 0 0 = some (0, m_Th g 0) := m_throws (b := false)
  have bad : B_X12_book_17 g 0 x1 x2 x3 0 = some (0, m_Th g 1) := by
    unfold B_X12_book_17 B_X12_book_22
    rw [t1, ev_ck0, Option.bind_some]
    exact if_neg (show ¬ (1 : Int32) = 0 by decide)
  unfold f_X12_book an_book
  rw [m_isNode, ev_ck0, Option.bind_some, bI_if, m_isPart, Option.bind_some, bI_if, bad]
  by_cases c2 : qN (g.1 1) x1 x2 = true
  · rw [if_pos c2]
    by_cases c3 : qB x3 = true
    · rw [if_pos c3, if_pos (an_and2.mpr ⟨c2, c3⟩)]
      obtain ⟨t, j, ht, hj, rfl, rfl⟩ := qN_e hW c2
      rw [nI_clamp (by omega), nI_clamp (by omega)]
      obtain ⟨g', k0, k1, k2, k3, k4, k5⟩ := m_layTh (v := 0) hQ
      refine ⟨g', ?_, k1, k2, k3⟩
      have td := m_told (y := sp_book (g.1 1) t j) (p := x3) (by have := (bd_book hW ht hj).1; omega) (sp_sc_pos hW t)
      rw [← k5] at hW ht h12 td ⊢
      unfold B_X12_book_22
      rw [t0, ev_ck0, Option.bind_some]
      show (if (0 : Int32) = 0 then _ else _) = _
      rw [if_pos rfl, k0, ev_ck0, Option.bind_some, m_bookAt hW k4 ht hj, ev_ck0, Option.bind_some, m_power hW ht k4.1, ev_ck0, Option.bind_some]
      exact pu_b td
    · rw [if_neg c3, if_neg (fun h => c3 (an_and2.mp h).2)]
      exact ⟨m_Th g 1, rfl, m_K_th, m_Q_th hQ, rfl⟩
  · rw [if_neg c2, if_neg (fun h => c2 (an_and2.mp h).1)]
    exact ⟨m_Th g 1, rfl, m_K_th, m_Q_th hQ, rfl⟩
theorem m_cover {g : ob_St} {x1 x2 x3 x4 : Int32} (hQ : m_Q g) : m_A g (an_cover (g.1 1) x1 x2 x3 x4) (f_X12_cover g 0 x1 x2 x3 x4) := by
  have hW := hQ.1
  have h12 := wf_12 hW
  have t1 : f_X12_throwsIf g 0 1 = some (1, m_Th g 1) := m_throws (b := true)
  have t0 : f_X12_throwsIf g 0 0 = some (0, m_Th g 0) := m_throws (b := false)
  have bad : B_X12_cover_25 g 0 x1 x2 x3 x4 0 = some (0, m_Th g 1) := by
    unfold B_X12_cover_25 B_X12_cover_30
    rw [t1, ev_ck0, Option.bind_some]
    exact if_neg (show ¬ (1 : Int32) = 0 by decide)
  unfold f_X12_cover an_cover
  rw [m_isNode, ev_ck0, Option.bind_some, bI_if, m_isPart, Option.bind_some, bI_if, m_isPart, Option.bind_some, bI_if, bad]
  by_cases c2 : qN (g.1 1) x1 x2 = true
  · rw [if_pos c2]
    by_cases c3 : qB x3 = true
    · rw [if_pos c3]
      by_cases c4 : qB x4 = true
      · rw [if_pos c4, if_pos (an_and.mpr ⟨c2, c3, c4⟩)]
        obtain ⟨t, j, ht, hj, rfl, rfl⟩ := qN_e hW c2
        rw [nI_clamp (by omega), nI_clamp (by omega)]
        obtain ⟨g', k0, k1, k2, k3, k4, k5⟩ := m_layTh (v := 0) hQ
        refine ⟨g', ?_, k1, k2, k3⟩
        have td := m_told (y := sp_cvr (g.1 1) x3 t j) (p := x4) (gt_cvr hW ht hj) (sp_sc_pos hW t)
        rw [← k5] at hW ht h12 td ⊢
        have fin : ∀ y, y = sp_cvr (g'.1 1) x3 t j → B_X12_cover_76 g' 0 (nI t) x4 y = some (sp_told (sp_cvr (g'.1 1) x3 t j) (sp_sc (g'.1 1) t) x4, g') := by
          intro y hy
          subst hy
          unfold B_X12_cover_76
          simp only [ev_ck0, Option.bind_some, m_power hW ht k4.1, td]
        unfold B_X12_cover_30
        rw [t0, ev_ck0, Option.bind_some]
        show (if (0 : Int32) = 0 then _ else _) = _
        rw [if_pos rfl]
        simp only [k0, m_bookAt hW k4 ht hj, m_coverAt hW k4 ht hj, m_stripped (show t ≤ 12 by omega), ev_ck0, Option.bind_some]
        by_cases d : x3 = 0
        · rw [if_pos d, fin _ (by unfold sp_cvr; rw [if_pos d])]
          rfl
        · rw [if_neg d, fin _ (by unfold sp_cvr; rw [if_neg d])]
          rfl
      · rw [if_neg c4, if_neg (fun h => c4 (an_and.mp h).2.2)]
        exact ⟨m_Th g 1, rfl, m_K_th, m_Q_th hQ, rfl⟩
    · rw [if_neg c3, if_neg (fun h => c3 (an_and.mp h).2.1)]
      exact ⟨m_Th g 1, rfl, m_K_th, m_Q_th hQ, rfl⟩
  · rw [if_neg c2, if_neg (fun h => c2 (an_and.mp h).1)]
    exact ⟨m_Th g 1, rfl, m_K_th, m_Q_th hQ, rfl⟩
/-! extreme -/
def sp_xt (S : Nat → Int32) (w : Int32) : Nat → Nat
  | 0 => 0
  | j + 1 => if w = 0 then (if sp_book S (sN S 2) (sp_xt S w j) ≤ sp_book S (sN S 2) (j + 1) then sp_xt S w j else j + 1)
      else (if sp_book S (sN S 2) (j + 1) ≤ sp_book S (sN S 2) (sp_xt S w j) then sp_xt S w j else j + 1)
theorem sp_xt_le (S : Nat → Int32) (w : Int32) : ∀ j, sp_xt S w j ≤ j := by
  intro j
  induction j with
  | zero => exact Nat.le_refl _
  | succ j ih =>
    simp only [sp_xt]
    split <;> split <;> omega
def an_xt (S : Nat → Int32) (x : Int32) : Int32 := if qB x = true then nI (sp_xt S x (sN S 2)) else -1
theorem c_extreme {S : Nat → Int32} {g : ob_St} {x : Int32} (hQ : c_Q S g) : c_I S g (an_xt S x) (f_X11_extreme g 20 x) := by
  have hW := hQ.1
  have h12 := wf_12 hW
  unfold f_X11_extreme an_xt
  rw [c_isBit, Option.bind_some, bI_if]
  by_cases c : qB x = true
  · rw [if_pos c, if_pos c]
    obtain ⟨g', h1, h2, h3, h4, h5⟩ := c_refresh hQ
    refine ⟨g', ?_, h2, c_Lat_Q hW h3 h4 h5⟩
    have h5' : g'.1 24 5 = nI (sN S 2) := h3.2.2.1.trans (wf_2 hW)
    have hnd : f_X11_nodeAt (nI (sN S 2)) 0 = some (nI (nd (sN S 2) 0)) := c_nodeAt (j := 0) h12
    obtain ⟨r, l1, l2⟩ := pu_up (fun n (s : Int32 × Int64) i => L_X11_extreme_40 g' 20 x (nI (sN S 2)) n s.1 s.2 (nI i)) (fun i s => 1 ≤ i ∧ s.1 = nI (sp_xt S x (i - 1)) ∧ s.2 = sp_book S (sN S 2) (sp_xt S x (i - 1))) (sN S 2 + 1) (fun r => r = nI (sp_xt S x (sN S 2)))
      (fun n s hI => ⟨s.1, by
        show Lb_X11_extreme_40 _ _ _ _ _ _ _ _ = _
        unfold Lb_X11_extreme_40
        rw [if_pos (nI_lt (by omega) (by omega))], hI.2.1⟩)
      (fun n i s hi hI => by
        obtain ⟨i1, i2, i3⟩ := hI
        obtain ⟨m, rfl⟩ : ∃ m, i = m + 1 := ⟨i - 1, by omega⟩
        rw [Nat.add_sub_cancel] at i2 i3
        refine ⟨(nI (sp_xt S x (m + 1)), sp_book S (sN S 2) (sp_xt S x (m + 1))), ⟨by omega, rfl, rfl⟩, ?_⟩
        show Lb_X11_extreme_40 _ _ _ _ _ _ _ _ = L_X11_extreme_40 g' 20 x (nI (sN S 2)) n (nI (sp_xt S x (m + 1))) (sp_book S (sN S 2) (sp_xt S x (m + 1))) (nI (m + 1 + 1))
        unfold Lb_X11_extreme_40
        rw [if_neg (nI_nlt (by omega) (by omega)), c_nodeAt h12, Option.bind_some, c_bookWorth hW h3 h5 (Nat.le_refl _) (by omega), ev_ck20, Option.bind_some, i2, i3]
        simp only [B_X11_extreme_88, B_X11_extreme_81, nI_1]
        simp only [sp_xt]
        by_cases d : x = 0
        · rw [if_pos d, if_pos d]
          split <;> rfl
        · rw [if_neg d, if_neg d]
          split <;> rfl)
      (sN S 2) 1 ob_FU (0, sp_book S (sN S 2) 0) (by omega) (by unfold ob_FU; omega) ⟨by omega, rfl, rfl⟩
    subst l2
    rw [ev_r20_8, Option.bind_some, h1, ev_ck67, Option.bind_some, ev_r20_3, Option.bind_some, ev_g24, Option.bind_some, h5', hnd, Option.bind_some, c_bookWorth hW h3 h5 (Nat.le_refl _) (by omega), ev_ck20, Option.bind_some]
    exact pu_b l1
  · rw [if_neg c, if_neg c]
    exact ⟨g, rfl, c_K_refl g, hQ⟩
theorem m_extreme {g : ob_St} {x : Int32} (hQ : m_Q g) : m_I g (an_xt (g.1 1) x) (f_X12_extreme g 0 x) := by
  have hW := hQ.1
  have h12 := wf_12 hW
  unfold f_X12_extreme an_xt
  rw [ev_p0, Option.bind_some, m_isPart, Option.bind_some, bI_if]
  show m_I g _ (if qB x = true then ((ob_ck 12 0 (f_X12_lays (m_Th g 0) 0)).bind _) else some (-1, m_Th g 0))
  by_cases c : qB x = true
  · rw [if_pos c, if_pos c]
    obtain ⟨g', k0, k1, k2, k3, k4, k5⟩ := m_layTh (v := 0) hQ
    refine ⟨g', ?_, k1, k2⟩
    rw [← k5] at hW h12 ⊢
    rw [k0, ev_ck0, Option.bind_some]
    obtain ⟨r, l1, l2⟩ := pu_up (fun n (s : Int32) i => L_X12_extreme_22 g' 0 x n s (nI i)) (fun i s => 1 ≤ i ∧ s = nI (sp_xt (g'.1 1) x (i - 1))) (sN (g'.1 1) 2 + 1) (fun r => r = nI (sp_xt (g'.1 1) x (sN (g'.1 1) 2)))
      (fun n s hI => ⟨s, by
        show Lb_X12_extreme_22 _ _ _ _ _ _ = _
        unfold Lb_X12_extreme_22
        rw [ev_r0_1, Option.bind_some, ev_l1 (by omega), Option.bind_some, wf_2 hW, if_pos (nI_lt (by omega) (by omega))], hI.2⟩)
      (fun n i s hi hI => by
        obtain ⟨i1, i2⟩ := hI
        obtain ⟨m, rfl⟩ : ∃ m, i = m + 1 := ⟨i - 1, by omega⟩
        rw [Nat.add_sub_cancel] at i2
        have hxl := sp_xt_le (g'.1 1) x m
        refine ⟨nI (sp_xt (g'.1 1) x (m + 1)), ⟨by omega, rfl⟩, ?_⟩
        show Lb_X12_extreme_22 _ _ _ _ _ _ = L_X12_extreme_22 g' 0 x n (nI (sp_xt (g'.1 1) x (m + 1))) (nI (m + 1 + 1))
        unfold Lb_X12_extreme_22
        rw [ev_r0_1, Option.bind_some, ev_l1 (by omega), Option.bind_some, wf_2 hW, if_neg (nI_nlt (by omega) (by omega))]
        have b1 := m_bookAt hW k4 (Nat.le_refl _) (show m + 1 ≤ sN (g'.1 1) 2 by omega)
        have b2 := m_bookAt hW k4 (Nat.le_refl _) (show sp_xt (g'.1 1) x m ≤ sN (g'.1 1) 2 by omega)
        simp (disch := omega) only [wf_2 hW, i2, b1, b2, Option.bind_some, pu_add, pu_addr, pu_mul, nI_1, nI_add, pk_mul, ev_ck0, ev_g0, ev_p0, ev_r0_1, ev_r0_2, ev_r0_3, ev_r0_4, ev_r0_5, ev_r0_7, ev_r0_17, ev_r0_18, ev_r0_20, ev_r0_21, ev_r0_22, ev_r0_23, ev_r0_24, ev_r0_25, ev_r0_26, ev_r0_27, ev_r0_28, ev_r0_29, ev_a1, ev_l1, ev_w1, ev_a2, ev_l2, ev_w2, ev_a3, ev_l3, ev_w3, ev_a4, ev_l4, ev_w4, ev_a5, ev_l5, ev_a6, ev_l6, ev_w6, ev_a7, ev_l7, ev_w7, ev_a8, ev_l8, ev_w8, ev_a9, ev_w9, ev_a10, ev_w10, ev_a11, ev_w11, ev_a12, ev_l12, ev_w12, ev_a13, ev_l13, ev_w13, ev_a14, ev_w14, ev_a15, ev_w15, ev_a16, ev_w16, ev_a17, ev_w17, ev_a18, ev_w18]
        simp only [B_X12_extreme_83, B_X12_extreme_81, nI_1]
        simp only [sp_xt]
        by_cases d : x = 0
        · rw [if_pos d, if_pos d]
          split <;> rfl
        · rw [if_neg d, if_neg d]
          split <;> rfl)
      (sN (g'.1 1) 2) 1 ob_FU 0 (by omega) (by unfold ob_FU; omega) ⟨by omega, rfl⟩
    subst l2
    exact pu_b l1
  · rw [if_neg c, if_neg c]
    exact ⟨m_Th g 0, rfl, m_K_th, m_Q_th hQ⟩
