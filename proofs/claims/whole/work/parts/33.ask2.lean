/-! does, frontier, price, book, cover, extreme -/
theorem an_and2 {a b : Bool} : (a && b) = true ↔ a = true ∧ b = true := by cases a <;> cases b <;> decide
def an_does (S : Nat → Int32) (x1 x2 x3 : Int32) : Int32 := if (qO S x1 && qN S x2 x3) = true then sp_D S x1.toNatClampNeg x2.toNatClampNeg x3.toNatClampNeg else -1
theorem c_does {S : Nat → Int32} {g : ob_St} {x1 x2 x3 : Int32} (hQ : c_Q S g) : c_I S g (an_does S x1 x2 x3) (f_X11_does g 20 x1 x2 x3) := by
  have hW := hQ.1
  have hM := hQ.2.1
  have h12 := wf_12 hW
  have h4 := wf_4 hW
  unfold f_X11_does an_does
  rw [c_isOption hM, ev_ck20, Option.bind_some, bI_if, c_isNode hM, ev_ck20, Option.bind_some, bI_if]
  by_cases c1 : qO S x1 = true
  · rw [if_pos c1]
    by_cases c2 : qN S x2 x3 = true
    · rw [if_pos c2, if_pos (an_and2.mpr ⟨c1, c2⟩)]
      obtain ⟨k, hk, rfl⟩ := qO_e hW c1
      obtain ⟨t, j, ht, hj, rfl, rfl⟩ := qN_e hW c2
      rw [nI_clamp (by omega), nI_clamp (by omega), nI_clamp (by omega)]
      obtain ⟨g', s1, s2, s3, s4, s5, s6⟩ := c_sheetOf hQ hk
      refine ⟨g', ?_, s2, s3⟩
      have hn := c_Sh_k (k := k) (by omega)
      have hl := nd_lt (t := t) (j := j) (by omega) hj
      have e : g'.1 (72 + 8 * k + 7) (nd t j) = sp_D S k t j := (s5.2 k hk t j ht hj).2.2.2.2
      simp only [s1, ev_ck20, Option.bind_some, es_2 hn, es_b1 hn, c_nodeAt (show t ≤ 12 by omega), es_a7 hn hl, e]
    · rw [if_neg c2, if_neg (fun h => c2 (an_and2.mp h).2)]
      exact ⟨g, rfl, c_K_refl g, hQ⟩
  · rw [if_neg c1, if_neg (fun h => c1 (an_and2.mp h).1)]
    exact ⟨g, rfl, c_K_refl g, hQ⟩
theorem m_does {g : ob_St} {x1 x2 x3 : Int32} (hQ : m_Q g) : m_I g (an_does (g.1 1) x1 x2 x3) (f_X12_does g 0 x1 x2 x3) := by
  have hW := hQ.1
  have h12 := wf_12 hW
  have h4 := wf_4 hW
  unfold f_X12_does an_does
  rw [ev_p0, Option.bind_some]
  show m_I g _ ((ob_ck 12 0 (f_X12_isOption (m_Th g 0) 0 x1)).bind _)
  rw [m_isOption (m_Q_th hQ).1, ev_ck0, Option.bind_some, bI_if]
  show m_I g _ (if qO (g.1 1) x1 = true then ((ob_ck 12 0 (f_X12_isNode (m_Th g 0) 0 x2 x3)).bind _) else some (-1, m_Th g 0))
  rw [m_isNode, ev_ck0, Option.bind_some, bI_if]
  show m_I g _ (if qO (g.1 1) x1 = true then (if qN (g.1 1) x2 x3 = true then ((ob_ck 12 0 (f_X12_lays (m_Th g 0) 0)).bind _) else some (-1, m_Th g 0)) else some (-1, m_Th g 0))
  by_cases c1 : qO (g.1 1) x1 = true
  · rw [if_pos c1]
    by_cases c2 : qN (g.1 1) x2 x3 = true
    · rw [if_pos c2, if_pos (an_and2.mpr ⟨c1, c2⟩)]
      obtain ⟨k, hk, rfl⟩ := qO_e hW c1
      obtain ⟨t, j, ht, hj, rfl, rfl⟩ := qN_e hW c2
      rw [nI_clamp (by omega), nI_clamp (by omega), nI_clamp (by omega)]
      obtain ⟨g', k0, k1, k2, k3, k4, k5⟩ := m_layTh (v := 0) hQ
      refine ⟨g', ?_, k1, k2⟩
      rw [k0]
      have e : g'.1 12 (169 * k + 13 * t + j) = sp_D (g.1 1) k t j := by
        rw [← k5] at hk ht ⊢
        exact (k4.2 k hk t j ht hj).2.2.2
      simp (disch := omega) only [m_cell, e, Option.bind_some, pu_add, pu_addr, pu_mul, nI_1, nI_add, pk_mul, ev_ck0, ev_g0, ev_p0, ev_r0_1, ev_r0_2, ev_r0_3, ev_r0_4, ev_r0_5, ev_r0_7, ev_r0_17, ev_r0_18, ev_r0_20, ev_r0_21, ev_r0_22, ev_r0_23, ev_r0_24, ev_r0_25, ev_r0_26, ev_r0_27, ev_r0_28, ev_r0_29, ev_a1, ev_l1, ev_w1, ev_a2, ev_l2, ev_w2, ev_a3, ev_l3, ev_w3, ev_a4, ev_l4, ev_w4, ev_a5, ev_l5, ev_a6, ev_l6, ev_w6, ev_a7, ev_l7, ev_w7, ev_a8, ev_l8, ev_w8, ev_a9, ev_w9, ev_a10, ev_w10, ev_a11, ev_w11, ev_a12, ev_l12, ev_w12, ev_a13, ev_l13, ev_w13, ev_a14, ev_w14, ev_a15, ev_w15, ev_a16, ev_w16, ev_a17, ev_w17, ev_a18, ev_w18]
    · rw [if_neg c2, if_neg (fun h => c2 (an_and2.mp h).2)]
      exact ⟨m_Th g 0, rfl, m_K_th, m_Q_th hQ⟩
  · rw [if_neg c1, if_neg (fun h => c1 (an_and2.mp h).1)]
    exact ⟨m_Th g 0, rfl, m_K_th, m_Q_th hQ⟩
/-! frontier -/
def sp_fr (S : Nat → Int32) (k t : Nat) : Nat → Int32
  | 0 => 0
  | j + 1 => sp_fr S k t j ||| (if sp_D S k t j = 1 then 1 <<< (nI j &&& 31) else 0)
def an_fr (S : Nat → Int32) (x1 x2 : Int32) : Int32 := if (qO S x1 && qT S x2) = true then sp_fr S x1.toNatClampNeg x2.toNatClampNeg (x2.toNatClampNeg + 1) else -1
theorem c_frontier {S : Nat → Int32} {g : ob_St} {x1 x2 : Int32} (hQ : c_Q S g) : c_I S g (an_fr S x1 x2) (f_X11_frontier g 20 x1 x2) := by
  have hW := hQ.1
  have hM := hQ.2.1
  have h12 := wf_12 hW
  have h4 := wf_4 hW
  unfold f_X11_frontier an_fr
  rw [c_isOption hM, ev_ck20, Option.bind_some, bI_if, c_isStep hM, ev_ck20, Option.bind_some, bI_if]
  by_cases c1 : qO S x1 = true
  · rw [if_pos c1]
    by_cases c2 : qT S x2 = true
    · rw [if_pos c2, if_pos (an_and2.mpr ⟨c1, c2⟩)]
      obtain ⟨k, hk, rfl⟩ := qO_e hW c1
      obtain ⟨t, ht, rfl⟩ := qT_e hW c2
      rw [nI_clamp (by omega), nI_clamp (by omega)]
      obtain ⟨g', s1, s2, s3, s4, s5, s6⟩ := c_sheetOf hQ hk
      refine ⟨g', ?_, s2, s3⟩
      have hn := c_Sh_k (k := k) (by omega)
      obtain ⟨r, h1, h2⟩ := pu_up (fun n s i => L_X11_frontier_36 g' (nI t) (72 + 8 * k + 7) n s (nI i)) (fun i s => s = sp_fr S k t i) (t + 1) (fun r => r = sp_fr S k t (t + 1))
        (fun n s hI => ⟨s, by
          show (if nI t < nI (t + 1) then _ else _) = _
          rw [if_pos (nI_lt (by omega) (by omega))], hI⟩)
        (fun n i s hi hI => ⟨sp_fr S k t (i + 1), rfl, by
          have hl := nd_lt (t := t) (j := i) (by omega) (by omega)
          have e : g'.1 (72 + 8 * k + 7) (nd t i) = sp_D S k t i := (s5.2 k hk t i ht (by omega)).2.2.2.2
          show (if nI t < nI i then _ else _) = _
          rw [if_neg (nI_nlt (by omega) (by omega)), c_nodeAt (show t ≤ 12 by omega), Option.bind_some, es_a7 hn hl, Option.bind_some, e, hI]
          show _ = L_X11_frontier_36 g' (nI t) (72 + 8 * k + 7) n (sp_fr S k t i ||| (if sp_D S k t i = 1 then 1 <<< (nI i &&& 31) else 0)) (nI (i + 1))
          simp only [B_X11_frontier_63, ob_let, nI_1]
          by_cases hd : sp_D S k t i = 1
          · rw [if_pos hd, if_pos hd]
          · rw [if_neg hd, if_neg hd, Int32.or_zero]⟩)
        (t + 1) 0 ob_FU 0 (by omega) (by unfold ob_FU; omega) rfl
      subst h2
      rw [s1, ev_ck20, Option.bind_some, es_2 hn, Option.bind_some, es_b1 hn, Option.bind_some]
      exact pu_b h1
    · rw [if_neg c2, if_neg (fun h => c2 (an_and2.mp h).2)]
      exact ⟨g, rfl, c_K_refl g, hQ⟩
  · rw [if_neg c1, if_neg (fun h => c1 (an_and2.mp h).1)]
    exact ⟨g, rfl, c_K_refl g, hQ⟩
theorem m_frontier {g : ob_St} {x1 x2 : Int32} (hQ : m_Q g) : m_I g (an_fr (g.1 1) x1 x2) (f_X12_frontier g 0 x1 x2) := by
  have hW := hQ.1
  have h12 := wf_12 hW
  have h4 := wf_4 hW
  unfold f_X12_frontier an_fr
  rw [ev_p0, Option.bind_some]
  show m_I g _ ((ob_ck 12 0 (f_X12_isOption (m_Th g 0) 0 x1)).bind _)
  rw [m_isOption (m_Q_th hQ).1, ev_ck0, Option.bind_some, bI_if]
  show m_I g _ (if qO (g.1 1) x1 = true then ((ob_gR 12 0 1).bind fun v3 => (ob_rI (m_Th g 0) 14 v3 2).bind _) else some (-1, m_Th g 0))
  rw [ev_r0_1, Option.bind_some, ev_l1 (by omega), Option.bind_some, m_isStep, Option.bind_some, bI_if]
  show m_I g _ (if qO (g.1 1) x1 = true then (if qT (g.1 1) x2 = true then ((ob_ck 12 0 (f_X12_lays (m_Th g 0) 0)).bind _) else some (-1, m_Th g 0)) else some (-1, m_Th g 0))
  by_cases c1 : qO (g.1 1) x1 = true
  · rw [if_pos c1]
    by_cases c2 : qT (g.1 1) x2 = true
    · rw [if_pos c2, if_pos (an_and2.mpr ⟨c1, c2⟩)]
      obtain ⟨k, hk, rfl⟩ := qO_e hW c1
      obtain ⟨t, ht, rfl⟩ := qT_e hW c2
      rw [nI_clamp (by omega), nI_clamp (by omega)]
      obtain ⟨g', k0, k1, k2, k3, k4, k5⟩ := m_layTh (v := 0) hQ
      refine ⟨g', ?_, k1, k2⟩
      obtain ⟨r, h1, h2⟩ := pu_up (fun n s i => L_X12_frontier_38 g' 0 (nI k) (nI t) n s (nI i)) (fun i s => s = sp_fr (g.1 1) k t i) (t + 1) (fun r => r = sp_fr (g.1 1) k t (t + 1))
        (fun n s hI => ⟨s, by
          show (if nI t < nI (t + 1) then _ else _) = _
          rw [if_pos (nI_lt (by omega) (by omega))], hI⟩)
        (fun n i s hi hI => ⟨sp_fr (g.1 1) k t (i + 1), rfl, by
          have e : g'.1 12 (169 * k + 13 * t + i) = sp_D (g.1 1) k t i := by
            rw [← k5] at hk ht ⊢
            exact (k4.2 k hk t i ht (by omega)).2.2.2
          show (if nI t < nI i then _ else _) = _
          rw [if_neg (nI_nlt (by omega) (by omega)), ev_r0_23, Option.bind_some, m_cell, Option.bind_some, ev_a12 (by omega), Option.bind_some, e, hI]
          show _ = L_X12_frontier_38 g' 0 (nI k) (nI t) n (sp_fr (g.1 1) k t i ||| (if sp_D (g.1 1) k t i = 1 then 1 <<< (nI i &&& 31) else 0)) (nI (i + 1))
          simp only [B_X12_frontier_69, nI_1]
          by_cases hd : sp_D (g.1 1) k t i = 1
          · rw [if_pos hd, if_pos hd]
          · rw [if_neg hd, if_neg hd]⟩)
        (t + 1) 0 ob_FU 0 (by omega) (by unfold ob_FU; omega) rfl
      subst h2
      rw [k0, ev_ck0, Option.bind_some]
      exact pu_b h1
    · rw [if_neg c2, if_neg (fun h => c2 (an_and2.mp h).2)]
      exact ⟨m_Th g 0, rfl, m_K_th, m_Q_th hQ⟩
  · rw [if_neg c1, if_neg (fun h => c1 (an_and2.mp h).1)]
    exact ⟨m_Th g 0, rfl, m_K_th, m_Q_th hQ⟩
/-! price -/
theorem sp_cs_hd (S : Nat → Int32) (t : Nat) : ∀ c, sp_cs S t (c + 1) = S (16 + t) + sp_cs S (t + 1) c := by
  intro c
  induction c with
  | zero =>
    show (0 : Int32) + S (16 + (t + 0)) = S (16 + t) + 0
    rw [Nat.add_zero]
    grind
  | succ c ih =>
    show sp_cs S t (c + 1) + S (16 + (t + (c + 1))) = S (16 + t) + (sp_cs S (t + 1) c + S (16 + (t + 1 + c)))
    rw [ih, show t + (c + 1) = t + 1 + c by omega]
    grind
theorem sp_cf_hd {S : Nat → Int32} {t : Nat} (ht : t ≤ sN S 2) : sp_cf S t = S (16 + t) + sp_cf S (t + 1) := by
  unfold sp_cf
  rw [show sN S 2 + 1 - t = (sN S 2 + 1 - (t + 1)) + 1 by omega, sp_cs_hd]
def an_price (S : Nat → Int32) (x1 x2 x3 : Int32) : Int32 :=
  if qN S x1 x2 = true then (if x3 = 0 then sp_pr S x1.toNatClampNeg x2.toNatClampNeg else if x3 = 1 then sp_str S x1.toNatClampNeg x2.toNatClampNeg + sp_cf S (x1.toNatClampNeg + 1) else if x3 = 2 then sp_str S x1.toNatClampNeg x2.toNatClampNeg else -1) else -1
theorem c_price {S : Nat → Int32} {g : ob_St} {x1 x2 x3 : Int32} (hQ : c_Q S g) : c_I S g (an_price S x1 x2 x3) (f_X11_price g 20 x1 x2 x3) := by
  have hW := hQ.1
  have hM := hQ.2.1
  have h12 := wf_12 hW
  unfold f_X11_price an_price
  rw [c_isNode hM, ev_ck20, Option.bind_some, bI_if]
  by_cases c2 : qN S x1 x2 = true
  · rw [if_pos c2, if_pos c2]
    obtain ⟨t, j, ht, hj, rfl, rfl⟩ := qN_e hW c2
    rw [nI_clamp (by omega), nI_clamp (by omega)]
    obtain ⟨g', h1, h2, h3, h4, h5⟩ := c_refresh hQ
    refine ⟨g', ?_, h2, c_Lat_Q hW h3 h4 h5⟩
    have hl := nd_lt (t := t) (j := j) (by omega) hj
    obtain ⟨e1, e2⟩ := h5.1.2 t j ht hj
    have e3 : g'.1 26 t = S (16 + t) := (h3.2.2.2.2.1 t (by omega)).2
    rw [ev_r20_8, Option.bind_some, h1, ev_ck67, Option.bind_some, c_nodeAt (by omega), Option.bind_some]
    simp (disch := omega) only [e1, e2, e3, Option.bind_some, pu_add, pu_addr, pu_mul, nI_1, nI_add, pk_mul, ev_ck20, ev_g20, ev_p20, ev_r20_0, ev_r20_3, ev_r20_4, ev_r20_5, ev_r20_6, ev_r20_7, ev_r20_8, ev_r20_9, ev_r20_10, ev_r20_11, ev_a21, ev_l21, ev_w21, ev_q22_0, ev_q22_1, ev_a23, ev_l23, ev_ck24, ev_g24, ev_p24, ev_r24_0, ev_r24_1, ev_r24_2, ev_a25, ev_l25, ev_w25, ev_a26, ev_l26, ev_w26, ev_q27_0, ev_q27_1, ev_q27_2, ev_q27_3, ev_ck28, ev_g28, ev_p28, ev_ck29, ev_g29, ev_p29, ev_ck30, ev_g30, ev_p30, ev_ck31, ev_g31, ev_p31, ev_ck32, ev_g32, ev_p32, ev_r32_0, ev_r32_1, ev_r32_2, ev_a33, ev_l33, ev_w33, ev_a34, ev_l34, ev_w34, ev_q35_0, ev_q35_1, ev_q35_2, ev_q35_3, ev_ck36, ev_g36, ev_p36, ev_ck37, ev_g37, ev_p37, ev_ck38, ev_g38, ev_p38, ev_ck39, ev_g39, ev_p39, ev_ck40, ev_g40, ev_p40, ev_r40_0, ev_r40_1, ev_r40_2, ev_a41, ev_l41, ev_w41, ev_a42, ev_l42, ev_w42, ev_q43_0, ev_q43_1, ev_q43_2, ev_q43_3, ev_ck44, ev_g44, ev_p44, ev_ck45, ev_g45, ev_p45, ev_ck46, ev_g46, ev_p46, ev_ck47, ev_g47, ev_p47, ev_ck48, ev_g48, ev_p48, ev_r48_0, ev_r48_1, ev_r48_2, ev_a49, ev_l49, ev_w49, ev_a50, ev_l50, ev_w50, ev_q51_0, ev_q51_1, ev_q51_2, ev_q51_3, ev_ck52, ev_g52, ev_p52, ev_ck53, ev_g53, ev_p53, ev_ck54, ev_g54, ev_p54, ev_ck55, ev_g55, ev_p55, ev_ck56, ev_g56, ev_p56, ev_r56_0, ev_r56_3, ev_r56_4, ev_ck57, ev_g57, ev_p57, ev_r57_0, ev_r57_1, ev_r57_2, ev_r57_3, ev_r57_4, ev_a58, ev_l58, ev_w58, ev_a59, ev_l59, ev_w59, ev_a60, ev_w60, ev_a61, ev_w61, ev_a62, ev_w62, ev_ck63, ev_g63, ev_p63, ev_r63_0, ev_r63_1, ev_r63_2, ev_a64, ev_l64, ev_w64, ev_a65, ev_l65, ev_w65, ev_a66, ev_l66, ev_w66, ev_ck67, ev_g67, ev_p67, ev_r67_0, ev_r67_1, ev_r67_2, ev_r67_3, ev_r67_4, ev_r67_5, ev_a68, ev_l68, ev_w68, ev_a69, ev_l69, ev_w69, ev_a70, ev_w70, ev_q71_0, ev_q71_1, ev_q71_2, ev_q71_3, ev_ck72, ev_g72, ev_p72, ev_r72_0, ev_r72_1, ev_r72_2, ev_a73, ev_w73, ev_ck74, ev_g74, ev_p74, ev_r74_0, ev_r74_1, ev_a75, ev_w75, ev_a76, ev_l76, ev_w76, ev_ck77, ev_g77, ev_p77, ev_r77_0, ev_r77_1, ev_a78, ev_w78, ev_a79, ev_l79, ev_w79, ev_ck80, ev_g80, ev_p80, ev_r80_0, ev_r80_1, ev_r80_2, ev_a81, ev_w81, ev_ck82, ev_g82, ev_p82, ev_r82_0, ev_r82_1, ev_a83, ev_w83, ev_a84, ev_l84, ev_w84, ev_ck85, ev_g85, ev_p85, ev_r85_0, ev_r85_1, ev_a86, ev_w86, ev_a87, ev_l87, ev_w87, ev_ck88, ev_g88, ev_p88, ev_r88_0, ev_r88_1, ev_r88_2, ev_a89, ev_w89, ev_ck90, ev_g90, ev_p90, ev_r90_0, ev_r90_1, ev_a91, ev_w91, ev_a92, ev_l92, ev_w92, ev_ck93, ev_g93, ev_p93, ev_r93_0, ev_r93_1, ev_a94, ev_w94, ev_a95, ev_l95, ev_w95, ev_ck96, ev_g96, ev_p96, ev_r96_0, ev_r96_1, ev_r96_2, ev_a97, ev_w97, ev_ck98, ev_g98, ev_p98, ev_r98_0, ev_r98_1, ev_a99, ev_w99, ev_a100, ev_l100, ev_w100, ev_ck101, ev_g101, ev_p101, ev_r101_0, ev_r101_1, ev_a102, ev_w102, ev_a103, ev_l103, ev_w103, ev_ck104, ev_g104, ev_p104, ev_r104_0, ev_r104_1, ev_r104_2, ev_a105, ev_w105, ev_ck106, ev_g106, ev_p106, ev_r106_0, ev_r106_1, ev_a107, ev_w107, ev_a108, ev_l108, ev_w108, ev_ck109, ev_g109, ev_p109, ev_r109_0, ev_r109_1, ev_a110, ev_w110, ev_a111, ev_l111, ev_w111, ev_ck112, ev_g112, ev_p112, ev_r112_0, ev_r112_1, ev_r112_2, ev_a113, ev_w113, ev_a114, ev_w114, ev_ck115, ev_g115, ev_p115, ev_r115_0, ev_r115_1, ev_r115_2, ev_q116_0, ev_q116_1, ev_a117, ev_w117, ev_a118, ev_w118, ev_q119_0, ev_q119_1, ev_a120, ev_l120, ev_w120, ev_a121, ev_l121, ev_w121, ev_ck122, ev_g122, ev_p122, ev_r122_0, ev_r122_1, ev_r122_2, ev_r122_3, ev_a123, ev_w123, ev_a124, ev_w124, ev_a125, ev_l125, ev_w125]
    by_cases d0 : x3 = 0
    · rw [if_pos d0, if_pos d0]
    rw [if_neg d0, if_neg d0]
    by_cases d1 : x3 = 1
    · rw [if_pos d1, if_pos d1]
      refine congrArg some (Prod.ext ?_ rfl)
      show sp_pr S t j - S (16 + t) = sp_str S t j + sp_cf S (t + 1)
      unfold sp_pr
      rw [sp_cf_hd ht]
      grind
    rw [if_neg d1, if_neg d1]
    by_cases d2 : x3 = 2
    · rw [if_pos d2, if_pos d2]
    · rw [if_neg d2, if_neg d2]
  · rw [if_neg c2, if_neg c2]
    exact ⟨g, rfl, c_K_refl g, hQ⟩
theorem m_price {g : ob_St} {x1 x2 x3 : Int32} (hQ : m_Q g) : m_I g (an_price (g.1 1) x1 x2 x3) (f_X12_price g 0 x1 x2 x3) := by
  have hW := hQ.1
  have h12 := wf_12 hW
  unfold f_X12_price an_price
  rw [ev_p0, Option.bind_some]
  show m_I g _ ((ob_ck 12 0 (f_X12_isNode (m_Th g 0) 0 x1 x2)).bind _)
  rw [m_isNode, ev_ck0, Option.bind_some, bI_if]
  show m_I g _ (if qN (g.1 1) x1 x2 = true then _ else some (-1, m_Th g 0))
  by_cases c2 : qN (g.1 1) x1 x2 = true
  · rw [if_pos c2, if_pos c2]
    obtain ⟨t, j, ht, hj, rfl, rfl⟩ := qN_e hW c2
    rw [nI_clamp (by omega), nI_clamp (by omega)]
    refine ⟨m_Th g 0, ?_, m_K_th, m_Q_th hQ⟩
    have p1 : f_X12_priceAt (m_Th g 0) 0 (nI t) (nI j) = some (sp_pr (g.1 1) t j) := m_priceAt (g := m_Th g 0) hW ht
    have p2 : f_X12_stripped (m_Th g 0) 0 (nI t) (nI j) = some (sp_str (g.1 1) t j) := m_stripped (g := m_Th g 0) (by omega)
    have p3 : f_X12_cashFrom (m_Th g 0) 0 (nI t + 1) = some (sp_cf (g.1 1) (t + 1)) := by rw [nI_1]; exact m_cashFrom (g := m_Th g 0) hW (Nat.succ_le_succ ht)
    have e : ∀ (q : ob_St), q = m_Th g 0 → ((f_X12_isIn x3 0 2).bind fun v3 => (if v3 = 0 then (some ((-1), q)) else ((if x3 = 0 then ((ob_ck 12 0 (f_X12_priceAt q 0 (nI t) (nI j))).bind fun v7 => some (v7, q)) else ((if x3 = 1 then ((ob_ck 12 0 (f_X12_stripped q 0 (nI t) (nI j))).bind fun v5 => (ob_ck 12 0 (f_X12_cashFrom q 0 (nI t + 1))).bind fun v6 => some ((v5 + v6), q)) else ((ob_ck 12 0 (f_X12_stripped q 0 (nI t) (nI j))).bind fun v4 => some (v4, q)))))))) = some (if x3 = 0 then sp_pr (g.1 1) t j else if x3 = 1 then sp_str (g.1 1) t j + sp_cf (g.1 1) (t + 1) else if x3 = 2 then sp_str (g.1 1) t j else -1, m_Th g 0) := by
      intro q hq
      subst hq
      rw [m_isIn0 (S := g.1 1), Option.bind_some, bI_if]
      simp only [p1, p2, p3, ev_ck0, Option.bind_some]
      by_cases d0 : x3 = 0
      · subst d0; rfl
      by_cases d1 : x3 = 1
      · subst d1; rfl
      by_cases d2 : x3 = 2
      · subst d2; rfl
      rw [if_neg d0, if_neg d1, if_neg d2, if_neg d0, if_neg d1]
      rw [if_neg]
      intro h
      by_cases n0 : x3 < 0
      · rw [if_pos n0] at h; exact absurd h (by decide)
      rw [if_neg n0] at h
      by_cases n2 : 2 < x3
      · rw [if_pos n2] at h; exact absurd h (by decide)
      obtain ⟨q, hq, rfl⟩ := nI_of n0
      have hq2 : ¬ 2 < q := fun hh => n2 ((nI_ltI (a := 2) (by omega) hq).mpr hh)
      rcases (by omega : q = 0 ∨ q = 1 ∨ q = 2) with rfl | rfl | rfl
      · exact d0 rfl
      · exact d1 rfl
      · exact d2 rfl
    exact e _ rfl
  · rw [if_neg c2, if_neg c2]
    exact ⟨m_Th g 0, rfl, m_K_th, m_Q_th hQ⟩
