/-! the class's lattice is laid anew -/
theorem c_cshL {S : Nat → Int32} {g : ob_St} {t : Nat} (hW : sp_WF S) (hM : c_M 24 S g) (ht : t ≤ sN S 2 + 1) : L_X5_cashFrom_4 g 24 ob_FU 0 (nI t) = some (sp_cf S t) := by
  have h12 := wf_12 hW
  have h5 : g.1 24 5 = nI (sN S 2) := hM.2.2.1.trans (wf_2 hW)
  obtain ⟨r, h1, h3⟩ := pu_up (fun n s i => L_X5_cashFrom_4 g 24 n s (nI i)) (fun i s => t ≤ i ∧ s = sp_cs S t (i - t)) (sN S 2 + 1) (fun r => r = sp_cs S t (sN S 2 + 1 - t))
    (fun n' s hI => ⟨s, by
      show Lb_X5_cashFrom_4 _ _ _ _ _ = _
      unfold Lb_X5_cashFrom_4
      rw [ev_g24, Option.bind_some, h5, if_pos (nI_lt (by omega) (by omega))], hI.2⟩)
    (fun n' i s hi hI => ⟨s + S (16 + i), ⟨by omega, by
      obtain ⟨m, rfl⟩ : ∃ m, i = t + m := ⟨i - t, by omega⟩
      rw [hI.2, show t + m - t = m by omega, show t + m + 1 - t = m + 1 by omega]
      rfl⟩, by
      show Lb_X5_cashFrom_4 _ _ _ _ _ = _
      have e := (hM.2.2.2.2.1 i (by omega)).2
      rw [show 24 + 2 = 26 from rfl] at e
      unfold Lb_X5_cashFrom_4
      rw [ev_g24, Option.bind_some, h5, if_neg (nI_nlt (by omega) (by omega)), ev_r24_1, Option.bind_some, ev_a26 (by omega), Option.bind_some, e, nI_1]⟩)
    (sN S 2 + 1 - t) t ob_FU 0 (by omega) (by unfold ob_FU; omega) ⟨by omega, by rw [Nat.sub_self]; rfl⟩
  rw [h3] at h1
  exact h1
theorem c_cashFrom {S : Nat → Int32} {g : ob_St} {t : Nat} (hW : sp_WF S) (hM : c_M 24 S g) (ht : t ≤ sN S 2 + 1) : f_X5_cashFrom g 24 (nI t) = some (sp_cf S t) := by
  unfold f_X5_cashFrom
  rw [c_cshL hW hM ht]
  rfl
theorem c_fillPowers {S : Nat → Int32} {g : ob_St} (hw : g.1 24 4 = S 1) : ∃ r, f_X3_fillPowers g 67 = some r ∧ r.1 = g.1 ∧ (∀ n, n ≠ 70 → r.2 n = g.2 n) ∧ ∀ a, a < 13 → r.2 70 a = sp_pw S a := by
  have hw0 : ob_wL g 70 0 1 = some (g.1, ob_upL g.2 70 0 1) := pu_wL (n := 70) (i := 0) rfl rfl (by decide)
  obtain ⟨r, h1, h2⟩ := pu_up (fun n s i => L_X3_fillPowers_9 67 n s (nI i)) (fun i s => 1 ≤ i ∧ s.1 = g.1 ∧ (∀ n, n ≠ 70 → s.2 n = g.2 n) ∧ ∀ a, a < i → s.2 70 a = sp_pw S a) 13
    (fun r => r.1 = g.1 ∧ (∀ n, n ≠ 70 → r.2 n = g.2 n) ∧ ∀ a, a < 13 → r.2 70 a = sp_pw S a)
    (fun n s hI => ⟨s, by
      show Lb_X3_fillPowers_9 _ _ _ _ = _
      unfold Lb_X3_fillPowers_9
      have h14 : (12 : Int32) < nI 13 := by decide
      rw [if_pos h14], hI.2⟩)
    (fun n i s hi hI => by
      obtain ⟨i1, i2, i3, i4⟩ := hI
      obtain ⟨m, rfl⟩ : ∃ m, i = m + 1 := ⟨i - 1, by omega⟩
      refine ⟨(s.1, ob_upL s.2 70 (m + 1) (s.2 70 m * (S 1).toInt64)), ⟨by omega, i2, ?_, ?_⟩, ?_⟩
      · intro n hn
        show ob_upL s.2 70 _ _ n = _
        rw [pu_upL_ne hn, i3 n hn]
      · intro a ha
        show vp_updL (s.2 70) _ _ a = _
        by_cases e : a = m + 1
        · subst e
          rw [pu_updL_eq, i4 m (by omega)]
          rfl
        · rw [pu_updL_ne e, i4 a (by omega)]
      · show Lb_X3_fillPowers_9 _ _ _ _ = _
        have e1 : s.1 24 4 = S 1 := by rw [i2]; exact hw
        have hn : ¬ (12 : Int32) < nI (m + 1) := nI_nlt (a := 12) (by omega) (by omega)
        unfold Lb_X3_fillPowers_9
        rw [if_neg hn]
        have hm : nI (m + 1) - 1 = nI m := nI_pred m
        simp (disch := omega) only [hm, e1, Option.bind_some, pu_add, pu_addr, pu_mul, nI_1, nI_add, pk_mul, ev_ck20, ev_g20, ev_p20, ev_r20_0, ev_r20_3, ev_r20_4, ev_r20_5, ev_r20_6, ev_r20_7, ev_r20_8, ev_r20_9, ev_r20_10, ev_r20_11, ev_a21, ev_l21, ev_w21, ev_q22_0, ev_q22_1, ev_a23, ev_l23, ev_ck24, ev_g24, ev_p24, ev_r24_0, ev_r24_1, ev_r24_2, ev_a25, ev_l25, ev_w25, ev_a26, ev_l26, ev_w26, ev_q27_0, ev_q27_1, ev_q27_2, ev_q27_3, ev_ck28, ev_g28, ev_p28, ev_ck29, ev_g29, ev_p29, ev_ck30, ev_g30, ev_p30, ev_ck31, ev_g31, ev_p31, ev_ck32, ev_g32, ev_p32, ev_r32_0, ev_r32_1, ev_r32_2, ev_a33, ev_l33, ev_w33, ev_a34, ev_l34, ev_w34, ev_q35_0, ev_q35_1, ev_q35_2, ev_q35_3, ev_ck36, ev_g36, ev_p36, ev_ck37, ev_g37, ev_p37, ev_ck38, ev_g38, ev_p38, ev_ck39, ev_g39, ev_p39, ev_ck40, ev_g40, ev_p40, ev_r40_0, ev_r40_1, ev_r40_2, ev_a41, ev_l41, ev_w41, ev_a42, ev_l42, ev_w42, ev_q43_0, ev_q43_1, ev_q43_2, ev_q43_3, ev_ck44, ev_g44, ev_p44, ev_ck45, ev_g45, ev_p45, ev_ck46, ev_g46, ev_p46, ev_ck47, ev_g47, ev_p47, ev_ck48, ev_g48, ev_p48, ev_r48_0, ev_r48_1, ev_r48_2, ev_a49, ev_l49, ev_w49, ev_a50, ev_l50, ev_w50, ev_q51_0, ev_q51_1, ev_q51_2, ev_q51_3, ev_ck52, ev_g52, ev_p52, ev_ck53, ev_g53, ev_p53, ev_ck54, ev_g54, ev_p54, ev_ck55, ev_g55, ev_p55, ev_ck56, ev_g56, ev_p56, ev_r56_0, ev_r56_3, ev_r56_4, ev_ck57, ev_g57, ev_p57, ev_r57_0, ev_r57_1, ev_r57_2, ev_r57_3, ev_r57_4, ev_a58, ev_l58, ev_w58, ev_a59, ev_l59, ev_w59, ev_a60, ev_w60, ev_a61, ev_w61, ev_a62, ev_w62, ev_ck63, ev_g63, ev_p63, ev_r63_0, ev_r63_1, ev_r63_2, ev_a64, ev_l64, ev_w64, ev_a65, ev_l65, ev_w65, ev_a66, ev_l66, ev_w66, ev_ck67, ev_g67, ev_p67, ev_r67_0, ev_r67_1, ev_r67_2, ev_r67_3, ev_r67_4, ev_r67_5, ev_a68, ev_l68, ev_w68, ev_a69, ev_l69, ev_w69, ev_a70, ev_w70, ev_q71_0, ev_q71_1, ev_q71_2, ev_q71_3, ev_ck72, ev_g72, ev_p72, ev_r72_0, ev_r72_1, ev_r72_2, ev_a73, ev_w73, ev_ck74, ev_g74, ev_p74, ev_r74_0, ev_r74_1, ev_a75, ev_w75, ev_a76, ev_l76, ev_w76, ev_ck77, ev_g77, ev_p77, ev_r77_0, ev_r77_1, ev_a78, ev_w78, ev_a79, ev_l79, ev_w79, ev_ck80, ev_g80, ev_p80, ev_r80_0, ev_r80_1, ev_r80_2, ev_a81, ev_w81, ev_ck82, ev_g82, ev_p82, ev_r82_0, ev_r82_1, ev_a83, ev_w83, ev_a84, ev_l84, ev_w84, ev_ck85, ev_g85, ev_p85, ev_r85_0, ev_r85_1, ev_a86, ev_w86, ev_a87, ev_l87, ev_w87, ev_ck88, ev_g88, ev_p88, ev_r88_0, ev_r88_1, ev_r88_2, ev_a89, ev_w89, ev_ck90, ev_g90, ev_p90, ev_r90_0, ev_r90_1, ev_a91, ev_w91, ev_a92, ev_l92, ev_w92, ev_ck93, ev_g93, ev_p93, ev_r93_0, ev_r93_1, ev_a94, ev_w94, ev_a95, ev_l95, ev_w95, ev_ck96, ev_g96, ev_p96, ev_r96_0, ev_r96_1, ev_r96_2, ev_a97, ev_w97, ev_ck98, ev_g98, ev_p98, ev_r98_0, ev_r98_1, ev_a99, ev_w99, ev_a100, ev_l100, ev_w100, ev_ck101, ev_g101, ev_p101, ev_r101_0, ev_r101_1, ev_a102, ev_w102, ev_a103, ev_l103, ev_w103, ev_ck104, ev_g104, ev_p104, ev_r104_0, ev_r104_1, ev_r104_2, ev_a105, ev_w105, ev_ck106, ev_g106, ev_p106, ev_r106_0, ev_r106_1, ev_a107, ev_w107, ev_a108, ev_l108, ev_w108, ev_ck109, ev_g109, ev_p109, ev_r109_0, ev_r109_1, ev_a110, ev_w110, ev_a111, ev_l111, ev_w111, ev_ck112, ev_g112, ev_p112, ev_r112_0, ev_r112_1, ev_r112_2, ev_a113, ev_w113, ev_a114, ev_w114, ev_ck115, ev_g115, ev_p115, ev_r115_0, ev_r115_1, ev_r115_2, ev_q116_0, ev_q116_1, ev_a117, ev_w117, ev_a118, ev_w118, ev_q119_0, ev_q119_1, ev_a120, ev_l120, ev_w120, ev_a121, ev_l121, ev_w121, ev_ck122, ev_g122, ev_p122, ev_r122_0, ev_r122_1, ev_r122_2, ev_r122_3, ev_a123, ev_w123, ev_a124, ev_w124, ev_a125, ev_l125, ev_w125])
    12 1 ob_FU (g.1, ob_upL g.2 70 0 1) (by omega) (by unfold ob_FU; omega)
    ⟨by omega, rfl, fun n hn => pu_upL_ne hn, fun a ha => by
      have : a = 0 := by omega
      subst this
      show vp_updL (g.2 70) 0 1 0 = _
      rw [pu_updL_eq]
      rfl⟩
  refine ⟨r, ?_, h2⟩
  unfold f_X3_fillPowers
  rw [ev_r67_3, Option.bind_some, hw0, Option.bind_some]
  exact pu_b h1
def c_PJ (S : Nat → Int32) (g0 g : ob_St) (T j : Nat) : Prop :=
  (∀ m, m ≠ 68 → m ≠ 69 → g.1 m = g0.1 m) ∧ g.2 = g0.2 ∧ ∀ t' j', t' ≤ sN S 2 → j' ≤ t' → (t' < T ∨ t' = T ∧ j' < j) → g.1 68 (nd t' j') = sp_str S t' j' ∧ g.1 69 (nd t' j') = sp_pr S t' j'
theorem c_fillRow {S : Nat → Int32} {g0 g : ob_St} {t : Nat} {x : Int32} (hW : sp_WF S) (hw : g0.1 24 4 = S 1) (ht : t ≤ sN S 2) (hx : x = S 0 - sp_fs S t) (h : c_PJ S g0 g t 0) :
    ∃ g', L_X3_fillPrices_45 67 x (nI t) (sp_cf S t) ob_FU g (nI 0) = some g' ∧ c_PJ S g0 g' (t + 1) 0 := by
  have h12 := wf_12 hW
  exact pu_up (fun n s i => L_X3_fillPrices_45 67 x (nI t) (sp_cf S t) n s (nI i)) (fun i s => c_PJ S g0 s t i) (t + 1) (fun r => c_PJ S g0 r (t + 1) 0)
    (fun n s hI => ⟨s, by
      show (if nI t < nI (t + 1) then _ else _) = _
      rw [if_pos (nI_lt (by omega) (by omega))], hI.1, hI.2.1, fun t' j' h1 h2 h3 => hI.2.2 t' j' h1 h2 (by omega)⟩)
    (fun n i s hi hI => by
      obtain ⟨i1, i2, i3⟩ := hI
      have hl := nd_lt (t := t) (j := i) (by omega) (by omega)
      have e4 : s.1 24 4 = S 1 := by rw [i1 24 (by omega) (by omega)]; exact hw
      have es : x + nI i * S 1 = sp_str S t i := by rw [hx]; unfold sp_str; grind
      refine ⟨(ob_up (ob_up s.1 68 (nd t i) (sp_str S t i)) 69 (nd t i) (sp_pr S t i), s.2), ⟨?_, i2, ?_⟩, ?_⟩
      · intro m m1 m2
        show ob_up (ob_up s.1 68 _ _) 69 _ _ m = _
        rw [pu_up_ne m2, pu_up_ne m1, i1 m m1 m2]
      · intro t' j' ht' hj' hd
        have r68 : ∀ y, (ob_up (ob_up s.1 68 (nd t i) (sp_str S t i)) 69 (nd t i) (sp_pr S t i)) 68 y = upd (s.1 68) (nd t i) (sp_str S t i) y := fun y => rfl
        have r69 : ∀ y, (ob_up (ob_up s.1 68 (nd t i) (sp_str S t i)) 69 (nd t i) (sp_pr S t i)) 69 y = upd (s.1 69) (nd t i) (sp_pr S t i) y := fun y => rfl
        simp only [r68, r69]
        by_cases hc : t' = t ∧ j' = i
        · obtain ⟨rfl, rfl⟩ := hc
          rw [pu_upd_eq, pu_upd_eq]
          exact ⟨rfl, rfl⟩
        · have hne : nd t' j' ≠ nd t i := fun e => hc (nd_inj hj' (by omega) e)
          rw [pu_upd_ne hne, pu_upd_ne hne]
          exact i3 t' j' ht' hj' (by omega)
      · show (if nI t < nI i then _ else _) = _
        rw [if_neg (nI_nlt (by omega) (by omega)), c_nodeAt (by omega)]
        simp (disch := omega) only [e4, es, Option.bind_some, pu_add, pu_addr, pu_mul, nI_1, nI_add, pk_mul, ev_ck20, ev_g20, ev_p20, ev_r20_0, ev_r20_3, ev_r20_4, ev_r20_5, ev_r20_6, ev_r20_7, ev_r20_8, ev_r20_9, ev_r20_10, ev_r20_11, ev_a21, ev_l21, ev_w21, ev_q22_0, ev_q22_1, ev_a23, ev_l23, ev_ck24, ev_g24, ev_p24, ev_r24_0, ev_r24_1, ev_r24_2, ev_a25, ev_l25, ev_w25, ev_a26, ev_l26, ev_w26, ev_q27_0, ev_q27_1, ev_q27_2, ev_q27_3, ev_ck28, ev_g28, ev_p28, ev_ck29, ev_g29, ev_p29, ev_ck30, ev_g30, ev_p30, ev_ck31, ev_g31, ev_p31, ev_ck32, ev_g32, ev_p32, ev_r32_0, ev_r32_1, ev_r32_2, ev_a33, ev_l33, ev_w33, ev_a34, ev_l34, ev_w34, ev_q35_0, ev_q35_1, ev_q35_2, ev_q35_3, ev_ck36, ev_g36, ev_p36, ev_ck37, ev_g37, ev_p37, ev_ck38, ev_g38, ev_p38, ev_ck39, ev_g39, ev_p39, ev_ck40, ev_g40, ev_p40, ev_r40_0, ev_r40_1, ev_r40_2, ev_a41, ev_l41, ev_w41, ev_a42, ev_l42, ev_w42, ev_q43_0, ev_q43_1, ev_q43_2, ev_q43_3, ev_ck44, ev_g44, ev_p44, ev_ck45, ev_g45, ev_p45, ev_ck46, ev_g46, ev_p46, ev_ck47, ev_g47, ev_p47, ev_ck48, ev_g48, ev_p48, ev_r48_0, ev_r48_1, ev_r48_2, ev_a49, ev_l49, ev_w49, ev_a50, ev_l50, ev_w50, ev_q51_0, ev_q51_1, ev_q51_2, ev_q51_3, ev_ck52, ev_g52, ev_p52, ev_ck53, ev_g53, ev_p53, ev_ck54, ev_g54, ev_p54, ev_ck55, ev_g55, ev_p55, ev_ck56, ev_g56, ev_p56, ev_r56_0, ev_r56_3, ev_r56_4, ev_ck57, ev_g57, ev_p57, ev_r57_0, ev_r57_1, ev_r57_2, ev_r57_3, ev_r57_4, ev_a58, ev_l58, ev_w58, ev_a59, ev_l59, ev_w59, ev_a60, ev_w60, ev_a61, ev_w61, ev_a62, ev_w62, ev_ck63, ev_g63, ev_p63, ev_r63_0, ev_r63_1, ev_r63_2, ev_a64, ev_l64, ev_w64, ev_a65, ev_l65, ev_w65, ev_a66, ev_l66, ev_w66, ev_ck67, ev_g67, ev_p67, ev_r67_0, ev_r67_1, ev_r67_2, ev_r67_3, ev_r67_4, ev_r67_5, ev_a68, ev_l68, ev_w68, ev_a69, ev_l69, ev_w69, ev_a70, ev_w70, ev_q71_0, ev_q71_1, ev_q71_2, ev_q71_3, ev_ck72, ev_g72, ev_p72, ev_r72_0, ev_r72_1, ev_r72_2, ev_a73, ev_w73, ev_ck74, ev_g74, ev_p74, ev_r74_0, ev_r74_1, ev_a75, ev_w75, ev_a76, ev_l76, ev_w76, ev_ck77, ev_g77, ev_p77, ev_r77_0, ev_r77_1, ev_a78, ev_w78, ev_a79, ev_l79, ev_w79, ev_ck80, ev_g80, ev_p80, ev_r80_0, ev_r80_1, ev_r80_2, ev_a81, ev_w81, ev_ck82, ev_g82, ev_p82, ev_r82_0, ev_r82_1, ev_a83, ev_w83, ev_a84, ev_l84, ev_w84, ev_ck85, ev_g85, ev_p85, ev_r85_0, ev_r85_1, ev_a86, ev_w86, ev_a87, ev_l87, ev_w87, ev_ck88, ev_g88, ev_p88, ev_r88_0, ev_r88_1, ev_r88_2, ev_a89, ev_w89, ev_ck90, ev_g90, ev_p90, ev_r90_0, ev_r90_1, ev_a91, ev_w91, ev_a92, ev_l92, ev_w92, ev_ck93, ev_g93, ev_p93, ev_r93_0, ev_r93_1, ev_a94, ev_w94, ev_a95, ev_l95, ev_w95, ev_ck96, ev_g96, ev_p96, ev_r96_0, ev_r96_1, ev_r96_2, ev_a97, ev_w97, ev_ck98, ev_g98, ev_p98, ev_r98_0, ev_r98_1, ev_a99, ev_w99, ev_a100, ev_l100, ev_w100, ev_ck101, ev_g101, ev_p101, ev_r101_0, ev_r101_1, ev_a102, ev_w102, ev_a103, ev_l103, ev_w103, ev_ck104, ev_g104, ev_p104, ev_r104_0, ev_r104_1, ev_r104_2, ev_a105, ev_w105, ev_ck106, ev_g106, ev_p106, ev_r106_0, ev_r106_1, ev_a107, ev_w107, ev_a108, ev_l108, ev_w108, ev_ck109, ev_g109, ev_p109, ev_r109_0, ev_r109_1, ev_a110, ev_w110, ev_a111, ev_l111, ev_w111, ev_ck112, ev_g112, ev_p112, ev_r112_0, ev_r112_1, ev_r112_2, ev_a113, ev_w113, ev_a114, ev_w114, ev_ck115, ev_g115, ev_p115, ev_r115_0, ev_r115_1, ev_r115_2, ev_q116_0, ev_q116_1, ev_a117, ev_w117, ev_a118, ev_w118, ev_q119_0, ev_q119_1, ev_a120, ev_l120, ev_w120, ev_a121, ev_l121, ev_w121, ev_ck122, ev_g122, ev_p122, ev_r122_0, ev_r122_1, ev_r122_2, ev_r122_3, ev_a123, ev_w123, ev_a124, ev_w124, ev_a125, ev_l125, ev_w125]
        have e68 : ob_up s.1 68 (nd t i) (sp_str S t i) 68 (nd t i) = sp_str S t i := pu_upd_eq
        rw [e68]
        rfl)
    (t + 1) 0 ob_FU g (by omega) (by unfold ob_FU; omega) h
theorem c_fillPrices {S : Nat → Int32} {g : ob_St} (hW : sp_WF S) (hM : c_M 24 S g) : ∃ r, f_X3_fillPrices g 67 = some r ∧ c_PJ S g r (sN S 2 + 1) 0 := by
  have h12 := wf_12 hW
  have h4 := wf_4 hW
  obtain ⟨r, h1, h2⟩ := pu_up (fun n (s : ob_St × Int32) i => L_X3_fillPrices_10 67 n s.1 s.2 (nI i)) (fun i s => s.2 - S (3 + i) = S 0 - sp_fs S i ∧ c_PJ S g s.1 i 0) (sN S 2 + 1) (fun r => c_PJ S g r (sN S 2 + 1) 0)
    (fun n s hI => ⟨s.1, by
      have h5 : s.1.1 24 5 = nI (sN S 2) := by rw [hI.2.1 24 (by omega) (by omega)]; exact hM.2.2.1.trans (wf_2 hW)
      show Lb_X3_fillPrices_10 _ _ _ _ _ = _
      unfold Lb_X3_fillPrices_10
      rw [ev_r67_0, Option.bind_some, ev_g24, Option.bind_some, h5, if_pos (nI_lt (by omega) (by omega))], hI.2⟩)
    (fun n i s hi hI => by
      obtain ⟨i1, i2⟩ := hI
      have hMs : c_M 24 S s.1 := c_M_fr h4 (fun m m1 m2 => i2.1 m (by omega) (by omega)) hM
      have h5 : s.1.1 24 5 = nI (sN S 2) := hMs.2.2.1.trans (wf_2 hW)
      have e25 : s.1.1 25 i = S (3 + i) := (hMs.2.2.2.2.1 i (by omega)).1
      obtain ⟨g', r1, r2⟩ := c_fillRow hW hM.2.1 (by omega : i ≤ sN S 2) i1 i2
      refine ⟨(g', s.2 - S (3 + i)), ⟨?_, r2⟩, ?_⟩
      · show s.2 - S (3 + i) - S (3 + (i + 1)) = S 0 - (sp_fs S i + S (3 + (i + 1)))
        rw [i1]
        grind
      · show Lb_X3_fillPrices_10 _ _ _ _ _ = _
        unfold Lb_X3_fillPrices_10
        rw [ev_r67_0, Option.bind_some, ev_g24, Option.bind_some, h5, if_neg (nI_nlt (by omega) (by omega)), Option.bind_some, ev_r24_0, Option.bind_some, ev_a25 (by omega), Option.bind_some, e25, Option.bind_some, c_cashFrom hW hMs (by omega), ev_ck24, Option.bind_some]
        exact (pu_b r1).trans (by rw [nI_1]))
    (sN S 2 + 1) 0 ob_FU (g, S 0) (by omega) (by unfold ob_FU; omega)
    ⟨by
      show S 0 - S (3 + 0) = S 0 - 0
      rw [show S (3 + 0) = 0 from hW.2.2.2.2.1], fun _ _ _ => rfl, rfl, fun t' j' h1 h2 h3 => by omega⟩
  refine ⟨r, ?_, h2⟩
  unfold f_X3_fillPrices
  rw [ev_r67_0, Option.bind_some, ev_g24, Option.bind_some, hM.1]
  exact pu_b h1
def c_Lat (S : Nat → Int32) (g : ob_St) : Prop := c_Pr S g ∧ ∀ k, k < sN S 29 → ∀ t j, t ≤ sN S 2 → j ≤ t → c_H g (72 + 8 * k) S k (sp_o S k 3) (sp_P S k) t j
def c_Q (S : Nat → Int32) (g : ob_St) : Prop := sp_WF S ∧ c_M 24 S g ∧ (g.1 67 6 = 1 ∨ (g.1 67 6 = 0 ∧ c_Lat S g))
def c_K (g g' : ob_St) : Prop := ∀ m, m < 67 → g'.1 m = g.1 m ∧ g'.2 m = g.2 m
theorem c_K_refl (g : ob_St) : c_K g g := fun _ _ => ⟨rfl, rfl⟩
theorem c_K_tr {a b c : ob_St} (h : c_K a b) (h' : c_K b c) : c_K a c := fun m hm => ⟨(h' m hm).1.trans (h m hm).1, (h' m hm).2.trans (h m hm).2⟩
theorem c_M_K {S : Nat → Int32} {g g' : ob_St} (hW : sp_WF S) (h : c_K g g') (hM : c_M 24 S g) : c_M 24 S g' := c_M_fr (wf_4 hW) (fun m _ m2 => (h m (by omega)).1) hM
theorem c_H_congr {g : ob_St} {n : Nat} {S : Nat → Int32} {k : Nat} {fr : Int32} {P P' : Nat → Nat → Int64} (h : ∀ t j, t ≤ sN S 2 → j ≤ t → P t j = P' t j) {t j : Nat} (hm : c_H g n S k fr P t j) (ht : t ≤ sN S 2) (hj : j ≤ t) : c_H g n S k fr P' t j := by
  obtain ⟨h1, h2, h3, h4, h5⟩ := hm
  refine ⟨?_, ?_, ?_, ?_, ?_⟩
  · rw [h1, h t j ht hj]
  · rw [h2, sp_pl_congr h ht hj]
  · rw [h3]
    unfold sp_pd
    rw [h t j ht hj, sp_hd_loc2 ht hj (fun hlt i hi => sp_pl_congr h (by omega) hi)]
  · rw [h4, sp_vl_congr h ht hj]
  · rw [h5]
    unfold sp_de
    rw [h t j ht hj, sp_hd_loc2 ht hj (fun hlt i hi => sp_vl_congr h (by omega) hi)]
theorem c_H_fr {g g' : ob_St} {n : Nat} {S : Nat → Int32} {k : Nat} {fr : Int32} {P : Nat → Nat → Int64} {t j : Nat} (h1 : ∀ m, n < m → m < n + 8 → g'.1 m = g.1 m ∧ g'.2 m = g.2 m) (h : c_H g n S k fr P t j) : c_H g' n S k fr P t j := by
  unfold c_H at h ⊢
  rw [(h1 (n + 1) (by omega) (by omega)).2, (h1 (n + 3) (by omega) (by omega)).2, (h1 (n + 4) (by omega) (by omega)).1, (h1 (n + 6) (by omega) (by omega)).2, (h1 (n + 7) (by omega) (by omega)).1]
  exact h
theorem c_sheets {S : Nat → Int32} {g : ob_St} (hW : sp_WF S) (hM : c_M 24 S g) (hP : c_Pr S g) :
    ∃ r, L_X3_refresh_23 67 ob_FU g (nI 0) = some r ∧ (∀ m, m < 72 → r.1 m = g.1 m ∧ r.2 m = g.2 m) ∧ ∀ k, k < sN S 29 → ∀ t j, t ≤ sN S 2 → j ≤ t → c_H r (72 + 8 * k) S k (sp_o S k 3) (sp_P S k) t j := by
  have h12 := wf_12 hW
  have h4 := wf_4 hW
  exact pu_up (fun n s i => L_X3_refresh_23 67 n s (nI i))
    (fun i s => (∀ m, m < 72 → s.1 m = g.1 m ∧ s.2 m = g.2 m) ∧ ∀ k, k < i → ∀ t j, t ≤ sN S 2 → j ≤ t → c_H s (72 + 8 * k) S k (sp_o S k 3) (sp_P S k) t j) (sN S 29)
    (fun s => (∀ m, m < 72 → s.1 m = g.1 m ∧ s.2 m = g.2 m) ∧ ∀ k, k < sN S 29 → ∀ t j, t ≤ sN S 2 → j ≤ t → c_H s (72 + 8 * k) S k (sp_o S k 3) (sp_P S k) t j)
    (fun n s hI => ⟨s, by
      have h6 : s.1 24 6 = nI (sN S 29) := by rw [(hI.1 24 (by omega)).1]; exact hM.2.2.2.1.trans (wf_29 hW)
      show Lb_X3_refresh_23 _ _ _ _ = _
      unfold Lb_X3_refresh_23
      rw [ev_r67_0, Option.bind_some, ev_g24, Option.bind_some, h6, if_pos (nI_le (by omega) (by omega))], hI⟩)
    (fun n i s hi hI => by
      obtain ⟨i1, i2⟩ := hI
      have hMs : c_M 24 S s := c_M_fr h4 (fun m m1 m2 => (i1 m (by omega)).1) hM
      have hPs : c_Pr S s := by
        refine ⟨fun a ha => ?_, fun t j h1 h2 => ?_⟩
        · rw [(i1 70 (by omega)).2]; exact hP.1 a ha
        · rw [(i1 68 (by omega)).1, (i1 69 (by omega)).1]; exact hP.2 t j h1 h2
      have h6 : s.1 24 6 = nI (sN S 29) := hMs.2.2.2.1.trans (wf_29 hW)
      have hC := hMs.2.2.2.2.2 i hi
      have ho := wf_o hW hi
      obtain ⟨g', l1, l2, l3⟩ := c_fill (g := s) (n := 72 + 8 * i) (k := i) (s := sN S (30 + 10 * i + 1)) (f := sN S (30 + 10 * i + 3)) (c_Sh_k (by omega)) (Or.inl rfl) hW hMs hPs hi ho.2.1.2
        (fun e => by
          have hk3 : sN S (30 + 10 * i + 0) = 3 := (nI_eq (by have := ho.1.2; omega) (b := 3) (by omega)).mp (ho.1.1.symm.trans e)
          exact (ho.2.2.1.2.2 hk3).2.1) ho.2.2.2.1.2 rfl
      rw [← ho.2.1.1, ← ho.2.2.2.1.1] at l1 l3
      have hq : ∀ t j, t ≤ sN S 2 → j ≤ t → sp_pay S (c_V s) i (sp_o S i 1) t j = sp_P S i t j := by
        intro t j ht hj
        refine sp_pay_V ho (fun q hq => ?_)
        rw [sp_Vs_lt hq]
        exact (i2 q hq t j ht hj).2.2.2.1
      refine ⟨g', ⟨fun m hm => ⟨(l2.1 m (by omega) (by omega)).trans (i1 m hm).1, (l2.2 m (by omega) (by omega) (by omega)).trans (i1 m hm).2⟩, ?_⟩, ?_⟩
      · intro k hk t j ht hj
        by_cases hki : k = i
        · subst hki
          exact c_H_congr hq (l3 t j ht hj) ht hj
        · exact c_H_fr (fun m m1 m2 => ⟨l2.1 m (by omega) (by omega), l2.2 m (by omega) (by omega) (by omega)⟩) (i2 k (by omega) t j ht hj)
      · show Lb_X3_refresh_23 _ _ _ _ = _
        have e1 : s.1 (28 + i) 1 = sp_o S i 1 := hC.2.1
        have e3 : s.1 (28 + i) 3 = c_fr (sp_o S i 3) := hC.2.2.2.1
        unfold Lb_X3_refresh_23
        rw [ev_r67_0, Option.bind_some, ev_g24, Option.bind_some, h6, if_neg (nI_ge (by omega) (by omega)), Option.bind_some, ev_r24_2, Option.bind_some, ew_27 (by omega), Option.bind_some, ev_r67_4, Option.bind_some, ew_71 (by omega), Option.bind_some, ew_gc (by omega), Option.bind_some, ew_gc (by omega), Option.bind_some, e1, e3, l1, ev_ck67, Option.bind_some, nI_1])
    (sN S 29) 0 ob_FU g (by omega) (by unfold ob_FU; omega) ⟨fun _ _ => ⟨rfl, rfl⟩, fun k hk => by omega⟩
theorem c_refresh {S : Nat → Int32} {g : ob_St} (hQ : c_Q S g) : ∃ g', f_X3_refresh g 67 = some g' ∧ c_K g g' ∧ c_M 24 S g' ∧ g'.1 67 6 = 0 ∧ c_Lat S g' := by
  obtain ⟨hW, hM, hL⟩ := hQ
  rcases hL.symm with ⟨h0, h2⟩ | h1
  · refine ⟨g, ?_, c_K_refl g, hM, h0, h2⟩
    unfold f_X3_refresh
    rw [ev_g67, Option.bind_some, if_pos h0]
  have h4 := wf_4 hW
  have hz : ob_pZ g 3 67 6 0 = some (ob_up g.1 67 6 0, g.2) := pu_pZ rfl (Or.inl rfl)
  generalize hg2 : ((ob_up g.1 67 6 0, g.2) : ob_St) = g2 at hz
  have f2 : g2.1 = ob_up g.1 67 6 0 := by rw [← hg2]
  have f2b : g2.2 = g.2 := by rw [← hg2]
  have hM2 : c_M 24 S g2 := c_M_fr h4 (fun m m1 m2 => by rw [f2, pu_up_ne (by omega)]) hM
  obtain ⟨g3, a1, a2, a3, a4⟩ := c_fillPowers (g := g2) (S := S) hM2.2.1
  have hM3 : c_M 24 S g3 := c_M_fr h4 (fun m m1 m2 => by rw [a2]) hM2
  obtain ⟨g4, b1, b2, b3, b4⟩ := c_fillPrices hW hM3
  have hM4 : c_M 24 S g4 := c_M_fr h4 (fun m m1 m2 => b2 m (by omega) (by omega)) hM3
  have hP4 : c_Pr S g4 := ⟨fun i hi => by rw [b3]; exact a4 i hi, fun t j ht hj => b4 t j ht hj (by omega)⟩
  obtain ⟨g5, c1, c2, c3⟩ := c_sheets hW hM4 hP4
  have hM5 : c_M 24 S g5 := c_M_fr h4 (fun m m1 m2 => (c2 m (by omega)).1) hM4
  refine ⟨g5, ?_, ?_, hM5, ?_, ?_, c3⟩
  · have n1 : ¬ g.1 67 6 = 0 := by rw [h1]; decide
    unfold f_X3_refresh
    rw [ev_g67, Option.bind_some, if_neg n1, hz, Option.bind_some, a1, ev_ck67, Option.bind_some, b1, ev_ck67, Option.bind_some]
    exact pu_b c1
  · intro m hm
    refine ⟨?_, ?_⟩
    · rw [(c2 m (by omega)).1, b2 m (by omega) (by omega), a2, f2, pu_up_ne (by omega)]
    · rw [(c2 m (by omega)).2, b3, a3 m (by omega), f2b]
  · rw [(c2 67 (by omega)).1, b2 67 (by omega) (by omega), a2, f2, pu_up_eq, pu_upd_eq]
  · refine ⟨fun i hi => ?_, fun t j ht hj => ?_⟩
    · rw [(c2 70 (by omega)).2]; exact hP4.1 i hi
    · rw [(c2 68 (by omega)).1, (c2 69 (by omega)).1]; exact hP4.2 t j ht hj
