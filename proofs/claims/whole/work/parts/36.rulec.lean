/-! the class's rule; reach and worthBy on both sides -/
theorem c_Lat_RF {S : Nat → Int32} {r : Nat → Prop} {g g' : ob_St} (h : m_RF r g g') (hr : ∀ m, r m → 112 ≤ m) (hL : c_Lat S g) (hW : sp_WF S) : c_Lat S g' := by
  have h4 := wf_4 hW
  refine ⟨⟨fun i hi => ?_, fun t j ht hj => ?_⟩, fun k hk t j ht hj => ?_⟩
  · rw [h.2 70 (fun hh => absurd (hr _ hh) (by omega))]; exact hL.1.1 i hi
  · rw [h.1]; exact hL.1.2 t j ht hj
  · exact c_H_fr (fun m m1 m2 => ⟨by rw [h.1], h.2 m (fun hh => absurd (hr _ hh) (by omega))⟩) (hL.2 k hk t j ht hj)
theorem c_M_RF {S : Nat → Int32} {r : Nat → Prop} {g g' : ob_St} {b : Nat} (h : m_RF r g g') (hM : c_M b S g) (hW : sp_WF S) : c_M b S g' := c_M_fr (wf_4 hW) (fun m _ _ => by rw [h.1]) hM
theorem c_K_RF {r : Nat → Prop} {g g' : ob_St} (h : m_RF r g g') (hr : ∀ m, r m → 112 ≤ m) : c_K g g' := fun m hm => ⟨by rw [h.1], h.2 m (fun hh => absurd (hr _ hh) (by omega))⟩
theorem c_odds {S : Nat → Int32} {g : ob_St} {mk up : Int32} (hW : sp_WF S) (hM : c_M 24 S g) (hP : c_Pr S g) : ∃ g', f_X8_oddsOf g 122 mk up = some (sp_od S mk up 0 0, g') ∧ m_RF (fun m => m = 123) g g' := by
  have h12 := wf_12 hW
  have h5 : g.1 24 5 = nI (sN S 2) := hM.2.2.1.trans (wf_2 hW)
  obtain ⟨g', h1, h2⟩ := pu_tj (fun f s x => L_X8_oddsOf_11 122 mk up f s x) (fun t f s x => L_X8_oddsOf_18 122 mk up (nI t) f s x) (sN S 2) h12
    (m_RJ (fun m => m = 123) (fun s t j => s.2 123 (nd t j) = sp_od S mk up t j) (sN S 2) g)
    (fun f s => by
      show Lb_X8_oddsOf_11 _ _ _ _ _ _ = _
      unfold Lb_X8_oddsOf_11
      exact if_pos (by decide))
    (fun f s t ht hJ => by
      show Lb_X8_oddsOf_11 _ _ _ _ _ _ = _
      unfold Lb_X8_oddsOf_11
      rw [if_neg (nI_pos (by omega))]
      rfl)
    (fun t f s ht => by
      show Lb_X8_oddsOf_18 _ _ _ _ _ _ _ = _
      unfold Lb_X8_oddsOf_18
      rw [if_pos (nI_lt (by omega) (by omega))])
    (fun t j f s ht hj hJ => by
      obtain ⟨⟨a1, a2⟩, a3⟩ := hJ
      have hl := nd_lt (t := t) (j := j) (by omega) hj
      have hMs : c_M 24 S s := c_M_fr (wf_4 hW) (fun m _ _ => by rw [a1]) hM
      have hpw : ∀ i, i < 13 → s.2 70 i = sp_pw S i := fun i hi => by rw [a2 70 (by omega)]; exact hP.1 i hi
      have e69 : s.1 69 (nd t j) = sp_pr S t j := by rw [a1]; exact (hP.2 t j ht hj).2
      have hh := c_heldOf (g := s) (r := 123) (t := t) (j := j) rfl rfl hW hMs ht hj
      rw [sp_hd_loc2 (R' := sp_od S mk up) ht hj (fun h i hi => a3 (t + 1) i (by omega) hi (Or.inl (by omega)))] at hh
      have hsc := c_scaleAt hW hMs hpw ht
      have fin : ∀ v, v = sp_od S mk up t j → B_X8_oddsOf_85 (L_X8_oddsOf_18 122 mk up (nI t) f) s 122 mk up (nI t) (nI j) 123 (nI (nd t j)) v = L_X8_oddsOf_18 122 mk up (nI t) f (s.1, ob_upL s.2 123 (nd t j) (sp_od S mk up t j)) (nI (j + 1)) := by
        intro v hv
        subst hv
        unfold B_X8_oddsOf_85
        rw [ev_w123 hl, Option.bind_some, nI_1]
      refine ⟨(s.1, ob_upL s.2 123 (nd t j) (sp_od S mk up t j)), ⟨⟨a1, fun m hm => ?_⟩, fun t' j' h1 h2 h3 => ?_⟩, ?_⟩
      · show ob_upL s.2 123 _ _ m = _
        rw [pu_upL_ne hm, a2 m hm]
      · show vp_updL (s.2 123) _ _ _ = _
        by_cases hc : t' = t ∧ j' = j
        · obtain ⟨rfl, rfl⟩ := hc
          rw [pu_updL_eq]
        · rw [pu_updL_ne (fun e => hc (nd_inj h2 hj e))]
          exact a3 t' j' h1 h2 (by omega)
      · show Lb_X8_oddsOf_18 _ _ _ _ _ _ _ = _
        unfold Lb_X8_oddsOf_18
        rw [if_neg (nI_nlt (by omega) (by omega))]
        simp (disch := omega) only [c_nodeAt (show t ≤ 12 by omega), e69, c_isPast, bI_if, hh, hsc, Option.bind_some, pu_add, pu_addr, pu_mul, nI_1, nI_add, pk_mul, ev_ck20, ev_g20, ev_p20, ev_r20_0, ev_r20_3, ev_r20_4, ev_r20_5, ev_r20_6, ev_r20_7, ev_r20_8, ev_r20_9, ev_r20_10, ev_r20_11, ev_a21, ev_l21, ev_w21, ev_q22_0, ev_q22_1, ev_a23, ev_l23, ev_ck24, ev_g24, ev_p24, ev_r24_0, ev_r24_1, ev_r24_2, ev_a25, ev_l25, ev_w25, ev_a26, ev_l26, ev_w26, ev_q27_0, ev_q27_1, ev_q27_2, ev_q27_3, ev_ck28, ev_g28, ev_p28, ev_ck29, ev_g29, ev_p29, ev_ck30, ev_g30, ev_p30, ev_ck31, ev_g31, ev_p31, ev_ck32, ev_g32, ev_p32, ev_r32_0, ev_r32_1, ev_r32_2, ev_a33, ev_l33, ev_w33, ev_a34, ev_l34, ev_w34, ev_q35_0, ev_q35_1, ev_q35_2, ev_q35_3, ev_ck36, ev_g36, ev_p36, ev_ck37, ev_g37, ev_p37, ev_ck38, ev_g38, ev_p38, ev_ck39, ev_g39, ev_p39, ev_ck40, ev_g40, ev_p40, ev_r40_0, ev_r40_1, ev_r40_2, ev_a41, ev_l41, ev_w41, ev_a42, ev_l42, ev_w42, ev_q43_0, ev_q43_1, ev_q43_2, ev_q43_3, ev_ck44, ev_g44, ev_p44, ev_ck45, ev_g45, ev_p45, ev_ck46, ev_g46, ev_p46, ev_ck47, ev_g47, ev_p47, ev_ck48, ev_g48, ev_p48, ev_r48_0, ev_r48_1, ev_r48_2, ev_a49, ev_l49, ev_w49, ev_a50, ev_l50, ev_w50, ev_q51_0, ev_q51_1, ev_q51_2, ev_q51_3, ev_ck52, ev_g52, ev_p52, ev_ck53, ev_g53, ev_p53, ev_ck54, ev_g54, ev_p54, ev_ck55, ev_g55, ev_p55, ev_ck56, ev_g56, ev_p56, ev_r56_0, ev_r56_3, ev_r56_4, ev_ck57, ev_g57, ev_p57, ev_r57_0, ev_r57_1, ev_r57_2, ev_r57_3, ev_r57_4, ev_a58, ev_l58, ev_w58, ev_a59, ev_l59, ev_w59, ev_a60, ev_w60, ev_a61, ev_w61, ev_a62, ev_w62, ev_ck63, ev_g63, ev_p63, ev_r63_0, ev_r63_1, ev_r63_2, ev_a64, ev_l64, ev_w64, ev_a65, ev_l65, ev_w65, ev_a66, ev_l66, ev_w66, ev_ck67, ev_g67, ev_p67, ev_r67_0, ev_r67_1, ev_r67_2, ev_r67_3, ev_r67_4, ev_r67_5, ev_a68, ev_l68, ev_w68, ev_a69, ev_l69, ev_w69, ev_a70, ev_w70, ev_q71_0, ev_q71_1, ev_q71_2, ev_q71_3, ev_ck72, ev_g72, ev_p72, ev_r72_0, ev_r72_1, ev_r72_2, ev_a73, ev_w73, ev_ck74, ev_g74, ev_p74, ev_r74_0, ev_r74_1, ev_a75, ev_w75, ev_a76, ev_l76, ev_w76, ev_ck77, ev_g77, ev_p77, ev_r77_0, ev_r77_1, ev_a78, ev_w78, ev_a79, ev_l79, ev_w79, ev_ck80, ev_g80, ev_p80, ev_r80_0, ev_r80_1, ev_r80_2, ev_a81, ev_w81, ev_ck82, ev_g82, ev_p82, ev_r82_0, ev_r82_1, ev_a83, ev_w83, ev_a84, ev_l84, ev_w84, ev_ck85, ev_g85, ev_p85, ev_r85_0, ev_r85_1, ev_a86, ev_w86, ev_a87, ev_l87, ev_w87, ev_ck88, ev_g88, ev_p88, ev_r88_0, ev_r88_1, ev_r88_2, ev_a89, ev_w89, ev_ck90, ev_g90, ev_p90, ev_r90_0, ev_r90_1, ev_a91, ev_w91, ev_a92, ev_l92, ev_w92, ev_ck93, ev_g93, ev_p93, ev_r93_0, ev_r93_1, ev_a94, ev_w94, ev_a95, ev_l95, ev_w95, ev_ck96, ev_g96, ev_p96, ev_r96_0, ev_r96_1, ev_r96_2, ev_a97, ev_w97, ev_ck98, ev_g98, ev_p98, ev_r98_0, ev_r98_1, ev_a99, ev_w99, ev_a100, ev_l100, ev_w100, ev_ck101, ev_g101, ev_p101, ev_r101_0, ev_r101_1, ev_a102, ev_w102, ev_a103, ev_l103, ev_w103, ev_ck104, ev_g104, ev_p104, ev_r104_0, ev_r104_1, ev_r104_2, ev_a105, ev_w105, ev_ck106, ev_g106, ev_p106, ev_r106_0, ev_r106_1, ev_a107, ev_w107, ev_a108, ev_l108, ev_w108, ev_ck109, ev_g109, ev_p109, ev_r109_0, ev_r109_1, ev_a110, ev_w110, ev_a111, ev_l111, ev_w111, ev_ck112, ev_g112, ev_p112, ev_r112_0, ev_r112_1, ev_r112_2, ev_a113, ev_w113, ev_a114, ev_w114, ev_ck115, ev_g115, ev_p115, ev_r115_0, ev_r115_1, ev_r115_2, ev_q116_0, ev_q116_1, ev_a117, ev_w117, ev_a118, ev_w118, ev_q119_0, ev_q119_1, ev_a120, ev_l120, ev_w120, ev_a121, ev_l121, ev_w121, ev_ck122, ev_g122, ev_p122, ev_r122_0, ev_r122_1, ev_r122_2, ev_r122_3, ev_a123, ev_w123, ev_a124, ev_w124, ev_a125, ev_l125, ev_w125]
        by_cases c : sp_rc S mk up t j = true
        · rw [if_pos c]
          exact fin _ (by rw [sp_od_eq ht, if_pos c])
        · rw [if_neg c]
          exact fin _ (by rw [sp_od_eq ht, if_neg c]))
    (fun t s ht h => m_RJ_w h) g ⟨⟨rfl, fun _ _ => rfl⟩, fun t' j' h1 h2 h3 => by omega⟩
  have e0 : g'.2 123 0 = sp_od S mk up 0 0 := h2.2 0 0 (by omega) (by omega) (Or.inl (by omega))
  refine ⟨g', ?_, h2.1⟩
  have hr : ob_rL g' 123 0 = some (g'.2 123 0) := pu_rL (n := 123) (i := 0) rfl rfl (by decide)
  unfold f_X8_oddsOf
  rw [ev_r122_0, Option.bind_some, ev_r67_0, Option.bind_some, ev_g24, Option.bind_some, h5]
  refine (pu_b h1).trans ?_
  rw [ev_r122_1, Option.bind_some, hr, Option.bind_some, e0]
theorem c_worthOf {S : Nat → Int32} {g : ob_St} {k : Nat} {mk up : Int32} (hW : sp_WF S) (hM : c_M 24 S g) (hL : c_Lat S g) (hk : k < sN S 29) : ∃ g', f_X8_worthOf g 122 (72 + 8 * k) (28 + k) mk up = some (sp_wv S k mk up 0 0, g') ∧ m_RF (fun m => m = 123 ∨ m = 124) g g' := by
  have h12 := wf_12 hW
  have h4 := wf_4 hW
  have ho := wf_o hW hk
  have hn := c_Sh_k (k := k) (by omega)
  have hkc := ew_kc (k := k) (by omega)
  have h5 : g.1 24 5 = nI (sN S 2) := hM.2.2.1.trans (wf_2 hW)
  obtain ⟨g', h1, h2⟩ := pu_tj (fun f s x => L_X8_worthOf_12 122 (72 + 8 * k) (28 + k) mk up f s x) (fun t f s x => L_X8_worthOf_35 122 (72 + 8 * k) (28 + k) mk up (nI t) (bI (sp_may S (sp_o S k 3) t)) f s x) (sN S 2) h12
    (m_RJ (fun m => m = 123 ∨ m = 124) (fun s t j => s.2 123 (nd t j) = sp_wp S k mk up t j ∧ s.2 124 (nd t j) = sp_wv S k mk up t j) (sN S 2) g)
    (fun f s => by
      show Lb_X8_worthOf_12 _ _ _ _ _ _ _ _ = _
      unfold Lb_X8_worthOf_12
      exact if_pos (by decide))
    (fun f s t ht hJ => by
      have hMs : c_M 24 S s := c_M_fr (wf_4 hW) (fun m _ _ => by rw [hJ.1.1]) hM
      have e3 : s.1 (28 + k) 3 = c_fr (sp_o S k 3) := (hMs.2.2.2.2.2 k hk).2.2.2.1
      have hmy := c_may hW hMs ht ho.2.2.2.1.2
      rw [← ho.2.2.2.1.1] at hmy
      show Lb_X8_worthOf_12 _ _ _ _ _ _ _ _ = _
      unfold Lb_X8_worthOf_12
      rw [if_neg (nI_pos (by omega)), ev_r122_0, Option.bind_some, ew_gc (by omega), Option.bind_some, e3, hmy, ev_ck67, Option.bind_some]
      rfl)
    (fun t f s ht => by
      show Lb_X8_worthOf_35 _ _ _ _ _ _ _ _ _ _ = _
      unfold Lb_X8_worthOf_35
      rw [if_pos (nI_lt (by omega) (by omega))])
    (fun t j f s ht hj hJ => by
      obtain ⟨⟨a1, a2⟩, a3⟩ := hJ
      have hl := nd_lt (t := t) (j := j) (by omega) hj
      have RF : m_RF (fun m => m = 123 ∨ m = 124) g s := ⟨a1, a2⟩
      have hMs : c_M 24 S s := c_M_RF RF hM hW
      have hLs : c_Lat S s := c_Lat_RF RF (fun m hm => by omega) hL hW
      have h5s : s.1 24 5 = nI (sN S 2) := hMs.2.2.1.trans (wf_2 hW)
      have e69 : s.1 69 (nd t j) = sp_pr S t j := (hLs.1.2 t j ht hj).2
      have ep : s.2 (72 + 8 * k + 1) (nd t j) = sp_P S k t j := (hLs.2 k hk t j ht hj).1
      have hh := c_heldOf (g := s) (r := 123) (t := t) (j := j) rfl rfl hW hMs ht hj
      rw [sp_hd_loc2 (R' := sp_wp S k mk up) ht hj (fun h i hi => (a3 (t + 1) i (by omega) hi (Or.inl (by omega))).1)] at hh
      generalize hg9 : ((s.1, ob_upL s.2 123 (nd t j) (sp_wp S k mk up t j)) : ob_St) = g9
      have f9 : g9.1 = g.1 := by rw [← hg9]; exact a1
      have f9b : g9.2 = ob_upL s.2 123 (nd t j) (sp_wp S k mk up t j) := by rw [← hg9]
      have RF9 : m_RF (fun m => m = 123 ∨ m = 124) g g9 := ⟨f9, fun m hm => by rw [f9b, pu_upL_ne (by omega), a2 m hm]⟩
      have hM9 : c_M 24 S g9 := c_M_RF RF9 hM hW
      have hL9 : c_Lat S g9 := c_Lat_RF RF9 (fun m hm => by omega) hL hW
      have hC9 := hM9.2.2.2.2.2 k hk
      have ep9 : g9.2 (72 + 8 * k + 1) (nd t j) = sp_P S k t j := (hL9.2 k hk t j ht hj).1
      have e123 : g9.2 123 (nd t j) = sp_wp S k mk up t j := by rw [f9b, pu_upL_eq, pu_updL_eq]
      have hh9 := c_heldOf (g := g9) (r := 124) (t := t) (j := j) rfl rfl hW hM9 ht hj
      rw [sp_hd_loc2 (R' := sp_wv S k mk up) ht hj (fun h i hi => by
        show g9.2 124 (nd (t + 1) i) = _
        rw [f9b, pu_upL_ne (by omega)]
        exact (a3 (t + 1) i (by omega) hi (Or.inl (by omega))).2)] at hh9
      have hsc9 := c_scaleAt hW hM9 hL9.1.1 ht
      have tch9 := c_isTouched (g := g9) (c := 28 + k) (k := k) (t := t) (j := j) hkc hW hL9.1 hC9.2.2.2.2.1 hC9.2.2.2.2.2.1 hC9.2.2.2.2.2.2.1 ht hj
      have e4 : g9.1 (28 + k) 4 = sp_o S k 4 := hC9.2.2.2.2.1
      have e7 : g9.1 (28 + k) 7 = sp_o S k 7 := hC9.2.2.2.2.2.2.2.1
      have bw : f_X8_barredWorth g9 122 (72 + 8 * k) (28 + k) (nI t) (nI (nd t j)) (bI (sp_ch S k mk up t j)) = some (sp_wv S k mk up t j) := by
        unfold f_X8_barredWorth
        rw [ew_gc (by omega), Option.bind_some, e4]
        simp only [B_X8_barredWorth_82, tch9, ev_r122_0, ev_r122_1, ev_r122_2, ev_ck67, Option.bind_some, ev_a123 hl, e123, ew_gc (show k < 4 by omega), e4, e7, hh9, hsc9, es_0 hn, es_a1 hn hl, ep9, bI_if]
        by_cases c0 : sp_o S k 4 = 0
        · rw [if_pos c0, sp_wv_0 c0 (sN S 2 - t) t j (by omega)]
        rw [if_neg c0, if_neg c0, m_may1, sp_wv_eq ht]
        have hb := ho.2.2.2.2.1
        have hb12 : sp_o S k 4 = 1 ∨ sp_o S k 4 = 2 := by
          rw [hb.1] at c0 ⊢
          rcases (by omega : sN S (30 + 10 * k + 4) = 0 ∨ sN S (30 + 10 * k + 4) = 1 ∨ sN S (30 + 10 * k + 4) = 2) with e | e | e
          · exact absurd (by rw [e]; rfl) c0
          · exact Or.inl (by rw [e]; rfl)
          · exact Or.inr (by rw [e]; rfl)
        unfold sp_wF
        rcases hb12 with e | e
        · rw [e]
          by_cases c2 : sp_tch S k t j = true
          · rw [if_pos c2, c2]; rfl
          · rw [if_neg c2]
            rw [Bool.not_eq_true] at c2
            rw [c2]
            cases sp_ch S k mk up t j <;> rfl
        · rw [e]
          by_cases c2 : sp_tch S k t j = true
          · rw [if_pos c2, c2]; rfl
          · rw [if_neg c2]
            rw [Bool.not_eq_true] at c2
            rw [c2]
            cases sp_ch S k mk up t j <;> rfl
      have fin : ∀ b : Bool, b = sp_ch S k mk up t j → B_X8_worthOf_119 (L_X8_worthOf_35 122 (72 + 8 * k) (28 + k) mk up (nI t) (bI (sp_may S (sp_o S k 3) t)) f) s 122 (72 + 8 * k) (28 + k) mk up (nI t) (bI (sp_may S (sp_o S k 3) t)) (nI j) (nI (nd t j)) (bI b) =
          L_X8_worthOf_35 122 (72 + 8 * k) (28 + k) mk up (nI t) (bI (sp_may S (sp_o S k 3) t)) f (g9.1, ob_upL g9.2 124 (nd t j) (sp_wv S k mk up t j)) (nI (j + 1)) := by
        intro b hb
        have nx : ∀ v, v = sp_wp S k mk up t j → B_X8_worthOf_157 (L_X8_worthOf_35 122 (72 + 8 * k) (28 + k) mk up (nI t) (bI (sp_may S (sp_o S k 3) t)) f) s 122 (72 + 8 * k) (28 + k) mk up (nI t) (bI (sp_may S (sp_o S k 3) t)) (nI j) (nI (nd t j)) (bI b) 123 (nI (nd t j)) v =
          L_X8_worthOf_35 122 (72 + 8 * k) (28 + k) mk up (nI t) (bI (sp_may S (sp_o S k 3) t)) f (g9.1, ob_upL g9.2 124 (nd t j) (sp_wv S k mk up t j)) (nI (j + 1)) := by
          intro v hv
          subst hv
          unfold B_X8_worthOf_157
          rw [ev_w123 hl, Option.bind_some, hg9, ev_r122_2, Option.bind_some, hb, bw, ev_ck122, Option.bind_some, ev_w124 hl, Option.bind_some, nI_1]
        unfold B_X8_worthOf_119
        simp only [ev_r122_0, ev_r122_1, ev_ck67, Option.bind_some, hh, es_0 hn, es_a1 hn hl, ep, bI_if]
        cases b with
        | false => exact nx _ (by rw [sp_wp_eq ht, ← hb]; rfl)
        | true => exact nx _ (by rw [sp_wp_eq ht, ← hb]; rfl)
      refine ⟨(g9.1, ob_upL g9.2 124 (nd t j) (sp_wv S k mk up t j)), ⟨⟨f9, fun m hm => ?_⟩, fun t' j' h1 h2 h3 => ?_⟩, ?_⟩
      · show ob_upL g9.2 124 _ _ m = _
        rw [pu_upL_ne (by omega), RF9.2 m hm]
      · have z123 : ∀ y, (ob_upL g9.2 124 (nd t j) (sp_wv S k mk up t j)) 123 y = vp_updL (s.2 123) (nd t j) (sp_wp S k mk up t j) y := by
          intro y; rw [pu_upL_ne (by omega), f9b, pu_upL_eq]
        have z124 : ∀ y, (ob_upL g9.2 124 (nd t j) (sp_wv S k mk up t j)) 124 y = vp_updL (s.2 124) (nd t j) (sp_wv S k mk up t j) y := by
          intro y; rw [pu_upL_eq, f9b, pu_upL_ne (by omega)]
        simp only [z123, z124]
        by_cases hc : t' = t ∧ j' = j
        · obtain ⟨rfl, rfl⟩ := hc
          rw [pu_updL_eq, pu_updL_eq]
          exact ⟨rfl, rfl⟩
        · have hne : nd t' j' ≠ nd t j := fun e => hc (nd_inj h2 hj e)
          rw [pu_updL_ne hne, pu_updL_ne hne]
          exact a3 t' j' h1 h2 (by omega)
      · show Lb_X8_worthOf_35 _ _ _ _ _ _ _ _ _ _ = _
        unfold Lb_X8_worthOf_35
        rw [if_neg (nI_nlt (by omega) (by omega))]
        have f0 := fin false
        have f1 := fin true
        simp (disch := omega) only [c_nodeAt (show t ≤ 12 by omega), h5s, nI_eq, e69, c_isPast, B_X8_worthOf_85, B_X8_worthOf_90, B_X8_worthOf_118, es_0 hn, es_a1 hn hl, ep, bI_if, Option.bind_some, pu_add, pu_addr, pu_mul, nI_1, nI_add, pk_mul, ev_ck20, ev_g20, ev_p20, ev_r20_0, ev_r20_3, ev_r20_4, ev_r20_5, ev_r20_6, ev_r20_7, ev_r20_8, ev_r20_9, ev_r20_10, ev_r20_11, ev_a21, ev_l21, ev_w21, ev_q22_0, ev_q22_1, ev_a23, ev_l23, ev_ck24, ev_g24, ev_p24, ev_r24_0, ev_r24_1, ev_r24_2, ev_a25, ev_l25, ev_w25, ev_a26, ev_l26, ev_w26, ev_q27_0, ev_q27_1, ev_q27_2, ev_q27_3, ev_ck28, ev_g28, ev_p28, ev_ck29, ev_g29, ev_p29, ev_ck30, ev_g30, ev_p30, ev_ck31, ev_g31, ev_p31, ev_ck32, ev_g32, ev_p32, ev_r32_0, ev_r32_1, ev_r32_2, ev_a33, ev_l33, ev_w33, ev_a34, ev_l34, ev_w34, ev_q35_0, ev_q35_1, ev_q35_2, ev_q35_3, ev_ck36, ev_g36, ev_p36, ev_ck37, ev_g37, ev_p37, ev_ck38, ev_g38, ev_p38, ev_ck39, ev_g39, ev_p39, ev_ck40, ev_g40, ev_p40, ev_r40_0, ev_r40_1, ev_r40_2, ev_a41, ev_l41, ev_w41, ev_a42, ev_l42, ev_w42, ev_q43_0, ev_q43_1, ev_q43_2, ev_q43_3, ev_ck44, ev_g44, ev_p44, ev_ck45, ev_g45, ev_p45, ev_ck46, ev_g46, ev_p46, ev_ck47, ev_g47, ev_p47, ev_ck48, ev_g48, ev_p48, ev_r48_0, ev_r48_1, ev_r48_2, ev_a49, ev_l49, ev_w49, ev_a50, ev_l50, ev_w50, ev_q51_0, ev_q51_1, ev_q51_2, ev_q51_3, ev_ck52, ev_g52, ev_p52, ev_ck53, ev_g53, ev_p53, ev_ck54, ev_g54, ev_p54, ev_ck55, ev_g55, ev_p55, ev_ck56, ev_g56, ev_p56, ev_r56_0, ev_r56_3, ev_r56_4, ev_ck57, ev_g57, ev_p57, ev_r57_0, ev_r57_1, ev_r57_2, ev_r57_3, ev_r57_4, ev_a58, ev_l58, ev_w58, ev_a59, ev_l59, ev_w59, ev_a60, ev_w60, ev_a61, ev_w61, ev_a62, ev_w62, ev_ck63, ev_g63, ev_p63, ev_r63_0, ev_r63_1, ev_r63_2, ev_a64, ev_l64, ev_w64, ev_a65, ev_l65, ev_w65, ev_a66, ev_l66, ev_w66, ev_ck67, ev_g67, ev_p67, ev_r67_0, ev_r67_1, ev_r67_2, ev_r67_3, ev_r67_4, ev_r67_5, ev_a68, ev_l68, ev_w68, ev_a69, ev_l69, ev_w69, ev_a70, ev_w70, ev_q71_0, ev_q71_1, ev_q71_2, ev_q71_3, ev_ck72, ev_g72, ev_p72, ev_r72_0, ev_r72_1, ev_r72_2, ev_a73, ev_w73, ev_ck74, ev_g74, ev_p74, ev_r74_0, ev_r74_1, ev_a75, ev_w75, ev_a76, ev_l76, ev_w76, ev_ck77, ev_g77, ev_p77, ev_r77_0, ev_r77_1, ev_a78, ev_w78, ev_a79, ev_l79, ev_w79, ev_ck80, ev_g80, ev_p80, ev_r80_0, ev_r80_1, ev_r80_2, ev_a81, ev_w81, ev_ck82, ev_g82, ev_p82, ev_r82_0, ev_r82_1, ev_a83, ev_w83, ev_a84, ev_l84, ev_w84, ev_ck85, ev_g85, ev_p85, ev_r85_0, ev_r85_1, ev_a86, ev_w86, ev_a87, ev_l87, ev_w87, ev_ck88, ev_g88, ev_p88, ev_r88_0, ev_r88_1, ev_r88_2, ev_a89, ev_w89, ev_ck90, ev_g90, ev_p90, ev_r90_0, ev_r90_1, ev_a91, ev_w91, ev_a92, ev_l92, ev_w92, ev_ck93, ev_g93, ev_p93, ev_r93_0, ev_r93_1, ev_a94, ev_w94, ev_a95, ev_l95, ev_w95, ev_ck96, ev_g96, ev_p96, ev_r96_0, ev_r96_1, ev_r96_2, ev_a97, ev_w97, ev_ck98, ev_g98, ev_p98, ev_r98_0, ev_r98_1, ev_a99, ev_w99, ev_a100, ev_l100, ev_w100, ev_ck101, ev_g101, ev_p101, ev_r101_0, ev_r101_1, ev_a102, ev_w102, ev_a103, ev_l103, ev_w103, ev_ck104, ev_g104, ev_p104, ev_r104_0, ev_r104_1, ev_r104_2, ev_a105, ev_w105, ev_ck106, ev_g106, ev_p106, ev_r106_0, ev_r106_1, ev_a107, ev_w107, ev_a108, ev_l108, ev_w108, ev_ck109, ev_g109, ev_p109, ev_r109_0, ev_r109_1, ev_a110, ev_w110, ev_a111, ev_l111, ev_w111, ev_ck112, ev_g112, ev_p112, ev_r112_0, ev_r112_1, ev_r112_2, ev_a113, ev_w113, ev_a114, ev_w114, ev_ck115, ev_g115, ev_p115, ev_r115_0, ev_r115_1, ev_r115_2, ev_q116_0, ev_q116_1, ev_a117, ev_w117, ev_a118, ev_w118, ev_q119_0, ev_q119_1, ev_a120, ev_l120, ev_w120, ev_a121, ev_l121, ev_w121, ev_ck122, ev_g122, ev_p122, ev_r122_0, ev_r122_1, ev_r122_2, ev_r122_3, ev_a123, ev_w123, ev_a124, ev_w124, ev_a125, ev_l125, ev_w125]
        by_cases m1 : sp_may S (sp_o S k 3) t = true
        · have hrun : (if sp_P S k t j ≤ 0 then B_X8_worthOf_119 (L_X8_worthOf_35 122 (72 + 8 * k) (28 + k) mk up (nI t) (bI (sp_may S (sp_o S k 3) t)) f) s 122 (72 + 8 * k) (28 + k) mk up (nI t) (bI (sp_may S (sp_o S k 3) t)) (nI j) (nI (nd t j)) 0
              else B_X8_worthOf_119 (L_X8_worthOf_35 122 (72 + 8 * k) (28 + k) mk up (nI t) (bI (sp_may S (sp_o S k 3) t)) f) s 122 (72 + 8 * k) (28 + k) mk up (nI t) (bI (sp_may S (sp_o S k 3) t)) (nI j) (nI (nd t j)) 1) =
              B_X8_worthOf_119 (L_X8_worthOf_35 122 (72 + 8 * k) (28 + k) mk up (nI t) (bI (sp_may S (sp_o S k 3) t)) f) s 122 (72 + 8 * k) (28 + k) mk up (nI t) (bI (sp_may S (sp_o S k 3) t)) (nI j) (nI (nd t j)) (bI (if sp_P S k t j ≤ 0 then false else true)) := by
            split <;> rfl
          rw [if_pos m1]
          have n10 : ¬ (1 : Int32) = 0 := by decide
          by_cases c4 : t = sN S 2
          · rw [if_pos c4, if_neg n10, hrun]
            refine fin _ ?_
            unfold sp_ch
            rw [if_pos m1, decide_eq_true c4]
            simp only [ite_self]
          · rw [if_neg c4]
            by_cases c3 : sp_rc S mk up t j = true
            · rw [if_pos c3, if_neg n10, hrun]
              refine fin _ ?_
              unfold sp_ch
              rw [if_pos m1, if_pos c3]
            · rw [if_neg c3, if_pos m1, if_pos True.intro]
              refine f0 ?_
              unfold sp_ch
              rw [if_pos m1, if_neg c3, decide_eq_false c4]
              simp only [ite_self]
        · rw [if_neg m1]
          simp only [if_neg m1, ite_self]
          refine f0 ?_
          unfold sp_ch
          rw [if_neg m1]
          simp only [ite_self])
    (fun t s ht h => m_RJ_w h) g ⟨⟨rfl, fun _ _ => rfl⟩, fun t' j' h1 h2 h3 => by omega⟩
  have e0 : g'.2 124 0 = sp_wv S k mk up 0 0 := (h2.2 0 0 (by omega) (by omega) (Or.inl (by omega))).2
  refine ⟨g', ?_, h2.1⟩
  have hr : ob_rL g' 124 0 = some (g'.2 124 0) := pu_rL (n := 124) (i := 0) rfl rfl (by decide)
  unfold f_X8_worthOf
  rw [ev_r122_0, Option.bind_some, ev_r67_0, Option.bind_some, ev_g24, Option.bind_some, h5]
  refine (pu_b h1).trans ?_
  rw [ev_r122_2, Option.bind_some, hr, Option.bind_some, e0]
def qMk (x : Int32) : Bool := if x < 0 then false else if 2999 < x then false else true
theorem c_isMark {x : Int32} : f_X11_isMark x = some (bI (qMk x)) := by
  unfold f_X11_isMark qMk
  by_cases h1 : x < 0
  · rw [if_pos h1, if_pos h1]; rfl
  rw [if_neg h1, if_neg h1]
  by_cases h2 : 2999 < x
  · rw [if_pos h2, if_pos h2]; rfl
  · rw [if_neg h2, if_neg h2]; rfl
theorem m_isMark {x : Int32} : f_X12_isIn x 0 2999 = some (bI (qMk x)) := m_isIn0 (S := fun _ => 0)
def an_reach (S : Nat → Int32) (x1 x2 x3 : Int32) : Option Int64 := if (qMk x1 && qB x2 && qB x3) = true then some (sp_told (sp_od S x1 x2 0 0) (sp_sc S 0) x3) else none
def an_wby (S : Nat → Int32) (x1 x2 x3 x4 : Int32) : Option Int64 := if (qO S x1 && qMk x2 && qB x3 && qB x4) = true then some (sp_told (sp_wv S x1.toNatClampNeg x2 x3 0 0) (sp_sc S 0) x4) else none
theorem an_and4 {a b c d : Bool} : (a && b && c && d) = true ↔ a = true ∧ b = true ∧ c = true ∧ d = true := by cases a <;> cases b <;> cases c <;> cases d <;> decide
theorem gt_od {S : Nat → Int32} {mk up : Int32} (hW : sp_WF S) : -9223372036854775808 < (sp_od S mk up 0 0).toInt := bd_gt (bd_od hW (sN S 2) 0 0 (by omega))
theorem gt_wv {S : Nat → Int32} {k : Nat} {mk up : Int32} (hW : sp_WF S) (hk : k < sN S 29) : -9223372036854775808 < (sp_wv S k mk up 0 0).toInt := bd_gt (bd_wv hW hk (sN S 2) 0 0 (by omega) (by omega))
theorem c_reach {S : Nat → Int32} {g : ob_St} {x1 x2 x3 : Int32} (hQ : c_Q S g) : c_A S g (an_reach S x1 x2 x3) (f_X11_reach g 20 x1 x2 x3) := by
  have hW := hQ.1
  have bad : B_X11_reach_25 g 20 x1 x2 x3 = some none := rfl
  unfold f_X11_reach an_reach
  rw [c_isMark, Option.bind_some, bI_if, c_isBit, Option.bind_some, bI_if, c_isBit, Option.bind_some, bI_if, bad]
  by_cases c1 : qMk x1 = true
  · rw [if_pos c1]
    by_cases c2 : qB x2 = true
    · rw [if_pos c2]
      by_cases c3 : qB x3 = true
      · rw [if_pos c3, if_pos (an_and.mpr ⟨c1, c2, c3⟩)]
        obtain ⟨g1, h1, h2, h3, h4, h5⟩ := c_refresh hQ
        obtain ⟨g', o1, o2⟩ := c_odds (mk := x1) (up := x2) hW h3 h5.1
        have hM' := c_M_RF o2 h3 hW
        have hL' := c_Lat_RF o2 (fun m hm => by omega) h5 hW
        have e6 : g'.1 67 6 = 0 := by rw [o2.1]; exact h4
        refine ⟨g', c_K_tr h2 (c_K_RF o2 (fun m hm => by omega)), c_Lat_Q hW hM' e6 hL', ?_⟩
        have td := c_told (y := sp_od S x1 x2 0 0) (p := x3) (gt_od hW) (sp_sc_pos hW 0)
        have sc : f_X3_scaleAt g' 67 0 = some (sp_sc S 0) := c_scaleAt (t := 0) hW hM' hL'.1.1 (by omega)
        unfold B_X11_reach_26 B_X11_reach_29
        rw [if_neg (by decide)]
        simp only [ev_r20_8, ev_r20_11, h1, o1, ev_ck67, ev_ck122, Option.bind_some, sc, td, Option.map_some]
      · rw [if_neg c3, if_neg (fun h => c3 (an_and.mp h).2.2)]
        exact ⟨g, c_K_refl g, hQ, rfl⟩
    · rw [if_neg c2, if_neg (fun h => c2 (an_and.mp h).2.1)]
      exact ⟨g, c_K_refl g, hQ, rfl⟩
  · rw [if_neg c1, if_neg (fun h => c1 (an_and.mp h).1)]
    exact ⟨g, c_K_refl g, hQ, rfl⟩
theorem c_worthBy {S : Nat → Int32} {g : ob_St} {x1 x2 x3 x4 : Int32} (hQ : c_Q S g) : c_A S g (an_wby S x1 x2 x3 x4) (f_X11_worthBy g 20 x1 x2 x3 x4) := by
  have hW := hQ.1
  have hM := hQ.2.1
  have h4' := wf_4 hW
  have bad : B_X11_worthBy_34 g 20 x1 x2 x3 x4 = some none := rfl
  unfold f_X11_worthBy an_wby
  rw [c_isOption hM, ev_ck20, Option.bind_some, bI_if, c_isMark, Option.bind_some, bI_if, c_isBit, Option.bind_some, bI_if, c_isBit, Option.bind_some, bI_if, bad]
  by_cases c0 : qO S x1 = true
  · rw [if_pos c0]
    by_cases c1 : qMk x2 = true
    · rw [if_pos c1]
      by_cases c2 : qB x3 = true
      · rw [if_pos c2]
        by_cases c3 : qB x4 = true
        · rw [if_pos c3, if_pos (an_and4.mpr ⟨c0, c1, c2, c3⟩)]
          obtain ⟨k, hk, rfl⟩ := qO_e hW c0
          rw [nI_clamp (by omega)]
          obtain ⟨g1, s1, s2, s3, s4, s5, s6⟩ := c_sheetOf hQ hk
          obtain ⟨g', o1, o2⟩ := c_worthOf (mk := x2) (up := x3) hW s4 s5 hk
          have hM' := c_M_RF o2 s4 hW
          have hL' := c_Lat_RF o2 (fun m hm => by omega) s5 hW
          have e6 : g'.1 67 6 = 0 := by rw [o2.1]; exact s6
          refine ⟨g', c_K_tr s2 (c_K_RF o2 (fun m hm => by omega)), c_Lat_Q hW hM' e6 hL', ?_⟩
          have td := c_told (y := sp_wv S k x2 x3 0 0) (p := x4) (gt_wv hW hk) (sp_sc_pos hW 0)
          have sc : f_X3_scaleAt g' 67 0 = some (sp_sc S 0) := c_scaleAt (t := 0) hW hM' hL'.1.1 (by omega)
          unfold B_X11_worthBy_35 B_X11_worthBy_38
          rw [if_neg (by decide)]
          simp only [ev_r20_8, ev_r20_11, ev_r20_3, ev_r24_2, s1, ew_27 (show k < 4 by omega), o1, ev_ck20, ev_ck67, ev_ck122, Option.bind_some, sc, td, Option.map_some]
        · rw [if_neg c3, if_neg (fun h => c3 (an_and4.mp h).2.2.2)]
          exact ⟨g, c_K_refl g, hQ, rfl⟩
      · rw [if_neg c2, if_neg (fun h => c2 (an_and4.mp h).2.2.1)]
        exact ⟨g, c_K_refl g, hQ, rfl⟩
    · rw [if_neg c1, if_neg (fun h => c1 (an_and4.mp h).2.1)]
      exact ⟨g, c_K_refl g, hQ, rfl⟩
  · rw [if_neg c0, if_neg (fun h => c0 (an_and4.mp h).1)]
    exact ⟨g, c_K_refl g, hQ, rfl⟩
theorem m_K_RF {r : Nat → Prop} {g g' : ob_St} (h : m_RF r g g') (hr : ∀ m, r m → 9 ≤ m ∧ m ≤ 18) : m_K g g' :=
  ⟨fun n _ _ _ => by rw [h.1], fun i _ _ => by rw [h.1], fun n hn => h.2 n (fun hh => by have := hr n hh; omega)⟩
theorem m_Laid_RF {r : Nat → Prop} {g g' : ob_St} (h : m_RF r g g') (hr : ∀ m, r m → 14 ≤ m) (hL : m_Laid g) : m_Laid g' := by
  have e : g'.1 1 = g.1 1 := by rw [h.1]
  have n9 : g'.2 9 = g.2 9 := h.2 9 (fun hh => absurd (hr _ hh) (by omega))
  have n10 : g'.2 10 = g.2 10 := h.2 10 (fun hh => absurd (hr _ hh) (by omega))
  have n11 : g'.2 11 = g.2 11 := h.2 11 (fun hh => absurd (hr _ hh) (by omega))
  refine ⟨fun i hi => by rw [n11, e]; exact hL.1 i hi, fun k hk t j ht hj => ?_⟩
  rw [e] at hk ht ⊢
  have := hL.2 k hk t j ht hj
  unfold m_H at this ⊢
  rw [n9, n10, h.1]
  exact this
theorem m_Q_RF {r : Nat → Prop} {g g' : ob_St} (h : m_RF r g g') (hr : ∀ m, r m → 14 ≤ m) (hQ : m_Q g) : m_Q g' := by
  unfold m_Q at hQ ⊢
  rw [h.1]
  exact ⟨hQ.1, hQ.2.imp (fun x => x) (fun x => ⟨x.1, m_Laid_RF h hr x.2⟩)⟩
theorem m_pwAt {g : ob_St} (hW : sp_WF (g.1 1)) (hP : m_Pw g) : (ob_rI g 14 1 2).bind (fun v => ob_rL g 11 v) = some (sp_sc (g.1 1) 0) := by
  have h12 := wf_12 hW
  have e : sp_sc (g.1 1) 0 = sp_pw (g.1 1) (sN (g.1 1) 2) := rfl
  rw [ev_l1 (by omega), Option.bind_some, wf_2 hW, ev_a11 (by omega), hP _ (by omega), e]
theorem m_reach {g : ob_St} {x1 x2 x3 : Int32} (hQ : m_Q g) : m_A g (an_reach (g.1 1) x1 x2 x3) (f_X12_reach g 0 x1 x2 x3) := by
  have hW := hQ.1
  have t1 : f_X12_throwsIf g 0 1 = some (1, m_Th g 1) := m_throws (b := true)
  have t0 : f_X12_throwsIf g 0 0 = some (0, m_Th g 0) := m_throws (b := false)
  have bad : B_X12_reach_26 g 0 x1 x2 x3 0 = some (0, m_Th g 1) := by
    unfold B_X12_reach_26 B_X12_reach_31
    rw [t1, ev_ck0, Option.bind_some]
    exact if_neg (show ¬ (1 : Int32) = 0 by decide)
  unfold f_X12_reach an_reach
  rw [m_isMark, Option.bind_some, bI_if, m_isUpper, Option.bind_some, bI_if, m_isPart, Option.bind_some, bI_if, bad]
  by_cases c1 : qMk x1 = true
  · rw [if_pos c1]
    by_cases c2 : qB x2 = true
    · rw [if_pos c2]
      by_cases c3 : qB x3 = true
      · rw [if_pos c3, if_pos (an_and.mpr ⟨c1, c2, c3⟩)]
        obtain ⟨g1, k0, k1, k2, k3, k4, k5⟩ := m_layTh (v := 0) hQ
        have td := m_told (y := sp_od (g.1 1) x1 x2 0 0) (p := x3) (gt_od hW) (sp_sc_pos hW 0)
        rw [← k5] at hW td ⊢
        obtain ⟨g', o1, o2, o3⟩ := m_odds (mk := x1) (up := x2) (x3 := x3) hW k4.1
        have hr : ob_rL g' 17 0 = some (g'.2 17 0) := pu_rL (n := 17) (i := 0) rfl rfl (by decide)
        have e1 : g'.1 1 = g1.1 1 := by rw [o2.1]
        have pw := m_pwAt (g := g') (by rw [e1]; exact hW) (m_Laid_RF o2 (fun m hm => by omega) k4).1
        refine ⟨g', ?_, m_K_tr k1 (m_K_RF o2 (fun m hm => by omega)), m_Q_RF o2 (fun m hm => by omega) k2, by rw [o2.1]; exact k3⟩
        have h12 := wf_12 hW
        unfold B_X12_reach_31
        rw [t0, ev_ck0, Option.bind_some]
        show (if (0 : Int32) = 0 then _ else _) = _
        rw [if_pos rfl, k0, ev_ck0, Option.bind_some, ev_r0_1, Option.bind_some, ev_l1 (by omega), Option.bind_some, wf_2 hW]
        refine (pu_b o1).trans ?_
        rw [ev_r0_28, Option.bind_some, hr, Option.bind_some, ev_r0_22, Option.bind_some, Option.bind_some, o3]
        rw [ev_l1 (by omega), Option.bind_some] at pw ⊢
        rw [pw, Option.bind_some, e1]
        exact pu_b td
      · rw [if_neg c3, if_neg (fun h => c3 (an_and.mp h).2.2)]
        exact ⟨m_Th g 1, rfl, m_K_th, m_Q_th hQ, rfl⟩
    · rw [if_neg c2, if_neg (fun h => c2 (an_and.mp h).2.1)]
      exact ⟨m_Th g 1, rfl, m_K_th, m_Q_th hQ, rfl⟩
  · rw [if_neg c1, if_neg (fun h => c1 (an_and.mp h).1)]
    exact ⟨m_Th g 1, rfl, m_K_th, m_Q_th hQ, rfl⟩
theorem m_worthBy {g : ob_St} {x1 x2 x3 x4 : Int32} (hQ : m_Q g) : m_A g (an_wby (g.1 1) x1 x2 x3 x4) (f_X12_worthBy g 0 x1 x2 x3 x4) := by
  have hW := hQ.1
  have h4 := wf_4 hW
  have t1 : f_X12_throwsIf g 0 1 = some (1, m_Th g 1) := m_throws (b := true)
  have t0 : f_X12_throwsIf g 0 0 = some (0, m_Th g 0) := m_throws (b := false)
  have bad : B_X12_worthBy_35 g 0 x1 x2 x3 x4 0 = some (0, m_Th g 1) := by
    unfold B_X12_worthBy_35 B_X12_worthBy_40
    rw [t1, ev_ck0, Option.bind_some]
    exact if_neg (show ¬ (1 : Int32) = 0 by decide)
  unfold f_X12_worthBy an_wby
  rw [m_isOption hW, ev_ck0, Option.bind_some, bI_if, m_isMark, Option.bind_some, bI_if, m_isUpper, Option.bind_some, bI_if, m_isPart, Option.bind_some, bI_if, bad]
  by_cases c0 : qO (g.1 1) x1 = true
  · rw [if_pos c0]
    by_cases c1 : qMk x2 = true
    · rw [if_pos c1]
      by_cases c2 : qB x3 = true
      · rw [if_pos c2]
        by_cases c3 : qB x4 = true
        · rw [if_pos c3, if_pos (an_and4.mpr ⟨c0, c1, c2, c3⟩)]
          obtain ⟨k, hk, rfl⟩ := qO_e hW c0
          rw [nI_clamp (by omega)]
          obtain ⟨g1, k0, k1, k2, k3, k4, k5⟩ := m_layTh (v := 0) hQ
          have td := m_told (y := sp_wv (g.1 1) k x2 x3 0 0) (p := x4) (gt_wv hW hk) (sp_sc_pos hW 0)
          rw [← k5] at hW td hk ⊢
          obtain ⟨g', o1, o2⟩ := m_worthAt (mk := x2) (up := x3) hW k4 hk
          have e1 : g'.1 1 = g1.1 1 := by rw [o2.1]
          have pw := m_pwAt (g := g') (by rw [e1]; exact hW) (m_Laid_RF o2 (fun m hm => by omega) k4).1
          refine ⟨g', ?_, m_K_tr k1 (m_K_RF o2 (fun m hm => by omega)), m_Q_RF o2 (fun m hm => by omega) k2, by rw [o2.1]; exact k3⟩
          unfold B_X12_worthBy_40
          rw [t0, ev_ck0, Option.bind_some]
          show (if (0 : Int32) = 0 then _ else _) = _
          rw [if_pos rfl, k0, ev_ck0, Option.bind_some, o1, ev_ck0, Option.bind_some, ev_r0_22, Option.bind_some, ev_r0_1, Option.bind_some]
          rw [ev_l1 (by omega), Option.bind_some] at pw ⊢
          rw [pw, Option.bind_some, e1]
          exact pu_b td
        · rw [if_neg c3, if_neg (fun h => c3 (an_and4.mp h).2.2.2)]
          exact ⟨m_Th g 1, rfl, m_K_th, m_Q_th hQ, rfl⟩
      · rw [if_neg c2, if_neg (fun h => c2 (an_and4.mp h).2.2.1)]
        exact ⟨m_Th g 1, rfl, m_K_th, m_Q_th hQ, rfl⟩
    · rw [if_neg c1, if_neg (fun h => c1 (an_and4.mp h).2.1)]
      exact ⟨m_Th g 1, rfl, m_K_th, m_Q_th hQ, rfl⟩
  · rw [if_neg c0, if_neg (fun h => c0 (an_and4.mp h).1)]
    exact ⟨m_Th g 1, rfl, m_K_th, m_Q_th hQ, rfl⟩
