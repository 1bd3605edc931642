/-! richest: the class's loops; gain and richest of the reference -/
def c_RJ (S : Nat → Int32) (k ns : Nat) (e : Int32) (g0 : ob_St) (T j : Nat) (g : ob_St) : Prop := c_HF g0 g ∧ ∀ t' j', t' ≤ sN S 2 → j' ≤ t' → (T ≤ t' ∨ t' + 1 = T ∧ j' < j) → ∀ st, st < ns → c_DP S k e t' j' st g
theorem c_richL {S : Nat → Int32} {g : ob_St} {k ns : Nat} {e : Int32} (hW : sp_WF S) (hM : c_M 24 S g) (hL : c_Lat S g) (hk : k < sN S 29) (hns : ns = if sp_o S k 4 = 2 then 2 else 1) :
    ∃ g', L_X2_richestPath_27 115 (72 + 8 * k) (28 + k) e (nI ns) ob_FU g (nI (sN S 2)) = some g' ∧ c_RJ S k ns e g 0 0 g' := by
  have h12 := wf_12 hW
  have hns2 : ns ≤ 2 := by rw [hns]; split <;> omega
  exact pu_tj (fun f s x => L_X2_richestPath_27 115 (72 + 8 * k) (28 + k) e (nI ns) f s x) (fun t f s x => L_X2_richestPath_35 115 (72 + 8 * k) (28 + k) e (nI ns) (nI t) f s x) (sN S 2) h12 (c_RJ S k ns e g)
    (fun f s => by
      show Lb_X2_richestPath_27 _ _ _ _ _ _ _ _ = _
      unfold Lb_X2_richestPath_27
      exact if_pos (by decide))
    (fun f s t ht hJ => by
      show Lb_X2_richestPath_27 _ _ _ _ _ _ _ _ = _
      unfold Lb_X2_richestPath_27
      rw [if_neg (nI_pos (by omega))]
      rfl)
    (fun t f s ht => by
      show Lb_X2_richestPath_35 _ _ _ _ _ _ _ _ _ = _
      unfold Lb_X2_richestPath_35
      rw [if_pos (nI_lt (by omega) (by omega))])
    (fun t j f s ht hj hJ => by
      obtain ⟨s', p1, p2⟩ := pu_up (fun f s i => L_X2_richestPath_45 115 (72 + 8 * k) (28 + k) e (nI ns) (nI t) (nI j) f s (nI i))
        (fun i s => c_RJ S k ns e g (t + 1) j s ∧ ∀ st, st < i → c_DP S k e t j st s) ns (fun r => c_RJ S k ns e g (t + 1) (j + 1) r)
        (fun f s hI => ⟨s, by
          show Lb_X2_richestPath_45 _ _ _ _ _ _ _ _ _ _ = _
          unfold Lb_X2_richestPath_45
          rw [if_pos (nI_le (by omega) (by omega))], hI.1.1, fun t' j' h1 h2 h3 st hst => by
            by_cases c : t' = t ∧ j' = j
            · obtain ⟨rfl, rfl⟩ := c
              exact hI.2 st hst
            · exact hI.1.2 t' j' h1 h2 (by omega) st hst⟩)
        (fun f i s hi hI => by
          obtain ⟨⟨i1, i2⟩, i3⟩ := hI
          obtain ⟨s', q1, q2, q3, q4, q5⟩ := c_judge (g := s) (e := e) hW (c_M_HF i1 hM hW) (c_Lat_HF i1 hL hW) hk ht hj hi hns (fun hlt j' st' a b => i2 (t + 1) j' (by omega) a (Or.inl (by omega)) st' b)
          have keep : ∀ t' j' st, j' ≤ t' → ¬ (t' = t ∧ j' = j ∧ st = i) → c_DP S k e t' j' st s → c_DP S k e t' j' st s' := by
            intro t' j' st h2 hne hd
            unfold c_DP at hd ⊢
            by_cases c : st = i
            · subst c
              have hx : nd t' j' ≠ nd t j := fun q => by
                have := nd_inj h2 hj q
                exact hne ⟨this.1, this.2, rfl⟩
              rw [(q4 _ hx).1, (q4 _ hx).2]
              exact hd
            · rw [q2 (120 + st) (by omega), q3 (117 + st) (by omega)]
              exact hd
          refine ⟨s', ⟨⟨⟨fun m h1 h2 => by rw [q2 m (by omega), i1.1 m h1 h2], fun m h1 h2 => by rw [q3 m (by omega), i1.2 m h1 h2]⟩, fun t' j' h1 h2 h3 st hst => keep t' j' st h2 (by omega) (i2 t' j' h1 h2 h3 st hst)⟩, fun st hst => ?_⟩, ?_⟩
          · by_cases c : st = i
            · subst c
              exact q5
            · exact keep t j st hj (by omega) (i3 st (by omega))
          · show Lb_X2_richestPath_45 _ _ _ _ _ _ _ _ _ _ = _
            unfold Lb_X2_richestPath_45
            rw [if_neg (nI_ge (by omega) (by omega)), c_nodeAt (by omega), Option.bind_some, q1, ev_ck115, Option.bind_some, nI_1])
        ns 0 ob_FU s (by omega) (by unfold ob_FU; omega) ⟨hJ, fun st hst => by omega⟩
      refine ⟨s', p2, ?_⟩
      show Lb_X2_richestPath_35 _ _ _ _ _ _ _ _ _ = _
      unfold Lb_X2_richestPath_35
      rw [if_neg (nI_nlt (by omega) (by omega))]
      refine (pu_b p1).trans ?_
      rw [nI_1])
    (fun t s ht h => ⟨h.1, fun t' j' h1 h2 h3 => h.2 t' j' h1 h2 (by omega)⟩) g ⟨⟨fun _ _ _ => rfl, fun _ _ _ => rfl⟩, fun t' j' h1 h2 h3 => by omega⟩
def an_rich (S : Nat → Int32) (x1 x2 : Int32) : Int32 := if (qO S x1 && qX S x2) = true then nI (sp_dp S x1.toNatClampNeg x2 (sN S 2) 0 0 false).2 else -1
theorem c_richest {S : Nat → Int32} {g : ob_St} {x1 x2 : Int32} (hQ : c_Q S g) : c_I S g (an_rich S x1 x2) (f_X11_richest g 20 x1 x2) := by
  have hW := hQ.1
  have hM := hQ.2.1
  have h12 := wf_12 hW
  have h4 := wf_4 hW
  unfold f_X11_richest an_rich
  rw [c_isOption hM, ev_ck20, Option.bind_some, bI_if, c_isExercise hM, ev_ck20, Option.bind_some, bI_if]
  by_cases c1 : qO S x1 = true
  · rw [if_pos c1]
    by_cases c2 : qX S x2 = true
    · rw [if_pos c2, if_pos (an_and2.mpr ⟨c1, c2⟩)]
      obtain ⟨k, hk, rfl⟩ := qO_e hW c1
      rw [nI_clamp (by omega)]
      obtain ⟨g1, s1, s2, s3, s4, s5, s6⟩ := c_sheetOf hQ hk
      obtain ⟨g', o1, o2, o3⟩ := c_richL (e := x2) hW s4 s5 hk rfl
      have hM' := c_M_HF o2 s4 hW
      have hL' := c_Lat_HF o2 s5 hW
      have e6 : g'.1 67 6 = 0 := by rw [o2.1 67 (by omega) (by omega)]; exact s6
      refine ⟨g', ?_, c_K_tr s2 (c_K_HF o2), c_Lat_Q hW hM' e6 hL'⟩
      have h5 : g1.1 24 5 = nI (sN S 2) := s4.2.2.1.trans (wf_2 hW)
      have e4 : g1.1 (28 + k) 4 = sp_o S k 4 := (s4.2.2.2.2.2 k hk).2.2.2.2.1
      have pz := (o3 0 0 (by omega) (by omega) (Or.inl (by omega)) 0 (by split <;> omega)).2
      have ra : ob_rI g' 14 120 0 = some (g'.1 120 0) := pu_rI (n := 120) (i := 0) rfl rfl (by decide)
      have e0 : g'.1 120 0 = nI (sp_dp S k x2 (sN S 2) 0 0 false).2 := pz
      have b13 : ∀ x, x = nI (if sp_o S k 4 = 2 then 2 else 1) → B_X2_richestPath_13 g1 115 (72 + 8 * k) (28 + k) x2 x = some (nI (sp_dp S k x2 (sN S 2) 0 0 false).2, g') := by
        intro x hx
        subst hx
        unfold B_X2_richestPath_13
        rw [ev_r115_0, Option.bind_some, ev_r67_0, Option.bind_some, ev_g24, Option.bind_some, h5]
        refine (pu_b o1).trans ?_
        rw [ev_r115_2, Option.bind_some, show ob_rR 20 119 0 = some 120 from rfl, Option.bind_some, ra, Option.bind_some, e0]
      have rp : f_X2_richestPath g1 115 (72 + 8 * k) (28 + k) x2 = some (nI (sp_dp S k x2 (sN S 2) 0 0 false).2, g') := by
        unfold f_X2_richestPath
        rw [ew_gc (by omega), Option.bind_some, e4]
        by_cases c : sp_o S k 4 = 2
        · rw [if_pos c]
          exact b13 2 (by rw [if_pos c]; rfl)
        · rw [if_neg c]
          exact b13 1 (by rw [if_neg c]; rfl)
      rw [ev_r20_10, Option.bind_some, s1, ev_ck20, Option.bind_some, ev_r20_3, Option.bind_some, ev_r24_2, Option.bind_some, ew_27 (by omega), Option.bind_some, rp, ev_ck115, Option.bind_some]
    · rw [if_neg c2, if_neg (fun h => c2 (an_and2.mp h).2)]
      exact ⟨g, rfl, c_K_refl g, hQ⟩
  · rw [if_neg c1, if_neg (fun h => c1 (an_and2.mp h).1)]
    exact ⟨g, rfl, c_K_refl g, hQ⟩
/-! the reference -/
theorem m_pays_L {g : ob_St} {k t j : Nat} (hW : sp_WF (g.1 1)) (hL : m_Laid g) (hk : k < sN (g.1 1) 29) (ht : t ≤ sN (g.1 1) 2) (hj : j ≤ t) : f_X12_paysAt g 0 (nI k) (nI t) (nI j) = some (sp_P (g.1 1) k t j) := by
  rw [m_paysAt hW hk ht hj hL.1]
  refine congrArg some (sp_pay_V (wf_o hW hk) (fun q hq => ?_))
  rw [sp_Vs_lt hq]
  exact (hL.2 q (by omega) t j ht hj).2.1
def m_post (g : ob_St) (x1 : Int32) : (Int64) ⊕ ((Int64 × Int32 × Int64) ⊕ ((Int64 × Int32 × Int64) ⊕ ((Int64) ⊕ (Int64)))) → Option Int64 :=
  (Sum.elim (fun y_30 => (ob_ck 12 0 (f_X12_get g 0 x1 7)).bind fun v31 => (ob_gR 12 0 22).bind fun v32 => (ob_gR 12 0 1).bind fun v33 => (ob_rI g 14 v33 2).bind fun v34 => (ob_rL g v32 v34).bind fun v35 => some (y_30 - ((Int32.toInt64 v31) * v35))) (Sum.elim (fun y_36 => (ob_gR 12 0 22).bind fun v37 => (ob_rL g v37 y_36.2.1).bind fun v38 => some (y_36.1 - (y_36.2.2 * v38))) (Sum.elim (fun y_39 => (ob_gR 12 0 22).bind fun v40 => (ob_rL g v40 y_39.2.1).bind fun v41 => (ob_ck 12 0 (f_X12_get g 0 x1 8)).bind fun v42 => (ob_gR 12 0 22).bind fun v43 => (ob_gR 12 0 1).bind fun v44 => (ob_rI g 14 v44 2).bind fun v45 => (ob_rL g v43 v45).bind fun v46 => some ((y_39.1 - (y_39.2.2 * v41)) - ((Int32.toInt64 v42) * v46))) (Sum.elim (fun y_47 => some y_47) (fun y_48 => some y_48)))))
theorem m_gainsL {g : ob_St} {k p : Nat} {e : Int32} (hW : sp_WF (g.1 1)) (hL : m_Laid g) (hk : k < sN (g.1 1) 29) (hp : p < 2 ^ 31) :
    ∀ d t j i left fuel, t + d = sN (g.1 1) 2 → j ≤ t → d < fuel → (i = true → sp_o (g.1 1) k 4 = 2) → (L_X12_gains_22 g 0 (nI k) (nI p) e fuel left (bI i) (nI j) (nI t)).bind (m_post g (nI k)) = some (left + sp_G (g.1 1) k e d t j i (p / 2 ^ t)) := by
  have h12 := wf_12 hW
  have h4 := wf_4 hW
  have ho := wf_o hW hk
  generalize hS : g.1 1 = S at *
  have hWg : sp_WF (g.1 1) := by rw [hS]; exact hW
  have hkg : k < sN (g.1 1) 29 := by rw [hS]; exact hk
  have e2 : g.1 1 2 = nI (sN S 2) := by rw [hS, wf_2 hW]
  have hpw : ∀ t, t ≤ 12 → g.2 11 t = sp_pw S t := fun t ht => by rw [hL.1 t (by omega), hS]
  have get7 : f_X12_get g 0 (nI k) 7 = some (sp_o S k 7) := by rw [← hS]; exact m_getl (w := 7) (by show 30 + 10 * k + 7 < 70; omega)
  have get8 : f_X12_get g 0 (nI k) 8 = some (sp_o S k 8) := by rw [← hS]; exact m_getl (w := 8) (by show 30 + 10 * k + 8 < 70; omega)
  have get4 : f_X12_get g 0 (nI k) 4 = some (sp_o S k 4) := by rw [← hS]; exact m_getl (w := 4) (by show 30 + 10 * k + 4 < 70; omega)
  -- the ends
  have post1 : ∀ left, m_post g (nI k) (.inl left) = some (left - (sp_o S k 7).toInt64 * sp_pw S (sN S 2)) := by
    intro left
    unfold m_post
    rw [Sum.elim_inl, get7, ev_ck0, Option.bind_some, ev_r0_22, Option.bind_some, ev_r0_1, Option.bind_some, ev_l1 (by omega), Option.bind_some]
    show (ob_rL g 11 (g.1 1 2)).bind _ = _
    rw [e2, ev_a11 (by omega), Option.bind_some, hpw _ (by omega)]
  have post2 : ∀ left t v, t ≤ 12 → m_post g (nI k) (.inr (.inl (left, nI t, v))) = some (left - v * sp_pw S t) := by
    intro left t v ht
    unfold m_post
    rw [Sum.elim_inr, Sum.elim_inl, ev_r0_22, Option.bind_some]
    show (ob_rL g 11 (nI t)).bind (fun v38 => some (left - v * v38)) = _
    rw [ev_a11 (by omega), Option.bind_some, hpw _ ht]
  have post3 : ∀ left t v, t ≤ 12 → m_post g (nI k) (.inr (.inr (.inl (left, nI t, v)))) = some (left - v * sp_pw S t - (sp_o S k 8).toInt64 * sp_pw S (sN S 2)) := by
    intro left t v ht
    unfold m_post
    rw [Sum.elim_inr, Sum.elim_inr, Sum.elim_inl, ev_r0_22, Option.bind_some]
    show (ob_rL g 11 (nI t)).bind (fun v41 => (ob_ck 12 0 (f_X12_get g 0 (nI k) 8)).bind fun v42 => (some 11).bind fun v43 => (ob_gR 12 0 1).bind fun v44 => (ob_rI g 14 v44 2).bind fun v45 => (ob_rL g v43 v45).bind fun v46 => some ((left - v * v41) - ((Int32.toInt64 v42) * v46))) = _
    rw [ev_a11 (by omega), Option.bind_some, hpw _ ht, get8, ev_ck0, Option.bind_some, Option.bind_some, ev_r0_1, Option.bind_some, ev_l1 (by omega), Option.bind_some]
    show (ob_rL g 11 (g.1 1 2)).bind _ = _
    rw [e2, ev_a11 (by omega), Option.bind_some, hpw _ (by omega)]
  have head : ∀ t j i left f, t ≤ sN S 2 → j ≤ t → L_X12_gains_22 g 0 (nI k) (nI p) e (f + 1) left (bI i) (nI j) (nI t) = B_X12_gains_88 (L_X12_gains_22 g 0 (nI k) (nI p) e f) g 0 (nI k) (nI p) e left (bI (gv_i S k t j i)) (nI j) (nI t) (if gv_i S k t j i = true then sp_E S k t j else sp_D S k t j) := by
    intro t j i left f ht hj
    have hH := hL.2 k hkg t j (by rw [hS]; exact ht) hj
    rw [hS] at hH
    have hD : g.1 12 (169 * k + 13 * t + j) = sp_D S k t j := hH.2.2.2
    have hE : g.1 13 (169 * k + 13 * t + j) = sp_E S k t j := hH.2.2.1
    have b64 : ∀ b : Bool, B_X12_gains_64 (L_X12_gains_22 g 0 (nI k) (nI p) e f) g 0 (nI k) (nI p) e left (nI j) (nI t) (nI (169 * k + 13 * t + j)) (bI b) = B_X12_gains_88 (L_X12_gains_22 g 0 (nI k) (nI p) e f) g 0 (nI k) (nI p) e left (bI b) (nI j) (nI t) (if b = true then sp_E S k t j else sp_D S k t j) := by
      intro b
      unfold B_X12_gains_64
      rw [bI_if, ev_r0_23, Option.bind_some, ev_a12 (by omega), Option.bind_some, ev_r0_24, Option.bind_some, ev_a13 (by omega), Option.bind_some, hD, hE]
      cases b <;> rfl
    show Lb_X12_gains_22 _ _ _ _ _ _ _ _ _ _ = _
    unfold Lb_X12_gains_22 B_X12_gains_59
    rw [ev_r0_1, Option.bind_some, ev_l1 (by omega), Option.bind_some, e2, if_neg (nI_nlt (by omega) (by omega)), m_cell, Option.bind_some, bI_if, ev_r0_23, Option.bind_some, ev_a12 (by omega), Option.bind_some, hD]
    unfold gv_i
    cases i with
    | true => exact b64 true
    | false =>
      rw [if_neg (by decide)]
      by_cases c : sp_D S k t j = 3
      · rw [if_pos c, decide_eq_true c]; exact b64 true
      · rw [if_neg c, decide_eq_false c]; exact b64 false
  -- one step, for what comes behind it
  have step : ∀ t j i left f (C : Int64), t ≤ sN S 2 → j ≤ t → (i = true → sp_o S k 4 = 2) →
      (sp_gv S k e t j i = none → (B_X12_gains_183 (L_X12_gains_22 g 0 (nI k) (nI p) e f) g 0 (nI k) (nI p) e left (bI i) (nI j) (nI t) (if i = true then sp_E S k t j else sp_D S k t j) (sp_P S k t j)).bind (m_post g (nI k)) = some (left + C)) →
      (B_X12_gains_88 (L_X12_gains_22 g 0 (nI k) (nI p) e f) g 0 (nI k) (nI p) e left (bI i) (nI j) (nI t) (if i = true then sp_E S k t j else sp_D S k t j)).bind (m_post g (nI k)) = some (left + (sp_gv S k e t j i).elim C (fun v => -(v * sp_pw S t))) := by
    intro t j i left f C ht hj hi hgo
    have hpay : f_X12_paysAt g 0 (nI k) (nI t) (nI j) = some (sp_P S k t j) := by
      have := m_pays_L hWg hL hkg (show t ≤ sN (g.1 1) 2 by rw [hS]; omega) hj
      rw [hS] at this
      exact this
    have hmay : f_X12_may g 0 (nI k) (nI t) = some (if sp_may S (sp_o S k 3) t = true then 1 else 0) := by rw [← hS]; exact m_may (by omega)
    have hsc := sp_scpw hW (show t ≤ sN S 2 by omega)
    by_cases c1 : sp_D S k t j = 2
    · have hi0 : i = false := by
        cases i with
        | false => rfl
        | true =>
          rcases sp_D_in (t := t) (j := j) (hi rfl) with q | q <;> rw [q] at c1 <;> exact absurd c1 (by decide)
      subst hi0
      have hv : sp_gv S k e t j false = some ((sp_o S k 7).toInt64 * sp_sc S t) := by unfold sp_gv; rw [if_pos c1]
      rw [hv, if_neg (by decide), c1]
      unfold B_X12_gains_88
      rw [if_pos rfl, Option.bind_some, post1]
      show _ = some (left + -((sp_o S k 7).toInt64 * sp_sc S t * sp_pw S t))
      rw [Int64.mul_assoc, hsc, Int64.sub_eq_add_neg]
    · have hne : ¬ (if i = true then sp_E S k t j else sp_D S k t j) = 2 := by
        cases i with
        | true => show ¬ sp_E S k t j = 2; rcases sp_E_c S k t j with q | q | q <;> rw [q] <;> decide
        | false => exact c1
      unfold B_X12_gains_88
      rw [if_neg hne, hpay, ev_ck0, Option.bind_some, get4, ev_ck0, Option.bind_some, bI_if]
      -- it goes on, or is recalled
      have rest : (sp_gv S k e t j i = if (if i = true then sp_E S k t j else sp_D S k t j) = 4 then some (sp_P S k t j + (sp_o S k 8).toInt64 * sp_sc S t) else none) → (B_X12_gains_183 (L_X12_gains_22 g 0 (nI k) (nI p) e f) g 0 (nI k) (nI p) e left (bI i) (nI j) (nI t) (if i = true then sp_E S k t j else sp_D S k t j) (sp_P S k t j)).bind (m_post g (nI k)) = some (left + (sp_gv S k e t j i).elim C (fun v => -(v * sp_pw S t))) := by
        intro hv
        by_cases c4 : (if i = true then sp_E S k t j else sp_D S k t j) = 4
        · rw [if_pos c4] at hv
          rw [hv]
          unfold B_X12_gains_183
          rw [if_pos c4, Option.bind_some, post3 _ _ _ (by omega)]
          show _ = some (left + -((sp_P S k t j + (sp_o S k 8).toInt64 * sp_sc S t) * sp_pw S t))
          rw [← hsc]
          refine congrArg some ?_
          grind
        · rw [if_neg c4] at hv
          rw [hgo hv, hv]
          rfl
      have early : ∀ (hv : nI t = e ∧ 0 < sp_P S k t j ∧ sp_may S (sp_o S k 3) t = true → sp_gv S k e t j i = some (sp_P S k t j)) (hv' : ¬ (nI t = e ∧ 0 < sp_P S k t j ∧ sp_may S (sp_o S k 3) t = true) → sp_gv S k e t j i = if (if i = true then sp_E S k t j else sp_D S k t j) = 4 then some (sp_P S k t j + (sp_o S k 8).toInt64 * sp_sc S t) else none), nI t = e →
          (B_X12_gains_152 (L_X12_gains_22 g 0 (nI k) (nI p) e f) g 0 (nI k) (nI p) e left (bI i) (nI j) (nI t) (if i = true then sp_E S k t j else sp_D S k t j) (sp_P S k t j)).bind (m_post g (nI k)) = some (left + (sp_gv S k e t j i).elim C (fun v => -(v * sp_pw S t))) := by
        intro hv hv' he
        unfold B_X12_gains_152
        rw [hmay, ev_ck0, Option.bind_some, m_may1]
        by_cases c5 : sp_may S (sp_o S k 3) t = true
        · rw [if_pos c5]
          by_cases c6 : sp_P S k t j ≤ 0
          · rw [if_pos c6]
            exact rest (hv' (fun z => Int64.not_le.mpr z.2.1 c6))
          · rw [if_neg c6, Option.bind_some, post2 _ _ _ (by omega), hv ⟨he, Int64.not_le.mp c6, c5⟩]
            show _ = some (left + -(sp_P S k t j * sp_pw S t))
            rw [Int64.sub_eq_add_neg]
        · rw [if_neg c5]
          exact rest (hv' (fun z => c5 z.2.2))
      by_cases c2 : sp_o S k 4 = 2 ∧ i = false
      · have hv : sp_gv S k e t j i = none := by unfold sp_gv; rw [if_neg c1, if_pos c2]
        have hd0 : ¬ (if i = true then sp_E S k t j else sp_D S k t j) = 4 := by
          rw [c2.2]
          show ¬ sp_D S k t j = 4
          rcases sp_D_in (t := t) (j := j) c2.1 with q | q <;> rw [q] <;> decide
        have r := rest (by rw [hv, if_neg hd0])
        by_cases c3 : nI t = e
        · rw [if_pos c3, c2.2, if_neg (by decide), if_pos c2.1, ← c2.2]
          exact r
        · rw [if_neg c3]
          exact r
      · have hv : nI t = e ∧ 0 < sp_P S k t j ∧ sp_may S (sp_o S k 3) t = true → sp_gv S k e t j i = some (sp_P S k t j) := fun z => by unfold sp_gv; rw [if_neg c1, if_neg c2, if_pos z]
        have hv' : ¬ (nI t = e ∧ 0 < sp_P S k t j ∧ sp_may S (sp_o S k 3) t = true) → sp_gv S k e t j i = if (if i = true then sp_E S k t j else sp_D S k t j) = 4 then some (sp_P S k t j + (sp_o S k 8).toInt64 * sp_sc S t) else none := fun z => by unfold sp_gv; rw [if_neg c1, if_neg c2, if_neg z]
        by_cases c3 : nI t = e
        · have er := early hv hv' c3
          rw [if_pos c3]
          by_cases ci : i = true
          · rw [if_pos ci]
            exact er
          · have cb : ¬ sp_o S k 4 = 2 := fun z => c2 ⟨z, by simpa using ci⟩
            rw [if_neg ci, if_neg cb]
            exact er
        · rw [if_neg c3]
          exact rest (hv' (fun z => c3 z.1))
  have no4 : ∀ t j i, sp_gv S k e t j i = none → ¬ (if i = true then sp_E S k t j else sp_D S k t j) = 4 := by
    intro t j i hn z
    unfold sp_gv at hn
    by_cases c1 : sp_D S k t j = 2
    · rw [if_pos c1] at hn; cases hn
    rw [if_neg c1] at hn
    by_cases c2 : sp_o S k 4 = 2 ∧ i = false
    · rw [c2.2] at z
      have z : sp_D S k t j = 4 := z
      rcases sp_D_in (t := t) (j := j) c2.1 with r | r <;> rw [r] at z <;> exact absurd z (by decide)
    rw [if_neg c2] at hn
    by_cases c3 : nI t = e ∧ 0 < sp_P S k t j ∧ sp_may S (sp_o S k 3) t = true
    · rw [if_pos c3] at hn; cases hn
    rw [if_neg c3, if_pos z] at hn
    cases hn
  intro d
  induction d with
  | zero =>
    intro t j i left fuel ht hj hf hi
    obtain ⟨f, rfl⟩ : ∃ f, fuel = f + 1 := ⟨fuel - 1, by omega⟩
    rw [head t j i left f (by omega) hj]
    unfold sp_G
    refine step t j _ left f 0 (by omega) hj (fun z => gv_in hi z) (fun hn => ?_)
    unfold B_X12_gains_183
    rw [if_neg (no4 t j _ hn), ev_r0_1, Option.bind_some, ev_l1 (by omega), Option.bind_some, e2, if_pos (by rw [show t = sN S 2 by omega]), Option.bind_some]
    show some left = some (left + 0)
    rw [Int64.add_zero]
  | succ d ih =>
    intro t j i left fuel ht hj hf hi
    obtain ⟨f, rfl⟩ : ∃ f, fuel = f + 1 := ⟨fuel - 1, by omega⟩
    rw [head t j i left f (by omega) hj]
    conv => rhs; unfold sp_G
    have hi' : gv_i S k t j i = true → sp_o S k 4 = 2 := fun z => gv_in hi z
    generalize gv_i S k t j i = i' at hi' ⊢
    refine step t j i' left f _ (by omega) hj hi' (fun hn => ?_)
    have e3 : p / 2 ^ t / 2 = p / 2 ^ (t + 1) := by rw [Nat.div_div_eq_div_mul, Nat.pow_succ]
    rw [e3, ← Int64.add_assoc]
    have hne : ¬ nI t = nI (sN S 2) := fun z => by
      have := (nI_eq (by omega) (by omega)).mp z
      omega
    have e20 : sp_sb S (fun t j => g.2 9 (169 * k + 13 * t + j)) t j = sp_sb S (sp_V S k) t j := sp_sb_loc (by omega) hj (fun t j a b => by
      have := (hL.2 k hkg t j (by rw [hS]; exact a) b).2.1
      rw [hS] at this
      exact this)
    have e21 : sp_sb S (fun t j => g.2 10 (169 * k + 13 * t + j)) t j = sp_sb S (sp_L S k) t j := sp_sb_loc (by omega) hj (fun t j a b => by
      have := (hL.2 k hkg t j (by rw [hS]; exact a) b).1
      rw [hS] at this
      exact this)
    have s9 := m_standsBy (g := g) (r := 9) (k := k) (t := t) (j := j) rfl rfl hWg (by omega) (by rw [hS]; omega) hj
    have s10 := m_standsBy (g := g) (r := 10) (k := k) (t := t) (j := j) rfl rfl hWg (by omega) (by rw [hS]; omega) hj
    rw [hS, e20] at s9
    rw [hS, e21] at s10
    have ff : g.1 1 (3 + t + 1) = S (3 + (t + 1)) := by rw [hS]; rfl
    have b294 : ∀ (u : Bool) r y, f_X12_standsBy g 0 r (nI k) (nI t) (nI j) = some y → B_X12_gains_294 (L_X12_gains_22 g 0 (nI k) (nI p) e f) g 0 (nI k) (nI p) e (bI i') (nI j) (nI t) (bI u) ((if u = true then S 1 else 0) - S (3 + (t + 1))) left 0 r =
        L_X12_gains_22 g 0 (nI k) (nI p) e f (left + y * sp_pw S t * ((if u = true then S 1 else 0) - S (3 + (t + 1))).toInt64) (bI i') (nI (if u = true then j + 1 else j)) (nI (t + 1)) := by
      intro u r y hy
      have ey : y * ((if u = true then S 1 else 0) - S (3 + (t + 1))).toInt64 * sp_pw S t = y * sp_pw S t * ((if u = true then S 1 else 0) - S (3 + (t + 1))).toInt64 := by grind
      unfold B_X12_gains_294 B_X12_gains_329 ob_let
      rw [hy, ev_ck0, Option.bind_some, ev_r0_22, Option.bind_some, ev_a11 (by omega), Option.bind_some, hpw t (by omega)]
      dsimp only
      rw [bI_if, ey]
      simp only [nI_1]
      cases u with
      | true => rw [if_pos rfl]; rfl
      | false =>
        rw [if_neg (by decide)]
        show L_X12_gains_22 g 0 (nI k) (nI p) e f _ _ (nI j + nI 0) _ = _
        rw [nI_add]
        rfl
    have b261 : ∀ (u : Bool), (B_X12_gains_261 (L_X12_gains_22 g 0 (nI k) (nI p) e f) g 0 (nI k) (nI p) e left (bI i') (nI j) (nI t) (bI u) (if u = true then S 1 else 0)).bind (m_post g (nI k)) = some (left + sp_gt S k t j i' u + sp_G S k e d (t + 1) (if u = true then j + 1 else j) i' (p / 2 ^ (t + 1))) := by
      intro u
      have fin := ih (t + 1) (if u = true then j + 1 else j) i' (left + sp_gt S k t j i' u) f (by omega) (by split <;> omega) (by omega) hi'
      unfold B_X12_gains_261
      rw [ev_r0_1, Option.bind_some, pu_add, nI_1, ev_a1 (by omega), Option.bind_some]
      show ((if bI i' = 0 then ((ob_gR 12 0 20).bind fun v15 => B_X12_gains_294 _ g 0 (nI k) (nI p) e (bI i') (nI j) (nI t) (bI u) ((if u = true then S 1 else 0) - g.1 1 (3 + t + 1)) left 0 v15) else ((ob_gR 12 0 21).bind fun v20 => B_X12_gains_294 _ g 0 (nI k) (nI p) e (bI i') (nI j) (nI t) (bI u) ((if u = true then S 1 else 0) - g.1 1 (3 + t + 1)) left 0 v20))).bind _ = _
      rw [ff, bI_if, ev_r0_20, Option.bind_some, ev_r0_21, Option.bind_some, b294 u 9 _ s9, b294 u 10 _ s10]
      cases i' with
      | true => exact fin
      | false => exact fin
    unfold B_X12_gains_183 f_X12_bitOf
    rw [if_neg (no4 t j _ hn), ev_r0_1, Option.bind_some, ev_l1 (by omega), Option.bind_some, e2, if_neg hne, bit_nI hp (by omega)]
    by_cases c : p / 2 ^ t % 2 = 1
    · rw [if_pos (bit_1.mpr c), Option.bind_some, if_neg (by decide), decide_eq_true c, if_pos c, Option.bind_some]
      show ((ob_rI g 14 1 1).bind _).bind _ = _
      rw [ev_l1 (by omega), Option.bind_some]
      have b := b261 true
      rw [if_pos rfl, if_pos rfl] at b
      show (B_X12_gains_261 _ g 0 (nI k) (nI p) e left (bI i') (nI j) (nI t) 1 (g.1 1 1)).bind _ = _
      rw [hS]
      exact b
    · rw [if_neg (fun z => c (bit_1.mp z)), Option.bind_some, if_pos rfl, decide_eq_false c, if_neg c]
      exact b261 false
theorem m_gains {g : ob_St} {k p : Nat} {e : Int32} (hW : sp_WF (g.1 1)) (hL : m_Laid g) (hk : k < sN (g.1 1) 29) (hp : p < 2 ^ 31) : f_X12_gains g 0 (nI k) (nI p) e = some (sp_gain (g.1 1) k p e) := by
  have h12 := wf_12 hW
  have h4 := wf_4 hW
  have la := m_gainsL (e := e) hW hL hk hp (sN (g.1 1) 2) 0 0 false (sp_V (g.1 1) k 0 0) ob_FU (by omega) (by omega) (by unfold ob_FU; omega) (fun z => absurd z (by decide))
  rw [Nat.pow_zero, Nat.div_one] at la
  have eV : g.2 9 (169 * k + 13 * 0 + 0) = sp_V (g.1 1) k 0 0 := (hL.2 k hk 0 0 (by omega) (by omega)).2.1
  have mc : f_X12_cell (nI k) 0 0 = some (nI (169 * k + 13 * 0 + 0)) := m_cell (t := 0) (j := 0)
  unfold f_X12_gains
  rw [ev_r0_20, Option.bind_some, mc, Option.bind_some, ev_a9 (by omega), Option.bind_some, eV]
  exact la
