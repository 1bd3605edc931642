/-! the step line -/
theorem sp_fs_cg {S T : Nat → Int32} (h : ∀ j, 3 < j → T j = S j) : ∀ t, sp_fs T t = sp_fs S t := by
  intro t
  induction t with
  | zero => rfl
  | succ t ih =>
    show sp_fs T t + T (3 + (t + 1)) = sp_fs S t + S (3 + (t + 1))
    rw [ih, h _ (by omega)]
theorem ni_dif {a c : Nat} (ha : a < 10000) (hc : c < 10000) : (0 : Int32) ≤ nI a - nI c ↔ c ≤ a := by
  have h1 := ni_of (n := a) (by omega)
  have h2 := ni_of (n := c) (by omega)
  rw [ni_le, ni_sub (by omega) (by omega), ni_0, h1, h2]
  omega
theorem ln_86 {c0 m0 gc gm : ob_St} {b : Nat → Int32} {n m i i0 v w : Nat} {S : Nat → Int32} {x : Int32} (hB : BR c0 m0 b n m i gc gm) (hi : i0 < i) (hW : sp_WF S) (hM : c_M 32 S gc) (hS : ∀ j, j ≠ 3 → gm.1 2 j = S j) (hN : nm_R b (sN S 29) gc gm) (hw1 : 1 ≤ w) (hw : sN S 2 + w ≤ 12) (hv1 : 1 ≤ v) (hv2 : v < sN S 1) (hx : gc.1 56 7 = x) : RS c0 m0 (LQ c0 m0 b n m i0) (B_X7_readStep_86 gc 56 (nI v) (nI w)) (B_X12_stepLine_78 gm 0 x (nI v) (nI w)) := by
  obtain ⟨m1, m2, m3, m4, m5, m6⟩ := id hM
  have hv9 : v * w ≤ 8 * 12 := Nat.mul_le_mul (by have := hW.2.1.2.2; omega) (by omega)
  have low := low_n hW
  have hL : sN S 0 ≤ 999 := hW.1.2
  have cl : f_X5_lowest gc 32 = some (nI (sN S 0 - sp_fN S (sN S 2))) := by
    rw [c_lowest (S := S) (N := sN S 2) (Or.inr (Or.inl rfl)) m1 (by rw [m3]; exact wf_2 hW) (by omega) (fun t ht => (m5 t ht).1), low]
  have g2 : gm.1 2 2 = nI (sN S 2) := by rw [hS 2 (by omega)]; exact wf_2 hW
  have ml : f_X12_lowest gm 2 = some (nI (sN S 0 - sp_fN S (sN S 2))) := by
    rw [m_lowest (g := gm) (n0 := 2) (N := sN S 2) rfl rfl g2 (by omega), hS 0 (by omega), sp_fs_cg (fun j hj => hS j (by omega)), low]
  unfold B_X7_readStep_86 B_X12_stepLine_78
  rw [ev_r56_0, Option.bind_some, cl, ev_ck32, Option.bind_some, ev_r0_2, Option.bind_some, Option.bind_some, ml, Option.bind_some, pk_mul]
  by_cases d : v * w ≤ sN S 0 - sp_fN S (sN S 2)
  · obtain ⟨gc1, e1, a1, a2, a3, a4, a5⟩ := c_addSteps (g := gc) (v := v) (by rw [m3]; exact wf_2 hW) hw
    obtain ⟨gm1, e2, b1, b2, b3⟩ := m_addSteps (g := gm) (v := v) g2 hw
    have w3 : ob_wI gm1 2 3 0 = some (ob_up gm1.1 2 3 0, gm1.2) := pu_wI (n := 2) (i := 3) rfl rfl (by show 3 < 70; omega)
    rw [if_pos ((ni_dif (by omega) (by omega)).mpr d), if_pos ((nI_leI (by omega) (by omega)).mpr d), e1, ev_ck32, Option.bind_some, e2, Option.bind_some, Option.bind_some, w3, Option.bind_some]
    have eS : ∀ j, ob_up gm1.1 2 3 0 2 j = if j = 2 then nI (sN S 2 + w) else if 3 + sN S 2 < j ∧ j ≤ 3 + sN S 2 + w then nI v else S j := fun j => by
      rw [pu_up_eq]
      by_cases e : j = 3
      · rw [e, pu_upd_eq, if_neg (by omega), if_neg (by omega)]
        exact hW.2.2.2.2.1.symm
      · rw [pu_upd_ne e, b3 j]
        by_cases e2 : j = 2
        · rw [if_pos e2, if_pos e2]
        · rw [if_neg e2, if_neg e2]
          by_cases e3 : 3 + sN S 2 < j ∧ j ≤ 3 + sN S 2 + w
          · rw [if_pos e3, if_pos e3]
          · rw [if_neg e3, if_neg e3, hS j e]
    have hW' : sp_WF (ob_up gm1.1 2 3 0 2) := wf_steps hW rfl hw hv1 hv2 d eS
    have z : ∀ j, j ≠ 2 → (j ≤ 3 + sN S 2 ∨ 3 + sN S 2 + w < j) → ob_up gm1.1 2 3 0 2 j = S j := fun j a c => by rw [eS, if_neg a, if_neg (by omega)]
    have z29 : sN (ob_up gm1.1 2 3 0 2) 29 = sN S 29 := by unfold sN; rw [z 29 (by omega) (by omega)]
    have hB1 := BR_c (gc' := gc1) hB (fun x hx => a1 x (by omega) (by omega)) (fun x _ => by rw [a4])
    have hB2 := BR_m (gm' := (ob_up gm1.1 2 3 0, gm1.2)) hB1 (fun x c _ => (pu_up_ne c).trans (b1 x c)) b2
    refine RS_ok ⟨i, hi, hB2, hW', ⟨?_, ?_, ?_, ?_, fun t ht => ?_, fun k hk => ?_⟩, ?_⟩
    · rw [a2 3 (by omega), m1]; exact (z 0 (by omega) (by omega)).symm
    · rw [a2 4 (by omega), m2]; exact (z 1 (by omega) (by omega)).symm
    · rw [a3]; exact ((eS 2).trans (if_pos rfl)).symm
    · rw [a2 6 (by omega), m4]; exact (z 29 (by omega) (by omega)).symm
    · show gc1.1 33 t = ob_up gm1.1 2 3 0 2 (3 + t) ∧ gc1.1 34 t = ob_up gm1.1 2 3 0 2 (16 + t)
      rw [a5 t ht, a1 34 (by omega) (by omega), z (16 + t) (by omega) (by omega), eS (3 + t), if_neg (show ¬ 3 + t = 2 by omega)]
      refine ⟨?_, (m5 t ht).2⟩
      by_cases c : sN S 2 < t ∧ t ≤ sN S 2 + w
      · rw [if_pos c, if_pos (by omega)]
      · rw [if_neg c, if_neg (by omega)]; exact (m5 t ht).1
    · have hk : k < sN (ob_up gm1.1 2 3 0 2) 29 := hk
      rw [z29] at hk
      have h4 := wf_4 hW
      exact c_C_cg (a1 _ (by omega) (by omega)) (fun q _ => z _ (by omega) (by omega)) (m6 k hk)
    · show nm_R b (sN (ob_up gm1.1 2 3 0 2) 29) _ _
      rw [z29]
      exact nm_R_fr (by rw [a4]) (by show ob_up gm1.1 2 3 0 8 = _; rw [pu_up_ne (by omega), b1 8 (by omega)]) hN
  · rw [if_neg (fun h => d ((ni_dif (by omega) (by omega)).mp h)), if_neg (fun h => d ((nI_leI (by omega) (by omega)).mp h)), ev_g56, Option.bind_some, hx, ev_ck56, ev_ck0]
    exact RS_zc (RS_zm (FL_at hB.2.1 hB.2.2.1))
theorem kw_dec {b : Nat → Int32} {n m i k : Nat} {gc gm : ob_St} (h : TR b n m i gc gm) (hk : k < 20) : ∃ y, f_X7_isKeyword gc 56 (nI (kw_s k)) = some (bI y) ∧ (y = true ↔ kq b n (lx_ps b n i) = some k) := ⟨_, c_isKeyword h hk, decide_eq_true_iff⟩
theorem kn_eq {b : Nat → Int32} {n p k : Nat} (hk : k < 20) : (kq b n p).elim (-1) nI = nI k ↔ kq b n p = some k := by
  cases h : kq b n p with
  | none => exact ⟨fun z => absurd z.symm (nI_m1 (by omega)), fun z => by cases z⟩
  | some k' =>
    have k1 := (kq_lt h).1
    constructor
    · intro z
      have z : nI k' = nI k := z
      rw [(nI_eq (by omega) (by omega)).mp z]
    · intro z
      cases z
      rfl
theorem ln_step {c0 m0 gc gm : ob_St} {b : Nat → Int32} {n m i : Nat} (h : LR c0 m0 b n m i gc gm) (hk : lx_k b n (lx_ps b n i) ≠ 0) : RS c0 m0 (LQ c0 m0 b n m i) (f_X7_readStep gc 56) (f_X12_line gm 0 16) := by
  obtain ⟨hB, hW, hM, hN⟩ := h
  obtain ⟨m1, m2, m3, m4, m5, m6⟩ := id hM
  have h12 := wf_12 hW
  have h9 := hW.2.1.2
  have r2 : ∀ g : ob_St, ob_rI g 14 2 2 = some (g.1 2 2) := fun g => ev_l2 (i := 2) (by show 2 < 70; omega)
  have r1 : ∀ g : ob_St, ob_rI g 14 2 1 = some (g.1 2 1) := fun g => ev_l2 (i := 1) (by show 1 < 70; omega)
  have r3 : ∀ g : ob_St, ob_rI g 14 2 3 = some (g.1 2 3) := fun g => ev_l2 (i := 3) (by show 3 < 70; omega)
  unfold f_X7_readStep f_X12_line B_X12_line_17 B_X12_line_40 B_X12_line_69 B_X12_line_34
  rw [if_pos (show (16 : Int32) = 16 from rfl), ev_r56_0, Option.bind_some, ev_g32, Option.bind_some, m3, ev_r0_2, Option.bind_some, r2, Option.bind_some, wf_2 hW]
  by_cases d : sN (gm.1 2) 2 = 12
  · have d1 : ¬ nI (sN (gm.1 2) 2) < 12 := nI_nlt (b := 12) (by omega) (by omega)
    have d2 : nI (sN (gm.1 2) 2) = 12 := by rw [d]; rfl
    rw [if_neg d1, if_pos d2]
    exact FL_zz hB
  · have d1 : nI (sN (gm.1 2) 2) < 12 := nI_lt (b := 12) (by omega) (by omega)
    have d2 : ¬ nI (sN (gm.1 2) 2) = 12 := fun z => d ((nI_eq (b := 12) (by omega) (by omega)).mp z)
    obtain ⟨gc1, gm1, i1, e1, e2, B1, ⟨k1, k2, k3⟩, _, i1e, _, _⟩ := go_on hB
    have i1e := i1e hk
    subst i1e
    have s2 : gm1.1 2 = gm.1 2 := k3 2 (by omega) (by omega)
    have e32 : gc1.1 32 = gc.1 32 := k1 32 (by omega)
    have hr : nI (sN (gm.1 2) 1) - 1 = nI (sN (gm.1 2) 1 - 1) := pk_sub (b := 1) (by omega)
    have hr12 : (12 : Int32) - nI (sN (gm.1 2) 2) = nI (12 - sN (gm.1 2) 2) := pk_sub (a := 12) (by omega)
    rw [if_pos d1, if_neg d2, if_neg (show ¬ (16 : Int32) = 19 by decide), if_neg (show ¬ (16 : Int32) = 18 by decide), e1, ev_ck56, Option.bind_some, e2, ev_ck0, Option.bind_some, Option.bind_some, if_neg (show ¬ (16 : Int32) = 15 by decide), if_pos (show (16 : Int32) = 16 from rfl), ev_g32, Option.bind_some, e32, m2, wf_1 hW, hr, ev_ck56, ev_ck0]
    refine RS_zm ?_
    unfold f_X12_stepLine
    rw [ev_g0, Option.bind_some, ev_r0_2, Option.bind_some, r1, Option.bind_some, s2, wf_1 hW, hr, ev_ck0]
    refine RS_c (RN (a := 3) (lo := 1) (hi := sN (gm.1 2) 1 - 1) B1 (by omega) (by omega) (by omega)) ?_ (fun _ => rfl) (fun _ => rfl)
    intro gc2 gm2 ⟨v, v1, v2, v3, B2, v6, v7, kc, kc2, km2, km⟩
    have S2 : gm2.1 2 = upd (gm.1 2) 3 (nI v) := by rw [km2, s2]
    have hM2 : c_M 32 (gm.1 2) gc2 := c_M_fr (wf_4 hW) (fun x a c => by rw [kc x (by omega), k1 x (by omega)]) hM
    have hN2 : nm_R b (sN (gm.1 2) 29) gc2 gm2 := nm_R_fr (by rw [kc2, k2]) (by rw [km 8 (by omega) (by omega) (by omega), k3 8 (by omega) (by omega)]) hN
    obtain ⟨y, y1, y2⟩ := kw_dec (k := 17) B2.1 (by omega)
    have y1 : f_X7_isKeyword gc2 56 10 = some (bI y) := y1
    dsimp only
    rw [if_neg one0, if_neg one0, ev_g56, Option.bind_some, v6, y1, ev_ck56, Option.bind_some, Option.bind_some, r3, Option.bind_some, S2, pu_upd_eq, m_known B2.1.2.2.2.2, ev_ck0, Option.bind_some]
    by_cases c : kq b n (lx_ps b n (i + 1 + 1)) = some 17
    · have k17 : (kq b n (lx_ps b n (i + 1 + 1))).elim (-1) nI = 17 := (kn_eq (k := 17) (by omega)).mpr c
      obtain ⟨gc3, gm3, i3, f1, f2, B3, ⟨l1, l2, l3⟩, _, i3e, _, _⟩ := go_on B2
      have i3e := i3e (by rw [(kq_lt c).2.1]; omega)
      subst i3e
      have S3 : gm3.1 2 = upd (gm.1 2) 3 (nI v) := by rw [l3 2 (by omega) (by omega), S2]
      have e3 : gc3.1 32 = gc.1 32 := by rw [l1 32 (by omega), kc 32 (by omega), e32]
      rw [if_neg (fun z => bI_0.mp z (y2.mpr c)), if_pos k17, f1, ev_ck56, Option.bind_some, f2, ev_ck0, Option.bind_some, ev_g32, Option.bind_some, e3, m3, wf_2 hW, Option.bind_some, ev_g0, Option.bind_some, Option.bind_some, r2, Option.bind_some, S3, pu_upd_ne (show 2 ≠ 3 by omega), wf_2 hW, hr12, ev_ck56, ev_ck0]
      refine RS_c (RN (a := 3) (lo := 1) (hi := 12 - sN (gm.1 2) 2) B3 (by omega) (by omega) (by omega)) ?_ (fun _ => rfl) (fun _ => rfl)
      intro gc4 gm4 ⟨w, w1, w2, w3, B4, w6, w7, lc, lc2, lm2, lm⟩
      dsimp only
      rw [if_neg one0, if_neg one0, ev_g56, Option.bind_some, w6, Option.bind_some, r3, Option.bind_some, lm2, pu_upd_eq]
      exact ln_86 B4 (by omega) hW (c_M_fr (wf_4 hW) (fun x a c => by rw [lc x (by omega), l1 x (by omega)]) hM2) (fun j hj => by rw [lm2, S3, pu_upd_ne hj, pu_upd_ne hj]) (nm_R_fr (by rw [lc2, l2]) (by rw [lm 8 (by omega) (by omega) (by omega), l3 8 (by omega) (by omega)]) hN2) w1 (by omega) v1 (by omega) w7
    · have k17 : ¬ (kq b n (lx_ps b n (i + 1 + 1))).elim (-1) nI = 17 := fun z => c ((kn_eq (k := 17) (by omega)).mp z)
      rw [if_pos (bI_0.mpr (fun z => c (y2.mp z))), if_neg k17]
      exact ln_86 (w := 1) B2 (by omega) hW hM2 (fun j hj => by rw [S2, pu_upd_ne hj]) hN2 (by omega) (by omega) v1 (by omega) v7
