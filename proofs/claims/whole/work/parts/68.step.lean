/-! lines: cash, steps -/
theorem c_C_cg {n k : Nat} {S S' : Nat → Int32} {g g' : ob_St} (h : g'.1 n = g.1 n) (e : ∀ w, w < 10 → sp_o S' k w = sp_o S k w) (hC : c_C n S k g) : c_C n S' k g' := by
  unfold c_C at hC ⊢
  rw [h, e 0 (by omega), e 1 (by omega), e 2 (by omega), e 3 (by omega), e 4 (by omega), e 5 (by omega), e 6 (by omega), e 7 (by omega), e 8 (by omega), e 9 (by omega)]
  exact hC
theorem ln_cash {c0 m0 gc gm : ob_St} {b : Nat → Int32} {n m i : Nat} (h : LR c0 m0 b n m i gc gm) (hk : lx_k b n (lx_ps b n i) ≠ 0) : RS c0 m0 (LQ c0 m0 b n m i) (f_X7_readCash gc 56) (f_X12_line gm 0 18) := by
  obtain ⟨hB, hW, hM, hN⟩ := h
  obtain ⟨gc1, gm1, i1, e1, e2, B1, ⟨k1, k2, k3⟩, _, i1e, _, _⟩ := go_on hB
  have i1e := i1e hk
  subst i1e
  have h12 := wf_12 hW
  obtain ⟨m1, m2, m3, m4, m5, m6⟩ := id hM
  obtain ⟨c1, c2⟩ := hW.2.2.2.2.2.2.1 _ h12
  have r2 : ∀ g : ob_St, ob_rI g 14 2 2 = some (g.1 2 2) := fun g => ev_l2 (i := 2) (by show 2 < 70; omega)
  unfold f_X7_readCash f_X12_line B_X12_line_17 B_X12_line_40 B_X12_line_69
  rw [if_neg (show ¬ (18 : Int32) = 16 by decide), if_neg (show ¬ (18 : Int32) = 19 by decide), if_pos (show (18 : Int32) = 18 from rfl), ev_r56_0, Option.bind_some, ev_r32_1, Option.bind_some, Option.bind_some, ev_g32, Option.bind_some, m3, wf_2 hW, ev_a34 (by omega), Option.bind_some, (m5 _ h12).2, ev_r0_2, Option.bind_some, Option.bind_some, r2, Option.bind_some, wf_2 hW, pu_add]
  show RS c0 m0 _ _ ((ob_rI gm 14 2 (nI (16 + sN (gm.1 2) 2))).bind _)
  rw [ev_a2 (by omega), Option.bind_some, c1]
  by_cases d : sN (gm.1 2) (16 + sN (gm.1 2) 2) = 0
  · have d1 : nI (sN (gm.1 2) (16 + sN (gm.1 2) 2)) = 0 := by rw [d]; rfl
    have d2 : nI (sN (gm.1 2) (16 + sN (gm.1 2) 2)) ≤ 0 := by rw [d1]; exact (nI_leI (a := 0) (b := 0) (by omega) (by omega)).mpr (Nat.le_refl _)
    have s2 : gm1.1 2 = gm.1 2 := k3 2 (by omega) (by omega)
    rw [if_pos d1, if_pos d2, e1, ev_ck56, Option.bind_some, e2, ev_ck0, Option.bind_some, if_neg (show ¬ (18 : Int32) = 15 by decide), if_neg (show ¬ (18 : Int32) = 16 by decide), if_pos (show (18 : Int32) = 18 from rfl), Option.bind_some, r2, Option.bind_some, s2, wf_2 hW, pu_add, ev_ck56, ev_ck0]
    refine RS_zm ?_
    have cc : ∀ Q, RS c0 m0 Q (f_X7_readNumber gc1 56 1 99) (f_X12_takes gm1 0 (nI (16 + sN (gm.1 2) 2)) 1 99) → (∀ gc gm, Q gc gm → RS c0 m0 (LQ c0 m0 b n m i) ((ob_gR 7 56 0).bind fun v8 => (ob_gR 5 v8 1).bind fun v9 => (ob_gR 7 56 0).bind fun v10 => (ob_gI gc 5 v10 5).bind fun v11 => (ob_gI gc 7 56 6).bind fun v12 => (ob_wI gc v9 v11 v12).bind fun g13 => some (1, g13)) (some (1, gm))) → RS c0 m0 (LQ c0 m0 b n m i) ((f_X7_readNumber gc1 56 1 99).bind fun v7 => (if v7.1 = 0 then (some (0, v7.2)) else ((ob_gR 7 56 0).bind fun v8 => (ob_gR 5 v8 1).bind fun v9 => (ob_gR 7 56 0).bind fun v10 => (ob_gI v7.2 5 v10 5).bind fun v11 => (ob_gI v7.2 7 56 6).bind fun v12 => (ob_wI v7.2 v9 v11 v12).bind fun g13 => some (1, g13)))) (f_X12_takes gm1 0 (nI (16 + sN (gm.1 2) 2)) 1 99) := by
      intro Q hQ hk
      rcases hQ with ⟨gc, gm, e1, e2, q⟩ | ⟨gc, gm, e1, e2, q⟩
      · have := hk gc gm q
        rw [e1, e2, Option.bind_some]
        dsimp only
        rw [if_neg one0]
        exact this
      · rw [e1, e2]
        exact Or.inr ⟨gc, gm, rfl, rfl, q⟩
    refine cc _ (RN (a := 16 + sN (gm.1 2) 2) (lo := 1) (hi := 99) B1 (by omega) (by omega) (by omega)) ?_
    intro gc2 gm2 ⟨v, v1, v2, v3, B2, v6, _, kc, kc2, km2, km⟩
    have e32 : gc2.1 32 = gc.1 32 := by rw [kc 32 (by omega), k1 32 (by omega)]
    rw [ev_r56_0, Option.bind_some, ev_r32_1, Option.bind_some, Option.bind_some, ev_g32, Option.bind_some, ev_g56, Option.bind_some, v6, e32, m3, wf_2 hW, ev_w34 (by omega), Option.bind_some]
    have eS : gm2.1 2 = upd (gm.1 2) (16 + sN (gm.1 2) 2) (nI v) := by rw [km2, s2]
    have z : ∀ x, x ≠ 16 + sN (gm.1 2) 2 → gm2.1 2 x = gm.1 2 x := fun x hx => by rw [eS, pu_upd_ne hx]
    have z29 : sN (gm2.1 2) 29 = sN (gm.1 2) 29 := by unfold sN; rw [z 29 (by omega)]
    refine RS_ok ⟨i + 1 + 1, by omega, BR_c B2 (fun x hx => pu_up_ne (by omega)) (fun x _ => rfl), by rw [eS]; exact wf_cash hW h12 v2, ?_, ?_⟩
    · have er : ∀ x, x ≠ 34 → x ≠ 56 → ob_up gc2.1 34 (sN (gm.1 2) 2) (nI v) x = gc.1 x := fun x a c => by
        rw [pu_up_ne a, kc x c, k1 x c]
      refine ⟨?_, ?_, ?_, ?_, fun t ht => ?_, fun k hk => ?_⟩
      · show ob_up gc2.1 34 (sN (gm.1 2) 2) (nI v) 32 3 = _
        rw [er 32 (by omega) (by omega), z 0 (by omega), m1]
      · show ob_up gc2.1 34 (sN (gm.1 2) 2) (nI v) 32 4 = _
        rw [er 32 (by omega) (by omega), z 1 (by omega), m2]
      · show ob_up gc2.1 34 (sN (gm.1 2) 2) (nI v) 32 5 = _
        rw [er 32 (by omega) (by omega), z 2 (by omega), m3]
      · show ob_up gc2.1 34 (sN (gm.1 2) 2) (nI v) 32 6 = _
        rw [er 32 (by omega) (by omega), z 29 (by omega), m4]
      · show ob_up gc2.1 34 (sN (gm.1 2) 2) (nI v) 33 t = _ ∧ ob_up gc2.1 34 (sN (gm.1 2) 2) (nI v) 34 t = _
        rw [er 33 (by omega) (by omega), z _ (by omega), pu_up_eq, kc 34 (by omega), k1 34 (by omega)]
        refine ⟨(m5 t ht).1, ?_⟩
        by_cases e : t = sN (gm.1 2) 2
        · rw [e, pu_upd_eq, eS, pu_upd_eq]
        · rw [pu_upd_ne e, z _ (by omega)]; exact (m5 t ht).2
      · rw [z29] at hk
        have h4 := wf_4 hW
        exact c_C_cg (er _ (by omega) (by omega)) (fun w _ => z _ (by omega)) (m6 k hk)
    · rw [z29]
      exact nm_R_fr (by show gc2.2 62 = _; rw [kc2, k2]) (by rw [km 8 (by omega) (by omega) (by omega), k3 8 (by omega) (by omega)]) hN
  · have d1 : ¬ nI (sN (gm.1 2) (16 + sN (gm.1 2) 2)) = 0 := nI_ne0 (by omega) (by omega)
    have d2 : ¬ nI (sN (gm.1 2) (16 + sN (gm.1 2) 2)) ≤ 0 := fun z => d (by have := (nI_leI (b := 0) (by omega) (by omega)).mp z; omega)
    rw [if_neg d1, if_neg d2]
    exact FL_zz hB
/-! steps are added -/
def st_c (g : ob_St) (N v t : Nat) (g' : ob_St) : Prop := (∀ x, x ≠ 32 → x ≠ 33 → g'.1 x = g.1 x) ∧ (∀ j, j ≠ 5 → g'.1 32 j = g.1 32 j) ∧ g'.1 32 5 = nI (N + t) ∧ g'.2 = g.2 ∧ ∀ u, u ≤ 12 → g'.1 33 u = if N < u ∧ u ≤ N + t then nI v else g.1 33 u
theorem c_addSteps {g : ob_St} {N v w : Nat} (h5 : g.1 32 5 = nI N) (hw : N + w ≤ 12) : ∃ g', f_X5_addSteps g 32 (nI v) (nI w) = some g' ∧ st_c g N v w g' := by
  obtain ⟨r, h1, h3⟩ := pu_up (fun f s i => L_X5_addSteps_2 32 (nI v) (nI w) f s (nI i)) (fun t s => st_c g N v t s) w (fun r => st_c g N v w r)
    (fun f s hI => ⟨s, by
      show Lb_X5_addSteps_2 _ _ _ _ _ _ = _
      unfold Lb_X5_addSteps_2
      rw [if_pos (nI_le (by omega) (by omega))], hI⟩)
    (fun f t s ht hI => by
      obtain ⟨a1, a2, a3, a4, a5⟩ := hI
      have n12 : ¬ (12 : Int32) ≤ nI (N + t) := nI_ge (a := N + t) (b := 12) (by omega) (by omega)
      have p5 : ob_up s.1 32 5 (nI (N + t + 1)) 32 5 = nI (N + t + 1) := by rw [pu_up_eq, pu_upd_eq]
      refine ⟨(ob_up (ob_up s.1 32 5 (nI (N + t + 1))) 33 (N + t + 1) (nI v), s.2), ⟨fun x c d => ?_, fun j c => ?_, ?_, a4, fun u hu => ?_⟩, ?_⟩
      · show ob_up (ob_up s.1 32 5 (nI (N + t + 1))) 33 (N + t + 1) (nI v) x = _
        rw [pu_up_ne d, pu_up_ne c, a1 x c d]
      · show ob_up (ob_up s.1 32 5 (nI (N + t + 1))) 33 (N + t + 1) (nI v) 32 j = _
        rw [pu_up_ne (by omega), pu_up_eq, pu_upd_ne c, a2 j c]
      · show ob_up (ob_up s.1 32 5 (nI (N + t + 1))) 33 (N + t + 1) (nI v) 32 5 = _
        rw [pu_up_ne (by omega), p5]; rfl
      · show ob_up (ob_up s.1 32 5 (nI (N + t + 1))) 33 (N + t + 1) (nI v) 33 u = _
        rw [pu_up_eq, pu_up_ne (by omega)]
        by_cases e : u = N + t + 1
        · rw [e, pu_upd_eq, if_pos (by omega)]
        · rw [pu_upd_ne e, a5 u hu]
          by_cases e2 : N < u ∧ u ≤ N + t
          · rw [if_pos e2, if_pos (by omega)]
          · rw [if_neg e2, if_neg (by omega)]
      · show Lb_X5_addSteps_2 _ _ _ _ _ _ = _
        unfold Lb_X5_addSteps_2
        rw [if_neg (nI_ge (by omega) (by omega)), ev_g32, Option.bind_some, a3, if_neg n12, Option.bind_some, nI_1, ev_p32, Option.bind_some, ev_r32_0, Option.bind_some, ev_g32, Option.bind_some]
        show ((ob_wI (ob_up s.1 32 5 (nI (N + t + 1)), s.2) 33 (ob_up s.1 32 5 (nI (N + t + 1)) 32 5) (nI v)).bind _) = _
        rw [p5, ev_w33 (by omega), Option.bind_some, nI_1])
    w 0 ob_FU g (by omega) (by unfold ob_FU; omega) ⟨fun _ _ _ => rfl, fun _ _ => rfl, h5, rfl, fun u _ => by rw [if_neg (by omega)]⟩
  have h1 : L_X5_addSteps_2 32 (nI v) (nI w) ob_FU g 0 = some r := h1
  refine ⟨r, ?_, h3⟩
  unfold f_X5_addSteps
  rw [h1, Option.bind_some]
def st_m (g : ob_St) (N v t : Nat) (g' : ob_St) : Prop := (∀ x, x ≠ 2 → g'.1 x = g.1 x) ∧ g'.2 = g.2 ∧ ∀ j, g'.1 2 j = if j = 2 then nI (N + t) else if 3 + N < j ∧ j ≤ 3 + N + t then nI v else g.1 2 j
theorem m_addSteps {g : ob_St} {N v w : Nat} (h2 : g.1 2 2 = nI N) (hw : N + w ≤ 12) : ∃ g', L_X12_stepLine_101 0 (nI v) (nI w) ob_FU g 0 = some g' ∧ st_m g N v w g' := by
  have r2 : ∀ g : ob_St, ob_rI g 14 2 2 = some (g.1 2 2) := fun g => ev_l2 (i := 2) (by show 2 < 70; omega)
  have w2 : ∀ (g : ob_St) x, ob_wI g 2 2 x = some (ob_up g.1 2 2 x, g.2) := fun g x => pu_wI (n := 2) (i := 2) rfl rfl (by show 2 < 70; omega)
  obtain ⟨r, h1, h3⟩ := pu_up (fun f s i => L_X12_stepLine_101 0 (nI v) (nI w) f s (nI i)) (fun t s => st_m g N v t s) w (fun r => st_m g N v w r)
    (fun f s hI => ⟨s, by
      show Lb_X12_stepLine_101 _ _ _ _ _ _ = _
      unfold Lb_X12_stepLine_101
      rw [if_pos (nI_le (by omega) (by omega))], hI⟩)
    (fun f t s ht hI => by
      obtain ⟨a1, a2, a3⟩ := hI
      have s2 : s.1 2 2 = nI (N + t) := by rw [a3, if_pos rfl]
      have p2 : ob_up s.1 2 2 (nI (N + t + 1)) 2 2 = nI (N + t + 1) := by rw [pu_up_eq, pu_upd_eq]
      refine ⟨(ob_up (ob_up s.1 2 2 (nI (N + t + 1))) 2 (3 + (N + t + 1)) (nI v), s.2), ⟨fun x c => ?_, a2, fun j => ?_⟩, ?_⟩
      · show ob_up (ob_up s.1 2 2 (nI (N + t + 1))) 2 (3 + (N + t + 1)) (nI v) x = _
        rw [pu_up_ne c, pu_up_ne c, a1 x c]
      · show ob_up (ob_up s.1 2 2 (nI (N + t + 1))) 2 (3 + (N + t + 1)) (nI v) 2 j = _
        rw [pu_up_eq, pu_up_eq]
        by_cases e0 : j = 2
        · rw [e0, pu_upd_ne (by omega), pu_upd_eq, if_pos rfl]; rfl
        · rw [if_neg e0]
          by_cases e : j = 3 + (N + t + 1)
          · rw [e, pu_upd_eq, if_pos (by omega)]
          · rw [pu_upd_ne e, pu_upd_ne e0, a3 j, if_neg e0]
            by_cases e2 : 3 + N < j ∧ j ≤ 3 + N + t
            · rw [if_pos e2, if_pos (by omega)]
            · rw [if_neg e2, if_neg (by omega)]
      · show Lb_X12_stepLine_101 _ _ _ _ _ _ = _
        unfold Lb_X12_stepLine_101
        rw [if_neg (nI_ge (by omega) (by omega)), ev_r0_2, Option.bind_some, r2, Option.bind_some, s2, nI_1, w2, Option.bind_some, Option.bind_some, Option.bind_some, r2, Option.bind_some]
        show ((ob_wI (ob_up s.1 2 2 (nI (N + t + 1)), s.2) 2 (3 + ob_up s.1 2 2 (nI (N + t + 1)) 2 2) (nI v)).bind _) = _
        rw [p2, pu_add]
        show ((ob_wI (ob_up s.1 2 2 (nI (N + t + 1)), s.2) 2 (nI (3 + (N + t + 1))) (nI v)).bind _) = _
        rw [ev_w2 (by omega), Option.bind_some, nI_1])
    w 0 ob_FU g (by omega) (by unfold ob_FU; omega) ⟨fun _ _ => rfl, rfl, fun j => by
      by_cases e : j = 2
      · rw [e, if_pos rfl]; exact h2
      · rw [if_neg e, if_neg (by omega)]⟩
  exact ⟨r, h1, h3⟩
theorem wf_steps {S S' : Nat → Int32} {N v w : Nat} (hW : sp_WF S) (hN : sN S 2 = N) (hw : N + w ≤ 12) (hv1 : 1 ≤ v) (hv2 : v < sN S 1) (hl : v * w ≤ sN S 0 - sp_fN S N) (e : ∀ j, S' j = if j = 2 then nI (N + w) else if 3 + N < j ∧ j ≤ 3 + N + w then nI v else S j) : sp_WF S' := by
  obtain ⟨w1, w2, w3, w4, w5, w6, w7, w8, w9⟩ := hW
  have z : ∀ j, j ≠ 2 → (j ≤ 3 + N ∨ 3 + N + w < j) → S' j = S j := fun j a c => by rw [e, if_neg a, if_neg (by omega)]
  have zN : ∀ j, j ≠ 2 → (j ≤ 3 + N ∨ 3 + N + w < j) → sN S' j = sN S j := fun j a c => by unfold sN; rw [z j a c]
  have e2 : S' 2 = nI (N + w) := by rw [e, if_pos rfl]
  have n2 := sN_nI e2 (by omega)
  have ev : ∀ t, N < t → t ≤ N + w → S' (3 + t) = nI v := fun t a c => by rw [e, if_neg (by omega), if_pos (by omega)]
  have nv : ∀ t, N < t → t ≤ N + w → sN S' (3 + t) = v := fun t a c => sN_nI (ev t a c) (by have := w2.2.2; omega)
  have f1 : ∀ t, t ≤ N → sp_fN S' t = sp_fN S t := by
    intro t
    induction t with
    | zero => intro _; rfl
    | succ t ih =>
      intro ht
      show sp_fN S' t + sN S' (3 + (t + 1)) = sp_fN S t + sN S (3 + (t + 1))
      rw [ih (by omega), zN _ (by omega) (by omega)]
  have f2 : ∀ t, t ≤ w → sp_fN S' (N + t) = sp_fN S N + v * t := by
    intro t
    induction t with
    | zero => intro _; rw [Nat.mul_zero]; exact f1 N (Nat.le_refl _)
    | succ t ih =>
      intro ht
      show sp_fN S' (N + t) + sN S' (3 + (N + t + 1)) = _
      rw [ih (by omega), nv _ (by omega) (by omega), Nat.mul_succ]
      omega
  have h12 : N ≤ 12 := by omega
  refine ⟨?_, ?_, ⟨by rw [n2, e2], by omega⟩, ?_, by rw [z 3 (by omega) (by omega)]; exact w5, fun t t1 t2 => ?_, fun t ht => ?_, ?_, fun k hk => ?_⟩
  · rw [z 0 (by omega) (by omega), zN 0 (by omega) (by omega)]; exact w1
  · rw [z 1 (by omega) (by omega), zN 1 (by omega) (by omega)]; exact w2
  · rw [z 29 (by omega) (by omega), zN 29 (by omega) (by omega)]; exact w4
  · rw [n2] at t2
    rw [zN 1 (by omega) (by omega)]
    by_cases c : t ≤ N
    · rw [z _ (by omega) (by omega), zN _ (by omega) (by omega)]
      exact w6 t t1 (by omega)
    · rw [ev t (by omega) t2, nv t (by omega) t2]
      exact ⟨rfl, hv1, hv2⟩
  · rw [z _ (by omega) (by omega), zN _ (by omega) (by omega)]; exact w7 t ht
  · rw [n2, f2 w (Nat.le_refl _), zN 0 (by omega) (by omega)]
    rw [hN] at w8
    omega
  · rw [zN 29 (by omega) (by omega)] at hk
    exact wo_congr (fun x hx => z _ (by omega) (by omega)) (w9 k hk)
