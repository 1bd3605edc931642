/-! barrier and rebate, recall, the line's end -/
theorem op_32 {c0 m0 gc gm gc0 gm0 : ob_St} {b : Nat → Int32} {n m k i q s : Nat} {S : Nat → Int32} (hk : k < 4) (h29 : sN S 29 = k) (h : OB c0 m0 b n m S k i gc gm) (hC : CF k 4 gc0 gm0) (h34 : W3 k (gm0.1 2) ∧ W4 k (gm0.1 2)) (hs1 : 1 ≤ s) (hs2 : s ≤ 2) (hq : q < 20) (hqs : q = 9 ↔ s = 1)
    (aj : gc.1 (36 + k) = gc0.1 (36 + k)) (b7 : gm.1 2 (30 + 10 * k + 7) = 0) (bj : ∀ j, j < 4 → gm.1 2 (30 + 10 * k + j) = gm0.1 2 (30 + 10 * k + j)) :
    RS c0 m0 (BQ c0 m0 b n m S k i) ((B_X7_readBarrier_32 gc 56 (36 + k) (36 + k) (nI s)).bind (br_K k)) (B_X12_barrier_75 gm 0 (nI (30 + 10 * k)) (nI q) 2 (nI (30 + 10 * k + 4)) (nI s)) := by
  have i5 : nI (30 + 10 * k) + 5 = nI (30 + 10 * k + 5) := nI_add _ 5
  obtain ⟨gc2, gm2, i', f1, f2, O2, hi, z1, z2⟩ := OB_go hk h29 (OB_c (f := 4) (v := nI s) hk h29 (OB_m (j := 4) (v := nI s) h))
  obtain ⟨y11, e11, q11⟩ := kw_dec (k := 11) O2.1.1 (by omega)
  obtain ⟨y12, e12, q12⟩ := kw_dec (k := 12) O2.1.1 (by omega)
  have e11 : f_X7_isKeyword gc2 56 16 = some (bI y11) := e11
  have e12 : f_X7_isKeyword gc2 56 17 = some (bI y12) := e12
  have T : ∀ u, u ≤ 1 → RS c0 m0 (BQ c0 m0 b n m S k i) ((B_X7_readBarrier_78 gc2 56 (36 + k) (36 + k) (nI u)).bind (br_K k)) (B_X12_barrier_121 gm2 0 (nI (30 + 10 * k)) (nI q) 2 (nI (30 + 10 * k + 5)) (nI u)) := fun u hu =>
    op_78 hk h29 hi O2 hC h34 hu hs1 hs2 hq hqs (by rw [z1]; exact u_eq) (fun j hj => by rw [z1, u_ne hj, aj]) (by rw [z2]; exact u_eq) (by rw [z2, u_ne (by omega), b7]) (fun j hj => by rw [z2, u_ne (by omega)]; exact bj j hj)
  unfold B_X7_readBarrier_32 B_X12_barrier_75 B_X7_readBarrier_63 B_X12_barrier_103
  rw [ct_p hk, Option.bind_some, f1, ev_ck56, Option.bind_some, e11, ev_ck56, Option.bind_some, Option.bind_some, ev_w2 (by omega), Option.bind_some, f2, ev_ck0, Option.bind_some, m_known O2.1.1.2.2.2.2, ev_ck0, Option.bind_some, ev_r0_2, Option.bind_some, i5]
  by_cases c11 : kq b n (lx_ps b n i') = some 11
  · have k11 : (kq b n (lx_ps b n i')).elim (-1) nI = 11 := (kn_eq (k := 11) (by omega)).mpr c11
    rw [if_neg (fun z => bI_0.mp z (q11.mpr c11)), if_neg (fun z => bI_0.mp z (q11.mpr c11)), if_pos k11, if_pos k11]
    exact T 1 (by omega)
  · have k11 : ¬ (kq b n (lx_ps b n i')).elim (-1) nI = 11 := fun z => c11 ((kn_eq (k := 11) (by omega)).mp z)
    have p11 : bI y11 = 0 := bI_0.mpr (fun z => c11 (q11.mp z))
    rw [if_pos p11, if_pos p11, if_neg k11, if_neg k11, e12, ev_ck56, Option.bind_some]
    by_cases c12 : kq b n (lx_ps b n i') = some 12
    · have k12 : (kq b n (lx_ps b n i')).elim (-1) nI = 12 := (kn_eq (k := 12) (by omega)).mpr c12
      rw [if_neg (fun z => bI_0.mp z (q12.mpr c12)), if_pos k12]
      exact T 0 (by omega)
    · have k12 : ¬ (kq b n (lx_ps b n i')).elim (-1) nI = 12 := fun z => c12 ((kn_eq (k := 12) (by omega)).mp z)
      rw [if_pos (bI_0.mpr (fun z => c12 (q12.mp z))), if_neg k12]
      exact RS_f (FL_zz O2.1) (fun _ => rfl)
theorem op_barrier {c0 m0 gc gm : ob_St} {b : Nat → Int32} {n m k i : Nat} {S : Nat → Int32} (hk : k < 4) (h29 : sN S 29 = k) (h : OB c0 m0 b n m S k i gc gm) (hC : CF k 4 gc gm) (h34 : W3 k (gm.1 2) ∧ W4 k (gm.1 2)) : RS c0 m0 (BQ c0 m0 b n m S k i) ((f_X7_readBarrier gc 56 (36 + k)).bind (br_K k)) (f_X12_barrier gm 0 (nI (30 + 10 * k))) := by
  have i4 : nI (30 + 10 * k) + 4 = nI (30 + 10 * k + 4) := nI_add _ 4
  have i5 : nI (30 + 10 * k) + 5 = nI (30 + 10 * k + 5) := nI_add _ 5
  have i6 : nI (30 + 10 * k) + 6 = nI (30 + 10 * k + 6) := nI_add _ 6
  have i7 : nI (30 + 10 * k) + 7 = nI (30 + 10 * k + 7) := nI_add _ 7
  have t := h.1.1
  obtain ⟨y9, e9, q9⟩ := kw_dec (k := 9) t (by omega)
  obtain ⟨y10, e10, q10⟩ := kw_dec (k := 10) t (by omega)
  have e9 : f_X7_isKeyword gc 56 14 = some (bI y9) := e9
  have e10 : f_X7_isKeyword gc 56 15 = some (bI y10) := e10
  have O1 := OB_m (j := 7) (v := 0) (OB_m (j := 6) (v := -1) (OB_m (j := 5) (v := -1) (OB_m (j := 4) (v := 0) h)))
  unfold f_X7_readBarrier f_X12_barrier B_X7_readBarrier_22 B_X12_barrier_57
  rw [e9, ev_ck56, Option.bind_some, m_known t.2.2.2.2, ev_ck0, Option.bind_some, ev_r0_2, Option.bind_some, i4, i5, i6, i7, ev_w2 (by omega), Option.bind_some, Option.bind_some, ev_w2 (by omega), Option.bind_some, Option.bind_some, ev_w2 (by omega), Option.bind_some, Option.bind_some, ev_w2 (by omega), Option.bind_some]
  have O1 : OB c0 m0 b n m S k i gc (ob_up (ob_up (ob_up (ob_up gm.1 2 (30 + 10 * k + 4) 0) 2 (30 + 10 * k + 5) (-1)) 2 (30 + 10 * k + 6) (-1)) 2 (30 + 10 * k + 7) 0, gm.2) := O1
  dsimp only
  generalize hgm1 : ((ob_up (ob_up (ob_up (ob_up gm.1 2 (30 + 10 * k + 4) 0) 2 (30 + 10 * k + 5) (-1)) 2 (30 + 10 * k + 6) (-1)) 2 (30 + 10 * k + 7) 0, gm.2) : ob_St) = gm1 at O1
  have r : ∀ x, gm1.1 2 x = upd (upd (upd (upd (gm.1 2) (30 + 10 * k + 4) 0) (30 + 10 * k + 5) (-1)) (30 + 10 * k + 6) (-1)) (30 + 10 * k + 7) 0 x := fun x => by
    rw [← hgm1]
    show ob_up (ob_up (ob_up (ob_up gm.1 2 (30 + 10 * k + 4) 0) 2 (30 + 10 * k + 5) (-1)) 2 (30 + 10 * k + 6) (-1)) 2 (30 + 10 * k + 7) 0 2 x = _
    rw [pu_up_eq, pu_up_eq, pu_up_eq, pu_up_eq]
  have r7 : gm1.1 2 (30 + 10 * k + 7) = 0 := by rw [r, pu_upd_eq]
  have r6 : gm1.1 2 (30 + 10 * k + 6) = -1 := by rw [r, pu_upd_ne (by omega), pu_upd_eq]
  have r5 : gm1.1 2 (30 + 10 * k + 5) = -1 := by rw [r, pu_upd_ne (by omega), pu_upd_ne (by omega), pu_upd_eq]
  have r4 : gm1.1 2 (30 + 10 * k + 4) = 0 := by rw [r, pu_upd_ne (by omega), pu_upd_ne (by omega), pu_upd_ne (by omega), pu_upd_eq]
  have rj : ∀ j, j < 4 → gm1.1 2 (30 + 10 * k + j) = gm.1 2 (30 + 10 * k + j) := fun j hj => by rw [r, pu_upd_ne (by omega), pu_upd_ne (by omega), pu_upd_ne (by omega), pu_upd_ne (by omega)]
  by_cases c9 : kq b n (lx_ps b n i) = some 9
  · have k9 : (kq b n (lx_ps b n i)).elim (-1) nI = 9 := (kn_eq (k := 9) (by omega)).mpr c9
    have p9 : ¬ bI y9 = 0 := fun z => bI_0.mp z (q9.mpr c9)
    rw [if_neg p9, if_neg p9, if_pos k9, Option.bind_some, if_pos k9, k9]
    exact op_32 (q := 9) (s := 1) hk h29 O1 hC h34 (by omega) (by omega) (by omega) ⟨fun _ => rfl, fun _ => rfl⟩ rfl r7 rj
  · have k9 : ¬ (kq b n (lx_ps b n i)).elim (-1) nI = 9 := fun z => c9 ((kn_eq (k := 9) (by omega)).mp z)
    have p9 : bI y9 = 0 := bI_0.mpr (fun z => c9 (q9.mp z))
    rw [if_pos p9, if_pos p9, if_neg k9, e10, ev_ck56, Option.bind_some]
    by_cases c10 : kq b n (lx_ps b n i) = some 10
    · have k10 : (kq b n (lx_ps b n i)).elim (-1) nI = 10 := (kn_eq (k := 10) (by omega)).mpr c10
      rw [if_neg (fun z => bI_0.mp z (q10.mpr c10)), if_pos k10, Option.bind_some, if_neg k9, k10]
      exact op_32 (q := 10) (s := 2) hk h29 O1 hC h34 (by omega) (by omega) (by omega) ⟨fun z => by omega, fun z => by omega⟩ rfl r7 rj
    · have k10 : ¬ (kq b n (lx_ps b n i)).elim (-1) nI = 10 := fun z => c10 ((kn_eq (k := 10) (by omega)).mp z)
      rw [if_pos (bI_0.mpr (fun z => c10 (q10.mp z))), if_neg k10, Option.bind_some]
      have e4 : gc.1 (36 + k) 4 = 0 := by rw [hC.2 4 (by omega) (by omega)]; rfl
      unfold br_K f_X7_readRebate
      dsimp only
      rw [if_neg one0, ct_g hk, Option.bind_some, e4, if_neg (show ¬ (0 : Int32) = 1 by decide)]
      refine RS_ok ⟨i, Nat.le_refl _, O1, CF_8 hC (fun _ _ => rfl) rj (fun j x y => ?_), ⟨W3_fr (fun j hj => rj j (by omega)) h34.1, W4_fr (rj 3 (by omega)) h34.2⟩, 0, 0, r4, by omega, fun z => absurd rfl z, r7, by omega⟩
      rw [hC.2 j x (by omega)]
      rcases (by omega : j = 4 ∨ j = 5 ∨ j = 6 ∨ j = 7) with rfl | rfl | rfl | rfl
      · rw [r4]; rfl
      · rw [r5]; rfl
      · rw [r6]; rfl
      · rw [r7]; rfl
theorem wo_mk {k : Nat} {T : Nat → Int32} (hk : k < 4) (h3 : W3 k T) (h4 : W4 k T) (h8 : W8 k T) (h9 : T (30 + 10 * k + 8) = -1 ∨ ∃ x, T (30 + 10 * k + 8) = nI x ∧ 1 ≤ x ∧ x ≤ 99) (h0 : T (30 + 10 * k + 9) = 0) : sp_WO T k := by
  obtain ⟨x0, x1, a0, a1, a2, a3, a4, a5, a6⟩ := h3
  obtain ⟨x3, b0, b1⟩ := h4
  obtain ⟨x4, x7, d0, d1, d2, d3, d4⟩ := h8
  have n0 := sN_nI a0 (by omega)
  have n1 := sN_nI a1 (by omega)
  have n3 := sN_nI b0 (by omega)
  have n4 := sN_nI d0 (by omega)
  have n7 := sN_nI d3 (by omega)
  unfold sp_WO sp_o
  rw [n0, n1, n3, n4, n7]
  refine ⟨⟨a0, a2⟩, ⟨a1, a3⟩, ⟨fun e => ?_, fun e => ?_, fun e => ?_⟩, ⟨b0, b1⟩, ⟨d0, d1⟩, fun e => ?_, ⟨d3, d4⟩, ?_, ?_⟩
  · obtain ⟨x2, y1, y2⟩ := a4 e
    rw [sN_nI y1 (by omega)]
    exact ⟨y1, y2⟩
  · obtain ⟨x2, y1, y2⟩ := a5 e
    rw [sN_nI y1 (by omega)]
    exact ⟨y1, y2⟩
  · obtain ⟨x2, y1, y2⟩ := a6 e
    rw [sN_nI y1 (by omega)]
    exact ⟨y1, y2⟩
  · obtain ⟨x5, x6, y1, y2, y3, y4⟩ := d2 e
    rw [sN_nI y1 (by omega), sN_nI y3 (by omega)]
    exact ⟨⟨y1, y2⟩, y3, y4⟩
  · rcases h9 with h9 | ⟨x, y1, y2⟩
    · exact Or.inl h9
    · refine Or.inr ?_
      rw [sN_nI y1 (by omega)]
      exact ⟨y1, y2⟩
  · rw [h0]; decide
theorem wf_add {S S' : Nat → Int32} {k : Nat} (hW : sp_WF S) (h29 : sN S 29 = k) (hk : k < 4) (e : ∀ j, j < 30 + 10 * k → j ≠ 29 → S' j = S j) (e29 : S' 29 = nI (k + 1)) (ho : sp_WO S' k) : sp_WF S' := by
  obtain ⟨w1, w2, w3, w4, w5, w6, w7, w8, w9⟩ := hW
  have eN : ∀ j, j < 30 + 10 * k → j ≠ 29 → sN S' j = sN S j := fun j a c => by unfold sN; rw [e j a c]
  have n29 := sN_nI e29 (by omega)
  have h12 := w3.2
  have f : ∀ t, t ≤ 12 → sp_fN S' t = sp_fN S t := by
    intro t
    induction t with
    | zero => intro _; rfl
    | succ t ih =>
      intro ht
      show sp_fN S' t + sN S' (3 + (t + 1)) = sp_fN S t + sN S (3 + (t + 1))
      rw [ih (by omega), eN _ (by omega) (by omega)]
  refine ⟨?_, ?_, ?_, ⟨by rw [n29, e29], by omega⟩, by rw [e 3 (by omega) (by omega)]; exact w5, fun t t1 t2 => ?_, fun t ht => ?_, ?_, fun q hq => ?_⟩
  · rw [e 0 (by omega) (by omega), eN 0 (by omega) (by omega)]; exact w1
  · rw [e 1 (by omega) (by omega), eN 1 (by omega) (by omega)]; exact w2
  · rw [e 2 (by omega) (by omega), eN 2 (by omega) (by omega)]; exact w3
  · rw [eN 2 (by omega) (by omega)] at t2
    rw [e _ (by omega) (by omega), eN _ (by omega) (by omega), eN 1 (by omega) (by omega)]
    exact w6 t t1 t2
  · rw [e _ (by omega) (by omega), eN _ (by omega) (by omega)]; exact w7 t ht
  · rw [eN 2 (by omega) (by omega), eN 0 (by omega) (by omega), f _ h12]; exact w8
  · rw [n29] at hq
    by_cases c : q = k
    · subst c; exact ho
    · exact wo_congr (fun w hw => e _ (by omega) (by omega)) (w9 q (by omega))
/-- the line's end -/
theorem op_end {c0 m0 gc gm : ob_St} {b : Nat → Int32} {n m k i i0 : Nat} {S : Nat → Int32} (hk : k < 4) (hW : sp_WF S) (h29 : sN S 29 = k) (hi : i0 < i) (h : OB c0 m0 b n m S k i gc gm) (hC : CF k 10 gc gm) (h34 : W3 k (gm.1 2) ∧ W4 k (gm.1 2)) (h8 : W8 k (gm.1 2)) (h9 : gm.1 2 (30 + 10 * k + 8) = -1 ∨ ∃ x, gm.1 2 (30 + 10 * k + 8) = nI x ∧ 1 ≤ x ∧ x ≤ 99) (h0 : gm.1 2 (30 + 10 * k + 9) = 0) :
    RS c0 m0 (LQ c0 m0 b n m i0) ((ob_gR 7 56 0).bind fun v14 => (ob_pI gc 5 v14 6 (nI k + 1)).bind fun g15 => some (1, g15)) (B_X12_optionLine_165 gm 0) := by
  have r29 : ob_rI gm 14 2 29 = some (gm.1 2 29) := ev_l2 (i := 29) (by show 29 < 70; omega)
  have w29 : ob_wI gm 2 29 (nI k + 1) = some (ob_up gm.1 2 29 (nI k + 1), gm.2) := pu_wI (n := 2) (i := 29) rfl rfl (by show 29 < 70; omega)
  obtain ⟨n29, n6, _⟩ := OB_29 hW h29 h
  obtain ⟨B, M, hS, hN⟩ := h
  unfold B_X12_optionLine_165
  rw [ev_r56_0, Option.bind_some, ev_p32, Option.bind_some, ev_r0_2, Option.bind_some, r29, Option.bind_some, n29, w29, Option.bind_some, nI_1]
  have eT : ∀ j, j ≠ 29 → ob_up gm.1 2 29 (nI (k + 1)) 2 j = gm.1 2 j := fun j hj => by rw [pu_up_eq, pu_upd_ne hj]
  have e29 : ob_up gm.1 2 29 (nI (k + 1)) 2 29 = nI (k + 1) := by rw [pu_up_eq, pu_upd_eq]
  have m29 := sN_nI e29 (by omega)
  have ho : sp_WO (ob_up gm.1 2 29 (nI (k + 1)) 2) k := wo_congr (fun w hw => eT _ (by omega)) (wo_mk hk h34.1 h34.2 h8 h9 h0)
  have er : ∀ x, x ≠ 32 → ob_up gc.1 32 6 (nI (k + 1)) x = gc.1 x := fun x hx => pu_up_ne hx
  have ef : ∀ j, j ≠ 6 → ob_up gc.1 32 6 (nI (k + 1)) 32 j = gc.1 32 j := fun j hj => by rw [pu_up_eq, pu_upd_ne hj]
  obtain ⟨m1, m2, m3, m4, m5, m6⟩ := M
  refine RS_ok ⟨i, hi, BR_m (BR_c B (fun x hx => pu_up_ne (by omega)) (fun _ _ => rfl)) (fun x c _ => pu_up_ne c) rfl, wf_add hW h29 hk (fun j a c => (eT j c).trans (hS j a)) e29 ho, ⟨?_, ?_, ?_, ?_, fun t ht => ?_, fun q hq => ?_⟩, ?_⟩
  · exact (ef 3 (by omega)).trans (m1.trans ((eT 0 (by omega)).trans (hS 0 (by omega))).symm)
  · exact (ef 4 (by omega)).trans (m2.trans ((eT 1 (by omega)).trans (hS 1 (by omega))).symm)
  · exact (ef 5 (by omega)).trans (m3.trans ((eT 2 (by omega)).trans (hS 2 (by omega))).symm)
  · show ob_up gc.1 32 6 (nI (k + 1)) 32 6 = ob_up gm.1 2 29 (nI (k + 1)) 2 29
    rw [e29, pu_up_eq, pu_upd_eq]
  · show ob_up gc.1 32 6 (nI (k + 1)) 33 t = ob_up gm.1 2 29 (nI (k + 1)) 2 (3 + t) ∧ ob_up gc.1 32 6 (nI (k + 1)) 34 t = ob_up gm.1 2 29 (nI (k + 1)) 2 (16 + t)
    rw [er 33 (by omega), er 34 (by omega), eT _ (by omega), eT _ (by omega), hS _ (by omega), hS _ (by omega)]
    exact m5 t ht
  · have hq : q < sN (ob_up gm.1 2 29 (nI (k + 1)) 2) 29 := hq
    rw [m29] at hq
    by_cases c : q = k
    · subst c
      have f : ∀ j, j < 10 → ob_up gc.1 32 6 (nI (q + 1)) (32 + 4 + q) j = c_fx j (ob_up gm.1 2 29 (nI (q + 1)) 2 (30 + 10 * q + j)) := fun j hj => by
        rw [er _ (by omega), eT _ (by omega), show 32 + 4 + q = 36 + q by omega]
        exact hC.1 j hj
      exact ⟨f 0 (by omega), f 1 (by omega), f 2 (by omega), f 3 (by omega), f 4 (by omega), f 5 (by omega), f 6 (by omega), f 7 (by omega), f 8 (by omega), f 9 (by omega)⟩
    · exact c_C_cg (er _ (by omega)) (fun w hw => (eT _ (by omega)).trans (hS _ (by omega))) (m6 q (by omega))
  · show nm_R b (sN (ob_up gm.1 2 29 (nI (k + 1)) 2) 29) _ _
    rw [m29]
    exact nm_R_fr rfl (by show ob_up gm.1 2 29 (nI (k + 1)) 8 = _; rw [pu_up_ne (by omega)]) hN
theorem op_recall {c0 m0 gc gm : ob_St} {b : Nat → Int32} {n m k i i0 : Nat} {S : Nat → Int32} (hk : k < 4) (hW : sp_WF S) (h29 : sN S 29 = k) (hi : i0 < i) (h : OB c0 m0 b n m S k i gc gm) (hC : CF k 8 gc gm) (h34 : W3 k (gm.1 2) ∧ W4 k (gm.1 2)) (h8 : W8 k (gm.1 2)) :
    RS c0 m0 (LQ c0 m0 b n m i0) ((ob_ck 7 56 (f_X7_readRecall gc 56 (36 + k))).bind fun v13 => (if v13.1 = 0 then (some (0, v13.2)) else ((ob_gR 7 56 0).bind fun v14 => (ob_pI v13.2 5 v14 6 (nI k + 1)).bind fun g15 => some (1, g15))))
      ((ob_gR 12 0 2).bind fun v15 => (ob_wI gm v15 (nI (30 + 10 * k) + 8) (-1)).bind fun g16 => (ob_gR 12 0 2).bind fun v17 => (ob_wI g16 v17 (nI (30 + 10 * k) + 9) 0).bind fun g18 => (ob_ck 12 0 (f_X12_known g18 0)).bind fun v19 => (if v19 = 14 then ((ob_ck 12 0 (f_X12_next g18 0)).bind fun g23 => (ob_ck 12 0 (f_X12_takes g23 0 (nI (30 + 10 * k) + 8) 1 99)).bind fun v24 => (if v24.1 = 0 then (some (0, v24.2)) else (B_X12_optionLine_165 v24.2 0))) else (B_X12_optionLine_165 g18 0))) := by
  have i8 : nI (30 + 10 * k) + 8 = nI (30 + 10 * k + 8) := nI_add _ 8
  have i9 : nI (30 + 10 * k) + 9 = nI (30 + 10 * k + 9) := nI_add _ 9
  have O1 := OB_m (j := 9) (v := 0) (OB_m (j := 8) (v := -1) h)
  rw [i8, i9, ev_r0_2, Option.bind_some, ev_w2 (by omega), Option.bind_some, Option.bind_some, ev_w2 (by omega), Option.bind_some]
  have O1 : OB c0 m0 b n m S k i gc (ob_up (ob_up gm.1 2 (30 + 10 * k + 8) (-1)) 2 (30 + 10 * k + 9) 0, gm.2) := O1
  dsimp only
  generalize hgm1 : ((ob_up (ob_up gm.1 2 (30 + 10 * k + 8) (-1)) 2 (30 + 10 * k + 9) 0, gm.2) : ob_St) = gm1 at O1
  have r9 : gm1.1 2 (30 + 10 * k + 9) = 0 := by rw [← hgm1]; exact u_eq
  have r8 : gm1.1 2 (30 + 10 * k + 8) = -1 := by rw [← hgm1, u_ne (by omega), pu_up_eq, pu_upd_eq]
  have rj : ∀ j, j < 8 → gm1.1 2 (30 + 10 * k + j) = gm.1 2 (30 + 10 * k + j) := fun j hj => by rw [← hgm1, u_ne (by omega), pu_up_eq, pu_upd_ne (by omega)]
  obtain ⟨y, e14, q14⟩ := kw_dec (k := 14) O1.1.1 (by omega)
  have e14 : f_X7_isKeyword gc 56 19 = some (bI y) := e14
  unfold f_X7_readRecall
  rw [e14, ev_ck56, ev_ck56, Option.bind_some, m_known O1.1.1.2.2.2.2, ev_ck0, Option.bind_some]
  have fin : ∀ i' gc' gm', i0 < i' → OB c0 m0 b n m S k i' gc' gm' → (∀ j, j ≠ 8 → gc'.1 (36 + k) j = gc.1 (36 + k) j) → (∀ j, j ≠ 8 → gm'.1 2 (30 + 10 * k + j) = gm1.1 2 (30 + 10 * k + j)) → gc'.1 (36 + k) 8 = gm'.1 2 (30 + 10 * k + 8) → (gm'.1 2 (30 + 10 * k + 8) = -1 ∨ ∃ x, gm'.1 2 (30 + 10 * k + 8) = nI x ∧ 1 ≤ x ∧ x ≤ 99) → RS c0 m0 (LQ c0 m0 b n m i0) ((ob_gR 7 56 0).bind fun v14 => (ob_pI gc' 5 v14 6 (nI k + 1)).bind fun g15 => some (1, g15)) (B_X12_optionLine_165 gm' 0) := by
    intro i' gc' gm' hi' O' a1 a2 a3 a4
    refine op_end hk hW h29 hi' O' ⟨fun j hj => ?_, fun j a c => by omega⟩ ⟨W3_fr (fun j hj => by rw [a2 j (by omega), rj j (by omega)]) h34.1, W4_fr (by rw [a2 3 (by omega), rj 3 (by omega)]) h34.2⟩ (W8_fr (fun j _ hj => by rw [a2 j (by omega), rj j (by omega)]) h8) a4 (by rw [a2 9 (by omega), r9])
    by_cases c8 : j < 8
    · rw [a1 j (by omega), a2 j (by omega), rj j c8]; exact hC.1 j c8
    · rcases (by omega : j = 8 ∨ j = 9) with rfl | rfl
      · exact a3
      · rw [a1 9 (by omega), a2 9 (by omega), r9, hC.2 9 (by omega) (by omega)]; rfl
  by_cases c : kq b n (lx_ps b n i) = some 14
  · have k14 : (kq b n (lx_ps b n i)).elim (-1) nI = 14 := (kn_eq (k := 14) (by omega)).mpr c
    obtain ⟨gc2, gm2, i', f1, f2, O2, hi2, z1, z2⟩ := OB_go hk h29 O1
    rw [if_neg (fun z => bI_0.mp z (q14.mpr c)), if_pos k14, f1, ev_ck56, Option.bind_some, f2, ev_ck0, Option.bind_some, ev_ck56, ev_ck0]
    have N := OB_num (j := 8) (lo := 1) (hi := 99) hk h29 (by omega) (by omega) (by omega) O2
    rcases N with ⟨gc3, gm3, h1, h2, w, r1, r2, r3, O3, r6, t1, t2⟩ | ⟨gc3, gm3, h1, h2, q⟩
    · have h1 : f_X7_readNumber gc2 56 1 99 = some (1, gc3) := h1
      have h2 : f_X12_takes gm2 0 (nI (30 + 10 * k + 8)) 1 99 = some (1, gm3) := h2
      rw [h1, h2, Option.bind_some, Option.bind_some]
      dsimp only
      rw [if_neg one0, if_neg one0, ev_g56, Option.bind_some, r6, ct_p hk, Option.bind_some, Option.bind_some]
      dsimp only
      rw [if_neg one0]
      exact fin (i' + 1) _ gm3 (by omega) (OB_c hk h29 O3) (fun j hj => (u_ne hj).trans (by rw [t1, z1])) (fun j hj => by rw [t2, pu_upd_ne (by omega), z2]) (by rw [u_eq, t2, pu_upd_eq]) (Or.inr ⟨w, by rw [t2, pu_upd_eq], r1, r2⟩)
    · have h1 : f_X7_readNumber gc2 56 1 99 = some (0, gc3) := h1
      have h2 : f_X12_takes gm2 0 (nI (30 + 10 * k + 8)) 1 99 = some (0, gm3) := h2
      rw [h1, h2]
      exact Or.inr ⟨gc3, gm3, rfl, rfl, q⟩
  · have k14 : ¬ (kq b n (lx_ps b n i)).elim (-1) nI = 14 := fun z => c ((kn_eq (k := 14) (by omega)).mp z)
    rw [if_pos (bI_0.mpr (fun z => c (q14.mp z))), if_neg k14, Option.bind_some]
    dsimp only
    rw [if_neg one0]
    exact fin i gc gm1 hi O1 (fun _ _ => rfl) (fun _ _ => rfl) (by rw [hC.2 8 (by omega) (by omega), r8]; rfl) (Or.inl r8)
