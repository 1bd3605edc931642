/-! an option's kind -/
theorem kw_5 : ∀ k, k < 20 → (kw_s k ≤ 5 ↔ k ≤ 5) ∧ (k ≤ 5 → kw_s k = k) ∧ kw_s k < 20 := by decide +kernel
theorem m_isName {b : Nat → Int32} {n p : Nat} {g : ob_St} (h : m_TK b n p g) : f_X12_isName g 0 = some (bI (decide (lx_k b n p = 4))) := by
  have hle := lx_k_le (b := b) (n := n) (p := p)
  unfold f_X12_isName
  rw [ev_g0, Option.bind_some, h.2.2.1]
  by_cases c : 4 ≤ lx_k b n p
  · rw [if_pos (tc_i.2.1.mpr c), m_known h, ev_ck0, Option.bind_some]
    cases hq : kq b n p with
    | none =>
      have := kq_none.mp hq
      rw [decide_eq_true (show lx_k b n p = 4 by omega)]
      rfl
    | some k =>
      have := kq_lt hq
      rw [decide_eq_false (show ¬ lx_k b n p = 4 by omega)]
      show (if 0 ≤ nI k then some 0 else some 1) = some 0
      rw [if_pos (nI_pos' (by omega))]
  · rw [if_neg (fun z => c (tc_i.2.1.mp z)), decide_eq_false (by omega)]
    rfl
theorem RS_f {c0 m0 : ob_St} {Q' : ob_St → ob_St → Prop} {rc rm : Option (Int32 × ob_St)} {Kc : Int32 × ob_St → Option (Int32 × ob_St)} (h : RS c0 m0 (fun _ _ => False) rc rm) (hf : ∀ g, Kc (0, g) = some (0, g)) : RS c0 m0 Q' (rc.bind Kc) rm := by
  rcases h with ⟨gc, gm, e1, e2, q⟩ | ⟨gc, gm, e1, e2, q⟩
  · exact q.elim
  · rw [e1, e2]
    exact Or.inr ⟨gc, gm, hf gc, rfl, q⟩
/-- a name that stands here: which option it names, to both -/
theorem op_named {c0 m0 gc gm : ob_St} {b : Nat → Int32} {n m k i : Nat} (hk : k ≤ 4) (h : BR c0 m0 b n m i gc gm) (h6 : gc.1 32 6 = nI k) (hN : nm_R b k gc gm) (h4 : lx_k b n (lx_ps b n i) = 4) :
    lx_W b (sk b n (lx_ps b n i)) (lx_l b n (lx_ps b n i)) ∧ gc.2 60 i = lx_h b (sk b n (lx_ps b n i)) (lx_l b n (lx_ps b n i)) ∧ gm.1 0 14 = nI (lx_l b n (lx_ps b n i)) ∧ (∀ j, j < lx_l b n (lx_ps b n i) → gm.1 7 j = b (sk b n (lx_ps b n i) + j)) ∧
    ∃ r : Option Nat, f_X7_namedOption gc 56 = some (r.elim (-1) nI) ∧ f_X12_named gm 0 (nI k) = some (r.elim (-1) nI) ∧ ∀ o, r = some o → o < k := by
  obtain ⟨t, _⟩ := h
  obtain ⟨w, v, iff5, _⟩ := lx_k4 (b := b) (n := n) (p := lx_ps b n i) (by omega)
  have hv := (t.1.2.2.1 i (TR_lt t (by omega))).2 (by omega)
  have kn : lx_kw b (sk b n (lx_ps b n i)) (lx_l b n (lx_ps b n i)) = none := by
    cases hk : lx_kw b (sk b n (lx_ps b n i)) (lx_l b n (lx_ps b n i)) with
    | none => rfl
    | some x => rw [hk] at iff5; have := iff5.mpr rfl; omega
  rw [v, kn] at hv
  have hv : gc.2 60 i = lx_h b (sk b n (lx_ps b n i)) (lx_l b n (lx_ps b n i)) := hv
  obtain ⟨l1, l2⟩ := t.2.2.2.2.2.2.2.2 (by omega)
  refine ⟨w, hv, l1, l2, _, c_namedOption h6 hk t.2.2.1 (TR_501 t) hv, ?_, ?_⟩
  · rw [m_named (b := b) l1 l2 w.1 hk, nm_eq hN w]
  · intro o ho
    exact (sp_fst_e k o ho).1
theorem OB_29 {c0 m0 gc gm : ob_St} {b : Nat → Int32} {n m k i : Nat} {S : Nat → Int32} (hW : sp_WF S) (h29 : sN S 29 = k) (h : OB c0 m0 b n m S k i gc gm) : gm.1 2 29 = nI k ∧ gc.1 32 6 = nI k ∧ nm_R b k gc gm := by
  have e := wf_29 hW
  rw [h29] at e
  exact ⟨by rw [h.2.2.1 29 (by omega)]; exact e, by rw [h.2.1.2.2.2.1]; exact e, fun o ho => h.2.2.2 o (by omega)⟩
theorem op_kind {c0 m0 gc gm : ob_St} {b : Nat → Int32} {n m k i : Nat} {S : Nat → Int32} (hk : k < 4) (hW : sp_WF S) (h29 : sN S 29 = k) (h : OB c0 m0 b n m S k i gc gm) (cl : ∀ j, j < 10 → gc.1 (36 + k) j = cv j) : RS c0 m0 (KQ c0 m0 b n m S k i) (f_X7_readKind gc 56 (36 + k)) (f_X12_kindWord gm 0 (nI (30 + 10 * k))) := by
  have i0 : nI (30 + 10 * k) + 0 = nI (30 + 10 * k + 0) := nI_add _ 0
  have i2 : nI (30 + 10 * k) + 2 = nI (30 + 10 * k + 2) := nI_add _ 2
  have t := h.1.1
  have h5 := TR_501 t
  have e5 : f_X7_isNext gc 56 5 = some (bI (decide (lx_k b n (lx_ps b n i) = 5))) := c_isNext t (k := 5) (by omega)
  unfold f_X7_readKind f_X12_kindWord
  rw [e5, m_known t.2.2.2.2, ev_ck56, ev_ck0, Option.bind_some, Option.bind_some]
  cases hq : kq b n (lx_ps b n i) with
  | none =>
    have m1 : (none : Option Nat).elim (-1) nI < (0 : Int32) := by decide
    rw [decide_eq_false (kq_none.mp hq), if_pos (show bI false = 0 from rfl), if_pos m1]
    exact FL_zz h.1
  | some q =>
    obtain ⟨q1, q2, q3⟩ := kq_lt hq
    obtain ⟨s1, s2, s3⟩ := kw_5 q q1
    have hv := (t.1.2.2.1 i (TR_lt t (by omega))).2 (by omega)
    rw [q3, nI_L (by omega)] at hv
    rw [decide_eq_true q2, if_neg (show ¬ bI true = 0 by decide)]
    show RS c0 m0 _ _ (if nI q < 0 then B_X12_kindWord_14 gm 0 else _)
    rw [if_neg (nI_pos (by omega)), ev_r56_3, Option.bind_some, ev_r57_2, Option.bind_some, ev_g56, Option.bind_some, t.2.2.1, ev_a60 h5, Option.bind_some, hv]
    have five : (5 : Int64) = lN 5 := rfl
    by_cases c : q ≤ 5
    · have c1 : lN (kw_s q) ≤ 5 := by rw [five, nu_le, pk_lT (by omega), pk_lT (by omega)]; have := s1.mpr c; omega
      have c2 : nI q ≤ 5 := nI_le (b := 5) c (by omega)
      rw [if_pos c1]
      show RS c0 m0 _ _ (if nI q ≤ 5 then _ else B_X12_kindWord_14 gm 0)
      rw [if_pos c2, Option.bind_some, ev_r57_2, Option.bind_some, Option.bind_some, ev_a60 h5, Option.bind_some, hv, lN_I (by omega), s2 c, ct_p hk, Option.bind_some, ev_r0_2, Option.bind_some, i0, i2, ev_w2 (by omega), Option.bind_some, Option.bind_some, ev_w2 (by omega), Option.bind_some]
      have O1 := OB_c (f := 0) (v := nI q) hk h29 (OB_m (j := 2) (v := -1) (OB_m (j := 0) (v := nI q) h))
      generalize hgc1 : ((ob_up gc.1 (36 + k) 0 (nI q), gc.2) : ob_St) = gc1 at O1
      have O1 : OB c0 m0 b n m S k i gc1 (ob_up (ob_up gm.1 2 (30 + 10 * k + 0) (nI q)) 2 (30 + 10 * k + 2) (-1), gm.2) := O1
      show RS c0 m0 _ _ ((ob_ck 12 0 (f_X12_next (ob_up (ob_up gm.1 2 (30 + 10 * k + 0) (nI q)) 2 (30 + 10 * k + 2) (-1), gm.2) 0)).bind _)
      generalize hgm1 : ((ob_up (ob_up gm.1 2 (30 + 10 * k + 0) (nI q)) 2 (30 + 10 * k + 2) (-1), gm.2) : ob_St) = gm1 at O1
      obtain ⟨gc2, gm2, i', f1, f2, O2, hi, z1, z2⟩ := OB_go hk h29 O1
      have x0 : gc2.1 (36 + k) 0 = nI q := by rw [z1, ← hgc1]; show ob_up gc.1 (36 + k) 0 (nI q) (36 + k) 0 = _; rw [pu_up_eq, pu_upd_eq]
      have xj : ∀ j, 1 ≤ j → j < 10 → gc2.1 (36 + k) j = cv j := fun j a c => by rw [z1, ← hgc1]; show ob_up gc.1 (36 + k) 0 (nI q) (36 + k) j = _; rw [pu_up_eq, pu_upd_ne (by omega), cl j c]
      have y0 : gm2.1 2 (30 + 10 * k + 0) = nI q := by rw [z2, ← hgm1]; show ob_up (ob_up gm.1 2 (30 + 10 * k + 0) (nI q)) 2 (30 + 10 * k + 2) (-1) 2 (30 + 10 * k + 0) = _; rw [pu_up_eq, pu_upd_ne (by omega), pu_up_eq, pu_upd_eq]
      have y2 : gm2.1 2 (30 + 10 * k + 2) = -1 := by rw [z2, ← hgm1]; show ob_up (ob_up gm.1 2 (30 + 10 * k + 0) (nI q)) 2 (30 + 10 * k + 2) (-1) 2 (30 + 10 * k + 2) = _; rw [pu_up_eq, pu_upd_eq]
      rw [f1, ev_ck56, Option.bind_some, f2, ev_ck0, Option.bind_some, ct_g hk, Option.bind_some, x0]
      have up : ∀ gc gm, KQ c0 m0 b n m S k i' gc gm → KQ c0 m0 b n m S k i gc gm := fun gc gm ⟨i3, a, c⟩ => ⟨i3, by omega, c⟩
      by_cases d : q = 5
      · have d' : nI q = 5 := by rw [d]; rfl
        show RS c0 m0 _ (if nI q = 5 then _ else _) (if nI q = 5 then _ else _)
        rw [if_pos d', if_pos d', m_isName O2.1.1.2.2.2.2, ev_ck0, ev_ck56, Option.bind_some]
        unfold f_X7_readOther
        have e4 : f_X7_isNext gc2 56 4 = some (bI (decide (lx_k b n (lx_ps b n i') = 4))) := c_isNext O2.1.1 (k := 4) (by omega)
        rw [e4, ev_ck56, Option.bind_some]
        by_cases c4 : lx_k b n (lx_ps b n i') = 4
        · obtain ⟨n29, n6, nN⟩ := OB_29 hW h29 O2
          obtain ⟨_, _, _, _, r, r1, r2, r3⟩ := op_named (by omega) O2.1 n6 nN c4
          have r29 : ob_rI gm2 14 2 29 = some (gm2.1 2 29) := ev_l2 (i := 29) (by show 29 < 70; omega)
          rw [decide_eq_true c4, if_neg (show ¬ bI true = 0 by decide), if_neg (show ¬ bI true = 0 by decide), r1, ev_ck56, Option.bind_some, ct_p hk, Option.bind_some, ct_g hk, Option.bind_some, Option.bind_some, Option.bind_some, r29, Option.bind_some, n29, r2, ev_ck0, Option.bind_some, ev_w2 (by omega), Option.bind_some, Option.bind_some, ev_a2 (by omega), Option.bind_some]
          have O3 := OB_c (f := 2) (v := r.elim (-1) nI) hk h29 (OB_m (j := 2) (v := r.elim (-1) nI) O2)
          show RS c0 m0 _ (Option.bind (if ob_up gc2.1 (36 + k) 2 (r.elim (-1) nI) (36 + k) 2 = -1 then _ else _) _) (if 0 ≤ ob_up gm2.1 2 (30 + 10 * k + 2) (r.elim (-1) nI) 2 (30 + 10 * k + 2) then _ else _)
          rw [pu_up_eq, pu_upd_eq, pu_up_eq, pu_upd_eq]
          cases hr : r with
          | none =>
            rw [hr] at O3
            rw [if_pos (show (none : Option Nat).elim (-1) nI = (-1 : Int32) from rfl), if_neg (show ¬ (0 : Int32) ≤ (none : Option Nat).elim (-1) nI by decide)]
            exact RS_f (FL_zz O3.1) (fun _ => rfl)
          | some o =>
            have ho := r3 o hr
            rw [hr] at O3
            have O3 : OB c0 m0 b n m S k i' (ob_up gc2.1 (36 + k) 2 (nI o), gc2.2) (ob_up gm2.1 2 (30 + 10 * k + 2) (nI o), gm2.2) := O3
            rw [if_neg (show ¬ (some o).elim (-1) nI = (-1 : Int32) from nI_m1 (by omega)), if_pos (show (0 : Int32) ≤ (some o).elim (-1) nI from nI_pos' (by omega))]
            show RS c0 m0 _ (((ob_ck 7 56 (f_X7_pass (ob_up gc2.1 (36 + k) 2 (nI o), gc2.2) 56)).bind _).bind _) ((ob_ck 12 0 (f_X12_next (ob_up gm2.1 2 (30 + 10 * k + 2) (nI o), gm2.2) 0)).bind _)
            obtain ⟨gc4, gm4, i4, g1, g2, O4, hi4, w1, w2⟩ := OB_go hk h29 O3
            rw [g1, ev_ck56, Option.bind_some, g2, ev_ck0, Option.bind_some, Option.bind_some]
            dsimp only
            rw [if_neg one0]
            have x2 : ∀ j, ob_up gc2.1 (36 + k) 2 (nI o) (36 + k) j = upd (gc2.1 (36 + k)) 2 (nI o) j := fun j => by rw [pu_up_eq]
            have y2' : ∀ j, ob_up gm2.1 2 (30 + 10 * k + 2) (nI o) 2 j = upd (gm2.1 2) (30 + 10 * k + 2) (nI o) j := fun j => by rw [pu_up_eq]
            refine RS_im (op_72 hk h29 O4 (q := q) c ?_ ?_ ?_ (fun _ => ⟨o, ?_, ho⟩) (fun j a c => ?_)) (fun gc gm ⟨i5, a, c⟩ => ⟨i5, by omega, c⟩)
            · rw [w1]; exact (x2 0).trans ((pu_upd_ne (by omega)).trans x0)
            · rw [w2]; exact (y2' _).trans ((pu_upd_ne (by omega)).trans y0)
            · rw [w1, w2]; exact (x2 2).trans (pu_upd_eq.trans (((y2' _).trans pu_upd_eq).symm))
            · rw [w2]; exact (y2' _).trans pu_upd_eq
            · rw [w1]; exact (x2 j).trans ((pu_upd_ne (by omega)).trans (xj j (by omega) c))
        · rw [decide_eq_false c4, if_pos (show bI false = 0 from rfl), if_pos (show bI false = 0 from rfl)]
          exact RS_f (FL_zz O2.1) (fun _ => rfl)
      · have d' : ¬ nI q = 5 := fun z => d ((nI_eq (b := 5) (by omega) (by omega)).mp z)
        show RS c0 m0 _ (if nI q = 5 then _ else _) (if nI q = 5 then _ else _)
        rw [if_neg d', if_neg d']
        exact RS_im (op_72 hk h29 O2 c x0 y0 (by rw [xj 2 (by omega) (by omega), y2]; rfl) (fun e => absurd e d) (fun j a c => xj j (by omega) c)) up
    · have c1 : ¬ lN (kw_s q) ≤ 5 := by rw [five, nu_le, pk_lT (by omega), pk_lT (by omega)]; have := fun z => c (s1.mp z); omega
      have c2 : ¬ nI q ≤ 5 := nI_ge (a := 5) (by omega) (by omega)
      rw [if_neg c1]
      show RS c0 m0 _ _ (if nI q ≤ 5 then _ else B_X12_kindWord_14 gm 0)
      rw [if_neg c2]
      exact FL_zz h.1
