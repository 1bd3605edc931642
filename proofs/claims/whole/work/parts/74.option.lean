/-! the option line, whole -/
theorem ct_r {k : Nat} (hk : k < 4) : ob_rR 17 35 (nI k) = some (36 + k) := (mk_c (b := 32) (Or.inr (Or.inl rfl)) hk).1
theorem ct_c {k : Nat} {α : Type} {x : Option α} (hk : k < 4) : ob_ck 1 (36 + k) x = x := pu_ck (ct_k hk)
theorem c_clearC {g : ob_St} {k : Nat} (hk : k < 4) : ∃ g', f_X1_clear g (36 + k) = some g' ∧ (∀ x, x ≠ 36 + k → g'.1 x = g.1 x) ∧ g'.2 = g.2 ∧ ∀ j, j < 10 → g'.1 (36 + k) j = cv j := by
  refine ⟨(ob_up (ob_up (ob_up (ob_up (ob_up (ob_up (ob_up (ob_up (ob_up (ob_up g.1 (36 + k) 0 0) (36 + k) 1 0) (36 + k) 2 (-1)) (36 + k) 3 13) (36 + k) 4 0) (36 + k) 5 (-1)) (36 + k) 6 (-1)) (36 + k) 7 0) (36 + k) 8 (-1)) (36 + k) 9 0, g.2), ?_, fun x hx => ?_, rfl, fun j hj => ?_⟩
  · unfold f_X1_clear
    rw [ct_p hk, Option.bind_some, ct_p hk, Option.bind_some, ct_p hk, Option.bind_some, ct_p hk, Option.bind_some, ct_p hk, Option.bind_some, ct_p hk, Option.bind_some, ct_p hk, Option.bind_some, ct_p hk, Option.bind_some, ct_p hk, Option.bind_some, ct_p hk, Option.bind_some]
  · show ob_up (ob_up (ob_up (ob_up (ob_up (ob_up (ob_up (ob_up (ob_up (ob_up g.1 (36 + k) 0 0) (36 + k) 1 0) (36 + k) 2 (-1)) (36 + k) 3 13) (36 + k) 4 0) (36 + k) 5 (-1)) (36 + k) 6 (-1)) (36 + k) 7 0) (36 + k) 8 (-1)) (36 + k) 9 0 x = _
    rw [pu_up_ne hx, pu_up_ne hx, pu_up_ne hx, pu_up_ne hx, pu_up_ne hx, pu_up_ne hx, pu_up_ne hx, pu_up_ne hx, pu_up_ne hx, pu_up_ne hx]
  · show ob_up (ob_up (ob_up (ob_up (ob_up (ob_up (ob_up (ob_up (ob_up (ob_up g.1 (36 + k) 0 0) (36 + k) 1 0) (36 + k) 2 (-1)) (36 + k) 3 13) (36 + k) 4 0) (36 + k) 5 (-1)) (36 + k) 6 (-1)) (36 + k) 7 0) (36 + k) 8 (-1)) (36 + k) 9 0 (36 + k) j = _
    rw [pu_up_eq, pu_up_eq, pu_up_eq, pu_up_eq, pu_up_eq, pu_up_eq, pu_up_eq, pu_up_eq, pu_up_eq, pu_up_eq]
    rcases (by omega : j = 0 ∨ j = 1 ∨ j = 2 ∨ j = 3 ∨ j = 4 ∨ j = 5 ∨ j = 6 ∨ j = 7 ∨ j = 8 ∨ j = 9) with rfl | rfl | rfl | rfl | rfl | rfl | rfl | rfl | rfl | rfl <;> rfl
theorem m_name {g : ob_St} {b : Nat → Int32} {q l k : Nat} {y : Int32} (hk : k < 4) (h14 : g.1 0 14 = nI l) (h7 : ∀ j, j < l → g.1 7 j = b (q + j)) (hl : l ≤ 8) (hb : ∀ j, j < l → vp_nar .byte (b (q + j)) = b (q + j)) : ∃ g', L_X12_optionLine_45 0 (nI k) y ob_FU g 0 = some g' ∧ (∀ x, x ≠ 8 → g'.1 x = g.1 x) ∧ g'.2 = g.2 ∧ (∀ x, (x < 8 * k ∨ 8 * k + 8 ≤ x) → g'.1 8 x = g.1 8 x) ∧ ∀ j, j < 8 → g'.1 8 (8 * k + j) = lx_pad b q l j := by
  obtain ⟨r, h1, h2⟩ := pu_up (fun f s i => L_X12_optionLine_45 0 (nI k) y f s (nI i)) (fun t s => (∀ x, x ≠ 8 → s.1 x = g.1 x) ∧ s.2 = g.2 ∧ (∀ x, (x < 8 * k ∨ 8 * k + 8 ≤ x) → s.1 8 x = g.1 8 x) ∧ ∀ j, j < t → s.1 8 (8 * k + j) = lx_pad b q l j) 8 (fun s => (∀ x, x ≠ 8 → s.1 x = g.1 x) ∧ s.2 = g.2 ∧ (∀ x, (x < 8 * k ∨ 8 * k + 8 ≤ x) → s.1 8 x = g.1 8 x) ∧ ∀ j, j < 8 → s.1 8 (8 * k + j) = lx_pad b q l j)
    (fun f s hI => ⟨s, by
      have h8 : (8 : Int32) ≤ nI 8 := nI_le (a := 8) (by omega) (by omega)
      show Lb_X12_optionLine_45 _ _ _ _ _ _ = _
      unfold Lb_X12_optionLine_45
      rw [if_pos h8], hI⟩)
    (fun f t s ht hI => by
      obtain ⟨a1, a2, a3, a4⟩ := hI
      have h8 : ¬ (8 : Int32) ≤ nI t := nI_ge (b := 8) ht (by omega)
      have nv : vp_nar .byte (lx_pad b q l t) = lx_pad b q l t := by
        unfold lx_pad
        by_cases c : t < l
        · rw [if_pos c]; exact hb t c
        · rw [if_neg c]; decide
      have e : Lb_X12_optionLine_45 (L_X12_optionLine_45 0 (nI k) y f) s 0 (nI k) y (nI t) = B_X12_optionLine_79 (L_X12_optionLine_45 0 (nI k) y f) s 0 (nI k) y (nI t) 8 (nI (8 * k + t)) (lx_pad b q l t) := by
        unfold Lb_X12_optionLine_45
        rw [if_neg h8, pu_mul, nI_add, ev_r0_18, Option.bind_some]
        exact m_pad (by rw [a1 0 (by omega)]; exact h14) (by rw [a1 7 (by omega)]; exact h7) hl ht (f := fun v => B_X12_optionLine_79 (L_X12_optionLine_45 0 (nI k) y f) s 0 (nI k) y (nI t) 8 (nI (8 * k + t)) v)
      refine ⟨(ob_up s.1 8 (8 * k + t) (lx_pad b q l t), s.2), ⟨fun x hx => (pu_up_ne hx).trans (a1 x hx), a2, fun x hx => (u_ne (by omega)).trans (a3 x hx), fun j hj => ?_⟩, ?_⟩
      · by_cases c : j = t
        · subst c; exact u_eq
        · exact (u_ne (by omega)).trans (a4 j (by omega))
      · show Lb_X12_optionLine_45 _ _ _ _ _ _ = _
        rw [e]
        unfold B_X12_optionLine_79
        rw [ev_w8 (by omega), Option.bind_some, nv, nI_1])
    8 0 ob_FU g (by omega) (by unfold ob_FU; omega) ⟨fun _ _ => rfl, rfl, fun _ _ => rfl, fun j hj => by omega⟩
  exact ⟨r, h1, h2⟩
theorem RS_br {c0 m0 : ob_St} {k : Nat} {Q Q' : ob_St → ob_St → Prop} {r rm : Option (Int32 × ob_St)} {KR : ob_St → Option (Int32 × ob_St)} {Km : Int32 × ob_St → Option (Int32 × ob_St)} (h : RS c0 m0 Q (r.bind (br_K k)) rm) (hk : ∀ gc gm, Q gc gm → RS c0 m0 Q' (KR gc) (Km (1, gm))) (hf : ∀ g, Km (0, g) = some (0, g)) :
    RS c0 m0 Q' (r.bind fun v11 => if v11.1 = 0 then some (0, v11.2) else (ob_ck 7 56 (f_X7_readRebate v11.2 56 (36 + k))).bind fun v12 => if v12.1 = 0 then some (0, v12.2) else KR v12.2) (rm.bind Km) := by
  have e : (r.bind fun v11 => if v11.1 = 0 then some (0, v11.2) else (ob_ck 7 56 (f_X7_readRebate v11.2 56 (36 + k))).bind fun v12 => if v12.1 = 0 then some (0, v12.2) else KR v12.2) = (r.bind (br_K k)).bind fun v12 => if v12.1 = 0 then some (0, v12.2) else KR v12.2 := by
    cases r with
    | none => rfl
    | some v =>
      unfold br_K
      rw [Option.bind_some, Option.bind_some]
      by_cases c : v.1 = 0
      · rw [if_pos c, if_pos c, Option.bind_some, if_pos rfl]
      · rw [if_neg c, if_neg c, ev_ck56]
  rw [e]
  refine RS_c h (fun gc gm q => ?_) (fun _ => rfl) hf
  dsimp only
  rw [if_neg one0]
  exact hk gc gm q
theorem ln_option {c0 m0 gc gm : ob_St} {b : Nat → Int32} {n m i : Nat} (h : LR c0 m0 b n m i gc gm) (hk0 : lx_k b n (lx_ps b n i) ≠ 0) : RS c0 m0 (LQ c0 m0 b n m i) (f_X7_readOption gc 56) (f_X12_line gm 0 19) := by
  obtain ⟨hB, hW, hM, hN⟩ := h
  obtain ⟨m1, m2, m3, m4, m5, m6⟩ := id hM
  have h4 := wf_4 hW
  have r29 : ∀ g : ob_St, ob_rI g 14 2 29 = some (g.1 2 29) := fun g => ev_l2 (i := 29) (by show 29 < 70; omega)
  have s29 := wf_29 hW
  generalize hk' : sN (gm.1 2) 29 = k at *
  unfold f_X7_readOption f_X12_line B_X12_line_17 B_X12_line_40 B_X12_line_69 B_X12_line_34
  rw [if_neg (show ¬ (19 : Int32) = 16 by decide), if_pos (show (19 : Int32) = 19 from rfl), ev_r56_0, Option.bind_some, ev_g32, Option.bind_some, m4, s29, ev_r0_2, Option.bind_some, Option.bind_some, r29, Option.bind_some, s29]
  by_cases c4 : k = 4
  · have c1 : ¬ nI k < 4 := nI_nlt (b := 4) (by omega) (by omega)
    have c2 : nI k = 4 := by rw [c4]; rfl
    rw [if_neg c1, if_pos c2]
    exact FL_zz hB
  · have hk : k < 4 := by omega
    have c1 : nI k < 4 := nI_lt (b := 4) hk (by omega)
    have c2 : ¬ nI k = 4 := fun z => c4 ((nI_eq (b := 4) (by omega) (by omega)).mp z)
    obtain ⟨gcA, a1, a2, a3, a4⟩ := c_clearC (g := gc) hk
    have BA : BR c0 m0 b n m i gcA gm := BR_c hB (fun x hx => a2 x (by omega)) (fun x _ => by rw [a3])
    obtain ⟨gc1, gm1, i1, e1, e2, B1, ⟨k1, k2, k3⟩, _, i1e, _, _⟩ := go_on BA
    have i1e := i1e hk0
    subst i1e
    have S1 : gm1.1 2 = gm.1 2 := k3 2 (by omega) (by omega)
    have x1 : ∀ x, x ≠ 36 + k → x ≠ 56 → gc1.1 x = gc.1 x := fun x a c => by rw [k1 x c, a2 x a]
    have M1 : c_M 32 (gm.1 2) gc1 := by
      refine ⟨by rw [x1 32 (by omega) (by omega)]; exact m1, by rw [x1 32 (by omega) (by omega)]; exact m2, by rw [x1 32 (by omega) (by omega)]; exact m3, by rw [x1 32 (by omega) (by omega)]; exact m4, fun t ht => ?_, fun q hq => c_C_cg (x1 _ (by omega) (by omega)) (fun _ _ => rfl) (m6 q (by rw [hk'] at hq; exact hq))⟩
      rw [x1 (32 + 1) (by omega) (by omega), x1 (32 + 2) (by omega) (by omega)]
      exact m5 t ht
    have N1 : nm_R b k gc1 gm1 := nm_R_fr (by rw [k2, a3]) (k3 8 (by omega) (by omega)) hN
    have cl1 : ∀ j, j < 10 → gc1.1 (36 + k) j = cv j := fun j hj => by rw [k1 _ (by omega)]; exact a4 j hj
    have n6 : gc1.1 32 6 = nI k := by rw [x1 32 (by omega) (by omega), m4, s29]
    have idx : (30 : Int32) + nI (10 * k) = nI (30 + 10 * k) := nI_add 30 (10 * k)
    rw [if_pos c1, if_neg c2, if_neg (show ¬ (19 : Int32) = 18 by decide), ev_r32_2, Option.bind_some, ct_r hk, Option.bind_some, a1, ct_c hk, Option.bind_some, e1, ev_ck56, Option.bind_some, e2, ev_ck0, Option.bind_some, if_neg (show ¬ (19 : Int32) = 15 by decide), if_neg (show ¬ (19 : Int32) = 16 by decide), if_neg (show ¬ (19 : Int32) = 18 by decide), ev_ck0]
    refine RS_zm ?_
    unfold f_X7_readNewName f_X12_optionLine
    have e4 : f_X7_isNext gc1 56 4 = some (bI (decide (lx_k b n (lx_ps b n (i + 1)) = 4))) := c_isNext B1.1 (k := 4) (by omega)
    rw [e4, ev_ck56, ev_ck56, Option.bind_some, ev_r0_2, Option.bind_some, r29, Option.bind_some, S1, s29, m_isName B1.1.2.2.2.2, ev_ck0, Option.bind_some]
    by_cases d4 : lx_k b n (lx_ps b n (i + 1)) = 4
    · obtain ⟨w, hv, l1, l2, r, r1, r2, r3⟩ := op_named (by omega) B1 n6 N1 d4
      rw [decide_eq_true d4, if_neg (show ¬ bI true = 0 by decide), if_neg (show ¬ bI true = 0 by decide), r1, r2, ev_ck56, ev_ck0, Option.bind_some, Option.bind_some]
      cases hr : r with
      | some o =>
        have ho := r3 o hr
        rw [if_neg (show ¬ (some o).elim (-1) nI = (-1 : Int32) from nI_m1 (by omega)), if_neg (show ¬ (some o).elim (-1) nI < (0 : Int32) from nI_pos (by omega))]
        exact RS_f (FL_zz B1) (fun _ => rfl)
      | none =>
        have hn5 := B1.1.2.2.2.1.2.2
        have wq : ∀ j, j < lx_l b n (lx_ps b n (i + 1)) → sk b n (lx_ps b n (i + 1)) + j < n := fun j hj => by
          have := re_le (b := b) (n := n) (sk_le (b := b) (lx_ps_le (b := b) (n := n) (i + 1))).2
          unfold lx_l at hj
          omega
        obtain ⟨gm2, f1, f2, f3, f4, f5⟩ := m_name (g := gm1) (b := b) (y := nI (30 + 10 * k)) hk l1 l2 w.1 (fun j hj => ((by_p (hn5 _ (wq j hj)).2).2.2.2.2.2 (tA_i.mpr (Or.inl (w.2.1 j hj)))).2.2.1)
        have B2 : BR c0 m0 b n m (i + 1) (gc1.1, ob_upL gc1.2 62 k (lx_h b (sk b n (lx_ps b n (i + 1))) (lx_l b n (lx_ps b n (i + 1))))) gm2 := BR_m (BR_c B1 (fun _ _ => rfl) (fun x hx => pu_upL_ne hx)) (fun x _ c => f2 x c) f3
        have O2 : OB c0 m0 b n m (gm.1 2) k (i + 1) (gc1.1, ob_upL gc1.2 62 k (lx_h b (sk b n (lx_ps b n (i + 1))) (lx_l b n (lx_ps b n (i + 1))))) gm2 := by
          refine ⟨B2, M1, fun j _ => by rw [f2 2 (by omega), S1], fun o ho => ?_⟩
          by_cases c : o = k
          · subst c
            refine ⟨_, _, w, ?_, f5⟩
            show ob_upL gc1.2 62 o _ 62 o = _
            rw [pu_upL_eq, pu_updL_eq]
          · obtain ⟨q', l', p1, p2, p3⟩ := N1 o (by omega)
            refine ⟨q', l', p1, ?_, fun j hj => by rw [f4 _ (by omega)]; exact p3 j hj⟩
            show ob_upL gc1.2 62 k _ 62 o = _
            rw [pu_upL_eq, pu_updL_ne c]
            exact p2
        obtain ⟨gc3, gm3, i3, g1, g2, O3, hi3, z1, z2⟩ := OB_go hk hk' O2
        have m1' : (none : Option Nat).elim (-1) nI = (-1 : Int32) := rfl
        rw [if_pos m1', if_pos (show (none : Option Nat).elim (-1) nI < (0 : Int32) by decide), ev_r56_4, Option.bind_some, ev_r56_3, Option.bind_some, ev_r57_2, Option.bind_some, ev_g56, Option.bind_some, B1.1.2.2.1, ev_a60 (TR_501 B1.1), Option.bind_some, hv, ev_w62 hk, Option.bind_some, g1, ev_ck56, Option.bind_some, Option.bind_some, pu_mul]
        dsimp only
        rw [if_neg one0]
        show RS c0 m0 _ _ ((L_X12_optionLine_45 0 (nI k) (30 + nI (10 * k)) ob_FU gm1 0).bind _)
        have idx' : (30 : Int32) + nI (OfNat.ofNat 10 * k) = nI (30 + 10 * k) := idx
        rw [idx', f1, Option.bind_some, g2, ev_ck0, Option.bind_some, ev_ck56, ev_ck0]
        refine RS_c (op_kind hk hW hk' O3 (fun j hj => by rw [z1]; exact cl1 j hj)) ?_ (fun _ => rfl) (fun _ => rfl)
        intro gc5 gm5 ⟨i5, hi5, O5, C5, W5⟩
        dsimp only
        rw [if_neg one0, if_neg one0, ev_ck56, ev_ck0]
        refine RS_c (op_when hk hk' O5 C5 W5) ?_ (fun _ => rfl) (fun _ => rfl)
        intro gc6 gm6 ⟨i6, hi6, O6, C6, W6, W6'⟩
        dsimp only
        rw [if_neg one0, if_neg one0, ev_ck56, ev_ck0]
        refine RS_br (KR := fun g => (ob_ck 7 56 (f_X7_readRecall g 56 (36 + k))).bind fun v13 => (if v13.1 = 0 then (some (0, v13.2)) else ((ob_gR 7 56 0).bind fun v14 => (ob_pI v13.2 5 v14 6 (nI k + 1)).bind fun g15 => some (1, g15)))) (op_barrier hk hk' O6 C6 ⟨W6, W6'⟩) ?_ (fun _ => rfl)
        intro gc7 gm7 ⟨i7, hi7, O7, C7, W7, W7'⟩
        dsimp only
        rw [if_neg one0]
        exact op_recall hk hW hk' (by omega) O7 C7 W7 W7'
    · rw [decide_eq_false d4, if_pos (show bI false = 0 from rfl), if_pos (show bI false = 0 from rfl)]
      exact RS_f (FL_zz B1) (fun _ => rfl)
