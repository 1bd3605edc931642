/-! line after line -/
theorem RS_zz {c0 m0 : ob_St} {Q : ob_St → ob_St → Prop} {rc rm : Option (Int32 × ob_St)} (h : RS c0 m0 Q rc rm) : RS c0 m0 Q ((ob_ck 7 56 rc).bind fun v => (ob_zr v.1).bind fun z => some (z, v.2)) rm := by
  rw [ev_ck56]
  exact RS_zc h
theorem rl_ok {c0 m0 gc gm : ob_St} {b : Nat → Int32} {n m i k : Nat} {x : Int32} (h : LR c0 m0 b n m i gc gm) (hq : kq b n (lx_ps b n i) = some k) (hk : (k = 15 ∧ x = 1 ∧ sN (gm.1 2) 2 = 0) ∨ k = 16 ∨ k = 18 ∨ k = 19) : RS c0 m0 (LQ c0 m0 b n m i) (f_X7_readLine gc 56 x) (f_X12_line gm 0 (nI k)) := by
  have t := h.1.1
  have k0 : lx_k b n (lx_ps b n i) ≠ 0 := by rw [(kq_lt hq).2.1]; omega
  have key : ∀ k', k' < 20 → f_X7_isKeyword gc 56 (nI (kw_s k')) = some (if k = k' then 1 else 0) := fun k' hk' => by
    rw [c_isKeyword t hk', hq]
    by_cases c : k = k'
    · rw [if_pos c, decide_eq_true (by rw [c])]; rfl
    · rw [if_neg c, decide_eq_false (fun z => c (by cases z; rfl))]; rfl
  have e6 : f_X7_isKeyword gc 56 6 = some (if k = 15 then 1 else 0) := key 15 (by omega)
  have e7 : f_X7_isKeyword gc 56 7 = some (if k = 16 then 1 else 0) := key 16 (by omega)
  have e8 : f_X7_isKeyword gc 56 8 = some (if k = 18 then 1 else 0) := key 18 (by omega)
  have e9 : f_X7_isKeyword gc 56 9 = some (if k = 19 then 1 else 0) := key 19 (by omega)
  have B : k = 16 ∨ k = 18 ∨ k = 19 → RS c0 m0 (LQ c0 m0 b n m i) (B_X7_readLine_18 gc 56) (f_X12_line gm 0 (nI k)) := by
    intro hk
    unfold B_X7_readLine_18
    rw [e7, e8, e9, ev_ck56, Option.bind_some]
    rcases hk with rfl | rfl | rfl
    · exact RS_zz (ln_step h k0)
    · exact RS_zz (ln_cash h k0)
    · exact RS_zz (ln_option h k0)
  unfold f_X7_readLine
  rcases hk with ⟨rfl, rfl, h2⟩ | hk
  · rw [if_neg one0, e6, ev_ck56, Option.bind_some]
    exact RS_zz (ln_stock h k0 h2)
  · by_cases c : x = 0
    · rw [if_pos c]; exact B hk
    · rw [if_neg c, e6, ev_ck56, Option.bind_some, if_neg (show ¬ k = 15 by omega), if_pos rfl]
      exact B hk
theorem rl_no {c0 m0 gc gm : ob_St} {b : Nat → Int32} {n m i : Nat} {x : Int32} (h : BR c0 m0 b n m i gc gm) (hx : x = 0 ∨ ¬ kq b n (lx_ps b n i) = some 15) (h16 : ¬ kq b n (lx_ps b n i) = some 16) (h18 : ¬ kq b n (lx_ps b n i) = some 18) (h19 : ¬ kq b n (lx_ps b n i) = some 19) : f_X7_readLine gc 56 x = (ob_ck 7 56 (f_X7_fails gc 56 1)).bind fun v4 => (ob_zr v4.1).bind fun z5 => some (z5, v4.2) := by
  have t := h.1
  have e7 : f_X7_isKeyword gc 56 7 = some 0 := by
    have : f_X7_isKeyword gc 56 7 = _ := c_isKeyword t (k := 16) (by omega)
    rw [this, decide_eq_false h16]; rfl
  have e8 : f_X7_isKeyword gc 56 8 = some 0 := by
    have : f_X7_isKeyword gc 56 8 = _ := c_isKeyword t (k := 18) (by omega)
    rw [this, decide_eq_false h18]; rfl
  have e9 : f_X7_isKeyword gc 56 9 = some 0 := by
    have : f_X7_isKeyword gc 56 9 = _ := c_isKeyword t (k := 19) (by omega)
    rw [this, decide_eq_false h19]; rfl
  have B : B_X7_readLine_18 gc 56 = (ob_ck 7 56 (f_X7_fails gc 56 1)).bind fun v4 => (ob_zr v4.1).bind fun z5 => some (z5, v4.2) := by
    unfold B_X7_readLine_18
    rw [e7, e8, e9, ev_ck56, Option.bind_some, if_pos rfl, ev_ck56, Option.bind_some, if_pos rfl, ev_ck56, Option.bind_some, if_pos rfl]
  unfold f_X7_readLine
  by_cases c : x = 0
  · rw [if_pos c, B]
  · have e6 : f_X7_isKeyword gc 56 6 = some 0 := by
      have : f_X7_isKeyword gc 56 6 = _ := c_isKeyword t (k := 15) (by omega)
      rw [this, decide_eq_false (hx.resolve_left c)]; rfl
    rw [if_neg c, e6, ev_ck56, Option.bind_some, if_pos rfl, B]
def rd_C : (ob_St) ⊕ ((ob_St) ⊕ (ob_St)) → Option (Int32 × ob_St) := Sum.elim (fun y_13 => some (0, y_13)) (Sum.elim (fun y_14 => (ob_ck 7 56 (f_X7_fails y_14 56 1)).bind fun v15 => (ob_zr v15.1).bind fun z16 => some (z16, v15.2)) (fun y_17 => some (1, y_17)))
def rd_M : (ob_St) ⊕ ((ob_St) ⊕ ((ob_St) ⊕ (ob_St))) → Option (Int32 × ob_St) := Sum.elim (fun y_12 => (ob_ck 12 0 (f_X12_badHere y_12 0 1)).bind fun v13 => (ob_zr v13.1).bind fun z14 => some (z14, v13.2)) (Sum.elim (fun y_15 => some (0, y_15)) (Sum.elim (fun y_16 => (ob_ck 12 0 (f_X12_badHere y_16 0 1)).bind fun v17 => (ob_zr v17.1).bind fun z18 => some (z18, v17.2)) (fun y_19 => some (1, y_19))))
def RQ (c0 m0 : ob_St) (b : Nat → Int32) (n m : Nat) (gc gm : ob_St) : Prop := ∃ i, LR c0 m0 b n m i gc gm
theorem rd_loop {c0 m0 : ob_St} {b : Nat → Int32} {n m : Nat} : ∀ d i x2 fc fm gc gm, i + d = m + 1 → d < fc + 1 → d < fm + 1 → LR c0 m0 b n m i gc gm → x2 ≤ i → (x2 = 0 → sN (gm.1 2) 2 = 0) → RS c0 m0 (RQ c0 m0 b n m) ((L_X7_readText_48 56 (nI n) fc gc (nI x2)).bind rd_C) ((L_X12_reads_37 0 fm gm (if x2 = 0 then 1 else 0)).bind rd_M) := by
  intro d
  induction d using Nat.strongRecOn with
  | _ d ih =>
    intro i x2 fc fm gc gm hd hfc hfm hL hx h2
    have t := hL.1.1
    have him := t.2.1
    have hmn := t.1.1
    obtain ⟨f, rfl⟩ : ∃ f, fc = f + 1 := ⟨fc - 1, by omega⟩
    obtain ⟨f', rfl⟩ : ∃ f', fm = f' + 1 := ⟨fm - 1, by omega⟩
    have e0 : f_X7_isNext gc 56 0 = some (bI (decide (lx_k b n (lx_ps b n i) = 0))) := c_isNext t (k := 0) (by omega)
    show RS c0 m0 _ ((Lb_X7_readText_48 (L_X7_readText_48 56 (nI n) f) gc 56 (nI n) (nI x2)).bind rd_C) ((Lb_X12_reads_37 (L_X12_reads_37 0 f') gm 0 (if x2 = 0 then 1 else 0)).bind rd_M)
    unfold Lb_X7_readText_48 Lb_X12_reads_37
    rw [e0, ev_ck56, Option.bind_some, ev_g0, Option.bind_some, t.2.2.2.2.2.2.1]
    by_cases c0' : lx_k b n (lx_ps b n i) = 0
    · rw [decide_eq_true c0', if_neg (show ¬ bI true = 0 by decide), if_pos (tc_i.2.2.1.mpr c0')]
      exact RS_ok ⟨i, hL⟩
    · rw [decide_eq_false c0', if_pos (show bI false = 0 from rfl), if_neg (fun z => c0' (tc_i.2.2.1.mp z)), if_neg (nI_nlt (by omega) (by omega)), m_known t.2.2.2.2, ev_ck0, Option.bind_some]
      -- a line that is read
      have go : ∀ k x, kq b n (lx_ps b n i) = some k → ((k = 15 ∧ x = 1 ∧ sN (gm.1 2) 2 = 0) ∨ k = 16 ∨ k = 18 ∨ k = 19) → RS c0 m0 (RQ c0 m0 b n m) ((B_X7_readText_71 (L_X7_readText_48 56 (nI n) f) gc 56 (nI n) (nI x2) 56 x).bind rd_C) ((B_X12_reads_83 (L_X12_reads_37 0 f') gm 0 (nI k)).bind rd_M) := by
        intro k x hq hk
        unfold B_X7_readText_71 B_X12_reads_83
        rw [ev_ck56, ev_ck0]
        rcases rl_ok hL hq hk with ⟨gc1, gm1, e1, e2, i1, hi1, L1⟩ | ⟨gc1, gm1, e1, e2, q⟩
        · have t1 := L1.1.1
          have e3 : f_X7_isNext gc1 56 2 = some (bI (decide (lx_k b n (lx_ps b n i1) = 2))) := c_isNext t1 (k := 2) (by omega)
          rw [e1, e2, Option.bind_some, Option.bind_some]
          dsimp only
          rw [if_neg one0, if_neg one0, e3, ev_ck56, Option.bind_some, ev_g0, Option.bind_some, t1.2.2.2.2.2.2.1]
          by_cases c2 : lx_k b n (lx_ps b n i1) = 2
          · obtain ⟨gc2, gm2, i2, g1, g2, B2, ⟨k1, k2, k3⟩, _, i2e, _, _⟩ := go_on L1.1
            have i2e := i2e (by omega)
            subst i2e
            have s2 : gm2.1 2 = gm1.1 2 := k3 2 (by omega) (by omega)
            have him2 := B2.1.2.1
            rw [decide_eq_true c2, if_neg (show ¬ bI true = 0 by decide), if_pos (tc_i.2.2.2.mpr c2), g1, ev_ck56, Option.bind_some, g2, ev_ck0, Option.bind_some, nI_1]
            have := ih (m + 1 - (i1 + 1)) (by omega) (i1 + 1) (x2 + 1) f f' gc2 gm2 (by omega) (by omega) (by omega) ⟨B2, by rw [s2]; exact L1.2.1, by rw [s2]; exact c_M_fr (wf_4 L1.2.1) (fun x a c => k1 x (by omega)) L1.2.2.1, by rw [s2]; exact nm_R_fr (by rw [k2]) (k3 8 (by omega) (by omega)) L1.2.2.2⟩ (by omega) (fun z => by omega)
            rw [if_neg (show ¬ x2 + 1 = 0 by omega)] at this
            exact this
          · rw [decide_eq_false c2, if_pos (show bI false = 0 from rfl), if_neg (fun z => c2 (tc_i.2.2.2.mp z))]
            exact FL_zz L1.1
        · rw [e1, e2]
          exact Or.inr ⟨gc1, gm1, rfl, rfl, q⟩
      have no : ∀ x, (x = 0 ∨ ¬ kq b n (lx_ps b n i) = some 15) → ¬ kq b n (lx_ps b n i) = some 16 → ¬ kq b n (lx_ps b n i) = some 18 → ¬ kq b n (lx_ps b n i) = some 19 → RS c0 m0 (RQ c0 m0 b n m) ((B_X7_readText_71 (L_X7_readText_48 56 (nI n) f) gc 56 (nI n) (nI x2) 56 x).bind rd_C) ((some (.inl gm)).bind rd_M) := by
        intro x hx h16 h18 h19
        unfold B_X7_readText_71
        rw [rl_no hL.1 hx h16 h18 h19, ev_ck56]
        rcases FL_zz (Q := fun _ _ => False) (x := 1) hL.1 with ⟨gc1, gm1, e1, e2, q⟩ | ⟨gc1, gm1, e1, e2, q⟩
        · exact q.elim
        · rw [e1]
          exact Or.inr ⟨gc1, gm1, rfl, e2, q⟩
      have kx : ∀ k, k < 20 → ((kq b n (lx_ps b n i)).elim (-1) nI = nI k ↔ kq b n (lx_ps b n i) = some k) := fun k hk => kn_eq hk
      by_cases d16 : kq b n (lx_ps b n i) = some 16
      · have k16 : (kq b n (lx_ps b n i)).elim (-1) nI = 16 := (kx 16 (by omega)).mpr d16
        rw [if_pos k16, k16]
        by_cases cx : x2 = 0
        · rw [if_pos (show nI x2 = 0 by rw [cx]; rfl)]
          exact go 16 1 d16 (Or.inr (Or.inl rfl))
        · rw [if_neg (nI_ne0 (by omega) (by omega))]
          exact go 16 0 d16 (Or.inr (Or.inl rfl))
      · have k16 : ¬ (kq b n (lx_ps b n i)).elim (-1) nI = 16 := fun z => d16 ((kx 16 (by omega)).mp z)
        rw [if_neg k16]
        by_cases d18 : kq b n (lx_ps b n i) = some 18
        · have k18 : (kq b n (lx_ps b n i)).elim (-1) nI = 18 := (kx 18 (by omega)).mpr d18
          rw [if_pos k18, k18]
          by_cases cx : x2 = 0
          · rw [if_pos (show nI x2 = 0 by rw [cx]; rfl)]
            exact go 18 1 d18 (Or.inr (Or.inr (Or.inl rfl)))
          · rw [if_neg (nI_ne0 (by omega) (by omega))]
            exact go 18 0 d18 (Or.inr (Or.inr (Or.inl rfl)))
        · have k18 : ¬ (kq b n (lx_ps b n i)).elim (-1) nI = 18 := fun z => d18 ((kx 18 (by omega)).mp z)
          rw [if_neg k18]
          by_cases d19 : kq b n (lx_ps b n i) = some 19
          · have k19 : (kq b n (lx_ps b n i)).elim (-1) nI = 19 := (kx 19 (by omega)).mpr d19
            rw [if_pos k19, k19]
            by_cases cx : x2 = 0
            · rw [if_pos (show nI x2 = 0 by rw [cx]; rfl)]
              exact go 19 1 d19 (Or.inr (Or.inr (Or.inr rfl)))
            · rw [if_neg (nI_ne0 (by omega) (by omega))]
              exact go 19 0 d19 (Or.inr (Or.inr (Or.inr rfl)))
          · have k19 : ¬ (kq b n (lx_ps b n i)).elim (-1) nI = 19 := fun z => d19 ((kx 19 (by omega)).mp z)
            rw [if_neg k19]
            by_cases d15 : kq b n (lx_ps b n i) = some 15
            · have k15 : (kq b n (lx_ps b n i)).elim (-1) nI = 15 := (kx 15 (by omega)).mpr d15
              rw [if_pos k15, k15]
              by_cases cx : x2 = 0
              · rw [if_pos (show nI x2 = 0 by rw [cx]; rfl), if_pos cx, if_neg one0]
                exact go 15 1 d15 (Or.inl ⟨rfl, rfl, h2 cx⟩)
              · rw [if_neg (nI_ne0 (by omega) (by omega)), if_neg cx, if_pos rfl]
                exact no 0 (Or.inl rfl) d16 d18 d19
            · have k15 : ¬ (kq b n (lx_ps b n i)).elim (-1) nI = 15 := fun z => d15 ((kx 15 (by omega)).mp z)
              rw [if_neg k15]
              by_cases cx : x2 = 0
              · rw [if_pos (show nI x2 = 0 by rw [cx]; rfl)]
                exact no 1 (Or.inr d15) d16 d18 d19
              · rw [if_neg (nI_ne0 (by omega) (by omega))]
                exact no 0 (Or.inl rfl) d16 d18 d19
