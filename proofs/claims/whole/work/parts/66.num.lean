/-! a number, read by both -/
theorem tc_t : ∀ k, k < 6 → (nI (tc k) = 2 ↔ k = 3) ∧ (nI (tc k) = 1 ↔ 4 ≤ k) ∧ (nI (tc k) = 0 ↔ k = 0) ∧ (nI (tc k) = 3 ↔ k = 2) := by decide +kernel
theorem tc_i {b : Nat → Int32} {n p : Nat} : (nI (tc (lx_k b n p)) = 2 ↔ lx_k b n p = 3) ∧ (nI (tc (lx_k b n p)) = 1 ↔ 4 ≤ lx_k b n p) ∧ (nI (tc (lx_k b n p)) = 0 ↔ lx_k b n p = 0) ∧ (nI (tc (lx_k b n p)) = 3 ↔ lx_k b n p = 2) := tc_t _ (by have := lx_k_le (b := b) (n := n) (p := p); omega)
theorem nI_L {a : Nat} (h : a < 2 ^ 31) : (nI a).toInt64 = lN a := by
  apply Int64.toInt_inj.mp
  rw [Int32.toInt_toInt64, nI_toInt h, pk_lT (by omega)]
theorem lN_I {a : Nat} (h : a < 2 ^ 31) : (lN a).toInt32 = nI a := by
  rw [← nI_L h, Int32.toInt32_toInt64]
def NQ (c0 m0 : ob_St) (b : Nat → Int32) (n m i a lo hi : Nat) (gc gm gc' gm' : ob_St) : Prop :=
  ∃ v, lo ≤ v ∧ v ≤ hi ∧ v ≤ 999 ∧ BR c0 m0 b n m (i + 1) gc' gm' ∧ gc'.1 56 6 = nI v ∧ gc'.1 56 7 = gm.1 0 11 ∧ (∀ x, x ≠ 56 → gc'.1 x = gc.1 x) ∧ gc'.2 = gc.2 ∧ gm'.1 2 = upd (gm.1 2) a (nI v) ∧ (∀ x, x ≠ 0 → x ≠ 2 → x ≠ 7 → gm'.1 x = gm.1 x)
theorem RN {c0 m0 gc gm : ob_St} {b : Nat → Int32} {n m i a lo hi : Nat} (h : BR c0 m0 b n m i gc gm) (ha : a < 70) (hlo : lo < 2 ^ 31) (hhi : hi < 2 ^ 31) : RS c0 m0 (NQ c0 m0 b n m i a lo hi gc gm) (f_X7_readNumber gc 56 (nI lo) (nI hi)) (f_X12_takes gm 0 (nI a) (nI lo) (nI hi)) := by
  obtain ⟨t, f1, f2, f3⟩ := id h
  obtain ⟨t1, t2, t3, t4, t5⟩ := id t
  have h5 := TR_501 t
  have e3 : f_X7_isNext gc 56 3 = some (bI (decide (lx_k b n (lx_ps b n i) = 3))) := c_isNext t (k := 3) (by omega)
  unfold f_X7_readNumber f_X12_takes
  rw [e3, ev_g0, Option.bind_some, t5.2.2.1]
  by_cases c : lx_k b n (lx_ps b n i) = 3
  · obtain ⟨v, v1, v2, v3⟩ := lx_k3 c
    have hv := (t1.2.2.1 i (TR_lt t (by omega))).2 (by omega)
    rw [v2] at hv
    have h13 := t5.2.2.2.1 c
    rw [v3] at h13
    rw [decide_eq_true c, ev_ck56, Option.bind_some, if_neg (show ¬ bI true = 0 by decide), if_pos (tc_i.1.mpr c), ev_g0, Option.bind_some, h13, ev_r56_3, Option.bind_some, ev_r57_2, Option.bind_some, ev_g56, Option.bind_some, t3, ev_a60 h5, Option.bind_some, hv, nI_L hlo, nI_L hhi]
    by_cases d1 : v < lo
    · have i0 : f_X12_isIn (nI v) (nI lo) (nI hi) = some 0 := by unfold f_X12_isIn; rw [if_pos (nI_lt d1 hlo)]
      rw [if_pos ((pk_lLT (by omega) (by omega)).mpr d1), i0, Option.bind_some, if_pos rfl]
      exact FL_zz h
    · rw [if_neg (fun z => d1 ((pk_lLT (by omega) (by omega)).mp z)), Option.bind_some, ev_r57_2, Option.bind_some, Option.bind_some, ev_a60 h5, Option.bind_some, hv]
      by_cases d2 : hi < v
      · have i0 : f_X12_isIn (nI v) (nI lo) (nI hi) = some 0 := by unfold f_X12_isIn; rw [if_neg (nI_nlt (by omega) (by omega)), if_pos (nI_lt d2 (by omega))]
        rw [if_neg (by rw [nu_le, pk_lT (by omega), pk_lT (by omega)]; omega), i0, Option.bind_some, if_pos rfl]
        exact FL_zz h
      · have i1 : f_X12_isIn (nI v) (nI lo) (nI hi) = some 1 := by unfold f_X12_isIn; rw [if_neg (nI_nlt (by omega) (by omega)), if_neg (nI_nlt (by omega) (by omega))]
        rw [if_pos (by rw [nu_le, pk_lT (by omega), pk_lT (by omega)]; omega), i1, Option.bind_some, ev_r57_2, Option.bind_some, Option.bind_some, ev_a60 h5, Option.bind_some, hv, lN_I (by omega), ev_p56, Option.bind_some, Option.bind_some, ev_r57_1, Option.bind_some, ev_g56, Option.bind_some]
        have h565 : ob_up gc.1 56 6 (nI v) 56 5 = nI i := by rw [pu_up_eq, pu_upd_ne (by omega), t3]
        show RS c0 m0 _ ((ob_rI (ob_up gc.1 56 6 (nI v), gc.2) 14 59 (ob_up gc.1 56 6 (nI v) 56 5)).bind _) _
        rw [h565, ev_a59 h5, Option.bind_some]
        show RS c0 m0 _ ((ob_pI (ob_up gc.1 56 6 (nI v), gc.2) 7 56 7 (ob_up gc.1 56 6 (nI v) 59 i)).bind _) _
        rw [pu_up_ne (show (59 : Nat) ≠ 56 by omega), (t1.2.1 i t2).2, ← t5.2.1, ev_p56, Option.bind_some, Option.bind_some, if_neg (show ¬ (1 : Int32) = 0 by decide), ev_r0_2, Option.bind_some, Option.bind_some, ev_w2 ha, Option.bind_some]
        show RS c0 m0 _ ((ob_ck 7 56 (f_X7_pass (ob_up (ob_up gc.1 56 6 (nI v)) 56 7 (gm.1 0 11), gc.2) 56)).bind _) _
        generalize hgc1 : ((ob_up (ob_up gc.1 56 6 (nI v)) 56 7 (gm.1 0 11), gc.2) : ob_St) = gc1
        generalize hgm1 : ((ob_up gm.1 2 a (nI v), gm.2) : ob_St) = gm1
        have q1 : ∀ x, x ≠ 56 → gc1.1 x = gc.1 x := fun x hx => by rw [← hgc1]; exact (pu_up_ne hx).trans (pu_up_ne hx)
        have q2 : ∀ j, j ≠ 6 → j ≠ 7 → gc1.1 56 j = gc.1 56 j := fun j x y => by
          rw [← hgc1]
          show ob_up (ob_up gc.1 56 6 (nI v)) 56 7 (gm.1 0 11) 56 j = _
          rw [pu_up_eq, pu_upd_ne y, pu_up_eq, pu_upd_ne x]
        have q6 : gc1.1 56 6 = nI v := by
          rw [← hgc1]
          show ob_up (ob_up gc.1 56 6 (nI v)) 56 7 (gm.1 0 11) 56 6 = _
          rw [pu_up_eq, pu_upd_ne (by omega), pu_up_eq, pu_upd_eq]
        have q7 : gc1.1 56 7 = gm.1 0 11 := by
          rw [← hgc1]
          show ob_up (ob_up gc.1 56 6 (nI v)) 56 7 (gm.1 0 11) 56 7 = _
          rw [pu_up_eq, pu_upd_eq]
        have q8 : gc1.2 = gc.2 := by rw [← hgc1]
        have r1 : ∀ x, x ≠ 2 → gm1.1 x = gm.1 x := fun x hx => by rw [← hgm1]; exact pu_up_ne hx
        have r2 : gm1.2 = gm.2 := by rw [← hgm1]
        have r3 : gm1.1 2 = upd (gm.1 2) a (nI v) := by rw [← hgm1]; show ob_up gm.1 2 a (nI v) 2 = _; rw [pu_up_eq]
        have hB : BR c0 m0 b n m i gc1 gm := ⟨⟨c_Tk_fr (q1 58 (by omega)) (q1 59 (by omega)) (by rw [q8]) t1, t2, by rw [q2 5 (by omega) (by omega)]; exact t3, t4, t5⟩, ⟨fun x y z => by rw [q1 x y]; exact f1.1 x y z, fun x y => by rw [q8]; exact f1.2 x y⟩, f2, by rw [q2 1 (by omega) (by omega)]; exact f3⟩
        obtain ⟨gc', gm', i', e1, e2, e4, ⟨k1, k2, k3⟩, e5, e6, e7, e8⟩ := go_on (BR_m hB (fun x y _ => r1 x y) r2)
        have e6 := e6 (by omega)
        subst e6
        rw [e1, ev_ck56, Option.bind_some, e2, ev_ck0, Option.bind_some]
        refine RS_ok ⟨v, by omega, by omega, v1, e4, e7.trans q6, e8.trans q7, fun x hx => (k1 x hx).trans (q1 x hx), k2.trans q8, ?_, fun x a c d => (k3 x a d).trans (r1 x c)⟩
        rw [k3 2 (by omega) (by omega), r3]
  · rw [decide_eq_false c, ev_ck56, Option.bind_some, if_pos (show bI false = 0 by decide), if_neg (fun z => c (tc_i.1.mp z))]
    exact FL_zz h
