/-! the option line -/
def OB (c0 m0 : ob_St) (b : Nat → Int32) (n m : Nat) (S : Nat → Int32) (k i : Nat) (gc gm : ob_St) : Prop := BR c0 m0 b n m i gc gm ∧ c_M 32 S gc ∧ (∀ j, j < 30 + 10 * k → gm.1 2 j = S j) ∧ nm_R b (k + 1) gc gm
def c_fx (j : Nat) (x : Int32) : Int32 := if j = 3 then c_fr x else x
def cv (j : Nat) : Int32 := if j = 2 ∨ j = 5 ∨ j = 6 ∨ j = 8 then -1 else if j = 3 then 13 else 0
def CF (k J : Nat) (gc gm : ob_St) : Prop := (∀ j, j < J → gc.1 (36 + k) j = c_fx j (gm.1 2 (30 + 10 * k + j))) ∧ ∀ j, J ≤ j → j < 10 → gc.1 (36 + k) j = cv j
def W3 (k : Nat) (T : Nat → Int32) : Prop := ∃ x0 x1, T (30 + 10 * k + 0) = nI x0 ∧ T (30 + 10 * k + 1) = nI x1 ∧ x0 ≤ 5 ∧ x1 ≤ 999 ∧ (x0 = 5 → ∃ x2, T (30 + 10 * k + 2) = nI x2 ∧ x2 < k) ∧ (x0 = 2 → ∃ x2, T (30 + 10 * k + 2) = nI x2 ∧ 1 ≤ x2 ∧ x2 ≤ 99) ∧ (x0 = 3 → ∃ x2, T (30 + 10 * k + 2) = nI x2 ∧ x1 < x2 ∧ x2 ≤ 999)
def W4 (k : Nat) (T : Nat → Int32) : Prop := ∃ x, T (30 + 10 * k + 3) = nI x ∧ (x ≤ 12 ∨ x = 99)
def W8 (k : Nat) (T : Nat → Int32) : Prop := ∃ x4 x7, T (30 + 10 * k + 4) = nI x4 ∧ x4 ≤ 2 ∧ (x4 ≠ 0 → ∃ x5 x6, T (30 + 10 * k + 5) = nI x5 ∧ x5 ≤ 1 ∧ T (30 + 10 * k + 6) = nI x6 ∧ x6 ≤ 999) ∧ T (30 + 10 * k + 7) = nI x7 ∧ x7 ≤ 99
theorem W3_fr {k : Nat} {T T' : Nat → Int32} (e : ∀ j, j < 3 → T' (30 + 10 * k + j) = T (30 + 10 * k + j)) (h : W3 k T) : W3 k T' := by
  unfold W3 at h ⊢
  rw [e 0 (by omega), e 1 (by omega), e 2 (by omega)]
  exact h
theorem W4_fr {k : Nat} {T T' : Nat → Int32} (e : T' (30 + 10 * k + 3) = T (30 + 10 * k + 3)) (h : W4 k T) : W4 k T' := by
  unfold W4 at h ⊢
  rw [e]
  exact h
theorem W8_fr {k : Nat} {T T' : Nat → Int32} (e : ∀ j, 4 ≤ j → j < 8 → T' (30 + 10 * k + j) = T (30 + 10 * k + j)) (h : W8 k T) : W8 k T' := by
  unfold W8 at h ⊢
  rw [e 4 (by omega) (by omega), e 5 (by omega) (by omega), e 6 (by omega) (by omega), e 7 (by omega) (by omega)]
  exact h
theorem ct_k {k : Nat} (hk : k < 4) : ob_kd (36 + k) = 1 := (mk_c (b := 32) (Or.inr (Or.inl rfl)) hk).2
theorem ct_g {g : ob_St} {k f : Nat} (hk : k < 4) : ob_gI g 1 (36 + k) f = some (g.1 (36 + k) f) := pu_gI (ct_k hk)
theorem ct_p {g : ob_St} {k f : Nat} {v : Int32} (hk : k < 4) : ob_pI g 1 (36 + k) f v = some (ob_up g.1 (36 + k) f v, g.2) := pu_pI (ct_k hk)
theorem OB_c {c0 m0 gc gm : ob_St} {b : Nat → Int32} {n m k i f : Nat} {S : Nat → Int32} {v : Int32} (hk : k < 4) (h29 : sN S 29 = k) (h : OB c0 m0 b n m S k i gc gm) : OB c0 m0 b n m S k i (ob_up gc.1 (36 + k) f v, gc.2) gm := by
  obtain ⟨h1, h2, h3, h4⟩ := h
  refine ⟨BR_c h1 (fun x hx => pu_up_ne (by omega)) (fun _ _ => rfl), ?_, h3, nm_R_fr rfl rfl h4⟩
  obtain ⟨m1, m2, m3, m4, m5, m6⟩ := h2
  have er : ∀ x, x ≠ 36 + k → ob_up gc.1 (36 + k) f v x = gc.1 x := fun x hx => pu_up_ne hx
  refine ⟨?_, ?_, ?_, ?_, fun t ht => ?_, fun q hq => c_C_cg (er _ (by omega)) (fun _ _ => rfl) (m6 q hq)⟩
  · show ob_up gc.1 (36 + k) f v 32 3 = _; rw [er 32 (by omega)]; exact m1
  · show ob_up gc.1 (36 + k) f v 32 4 = _; rw [er 32 (by omega)]; exact m2
  · show ob_up gc.1 (36 + k) f v 32 5 = _; rw [er 32 (by omega)]; exact m3
  · show ob_up gc.1 (36 + k) f v 32 6 = _; rw [er 32 (by omega)]; exact m4
  · show ob_up gc.1 (36 + k) f v 33 t = _ ∧ ob_up gc.1 (36 + k) f v 34 t = _
    rw [er 33 (by omega), er 34 (by omega)]; exact m5 t ht
theorem OB_m {c0 m0 gc gm : ob_St} {b : Nat → Int32} {n m k i j : Nat} {S : Nat → Int32} {v : Int32} (h : OB c0 m0 b n m S k i gc gm) : OB c0 m0 b n m S k i gc (ob_up gm.1 2 (30 + 10 * k + j) v, gm.2) := by
  obtain ⟨h1, h2, h3, h4⟩ := h
  refine ⟨BR_m h1 (fun x hx _ => pu_up_ne hx) rfl, h2, fun j' hj => ?_, nm_R_fr rfl (by show ob_up gm.1 2 (30 + 10 * k + j) v 8 = _; rw [pu_up_ne (by omega)]) h4⟩
  show ob_up gm.1 2 (30 + 10 * k + j) v 2 j' = _
  rw [pu_up_eq, pu_upd_ne (by omega)]
  exact h3 j' hj
theorem OB_go {c0 m0 gc gm : ob_St} {b : Nat → Int32} {n m k i : Nat} {S : Nat → Int32} (hk : k < 4) (h29 : sN S 29 = k) (h : OB c0 m0 b n m S k i gc gm) : ∃ gc' gm' i', f_X7_pass gc 56 = some gc' ∧ f_X12_next gm 0 = some gm' ∧ OB c0 m0 b n m S k i' gc' gm' ∧ i ≤ i' ∧ gc'.1 (36 + k) = gc.1 (36 + k) ∧ gm'.1 2 = gm.1 2 := by
  obtain ⟨h1, h2, h3, h4⟩ := h
  obtain ⟨gc', gm', i', e1, e2, B1, ⟨k1, k2, k3⟩, hi, _⟩ := go_on h1
  refine ⟨gc', gm', i', e1, e2, ⟨B1, c_M_fr (by omega) (fun x a c => k1 x (by omega)) h2, fun j hj => ?_, nm_R_fr (by rw [k2]) (k3 8 (by omega) (by omega)) h4⟩, hi, k1 _ (by omega), k3 2 (by omega) (by omega)⟩
  rw [k3 2 (by omega) (by omega)]
  exact h3 j hj
def ON (c0 m0 : ob_St) (b : Nat → Int32) (n m : Nat) (S : Nat → Int32) (k i j lo hi : Nat) (gc gm gc' gm' : ob_St) : Prop := ∃ v, lo ≤ v ∧ v ≤ hi ∧ v ≤ 999 ∧ OB c0 m0 b n m S k (i + 1) gc' gm' ∧ gc'.1 56 6 = nI v ∧ gc'.1 (36 + k) = gc.1 (36 + k) ∧ gm'.1 2 = upd (gm.1 2) (30 + 10 * k + j) (nI v)
theorem OB_num {c0 m0 gc gm : ob_St} {b : Nat → Int32} {n m k i j lo hi : Nat} {S : Nat → Int32} (hk : k < 4) (h29 : sN S 29 = k) (hj : j < 10) (hlo : lo < 2 ^ 31) (hhi : hi < 2 ^ 31) (h : OB c0 m0 b n m S k i gc gm) : RS c0 m0 (ON c0 m0 b n m S k i j lo hi gc gm) (f_X7_readNumber gc 56 (nI lo) (nI hi)) (f_X12_takes gm 0 (nI (30 + 10 * k + j)) (nI lo) (nI hi)) := by
  obtain ⟨h1, h2, h3, h4⟩ := h
  refine RS_im (RN (a := 30 + 10 * k + j) h1 (by omega) hlo hhi) ?_
  intro gc' gm' ⟨v, v1, v2, v3, B, v6, _, kc, kc2, km2, km⟩
  refine ⟨v, v1, v2, v3, ⟨B, c_M_fr (by omega) (fun x a c => kc x (by omega)) h2, fun j' hj' => ?_, nm_R_fr (by rw [kc2]) (km 8 (by omega) (by omega) (by omega)) h4⟩, v6, kc _ (by omega), km2⟩
  rw [km2, pu_upd_ne (by omega)]
  exact h3 j' hj'
theorem op_142 {c0 m0 : ob_St} {k : Nat} {Q Q' : ob_St → ob_St → Prop} {rc rm : Option (Int32 × ob_St)} (hk : k < 4) (h : RS c0 m0 Q rc rm) (hq : ∀ gc gm, Q gc gm → Q' (ob_up gc.1 (36 + k) 2 (gc.1 56 6), gc.2) gm) : RS c0 m0 Q' (rc.bind fun v => B_X7_readKind_142 v.2 56 (36 + k) v.1) rm := by
  have e : ∀ g x, (x = 0 ∨ x = 1) → B_X7_readKind_142 g 56 (36 + k) x = some (x, (ob_up g.1 (36 + k) 2 (g.1 56 6), g.2)) := fun g x hx => by
    unfold B_X7_readKind_142
    rw [ev_g56, Option.bind_some, ct_p hk, Option.bind_some, pu_zr hx, Option.bind_some]
  rcases h with ⟨gc, gm, e1, e2, q⟩ | ⟨gc, gm, e1, e2, q⟩
  · rw [e1, Option.bind_some]
    exact Or.inl ⟨_, gm, e gc 1 (Or.inr rfl), e2, hq gc gm q⟩
  · rw [e1, Option.bind_some]
    obtain ⟨f1, f2, f3, f4⟩ := q
    refine Or.inr ⟨_, gm, e gc 0 (Or.inl rfl), e2, ⟨fun x a c => by rw [← f1.1 x a c]; exact pu_up_ne (by omega), f1.2⟩, f2, ?_, ?_⟩
    · show ob_up gc.1 (36 + k) 2 (gc.1 56 6) 56 1 = _; rw [pu_up_ne (by omega)]; exact f3
    · show ob_up gc.1 (36 + k) 2 (gc.1 56 6) 56 2 = _; rw [pu_up_ne (by omega)]; exact f4
def KQ (c0 m0 : ob_St) (b : Nat → Int32) (n m : Nat) (S : Nat → Int32) (k i : Nat) (gc gm : ob_St) : Prop := ∃ i', i ≤ i' ∧ OB c0 m0 b n m S k i' gc gm ∧ CF k 3 gc gm ∧ W3 k (gm.1 2)
theorem CF_3 {k : Nat} {gc gm : ob_St} (h0 : gc.1 (36 + k) 0 = gm.1 2 (30 + 10 * k + 0)) (h1 : gc.1 (36 + k) 1 = gm.1 2 (30 + 10 * k + 1)) (h2 : gc.1 (36 + k) 2 = gm.1 2 (30 + 10 * k + 2)) (h : ∀ j, 3 ≤ j → j < 10 → gc.1 (36 + k) j = cv j) : CF k 3 gc gm := by
  refine ⟨fun j hj => ?_, h⟩
  rcases (by omega : j = 0 ∨ j = 1 ∨ j = 2) with rfl | rfl | rfl
  · exact h0
  · exact h1
  · exact h2
theorem op_72 {c0 m0 gc gm : ob_St} {b : Nat → Int32} {n m k i q : Nat} {S : Nat → Int32} (hk : k < 4) (h29 : sN S 29 = k) (h : OB c0 m0 b n m S k i gc gm) (hq : q ≤ 5) (a0 : gc.1 (36 + k) 0 = nI q) (b0 : gm.1 2 (30 + 10 * k + 0) = nI q) (a2 : gc.1 (36 + k) 2 = gm.1 2 (30 + 10 * k + 2)) (h5 : q = 5 → ∃ x, gm.1 2 (30 + 10 * k + 2) = nI x ∧ x < k) (cl : ∀ j, 3 ≤ j → j < 10 → gc.1 (36 + k) j = cv j) : RS c0 m0 (KQ c0 m0 b n m S k i) (B_X7_readKind_72 gc 56 (36 + k)) (B_X12_kindWord_100 gm 0 (nI (30 + 10 * k)) (nI q)) := by
  have i1 : nI (30 + 10 * k) + 1 = nI (30 + 10 * k + 1) := nI_1 _
  have i2 : nI (30 + 10 * k) + 2 = nI (30 + 10 * k + 2) := nI_add _ 2
  unfold B_X7_readKind_72 B_X12_kindWord_100 B_X7_readKind_111
  rw [ev_ck56, ev_ck0, i1, i2]
  refine RS_c (OB_num (j := 1) (lo := 0) (hi := 999) hk h29 (by omega) (by omega) (by omega) h) ?_ (fun _ => rfl) (fun _ => rfl)
  intro gc1 gm1 ⟨v, v1, v2, v3, O1, v6, c1, d1⟩
  dsimp only
  generalize hgc2 : ((ob_up gc1.1 (36 + k) 1 (nI v), gc1.2) : ob_St) = gc2
  have O2 : OB c0 m0 b n m S k (i + 1) gc2 gm1 := by rw [← hgc2]; exact OB_c hk h29 O1
  have x0 : gc2.1 (36 + k) 0 = nI q := by rw [← hgc2]; show ob_up gc1.1 (36 + k) 1 (nI v) (36 + k) 0 = _; rw [pu_up_eq, pu_upd_ne (by omega), c1, a0]
  have x1 : gc2.1 (36 + k) 1 = nI v := by rw [← hgc2]; show ob_up gc1.1 (36 + k) 1 (nI v) (36 + k) 1 = _; rw [pu_up_eq, pu_upd_eq]
  have xj : ∀ j, 2 ≤ j → gc2.1 (36 + k) j = gc.1 (36 + k) j := fun j hj => by rw [← hgc2]; show ob_up gc1.1 (36 + k) 1 (nI v) (36 + k) j = _; rw [pu_up_eq, pu_upd_ne (by omega), c1]
  have y0 : gm1.1 2 (30 + 10 * k + 0) = nI q := by rw [d1, pu_upd_ne (by omega), b0]
  have y1 : gm1.1 2 (30 + 10 * k + 1) = nI v := by rw [d1, pu_upd_eq]
  have y2 : gm1.1 2 (30 + 10 * k + 2) = gm.1 2 (30 + 10 * k + 2) := by rw [d1, pu_upd_ne (by omega)]
  rw [if_neg one0, if_neg one0, ev_g56, Option.bind_some, v6, ct_p hk, Option.bind_some, hgc2, ct_g hk, Option.bind_some, x0]
  -- a second number
  have two : ∀ lo hi, (q = 2 ∨ q = 3) → hi ≤ 999 → lo < 2 ^ 31 → (∀ w, lo ≤ w → w ≤ hi → (q = 2 → 1 ≤ w ∧ w ≤ 99) ∧ (q = 3 → v < w)) → RS c0 m0 (KQ c0 m0 b n m S k i) ((f_X7_readNumber gc2 56 (nI lo) (nI hi)).bind fun v => B_X7_readKind_142 v.2 56 (36 + k) v.1) (f_X12_takes gm1 0 (nI (30 + 10 * k + 2)) (nI lo) (nI hi)) := by
    intro lo hi hq' hhi hlo hw
    refine op_142 hk (OB_num (j := 2) hk h29 (by omega) hlo (by omega) O2) ?_
    intro gc3 gm3 ⟨w, w1, w2, w3, O3, w6, c3, d3⟩
    have z1 : ob_up gc3.1 (36 + k) 2 (gc3.1 56 6) (36 + k) 2 = nI w := by rw [pu_up_eq, pu_upd_eq, w6]
    have zj : ∀ j, j ≠ 2 → ob_up gc3.1 (36 + k) 2 (gc3.1 56 6) (36 + k) j = gc2.1 (36 + k) j := fun j hj => by rw [pu_up_eq, pu_upd_ne hj, c3]
    have u0 : gm3.1 2 (30 + 10 * k + 0) = nI q := by rw [d3, pu_upd_ne (by omega), y0]
    have u1 : gm3.1 2 (30 + 10 * k + 1) = nI v := by rw [d3, pu_upd_ne (by omega), y1]
    have u2 : gm3.1 2 (30 + 10 * k + 2) = nI w := by rw [d3, pu_upd_eq]
    refine ⟨i + 1 + 1, by omega, OB_c hk h29 O3, CF_3 ?_ ?_ ?_ (fun j hj hj' => ?_), q, v, u0, u1, hq, v3, fun e => by omega, fun e => ⟨w, u2, (hw w w1 w2).1 e⟩, fun e => ⟨w, u2, (hw w w1 w2).2 e, w3⟩⟩
    · exact (zj 0 (by omega)).trans (x0.trans u0.symm)
    · exact (zj 1 (by omega)).trans (x1.trans u1.symm)
    · exact z1.trans u2.symm
    · exact (zj j (by omega)).trans ((xj j (by omega)).trans (cl j hj hj'))
  by_cases e2 : q = 2
  · have e2' : nI q = 2 := by rw [e2]; rfl
    rw [if_pos e2', if_pos e2', Option.bind_some, if_pos e2', ev_ck56, ev_ck0]
    exact RS_zm (two 1 99 (Or.inl e2) (by omega) (by omega) (fun w h1 h2 => ⟨fun _ => ⟨h1, h2⟩, fun e => by omega⟩))
  · have e2' : ¬ nI q = 2 := fun z => e2 ((nI_eq (b := 2) (by omega) (by omega)).mp z)
    rw [if_neg e2', if_neg e2', Option.bind_some, Option.bind_some, if_neg e2']
    by_cases e3 : q = 3
    · have e3' : nI q = 3 := by rw [e3]; rfl
      rw [if_pos e3', if_pos e3', ct_g hk, Option.bind_some, x1, ev_r0_2, Option.bind_some, ev_a2 (by omega), Option.bind_some, y1, nI_1, ev_ck56, ev_ck0]
      have := two (v + 1) 999 (Or.inr e3) (by omega) (by omega) (fun w h1 h2 => ⟨fun e => by omega, fun _ => by omega⟩)
      rcases this with ⟨gc', gm', f1, f2, Q⟩ | ⟨gc', gm', f1, f2, Q⟩
      · refine Or.inl ⟨gc', gm', f1, ?_, Q⟩
        have f2 : f_X12_takes gm1 0 (nI (30 + 10 * k + 2)) (nI (v + 1)) 999 = _ := f2
        rw [f2]; rfl
      · refine Or.inr ⟨gc', gm', f1, ?_, Q⟩
        have f2 : f_X12_takes gm1 0 (nI (30 + 10 * k + 2)) (nI (v + 1)) 999 = _ := f2
        rw [f2]; rfl
    · have e3' : ¬ nI q = 3 := fun z => e3 ((nI_eq (b := 3) (by omega) (by omega)).mp z)
      rw [if_neg e3', if_neg e3']
      refine RS_ok ⟨i + 1, by omega, O2, CF_3 (x0.trans y0.symm) (x1.trans y1.symm) ?_ (fun j hj hj' => (xj j (by omega)).trans (cl j hj hj')), q, v, y0, y1, hq, v3, fun e => by rw [y2]; exact h5 e, fun e => absurd e e2, fun e => absurd e e3⟩
      rw [xj 2 (by omega), y2, a2]
