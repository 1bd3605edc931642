/-! lines: the stock, cash -/
theorem RS_c {c0 m0 : ob_St} {Q Q' : ob_St → ob_St → Prop} {rc rm : Option (Int32 × ob_St)} {Kc Km : Int32 × ob_St → Option (Int32 × ob_St)} (h : RS c0 m0 Q rc rm) (hk : ∀ gc gm, Q gc gm → RS c0 m0 Q' (Kc (1, gc)) (Km (1, gm))) (hf : ∀ g, Kc (0, g) = some (0, g)) (hf' : ∀ g, Km (0, g) = some (0, g)) : RS c0 m0 Q' (rc.bind Kc) (rm.bind Km) := by
  rcases h with ⟨gc, gm, e1, e2, q⟩ | ⟨gc, gm, e1, e2, q⟩
  · rw [e1, e2]
    exact hk gc gm q
  · rw [e1, e2]
    exact Or.inr ⟨gc, gm, hf gc, hf' gm, q⟩
theorem one0 : ¬ (1 : Int32) = 0 := by decide
def LR (c0 m0 : ob_St) (b : Nat → Int32) (n m i : Nat) (gc gm : ob_St) : Prop := BR c0 m0 b n m i gc gm ∧ sp_WF (gm.1 2) ∧ c_M 32 (gm.1 2) gc ∧ nm_R b (sN (gm.1 2) 29) gc gm
def LQ (c0 m0 : ob_St) (b : Nat → Int32) (n m i : Nat) (gc gm : ob_St) : Prop := ∃ i', i < i' ∧ LR c0 m0 b n m i' gc gm
theorem nm_R_fr {b : Nat → Int32} {cnt : Nat} {gc gm gc' gm' : ob_St} (h1 : gc'.2 62 = gc.2 62) (h2 : gm'.1 8 = gm.1 8) (h : nm_R b cnt gc gm) : nm_R b cnt gc' gm' := by
  intro o ho
  obtain ⟨q, l, a, c, d⟩ := h o ho
  exact ⟨q, l, a, by rw [h1]; exact c, by rw [h2]; exact d⟩
theorem wf_stock {S : Nat → Int32} {v w : Nat} (hW : sp_WF S) (h2 : sN S 2 = 0) (hv : v ≤ 999) (hw1 : 2 ≤ w) (hw2 : w ≤ 9) : sp_WF (upd (upd S 0 (nI v)) 1 (nI w)) := by
  generalize hS : upd (upd S 0 (nI v)) 1 (nI w) = S'
  have e : ∀ i, 2 ≤ i → S' i = S i := fun i hi => by rw [← hS, pu_upd_ne (by omega), pu_upd_ne (by omega)]
  have eN : ∀ i, 2 ≤ i → sN S' i = sN S i := fun i hi => by unfold sN; rw [e i hi]
  have e0 : S' 0 = nI v := by rw [← hS, pu_upd_ne (by omega), pu_upd_eq]
  have e1 : S' 1 = nI w := by rw [← hS, pu_upd_eq]
  have n0 := sN_nI e0 (by omega)
  have n1 := sN_nI e1 (by omega)
  obtain ⟨w1, w2, w3, w4, w5, w6, w7, w8, w9⟩ := hW
  refine ⟨⟨by rw [n0, e0], by omega⟩, ⟨by rw [n1, e1], by omega⟩, ?_, ?_, by rw [e 3 (by omega)]; exact w5, fun t t1 t2 => ?_, fun t ht => ?_, ?_, fun k hk => ?_⟩
  · rw [e 2 (by omega), eN 2 (by omega)]; exact w3
  · rw [e 29 (by omega), eN 29 (by omega)]; exact w4
  · rw [eN 2 (by omega)] at t2; omega
  · rw [e _ (by omega), eN _ (by omega)]; exact w7 t ht
  · rw [eN 2 (by omega), h2]; exact Nat.zero_le _
  · rw [eN 29 (by omega)] at hk
    exact wo_congr (fun x hx => e _ (by omega)) (w9 k hk)
theorem ln_stock {c0 m0 gc gm : ob_St} {b : Nat → Int32} {n m i : Nat} (h : LR c0 m0 b n m i gc gm) (hk : lx_k b n (lx_ps b n i) ≠ 0) (h2 : sN (gm.1 2) 2 = 0) : RS c0 m0 (LQ c0 m0 b n m i) (f_X7_readStock gc 56) (f_X12_line gm 0 15) := by
  obtain ⟨hB, hW, hM, hN⟩ := h
  obtain ⟨gc1, gm1, i1, e1, e2, B1, ⟨k1, k2, k3⟩, _, i1e, _, _⟩ := go_on hB
  have i1e := i1e hk
  subst i1e
  unfold f_X7_readStock f_X12_line B_X12_line_17 B_X12_line_40 B_X12_line_69
  rw [if_neg (show ¬ (15 : Int32) = 16 by decide), if_neg (show ¬ (15 : Int32) = 19 by decide), if_neg (show ¬ (15 : Int32) = 18 by decide), e1, ev_ck56, Option.bind_some, e2, ev_ck0, Option.bind_some, if_pos rfl, ev_ck56, ev_ck0]
  refine RS_c (RN (a := 0) (lo := 0) (hi := 999) B1 (by omega) (by omega) (by omega)) ?_ (fun _ => rfl) (fun _ => rfl)
  intro gc2 gm2 ⟨v, v1, v2, v3, B2, v6, _, kc, kc2, km2, km⟩
  dsimp only
  rw [if_neg one0, if_neg one0, ev_r56_0, Option.bind_some, ev_g56, Option.bind_some, v6, ev_p32, Option.bind_some, ev_ck56, ev_ck0]
  have B3 := BR_c (gc' := (ob_up gc2.1 32 3 (nI v), gc2.2)) B2 (fun x hx => pu_up_ne (by omega)) (fun x _ => rfl)
  refine RS_c (RN (a := 1) (lo := 2) (hi := 9) B3 (by omega) (by omega) (by omega)) ?_ (fun _ => rfl) (fun _ => rfl)
  intro gc4 gm4 ⟨w, w1, w2, w3, B4, w6, _, lc, lc2, lm2, lm⟩
  dsimp only
  rw [if_neg one0, if_neg one0, Option.bind_some, ev_g56, Option.bind_some, w6, ev_p32, Option.bind_some]
  refine RS_ok ⟨i + 1 + 1 + 1, by omega, BR_c B4 (fun x hx => pu_up_ne (by omega)) (fun x _ => rfl), ?_, ?_, ?_⟩
  · rw [lm2, km2, k3 2 (by omega) (by omega)]
    exact wf_stock hW h2 v3 w1 w2
  · have eS : gm4.1 2 = upd (upd (gm.1 2) 0 (nI v)) 1 (nI w) := by rw [lm2, km2, k3 2 (by omega) (by omega)]
    have er : ∀ x, x ≠ 32 → x ≠ 56 → ob_up gc4.1 32 4 (nI w) x = gc.1 x := fun x a c => by
      rw [pu_up_ne a, lc x c]
      show ob_up gc2.1 32 3 (nI v) x = _
      rw [pu_up_ne a, kc x c, k1 x c]
    have e32 : ∀ j, ob_up gc4.1 32 4 (nI w) 32 j = upd (upd (gc.1 32) 3 (nI v)) 4 (nI w) j := fun j => by
      rw [pu_up_eq, lc 32 (by omega)]
      show upd (ob_up gc2.1 32 3 (nI v) 32) 4 (nI w) j = _
      rw [pu_up_eq, kc 32 (by omega), k1 32 (by omega)]
    obtain ⟨m1, m2, m3, m4, m5, m6⟩ := hM
    have z : ∀ x, 2 ≤ x → gm4.1 2 x = gm.1 2 x := fun x hx => by rw [eS, pu_upd_ne (by omega), pu_upd_ne (by omega)]
    have z29 : sN (gm4.1 2) 29 = sN (gm.1 2) 29 := by unfold sN; rw [z 29 (by omega)]
    refine ⟨?_, ?_, ?_, ?_, fun t ht => ?_, fun k hk => ?_⟩
    · show ob_up gc4.1 32 4 (nI w) 32 3 = _
      rw [e32, pu_upd_ne (by omega), pu_upd_eq, eS, pu_upd_ne (by omega), pu_upd_eq]
    · show ob_up gc4.1 32 4 (nI w) 32 4 = _
      rw [e32, pu_upd_eq, eS, pu_upd_eq]
    · show ob_up gc4.1 32 4 (nI w) 32 5 = _
      rw [e32, pu_upd_ne (by omega), pu_upd_ne (by omega), z 2 (by omega), m3]
    · show ob_up gc4.1 32 4 (nI w) 32 6 = _
      rw [e32, pu_upd_ne (by omega), pu_upd_ne (by omega), z 29 (by omega), m4]
    · show ob_up gc4.1 32 4 (nI w) 33 t = _ ∧ ob_up gc4.1 32 4 (nI w) 34 t = _
      rw [er 33 (by omega) (by omega), er 34 (by omega) (by omega), z _ (by omega), z _ (by omega)]
      exact m5 t ht
    · rw [z29] at hk
      have h4 := wf_4 hW
      have eo : ∀ w', sp_o (gm4.1 2) k w' = sp_o (gm.1 2) k w' := fun w' => z _ (by omega)
      unfold c_C
      show (ob_up gc4.1 32 4 (nI w) (32 + 4 + k) 0 = _ ∧ ob_up gc4.1 32 4 (nI w) (32 + 4 + k) 1 = _ ∧ ob_up gc4.1 32 4 (nI w) (32 + 4 + k) 2 = _ ∧ ob_up gc4.1 32 4 (nI w) (32 + 4 + k) 3 = _ ∧ ob_up gc4.1 32 4 (nI w) (32 + 4 + k) 4 = _ ∧ ob_up gc4.1 32 4 (nI w) (32 + 4 + k) 5 = _ ∧ ob_up gc4.1 32 4 (nI w) (32 + 4 + k) 6 = _ ∧ ob_up gc4.1 32 4 (nI w) (32 + 4 + k) 7 = _ ∧ ob_up gc4.1 32 4 (nI w) (32 + 4 + k) 8 = _ ∧ ob_up gc4.1 32 4 (nI w) (32 + 4 + k) 9 = _)
      rw [er (32 + 4 + k) (by omega) (by omega), eo, eo, eo, eo, eo, eo, eo, eo, eo, eo]
      exact m6 k hk
  · have z29 : sN (gm4.1 2) 29 = sN (gm.1 2) 29 := by unfold sN; rw [lm2, km2, k3 2 (by omega) (by omega), pu_upd_ne (by omega), pu_upd_ne (by omega)]
    rw [z29]
    refine nm_R_fr ?_ ?_ hN
    · show gc4.2 62 = _
      rw [lc2]
      show gc2.2 62 = _
      rw [kc2, k2]
    · rw [lm 8 (by omega) (by omega) (by omega), km 8 (by omega) (by omega) (by omega), k3 8 (by omega) (by omega)]
