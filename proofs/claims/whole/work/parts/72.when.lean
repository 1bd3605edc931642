/-! when, barrier, rebate -/
theorem CF_s {k J : Nat} {gc gm gc' gm' : ob_St} (h : CF k J gc gm) (hc : ∀ j, j ≠ J → gc'.1 (36 + k) j = gc.1 (36 + k) j) (hm : ∀ j, j < J → gm'.1 2 (30 + 10 * k + j) = gm.1 2 (30 + 10 * k + j)) (he : gc'.1 (36 + k) J = c_fx J (gm'.1 2 (30 + 10 * k + J))) : CF k (J + 1) gc' gm' := by
  refine ⟨fun j hj => ?_, fun j a c => by rw [hc j (by omega)]; exact h.2 j (by omega) c⟩
  by_cases e : j = J
  · subst e; exact he
  · rw [hc j e, hm j (by omega)]; exact h.1 j (by omega)
theorem c_fr_n {v : Nat} (h : v ≤ 12) : c_fr (nI v) = nI v := by
  unfold c_fr
  exact if_neg (fun z => by have := (nI_eq (b := 99) (by omega) (by omega)).mp z; omega)
def WQ (c0 m0 : ob_St) (b : Nat → Int32) (n m : Nat) (S : Nat → Int32) (k i : Nat) (gc gm : ob_St) : Prop := ∃ i', i ≤ i' ∧ OB c0 m0 b n m S k i' gc gm ∧ CF k 4 gc gm ∧ W3 k (gm.1 2) ∧ W4 k (gm.1 2)
theorem u_eq {f : Nat → Nat → Int32} {n k : Nat} {v : Int32} {w : Nat → Nat → Int64} : ((ob_up f n k v, w) : ob_St).1 n k = v := by show ob_up f n k v n k = _; rw [pu_up_eq, pu_upd_eq]
theorem u_ne {f : Nat → Nat → Int32} {n k j : Nat} {v : Int32} {w : Nat → Nat → Int64} (h : j ≠ k) : ((ob_up f n k v, w) : ob_St).1 n j = f n j := by show ob_up f n k v n j = _; rw [pu_up_eq, pu_upd_ne h]
theorem op_when {c0 m0 gc gm : ob_St} {b : Nat → Int32} {n m k i : Nat} {S : Nat → Int32} (hk : k < 4) (h29 : sN S 29 = k) (h : OB c0 m0 b n m S k i gc gm) (hC : CF k 3 gc gm) (h3 : W3 k (gm.1 2)) : RS c0 m0 (WQ c0 m0 b n m S k i) (f_X7_readWhen gc 56 (36 + k)) (f_X12_whenWord gm 0 (nI (30 + 10 * k))) := by
  have i3 : nI (30 + 10 * k) + 3 = nI (30 + 10 * k + 3) := nI_add _ 3
  have t := h.1.1
  obtain ⟨y6, e6, q6⟩ := kw_dec (k := 6) t (by omega)
  obtain ⟨y7, e7, q7⟩ := kw_dec (k := 7) t (by omega)
  obtain ⟨y8, e8, q8⟩ := kw_dec (k := 8) t (by omega)
  have e6 : f_X7_isKeyword gc 56 11 = some (bI y6) := e6
  have e7 : f_X7_isKeyword gc 56 12 = some (bI y7) := e7
  have e8 : f_X7_isKeyword gc 56 13 = some (bI y8) := e8
  generalize hgm1 : ((ob_up gm.1 2 (30 + 10 * k + 3) 99, gm.2) : ob_St) = gm1
  have O1 : OB c0 m0 b n m S k i gc gm1 := by rw [← hgm1]; exact OB_m h
  have r3 : gm1.1 2 (30 + 10 * k + 3) = 99 := by rw [← hgm1]; exact u_eq
  have rj : ∀ j, j ≠ 30 + 10 * k + 3 → gm1.1 2 j = gm.1 2 j := fun j hj => by rw [← hgm1]; exact u_ne hj
  have cl3 : gc.1 (36 + k) 3 = 13 := hC.2 3 (by omega) (by omega)
  have fr99 : c_fx 3 99 = 13 := by decide
  have fin : ∀ i' gc' gm', i ≤ i' → OB c0 m0 b n m S k i' gc' gm' → (∀ j, j ≠ 3 → gc'.1 (36 + k) j = gc.1 (36 + k) j) → (∀ j, j ≠ 30 + 10 * k + 3 → gm'.1 2 j = gm.1 2 j) → gc'.1 (36 + k) 3 = c_fx 3 (gm'.1 2 (30 + 10 * k + 3)) → W4 k (gm'.1 2) → WQ c0 m0 b n m S k i gc' gm' := by
    intro i' gc' gm' hi O' a c d w
    exact ⟨i', hi, O', CF_s hC a (fun j hj => c _ (by omega)) d, W3_fr (fun j hj => c _ (by omega)) h3, w⟩
  unfold f_X7_readWhen f_X12_whenWord f_X12_isIn B_X12_whenWord_47
  rw [m_known t.2.2.2.2, ev_ck0, Option.bind_some, ev_r0_2, Option.bind_some, i3, ev_w2 (by omega), Option.bind_some, hgm1, e6, ev_ck56, Option.bind_some]
  by_cases c6 : kq b n (lx_ps b n i) = some 6
  · obtain ⟨gc2, gm2, i', f1, f2, O2, hi, z1, z2⟩ := OB_go hk h29 O1
    rw [if_neg (fun z => bI_0.mp z (q6.mpr c6)), f1, ev_ck56, Option.bind_some, c6]
    show RS c0 m0 _ _ ((some 1).bind fun v4 => if v4 = 0 then some (1, gm1) else _)
    rw [Option.bind_some, if_neg one0, f2, ev_ck0, Option.bind_some]
    show RS c0 m0 _ _ (some (1, gm2))
    refine RS_ok (fin i' gc2 gm2 hi O2 (fun j _ => by rw [z1]) (fun j hj => by rw [z2]; exact rj j hj) ?_ ⟨99, by rw [z2, r3]; rfl, Or.inr rfl⟩)
    rw [z1, cl3, z2, r3, fr99]
  · rw [if_pos (bI_0.mpr (fun z => c6 (q6.mp z))), e7, ev_ck56, Option.bind_some]
    by_cases c7 : kq b n (lx_ps b n i) = some 7
    · obtain ⟨gc2, gm2, i', f1, f2, O2, hi, z1, z2⟩ := OB_go hk h29 (OB_c (f := 3) (v := 0) hk h29 O1)
      rw [if_neg (fun z => bI_0.mp z (q7.mpr c7)), ct_p hk, Option.bind_some, f1, ev_ck56, Option.bind_some, c7]
      show RS c0 m0 _ _ ((some 1).bind fun v4 => if v4 = 0 then some (1, gm1) else _)
      rw [Option.bind_some, if_neg one0, f2, ev_ck0, Option.bind_some]
      show RS c0 m0 _ _ ((some 2).bind fun v7 => (ob_wI gm2 v7 (nI (30 + 10 * k + 3)) 0).bind fun g8 => some (1, g8))
      rw [Option.bind_some, ev_w2 (by omega), Option.bind_some]
      refine RS_ok (fin i' gc2 _ hi (OB_m O2) (fun j hj => by rw [z1]; exact u_ne hj) (fun j hj => (u_ne hj).trans (by rw [z2]; exact rj j hj)) ?_ ⟨0, u_eq, Or.inl (by omega)⟩)
      rw [z1, u_eq, u_eq]
      decide
    · rw [if_pos (bI_0.mpr (fun z => c7 (q7.mp z))), e8, ev_ck56, Option.bind_some]
      by_cases c8 : kq b n (lx_ps b n i) = some 8
      · obtain ⟨gc2, gm2, i', f1, f2, O2, hi, z1, z2⟩ := OB_go hk h29 O1
        rw [if_neg (fun z => bI_0.mp z (q8.mpr c8)), f1, ev_ck56, Option.bind_some, c8]
        show RS c0 m0 _ _ ((some 1).bind fun v4 => if v4 = 0 then some (1, gm1) else _)
        rw [Option.bind_some, if_neg one0, f2, ev_ck0, Option.bind_some]
        show RS c0 m0 _ _ ((ob_ck 12 0 (f_X12_takes gm2 0 (nI (30 + 10 * k + 3)) 0 12)).bind fun v6 => (if v6.1 = 0 then (some (0, v6.2)) else (some (1, v6.2))))
        rw [ev_ck56, ev_ck0]
        refine RS_c (OB_num (j := 3) (lo := 0) (hi := 12) hk h29 (by omega) (by omega) (by omega) O2) ?_ (fun _ => rfl) (fun _ => rfl)
        intro gc3 gm3 ⟨v, v1, v2, v3, O3, v6, w1, w2⟩
        dsimp only
        rw [if_neg one0, if_neg one0, ev_g56, Option.bind_some, v6, ct_p hk, Option.bind_some]
        refine RS_ok (fin (i' + 1) _ gm3 (by omega) (OB_c hk h29 O3) (fun j hj => (u_ne hj).trans (by rw [w1, z1])) (fun j hj => by rw [w2, pu_upd_ne hj, z2]; exact rj j hj) ?_ ⟨v, by rw [w2, pu_upd_eq], Or.inl v2⟩)
        rw [u_eq, w2, pu_upd_eq]
        exact (c_fr_n v2).symm
      · have no : (if (kq b n (lx_ps b n i)).elim (-1) nI < 6 then some (0 : Int32) else if 8 < (kq b n (lx_ps b n i)).elim (-1) nI then some 0 else some 1) = some 0 := by
          cases hq : kq b n (lx_ps b n i) with
          | none => rfl
          | some q =>
            have q1 := (kq_lt hq).1
            show (if nI q < 6 then some (0 : Int32) else if 8 < nI q then some 0 else some 1) = some 0
            rw [hq] at c6 c7 c8
            have n6 : q ≠ 6 := fun z => c6 (by rw [z])
            have n7 : q ≠ 7 := fun z => c7 (by rw [z])
            have n8 : q ≠ 8 := fun z => c8 (by rw [z])
            by_cases c : q < 6
            · have c' : nI q < 6 := nI_lt (b := 6) c (by omega)
              rw [if_pos c']
            · have c' : ¬ nI q < 6 := nI_nlt (b := 6) (by omega) (by omega)
              have c'' : (8 : Int32) < nI q := nI_lt (a := 8) (by omega) (by omega)
              rw [if_neg c', if_pos c'']
        rw [if_pos (bI_0.mpr (fun z => c8 (q8.mp z))), no, Option.bind_some, if_pos rfl]
        refine RS_ok (fin i gc gm1 (Nat.le_refl _) O1 (fun _ _ => rfl) rj ?_ ⟨99, r3, Or.inr rfl⟩)
        rw [cl3, r3, fr99]
/-! barrier and rebate -/
def BQ (c0 m0 : ob_St) (b : Nat → Int32) (n m : Nat) (S : Nat → Int32) (k i : Nat) (gc gm : ob_St) : Prop := ∃ i', i ≤ i' ∧ OB c0 m0 b n m S k i' gc gm ∧ CF k 8 gc gm ∧ (W3 k (gm.1 2) ∧ W4 k (gm.1 2)) ∧ W8 k (gm.1 2)
theorem CF_8 {k : Nat} {gc gm gc' gm' : ob_St} (h : CF k 4 gc gm) (hc : ∀ j, j < 4 ∨ 8 ≤ j → gc'.1 (36 + k) j = gc.1 (36 + k) j) (hm : ∀ j, j < 4 → gm'.1 2 (30 + 10 * k + j) = gm.1 2 (30 + 10 * k + j)) (he : ∀ j, 4 ≤ j → j < 8 → gc'.1 (36 + k) j = gm'.1 2 (30 + 10 * k + j)) : CF k 8 gc' gm' := by
  refine ⟨fun j hj => ?_, fun j a c => by rw [hc j (by omega)]; exact h.2 j (by omega) c⟩
  by_cases e : j < 4
  · rw [hc j (by omega), hm j e]; exact h.1 j e
  · rw [he j (by omega) hj]
    unfold c_fx
    rw [if_neg (by omega)]
def br_K (k : Nat) : Int32 × ob_St → Option (Int32 × ob_St) := fun v => if v.1 = 0 then some (0, v.2) else f_X7_readRebate v.2 56 (36 + k)
/-- where a barrier's side is known -/
theorem op_78 {c0 m0 gc gm gc0 gm0 : ob_St} {b : Nat → Int32} {n m k i0 i q s u : Nat} {S : Nat → Int32} (hk : k < 4) (h29 : sN S 29 = k) (hi0 : i0 ≤ i) (h : OB c0 m0 b n m S k i gc gm) (hC : CF k 4 gc0 gm0) (h34 : W3 k (gm0.1 2) ∧ W4 k (gm0.1 2)) (hu : u ≤ 1) (hs1 : 1 ≤ s) (hs2 : s ≤ 2) (hq : q < 20) (hqs : q = 9 ↔ s = 1)
    (a4 : gc.1 (36 + k) 4 = nI s) (aj : ∀ j, j ≠ 4 → gc.1 (36 + k) j = gc0.1 (36 + k) j) (b4 : gm.1 2 (30 + 10 * k + 4) = nI s) (b7 : gm.1 2 (30 + 10 * k + 7) = 0) (bj : ∀ j, j < 4 → gm.1 2 (30 + 10 * k + j) = gm0.1 2 (30 + 10 * k + j)) :
    RS c0 m0 (BQ c0 m0 b n m S k i0) ((B_X7_readBarrier_78 gc 56 (36 + k) (36 + k) (nI u)).bind (br_K k)) (B_X12_barrier_121 gm 0 (nI (30 + 10 * k)) (nI q) 2 (nI (30 + 10 * k + 5)) (nI u)) := by
  have i6 : nI (30 + 10 * k) + 6 = nI (30 + 10 * k + 6) := nI_add _ 6
  have i7 : nI (30 + 10 * k) + 7 = nI (30 + 10 * k + 7) := nI_add _ 7
  obtain ⟨gc2, gm2, i', f1, f2, O2, hi, z1, z2⟩ := OB_go hk h29 (OB_c (f := 5) (v := nI u) hk h29 (OB_m (j := 5) (v := nI u) h))
  unfold B_X7_readBarrier_78 B_X12_barrier_121
  rw [ct_p hk, Option.bind_some, f1, ev_ck56, Option.bind_some, ev_w2 (by omega), Option.bind_some, f2, ev_ck0, Option.bind_some, i6, i7, ev_ck56, ev_ck0]
  have fin : ∀ i3 w7 gc' gm', i ≤ i3 → OB c0 m0 b n m S k i3 gc' gm' → (∀ j, j ≠ 4 → j ≠ 5 → j ≠ 6 → j ≠ 7 → gc'.1 (36 + k) j = gc0.1 (36 + k) j) → (∀ j, j < 4 → gm'.1 2 (30 + 10 * k + j) = gm0.1 2 (30 + 10 * k + j)) → gc'.1 (36 + k) 4 = nI s → gm'.1 2 (30 + 10 * k + 4) = nI s → gc'.1 (36 + k) 5 = nI u → gm'.1 2 (30 + 10 * k + 5) = nI u → (∃ v, v ≤ 999 ∧ gc'.1 (36 + k) 6 = nI v ∧ gm'.1 2 (30 + 10 * k + 6) = nI v) → w7 ≤ 99 → gc'.1 (36 + k) 7 = nI w7 → gm'.1 2 (30 + 10 * k + 7) = nI w7 → BQ c0 m0 b n m S k i0 gc' gm' := by
    intro i3 w7 gc' gm' hi3 O' e1 e2 e3 e4 e5 e6 ⟨v, v1, v2, v3⟩ e7 e8 e9
    refine ⟨i3, by omega, O', CF_8 hC (fun j hj => e1 j (by omega) (by omega) (by omega) (by omega)) e2 (fun j x y => ?_), ⟨W3_fr (fun j hj => e2 j (by omega)) h34.1, W4_fr (e2 3 (by omega)) h34.2⟩, s, w7, e4, hs2, fun _ => ⟨u, v, e6, hu, v3, v1⟩, e9, e7⟩
    rcases (by omega : j = 4 ∨ j = 5 ∨ j = 6 ∨ j = 7) with rfl | rfl | rfl | rfl
    · rw [e3, e4]
    · rw [e5, e6]
    · rw [v2, v3]
    · rw [e8, e9]
  have N := OB_num (j := 6) (lo := 0) (hi := 999) hk h29 (by omega) (by omega) (by omega) O2
  rcases N with ⟨gc3, gm3, g1, g2, v, v1, v2, v3, O3, v6, w1, w2⟩ | ⟨gc3, gm3, g1, g2, q⟩
  · have g1 : f_X7_readNumber gc2 56 0 999 = some (1, gc3) := g1
    have g2 : f_X12_takes gm2 0 (nI (30 + 10 * k + 6)) 0 999 = some (1, gm3) := g2
    rw [g1, g2, Option.bind_some, Option.bind_some]
    dsimp only
    rw [if_neg one0, if_neg one0, ev_g56, Option.bind_some, v6, ct_p hk, Option.bind_some, Option.bind_some]
    unfold br_K f_X7_readRebate
    dsimp only
    rw [if_neg one0]
    have O4 := OB_c (f := 6) (v := nI v) hk h29 O3
    generalize hgc4 : ((ob_up gc3.1 (36 + k) 6 (nI v), gc3.2) : ob_St) = gc4 at O4
    have x6 : gc4.1 (36 + k) 6 = nI v := by rw [← hgc4]; exact u_eq
    have x5 : gc4.1 (36 + k) 5 = nI u := by rw [← hgc4, u_ne (by omega), w1, z1]; exact u_eq
    have xj : ∀ j, j ≠ 5 → j ≠ 6 → gc4.1 (36 + k) j = gc.1 (36 + k) j := fun j x y => by rw [← hgc4, u_ne y, w1, z1]; exact u_ne x
    have y6 : gm3.1 2 (30 + 10 * k + 6) = nI v := by rw [w2, pu_upd_eq]
    have y5 : gm3.1 2 (30 + 10 * k + 5) = nI u := by rw [w2, pu_upd_ne (by omega), z2]; exact u_eq
    have yj : ∀ j, j ≠ 5 → j ≠ 6 → gm3.1 2 (30 + 10 * k + j) = gm.1 2 (30 + 10 * k + j) := fun j x y => by rw [w2, pu_upd_ne (by omega), z2]; exact u_ne (by omega)
    have x7 : gc4.1 (36 + k) 7 = 0 := by rw [xj 7 (by omega) (by omega), aj 7 (by omega), hC.2 7 (by omega) (by omega)]; rfl
    have x4 : gc4.1 (36 + k) 4 = nI s := by rw [xj 4 (by omega) (by omega), a4]
    have y7 : gm3.1 2 (30 + 10 * k + 7) = 0 := by rw [yj 7 (by omega) (by omega), b7]
    have y4 : gm3.1 2 (30 + 10 * k + 4) = nI s := by rw [yj 4 (by omega) (by omega), b4]
    have none7 : BQ c0 m0 b n m S k i0 gc4 gm3 := fin (i' + 1) 0 gc4 gm3 (by omega) O4 (fun j p1 p2 p3 p4 => by rw [xj j p2 p3, aj j p1]) (fun j hj => by rw [yj j (by omega) (by omega)]; exact bj j hj) x4 y4 x5 y5 ⟨v, v3, x6, y6⟩ (by omega) x7 y7
    rw [ct_g hk, Option.bind_some, x4]
    by_cases c9 : q = 9
    · have s1 := hqs.mp c9
      have s1' : nI s = 1 := by rw [s1]; rfl
      have c9' : nI q = 9 := by rw [c9]; rfl
      obtain ⟨y, e13, q13⟩ := kw_dec (k := 13) O4.1.1 (by omega)
      have e13 : f_X7_isKeyword gc4 56 18 = some (bI y) := e13
      rw [if_pos s1', if_pos c9', e13, ev_ck56, Option.bind_some, m_known O4.1.1.2.2.2.2, ev_ck0, Option.bind_some]
      by_cases c13 : kq b n (lx_ps b n (i' + 1)) = some 13
      · have k13 : (kq b n (lx_ps b n (i' + 1))).elim (-1) nI = 13 := (kn_eq (k := 13) (by omega)).mpr c13
        obtain ⟨gc5, gm5, i5, f5, f6, O5, hi5, z5, z6⟩ := OB_go hk h29 O4
        rw [if_neg (fun z => bI_0.mp z (q13.mpr c13)), if_pos k13, f5, ev_ck56, Option.bind_some, f6, ev_ck0, Option.bind_some, ev_ck56, ev_ck0]
        have N := OB_num (j := 7) (lo := 0) (hi := 99) hk h29 (by omega) (by omega) (by omega) O5
        rcases N with ⟨gc7, gm7, h1, h2, w, r1, r2, r3, O7, r6, t1, t2⟩ | ⟨gc7, gm7, h1, h2, q⟩
        · have h1 : f_X7_readNumber gc5 56 0 99 = some (1, gc7) := h1
          have h2 : f_X12_takes gm5 0 (nI (30 + 10 * k + 7)) 0 99 = some (1, gm7) := h2
          rw [h1, h2, Option.bind_some, Option.bind_some]
          dsimp only
          rw [if_neg one0, ev_g56, Option.bind_some, r6, ct_p hk, Option.bind_some, pu_zr (Or.inr rfl), Option.bind_some]
          have xx : ∀ j, j ≠ 7 → ((ob_up gc7.1 (36 + k) 7 (nI w), gc7.2) : ob_St).1 (36 + k) j = gc4.1 (36 + k) j := fun j hj => by rw [u_ne hj, t1, z5]
          have yy : ∀ j, j ≠ 7 → gm7.1 2 (30 + 10 * k + j) = gm3.1 2 (30 + 10 * k + j) := fun j hj => by rw [t2, pu_upd_ne (by omega), z6]
          exact RS_ok (fin (i5 + 1) w _ gm7 (by omega) (OB_c hk h29 O7) (fun j p1 p2 p3 p4 => by rw [xx j p4, xj j p2 p3, aj j p1]) (fun j hj => by rw [yy j (by omega), yj j (by omega) (by omega)]; exact bj j hj) (by rw [xx 4 (by omega), x4]) (by rw [yy 4 (by omega), y4]) (by rw [xx 5 (by omega), x5]) (by rw [yy 5 (by omega), y5]) ⟨v, v3, by rw [xx 6 (by omega), x6], by rw [yy 6 (by omega), y6]⟩ r2 u_eq (by rw [t2, pu_upd_eq]))
        · have h1 : f_X7_readNumber gc5 56 0 99 = some (0, gc7) := h1
          have h2 : f_X12_takes gm5 0 (nI (30 + 10 * k + 7)) 0 99 = some (0, gm7) := h2
          rw [h1, h2]
          exact Or.inr ⟨gc7, gm7, rfl, rfl, q⟩
      · have k13 : ¬ (kq b n (lx_ps b n (i' + 1))).elim (-1) nI = 13 := fun z => c13 ((kn_eq (k := 13) (by omega)).mp z)
        rw [if_pos (bI_0.mpr (fun z => c13 (q13.mp z))), if_neg k13]
        exact RS_ok none7
    · have s1 : s = 2 := by have : ¬ s = 1 := fun z => c9 (hqs.mpr z); omega
      have s1' : ¬ nI s = 1 := by rw [s1]; decide
      have c9' : ¬ nI q = 9 := fun z => c9 ((nI_eq (b := 9) (by omega) (by omega)).mp z)
      rw [if_neg s1', if_neg c9']
      exact RS_ok none7
  · have g1 : f_X7_readNumber gc2 56 0 999 = some (0, gc3) := g1
    have g2 : f_X12_takes gm2 0 (nI (30 + 10 * k + 6)) 0 999 = some (0, gm3) := g2
    rw [g1, g2]
    exact Or.inr ⟨gc3, gm3, rfl, rfl, q⟩
