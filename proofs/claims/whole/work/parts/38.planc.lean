/-! BY PLAN: the class -/
def ad2 (Y : Nat → Nat → Nat) (t j v : Nat) : Nat → Nat → Nat := fun t' j' => if t' = t ∧ j' = j then Y t' j' + v else Y t' j'
def mv2 (Y : Nat → Nat → Nat) (t j a b : Nat) : Nat → Nat → Nat := ad2 (ad2 Y (t + 1) (j + 1) (Y t j * a)) (t + 1) j (Y t j * b)
theorem pl_ad2 {X : Nat → Nat → Nat → Nat} {l t j v t' j' : Nat} : pl_ad X l t j v l t' j' = ad2 (X l) t j v t' j' := by
  unfold pl_ad ad2
  by_cases h : t' = t ∧ j' = j
  · rw [if_pos ⟨rfl, h⟩, if_pos h]
  · rw [if_neg (fun q => h q.2), if_neg h]
theorem pl_mv2 {X : Nat → Nat → Nat → Nat} {l t j a b t' j' : Nat} : pl_mv X l t j a b l t' j' = mv2 (X l) t j a b t' j' := by
  unfold pl_mv mv2
  rw [pl_ad2]
  unfold ad2
  rw [pl_ad2]
  rfl
def c_RR (r N : Nat) (Y : Nat → Nat → Nat) (g : ob_St) : Prop := ∀ t j, t ≤ N → j ≤ t → g.2 r (nd t j) = lN (Y t j)
theorem c_RR_c {r N : Nat} {Y Y' : Nat → Nat → Nat} {g : ob_St} (h : c_RR r N Y g) (e : ∀ t j, t ≤ N → j ≤ t → Y t j = Y' t j) : c_RR r N Y' g := fun t j ht hj => by rw [h t j ht hj, e t j ht hj]
theorem c_RR_f {r N : Nat} {Y : Nat → Nat → Nat} {g g' : ob_St} (h : c_RR r N Y g) (e : g'.2 r = g.2 r) : c_RR r N Y g' := fun t j ht hj => by rw [e]; exact h t j ht hj
theorem c_RR_w {r N t j v : Nat} {Y : Nat → Nat → Nat} {g : ob_St} {x : Int64} (h : c_RR r N Y g) (ht : t ≤ N) (hj : j ≤ t) (hx : x = lN (Y t j + v)) : c_RR r N (ad2 Y t j v) (g.1, ob_upL g.2 r (nd t j) x) := by
  intro t' j' ht' hj'
  show ob_upL g.2 r (nd t j) x r (nd t' j') = _
  rw [pu_upL_eq]
  unfold ad2
  by_cases e : t' = t ∧ j' = j
  · obtain ⟨rfl, rfl⟩ := e
    rw [pu_updL_eq, if_pos ⟨rfl, rfl⟩, hx]
  · rw [pu_updL_ne (fun q => e (nd_inj hj' hj q)), if_neg e]
    exact h t' j' ht' hj'
/-- one row's move to the two nodes behind -/
theorem c_mvR {r N t j a b : Nat} {Y : Nat → Nat → Nat} {g : ob_St} (hr : ob_kd r = 15) (hl : ob_ln r = 91) (hN : N ≤ 12) (ht : t < N) (hj : j ≤ t) (ha : a < 2 ^ 31) (hb : b < 2 ^ 31) (h : c_RR r N Y g) :
    ∃ g', m_RF (fun m => m = r) g g' ∧ c_RR r N (mv2 Y t j a b) g' ∧
    ∀ {α : Type} (K : ob_St → Option α), ((ob_rL g r (nI (nd (t + 1) (j + 1)))).bind fun v25 => (ob_rL g r (nI (nd t j))).bind fun v27 => (ob_wL g r (nI (nd (t + 1) (j + 1))) (v25 + (v27 * (Int32.toInt64 (nI a))))).bind fun g28 =>
      (ob_rL g28 r (nI (nd (t + 1) j))).bind fun v32 => (ob_rL g28 r (nI (nd t j))).bind fun v34 => (ob_wL g28 r (nI (nd (t + 1) j)) (v32 + (v34 * (Int32.toInt64 (nI b))))).bind fun g35 => K g35) = K g' := by
  have l0 := nd_lt (t := t) (j := j) (by omega) hj
  have l1 := nd_lt (t := t + 1) (j := j + 1) (by omega) (by omega)
  have l2 := nd_lt (t := t + 1) (j := j) (by omega) (by omega)
  have h1 := h (t + 1) (j + 1) (by omega) (by omega)
  have h0 := h t j (by omega) hj
  have r1 := c_RR_w (x := lN (Y (t + 1) (j + 1) + Y t j * a)) h (show t + 1 ≤ N by omega) (show j + 1 ≤ t + 1 by omega) rfl
  have n0 : ad2 Y (t + 1) (j + 1) (Y t j * a) t j = Y t j := if_neg (by omega)
  have q2 := r1 (t + 1) j (by omega) (by omega)
  have q0 := r1 t j (by omega) hj
  rw [n0] at q0
  have r2 := c_RR_w (v := Y t j * b) (x := lN (ad2 Y (t + 1) (j + 1) (Y t j * a) (t + 1) j + Y t j * b)) r1 (show t + 1 ≤ N by omega) (show j ≤ t + 1 by omega) rfl
  refine ⟨(g.1, ob_upL (ob_upL g.2 r (nd (t + 1) (j + 1)) (lN (Y (t + 1) (j + 1) + Y t j * a))) r (nd (t + 1) j) (lN (ad2 Y (t + 1) (j + 1) (Y t j * a) (t + 1) j + Y t j * b))), ⟨rfl, fun m hm => ?_⟩, r2, fun K => ?_⟩
  · show ob_upL (ob_upL g.2 r _ _) r _ _ m = _
    rw [pu_upL_ne hm, pu_upL_ne hm]
  · rw [pu_rL (n := r) hr rfl (by rw [hl]; exact l1), Option.bind_some, pu_rL (n := r) hr rfl (by rw [hl]; exact l0), Option.bind_some, h1, h0, nI_l ha, lN_mul, lN_add, pu_wL (n := r) hr rfl (by rw [hl]; exact l1), Option.bind_some,
      pu_rL (n := r) hr rfl (by rw [hl]; exact l2), Option.bind_some, pu_rL (n := r) hr rfl (by rw [hl]; exact l0), Option.bind_some, q2, q0, nI_l hb, lN_mul, lN_add, pu_wL (n := r) hr rfl (by rw [hl]; exact l2), Option.bind_some]
theorem c_endOf {S : Nat → Int32} {g : ob_St} {d : Int32} {t : Nat} (hW : sp_WF S) (hM : c_M 24 S g) (ht : t ≤ sN S 2) : f_X6_endOf g 112 d (nI t) = some (pl_e d (decide (t = sN S 2))) := by
  have h12 := wf_12 hW
  have h5 : g.1 24 5 = nI (sN S 2) := hM.2.2.1.trans (wf_2 hW)
  unfold f_X6_endOf pl_e
  rw [ev_r112_0, Option.bind_some, ev_r67_0, Option.bind_some, ev_g24, Option.bind_some, h5]
  by_cases d1 : d = 1
  · rw [if_pos d1, if_pos d1]
  rw [if_neg d1, if_neg d1]
  by_cases d2 : d = 2
  · rw [if_pos d2, if_pos d2]
  rw [if_neg d2, if_neg d2]
  by_cases d4 : d = 4
  · rw [if_pos d4, if_pos d4]
  rw [if_neg d4, if_neg d4]
  by_cases e : t = sN S 2
  · rw [if_pos (by rw [e]), if_pos (decide_eq_true e)]
  · rw [if_neg (fun q => e ((nI_eq (by omega) (by omega)).mp q)), if_neg (by rw [decide_eq_false e]; decide)]
theorem c_pass_in {S : Nat → Int32} {g : ob_St} {k t j a b : Nat} {Y : Nat → Nat → Nat} (hW : sp_WF S) (hM : c_M 24 S g) (hL : c_Lat S g) (hk : k < sN S 29) (ht : t < sN S 2) (hj : j ≤ t) (ha : a < 2 ^ 31) (hb : b < 2 ^ 31) (h : c_RR 114 (sN S 2) Y g) :
    ∃ g', B_X6_pass_171 g 112 (72 + 8 * k) (nI t) (nI (nd t j)) (nI a) (nI b) = some g' ∧ m_RF (fun m => m = 114) g g' ∧ c_RR 114 (sN S 2) (if sp_E S k t j = 0 then mv2 Y t j a b else Y) g' := by
  have h12 := wf_12 hW
  have h4 := wf_4 hW
  have hn := c_Sh_k (k := k) (by omega)
  have hl := nd_lt (t := t) (j := j) (by omega) hj
  have ed : g.1 (72 + 8 * k + 4) (nd t j) = sp_E S k t j := (hL.2 k hk t j (by omega) hj).2.2.1
  have ee := c_endOf (d := sp_E S k t j) hW hM (show t ≤ sN S 2 by omega)
  rw [decide_eq_false (by omega : ¬ t = sN S 2)] at ee
  obtain ⟨g', m1, m2, m3⟩ := c_mvR (r := 114) rfl rfl h12 ht hj ha hb h
  unfold B_X6_pass_171
  rw [es_1 hn, Option.bind_some, es_p1 hn, Option.bind_some, es_a4 hn hl, Option.bind_some, ed, ee, ev_ck112, Option.bind_some]
  simp only [ev_r112_2, ev_r112_0, c_upFrom, c_downFrom, ev_ck67, Option.bind_some]
  rcases sp_E_c S k t j with e | e | e
  · rw [e]
    refine ⟨g', ?_, m1, m2⟩
    rw [if_pos (show pl_e 0 false = -1 by decide)]
    exact m3 (fun x => some x)
  · rw [e]
    exact ⟨g, if_neg (by decide), ⟨rfl, fun _ _ => rfl⟩, by rw [if_neg (by decide)]; exact h⟩
  · rw [e]
    exact ⟨g, if_neg (by decide), ⟨rfl, fun _ _ => rfl⟩, by rw [if_neg (by decide)]; exact h⟩
theorem c_pass_out {S : Nat → Int32} {g : ob_St} {k t j a b : Nat} {Y Z : Nat → Nat → Nat} (hW : sp_WF S) (hM : c_M 24 S g) (hL : c_Lat S g) (hk : k < sN S 29) (ht : t < sN S 2) (hj : j ≤ t) (ha : a < 2 ^ 31) (hb : b < 2 ^ 31) (hz : c_RR 113 (sN S 2) Z g) (h : c_RR 114 (sN S 2) Y g) :
    ∃ g', B_X6_pass_97 g 112 (72 + 8 * k) (nI t) (nI (nd t j)) (nI a) (nI b) = some g' ∧ m_RF (fun m => m = 113 ∨ m = 114) g g' ∧ c_RR 113 (sN S 2) (if sp_D S k t j = 0 ∨ sp_D S k t j = 3 then mv2 Z t j a b else Z) g' ∧ c_RR 114 (sN S 2) (if sp_E S k t j = 0 then mv2 Y t j a b else Y) g' := by
  have h12 := wf_12 hW
  have h4 := wf_4 hW
  have hn := c_Sh_k (k := k) (by omega)
  have hl := nd_lt (t := t) (j := j) (by omega) hj
  have ed : g.1 (72 + 8 * k + 7) (nd t j) = sp_D S k t j := (hL.2 k hk t j (by omega) hj).2.2.2.2
  have ee := c_endOf (d := sp_D S k t j) hW hM (show t ≤ sN S 2 by omega)
  rw [decide_eq_false (by omega : ¬ t = sN S 2)] at ee
  obtain ⟨g1, m1, m2, m3⟩ := c_mvR (r := 113) rfl rfl h12 ht hj ha hb hz
  have hM1 := c_M_RF m1 hM hW
  have hL1 := c_Lat_RF m1 (fun m hm => by omega) hL hW
  obtain ⟨g2, n1, n2, n3⟩ := c_pass_in hW hM1 hL1 hk ht hj ha hb (c_RR_f h (m1.2 114 (by omega)))
  obtain ⟨g3, o1, o2, o3⟩ := c_pass_in hW hM hL hk ht hj ha hb h
  have yes : ∃ g', ((ob_rL g 113 (nI (nd (t + 1) (j + 1)))).bind fun v25 => (ob_rL g 113 (nI (nd t j))).bind fun v27 => (ob_wL g 113 (nI (nd (t + 1) (j + 1))) (v25 + (v27 * (Int32.toInt64 (nI a))))).bind fun g28 =>
      (ob_rL g28 113 (nI (nd (t + 1) j))).bind fun v32 => (ob_rL g28 113 (nI (nd t j))).bind fun v34 => (ob_wL g28 113 (nI (nd (t + 1) j)) (v32 + (v34 * (Int32.toInt64 (nI b))))).bind fun g35 => B_X6_pass_171 g35 112 (72 + 8 * k) (nI t) (nI (nd t j)) (nI a) (nI b)) = some g' ∧ m_RF (fun m => m = 113 ∨ m = 114) g g' ∧ c_RR 113 (sN S 2) (mv2 Z t j a b) g' ∧ c_RR 114 (sN S 2) (if sp_E S k t j = 0 then mv2 Y t j a b else Y) g' :=
    ⟨g2, (m3 _).trans n1, ⟨n2.1.trans m1.1, fun m hm => (n2.2 m (by omega)).trans (m1.2 m (by omega))⟩, c_RR_f m2 (n2.2 113 (by omega)), n3⟩
  have no : m_RF (fun m => m = 113 ∨ m = 114) g g3 := ⟨o2.1, fun m hm => o2.2 m (by omega)⟩
  unfold B_X6_pass_97
  rw [es_2 hn, Option.bind_some, es_b1 hn, Option.bind_some, es_a7 hn hl, Option.bind_some, ed, ee, ev_ck112, Option.bind_some]
  simp only [ev_r112_1, ev_r112_0, c_upFrom, c_downFrom, ev_ck67, Option.bind_some]
  rcases sp_D_c S k t j with e | e | e | e | e
  · rw [e, if_pos (show pl_e 0 false = -1 by decide), if_pos (Or.inl rfl)]
    exact yes
  · rw [e, if_neg (show ¬ pl_e 1 false = -1 by decide), if_neg (by decide)]
    exact ⟨g3, o1, no, c_RR_f hz (o2.2 113 (by omega)), o3⟩
  · rw [e, if_neg (show ¬ pl_e 2 false = -1 by decide), if_neg (by decide)]
    exact ⟨g3, o1, no, c_RR_f hz (o2.2 113 (by omega)), o3⟩
  · rw [e, if_pos (show pl_e 3 false = -1 by decide), if_pos (Or.inr rfl)]
    exact yes
  · rw [e, if_neg (show ¬ pl_e 4 false = -1 by decide), if_neg (by decide)]
    exact ⟨g3, o1, no, c_RR_f hz (o2.2 113 (by omega)), o3⟩
def pl_by (S : Nat → Int32) (x4 : Int32) (a b : Nat → Nat) : Prop := (x4 = 0 ∧ a = sp_a S ∧ b = sp_b S) ∨ (x4 = 1 ∧ a = pl_1 ∧ b = pl_1)
theorem c_pass35 {S : Nat → Int32} {g : ob_St} {k t j : Nat} {a b : Nat → Nat} {x4 : Int32} {Y Z : Nat → Nat → Nat} (hby : pl_by S x4 a b) (hW : sp_WF S) (hM : c_M 24 S g) (hL : c_Lat S g) (hk : k < sN S 29) (ht : t ≤ sN S 2) (hj : j ≤ t) (hz : c_RR 113 (sN S 2) Z g) (h : c_RR 114 (sN S 2) Y g) :
    ∃ g', B_X6_pass_35 g 112 (72 + 8 * k) (nI t) (nI (nd t j)) x4 = some g' ∧ m_RF (fun m => m = 113 ∨ m = 114) g g' ∧ c_RR 113 (sN S 2) (if (sp_D S k t j = 0 ∨ sp_D S k t j = 3) ∧ t < sN S 2 then mv2 Z t j (a t) (b t) else Z) g' ∧ c_RR 114 (sN S 2) (if sp_E S k t j = 0 ∧ t < sN S 2 then mv2 Y t j (a t) (b t) else Y) g' := by
  have h12 := wf_12 hW
  have h5 : g.1 24 5 = nI (sN S 2) := hM.2.2.1.trans (wf_2 hW)
  unfold B_X6_pass_35
  rw [ev_r112_0, Option.bind_some, ev_r67_0, Option.bind_some, ev_g24, Option.bind_some, h5]
  by_cases e : t < sN S 2
  · have hf := hW.2.2.2.2.2.1 (t + 1) (by omega) (by omega)
    have hw := hW.2.1.2
    have e25 : g.1 25 (t + 1) = nI (sN S (3 + (t + 1))) := (hM.2.2.2.2.1 (t + 1) (by omega)).1.trans hf.1
    have e4 : g.1 24 4 = nI (sN S 1) := hM.2.1.trans (wf_1 hW)
    have c1 : (if (sp_D S k t j = 0 ∨ sp_D S k t j = 3) ∧ t < sN S 2 then mv2 Z t j (a t) (b t) else Z) = (if sp_D S k t j = 0 ∨ sp_D S k t j = 3 then mv2 Z t j (a t) (b t) else Z) := by
      by_cases q : sp_D S k t j = 0 ∨ sp_D S k t j = 3
      · rw [if_pos q, if_pos ⟨q, e⟩]
      · rw [if_neg q, if_neg (fun z => q z.1)]
    have c2 : (if sp_E S k t j = 0 ∧ t < sN S 2 then mv2 Y t j (a t) (b t) else Y) = (if sp_E S k t j = 0 then mv2 Y t j (a t) (b t) else Y) := by
      by_cases q : sp_E S k t j = 0
      · rw [if_pos q, if_pos ⟨q, e⟩]
      · rw [if_neg q, if_neg (fun z => q z.1)]
    rw [if_pos (nI_lt e (by omega)), c1, c2]
    rcases hby with ⟨rfl, rfl, rfl⟩ | ⟨rfl, rfl, rfl⟩
    · obtain ⟨g', m⟩ := c_pass_out (a := sp_a S t) (b := sp_b S t) hW hM hL hk e hj (by unfold sp_a; omega) (by unfold sp_b; omega) hz h
      refine ⟨g', ?_, m.2⟩
      rw [if_pos rfl, Option.bind_some, ev_r67_0, Option.bind_some, ev_r24_0, Option.bind_some, nI_1, ev_a25 (by omega), Option.bind_some, e25]
      unfold B_X6_pass_73
      rw [if_pos rfl, ev_r112_0, Option.bind_some, ev_r67_0, Option.bind_some, ev_g24, Option.bind_some, e4, pk_sub (by omega)]
      exact m.1
    · obtain ⟨g', m⟩ := c_pass_out (a := pl_1 t) (b := pl_1 t) hW hM hL hk e hj (by unfold pl_1; omega) (by unfold pl_1; omega) hz h
      refine ⟨g', ?_, m.2⟩
      rw [if_neg (by decide)]
      unfold B_X6_pass_73
      rw [if_neg (by decide)]
      exact m.1
  · rw [if_neg (nI_nlt (by omega) (by omega)), if_neg (fun z => e z.2), if_neg (fun z => e z.2)]
    exact ⟨g, rfl, ⟨rfl, fun _ _ => rfl⟩, hz, h⟩
/-- what stands in the class's outer row: at a node where it came IN nothing is left -/
def pl_Zf (D : Nat → Nat → Nat → Int32) (X : Nat → Nat → Nat → Nat) (T J t j : Nat) : Nat := if D 0 t j = 3 ∧ (t < T ∨ t = T ∧ j < J) then 0 else X 0 t j
theorem c_pass {S : Nat → Int32} {g : ob_St} {k t j : Nat} {a b : Nat → Nat} {x4 : Int32} {X : Nat → Nat → Nat → Nat} (hby : pl_by S x4 a b) (hW : sp_WF S) (hM : c_M 24 S g) (hL : c_Lat S g) (hk : k < sN S 29) (ht : t ≤ sN S 2) (hj : j ≤ t) (hz : c_RR 113 (sN S 2) (pl_Zf (sp_DE S k) X t j) g) (h : c_RR 114 (sN S 2) (X 1) g) :
    ∃ g', f_X6_pass g 112 (72 + 8 * k) (nI t) (nI (nd t j)) x4 = some g' ∧ m_RF (fun m => m = 113 ∨ m = 114) g g' ∧ c_RR 113 (sN S 2) (pl_Zf (sp_DE S k) (pl_n (sp_DE S k) (sN S 2) a b t j X) t (j + 1)) g' ∧ c_RR 114 (sN S 2) (pl_n (sp_DE S k) (sN S 2) a b t j X 1) g' := by
  have h12 := wf_12 hW
  have h4 := wf_4 hW
  have hn := c_Sh_k (k := k) (by omega)
  have hl := nd_lt (t := t) (j := j) (by omega) hj
  have ed : g.1 (72 + 8 * k + 7) (nd t j) = sp_D S k t j := (hL.2 k hk t j ht hj).2.2.2.2
  have hE3 : ¬ sp_DE S k 1 t j = 3 := sp_DE_3 t j
  have hEE : sp_DE S k 1 t j = sp_E S k t j := rfl
  have hDD : sp_DE S k 0 t j = sp_D S k t j := rfl
  unfold f_X6_pass
  rw [es_2 hn, Option.bind_some, es_b1 hn, Option.bind_some, es_a7 hn hl, Option.bind_some, ed]
  by_cases d3 : sp_D S k t j = 3
  · rw [if_pos d3]
    have d3' : sp_DE S k 0 t j = 3 := d3
    have z0 : pl_Zf (sp_DE S k) X t j t j = X 0 t j := if_neg (by omega)
    have q0 := hz t j ht hj
    rw [z0] at q0
    have q1 := h t j ht hj
    have r1 := c_RR_w (v := X 0 t j) (x := lN (X 1 t j + X 0 t j)) h ht hj rfl
    generalize hg1 : ((g.1, ob_upL g.2 114 (nd t j) (lN (X 1 t j + X 0 t j))) : ob_St) = g1 at r1
    have g11 : g1.1 = g.1 := by rw [← hg1]
    have g12 : ∀ m, m ≠ 114 → g1.2 m = g.2 m := fun m hm => by rw [← hg1]; exact pu_upL_ne hm
    generalize hg2 : ((g1.1, ob_upL g1.2 113 (nd t j) 0) : ob_St) = g2
    have g21 : g2.1 = g.1 := by rw [← hg2]; exact g11
    have g22 : ∀ m, m ≠ 113 → g2.2 m = g1.2 m := fun m hm => by rw [← hg2]; exact pu_upL_ne hm
    have RF : m_RF (fun m => m = 113 ∨ m = 114) g g2 := ⟨g21, fun m hm => by rw [g22 m (by omega), g12 m (by omega)]⟩
    have hz2 : c_RR 113 (sN S 2) (pl_Zf (sp_DE S k) X t (j + 1)) g2 := by
      intro t' j' ht' hj'
      rw [← hg2]
      show ob_upL g1.2 113 (nd t j) 0 113 (nd t' j') = _
      rw [pu_upL_eq, g12 113 (by omega)]
      by_cases e : t' = t ∧ j' = j
      · obtain ⟨rfl, rfl⟩ := e
        rw [pu_updL_eq]
        unfold pl_Zf
        rw [if_pos ⟨d3, by omega⟩]
        rfl
      · rw [pu_updL_ne (fun q => e (nd_inj hj' hj q)), hz t' j' ht' hj']
        unfold pl_Zf
        by_cases c : sp_DE S k 0 t' j' = 3 ∧ (t' < t ∨ t' = t ∧ j' < j)
        · rw [if_pos c, if_pos ⟨c.1, by omega⟩]
        · rw [if_neg c, if_neg (fun z => c ⟨z.1, by omega⟩)]
    obtain ⟨g3, o1, o2, o3, o4⟩ := c_pass35 hby hW (c_M_RF RF hM hW) (c_Lat_RF RF (fun m hm => by omega) hL hW) hk ht hj hz2 (c_RR_f r1 (g22 114 (by omega)))
    refine ⟨g3, ?_, ⟨o2.1.trans g21, fun m hm => (o2.2 m hm).trans (RF.2 m hm)⟩, ?_, ?_⟩
    · rw [ev_r112_2, Option.bind_some, ev_a114 hl, Option.bind_some, ev_r112_1, Option.bind_some, ev_a113 hl, Option.bind_some, q0, q1, lN_add, ev_w114 hl, Option.bind_some, Option.bind_some, hg1, ev_w113 hl, Option.bind_some, hg2]
      exact o1
    · refine c_RR_c o3 (fun t' j' ht' hj' => ?_)
      have z1 : pl_Zf (sp_DE S k) X t (j + 1) t j = 0 := if_pos ⟨d3, by omega⟩
      have s1 : (if (sp_D S k t j = 0 ∨ sp_D S k t j = 3) ∧ t < sN S 2 then mv2 (pl_Zf (sp_DE S k) X t (j + 1)) t j (a t) (b t) else pl_Zf (sp_DE S k) X t (j + 1)) t' j' = pl_Zf (sp_DE S k) X t (j + 1) t' j' := by
        split
        · unfold mv2
          rw [z1, Nat.zero_mul, Nat.zero_mul]
          unfold ad2
          split <;> split <;> rfl
        · rfl
      rw [s1]
      have s2 : pl_n (sp_DE S k) (sN S 2) a b t j X 0 t' j' = X 0 t' j' := by
        rcases Nat.lt_or_ge t t' with q | q
        · unfold pl_n
          rw [pl_s_far (Or.inl (by omega)) q, pl_s_far (Or.inr d3') q]
        · exact pl_n_old q (by omega)
      unfold pl_Zf
      rw [s2]
    · refine c_RR_c o4 (fun t' j' ht' hj' => ?_)
      have s0 : ∀ t'' j'', ad2 (X 1) t j (X 0 t j) t'' j'' = pl_s (sp_DE S k) (sN S 2) a b 0 t j X 1 t'' j'' := by
        intro t'' j''
        unfold pl_s
        rw [if_pos d3', pl_ad2]
      have s0' : ad2 (X 1) t j (X 0 t j) = pl_s (sp_DE S k) (sN S 2) a b 0 t j X 1 := funext fun t'' => funext fun j'' => s0 t'' j''
      rw [s0']
      unfold pl_n
      generalize pl_s (sp_DE S k) (sN S 2) a b 0 t j X = X1
      show _ = pl_s (sp_DE S k) (sN S 2) a b 1 t j X1 1 t' j'
      unfold pl_s
      rw [if_neg hE3, hEE]
      split
      · rw [pl_mv2]
      · rfl
  · rw [if_neg d3]
    obtain ⟨g3, o1, o2, o3, o4⟩ := c_pass35 hby hW hM hL hk ht hj hz h
    refine ⟨g3, o1, o2, c_RR_c o3 (fun t' j' ht' hj' => ?_), c_RR_c o4 (fun t' j' ht' hj' => ?_)⟩
    · have zz : ∀ (X' : Nat → Nat → Nat → Nat) t'' j'', pl_Zf (sp_DE S k) X' t (j + 1) t'' j'' = pl_Zf (sp_DE S k) X' t j t'' j'' := by
        intro X' t'' j''
        unfold pl_Zf
        by_cases c : sp_DE S k 0 t'' j'' = 3 ∧ (t'' < t ∨ t'' = t ∧ j'' < j)
        · rw [if_pos c, if_pos ⟨c.1, by omega⟩]
        · rw [if_neg c, if_neg]
          intro z
          by_cases q : t'' = t ∧ j'' = j
          · obtain ⟨rfl, rfl⟩ := q
            exact d3 z.1
          · exact c ⟨z.1, by omega⟩
      have f0 : ∀ t'' j'', t < t'' → pl_Zf (sp_DE S k) X t j t'' j'' = X 0 t'' j'' := fun t'' j'' h => if_neg (by omega)
      have z0 : pl_Zf (sp_DE S k) X t j t j = X 0 t j := if_neg (by omega)
      rw [zz]
      rcases Nat.lt_or_ge t t' with q | q
      · have e1 : pl_Zf (sp_DE S k) (pl_n (sp_DE S k) (sN S 2) a b t j X) t j t' j' = pl_n (sp_DE S k) (sN S 2) a b t j X 0 t' j' := if_neg (by omega)
        rw [e1]
        unfold pl_n
        rw [pl_s_far (Or.inl (by omega)) q]
        unfold pl_s
        rw [if_neg (show ¬ sp_DE S k 0 t j = 3 from d3), hDD]
        by_cases c : sp_D S k t j = 0 ∧ t < sN S 2
        · rw [if_pos c, if_pos ⟨Or.inl c.1, c.2⟩, pl_mv2]
          unfold mv2 ad2
          rw [z0, f0 t' j' q]
        · rw [if_neg c, if_neg (fun z => c ⟨z.1.resolve_right d3, z.2⟩)]
          exact f0 t' j' q
      · have e1 : pl_Zf (sp_DE S k) (pl_n (sp_DE S k) (sN S 2) a b t j X) t j t' j' = pl_Zf (sp_DE S k) X t j t' j' := by
          unfold pl_Zf
          rw [pl_n_old q (by omega)]
        rw [e1]
        split
        · unfold mv2
          show ad2 _ _ _ _ t' j' = _
          unfold ad2
          rw [if_neg (by omega), if_neg (by omega)]
        · rfl
    · have s0' : X 1 = pl_s (sp_DE S k) (sN S 2) a b 0 t j X 1 := by
        funext t'' j''
        unfold pl_s
        rw [if_neg (show ¬ sp_DE S k 0 t j = 3 from d3)]
        split
        · unfold pl_mv
          rw [pl_ad_ne (by omega), pl_ad_ne (by omega)]
        · rfl
      rw [s0']
      unfold pl_n
      generalize pl_s (sp_DE S k) (sN S 2) a b 0 t j X = X1
      show _ = pl_s (sp_DE S k) (sN S 2) a b 1 t j X1 1 t' j'
      unfold pl_s
      rw [if_neg hE3, hEE]
      split
      · rw [pl_mv2]
      · rfl
