/-! the class fills a sheet -/
theorem pu_b {α β : Type} {x : Option α} {a : α} {f : α → Option β} (h : x = some a) : x.bind f = f a := by rw [h]; rfl
theorem c_C_fr {n k : Nat} {S : Nat → Int32} {g g' : ob_St} (h : g'.1 n = g.1 n) (hc : c_C n S k g) : c_C n S k g' := by
  unfold c_C at hc ⊢
  rw [h]
  exact hc
theorem c_M_fr {b : Nat} {S : Nat → Int32} {g g' : ob_St} (hW : sN S 29 ≤ 4) (h : ∀ m, b ≤ m → m < b + 8 → g'.1 m = g.1 m) (hM : c_M b S g) : c_M b S g' := by
  obtain ⟨a1, a2, a3, a4, a5, a6⟩ := hM
  have e0 := h b (by omega) (by omega)
  have e1 := h (b + 1) (by omega) (by omega)
  have e2 := h (b + 2) (by omega) (by omega)
  refine ⟨by rw [e0]; exact a1, by rw [e0]; exact a2, by rw [e0]; exact a3, by rw [e0]; exact a4, fun t ht => ?_, fun k hk => ?_⟩
  · rw [e1, e2]; exact a5 t ht
  · exact c_C_fr (h (b + 4 + k) (by omega) (by omega)) (a6 k hk)
theorem c_bar {S : Nat → Int32} {g : ob_St} {n c k t j : Nat} (hn : c_Sh n) (hc : ob_kd c = 1) (hW : sp_WF S) (hM : c_M 24 S g) (hP : c_Pr S g) (ho : sp_WO S k)
    (h4 : g.1 c 4 = sp_o S k 4) (h5 : g.1 c 5 = sp_o S k 5) (h6 : g.1 c 6 = sp_o S k 6) (h7 : g.1 c 7 = sp_o S k 7) (h8 : g.1 c 8 = sp_o S k 8) (ht : t ≤ sN S 2) (hj : j ≤ t) (fr : Int32) (hnc : c < 67)
    (pl hv py : Int64) (pd : Int32) (epl : g.2 (n + 3) (nd t j) = pl) (epd : g.1 (n + 4) (nd t j) = pd) (epy : g.2 (n + 1) (nd t j) = py) (ehv : sp_hd S (fun t j => g.2 (n + 6) (nd t j)) t j = hv) :
    f_X3_bar g 67 n c (nI t) (nI (nd t j)) (if sp_may S fr t = true then 1 else 0) =
      some (ob_up g.1 (n + 7) (nd t j) (if sp_o S k 4 = 0 then pd else sp_vd S k fr t j hv py), ob_upL g.2 (n + 6) (nd t j) (if sp_o S k 4 = 0 then pl else sp_vw S k fr t j pl hv py)) := by
  have h12 := wf_12 hW
  have hl := nd_lt (t := t) (j := j) (by omega) hj
  have hk := es_k hn
  have hn' : 72 ≤ n := by unfold c_Sh at hn; omega
  have dec := c_decide (g := g) (p := n + 5) (r := n + 6) (d := n + 7) (c := c) (k := k) hk.2.2.2.1.1 hk.2.2.2.1.2 hk.2.2.2.2.1 hk.2.2.2.2.2 (es_b0 hn) (es_b1 hn) hc hW hM hP.1 ho h8 ht hj fr hv py ehv
  have held := c_heldOf (g := g) (r := n + 6) hk.2.2.2.1.1 hk.2.2.2.1.2 hW hM ht hj
  rw [ehv] at held
  have tch := c_isTouched (g := g) (c := c) (k := k) hc hW hP h4 h5 h6 ht hj
  have sc := c_scaleAt hW hM hP.1 ht
  unfold f_X3_bar
  rw [es_2 hn, Option.bind_some, pu_gI hc, Option.bind_some, h4]
  by_cases c0 : sp_o S k 4 = 0
  · rw [if_pos c0, if_pos c0, if_pos c0, es_b0 hn, es_b1 hn, es_1 hn]
    simp only [Option.bind_some, es_p0 hn, es_p1 hn, es_a3 hn hl, es_w6 hn hl, es_a4 hn hl, es_w7 hn hl, epl, epd]
  rw [if_neg c0, if_neg c0, if_neg c0, tch]
  simp only [ev_ck67, Option.bind_some]
  rw [if_neg c0, m_may1]
  have hb := ho.2.2.2.2.1
  have hb12 : sp_o S k 4 = 1 ∨ sp_o S k 4 = 2 := by
    rw [hb.1] at c0 ⊢
    rcases (by omega : sN S (30 + 10 * k + 4) = 0 ∨ sN S (30 + 10 * k + 4) = 1 ∨ sN S (30 + 10 * k + 4) = 2) with e | e | e
    · exact absurd (by rw [e]; rfl) c0
    · exact Or.inl (by rw [e]; rfl)
    · exact Or.inr (by rw [e]; rfl)
  unfold sp_vd sp_vw
  by_cases c2 : sp_tch S k t j = true
  · rw [if_pos c2]
    have fin : ∀ v : Int64, B_X3_bar_101 g c (nI (nd t j)) (n + 5) (n + 6) (nI (nd t j)) v = some (ob_up g.1 (n + 7) (nd t j) (if sp_o S k 4 = 1 then 2 else 3), ob_upL g.2 (n + 6) (nd t j) v) := by
      intro v
      unfold B_X3_bar_101
      rw [es_w6 hn hl, Option.bind_some, es_b1 hn, Option.bind_some, pu_gI hc, Option.bind_some]
      show (if g.1 c 4 = 1 then _ else _) = _
      rw [h4]
      simp only [es_w7 hn hl, Option.bind_some]
      split <;> rfl
    simp only [es_b0 hn, es_1 hn, es_p0 hn, es_a3 hn hl, epl, pu_gI hc, h4, h7, sc, ev_ck67, Option.bind_some, fin]
    rcases hb12 with e | e
    · simp only [e, c2, if_true]
      rfl
    · simp only [e, c2, if_true]
      rfl
  · rw [if_neg c2]
    simp only [es_b0 hn, es_b1 hn, es_0 hn, es_a1 hn hl, epy, pu_gI hc, h4, held, dec, es_w6 hn hl, es_w7 hn hl, ev_ck67, Option.bind_some]
    rcases hb12 with e | e
    · simp only [e, c2, Bool.false_eq_true, and_false, if_false]
      rfl
    · simp only [e, c2, Bool.false_eq_true, and_false, if_false]
      rfl
theorem sp_vl_0 {S : Nat → Int32} {k : Nat} {fr : Int32} {P : Nat → Nat → Int64} (h0 : sp_o S k 4 = 0) : ∀ d t j, t + d = sN S 2 → sp_vl S k fr P t j = sp_pl S k fr P t j := by
  have hv : ∀ t j pl hv py, sp_vw S k fr t j pl hv py = sp_dw S k fr t hv py := by
    intro t j pl hv py
    unfold sp_vw
    rw [h0]
    rfl
  intro d
  induction d with
  | zero =>
    intro t j ht
    rw [sp_vl_eq (by omega), sp_pl_eq (by omega), hv, sp_hd_loc (by omega) (fun h => by omega)]
  | succ d ih =>
    intro t j ht
    rw [sp_vl_eq (by omega), hv, sp_pl_eq (by omega), sp_hd_loc (by omega) (fun h i => ih (t + 1) i (by omega))]
theorem sp_de_0 {S : Nat → Int32} {k : Nat} {fr : Int32} {P : Nat → Nat → Int64} (h0 : sp_o S k 4 = 0) {t j : Nat} (ht : t ≤ sN S 2) : sp_de S k fr P t j = sp_pd S k fr P t j := by
  unfold sp_de sp_pd sp_vd
  rw [sp_hd_loc (R' := sp_pl S k fr P) ht (fun h i => sp_vl_0 h0 (sN S 2 - (t + 1)) (t + 1) i (by omega)), h0]
  rfl
/-- what stands at a node of a sheet -/
def c_H (g : ob_St) (n : Nat) (S : Nat → Int32) (k : Nat) (fr : Int32) (P : Nat → Nat → Int64) (t j : Nat) : Prop :=
  g.2 (n + 1) (nd t j) = P t j ∧ g.2 (n + 3) (nd t j) = sp_pl S k fr P t j ∧ g.1 (n + 4) (nd t j) = sp_pd S k fr P t j ∧ g.2 (n + 6) (nd t j) = sp_vl S k fr P t j ∧ g.1 (n + 7) (nd t j) = sp_de S k fr P t j
def c_F (n : Nat) (g0 g : ob_St) : Prop := (∀ m, m ≠ n + 4 → m ≠ n + 7 → g.1 m = g0.1 m) ∧ (∀ m, m ≠ n + 1 → m ≠ n + 3 → m ≠ n + 6 → g.2 m = g0.2 m)
def c_J (S : Nat → Int32) (g0 g : ob_St) (n k : Nat) (fr : Int32) (P : Nat → Nat → Int64) (T j : Nat) : Prop :=
  c_F n g0 g ∧ ∀ t' j', t' ≤ sN S 2 → j' ≤ t' → (T ≤ t' ∨ t' + 1 = T ∧ j' < j) → c_H g n S k fr P t' j'
theorem c_nodeStep {S : Nat → Int32} {g0 g : ob_St} {n k t j s : Nat} {fr fc : Int32} {P : Nat → Nat → Int64} (hn : c_Sh n) (hnk : n = 72 + 8 * k ∨ n = 104) (hW : sp_WF S) (hM0 : c_M 24 S g0) (hP0 : c_Pr S g0) (hk : k < sN S 29) (hs : s ≤ 999) (hs3 : sp_o S k 0 = 3 → s < sN S (30 + 10 * k + 2))
    (ht : t ≤ sN S 2) (hj : j ≤ t) (eP : P = sp_pay S (c_V g0) k (nI s)) (h : c_J S g0 g n k fr P (t + 1) j) (rec : ob_St → Int32 → Option ob_St) :
    ∃ g', c_J S g0 g' n k fr P (t + 1) (j + 1) ∧ Lb_X3_fill_27 rec g 67 n (28 + k) (nI s) fc (nI t) (if sp_may S fr t = true then 1 else 0) (nI j) = rec g' (nI (j + 1)) := by
  obtain ⟨⟨a1, a2⟩, a4⟩ := h
  have h12 := wf_12 hW
  have h4 := wf_4 hW
  have ho := wf_o hW hk
  have hl := nd_lt (t := t) (j := j) (by omega) hj
  have hkk := es_k hn
  have hkc := ew_kc (k := k) (by omega)
  have hn72 : 72 ≤ n := by unfold c_Sh at hn; omega
  have hnV : n = 72 ∨ n = 80 ∨ n = 88 ∨ n = 96 ∨ n = 104 := hn
  have hM : c_M 24 S g := c_M_fr h4 (fun m h1 h2 => a1 m (by omega) (by omega)) hM0
  have hP : c_Pr S g := by
    refine ⟨fun i hi => ?_, fun t j h1 h2 => ?_⟩
    · rw [a2 70 (by omega) (by omega) (by omega)]; exact hP0.1 i hi
    · rw [a1 68 (by omega) (by omega), a1 69 (by omega) (by omega)]; exact hP0.2 t j h1 h2
  have hC := hM.2.2.2.2.2 k hk
  have hp : sp_pay S (c_V g) k (nI s) t j = P t j := by
    rw [eP]
    refine sp_pay_V ho (fun q hq => ?_)
    unfold c_V
    rw [a2 (72 + 8 * q + 6) (by omega) (by omega) (by omega)]
  have hpay := c_payOf (g := g) (c := 28 + k) (s := s) hkc hW hP hk hC.1 hC.2.2.1 hs hs3 ht hj
  rw [hp] at hpay
  have hpl : sp_hd S (fun t j => g.2 (n + 3) (nd t j)) t j = sp_hd S (sp_pl S k fr P) t j := by
    refine sp_hd_loc2 ht hj (fun h i hi => ?_)
    exact (a4 (t + 1) i (by omega) hi (Or.inl (by omega))).2.1
  have hvl : sp_hd S (fun t j => g.2 (n + 6) (nd t j)) t j = sp_hd S (sp_vl S k fr P) t j := by
    refine sp_hd_loc2 ht hj (fun h i hi => ?_)
    exact (a4 (t + 1) i (by omega) hi (Or.inl (by omega))).2.2.2.1
  generalize hx : nd t j = x at *
  generalize hg8 : ((g.1, ob_upL g.2 (n + 1) x (P t j)) : ob_St) = g8
  have f8 : g8.1 = g.1 := by rw [← hg8]
  have f8b : g8.2 = ob_upL g.2 (n + 1) x (P t j) := by rw [← hg8]
  have hM8 : c_M 24 S g8 := c_M_fr h4 (fun m h1 h2 => by rw [f8]) hM
  have hP8 : c_Pr S g8 := by
    refine ⟨fun i hi => ?_, fun t j h1 h2 => ?_⟩
    · rw [f8b, pu_upL_ne (by omega)]; exact hP.1 i hi
    · rw [f8]; exact hP.2 t j h1 h2
  have e8' : ob_upL g.2 (n + 1) x (P t j) (n + 1) x = P t j := by rw [pu_upL_eq, pu_updL_eq]
  have e8py : g8.2 (n + 1) x = P t j := by rw [f8b, pu_upL_eq, pu_updL_eq]
  have dec := c_decide (g := g8) (p := n + 2) (r := n + 3) (d := n + 4) (c := 28 + k) (k := k) (t := t) (j := j) hkk.2.1.1 hkk.2.1.2 hkk.2.2.1.1 hkk.2.2.1.2 (es_p0 hn) (es_p1 hn) hkc hW hM8 hP8.1 ho (by rw [f8]; exact hC.2.2.2.2.2.2.2.2.1) ht hj fr
    (sp_hd S (sp_pl S k fr P) t j) (P t j) (by rw [f8b, ← hpl]; simp only [pu_upL_ne (show n + 3 ≠ n + 1 by omega)])
  rw [hx, ← sp_pl_eq ht] at dec
  generalize hg12 : ((ob_up g8.1 (n + 4) x (sp_dd S k fr t (sp_hd S (sp_pl S k fr P) t j) (P t j)), ob_upL g8.2 (n + 3) x (sp_pl S k fr P t j)) : ob_St) = g12 at dec
  have f12 : g12.1 = ob_up g.1 (n + 4) x (sp_pd S k fr P t j) := by rw [← hg12, f8]; rfl
  have f12b : g12.2 = ob_upL (ob_upL g.2 (n + 1) x (P t j)) (n + 3) x (sp_pl S k fr P t j) := by rw [← hg12, f8b]
  have hM12 : c_M 24 S g12 := c_M_fr h4 (fun m h1 h2 => by rw [f12, pu_up_ne (by omega)]) hM
  have hP12 : c_Pr S g12 := by
    refine ⟨fun i hi => ?_, fun t j h1 h2 => ?_⟩
    · rw [f12b, pu_upL_ne (by omega), pu_upL_ne (by omega)]; exact hP.1 i hi
    · rw [f12, pu_up_ne (by omega), pu_up_ne (by omega)]; exact hP.2 t j h1 h2
  have hC12 : c_C (28 + k) S k g12 := c_C_fr (g := g) (by rw [f12, pu_up_ne (by omega)]) hC
  have bar := c_bar (g := g12) (n := n) (c := 28 + k) (k := k) (t := t) (j := j) hn hkc hW hM12 hP12 ho hC12.2.2.2.2.1 hC12.2.2.2.2.2.1 hC12.2.2.2.2.2.2.1 hC12.2.2.2.2.2.2.2.1 hC12.2.2.2.2.2.2.2.2.1 ht hj fr (by omega)
    (sp_pl S k fr P t j) (sp_hd S (sp_vl S k fr P) t j) (P t j) (sp_pd S k fr P t j)
    (by rw [hx, f12b, pu_upL_eq, pu_updL_eq]) (by rw [hx, f12, pu_up_eq, pu_upd_eq]) (by rw [hx, f12b, pu_upL_ne (by omega), pu_upL_eq, pu_updL_eq])
    (by rw [f12b, ← hvl]; simp only [pu_upL_ne (show n + 6 ≠ n + 1 by omega), pu_upL_ne (show n + 6 ≠ n + 3 by omega)])
  have evd : (if sp_o S k 4 = 0 then sp_pd S k fr P t j else sp_vd S k fr t j (sp_hd S (sp_vl S k fr P) t j) (P t j)) = sp_de S k fr P t j := by
    by_cases c0 : sp_o S k 4 = 0
    · rw [if_pos c0, sp_de_0 c0 ht]
    · rw [if_neg c0]; rfl
  have evw : (if sp_o S k 4 = 0 then sp_pl S k fr P t j else sp_vw S k fr t j (sp_pl S k fr P t j) (sp_hd S (sp_vl S k fr P) t j) (P t j)) = sp_vl S k fr P t j := by
    by_cases c0 : sp_o S k 4 = 0
    · rw [if_pos c0, sp_vl_0 c0 (sN S 2 - t) t j (by omega)]
    · rw [if_neg c0, sp_vl_eq ht]
  rw [hx, evd, evw, f12, f12b] at bar
  refine ⟨(ob_up (ob_up g.1 (n + 4) x (sp_pd S k fr P t j)) (n + 7) x (sp_de S k fr P t j), ob_upL (ob_upL (ob_upL g.2 (n + 1) x (P t j)) (n + 3) x (sp_pl S k fr P t j)) (n + 6) x (sp_vl S k fr P t j)), And.symm ⟨?_, ?_⟩⟩
  · unfold Lb_X3_fill_27
    rw [if_neg (nI_nlt (by omega) (by omega)), c_nodeAt (by omega), hx]
    simp only [Option.bind_some, es_0 hn, es_1 hn, ev_ck67, c_scaleAt hW hM hP.1 ht, hpay, es_w1 hn hl, hg8, es_a1 hn hl, e8py, e8', dec]
    rw [bar, Option.bind_some, nI_1]
  · refine ⟨⟨?_, ?_⟩, ?_⟩
    · intro m m1 m2
      show ob_up (ob_up g.1 (n + 4) x _) (n + 7) x _ m = _
      rw [pu_up_ne m2, pu_up_ne m1, a1 m m1 m2]
    · intro m m1 m2 m3
      show ob_upL (ob_upL (ob_upL g.2 (n + 1) x _) (n + 3) x _) (n + 6) x _ m = _
      rw [pu_upL_ne m3, pu_upL_ne m2, pu_upL_ne m1, a2 m m1 m2 m3]
    · intro t' j' ht' hj' hd
      have r1 : ∀ y, (ob_upL (ob_upL (ob_upL g.2 (n + 1) x (P t j)) (n + 3) x (sp_pl S k fr P t j)) (n + 6) x (sp_vl S k fr P t j)) (n + 1) y = vp_updL (g.2 (n + 1)) x (P t j) y := by
        intro y; rw [pu_upL_ne (by omega), pu_upL_ne (by omega), pu_upL_eq]
      have r3 : ∀ y, (ob_upL (ob_upL (ob_upL g.2 (n + 1) x (P t j)) (n + 3) x (sp_pl S k fr P t j)) (n + 6) x (sp_vl S k fr P t j)) (n + 3) y = vp_updL (g.2 (n + 3)) x (sp_pl S k fr P t j) y := by
        intro y; rw [pu_upL_ne (by omega), pu_upL_eq, pu_upL_ne (by omega)]
      have r6 : ∀ y, (ob_upL (ob_upL (ob_upL g.2 (n + 1) x (P t j)) (n + 3) x (sp_pl S k fr P t j)) (n + 6) x (sp_vl S k fr P t j)) (n + 6) y = vp_updL (g.2 (n + 6)) x (sp_vl S k fr P t j) y := by
        intro y; rw [pu_upL_eq, pu_upL_ne (by omega), pu_upL_ne (by omega)]
      have r4 : ∀ y, (ob_up (ob_up g.1 (n + 4) x (sp_pd S k fr P t j)) (n + 7) x (sp_de S k fr P t j)) (n + 4) y = upd (g.1 (n + 4)) x (sp_pd S k fr P t j) y := by
        intro y; rw [pu_up_ne (by omega), pu_up_eq]
      have r7 : ∀ y, (ob_up (ob_up g.1 (n + 4) x (sp_pd S k fr P t j)) (n + 7) x (sp_de S k fr P t j)) (n + 7) y = upd (g.1 (n + 7)) x (sp_de S k fr P t j) y := by
        intro y; rw [pu_up_eq, pu_up_ne (by omega)]
      unfold c_H
      simp only [r1, r3, r6, r4, r7]
      by_cases hc : t' = t ∧ j' = j
      · obtain ⟨rfl, rfl⟩ := hc
        rw [hx, pu_updL_eq, pu_updL_eq, pu_updL_eq, pu_upd_eq, pu_upd_eq]
        exact ⟨rfl, rfl, rfl, rfl, rfl⟩
      · have hne : nd t' j' ≠ x := by
          intro e
          rw [← hx] at e
          exact hc (nd_inj hj' hj e)
        rw [pu_updL_ne hne, pu_updL_ne hne, pu_updL_ne hne, pu_upd_ne hne, pu_upd_ne hne]
        exact a4 t' j' ht' hj' (by omega)
theorem c_fill {S : Nat → Int32} {g : ob_St} {n k s f : Nat} {P : Nat → Nat → Int64} (hn : c_Sh n) (hnk : n = 72 + 8 * k ∨ n = 104) (hW : sp_WF S) (hM : c_M 24 S g) (hP : c_Pr S g) (hk : k < sN S 29) (hs : s ≤ 999) (hs3 : sp_o S k 0 = 3 → s < sN S (30 + 10 * k + 2))
    (hf : f ≤ 12 ∨ f = 99) (eP : P = sp_pay S (c_V g) k (nI s)) :
    ∃ g', f_X3_fill g 67 n (28 + k) (nI s) (c_fr (nI f)) = some g' ∧ c_F n g g' ∧ ∀ t j, t ≤ sN S 2 → j ≤ t → c_H g' n S k (nI f) P t j := by
  have h12 := wf_12 hW
  have hn72 : 72 ≤ n := by unfold c_Sh at hn; omega
  have h5 : ∀ s : ob_St, c_F n g s → c_M 24 S s := fun s h => c_M_fr (wf_4 hW) (fun m h1 h2 => h.1 m (by omega) (by omega)) hM
  have inner : ∀ (t : Nat) (q : ob_St), t ≤ sN S 2 → c_J S g q n k (nI f) P (t + 1) 0 → ∃ q', L_X3_fill_27 67 n (28 + k) (nI s) (c_fr (nI f)) (nI t) (if sp_may S (nI f) t = true then 1 else 0) ob_FU q (nI 0) = some q' ∧ c_J S g q' n k (nI f) P t 0 := by
    intro t q ht hq
    exact pu_up (fun m q i => L_X3_fill_27 67 n (28 + k) (nI s) (c_fr (nI f)) (nI t) (if sp_may S (nI f) t = true then 1 else 0) m q (nI i)) (fun i q => c_J S g q n k (nI f) P (t + 1) i) (t + 1) (fun r => c_J S g r n k (nI f) P t 0)
      (fun m q hI => ⟨q, by
        show (if nI t < nI (t + 1) then _ else _) = _
        rw [if_pos (nI_lt (by omega) (by omega))], hI.1, fun t' j' h1 h2 h3 => hI.2 t' j' h1 h2 (by omega)⟩)
      (fun m i q hi hI => by
        obtain ⟨g', h1, h2⟩ := c_nodeStep (fc := c_fr (nI f)) hn hnk hW hM hP hk hs hs3 ht (by omega : i ≤ t) eP hI (L_X3_fill_27 67 n (28 + k) (nI s) (c_fr (nI f)) (nI t) (if sp_may S (nI f) t = true then 1 else 0) m)
        exact ⟨g', h1, h2⟩)
      (t + 1) 0 ob_FU q (by omega) (by unfold ob_FU; omega) hq
  have := pu_dn (fun m q i => L_X3_fill_9 67 n (28 + k) (nI s) (c_fr (nI f)) m q (nI i)) (fun m q => L_X3_fill_9 67 n (28 + k) (nI s) (c_fr (nI f)) m q (nI 0 + -1)) (fun T q => T ≤ sN S 2 + 1 ∧ c_J S g q n k (nI f) P T 0) (fun r => c_J S g r n k (nI f) P 0 0)
    (fun m q hI => ⟨q, by
      show Lb_X3_fill_9 _ _ _ _ _ _ _ _ = _
      unfold Lb_X3_fill_9
      have hlt : nI 0 + -1 < 0 := by decide
      rw [if_pos hlt], hI.2⟩)
    (fun m q hI => by
      obtain ⟨q', h1, h2⟩ := inner 0 q (by omega) hI.2
      refine ⟨q', ⟨by omega, h2⟩, ?_⟩
      show Lb_X3_fill_9 _ _ _ _ _ _ _ _ = _
      unfold Lb_X3_fill_9
      rw [if_neg (nI_pos (by omega)), c_may hW (h5 q hI.2.1) (by omega) hf, ev_ck67, Option.bind_some]
      exact pu_b h1)
    (fun m i q hI => by
      obtain ⟨q', h1, h2⟩ := inner (i + 1) q (by omega) hI.2
      refine ⟨q', ⟨by omega, h2⟩, ?_⟩
      show Lb_X3_fill_9 _ _ _ _ _ _ _ _ = _
      unfold Lb_X3_fill_9
      rw [if_neg (nI_pos (by omega)), c_may hW (h5 q hI.2.1) (by omega) hf, ev_ck67, Option.bind_some]
      refine (pu_b h1).trans ?_
      rw [pu_pred])
    (sN S 2) ob_FU g (by unfold ob_FU; omega) ⟨Nat.le_refl _, ⟨fun _ _ _ => rfl, fun _ _ _ _ => rfl⟩, fun t' j' h1 h2 h3 => by omega⟩
  obtain ⟨r, h1, h2⟩ := this
  refine ⟨r, ?_, h2.1, fun t j ht hj => h2.2 t j ht hj (Or.inl (by omega))⟩
  have h5' : g.1 24 5 = nI (sN S 2) := hM.2.2.1.trans (wf_2 hW)
  unfold f_X3_fill
  rw [ev_r67_0, Option.bind_some, ev_g24, Option.bind_some, h5']
  exact pu_b h1
