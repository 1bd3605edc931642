/-! BY PLAN: the reference's ways, ending, life -/
theorem m_LF_RF {g g' : ob_St} (h : m_LF g g') : m_RF (fun m => m = 14 ∨ m = 15 ∨ m = 16) g g' := ⟨h.1, fun m hm => h.2 m (by omega) (by omega) (by omega)⟩
theorem m_LF_tr {a b c : ob_St} (h : m_LF a b) (h' : m_LF b c) : m_LF a c := ⟨h'.1.trans h.1, fun m h1 h2 h3 => (h'.2 m h1 h2 h3).trans (h.2 m h1 h2 h3)⟩
theorem m_goesZ {g : ob_St} {x1 : Int32} : ∃ g', L_X12_goes_6 0 x1 ob_FU g (nI 0) = some g' ∧ m_LF g g' ∧ ∀ i, i < 338 → g'.2 14 i = 0 ∧ g'.2 15 i = 0 := by
  exact pu_up (fun f s i => L_X12_goes_6 0 x1 f s (nI i)) (fun i s => m_LF g s ∧ ∀ q, q < i → s.2 14 q = 0 ∧ s.2 15 q = 0) 338
    (fun g' => m_LF g g' ∧ ∀ i, i < 338 → g'.2 14 i = 0 ∧ g'.2 15 i = 0)
    (fun f s hI => ⟨s, by
      show Lb_X12_goes_6 _ _ _ _ _ = _
      unfold Lb_X12_goes_6
      exact if_pos (nI_le (a := 338) (b := 338) (by omega) (by omega)), hI⟩)
    (fun f i s hi hI => by
      refine ⟨(s.1, ob_upL (ob_upL s.2 14 i 0) 15 i 0), ⟨⟨hI.1.1, fun m h1 h2 h3 => ?_⟩, fun q hq => ?_⟩, ?_⟩
      · show ob_upL (ob_upL s.2 14 i 0) 15 i 0 m = _
        rw [pu_upL_ne h2, pu_upL_ne h1, hI.1.2 m h1 h2 h3]
      · show ob_upL (ob_upL s.2 14 i 0) 15 i 0 14 q = 0 ∧ ob_upL (ob_upL s.2 14 i 0) 15 i 0 15 q = 0
        rw [pu_upL_ne (by omega), pu_upL_eq, pu_upL_eq, pu_upL_ne (by omega)]
        by_cases e : q = i
        · subst e
          rw [pu_updL_eq, pu_updL_eq]
          exact ⟨rfl, rfl⟩
        · rw [pu_updL_ne e, pu_updL_ne e]
          exact hI.2 q (by omega)
      · show Lb_X12_goes_6 _ _ _ _ _ = _
        unfold Lb_X12_goes_6
        have h338 : ¬ (338 : Int32) ≤ nI i := nI_ge (a := i) (b := 338) (by omega) (by omega)
        rw [if_neg h338, ev_r0_25, Option.bind_some, ev_w14 hi, Option.bind_some, ev_r0_26, Option.bind_some, ev_w15 hi, Option.bind_some, nI_1])
    338 0 ob_FU g (by omega) (by unfold ob_FU; omega) ⟨⟨rfl, fun _ _ _ _ => rfl⟩, fun q hq => by omega⟩
theorem m_goesE {g : ob_St} {x1 : Int32} : ∃ g', L_X12_goes_35 0 x1 ob_FU g (nI 0) = some g' ∧ g'.1 = g.1 ∧ (∀ m, m ≠ 16 → g'.2 m = g.2 m) ∧ ∀ i, i < 52 → g'.2 16 i = 0 := by
  exact pu_up (fun f s i => L_X12_goes_35 0 x1 f s (nI i)) (fun i s => s.1 = g.1 ∧ (∀ m, m ≠ 16 → s.2 m = g.2 m) ∧ ∀ q, q < i → s.2 16 q = 0) 52
    (fun g' => g'.1 = g.1 ∧ (∀ m, m ≠ 16 → g'.2 m = g.2 m) ∧ ∀ i, i < 52 → g'.2 16 i = 0)
    (fun f s hI => ⟨s, by
      show Lb_X12_goes_35 _ _ _ _ _ = _
      unfold Lb_X12_goes_35
      exact if_pos (nI_le (a := 52) (b := 52) (by omega) (by omega)), hI⟩)
    (fun f i s hi hI => by
      refine ⟨(s.1, ob_upL s.2 16 i 0), ⟨hI.1, fun m h1 => ?_, fun q hq => ?_⟩, ?_⟩
      · show ob_upL s.2 16 i 0 m = _
        rw [pu_upL_ne h1, hI.2.1 m h1]
      · show ob_upL s.2 16 i 0 16 q = 0
        rw [pu_upL_eq]
        by_cases e : q = i
        · subst e
          rw [pu_updL_eq]
        · rw [pu_updL_ne e]
          exact hI.2.2 q (by omega)
      · show Lb_X12_goes_35 _ _ _ _ _ = _
        unfold Lb_X12_goes_35
        have h52 : ¬ (52 : Int32) ≤ nI i := nI_ge (a := i) (b := 52) (by omega) (by omega)
        rw [if_neg h52, ev_r0_27, Option.bind_some, ev_w16 hi, Option.bind_some, nI_1])
    52 0 ob_FU g (by omega) (by unfold ob_FU; omega) ⟨rfl, fun _ _ => rfl, fun q hq => by omega⟩
def m_GE (S : Nat → Int32) (k T J : Nat) (w t : Nat) : Nat := if t < T then sp_end S k t (nI w) else if t = T then sp_en S k t (nI w) J else 0
def m_PF (S : Nat → Int32) (k : Nat) (g0 : ob_St) (T J : Nat) (X C : Nat → Nat → Nat → Nat) (s : ob_St) : Prop := m_LF g0 s ∧ m_AR s (sN S 2) X C ∧ m_ER s (sN S 2) (m_GE S k T J)
theorem m_goesL {g : ob_St} {k : Nat} (hW : sp_WF (g.1 1)) (hL : m_Laid g) (hk : k < sN (g.1 1) 29) (g2 : ob_St) (hs0 : m_PF (g.1 1) k g 0 0 (pl_S (sp_DE (g.1 1) k) (sN (g.1 1) 2) (sp_a (g.1 1)) (sp_b (g.1 1)) 0) (pl_S (sp_DE (g.1 1) k) (sN (g.1 1) 2) pl_1 pl_1 0) g2) :
    ∃ g', L_X12_goes_70 0 (nI k) ob_FU g2 (nI 0) = some g' ∧ m_PF (g.1 1) k g (sN (g.1 1) 2 + 1) 0 (sp_FW (g.1 1) k) (sp_FC (g.1 1) k) g' := by
  have h12 := wf_12 hW
  have h4 := wf_4 hW
  generalize hS : g.1 1 = S at *
  have one : ∀ t, 0 < pl_1 t := fun t => Nat.one_pos
  have inner : ∀ (t : Nat) (s : ob_St), t ≤ sN S 2 → m_PF S k g t 0 (pl_S (sp_DE S k) (sN S 2) (sp_a S) (sp_b S) t) (pl_S (sp_DE S k) (sN S 2) pl_1 pl_1 t) s → ∃ s', L_X12_goes_82 0 (nI k) (nI t) ob_FU s (nI 0) = some s' ∧ m_PF S k g (t + 1) 0 (pl_S (sp_DE S k) (sN S 2) (sp_a S) (sp_b S) (t + 1)) (pl_S (sp_DE S k) (sN S 2) pl_1 pl_1 (t + 1)) s' := by
    intro t s ht hs
    exact pu_up (fun f s i => L_X12_goes_82 0 (nI k) (nI t) f s (nI i)) (fun i s => m_PF S k g t i (pl_R (sp_DE S k) (sN S 2) (sp_a S) (sp_b S) t (pl_S (sp_DE S k) (sN S 2) (sp_a S) (sp_b S) t) i) (pl_R (sp_DE S k) (sN S 2) pl_1 pl_1 t (pl_S (sp_DE S k) (sN S 2) pl_1 pl_1 t) i) s) (t + 1)
      (fun r => m_PF S k g (t + 1) 0 (pl_S (sp_DE S k) (sN S 2) (sp_a S) (sp_b S) (t + 1)) (pl_S (sp_DE S k) (sN S 2) pl_1 pl_1 (t + 1)) r)
      (fun f s hI => ⟨s, by
        show Lb_X12_goes_82 _ _ _ _ _ _ = _
        unfold Lb_X12_goes_82
        rw [if_pos (nI_lt (by omega) (by omega))], hI.1, hI.2.1, fun w t' hw ht' => by
          rw [hI.2.2 w t' hw ht']
          unfold m_GE
          rcases Nat.lt_trichotomy t' t with h | h | h
          · rw [if_pos h, if_pos (by omega)]
          · subst h
            rw [if_neg (by omega), if_pos rfl, if_pos (by omega)]
            rfl
          · rw [if_neg (by omega), if_neg (by omega), if_neg (by omega)]
            by_cases e : t' = t + 1
            · rw [if_pos e]; rfl
            · rw [if_neg e]⟩)
      (fun f i s hi hI => by
        obtain ⟨i1, i2, i3⟩ := hI
        have hj : i ≤ t := by omega
        have e1 : s.1 1 = S := by rw [i1.1]; exact hS
        have hLs := m_Laid_RF (m_LF_RF i1) (fun m hm => by omega) hL
        have hZ : pl_Z (pl_R (sp_DE S k) (sN S 2) pl_1 pl_1 t (pl_S (sp_DE S k) (sN S 2) pl_1 pl_1 t) i) (pl_R (sp_DE S k) (sN S 2) (sp_a S) (sp_b S) t (pl_S (sp_DE S k) (sN S 2) (sp_a S) (sp_b S) t) i) := pl_Z_R one one (pl_Z_S one one t) i
        have c0 := sp_FC_bd hW (k := k) (l := 0) (by omega) ht hj
        have c1 := sp_FC_bd hW (k := k) (l := 1) (by omega) ht hj
        have lv0 := m_leaves (g := s) (k := k) (l := 0) (t := t) (j := i) (X := pl_R (sp_DE S k) (sN S 2) (sp_a S) (sp_b S) t (pl_S (sp_DE S k) (sN S 2) (sp_a S) (sp_b S) t) i) (C := pl_R (sp_DE S k) (sN S 2) pl_1 pl_1 t (pl_S (sp_DE S k) (sN S 2) pl_1 pl_1 t) i) (e := m_GE S k t i)
        rw [e1] at lv0
        obtain ⟨g3, a1, a2, a3, a4⟩ := lv0 hW hLs hk (by omega) ht hj hZ (by rw [pl_at_0 ht]; show sp_FC S k 0 t i < _; omega) i2 i3
        have e3 : g3.1 1 = S := by rw [a2.1]; exact e1
        have hL3 := m_Laid_RF (m_LF_RF a2) (fun m hm => by omega) hLs
        have x0 : m_en (sp_DE S k) (sN S 2) (pl_R (sp_DE S k) (sN S 2) (sp_a S) (sp_b S) t (pl_S (sp_DE S k) (sN S 2) (sp_a S) (sp_b S) t) i) 0 t i = m_en (sp_DE S k) (sN S 2) (sp_FW S k) 0 t i := by
          funext w
          unfold m_en
          rw [pl_at_0 ht]
          rfl
        have x1 : m_en (sp_DE S k) (sN S 2) (pl_s (sp_DE S k) (sN S 2) (sp_a S) (sp_b S) 0 t i (pl_R (sp_DE S k) (sN S 2) (sp_a S) (sp_b S) t (pl_S (sp_DE S k) (sN S 2) (sp_a S) (sp_b S) t) i)) 1 t i = m_en (sp_DE S k) (sN S 2) (sp_FW S k) 1 t i := by
          funext w
          unfold m_en
          rw [pl_at_1 sp_DE_3 hj ht]
          rfl
        have lv1 := m_leaves (g := g3) (k := k) (l := 1) (t := t) (j := i) (X := pl_s (sp_DE S k) (sN S 2) (sp_a S) (sp_b S) 0 t i (pl_R (sp_DE S k) (sN S 2) (sp_a S) (sp_b S) t (pl_S (sp_DE S k) (sN S 2) (sp_a S) (sp_b S) t) i)) (C := pl_s (sp_DE S k) (sN S 2) pl_1 pl_1 0 t i (pl_R (sp_DE S k) (sN S 2) pl_1 pl_1 t (pl_S (sp_DE S k) (sN S 2) pl_1 pl_1 t) i))
          (e := fun w t' => if t' = t then m_GE S k t i w t' + m_en (sp_DE S k) (sN S 2) (pl_R (sp_DE S k) (sN S 2) (sp_a S) (sp_b S) t (pl_S (sp_DE S k) (sN S 2) (sp_a S) (sp_b S) t) i) 0 t i w else m_GE S k t i w t')
        rw [e3] at lv1
        obtain ⟨g4, b1, b2, b3, b4⟩ := lv1 hW hL3 hk (by omega) ht hj (pl_Z_s one one hZ) (by rw [pl_at_1 sp_DE_3 hj ht]; show sp_FC S k 1 t i < _; omega) a3 a4
        refine ⟨g4, ⟨m_LF_tr i1 (m_LF_tr a2 b2), b3, fun w t' hw ht' => ?_⟩, ?_⟩
        · rw [b4 w t' hw ht', x0, x1]
          dsimp only
          by_cases e : t' = t
          · subst e
            rw [if_pos rfl, if_pos rfl]
            unfold m_GE
            rw [if_neg (Nat.lt_irrefl _), if_pos rfl, if_neg (Nat.lt_irrefl _), if_pos rfl]
            show lN (sp_en S k t' (nI w) i + m_en (sp_DE S k) (sN S 2) (sp_FW S k) 0 t' i w + m_en (sp_DE S k) (sN S 2) (sp_FW S k) 1 t' i w) = lN (sp_en S k t' (nI w) i + (if pl_e (sp_DE S k 0 t' i) (decide (t' = sN S 2)) = nI w ∧ ¬ sp_DE S k 0 t' i = 3 then sp_FW S k 0 t' i else 0) + (if pl_e (sp_DE S k 1 t' i) (decide (t' = sN S 2)) = nI w then sp_FW S k 1 t' i else 0))
            unfold m_en
            by_cases c : pl_e (sp_DE S k 1 t' i) (decide (t' = sN S 2)) = nI w
            · rw [if_pos (c := pl_e (sp_DE S k 1 t' i) (decide (t' = sN S 2)) = nI w ∧ _) ⟨c, sp_DE_3 t' i⟩, if_pos c]
            · rw [if_neg (c := pl_e (sp_DE S k 1 t' i) (decide (t' = sN S 2)) = nI w ∧ _) (fun z => c z.1), if_neg c]
          · rw [if_neg e, if_neg e]
            unfold m_GE
            by_cases c : t' < t
            · rw [if_pos c, if_pos c]
            · rw [if_neg c, if_neg e, if_neg c, if_neg e]
        · show Lb_X12_goes_82 _ _ _ _ _ _ = _
          unfold Lb_X12_goes_82
          have a1' : f_X12_leaves s 0 (nI k) 0 (nI t) (nI i) = some g3 := a1
          have b1' : f_X12_leaves g3 0 (nI k) 1 (nI t) (nI i) = some g4 := b1
          rw [if_neg (nI_nlt (by omega) (by omega)), a1', ev_ck0, Option.bind_some, b1', ev_ck0, Option.bind_some, nI_1])
      (t + 1) 0 ob_FU s (by omega) (by unfold ob_FU; omega) hs
  exact pu_up (fun f s i => L_X12_goes_70 0 (nI k) f s (nI i)) (fun i s => m_PF S k g i 0 (pl_S (sp_DE S k) (sN S 2) (sp_a S) (sp_b S) i) (pl_S (sp_DE S k) (sN S 2) pl_1 pl_1 i) s) (sN S 2 + 1) (fun r => m_PF S k g (sN S 2 + 1) 0 (sp_FW S k) (sp_FC S k) r)
    (fun f s hI => ⟨s, by
      have h5 : s.1 1 2 = nI (sN S 2) := by rw [hI.1.1, hS, wf_2 hW]
      show Lb_X12_goes_70 _ _ _ _ _ = _
      unfold Lb_X12_goes_70
      rw [ev_r0_1, Option.bind_some, ev_l1 (by omega), Option.bind_some, h5, if_pos (nI_lt (by omega) (by omega))], hI⟩)
    (fun f i s hi hI => by
      obtain ⟨s', p1, p2⟩ := inner i s (by omega) hI
      have h5 : s.1 1 2 = nI (sN S 2) := by rw [hI.1.1, hS, wf_2 hW]
      refine ⟨s', p2, ?_⟩
      show Lb_X12_goes_70 _ _ _ _ _ = _
      unfold Lb_X12_goes_70
      rw [ev_r0_1, Option.bind_some, ev_l1 (by omega), Option.bind_some, h5, if_neg (nI_nlt (by omega) (by omega))]
      refine (pu_b p1).trans ?_
      rw [nI_1])
    (sN S 2 + 1) 0 ob_FU g2 (by omega) (by unfold ob_FU; omega) hs0
theorem m_goes {g : ob_St} {v : Int32} {k : Nat} (hQ : m_Q g) (hk : k < sN (g.1 1) 29) : ∃ g', f_X12_goes (m_Th g v) 0 (nI k) = some g' ∧ m_K g g' ∧ m_Q g' ∧ g'.1 0 0 = v ∧ m_Laid g' ∧ g'.1 1 = g.1 1 ∧
    m_AR g' (sN (g.1 1) 2) (sp_FW (g.1 1) k) (sp_FC (g.1 1) k) ∧ ∀ w t, w < 4 → t ≤ sN (g.1 1) 2 → g'.2 16 (13 * w + t) = lN (sp_end (g.1 1) k t (nI w)) := by
  have h12 := wf_12 hQ.1
  have hW := hQ.1
  obtain ⟨g1, k0, k1, k2, k3, k4, k5⟩ := m_layTh (v := v) hQ
  obtain ⟨g2, z1, z2, z3⟩ := m_goesZ (g := g1) (x1 := nI k)
  obtain ⟨g3, y1, y2, y3, y4⟩ := m_goesE (g := g2) (x1 := nI k)
  have w14 : ob_wL g3 14 0 1 = some (g3.1, ob_upL g3.2 14 0 1) := pu_wL (n := 14) (i := 0) rfl rfl (by decide)
  generalize hg4 : ((g3.1, ob_upL g3.2 14 0 1) : ob_St) = g4 at w14
  have w15 : ob_wL g4 15 0 1 = some (g4.1, ob_upL g4.2 15 0 1) := pu_wL (n := 15) (i := 0) rfl rfl (by decide)
  generalize hg5 : ((g4.1, ob_upL g4.2 15 0 1) : ob_St) = g5 at w15
  have f1 : g5.1 = g1.1 := by rw [← hg5, ← hg4]; show g3.1 = _; rw [y2, z2.1]
  have f2 : g5.2 = ob_upL (ob_upL g3.2 14 0 1) 15 0 1 := by rw [← hg5, ← hg4]
  rw [← k5] at hW hk h12 ⊢
  have start : m_PF (g1.1 1) k g1 0 0 (pl_S (sp_DE (g1.1 1) k) (sN (g1.1 1) 2) (sp_a (g1.1 1)) (sp_b (g1.1 1)) 0) (pl_S (sp_DE (g1.1 1) k) (sN (g1.1 1) 2) pl_1 pl_1 0) g5 := by
    refine ⟨⟨f1, fun m h1 h2 h3 => ?_⟩, fun l t j hl ht hj => ?_, fun w t hw ht => ?_⟩
    · rw [f2, pu_upL_ne h2, pu_upL_ne h1, y3 m h3, z2.2 m h1 h2 h3]
    · have zz := z3 (169 * l + 13 * t + j) (by omega)
      rw [f2, pu_upL_ne (by omega), pu_upL_eq, pu_upL_eq, pu_upL_ne (by omega), y3 14 (by omega), y3 15 (by omega)]
      show _ = lN (if _ then 1 else 0) ∧ _ = lN (if _ then 1 else 0)
      by_cases e : l = 0 ∧ t = 0 ∧ j = 0
      · obtain ⟨rfl, rfl, rfl⟩ := e
        rw [if_pos ⟨rfl, rfl, rfl⟩, pu_updL_eq, pu_updL_eq]
        exact ⟨rfl, rfl⟩
      · rw [if_neg e, pu_updL_ne (by omega), pu_updL_ne (by omega), zz.1, zz.2]
        exact ⟨rfl, rfl⟩
    · rw [f2, pu_upL_ne (by omega), pu_upL_ne (by omega), y4 _ (by omega)]
      unfold m_GE
      rw [if_neg (by omega)]
      by_cases e : t = 0
      · rw [if_pos e]; rfl
      · rw [if_neg e]; rfl
  obtain ⟨g6, o1, o2, o3, o4⟩ := m_goesL hW k4 hk g5 start
  have RF := m_LF_RF o2
  refine ⟨g6, ?_, m_K_tr k1 (m_K_RF RF (fun m hm => by omega)), m_Q_RF RF (fun m hm => by omega) k2, by rw [o2.1]; exact k3, m_Laid_RF RF (fun m hm => by omega) k4, by rw [o2.1], o3, fun w t hw ht => ?_⟩
  · unfold f_X12_goes
    rw [k0, ev_ck0, Option.bind_some]
    refine (pu_b z1).trans ?_
    refine (pu_b y1).trans ?_
    rw [ev_r0_25, Option.bind_some, w14, Option.bind_some, ev_r0_26, Option.bind_some, w15, Option.bind_some]
    exact pu_b o1
  · rw [o4 w t hw ht]
    unfold m_GE
    rw [if_pos (by omega)]
theorem m_ways {g : ob_St} {x1 x2 x3 : Int32} (hQ : m_Q g) : m_I g (an_ways (g.1 1) x1 x2 x3) (f_X12_ways g 0 x1 x2 x3) := by
  have hW := hQ.1
  have h12 := wf_12 hW
  have h4 := wf_4 hW
  unfold f_X12_ways an_ways
  rw [ev_p0, Option.bind_some]
  show m_I g _ ((ob_ck 12 0 (f_X12_isOption (m_Th g 0) 0 x1)).bind _)
  rw [m_isOption (m_Q_th hQ).1, ev_ck0, Option.bind_some, bI_if]
  show m_I g _ (if qO (g.1 1) x1 = true then ((ob_ck 12 0 (f_X12_isNode (m_Th g 0) 0 x2 x3)).bind _) else some (-1, m_Th g 0))
  rw [m_isNode, ev_ck0, Option.bind_some, bI_if]
  show m_I g _ (if qO (g.1 1) x1 = true then (if qN (g.1 1) x2 x3 = true then ((ob_ck 12 0 (f_X12_goes (m_Th g 0) 0 x1)).bind _) else some (-1, m_Th g 0)) else some (-1, m_Th g 0))
  by_cases c1 : qO (g.1 1) x1 = true
  · rw [if_pos c1]
    by_cases c2 : qN (g.1 1) x2 x3 = true
    · rw [if_pos c2, if_pos (an_and2.mpr ⟨c1, c2⟩)]
      obtain ⟨k, hk, rfl⟩ := qO_e hW c1
      obtain ⟨t, j, ht, hj, rfl, rfl⟩ := qN_e hW c2
      rw [nI_clamp (by omega), nI_clamp (by omega), nI_clamp (by omega)]
      obtain ⟨g', k0, k1, k2, k3, k4, k5, k6, k7⟩ := m_goes (v := 0) hQ hk
      refine ⟨g', ?_, k1, k2⟩
      have d0 := (k6 0 t j (by omega) ht hj).2
      have d1 := (k6 1 t j (by omega) ht hj).2
      have e : g'.1 12 (169 * k + 13 * t + j) = sp_D (g.1 1) k t j := by
        rw [← k5] at hk ht ⊢
        exact (k4.2 k hk t j ht hj).2.2.2
      have sp0 : f_X12_spot 0 (nI t) (nI j) = some (nI (169 * 0 + 13 * t + j)) := m_spot (k := 0)
      have sp1 : f_X12_spot 1 (nI t) (nI j) = some (nI (169 * 1 + 13 * t + j)) := m_spot (k := 1)
      rw [k0, ev_ck0, Option.bind_some, ev_r0_26, Option.bind_some, sp0, Option.bind_some, ev_a15 (by omega), Option.bind_some, Option.bind_some, sp1, Option.bind_some, ev_a15 (by omega), Option.bind_some, ev_r0_23, Option.bind_some, m_cell, Option.bind_some, ev_a12 (by omega), Option.bind_some, e, d0, d1, Option.bind_some, Option.bind_some, ev_a15 (by omega), Option.bind_some, d0, lN_add, lN_sub (by omega)]
      unfold sp_wy
      by_cases c : sp_D (g.1 1) k t j = 3
      · rw [if_pos c, if_pos c, Nat.add_sub_cancel_left, Nat.zero_add]
      · rw [if_neg c, if_neg c]
    · rw [if_neg c2, if_neg (fun h => c2 (an_and2.mp h).2)]
      exact ⟨m_Th g 0, rfl, m_K_th, m_Q_th hQ⟩
  · rw [if_neg c1, if_neg (fun h => c1 (an_and2.mp h).1)]
    exact ⟨m_Th g 0, rfl, m_K_th, m_Q_th hQ⟩
theorem m_isEnd {x : Int32} : f_X12_isIn x 0 3 = some (bI (qE x)) := m_isIn0 (S := fun _ => 0)
theorem qE_e {x : Int32} (h : qE x = true) : ∃ w, w < 4 ∧ x = nI w := by
  unfold qE at h
  by_cases h1 : x < 0
  · rw [if_pos h1] at h; exact absurd h (by decide)
  rw [if_neg h1] at h
  by_cases h2 : 3 < x
  · rw [if_pos h2] at h; exact absurd h (by decide)
  obtain ⟨j, hj, rfl⟩ := nI_of h1
  have h3 : ¬ 3 < j := fun q => h2 ((nI_ltI (a := 3) (by omega) hj).mpr q)
  exact ⟨j, by omega, rfl⟩
theorem m_ending {g : ob_St} {x1 x2 x3 x4 : Int32} (hQ : m_Q g) : m_A g (an_ending (g.1 1) x1 x2 x3 x4) (f_X12_ending g 0 x1 x2 x3 x4) := by
  have hW := hQ.1
  have h12 := wf_12 hW
  have h4 := wf_4 hW
  have t1 : f_X12_throwsIf g 0 1 = some (1, m_Th g 1) := m_throws (b := true)
  have t0 : f_X12_throwsIf g 0 0 = some (0, m_Th g 0) := m_throws (b := false)
  have bad : B_X12_ending_40 g 0 x1 x2 x3 x4 0 = some (0, m_Th g 1) := by
    unfold B_X12_ending_40 B_X12_ending_45
    rw [t1, ev_ck0, Option.bind_some]
    exact if_neg (show ¬ (1 : Int32) = 0 by decide)
  unfold f_X12_ending an_ending
  rw [m_isOption hW, ev_ck0, Option.bind_some, bI_if, ev_r0_1, Option.bind_some, ev_l1 (by omega), Option.bind_some, m_isStep, Option.bind_some, bI_if, m_isEnd, Option.bind_some, bI_if, m_isPart, Option.bind_some, bI_if, bad]
  by_cases c0 : qO (g.1 1) x1 = true
  · rw [if_pos c0]
    by_cases c1 : qT (g.1 1) x2 = true
    · rw [if_pos c1]
      by_cases c2 : qE x3 = true
      · rw [if_pos c2]
        by_cases c3 : qB x4 = true
        · rw [if_pos c3, if_pos (an_and4.mpr ⟨c0, c1, c2, c3⟩)]
          obtain ⟨k, hk, rfl⟩ := qO_e hW c0
          obtain ⟨t, ht, rfl⟩ := qT_e hW c1
          obtain ⟨w, hw, rfl⟩ := qE_e c2
          rw [nI_clamp (by omega), nI_clamp (by omega)]
          obtain ⟨g', k0, k1, k2, k3, k4, k5, k6, k7⟩ := m_goes (v := 0) hQ hk
          have td := m_told (y := lN (sp_end (g.1 1) k t (nI w))) (p := x4) (gt_end hW ht) (sp_pw_pos hW (t := t) (by omega))
          have e16 := k7 w t hw ht
          have e11 : g'.2 11 t = sp_pw (g.1 1) t := by rw [k4.1 t (by omega), k5]
          refine ⟨g', ?_, k1, k2, k3⟩
          unfold B_X12_ending_45
          rw [t0, ev_ck0, Option.bind_some]
          show (if (0 : Int32) = 0 then _ else _) = _
          rw [if_pos rfl, k0, ev_ck0, Option.bind_some, ev_r0_27, Option.bind_some, pu_mul, nI_add, ev_a16 (by omega), Option.bind_some, ev_r0_22, Option.bind_some, ev_a11 (by omega), Option.bind_some, e11]
          show ((f_X12_told (g'.2 16 (13 * w + t)) _ _).bind _) = _
          rw [e16]
          exact pu_b td
        · rw [if_neg c3, if_neg (fun h => c3 (an_and4.mp h).2.2.2)]
          exact ⟨m_Th g 1, rfl, m_K_th, m_Q_th hQ, rfl⟩
      · rw [if_neg c2, if_neg (fun h => c2 (an_and4.mp h).2.2.1)]
        exact ⟨m_Th g 1, rfl, m_K_th, m_Q_th hQ, rfl⟩
    · rw [if_neg c1, if_neg (fun h => c1 (an_and4.mp h).2.1)]
      exact ⟨m_Th g 1, rfl, m_K_th, m_Q_th hQ, rfl⟩
  · rw [if_neg c0, if_neg (fun h => c0 (an_and4.mp h).1)]
    exact ⟨m_Th g 1, rfl, m_K_th, m_Q_th hQ, rfl⟩
theorem m_lifeL {g : ob_St} {x2 : Int32} {k : Nat} (hW : sp_WF (g.1 1)) (hP : m_Pw g) (hE : ∀ w t, w < 4 → t ≤ sN (g.1 1) 2 → g.2 16 (13 * w + t) = lN (sp_end (g.1 1) k t (nI w))) : L_X12_life_39 g 0 x2 ob_FU 0 (nI 0) = some (sp_lf (g.1 1) k) := by
  have h12 := wf_12 hW
  have inner : ∀ (w : Nat) (y : Int64), w < 4 → L_X12_life_48 g 0 x2 (nI w) ob_FU y (nI 0) = some (y + su (fun t => sp_lt (g.1 1) k t w) (sN (g.1 1) 2 + 1)) := by
    intro w y hw
    obtain ⟨r, h1, h2⟩ := pu_up (fun f s i => L_X12_life_48 g 0 x2 (nI w) f s (nI i)) (fun i s => s = y + su (fun t => sp_lt (g.1 1) k t w) i) (sN (g.1 1) 2 + 1) (fun r => r = y + su (fun t => sp_lt (g.1 1) k t w) (sN (g.1 1) 2 + 1))
      (fun f s hI => ⟨s, by
        show Lb_X12_life_48 _ _ _ _ _ _ _ = _
        unfold Lb_X12_life_48
        rw [ev_r0_1, Option.bind_some, ev_l1 (by omega), Option.bind_some, wf_2 hW, if_pos (nI_lt (by omega) (by omega))], hI⟩)
      (fun f i s hi hI => by
        refine ⟨s + sp_lt (g.1 1) k i w, by rw [hI, Int64.add_assoc]; rfl, ?_⟩
        have e := hE w i hw (by omega)
        show Lb_X12_life_48 _ _ _ _ _ _ _ = _
        unfold Lb_X12_life_48
        rw [ev_r0_1, Option.bind_some, ev_l1 (by omega), Option.bind_some, wf_2 hW, if_neg (nI_nlt (by omega) (by omega)), ev_r0_27, Option.bind_some, pu_mul, nI_add, ev_a16 (by omega), Option.bind_some, m_power hW (by omega) hP, ev_ck0, Option.bind_some, nI_1]
        show ob_let (s + (nI i).toInt64 * g.2 16 (13 * w + i) * sp_sc (g.1 1) i) _ = _
        rw [e]
        rfl)
      (sN (g.1 1) 2 + 1) 0 ob_FU y (by omega) (by unfold ob_FU; omega) (by show y = y + 0; rw [Int64.add_zero])
    subst h2
    exact h1
  obtain ⟨r, h1, h2⟩ := pu_up (fun f s i => L_X12_life_39 g 0 x2 f s (nI i)) (fun i s => s = su (fun w => su (fun t => sp_lt (g.1 1) k t w) (sN (g.1 1) 2 + 1)) i) 4 (fun r => r = sp_lf (g.1 1) k)
    (fun f s hI => ⟨s, by
      show Lb_X12_life_39 _ _ _ _ _ _ = _
      unfold Lb_X12_life_39
      exact if_pos (nI_le (a := 4) (b := 4) (by omega) (by omega)), hI.trans (su_swap _ 4 _)⟩)
    (fun f i s hi hI => by
      refine ⟨s + su (fun t => sp_lt (g.1 1) k t i) (sN (g.1 1) 2 + 1), by rw [hI]; rfl, ?_⟩
      show Lb_X12_life_39 _ _ _ _ _ _ = _
      unfold Lb_X12_life_39
      have h4 : ¬ (4 : Int32) ≤ nI i := nI_ge (a := i) (b := 4) (by omega) (by omega)
      rw [if_neg h4]
      refine (pu_b (inner i s hi)).trans ?_
      rw [nI_1])
    4 0 ob_FU 0 (by omega) (by unfold ob_FU; omega) rfl
  subst h2
  exact h1
theorem m_life {g : ob_St} {x1 x2 : Int32} (hQ : m_Q g) : m_A g (an_life (g.1 1) x1 x2) (f_X12_life g 0 x1 x2) := by
  have hW := hQ.1
  have h12 := wf_12 hW
  have h4 := wf_4 hW
  have t1 : f_X12_throwsIf g 0 1 = some (1, m_Th g 1) := m_throws (b := true)
  have t0 : f_X12_throwsIf g 0 0 = some (0, m_Th g 0) := m_throws (b := false)
  have bad : B_X12_life_16 g 0 x1 x2 0 = some (0, m_Th g 1) := by
    unfold B_X12_life_16 B_X12_life_21
    rw [t1, ev_ck0, Option.bind_some]
    exact if_neg (show ¬ (1 : Int32) = 0 by decide)
  unfold f_X12_life an_life
  rw [m_isOption hW, ev_ck0, Option.bind_some, bI_if, m_isPart, Option.bind_some, bI_if, bad]
  by_cases c0 : qO (g.1 1) x1 = true
  · rw [if_pos c0]
    by_cases c1 : qB x2 = true
    · rw [if_pos c1, if_pos (an_and2.mpr ⟨c0, c1⟩)]
      obtain ⟨k, hk, rfl⟩ := qO_e hW c0
      rw [nI_clamp (by omega)]
      obtain ⟨g', k0, k1, k2, k3, k4, k5, k6, k7⟩ := m_goes (v := 0) hQ hk
      have td := m_told (y := sp_lf (g.1 1) k) (p := x2) (sp_lf_gt hW) (sp_sc_pos hW 0)
      refine ⟨g', ?_, k1, k2, k3⟩
      rw [← k5] at hW k7 td ⊢
      have hlf := m_lifeL (x2 := x2) hW k4.1 k7
      have pw := m_pwAt hW k4.1
      unfold B_X12_life_21
      rw [t0, ev_ck0, Option.bind_some]
      show (if (0 : Int32) = 0 then _ else _) = _
      rw [if_pos rfl, k0, ev_ck0, Option.bind_some]
      refine (pu_b hlf).trans ?_
      rw [ev_r0_22, Option.bind_some, ev_r0_1, Option.bind_some]
      rw [ev_l1 (by omega), Option.bind_some] at pw ⊢
      rw [pw, Option.bind_some]
      exact pu_b td
    · rw [if_neg c1, if_neg (fun h => c1 (an_and2.mp h).2)]
      exact ⟨m_Th g 1, rfl, m_K_th, m_Q_th hQ, rfl⟩
  · rw [if_neg c0, if_neg (fun h => c0 (an_and2.mp h).1)]
    exact ⟨m_Th g 1, rfl, m_K_th, m_Q_th hQ, rfl⟩
