/-! BY PLAN: the class's ways, ending, life -/
theorem c_followZ {g : ob_St} {n : Nat} {x2 : Int32} : ∃ g', L_X6_follow_2 112 n x2 ob_FU g (nI 0) = some g' ∧ m_RF (fun m => m = 113 ∨ m = 114) g g' ∧ ∀ i, i < 91 → g'.2 113 i = 0 ∧ g'.2 114 i = 0 := by
  exact pu_up (fun f s i => L_X6_follow_2 112 n x2 f s (nI i)) (fun i s => m_RF (fun m => m = 113 ∨ m = 114) g s ∧ ∀ q, q < i → s.2 113 q = 0 ∧ s.2 114 q = 0) 91
    (fun g' => m_RF (fun m => m = 113 ∨ m = 114) g g' ∧ ∀ i, i < 91 → g'.2 113 i = 0 ∧ g'.2 114 i = 0)
    (fun f s hI => ⟨s, by
      show Lb_X6_follow_2 _ _ _ _ _ _ = _
      unfold Lb_X6_follow_2
      exact if_pos (nI_le (a := 91) (b := 91) (by omega) (by omega)), hI⟩)
    (fun f i s hi hI => by
      refine ⟨(s.1, ob_upL (ob_upL s.2 113 i 0) 114 i 0), ⟨⟨hI.1.1, fun m hm => ?_⟩, fun q hq => ?_⟩, ?_⟩
      · show ob_upL (ob_upL s.2 113 i 0) 114 i 0 m = _
        rw [pu_upL_ne (by omega), pu_upL_ne (by omega), hI.1.2 m hm]
      · show ob_upL (ob_upL s.2 113 i 0) 114 i 0 113 q = 0 ∧ ob_upL (ob_upL s.2 113 i 0) 114 i 0 114 q = 0
        rw [pu_upL_ne (by omega), pu_upL_eq, pu_upL_eq, pu_upL_ne (by omega)]
        by_cases e : q = i
        · subst e
          rw [pu_updL_eq, pu_updL_eq]
          exact ⟨rfl, rfl⟩
        · rw [pu_updL_ne e, pu_updL_ne e]
          exact hI.2 q (by omega)
      · show Lb_X6_follow_2 _ _ _ _ _ _ = _
        unfold Lb_X6_follow_2
        have h91 : ¬ (91 : Int32) ≤ nI i := nI_ge (a := i) (b := 91) (by omega) (by omega)
        rw [if_neg h91, ev_r112_1, Option.bind_some, ev_w113 hi, Option.bind_some, ev_r112_2, Option.bind_some, ev_w114 hi, Option.bind_some, nI_1])
    91 0 ob_FU g (by omega) (by unfold ob_FU; omega) ⟨⟨rfl, fun _ _ => rfl⟩, fun q hq => by omega⟩
def c_PF (S : Nat → Int32) (k : Nat) (a b : Nat → Nat) (g0 : ob_St) (T J : Nat) (X : Nat → Nat → Nat → Nat) (s : ob_St) : Prop :=
  m_RF (fun m => m = 113 ∨ m = 114) g0 s ∧ c_RR 113 (sN S 2) (pl_Zf (sp_DE S k) X T J) s ∧ c_RR 114 (sN S 2) (X 1) s
theorem c_follow {S : Nat → Int32} {g : ob_St} {k : Nat} {a b : Nat → Nat} {x4 : Int32} (hby : pl_by S x4 a b) (hW : sp_WF S) (hM : c_M 24 S g) (hL : c_Lat S g) (hk : k < sN S 29) :
    ∃ g', f_X6_follow g 112 (72 + 8 * k) x4 = some g' ∧ m_RF (fun m => m = 113 ∨ m = 114) g g' ∧ ∀ t j, t ≤ sN S 2 → j ≤ t → g'.2 113 (nd t j) = lN (if sp_D S k t j = 3 then 0 else pl_F (sp_DE S k) (sN S 2) a b 0 t j) ∧ g'.2 114 (nd t j) = lN (pl_F (sp_DE S k) (sN S 2) a b 1 t j) := by
  have h12 := wf_12 hW
  have h4 := wf_4 hW
  obtain ⟨g1, z1, z2, z3⟩ := c_followZ (g := g) (n := 72 + 8 * k) (x2 := x4)
  have inner : ∀ (t : Nat) (s : ob_St), t ≤ sN S 2 → c_PF S k a b g t 0 (pl_S (sp_DE S k) (sN S 2) a b t) s → ∃ s', L_X6_follow_54 112 (72 + 8 * k) x4 (nI t) ob_FU s (nI 0) = some s' ∧ c_PF S k a b g (t + 1) 0 (pl_S (sp_DE S k) (sN S 2) a b (t + 1)) s' := by
    intro t s ht hs
    exact pu_up (fun f s i => L_X6_follow_54 112 (72 + 8 * k) x4 (nI t) f s (nI i)) (fun i s => c_PF S k a b g t i (pl_R (sp_DE S k) (sN S 2) a b t (pl_S (sp_DE S k) (sN S 2) a b t) i) s) (t + 1) (fun r => c_PF S k a b g (t + 1) 0 (pl_S (sp_DE S k) (sN S 2) a b (t + 1)) r)
      (fun f s hI => ⟨s, by
        show Lb_X6_follow_54 _ _ _ _ _ _ _ = _
        unfold Lb_X6_follow_54
        rw [if_pos (nI_lt (by omega) (by omega))], hI.1, c_RR_c hI.2.1 (fun t' j' h1 h2 => by
          show pl_Zf _ (pl_S (sp_DE S k) (sN S 2) a b (t + 1)) t (t + 1) t' j' = _
          unfold pl_Zf
          by_cases c : sp_DE S k 0 t' j' = 3 ∧ (t' < t ∨ t' = t ∧ j' < t + 1)
          · rw [if_pos c, if_pos ⟨c.1, by omega⟩]
          · rw [if_neg c, if_neg (fun z => c ⟨z.1, by omega⟩)]), hI.2.2⟩)
      (fun f i s hi hI => by
        obtain ⟨s', p1, p2, p3, p4⟩ := c_pass hby hW (c_M_RF hI.1 hM hW) (c_Lat_RF hI.1 (fun m hm => by omega) hL hW) hk ht (show i ≤ t by omega) hI.2.1 hI.2.2
        refine ⟨s', ⟨⟨p2.1.trans hI.1.1, fun m hm => (p2.2 m hm).trans (hI.1.2 m hm)⟩, p3, p4⟩, ?_⟩
        show Lb_X6_follow_54 _ _ _ _ _ _ _ = _
        unfold Lb_X6_follow_54
        rw [if_neg (nI_nlt (by omega) (by omega)), c_nodeAt (by omega), Option.bind_some, p1, ev_ck112, Option.bind_some, nI_1])
      (t + 1) 0 ob_FU s (by omega) (by unfold ob_FU; omega) hs
  have hw0 : ob_wL g1 113 0 1 = some (g1.1, ob_upL g1.2 113 0 1) := pu_wL (n := 113) (i := 0) rfl rfl (by decide)
  generalize hg2 : ((g1.1, ob_upL g1.2 113 0 1) : ob_St) = g2 at hw0
  have start : c_PF S k a b g 0 0 (pl_S (sp_DE S k) (sN S 2) a b 0) g2 := by
    refine ⟨⟨by rw [← hg2]; exact z2.1, fun m hm => ?_⟩, fun t j ht hj => ?_, fun t j ht hj => ?_⟩
    · rw [← hg2]
      show ob_upL g1.2 113 0 1 m = _
      rw [pu_upL_ne (by omega), z2.2 m hm]
    · have hl := nd_lt (t := t) (j := j) (by omega) hj
      rw [← hg2]
      show ob_upL g1.2 113 0 1 113 (nd t j) = lN (if _ then 0 else if _ then 1 else 0)
      rw [pu_upL_eq, if_neg (by omega)]
      by_cases e : t = 0
      · have ej : j = 0 := by omega
        subst e; subst ej
        rw [show nd 0 0 = 0 from rfl, pu_updL_eq, if_pos ⟨rfl, rfl, rfl⟩]
        rfl
      · have ne : nd t j ≠ 0 := fun q => e (nd_inj (t' := 0) (j' := 0) hj (by omega) q).1
        rw [pu_updL_ne ne, (z3 _ hl).1, if_neg (by omega)]
        rfl
    · have hl := nd_lt (t := t) (j := j) (by omega) hj
      rw [← hg2]
      have e : pl_S (sp_DE S k) (sN S 2) a b 0 1 t j = 0 := by
        show (if ((1 : Nat) = 0 ∧ t = 0 ∧ j = 0) then 1 else 0) = 0
        exact if_neg (by omega)
      show ob_upL g1.2 113 0 1 114 (nd t j) = _
      rw [pu_upL_ne (by omega), (z3 _ hl).2, e]
      rfl
  obtain ⟨g3, o1, o2⟩ := pu_up (fun f s i => L_X6_follow_37 112 (72 + 8 * k) x4 f s (nI i)) (fun i s => c_PF S k a b g i 0 (pl_S (sp_DE S k) (sN S 2) a b i) s) (sN S 2 + 1) (fun r => c_PF S k a b g (sN S 2 + 1) 0 (pl_S (sp_DE S k) (sN S 2) a b (sN S 2 + 1)) r)
    (fun f s hI => ⟨s, by
      have h5 : s.1 24 5 = nI (sN S 2) := (c_M_RF hI.1 hM hW).2.2.1.trans (wf_2 hW)
      show Lb_X6_follow_37 _ _ _ _ _ _ = _
      unfold Lb_X6_follow_37
      rw [ev_r112_0, Option.bind_some, ev_r67_0, Option.bind_some, ev_g24, Option.bind_some, h5, if_pos (nI_lt (by omega) (by omega))], hI⟩)
    (fun f i s hi hI => by
      obtain ⟨s', p1, p2⟩ := inner i s (by omega) hI
      have h5 : s.1 24 5 = nI (sN S 2) := (c_M_RF hI.1 hM hW).2.2.1.trans (wf_2 hW)
      refine ⟨s', p2, ?_⟩
      show Lb_X6_follow_37 _ _ _ _ _ _ = _
      unfold Lb_X6_follow_37
      rw [ev_r112_0, Option.bind_some, ev_r67_0, Option.bind_some, ev_g24, Option.bind_some, h5, if_neg (nI_nlt (by omega) (by omega))]
      refine (pu_b p1).trans ?_
      rw [nI_1])
    (sN S 2 + 1) 0 ob_FU g2 (by omega) (by unfold ob_FU; omega) start
  refine ⟨g3, ?_, o2.1, fun t j ht hj => ⟨?_, o2.2.2 t j ht hj⟩⟩
  · unfold f_X6_follow
    refine (pu_b z1).trans ?_
    rw [ev_r112_1, Option.bind_some, hw0, Option.bind_some]
    exact pu_b o1
  · rw [o2.2.1 t j ht hj]
    by_cases c : sp_D S k t j = 3
    · have z : pl_Zf (sp_DE S k) (pl_S (sp_DE S k) (sN S 2) a b (sN S 2 + 1)) (sN S 2 + 1) 0 t j = 0 := if_pos ⟨c, by omega⟩
      rw [z, if_pos c]
    · have z : pl_Zf (sp_DE S k) (pl_S (sp_DE S k) (sN S 2) a b (sN S 2 + 1)) (sN S 2 + 1) 0 t j = pl_S (sp_DE S k) (sN S 2) a b (sN S 2 + 1) 0 t j := if_neg (fun z => c z.1)
      rw [z, if_neg c]
      rfl
def sp_wy (S : Nat → Int32) (k t j : Nat) : Int32 := (lN ((if sp_D S k t j = 3 then 0 else sp_FC S k 0 t j) + sp_FC S k 1 t j)).toInt32
def an_ways (S : Nat → Int32) (x1 x2 x3 : Int32) : Int32 := if (qO S x1 && qN S x2 x3) = true then sp_wy S x1.toNatClampNeg x2.toNatClampNeg x3.toNatClampNeg else -1
theorem c_ways {S : Nat → Int32} {g : ob_St} {x1 x2 x3 : Int32} (hQ : c_Q S g) : c_I S g (an_ways S x1 x2 x3) (f_X11_ways g 20 x1 x2 x3) := by
  have hW := hQ.1
  have hM := hQ.2.1
  have h12 := wf_12 hW
  have h4 := wf_4 hW
  unfold f_X11_ways an_ways
  rw [c_isOption hM, ev_ck20, Option.bind_some, bI_if, c_isNode hM, ev_ck20, Option.bind_some, bI_if]
  by_cases c1 : qO S x1 = true
  · rw [if_pos c1]
    by_cases c2 : qN S x2 x3 = true
    · rw [if_pos c2, if_pos (an_and2.mpr ⟨c1, c2⟩)]
      obtain ⟨k, hk, rfl⟩ := qO_e hW c1
      obtain ⟨t, j, ht, hj, rfl, rfl⟩ := qN_e hW c2
      rw [nI_clamp (by omega), nI_clamp (by omega), nI_clamp (by omega)]
      obtain ⟨g1, s1, s2, s3, s4, s5, s6⟩ := c_sheetOf hQ hk
      obtain ⟨g', o1, o2, o3⟩ := c_follow (x4 := 1) (a := pl_1) (b := pl_1) (Or.inr ⟨rfl, rfl, rfl⟩) hW s4 s5 hk
      have hM' := c_M_RF o2 s4 hW
      have hL' := c_Lat_RF o2 (fun m hm => by omega) s5 hW
      have e6 : g'.1 67 6 = 0 := by rw [o2.1]; exact s6
      refine ⟨g', ?_, c_K_tr s2 (c_K_RF o2 (fun m hm => by omega)), c_Lat_Q hW hM' e6 hL'⟩
      have hl := nd_lt (t := t) (j := j) (by omega) hj
      obtain ⟨e0, e1⟩ := o3 t j ht hj
      have hc : f_X6_comingTo g' 112 (nI (nd t j)) = some (lN ((if sp_D S k t j = 3 then 0 else sp_FC S k 0 t j) + sp_FC S k 1 t j)) := by
        unfold f_X6_comingTo
        rw [ev_r112_1, Option.bind_some, ev_a113 hl, Option.bind_some, ev_r112_2, Option.bind_some, ev_a114 hl, Option.bind_some, e0, e1, lN_add]
        rfl
      rw [ev_r20_9, Option.bind_some, s1, ev_ck20, Option.bind_some, ev_ck112, o1, Option.bind_some, Option.bind_some, c_nodeAt (by omega), Option.bind_some, ev_ck112, hc, Option.bind_some]
      rfl
    · rw [if_neg c2, if_neg (fun h => c2 (an_and2.mp h).2)]
      exact ⟨g, rfl, c_K_refl g, hQ⟩
  · rw [if_neg c1, if_neg (fun h => c1 (an_and2.mp h).1)]
    exact ⟨g, rfl, c_K_refl g, hQ⟩
theorem c_endingAt {S : Nat → Int32} {g : ob_St} {k t : Nat} {w : Int32} (hW : sp_WF S) (hM : c_M 24 S g) (hL : c_Lat S g) (hk : k < sN S 29) (ht : t ≤ sN S 2)
    (hF : ∀ t j, t ≤ sN S 2 → j ≤ t → g.2 113 (nd t j) = lN (if sp_D S k t j = 3 then 0 else sp_FW S k 0 t j) ∧ g.2 114 (nd t j) = lN (sp_FW S k 1 t j)) :
    f_X6_endingAt g 112 (72 + 8 * k) (nI t) w = some (lN (sp_end S k t w)) := by
  have h12 := wf_12 hW
  have h4 := wf_4 hW
  have hn := c_Sh_k (k := k) (by omega)
  obtain ⟨r, h1, h2⟩ := pu_up (fun f s i => L_X6_endingAt_6 g 112 (72 + 8 * k) (nI t) w f s (nI i)) (fun i s => s = lN (sp_en S k t w i)) (t + 1) (fun r => r = lN (sp_end S k t w))
    (fun f s hI => ⟨s, by
      show Lb_X6_endingAt_6 _ _ _ _ _ _ _ _ = _
      unfold Lb_X6_endingAt_6
      rw [if_pos (nI_lt (by omega) (by omega))], hI⟩)
    (fun f i s hi hI => by
      have hj : i ≤ t := by omega
      have hl := nd_lt (t := t) (j := i) (by omega) hj
      have ed : g.1 (72 + 8 * k + 7) (nd t i) = sp_D S k t i := (hL.2 k hk t i ht hj).2.2.2.2
      have ee : g.1 (72 + 8 * k + 4) (nd t i) = sp_E S k t i := (hL.2 k hk t i ht hj).2.2.1
      obtain ⟨f0, f1⟩ := hF t i ht hj
      refine ⟨lN (sp_en S k t w (i + 1)), rfl, ?_⟩
      show Lb_X6_endingAt_6 _ _ _ _ _ _ _ _ = _
      have fin : ∀ y, y = lN (sp_en S k t w i + (if pl_e (sp_D S k t i) (decide (t = sN S 2)) = w ∧ ¬ sp_D S k t i = 3 then sp_FW S k 0 t i else 0)) →
          B_X6_endingAt_51 (L_X6_endingAt_6 g 112 (72 + 8 * k) (nI t) w f) g 112 (72 + 8 * k) (nI t) w y (nI i) (nI (nd t i)) = L_X6_endingAt_6 g 112 (72 + 8 * k) (nI t) w f (lN (sp_en S k t w (i + 1))) (nI (i + 1)) := by
        intro y hy
        have e1 : lN (sp_en S k t w (i + 1)) = y + lN (if pl_e (sp_E S k t i) (decide (t = sN S 2)) = w then sp_FW S k 1 t i else 0) := by
          rw [hy, lN_add]
          rfl
        rw [e1]
        unfold B_X6_endingAt_51 B_X6_endingAt_82
        rw [es_1 hn, Option.bind_some, es_p1 hn, Option.bind_some, es_a4 hn hl, Option.bind_some, ee, c_endOf hW hM ht, ev_ck112, Option.bind_some, ev_r112_2, Option.bind_some, ev_a114 hl, Option.bind_some, f1, nI_1]
        by_cases c : pl_e (sp_E S k t i) (decide (t = sN S 2)) = w
        · rw [if_pos c, if_pos c]
        · rw [if_neg c, if_neg c]
          show _ = L_X6_endingAt_6 g 112 (72 + 8 * k) (nI t) w f (y + 0) (nI (i + 1))
          rw [Int64.add_zero]
      unfold Lb_X6_endingAt_6
      rw [if_neg (nI_nlt (by omega) (by omega)), c_nodeAt (by omega), Option.bind_some, es_2 hn, Option.bind_some, es_b1 hn, Option.bind_some, es_a7 hn hl, Option.bind_some, ed, c_endOf hW hM ht, ev_ck112, Option.bind_some, ev_r112_1, Option.bind_some, ev_a113 hl, Option.bind_some, f0, hI, lN_add]
      by_cases c : pl_e (sp_D S k t i) (decide (t = sN S 2)) = w
      · rw [if_pos c]
        refine fin _ (congrArg lN (congrArg (sp_en S k t w i + ·) ?_))
        by_cases c3 : sp_D S k t i = 3
        · rw [if_pos c3, if_neg (fun z => z.2 c3)]
        · rw [if_neg c3, if_pos ⟨c, c3⟩]
      · rw [if_neg c]
        refine fin _ ?_
        rw [if_neg (fun z => c z.1)]
        rfl)
    (t + 1) 0 ob_FU 0 (by omega) (by unfold ob_FU; omega) rfl
  subst h2
  exact pu_b h1
/-! sums -/
def su (f : Nat → Int64) : Nat → Int64
  | 0 => 0
  | n + 1 => su f n + f n
theorem su_add (f h : Nat → Int64) : ∀ n, su (fun i => f i + h i) n = su f n + su h n := by
  intro n
  induction n with
  | zero => rfl
  | succ n ih =>
    show su (fun i => f i + h i) n + (f n + h n) = su f n + f n + (su h n + h n)
    rw [ih]
    grind
theorem su_0 : ∀ n, su (fun _ => 0) n = 0 := by
  intro n
  induction n with
  | zero => rfl
  | succ n ih => show su (fun _ => 0) n + 0 = 0; rw [ih]; rfl
theorem su_swap (f : Nat → Nat → Int64) (m : Nat) : ∀ n, su (fun w => su (fun t => f t w) n) m = su (fun t => su (fun w => f t w) m) n := by
  intro n
  induction n with
  | zero => exact su_0 m
  | succ n ih =>
    show su (fun w => su (fun t => f t w) n + f n w) m = su (fun t => su (fun w => f t w) m) n + su (fun w => f n w) m
    rw [su_add, ih]
theorem su_bd {f : Nat → Int64} {B : Nat} : ∀ n, (∀ i, i < n → bd (f i) B) → n * B < 9223372036854775808 → bd (su f n) (n * B) := by
  intro n
  induction n with
  | zero => intro _ _; exact bd_0 _
  | succ n ih =>
    intro h hB
    rw [Nat.succ_mul] at hB ⊢
    exact (bd_add (ih (fun i hi => h i (by omega)) (by omega)) (h n (by omega)) hB).1
def sp_lt (S : Nat → Int32) (k t w : Nat) : Int64 := (nI t).toInt64 * lN (sp_end S k t (nI w)) * sp_sc S t
def sp_lf (S : Nat → Int32) (k : Nat) : Int64 := su (fun t => su (fun w => sp_lt S k t w) 4) (sN S 2 + 1)
theorem sp_lt_bd {S : Nat → Int32} (hW : sp_WF S) {k t w : Nat} (ht : t ≤ sN S 2) : bd (sp_lt S k t w) 1145534199966936 := by
  have h12 := wf_12 hW
  have he := sp_end_bd hW (k := k) (w := nI w) ht
  have hw := sp_wle hW (i := sN S 2) h12
  have hp : sN S 1 ^ t * sN S 1 ^ (sN S 2 - t) = sN S 1 ^ sN S 2 := by rw [← Nat.pow_add, show t + (sN S 2 - t) = sN S 2 by omega]
  have h1 : sN S 1 ^ t ≤ 282429536481 := sp_wle hW (by omega)
  have b1 : bd (nI t).toInt64 12 := bd_nI (by omega) (by omega)
  have b2 : bd (lN (sp_end S k t (nI w))) (338 * sN S 1 ^ t) := by
    have : (lN (sp_end S k t (nI w))).toInt = (sp_end S k t (nI w) : Int) := pk_lT (by omega)
    exact ⟨by rw [this]; omega, by rw [this]; omega⟩
  have b3 := (bd_mul b1 b2 (by omega)).1
  have e : 12 * (338 * sN S 1 ^ t) * sN S 1 ^ (sN S 2 - t) = 4056 * sN S 1 ^ sN S 2 := by
    rw [← hp]
    grind
  exact bd_mono (bd_mul b3 (bd_sc hW t) (by rw [e]; omega)).1 (by rw [e]; omega)
theorem sp_lf_gt {S : Nat → Int32} (hW : sp_WF S) {k : Nat} : -9223372036854775808 < (sp_lf S k).toInt := by
  have h12 := wf_12 hW
  have h1 : ∀ t, t < sN S 2 + 1 → bd (su (fun w => sp_lt S k t w) 4) (4 * 1145534199966936) := fun t ht => su_bd 4 (fun i _ => sp_lt_bd hW (by omega)) (by omega)
  have h2 : (sN S 2 + 1) * (4 * 1145534199966936) ≤ 13 * (4 * 1145534199966936) := Nat.mul_le_mul_right _ (by omega)
  exact bd_gt (su_bd (sN S 2 + 1) h1 (by omega))
theorem c_lifeOf {S : Nat → Int32} {g : ob_St} {k : Nat} (hW : sp_WF S) (hM : c_M 24 S g) (hL : c_Lat S g) (hk : k < sN S 29)
    (hF : ∀ t j, t ≤ sN S 2 → j ≤ t → g.2 113 (nd t j) = lN (if sp_D S k t j = 3 then 0 else sp_FW S k 0 t j) ∧ g.2 114 (nd t j) = lN (sp_FW S k 1 t j)) :
    f_X6_lifeOf g 112 (72 + 8 * k) = some (sp_lf S k) := by
  have h12 := wf_12 hW
  have h5 : g.1 24 5 = nI (sN S 2) := hM.2.2.1.trans (wf_2 hW)
  have inner : ∀ (t : Nat) (y : Int64), t ≤ sN S 2 → L_X6_lifeOf_23 g 112 (72 + 8 * k) (nI t) ob_FU y (nI 0) = some (y + su (fun w => sp_lt S k t w) 4) := by
    intro t y ht
    obtain ⟨r, h1, h2⟩ := pu_up (fun f s i => L_X6_lifeOf_23 g 112 (72 + 8 * k) (nI t) f s (nI i)) (fun i s => s = y + su (fun w => sp_lt S k t w) i) 4 (fun r => r = y + su (fun w => sp_lt S k t w) 4)
      (fun f s hI => ⟨s, by
        show Lb_X6_lifeOf_23 _ _ _ _ _ _ _ = _
        unfold Lb_X6_lifeOf_23
        exact if_pos (nI_le (a := 4) (b := 4) (by omega) (by omega)), hI⟩)
      (fun f i s hi hI => by
        refine ⟨s + sp_lt S k t i, by rw [hI, Int64.add_assoc]; rfl, ?_⟩
        show Lb_X6_lifeOf_23 _ _ _ _ _ _ _ = _
        unfold Lb_X6_lifeOf_23
        have h4 : ¬ (4 : Int32) ≤ nI i := nI_ge (a := i) (b := 4) (by omega) (by omega)
        rw [if_neg h4, c_endingAt hW hM hL hk ht hF, ev_ck112, Option.bind_some, ev_r112_0, Option.bind_some, c_scaleAt hW hM hL.1.1 ht, ev_ck67, Option.bind_some, nI_1]
        rfl)
      4 0 ob_FU y (by omega) (by unfold ob_FU; omega) (by show y = y + 0; rw [Int64.add_zero])
    subst h2
    exact h1
  have l0 : su (fun w => sp_lt S k 0 w) 4 = 0 := by
    have e : (fun w => sp_lt S k 0 w) = fun _ => 0 := by
      funext w
      show (0 : Int32).toInt64 * _ * _ = 0
      rw [show (0 : Int32).toInt64 = 0 from rfl, Int64.zero_mul, Int64.zero_mul]
    rw [e]
    rfl
  obtain ⟨r, h1, h2⟩ := pu_up (fun f s i => L_X6_lifeOf_5 g 112 (72 + 8 * k) f s (nI i)) (fun i s => s = su (fun t => su (fun w => sp_lt S k t w) 4) i) (sN S 2 + 1) (fun r => r = sp_lf S k)
    (fun f s hI => ⟨s, by
      show Lb_X6_lifeOf_5 _ _ _ _ _ _ = _
      unfold Lb_X6_lifeOf_5
      rw [ev_r112_0, Option.bind_some, ev_r67_0, Option.bind_some, ev_g24, Option.bind_some, h5, if_pos (nI_lt (by omega) (by omega))], hI⟩)
    (fun f i s hi hI => by
      refine ⟨s + su (fun w => sp_lt S k i w) 4, by rw [hI]; rfl, ?_⟩
      show Lb_X6_lifeOf_5 _ _ _ _ _ _ = _
      unfold Lb_X6_lifeOf_5
      rw [ev_r112_0, Option.bind_some, ev_r67_0, Option.bind_some, ev_g24, Option.bind_some, h5, if_neg (nI_nlt (by omega) (by omega))]
      refine (pu_b (inner i s (by omega))).trans ?_
      rw [nI_1])
    (sN S 2) 1 ob_FU 0 (by omega) (by unfold ob_FU; omega) (by
      show 0 = 0 + su (fun w => sp_lt S k 0 w) 4
      rw [l0]; rfl)
  subst h2
  exact pu_b h1
def qE (x : Int32) : Bool := if x < 0 then false else if 3 < x then false else true
def an_ending (S : Nat → Int32) (x1 x2 x3 x4 : Int32) : Option Int64 := if (qO S x1 && qT S x2 && qE x3 && qB x4) = true then some (sp_told (lN (sp_end S x1.toNatClampNeg x2.toNatClampNeg x3)) (sp_pw S x2.toNatClampNeg) x4) else none
def an_life (S : Nat → Int32) (x1 x2 : Int32) : Option Int64 := if (qO S x1 && qB x2) = true then some (sp_told (sp_lf S x1.toNatClampNeg) (sp_sc S 0) x2) else none
theorem gt_end {S : Nat → Int32} (hW : sp_WF S) {k t : Nat} {w : Int32} (ht : t ≤ sN S 2) : -9223372036854775808 < (lN (sp_end S k t w)).toInt := by
  have h12 := wf_12 hW
  have he := sp_end_bd hW (k := k) (w := w) ht
  have h1 : sN S 1 ^ t ≤ 282429536481 := sp_wle hW (by omega)
  rw [pk_lT (by omega)]
  omega
theorem sp_pw_pos {S : Nat → Int32} (hW : sp_WF S) {t : Nat} (ht : t ≤ 12) : 0 < (sp_pw S t).toInt := by
  rw [sp_pw_t hW ht]
  have := sp_wpos hW t
  omega
theorem c_ending {S : Nat → Int32} {g : ob_St} {x1 x2 x3 x4 : Int32} (hQ : c_Q S g) : c_A S g (an_ending S x1 x2 x3 x4) (f_X11_ending g 20 x1 x2 x3 x4) := by
  have hW := hQ.1
  have hM := hQ.2.1
  have h12 := wf_12 hW
  have h4' := wf_4 hW
  have bad : B_X11_ending_37 g 20 x1 x2 x3 x4 = some none := rfl
  unfold f_X11_ending an_ending
  rw [c_isOption hM, ev_ck20, Option.bind_some, bI_if, c_isStep hM, ev_ck20, Option.bind_some, bI_if, c_isBit, Option.bind_some, bI_if, bad]
  have hqE : ∀ {α : Type} (A B : α), (if x3 < 0 then A else if 4 ≤ x3 then A else B) = if qE x3 = true then B else A := by
    intro α A B
    have e43 : (4 ≤ x3) ↔ (3 < x3) := by
      rw [ni_le, ni_lt]
      show (4 : Int) ≤ _ ↔ (3 : Int) < _
      omega
    unfold qE
    by_cases h1 : x3 < 0
    · rw [if_pos h1, if_pos h1]; rfl
    rw [if_neg h1, if_neg h1]
    by_cases h2 : 4 ≤ x3
    · rw [if_pos h2, if_pos (e43.mp h2)]; rfl
    · rw [if_neg h2, if_neg (fun h => h2 (e43.mpr h))]; rfl
  rw [hqE]
  by_cases c0 : qO S x1 = true
  · rw [if_pos c0]
    by_cases c1 : qT S x2 = true
    · rw [if_pos c1]
      by_cases c2 : qE x3 = true
      · rw [if_pos c2]
        by_cases c3 : qB x4 = true
        · rw [if_pos c3, if_pos (an_and4.mpr ⟨c0, c1, c2, c3⟩)]
          obtain ⟨k, hk, rfl⟩ := qO_e hW c0
          obtain ⟨t, ht, rfl⟩ := qT_e hW c1
          rw [nI_clamp (by omega), nI_clamp (by omega)]
          obtain ⟨g1, s1, s2, s3, s4, s5, s6⟩ := c_sheetOf hQ hk
          obtain ⟨g', o1, o2, o3⟩ := c_follow (x4 := 0) (a := sp_a S) (b := sp_b S) (Or.inl ⟨rfl, rfl, rfl⟩) hW s4 s5 hk
          have hM' := c_M_RF o2 s4 hW
          have hL' := c_Lat_RF o2 (fun m hm => by omega) s5 hW
          have e6 : g'.1 67 6 = 0 := by rw [o2.1]; exact s6
          refine ⟨g', c_K_tr s2 (c_K_RF o2 (fun m hm => by omega)), c_Lat_Q hW hM' e6 hL', ?_⟩
          have td := c_told (y := lN (sp_end S k t x3)) (p := x4) (gt_end hW ht) (sp_pw_pos hW (t := t) (by omega))
          have hen := c_endingAt (w := x3) hW hM' hL' hk ht o3
          have e70 : g'.2 70 t = sp_pw S t := hL'.1.1 t (by omega)
          unfold B_X11_ending_38 B_X11_ending_41
          rw [if_neg (by decide), s1, ev_ck20, Option.bind_some, ev_r20_9, Option.bind_some, ev_ck112, o1, Option.bind_some, Option.bind_some, ev_ck112, hen, Option.bind_some, ev_r20_8, Option.bind_some, ev_r67_3, Option.bind_some, ev_a70 (by omega), Option.bind_some, e70, td]
          rfl
        · rw [if_neg c3, if_neg (fun h => c3 (an_and4.mp h).2.2.2)]
          exact ⟨g, c_K_refl g, hQ, rfl⟩
      · rw [if_neg c2, if_neg (fun h => c2 (an_and4.mp h).2.2.1)]
        exact ⟨g, c_K_refl g, hQ, rfl⟩
    · rw [if_neg c1, if_neg (fun h => c1 (an_and4.mp h).2.1)]
      exact ⟨g, c_K_refl g, hQ, rfl⟩
  · rw [if_neg c0, if_neg (fun h => c0 (an_and4.mp h).1)]
    exact ⟨g, c_K_refl g, hQ, rfl⟩
theorem c_life {S : Nat → Int32} {g : ob_St} {x1 x2 : Int32} (hQ : c_Q S g) : c_A S g (an_life S x1 x2) (f_X11_life g 20 x1 x2) := by
  have hW := hQ.1
  have hM := hQ.2.1
  have h12 := wf_12 hW
  have h4' := wf_4 hW
  have bad : B_X11_life_19 g 20 x1 x2 = some none := rfl
  unfold f_X11_life an_life
  rw [c_isOption hM, ev_ck20, Option.bind_some, bI_if, c_isBit, Option.bind_some, bI_if, bad]
  by_cases c0 : qO S x1 = true
  · rw [if_pos c0]
    by_cases c1 : qB x2 = true
    · rw [if_pos c1, if_pos (an_and2.mpr ⟨c0, c1⟩)]
      obtain ⟨k, hk, rfl⟩ := qO_e hW c0
      rw [nI_clamp (by omega)]
      obtain ⟨g1, s1, s2, s3, s4, s5, s6⟩ := c_sheetOf hQ hk
      obtain ⟨g', o1, o2, o3⟩ := c_follow (x4 := 0) (a := sp_a S) (b := sp_b S) (Or.inl ⟨rfl, rfl, rfl⟩) hW s4 s5 hk
      have hM' := c_M_RF o2 s4 hW
      have hL' := c_Lat_RF o2 (fun m hm => by omega) s5 hW
      have e6 : g'.1 67 6 = 0 := by rw [o2.1]; exact s6
      refine ⟨g', c_K_tr s2 (c_K_RF o2 (fun m hm => by omega)), c_Lat_Q hW hM' e6 hL', ?_⟩
      have td := c_told (y := sp_lf S k) (p := x2) (sp_lf_gt hW) (sp_sc_pos hW 0)
      have hlf := c_lifeOf hW hM' hL' hk o3
      have sc : f_X3_scaleAt g' 67 0 = some (sp_sc S 0) := c_scaleAt (t := 0) hW hM' hL'.1.1 (by omega)
      unfold B_X11_life_20 B_X11_life_23
      rw [if_neg (by decide), s1, ev_ck20, Option.bind_some, ev_r20_9, Option.bind_some, ev_ck112, o1, Option.bind_some, Option.bind_some, ev_ck112, hlf, Option.bind_some, ev_r20_8, Option.bind_some, sc, ev_ck67, Option.bind_some, td]
      rfl
    · rw [if_neg c1, if_neg (fun h => c1 (an_and2.mp h).2)]
      exact ⟨g, c_K_refl g, hQ, rfl⟩
  · rw [if_neg c0, if_neg (fun h => c0 (an_and2.mp h).1)]
    exact ⟨g, c_K_refl g, hQ, rfl⟩
