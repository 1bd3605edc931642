/-! bestBy -/
def sp_am (F : Nat → Int64) : Nat → Nat
  | 0 => 0
  | n + 1 => if F (sp_am F n) < F (n + 1) then n + 1 else sp_am F n
theorem sp_am_b (F : Nat → Int64) : ∀ n, sp_bst F (n + 1) (F (sp_am F n)) (sp_am F n) := by
  intro n
  induction n with
  | zero => exact ⟨by show 0 < 1; omega, rfl, fun q hq => by
      have : q = 0 := by omega
      subst this
      exact ⟨Int64.le_refl _, fun _ => Nat.le_refl _⟩⟩
  | succ n ih =>
    have h := m_scan (n := 0) ih
    show sp_bst F (n + 1 + 1) (F (if _ then _ else _)) (if _ then _ else _)
    by_cases c : F (sp_am F n) < F (n + 1)
    · rw [if_pos c, if_pos c] at h
      rw [if_pos c]
      exact h
    · rw [if_neg c, if_neg c] at h
      rw [if_neg c]
      exact h
def sp_F (S : Nat → Int32) (k : Nat) (up : Int32) (n : Nat) : Int64 := sp_wv S k (nI n) up 0 0
def sp_c (S : Nat → Int32) (k t j : Nat) : Prop := 0 < sp_P S k t j ∧ sp_may S (sp_o S k 3) t = true
theorem wv_const {S : Nat → Int32} {k n n' u : Nat} (hW : sp_WF S) (hn : n ≤ n') (hn' : n' ≤ 2999) (hu : u ≤ 1) (hno : ∀ t j, t < sN S 2 → j ≤ t → sp_c S k t j → ¬ (n < sp_prN S t j + u ∧ sp_prN S t j + u ≤ n')) : sp_F S k (nI u) n = sp_F S k (nI u) n' := by
  have h12 := wf_12 hW
  have hch : ∀ t j, t ≤ sN S 2 → j ≤ t → sp_ch S k (nI n) (nI u) t j = sp_ch S k (nI n') (nI u) t j := by
    intro t j ht hj
    unfold sp_ch
    by_cases c1 : sp_P S k t j ≤ 0
    · rw [if_pos c1, if_pos c1]
    rw [if_neg c1, if_neg c1]
    by_cases c2 : sp_may S (sp_o S k 3) t = true
    · rw [if_pos c2, if_pos c2]
      by_cases c3 : t = sN S 2
      · rw [decide_eq_true c3, ite_self, ite_self]
      · have hc := hno t j (by omega) hj ⟨Int64.not_le.mp c1, c2⟩
        have hp := sp_prN_le hW (j := j) ht (by omega)
        have e : sp_rc S (nI n) (nI u) t j = sp_rc S (nI n') (nI u) t j := by
          unfold sp_rc
          rw [sp_pr_n hW ht]
          rcases (by omega : u = 0 ∨ u = 1) with rfl | rfl
          · rw [if_neg (by decide), if_neg (by decide)]
            exact decide_eq_decide.mpr (by rw [nI_leI (by omega) (by omega), nI_leI (by omega) (by omega)]; omega)
          · rw [if_pos (show nI 1 = 1 from rfl), if_pos (show nI 1 = 1 from rfl)]
            exact decide_eq_decide.mpr (by rw [nI_leI (by omega) (by omega), nI_leI (by omega) (by omega)]; omega)
        rw [e]
    · rw [if_neg c2, if_neg c2]
  have hwp : ∀ t j, t ≤ sN S 2 → j ≤ t → sp_wp S k (nI n) (nI u) t j = sp_wp S k (nI n') (nI u) t j := fun t j ht hj =>
    sp_tab_congr (fun t R j ht hj => by rw [hch t j ht hj]) (fun t R R' j ht hj hR => by rw [sp_hd_loc2 ht hj hR]) ht hj
  unfold sp_F sp_wv
  exact sp_tab_congr (fun t R j ht hj => by
    unfold sp_wF
    rw [hch t j ht hj, hwp t j ht hj]) (fun t R R' j ht hj hR => by rw [sp_hd_loc2 ht hj hR]) (by omega) (by omega)
/-- marks, in their order: beside 0 they are all that matters -/
def mk_b (a : Nat → Nat) : Nat → Nat
  | 0 => 0
  | i + 1 => a i
theorem mk_last {a : Nat → Nat} {q : Nat} : ∀ K, ∃ y, y ≤ K ∧ mk_b a y ≤ q ∧ ∀ i, y ≤ i → i < K → q < a i := by
  intro K
  induction K with
  | zero => exact ⟨0, Nat.le_refl _, Nat.zero_le _, fun i h1 h2 => by omega⟩
  | succ K ih =>
    obtain ⟨y, h1, h2, h3⟩ := ih
    by_cases c : a K ≤ q
    · exact ⟨K + 1, Nat.le_refl _, c, fun i h1 h2 => by omega⟩
    · refine ⟨y, by omega, h2, fun i h4 h5 => ?_⟩
      by_cases e : i = K
      · subst e; omega
      · exact h3 i h4 (by omega)
theorem mk_best {S : Nat → Int32} {k u K x : Nat} {a : Nat → Nat} (hW : sp_WF S) (hu : u ≤ 1) (ha : ∀ i, i < K → a i ≤ 2395) (hs : ∀ i i', i < i' → i' < K → a i < a i')
    (hm : ∀ t j, t < sN S 2 → j ≤ t → sp_c S k t j → ∃ i, i < K ∧ a i = sp_prN S t j + u) (hx : x ≤ K) (h1 : ∀ y, y ≤ K → sp_F S k (nI u) (mk_b a y) ≤ sp_F S k (nI u) (mk_b a x)) (h2 : ∀ y, y < x → sp_F S k (nI u) (mk_b a y) < sp_F S k (nI u) (mk_b a x)) :
    mk_b a x = sp_am (sp_F S k (nI u)) 2999 := by
  have bb : ∀ y, y ≤ K → mk_b a y ≤ 2395 := by
    intro y hy
    cases y with
    | zero => exact Nat.zero_le _
    | succ y => exact ha y (by omega)
  have mono : ∀ y y', y ≤ y' → y' ≤ K → mk_b a y ≤ mk_b a y' := by
    intro y y' h h'
    cases y with
    | zero => exact Nat.zero_le _
    | succ y =>
      cases y' with
      | zero => omega
      | succ y' =>
        show a y ≤ a y'
        by_cases e : y = y'
        · subst e; exact Nat.le_refl _
        · exact Nat.le_of_lt (hs y y' (by omega) (by omega))
  refine sp_bst_u (n := 3000) (F := sp_F S k (nI u)) ⟨by have := bb x hx; omega, rfl, fun q hq => ?_⟩ (sp_am_b (sp_F S k (nI u)) 2999)
  obtain ⟨y, y1, y2, y3⟩ := mk_last (a := a) (q := q) K
  have e : sp_F S k (nI u) (mk_b a y) = sp_F S k (nI u) q := by
    refine wv_const hW y2 (by omega) hu (fun t j ht hj hc z => ?_)
    obtain ⟨i, i1, i2⟩ := hm t j ht hj hc
    by_cases c : y ≤ i
    · have := y3 i c i1
      omega
    · have := mono (i + 1) y (by omega) y1
      have e2 : mk_b a (i + 1) = a i := rfl
      omega
  rw [← e]
  refine ⟨h1 y y1, fun z => ?_⟩
  have : x ≤ y := by
    rcases Nat.lt_or_ge y x with w | w
    · have := h2 y w
      rw [z] at this
      exact absurd this Int64.lt_irrefl
    · exact w
  exact Nat.le_trans (mono x y this y1) y2
/-! the class -/
def c_BF (g0 g : ob_St) : Prop := ∀ m, m < 112 → g.1 m = g0.1 m ∧ g.2 m = g0.2 m
theorem c_BF_tr {a b c : ob_St} (h : c_BF a b) (h' : c_BF b c) : c_BF a c := fun m hm => ⟨(h' m hm).1.trans (h m hm).1, (h' m hm).2.trans (h m hm).2⟩
theorem c_M_B {S : Nat → Int32} {g g' : ob_St} (h : c_BF g g') (hM : c_M 24 S g) (hW : sp_WF S) : c_M 24 S g' := c_M_fr (wf_4 hW) (fun m h1 h2 => (h m (by omega)).1) hM
theorem c_Lat_B {S : Nat → Int32} {g g' : ob_St} (h : c_BF g g') (hL : c_Lat S g) (hW : sp_WF S) : c_Lat S g' := by
  have h4 := wf_4 hW
  refine ⟨⟨fun i hi => ?_, fun t j ht hj => ?_⟩, fun k hk t j ht hj => ?_⟩
  · rw [(h 70 (by omega)).2]; exact hL.1.1 i hi
  · rw [(h 68 (by omega)).1, (h 69 (by omega)).1]; exact hL.1.2 t j ht hj
  · exact c_H_fr (fun m m1 m2 => h m (by omega)) (hL.2 k hk t j ht hj)
theorem c_K_B {g g' : ob_St} (h : c_BF g g') : c_K g g' := fun m hm => h m (by omega)
theorem c_BF_RF {r : Nat → Prop} {g g' : ob_St} (h : m_RF r g g') (hr : ∀ m, r m → 112 ≤ m) : c_BF g g' := fun m hm => ⟨by rw [h.1], h.2 m (fun hh => absurd (hr _ hh) (by omega))⟩
def c_MA (g : ob_St) (a : Nat → Nat) (K : Nat) : Prop := g.1 122 4 = nI K ∧ (∀ i, i < K → g.1 125 i = nI (a i) ∧ a i ≤ 2395) ∧ ∀ i i', i < i' → i' < K → a i < a i'
theorem c_ins1 {g : ob_St} {a : Nat → Nat} {K v : Nat} (hA : c_MA g a K) (hK : K < 92) (hv : v ≤ 2395) : ∀ p fuel, p < fuel → p ≤ K → (∀ i, p ≤ i → i < K → v < a i) → ∃ p', L_X8_insertMark_5 g 122 (nI v) fuel (nI p) = some (nI p') ∧ p' ≤ K ∧ (∀ i, p' ≤ i → i < K → v < a i) ∧ (p' = 0 ∨ a (p' - 1) ≤ v) := by
  intro p
  induction p with
  | zero =>
    intro fuel hf hp h
    obtain ⟨f, rfl⟩ : ∃ f, fuel = f + 1 := ⟨fuel - 1, by omega⟩
    refine ⟨0, ?_, Nat.zero_le _, h, Or.inl rfl⟩
    show Lb_X8_insertMark_5 _ _ _ _ _ = _
    unfold Lb_X8_insertMark_5
    rw [if_pos (by decide)]
  | succ p ih =>
    intro fuel hf hp h
    obtain ⟨f, rfl⟩ : ∃ f, fuel = f + 1 := ⟨fuel - 1, by omega⟩
    obtain ⟨e1, e2⟩ := hA.2.1 p (by omega)
    have hd : L_X8_insertMark_5 g 122 (nI v) (f + 1) (nI (p + 1)) = if nI (a p) ≤ nI v then some (nI (p + 1)) else L_X8_insertMark_5 g 122 (nI v) f (nI p) := by
      show Lb_X8_insertMark_5 _ _ _ _ _ = _
      unfold Lb_X8_insertMark_5
      rw [if_neg (nI_nle (by omega) (by omega)), ev_r122_3, Option.bind_some, nI_pred, ev_a125 (by omega), Option.bind_some, e1, pu_pred]
    rw [hd]
    by_cases c : a p ≤ v
    · rw [if_pos (nI_le c (by omega))]
      exact ⟨p + 1, rfl, hp, h, Or.inr (by rw [Nat.add_sub_cancel]; exact c)⟩
    · rw [if_neg (nI_ge (by omega) (by omega))]
      exact ih f (by omega) (by omega) (fun i h1 h2 => by
        by_cases e : i = p
        · subst e; omega
        · exact h i (by omega) h2)
theorem c_ins2 {p v : Nat} : ∀ d i g fuel, i = p + d → i < 92 → d < fuel → ∃ g', L_X8_insertMark_61 122 (nI v) (nI p) fuel g (nI i) = some g' ∧ (∀ m, m ≠ 125 → g'.1 m = g.1 m) ∧ g'.2 = g.2 ∧ ∀ x, g'.1 125 x = if p < x ∧ x ≤ i then g.1 125 (x - 1) else g.1 125 x := by
  intro d
  induction d with
  | zero =>
    intro i g fuel hi h92 hf
    obtain ⟨f, rfl⟩ : ∃ f, fuel = f + 1 := ⟨fuel - 1, by omega⟩
    refine ⟨g, ?_, fun _ _ => rfl, rfl, fun x => by rw [if_neg (by omega)]⟩
    show Lb_X8_insertMark_61 _ _ _ _ _ _ = _
    unfold Lb_X8_insertMark_61
    rw [if_pos (nI_le (by omega) (by omega))]
  | succ d ih =>
    intro i g fuel hi h92 hf
    obtain ⟨f, rfl⟩ : ∃ f, fuel = f + 1 := ⟨fuel - 1, by omega⟩
    obtain ⟨i', rfl⟩ : ∃ i', i = i' + 1 := ⟨i - 1, by omega⟩
    obtain ⟨g', h1, h2, h3, h4⟩ := ih i' (ob_up g.1 125 (i' + 1) (g.1 125 i'), g.2) f (by omega) (by omega) (by omega)
    refine ⟨g', ?_, fun m hm => ?_, h3, fun x => ?_⟩
    · show Lb_X8_insertMark_61 _ _ _ _ _ _ = _
      unfold Lb_X8_insertMark_61
      rw [if_neg (nI_ge (by omega) (by omega)), ev_r122_3, Option.bind_some, Option.bind_some, nI_pred, ev_a125 (by omega), Option.bind_some, ev_w125 (by omega), Option.bind_some, pu_pred]
      exact h1
    · rw [h2 m hm]
      exact pu_up_ne hm
    · rw [h4 x]
      show (if _ then ob_up g.1 125 (i' + 1) (g.1 125 i') 125 (x - 1) else ob_up g.1 125 (i' + 1) (g.1 125 i') 125 x) = _
      rw [pu_up_eq]
      by_cases c : p < x ∧ x ≤ i' + 1
      · rw [if_pos c]
        by_cases c2 : x = i' + 1
        · rw [if_neg (by omega), c2, pu_upd_eq, Nat.add_sub_cancel]
        · rw [if_pos (by omega), pu_upd_ne (by omega)]
      · rw [if_neg c, if_neg (by omega), pu_upd_ne (by omega)]
theorem c_insert {g : ob_St} {a : Nat → Nat} {K v : Nat} (hA : c_MA g a K) (hK : K < 92) (hv : v ≤ 2395) : ∃ g' a' K', f_X8_insertMark g 122 (nI v) = some g' ∧ c_BF g g' ∧ c_MA g' a' K' ∧ K' ≤ K + 1 ∧ (∀ x, (∃ i, i < K ∧ a i = x) → ∃ i, i < K' ∧ a' i = x) ∧ ∃ i, i < K' ∧ a' i = v := by
  obtain ⟨p, p1, p2, p3, p4⟩ := c_ins1 hA hK hv K ob_FU (by unfold ob_FU; omega) (Nat.le_refl _) (fun i h1 h2 => by omega)
  by_cases c : 0 < p ∧ a (p - 1) = v
  · obtain ⟨p', rfl⟩ : ∃ p', p = p' + 1 := ⟨p - 1, by omega⟩
    rw [Nat.add_sub_cancel] at c
    refine ⟨g, a, K, ?_, fun _ _ => ⟨rfl, rfl⟩, hA, by omega, fun x h => h, p', by omega, c.2⟩
    unfold f_X8_insertMark
    rw [ev_g122, Option.bind_some, hA.1]
    refine (pu_b p1).trans ?_
    rw [if_neg (nI_nle (by omega) (by omega)), ev_r122_3, Option.bind_some, nI_pred, ev_a125 (by omega), Option.bind_some, (hA.2.1 p' (by omega)).1, c.2, if_pos rfl]
  · have hlt : ∀ i, i < p → a i < v := by
      intro i hi
      have h1 : a (p - 1) ≤ v := p4.resolve_left (by omega)
      have h2 : ¬ a (p - 1) = v := fun z => c ⟨by omega, z⟩
      by_cases e : i = p - 1
      · subst e; omega
      · have := hA.2.2 i (p - 1) (by omega) (by omega)
        omega
    obtain ⟨g1, q1, q2, q3, q4⟩ := c_ins2 (p := p) (v := v) (K - p) K g ob_FU (by omega) hK (by unfold ob_FU; omega)
    have b43 : B_X8_insertMark_43 g 122 (nI v) (nI p) = some (ob_up (ob_up g1.1 125 p (nI v)) 122 4 (nI (K + 1)), g1.2) := by
      unfold B_X8_insertMark_43
      have hlen : ob_len 14 125 = some (nI 92) := rfl
      rw [ev_g122, Option.bind_some, ev_r122_3, Option.bind_some, hlen, Option.bind_some, hA.1, if_pos (nI_lt (by omega) (by omega)), Option.bind_some]
      refine (pu_b q1).trans ?_
      rw [Option.bind_some, ev_w125 (by omega), Option.bind_some, ev_g122, Option.bind_some]
      show (ob_pI _ 8 122 4 (ob_up g1.1 125 p (nI v) 122 4 + 1)).bind _ = _
      rw [pu_up_ne (by omega), q2 122 (by omega), hA.1, nI_1, ev_p122, Option.bind_some]
    refine ⟨(ob_up (ob_up g1.1 125 p (nI v)) 122 4 (nI (K + 1)), g1.2), fun i => if i < p then a i else if i = p then v else a (i - 1), K + 1, ?_, fun m hm => ⟨?_, ?_⟩, ⟨?_, fun i hi => ?_, fun i i' h1 h2 => ?_⟩, Nat.le_refl _, fun x hx => ?_, p, by omega, ?_⟩
    · unfold f_X8_insertMark
      rw [ev_g122, Option.bind_some, hA.1]
      refine (pu_b p1).trans ?_
      by_cases e : p = 0
      · subst e
        rw [if_pos (by decide), b43]
      · obtain ⟨p', rfl⟩ : ∃ p', p = p' + 1 := ⟨p - 1, by omega⟩
        have := hlt p' (by omega)
        rw [if_neg (nI_nle (by omega) (by omega)), ev_r122_3, Option.bind_some, nI_pred, ev_a125 (by omega), Option.bind_some, (hA.2.1 p' (by omega)).1, if_neg (fun z => by have := (nI_eq (by omega) (by omega)).mp z; omega), b43]
    · show ob_up (ob_up g1.1 125 p (nI v)) 122 4 (nI (K + 1)) m = _
      rw [pu_up_ne (by omega), pu_up_ne (by omega), q2 m (by omega)]
    · show g1.2 m = _
      rw [q3]
    · show ob_up (ob_up g1.1 125 p (nI v)) 122 4 (nI (K + 1)) 122 4 = _
      rw [pu_up_eq, pu_upd_eq]
    · dsimp only
      rw [pu_up_ne (by omega), pu_up_eq]
      by_cases c1 : i < p
      · rw [if_pos c1, pu_upd_ne (by omega), q4 i, if_neg (by omega)]
        exact hA.2.1 i (by omega)
      · rw [if_neg c1]
        by_cases c2 : i = p
        · rw [if_pos c2, c2, pu_upd_eq]
          exact ⟨rfl, hv⟩
        · rw [if_neg c2, pu_upd_ne c2, q4 i, if_pos (by omega)]
          exact hA.2.1 (i - 1) (by omega)
    · dsimp only
      by_cases c1 : i' < p
      · rw [if_pos (by omega : i < p), if_pos c1]
        exact hA.2.2 i i' h1 (by omega)
      · rw [if_neg c1]
        by_cases c2 : i' = p
        · rw [if_pos c2, if_pos (by omega : i < p)]
          exact hlt i (by omega)
        · rw [if_neg c2]
          by_cases c3 : i < p
          · rw [if_pos c3]
            by_cases e : i = i' - 1
            · omega
            · exact hA.2.2 i (i' - 1) (by omega) (by omega)
          · rw [if_neg c3]
            by_cases c4 : i = p
            · rw [if_pos c4]
              exact p3 (i' - 1) (by omega) (by omega)
            · rw [if_neg c4]
              exact hA.2.2 (i - 1) (i' - 1) (by omega) (by omega)
    · obtain ⟨i, i1, i2⟩ := hx
      by_cases c1 : i < p
      · exact ⟨i, by omega, by dsimp only; rw [if_pos c1, i2]⟩
      · exact ⟨i + 1, by omega, by dsimp only; rw [if_neg (by omega), if_neg (by omega), Nat.add_sub_cancel, i2]⟩
    · dsimp only
      rw [if_neg (by omega), if_pos rfl]
def c_MI (S : Nat → Int32) (k u : Nat) (g0 : ob_St) (T J : Nat) (g : ob_St) : Prop := c_BF g0 g ∧ ∃ a K, c_MA g a K ∧ K ≤ nd T J ∧ ∀ t j, t < sN S 2 → j ≤ t → (t < T ∨ t = T ∧ j < J) → sp_c S k t j → ∃ i, i < K ∧ a i = sp_prN S t j + u
theorem c_collect {S : Nat → Int32} {g : ob_St} {k u : Nat} (hW : sp_WF S) (hM : c_M 24 S g) (hL : c_Lat S g) (hk : k < sN S 29) (hu : u ≤ 1) : ∃ g', f_X8_collectMarks g 122 (72 + 8 * k) (28 + k) (nI u) = some g' ∧ c_MI S k u g (sN S 2) 0 g' := by
  have h12 := wf_12 hW
  have h4 := wf_4 hW
  have ho := wf_o hW hk
  have hn := c_Sh_k (k := k) (by omega)
  have nd12 : ∀ t j, t < 12 → j ≤ t → nd t j < 78 := by
    intro t j ht hj
    have h1 : c_tri t + t < c_tri 12 := c_tri_lt (by omega)
    have h2 : c_tri 12 = 78 := rfl
    unfold nd
    omega
  have inner : ∀ (t : Nat) (s : ob_St), t < sN S 2 → c_MI S k u g t 0 s → ∃ s', L_X8_collectMarks_26 122 (72 + 8 * k) (28 + k) (nI u) (nI t) ob_FU s (nI 0) = some s' ∧ c_MI S k u g (t + 1) 0 s' := by
    intro t s ht hs
    have hmy : ∀ s : ob_St, c_BF g s → f_X3_may s 67 (nI t) (s.1 (28 + k) 3) = some (if sp_may S (sp_o S k 3) t = true then 1 else 0) := by
      intro s hB
      have hMs := c_M_B hB hM hW
      have e3 : s.1 (28 + k) 3 = c_fr (sp_o S k 3) := (hMs.2.2.2.2.2 k hk).2.2.2.1
      have := c_may hW hMs (show t ≤ sN S 2 by omega) ho.2.2.2.1.2
      rw [← ho.2.2.2.1.1] at this
      rw [e3]
      exact this
    by_cases cm : sp_may S (sp_o S k 3) t = true
    · exact pu_up (fun f s i => L_X8_collectMarks_26 122 (72 + 8 * k) (28 + k) (nI u) (nI t) f s (nI i)) (fun i s => c_MI S k u g t i s) (t + 1) (fun r => c_MI S k u g (t + 1) 0 r)
        (fun f s hI => ⟨s, by
          show Lb_X8_collectMarks_26 _ _ _ _ _ _ _ _ = _
          unfold Lb_X8_collectMarks_26
          rw [if_pos (nI_lt (by omega) (by omega))], hI.1, by
          obtain ⟨a, K, a1, a2, a3⟩ := hI.2
          exact ⟨a, K, a1, a2, fun t' j' h1 h2 h3 h4 => a3 t' j' h1 h2 (by omega) h4⟩⟩)
        (fun f i s hi hI => by
          obtain ⟨hB, a, K, a1, a2, a3⟩ := hI
          have hLs := c_Lat_B hB hL hW
          have hl := nd_lt (t := t) (j := i) (by omega) (by omega)
          have hK := nd12 t i (by omega) (by omega)
          have ep : s.2 (72 + 8 * k + 1) (nd t i) = sp_P S k t i := (hLs.2 k hk t i (by omega) (by omega)).1
          have e69 : s.1 69 (nd t i) = nI (sp_prN S t i) := (hLs.1.2 t i (by omega) (by omega)).2.trans (sp_pr_n hW (by omega))
          have hpl := sp_prN_le hW (t := t) (j := i) (by omega) (by omega)
          have ndS : nd t (i + 1) = nd t i + 1 := rfl
          have hd : L_X8_collectMarks_26 122 (72 + 8 * k) (28 + k) (nI u) (nI t) (f + 1) s (nI i) = if sp_P S k t i ≤ 0 then L_X8_collectMarks_26 122 (72 + 8 * k) (28 + k) (nI u) (nI t) f s (nI (i + 1)) else (f_X8_insertMark s 122 (nI (sp_prN S t i + u))).bind fun g14 => L_X8_collectMarks_26 122 (72 + 8 * k) (28 + k) (nI u) (nI t) f g14 (nI (i + 1)) := by
            show Lb_X8_collectMarks_26 _ _ _ _ _ _ _ _ = _
            unfold Lb_X8_collectMarks_26 B_X8_collectMarks_86
            rw [if_neg (nI_nlt (by omega) (by omega)), ev_r122_0, Option.bind_some, ew_gc (by omega), Option.bind_some, hmy s hB, ev_ck67, Option.bind_some, m_may1, if_pos cm, c_nodeAt (by omega), Option.bind_some, es_0 hn, Option.bind_some, es_a1 hn hl, Option.bind_some, ep, Option.bind_some, ev_r67_2, Option.bind_some, ev_a69 hl, Option.bind_some, e69, nI_add, nI_1, ev_ck122]
          rw [hd]
          by_cases cp : sp_P S k t i ≤ 0
          · rw [if_pos cp]
            refine ⟨s, ⟨hB, a, K, a1, by omega, fun t' j' h1 h2 h3 h4 => ?_⟩, rfl⟩
            by_cases e : t' = t ∧ j' = i
            · obtain ⟨rfl, rfl⟩ := e
              exact absurd h4.1 (Int64.not_lt.mpr cp)
            · exact a3 t' j' h1 h2 (by omega) h4
          · rw [if_neg cp]
            obtain ⟨s', a', K', b1, b2, b3, b4, b5, b6⟩ := c_insert a1 (show K < 92 by omega) (show sp_prN S t i + u ≤ 2395 by omega)
            refine ⟨s', ⟨c_BF_tr hB b2, a', K', b3, by omega, fun t' j' h1 h2 h3 h4 => ?_⟩, by rw [b1, Option.bind_some]⟩
            by_cases e : t' = t ∧ j' = i
            · obtain ⟨rfl, rfl⟩ := e
              exact b6
            · exact b5 _ (a3 t' j' h1 h2 (by omega) h4))
        (t + 1) 0 ob_FU s (by omega) (by unfold ob_FU; omega) hs
    · refine ⟨s, ?_, hs.1, ?_⟩
      · obtain ⟨f, hf⟩ : ∃ f, ob_FU = f + 1 := ⟨4999, rfl⟩
        rw [hf]
        show Lb_X8_collectMarks_26 _ _ _ _ _ _ _ _ = _
        unfold Lb_X8_collectMarks_26
        rw [if_neg (nI_nlt (by omega) (by omega)), ev_r122_0, Option.bind_some, ew_gc (by omega), Option.bind_some, hmy s hs.1, ev_ck67, Option.bind_some, m_may1, if_neg cm]
      · obtain ⟨a, K, a1, a2, a3⟩ := hs.2
        have hnd : nd (t + 1) 0 = nd t 0 + t + 1 := nd_dn t 0
        refine ⟨a, K, a1, by omega, fun t' j' h1 h2 h3 h4 => ?_⟩
        by_cases e : t' = t
        · subst e
          exact absurd h4.2 cm
        · exact a3 t' j' h1 h2 (by omega) h4
  obtain ⟨g', o1, o2⟩ := pu_up (fun f s i => L_X8_collectMarks_8 122 (72 + 8 * k) (28 + k) (nI u) f s (nI i)) (fun i s => c_MI S k u g i 0 s) (sN S 2) (fun r => c_MI S k u g (sN S 2) 0 r)
    (fun f s hI => ⟨s, by
      have h5 : s.1 24 5 = nI (sN S 2) := (c_M_B hI.1 hM hW).2.2.1.trans (wf_2 hW)
      show Lb_X8_collectMarks_8 _ _ _ _ _ _ _ = _
      unfold Lb_X8_collectMarks_8
      rw [ev_r122_0, Option.bind_some, ev_r67_0, Option.bind_some, ev_g24, Option.bind_some, h5, if_pos (nI_le (by omega) (by omega))], hI⟩)
    (fun f i s hi hI => by
      obtain ⟨s', p1, p2⟩ := inner i s hi hI
      have h5 : s.1 24 5 = nI (sN S 2) := (c_M_B hI.1 hM hW).2.2.1.trans (wf_2 hW)
      refine ⟨s', p2, ?_⟩
      show Lb_X8_collectMarks_8 _ _ _ _ _ _ _ = _
      unfold Lb_X8_collectMarks_8
      rw [ev_r122_0, Option.bind_some, ev_r67_0, Option.bind_some, ev_g24, Option.bind_some, h5, if_neg (nI_ge (by omega) (by omega))]
      refine (pu_b p1).trans ?_
      rw [nI_1])
    (sN S 2) 0 ob_FU (ob_up g.1 122 4 0, g.2) (by omega) (by unfold ob_FU; omega) ⟨fun m hm => ⟨pu_up_ne (by omega), rfl⟩, fun _ => 0, 0, ⟨by
      show ob_up g.1 122 4 0 122 4 = _
      rw [pu_up_eq, pu_upd_eq]; rfl, fun i hi => by omega, fun i i' h1 h2 => by omega⟩, Nat.zero_le _, fun t j h1 h2 h3 => by omega⟩
  refine ⟨g', ?_, o2⟩
  unfold f_X8_collectMarks
  rw [ev_p122, Option.bind_some]
  exact pu_b o1
