/-! strike, early: the reference -/
theorem wo_congr {S S' : Nat → Int32} {q : Nat} (h : ∀ w, w < 10 → sp_o S' q w = sp_o S q w) (ho : sp_WO S q) : sp_WO S' q := by
  have e : ∀ w, w < 10 → S' (30 + 10 * q + w) = S (30 + 10 * q + w) := h
  unfold sp_WO sp_o sN at ho ⊢
  rw [e 0 (by omega), e 1 (by omega), e 2 (by omega), e 3 (by omega), e 4 (by omega), e 5 (by omega), e 6 (by omega), e 7 (by omega), e 8 (by omega), e 9 (by omega)]
  exact ho
theorem sN_nI {S : Nat → Int32} {i a : Nat} (h : S i = nI a) (ha : a < 2 ^ 31) : sN S i = a := by unfold sN; rw [h, nI_clamp ha]
theorem wo_strike {S S' : Nat → Int32} {k st : Nat} (h : ∀ w, w < 10 → w ≠ 1 → sp_o S' k w = sp_o S k w) (h1 : sp_o S' k 1 = nI st) (hst : st ≤ 999) (h3 : sN S (30 + 10 * k + 0) = 3 → st < sN S (30 + 10 * k + 2)) (ho : sp_WO S k) : sp_WO S' k := by
  have e : ∀ w, w < 10 → w ≠ 1 → S' (30 + 10 * k + w) = S (30 + 10 * k + w) := h
  have eN : ∀ w, w < 10 → w ≠ 1 → sN S' (30 + 10 * k + w) = sN S (30 + 10 * k + w) := fun w a b => by unfold sN; rw [e w a b]
  have e1 : sN S' (30 + 10 * k + 1) = st := sN_nI h1 (by omega)
  unfold sp_WO at ho ⊢
  rw [h 0 (by omega) (by omega), h1, h 2 (by omega) (by omega), h 3 (by omega) (by omega), h 4 (by omega) (by omega), h 5 (by omega) (by omega), h 6 (by omega) (by omega), h 7 (by omega) (by omega), h 8 (by omega) (by omega), h 9 (by omega) (by omega),
    e1, eN 0 (by omega) (by omega), eN 2 (by omega) (by omega), eN 3 (by omega) (by omega), eN 4 (by omega) (by omega), eN 5 (by omega) (by omega), eN 6 (by omega) (by omega), eN 7 (by omega) (by omega), eN 8 (by omega) (by omega)]
  obtain ⟨a0, a1, ⟨a2, a2', a2''⟩, a3⟩ := ho
  exact ⟨a0, ⟨rfl, hst⟩, ⟨a2, a2', fun z => ⟨(a2'' z).1, h3 z, (a2'' z).2.2⟩⟩, a3⟩
theorem wo_from {S S' : Nat → Int32} {k : Nat} (h : ∀ w, w < 10 → w ≠ 3 → sp_o S' k w = sp_o S k w) (h1 : sp_o S' k 3 = 99) (ho : sp_WO S k) : sp_WO S' k := by
  have e : ∀ w, w < 10 → w ≠ 3 → S' (30 + 10 * k + w) = S (30 + 10 * k + w) := h
  have eN : ∀ w, w < 10 → w ≠ 3 → sN S' (30 + 10 * k + w) = sN S (30 + 10 * k + w) := fun w a b => by unfold sN; rw [e w a b]
  have e1 : sN S' (30 + 10 * k + 3) = 99 := sN_nI (a := 99) h1 (by omega)
  unfold sp_WO at ho ⊢
  rw [h 0 (by omega) (by omega), h1, h 2 (by omega) (by omega), h 1 (by omega) (by omega), h 4 (by omega) (by omega), h 5 (by omega) (by omega), h 6 (by omega) (by omega), h 7 (by omega) (by omega), h 8 (by omega) (by omega), h 9 (by omega) (by omega),
    e1, eN 0 (by omega) (by omega), eN 2 (by omega) (by omega), eN 1 (by omega) (by omega), eN 4 (by omega) (by omega), eN 5 (by omega) (by omega), eN 6 (by omega) (by omega), eN 7 (by omega) (by omega), eN 8 (by omega) (by omega)]
  obtain ⟨a0, a1, a2, a3, a4⟩ := ho
  exact ⟨a0, a1, a2, ⟨rfl, Or.inr rfl⟩, a4⟩
theorem sp_fN_c {S S' : Nat → Int32} : ∀ t, (∀ i, 1 ≤ i → i ≤ t → S' (3 + i) = S (3 + i)) → sp_fN S' t = sp_fN S t := by
  intro t
  induction t with
  | zero => intro _; rfl
  | succ t ih =>
    intro h
    show sp_fN S' t + sN S' (3 + (t + 1)) = sp_fN S t + sN S (3 + (t + 1))
    rw [ih (fun i a b => h i a (by omega))]
    unfold sN
    rw [h (t + 1) (by omega) (by omega)]
theorem wf_opt {S S' : Nat → Int32} (hW : sp_WF S) (h30 : ∀ i, i < 30 → S' i = S i) (hO : ∀ q, q < sN S 29 → sp_WO S' q) : sp_WF S' := by
  have h12 := wf_12 hW
  have eN : ∀ i, i < 30 → sN S' i = sN S i := fun i hi => by unfold sN; rw [h30 i hi]
  obtain ⟨a0, a1, a2, a29, a3, af, ac, al, ao⟩ := hW
  refine ⟨by rw [h30 0 (by omega), eN 0 (by omega)]; exact a0, by rw [h30 1 (by omega), eN 1 (by omega)]; exact a1, by rw [h30 2 (by omega), eN 2 (by omega)]; exact a2, by rw [h30 29 (by omega), eN 29 (by omega)]; exact a29, by rw [h30 3 (by omega)]; exact a3, fun t h1 h2 => ?_, fun t h1 => ?_, ?_, fun q hq => ?_⟩
  · rw [eN 2 (by omega)] at h2
    rw [h30 (3 + t) (by omega), eN (3 + t) (by omega), eN 1 (by omega)]
    exact af t h1 h2
  · rw [h30 (16 + t) (by omega), eN (16 + t) (by omega)]
    exact ac t h1
  · rw [eN 2 (by omega), eN 0 (by omega), sp_fN_c (S := S) _ (fun i _ hi => h30 (3 + i) (by omega))]
    exact al
  · rw [eN 29 (by omega)] at hq
    exact hO q hq
theorem ix_o {q w k v : Nat} (hw : w < 10) (hv : v < 10) (h : 30 + 10 * q + w = 30 + 10 * k + v) : q = k ∧ w = v := by omega
theorem wf_strike {S : Nat → Int32} {k st : Nat} (hW : sp_WF S) (hk : k < sN S 29) (hst : st ≤ 999) (h3 : sN S (30 + 10 * k + 0) = 3 → st < sN S (30 + 10 * k + 2)) : sp_WF (upd S (30 + 10 * k + 1) (nI st)) := by
  refine wf_opt hW (fun i hi => pu_upd_ne (by omega)) (fun q hq => ?_)
  by_cases e : q = k
  · subst e
    exact wo_strike (fun w a b => pu_upd_ne (by omega)) pu_upd_eq hst h3 (wf_o hW hq)
  · exact wo_congr (fun w a => pu_upd_ne (by omega)) (wf_o hW hq)
theorem wf_from {S : Nat → Int32} {k : Nat} (hW : sp_WF S) (hk : k < sN S 29) : sp_WF (upd S (30 + 10 * k + 3) 99) := by
  refine wf_opt hW (fun i hi => pu_upd_ne (by omega)) (fun q hq => ?_)
  by_cases e : q = k
  · subst e
    exact wo_from (fun w a b => pu_upd_ne (by omega)) pu_upd_eq (wf_o hW hq)
  · exact wo_congr (fun w a => pu_upd_ne (by omega)) (wf_o hW hq)
theorem sm_upd {S : Nat → Int32} {k w : Nat} {v : Int32} (hw : w = 1 ∨ w = 3 ∨ w = 9) : sp_sm S (upd S (30 + 10 * k + w) v) :=
  ⟨fun i hi => pu_upd_ne (by omega), fun q x hq hx h1 h3 => by
    show upd S (30 + 10 * k + w) v (30 + 10 * q + x) = S (30 + 10 * q + x)
    exact pu_upd_ne (by omega)⟩
theorem upd_ext {f S : Nat → Int32} {i : Nat} {v : Int32} (h : ∀ x, x ≠ i → f x = S x) : upd f i v = upd S i v := by
  funext x
  by_cases e : x = i
  · subst e; rw [pu_upd_eq, pu_upd_eq]
  · rw [pu_upd_ne e, pu_upd_ne e, h x e]
theorem upd_back {f S : Nat → Int32} {i : Nat} (h : ∀ x, x ≠ i → f x = S x) : upd f i (S i) = S := by
  funext x
  by_cases e : x = i
  · subst e; rw [pu_upd_eq]
  · rw [pu_upd_ne e, h x e]
/-- an option laid under other terms: what stands at the start -/
def m_SI (S : Nat → Int32) (k w : Nat) (g0 g : ob_St) : Prop :=
  (∀ x, x ≠ 30 + 10 * k + w → g.1 1 x = S x) ∧ (∀ i, i < 14 → g.2 11 i = sp_pw S i) ∧ (∀ q t j, q < k → t ≤ sN S 2 → j ≤ t → g.2 9 (169 * q + 13 * t + j) = sp_V S q t j) ∧
  (∀ n, n ≠ 1 → n ≠ 12 → n ≠ 13 → g.1 n = g0.1 n) ∧ (∀ n, n ≠ 9 → n ≠ 10 → g.2 n = g0.2 n)
theorem m_relay {S : Nat → Int32} {g0 g : ob_St} {k w : Nat} {v : Int32} (hw : w = 1 ∨ w = 3) (hW : sp_WF S) (hk : k < sN S 29) (hW' : sp_WF (upd S (30 + 10 * k + w) v)) (hI : m_SI S k w g0 g) :
    ∃ g', f_X12_laysOption (ob_up g.1 1 (30 + 10 * k + w) v, g.2) 0 (nI k) = some g' ∧ m_SI S k w g0 g' ∧ g'.2 9 (169 * k + 13 * 0 + 0) = sp_X S k (sp_o (upd S (30 + 10 * k + w) v) k 1) (sp_o (upd S (30 + 10 * k + w) v) k 3) := by
  have h12 := wf_12 hW
  have h4 := wf_4 hW
  obtain ⟨i1, i2, i3, i4, i5⟩ := hI
  have sm : sp_sm S (upd S (30 + 10 * k + w) v) := sm_upd (by omega)
  generalize hS' : upd S (30 + 10 * k + w) v = S' at *
  generalize hg2 : ((ob_up g.1 1 (30 + 10 * k + w) v, g.2) : ob_St) = g2
  have r1 : g2.1 1 = S' := by
    rw [← hg2, ← hS']
    show ob_up g.1 1 _ v 1 = _
    rw [pu_up_eq]
    exact upd_ext i1
  have r2 : g2.2 = g.2 := by rw [← hg2]
  have r3 : ∀ n, n ≠ 1 → g2.1 n = g.1 n := fun n hn => by rw [← hg2]; exact pu_up_ne hn
  have e29 : sN S' 29 = sN S 29 := sm_N sm (by omega)
  have e2 : sN S' 2 = sN S 2 := sm_N sm (by omega)
  obtain ⟨g', l1, l2, l3⟩ := m_laysOption (g := g2) (k := k) (by rw [r1]; exact hW') (by rw [r1, e29]; exact hk) (fun i hi => by rw [r2, r1, sm_pw sm]; exact i2 i hi) (sp_pay (g2.1 1) (m_V g2) k (sp_o (g2.1 1) k 1)) rfl
  rw [r1] at l3
  have l3 := l3 0 0 (by omega) (by omega)
  refine ⟨g', l1, ⟨fun x hx => ?_, fun i hi => ?_, fun q t j hq ht hj => ?_, fun n n1 n2 n3 => ?_, fun n n1 n2 => ?_⟩, ?_⟩
  · rw [l2.1 1 (by omega) (by omega), r1, ← hS', pu_upd_ne hx]
  · rw [l2.2.1 11 (by omega) (by omega), r2]; exact i2 i hi
  · rw [(l2.2.2 _ (Or.inl (by omega))).2.2.1, r2]; exact i3 q t j hq ht hj
  · rw [l2.1 n n2 n3, r3 n n1]; exact i4 n n1 n2 n3
  · rw [l2.2.1 n n1 n2, r2]; exact i5 n n1 n2
  · have hP : ∀ t j, t ≤ sN S 2 → j ≤ t → sp_pay S' (m_V g2) k (sp_o S' k 1) t j = sp_pay S (sp_Vs S k) k (sp_o S' k 1) t j := by
      intro t j ht hj
      rw [sm_pay sm h12 (by omega) ht]
      refine sp_pay_V (wf_o hW hk) (fun q hq => ?_)
      rw [sp_Vs_lt hq]
      show g2.2 9 _ = _
      rw [r2]
      exact i3 q t j hq ht hj
    rw [l3.2.1, sm_vl sm h12 (by omega) (by omega) (by omega)]
    exact sp_vl_congr hP (by omega) (by omega)
theorem m_isWorth {S : Nat → Int32} {g0 g : ob_St} {k st : Nat} {v : Int32} (hW : sp_WF S) (hk : k < sN S 29) (hkd : sp_o S k 0 = 0 ∨ sp_o S k 0 = 1) (hst : st ≤ 999) (hI : m_SI S k 1 g0 g) :
    ∃ g', f_X12_isWorth g 0 (nI k) (nI st) v = some (bI (sp_mt S k v st), g') ∧ m_SI S k 1 g0 g' := by
  have h12 := wf_12 hW
  have h4 := wf_4 hW
  have ho := wf_o hW hk
  have n3 : sN S (30 + 10 * k + 0) = 3 → st < sN S (30 + 10 * k + 2) := fun z => by
    have := ho.1.1
    rw [z] at this
    rcases hkd with q | q <;> rw [q] at this <;> exact absurd this (by decide)
  obtain ⟨g', l1, l2, l3⟩ := m_relay (v := nI st) (Or.inl rfl) hW hk (wf_strike hW hk hst n3) hI
  have eo1 : sp_o (upd S (30 + 10 * k + 1) (nI st)) k 1 = nI st := pu_upd_eq
  have eo3 : sp_o (upd S (30 + 10 * k + 1) (nI st)) k 3 = sp_o S k 3 := pu_upd_ne (by omega)
  rw [eo1, eo3] at l3
  refine ⟨g', ?_, l2⟩
  have mc : f_X12_cell (nI k) 0 0 = some (nI (169 * k + 13 * 0 + 0)) := m_cell (t := 0) (j := 0)
  have e2 : g'.1 1 2 = nI (sN S 2) := by rw [l2.1 2 (by omega), wf_2 hW]
  have e11 : g'.2 11 (sN S 2) = sp_pw S (sN S 2) := l2.2.1 _ (by omega)
  unfold f_X12_isWorth
  rw [ev_r0_1, Option.bind_some, pu_mul, pu_add, pu_addr, ev_w1 (by omega), Option.bind_some]
  show ((ob_ck 12 0 (f_X12_laysOption (ob_up g.1 1 (30 + 10 * k + 1) (nI st), g.2) 0 (nI k))).bind _) = _
  rw [l1, ev_ck0, Option.bind_some]
  unfold sp_mt
  by_cases c1 : v < 0
  · rw [if_pos c1, if_pos c1]; rfl
  rw [if_neg c1, if_neg c1]
  by_cases c2 : (9999 : Int32) ≤ v
  · rw [if_pos c2, if_pos c2]; rfl
  rw [if_neg c2, if_neg c2, ev_r0_20, Option.bind_some, mc, Option.bind_some, ev_a9 (by omega), Option.bind_some, ev_r0_22, Option.bind_some, Option.bind_some, ev_l1 (by omega), Option.bind_some]
  show (ob_rL g' 11 (g'.1 1 2)).bind _ = _
  rw [e2, ev_a11 (by omega), Option.bind_some, l3, e11]
  by_cases c3 : sp_X S k (nI st) (sp_o S k 3) < v.toInt64 * sp_pw S (sN S 2)
  · rw [if_pos c3, if_pos c3]; rfl
  · rw [if_neg c3, if_neg c3]; rfl
theorem m_strikeL {S : Nat → Int32} {g0 : ob_St} {k : Nat} {v was : Int32} (hW : sp_WF S) (hk : k < sN S 29) (hkd : sp_o S k 0 = 0 ∨ sp_o S k 0 = 1) :
    ∀ n i g fuel, i + n = 1000 → n + 1 < fuel → m_SI S k 1 g0 g → (∀ q, q < i → sp_mt S k v (if sp_o S k 0 = 0 then 999 - q else q) = false) → ∃ g', L_X12_strike_42 0 (nI k) v was fuel g (-1) (nI i) = some (g', sp_stk S k v) ∧ m_SI S k 1 g0 g' := by
  have h4 := wf_4 hW
  intro n
  induction n with
  | zero =>
    intro i g fuel hi hf hI hq
    obtain ⟨f, rfl⟩ : ∃ f, fuel = f + 1 := ⟨fuel - 1, by omega⟩
    refine ⟨g, ?_, hI⟩
    have hn : sp_stk S k v = -1 := by
      unfold sp_stk
      by_cases c : sp_o S k 0 = 0
      · rw [if_pos c, sp_fst_n 1000 (fun q h => by have := hq q (by omega); rw [if_pos c] at this; exact this)]; rfl
      · rw [if_neg c, sp_fst_n 1000 (fun q h => by have := hq q (by omega); rw [if_neg c] at this; exact this)]; rfl
    show Lb_X12_strike_42 _ _ _ _ _ _ _ _ = _
    unfold Lb_X12_strike_42
    have p1000 : (1000 : Int32) ≤ nI i := nI_le (a := 1000) (b := i) (by omega) (by omega)
    rw [if_pos p1000, hn]
  | succ n ih =>
    intro i g fuel hi hf hI hq
    obtain ⟨f, rfl⟩ : ∃ f, fuel = f + 2 := ⟨fuel - 2, by omega⟩
    have n1000 : ¬ (1000 : Int32) ≤ nI i := nI_ge (a := i) (b := 1000) (by omega) (by omega)
    have get0 : f_X12_get g 0 (nI k) 0 = some (sp_o S k 0) := by
      have := m_getl (g := g) (k := k) (w := 0) (by show 30 + 10 * k + 0 < 70; omega)
      refine this.trans (congrArg some ?_)
      exact hI.1 _ (by show 30 + 10 * k + 0 ≠ _; omega)
    generalize hs : (if sp_o S k 0 = 0 then 999 - i else i) = s
    have hs9 : s ≤ 999 := by rw [← hs]; split <;> omega
    obtain ⟨g', w1, w2⟩ := m_isWorth (v := v) hW hk hkd hs9 hI
    have hd : L_X12_strike_42 0 (nI k) v was (f + 2) g (-1) (nI i) = B_X12_strike_75 (L_X12_strike_42 0 (nI k) v was (f + 1)) g 0 (nI k) v was (-1) (nI i) (nI s) := by
      show Lb_X12_strike_42 _ _ _ _ _ _ _ _ = _
      unfold Lb_X12_strike_42
      rw [if_neg n1000, if_neg (by decide), get0, ev_ck0, Option.bind_some, ← hs]
      by_cases c : sp_o S k 0 = 0
      · have e : (999 : Int32) - nI i = nI (999 - i) := pk_sub (a := 999) (b := i) (by omega)
        rw [if_pos c, if_pos c, e]
      · rw [if_neg c, if_neg c]
    rw [hd]
    unfold B_X12_strike_75 B_X12_strike_92
    rw [w1, ev_ck0, Option.bind_some]
    show ∃ g'', (if bI (sp_mt S k v s) = 0 then L_X12_strike_42 0 (nI k) v was (f + 1) g' (-1) (nI i + 1) else L_X12_strike_42 0 (nI k) v was (f + 1) g' (nI s) (nI i + 1)) = _ ∧ _
    rw [bI_if, nI_1]
    by_cases c : sp_mt S k v s = true
    · rw [if_pos c]
      refine ⟨g', ?_, w2⟩
      have hr : sp_stk S k v = nI s := by
        unfold sp_stk
        rw [← hs] at c ⊢
        by_cases c0 : sp_o S k 0 = 0
        · rw [if_pos c0] at c ⊢
          rw [if_pos c0, sp_fst_s (p := i) c (fun q h => by have := hq q h; rw [if_pos c0] at this; exact this) 1000 (by omega)]
          rfl
        · rw [if_neg c0] at c ⊢
          rw [if_neg c0, sp_fst_s (p := i) c (fun q h => by have := hq q h; rw [if_neg c0] at this; exact this) 1000 (by omega)]
          rfl
      show Lb_X12_strike_42 _ _ _ _ _ _ _ _ = _
      unfold Lb_X12_strike_42
      rw [hr, if_pos (nI_pos' (by omega))]
      by_cases e : (1000 : Int32) ≤ nI (i + 1)
      · rw [if_pos e]
      · rw [if_neg e]
    · rw [if_neg c]
      refine ih (i + 1) g' (f + 1) (by omega) (by omega) w2 (fun q h => ?_)
      by_cases e : q = i
      · subst e
        rw [hs]
        simpa using c
      · exact hq q (by omega)
theorem m_SI_0 {g : ob_St} {k w : Nat} (hL : m_Laid g) (hk : k < sN (g.1 1) 29) : m_SI (g.1 1) k w g g :=
  ⟨fun _ _ => rfl, hL.1, fun q t j hq ht hj => (hL.2 q (by omega) t j ht hj).2.1, fun _ _ _ _ => rfl, fun _ _ _ => rfl⟩
/-- terms told back: all is as before, but must be laid anew -/
theorem m_SI_end {g0 g : ob_St} {k w : Nat} (hQ : m_Q g0) (hI : m_SI (g0.1 1) k w g0 g) (hw : 30 + 10 * k + w < 70) :
    ∃ g', ob_wI g 1 (nI (30 + 10 * k + w)) (g0.1 1 (30 + 10 * k + w)) = some (ob_up g.1 1 (30 + 10 * k + w) (g0.1 1 (30 + 10 * k + w)), g.2) ∧ ob_pZ (ob_up g.1 1 (30 + 10 * k + w) (g0.1 1 (30 + 10 * k + w)), g.2) 12 0 19 0 = some g' ∧ m_K g0 g' ∧ m_Q g' ∧ g'.1 0 0 = g0.1 0 0 ∧ g'.1 1 = g0.1 1 ∧ g'.2 11 = g0.2 11 := by
  obtain ⟨i1, i2, i3, i4, i5⟩ := hI
  refine ⟨(ob_up (ob_up g.1 1 (30 + 10 * k + w) (g0.1 1 (30 + 10 * k + w))) 0 19 0, g.2), ev_w1 hw, pu_pZ rfl (Or.inl rfl), ⟨fun n h1 h2 h3 => ?_, fun i h1 h2 => ?_, fun n hn => ?_⟩, ⟨?_, Or.inl ?_⟩, ?_, ?_, ?_⟩
  · show ob_up (ob_up g.1 1 _ _) 0 19 0 n = _
    rw [pu_up_ne h1]
    by_cases e : n = 1
    · subst e
      rw [pu_up_eq]
      exact upd_back i1
    · rw [pu_up_ne e]
      exact i4 n e h2 h3
  · show ob_up (ob_up g.1 1 _ _) 0 19 0 0 i = _
    rw [pu_up_eq, pu_upd_ne h2, pu_up_ne (by omega), i4 0 (by omega) (by omega) (by omega)]
  · show g.2 n = _
    exact i5 n (by omega) (by omega)
  · show sp_WF (ob_up (ob_up g.1 1 _ _) 0 19 0 1)
    rw [pu_up_ne (by omega), pu_up_eq, upd_back i1]
    exact hQ.1
  · dsimp only
    rw [pu_up_eq, pu_upd_eq]
  · dsimp only
    rw [pu_up_eq, pu_upd_ne (by omega), pu_up_ne (by omega), i4 0 (by omega) (by omega) (by omega)]
  · show ob_up (ob_up g.1 1 _ _) 0 19 0 1 = _
    rw [pu_up_ne (by omega), pu_up_eq, upd_back i1]
  · show g.2 11 = _
    exact i5 11 (by omega) (by omega)
theorem m_strike {g : ob_St} {x1 x2 : Int32} (hQ : m_Q g) : m_I g (an_strike (g.1 1) x1 x2) (f_X12_strike g 0 x1 x2) := by
  have hW := hQ.1
  have h12 := wf_12 hW
  have h4 := wf_4 hW
  unfold f_X12_strike an_strike
  rw [ev_p0, Option.bind_some]
  show m_I g _ ((ob_ck 12 0 (f_X12_isOption (m_Th g 0) 0 x1)).bind _)
  rw [m_isOption (m_Q_th hQ).1, ev_ck0, Option.bind_some, bI_if]
  show m_I g _ (if qO (g.1 1) x1 = true then ((ob_ck 12 0 (f_X12_get (m_Th g 0) 0 x1 0)).bind _) else some (-1, m_Th g 0))
  by_cases c1 : qO (g.1 1) x1 = true
  · rw [if_pos c1, if_pos c1]
    obtain ⟨k, hk, rfl⟩ := qO_e hW c1
    have ho := wf_o hW hk
    rw [nI_clamp (by omega)]
    have get0 : f_X12_get (m_Th g 0) 0 (nI k) 0 = some (sp_o (g.1 1) k 0) := m_getl (g := m_Th g 0) (k := k) (w := 0) (by show 30 + 10 * k + 0 < 70; omega)
    rw [get0, ev_ck0, Option.bind_some]
    by_cases c2 : sp_o (g.1 1) k 0 ≤ 1
    · rw [if_pos c2, if_pos c2]
      obtain ⟨g1, k0, k1, k2, k3, k4, k5⟩ := m_layTh (v := 0) hQ
      have k0' : f_X12_lays ((ob_up g.1 0 0 0, g.2) : ob_St) 0 = some g1 := k0
      rw [k0', ev_ck0, Option.bind_some]
      rw [← k5] at hW hk ho c2 h4 ⊢
      have get1 : f_X12_get g1 0 (nI k) 1 = some (g1.1 1 (30 + 10 * k + 1)) := m_getl (g := g1) (k := k) (w := 1) (by show 30 + 10 * k + 1 < 70; omega)
      obtain ⟨g2, l1, l2⟩ := m_strikeL (v := x2) (was := g1.1 1 (30 + 10 * k + 1)) (g0 := g1) hW hk ((wo_01 ho).mp c2) 1000 0 g1 ob_FU (by omega) (by unfold ob_FU; omega) (m_SI_0 k4 hk) (fun q hq => by omega)
      obtain ⟨g3, e1, e2, e3, e4, e5, e6⟩ := m_SI_end k2 l2 (by omega)
      refine ⟨g3, ?_, m_K_tr k1 e3, e4⟩
      rw [get1, ev_ck0, Option.bind_some]
      refine (pu_b l1).trans ?_
      rw [ev_r0_1, Option.bind_some, pu_mul, pu_add, pu_addr]
      show ((ob_wI g2 1 (nI (30 + 10 * k + 1)) _).bind _) = _
      rw [e1, Option.bind_some, e2, Option.bind_some]
    · rw [if_neg c2, if_neg c2]
      exact ⟨m_Th g 0, rfl, m_K_th, m_Q_th hQ⟩
  · rw [if_neg c1, if_neg c1]
    exact ⟨m_Th g 0, rfl, m_K_th, m_Q_th hQ⟩
theorem m_early {g : ob_St} {x1 x2 : Int32} (hQ : m_Q g) : m_A g (an_early (g.1 1) x1 x2) (f_X12_early g 0 x1 x2) := by
  have hW := hQ.1
  have h12 := wf_12 hW
  have h4 := wf_4 hW
  have t1 : f_X12_throwsIf g 0 1 = some (1, m_Th g 1) := m_throws (b := true)
  have t0 : f_X12_throwsIf g 0 0 = some (0, m_Th g 0) := m_throws (b := false)
  have bad : B_X12_early_16 g 0 x1 x2 0 = some (0, m_Th g 1) := by
    unfold B_X12_early_16 B_X12_early_21
    rw [t1, ev_ck0, Option.bind_some]
    exact if_neg (show ¬ (1 : Int32) = 0 by decide)
  unfold f_X12_early an_early
  rw [m_isOption hW, ev_ck0, Option.bind_some, bI_if, m_isPart, Option.bind_some, bI_if, bad]
  by_cases c0 : qO (g.1 1) x1 = true
  · rw [if_pos c0]
    by_cases c1 : qB x2 = true
    · rw [if_pos c1, if_pos (an_and2.mpr ⟨c0, c1⟩)]
      obtain ⟨k, hk, rfl⟩ := qO_e hW c0
      rw [nI_clamp (by omega)]
      obtain ⟨g1, k0, k1, k2, k3, k4, k5⟩ := m_layTh (v := 0) hQ
      have td := m_told (y := sp_ea (g.1 1) k) (p := x2) (gt_ea hW hk) (sp_sc_pos hW 0)
      rw [← k5] at hW hk td h12 h4 ⊢
      have mc : f_X12_cell (nI k) 0 0 = some (nI (169 * k + 13 * 0 + 0)) := m_cell (t := 0) (j := 0)
      have get3 : f_X12_get g1 0 (nI k) 3 = some (g1.1 1 (30 + 10 * k + 3)) := m_getl (g := g1) (k := k) (w := 3) (by show 30 + 10 * k + 3 < 70; omega)
      have eV : g1.2 9 (169 * k + 13 * 0 + 0) = sp_V (g1.1 1) k 0 0 := (k4.2 k hk 0 0 (by omega) (by omega)).2.1
      obtain ⟨g2, l1, l2, l3⟩ := m_relay (w := 3) (v := 99) (Or.inr rfl) hW hk (wf_from hW hk) (m_SI_0 (w := 3) k4 hk)
      have eo1 : sp_o (upd (g1.1 1) (30 + 10 * k + 3) 99) k 1 = sp_o (g1.1 1) k 1 := pu_upd_ne (by omega)
      have eo3 : sp_o (upd (g1.1 1) (30 + 10 * k + 3) 99) k 3 = 99 := pu_upd_eq
      rw [eo1, eo3] at l3
      obtain ⟨g3, e1, e2, e3, e4, e5, e6, e7⟩ := m_SI_end k2 l2 (by omega)
      refine ⟨g3, ?_, m_K_tr k1 e3, e4, e5.trans k3⟩
      have pw : g3.2 11 (sN (g1.1 1) 2) = sp_sc (g1.1 1) 0 := by rw [e7, k4.1 _ (by omega)]; rfl
      have e12 : g3.1 1 2 = nI (sN (g1.1 1) 2) := by rw [e6, wf_2 hW]
      unfold B_X12_early_21
      rw [t0, ev_ck0, Option.bind_some]
      show (if (0 : Int32) = 0 then _ else _) = _
      rw [if_pos rfl, k0, ev_ck0, Option.bind_some, ev_r0_20, Option.bind_some, mc, Option.bind_some, ev_a9 (by omega), Option.bind_some, get3, ev_ck0, Option.bind_some, ev_r0_1, Option.bind_some, pu_mul, pu_add, pu_addr, ev_w1 (by omega), Option.bind_some]
      show ((ob_ck 12 0 (f_X12_laysOption (ob_up g1.1 1 (30 + 10 * k + 3) 99, g1.2) 0 (nI k))).bind _) = _
      rw [l1, ev_ck0, Option.bind_some, Option.bind_some, Option.bind_some, ev_a9 (by omega), Option.bind_some, Option.bind_some]
      show ((ob_wI g2 1 (nI (30 + 10 * k + 3)) _).bind _) = _
      rw [e1, Option.bind_some, e2, Option.bind_some, ev_r0_22, Option.bind_some, Option.bind_some, ev_l1 (by omega), Option.bind_some]
      show (ob_rL g3 11 (g3.1 1 2)).bind _ = _
      rw [e12, ev_a11 (by omega), Option.bind_some, pw, eV, l3]
      exact pu_b td
    · rw [if_neg c1, if_neg (fun h => c1 (an_and2.mp h).2)]
      exact ⟨m_Th g 1, rfl, m_K_th, m_Q_th hQ, rfl⟩
  · rw [if_neg c0, if_neg (fun h => c0 (an_and2.mp h).1)]
    exact ⟨m_Th g 1, rfl, m_K_th, m_Q_th hQ, rfl⟩
