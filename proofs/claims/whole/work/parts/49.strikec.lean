/-! strike: the class halves -/
theorem mt_mono0 {S : Nat → Int32} {k s s' : Nat} {v : Int32} (hW : sp_WF S) (hk : k < sN S 29) (h0 : sp_o S k 0 = 0) (hs : s ≤ s') (hs' : s' ≤ 999) (h : sp_mt S k v s' = true) : sp_mt S k v s = true := by
  have m := X_mono0 (fr := sp_o S k 3) hW hk h0 hs hs'
  unfold sp_mt at h ⊢
  by_cases c1 : v < 0
  · rw [if_pos c1]
  rw [if_neg c1] at h ⊢
  by_cases c2 : (9999 : Int32) ≤ v
  · rw [if_pos c2] at h
    exact absurd h (by decide)
  rw [if_neg c2] at h ⊢
  by_cases c3 : sp_X S k (nI s') (sp_o S k 3) < v.toInt64 * sp_pw S (sN S 2)
  · rw [if_pos c3] at h
    exact absurd h (by decide)
  · rw [if_neg]
    rw [nu_lt] at c3 ⊢
    omega
theorem mt_mono1 {S : Nat → Int32} {k s s' : Nat} {v : Int32} (hW : sp_WF S) (hk : k < sN S 29) (h0 : sp_o S k 0 = 1) (hs : s ≤ s') (hs' : s' ≤ 999) (h : sp_mt S k v s = true) : sp_mt S k v s' = true := by
  have m := X_mono1 (fr := sp_o S k 3) hW hk h0 hs hs'
  unfold sp_mt at h ⊢
  by_cases c1 : v < 0
  · rw [if_pos c1]
  rw [if_neg c1] at h ⊢
  by_cases c2 : (9999 : Int32) ≤ v
  · rw [if_pos c2] at h
    exact absurd h (by decide)
  rw [if_neg c2] at h ⊢
  by_cases c3 : sp_X S k (nI s) (sp_o S k 3) < v.toInt64 * sp_pw S (sN S 2)
  · rw [if_pos c3] at h
    exact absurd h (by decide)
  · rw [if_neg]
    rw [nu_lt] at c3 ⊢
    omega
def c_BI (S : Nat → Int32) (k : Nat) (v : Int32) (oc : Bool) (low h : Nat) (met : Int32) : Prop :=
  if oc = true then (∀ q, h ≤ q → q < 1000 → sp_mt S k v q = false) ∧ met = (if low = 0 then -1 else nI (low - 1)) ∧ (0 < low → sp_mt S k v (low - 1) = true)
  else (∀ q, q < low → sp_mt S k v q = false) ∧ met = (if h = 1000 then -1 else nI h) ∧ (h < 1000 → sp_mt S k v h = true)
theorem c_BI_end {S : Nat → Int32} {k : Nat} {v : Int32} {oc : Bool} {h : Nat} {met : Int32} (hoc : oc = decide (sp_o S k 0 = 0)) (hh : h ≤ 1000) (hI : c_BI S k v oc h h met) : met = sp_stk S k v := by
  unfold c_BI at hI
  unfold sp_stk
  by_cases c : sp_o S k 0 = 0
  · rw [decide_eq_true c] at hoc
    rw [if_pos hoc] at hI
    obtain ⟨a1, a2, a3⟩ := hI
    rw [if_pos c, a2]
    by_cases e : h = 0
    · rw [if_pos e, sp_fst_n 1000 (fun q hq => a1 (999 - q) (by omega) (by omega))]
      rfl
    · have e1 : 999 - (999 - (h - 1)) = h - 1 := by omega
      rw [if_neg e, sp_fst_s (p := 999 - (h - 1)) (by rw [e1]; exact a3 (by omega)) (fun q hq => a1 (999 - q) (by omega) (by omega)) 1000 (by omega)]
      show _ = nI (999 - (999 - (h - 1)))
      rw [e1]
  · rw [decide_eq_false c] at hoc
    rw [hoc, if_neg (by decide)] at hI
    obtain ⟨a1, a2, a3⟩ := hI
    rw [if_neg c, a2]
    by_cases e : h = 1000
    · rw [if_pos e, sp_fst_n 1000 (fun q hq => a1 q (by omega))]
      rfl
    · rw [if_neg e, sp_fst_s (p := h) (a3 (by omega)) a1 1000 (by omega)]
      rfl
theorem c_boundL {S : Nat → Int32} {g0 : ob_St} {k : Nat} {v : Int32} {oc : Bool} (hW : sp_WF S) (hM0 : c_M 24 S g0) (hL0 : c_Lat S g0) (hk : k < sN S 29) (hkd : sp_o S k 0 = 0 ∨ sp_o S k 0 = 1) (hoc : oc = decide (sp_o S k 0 = 0)) :
    ∀ n low h met g round fuel, h - low ≤ n → low ≤ h → h ≤ 1000 → h - low + round ≤ 1000 → n < fuel → c_F 104 g0 g → c_BI S k v oc low h met →
    ∃ g', L_X11_boundingStrike_50 20 (28 + k) (sp_due S v) (bI oc) fuel g met (nI low) (nI h - 1) (nI round) = some (g', sp_stk S k v) ∧ c_F 104 g0 g' := by
  have h4 := wf_4 hW
  have ho := wf_o hW hk
  have n3 : sp_o S k 0 = 3 → False := fun z => by rcases hkd with q | q <;> rw [q] at z <;> exact absurd z (by decide)
  have tm1 : ∀ h, h ≤ 1000 → (nI h - 1).toInt = (h : Int) - 1 := by
    intro h hh
    have e1 : (1 : Int32).toInt = 1 := rfl
    rw [ni_sub (by rw [ni_of (by omega), e1]; omega) (by rw [ni_of (by omega), e1]; omega), ni_of (by omega), e1]
  intro n
  induction n with
  | zero =>
    intro low h met g round fuel hn hl hh hr hf hF hI
    obtain ⟨f, rfl⟩ : ∃ f, fuel = f + 1 := ⟨fuel - 1, by omega⟩
    have e : low = h := by omega
    subst e
    refine ⟨g, ?_, hF⟩
    show Lb_X11_boundingStrike_50 _ _ _ _ _ _ _ _ _ _ = _
    unfold Lb_X11_boundingStrike_50
    rw [if_pos (by rw [ni_lt, tm1 _ hh, ni_of (by omega)]; omega), c_BI_end hoc hh hI]
  | succ n ih =>
    intro low h met g round fuel hn hl hh hr hf hF hI
    obtain ⟨f, rfl⟩ : ∃ f, fuel = f + 1 := ⟨fuel - 1, by omega⟩
    by_cases e : low = h
    · subst e
      refine ⟨g, ?_, hF⟩
      show Lb_X11_boundingStrike_50 _ _ _ _ _ _ _ _ _ _ = _
      unfold Lb_X11_boundingStrike_50
      rw [if_pos (by rw [ni_lt, tm1 _ hh, ni_of (by omega)]; omega), c_BI_end hoc hh hI]
    · obtain ⟨h', rfl⟩ : ∃ h', h = h' + 1 := ⟨h - 1, by omega⟩
      have hM := c_M_F hF hM0 hW
      have hL := c_Lat_F hF hL0 hW
      generalize hm : (low + h') / 2 = m
      have m1 : low ≤ m := by omega
      have m2 : m ≤ h' := by omega
      obtain ⟨g', o1, o2⟩ := c_startWorth (s := m) hW hM hL hk (by omega) (fun z => (n3 z).elim) ho.2.2.2.1.2
      rw [← ho.2.2.2.1.1] at o1
      have hF' := c_F_tr hF o2
      have e3 : g.1 (28 + k) 3 = c_fr (sp_o S k 3) := (hM.2.2.2.2.2 k hk).2.2.2.1
      have dv : ob_dv (nI low + nI h') 2 = some (nI m) := by
        unfold ob_dv
        rw [if_neg (by decide), nI_add]
        have := pk_div (a := low + h') (d := 2) (by omega) (by omega) (by omega)
        rw [hm] at this
        exact congrArg some this
      have due := sp_due_mt (k := k) (s := m) (v := v) hW hk (by omega) (fun z => (n3 z).elim)
      have n9 : ¬ (999 : Int32) < nI round := nI_nlt (a := 999) (b := round) (by omega) (by omega)
      have hd : L_X11_boundingStrike_50 20 (28 + k) (sp_due S v) (bI oc) (f + 1) g met (nI low) (nI (h' + 1) - 1) (nI round) = B_X11_boundingStrike_98 (L_X11_boundingStrike_50 20 (28 + k) (sp_due S v) (bI oc) f) g' 20 (28 + k) (sp_due S v) (bI oc) met (nI low) (nI (h' + 1) - 1) (nI round) (nI m) (bI (sp_mt S k v m)) := by
        show Lb_X11_boundingStrike_50 _ _ _ _ _ _ _ _ _ _ = _
        unfold Lb_X11_boundingStrike_50
        rw [if_neg (by rw [ni_lt, tm1 _ hh, ni_of (by omega)]; omega), if_neg n9, nI_pred, dv, Option.bind_some, ev_r20_8, Option.bind_some, ew_gc (by omega), Option.bind_some, e3, o1, ev_ck67, Option.bind_some, ← due]
        by_cases c : sp_X S k (nI m) (sp_o S k 3) < sp_due S v
        · rw [if_pos c, if_pos c]; rfl
        · rw [if_neg c, if_neg c]; rfl
      rw [hd]
      unfold B_X11_boundingStrike_98 B_X11_boundingStrike_109 B_X11_boundingStrike_131
      rw [bI_if]
      have goL : ∀ met', c_BI S k v oc (m + 1) (h' + 1) met' → ∃ g'', L_X11_boundingStrike_50 20 (28 + k) (sp_due S v) (bI oc) f g' met' (nI m + 1) (nI (h' + 1) - 1) (nI round + 1) = some (g'', sp_stk S k v) ∧ c_F 104 g0 g'' := by
        intro met' hI'
        rw [nI_1, nI_1]
        exact ih (m + 1) (h' + 1) met' g' (round + 1) f (by omega) (by omega) hh (by omega) (by omega) hF' hI'
      have goH : ∀ met', c_BI S k v oc low m met' → ∃ g'', L_X11_boundingStrike_50 20 (28 + k) (sp_due S v) (bI oc) f g' met' (nI low) (nI m - 1) (nI round + 1) = some (g'', sp_stk S k v) ∧ c_F 104 g0 g'' := by
        intro met' hI'
        rw [nI_1]
        exact ih low m met' g' (round + 1) f (by omega) m1 (by omega) (by omega) (by omega) hF' hI'
      by_cases c : sp_o S k 0 = 0
      · have hoc' : oc = true := by rw [hoc, decide_eq_true c]
        subst hoc'
        unfold c_BI at hI
        rw [if_pos rfl] at hI
        obtain ⟨a1, a2, a3⟩ := hI
        by_cases cm : sp_mt S k v m = true
        · rw [if_pos cm, cm, if_pos rfl]
          refine goL _ ?_
          unfold c_BI
          rw [if_pos rfl]
          exact ⟨a1, by rw [if_neg (by omega), Nat.add_sub_cancel], fun _ => by rw [Nat.add_sub_cancel]; exact cm⟩
        · rw [if_neg cm]
          rw [Bool.not_eq_true] at cm
          rw [cm, if_neg (by decide)]
          refine goH _ ?_
          unfold c_BI
          rw [if_pos rfl]
          refine ⟨fun q h1 h2 => ?_, a2, a3⟩
          rcases Bool.eq_false_or_eq_true (sp_mt S k v q) with z | z
          · rw [mt_mono0 hW hk c h1 (by omega) z] at cm
            exact absurd cm (by decide)
          · exact z
      · have hoc' : oc = false := by rw [hoc, decide_eq_false c]
        have c1 : sp_o S k 0 = 1 := hkd.resolve_left c
        subst hoc'
        unfold c_BI at hI
        rw [if_neg (by decide)] at hI
        obtain ⟨a1, a2, a3⟩ := hI
        by_cases cm : sp_mt S k v m = true
        · rw [if_pos cm, cm, if_neg (by decide)]
          refine goH _ ?_
          unfold c_BI
          rw [if_neg (by decide)]
          exact ⟨a1, by rw [if_neg (by omega)], fun _ => cm⟩
        · rw [if_neg cm]
          rw [Bool.not_eq_true] at cm
          rw [cm, if_pos rfl]
          refine goL _ ?_
          unfold c_BI
          rw [if_neg (by decide)]
          refine ⟨fun q h1 => ?_, a2, a3⟩
          rcases Bool.eq_false_or_eq_true (sp_mt S k v q) with z | z
          · rw [mt_mono1 hW hk c1 (show q ≤ m by omega) (by omega) z] at cm
            exact absurd cm (by decide)
          · exact z
def an_strike (S : Nat → Int32) (x1 x2 : Int32) : Int32 := if qO S x1 = true then (if sp_o S x1.toNatClampNeg 0 ≤ 1 then sp_stk S x1.toNatClampNeg x2 else -1) else -1
theorem wo_01 {S : Nat → Int32} {k : Nat} (ho : sp_WO S k) : sp_o S k 0 ≤ 1 ↔ (sp_o S k 0 = 0 ∨ sp_o S k 0 = 1) := by
  have h5 := ho.1.2
  rw [ho.1.1]
  generalize sN S (30 + 10 * k + 0) = a at *
  have e0 : nI a = 0 ↔ a = 0 := nI_eq (a := a) (b := 0) (by omega) (by omega)
  have e1 : nI a = 1 ↔ a = 1 := nI_eq (a := a) (b := 1) (by omega) (by omega)
  have e2 : nI a ≤ 1 ↔ a ≤ 1 := nI_leI (a := a) (b := 1) (by omega) (by omega)
  rw [e0, e1, e2]
  omega
theorem c_strike {S : Nat → Int32} {g : ob_St} {x1 x2 : Int32} (hQ : c_Q S g) : c_I S g (an_strike S x1 x2) (f_X11_strike g 20 x1 x2) := by
  have hW := hQ.1
  have hM := hQ.2.1
  have h12 := wf_12 hW
  have h4 := wf_4 hW
  unfold f_X11_strike an_strike
  rw [c_isOption hM, ev_ck20, Option.bind_some, bI_if]
  by_cases c1 : qO S x1 = true
  · rw [if_pos c1, if_pos c1]
    obtain ⟨k, hk, rfl⟩ := qO_e hW c1
    have ho := wf_o hW hk
    rw [nI_clamp (by omega)]
    have e0 : g.1 (28 + k) 0 = sp_o S k 0 := (hM.2.2.2.2.2 k hk).1
    rw [ev_r20_3, Option.bind_some, ev_r24_2, Option.bind_some, ew_27 (by omega), Option.bind_some, ew_gc (by omega), Option.bind_some, Option.bind_some, e0]
    have yes : (sp_o S k 0 = 0 ∨ sp_o S k 0 = 1) → c_I S g (sp_stk S k x2) (B_X11_strike_37 g 20 x2 (28 + k)) := by
      intro hkd
      obtain ⟨g1, r1, r2, r3, r4, r5⟩ := c_refresh hQ
      have e0' : g1.1 (28 + k) 0 = sp_o S k 0 := (r3.2.2.2.2.2 k hk).1
      have sc : f_X3_scaleAt g1 67 0 = some (sp_sc S 0) := c_scaleAt (t := 0) hW r3 r5.1.1 (by omega)
      have hst : c_BI S k x2 (decide (sp_o S k 0 = 0)) 0 1000 (-1) := by
        unfold c_BI
        by_cases c : sp_o S k 0 = 0
        · rw [decide_eq_true c, if_pos rfl]
          exact ⟨fun q a b => by omega, rfl, fun z => by omega⟩
        · rw [decide_eq_false c, if_neg (by decide)]
          exact ⟨fun q a => by omega, rfl, fun z => by omega⟩
      obtain ⟨g', o1, o2⟩ := c_boundL (v := x2) (oc := decide (sp_o S k 0 = 0)) hW r3 r5 hk hkd rfl 1000 0 1000 (-1) g1 0 ob_FU (by omega) (by omega) (by omega) (by omega) (by unfold ob_FU; omega) ⟨fun _ _ _ => rfl, fun _ _ _ _ => rfl⟩ hst
      have e6 : g'.1 67 6 = 0 := by rw [o2.1 67 (by omega) (by omega)]; exact r4
      refine ⟨g', ?_, c_K_tr r2 (c_K_F o2), c_Lat_Q hW (c_M_F o2 r3 hW) e6 (c_Lat_F o2 r5 hW)⟩
      have b34 : B_X11_boundingStrike_34 g1 20 (28 + k) (sp_due S x2) (bI (decide (sp_o S k 0 = 0))) = some (sp_stk S k x2, g') := by
        unfold B_X11_boundingStrike_34
        exact pu_b o1
      have bs : f_X11_boundingStrike g1 20 (28 + k) x2 = some (sp_stk S k x2, g') := by
        unfold f_X11_boundingStrike ob_let
        rw [ev_r20_8, Option.bind_some, sc, ev_ck67, Option.bind_some]
        show ((ob_gI g1 1 (28 + k) 0).bind fun v4 => (if v4 = 0 then (B_X11_boundingStrike_34 g1 20 (28 + k) (sp_due S x2) 1) else (B_X11_boundingStrike_34 g1 20 (28 + k) (sp_due S x2) 0))) = _
        rw [ew_gc (by omega), Option.bind_some, e0', ← b34]
        by_cases c : sp_o S k 0 = 0
        · rw [if_pos c, decide_eq_true c]; rfl
        · rw [if_neg c, decide_eq_false c]; rfl
      unfold B_X11_strike_37
      rw [ev_r20_8, Option.bind_some, r1, ev_ck67, Option.bind_some, bs, ev_ck20, Option.bind_some]
    by_cases c0 : sp_o S k 0 = 0
    · rw [if_pos c0, if_pos ((wo_01 ho).mpr (Or.inl c0))]
      exact yes (Or.inl c0)
    · rw [if_neg c0]
      by_cases c2 : sp_o S k 0 = 1
      · rw [if_pos c2, if_pos ((wo_01 ho).mpr (Or.inr c2))]
        exact yes (Or.inr c2)
      · rw [if_neg c2, if_neg (fun z => by rcases (wo_01 ho).mp z with q | q <;> contradiction)]
        exact ⟨g, rfl, c_K_refl g, hQ⟩
  · rw [if_neg c1, if_neg c1]
    exact ⟨g, rfl, c_K_refl g, hQ⟩
