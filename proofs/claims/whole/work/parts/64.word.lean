/-! what a token says, to both -/
theorem lx_dig {b : Nat → Int32} {q : Nat} : ∀ l, l ≤ 3 → (∀ i, i < l → tF (b (q + i)) = true) → ∃ v, v < 10 ^ l ∧ lx_s b q l = lN v ∧ lx_n b q l = nI v := by
  intro l
  induction l with
  | zero => intro _ _; exact ⟨0, by omega, rfl, rfl⟩
  | succ l ih =>
    intro hl h
    obtain ⟨v, v1, v2, v3⟩ := ih (by omega) (fun i hi => h i (by omega))
    have hf := h l (by omega)
    have hi := tF_i hf
    obtain ⟨d, hd⟩ : ∃ d : Nat, (b (q + l)).toInt = (d : Int) + 48 ∧ d ≤ 9 := ⟨((b (q + l)).toInt - 48).toNat, by omega, by omega⟩
    have hp : 10 ^ l ≤ 10 ^ 2 := Nat.pow_le_pow_right (by omega) (by omega)
    have eb : b (q + l) = nI (d + 48) := by
      apply Int32.toInt_inj.mp
      rw [nI_toInt (by omega), hd.1]
      omega
    have eL : (b (q + l)).toInt64 = lN (d + 48) := by
      apply Int64.toInt_inj.mp
      rw [Int32.toInt_toInt64, pk_lT (by omega), hd.1]
      omega
    refine ⟨10 * v + d, by rw [Nat.pow_succ]; omega, ?_, ?_⟩
    · show (if tF (b (q + l)) = true then lx_s b q l * 10 + (b (q + l)).toInt64 - 48 else lx_s b q l) = _
      have e10 : (10 : Int64) = lN 10 := rfl
      have e48 : (48 : Int64) = lN 48 := rfl
      rw [if_pos hf, v2, eL, e10, e48, lN_mul, lN_add, lN_sub (by omega)]
      congr 1
      omega
    · show (if l < 3 then 10 * lx_n b q l + b (q + l) - 48 else lx_n b q l) = _
      rw [if_pos (by omega), v3, eb, pu_mul]
      show nI (10 * v) + nI (d + 48) - nI 48 = _
      rw [nI_add, pk_sub (by omega)]
      congr 1
theorem lx_k3 {b : Nat → Int32} {n p : Nat} (h : lx_k b n p = 3) : ∃ v, v ≤ 999 ∧ lx_v b n p = lN v ∧ lx_n b (sk b n p) (lx_l b n p) = nI v := by
  unfold lx_k at h
  by_cases c1 : n ≤ sk b n p
  · rw [if_pos c1] at h; omega
  rw [if_neg c1] at h
  by_cases c2 : tA (b (sk b n p)) = true
  · rw [if_pos c2] at h
    unfold lx_rk at h
    by_cases c3 : lx_f b (sk b n p) (lx_l b n p) = lx_l b n p ∧ lx_l b n p ≤ 3
    · obtain ⟨v, v1, v2, v3⟩ := lx_dig (lx_l b n p) c3.2 (lx_f_all _ c3.1)
      have hp : 10 ^ (lx_l b n p) ≤ 10 ^ 3 := Nat.pow_le_pow_right (by omega) c3.2
      exact ⟨v, by omega, by unfold lx_v lx_rv; rw [if_pos c3]; exact v2, v3⟩
    · rw [if_neg c3] at h
      by_cases c4 : lx_f b (sk b n p) (lx_l b n p) = 0 ∧ lx_l b n p ≤ 8
      · rw [if_pos c4] at h
        by_cases c5 : (lx_kw b (sk b n p) (lx_l b n p)).isSome = true
        · rw [if_pos c5] at h; omega
        · rw [if_neg c5] at h; omega
      · rw [if_neg c4] at h; omega
  · rw [if_neg c2] at h
    by_cases c3 : b (sk b n p) = 59
    · rw [if_pos c3] at h; omega
    · rw [if_neg c3] at h; omega
/-- a word -/
def lx_W (b : Nat → Int32) (q l : Nat) : Prop := l ≤ 8 ∧ (∀ i, i < l → tL (b (q + i)) = true) ∧ ∀ i, i < l → ¬ tF (b (q + i)) = true
theorem lx_k4 {b : Nat → Int32} {n p : Nat} (h : 4 ≤ lx_k b n p) : lx_W b (sk b n p) (lx_l b n p) ∧ lx_v b n p = (lx_kw b (sk b n p) (lx_l b n p)).elim (lx_h b (sk b n p) (lx_l b n p)) (fun k => (nI (kw_s k)).toInt64) ∧ (lx_k b n p = 5 ↔ (lx_kw b (sk b n p) (lx_l b n p)).isSome = true) ∧ lx_k b n p ≤ 5 := by
  unfold lx_k at h ⊢
  by_cases c1 : n ≤ sk b n p
  · rw [if_pos c1] at h; omega
  rw [if_neg c1] at h ⊢
  by_cases c2 : tA (b (sk b n p)) = true
  · rw [if_pos c2] at h ⊢
    unfold lx_rk at h ⊢
    have r1 := re_1 (b := b) (n := n) (p := sk b n p) (by omega) c2
    have r2 := re_le (b := b) (n := n) (p := sk b n p + 1) (by omega)
    have l1 : 1 ≤ lx_l b n p := by unfold lx_l; omega
    by_cases c3 : lx_f b (sk b n p) (lx_l b n p) = lx_l b n p ∧ lx_l b n p ≤ 3
    · rw [if_pos c3] at h; omega
    · rw [if_neg c3] at h ⊢
      by_cases c4 : lx_f b (sk b n p) (lx_l b n p) = 0 ∧ lx_l b n p ≤ 8
      · rw [if_pos c4] at h ⊢
        have hA : ∀ i, i < lx_l b n p → tA (b (sk b n p + i)) = true := fun i hi => re_in (n := n) (p := sk b n p) (by omega) (by unfold lx_l at hi; omega)
        refine ⟨⟨c4.2, lx_f_L hA c4.1, lx_f_none _ c4.1⟩, by unfold lx_v lx_rv; rw [if_neg c3], ?_, ?_⟩
        · by_cases c5 : (lx_kw b (sk b n p) (lx_l b n p)).isSome = true
          · rw [if_pos c5]; exact ⟨fun _ => c5, fun _ => rfl⟩
          · rw [if_neg c5]; exact ⟨fun h => by omega, fun h => absurd h c5⟩
        · split <;> omega
      · rw [if_neg c4] at h; omega
  · rw [if_neg c2] at h
    by_cases c3 : b (sk b n p) = 59
    · rw [if_pos c3] at h; omega
    · rw [if_neg c3] at h; omega
/-- the keyword that stands here -/
def kq (b : Nat → Int32) (n p : Nat) : Option Nat := if lx_k b n p = 5 then lx_kw b (sk b n p) (lx_l b n p) else none
theorem kq_lt {b : Nat → Int32} {n p k : Nat} (h : kq b n p = some k) : k < 20 ∧ lx_k b n p = 5 ∧ lx_v b n p = (nI (kw_s k)).toInt64 := by
  unfold kq at h
  by_cases c : lx_k b n p = 5
  · rw [if_pos c] at h
    refine ⟨(sp_fst_e 20 k h).1, c, ?_⟩
    rw [(lx_k4 (by omega)).2.1, h]
    rfl
  · rw [if_neg c] at h; cases h
theorem kq_none {b : Nat → Int32} {n p : Nat} : kq b n p = none ↔ ¬ lx_k b n p = 5 := by
  unfold kq
  by_cases c : lx_k b n p = 5
  · rw [if_pos c]
    have := (lx_k4 (b := b) (n := n) (p := p) (by omega)).2.2.1.mp c
    cases hk : lx_kw b (sk b n p) (lx_l b n p) with
    | none => rw [hk] at this; exact absurd this (by decide)
    | some k => exact ⟨fun h => absurd h (by intro z; cases z), fun h => absurd c h⟩
  · rw [if_neg c]; exact ⟨fun _ => c, fun _ => rfl⟩
/-- one letter of the reference's word -/
theorem m_pad {g : ob_St} {b : Nat → Int32} {q l j : Nat} (h14 : g.1 0 14 = nI l) (h7 : ∀ j, j < l → g.1 7 j = b (q + j)) (hl : l ≤ 8) (hj : j < 8) {α : Type} {f : Int32 → Option α} : ((ob_gI g 12 0 14).bind fun v3 => (if v3 ≤ nI j then f 0 else ((ob_gR 12 0 17).bind fun v4 => (ob_rI g 13 v4 (nI j)).bind fun v5 => f v5))) = f (lx_pad b q l j) := by
  rw [ev_g0, Option.bind_some, h14]
  unfold lx_pad
  by_cases c : j < l
  · rw [if_neg (nI_ge c (by omega)), if_pos c, ev_r0_17, Option.bind_some, ev_a7 hj, Option.bind_some, h7 j c]
  · rw [if_pos (nI_le (by omega) (by omega)), if_neg c]
theorem m_knownL {g : ob_St} {b : Nat → Int32} {q l k : Nat} (h14 : g.1 0 14 = nI l) (h7 : ∀ j, j < l → g.1 7 j = b (q + j)) (hl : l ≤ 8) (hk : k < 20) : ∀ d i fuel, i + d = 6 → d < fuel → ∃ r, L_X12_known_33 g 0 (nI k) fuel 1 (nI i) = some (bI r) ∧ (r = true ↔ ∀ j, i ≤ j → j < 6 → ob_kn (6 * k + j) = lx_pad b q l j) := by
  intro d
  induction d with
  | zero =>
    intro i fuel hi hf
    obtain ⟨f, rfl⟩ : ∃ f, fuel = f + 1 := ⟨fuel - 1, by omega⟩
    have h6 : (6 : Int32) ≤ nI i := nI_le (a := 6) (b := i) (by omega) (by omega)
    refine ⟨true, ?_, fun _ j _ _ => by omega, fun _ => rfl⟩
    show Lb_X12_known_33 _ _ _ _ _ _ = _
    unfold Lb_X12_known_33
    rw [if_pos h6]
    rfl
  | succ d ih =>
    intro i fuel hi hf
    obtain ⟨f, rfl⟩ : ∃ f, fuel = f + 1 := ⟨fuel - 1, by omega⟩
    have h6 : ¬ (6 : Int32) ≤ nI i := nI_ge (a := i) (b := 6) (by omega) (by omega)
    have e : Lb_X12_known_33 (L_X12_known_33 g 0 (nI k) f) g 0 (nI k) 1 (nI i) = B_X12_known_71 (L_X12_known_33 g 0 (nI k) f) g 0 (nI k) (nI i) (ob_kn (6 * k + i)) (lx_pad b q l i) := by
      unfold Lb_X12_known_33
      rw [if_neg h6, if_neg (show ¬ (1 : Int32) = 0 by decide), pu_mul, nI_add, pu_rK (i := 6 * k + i) rfl (by omega), Option.bind_some]
      exact m_pad h14 h7 hl (by omega) (f := fun v => B_X12_known_71 (L_X12_known_33 g 0 (nI k) f) g 0 (nI k) (nI i) (ob_kn (6 * k + i)) v)
    show ∃ r, Lb_X12_known_33 (L_X12_known_33 g 0 (nI k) f) g 0 (nI k) 1 (nI i) = _ ∧ _
    rw [e]
    unfold B_X12_known_71 B_X12_known_79
    by_cases c : ob_kn (6 * k + i) = lx_pad b q l i
    · obtain ⟨r, r1, r2⟩ := ih (i + 1) f (by omega) (by omega)
      rw [if_pos c, nI_1]
      refine ⟨r, r1, r2.trans ⟨fun h j h1 h2 => ?_, fun h j h1 h2 => h j (by omega) h2⟩⟩
      by_cases ej : j = i
      · subst ej; exact c
      · exact h j (by omega) h2
    · refine ⟨false, ?_, fun h => absurd h (by decide), fun h => absurd (h i (Nat.le_refl _) (by omega)) c⟩
      rw [if_neg c, nI_1]
      obtain ⟨f', rfl⟩ : ∃ f', f = f' + 1 := ⟨f - 1, by omega⟩
      show Lb_X12_known_33 _ _ _ _ _ _ = _
      unfold Lb_X12_known_33
      by_cases c6 : (6 : Int32) ≤ nI (i + 1)
      · rw [if_pos c6]; rfl
      · rw [if_neg c6, if_pos rfl]; rfl
theorem m_known0 {g : ob_St} {x : Int32} : L_X12_known_33 g 0 x ob_FU 0 0 = some 0 := rfl
theorem m_known {g : ob_St} {b : Nat → Int32} {n p : Nat} (hK : m_TK b n p g) : f_X12_known g 0 = some ((kq b n p).elim (-1) nI) := by
  obtain ⟨_, _, k12, _, k4⟩ := hK
  have key : ∀ (M : Nat → Bool), (∀ k rec, k < 20 → Lb_X12_known_2 rec g 0 (nI k) = if M k = true then some (.inl (nI k)) else rec (nI (k + 1))) → ∀ d i fuel, i + d = 20 → d < fuel → (∀ j, j < i → M j = false) → (L_X12_known_2 g 0 fuel (nI i)).bind (Sum.elim (fun y_9 => some y_9) (fun y_10 => some (-1))) = some ((sp_fst M 20).elim (-1) nI) := by
    intro M hM d
    induction d with
    | zero =>
      intro i fuel hi hf hq
      obtain ⟨f, rfl⟩ : ∃ f, fuel = f + 1 := ⟨fuel - 1, by omega⟩
      have h20 : (20 : Int32) ≤ nI i := nI_le (a := 20) (b := i) (by omega) (by omega)
      show (Lb_X12_known_2 _ _ _ _).bind _ = _
      unfold Lb_X12_known_2
      rw [if_pos h20, Option.bind_some, sp_fst_n 20 (fun q hqq => hq q (by omega))]
      rfl
    | succ d ih =>
      intro i fuel hi hf hq
      obtain ⟨f, rfl⟩ : ∃ f, fuel = f + 1 := ⟨fuel - 1, by omega⟩
      show (Lb_X12_known_2 _ _ _ _).bind _ = _
      rw [hM i _ (by omega)]
      by_cases c : M i = true
      · rw [if_pos c, Option.bind_some, sp_fst_s (p := i) c hq 20 (by omega)]
        rfl
      · rw [if_neg c]
        exact ih (i + 1) f (by omega) (by omega) (fun j hj => by
          by_cases e : j = i
          · subst e; exact Bool.eq_false_iff.mpr c
          · exact hq j (by omega))
  have h20 : ∀ k, k < 20 → ¬ (20 : Int32) ≤ nI k := fun k hk => nI_ge (a := k) (b := 20) hk (by omega)
  unfold f_X12_known
  by_cases c : 4 ≤ lx_k b n p
  · obtain ⟨⟨w1, w2, w3⟩, v, iff5, le5⟩ := lx_k4 c
    obtain ⟨h14, h7⟩ := k4 c
    have t1 : g.1 0 12 = 1 := by rw [k12]; unfold tc; rw [if_neg (by omega), if_neg (by omega), if_neg (by omega), if_neg (by omega)]; rfl
    have e : (kq b n p) = sp_fst (kw_M b (sk b n p) (lx_l b n p)) 20 := by
      unfold kq
      by_cases c5 : lx_k b n p = 5
      · rw [if_pos c5]; rfl
      · rw [if_neg c5]
        cases hk : lx_kw b (sk b n p) (lx_l b n p) with
        | none => exact hk.symm
        | some k => rw [hk] at iff5; exact absurd (iff5.mpr rfl) c5
    rw [e]
    refine key _ (fun k rec hk => ?_) 20 0 ob_FU (by omega) (by unfold ob_FU; omega) (fun j hj => by omega)
    unfold Lb_X12_known_2
    rw [if_neg (h20 k hk), ev_g0, Option.bind_some, t1, if_pos rfl, ev_g0, Option.bind_some, h14]
    by_cases c7 : lx_l b n p < 7
    · have c7' : ¬ (7 : Int32) ≤ nI (lx_l b n p) := nI_ge (a := lx_l b n p) (b := 7) c7 (by omega)
      obtain ⟨r, r1, r2⟩ := m_knownL (k := k) h14 h7 w1 hk 6 0 ob_FU (by omega) (by unfold ob_FU; omega)
      have r1 : L_X12_known_33 g 0 (nI k) ob_FU 1 0 = some (bI r) := r1
      unfold B_X12_known_30
      rw [if_neg c7', r1, Option.bind_some]
      have eM : kw_M b (sk b n p) (lx_l b n p) k = true ↔ r = true := by
        rw [kw_Mi, r2]
        exact ⟨fun h j _ hj => h.2 j hj, fun h => ⟨c7, fun i hi => h i (by omega) hi⟩⟩
      by_cases cr : r = true
      · rw [if_neg (fun h => bI_0.mp h cr), if_pos (eM.mpr cr)]
      · rw [if_pos (bI_0.mpr cr), if_neg (fun h => cr (eM.mp h)), nI_1]
    · have c7' : (7 : Int32) ≤ nI (lx_l b n p) := nI_le (a := 7) (b := lx_l b n p) (by omega) (by omega)
      unfold B_X12_known_29 B_X12_known_30
      rw [if_pos c7', m_known0, Option.bind_some, if_pos rfl, if_neg (fun h => c7 (kw_Mi.mp h).1), nI_1]
  · have t1 : ¬ g.1 0 12 = 1 := by
      rw [k12]
      intro h
      have : tc (lx_k b n p) = 1 := (nI_eq (by unfold tc; split <;> (try split) <;> (try split) <;> (try split) <;> omega) (by omega)).mp h
      unfold tc at this
      by_cases d0 : lx_k b n p = 0
      · rw [if_pos d0] at this; omega
      rw [if_neg d0] at this
      by_cases d1 : lx_k b n p = 1
      · rw [if_pos d1] at this; omega
      rw [if_neg d1] at this
      by_cases d2 : lx_k b n p = 2
      · rw [if_pos d2] at this; omega
      rw [if_neg d2, if_pos (by omega)] at this
      omega
    have e : (kq b n p) = sp_fst (fun _ => false) 20 := by rw [kq_none.mpr (by omega)]; rfl
    rw [e]
    refine key _ (fun k rec hk => ?_) 20 0 ob_FU (by omega) (by unfold ob_FU; omega) (fun j hj => rfl)
    unfold Lb_X12_known_2 B_X12_known_29 B_X12_known_30
    rw [if_neg (h20 k hk), ev_g0, Option.bind_some, if_neg t1, m_known0, Option.bind_some, if_pos rfl, if_neg (by decide), nI_1]

/-! names -/
def nm_M (g : ob_St) (b : Nat → Int32) (q l o : Nat) : Bool := kw_al (fun j => decide (g.1 8 (8 * o + j) = lx_pad b q l j)) 8
theorem m_namedL {g : ob_St} {b : Nat → Int32} {q l o : Nat} {x1 : Int32} (h14 : g.1 0 14 = nI l) (h7 : ∀ j, j < l → g.1 7 j = b (q + j)) (hl : l ≤ 8) (ho : o < 4) : ∀ d i fuel, i + d = 8 → d < fuel → ∃ r, L_X12_named_12 g 0 x1 (nI o) fuel 1 (nI i) = some (bI r) ∧ (r = true ↔ ∀ j, i ≤ j → j < 8 → g.1 8 (8 * o + j) = lx_pad b q l j) := by
  intro d
  induction d with
  | zero =>
    intro i fuel hi hf
    obtain ⟨f, rfl⟩ : ∃ f, fuel = f + 1 := ⟨fuel - 1, by omega⟩
    have h6 : (8 : Int32) ≤ nI i := nI_le (a := 8) (b := i) (by omega) (by omega)
    refine ⟨true, ?_, fun _ j _ _ => by omega, fun _ => rfl⟩
    show Lb_X12_named_12 _ _ _ _ _ _ _ = _
    unfold Lb_X12_named_12
    rw [if_pos h6]
    rfl
  | succ d ih =>
    intro i fuel hi hf
    obtain ⟨f, rfl⟩ : ∃ f, fuel = f + 1 := ⟨fuel - 1, by omega⟩
    have h6 : ¬ (8 : Int32) ≤ nI i := nI_ge (a := i) (b := 8) (by omega) (by omega)
    have e : Lb_X12_named_12 (L_X12_named_12 g 0 x1 (nI o) f) g 0 x1 (nI o) 1 (nI i) = B_X12_named_55 (L_X12_named_12 g 0 x1 (nI o) f) g 0 x1 (nI o) (nI i) (g.1 8 (8 * o + i)) (lx_pad b q l i) := by
      unfold Lb_X12_named_12
      rw [if_neg h6, if_neg (show ¬ (1 : Int32) = 0 by decide), pu_mul, nI_add, ev_r0_18, Option.bind_some]
      show ((ob_rI g 13 8 (nI (8 * o + i))).bind _) = _
      rw [ev_a8 (by omega), Option.bind_some]
      exact m_pad h14 h7 hl (by omega) (f := fun v => B_X12_named_55 (L_X12_named_12 g 0 x1 (nI o) f) g 0 x1 (nI o) (nI i) (g.1 8 (8 * o + i)) v)
    show ∃ r, Lb_X12_named_12 (L_X12_named_12 g 0 x1 (nI o) f) g 0 x1 (nI o) 1 (nI i) = _ ∧ _
    rw [e]
    unfold B_X12_named_55 B_X12_named_63
    by_cases c : g.1 8 (8 * o + i) = lx_pad b q l i
    · obtain ⟨r, r1, r2⟩ := ih (i + 1) f (by omega) (by omega)
      rw [if_pos c, nI_1]
      refine ⟨r, r1, r2.trans ⟨fun h j h1 h2 => ?_, fun h j h1 h2 => h j (by omega) h2⟩⟩
      by_cases ej : j = i
      · subst ej; exact c
      · exact h j (by omega) h2
    · refine ⟨false, ?_, fun h => absurd h (by decide), fun h => absurd (h i (Nat.le_refl _) (by omega)) c⟩
      rw [if_neg c, nI_1]
      obtain ⟨f', rfl⟩ : ∃ f', f = f' + 1 := ⟨f - 1, by omega⟩
      show Lb_X12_named_12 _ _ _ _ _ _ _ = _
      unfold Lb_X12_named_12
      by_cases c6 : (8 : Int32) ≤ nI (i + 1)
      · rw [if_pos c6]; rfl
      · rw [if_neg c6, if_pos rfl]; rfl
theorem m_named {g : ob_St} {b : Nat → Int32} {q l cnt : Nat} (h14 : g.1 0 14 = nI l) (h7 : ∀ j, j < l → g.1 7 j = b (q + j)) (hl : l ≤ 8) (hc : cnt ≤ 4) : f_X12_named g 0 (nI cnt) = some ((sp_fst (nm_M g b q l) cnt).elim (-1) nI) := by
  have key : ∀ d i fuel, i + d = cnt → d < fuel → (∀ j, j < i → nm_M g b q l j = false) → (L_X12_named_2 g 0 (nI cnt) fuel (nI i)).bind (Sum.elim (fun y_8 => some y_8) (fun y_9 => some (-1))) = some ((sp_fst (nm_M g b q l) cnt).elim (-1) nI) := by
    intro d
    induction d with
    | zero =>
      intro i fuel hi hf hq
      obtain ⟨f, rfl⟩ : ∃ f, fuel = f + 1 := ⟨fuel - 1, by omega⟩
      show (Lb_X12_named_2 _ _ _ _ _).bind _ = _
      unfold Lb_X12_named_2
      rw [if_pos (nI_le (by omega) (by omega)), Option.bind_some, sp_fst_n cnt (fun q hqq => hq q (by omega))]
      rfl
    | succ d ih =>
      intro i fuel hi hf hq
      obtain ⟨f, rfl⟩ : ∃ f, fuel = f + 1 := ⟨fuel - 1, by omega⟩
      obtain ⟨r, r1, r2⟩ := m_namedL (o := i) (x1 := nI cnt) h14 h7 hl (by omega) 8 0 ob_FU (by omega) (by unfold ob_FU; omega)
      have r1 : L_X12_named_12 g 0 (nI cnt) (nI i) ob_FU 1 0 = some (bI r) := r1
      have eM : nm_M g b q l i = true ↔ r = true := by
        unfold nm_M
        rw [kw_ali, r2]
        exact ⟨fun h j _ hj => of_decide_eq_true (h j hj), fun h j hj => decide_eq_true (h j (by omega) hj)⟩
      show (Lb_X12_named_2 _ _ _ _ _).bind _ = _
      unfold Lb_X12_named_2
      rw [if_neg (nI_ge (by omega) (by omega)), r1, Option.bind_some]
      by_cases c : r = true
      · rw [if_neg (fun h => bI_0.mp h c), Option.bind_some, sp_fst_s (p := i) (eM.mpr c) hq cnt (by omega)]
        rfl
      · rw [if_pos (bI_0.mpr c), nI_1]
        exact ih (i + 1) f (by omega) (by omega) (fun j hj => by
          by_cases e : j = i
          · subst e; exact Bool.eq_false_iff.mpr (fun h => c (eM.mp h))
          · exact hq j (by omega))
  unfold f_X12_named
  exact key cnt 0 ob_FU (by omega) (by unfold ob_FU; omega) (fun j hj => by omega)
theorem c_namedOption {g : ob_St} {cnt i : Nat} {y : Int64} (h6 : g.1 32 6 = nI cnt) (hc : cnt ≤ 4) (h5 : g.1 56 5 = nI i) (hi : i < 501) (hy : g.2 60 i = y) : f_X7_namedOption g 56 = some ((sp_fst (fun o => decide (g.2 62 o = y)) cnt).elim (-1) nI) := by
  have g6 : ob_gI g 5 32 6 = some (g.1 32 6) := rfl
  have key : ∀ d x fuel, x + d = cnt → d < fuel → (∀ j, j < x → ¬ g.2 62 j = y) → (L_X7_namedOption_2 g 56 fuel (nI x)).bind (Sum.elim (fun y_10 => some y_10) (fun y_11 => some (-1))) = some ((sp_fst (fun o => decide (g.2 62 o = y)) cnt).elim (-1) nI) := by
    intro d
    induction d with
    | zero =>
      intro x fuel hx hf hq
      obtain ⟨f, rfl⟩ : ∃ f, fuel = f + 1 := ⟨fuel - 1, by omega⟩
      show (Lb_X7_namedOption_2 _ _ _ _).bind _ = _
      unfold Lb_X7_namedOption_2
      rw [ev_r56_0, Option.bind_some, g6, Option.bind_some, h6, if_pos (nI_le (by omega) (by omega)), Option.bind_some, sp_fst_n cnt (fun q hqq => decide_eq_false (hq q (by omega)))]
      rfl
    | succ d ih =>
      intro x fuel hx hf hq
      obtain ⟨f, rfl⟩ : ∃ f, fuel = f + 1 := ⟨fuel - 1, by omega⟩
      show (Lb_X7_namedOption_2 _ _ _ _).bind _ = _
      unfold Lb_X7_namedOption_2
      rw [ev_r56_0, Option.bind_some, g6, Option.bind_some, h6, if_neg (nI_ge (by omega) (by omega)), ev_r56_4, Option.bind_some, ev_a62 (by omega), Option.bind_some, ev_r56_3, Option.bind_some, ev_r57_2, Option.bind_some, ev_g56, Option.bind_some, h5, ev_a60 hi, Option.bind_some, hy]
      by_cases c : g.2 62 x = y
      · rw [if_pos c, Option.bind_some, sp_fst_s (p := x) (decide_eq_true c) (fun q hqq => decide_eq_false (hq q hqq)) cnt (by omega)]
        rfl
      · rw [if_neg c, nI_1]
        exact ih (x + 1) f (by omega) (by omega) (fun j hj => by
          by_cases e : j = x
          · subst e; exact c
          · exact hq j (by omega))
  unfold f_X7_namedOption
  exact key cnt 0 ob_FU (by omega) (by unfold ob_FU; omega) (fun j hj => by omega)
/-- names are told alike by both -/
def nm_R (b : Nat → Int32) (cnt : Nat) (gc gm : ob_St) : Prop := ∀ o, o < cnt → ∃ q l, lx_W b q l ∧ gc.2 62 o = lx_h b q l ∧ ∀ j, j < 8 → gm.1 8 (8 * o + j) = lx_pad b q l j
theorem sp_fst_cg {M M' : Nat → Bool} : ∀ n, (∀ i, i < n → M i = M' i) → sp_fst M n = sp_fst M' n := by
  intro n
  induction n with
  | zero => intro _; rfl
  | succ n ih =>
    intro h
    show (sp_fst M n).elim (if M n = true then some n else none) some = (sp_fst M' n).elim (if M' n = true then some n else none) some
    rw [ih (fun i hi => h i (by omega)), h n (by omega)]
theorem nm_eq {b : Nat → Int32} {cnt q l : Nat} {gc gm : ob_St} (hR : nm_R b cnt gc gm) (hW : lx_W b q l) : sp_fst (fun o => decide (gc.2 62 o = lx_h b q l)) cnt = sp_fst (nm_M gm b q l) cnt := by
  refine sp_fst_cg cnt (fun o ho => ?_)
  obtain ⟨q', l', w, e1, e2⟩ := hR o ho
  have z := lx_h_pad w.1 hW.1 w.2.1 hW.2.1 w.2.2 hW.2.2
  rw [e1]
  have : nm_M gm b q l o = true ↔ lx_h b q' l' = lx_h b q l := by
    unfold nm_M
    rw [kw_ali, z]
    exact ⟨fun h j hj => by rw [← e2 j hj]; exact of_decide_eq_true (h j hj), fun h j hj => decide_eq_true (by rw [e2 j hj]; exact h j hj)⟩
  by_cases c : lx_h b q' l' = lx_h b q l
  · rw [decide_eq_true c, this.mpr c]
  · rw [decide_eq_false c, Bool.eq_false_iff.mpr (fun h => c (this.mp h))]
