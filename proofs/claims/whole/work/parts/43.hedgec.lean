/-! gain: the class -/
theorem bit_nI {p t : Nat} (hp : p < 2 ^ 31) (ht : t ≤ 12) : ((nI p >>> (nI t &&& 31)) &&& 1) = nI (p / 2 ^ t % 2) := by
  have h : ∀ t, t < 13 → ((nI t &&& 31).toBitVec.smod 32).toNat = t := by decide +kernel
  have hq : p / 2 ^ t < 2 ^ 32 := Nat.lt_of_le_of_lt (Nat.div_le_self _ _) (by omega)
  rw [pk_shrN hp (nI t &&& 31) t (h t (by omega)), pk_andN hq 1 (by decide)]
theorem bit_1 {x : Nat} : (nI (x % 2) = 1) ↔ x % 2 = 1 := nI_eq (a := x % 2) (b := 1) (by omega) (by omega)
theorem c_givenAt {S : Nat → Int32} {g : ob_St} {k t j : Nat} {e : Int32} {i : Bool} (hW : sp_WF S) (hM : c_M 24 S g) (hL : c_Lat S g) (hk : k < sN S 29) (ht : t ≤ sN S 2) (hj : j ≤ t) :
    f_X2_givenAt g 115 (72 + 8 * k) (28 + k) (nI t) (nI (nd t j)) (bI i) e = some ((sp_gv S k e t j i).getD (-1)) := by
  have h12 := wf_12 hW
  have h4 := wf_4 hW
  have ho := wf_o hW hk
  have hn := c_Sh_k (k := k) (by omega)
  have hl := nd_lt (t := t) (j := j) (by omega) hj
  obtain ⟨hp, hpl, hE, hv, hD⟩ := hL.2 k hk t j ht hj
  have hD : g.1 (72 + 8 * k + 7) (nd t j) = sp_D S k t j := hD
  have hE : g.1 (72 + 8 * k + 4) (nd t j) = sp_E S k t j := hE
  have hC := hM.2.2.2.2.2 k hk
  have e4 : g.1 (28 + k) 4 = sp_o S k 4 := hC.2.2.2.2.1
  have e7 : g.1 (28 + k) 7 = sp_o S k 7 := hC.2.2.2.2.2.2.2.1
  have e8 : g.1 (28 + k) 8 = sp_o S k 8 := hC.2.2.2.2.2.2.2.2.1
  have e3 : g.1 (28 + k) 3 = c_fr (sp_o S k 3) := hC.2.2.2.1
  have hmy := c_may hW hM ht ho.2.2.2.1.2
  rw [← ho.2.2.2.1.1] at hmy
  have b106 : ∀ s0 r d y, ob_gR 4 s0 1 = some r → ob_rI g 14 r (nI (nd t j)) = some d → B_X2_givenAt_106 g (28 + k) (nI (nd t j)) (sp_sc S t) y s0 = some (if d = 4 then y + (sp_o S k 8).toInt64 * sp_sc S t else -1) := by
    intro s0 r d y h1 h2
    unfold B_X2_givenAt_106
    rw [h1, Option.bind_some, h2, Option.bind_some, ew_gc (by omega), Option.bind_some, e8]
    by_cases c : d = 4
    · rw [if_pos c, if_pos c]
    · rw [if_neg c, if_neg c]
  have b90 : ∀ y, B_X2_givenAt_90 g (72 + 8 * k) (28 + k) (nI (nd t j)) (bI i) (sp_sc S t) y = some (if (if i = true then sp_E S k t j else sp_D S k t j) = 4 then y + (sp_o S k 8).toInt64 * sp_sc S t else -1) := by
    intro y
    unfold B_X2_givenAt_90
    rw [bI_if, es_2 hn, Option.bind_some, es_1 hn, Option.bind_some, b106 _ _ _ _ (es_b1 hn) (es_a7 hn hl), b106 _ _ _ _ (es_p1 hn) (es_a4 hn hl), hD, hE]
    cases i <;> rfl
  have hp : g.2 (72 + 8 * k + 1) (nd t j) = sp_P S k t j := hp
  have b50 : B_X2_givenAt_50 g 115 (72 + 8 * k) (28 + k) (nI t) (nI (nd t j)) (bI i) e (sp_sc S t) = some ((if nI t = e ∧ 0 < sp_P S k t j ∧ sp_may S (sp_o S k 3) t = true then some (sp_P S k t j)
      else if (if i = true then sp_E S k t j else sp_D S k t j) = 4 then some (sp_P S k t j + (sp_o S k 8).toInt64 * sp_sc S t) else none).getD (-1)) := by
    have fin : (if (if i = true then sp_E S k t j else sp_D S k t j) = 4 then sp_P S k t j + (sp_o S k 8).toInt64 * sp_sc S t else -1) = (if (if i = true then sp_E S k t j else sp_D S k t j) = 4 then some (sp_P S k t j + (sp_o S k 8).toInt64 * sp_sc S t) else none).getD (-1) := by
      by_cases c : (if i = true then sp_E S k t j else sp_D S k t j) = 4
      · rw [if_pos c, if_pos c]; rfl
      · rw [if_neg c, if_neg c]; rfl
    unfold B_X2_givenAt_50
    rw [es_0 hn, Option.bind_some, es_a1 hn hl, Option.bind_some, hp, b90, ev_r115_0, Option.bind_some, ew_gc (by omega), Option.bind_some, e3, hmy, ev_ck67, Option.bind_some, m_may1, fin]
    by_cases c1 : nI t = e
    · rw [if_pos c1]
      by_cases c2 : sp_P S k t j ≤ 0
      · rw [if_pos c2, if_neg (c := nI t = e ∧ _) (fun z => Int64.not_le.mpr z.2.1 c2)]
      · rw [if_neg c2]
        by_cases c3 : sp_may S (sp_o S k 3) t = true
        · rw [if_pos c3, if_pos ⟨c1, Int64.not_le.mp c2, c3⟩]; rfl
        · rw [if_neg c3, if_neg (c := nI t = e ∧ _) (fun z => c3 z.2.2)]
    · rw [if_neg c1, if_neg (c := nI t = e ∧ _) (fun z => c1 z.1)]
  unfold f_X2_givenAt sp_gv
  rw [ev_r115_0, Option.bind_some, c_scaleAt hW hM hL.1.1 ht, ev_ck67, Option.bind_some, es_2 hn, Option.bind_some, es_b1 hn, Option.bind_some, es_a7 hn hl, Option.bind_some, hD, ew_gc (by omega), Option.bind_some, ew_gc (by omega), Option.bind_some, e7, e4, b50, bI_if]
  by_cases c1 : sp_D S k t j = 2
  · rw [if_pos c1, if_pos c1]; rfl
  rw [if_neg c1, if_neg c1]
  by_cases c2 : sp_o S k 4 = 2
  · rw [if_pos c2]
    cases i with
    | true => rw [if_pos rfl, if_neg (c := sp_o S k 4 = 2 ∧ _) (fun z => absurd z.2 (by decide))]
    | false => rw [if_neg (by decide), if_pos (c := sp_o S k 4 = 2 ∧ _) ⟨c2, rfl⟩]; rfl
  · rw [if_neg c2, if_neg (c := sp_o S k 4 = 2 ∧ _) (fun z => c2 z.1)]
theorem sp_str_u {S : Nat → Int32} {t j : Nat} {u : Bool} : sp_str S (t + 1) (if u = true then j + 1 else j) - sp_str S t j = (if u = true then S 1 else 0) - S (3 + (t + 1)) := by
  unfold sp_str
  have e : sp_fs S (t + 1) = sp_fs S t + S (3 + (t + 1)) := rfl
  rw [e]
  cases u with
  | true =>
    show S 0 + nI (j + 1) * S 1 - _ - _ = S 1 - _
    rw [nI_succ]
    grind
  | false =>
    show S 0 + nI j * S 1 - _ - _ = 0 - _
    grind
theorem c_gainTo {S : Nat → Int32} {g : ob_St} {k t j : Nat} {i u : Bool} (hW : sp_WF S) (hM : c_M 24 S g) (hL : c_Lat S g) (hk : k < sN S 29) (ht : t < sN S 2) (hj : j ≤ t) :
    f_X2_gainTo g 115 (72 + 8 * k) (nI t) (nI (nd t j)) (nI (nd (t + 1) (if u = true then j + 1 else j))) (bI i) = some (sp_gt S k t j i u) := by
  have h12 := wf_12 hW
  have h4 := wf_4 hW
  have hn := c_Sh_k (k := k) (by omega)
  have hkk := es_k hn
  have hl := nd_lt (t := t) (j := j) (by omega) hj
  have hju : (if u = true then j + 1 else j) ≤ t + 1 := by split <;> omega
  have hl2 := nd_lt (t := t + 1) (j := if u = true then j + 1 else j) (by omega) hju
  have e3 : sp_sb S (fun t j => g.2 (72 + 8 * k + 3) (nd t j)) t j = sp_sb S (sp_L S k) t j := sp_sb_loc (by omega) hj (fun t j a b => (hL.2 k hk t j a b).2.1)
  have e6 : sp_sb S (fun t j => g.2 (72 + 8 * k + 6) (nd t j)) t j = sp_sb S (sp_V S k) t j := sp_sb_loc (by omega) hj (fun t j a b => (hL.2 k hk t j a b).2.2.2.1)
  have s3 := c_standingBy (g := g) (es_p0 hn) hkk.2.1.1 hkk.2.1.2 hW hM (show t ≤ sN S 2 by omega) hj
  have s6 := c_standingBy (g := g) (es_b0 hn) hkk.2.2.2.1.1 hkk.2.2.2.1.2 hW hM (show t ≤ sN S 2 by omega) hj
  rw [e3] at s3
  rw [e6] at s6
  have e68 : g.1 68 (nd t j) = sp_str S t j := (hL.1.2 t j (by omega) hj).1
  have e68' : g.1 68 (nd (t + 1) (if u = true then j + 1 else j)) = sp_str S (t + 1) (if u = true then j + 1 else j) := (hL.1.2 (t + 1) _ (by omega) hju).1
  have e70 : g.2 70 t = sp_pw S t := hL.1.1 t (by omega)
  have b20 : ∀ p y, f_X3_standingBy g 67 p (nI t) (nI (nd t j)) = some y → B_X2_gainTo_20 g 115 (nI t) (nI (nd t j)) (nI (nd (t + 1) (if u = true then j + 1 else j))) 67 p = some (y * sp_pw S t * ((if u = true then S 1 else 0) - S (3 + (t + 1))).toInt64) := by
    intro p y hy
    unfold B_X2_gainTo_20
    rw [hy, ev_ck67, Option.bind_some, ev_r115_0, Option.bind_some, ev_r67_3, Option.bind_some, ev_a70 (by omega), Option.bind_some, Option.bind_some, ev_r67_1, Option.bind_some, ev_a68 hl2, Option.bind_some, Option.bind_some, ev_r67_1, Option.bind_some, ev_a68 hl, Option.bind_some, e68, e68', e70, sp_str_u]
  unfold f_X2_gainTo sp_gt
  rw [ev_r115_0, Option.bind_some, es_2 hn, Option.bind_some, es_1 hn, Option.bind_some, b20 _ _ s3, b20 _ _ s6, bI_if]
  cases i <;> rfl
def c_post (g : ob_St) : (Int64 × Int32 × Int64) ⊕ Int64 → Option Int64 := Sum.elim (fun y_20 => (ob_gR 2 115 0).bind fun v21 => (ob_gR 3 v21 3).bind fun v22 => (ob_rL g v22 y_20.2.1).bind fun v23 => some (y_20.1 - (y_20.2.2 * v23))) (fun y_24 => some y_24)
theorem bd_n1 {v : Int64} {X : Nat} (h : bd v X) : ¬ v = -1 := fun z => by
  have := h.1
  rw [z] at this
  exact absurd this (by decide)
theorem c_leftAlong {S : Nat → Int32} {g : ob_St} {k p : Nat} {e : Int32} (hW : sp_WF S) (hM : c_M 24 S g) (hL : c_Lat S g) (hk : k < sN S 29) (hp : p < 2 ^ 31) :
    ∀ d t j i left fuel, t + d = sN S 2 → j ≤ t → d + 1 < fuel → (L_X2_leftAlong_20 g 115 (72 + 8 * k) (28 + k) (nI p) e fuel left (bI i) (nI (nd t j)) (nI t)).bind (c_post g) = some (left + sp_G S k e d t j i (p / 2 ^ t)) := by
  have h12 := wf_12 hW
  have h4 := wf_4 hW
  have hn := c_Sh_k (k := k) (by omega)
  have h5 : g.1 24 5 = nI (sN S 2) := hM.2.2.1.trans (wf_2 hW)
  have head : ∀ t j i left f, t ≤ sN S 2 → j ≤ t → L_X2_leftAlong_20 g 115 (72 + 8 * k) (28 + k) (nI p) e (f + 1) left (bI i) (nI (nd t j)) (nI t) = B_X2_leftAlong_59 (L_X2_leftAlong_20 g 115 (72 + 8 * k) (28 + k) (nI p) e f) g 115 (72 + 8 * k) (28 + k) (nI p) e left (nI (nd t j)) (nI t) (bI (gv_i S k t j i)) := by
    intro t j i left f ht hj
    have hl := nd_lt (t := t) (j := j) (by omega) hj
    have hD : g.1 (72 + 8 * k + 7) (nd t j) = sp_D S k t j := (hL.2 k hk t j ht hj).2.2.2.2
    show Lb_X2_leftAlong_20 _ _ _ _ _ _ _ _ _ _ _ = _
    unfold Lb_X2_leftAlong_20 B_X2_leftAlong_54 gv_i
    rw [ev_r115_0, Option.bind_some, ev_r67_0, Option.bind_some, ev_g24, Option.bind_some, h5, if_neg (nI_nlt (by omega) (by omega)), es_2 hn, Option.bind_some, es_b1 hn, Option.bind_some, es_a7 hn hl, Option.bind_some, hD, bI_if]
    cases i with
    | true => rfl
    | false =>
      rw [if_neg (by decide)]
      by_cases c : sp_D S k t j = 3
      · rw [if_pos c, decide_eq_true c]; rfl
      · rw [if_neg c, decide_eq_false c]; rfl
  have given : ∀ t j i left v (rec : Int64 → Int32 → Int32 → Int32 → Option ((Int64 × Int32 × Int64) ⊕ (Int64))), t ≤ sN S 2 → j ≤ t → sp_gv S k e t j i = some v → (B_X2_leftAlong_59 rec g 115 (72 + 8 * k) (28 + k) (nI p) e left (nI (nd t j)) (nI t) (bI i)).bind (c_post g) = some (left + -(v * sp_pw S t)) := by
    intro t j i left v rec ht hj hv
    have hb := gv_bd hW hk ht hj hv
    have e70 : g.2 70 t = sp_pw S t := hL.1.1 t (by omega)
    unfold B_X2_leftAlong_59
    rw [c_givenAt hW hM hL hk ht hj, hv, ev_ck115, Option.bind_some, Option.getD_some, if_neg (bd_n1 hb), Option.bind_some]
    unfold c_post
    rw [Sum.elim_inl, ev_r115_0, Option.bind_some, ev_r67_3, Option.bind_some]
    show (ob_rL g 70 (nI t)).bind (fun v23 => some (left - v * v23)) = _
    rw [ev_a70 (by omega), Option.bind_some, e70, Int64.sub_eq_add_neg]
  intro d
  induction d with
  | zero =>
    intro t j i left fuel ht hj hf
    obtain ⟨f, rfl⟩ : ∃ f, fuel = f + 2 := ⟨fuel - 2, by omega⟩
    rw [head t j i left (f + 1) (by omega) hj]
    unfold sp_G
    cases h : sp_gv S k e t j (gv_i S k t j i) with
    | some v => exact given t j _ left v _ (by omega) hj h
    | none =>
      unfold B_X2_leftAlong_59 B_X2_leftAlong_177
      rw [c_givenAt hW hM hL hk (by omega) hj, h, ev_ck115, Option.bind_some, Option.getD_none, if_pos rfl, ev_r115_0, Option.bind_some, ev_r67_0, Option.bind_some, ev_g24, Option.bind_some, h5, if_pos (nI_le (by omega) (by omega)), nI_1]
      show (Lb_X2_leftAlong_20 _ _ _ _ _ _ _ _ _ _ _).bind _ = _
      unfold Lb_X2_leftAlong_20
      rw [ev_r115_0, Option.bind_some, ev_r67_0, Option.bind_some, ev_g24, Option.bind_some, h5, if_pos (nI_lt (by omega) (by omega)), Option.bind_some]
      show some left = some (left + 0)
      rw [Int64.add_zero]
  | succ d ih =>
    intro t j i left fuel ht hj hf
    obtain ⟨f, rfl⟩ : ∃ f, fuel = f + 1 := ⟨fuel - 1, by omega⟩
    rw [head t j i left f (by omega) hj]
    unfold sp_G
    cases h : sp_gv S k e t j (gv_i S k t j i) with
    | some v => exact given t j _ left v _ (by omega) hj h
    | none =>
      generalize gv_i S k t j i = i' at h ⊢
      have e2 : p / 2 ^ t / 2 = p / 2 ^ (t + 1) := by rw [Nat.div_div_eq_div_mul, Nat.pow_succ]
      unfold B_X2_leftAlong_59
      rw [c_givenAt hW hM hL hk (by omega) hj, h, ev_ck115, Option.bind_some, Option.getD_none, if_pos rfl, ev_r115_0, Option.bind_some, ev_r67_0, Option.bind_some, ev_g24, Option.bind_some, h5, if_neg (nI_ge (by omega) (by omega)), bit_nI hp (by omega), Option.bind_some, Option.bind_some, c_upFrom, c_downFrom, ev_ck67, Option.bind_some, ev_ck67, Option.bind_some]
      show _ = some (left + (sp_gt S k t j i' (decide (p / 2 ^ t % 2 = 1)) + sp_G S k e d (t + 1) (if p / 2 ^ t % 2 = 1 then j + 1 else j) i' (p / 2 ^ t / 2)))
      rw [e2, ← Int64.add_assoc]
      have go : ∀ u : Bool, (B_X2_leftAlong_153 (L_X2_leftAlong_20 g 115 (72 + 8 * k) (28 + k) (nI p) e f) g 115 (72 + 8 * k) (28 + k) (nI p) e left (bI i') (nI (nd t j)) (nI t) (nI (nd (t + 1) (if u = true then j + 1 else j)))).bind (c_post g) = some (left + sp_gt S k t j i' u + sp_G S k e d (t + 1) (if u = true then j + 1 else j) i' (p / 2 ^ (t + 1))) := by
        intro u
        unfold B_X2_leftAlong_153 B_X2_leftAlong_177
        rw [c_gainTo hW hM hL hk (by omega) hj, ev_ck115, Option.bind_some, nI_1]
        exact ih (t + 1) (if u = true then j + 1 else j) i' (left + sp_gt S k t j i' u) f (by omega) (by split <;> omega) (by omega)
      by_cases c : p / 2 ^ t % 2 = 1
      · rw [if_pos (bit_1.mpr c), decide_eq_true c, if_pos c]
        exact go true
      · rw [if_neg (fun z => c (bit_1.mp z)), decide_eq_false c, if_neg c]
        exact go false
def sp_gain (S : Nat → Int32) (k p : Nat) (e : Int32) : Int64 := sp_V S k 0 0 + sp_G S k e (sN S 2) 0 0 false p
theorem gt_gain {S : Nat → Int32} {k p : Nat} {e : Int32} (hW : sp_WF S) (hk : k < sN S 29) : ab (sp_gain S k p e) 10000000000000000 ∧ (sp_gain S k p e).toInt = (sp_V S k 0 0).toInt + (sp_G S k e (sN S 2) 0 0 false p).toInt := by
  have h12 := wf_12 hW
  have hw := sp_wle hW (i := sN S 2 - 0) (by omega)
  have h1 := bd_V hW hk (Nat.zero_le (sN S 2)) (Nat.le_refl 0)
  have h2 := G_bd (e := e) hW hk (sN S 2) 0 0 false p (by omega) (by omega)
  have h3 := ab_add (ab_bd h1) h2 (by omega)
  exact ⟨ab_mono h3.1 (by omega), h3.2⟩
def qP (S : Nat → Int32) (x : Int32) : Bool := if x < 0 then false else if nI (2 ^ sN S 2) ≤ x then false else true
def qX (S : Nat → Int32) (x : Int32) : Bool := if x = -1 then true else qT S x
theorem sh_N : ∀ n, n < 13 → (1 : Int32) <<< (nI n &&& 31) = nI (2 ^ n) := by decide +kernel
theorem qP_e {S : Nat → Int32} {x : Int32} (hW : sp_WF S) (h : qP S x = true) : ∃ p, p < 2 ^ sN S 2 ∧ p < 2 ^ 31 ∧ x = nI p := by
  have h12 := wf_12 hW
  have hp : 2 ^ sN S 2 ≤ 2 ^ 12 := Nat.pow_le_pow_right (by omega) h12
  unfold qP at h
  by_cases h1 : x < 0
  · rw [if_pos h1] at h; exact absurd h (by decide)
  rw [if_neg h1] at h
  by_cases h2 : nI (2 ^ sN S 2) ≤ x
  · rw [if_pos h2] at h; exact absurd h (by decide)
  obtain ⟨j, hj, rfl⟩ := nI_of h1
  rw [nI_leI (by omega) hj] at h2
  exact ⟨j, by omega, hj, rfl⟩
theorem c_isPath {S : Nat → Int32} {g : ob_St} {x : Int32} (hW : sp_WF S) (hM : c_M 24 S g) : f_X11_isPath g 20 x = some (bI (qP S x)) := by
  have h5 : g.1 24 5 = nI (sN S 2) := hM.2.2.1.trans (wf_2 hW)
  have h12 := wf_12 hW
  unfold f_X11_isPath qP
  rw [ev_r20_3, Option.bind_some, ev_g24, Option.bind_some, h5, sh_N _ (by omega)]
  by_cases h1 : x < 0
  · rw [if_pos h1, if_pos h1]; rfl
  rw [if_neg h1, if_neg h1]
  by_cases h2 : nI (2 ^ sN S 2) ≤ x
  · rw [if_pos h2, if_pos h2]; rfl
  · rw [if_neg h2, if_neg h2]; rfl
theorem c_isExercise {S : Nat → Int32} {g : ob_St} {x : Int32} (hM : c_M 24 S g) : f_X11_isExercise g 20 x = some (bI (qX S x)) := by
  unfold f_X11_isExercise qX
  rw [c_isStep hM, ev_ck20, Option.bind_some, bI_if]
  by_cases h1 : x = -1
  · rw [if_pos h1, if_pos h1]; rfl
  rw [if_neg h1, if_neg h1]
  by_cases h2 : qT S x = true
  · rw [if_pos h2, h2]; rfl
  · rw [if_neg h2]
    rw [Bool.not_eq_true] at h2
    rw [h2]; rfl
def an_gain (S : Nat → Int32) (x1 x2 x3 x4 : Int32) : Option Int64 := if (qO S x1 && qP S x2 && qX S x3 && qB x4) = true then some (sp_told (sp_gain S x1.toNatClampNeg x2.toNatClampNeg x3) (sp_sc S 0) x4) else none
theorem c_gain {S : Nat → Int32} {g : ob_St} {x1 x2 x3 x4 : Int32} (hQ : c_Q S g) : c_A S g (an_gain S x1 x2 x3 x4) (f_X11_gain g 20 x1 x2 x3 x4) := by
  have hW := hQ.1
  have hM := hQ.2.1
  have h12 := wf_12 hW
  have h4' := wf_4 hW
  have bad : B_X11_gain_36 g 20 x1 x2 x3 x4 = some none := rfl
  unfold f_X11_gain an_gain
  rw [c_isOption hM, ev_ck20, Option.bind_some, bI_if, c_isPath hW hM, ev_ck20, Option.bind_some, bI_if, c_isExercise hM, ev_ck20, Option.bind_some, bI_if, c_isBit, Option.bind_some, bI_if, bad]
  by_cases c0 : qO S x1 = true
  · rw [if_pos c0]
    by_cases c1 : qP S x2 = true
    · rw [if_pos c1]
      by_cases c2 : qX S x3 = true
      · rw [if_pos c2]
        by_cases c3 : qB x4 = true
        · rw [if_pos c3, if_pos (an_and4.mpr ⟨c0, c1, c2, c3⟩)]
          obtain ⟨k, hk, rfl⟩ := qO_e hW c0
          obtain ⟨p, hp, hp2, rfl⟩ := qP_e hW c1
          rw [nI_clamp (by omega), nI_clamp hp2]
          obtain ⟨g', s1, s2, s3, s4, s5, s6⟩ := c_sheetOf hQ hk
          refine ⟨g', s2, s3, ?_⟩
          have hn := c_Sh_k (k := k) (by omega)
          have hb := (gt_gain (p := p) (e := x3) hW hk).1
          have td := c_told (y := sp_gain S k p x3) (p := x4) (by have := hb.1; omega) (sp_sc_pos hW 0)
          have sc : f_X3_scaleAt g' 67 0 = some (sp_sc S 0) := c_scaleAt (t := 0) hW s4 s5.1.1 (by omega)
          have eV : g'.2 (72 + 8 * k + 6) 0 = sp_V S k 0 0 := (s5.2 k hk 0 0 (by omega) (by omega)).2.2.2.1
          have ra : ob_rL g' (72 + 8 * k + 6) 0 = some (g'.2 (72 + 8 * k + 6) 0) := es_a6 (i := 0) hn (by omega)
          have la := c_leftAlong (e := x3) hW s4 s5 hk hp2 (sN S 2) 0 0 false (sp_V S k 0 0) ob_FU (by omega) (by omega) (by unfold ob_FU; omega)
          rw [Nat.pow_zero, Nat.div_one] at la
          have lf : f_X2_leftAlong g' 115 (72 + 8 * k) (28 + k) (nI p) x3 = some (sp_gain S k p x3) := by
            unfold f_X2_leftAlong
            rw [es_2 hn, Option.bind_some, es_b0 hn, Option.bind_some, ra, Option.bind_some, eV]
            exact la
          unfold B_X11_gain_37 B_X11_gain_40
          rw [if_neg (by decide), ev_r20_10, Option.bind_some, s1, ev_ck20, Option.bind_some, ev_r20_3, Option.bind_some, ev_r24_2, Option.bind_some, ew_27 (by omega), Option.bind_some, lf, ev_ck115, Option.bind_some, ev_r20_8, Option.bind_some, sc, ev_ck67, Option.bind_some, td]
          rfl
        · rw [if_neg c3, if_neg (fun h => c3 (an_and4.mp h).2.2.2)]
          exact ⟨g, c_K_refl g, hQ, rfl⟩
      · rw [if_neg c2, if_neg (fun h => c2 (an_and4.mp h).2.2.1)]
        exact ⟨g, c_K_refl g, hQ, rfl⟩
    · rw [if_neg c1, if_neg (fun h => c1 (an_and4.mp h).2.1)]
      exact ⟨g, c_K_refl g, hQ, rfl⟩
  · rw [if_neg c0, if_neg (fun h => c0 (an_and4.mp h).1)]
    exact ⟨g, c_K_refl g, hQ, rfl⟩
