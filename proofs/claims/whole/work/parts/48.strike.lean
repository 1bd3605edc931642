/-! strike, early: whole numbers and the class -/
theorem bd_payX {S : Nat → Int32} {k s : Nat} (hW : sp_WF S) (hk : k < sN S 29) (hs : s ≤ 999) (hs3 : sp_o S k 0 = 3 → s < sN S (30 + 10 * k + 2)) : ∀ t j, t ≤ sN S 2 → j ≤ t → bd (sp_pay S (sp_Vs S k) k (nI s) t j) (2394 * sN S 1 ^ (sN S 2 - t)) := by
  intro t j ht hj
  refine bd_pay hW (wf_o hW hk) hs hs3 ht hj (fun q hq => ?_)
  rw [sp_Vs_lt hq]
  exact bd_V hW (by omega) ht hj
theorem bd_X {S : Nat → Int32} {k s : Nat} {fr : Int32} (hW : sp_WF S) (hk : k < sN S 29) (hs : s ≤ 999) (hs3 : sp_o S k 0 = 3 → s < sN S (30 + 10 * k + 2)) : bd (sp_X S k (nI s) fr) (2394 * sN S 1 ^ sN S 2) :=
  bd_vl hW (wf_o hW hk) (by omega) (by omega) (bd_payX hW hk hs hs3) (sN S 2) 0 0 (by omega) (by omega)
theorem ab0_t {y : Int64} : (sp_ab0 y).toInt = if y.toInt ≤ 0 then 0 else y.toInt := by
  unfold sp_ab0
  by_cases c : y ≤ 0
  · rw [if_pos c, if_pos (by rw [nu_le, nu_0] at c; exact c), nu_0]
  · rw [if_neg c, if_neg (fun q => c (by rw [nu_le, nu_0]; exact q))]
theorem mulsc_mono {S : Nat → Int32} {x y : Int64} {t : Nat} (hW : sp_WF S) (hx : bd x 2394) (hy : bd y 2394) (h : x.toInt ≤ y.toInt) : (x * sp_sc S t).toInt ≤ (y * sp_sc S t).toInt := by
  have h12 := wf_12 hW
  have hwle := sp_wle hW (i := sN S 2 - t) (by omega)
  have b0 := bd_sc hW t
  have e1 := (bd_mul hx b0 (by omega)).2
  have e2 := (bd_mul hy b0 (by omega)).2
  rw [e1, e2]
  exact Int.mul_le_mul_of_nonneg_right h b0.1
theorem pay_mono0 {S : Nat → Int32} {V : Nat → Nat → Nat → Int64} {k s s' t j : Nat} (hW : sp_WF S) (h0 : sp_o S k 0 = 0) (hs : s ≤ s') (hs' : s' ≤ 999) (ht : t ≤ sN S 2) (hj : j ≤ t) : (sp_pay S V k (nI s') t j).toInt ≤ (sp_pay S V k (nI s) t j).toInt := by
  have h12 := wf_12 hW
  have hple := sp_prN_le hW (j := j) ht (by omega)
  have t1 : ∀ q, q ≤ 999 → (nI (sp_prN S t j) - nI q).toInt64.toInt = (sp_prN S t j : Int) - q := by
    intro q hq
    rw [Int32.toInt_toInt64, ni_sub (by rw [ni_of (by omega), ni_of (by omega)]; omega) (by rw [ni_of (by omega), ni_of (by omega)]; omega), ni_of (by omega), ni_of (by omega)]
  unfold sp_pay
  rw [if_pos h0, if_pos h0, sp_pr_n hW ht]
  refine mulsc_mono hW (bd_ab0 (by rw [t1 s' hs']; omega)) (bd_ab0 (by rw [t1 s (by omega)]; omega)) ?_
  rw [ab0_t, ab0_t, t1 s' hs', t1 s (by omega)]
  split <;> split <;> omega
theorem pay_mono1 {S : Nat → Int32} {V : Nat → Nat → Nat → Int64} {k s s' t j : Nat} (hW : sp_WF S) (h1 : sp_o S k 0 = 1) (hs : s ≤ s') (hs' : s' ≤ 999) (ht : t ≤ sN S 2) (hj : j ≤ t) : (sp_pay S V k (nI s) t j).toInt ≤ (sp_pay S V k (nI s') t j).toInt := by
  have h12 := wf_12 hW
  have hple := sp_prN_le hW (j := j) ht (by omega)
  have n0 : ¬ sp_o S k 0 = 0 := by rw [h1]; decide
  have t1 : ∀ q, q ≤ 999 → (-(nI (sp_prN S t j) - nI q)).toInt64.toInt = (q : Int) - sp_prN S t j := by
    intro q hq
    have e : (nI (sp_prN S t j) - nI q).toInt = (sp_prN S t j : Int) - q := by rw [ni_sub (by rw [ni_of (by omega), ni_of (by omega)]; omega) (by rw [ni_of (by omega), ni_of (by omega)]; omega), ni_of (by omega), ni_of (by omega)]
    rw [Int32.toInt_toInt64, ni_neg (by omega), e]
    omega
  unfold sp_pay
  rw [if_neg n0, if_pos h1, if_neg n0, if_pos h1, sp_pr_n hW ht]
  refine mulsc_mono hW (bd_ab0 (by rw [t1 s (by omega)]; omega)) (bd_ab0 (by rw [t1 s' hs']; omega)) ?_
  rw [ab0_t, ab0_t, t1 s' hs', t1 s (by omega)]
  split <;> split <;> omega
theorem X_mono0 {S : Nat → Int32} {k s s' : Nat} {fr : Int32} (hW : sp_WF S) (hk : k < sN S 29) (h0 : sp_o S k 0 = 0) (hs : s ≤ s') (hs' : s' ≤ 999) : (sp_X S k (nI s') fr).toInt ≤ (sp_X S k (nI s) fr).toInt := by
  have n3 : sp_o S k 0 = 3 → False := fun z => by rw [h0] at z; exact absurd z (by decide)
  exact vl_mono hW (wf_o hW hk) (bd_payX hW hk hs' (fun z => (n3 z).elim)) (bd_payX hW hk (by omega) (fun z => (n3 z).elim)) (fun t j ht hj => pay_mono0 hW h0 hs hs' ht hj) (sN S 2) 0 0 (by omega) (by omega)
theorem X_mono1 {S : Nat → Int32} {k s s' : Nat} {fr : Int32} (hW : sp_WF S) (hk : k < sN S 29) (h0 : sp_o S k 0 = 1) (hs : s ≤ s') (hs' : s' ≤ 999) : (sp_X S k (nI s) fr).toInt ≤ (sp_X S k (nI s') fr).toInt := by
  have n3 : sp_o S k 0 = 3 → False := fun z => by rw [h0] at z; exact absurd z (by decide)
  exact vl_mono hW (wf_o hW hk) (bd_payX hW hk (by omega) (fun z => (n3 z).elim)) (bd_payX hW hk hs' (fun z => (n3 z).elim)) (fun t j ht hj => pay_mono1 hW h0 hs hs' ht hj) (sN S 2) 0 0 (by omega) (by omega)
/-- is it worth so much -/
def sp_mt (S : Nat → Int32) (k : Nat) (v : Int32) (s : Nat) : Bool := if v < 0 then true else if 9999 ≤ v then false else if sp_X S k (nI s) (sp_o S k 3) < v.toInt64 * sp_pw S (sN S 2) then false else true
def sp_due (S : Nat → Int32) (v : Int32) : Int64 := (ob_imax 0 (ob_imin v 2999)).toInt64 * sp_sc S 0
theorem sp_due_mt {S : Nat → Int32} {k s : Nat} {v : Int32} (hW : sp_WF S) (hk : k < sN S 29) (hs : s ≤ 999) (hs3 : sp_o S k 0 = 3 → s < sN S (30 + 10 * k + 2)) : (if sp_X S k (nI s) (sp_o S k 3) < sp_due S v then false else true) = sp_mt S k v s := by
  have h12 := wf_12 hW
  have hb := bd_X (fr := sp_o S k 3) hW hk hs hs3
  have hw := sp_wle hW (i := sN S 2) h12
  have hp := sp_wpos hW (sN S 2)
  have eP : sp_sc S 0 = sp_pw S (sN S 2) := rfl
  have tp := sp_pw_t hW h12
  have bp := bd_pwS hW h12
  unfold sp_mt sp_due
  rw [eP]
  generalize sp_X S k (nI s) (sp_o S k 3) = X at *
  generalize sp_pw S (sN S 2) = Pw at *
  generalize sN S 1 ^ sN S 2 = w at *
  have mulB : ∀ (x : Int32) (a : Nat), x.toInt = (a : Int) → a ≤ 10000 → (x.toInt64 * Pw).toInt = (a : Int) * w := by
    intro x a hx ha
    have m : a * w ≤ 10000 * 282429536481 := Nat.mul_le_mul ha hw
    have hb1 : bd x.toInt64 a := ⟨by rw [Int32.toInt_toInt64, hx]; omega, by rw [Int32.toInt_toInt64, hx]; omega⟩
    rw [(bd_mul hb1 bp (by omega)).2, Int32.toInt_toInt64, hx, tp]
  have b1 := hb.1
  have b2 := hb.2
  by_cases v0 : v < 0
  · have e : ob_imax 0 (ob_imin v 2999) = 0 := by
      have e1 : ob_imin v 2999 = v := by
        unfold ob_imin
        rw [if_neg]
        rw [ni_lt] at v0 ⊢
        rw [ni_0] at v0
        show ¬ (2999 : Int) < v.toInt
        omega
      rw [e1]
      unfold ob_imax
      rw [if_neg]
      rw [ni_lt] at v0 ⊢
      omega
    rw [if_pos v0, e, show (0 : Int32).toInt64 = 0 from rfl, Int64.zero_mul, if_neg]
    rw [nu_lt, nu_0]
    omega
  rw [if_neg v0]
  obtain ⟨a, ha, rfl⟩ := nI_of v0
  have ta : (nI a).toInt = (a : Int) := ni_of (by omega)
  by_cases v1 : a ≤ 2999
  · have e : ob_imax 0 (ob_imin (nI a) 2999) = nI a := by
      have e1 : ob_imin (nI a) 2999 = nI a := by
        unfold ob_imin
        exact if_neg (nI_nlt (a := 2999) (b := a) v1 (by omega))
      rw [e1]
      unfold ob_imax
      by_cases c : (0 : Int32) < nI a
      · rw [if_pos c]
      · rw [if_neg c]
        have : a = 0 := by
          rw [ni_lt, ni_0, ta] at c
          omega
        rw [this]
        rfl
    have n9 : ¬ (9999 : Int32) ≤ nI a := nI_ge (a := a) (b := 9999) (by omega) (by omega)
    rw [e, if_neg n9]
  · have e : ob_imax 0 (ob_imin (nI a) 2999) = 2999 := by
      have e1 : ob_imin (nI a) 2999 = 2999 := by
        unfold ob_imin
        exact if_pos (nI_lt (a := 2999) (b := a) (by omega) (by omega))
      rw [e1]
      rfl
    rw [e]
    have m1 := mulB 2999 2999 rfl (by omega)
    rw [if_pos (by rw [nu_lt, m1]; omega)]
    by_cases v2 : (9999 : Int32) ≤ nI a
    · rw [if_pos v2]
    · have v2' : a < 9999 := by
        rcases Nat.lt_or_ge a 9999 with q | q
        · exact q
        · exact absurd (nI_le (a := 9999) (b := a) q (by omega)) v2
      have m2 := mulB (nI a) a ta (by omega)
      have m3 : 2999 * (w : Int) ≤ (a : Int) * w := Int.mul_le_mul_of_nonneg_right (by omega) (by omega)
      rw [if_neg v2, if_pos (by rw [nu_lt, m2]; omega)]
def sp_fst (M : Nat → Bool) : Nat → Option Nat
  | 0 => none
  | n + 1 => (sp_fst M n).elim (if M n = true then some n else none) some
theorem sp_fst_n {M : Nat → Bool} : ∀ n, (∀ q, q < n → M q = false) → sp_fst M n = none := by
  intro n
  induction n with
  | zero => intro _; rfl
  | succ n ih =>
    intro h
    show (sp_fst M n).elim _ some = none
    rw [ih (fun q hq => h q (by omega)), h n (by omega)]
    rfl
theorem sp_fst_s {M : Nat → Bool} {p : Nat} (hp : M p = true) (h : ∀ q, q < p → M q = false) : ∀ n, p < n → sp_fst M n = some p := by
  intro n
  induction n with
  | zero => intro z; omega
  | succ n ih =>
    intro hn
    show (sp_fst M n).elim _ some = some p
    by_cases e : p = n
    · subst e
      rw [sp_fst_n p h, hp]
      rfl
    · rw [ih (by omega)]
      rfl
def sp_stk (S : Nat → Int32) (k : Nat) (v : Int32) : Int32 :=
  if sp_o S k 0 = 0 then (sp_fst (fun i => sp_mt S k v (999 - i)) 1000).elim (-1) (fun i => nI (999 - i)) else (sp_fst (sp_mt S k v) 1000).elim (-1) nI
/-! the class -/
theorem c_K_F {g g' : ob_St} (h : c_F 104 g g') : c_K g g' := fun m hm => ⟨h.1 m (by omega) (by omega), h.2 m (by omega) (by omega) (by omega)⟩
theorem c_M_F {S : Nat → Int32} {g g' : ob_St} (h : c_F 104 g g') (hM : c_M 24 S g) (hW : sp_WF S) : c_M 24 S g' := c_M_K hW (c_K_F h) hM
theorem c_Lat_F {S : Nat → Int32} {g g' : ob_St} (h : c_F 104 g g') (hL : c_Lat S g) (hW : sp_WF S) : c_Lat S g' := by
  have h4 := wf_4 hW
  refine ⟨⟨fun i hi => ?_, fun t j ht hj => ?_⟩, fun k hk t j ht hj => ?_⟩
  · rw [h.2 70 (by omega) (by omega) (by omega)]; exact hL.1.1 i hi
  · rw [h.1 68 (by omega) (by omega), h.1 69 (by omega) (by omega)]; exact hL.1.2 t j ht hj
  · exact c_H_fr (fun m m1 m2 => ⟨h.1 m (by omega) (by omega), h.2 m (by omega) (by omega) (by omega)⟩) (hL.2 k hk t j ht hj)
theorem c_F_tr {n : Nat} {a b c : ob_St} (h : c_F n a b) (h' : c_F n b c) : c_F n a c := ⟨fun m h1 h2 => (h'.1 m h1 h2).trans (h.1 m h1 h2), fun m h1 h2 h3 => (h'.2 m h1 h2 h3).trans (h.2 m h1 h2 h3)⟩
theorem c_startWorth {S : Nat → Int32} {g : ob_St} {k s f : Nat} (hW : sp_WF S) (hM : c_M 24 S g) (hL : c_Lat S g) (hk : k < sN S 29) (hs : s ≤ 999) (hs3 : sp_o S k 0 = 3 → s < sN S (30 + 10 * k + 2)) (hf : f ≤ 12 ∨ f = 99) :
    ∃ g', f_X3_startWorth g 67 (28 + k) (nI s) (c_fr (nI f)) = some (sp_X S k (nI s) (nI f), g') ∧ c_F 104 g g' := by
  have hn : c_Sh 104 := Or.inr (Or.inr (Or.inr (Or.inr rfl)))
  obtain ⟨g', h1, h2, h3⟩ := c_fill (P := sp_pay S (c_V g) k (nI s)) hn (Or.inr rfl) hW hM hL.1 hk hs hs3 hf rfl
  refine ⟨g', ?_, h2⟩
  have hc := c_H_congr (P' := sp_pay S (sp_Vs S k) k (nI s)) (fun t j ht hj => sp_pay_V (wf_o hW hk) (fun q hq => by
    rw [sp_Vs_lt hq]
    exact (hL.2 q (by omega) t j ht hj).2.2.2.1)) (h3 0 0 (by omega) (by omega)) (by omega) (by omega)
  have e : g'.2 110 0 = sp_X S k (nI s) (nI f) := hc.2.2.2.1
  have ra : ob_rL g' 110 0 = some (g'.2 110 0) := pu_rL (n := 110) (i := 0) rfl rfl (by decide)
  unfold f_X3_startWorth
  rw [ev_r67_5, Option.bind_some, h1, ev_ck67, Option.bind_some, Option.bind_some, ev_r104_2, Option.bind_some, ev_r109_0, Option.bind_some, ra, Option.bind_some, e]
theorem wo_s3 {S : Nat → Int32} {k : Nat} (ho : sp_WO S k) : sp_o S k 0 = 3 → sN S (30 + 10 * k + 1) < sN S (30 + 10 * k + 2) := fun e => by
  have hk3 : sN S (30 + 10 * k + 0) = 3 := (nI_eq (by have := ho.1.2; omega) (b := 3) (by omega)).mp (ho.1.1.symm.trans e)
  exact (ho.2.2.1.2.2 hk3).2.1
def sp_ea (S : Nat → Int32) (k : Nat) : Int64 := sp_V S k 0 0 - sp_X S k (sp_o S k 1) 99
theorem gt_ea {S : Nat → Int32} {k : Nat} (hW : sp_WF S) (hk : k < sN S 29) : -9223372036854775808 < (sp_ea S k).toInt := by
  have h12 := wf_12 hW
  have ho := wf_o hW hk
  have hw := sp_wle hW (i := sN S 2) h12
  have b1 := bd_V hW hk (Nat.zero_le (sN S 2)) (Nat.le_refl 0)
  have b2 := bd_X (s := sN S (30 + 10 * k + 1)) (fr := 99) hW hk ho.2.1.2 (wo_s3 ho)
  rw [← ho.2.1.1] at b2
  rw [Nat.sub_zero] at b1
  have c1 := b1.1; have c2 := b1.2; have c3 := b2.1; have c4 := b2.2
  unfold sp_ea
  rw [nu_sub (by omega) (by omega)]
  omega
def an_early (S : Nat → Int32) (x1 x2 : Int32) : Option Int64 := if (qO S x1 && qB x2) = true then some (sp_told (sp_ea S x1.toNatClampNeg) (sp_sc S 0) x2) else none
theorem c_early {S : Nat → Int32} {g : ob_St} {x1 x2 : Int32} (hQ : c_Q S g) : c_A S g (an_early S x1 x2) (f_X11_early g 20 x1 x2) := by
  have hW := hQ.1
  have hM := hQ.2.1
  have h12 := wf_12 hW
  have h4' := wf_4 hW
  have bad : B_X11_early_19 g 20 x1 x2 = some none := rfl
  unfold f_X11_early an_early
  rw [c_isOption hM, ev_ck20, Option.bind_some, bI_if, c_isBit, Option.bind_some, bI_if, bad]
  by_cases c0 : qO S x1 = true
  · rw [if_pos c0]
    by_cases c1 : qB x2 = true
    · rw [if_pos c1, if_pos (an_and2.mpr ⟨c0, c1⟩)]
      obtain ⟨k, hk, rfl⟩ := qO_e hW c0
      rw [nI_clamp (by omega)]
      have ho := wf_o hW hk
      have hn := c_Sh_k (k := k) (by omega)
      obtain ⟨g1, s1, s2, s3, s4, s5, s6⟩ := c_sheetOf hQ hk
      obtain ⟨g', o1, o2⟩ := c_startWorth (f := 99) hW s4 s5 hk ho.2.1.2 (wo_s3 ho) (Or.inr rfl)
      rw [← ho.2.1.1] at o1
      have o1 : f_X3_startWorth g1 67 (28 + k) (sp_o S k 1) 13 = some (sp_X S k (sp_o S k 1) 99, g') := o1
      have hM' := c_M_F o2 s4 hW
      have hL' := c_Lat_F o2 s5 hW
      have e6 : g'.1 67 6 = 0 := by rw [o2.1 67 (by omega) (by omega)]; exact s6
      refine ⟨g', c_K_tr s2 (c_K_F o2), c_Lat_Q hW hM' e6 hL', ?_⟩
      have td := c_told (y := sp_ea S k) (p := x2) (gt_ea hW hk) (sp_sc_pos hW 0)
      have sc : f_X3_scaleAt g' 67 0 = some (sp_sc S 0) := c_scaleAt (t := 0) hW hM' hL'.1.1 (by omega)
      have eV : g1.2 (72 + 8 * k + 6) 0 = sp_V S k 0 0 := (s5.2 k hk 0 0 (by omega) (by omega)).2.2.2.1
      have ra : ob_rL g1 (72 + 8 * k + 6) 0 = some (g1.2 (72 + 8 * k + 6) 0) := es_a6 (i := 0) hn (by omega)
      have e1 : g1.1 (28 + k) 1 = sp_o S k 1 := (s4.2.2.2.2.2 k hk).2.1
      unfold B_X11_early_20 B_X11_early_23
      rw [if_neg (by decide), ev_r20_3, Option.bind_some, ev_r24_2, Option.bind_some, ew_27 (by omega), Option.bind_some, s1, ev_ck20, Option.bind_some, es_2 hn, Option.bind_some, es_b0 hn, Option.bind_some, ra, Option.bind_some, ev_r20_8, Option.bind_some, ew_gc (by omega), Option.bind_some, e1, o1, ev_ck67, Option.bind_some, Option.bind_some, sc, ev_ck67, Option.bind_some, eV]
      show ((f_X11_told (sp_ea S k) (sp_sc S 0) x2).bind _).bind _ = _
      rw [td]
      rfl
    · rw [if_neg c1, if_neg (fun h => c1 (an_and2.mp h).2)]
      exact ⟨g, c_K_refl g, hQ, rfl⟩
  · rw [if_neg c0, if_neg (fun h => c0 (an_and2.mp h).1)]
    exact ⟨g, c_K_refl g, hQ, rfl⟩
