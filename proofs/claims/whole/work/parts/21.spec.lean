/-! the bench as a row, what comes of it: machine numbers -/
def sN (S : Nat → Int32) (i : Nat) : Nat := (S i).toNatClampNeg
def sp_fs (S : Nat → Int32) : Nat → Int32
  | 0 => 0
  | t + 1 => sp_fs S t + S (3 + (t + 1))
def sp_str (S : Nat → Int32) (t j : Nat) : Int32 := S 0 + nI j * S 1 - sp_fs S t
def sp_cs (S : Nat → Int32) (t : Nat) : Nat → Int32
  | 0 => 0
  | c + 1 => sp_cs S t c + S (16 + (t + c))
def sp_cf (S : Nat → Int32) (t : Nat) : Int32 := sp_cs S t (sN S 2 + 1 - t)
def sp_pr (S : Nat → Int32) (t j : Nat) : Int32 := sp_str S t j + sp_cf S t
def sp_pw (S : Nat → Int32) : Nat → Int64
  | 0 => 1
  | i + 1 => sp_pw S i * (S 1).toInt64
def sp_sc (S : Nat → Int32) (t : Nat) : Int64 := sp_pw S (sN S 2 - t)
def sp_o (S : Nat → Int32) (k w : Nat) : Int32 := S (30 + 10 * k + w)
def sp_fm (S : Nat → Int32) (fr : Int32) : Int32 := if S 2 ≤ fr then S 2 else fr
def sp_may (S : Nat → Int32) (fr : Int32) (t : Nat) : Bool := decide (sp_fm S fr ≤ nI t)
def sp_tch (S : Nat → Int32) (k t j : Nat) : Bool := if sp_o S k 5 = 1 then decide (sp_o S k 6 ≤ sp_pr S t j) else decide (sp_pr S t j ≤ sp_o S k 6)
def sp_ab0 (y : Int64) : Int64 := if y ≤ 0 then 0 else y
def sp_pay (S : Nat → Int32) (V : Nat → Nat → Nat → Int64) (k : Nat) (st : Int32) (t j : Nat) : Int64 :=
  if sp_o S k 0 = 0 then sp_ab0 (sp_pr S t j - st).toInt64 * sp_sc S t
  else if sp_o S k 0 = 1 then sp_ab0 (-(sp_pr S t j - st)).toInt64 * sp_sc S t
  else if sp_o S k 0 = 2 then (if sp_pr S t j - st < 0 then 0 else (sp_o S k 2).toInt64 * sp_sc S t)
  else if sp_o S k 0 = 3 then (if 0 ≤ sp_pr S t j - st then (if sp_o S k 2 - st ≤ sp_pr S t j - st then (sp_o S k 2 - st) else (sp_pr S t j - st)) else 0).toInt64 * sp_sc S t
  else if sp_o S k 0 = 4 then (if 0 ≤ sp_pr S t j - st then (sp_pr S t j - st) else (-(sp_pr S t j - st))).toInt64 * sp_sc S t
  else sp_ab0 (V (sN S (30 + 10 * k + 2)) t j - st.toInt64 * sp_sc S t)
def sp_hd (S : Nat → Int32) (R : Nat → Nat → Int64) (t j : Nat) : Int64 :=
  if t = sN S 2 then 0 else (S (3 + (t + 1))).toInt64 * R (t + 1) (j + 1) + (S 1 - S (3 + (t + 1))).toInt64 * R (t + 1) j
def sp_kp (S : Nat → Int32) (k t : Nat) (hd py : Int64) : Int64 :=
  if sp_o S k 8 < 0 then hd else if hd ≤ py + (sp_o S k 8).toInt64 * sp_sc S t then hd else py + (sp_o S k 8).toInt64 * sp_sc S t
def sp_ex (S : Nat → Int32) (k : Nat) (fr : Int32) (t : Nat) (hd py : Int64) : Bool :=
  if py < sp_kp S k t hd py then false else if py ≤ 0 then false else sp_may S fr t
def sp_dw (S : Nat → Int32) (k : Nat) (fr : Int32) (t : Nat) (hd py : Int64) : Int64 := if sp_ex S k fr t hd py = true then py else sp_kp S k t hd py
def sp_dd (S : Nat → Int32) (k : Nat) (fr : Int32) (t : Nat) (hd py : Int64) : Int32 := if sp_ex S k fr t hd py = true then 1 else if hd ≤ sp_kp S k t hd py then 0 else 4
def sp_vw (S : Nat → Int32) (k : Nat) (fr : Int32) (t j : Nat) (pl hv py : Int64) : Int64 :=
  if sp_o S k 4 = 2 then (if sp_tch S k t j = true then pl else hv) else if 0 < sp_o S k 4 ∧ sp_tch S k t j = true then (sp_o S k 7).toInt64 * sp_sc S t else sp_dw S k fr t hv py
def sp_vd (S : Nat → Int32) (k : Nat) (fr : Int32) (t j : Nat) (hv py : Int64) : Int32 :=
  if sp_o S k 4 = 2 then (if sp_tch S k t j = true then 3 else 0) else if 0 < sp_o S k 4 ∧ sp_tch S k t j = true then 2 else sp_dd S k fr t hv py
/-- a table filled from its end -/
def sp_row (n : Nat) (F : Nat → (Nat → Nat → Int64) → Nat → Int64) : Nat → Nat → Int64
  | 0 => fun j => F n (fun _ _ => 0) j
  | d + 1 => fun j => F (n - (d + 1)) (fun _ i => sp_row n F d i) j
def sp_tab (n : Nat) (F : Nat → (Nat → Nat → Int64) → Nat → Int64) (t j : Nat) : Int64 := sp_row n F (n - t) j
def sp_loc (n : Nat) (F : Nat → (Nat → Nat → Int64) → Nat → Int64) : Prop := ∀ t j R R', t ≤ n → (t < n → ∀ i, R (t + 1) i = R' (t + 1) i) → F t R j = F t R' j
theorem sp_tab_eq {n : Nat} {F : Nat → (Nat → Nat → Int64) → Nat → Int64} (hF : sp_loc n F) {t : Nat} (ht : t ≤ n) (j : Nat) : sp_tab n F t j = F t (sp_tab n F) j := by
  unfold sp_tab
  by_cases h : t = n
  · subst h
    rw [Nat.sub_self]
    exact hF t j _ _ ht (fun h => absurd h (by omega))
  · obtain ⟨d, hd⟩ : ∃ d, n - t = d + 1 := ⟨n - t - 1, by omega⟩
    rw [hd]
    show F (n - (d + 1)) _ j = _
    have h1 : n - (d + 1) = t := by omega
    rw [h1]
    refine hF t j _ _ ht (fun _ i => ?_)
    show sp_row n F d i = sp_row n F (n - (t + 1)) i
    rw [show n - (t + 1) = d by omega]
theorem sp_hd_loc {S : Nat → Int32} {R R' : Nat → Nat → Int64} {t j : Nat} (ht : t ≤ sN S 2) (h : t < sN S 2 → ∀ i, R (t + 1) i = R' (t + 1) i) : sp_hd S R t j = sp_hd S R' t j := by
  unfold sp_hd
  by_cases h1 : t = sN S 2
  · rw [if_pos h1, if_pos h1]
  · rw [if_neg h1, if_neg h1, h (by omega), h (by omega)]
def sp_pl (S : Nat → Int32) (k : Nat) (fr : Int32) (P : Nat → Nat → Int64) : Nat → Nat → Int64 :=
  sp_tab (sN S 2) (fun t R j => sp_dw S k fr t (sp_hd S R t j) (P t j))
def sp_vl (S : Nat → Int32) (k : Nat) (fr : Int32) (P : Nat → Nat → Int64) : Nat → Nat → Int64 :=
  sp_tab (sN S 2) (fun t R j => sp_vw S k fr t j (sp_pl S k fr P t j) (sp_hd S R t j) (P t j))
theorem sp_pl_eq {S : Nat → Int32} {k : Nat} {fr : Int32} {P : Nat → Nat → Int64} {t : Nat} (ht : t ≤ sN S 2) (j : Nat) :
    sp_pl S k fr P t j = sp_dw S k fr t (sp_hd S (sp_pl S k fr P) t j) (P t j) :=
  sp_tab_eq (F := fun t R j => sp_dw S k fr t (sp_hd S R t j) (P t j)) (fun t j R R' ht h => by dsimp only; rw [sp_hd_loc ht h]) ht j
theorem sp_vl_eq {S : Nat → Int32} {k : Nat} {fr : Int32} {P : Nat → Nat → Int64} {t : Nat} (ht : t ≤ sN S 2) (j : Nat) :
    sp_vl S k fr P t j = sp_vw S k fr t j (sp_pl S k fr P t j) (sp_hd S (sp_vl S k fr P) t j) (P t j) :=
  sp_tab_eq (F := fun t R j => sp_vw S k fr t j (sp_pl S k fr P t j) (sp_hd S R t j) (P t j)) (fun t j R R' ht h => by dsimp only; rw [sp_hd_loc ht h]) ht j
def sp_pd (S : Nat → Int32) (k : Nat) (fr : Int32) (P : Nat → Nat → Int64) (t j : Nat) : Int32 := sp_dd S k fr t (sp_hd S (sp_pl S k fr P) t j) (P t j)
def sp_de (S : Nat → Int32) (k : Nat) (fr : Int32) (P : Nat → Nat → Int64) (t j : Nat) : Int32 := sp_vd S k fr t j (sp_hd S (sp_vl S k fr P) t j) (P t j)
/-- all options, in their order -/
def sp_Vs (S : Nat → Int32) : Nat → Nat → Nat → Nat → Int64
  | 0 => fun _ _ _ => 0
  | k + 1 => fun q => if q = k then sp_vl S k (sp_o S k 3) (sp_pay S (sp_Vs S k) k (sp_o S k 1)) else sp_Vs S k q
def sp_P (S : Nat → Int32) (k : Nat) : Nat → Nat → Int64 := sp_pay S (sp_Vs S k) k (sp_o S k 1)
def sp_V (S : Nat → Int32) (k : Nat) : Nat → Nat → Int64 := sp_vl S k (sp_o S k 3) (sp_P S k)
def sp_L (S : Nat → Int32) (k : Nat) : Nat → Nat → Int64 := sp_pl S k (sp_o S k 3) (sp_P S k)
def sp_D (S : Nat → Int32) (k : Nat) : Nat → Nat → Int32 := sp_de S k (sp_o S k 3) (sp_P S k)
def sp_E (S : Nat → Int32) (k : Nat) : Nat → Nat → Int32 := sp_pd S k (sp_o S k 3) (sp_P S k)
theorem sp_Vs_lt {S : Nat → Int32} {m q : Nat} (h : q < m) : sp_Vs S m q = sp_V S q := by
  induction m with
  | zero => omega
  | succ m ih =>
    by_cases hq : q = m
    · subst hq
      exact if_pos rfl
    · exact (if_neg hq).trans (ih (by omega))
/-- a bench as it may be told -/
def sp_WO (S : Nat → Int32) (k : Nat) : Prop :=
  (sp_o S k 0 = nI (sN S (30 + 10 * k + 0)) ∧ sN S (30 + 10 * k + 0) ≤ 5) ∧
  (sp_o S k 1 = nI (sN S (30 + 10 * k + 1)) ∧ sN S (30 + 10 * k + 1) ≤ 999) ∧
  ((sN S (30 + 10 * k + 0) = 5 → sp_o S k 2 = nI (sN S (30 + 10 * k + 2)) ∧ sN S (30 + 10 * k + 2) < k) ∧
   (sN S (30 + 10 * k + 0) = 2 → sp_o S k 2 = nI (sN S (30 + 10 * k + 2)) ∧ 1 ≤ sN S (30 + 10 * k + 2) ∧ sN S (30 + 10 * k + 2) ≤ 99) ∧
   (sN S (30 + 10 * k + 0) = 3 → sp_o S k 2 = nI (sN S (30 + 10 * k + 2)) ∧ sN S (30 + 10 * k + 1) < sN S (30 + 10 * k + 2) ∧ sN S (30 + 10 * k + 2) ≤ 999)) ∧
  (sp_o S k 3 = nI (sN S (30 + 10 * k + 3)) ∧ (sN S (30 + 10 * k + 3) ≤ 12 ∨ sN S (30 + 10 * k + 3) = 99)) ∧
  (sp_o S k 4 = nI (sN S (30 + 10 * k + 4)) ∧ sN S (30 + 10 * k + 4) ≤ 2) ∧
  (sN S (30 + 10 * k + 4) ≠ 0 → (sp_o S k 5 = nI (sN S (30 + 10 * k + 5)) ∧ sN S (30 + 10 * k + 5) ≤ 1) ∧ (sp_o S k 6 = nI (sN S (30 + 10 * k + 6)) ∧ sN S (30 + 10 * k + 6) ≤ 999)) ∧
  (sp_o S k 7 = nI (sN S (30 + 10 * k + 7)) ∧ sN S (30 + 10 * k + 7) ≤ 99) ∧
  (sp_o S k 8 = -1 ∨ (sp_o S k 8 = nI (sN S (30 + 10 * k + 8)) ∧ 1 ≤ sN S (30 + 10 * k + 8) ∧ sN S (30 + 10 * k + 8) ≤ 99)) ∧
  (-9 ≤ (sp_o S k 9).toInt ∧ (sp_o S k 9).toInt ≤ 9)
def sp_fN (S : Nat → Int32) : Nat → Nat
  | 0 => 0
  | t + 1 => sp_fN S t + sN S (3 + (t + 1))
def sp_WF (S : Nat → Int32) : Prop :=
  (S 0 = nI (sN S 0) ∧ sN S 0 ≤ 999) ∧ (S 1 = nI (sN S 1) ∧ 2 ≤ sN S 1 ∧ sN S 1 ≤ 9) ∧ (S 2 = nI (sN S 2) ∧ sN S 2 ≤ 12) ∧ (S 29 = nI (sN S 29) ∧ sN S 29 ≤ 4) ∧ S 3 = 0 ∧
  (∀ t, 1 ≤ t → t ≤ sN S 2 → S (3 + t) = nI (sN S (3 + t)) ∧ 1 ≤ sN S (3 + t) ∧ sN S (3 + t) < sN S 1) ∧
  (∀ t, t ≤ 12 → S (16 + t) = nI (sN S (16 + t)) ∧ sN S (16 + t) ≤ 99) ∧
  sp_fN S (sN S 2) ≤ sN S 0 ∧
  ∀ k, k < sN S 29 → sp_WO S k
theorem wf_0 {S : Nat → Int32} (h : sp_WF S) : S 0 = nI (sN S 0) := h.1.1
theorem wf_1 {S : Nat → Int32} (h : sp_WF S) : S 1 = nI (sN S 1) := h.2.1.1
theorem wf_2 {S : Nat → Int32} (h : sp_WF S) : S 2 = nI (sN S 2) := h.2.2.1.1
theorem wf_12 {S : Nat → Int32} (h : sp_WF S) : sN S 2 ≤ 12 := h.2.2.1.2
theorem wf_29 {S : Nat → Int32} (h : sp_WF S) : S 29 = nI (sN S 29) := h.2.2.2.1.1
theorem wf_4 {S : Nat → Int32} (h : sp_WF S) : sN S 29 ≤ 4 := h.2.2.2.1.2
theorem wf_o {S : Nat → Int32} (h : sp_WF S) {k : Nat} (hk : k < sN S 29) : sp_WO S k := h.2.2.2.2.2.2.2.2 k hk
