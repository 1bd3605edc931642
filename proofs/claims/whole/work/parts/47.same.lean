/-! benches that are alike but for a strike, a first step, what is owned -/
def sp_sm (S S' : Nat → Int32) : Prop := (∀ i, i < 30 → S' i = S i) ∧ ∀ q w, q < 4 → w < 9 → w ≠ 1 → w ≠ 3 → sp_o S' q w = sp_o S q w
theorem sm_N {S S' : Nat → Int32} (h : sp_sm S S') {i : Nat} (hi : i < 30) : sN S' i = sN S i := by unfold sN; rw [h.1 i hi]
theorem sm_No {S S' : Nat → Int32} (h : sp_sm S S') {q w : Nat} (hq : q < 4) (hw : w < 9) (h1 : w ≠ 1) (h3 : w ≠ 3) : sN S' (30 + 10 * q + w) = sN S (30 + 10 * q + w) := by
  have := h.2 q w hq hw h1 h3
  unfold sp_o at this
  unfold sN
  rw [this]
theorem sm_fs {S S' : Nat → Int32} (h : sp_sm S S') : ∀ t, t ≤ 12 → sp_fs S' t = sp_fs S t := by
  intro t
  induction t with
  | zero => intro _; rfl
  | succ t ih =>
    intro ht
    show sp_fs S' t + S' (3 + (t + 1)) = sp_fs S t + S (3 + (t + 1))
    rw [ih (by omega), h.1 _ (by omega)]
theorem sm_cs {S S' : Nat → Int32} (h : sp_sm S S') (t : Nat) : ∀ c, t + c ≤ 13 → sp_cs S' t c = sp_cs S t c := by
  intro c
  induction c with
  | zero => intro _; rfl
  | succ c ih =>
    intro hc
    show sp_cs S' t c + S' (16 + (t + c)) = sp_cs S t c + S (16 + (t + c))
    rw [ih (by omega), h.1 _ (by omega)]
theorem sm_str {S S' : Nat → Int32} (h : sp_sm S S') {t j : Nat} (ht : t ≤ 12) : sp_str S' t j = sp_str S t j := by
  unfold sp_str
  rw [sm_fs h t ht, h.1 0 (by omega), h.1 1 (by omega)]
theorem sm_pr {S S' : Nat → Int32} (h : sp_sm S S') (h12 : sN S 2 ≤ 12) {t j : Nat} (ht : t ≤ sN S 2) : sp_pr S' t j = sp_pr S t j := by
  unfold sp_pr sp_cf
  rw [sm_str h (by omega), sm_N h (by omega), sm_cs h t _ (by omega)]
theorem sm_pw {S S' : Nat → Int32} (h : sp_sm S S') : ∀ i, sp_pw S' i = sp_pw S i := by
  intro i
  induction i with
  | zero => rfl
  | succ i ih =>
    show sp_pw S' i * (S' 1).toInt64 = sp_pw S i * (S 1).toInt64
    rw [ih, h.1 1 (by omega)]
theorem sm_sc {S S' : Nat → Int32} (h : sp_sm S S') (t : Nat) : sp_sc S' t = sp_sc S t := by
  unfold sp_sc
  rw [sm_N h (by omega), sm_pw h]
theorem sm_may {S S' : Nat → Int32} (h : sp_sm S S') (fr : Int32) (t : Nat) : sp_may S' fr t = sp_may S fr t := by
  unfold sp_may sp_fm
  rw [h.1 2 (by omega)]
theorem sm_tch {S S' : Nat → Int32} (h : sp_sm S S') (h12 : sN S 2 ≤ 12) {k t j : Nat} (hk : k < 4) (ht : t ≤ sN S 2) : sp_tch S' k t j = sp_tch S k t j := by
  unfold sp_tch
  rw [h.2 k 5 hk (by omega) (by omega) (by omega), h.2 k 6 hk (by omega) (by omega) (by omega), sm_pr h h12 ht]
theorem sm_pay {S S' : Nat → Int32} (h : sp_sm S S') (h12 : sN S 2 ≤ 12) {V : Nat → Nat → Nat → Int64} {k t j : Nat} {st : Int32} (hk : k < 4) (ht : t ≤ sN S 2) : sp_pay S' V k st t j = sp_pay S V k st t j := by
  unfold sp_pay
  rw [h.2 k 0 hk (by omega) (by omega) (by omega), h.2 k 2 hk (by omega) (by omega) (by omega), sm_pr h h12 ht, sm_sc h, sm_No h hk (by omega) (by omega) (by omega)]
theorem sm_hd {S S' : Nat → Int32} (h : sp_sm S S') (h12 : sN S 2 ≤ 12) {R : Nat → Nat → Int64} {t j : Nat} (ht : t ≤ sN S 2) : sp_hd S' R t j = sp_hd S R t j := by
  unfold sp_hd
  rw [sm_N h (show 2 < 30 by omega)]
  by_cases e : t = sN S 2
  · rw [if_pos e, if_pos e]
  · rw [if_neg e, if_neg e, h.1 (3 + (t + 1)) (by omega), h.1 1 (by omega)]
theorem sm_kp {S S' : Nat → Int32} (h : sp_sm S S') {k t : Nat} {hd py : Int64} (hk : k < 4) : sp_kp S' k t hd py = sp_kp S k t hd py := by
  unfold sp_kp
  rw [h.2 k 8 hk (by omega) (by omega) (by omega), sm_sc h]
theorem sm_ex {S S' : Nat → Int32} (h : sp_sm S S') {k t : Nat} {fr : Int32} {hd py : Int64} (hk : k < 4) : sp_ex S' k fr t hd py = sp_ex S k fr t hd py := by
  unfold sp_ex
  rw [sm_kp h hk, sm_may h]
theorem sm_dw {S S' : Nat → Int32} (h : sp_sm S S') {k t : Nat} {fr : Int32} {hd py : Int64} (hk : k < 4) : sp_dw S' k fr t hd py = sp_dw S k fr t hd py := by
  unfold sp_dw
  rw [sm_kp h hk, sm_ex h hk]
theorem sm_dd {S S' : Nat → Int32} (h : sp_sm S S') {k t : Nat} {fr : Int32} {hd py : Int64} (hk : k < 4) : sp_dd S' k fr t hd py = sp_dd S k fr t hd py := by
  unfold sp_dd
  rw [sm_kp h hk, sm_ex h hk]
theorem sm_vw {S S' : Nat → Int32} (h : sp_sm S S') (h12 : sN S 2 ≤ 12) {k t j : Nat} {fr : Int32} {pl hv py : Int64} (hk : k < 4) (ht : t ≤ sN S 2) : sp_vw S' k fr t j pl hv py = sp_vw S k fr t j pl hv py := by
  unfold sp_vw
  rw [h.2 k 4 hk (by omega) (by omega) (by omega), h.2 k 7 hk (by omega) (by omega) (by omega), sm_tch h h12 hk ht, sm_sc h, sm_dw h hk]
theorem sm_vd {S S' : Nat → Int32} (h : sp_sm S S') (h12 : sN S 2 ≤ 12) {k t j : Nat} {fr : Int32} {hv py : Int64} (hk : k < 4) (ht : t ≤ sN S 2) : sp_vd S' k fr t j hv py = sp_vd S k fr t j hv py := by
  unfold sp_vd
  rw [h.2 k 4 hk (by omega) (by omega) (by omega), sm_tch h h12 hk ht, sm_dd h hk]
theorem sm_pl {S S' : Nat → Int32} (h : sp_sm S S') (h12 : sN S 2 ≤ 12) {k t j : Nat} {fr : Int32} {P : Nat → Nat → Int64} (hk : k < 4) (ht : t ≤ sN S 2) (hj : j ≤ t) : sp_pl S' k fr P t j = sp_pl S k fr P t j := by
  unfold sp_pl
  rw [sm_N h (show 2 < 30 by omega)]
  exact sp_tab_congr (fun t R j ht hj => by rw [sm_hd h h12 ht, sm_dw h hk]) (fun t R R' j ht hj hR => by rw [sp_hd_loc2 ht hj hR]) ht hj
theorem sm_vl {S S' : Nat → Int32} (h : sp_sm S S') (h12 : sN S 2 ≤ 12) {k t j : Nat} {fr : Int32} {P : Nat → Nat → Int64} (hk : k < 4) (ht : t ≤ sN S 2) (hj : j ≤ t) : sp_vl S' k fr P t j = sp_vl S k fr P t j := by
  unfold sp_vl
  rw [sm_N h (show 2 < 30 by omega)]
  exact sp_tab_congr (fun t R j ht hj => by rw [sm_hd h h12 ht, sm_pl h h12 hk ht hj, sm_vw h h12 hk ht]) (fun t R R' j ht hj hR => by rw [sp_hd_loc2 ht hj hR]) ht hj
theorem sm_pd {S S' : Nat → Int32} (h : sp_sm S S') (h12 : sN S 2 ≤ 12) {k t j : Nat} {fr : Int32} {P : Nat → Nat → Int64} (hk : k < 4) (ht : t ≤ sN S 2) (hj : j ≤ t) : sp_pd S' k fr P t j = sp_pd S k fr P t j := by
  unfold sp_pd
  rw [sm_hd h h12 ht, sp_hd_loc2 ht hj (fun hlt i hi => sm_pl h h12 hk (by omega) hi), sm_dd h hk]
theorem sm_de {S S' : Nat → Int32} (h : sp_sm S S') (h12 : sN S 2 ≤ 12) {k t j : Nat} {fr : Int32} {P : Nat → Nat → Int64} (hk : k < 4) (ht : t ≤ sN S 2) (hj : j ≤ t) : sp_de S' k fr P t j = sp_de S k fr P t j := by
  unfold sp_de
  rw [sm_hd h h12 ht, sp_hd_loc2 ht hj (fun hlt i hi => sm_vl h h12 hk (by omega) hi), sm_vd h h12 hk ht]
/-- alike in all but what is owned: all values are -/
theorem sm_Vs {S S' : Nat → Int32} (h : sp_sm S S') (hW : sp_WF S) (h1 : ∀ q, q < 4 → sp_o S' q 1 = sp_o S q 1 ∧ sp_o S' q 3 = sp_o S q 3) : ∀ k, k < sN S 29 → (∀ t j, t ≤ sN S 2 → j ≤ t → sp_P S' k t j = sp_P S k t j) ∧ ∀ t j, t ≤ sN S 2 → j ≤ t → sp_V S' k t j = sp_V S k t j := by
  have h12 := wf_12 hW
  have h4 := wf_4 hW
  have key : ∀ m k, k < m → k < sN S 29 → (∀ t j, t ≤ sN S 2 → j ≤ t → sp_P S' k t j = sp_P S k t j) ∧ ∀ t j, t ≤ sN S 2 → j ≤ t → sp_V S' k t j = sp_V S k t j := by
    intro m
    induction m with
    | zero => intro k hk; omega
    | succ m ih =>
      intro k hkm hk
      by_cases hm : k < m
      · exact ih k hm hk
      have hP : ∀ t j, t ≤ sN S 2 → j ≤ t → sp_P S' k t j = sp_P S k t j := by
        intro t j ht hj
        unfold sp_P
        rw [sm_pay h h12 (by omega) ht, (h1 k (by omega)).1]
        refine sp_pay_V (wf_o hW hk) (fun q hq => ?_)
        rw [sp_Vs_lt hq, sp_Vs_lt hq]
        exact (ih q (by omega) (by omega)).2 t j ht hj
      refine ⟨hP, fun t j ht hj => ?_⟩
      unfold sp_V
      rw [(h1 k (by omega)).2, sm_vl h h12 (by omega) ht hj]
      exact sp_vl_congr hP ht hj
  exact fun k hk => key (k + 1) k (by omega) hk
theorem c_Lat_own {S S' : Nat → Int32} {g : ob_St} (h : sp_sm S S') (hW : sp_WF S) (h1 : ∀ q, q < 4 → sp_o S' q 1 = sp_o S q 1 ∧ sp_o S' q 3 = sp_o S q 3) (hL : c_Lat S g) : c_Lat S' g := by
  have h12 := wf_12 hW
  have h4 := wf_4 hW
  refine ⟨⟨fun i hi => by rw [sm_pw h]; exact hL.1.1 i hi, fun t j ht hj => ?_⟩, fun k hk t j ht hj => ?_⟩
  · rw [sm_N h (by omega)] at ht
    rw [sm_str h (by omega), sm_pr h h12 ht]
    exact hL.1.2 t j ht hj
  · rw [sm_N h (by omega)] at ht hk
    have hP := (sm_Vs h hW h1 k hk).1
    have hH := c_H_congr (P' := sp_P S' k) (fun t j a b => (hP t j a b).symm) (hL.2 k hk t j ht hj) ht hj
    unfold c_H at hH ⊢
    rw [(h1 k (by omega)).2, sm_pl h h12 (by omega) ht hj, sm_pd h h12 (by omega) ht hj, sm_vl h h12 (by omega) ht hj, sm_de h h12 (by omega) ht hj]
    exact hH
/-! worth under other terms -/
def sp_X (S : Nat → Int32) (k : Nat) (st fr : Int32) : Int64 := sp_vl S k fr (sp_pay S (sp_Vs S k) k st) 0 0
theorem hd_t {S : Nat → Int32} {R : Nat → Nat → Int64} {t j : Nat} (hW : sp_WF S) (ht : t < sN S 2) (h : bd (R (t + 1) (j + 1)) (2394 * sN S 1 ^ (sN S 2 - (t + 1))) ∧ bd (R (t + 1) j) (2394 * sN S 1 ^ (sN S 2 - (t + 1)))) :
    (sp_hd S R t j).toInt = (sN S (3 + (t + 1)) : Int) * (R (t + 1) (j + 1)).toInt + ((sN S 1 - sN S (3 + (t + 1)) : Nat) : Int) * (R (t + 1) j).toInt := by
  have h12 := wf_12 hW
  have hf := hW.2.2.2.2.2.1 (t + 1) (by omega) (by omega)
  have hw9 := hW.2.1.2.2
  have hwle := sp_wle hW (i := sN S 2 - (t + 1)) (by omega)
  unfold sp_hd
  rw [if_neg (by omega), hf.1, wf_1 hW, pk_sub (by omega)]
  generalize hX : sN S 1 ^ (sN S 2 - (t + 1)) = X at *
  generalize hff : sN S (3 + (t + 1)) = f at *
  obtain ⟨h1, h2⟩ := h
  have m1 : f * (2394 * X) ≤ 9 * (2394 * 282429536481) := Nat.mul_le_mul (by omega) (by omega)
  have m2 : (sN S 1 - f) * (2394 * X) ≤ 9 * (2394 * 282429536481) := Nat.mul_le_mul (by omega) (by omega)
  have b1 := bd_mul (bd_nI (Nat.le_refl f) (by omega)) h1 (by omega)
  have b2 := bd_mul (bd_nI (Nat.le_refl (sN S 1 - f)) (by omega)) h2 (by omega)
  have b3 := bd_add b1.1 b2.1 (by omega)
  rw [b3.2, b1.2, b2.2, Int32.toInt_toInt64, Int32.toInt_toInt64, ni_of (by omega), ni_of (by omega)]
theorem hd_mono {S : Nat → Int32} {R R' : Nat → Nat → Int64} {t j : Nat} (hW : sp_WF S) (ht : t ≤ sN S 2) (hb : t < sN S 2 → ∀ i, i ≤ t + 1 → bd (R (t + 1) i) (2394 * sN S 1 ^ (sN S 2 - (t + 1))) ∧ bd (R' (t + 1) i) (2394 * sN S 1 ^ (sN S 2 - (t + 1)))) (hj : j ≤ t)
    (h : t < sN S 2 → ∀ i, i ≤ t + 1 → (R (t + 1) i).toInt ≤ (R' (t + 1) i).toInt) : (sp_hd S R t j).toInt ≤ (sp_hd S R' t j).toInt := by
  by_cases e : t = sN S 2
  · unfold sp_hd
    rw [if_pos e, if_pos e]
    exact Int.le_refl _
  · have hb := hb (by omega)
    have h := h (by omega)
    rw [hd_t hW (by omega) ⟨(hb (j + 1) (by omega)).1, (hb j (by omega)).1⟩, hd_t hW (by omega) ⟨(hb (j + 1) (by omega)).2, (hb j (by omega)).2⟩]
    exact Int.add_le_add (Int.mul_le_mul_of_nonneg_left (h (j + 1) (by omega)) (by omega)) (Int.mul_le_mul_of_nonneg_left (h j (by omega)) (by omega))
theorem kp_mono {S : Nat → Int32} {k t : Nat} {hd py hd' py' : Int64} (hW : sp_WF S) (ho : sp_WO S k) (h1 : bd hd (2394 * sN S 1 ^ (sN S 2 - t))) (h2 : bd py (2394 * sN S 1 ^ (sN S 2 - t))) (h1' : bd hd' (2394 * sN S 1 ^ (sN S 2 - t))) (h2' : bd py' (2394 * sN S 1 ^ (sN S 2 - t)))
    (a : hd.toInt ≤ hd'.toInt) (b : py.toInt ≤ py'.toInt) : (sp_kp S k t hd py).toInt ≤ (sp_kp S k t hd' py').toInt := by
  have h12 := wf_12 hW
  have hwle := sp_wle hW (i := sN S 2 - t) (by omega)
  unfold sp_kp
  by_cases c1 : sp_o S k 8 < 0
  · rw [if_pos c1, if_pos c1]; exact a
  rw [if_neg c1, if_neg c1]
  rcases ho.2.2.2.2.2.2.2.1 with e | ⟨e, e1, e2⟩
  · rw [e] at c1; exact absurd (by decide) c1
  have b1 : bd ((sp_o S k 8).toInt64 * sp_sc S t) (99 * sN S 1 ^ (sN S 2 - t)) := by rw [e]; exact bd_mulsc hW (by omega) (bd_nI e2 (by omega))
  have s1 := (bd_add h2 b1 (by omega)).2
  have s2 := (bd_add h2' b1 (by omega)).2
  generalize (sp_o S k 8).toInt64 * sp_sc S t = z at *
  by_cases c2 : hd ≤ py + z
  · rw [if_pos c2]
    rw [nu_le] at c2
    by_cases c3 : hd' ≤ py' + z
    · rw [if_pos c3]; exact a
    · rw [if_neg c3]; omega
  · rw [if_neg c2]
    have c2' := nu_lt.mp (Int64.not_le.mp c2)
    by_cases c3 : hd' ≤ py' + z
    · rw [if_pos c3]; omega
    · rw [if_neg c3]; omega
theorem dw_mono {S : Nat → Int32} {k t : Nat} {fr : Int32} {hd py hd' py' : Int64} (hW : sp_WF S) (ho : sp_WO S k) (h1 : bd hd (2394 * sN S 1 ^ (sN S 2 - t))) (h2 : bd py (2394 * sN S 1 ^ (sN S 2 - t))) (h1' : bd hd' (2394 * sN S 1 ^ (sN S 2 - t))) (h2' : bd py' (2394 * sN S 1 ^ (sN S 2 - t)))
    (a : hd.toInt ≤ hd'.toInt) (b : py.toInt ≤ py'.toInt) : (sp_dw S k fr t hd py).toInt ≤ (sp_dw S k fr t hd' py').toInt := by
  have km := kp_mono hW ho h1 h2 h1' h2' a b
  have kb := bd_kp hW ho (by omega) h1 h2
  have kb' := bd_kp hW ho (by omega) h1' h2'
  unfold sp_dw sp_ex
  generalize sp_kp S k t hd py = kp at *
  generalize sp_kp S k t hd' py' = kp' at *
  generalize sp_may S fr t = my
  have p0 := h2.1
  have p0' := h2'.1
  have k0 := kb.1
  have k0' := kb'.1
  by_cases c1 : py < kp
  · rw [if_pos c1, if_neg (by decide)]
    by_cases d1 : py' < kp'
    · rw [if_pos d1, if_neg (by decide)]; exact km
    · rw [if_neg d1]
      have d1' := nu_le.mp (Int64.not_lt.mp d1)
      by_cases d2 : py' ≤ 0
      · rw [if_pos d2, if_neg (by decide)]; exact km
      · rw [if_neg d2]
        cases my with
        | true => rw [if_pos rfl]; omega
        | false => rw [if_neg (by decide)]; exact km
  · rw [if_neg c1]
    have c1' := nu_le.mp (Int64.not_lt.mp c1)
    by_cases c2 : py ≤ 0
    · rw [if_pos c2, if_neg (by decide)]
      have c2' := nu_le.mp c2
      rw [nu_0] at c2'
      by_cases d1 : py' < kp'
      · rw [if_pos d1, if_neg (by decide)]; exact km
      · rw [if_neg d1]
        by_cases d2 : py' ≤ 0
        · rw [if_pos d2, if_neg (by decide)]; exact km
        · rw [if_neg d2]
          cases my with
          | true => rw [if_pos rfl]; omega
          | false => rw [if_neg (by decide)]; exact km
    · rw [if_neg c2]
      have c2' := nu_lt.mp (Int64.not_le.mp c2)
      rw [nu_0] at c2'
      cases my with
      | true =>
        rw [if_pos rfl]
        by_cases d1 : py' < kp'
        · rw [if_pos d1, if_neg (by decide)]
          have d1' := nu_lt.mp d1
          omega
        · rw [if_neg d1]
          by_cases d2 : py' ≤ 0
          · have d2' := nu_le.mp d2
            rw [nu_0] at d2'
            omega
          · rw [if_neg d2, if_pos rfl]; exact b
      | false =>
        rw [if_neg (by decide)]
        by_cases d1 : py' < kp'
        · rw [if_pos d1, if_neg (by decide)]; exact km
        · rw [if_neg d1]
          by_cases d2 : py' ≤ 0
          · rw [if_pos d2, if_neg (by decide)]; exact km
          · rw [if_neg d2, if_neg (by decide)]; exact km
theorem pl_mono {S : Nat → Int32} {k : Nat} {fr : Int32} {P P' : Nat → Nat → Int64} (hW : sp_WF S) (ho : sp_WO S k) (hP : ∀ t j, t ≤ sN S 2 → j ≤ t → bd (P t j) (2394 * sN S 1 ^ (sN S 2 - t))) (hP' : ∀ t j, t ≤ sN S 2 → j ≤ t → bd (P' t j) (2394 * sN S 1 ^ (sN S 2 - t)))
    (h : ∀ t j, t ≤ sN S 2 → j ≤ t → (P t j).toInt ≤ (P' t j).toInt) : ∀ d t j, t + d = sN S 2 → j ≤ t → (sp_pl S k fr P t j).toInt ≤ (sp_pl S k fr P' t j).toInt := by
  have bl : ∀ t j, t ≤ sN S 2 → j ≤ t → bd (sp_pl S k fr P t j) (2394 * sN S 1 ^ (sN S 2 - t)) := fun t j a b => bd_pl hW ho (by omega) hP (sN S 2 - t) t j (by omega) b
  have bl' : ∀ t j, t ≤ sN S 2 → j ≤ t → bd (sp_pl S k fr P' t j) (2394 * sN S 1 ^ (sN S 2 - t)) := fun t j a b => bd_pl hW ho (by omega) hP' (sN S 2 - t) t j (by omega) b
  have one : ∀ t j, t ≤ sN S 2 → j ≤ t → (t < sN S 2 → ∀ i, i ≤ t + 1 → (sp_pl S k fr P (t + 1) i).toInt ≤ (sp_pl S k fr P' (t + 1) i).toInt) → (sp_pl S k fr P t j).toInt ≤ (sp_pl S k fr P' t j).toInt := by
    intro t j ht hj hr
    rw [sp_pl_eq ht, sp_pl_eq ht]
    exact dw_mono hW ho (bd_hd hW ht (by omega) (fun q => ⟨bl _ _ (by omega) (by omega), bl _ _ (by omega) (by omega)⟩)) (hP t j ht hj) (bd_hd hW ht (by omega) (fun q => ⟨bl' _ _ (by omega) (by omega), bl' _ _ (by omega) (by omega)⟩)) (hP' t j ht hj)
      (hd_mono hW ht (fun q i hi => ⟨bl _ _ (by omega) hi, bl' _ _ (by omega) hi⟩) hj hr) (h t j ht hj)
  intro d
  induction d with
  | zero => intro t j ht hj; exact one t j (by omega) hj (fun q => by omega)
  | succ d ih => intro t j ht hj; exact one t j (by omega) hj (fun q i hi => ih (t + 1) i (by omega) hi)
theorem vl_mono {S : Nat → Int32} {k : Nat} {fr : Int32} {P P' : Nat → Nat → Int64} (hW : sp_WF S) (ho : sp_WO S k) (hP : ∀ t j, t ≤ sN S 2 → j ≤ t → bd (P t j) (2394 * sN S 1 ^ (sN S 2 - t))) (hP' : ∀ t j, t ≤ sN S 2 → j ≤ t → bd (P' t j) (2394 * sN S 1 ^ (sN S 2 - t)))
    (h : ∀ t j, t ≤ sN S 2 → j ≤ t → (P t j).toInt ≤ (P' t j).toInt) : ∀ d t j, t + d = sN S 2 → j ≤ t → (sp_vl S k fr P t j).toInt ≤ (sp_vl S k fr P' t j).toInt := by
  have bl : ∀ t j, t ≤ sN S 2 → j ≤ t → bd (sp_vl S k fr P t j) (2394 * sN S 1 ^ (sN S 2 - t)) := fun t j a b => bd_vl hW ho (by omega) (by omega) hP (sN S 2 - t) t j (by omega) b
  have bl' : ∀ t j, t ≤ sN S 2 → j ≤ t → bd (sp_vl S k fr P' t j) (2394 * sN S 1 ^ (sN S 2 - t)) := fun t j a b => bd_vl hW ho (by omega) (by omega) hP' (sN S 2 - t) t j (by omega) b
  have one : ∀ t j, t ≤ sN S 2 → j ≤ t → (t < sN S 2 → ∀ i, i ≤ t + 1 → (sp_vl S k fr P (t + 1) i).toInt ≤ (sp_vl S k fr P' (t + 1) i).toInt) → (sp_vl S k fr P t j).toInt ≤ (sp_vl S k fr P' t j).toInt := by
    intro t j ht hj hr
    have pm := pl_mono (fr := fr) hW ho hP hP' h (sN S 2 - t) t j (by omega) hj
    have hm := hd_mono (R := sp_vl S k fr P) (R' := sp_vl S k fr P') hW ht (fun q i hi => ⟨bl _ _ (by omega) hi, bl' _ _ (by omega) hi⟩) hj hr
    rw [sp_vl_eq ht, sp_vl_eq ht]
    unfold sp_vw
    by_cases c1 : sp_o S k 4 = 2
    · rw [if_pos c1, if_pos c1]
      by_cases c2 : sp_tch S k t j = true
      · rw [if_pos c2, if_pos c2]; exact pm
      · rw [if_neg c2, if_neg c2]; exact hm
    · rw [if_neg c1, if_neg c1]
      by_cases c2 : 0 < sp_o S k 4 ∧ sp_tch S k t j = true
      · rw [if_pos c2, if_pos c2]; exact Int.le_refl _
      · rw [if_neg c2, if_neg c2]
        exact dw_mono hW ho (bd_hd hW ht (by omega) (fun q => ⟨bl _ _ (by omega) (by omega), bl _ _ (by omega) (by omega)⟩)) (hP t j ht hj) (bd_hd hW ht (by omega) (fun q => ⟨bl' _ _ (by omega) (by omega), bl' _ _ (by omega) (by omega)⟩)) (hP' t j ht hj) hm (h t j ht hj)
  intro d
  induction d with
  | zero => intro t j ht hj; exact one t j (by omega) hj (fun q => by omega)
  | succ d ih => intro t j ht hj; exact one t j (by omega) hj (fun q i hi => ih (t + 1) i (by omega) hi)
