/-! a change, told on both sides -/
theorem ac_lt {S : Nat → Int32} {a w : Nat} (hW : sp_WF S) (h : ac_ok S a w) : ac_c a w < 70 ∧ ac_c a w ≠ 2 ∧ ac_c a w ≠ 29 := by
  have h12 := wf_12 hW
  have h4 := wf_4 hW
  obtain ⟨h0, h1, h2, h3, h5, h6⟩ := h
  unfold ac_c
  rcases (by omega : a = 0 ∨ a = 1 ∨ a = 2 ∨ a = 3 ∨ a = 4) with rfl | rfl | rfl | rfl | rfl
  · have := h1 rfl; rw [if_pos rfl]; omega
  · rw [if_neg (by omega), if_pos rfl]; omega
  · have := h3 rfl; rw [if_neg (by omega), if_neg (by omega), if_pos rfl]; omega
  · have := h5 rfl; rw [if_neg (by omega), if_neg (by omega), if_neg (by omega), if_pos rfl]; omega
  · have := h2 rfl; rw [if_neg (by omega), if_neg (by omega), if_neg (by omega), if_neg (by omega)]; omega
theorem ac_ok_c {S S' : Nat → Int32} {a w : Nat} (h2 : S' 2 = S 2) (h29 : S' 29 = S 29) (h : ac_ok S a w) : ac_ok S' a w := by
  unfold ac_ok sN at h ⊢
  rw [h2, h29]
  exact h
theorem c_current {S : Nat → Int32} {g : ob_St} {a w : Nat} (hW : sp_WF S) (hM : c_M 24 S g) (h : ac_ok S a w) : f_X5_current g 24 (nI a) (nI w) = some (S (ac_c a w)) := by
  have h12 := wf_12 hW
  have h4 := wf_4 hW
  obtain ⟨h0, h1, h2, h3, h5, h6⟩ := h
  unfold f_X5_current ac_c
  rcases (by omega : a = 0 ∨ a = 1 ∨ a = 2 ∨ a = 3 ∨ a = 4) with rfl | rfl | rfl | rfl | rfl
  · have hw := h1 rfl
    have e : g.1 (28 + w) 9 = S (30 + 10 * w + 9) := (hM.2.2.2.2.2 w hw).2.2.2.2.2.2.2.2.2
    rw [if_pos (show nI 0 = 0 from rfl), if_pos rfl, ev_r24_2, Option.bind_some, ew_27 (by omega), Option.bind_some, ew_gc (by omega), Option.bind_some, e]
  · rw [if_neg (by decide), if_pos (show nI 1 = 1 from rfl), if_neg (by omega), if_pos rfl, ev_g24, Option.bind_some, hM.1]
  · have hw := h3 rfl
    rw [if_neg (by decide), if_neg (by decide), if_pos (show nI 2 = 2 from rfl), if_neg (by omega), if_neg (by omega), if_pos rfl, ev_r24_0, Option.bind_some, ev_a25 (by omega), Option.bind_some, (hM.2.2.2.2.1 w (by omega)).1]
  · have hw := h5 rfl
    rw [if_neg (by decide), if_neg (by decide), if_neg (by decide), if_pos (show nI 3 = 3 from rfl), if_neg (by omega), if_neg (by omega), if_neg (by omega), if_pos rfl, ev_r24_1, Option.bind_some, ev_a26 (by omega), Option.bind_some, (hM.2.2.2.2.1 w (by omega)).2]
  · have hw := h2 rfl
    have e : g.1 (28 + w) 1 = S (30 + 10 * w + 1) := (hM.2.2.2.2.2 w hw).2.1
    rw [if_neg (by decide), if_neg (by decide), if_neg (by decide), if_neg (by decide), if_neg (by omega), if_neg (by omega), if_neg (by omega), if_neg (by omega), ev_r24_2, Option.bind_some, ew_27 (by omega), Option.bind_some, ew_gc (by omega), Option.bind_some, e]
theorem ew_pc {g : ob_St} {k f : Nat} {v : Int32} (h : k < 4) : ob_pI g 1 (28 + k) f v = some (ob_up g.1 (28 + k) f v, g.2) := pu_pI (ew_kc h)
theorem c_C_upd {S : Nat → Int32} {g : ob_St} {n k f w : Nat} {v : Int32} (hf : (f = 1 ∧ w = 1) ∨ (f = 9 ∧ w = 9)) (h : c_C n S k g) : c_C n (upd S (30 + 10 * k + w) v) k (ob_up g.1 n f v, g.2) := by
  have o : ∀ x, x < 10 → x ≠ w → sp_o (upd S (30 + 10 * k + w) v) k x = sp_o S k x := fun x hx hn => pu_upd_ne (by omega)
  have ow : sp_o (upd S (30 + 10 * k + w) v) k w = v := pu_upd_eq
  have r : ∀ x, x ≠ f → ob_up g.1 n f v n x = g.1 n x := fun x hx => by rw [pu_up_eq, pu_upd_ne hx]
  have rf : ob_up g.1 n f v n f = v := by rw [pu_up_eq, pu_upd_eq]
  unfold c_C at h ⊢
  obtain ⟨a0, a1, a2, a3, a4, a5, a6, a7, a8, a9⟩ := h
  dsimp only
  rcases hf with ⟨rfl, rfl⟩ | ⟨rfl, rfl⟩
  · rw [o 0 (by omega) (by omega), ow, o 2 (by omega) (by omega), o 3 (by omega) (by omega), o 4 (by omega) (by omega), o 5 (by omega) (by omega), o 6 (by omega) (by omega), o 7 (by omega) (by omega), o 8 (by omega) (by omega), o 9 (by omega) (by omega),
      r 0 (by omega), rf, r 2 (by omega), r 3 (by omega), r 4 (by omega), r 5 (by omega), r 6 (by omega), r 7 (by omega), r 8 (by omega), r 9 (by omega)]
    exact ⟨a0, rfl, a2, a3, a4, a5, a6, a7, a8, a9⟩
  · rw [o 0 (by omega) (by omega), ow, o 2 (by omega) (by omega), o 3 (by omega) (by omega), o 4 (by omega) (by omega), o 5 (by omega) (by omega), o 6 (by omega) (by omega), o 7 (by omega) (by omega), o 8 (by omega) (by omega), o 1 (by omega) (by omega),
      r 0 (by omega), rf, r 2 (by omega), r 3 (by omega), r 4 (by omega), r 5 (by omega), r 6 (by omega), r 7 (by omega), r 8 (by omega), r 1 (by omega)]
    exact ⟨a0, a1, a2, a3, a4, a5, a6, a7, a8, rfl⟩
theorem c_C_oth {S : Nat → Int32} {g g' : ob_St} {n k c : Nat} {v : Int32} (hc : ∀ x, x < 10 → 30 + 10 * k + x ≠ c) (hg : g'.1 n = g.1 n) (h : c_C n S k g) : c_C n (upd S c v) k g' := by
  have o : ∀ x, x < 10 → sp_o (upd S c v) k x = sp_o S k x := fun x hx => pu_upd_ne (hc x hx)
  unfold c_C at h ⊢
  rw [o 0 (by omega), o 1 (by omega), o 2 (by omega), o 3 (by omega), o 4 (by omega), o 5 (by omega), o 6 (by omega), o 7 (by omega), o 8 (by omega), o 9 (by omega), hg]
  exact h
/-- the class's market, told -/
theorem c_tell5 {S : Nat → Int32} {g : ob_St} {a w : Nat} {v : Int32} (hW : sp_WF S) (hM : c_M 24 S g) (h : ac_ok S a w) : ∃ g', f_X5_tell g 24 (nI a) (nI w) v = some g' ∧ (∀ m, m < 24 ∨ 32 ≤ m → g'.1 m = g.1 m) ∧ g'.2 = g.2 ∧ c_M 24 (upd S (ac_c a w) v) g' := by
  have h12 := wf_12 hW
  have h4 := wf_4 hW
  obtain ⟨h0, h1, h2, h3, h5, h6⟩ := h
  obtain ⟨m0, m1, m2, m3, m4, m5⟩ := hM
  unfold f_X5_tell ac_c
  rcases (by omega : a = 0 ∨ a = 1 ∨ a = 2 ∨ a = 3 ∨ a = 4) with rfl | rfl | rfl | rfl | rfl
  · have hw := h1 rfl
    refine ⟨(ob_up g.1 (28 + w) 9 v, g.2), ?_, fun m hm => pu_up_ne (by omega), rfl, ?_⟩
    · rw [if_pos (show nI 0 = 0 from rfl), ev_r24_2, Option.bind_some, ew_27 (by omega), Option.bind_some, ew_pc (by omega), Option.bind_some]
    · rw [if_pos rfl]
      have z : ∀ i, i < 30 → upd S (30 + 10 * w + 9) v i = S i := fun i hi => pu_upd_ne (by omega)
      have f : ∀ m, 24 ≤ m → m < 28 → ob_up g.1 (28 + w) 9 v m = g.1 m := fun m a b => pu_up_ne (by omega)
      refine ⟨?_, ?_, ?_, ?_, fun t ht => ?_, fun k hk => ?_⟩
      · dsimp only; rw [f 24 (by omega) (by omega), z 0 (by omega)]; exact m0
      · dsimp only; rw [f 24 (by omega) (by omega), z 1 (by omega)]; exact m1
      · dsimp only; rw [f 24 (by omega) (by omega), z 2 (by omega)]; exact m2
      · dsimp only; rw [f 24 (by omega) (by omega), z 29 (by omega)]; exact m3
      · dsimp only; rw [f (24 + 1) (by omega) (by omega), f (24 + 2) (by omega) (by omega), z (3 + t) (by omega), z (16 + t) (by omega)]; exact m4 t ht
      · have hk : k < sN S 29 := by unfold sN at hk ⊢; rw [z 29 (by omega)] at hk; exact hk
        by_cases e : k = w
        · subst e
          exact c_C_upd (Or.inr ⟨rfl, rfl⟩) (m5 k hw)
        · exact c_C_oth (fun x hx => by omega) (pu_up_ne (by omega)) (m5 k hk)
  · refine ⟨(ob_up g.1 24 3 v, g.2), ?_, fun m hm => pu_up_ne (by omega), rfl, ?_⟩
    · rw [if_neg (by decide), if_pos (show nI 1 = 1 from rfl), ev_p24, Option.bind_some]
    · rw [if_neg (by omega), if_pos rfl]
      have z : ∀ i, i ≠ 0 → upd S 0 v i = S i := fun i hi => pu_upd_ne hi
      have f : ∀ m, 24 < m → ob_up g.1 24 3 v m = g.1 m := fun m a => pu_up_ne (by omega)
      refine ⟨?_, ?_, ?_, ?_, fun t ht => ?_, fun k hk => ?_⟩
      · dsimp only; rw [pu_up_eq, pu_upd_eq, pu_upd_eq]
      · dsimp only; rw [pu_up_eq, pu_upd_ne (by omega), z 1 (by omega)]; exact m1
      · dsimp only; rw [pu_up_eq, pu_upd_ne (by omega), z 2 (by omega)]; exact m2
      · dsimp only; rw [pu_up_eq, pu_upd_ne (by omega), z 29 (by omega)]; exact m3
      · dsimp only; rw [f (24 + 1) (by omega), f (24 + 2) (by omega), z (3 + t) (by omega), z (16 + t) (by omega)]; exact m4 t ht
      · have hk : k < sN S 29 := by unfold sN at hk ⊢; rw [z 29 (by omega)] at hk; exact hk
        exact c_C_oth (fun x hx => by omega) (f _ (by omega)) (m5 k hk)
  · have hw := h3 rfl
    refine ⟨(ob_up g.1 25 w v, g.2), ?_, fun m hm => pu_up_ne (by omega), rfl, ?_⟩
    · rw [if_neg (by decide), if_neg (by decide), if_pos (show nI 2 = 2 from rfl), ev_r24_0, Option.bind_some, ev_w25 (by omega), Option.bind_some]
    · rw [if_neg (by omega), if_neg (by omega), if_pos rfl]
      have z : ∀ i, i ≠ 3 + w → upd S (3 + w) v i = S i := fun i hi => pu_upd_ne hi
      have f : ∀ m, m ≠ 25 → ob_up g.1 25 w v m = g.1 m := fun m a => pu_up_ne a
      refine ⟨?_, ?_, ?_, ?_, fun t ht => ⟨?_, ?_⟩, fun k hk => ?_⟩
      · dsimp only; rw [f 24 (by omega), z 0 (by omega)]; exact m0
      · dsimp only; rw [f 24 (by omega), z 1 (by omega)]; exact m1
      · dsimp only; rw [f 24 (by omega), z 2 (by omega)]; exact m2
      · dsimp only; rw [f 24 (by omega), z 29 (by omega)]; exact m3
      · show ob_up g.1 25 w v 25 t = _
        rw [pu_up_eq]
        by_cases e : t = w
        · subst e; rw [pu_upd_eq, pu_upd_eq]
        · rw [pu_upd_ne e, z (3 + t) (by omega)]; exact (m4 t ht).1
      · dsimp only; rw [f (24 + 2) (by omega), z (16 + t) (by omega)]; exact (m4 t ht).2
      · have hk : k < sN S 29 := by unfold sN at hk ⊢; rw [z 29 (by omega)] at hk; exact hk
        exact c_C_oth (fun x hx => by omega) (f _ (by omega)) (m5 k hk)
  · have hw := h5 rfl
    refine ⟨(ob_up g.1 26 w v, g.2), ?_, fun m hm => pu_up_ne (by omega), rfl, ?_⟩
    · rw [if_neg (by decide), if_neg (by decide), if_neg (by decide), if_pos (show nI 3 = 3 from rfl), ev_r24_1, Option.bind_some, ev_w26 (by omega), Option.bind_some]
    · rw [if_neg (by omega), if_neg (by omega), if_neg (by omega), if_pos rfl]
      have z : ∀ i, i ≠ 16 + w → upd S (16 + w) v i = S i := fun i hi => pu_upd_ne hi
      have f : ∀ m, m ≠ 26 → ob_up g.1 26 w v m = g.1 m := fun m a => pu_up_ne a
      refine ⟨?_, ?_, ?_, ?_, fun t ht => ⟨?_, ?_⟩, fun k hk => ?_⟩
      · dsimp only; rw [f 24 (by omega), z 0 (by omega)]; exact m0
      · dsimp only; rw [f 24 (by omega), z 1 (by omega)]; exact m1
      · dsimp only; rw [f 24 (by omega), z 2 (by omega)]; exact m2
      · dsimp only; rw [f 24 (by omega), z 29 (by omega)]; exact m3
      · dsimp only; rw [f (24 + 1) (by omega), z (3 + t) (by omega)]; exact (m4 t ht).1
      · show ob_up g.1 26 w v 26 t = _
        rw [pu_up_eq]
        by_cases e : t = w
        · subst e; rw [pu_upd_eq, pu_upd_eq]
        · rw [pu_upd_ne e, z (16 + t) (by omega)]; exact (m4 t ht).2
      · have hk : k < sN S 29 := by unfold sN at hk ⊢; rw [z 29 (by omega)] at hk; exact hk
        exact c_C_oth (fun x hx => by omega) (f _ (by omega)) (m5 k hk)
  · have hw := h2 rfl
    refine ⟨(ob_up g.1 (28 + w) 1 v, g.2), ?_, fun m hm => pu_up_ne (by omega), rfl, ?_⟩
    · rw [if_neg (by decide), if_neg (by decide), if_neg (by decide), if_neg (by decide), ev_r24_2, Option.bind_some, ew_27 (by omega), Option.bind_some, ew_pc (by omega), Option.bind_some]
    · rw [if_neg (by omega), if_neg (by omega), if_neg (by omega), if_neg (by omega)]
      have z : ∀ i, i < 30 → upd S (30 + 10 * w + 1) v i = S i := fun i hi => pu_upd_ne (by omega)
      have f : ∀ m, 24 ≤ m → m < 28 → ob_up g.1 (28 + w) 1 v m = g.1 m := fun m a b => pu_up_ne (by omega)
      refine ⟨?_, ?_, ?_, ?_, fun t ht => ?_, fun k hk => ?_⟩
      · dsimp only; rw [f 24 (by omega) (by omega), z 0 (by omega)]; exact m0
      · dsimp only; rw [f 24 (by omega) (by omega), z 1 (by omega)]; exact m1
      · dsimp only; rw [f 24 (by omega) (by omega), z 2 (by omega)]; exact m2
      · dsimp only; rw [f 24 (by omega) (by omega), z 29 (by omega)]; exact m3
      · dsimp only; rw [f (24 + 1) (by omega) (by omega), f (24 + 2) (by omega) (by omega), z (3 + t) (by omega), z (16 + t) (by omega)]; exact m4 t ht
      · have hk : k < sN S 29 := by unfold sN at hk ⊢; rw [z 29 (by omega)] at hk; exact hk
        by_cases e : k = w
        · subst e
          exact c_C_upd (Or.inl ⟨rfl, rfl⟩) (m5 k hw)
        · exact c_C_oth (fun x hx => by omega) (pu_up_ne (by omega)) (m5 k hk)
theorem c_Lat_m {S : Nat → Int32} {g g' : ob_St} (hW : sp_WF S) (h1 : ∀ n, 68 ≤ n → g'.1 n = g.1 n) (h2 : ∀ n, 68 ≤ n → g'.2 n = g.2 n) (x : c_Lat S g) : c_Lat S g' := by
  refine ⟨⟨fun i hi => ?_, fun t j ht hj => ?_⟩, fun k hk t j ht hj => ?_⟩
  · rw [h2 70 (by omega)]; exact x.1.1 i hi
  · rw [h1 68 (by omega), h1 69 (by omega)]; exact x.1.2 t j ht hj
  · exact c_H_fr (fun m m1 m2 => ⟨h1 m (by omega), h2 m (by omega)⟩) (x.2 k hk t j ht hj)
theorem c_tell {S : Nat → Int32} {g : ob_St} {a w : Nat} {v : Int32} (hQ : c_Q S g) (h : ac_ok S a w) (hW' : sp_WF (upd S (ac_c a w) v)) : ∃ g', f_X11_tell g 20 (nI a) (nI w) v = some g' ∧ (∀ m, m < 24 ∨ (32 ≤ m ∧ m ≠ 67) → g'.1 m = g.1 m) ∧ g'.2 = g.2 ∧ c_Q (upd S (ac_c a w) v) g' := by
  obtain ⟨hW, hM, hL⟩ := hQ
  obtain ⟨g1, t1, t2, t3, t4⟩ := c_tell5 (v := v) hW hM h
  unfold f_X11_tell
  rw [ev_r20_3, Option.bind_some, t1, ev_ck24, Option.bind_some]
  by_cases c : a = 0
  · subst c
    rw [if_pos (show nI 0 = 0 from rfl)]
    refine ⟨g1, rfl, fun m hm => t2 m (by omega), t3, hW', t4, ?_⟩
    have e6 : g1.1 67 6 = g.1 67 6 := by rw [t2 67 (by omega)]
    rw [e6]
    refine hL.imp (fun x => x) (fun x => ⟨x.1, ?_⟩)
    have hL1 := c_Lat_m (g' := g1) hW (fun n hn => t2 n (by omega)) (fun n hn => by rw [t3]) x.2
    have ec : ac_c 0 w = 30 + 10 * w + 9 := rfl
    rw [ec]
    refine c_Lat_own (sm_upd (Or.inr (Or.inr rfl))) hW (fun q hq => ⟨?_, ?_⟩) hL1
    · exact pu_upd_ne (by omega)
    · exact pu_upd_ne (by omega)
  · have n0 : ¬ nI a = 0 := nI_ne0 (by omega) (by have := h.1; omega)
    rw [if_neg n0, ev_r20_8, Option.bind_some, pu_pZ (K := 3) (n := 67) rfl (Or.inr rfl), Option.bind_some]
    refine ⟨(ob_up g1.1 67 6 1, g1.2), rfl, fun m hm => ?_, t3, hW', ?_, Or.inl ?_⟩
    · show ob_up g1.1 67 6 1 m = _
      rw [pu_up_ne (by omega), t2 m (by omega)]
    · exact c_M_fr (wf_4 hW') (fun m m1 m2 => pu_up_ne (by omega)) t4
    · show ob_up g1.1 67 6 1 67 6 = 1
      rw [pu_up_eq, pu_upd_eq]
/-- both sides tell the same -/
theorem chg {g : ob_St} {a w : Nat} {v : Int32} (hI : Inv g) (h : ac_ok (g.1 1) a w) (hW' : sp_WF (upd (g.1 1) (ac_c a w) v)) :
    ∃ g1, f_X11_change g 20 (nI a) (nI w) v = some g1 ∧ (∀ n, n < 19 → g1.1 n = g.1 n ∧ g1.2 n = g.2 n) ∧ ∃ g2, f_X12_keeps (m_Th g1 0) 0 = some g2 ∧ g2.1 1 = g.1 1 ∧ ∃ g3, ob_wI g2 1 (nI (ac_c a w)) v = some g3 ∧ Inv g3 := by
  obtain ⟨i1, i2, i3, i4, ⟨n, n1, n2, n3, n4⟩, i6⟩ := hI
  have hW := i2.1
  have hlt := ac_lt hW h
  obtain ⟨k1, a1, a2, a3, a4, a5, a6, a7, a8⟩ := c_keep (g := g) (a := nI a) (w := nI w) (o := g.1 1 (ac_c a w)) n1 n2
  have q1 : c_Q (g.1 1) k1 := by
    refine ⟨hW, c_M_fr (wf_4 hW) (fun m m1 m2 => a2 m (by omega)) i2.2.1, ?_⟩
    rw [a2 67 (by omega)]
    exact i2.2.2.imp (fun x => x) (fun x => ⟨x.1, c_Lat_m hW (fun n hn => a2 n (by omega)) (fun n hn => by rw [a3]) x.2⟩)
  obtain ⟨g1, b1, b2, b3, b4⟩ := c_tell (v := v) q1 h hW'
  have e1 : ∀ m, m < 24 ∨ (32 ≤ m ∧ m < 63) → g1.1 m = g.1 m := fun m hm => by rw [b2 m (by omega), a2 m (by omega)]
  have e2 : g1.2 = g.2 := by rw [b3, a3]
  refine ⟨g1, ?_, fun m hm => ⟨e1 m (by omega), by rw [e2]⟩, ?_⟩
  · unfold f_X11_change
    rw [ev_r20_7, Option.bind_some, ev_r20_3, Option.bind_some, c_current hW i2.2.1 h, ev_ck24, Option.bind_some, a1, ev_ck63, Option.bind_some, b1, ev_ck20, Option.bind_some]
  have h06 : (m_Th g1 0).1 0 6 = nI n := by
    show upd (g1.1 0) 0 0 6 = _
    rw [pu_upd_ne (by omega), e1 0 (by omega), n3]
  obtain ⟨g2, c1, c2, c3, c4, c5, c6, c7, c8⟩ := m_keeps n1 h06
  have th1 : ∀ m, m ≠ 0 → (m_Th g1 0).1 m = g1.1 m := fun m hm => pu_up_ne hm
  have th0 : ∀ i, i ≠ 0 → (m_Th g1 0).1 0 i = g1.1 0 i := fun i hi => by
    show upd (g1.1 0) 0 0 i = _
    exact pu_upd_ne hi
  have r1 : g2.1 1 = g.1 1 := by rw [c2 1 (by omega) (by omega), th1 1 (by omega), e1 1 (by omega)]
  refine ⟨g2, c1, r1, (ob_up g2.1 1 (ac_c a w) v, g2.2), ev_w1 hlt.1, ?_⟩
  have s1 : ob_up g2.1 1 (ac_c a w) v 1 = upd (g.1 1) (ac_c a w) v := by rw [pu_up_eq, r1]
  -- names that are as they were
  have f : ∀ m, m ≠ 0 → m ≠ 1 → m ≠ 4 → ob_up g2.1 1 (ac_c a w) v m = g1.1 m := fun m x y z => by rw [pu_up_ne y, c2 m x z, th1 m x]
  have f0 : ∀ i, i ≠ 0 → i ≠ 6 → i ≠ 19 → ob_up g2.1 1 (ac_c a w) v 0 i = g.1 0 i := fun i x y z => by rw [pu_up_ne (by omega), c3 i y z, th0 i x, e1 0 (by omega)]
  have f2 : g2.2 = g.2 := by rw [c4]; exact e2
  refine ⟨⟨?_, Or.inl ?_⟩, ?_, ?_, ?_, ?_, ?_⟩
  · show sp_WF (ob_up g2.1 1 (ac_c a w) v 1)
    rw [s1]; exact hW'
  · show ob_up g2.1 1 (ac_c a w) v 0 19 = 0
    rw [pu_up_ne (by omega)]; exact c5
  · show c_Q (ob_up g2.1 1 (ac_c a w) v 1) _
    rw [s1]
    exact c_Q_m (fun m hm => f m (by omega) (by omega) (by omega)) (fun m hm => by show g2.2 m = _; rw [f2, e2]) b4
  · exact I_T_fr ((f 20 (by omega) (by omega) (by omega)).trans (e1 20 (by omega))) ((f 21 (by omega) (by omega) (by omega)).trans (e1 21 (by omega))) ((f 6 (by omega) (by omega) (by omega)).trans (e1 6 (by omega))) (f0 8 (by omega) (by omega) (by omega)) (f0 15 (by omega) (by omega) (by omega)) i3
  · exact I_I_fr ((f 23 (by omega) (by omega) (by omega)).trans (e1 23 (by omega))) ((f 5 (by omega) (by omega) (by omega)).trans (e1 5 (by omega))) ((f 3 (by omega) (by omega) (by omega)).trans (e1 3 (by omega))) (fun m x y => (f m (by omega) (by omega) (by omega)).trans (e1 m (by omega))) i4
  · -- what can be undone
    generalize hg3 : ((ob_up g2.1 1 (ac_c a w) v, g2.2) : ob_St) = g3
    have x1 : g3.1 1 = upd (g.1 1) (ac_c a w) v := by rw [← hg3]; exact s1
    have x4 : g3.1 4 = g2.1 4 := by
      rw [← hg3]
      dsimp only
      rw [pu_up_ne (show 4 ≠ 1 by omega)]
    have xm : ∀ m, 63 ≤ m → m ≤ 66 → g3.1 m = k1.1 m := fun m y z => by
      rw [← hg3]
      show ob_up g2.1 1 (ac_c a w) v m = _
      rw [f m (by omega) (by omega) (by omega), b2 m (by omega)]
    have x06 : g3.1 0 6 = nI (if n = 8 then 8 else n + 1) := by
      rw [← hg3]
      show ob_up g2.1 1 (ac_c a w) v 0 6 = _
      rw [pu_up_ne (by omega)]; exact c6
    have g14 : (m_Th g1 0).1 4 = g.1 4 := by rw [th1 4 (by omega), e1 4 (by omega)]
    have g11 : (m_Th g1 0).1 1 = g.1 1 := by rw [th1 1 (by omega), e1 1 (by omega)]
    rw [g14] at c7
    rw [g11] at c8
    -- rows shift by s
    obtain ⟨s, q, hs1, hs2, hs3, hs4⟩ : ∃ s q, q + s = n ∧ q + 1 ≤ 8 ∧ (if n = 8 then 7 else n) = q ∧ ∀ i, (if n = 8 then i + 1 else i) = i + s := by
      by_cases c : n = 8
      · exact ⟨1, 7, by omega, by omega, by rw [if_pos c], fun i => by rw [if_pos c]⟩
      · exact ⟨0, n, by omega, by omega, by rw [if_neg c], fun i => by rw [if_neg c]; rfl⟩
    have hn8 : (if n = 8 then 8 else n + 1) = q + 1 := by
      by_cases c : n = 8
      · rw [if_pos c] at hs3 ⊢; omega
      · rw [if_neg c] at hs3 ⊢; omega
    rw [hn8] at a4 x06
    rw [hs3] at a5 a6 a7 a8 c7 c8
    have row : ∀ i x, i ≤ q → x < 70 → un_r g3 (q + 1) i x = un_r g n (i + s) x := by
      intro i x hi hx
      unfold un_r
      rw [if_pos (by omega)]
      by_cases e : i = q
      · subst e
        rw [if_neg (by omega)]
        show g3.1 4 (70 * i + x) = _
        rw [x4, c8 x hx]
      · rw [if_pos (by omega)]
        show g3.1 4 (70 * i + x) = g.1 4 (70 * (i + s) + x)
        rw [x4, c7 i x (by omega) hx, hs4 i]
    have last : un_r g3 (q + 1) (q + 1) = upd (g.1 1) (ac_c a w) v := by
      unfold un_r
      rw [if_neg (by omega), x1]
    have nlast : un_r g n n = g.1 1 := by
      unfold un_r
      rw [if_neg (by omega)]
    refine ⟨q + 1, by omega, by rw [xm 63 (by omega) (by omega)]; exact a4, x06, fun i hi => ?_⟩
    unfold un_ok
    rw [xm 64 (by omega) (by omega), xm 65 (by omega) (by omega), xm 66 (by omega) (by omega)]
    by_cases e : i = q
    · subst e
      have rq : ∀ x, x < 70 → un_r g3 (i + 1) i x = g.1 1 x := fun x hx => by rw [row i x (by omega) hx, hs1, nlast]
      refine ⟨wf_c70 hW rq, a, w, a6, a7, ?_, fun x hx => ?_⟩
      · rw [last]
        exact ac_ok_c (pu_upd_ne (Ne.symm hlt.2.1)) (pu_upd_ne (Ne.symm hlt.2.2)) h
      · rw [last, rq x hx, a8]
        by_cases ex : x = ac_c a w
        · subst ex; rw [pu_upd_eq]
        · rw [pu_upd_ne ex, pu_upd_ne ex]
    · obtain ⟨u1, a', w', u2, u3, u4, u5⟩ := n4 (i + s) (by omega)
      obtain ⟨p1, p2, p3⟩ := a5 i (by omega)
      rw [hs4 i] at p1 p2 p3
      have rn : ∀ x, x < 70 → un_r g3 (q + 1) (i + 1) x = un_r g n (i + s + 1) x := fun x hx => by rw [row (i + 1) x (by omega) hx, show i + 1 + s = i + s + 1 by omega]
      refine ⟨wf_c70 u1 (fun x hx => row i x (by omega) hx), a', w', by rw [p1, u2], by rw [p2, u3], ac_ok_c (rn 2 (by omega)) (rn 29 (by omega)) u4, fun x hx => ?_⟩
      rw [row i x (by omega) hx, u5 x hx, p3]
      by_cases ex : x = ac_c a' w'
      · subst ex; rw [pu_upd_eq, pu_upd_eq]
      · rw [pu_upd_ne ex, pu_upd_ne ex, rn x hx]
  · exact I_K_fr (by show g2.2 61 = _; rw [f2]) i6
