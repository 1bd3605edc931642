/-! what holds between calls -/
def by_ok (x : Int32) : Prop := -128 ≤ x.toInt ∧ x.toInt ≤ 127
def I_T (g : ob_St) : Prop := ∃ n, n ≤ 540 ∧ g.1 20 1 = nI n ∧ g.1 0 8 = nI n ∧ (∀ i, i < n → g.1 21 i = g.1 6 i ∧ by_ok (g.1 6 i)) ∧ g.1 20 2 = g.1 0 15
def im_r (g : ob_St) (k : Nat) : Nat → Int32 := fun i => g.1 3 (70 * k + i)
def I_I (g : ob_St) : Prop := ∀ k, k < 2 → g.1 23 k = g.1 5 k ∧ (g.1 5 k = 0 ∨ (g.1 5 k = 1 ∧ sp_WF (im_r g k) ∧ c_M (40 + 8 * k) (im_r g k) g))
/-- acts: where what was told lies in a row -/
def ac_c (a w : Nat) : Nat := if a = 0 then 30 + 10 * w + 9 else if a = 1 then 0 else if a = 2 then 3 + w else if a = 3 then 16 + w else 30 + 10 * w + 1
def ac_ok (S : Nat → Int32) (a w : Nat) : Prop := a ≤ 4 ∧ (a = 0 → w < sN S 29) ∧ (a = 4 → w < sN S 29) ∧ (a = 2 → 1 ≤ w ∧ w ≤ sN S 2) ∧ (a = 3 → w ≤ sN S 2) ∧ (a = 1 → w = 0)
def un_r (g : ob_St) (n i : Nat) : Nat → Int32 := if i < n then (fun x => g.1 4 (70 * i + x)) else g.1 1
def un_ok (g : ob_St) (n i : Nat) : Prop := sp_WF (un_r g n i) ∧ ∃ a w, g.1 64 i = nI a ∧ g.1 65 i = nI w ∧ ac_ok (un_r g n (i + 1)) a w ∧ ∀ x, x < 70 → un_r g n i x = upd (un_r g n (i + 1)) (ac_c a w) (g.1 66 i) x
def I_U (g : ob_St) : Prop := ∃ n, n ≤ 8 ∧ g.1 63 3 = nI n ∧ g.1 0 6 = nI n ∧ ∀ i, i < n → un_ok g n i
def I_K (g : ob_St) : Prop := ∀ i, i < 20 → g.2 61 i = kv_kf 110 i
def Inv (g : ob_St) : Prop := m_Q g ∧ c_Q (g.1 1) g ∧ I_T g ∧ I_I g ∧ I_U g ∧ I_K g
theorem I_T_fr {g g' : ob_St} (h20 : g'.1 20 = g.1 20) (h21 : g'.1 21 = g.1 21) (h6 : g'.1 6 = g.1 6) (h8 : g'.1 0 8 = g.1 0 8) (h15 : g'.1 0 15 = g.1 0 15) (h : I_T g) : I_T g' := by
  unfold I_T at h ⊢
  rw [h20, h21, h6, h8, h15]
  exact h
theorem I_I_fr {g g' : ob_St} (h23 : g'.1 23 = g.1 23) (h5 : g'.1 5 = g.1 5) (h3 : g'.1 3 = g.1 3) (hm : ∀ m, 40 ≤ m → m < 56 → g'.1 m = g.1 m) (h : I_I g) : I_I g' := by
  intro k hk
  obtain ⟨a, b⟩ := h k hk
  have e : im_r g' k = im_r g k := by unfold im_r; rw [h3]
  rw [h23, h5, e]
  refine ⟨a, b.imp (fun x => x) (fun x => ⟨x.1, x.2.1, ?_⟩)⟩
  exact c_M_fr (wf_4 x.2.1) (fun m m1 m2 => hm m (by omega) (by omega)) x.2.2
theorem I_U_fr {g g' : ob_St} (h1 : g'.1 1 = g.1 1) (h4 : g'.1 4 = g.1 4) (h63 : g'.1 63 3 = g.1 63 3) (h64 : g'.1 64 = g.1 64) (h65 : g'.1 65 = g.1 65) (h66 : g'.1 66 = g.1 66) (h6 : g'.1 0 6 = g.1 0 6) (h : I_U g) : I_U g' := by
  have e : ∀ n i, un_r g' n i = un_r g n i := fun n i => by unfold un_r; rw [h1, h4]
  unfold I_U un_ok at h ⊢
  simp only [e, h63, h6, h64, h65, h66]
  exact h
theorem I_K_fr {g g' : ob_St} (h : g'.2 61 = g.2 61) (hK : I_K g) : I_K g' := fun i hi => by rw [h]; exact hK i hi
/-- the class keeps its side while the reference works -/
theorem c_Q_m {S : Nat → Int32} {g g' : ob_St} (h1 : ∀ n, 20 ≤ n → g'.1 n = g.1 n) (h2 : ∀ n, 20 ≤ n → g'.2 n = g.2 n) (hQ : c_Q S g) : c_Q S g' := by
  obtain ⟨hW, hM, hL⟩ := hQ
  have hM' := c_M_fr (g' := g') (wf_4 hW) (fun m m1 m2 => h1 m (by omega)) hM
  refine ⟨hW, hM', ?_⟩
  rw [h1 67 (by omega)]
  refine hL.imp (fun x => x) (fun x => ⟨x.1, ⟨⟨fun i hi => ?_, fun t j ht hj => ?_⟩, fun k hk t j ht hj => ?_⟩⟩)
  · rw [h2 70 (by omega)]; exact x.2.1.1 i hi
  · rw [h1 68 (by omega), h1 69 (by omega)]; exact x.2.1.2 t j ht hj
  · exact c_H_fr (fun m m1 m2 => ⟨h1 m (by omega), h2 m (by omega)⟩) (x.2.2 k hk t j ht hj)
/-- the reference keeps its side while the class works -/
theorem m_Q_c {g g' : ob_St} (h1 : ∀ n, n < 19 → g'.1 n = g.1 n) (h2 : ∀ n, n < 19 → g'.2 n = g.2 n) (hQ : m_Q g) : m_Q g' := by
  unfold m_Q m_Laid m_Pw m_H at hQ ⊢
  rw [h1 1 (by omega), h1 0 (by omega), h1 12 (by omega), h1 13 (by omega), h2 9 (by omega), h2 10 (by omega), h2 11 (by omega)]
  exact hQ
def m_KK (g g' : ob_St) : Prop := (∀ n, n ≠ 0 → n ≠ 12 → n ≠ 13 → g'.1 n = g.1 n) ∧ (∀ i, i ≠ 0 → i ≠ 19 → g'.1 0 i = g.1 0 i) ∧ (∀ n, 20 ≤ n → g'.2 n = g.2 n)
theorem m_K_K {g g' : ob_St} (h : m_K g g') : m_KK g g' := ⟨h.1, h.2.1, fun n hn => h.2.2 n (by omega)⟩
theorem Inv_q {g g1 g2 : ob_St} (hI : Inv g) (k1 : c_K g g1) (q1 : c_Q (g.1 1) g1) (k2 : m_KK g1 g2) (q2 : m_Q g2) : Inv g2 := by
  obtain ⟨i1, i2, i3, i4, i5, i6⟩ := hI
  have e : ∀ n, n < 67 → n ≠ 0 → n ≠ 12 → n ≠ 13 → g2.1 n = g.1 n := fun n h a b c => by rw [k2.1 n a b c, (k1 n h).1]
  have e0 : ∀ i, i ≠ 0 → i ≠ 19 → g2.1 0 i = g.1 0 i := fun i a b => by rw [k2.2.1 i a b, (k1 0 (by omega)).1]
  refine ⟨q2, ?_, ?_, ?_, ?_, ?_⟩
  · rw [e 1 (by omega) (by omega) (by omega) (by omega)]
    exact c_Q_m (fun n hn => k2.1 n (by omega) (by omega) (by omega)) (fun n hn => k2.2.2 n (by omega)) q1
  · exact I_T_fr (e 20 (by omega) (by omega) (by omega) (by omega)) (e 21 (by omega) (by omega) (by omega) (by omega)) (e 6 (by omega) (by omega) (by omega) (by omega)) (e0 8 (by omega) (by omega)) (e0 15 (by omega) (by omega)) i3
  · exact I_I_fr (e 23 (by omega) (by omega) (by omega) (by omega)) (e 5 (by omega) (by omega) (by omega) (by omega)) (e 3 (by omega) (by omega) (by omega) (by omega)) (fun m a b => e m (by omega) (by omega) (by omega) (by omega)) i4
  · exact I_U_fr (e 1 (by omega) (by omega) (by omega) (by omega)) (e 4 (by omega) (by omega) (by omega) (by omega)) (by rw [e 63 (by omega) (by omega) (by omega) (by omega)]) (e 64 (by omega) (by omega) (by omega) (by omega)) (e 65 (by omega) (by omega) (by omega) (by omega)) (e 66 (by omega) (by omega) (by omega) (by omega)) (e0 6 (by omega) (by omega)) i5
  · exact I_K_fr (by rw [k2.2.2 61 (by omega), (k1 61 (by omega)).2]) i6
/-! one step of the law: questions -/
theorem law_I {g : ob_St} {a : Int32} {r : Option (Int32 × ob_St)} {m : ob_St → Option (Int32 × ob_St)} {rec : ob_St → Option ob_St} (hI : Inv g) (hc : c_I (g.1 1) g a r) (hm : ∀ g1, m_Q g1 → g1.1 1 = g.1 1 → m_I g1 a (m g1)) (hr : ∀ g', Inv g' → ∃ x, rec g' = some x) :
    ∃ x, (r.bind fun v => (m v.2).bind fun w => if v.1 = w.1 then rec w.2 else none) = some x := by
  obtain ⟨g1, e1, k1, q1⟩ := hc
  have mq : m_Q g1 := m_Q_c (fun n hn => (k1 n (by omega)).1) (fun n hn => (k1 n (by omega)).2) hI.1
  obtain ⟨g2, e2, k2, q2⟩ := hm g1 mq (k1 1 (by omega)).1
  obtain ⟨x, hx⟩ := hr g2 (Inv_q hI k1 q1 (m_K_K k2) q2)
  refine ⟨x, ?_⟩
  rw [e1, Option.bind_some, e2, Option.bind_some, if_pos rfl]
  exact hx
theorem law_A {g : ob_St} {a : Option Int64} {r : Option (Option (Int64 × ob_St))} {m : ob_St → Option (Int64 × ob_St)} {rec : ob_St → Option ob_St} (hI : Inv g) (hc : c_A (g.1 1) g a r) (hm : ∀ g1, m_Q g1 → g1.1 1 = g.1 1 → m_A g1 a (m g1)) (hr : ∀ g', Inv g' → ∃ x, rec g' = some x) :
    ∃ x, ((r.bind fun v => v.elim (some ((1 : Int32), g)) (fun w => (ob_wL w.2 19 0 w.1).bind fun g3 => some (0, g3))).bind fun v49 => (m v49.2).bind fun v54 => (ob_ck 12 0 (f_X12_thrown v54.2 0)).bind fun v55 => (if v55 = v49.1 then ((if v49.1 = 0 then ((ob_rL v54.2 19 0).bind fun v56 => (if v56 = v54.1 then (rec v54.2) else (none))) else (rec v54.2))) else (none))) = some x := by
  obtain ⟨g1, k1, q1, e1⟩ := hc
  cases a with
  | none =>
    obtain ⟨g2, e2, k2, q2, t2⟩ := hm g hI.1 rfl
    obtain ⟨x, hx⟩ := hr g2 (Inv_q hI (c_K_refl g) hI.2.1 (m_K_K k2) q2)
    refine ⟨x, ?_⟩
    have t2 : g2.1 0 0 = 1 := t2
    rw [e1]
    show ((m g).bind _) = _
    rw [e2, Option.bind_some, m_thrown, ev_ck0, Option.bind_some, t2, if_pos rfl, if_neg (show ¬ (1 : Int32) = 0 by decide)]
    exact hx
  | some v =>
    have w19 : ob_wL g1 19 0 v = some (g1.1, ob_upL g1.2 19 0 v) := pu_wL (n := 19) (i := 0) rfl rfl (by decide)
    generalize hg3 : ((g1.1, ob_upL g1.2 19 0 v) : ob_St) = g3 at w19
    have f1 : g3.1 = g1.1 := by rw [← hg3]
    have f2 : g3.2 = ob_upL g1.2 19 0 v := by rw [← hg3]
    have mq : m_Q g3 := m_Q_c (fun n hn => by rw [f1]; exact (k1 n (by omega)).1) (fun n hn => by rw [f2, pu_upL_ne (by omega)]; exact (k1 n (by omega)).2) hI.1
    obtain ⟨g2, e2, k2, q2, t2⟩ := hm g3 mq (by rw [f1]; exact (k1 1 (by omega)).1)
    have t2 : g2.1 0 0 = 0 := t2
    have o19 : g2.2 19 0 = v := by rw [k2.2.2 19 (by omega), f2, pu_upL_eq, pu_updL_eq]
    have r19 : ob_rL g2 19 0 = some (g2.2 19 0) := pu_rL (n := 19) (i := 0) rfl rfl (by decide)
    -- all but the law's own row is as the class left it
    have k13 : m_KK g1 g2 := ⟨fun n a b c => by rw [k2.1 n a b c, f1], fun i a b => by rw [k2.2.1 i a b, f1], fun n hn => by rw [k2.2.2 n (by omega), f2, pu_upL_ne (by omega)]⟩
    obtain ⟨x, hx⟩ := hr g2 (Inv_q hI k1 q1 k13 q2)
    refine ⟨x, ?_⟩
    rw [e1]
    show (((ob_wL g1 19 0 v).bind fun g3 => some ((0 : Int32), g3)).bind _) = _
    rw [w19, Option.bind_some, Option.bind_some]
    show ((m g3).bind _) = _
    rw [e2, Option.bind_some, m_thrown, ev_ck0, Option.bind_some, t2, if_pos rfl, if_pos rfl, r19, Option.bind_some, o19]
    show (if v = v then _ else _) = _
    rw [if_pos rfl]
    exact hx
