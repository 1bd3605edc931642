/-! both read, token by token -/
theorem lx_k_le {b : Nat → Int32} {n p : Nat} : lx_k b n p ≤ 5 := by
  rcases Nat.lt_or_ge (lx_k b n p) 4 with h | h
  · omega
  · exact (lx_k4 h).2.2.2
def TR (b : Nat → Int32) (n m i : Nat) (gc gm : ob_St) : Prop := c_Tk b n m gc ∧ i ≤ m ∧ gc.1 56 5 = nI i ∧ m_T b n gm ∧ m_TK b n (lx_ps b n i) gm
def c_Fr (g0 g : ob_St) : Prop := (∀ m, m ≠ 56 → ¬ (32 ≤ m ∧ m < 40) → g.1 m = g0.1 m) ∧ ∀ m, m ≠ 62 → g.2 m = g0.2 m
def m_Fr (g0 g : ob_St) : Prop := (∀ m, m ≠ 0 → m ≠ 2 → m ≠ 7 → m ≠ 8 → g.1 m = g0.1 m) ∧ (∀ i, i < 10 ∨ 16 < i → g.1 0 i = g0.1 0 i) ∧ g.2 = g0.2
def BR (c0 m0 : ob_St) (b : Nat → Int32) (n m i : Nat) (gc gm : ob_St) : Prop := TR b n m i gc gm ∧ c_Fr c0 gc ∧ m_Fr m0 gm ∧ gc.1 56 1 = gm.1 0 15
def FL (c0 m0 gc gm : ob_St) : Prop := c_Fr c0 gc ∧ m_Fr m0 gm ∧ gc.1 56 1 = gm.1 0 15 ∧ gc.1 56 2 = gm.1 0 16
def RS (c0 m0 : ob_St) (Q : ob_St → ob_St → Prop) (rc rm : Option (Int32 × ob_St)) : Prop :=
  (∃ gc gm, rc = some (1, gc) ∧ rm = some (1, gm) ∧ Q gc gm) ∨ (∃ gc gm, rc = some (0, gc) ∧ rm = some (0, gm) ∧ FL c0 m0 gc gm)
theorem RS_ok {c0 m0 gc gm : ob_St} {Q : ob_St → ob_St → Prop} (h : Q gc gm) : RS c0 m0 Q (some (1, gc)) (some (1, gm)) := Or.inl ⟨gc, gm, rfl, rfl, h⟩
theorem RS_b {c0 m0 : ob_St} {Q Q' : ob_St → ob_St → Prop} {rc rm : Option (Int32 × ob_St)} {kc km : ob_St → Option (Int32 × ob_St)} (h : RS c0 m0 Q rc rm) (hk : ∀ gc gm, Q gc gm → RS c0 m0 Q' (kc gc) (km gm)) : RS c0 m0 Q' (rc.bind fun v => if v.1 = 0 then some (0, v.2) else kc v.2) (rm.bind fun v => if v.1 = 0 then some (0, v.2) else km v.2) := by
  rcases h with ⟨gc, gm, e1, e2, q⟩ | ⟨gc, gm, e1, e2, q⟩
  · rw [e1, e2]
    show RS c0 m0 Q' (if (1 : Int32) = 0 then some (0, gc) else kc gc) (if (1 : Int32) = 0 then some (0, gm) else km gm)
    rw [if_neg (by decide), if_neg (by decide)]
    exact hk gc gm q
  · rw [e1, e2]
    exact Or.inr ⟨gc, gm, rfl, rfl, q⟩
theorem RS_zc {c0 m0 : ob_St} {Q : ob_St → ob_St → Prop} {rc rm : Option (Int32 × ob_St)} (h : RS c0 m0 Q rc rm) : RS c0 m0 Q (rc.bind fun v => (ob_zr v.1).bind fun z => some (z, v.2)) rm := by
  rcases h with ⟨gc, gm, e1, e2, q⟩ | ⟨gc, gm, e1, e2, q⟩
  · rw [e1]; exact Or.inl ⟨gc, gm, rfl, e2, q⟩
  · rw [e1]; exact Or.inr ⟨gc, gm, rfl, e2, q⟩
theorem RS_zm {c0 m0 : ob_St} {Q : ob_St → ob_St → Prop} {rc rm : Option (Int32 × ob_St)} (h : RS c0 m0 Q rc rm) : RS c0 m0 Q rc (rm.bind fun v => (ob_zr v.1).bind fun z => some (z, v.2)) := by
  rcases h with ⟨gc, gm, e1, e2, q⟩ | ⟨gc, gm, e1, e2, q⟩
  · rw [e2]; exact Or.inl ⟨gc, gm, e1, rfl, q⟩
  · rw [e2]; exact Or.inr ⟨gc, gm, e1, rfl, q⟩
theorem RS_im {c0 m0 : ob_St} {Q Q' : ob_St → ob_St → Prop} {rc rm : Option (Int32 × ob_St)} (h : RS c0 m0 Q rc rm) (hq : ∀ gc gm, Q gc gm → Q' gc gm) : RS c0 m0 Q' rc rm := by
  rcases h with ⟨gc, gm, e1, e2, q⟩ | h
  · exact Or.inl ⟨gc, gm, e1, e2, hq _ _ q⟩
  · exact Or.inr h
theorem c_Tk_fr {b : Nat → Int32} {n m : Nat} {g g' : ob_St} (h58 : g'.1 58 = g.1 58) (h59 : g'.1 59 = g.1 59) (h60 : g'.2 60 = g.2 60) (h : c_Tk b n m g) : c_Tk b n m g' := by
  unfold c_Tk at h ⊢
  rw [h58, h59, h60]
  exact h
theorem m_TK_fr {b : Nat → Int32} {n p : Nat} {g g' : ob_St} (h0 : ∀ i, 10 ≤ i → i ≤ 14 → g'.1 0 i = g.1 0 i) (h7 : g'.1 7 = g.1 7) (h : m_TK b n p g) : m_TK b n p g' := by
  unfold m_TK at h ⊢
  rw [h0 10 (by omega) (by omega), h0 11 (by omega) (by omega), h0 12 (by omega) (by omega), h0 13 (by omega) (by omega), h0 14 (by omega) (by omega), h7]
  exact h
/-- what is written elsewhere leaves the tokens -/
theorem BR_c {c0 m0 gc gm gc' : ob_St} {b : Nat → Int32} {n m i : Nat} (h : BR c0 m0 b n m i gc gm) (h1 : ∀ x, ¬ (32 ≤ x ∧ x < 40) → gc'.1 x = gc.1 x) (h2 : ∀ x, x ≠ 62 → gc'.2 x = gc.2 x) : BR c0 m0 b n m i gc' gm := by
  obtain ⟨⟨t1, t2, t3, t4, t5⟩, f1, f2, f3⟩ := h
  exact ⟨⟨c_Tk_fr (h1 58 (by omega)) (h1 59 (by omega)) (h2 60 (by omega)) t1, t2, by rw [h1 56 (by omega)]; exact t3, t4, t5⟩, ⟨fun x a c => by rw [h1 x c]; exact f1.1 x a c, fun x a => by rw [h2 x a]; exact f1.2 x a⟩, f2, by rw [h1 56 (by omega)]; exact f3⟩
theorem BR_m {c0 m0 gc gm gm' : ob_St} {b : Nat → Int32} {n m i : Nat} (h : BR c0 m0 b n m i gc gm) (h1 : ∀ x, x ≠ 2 → x ≠ 8 → gm'.1 x = gm.1 x) (h2 : gm'.2 = gm.2) : BR c0 m0 b n m i gc gm' := by
  obtain ⟨⟨t1, t2, t3, t4, t5⟩, f1, f2, f3⟩ := h
  exact ⟨⟨t1, t2, t3, ⟨by rw [h1 0 (by omega) (by omega)]; exact t4.1, t4.2.1, fun j hj => by rw [h1 6 (by omega) (by omega)]; exact t4.2.2 j hj⟩, m_TK_fr (fun j _ _ => by rw [h1 0 (by omega) (by omega)]) (h1 7 (by omega) (by omega)) t5⟩, f1, ⟨fun x a c d e => by rw [h1 x c e]; exact f2.1 x a c d e, fun j hj => by rw [h1 0 (by omega) (by omega)]; exact f2.2.1 j hj, by rw [h2]; exact f2.2.2⟩, by rw [h1 0 (by omega) (by omega)]; exact f3⟩
theorem TR_lt {b : Nat → Int32} {n m i : Nat} {gc gm : ob_St} (h : TR b n m i gc gm) (hk : lx_k b n (lx_ps b n i) ≠ 0) : i < m := by
  obtain ⟨⟨t1, t2, t3, t4⟩, t5, _⟩ := h
  by_cases e : i = m
  · subst e; exact absurd t4 hk
  · omega
theorem TR_501 {b : Nat → Int32} {n m i : Nat} {gc gm : ob_St} (h : TR b n m i gc gm) : i < 501 := by
  have := h.1.1
  have := h.2.1
  omega
theorem c_isNext {b : Nat → Int32} {n m i k : Nat} {gc gm : ob_St} (h : TR b n m i gc gm) (hk : k < 100) : f_X7_isNext gc 56 (nI k) = some (bI (decide (lx_k b n (lx_ps b n i) = k))) := by
  have h5 := TR_501 h
  have hle := lx_k_le (b := b) (n := n) (p := lx_ps b n i)
  unfold f_X7_isNext
  rw [ev_r56_3, Option.bind_some, ev_r57_0, Option.bind_some, ev_g56, Option.bind_some, h.2.2.1, ev_a58 h5, Option.bind_some, (h.1.2.1 i h.2.1).1]
  by_cases c : lx_k b n (lx_ps b n i) = k
  · rw [if_pos (by rw [c]), decide_eq_true c]; rfl
  · rw [if_neg (fun z => c ((nI_eq (by omega) (by omega)).mp z)), decide_eq_false c]; rfl
theorem nI_64 {a c : Nat} (ha : a < 2 ^ 31) (hc : c < 2 ^ 31) : (nI a).toInt64 = (nI c).toInt64 ↔ a = c := by
  constructor
  · intro h
    have h := congrArg Int64.toInt h
    rw [Int32.toInt_toInt64, Int32.toInt_toInt64, nI_toInt ha, nI_toInt hc] at h
    omega
  · intro h; rw [h]
theorem c_isKeyword {b : Nat → Int32} {n m i k : Nat} {gc gm : ob_St} (h : TR b n m i gc gm) (hk : k < 20) : f_X7_isKeyword gc 56 (nI (kw_s k)) = some (bI (decide (kq b n (lx_ps b n i) = some k))) := by
  have h5 := TR_501 h
  have e : f_X7_isNext gc 56 5 = some (bI (decide (lx_k b n (lx_ps b n i) = 5))) := c_isNext h (k := 5) (by omega)
  unfold f_X7_isKeyword
  rw [e, ev_ck56, Option.bind_some]
  by_cases c : lx_k b n (lx_ps b n i) = 5
  · rw [decide_eq_true c]
    show (if (1 : Int32) = 0 then some 0 else _) = _
    cases hq : kq b n (lx_ps b n i) with
    | none => exact absurd c (kq_none.mp hq)
    | some k' =>
      obtain ⟨k1, k2, k3⟩ := kq_lt hq
      rw [if_neg (by decide), ev_r56_3, Option.bind_some, ev_r57_2, Option.bind_some, ev_g56, Option.bind_some, h.2.2.1, ev_a60 h5, Option.bind_some, (h.1.2.2.1 i (TR_lt h (by omega))).2 (by omega), k3]
      have s1 := kw_si k hk
      have s2 := kw_si k' k1
      by_cases e : k' = k
      · subst e
        rw [if_pos rfl, decide_eq_true rfl]; rfl
      · rw [if_neg (fun z => e (by have := (nI_64 (by omega) (by omega)).mp z; rw [← s2.2.1, this, s1.2.1])), decide_eq_false (fun z => e (by cases z; rfl))]
        rfl
  · have : kq b n (lx_ps b n i) = none := kq_none.mpr c
    rw [decide_eq_false c, this]
    rfl
/-- both go on -/
def KP (gc gm gc' gm' : ob_St) : Prop := (∀ x, x ≠ 56 → gc'.1 x = gc.1 x) ∧ gc'.2 = gc.2 ∧ (∀ x, x ≠ 0 → x ≠ 7 → gm'.1 x = gm.1 x)
theorem lx_end {b : Nat → Int32} {n p : Nat} (hp : p ≤ n) (h : lx_k b n p = 0) : sk b n p = n ∧ lx_nx b n p = n := by
  have h1 := sk_le (b := b) hp
  have c : n ≤ sk b n p := by
    unfold lx_k at h
    by_cases c : n ≤ sk b n p
    · exact c
    rw [if_neg c] at h
    by_cases c2 : tA (b (sk b n p)) = true
    · rw [if_pos c2] at h
      exact absurd h lx_rk_ok
    rw [if_neg c2] at h
    by_cases c3 : b (sk b n p) = 59
    · rw [if_pos c3] at h; omega
    · rw [if_neg c3] at h; omega
  exact ⟨by omega, by unfold lx_nx; rw [if_pos c]⟩
theorem go_on {c0 m0 gc gm : ob_St} {b : Nat → Int32} {n m i : Nat} (h : BR c0 m0 b n m i gc gm) : ∃ gc' gm' i', f_X7_pass gc 56 = some gc' ∧ f_X12_next gm 0 = some gm' ∧ BR c0 m0 b n m i' gc' gm' ∧ KP gc gm gc' gm' ∧ i ≤ i' ∧ (lx_k b n (lx_ps b n i) ≠ 0 → i' = i + 1) ∧ gc'.1 56 6 = gc.1 56 6 ∧ gc'.1 56 7 = gc.1 56 7 := by
  obtain ⟨t, f1, f2, f3⟩ := id h
  obtain ⟨t1, t2, t3, t4, t5⟩ := id t
  have h5 := TR_501 t
  have hps := lx_ps_le (b := b) (n := n) i
  obtain ⟨gm', e1, e2, e3⟩ := m_next (p := lx_nx b n (lx_ps b n i)) t4 t5.1 (lx_nx_le hps).2.1
  have f2' : m_Fr m0 gm' := ⟨fun x a c d e => by rw [e2.1 x a d]; exact f2.1 x a c d e, fun j hj => by rw [e2.2.1 j (by omega)]; exact f2.2.1 j hj, by rw [e2.2.2]; exact f2.2.2⟩
  have pass : f_X7_pass gc 56 = if lx_k b n (lx_ps b n i) = 0 then some gc else some (ob_up gc.1 56 5 (nI (i + 1)), gc.2) := by
    have hle := lx_k_le (b := b) (n := n) (p := lx_ps b n i)
    unfold f_X7_pass
    rw [ev_r56_3, Option.bind_some, ev_r57_0, Option.bind_some, ev_g56, Option.bind_some, t3, ev_a58 h5, Option.bind_some, (t1.2.1 i t2).1]
    by_cases c : lx_k b n (lx_ps b n i) = 0
    · rw [if_pos (show nI (lx_k b n (lx_ps b n i)) = 0 by rw [c]; rfl), if_pos c]
    · rw [if_neg (nI_ne0 (by omega) (by omega)), if_neg c, Option.bind_some, nI_1, ev_p56, Option.bind_some]
  rw [pass, e1]
  by_cases c : lx_k b n (lx_ps b n i) = 0
  · rw [if_pos c]
    obtain ⟨z1, z2⟩ := lx_end hps c
    refine ⟨gc, gm', i, rfl, rfl, ⟨⟨t1, t2, t3, m_T_fr e2 t4, ?_⟩, f1, f2', by rw [e2.2.1 15 (by omega)]; exact f3⟩, ⟨fun _ _ => rfl, rfl, e2.1⟩, Nat.le_refl _, fun z => absurd c z, rfl, rfl⟩
    rw [z2] at e3
    have n0 : lx_k b n n = 0 := by unfold lx_k; rw [sk_n, if_pos (Nat.le_refl _)]
    have n1 : lx_nx b n n = n := by unfold lx_nx; rw [sk_n, if_pos (Nat.le_refl _)]
    obtain ⟨a1, a2, a3, a4, a5⟩ := e3
    rw [n1] at a1
    rw [sk_n] at a2
    rw [n0] at a3
    exact ⟨by rw [z2]; exact a1, by rw [z1]; exact a2, by rw [c]; exact a3, fun z => by omega, fun z => by omega⟩
  · rw [if_neg c]
    have him := TR_lt t c
    have q1 : ∀ x, x ≠ 56 → ob_up gc.1 56 5 (nI (i + 1)) x = gc.1 x := fun x hx => pu_up_ne hx
    have q2 : ∀ j, j ≠ 5 → ob_up gc.1 56 5 (nI (i + 1)) 56 j = gc.1 56 j := fun j hj => by rw [pu_up_eq, pu_upd_ne hj]
    refine ⟨(ob_up gc.1 56 5 (nI (i + 1)), gc.2), gm', i + 1, rfl, rfl, ⟨⟨c_Tk_fr (q1 58 (by omega)) (q1 59 (by omega)) rfl t1, by omega, by show ob_up gc.1 56 5 (nI (i + 1)) 56 5 = _; rw [pu_up_eq, pu_upd_eq], m_T_fr e2 t4, e3⟩, ⟨fun x a c => by rw [← f1.1 x a c]; exact q1 x a, f1.2⟩, f2', ?_⟩, ⟨q1, rfl, e2.1⟩, by omega, fun _ => rfl, q2 6 (by omega), q2 7 (by omega)⟩
    show ob_up gc.1 56 5 (nI (i + 1)) 56 1 = _
    rw [q2 1 (by omega), e2.2.1 15 (by omega)]
    exact f3
/-- both find a fault -/
theorem FL_at {c0 m0 gc gm : ob_St} {x y : Int32} {Q : ob_St → ob_St → Prop} (f1 : c_Fr c0 gc) (f2 : m_Fr m0 gm) : RS c0 m0 Q (f_X7_failsAt gc 56 x y) (f_X12_bad gm 0 x y) := by
  refine Or.inr ⟨(ob_up (ob_up gc.1 56 1 x) 56 2 y, gc.2), (ob_up (ob_up gm.1 0 15 x) 0 16 y, gm.2), rfl, rfl, ⟨fun z a c => by rw [← f1.1 z a c]; exact (pu_up_ne a).trans (pu_up_ne a), f1.2⟩, ⟨fun z a c d e => by rw [← f2.1 z a c d e]; exact (pu_up_ne a).trans (pu_up_ne a), fun j hj => ?_, f2.2.2⟩, ?_, ?_⟩
  · show ob_up (ob_up gm.1 0 15 x) 0 16 y 0 j = _
    rw [pu_up_eq, pu_upd_ne (by omega), pu_up_eq, pu_upd_ne (by omega)]
    exact f2.2.1 j hj
  · show ob_up (ob_up gc.1 56 1 x) 56 2 y 56 1 = ob_up (ob_up gm.1 0 15 x) 0 16 y 0 15
    rw [pu_up_eq, pu_upd_ne (by omega), pu_up_eq, pu_upd_eq, pu_up_eq, pu_upd_ne (by omega), pu_up_eq, pu_upd_eq]
  · show ob_up (ob_up gc.1 56 1 x) 56 2 y 56 2 = ob_up (ob_up gm.1 0 15 x) 0 16 y 0 16
    rw [pu_up_eq, pu_upd_eq, pu_up_eq, pu_upd_eq]
theorem FL_here {c0 m0 gc gm : ob_St} {b : Nat → Int32} {n m i : Nat} {x : Int32} {Q : ob_St → ob_St → Prop} (h : BR c0 m0 b n m i gc gm) : RS c0 m0 Q (f_X7_fails gc 56 x) (f_X12_badHere gm 0 x) := by
  obtain ⟨t, f1, f2, f3⟩ := id h
  unfold f_X7_fails f_X12_badHere
  rw [ev_r56_3, Option.bind_some, ev_r57_1, Option.bind_some, ev_g56, Option.bind_some, t.2.2.1, ev_a59 (TR_501 t), Option.bind_some, (t.1.2.1 i t.2.1).2, ev_g0, Option.bind_some, t.2.2.2.2.2.1, ev_ck56, ev_ck0]
  exact RS_zc (RS_zm (FL_at f1 f2))
theorem FL_zz {c0 m0 gc gm : ob_St} {b : Nat → Int32} {n m i : Nat} {x : Int32} {Q : ob_St → ob_St → Prop} (h : BR c0 m0 b n m i gc gm) : RS c0 m0 Q ((ob_ck 7 56 (f_X7_fails gc 56 x)).bind fun v => (ob_zr v.1).bind fun z => some (z, v.2)) ((ob_ck 12 0 (f_X12_badHere gm 0 x)).bind fun v => (ob_zr v.1).bind fun z => some (z, v.2)) := by
  rw [ev_ck56, ev_ck0]
  exact RS_zc (RS_zm (FL_here h))
