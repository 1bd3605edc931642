/-! richest: the class -/
def c_HF (g0 g : ob_St) : Prop := (∀ m, m ≠ 120 → m ≠ 121 → g.1 m = g0.1 m) ∧ (∀ m, m ≠ 117 → m ≠ 118 → g.2 m = g0.2 m)
theorem c_M_HF {S : Nat → Int32} {g g' : ob_St} (h : c_HF g g') (hM : c_M 24 S g) (hW : sp_WF S) : c_M 24 S g' := c_M_fr (wf_4 hW) (fun m h1 h2 => h.1 m (by omega) (by omega)) hM
theorem c_Lat_HF {S : Nat → Int32} {g g' : ob_St} (h : c_HF g g') (hL : c_Lat S g) (hW : sp_WF S) : c_Lat S g' := by
  have h4 := wf_4 hW
  refine ⟨⟨fun i hi => ?_, fun t j ht hj => ?_⟩, fun k hk t j ht hj => ?_⟩
  · rw [h.2 70 (by omega) (by omega)]; exact hL.1.1 i hi
  · rw [h.1 68 (by omega) (by omega), h.1 69 (by omega) (by omega)]; exact hL.1.2 t j ht hj
  · exact c_H_fr (fun m m1 m2 => ⟨h.1 m (by omega) (by omega), h.2 m (by omega) (by omega)⟩) (hL.2 k hk t j ht hj)
theorem c_K_HF {g g' : ob_St} (h : c_HF g g') : c_K g g' := fun m hm => ⟨h.1 m (by omega) (by omega), h.2 m (by omega) (by omega)⟩
theorem hx_m {st : Nat} (h : st < 2) : ob_rR 21 116 (nI st) = some (117 + st) := by rcases (by omega : st = 0 ∨ st = 1) with rfl | rfl <;> rfl
theorem hx_p {st : Nat} (h : st < 2) : ob_rR 20 119 (nI st) = some (120 + st) := by rcases (by omega : st = 0 ∨ st = 1) with rfl | rfl <;> rfl
theorem hx_k {st : Nat} (h : st < 2) : ob_kd (117 + st) = 15 ∧ ob_ln (117 + st) = 91 ∧ ob_kd (120 + st) = 14 ∧ ob_ln (120 + st) = 91 := by rcases (by omega : st = 0 ∨ st = 1) with rfl | rfl <;> exact ⟨rfl, rfl, rfl, rfl⟩
def c_DP (S : Nat → Int32) (k : Nat) (e : Int32) (t j st : Nat) (g : ob_St) : Prop := g.2 (117 + st) (nd t j) = (sp_dp S k e (sN S 2 - t) t j (decide (st = 1))).1 ∧ g.1 (120 + st) (nd t j) = nI (sp_dp S k e (sN S 2 - t) t j (decide (st = 1))).2
theorem c_judge {S : Nat → Int32} {g : ob_St} {k t j st ns : Nat} {e : Int32} (hW : sp_WF S) (hM : c_M 24 S g) (hL : c_Lat S g) (hk : k < sN S 29) (ht : t ≤ sN S 2) (hj : j ≤ t) (hst : st < ns) (hns : ns = if sp_o S k 4 = 2 then 2 else 1)
    (hH : t < sN S 2 → ∀ j' st', j' ≤ t + 1 → st' < ns → c_DP S k e (t + 1) j' st' g) :
    ∃ g', f_X2_judge g 115 (72 + 8 * k) (28 + k) (nI t) (nI (nd t j)) (nI st) e = some g' ∧ (∀ m, m ≠ 120 + st → g'.1 m = g.1 m) ∧ (∀ m, m ≠ 117 + st → g'.2 m = g.2 m) ∧ (∀ x, x ≠ nd t j → g'.1 (120 + st) x = g.1 (120 + st) x ∧ g'.2 (117 + st) x = g.2 (117 + st) x) ∧ c_DP S k e t j st g' := by
  have h12 := wf_12 hW
  have h4 := wf_4 hW
  have hn := c_Sh_k (k := k) (by omega)
  have hl := nd_lt (t := t) (j := j) (by omega) hj
  have hns2 : ns ≤ 2 := by rw [hns]; split <;> omega
  have hs2 : st < 2 := by omega
  obtain ⟨kd1, ln1, kd2, ln2⟩ := hx_k hs2
  have hD : g.1 (72 + 8 * k + 7) (nd t j) = sp_D S k t j := (hL.2 k hk t j ht hj).2.2.2.2
  have gin : gv_i S k t j (decide (st = 1)) = true → 1 < ns := by
    intro z
    have z2 := gv_in (S := S) (k := k) (fun q => by
      have q := of_decide_eq_true q
      by_cases c : sp_o S k 4 = 2
      · exact c
      · rw [if_neg c] at hns
        omega) z
    rw [hns, if_pos z2]
    omega
  generalize hi : gv_i S k t j (decide (st = 1)) = i at gin
  have head : f_X2_judge g 115 (72 + 8 * k) (28 + k) (nI t) (nI (nd t j)) (nI st) e = B_X2_judge_25 g 115 (72 + 8 * k) (28 + k) (nI t) (nI (nd t j)) (nI st) e (bI i) := by
    rw [← hi]
    unfold f_X2_judge B_X2_judge_20 gv_i
    rw [es_2 hn, Option.bind_some, es_b1 hn, Option.bind_some, es_a7 hn hl, Option.bind_some, hD]
    rcases (by omega : st = 0 ∨ st = 1) with rfl | rfl
    · rw [if_neg (by decide)]
      by_cases c : sp_D S k t j = 3
      · rw [if_pos c, decide_eq_true c]; rfl
      · rw [if_neg c, decide_eq_false c]; rfl
    · rw [if_pos (show nI 1 = 1 from rfl)]; rfl
  generalize hg4 : ((ob_up g.1 (120 + st) (nd t j) 0, g.2) : ob_St) = g4
  have g41 : g4.1 = ob_up g.1 (120 + st) (nd t j) 0 := by rw [← hg4]
  have g42 : g4.2 = g.2 := by rw [← hg4]
  have HF4 : c_HF g g4 := ⟨fun m h1 h2 => by rw [g41, pu_up_ne (by omega)], fun m _ _ => by rw [g42]⟩
  have hM4 := c_M_HF HF4 hM hW
  have hL4 := c_Lat_HF HF4 hL hW
  have h5 : g4.1 24 5 = nI (sN S 2) := hM4.2.2.1.trans (wf_2 hW)
  have e70 : g4.2 70 t = sp_pw S t := hL4.1.1 t (by omega)
  have w4 : ob_wI g (120 + st) (nI (nd t j)) 0 = some g4 := by rw [pu_wI (n := 120 + st) kd2 rfl (by rw [ln2]; exact hl), hg4]
  -- where it ends
  have fin76 : ∀ m, B_X2_judge_25 g 115 (72 + 8 * k) (28 + k) (nI t) (nI (nd t j)) (nI st) e (bI i) = some (g4.1, ob_upL g4.2 (117 + st) (nd t j) m) → sp_dp S k e (sN S 2 - t) t j (decide (st = 1)) = (m, 0) →
      ∃ g', f_X2_judge g 115 (72 + 8 * k) (28 + k) (nI t) (nI (nd t j)) (nI st) e = some g' ∧ (∀ m, m ≠ 120 + st → g'.1 m = g.1 m) ∧ (∀ m, m ≠ 117 + st → g'.2 m = g.2 m) ∧ (∀ x, x ≠ nd t j → g'.1 (120 + st) x = g.1 (120 + st) x ∧ g'.2 (117 + st) x = g.2 (117 + st) x) ∧ c_DP S k e t j st g' := by
    intro m hB hdp
    refine ⟨(g4.1, ob_upL g4.2 (117 + st) (nd t j) m), by rw [head, hB], fun a ha => ?_, fun a ha => ?_, fun x hx => ⟨?_, ?_⟩, ?_, ?_⟩
    · show g4.1 a = _
      rw [g41, pu_up_ne ha]
    · show ob_upL g4.2 (117 + st) (nd t j) m a = _
      rw [pu_upL_ne ha, g42]
    · show g4.1 _ x = _
      rw [g41, pu_up_eq, pu_upd_ne hx]
    · show ob_upL g4.2 (117 + st) (nd t j) m (117 + st) x = _
      rw [pu_upL_eq, pu_updL_ne hx, g42]
    · show ob_upL g4.2 (117 + st) (nd t j) m (117 + st) (nd t j) = _
      rw [pu_upL_eq, pu_updL_eq, hdp]
    · show g4.1 (120 + st) (nd t j) = _
      rw [g41, pu_up_eq, pu_upd_eq, hdp]
      rfl
  have b25 : B_X2_judge_25 g 115 (72 + 8 * k) (28 + k) (nI t) (nI (nd t j)) (nI st) e (bI i) = (if (sp_gv S k e t j i).getD (-1) = -1 then (if nI t < nI (sN S 2) then (if bI i = 0 then (B_X2_judge_123 g4 115 (72 + 8 * k) (nI t) (nI (nd t j)) (nI st) (bI i) 0) else (B_X2_judge_123 g4 115 (72 + 8 * k) (nI t) (nI (nd t j)) (nI st) (bI i) 1)) else (B_X2_judge_76 g4 115 (nI t) (nI (nd t j)) (nI st) ((sp_gv S k e t j i).getD (-1)))) else (B_X2_judge_76 g4 115 (nI t) (nI (nd t j)) (nI st) ((sp_gv S k e t j i).getD (-1)))) := by
    unfold B_X2_judge_25
    rw [c_givenAt hW hM hL hk ht hj, ev_ck115, Option.bind_some, ev_r115_2, Option.bind_some, hx_p hs2, Option.bind_some, w4, Option.bind_some, ev_r115_0, Option.bind_some, ev_r67_0, Option.bind_some, ev_g24, Option.bind_some, h5]
  have w76 : ∀ v, ob_wL g4 (117 + st) (nI (nd t j)) v = some (g4.1, ob_upL g4.2 (117 + st) (nd t j) v) := fun v => pu_wL (n := 117 + st) kd1 rfl (by rw [ln1]; exact hl)
  cases h : sp_gv S k e t j i with
  | some v =>
    have hb := gv_bd hW hk ht hj h
    have hdp : sp_dp S k e (sN S 2 - t) t j (decide (st = 1)) = (-(v * sp_pw S t), 0) := by
      cases sN S 2 - t with
      | zero => unfold sp_dp; rw [hi, h]; rfl
      | succ d => unfold sp_dp; rw [hi, h]; rfl
    refine fin76 _ ?_ hdp
    rw [b25, h, Option.getD_some, if_neg (bd_n1 hb)]
    unfold B_X2_judge_76
    rw [ev_r115_1, Option.bind_some, hx_m hs2, Option.bind_some, if_neg (bd_n1 hb), ev_r115_0, Option.bind_some, ev_r67_3, Option.bind_some, ev_a70 (by omega), Option.bind_some, w76, e70, Int64.neg_mul]
    rfl
  | none =>
    by_cases hN : t = sN S 2
    · have hdp : sp_dp S k e (sN S 2 - t) t j (decide (st = 1)) = (0, 0) := by
        rw [show sN S 2 - t = 0 by omega]
        unfold sp_dp
        rw [hi, h]; rfl
      refine fin76 _ ?_ hdp
      rw [b25, h, Option.getD_none, if_pos rfl, if_neg (nI_nlt (by omega) (by omega))]
      unfold B_X2_judge_76
      rw [ev_r115_1, Option.bind_some, hx_m hs2, Option.bind_some, if_pos rfl, w76]
      rfl
    · obtain ⟨d, hd⟩ : ∃ d, sN S 2 - t = d + 1 := ⟨sN S 2 - t - 1, by omega⟩
      have hlt : t < sN S 2 := by omega
      have hnx : (if i = true then 1 else 0) < ns := by
        cases i with
        | true => exact gin rfl
        | false => show 0 < ns; omega
      generalize hx : (if i = true then 1 else 0) = nx at hnx
      have hnx2 : nx < 2 := by omega
      obtain ⟨kx1, lx1, kx2, lx2⟩ := hx_k hnx2
      have hnb : decide (nx = 1) = i := by
        rw [← hx]
        cases i <;> rfl
      have dpn := hH hlt
      have l1 := nd_lt (t := t + 1) (j := j + 1) (by omega) (by omega)
      have l2 := nd_lt (t := t + 1) (j := j) (by omega) (by omega)
      have hd1 : sN S 2 - (t + 1) = d := by omega
      obtain ⟨u1, u2⟩ := dpn (j + 1) nx (by omega) hnx
      obtain ⟨v1, v2⟩ := dpn j nx (by omega) hnx
      rw [hd1, hnb] at u1 u2 v1 v2
      have bu := (dp_best (e := e) hW hk d (t + 1) (j + 1) i (by omega) (by omega)).1
      have bv := (dp_best (e := e) hW hk d (t + 1) j i (by omega) (by omega)).1
      have hp2 : 2 ^ d ≤ 2 ^ 12 := Nat.pow_le_pow_right (by omega) (by omega)
      have hdp : sp_dp S k e (sN S 2 - t) t j (decide (st = 1)) = (if (sp_dp S k e d (t + 1) j i).1 + sp_gt S k t j i false < (sp_dp S k e d (t + 1) (j + 1) i).1 + sp_gt S k t j i true ∨
          ((sp_dp S k e d (t + 1) (j + 1) i).1 + sp_gt S k t j i true = (sp_dp S k e d (t + 1) j i).1 + sp_gt S k t j i false ∧ (sp_dp S k e d (t + 1) (j + 1) i).2 * 2 + 1 < (sp_dp S k e d (t + 1) j i).2 * 2)
          then ((sp_dp S k e d (t + 1) (j + 1) i).1 + sp_gt S k t j i true, (sp_dp S k e d (t + 1) (j + 1) i).2 * 2 + 1)
          else ((sp_dp S k e d (t + 1) j i).1 + sp_gt S k t j i false, (sp_dp S k e d (t + 1) j i).2 * 2)) := by
        rw [hd]
        conv => lhs; unfold sp_dp
        rw [hi, h]
        rfl
      generalize hU : sp_dp S k e d (t + 1) (j + 1) i = U at *
      generalize hV : sp_dp S k e d (t + 1) j i = V at *
      have ru : ob_rL g4 (117 + nx) (nI (nd (t + 1) (j + 1))) = some U.1 := by rw [pu_rL (n := 117 + nx) kx1 rfl (by rw [lx1]; exact l1), g42, u1]
      have rv : ob_rL g4 (117 + nx) (nI (nd (t + 1) j)) = some V.1 := by rw [pu_rL (n := 117 + nx) kx1 rfl (by rw [lx1]; exact l2), g42, v1]
      have np : ∀ j', j' ≤ t + 1 → g4.1 (120 + nx) (nd (t + 1) j') = g.1 (120 + nx) (nd (t + 1) j') := by
        intro j' hj'
        rw [g41]
        by_cases c : nx = st
        · rw [c, pu_up_eq, pu_upd_ne (fun q => by have := (nd_inj hj' hj q).1; omega)]
        · rw [pu_up_ne (by omega)]
      have pu : ob_rI g4 14 (120 + nx) (nI (nd (t + 1) (j + 1))) = some (nI U.2) := by rw [pu_rI (n := 120 + nx) kx2 rfl (by rw [lx2]; exact l1), np _ (by omega), u2]
      have pv : ob_rI g4 14 (120 + nx) (nI (nd (t + 1) j)) = some (nI V.2) := by rw [pu_rI (n := 120 + nx) kx2 rfl (by rw [lx2]; exact l2), np _ (by omega), v2]
      have gu := c_gainTo (g := g4) (j := j) (i := i) (u := true) hW hM4 hL4 hk hlt hj
      have gd := c_gainTo (g := g4) (j := j) (i := i) (u := false) hW hM4 hL4 hk hlt hj
      rw [if_pos rfl] at gu
      rw [if_neg (by decide)] at gd
      have m2 : ∀ x, nI x * 2 = nI (x * 2) := fun x => pk_mul x 2
      -- the last two writes
      have b257 : ∀ (y13 y15 : Int64) (x17 x18 : Int32) (b : Bool), B_X2_judge_257 g4 115 (nI (nd t j)) (nI st) y13 y15 x17 x18 (bI b) = some (ob_up g4.1 (120 + st) (nd t j) (if b = true then x17 else x18), ob_upL g4.2 (117 + st) (nd t j) (if b = true then y13 else y15)) := by
        intro y13 y15 x17 x18 b
        have wI2 : ∀ (y : Int64) (x : Int32), ob_wI ((g4.1, ob_upL g4.2 (117 + st) (nd t j) y) : ob_St) (120 + st) (nI (nd t j)) x = some (ob_up g4.1 (120 + st) (nd t j) x, ob_upL g4.2 (117 + st) (nd t j) y) := fun y x => pu_wI (n := 120 + st) kd2 rfl (by rw [ln2]; exact hl)
        unfold B_X2_judge_257 B_X2_judge_280
        rw [ev_r115_1, Option.bind_some, hx_m hs2, Option.bind_some, w76, Option.bind_some, w76, Option.bind_some, ev_r115_2, Option.bind_some, Option.bind_some, hx_p hs2, Option.bind_some, Option.bind_some, wI2, wI2, wI2, wI2]
        cases b <;> rfl
      have res : ∀ (b : Bool) (w : Int64 × Nat), B_X2_judge_123 g4 115 (72 + 8 * k) (nI t) (nI (nd t j)) (nI st) (bI i) (nI nx) = B_X2_judge_257 g4 115 (nI (nd t j)) (nI st) (U.1 + sp_gt S k t j i true) (V.1 + sp_gt S k t j i false) (nI (U.2 * 2 + 1)) (nI (V.2 * 2)) (bI b) →
          sp_dp S k e (sN S 2 - t) t j (decide (st = 1)) = w → (if b = true then U.1 + sp_gt S k t j i true else V.1 + sp_gt S k t j i false) = w.1 → (if b = true then nI (U.2 * 2 + 1) else nI (V.2 * 2)) = nI w.2 →
          ∃ g', f_X2_judge g 115 (72 + 8 * k) (28 + k) (nI t) (nI (nd t j)) (nI st) e = some g' ∧ (∀ m, m ≠ 120 + st → g'.1 m = g.1 m) ∧ (∀ m, m ≠ 117 + st → g'.2 m = g.2 m) ∧ (∀ x, x ≠ nd t j → g'.1 (120 + st) x = g.1 (120 + st) x ∧ g'.2 (117 + st) x = g.2 (117 + st) x) ∧ c_DP S k e t j st g' := by
        intro b w hB hw e1 e2
        refine ⟨(ob_up g4.1 (120 + st) (nd t j) (nI w.2), ob_upL g4.2 (117 + st) (nd t j) w.1), ?_, fun a ha => ?_, fun a ha => ?_, fun x hx => ⟨?_, ?_⟩, ?_, ?_⟩
        · have en : (if bI i = 0 then (B_X2_judge_123 g4 115 (72 + 8 * k) (nI t) (nI (nd t j)) (nI st) (bI i) 0) else (B_X2_judge_123 g4 115 (72 + 8 * k) (nI t) (nI (nd t j)) (nI st) (bI i) 1)) = B_X2_judge_123 g4 115 (72 + 8 * k) (nI t) (nI (nd t j)) (nI st) (bI i) (nI nx) := by
            rw [← hx]
            cases i <;> rfl
          rw [head, b25, h, Option.getD_none, if_pos rfl, if_pos (nI_lt hlt (by omega)), en, hB, b257, e1, e2]
        · show ob_up g4.1 _ _ _ a = _
          rw [pu_up_ne ha, g41, pu_up_ne ha]
        · show ob_upL g4.2 _ _ _ a = _
          rw [pu_upL_ne ha, g42]
        · show ob_up g4.1 (120 + st) _ _ (120 + st) x = _
          rw [pu_up_eq, pu_upd_ne hx, g41, pu_up_eq, pu_upd_ne hx]
        · show ob_upL g4.2 (117 + st) _ _ (117 + st) x = _
          rw [pu_upL_eq, pu_updL_ne hx, g42]
        · show ob_upL g4.2 (117 + st) (nd t j) _ (117 + st) (nd t j) = _
          rw [pu_upL_eq, pu_updL_eq, hw]
        · show ob_up g4.1 (120 + st) (nd t j) _ (120 + st) (nd t j) = _
          rw [pu_up_eq, pu_upd_eq, hw]
      have b123 : B_X2_judge_123 g4 115 (72 + 8 * k) (nI t) (nI (nd t j)) (nI st) (bI i) (nI nx) = (if (V.1 + sp_gt S k t j i false) < (U.1 + sp_gt S k t j i true) then (B_X2_judge_257 g4 115 (nI (nd t j)) (nI st) (U.1 + sp_gt S k t j i true) (V.1 + sp_gt S k t j i false) (nI (U.2 * 2 + 1)) (nI (V.2 * 2)) (bI true)) else (if (U.1 + sp_gt S k t j i true) = (V.1 + sp_gt S k t j i false) then (if nI (V.2 * 2) ≤ nI (U.2 * 2 + 1) then (B_X2_judge_257 g4 115 (nI (nd t j)) (nI st) (U.1 + sp_gt S k t j i true) (V.1 + sp_gt S k t j i false) (nI (U.2 * 2 + 1)) (nI (V.2 * 2)) (bI false)) else (B_X2_judge_257 g4 115 (nI (nd t j)) (nI st) (U.1 + sp_gt S k t j i true) (V.1 + sp_gt S k t j i false) (nI (U.2 * 2 + 1)) (nI (V.2 * 2)) (bI true))) else (B_X2_judge_257 g4 115 (nI (nd t j)) (nI st) (U.1 + sp_gt S k t j i true) (V.1 + sp_gt S k t j i false) (nI (U.2 * 2 + 1)) (nI (V.2 * 2)) (bI false)))) := by
        unfold B_X2_judge_123 B_X2_judge_252 B_X2_judge_256
        simp only [ev_r115_0, ev_r115_1, ev_r115_2, c_upFrom, c_downFrom, ev_ck67, ev_ck115, Option.bind_some, hx_m hnx2, hx_p hnx2, ru, rv, pu, pv, gu, gd, m2, nI_1]
        rfl
      by_cases c1 : V.1 + sp_gt S k t j i false < U.1 + sp_gt S k t j i true
      · refine res true _ ?_ hdp ?_ ?_
        · rw [b123, if_pos c1]
        · rw [if_pos (Or.inl c1)]; rfl
        · rw [if_pos (Or.inl c1)]; rfl
      · by_cases c2 : U.1 + sp_gt S k t j i true = V.1 + sp_gt S k t j i false
        · by_cases c3 : V.2 * 2 ≤ U.2 * 2 + 1
          · have cc : ¬ (V.1 + sp_gt S k t j i false < U.1 + sp_gt S k t j i true ∨ (U.1 + sp_gt S k t j i true = V.1 + sp_gt S k t j i false ∧ U.2 * 2 + 1 < V.2 * 2)) := fun z => by
              rcases z with z | z
              · exact c1 z
              · omega
            refine res false _ ?_ hdp ?_ ?_
            · rw [b123, if_neg c1, if_pos c2, if_pos (nI_le c3 (by omega))]
            · rw [if_neg cc]; rfl
            · rw [if_neg cc]; rfl
          · have cc : (V.1 + sp_gt S k t j i false < U.1 + sp_gt S k t j i true ∨ (U.1 + sp_gt S k t j i true = V.1 + sp_gt S k t j i false ∧ U.2 * 2 + 1 < V.2 * 2)) := Or.inr ⟨c2, by omega⟩
            refine res true _ ?_ hdp ?_ ?_
            · rw [b123, if_neg c1, if_pos c2, if_neg (nI_ge (by omega) (by omega))]
            · rw [if_pos cc]; rfl
            · rw [if_pos cc]; rfl
        · have cc : ¬ (V.1 + sp_gt S k t j i false < U.1 + sp_gt S k t j i true ∨ (U.1 + sp_gt S k t j i true = V.1 + sp_gt S k t j i false ∧ U.2 * 2 + 1 < V.2 * 2)) := fun z => by
            rcases z with z | z
            · exact c1 z
            · exact c2 z.1
          refine res false _ ?_ hdp ?_ ?_
          · rw [b123, if_neg c1, if_neg c2]
          · rw [if_neg cc]; rfl
          · rw [if_neg cc]; rfl
