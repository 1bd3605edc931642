/-! the class's lattice -/
def c_fr (x : Int32) : Int32 := if x = 99 then 13 else x
def c_C (n : Nat) (S : Nat → Int32) (k : Nat) (g : ob_St) : Prop :=
  g.1 n 0 = sp_o S k 0 ∧ g.1 n 1 = sp_o S k 1 ∧ g.1 n 2 = sp_o S k 2 ∧ g.1 n 3 = c_fr (sp_o S k 3) ∧ g.1 n 4 = sp_o S k 4 ∧
  g.1 n 5 = sp_o S k 5 ∧ g.1 n 6 = sp_o S k 6 ∧ g.1 n 7 = sp_o S k 7 ∧ g.1 n 8 = sp_o S k 8 ∧ g.1 n 9 = sp_o S k 9
def c_M (b : Nat) (S : Nat → Int32) (g : ob_St) : Prop :=
  g.1 b 3 = S 0 ∧ g.1 b 4 = S 1 ∧ g.1 b 5 = S 2 ∧ g.1 b 6 = S 29 ∧ (∀ t, t ≤ 12 → g.1 (b + 1) t = S (3 + t) ∧ g.1 (b + 2) t = S (16 + t)) ∧
  ∀ k, k < sN S 29 → c_C (b + 4 + k) S k g
theorem ew_27 {k : Nat} (h : k < 4) : ob_rR 17 27 (nI k) = some (28 + k) := by
  rw [pu_rR (K := 17) (n := 27) rfl rfl h]
  rcases (by omega : k = 0 ∨ k = 1 ∨ k = 2 ∨ k = 3) with rfl | rfl | rfl | rfl <;> rfl
theorem ew_71 {k : Nat} (h : k < 4) : ob_rR 19 71 (nI k) = some (72 + 8 * k) := by
  rw [pu_rR (K := 19) (n := 71) rfl rfl h]
  rcases (by omega : k = 0 ∨ k = 1 ∨ k = 2 ∨ k = 3) with rfl | rfl | rfl | rfl <;> rfl
theorem ew_kc {k : Nat} (h : k < 4) : ob_kd (28 + k) = 1 := by
  rcases (by omega : k = 0 ∨ k = 1 ∨ k = 2 ∨ k = 3) with rfl | rfl | rfl | rfl <;> rfl
theorem ew_gc {g : ob_St} {k f : Nat} (h : k < 4) : ob_gI g 1 (28 + k) f = some (g.1 (28 + k) f) := pu_gI (ew_kc h)
def c_Sh (n : Nat) : Prop := n = 72 ∨ n = 80 ∨ n = 88 ∨ n = 96 ∨ n = 104
theorem c_Sh_k {k : Nat} (h : k < 4) : c_Sh (72 + 8 * k) := by unfold c_Sh; omega
theorem es_0 {n : Nat} (h : c_Sh n) : ob_gR 9 n 0 = some (n + 1) := by rcases h with rfl | rfl | rfl | rfl | rfl <;> rfl
theorem es_1 {n : Nat} (h : c_Sh n) : ob_gR 9 n 1 = some (n + 2) := by rcases h with rfl | rfl | rfl | rfl | rfl <;> rfl
theorem es_2 {n : Nat} (h : c_Sh n) : ob_gR 9 n 2 = some (n + 5) := by rcases h with rfl | rfl | rfl | rfl | rfl <;> rfl
theorem es_p0 {n : Nat} (h : c_Sh n) : ob_gR 4 (n + 2) 0 = some (n + 3) := by rcases h with rfl | rfl | rfl | rfl | rfl <;> rfl
theorem es_p1 {n : Nat} (h : c_Sh n) : ob_gR 4 (n + 2) 1 = some (n + 4) := by rcases h with rfl | rfl | rfl | rfl | rfl <;> rfl
theorem es_b0 {n : Nat} (h : c_Sh n) : ob_gR 4 (n + 5) 0 = some (n + 6) := by rcases h with rfl | rfl | rfl | rfl | rfl <;> rfl
theorem es_b1 {n : Nat} (h : c_Sh n) : ob_gR 4 (n + 5) 1 = some (n + 7) := by rcases h with rfl | rfl | rfl | rfl | rfl <;> rfl
theorem es_k {n : Nat} (h : c_Sh n) : (ob_kd (n + 1) = 15 ∧ ob_ln (n + 1) = 91) ∧ (ob_kd (n + 3) = 15 ∧ ob_ln (n + 3) = 91) ∧ (ob_kd (n + 4) = 14 ∧ ob_ln (n + 4) = 91) ∧ (ob_kd (n + 6) = 15 ∧ ob_ln (n + 6) = 91) ∧ (ob_kd (n + 7) = 14 ∧ ob_ln (n + 7) = 91) := by
  rcases h with rfl | rfl | rfl | rfl | rfl <;> exact ⟨⟨rfl, rfl⟩, ⟨rfl, rfl⟩, ⟨rfl, rfl⟩, ⟨rfl, rfl⟩, ⟨rfl, rfl⟩⟩
theorem es_a1 {n i : Nat} {g : ob_St} (h : c_Sh n) (hi : i < 91) : ob_rL g (n + 1) (nI i) = some (g.2 (n + 1) i) := pu_rL (es_k h).1.1 rfl (by rw [(es_k h).1.2]; exact hi)
theorem es_a3 {n i : Nat} {g : ob_St} (h : c_Sh n) (hi : i < 91) : ob_rL g (n + 3) (nI i) = some (g.2 (n + 3) i) := pu_rL (es_k h).2.1.1 rfl (by rw [(es_k h).2.1.2]; exact hi)
theorem es_a4 {n i : Nat} {g : ob_St} (h : c_Sh n) (hi : i < 91) : ob_rI g 14 (n + 4) (nI i) = some (g.1 (n + 4) i) := pu_rI (es_k h).2.2.1.1 rfl (by rw [(es_k h).2.2.1.2]; exact hi)
theorem es_a6 {n i : Nat} {g : ob_St} (h : c_Sh n) (hi : i < 91) : ob_rL g (n + 6) (nI i) = some (g.2 (n + 6) i) := pu_rL (es_k h).2.2.2.1.1 rfl (by rw [(es_k h).2.2.2.1.2]; exact hi)
theorem es_a7 {n i : Nat} {g : ob_St} (h : c_Sh n) (hi : i < 91) : ob_rI g 14 (n + 7) (nI i) = some (g.1 (n + 7) i) := pu_rI (es_k h).2.2.2.2.1 rfl (by rw [(es_k h).2.2.2.2.2]; exact hi)
theorem es_w1 {n i : Nat} {g : ob_St} {v : Int64} (h : c_Sh n) (hi : i < 91) : ob_wL g (n + 1) (nI i) v = some (g.1, ob_upL g.2 (n + 1) i v) := pu_wL (es_k h).1.1 rfl (by rw [(es_k h).1.2]; exact hi)
theorem es_w3 {n i : Nat} {g : ob_St} {v : Int64} (h : c_Sh n) (hi : i < 91) : ob_wL g (n + 3) (nI i) v = some (g.1, ob_upL g.2 (n + 3) i v) := pu_wL (es_k h).2.1.1 rfl (by rw [(es_k h).2.1.2]; exact hi)
theorem es_w4 {n i : Nat} {g : ob_St} {v : Int32} (h : c_Sh n) (hi : i < 91) : ob_wI g (n + 4) (nI i) v = some (ob_up g.1 (n + 4) i v, g.2) := pu_wI (es_k h).2.2.1.1 rfl (by rw [(es_k h).2.2.1.2]; exact hi)
theorem es_w6 {n i : Nat} {g : ob_St} {v : Int64} (h : c_Sh n) (hi : i < 91) : ob_wL g (n + 6) (nI i) v = some (g.1, ob_upL g.2 (n + 6) i v) := pu_wL (es_k h).2.2.2.1.1 rfl (by rw [(es_k h).2.2.2.1.2]; exact hi)
theorem es_w7 {n i : Nat} {g : ob_St} {v : Int32} (h : c_Sh n) (hi : i < 91) : ob_wI g (n + 7) (nI i) v = some (ob_up g.1 (n + 7) i v, g.2) := pu_wI (es_k h).2.2.2.2.1 rfl (by rw [(es_k h).2.2.2.2.2]; exact hi)
/-- powers and prices stand -/
def c_Pr (S : Nat → Int32) (g : ob_St) : Prop := (∀ i, i < 13 → g.2 70 i = sp_pw S i) ∧ ∀ t j, t ≤ sN S 2 → j ≤ t → g.1 68 (nd t j) = sp_str S t j ∧ g.1 69 (nd t j) = sp_pr S t j
theorem c_scaleAt {S : Nat → Int32} {g : ob_St} {t : Nat} (hW : sp_WF S) (hM : c_M 24 S g) (hp : ∀ i, i < 13 → g.2 70 i = sp_pw S i) (ht : t ≤ sN S 2) : f_X3_scaleAt g 67 (nI t) = some (sp_sc S t) := by
  have h12 := wf_12 hW
  have h5 : g.1 24 5 = nI (sN S 2) := hM.2.2.1.trans (wf_2 hW)
  simp (disch := omega) only [f_X3_scaleAt, h5, pk_sub, Option.bind_some, pu_add, pu_addr, pu_mul, nI_1, nI_add, pk_mul, ev_ck20, ev_g20, ev_p20, ev_r20_0, ev_r20_3, ev_r20_4, ev_r20_5, ev_r20_6, ev_r20_7, ev_r20_8, ev_r20_9, ev_r20_10, ev_r20_11, ev_a21, ev_l21, ev_w21, ev_q22_0, ev_q22_1, ev_a23, ev_l23, ev_ck24, ev_g24, ev_p24, ev_r24_0, ev_r24_1, ev_r24_2, ev_a25, ev_l25, ev_w25, ev_a26, ev_l26, ev_w26, ev_q27_0, ev_q27_1, ev_q27_2, ev_q27_3, ev_ck28, ev_g28, ev_p28, ev_ck29, ev_g29, ev_p29, ev_ck30, ev_g30, ev_p30, ev_ck31, ev_g31, ev_p31, ev_ck32, ev_g32, ev_p32, ev_r32_0, ev_r32_1, ev_r32_2, ev_a33, ev_l33, ev_w33, ev_a34, ev_l34, ev_w34, ev_q35_0, ev_q35_1, ev_q35_2, ev_q35_3, ev_ck36, ev_g36, ev_p36, ev_ck37, ev_g37, ev_p37, ev_ck38, ev_g38, ev_p38, ev_ck39, ev_g39, ev_p39, ev_ck40, ev_g40, ev_p40, ev_r40_0, ev_r40_1, ev_r40_2, ev_a41, ev_l41, ev_w41, ev_a42, ev_l42, ev_w42, ev_q43_0, ev_q43_1, ev_q43_2, ev_q43_3, ev_ck44, ev_g44, ev_p44, ev_ck45, ev_g45, ev_p45, ev_ck46, ev_g46, ev_p46, ev_ck47, ev_g47, ev_p47, ev_ck48, ev_g48, ev_p48, ev_r48_0, ev_r48_1, ev_r48_2, ev_a49, ev_l49, ev_w49, ev_a50, ev_l50, ev_w50, ev_q51_0, ev_q51_1, ev_q51_2, ev_q51_3, ev_ck52, ev_g52, ev_p52, ev_ck53, ev_g53, ev_p53, ev_ck54, ev_g54, ev_p54, ev_ck55, ev_g55, ev_p55, ev_ck56, ev_g56, ev_p56, ev_r56_0, ev_r56_3, ev_r56_4, ev_ck57, ev_g57, ev_p57, ev_r57_0, ev_r57_1, ev_r57_2, ev_r57_3, ev_r57_4, ev_a58, ev_l58, ev_w58, ev_a59, ev_l59, ev_w59, ev_a60, ev_w60, ev_a61, ev_w61, ev_a62, ev_w62, ev_ck63, ev_g63, ev_p63, ev_r63_0, ev_r63_1, ev_r63_2, ev_a64, ev_l64, ev_w64, ev_a65, ev_l65, ev_w65, ev_a66, ev_l66, ev_w66, ev_ck67, ev_g67, ev_p67, ev_r67_0, ev_r67_1, ev_r67_2, ev_r67_3, ev_r67_4, ev_r67_5, ev_a68, ev_l68, ev_w68, ev_a69, ev_l69, ev_w69, ev_a70, ev_w70, ev_q71_0, ev_q71_1, ev_q71_2, ev_q71_3, ev_ck72, ev_g72, ev_p72, ev_r72_0, ev_r72_1, ev_r72_2, ev_a73, ev_w73, ev_ck74, ev_g74, ev_p74, ev_r74_0, ev_r74_1, ev_a75, ev_w75, ev_a76, ev_l76, ev_w76, ev_ck77, ev_g77, ev_p77, ev_r77_0, ev_r77_1, ev_a78, ev_w78, ev_a79, ev_l79, ev_w79, ev_ck80, ev_g80, ev_p80, ev_r80_0, ev_r80_1, ev_r80_2, ev_a81, ev_w81, ev_ck82, ev_g82, ev_p82, ev_r82_0, ev_r82_1, ev_a83, ev_w83, ev_a84, ev_l84, ev_w84, ev_ck85, ev_g85, ev_p85, ev_r85_0, ev_r85_1, ev_a86, ev_w86, ev_a87, ev_l87, ev_w87, ev_ck88, ev_g88, ev_p88, ev_r88_0, ev_r88_1, ev_r88_2, ev_a89, ev_w89, ev_ck90, ev_g90, ev_p90, ev_r90_0, ev_r90_1, ev_a91, ev_w91, ev_a92, ev_l92, ev_w92, ev_ck93, ev_g93, ev_p93, ev_r93_0, ev_r93_1, ev_a94, ev_w94, ev_a95, ev_l95, ev_w95, ev_ck96, ev_g96, ev_p96, ev_r96_0, ev_r96_1, ev_r96_2, ev_a97, ev_w97, ev_ck98, ev_g98, ev_p98, ev_r98_0, ev_r98_1, ev_a99, ev_w99, ev_a100, ev_l100, ev_w100, ev_ck101, ev_g101, ev_p101, ev_r101_0, ev_r101_1, ev_a102, ev_w102, ev_a103, ev_l103, ev_w103, ev_ck104, ev_g104, ev_p104, ev_r104_0, ev_r104_1, ev_r104_2, ev_a105, ev_w105, ev_ck106, ev_g106, ev_p106, ev_r106_0, ev_r106_1, ev_a107, ev_w107, ev_a108, ev_l108, ev_w108, ev_ck109, ev_g109, ev_p109, ev_r109_0, ev_r109_1, ev_a110, ev_w110, ev_a111, ev_l111, ev_w111, ev_ck112, ev_g112, ev_p112, ev_r112_0, ev_r112_1, ev_r112_2, ev_a113, ev_w113, ev_a114, ev_w114, ev_ck115, ev_g115, ev_p115, ev_r115_0, ev_r115_1, ev_r115_2, ev_q116_0, ev_q116_1, ev_a117, ev_w117, ev_a118, ev_w118, ev_q119_0, ev_q119_1, ev_a120, ev_l120, ev_w120, ev_a121, ev_l121, ev_w121, ev_ck122, ev_g122, ev_p122, ev_r122_0, ev_r122_1, ev_r122_2, ev_r122_3, ev_a123, ev_w123, ev_a124, ev_w124, ev_a125, ev_l125, ev_w125]
  rw [hp _ (by omega)]
  rfl
theorem c_heldOf {S : Nat → Int32} {g : ob_St} {r t j : Nat} (hr : ob_kd r = 15) (hl : ob_ln r = 91) (hW : sp_WF S) (hM : c_M 24 S g) (ht : t ≤ sN S 2) (hj : j ≤ t) :
    f_X3_heldOf g 67 r (nI t) (nI (nd t j)) = some (sp_hd S (fun t j => g.2 r (nd t j)) t j) := by
  have h12 := wf_12 hW
  have h5 : g.1 24 5 = nI (sN S 2) := hM.2.2.1.trans (wf_2 hW)
  simp (disch := omega) only [f_X3_heldOf, h5, nI_ltI, c_upFrom, c_downFrom, Option.bind_some, pu_add, pu_addr, pu_mul, nI_1, nI_add, pk_mul, ev_ck20, ev_g20, ev_p20, ev_r20_0, ev_r20_3, ev_r20_4, ev_r20_5, ev_r20_6, ev_r20_7, ev_r20_8, ev_r20_9, ev_r20_10, ev_r20_11, ev_a21, ev_l21, ev_w21, ev_q22_0, ev_q22_1, ev_a23, ev_l23, ev_ck24, ev_g24, ev_p24, ev_r24_0, ev_r24_1, ev_r24_2, ev_a25, ev_l25, ev_w25, ev_a26, ev_l26, ev_w26, ev_q27_0, ev_q27_1, ev_q27_2, ev_q27_3, ev_ck28, ev_g28, ev_p28, ev_ck29, ev_g29, ev_p29, ev_ck30, ev_g30, ev_p30, ev_ck31, ev_g31, ev_p31, ev_ck32, ev_g32, ev_p32, ev_r32_0, ev_r32_1, ev_r32_2, ev_a33, ev_l33, ev_w33, ev_a34, ev_l34, ev_w34, ev_q35_0, ev_q35_1, ev_q35_2, ev_q35_3, ev_ck36, ev_g36, ev_p36, ev_ck37, ev_g37, ev_p37, ev_ck38, ev_g38, ev_p38, ev_ck39, ev_g39, ev_p39, ev_ck40, ev_g40, ev_p40, ev_r40_0, ev_r40_1, ev_r40_2, ev_a41, ev_l41, ev_w41, ev_a42, ev_l42, ev_w42, ev_q43_0, ev_q43_1, ev_q43_2, ev_q43_3, ev_ck44, ev_g44, ev_p44, ev_ck45, ev_g45, ev_p45, ev_ck46, ev_g46, ev_p46, ev_ck47, ev_g47, ev_p47, ev_ck48, ev_g48, ev_p48, ev_r48_0, ev_r48_1, ev_r48_2, ev_a49, ev_l49, ev_w49, ev_a50, ev_l50, ev_w50, ev_q51_0, ev_q51_1, ev_q51_2, ev_q51_3, ev_ck52, ev_g52, ev_p52, ev_ck53, ev_g53, ev_p53, ev_ck54, ev_g54, ev_p54, ev_ck55, ev_g55, ev_p55, ev_ck56, ev_g56, ev_p56, ev_r56_0, ev_r56_3, ev_r56_4, ev_ck57, ev_g57, ev_p57, ev_r57_0, ev_r57_1, ev_r57_2, ev_r57_3, ev_r57_4, ev_a58, ev_l58, ev_w58, ev_a59, ev_l59, ev_w59, ev_a60, ev_w60, ev_a61, ev_w61, ev_a62, ev_w62, ev_ck63, ev_g63, ev_p63, ev_r63_0, ev_r63_1, ev_r63_2, ev_a64, ev_l64, ev_w64, ev_a65, ev_l65, ev_w65, ev_a66, ev_l66, ev_w66, ev_ck67, ev_g67, ev_p67, ev_r67_0, ev_r67_1, ev_r67_2, ev_r67_3, ev_r67_4, ev_r67_5, ev_a68, ev_l68, ev_w68, ev_a69, ev_l69, ev_w69, ev_a70, ev_w70, ev_q71_0, ev_q71_1, ev_q71_2, ev_q71_3, ev_ck72, ev_g72, ev_p72, ev_r72_0, ev_r72_1, ev_r72_2, ev_a73, ev_w73, ev_ck74, ev_g74, ev_p74, ev_r74_0, ev_r74_1, ev_a75, ev_w75, ev_a76, ev_l76, ev_w76, ev_ck77, ev_g77, ev_p77, ev_r77_0, ev_r77_1, ev_a78, ev_w78, ev_a79, ev_l79, ev_w79, ev_ck80, ev_g80, ev_p80, ev_r80_0, ev_r80_1, ev_r80_2, ev_a81, ev_w81, ev_ck82, ev_g82, ev_p82, ev_r82_0, ev_r82_1, ev_a83, ev_w83, ev_a84, ev_l84, ev_w84, ev_ck85, ev_g85, ev_p85, ev_r85_0, ev_r85_1, ev_a86, ev_w86, ev_a87, ev_l87, ev_w87, ev_ck88, ev_g88, ev_p88, ev_r88_0, ev_r88_1, ev_r88_2, ev_a89, ev_w89, ev_ck90, ev_g90, ev_p90, ev_r90_0, ev_r90_1, ev_a91, ev_w91, ev_a92, ev_l92, ev_w92, ev_ck93, ev_g93, ev_p93, ev_r93_0, ev_r93_1, ev_a94, ev_w94, ev_a95, ev_l95, ev_w95, ev_ck96, ev_g96, ev_p96, ev_r96_0, ev_r96_1, ev_r96_2, ev_a97, ev_w97, ev_ck98, ev_g98, ev_p98, ev_r98_0, ev_r98_1, ev_a99, ev_w99, ev_a100, ev_l100, ev_w100, ev_ck101, ev_g101, ev_p101, ev_r101_0, ev_r101_1, ev_a102, ev_w102, ev_a103, ev_l103, ev_w103, ev_ck104, ev_g104, ev_p104, ev_r104_0, ev_r104_1, ev_r104_2, ev_a105, ev_w105, ev_ck106, ev_g106, ev_p106, ev_r106_0, ev_r106_1, ev_a107, ev_w107, ev_a108, ev_l108, ev_w108, ev_ck109, ev_g109, ev_p109, ev_r109_0, ev_r109_1, ev_a110, ev_w110, ev_a111, ev_l111, ev_w111, ev_ck112, ev_g112, ev_p112, ev_r112_0, ev_r112_1, ev_r112_2, ev_a113, ev_w113, ev_a114, ev_w114, ev_ck115, ev_g115, ev_p115, ev_r115_0, ev_r115_1, ev_r115_2, ev_q116_0, ev_q116_1, ev_a117, ev_w117, ev_a118, ev_w118, ev_q119_0, ev_q119_1, ev_a120, ev_l120, ev_w120, ev_a121, ev_l121, ev_w121, ev_ck122, ev_g122, ev_p122, ev_r122_0, ev_r122_1, ev_r122_2, ev_r122_3, ev_a123, ev_w123, ev_a124, ev_w124, ev_a125, ev_l125, ev_w125]
  unfold sp_hd
  by_cases h : t = sN S 2
  · rw [if_pos h, if_neg (by omega)]
  · have hu := nd_lt (t := t + 1) (j := j + 1) (by omega) (by omega)
    have hd := nd_lt (t := t + 1) (j := j) (by omega) (by omega)
    rw [if_neg h, if_pos (by omega), pu_rL (n := r) hr rfl (by omega), pu_rL (n := r) hr rfl (by omega)]
    have e1 := (hM.2.2.2.2.1 (t + 1) (by omega)).1
    rw [show 24 + 1 = 25 from rfl] at e1
    simp only [Option.bind_some, e1, hM.2.1]
theorem c_decide {S : Nat → Int32} {g : ob_St} {p r d c k t j : Nat} (hr : ob_kd r = 15) (hl : ob_ln r = 91) (hr' : ob_kd d = 14) (hl' : ob_ln d = 91) (hp0 : ob_gR 4 p 0 = some r) (hp1 : ob_gR 4 p 1 = some d) (hc : ob_kd c = 1)
    (hW : sp_WF S) (hM : c_M 24 S g) (hpw : ∀ i, i < 13 → g.2 70 i = sp_pw S i) (ho : sp_WO S k) (h8 : g.1 c 8 = sp_o S k 8) (ht : t ≤ sN S 2) (hj : j ≤ t) (fr : Int32)
    (hd py : Int64) (ehd : sp_hd S (fun t j => g.2 r (nd t j)) t j = hd) :
    f_X3_decide g 67 p py c (nI t) (nI (nd t j)) (if sp_may S fr t = true then 1 else 0) = some (ob_up g.1 d (nd t j) (sp_dd S k fr t hd py), ob_upL g.2 r (nd t j) (sp_dw S k fr t hd py)) := by
  have h12 := wf_12 hW
  have hn := nd_lt (t := t) (j := j) (by omega) hj
  have key : ∀ kp : Int64, kp = sp_kp S k t hd py → B_X3_decide_49 g p py (nI (nd t j)) (if sp_may S fr t = true then 1 else 0) hd kp = some (ob_up g.1 d (nd t j) (sp_dd S k fr t hd py), ob_upL g.2 r (nd t j) (sp_dw S k fr t hd py)) := by
    intro kp ekp
    have hB : ∀ b : Bool, B_X3_decide_72 g p py (nI (nd t j)) hd kp (if b = true then 1 else 0) = some (ob_up g.1 d (nd t j) (if b = true then 1 else if hd ≤ kp then 0 else 4), ob_upL g.2 r (nd t j) (if b = true then py else kp)) := by
      intro b
      have hB1 : ∀ (x : Int32) (v : Int64), B_X3_decide_91 g p (nI (nd t j)) hd kp x r (nI (nd t j)) v = some (ob_up g.1 d (nd t j) (if x = 0 then (if hd ≤ kp then 0 else 4) else 1), ob_upL g.2 r (nd t j) v) := by
        intro x v
        unfold B_X3_decide_91
        rw [pu_wL (n := r) hr rfl (by omega)]
        simp only [hp1, Option.bind_some]
        rw [pu_wI (n := d) hr' rfl (by omega), pu_wI (n := d) hr' rfl (by omega), pu_wI (n := d) hr' rfl (by omega)]
        by_cases hx : x = 0
        · rw [if_pos hx, if_pos hx]
          by_cases hh : hd ≤ kp
          · rw [if_pos hh, if_pos hh]; rfl
          · rw [if_neg hh, if_neg hh]; rfl
        · rw [if_neg hx, if_neg hx]; rfl
      unfold B_X3_decide_72
      rw [hp0]
      simp only [Option.bind_some, hB1]
      cases b <;> rfl
    have e0 := hB false
    have e1 := hB true
    simp only [B_X3_decide_49, B_X3_decide_71, m_may1]
    unfold sp_dd sp_dw
    rw [← ekp]
    unfold sp_ex
    rw [← ekp]
    by_cases c3 : sp_may S fr t = true
    · rw [if_pos c3]
      by_cases c2 : py ≤ 0
      · rw [if_pos c2, if_pos c2]
        simp only [ite_self]
        exact e0
      rw [if_neg c2, if_neg c2]
      by_cases c1 : py < kp
      · rw [if_pos c1, if_pos c1]; exact e0
      · rw [if_neg c1, if_neg c1, c3]; exact e1
    · rw [if_neg c3]
      rw [Bool.not_eq_true] at c3
      rw [c3]
      simp only [ite_self]
      exact e0
  unfold f_X3_decide
  rw [hp0, Option.bind_some, c_heldOf hr hl hW hM ht hj, ehd]
  simp only [ev_ck67, Option.bind_some, pu_gI hc, h8, c_scaleAt hW hM hpw ht, ob_let]
  rcases ho.2.2.2.2.2.2.2.1 with e | ⟨e, e1, e2⟩
  · rw [if_pos e]
    exact key _ (by unfold sp_kp; rw [e]; rfl)
  · have hnn : ¬ sp_o S k 8 = -1 := by rw [e]; intro h; have := congrArg Int32.toInt h; rw [ni_of (by omega)] at this; have h1 : (-1 : Int32).toInt = -1 := rfl; omega
    have hnn2 : ¬ sp_o S k 8 < 0 := by rw [e]; exact nI_pos (by omega)
    rw [if_neg hnn]
    refine key _ ?_
    unfold sp_kp ob_lmin
    rw [if_neg hnn2]
    by_cases c2 : hd ≤ py + (sp_o S k 8).toInt64 * sp_sc S t
    · rw [if_pos c2, if_neg (Int64.not_lt.mpr c2)]
    · rw [if_neg c2, if_pos (Int64.not_le.mp c2)]
theorem c_may {S : Nat → Int32} {g : ob_St} {t : Nat} (hW : sp_WF S) (hM : c_M 24 S g) (ht : t ≤ sN S 2) {f : Nat} (hf : f ≤ 12 ∨ f = 99) :
    f_X3_may g 67 (nI t) (c_fr (nI f)) = some (if sp_may S (nI f) t = true then 1 else 0) := by
  have h12 := wf_12 hW
  have h5 : g.1 24 5 = nI (sN S 2) := hM.2.2.1.trans (wf_2 hW)
  have hm : (sp_may S (nI f) t = true) ↔ (f ≤ t ∨ t = sN S 2) := by
    unfold sp_may sp_fm
    rw [decide_eq_true_eq, wf_2 hW]
    by_cases h : nI (sN S 2) ≤ nI f
    · rw [if_pos h, nI_leI (by omega) (by omega)]
      rw [nI_leI (by omega) (by omega)] at h
      omega
    · rw [if_neg h, nI_leI (by omega) (by omega)]
      rw [nI_leI (by omega) (by omega)] at h
      omega
  have hc : (c_fr (nI f) ≤ nI t) ↔ f ≤ t := by
    unfold c_fr
    by_cases h : nI f = 99
    · have hf' : f = 99 := (nI_eq (b := 99) (by omega) (by omega)).mp h
      rw [if_pos h, show (13 : Int32) = nI 13 from rfl, nI_leI (by omega) (by omega)]
      omega
    · rw [if_neg h, nI_leI (by omega) (by omega)]
  simp (disch := omega) only [f_X3_may, h5, hc, nI_eq, Option.bind_some, pu_add, pu_addr, pu_mul, nI_1, nI_add, pk_mul, ev_ck20, ev_g20, ev_p20, ev_r20_0, ev_r20_3, ev_r20_4, ev_r20_5, ev_r20_6, ev_r20_7, ev_r20_8, ev_r20_9, ev_r20_10, ev_r20_11, ev_a21, ev_l21, ev_w21, ev_q22_0, ev_q22_1, ev_a23, ev_l23, ev_ck24, ev_g24, ev_p24, ev_r24_0, ev_r24_1, ev_r24_2, ev_a25, ev_l25, ev_w25, ev_a26, ev_l26, ev_w26, ev_q27_0, ev_q27_1, ev_q27_2, ev_q27_3, ev_ck28, ev_g28, ev_p28, ev_ck29, ev_g29, ev_p29, ev_ck30, ev_g30, ev_p30, ev_ck31, ev_g31, ev_p31, ev_ck32, ev_g32, ev_p32, ev_r32_0, ev_r32_1, ev_r32_2, ev_a33, ev_l33, ev_w33, ev_a34, ev_l34, ev_w34, ev_q35_0, ev_q35_1, ev_q35_2, ev_q35_3, ev_ck36, ev_g36, ev_p36, ev_ck37, ev_g37, ev_p37, ev_ck38, ev_g38, ev_p38, ev_ck39, ev_g39, ev_p39, ev_ck40, ev_g40, ev_p40, ev_r40_0, ev_r40_1, ev_r40_2, ev_a41, ev_l41, ev_w41, ev_a42, ev_l42, ev_w42, ev_q43_0, ev_q43_1, ev_q43_2, ev_q43_3, ev_ck44, ev_g44, ev_p44, ev_ck45, ev_g45, ev_p45, ev_ck46, ev_g46, ev_p46, ev_ck47, ev_g47, ev_p47, ev_ck48, ev_g48, ev_p48, ev_r48_0, ev_r48_1, ev_r48_2, ev_a49, ev_l49, ev_w49, ev_a50, ev_l50, ev_w50, ev_q51_0, ev_q51_1, ev_q51_2, ev_q51_3, ev_ck52, ev_g52, ev_p52, ev_ck53, ev_g53, ev_p53, ev_ck54, ev_g54, ev_p54, ev_ck55, ev_g55, ev_p55, ev_ck56, ev_g56, ev_p56, ev_r56_0, ev_r56_3, ev_r56_4, ev_ck57, ev_g57, ev_p57, ev_r57_0, ev_r57_1, ev_r57_2, ev_r57_3, ev_r57_4, ev_a58, ev_l58, ev_w58, ev_a59, ev_l59, ev_w59, ev_a60, ev_w60, ev_a61, ev_w61, ev_a62, ev_w62, ev_ck63, ev_g63, ev_p63, ev_r63_0, ev_r63_1, ev_r63_2, ev_a64, ev_l64, ev_w64, ev_a65, ev_l65, ev_w65, ev_a66, ev_l66, ev_w66, ev_ck67, ev_g67, ev_p67, ev_r67_0, ev_r67_1, ev_r67_2, ev_r67_3, ev_r67_4, ev_r67_5, ev_a68, ev_l68, ev_w68, ev_a69, ev_l69, ev_w69, ev_a70, ev_w70, ev_q71_0, ev_q71_1, ev_q71_2, ev_q71_3, ev_ck72, ev_g72, ev_p72, ev_r72_0, ev_r72_1, ev_r72_2, ev_a73, ev_w73, ev_ck74, ev_g74, ev_p74, ev_r74_0, ev_r74_1, ev_a75, ev_w75, ev_a76, ev_l76, ev_w76, ev_ck77, ev_g77, ev_p77, ev_r77_0, ev_r77_1, ev_a78, ev_w78, ev_a79, ev_l79, ev_w79, ev_ck80, ev_g80, ev_p80, ev_r80_0, ev_r80_1, ev_r80_2, ev_a81, ev_w81, ev_ck82, ev_g82, ev_p82, ev_r82_0, ev_r82_1, ev_a83, ev_w83, ev_a84, ev_l84, ev_w84, ev_ck85, ev_g85, ev_p85, ev_r85_0, ev_r85_1, ev_a86, ev_w86, ev_a87, ev_l87, ev_w87, ev_ck88, ev_g88, ev_p88, ev_r88_0, ev_r88_1, ev_r88_2, ev_a89, ev_w89, ev_ck90, ev_g90, ev_p90, ev_r90_0, ev_r90_1, ev_a91, ev_w91, ev_a92, ev_l92, ev_w92, ev_ck93, ev_g93, ev_p93, ev_r93_0, ev_r93_1, ev_a94, ev_w94, ev_a95, ev_l95, ev_w95, ev_ck96, ev_g96, ev_p96, ev_r96_0, ev_r96_1, ev_r96_2, ev_a97, ev_w97, ev_ck98, ev_g98, ev_p98, ev_r98_0, ev_r98_1, ev_a99, ev_w99, ev_a100, ev_l100, ev_w100, ev_ck101, ev_g101, ev_p101, ev_r101_0, ev_r101_1, ev_a102, ev_w102, ev_a103, ev_l103, ev_w103, ev_ck104, ev_g104, ev_p104, ev_r104_0, ev_r104_1, ev_r104_2, ev_a105, ev_w105, ev_ck106, ev_g106, ev_p106, ev_r106_0, ev_r106_1, ev_a107, ev_w107, ev_a108, ev_l108, ev_w108, ev_ck109, ev_g109, ev_p109, ev_r109_0, ev_r109_1, ev_a110, ev_w110, ev_a111, ev_l111, ev_w111, ev_ck112, ev_g112, ev_p112, ev_r112_0, ev_r112_1, ev_r112_2, ev_a113, ev_w113, ev_a114, ev_w114, ev_ck115, ev_g115, ev_p115, ev_r115_0, ev_r115_1, ev_r115_2, ev_q116_0, ev_q116_1, ev_a117, ev_w117, ev_a118, ev_w118, ev_q119_0, ev_q119_1, ev_a120, ev_l120, ev_w120, ev_a121, ev_l121, ev_w121, ev_ck122, ev_g122, ev_p122, ev_r122_0, ev_r122_1, ev_r122_2, ev_r122_3, ev_a123, ev_w123, ev_a124, ev_w124, ev_a125, ev_l125, ev_w125]
  by_cases h1 : f ≤ t
  · rw [if_pos h1, if_pos (hm.mpr (Or.inl h1))]
  · rw [if_neg h1]
    by_cases h2 : t = sN S 2
    · rw [if_pos h2, if_pos (hm.mpr (Or.inr h2))]
    · rw [if_neg h2, if_neg (fun h => by rcases hm.mp h with h | h <;> omega)]
theorem c_isTouched {S : Nat → Int32} {g : ob_St} {c k t j : Nat} (hc : ob_kd c = 1) (hW : sp_WF S) (hP : c_Pr S g) (h4 : g.1 c 4 = sp_o S k 4) (h5 : g.1 c 5 = sp_o S k 5) (h6 : g.1 c 6 = sp_o S k 6) (ht : t ≤ sN S 2) (hj : j ≤ t) :
    f_X3_isTouched g 67 c (nI (nd t j)) = some (if sp_o S k 4 = 0 then 0 else if sp_tch S k t j = true then 1 else 0) := by
  have h12 := wf_12 hW
  have hn := nd_lt (t := t) (j := j) (by omega) hj
  simp (disch := omega) only [f_X3_isTouched, pu_gI hc, h4, h5, h6, (hP.2 t j ht hj).2, f_X11_isPast, Option.bind_some, pu_add, pu_addr, pu_mul, nI_1, nI_add, pk_mul, ev_ck20, ev_g20, ev_p20, ev_r20_0, ev_r20_3, ev_r20_4, ev_r20_5, ev_r20_6, ev_r20_7, ev_r20_8, ev_r20_9, ev_r20_10, ev_r20_11, ev_a21, ev_l21, ev_w21, ev_q22_0, ev_q22_1, ev_a23, ev_l23, ev_ck24, ev_g24, ev_p24, ev_r24_0, ev_r24_1, ev_r24_2, ev_a25, ev_l25, ev_w25, ev_a26, ev_l26, ev_w26, ev_q27_0, ev_q27_1, ev_q27_2, ev_q27_3, ev_ck28, ev_g28, ev_p28, ev_ck29, ev_g29, ev_p29, ev_ck30, ev_g30, ev_p30, ev_ck31, ev_g31, ev_p31, ev_ck32, ev_g32, ev_p32, ev_r32_0, ev_r32_1, ev_r32_2, ev_a33, ev_l33, ev_w33, ev_a34, ev_l34, ev_w34, ev_q35_0, ev_q35_1, ev_q35_2, ev_q35_3, ev_ck36, ev_g36, ev_p36, ev_ck37, ev_g37, ev_p37, ev_ck38, ev_g38, ev_p38, ev_ck39, ev_g39, ev_p39, ev_ck40, ev_g40, ev_p40, ev_r40_0, ev_r40_1, ev_r40_2, ev_a41, ev_l41, ev_w41, ev_a42, ev_l42, ev_w42, ev_q43_0, ev_q43_1, ev_q43_2, ev_q43_3, ev_ck44, ev_g44, ev_p44, ev_ck45, ev_g45, ev_p45, ev_ck46, ev_g46, ev_p46, ev_ck47, ev_g47, ev_p47, ev_ck48, ev_g48, ev_p48, ev_r48_0, ev_r48_1, ev_r48_2, ev_a49, ev_l49, ev_w49, ev_a50, ev_l50, ev_w50, ev_q51_0, ev_q51_1, ev_q51_2, ev_q51_3, ev_ck52, ev_g52, ev_p52, ev_ck53, ev_g53, ev_p53, ev_ck54, ev_g54, ev_p54, ev_ck55, ev_g55, ev_p55, ev_ck56, ev_g56, ev_p56, ev_r56_0, ev_r56_3, ev_r56_4, ev_ck57, ev_g57, ev_p57, ev_r57_0, ev_r57_1, ev_r57_2, ev_r57_3, ev_r57_4, ev_a58, ev_l58, ev_w58, ev_a59, ev_l59, ev_w59, ev_a60, ev_w60, ev_a61, ev_w61, ev_a62, ev_w62, ev_ck63, ev_g63, ev_p63, ev_r63_0, ev_r63_1, ev_r63_2, ev_a64, ev_l64, ev_w64, ev_a65, ev_l65, ev_w65, ev_a66, ev_l66, ev_w66, ev_ck67, ev_g67, ev_p67, ev_r67_0, ev_r67_1, ev_r67_2, ev_r67_3, ev_r67_4, ev_r67_5, ev_a68, ev_l68, ev_w68, ev_a69, ev_l69, ev_w69, ev_a70, ev_w70, ev_q71_0, ev_q71_1, ev_q71_2, ev_q71_3, ev_ck72, ev_g72, ev_p72, ev_r72_0, ev_r72_1, ev_r72_2, ev_a73, ev_w73, ev_ck74, ev_g74, ev_p74, ev_r74_0, ev_r74_1, ev_a75, ev_w75, ev_a76, ev_l76, ev_w76, ev_ck77, ev_g77, ev_p77, ev_r77_0, ev_r77_1, ev_a78, ev_w78, ev_a79, ev_l79, ev_w79, ev_ck80, ev_g80, ev_p80, ev_r80_0, ev_r80_1, ev_r80_2, ev_a81, ev_w81, ev_ck82, ev_g82, ev_p82, ev_r82_0, ev_r82_1, ev_a83, ev_w83, ev_a84, ev_l84, ev_w84, ev_ck85, ev_g85, ev_p85, ev_r85_0, ev_r85_1, ev_a86, ev_w86, ev_a87, ev_l87, ev_w87, ev_ck88, ev_g88, ev_p88, ev_r88_0, ev_r88_1, ev_r88_2, ev_a89, ev_w89, ev_ck90, ev_g90, ev_p90, ev_r90_0, ev_r90_1, ev_a91, ev_w91, ev_a92, ev_l92, ev_w92, ev_ck93, ev_g93, ev_p93, ev_r93_0, ev_r93_1, ev_a94, ev_w94, ev_a95, ev_l95, ev_w95, ev_ck96, ev_g96, ev_p96, ev_r96_0, ev_r96_1, ev_r96_2, ev_a97, ev_w97, ev_ck98, ev_g98, ev_p98, ev_r98_0, ev_r98_1, ev_a99, ev_w99, ev_a100, ev_l100, ev_w100, ev_ck101, ev_g101, ev_p101, ev_r101_0, ev_r101_1, ev_a102, ev_w102, ev_a103, ev_l103, ev_w103, ev_ck104, ev_g104, ev_p104, ev_r104_0, ev_r104_1, ev_r104_2, ev_a105, ev_w105, ev_ck106, ev_g106, ev_p106, ev_r106_0, ev_r106_1, ev_a107, ev_w107, ev_a108, ev_l108, ev_w108, ev_ck109, ev_g109, ev_p109, ev_r109_0, ev_r109_1, ev_a110, ev_w110, ev_a111, ev_l111, ev_w111, ev_ck112, ev_g112, ev_p112, ev_r112_0, ev_r112_1, ev_r112_2, ev_a113, ev_w113, ev_a114, ev_w114, ev_ck115, ev_g115, ev_p115, ev_r115_0, ev_r115_1, ev_r115_2, ev_q116_0, ev_q116_1, ev_a117, ev_w117, ev_a118, ev_w118, ev_q119_0, ev_q119_1, ev_a120, ev_l120, ev_w120, ev_a121, ev_l121, ev_w121, ev_ck122, ev_g122, ev_p122, ev_r122_0, ev_r122_1, ev_r122_2, ev_r122_3, ev_a123, ev_w123, ev_a124, ev_w124, ev_a125, ev_l125, ev_w125]
  by_cases h0 : sp_o S k 4 = 0
  · rw [if_pos h0, if_pos h0]
  rw [if_neg h0, if_neg h0]
  by_cases h1 : sp_o S k 5 = 1
  · rw [if_pos h1]
    by_cases h : sp_pr S t j < sp_o S k 6
    · rw [if_pos h, if_neg (by unfold sp_tch; rw [if_pos h1, decide_eq_true_eq]; exact Int32.not_le.mpr h)]; rfl
    · rw [if_neg h, if_pos (by unfold sp_tch; rw [if_pos h1, decide_eq_true_eq]; exact Int32.not_lt.mp h)]; rfl
  · rw [if_neg h1]
    by_cases h : sp_o S k 6 < sp_pr S t j
    · rw [if_pos h, if_neg (by unfold sp_tch; rw [if_neg h1, decide_eq_true_eq]; exact Int32.not_le.mpr h)]; rfl
    · rw [if_neg h, if_pos (by unfold sp_tch; rw [if_neg h1, decide_eq_true_eq]; exact Int32.not_lt.mp h)]; rfl
def c_V (g : ob_St) (q t j : Nat) : Int64 := g.2 (72 + 8 * q + 6) (nd t j)
theorem c_payOf {S : Nat → Int32} {g : ob_St} {c k t j s : Nat} (hc : ob_kd c = 1) (hW : sp_WF S) (hP : c_Pr S g) (hk : k < sN S 29) (h0 : g.1 c 0 = sp_o S k 0) (h2 : g.1 c 2 = sp_o S k 2) (hs : s ≤ 999) (hs3 : sp_o S k 0 = 3 → s < sN S (30 + 10 * k + 2)) (ht : t ≤ sN S 2) (hj : j ≤ t) :
    f_X3_payOf g 67 c (nI s) (nI (nd t j)) (sp_sc S t) = some (sp_pay S (c_V g) k (nI s) t j) := by
  have h12 := wf_12 hW
  have h4 := wf_4 hW
  have ho := wf_o hW hk
  have hn := nd_lt (t := t) (j := j) (by omega) hj
  have hpr := sp_pr_n hW (j := j) ht
  have hple := sp_prN_le hW (j := j) ht (by omega)
  simp (disch := omega) only [f_X3_payOf, f_X3_wholePay, pu_gI hc, h0, h2, (hP.2 t j ht hj).2, Option.bind_some, pu_add, pu_addr, pu_mul, nI_1, nI_add, pk_mul, ev_ck20, ev_g20, ev_p20, ev_r20_0, ev_r20_3, ev_r20_4, ev_r20_5, ev_r20_6, ev_r20_7, ev_r20_8, ev_r20_9, ev_r20_10, ev_r20_11, ev_a21, ev_l21, ev_w21, ev_q22_0, ev_q22_1, ev_a23, ev_l23, ev_ck24, ev_g24, ev_p24, ev_r24_0, ev_r24_1, ev_r24_2, ev_a25, ev_l25, ev_w25, ev_a26, ev_l26, ev_w26, ev_q27_0, ev_q27_1, ev_q27_2, ev_q27_3, ev_ck28, ev_g28, ev_p28, ev_ck29, ev_g29, ev_p29, ev_ck30, ev_g30, ev_p30, ev_ck31, ev_g31, ev_p31, ev_ck32, ev_g32, ev_p32, ev_r32_0, ev_r32_1, ev_r32_2, ev_a33, ev_l33, ev_w33, ev_a34, ev_l34, ev_w34, ev_q35_0, ev_q35_1, ev_q35_2, ev_q35_3, ev_ck36, ev_g36, ev_p36, ev_ck37, ev_g37, ev_p37, ev_ck38, ev_g38, ev_p38, ev_ck39, ev_g39, ev_p39, ev_ck40, ev_g40, ev_p40, ev_r40_0, ev_r40_1, ev_r40_2, ev_a41, ev_l41, ev_w41, ev_a42, ev_l42, ev_w42, ev_q43_0, ev_q43_1, ev_q43_2, ev_q43_3, ev_ck44, ev_g44, ev_p44, ev_ck45, ev_g45, ev_p45, ev_ck46, ev_g46, ev_p46, ev_ck47, ev_g47, ev_p47, ev_ck48, ev_g48, ev_p48, ev_r48_0, ev_r48_1, ev_r48_2, ev_a49, ev_l49, ev_w49, ev_a50, ev_l50, ev_w50, ev_q51_0, ev_q51_1, ev_q51_2, ev_q51_3, ev_ck52, ev_g52, ev_p52, ev_ck53, ev_g53, ev_p53, ev_ck54, ev_g54, ev_p54, ev_ck55, ev_g55, ev_p55, ev_ck56, ev_g56, ev_p56, ev_r56_0, ev_r56_3, ev_r56_4, ev_ck57, ev_g57, ev_p57, ev_r57_0, ev_r57_1, ev_r57_2, ev_r57_3, ev_r57_4, ev_a58, ev_l58, ev_w58, ev_a59, ev_l59, ev_w59, ev_a60, ev_w60, ev_a61, ev_w61, ev_a62, ev_w62, ev_ck63, ev_g63, ev_p63, ev_r63_0, ev_r63_1, ev_r63_2, ev_a64, ev_l64, ev_w64, ev_a65, ev_l65, ev_w65, ev_a66, ev_l66, ev_w66, ev_ck67, ev_g67, ev_p67, ev_r67_0, ev_r67_1, ev_r67_2, ev_r67_3, ev_r67_4, ev_r67_5, ev_a68, ev_l68, ev_w68, ev_a69, ev_l69, ev_w69, ev_a70, ev_w70, ev_q71_0, ev_q71_1, ev_q71_2, ev_q71_3, ev_ck72, ev_g72, ev_p72, ev_r72_0, ev_r72_1, ev_r72_2, ev_a73, ev_w73, ev_ck74, ev_g74, ev_p74, ev_r74_0, ev_r74_1, ev_a75, ev_w75, ev_a76, ev_l76, ev_w76, ev_ck77, ev_g77, ev_p77, ev_r77_0, ev_r77_1, ev_a78, ev_w78, ev_a79, ev_l79, ev_w79, ev_ck80, ev_g80, ev_p80, ev_r80_0, ev_r80_1, ev_r80_2, ev_a81, ev_w81, ev_ck82, ev_g82, ev_p82, ev_r82_0, ev_r82_1, ev_a83, ev_w83, ev_a84, ev_l84, ev_w84, ev_ck85, ev_g85, ev_p85, ev_r85_0, ev_r85_1, ev_a86, ev_w86, ev_a87, ev_l87, ev_w87, ev_ck88, ev_g88, ev_p88, ev_r88_0, ev_r88_1, ev_r88_2, ev_a89, ev_w89, ev_ck90, ev_g90, ev_p90, ev_r90_0, ev_r90_1, ev_a91, ev_w91, ev_a92, ev_l92, ev_w92, ev_ck93, ev_g93, ev_p93, ev_r93_0, ev_r93_1, ev_a94, ev_w94, ev_a95, ev_l95, ev_w95, ev_ck96, ev_g96, ev_p96, ev_r96_0, ev_r96_1, ev_r96_2, ev_a97, ev_w97, ev_ck98, ev_g98, ev_p98, ev_r98_0, ev_r98_1, ev_a99, ev_w99, ev_a100, ev_l100, ev_w100, ev_ck101, ev_g101, ev_p101, ev_r101_0, ev_r101_1, ev_a102, ev_w102, ev_a103, ev_l103, ev_w103, ev_ck104, ev_g104, ev_p104, ev_r104_0, ev_r104_1, ev_r104_2, ev_a105, ev_w105, ev_ck106, ev_g106, ev_p106, ev_r106_0, ev_r106_1, ev_a107, ev_w107, ev_a108, ev_l108, ev_w108, ev_ck109, ev_g109, ev_p109, ev_r109_0, ev_r109_1, ev_a110, ev_w110, ev_a111, ev_l111, ev_w111, ev_ck112, ev_g112, ev_p112, ev_r112_0, ev_r112_1, ev_r112_2, ev_a113, ev_w113, ev_a114, ev_w114, ev_ck115, ev_g115, ev_p115, ev_r115_0, ev_r115_1, ev_r115_2, ev_q116_0, ev_q116_1, ev_a117, ev_w117, ev_a118, ev_w118, ev_q119_0, ev_q119_1, ev_a120, ev_l120, ev_w120, ev_a121, ev_l121, ev_w121, ev_ck122, ev_g122, ev_p122, ev_r122_0, ev_r122_1, ev_r122_2, ev_r122_3, ev_a123, ev_w123, ev_a124, ev_w124, ev_a125, ev_l125, ev_w125]
  unfold sp_pay
  have n5 : ∀ i, i ≤ 4 → sp_o S k 0 = nI i → ¬ sp_o S k 0 = 5 := by
    intro i hi e e5
    have : i = 5 := (nI_eq (b := 5) (by omega) (by omega)).mp (e.symm.trans e5)
    omega
  by_cases c0 : sp_o S k 0 = 0
  · rw [if_neg (n5 0 (by omega) c0), if_pos c0, if_pos c0]
    simp only [Option.bind_some, nu_ab0]
  rw [if_neg c0, if_neg c0]
  by_cases c1 : sp_o S k 0 = 1
  · rw [if_neg (n5 1 (by omega) c1), if_pos c1, if_pos c1]
    simp only [Option.bind_some]
    rw [hpr, (c_whole (m := 0) hple hs (by omega)).1, nu_ab0]
  rw [if_neg c1, if_neg c1]
  by_cases c2 : sp_o S k 0 = 2
  · rw [if_neg (n5 2 (by omega) c2), if_pos c2, if_pos c2]
    have hk2 : sN S (30 + 10 * k + 0) = 2 := (nI_eq (by have := ho.1.2; omega) (b := 2) (by omega)).mp (ho.1.1.symm.trans c2)
    obtain ⟨a1, a2, a3⟩ := ho.2.2.1.2.1 hk2
    rw [hpr]
    have cw := c_whole (m := sN S (30 + 10 * k + 2)) hple hs (by omega)
    by_cases h : nI (sp_prN S t j) < nI s
    · rw [if_pos h, if_pos (cw.2.1.mp h)]
      show some ((ob_imax 0 0).toInt64 * sp_sc S t) = some 0
      rw [show (ob_imax 0 0).toInt64 = 0 from rfl, Int64.zero_mul]
    · rw [if_neg h, if_neg (fun h' => h (cw.2.1.mpr h')), Option.bind_some, a1, cw.2.2.1]
  rw [if_neg c2, if_neg c2]
  by_cases c3 : sp_o S k 0 = 3
  · rw [if_neg (n5 3 (by omega) c3), if_pos c3, if_pos c3]
    have hk3 : sN S (30 + 10 * k + 0) = 3 := (nI_eq (by have := ho.1.2; omega) (b := 3) (by omega)).mp (ho.1.1.symm.trans c3)
    obtain ⟨a1, a2, a3⟩ := ho.2.2.1.2.2 hk3
    rw [hpr, Option.bind_some, a1]
    have cw := c_whole (m := sN S (30 + 10 * k + 2)) hple hs (by omega)
    rw [cw.2.2.2.1 (hs3 c3)]
  rw [if_neg c3, if_neg c3]
  by_cases c4 : sp_o S k 0 = 4
  · rw [if_neg (n5 4 (by omega) c4), if_pos c4, if_pos c4]
    rw [hpr, Option.bind_some]
    have cw := c_whole (m := 0) hple hs (by omega)
    rw [cw.2.2.2.2]
  have k5 := wo_5 ho c0 c1 c2 c3 c4
  obtain ⟨e1, e2⟩ := ho.2.2.1.1 k5
  have c5 : sp_o S k 0 = 5 := by rw [ho.1.1, k5]; rfl
  have hq : c_Sh (72 + 8 * sN S (30 + 10 * k + 2)) := c_Sh_k (by omega)
  rw [if_pos c5, e1, ew_71 (by omega), if_neg c4]
  simp only [Option.bind_some, es_2 hq, es_b0 hq, es_a6 hq hn, nu_max0]
  rfl
