/-! the law's own methods that catch, and how the law calls them -/
def ob_tab (C : ob_Cx) (hh : List (Nat × Nat × Nat × Nat)) : Prop := match C with | (p, l, e, R, s, m, args, below, meth, c, D, ad, ca, Q, ce, sl) => c.exceptionTable.toList = tableOf hh
def ob_Mh (cf : ob_Cf) (y : MethodName) (bytes : ByteArray) (maxL : Nat) (hh : List (Nat × Nat × Nat × Nat)) (fr lo : Nat) (av : List Value) (g : ob_St) (v : Int32) (g2 : ob_St) : Prop :=
  ∀ sz : Nat, Met cf.1 y (Cond.codeWith y bytes maxL (some .int) hh :: ob_GT) { frames := fr, cells := 1, slots := 6, locals := lo } (va_Pc av (fun U => U.heap.size = sz ∧ ob_Wd cf.2.1 cf.2.2.1 cf.2.2.2 sz g U)) (fun _ su o t => o = .returned (some (.int v)) ∧ va_P cf.2.1 vwCl (ob_ws cf.2.2.1 cf.2.2.2 g2) t.heap ∧ va_F (ob_A cf.2.2.1 sz) su t) 1 6 (ob_A cf.2.2.1 sz)
section OBH
variable {C : ob_Cx} {cc : ByteArray} {nL : Nat} {own : String} {ret : Option FieldType} {fr lo pc : Nat} {ls : List (Nat × Value)} {st : List Value} {g : ob_St} {α : Type} {r : α}
theorem ob_enterH {cf : ob_Cf} {y : MethodName} {bytes : ByteArray} {maxL fr2 lo2 : Nat} {hh : List (Nat × Nat × Nat × Nat)} {av : List Value} {v : Int32} {g2 : ob_St} (hy : plainName y.cls = true) (hav : (lg_sl av).length ≤ maxL)
    (body : ∀ C : ob_Cx, ob_cf C = cf → ob_Fx C bytes maxL y.cls (some .int) fr2 lo2 → ob_Fx (ob_w C) bytes maxL y.cls (some .int) fr2 lo2 → ob_tab C hh → ob_Rt (ob_w C) (some (.int v)) g2 → ob_Ev C 0 (lv_args 0 av) [] g) : ob_Mh cf y bytes maxL hh fr2 lo2 av g v g2 := by
  intro sz
  obtain ⟨l, D, ad, ca⟩ := cf
  refine va_MetW (cc := bytes) (maxL := maxL) (ret := some .int) (hh := hh) hy rfl ?_
  intro p e s m args below meth c s₁ B hml hq
  obtain ⟨rfl, hsz, hP, hK, hi, hSF, hN⟩ := hq
  have hx := B.exec
  have hb := B.bytes
  have hr := B.returns
  have hts := atoms_spec (ws := Cond.codeWith y bytes maxL (some .int) hh :: ob_GT) B.pre
  have hown : s.vm.findClass y.cls = some m.cls := findClass_of_methodNamed B.named
  have hlocks := B.notSynchronized
  have htab := vx_table (x := y) B (hts _ List.mem_cons_self)
  subst hsz
  have hl := lv_entry av (n := maxL) hav
  rw [lg_entry_eq]
  generalize (lg_sl av ++ List.replicate (maxL - (lg_sl av).length) Slot.unset).toArray = la at hl ⊢
  refine body (p, l, e, _, s, m, av.toArray, below, meth, c, D, ad, ca, _, 0, 0) rfl ⟨hx, hb, hml, hown, fun w h => hts w (List.mem_cons_of_mem _ h), hK, hi, hSF, hN, Nat.le_refl _, Nat.le_refl _, Nat.zero_le _, Nat.zero_le _, hr, hlocks⟩ ⟨hx, hb, hml, hown, fun w h => hts w (List.mem_cons_of_mem _ h), hK, hi, hSF, hN, Nat.le_refl _, Nat.le_refl _, Nat.le_refl _, Nat.le_refl _, hr, hlocks⟩ htab ?_ s.heap [] la hP va_S.rf (by rw [hml]; exact hl)
  intro H locs pc la hP hS _ d
  exact W.iret hx rfl (by rw [hr]) (fun t ht hW => ⟨rfl, by rw [ht]; exact hP, hS.F ht⟩) hS.2.2 d
theorem ob_catch {b hp k : Nat} (F2 : ob_Fx (ob_w C) cc nL own (some .int) fr lo) (ht : ob_tab C [(0, b, hp, 13)]) (hpc : pc < b) (hl : Cond.classLink own 13 ob_NS ∈ ob_GT) (d1 : decode cc hp = .ok (.astore k, 2)) (hk : k < nL) (d2 : decode cc (hp + 2) = .ok (.iconst 1, 1)) (d3 : decode cc (hp + 3) = .ok (.ireturn, 1)) (kk : ob_Rt (ob_w C) (some (.int 1)) g) : ob_Tw C pc ls g := by
  obtain ⟨p, l, e, R, s, m, args, below, meth, c, D, ad, ca, Q, ce, sl⟩ := C
  obtain ⟨hx, hb, hml, hown, hts, hK, hi, hSF, hNs, hfr, hlo, hce, hsl, hrt, hlk⟩ := F2
  intro H locs la rest q cq hP hS hlv h1 h2 h3
  subst hml
  subst hb
  refine vx_catch (own := own) (name := ob_NS) (E := ob_NS) hown [] ⟨0, b, hp, 13⟩ [] ht (fun z h => by cases h) (by simp [covers, hpc]) (by simp) (hts _ hl) (va_Nw.use rfl (hNs.2 _ List.mem_cons_self)) h1 h2 h3 ?_
  refine lv_astore hx rfl d1 hlv hk rfl (fun la2 hl2 => ?_)
  refine lv_iconst (v := 1) hx rfl d2 (by decide) ?_
  exact kk H locs (hp + 3) la2 hP hS (fun ty h => by rw [hrt] at h; cases h; rfl) d3
def ob_Ih (y : MethodName) (bytes : ByteArray) (maxL : Nat) (hh : List (Nat × Nat × Nat × Nat)) (np : Nat) : Prop := Cond.codeWith y bytes maxL (some .int) hh ∈ ob_GT ∧ Cond.initialized y.cls ∈ ob_GT ∧ y.cls ≠ "java/lang/invoke/MethodHandle" ∧ y.cls ≠ "java/lang/invoke/VarHandle" ∧ (parseMethodDescriptor y.desc).map (fun d => d.parameters.length) = some np ∧ Cond.static y ∈ ob_GT
theorem ob_callH {idx : Nat} {y : MethodName} {bytes : ByteArray} {maxL np fr2 lo2 : Nat} {hh : List (Nat × Nat × Nat × Nat)} {As rest : List Value} {x : Option (Int32 × ob_St)} {f : Int32 × ob_St → Option α} (F : ob_Fx C cc nL own ret fr lo) (F2 : ob_Fx (ob_w C) cc nL own ret fr lo) (d : decode cc pc = .ok (.invokestatic idx, 3)) (im : ob_Ih y bytes maxL hh np) (hl : Cond.methodLink own idx y ∈ ob_GT) (h : x.bind f = some r) (hM : ∀ b, x = some b → ob_Mh (ob_cf C) y bytes maxL hh fr2 lo2 As g b.1 b.2) (hn : As.length = np) (hs : st = As.reverse ++ rest) (hw : (rest.map fun v => v.category).sum ≤ 8) (hR : fr2 + 1 ≤ fr ∧ 8 + (maxL + 11) + lo2 ≤ lo) (kk : ∀ b, f b = some r → ob_Ev (ob_w C) (pc + 3) ls (.int b.1 :: rest) b.2) : ob_Ev C pc ls st g := by
  obtain ⟨b, hx0, h⟩ := Option.bind_eq_some_iff.mp h
  have hM := hM b hx0
  have kk := kk b h
  obtain ⟨p, l, e, R, s, m, args, below, meth, c, D, ad, ca, Q, ce, sl⟩ := C
  obtain ⟨hx, hb, hml, hown, hts, hK, hi, hSF, hNs, hfr, hlo, hce, hsl, hrt, hlk⟩ := F
  obtain ⟨-, -, -, -, -, -, -, -, -, -, -, hce2, hsl2, -, -⟩ := F2
  obtain ⟨i1, i2, i3, i4, i5, i6⟩ := im
  intro H locs la hP hS hlv
  have hG : GoodIn ob_GT (Cond.codeWith y bytes maxL (some .int) hh :: ob_GT) := by
    intro w hw
    rcases List.mem_cons.mp hw with rfl | hw
    · exact ob_GT_good _ i1
    · exact ob_GT_good _ hw
  have hr := vx_runSW (As := As) (rest := rest) (n := np) (hh := hh) (bytes := bytes) (maxL := maxL) (ret := some .int) (R := R) (locs := locs) (cells := ce) (slots := sl) (e := e) (below := below) (meth := meth) (H := H) (index := idx) (g := F0 m pc la st) ⟨hx, hb, hml, hown, hts⟩ (hM H.size) ⟨⟨rfl, rfl, Nat.le_trans hR.1 hfr, Nat.le_trans hR.2 hlo, pay_in hts hG, List.mem_cons_self⟩, hts _ i1, hts _ i2, ⟨i3, i4⟩, fun sig h => by rw [h] at i5; exact (Option.some.inj i5).symm, hts _ hl, hts _ i6⟩ ⟨ob_blind, fun U hU hW => ⟨rfl, ob_pre hP hS hK hi hSF hNs hU hW⟩⟩ rfl hn (hlv.1.trans hml) hs (by simpa using hw) d ⟨hce2, hsl2⟩
  intro T hT X
  obtain ⟨v2, st₀, t, T', L, h0, X', hL, e1, e2, ⟨hv, hP1, hz, hk⟩, st⟩ := hr T hT X
  cases hv
  rw [h0] at hz hk
  obtain ⟨t2, a1, b1⟩ := kk T'.heap (locs ++ L) la (by rw [e1]; exact hP1)
    ⟨Nat.le_trans hS.1 (by rw [e1]; exact hz), fun q h1 h2 => by rw [e1, hk q (Nat.lt_of_lt_of_le h1 hS.1) (fun z => h2 (ob_A_mono hS.1 q z))]; exact hS.2.1 q h1 h2, fun q hq => by
      rcases List.mem_append.mp hq with h | h
      · exact hS.2.2 q h
      · exact ob_A_mono hS.1 _ (hL q h)⟩ hlv T' rfl X'
  exact ⟨t2, st t2 a1, b1⟩
theorem ob_wd (k : ob_Ev (ob_w C) pc ls st g) : ob_Ev C pc ls st g := by
  obtain ⟨p, l, e, R, s, m, args, below, meth, c, D, ad, ca, Q, ce, sl⟩ := C
  exact fun H locs la hP hS hl => W.widen (Nat.le_succ _) (Nat.le_add_right _ _) (k H locs la hP hS hl)
/-- the script: read only, outside of the world -/
def ob_Sc (C : ob_Cx) (b L : Nat) (xs : Nat → Int32) : Prop := match C with | (p, l, e, R, s, m, args, below, meth, c, D, ad, ca, Q, ce, sl) => va_X b L xs s s.heap ∧ b < s.heap.size ∧ ¬ ob_A ad s.heap.size b
def ob_sI (L : Nat) (xs : Nat → Int32) (i : Int32) : Option Int32 := if ob_in i L = true then some (xs i.toNatClampNeg) else none
theorem ob_sld {b L : Nat} {xs : Nat → Int32} {i : Int32} {f : Int32 → Option α} (F : ob_Fx C cc nL own ret fr lo) (hX : ob_Sc C b L xs) (d : decode cc pc = .ok (.iaload, 1)) (h : (ob_sI L xs i).bind f = some r) (kk : ∀ v, f v = some r → ob_Ev C (pc + 1) ls (.int v :: st) g) : ob_Ev C pc ls (.int i :: .ref b :: st) g := by
  obtain ⟨p, l, e, R, s, m, args, below, meth, c, D, ad, ca, Q, ce, sl⟩ := C
  obtain ⟨hx, hb, hml, hown, hts, hK, hi, hSF, hNs, hfr, hlo, hce, hsl, hrt, hlk⟩ := F
  intro H locs la hP hS hl
  unfold ob_sI at h
  by_cases q : ob_in i L = true
  · rw [if_pos q] at h
    exact va_sld hx hb hX.1 hX.2.1 hX.2.2 hS (ob_in_iff.mp q) d (kk _ h H locs la hP hS hl)
  · rw [if_neg q] at h; cases h
theorem ob_slen {b L : Nat} {xs : Nat → Int32} (F : ob_Fx C cc nL own ret fr lo) (hX : ob_Sc C b L xs) (d : decode cc pc = .ok (.arraylength, 1)) (kk : ob_Ev C (pc + 1) ls (.int (Int32.ofNat L) :: st) g) : ob_Ev C pc ls (.ref b :: st) g := by
  obtain ⟨p, l, e, R, s, m, args, below, meth, c, D, ad, ca, Q, ce, sl⟩ := C
  obtain ⟨hx, hb, hml, hown, hts, hK, hi, hSF, hNs, hfr, hlo, hce, hsl, hrt, hlk⟩ := F
  intro H locs la hP hS hl
  exact va_slen hx hb hX.1 hX.2.1 hX.2.2 hS d (kk H locs la hP hS hl)
end OBH

theorem tw4_213 : Cond.codeWith yL_pays cL_pays 7 (some .int) [(0, 13, 16, 13)] ∈ ob_GT := ob_t4 213 rfl rfl
theorem tw5_54 : Cond.codeWith yL_value cL_value 7 (some .int) [(0, 13, 16, 13)] ∈ ob_GT := ob_t5 54 rfl rfl
theorem tw5_61 : Cond.codeWith yL_plain cL_plain 7 (some .int) [(0, 13, 16, 13)] ∈ ob_GT := ob_t5 61 rfl rfl
theorem tw5_68 : Cond.codeWith yL_held cL_held 7 (some .int) [(0, 13, 16, 13)] ∈ ob_GT := ob_t5 68 rfl rfl
theorem tw5_76 : Cond.codeWith yL_stands cL_stands 7 (some .int) [(0, 13, 16, 13)] ∈ ob_GT := ob_t5 76 rfl rfl
theorem tw5_88 : Cond.codeWith yL_ending cL_ending 7 (some .int) [(0, 13, 16, 13)] ∈ ob_GT := ob_t5 88 rfl rfl
theorem tw5_99 : Cond.codeWith yL_life cL_life 5 (some .int) [(0, 9, 12, 13)] ∈ ob_GT := ob_t5 99 rfl rfl
theorem tw5_112 : Cond.codeWith yL_gain cL_gain 7 (some .int) [(0, 13, 16, 13)] ∈ ob_GT := ob_t5 112 rfl rfl
theorem tw5_127 : Cond.codeWith yL_early cL_early 5 (some .int) [(0, 9, 12, 13)] ∈ ob_GT := ob_t5 127 rfl rfl
theorem tw5_134 : Cond.codeWith yL_worthBy cL_worthBy 7 (some .int) [(0, 13, 16, 13)] ∈ ob_GT := ob_t5 134 rfl rfl
theorem tw5_145 : Cond.codeWith yL_reach cL_reach 6 (some .int) [(0, 11, 14, 13)] ∈ ob_GT := ob_t5 145 rfl rfl
theorem tw5_156 : Cond.codeWith yL_book cL_book 6 (some .int) [(0, 11, 14, 13)] ∈ ob_GT := ob_t5 156 rfl rfl
theorem tw5_163 : Cond.codeWith yL_cover cL_cover 7 (some .int) [(0, 13, 16, 13)] ∈ ob_GT := ob_t5 163 rfl rfl
-- L_pays
def f_L_pays (g : ob_St) (n0 : Nat) (x1 : Int32) (x2 : Int32) (x3 : Int32) (x4 : Int32) (n5 : Nat) : Option (Int32 × ob_St) :=
  (ob_ck 11 n0 (f_X11_pays g n0 x1 x2 x3 x4)).bind fun v => v.elim (some (1, g)) (fun w => (ob_wL w.2 n5 0 w.1).bind fun g3 => some (0, g3))
theorem t_L_pays {cf : ob_Cf} {g : ob_St} {n0 : Nat} {x1 : Int32} {x2 : Int32} {x3 : Int32} {x4 : Int32} {n5 : Nat} {r : Int32 × ob_St} (hst : cf.1.stackTraces = false) (h : f_L_pays g n0 x1 x2 x3 x4 n5 = some r) : ob_Mh cf yL_pays cL_pays 7 [(0, 13, 16, 13)] 8 199 [ob_rw cf n0, .int x1, .int x2, .int x3, .int x4, ob_rw cf n5] g r.1 r.2 := by
  refine ob_enterH (by decide) (Nat.le_of_ble_eq_true rfl) ?_
  intro C hC F F2 ht k
  subst hC
  unfold f_L_pays at h
  obtain ⟨v, hv, h⟩ := Option.bind_eq_some_iff.mp h
  obtain ⟨hk, hv⟩ := ob_cks hv
  refine ob_rload F 5 dL_pays_0 rfl ?_
  refine ob_iconst F (v := 0) dL_pays_2 (by decide) ?_
  refine ob_rload_n F 0 dL_pays_3 rfl ?_
  refine ob_iload_n F 1 dL_pays_4 rfl ?_
  refine ob_iload_n F 2 dL_pays_5 rfl ?_
  refine ob_iload_n F 3 dL_pays_6 rfl ?_
  refine ob_iload F 4 dL_pays_7 rfl ?_
  refine ob_callVX F F2 dL_pays_9 im_X11_pays tw4_215 (t_X11_pays hst hv) hk rfl rfl (Nat.le_of_ble_eq_true rfl) (by decide) (fun g2 hw => ?_) (fun w g2 hw => ?_)
  · cases v with
    | none =>
      cases hw
      obtain rfl := Option.some.inj h
      exact ob_catch F2 ht (by decide) tw4_214 dL_pays_16 (by decide) dL_pays_18 dL_pays_19 k
    | some z => cases hw
  · cases v with
    | none => cases hw
    | some z =>
      cases hw
      refine ob_last F2 dL_pays_12 h fun g3 h => ?_
      refine ob_goto F2 20 dL_pays_13 (by decide) ?_
      refine ob_iconst F2 (v := 0) dL_pays_20 (by decide) ?_
      obtain rfl := Option.some.inj h
      exact ob_iret F2 dL_pays_21 k
theorem ih_L_pays : ob_Ih yL_pays cL_pays 7 [(0, 13, 16, 13)] 6 := ⟨tw4_213, tw1_0, by decide, by decide, by decide, tw4_212⟩
-- L_value
def f_L_value (g : ob_St) (n0 : Nat) (x1 : Int32) (x2 : Int32) (x3 : Int32) (x4 : Int32) (n5 : Nat) : Option (Int32 × ob_St) :=
  (ob_ck 11 n0 (f_X11_value g n0 x1 x2 x3 x4)).bind fun v => v.elim (some (1, g)) (fun w => (ob_wL w.2 n5 0 w.1).bind fun g3 => some (0, g3))
theorem t_L_value {cf : ob_Cf} {g : ob_St} {n0 : Nat} {x1 : Int32} {x2 : Int32} {x3 : Int32} {x4 : Int32} {n5 : Nat} {r : Int32 × ob_St} (hst : cf.1.stackTraces = false) (h : f_L_value g n0 x1 x2 x3 x4 n5 = some r) : ob_Mh cf yL_value cL_value 7 [(0, 13, 16, 13)] 8 199 [ob_rw cf n0, .int x1, .int x2, .int x3, .int x4, ob_rw cf n5] g r.1 r.2 := by
  refine ob_enterH (by decide) (Nat.le_of_ble_eq_true rfl) ?_
  intro C hC F F2 ht k
  subst hC
  unfold f_L_value at h
  obtain ⟨v, hv, h⟩ := Option.bind_eq_some_iff.mp h
  obtain ⟨hk, hv⟩ := ob_cks hv
  refine ob_rload F 5 dL_value_0 rfl ?_
  refine ob_iconst F (v := 0) dL_value_2 (by decide) ?_
  refine ob_rload_n F 0 dL_value_3 rfl ?_
  refine ob_iload_n F 1 dL_value_4 rfl ?_
  refine ob_iload_n F 2 dL_value_5 rfl ?_
  refine ob_iload_n F 3 dL_value_6 rfl ?_
  refine ob_iload F 4 dL_value_7 rfl ?_
  refine ob_callVX F F2 dL_value_9 im_X11_value tw5_55 (t_X11_value hst hv) hk rfl rfl (Nat.le_of_ble_eq_true rfl) (by decide) (fun g2 hw => ?_) (fun w g2 hw => ?_)
  · cases v with
    | none =>
      cases hw
      obtain rfl := Option.some.inj h
      exact ob_catch F2 ht (by decide) tw4_214 dL_value_16 (by decide) dL_value_18 dL_value_19 k
    | some z => cases hw
  · cases v with
    | none => cases hw
    | some z =>
      cases hw
      refine ob_last F2 dL_value_12 h fun g3 h => ?_
      refine ob_goto F2 20 dL_value_13 (by decide) ?_
      refine ob_iconst F2 (v := 0) dL_value_20 (by decide) ?_
      obtain rfl := Option.some.inj h
      exact ob_iret F2 dL_value_21 k
theorem ih_L_value : ob_Ih yL_value cL_value 7 [(0, 13, 16, 13)] 6 := ⟨tw5_54, tw1_0, by decide, by decide, by decide, tw5_53⟩
-- L_plain
def f_L_plain (g : ob_St) (n0 : Nat) (x1 : Int32) (x2 : Int32) (x3 : Int32) (x4 : Int32) (n5 : Nat) : Option (Int32 × ob_St) :=
  (ob_ck 11 n0 (f_X11_plain g n0 x1 x2 x3 x4)).bind fun v => v.elim (some (1, g)) (fun w => (ob_wL w.2 n5 0 w.1).bind fun g3 => some (0, g3))
theorem t_L_plain {cf : ob_Cf} {g : ob_St} {n0 : Nat} {x1 : Int32} {x2 : Int32} {x3 : Int32} {x4 : Int32} {n5 : Nat} {r : Int32 × ob_St} (hst : cf.1.stackTraces = false) (h : f_L_plain g n0 x1 x2 x3 x4 n5 = some r) : ob_Mh cf yL_plain cL_plain 7 [(0, 13, 16, 13)] 8 199 [ob_rw cf n0, .int x1, .int x2, .int x3, .int x4, ob_rw cf n5] g r.1 r.2 := by
  refine ob_enterH (by decide) (Nat.le_of_ble_eq_true rfl) ?_
  intro C hC F F2 ht k
  subst hC
  unfold f_L_plain at h
  obtain ⟨v, hv, h⟩ := Option.bind_eq_some_iff.mp h
  obtain ⟨hk, hv⟩ := ob_cks hv
  refine ob_rload F 5 dL_plain_0 rfl ?_
  refine ob_iconst F (v := 0) dL_plain_2 (by decide) ?_
  refine ob_rload_n F 0 dL_plain_3 rfl ?_
  refine ob_iload_n F 1 dL_plain_4 rfl ?_
  refine ob_iload_n F 2 dL_plain_5 rfl ?_
  refine ob_iload_n F 3 dL_plain_6 rfl ?_
  refine ob_iload F 4 dL_plain_7 rfl ?_
  refine ob_callVX F F2 dL_plain_9 im_X11_plain tw5_62 (t_X11_plain hst hv) hk rfl rfl (Nat.le_of_ble_eq_true rfl) (by decide) (fun g2 hw => ?_) (fun w g2 hw => ?_)
  · cases v with
    | none =>
      cases hw
      obtain rfl := Option.some.inj h
      exact ob_catch F2 ht (by decide) tw4_214 dL_plain_16 (by decide) dL_plain_18 dL_plain_19 k
    | some z => cases hw
  · cases v with
    | none => cases hw
    | some z =>
      cases hw
      refine ob_last F2 dL_plain_12 h fun g3 h => ?_
      refine ob_goto F2 20 dL_plain_13 (by decide) ?_
      refine ob_iconst F2 (v := 0) dL_plain_20 (by decide) ?_
      obtain rfl := Option.some.inj h
      exact ob_iret F2 dL_plain_21 k
theorem ih_L_plain : ob_Ih yL_plain cL_plain 7 [(0, 13, 16, 13)] 6 := ⟨tw5_61, tw1_0, by decide, by decide, by decide, tw5_60⟩
-- L_held
def f_L_held (g : ob_St) (n0 : Nat) (x1 : Int32) (x2 : Int32) (x3 : Int32) (x4 : Int32) (n5 : Nat) : Option (Int32 × ob_St) :=
  (ob_ck 11 n0 (f_X11_held g n0 x1 x2 x3 x4)).bind fun v => v.elim (some (1, g)) (fun w => (ob_wL w.2 n5 0 w.1).bind fun g3 => some (0, g3))
theorem t_L_held {cf : ob_Cf} {g : ob_St} {n0 : Nat} {x1 : Int32} {x2 : Int32} {x3 : Int32} {x4 : Int32} {n5 : Nat} {r : Int32 × ob_St} (hst : cf.1.stackTraces = false) (h : f_L_held g n0 x1 x2 x3 x4 n5 = some r) : ob_Mh cf yL_held cL_held 7 [(0, 13, 16, 13)] 8 200 [ob_rw cf n0, .int x1, .int x2, .int x3, .int x4, ob_rw cf n5] g r.1 r.2 := by
  refine ob_enterH (by decide) (Nat.le_of_ble_eq_true rfl) ?_
  intro C hC F F2 ht k
  subst hC
  unfold f_L_held at h
  obtain ⟨v, hv, h⟩ := Option.bind_eq_some_iff.mp h
  obtain ⟨hk, hv⟩ := ob_cks hv
  refine ob_rload F 5 dL_held_0 rfl ?_
  refine ob_iconst F (v := 0) dL_held_2 (by decide) ?_
  refine ob_rload_n F 0 dL_held_3 rfl ?_
  refine ob_iload_n F 1 dL_held_4 rfl ?_
  refine ob_iload_n F 2 dL_held_5 rfl ?_
  refine ob_iload_n F 3 dL_held_6 rfl ?_
  refine ob_iload F 4 dL_held_7 rfl ?_
  refine ob_callVX F F2 dL_held_9 im_X11_held tw5_69 (t_X11_held hst hv) hk rfl rfl (Nat.le_of_ble_eq_true rfl) (by decide) (fun g2 hw => ?_) (fun w g2 hw => ?_)
  · cases v with
    | none =>
      cases hw
      obtain rfl := Option.some.inj h
      exact ob_catch F2 ht (by decide) tw4_214 dL_held_16 (by decide) dL_held_18 dL_held_19 k
    | some z => cases hw
  · cases v with
    | none => cases hw
    | some z =>
      cases hw
      refine ob_last F2 dL_held_12 h fun g3 h => ?_
      refine ob_goto F2 20 dL_held_13 (by decide) ?_
      refine ob_iconst F2 (v := 0) dL_held_20 (by decide) ?_
      obtain rfl := Option.some.inj h
      exact ob_iret F2 dL_held_21 k
theorem ih_L_held : ob_Ih yL_held cL_held 7 [(0, 13, 16, 13)] 6 := ⟨tw5_68, tw1_0, by decide, by decide, by decide, tw5_67⟩
-- L_stands
def f_L_stands (g : ob_St) (n0 : Nat) (x1 : Int32) (x2 : Int32) (x3 : Int32) (x4 : Int32) (n5 : Nat) : Option (Int32 × ob_St) :=
  (ob_ck 11 n0 (f_X11_stands g n0 x1 x2 x3 x4)).bind fun v => v.elim (some (1, g)) (fun w => (ob_wL w.2 n5 0 w.1).bind fun g3 => some (0, g3))
theorem t_L_stands {cf : ob_Cf} {g : ob_St} {n0 : Nat} {x1 : Int32} {x2 : Int32} {x3 : Int32} {x4 : Int32} {n5 : Nat} {r : Int32 × ob_St} (hst : cf.1.stackTraces = false) (h : f_L_stands g n0 x1 x2 x3 x4 n5 = some r) : ob_Mh cf yL_stands cL_stands 7 [(0, 13, 16, 13)] 8 199 [ob_rw cf n0, .int x1, .int x2, .int x3, .int x4, ob_rw cf n5] g r.1 r.2 := by
  refine ob_enterH (by decide) (Nat.le_of_ble_eq_true rfl) ?_
  intro C hC F F2 ht k
  subst hC
  unfold f_L_stands at h
  obtain ⟨v, hv, h⟩ := Option.bind_eq_some_iff.mp h
  obtain ⟨hk, hv⟩ := ob_cks hv
  refine ob_rload F 5 dL_stands_0 rfl ?_
  refine ob_iconst F (v := 0) dL_stands_2 (by decide) ?_
  refine ob_rload_n F 0 dL_stands_3 rfl ?_
  refine ob_iload_n F 1 dL_stands_4 rfl ?_
  refine ob_iload_n F 2 dL_stands_5 rfl ?_
  refine ob_iload_n F 3 dL_stands_6 rfl ?_
  refine ob_iload F 4 dL_stands_7 rfl ?_
  refine ob_callVX F F2 dL_stands_9 im_X11_stands tw5_77 (t_X11_stands hst hv) hk rfl rfl (Nat.le_of_ble_eq_true rfl) (by decide) (fun g2 hw => ?_) (fun w g2 hw => ?_)
  · cases v with
    | none =>
      cases hw
      obtain rfl := Option.some.inj h
      exact ob_catch F2 ht (by decide) tw4_214 dL_stands_16 (by decide) dL_stands_18 dL_stands_19 k
    | some z => cases hw
  · cases v with
    | none => cases hw
    | some z =>
      cases hw
      refine ob_last F2 dL_stands_12 h fun g3 h => ?_
      refine ob_goto F2 20 dL_stands_13 (by decide) ?_
      refine ob_iconst F2 (v := 0) dL_stands_20 (by decide) ?_
      obtain rfl := Option.some.inj h
      exact ob_iret F2 dL_stands_21 k
theorem ih_L_stands : ob_Ih yL_stands cL_stands 7 [(0, 13, 16, 13)] 6 := ⟨tw5_76, tw1_0, by decide, by decide, by decide, tw5_75⟩
-- L_ending
def f_L_ending (g : ob_St) (n0 : Nat) (x1 : Int32) (x2 : Int32) (x3 : Int32) (x4 : Int32) (n5 : Nat) : Option (Int32 × ob_St) :=
  (ob_ck 11 n0 (f_X11_ending g n0 x1 x2 x3 x4)).bind fun v => v.elim (some (1, g)) (fun w => (ob_wL w.2 n5 0 w.1).bind fun g3 => some (0, g3))
theorem t_L_ending {cf : ob_Cf} {g : ob_St} {n0 : Nat} {x1 : Int32} {x2 : Int32} {x3 : Int32} {x4 : Int32} {n5 : Nat} {r : Int32 × ob_St} (hst : cf.1.stackTraces = false) (h : f_L_ending g n0 x1 x2 x3 x4 n5 = some r) : ob_Mh cf yL_ending cL_ending 7 [(0, 13, 16, 13)] 8 200 [ob_rw cf n0, .int x1, .int x2, .int x3, .int x4, ob_rw cf n5] g r.1 r.2 := by
  refine ob_enterH (by decide) (Nat.le_of_ble_eq_true rfl) ?_
  intro C hC F F2 ht k
  subst hC
  unfold f_L_ending at h
  obtain ⟨v, hv, h⟩ := Option.bind_eq_some_iff.mp h
  obtain ⟨hk, hv⟩ := ob_cks hv
  refine ob_rload F 5 dL_ending_0 rfl ?_
  refine ob_iconst F (v := 0) dL_ending_2 (by decide) ?_
  refine ob_rload_n F 0 dL_ending_3 rfl ?_
  refine ob_iload_n F 1 dL_ending_4 rfl ?_
  refine ob_iload_n F 2 dL_ending_5 rfl ?_
  refine ob_iload_n F 3 dL_ending_6 rfl ?_
  refine ob_iload F 4 dL_ending_7 rfl ?_
  refine ob_callVX F F2 dL_ending_9 im_X11_ending tw5_89 (t_X11_ending hst hv) hk rfl rfl (Nat.le_of_ble_eq_true rfl) (by decide) (fun g2 hw => ?_) (fun w g2 hw => ?_)
  · cases v with
    | none =>
      cases hw
      obtain rfl := Option.some.inj h
      exact ob_catch F2 ht (by decide) tw4_214 dL_ending_16 (by decide) dL_ending_18 dL_ending_19 k
    | some z => cases hw
  · cases v with
    | none => cases hw
    | some z =>
      cases hw
      refine ob_last F2 dL_ending_12 h fun g3 h => ?_
      refine ob_goto F2 20 dL_ending_13 (by decide) ?_
      refine ob_iconst F2 (v := 0) dL_ending_20 (by decide) ?_
      obtain rfl := Option.some.inj h
      exact ob_iret F2 dL_ending_21 k
theorem ih_L_ending : ob_Ih yL_ending cL_ending 7 [(0, 13, 16, 13)] 6 := ⟨tw5_88, tw1_0, by decide, by decide, by decide, tw5_87⟩
-- L_life
def f_L_life (g : ob_St) (n0 : Nat) (x1 : Int32) (x2 : Int32) (n3 : Nat) : Option (Int32 × ob_St) :=
  (ob_ck 11 n0 (f_X11_life g n0 x1 x2)).bind fun v => v.elim (some (1, g)) (fun w => (ob_wL w.2 n3 0 w.1).bind fun g3 => some (0, g3))
theorem t_L_life {cf : ob_Cf} {g : ob_St} {n0 : Nat} {x1 : Int32} {x2 : Int32} {n3 : Nat} {r : Int32 × ob_St} (hst : cf.1.stackTraces = false) (h : f_L_life g n0 x1 x2 n3 = some r) : ob_Mh cf yL_life cL_life 5 [(0, 9, 12, 13)] 8 198 [ob_rw cf n0, .int x1, .int x2, ob_rw cf n3] g r.1 r.2 := by
  refine ob_enterH (by decide) (Nat.le_of_ble_eq_true rfl) ?_
  intro C hC F F2 ht k
  subst hC
  unfold f_L_life at h
  obtain ⟨v, hv, h⟩ := Option.bind_eq_some_iff.mp h
  obtain ⟨hk, hv⟩ := ob_cks hv
  refine ob_rload_n F 3 dL_life_0 rfl ?_
  refine ob_iconst F (v := 0) dL_life_1 (by decide) ?_
  refine ob_rload_n F 0 dL_life_2 rfl ?_
  refine ob_iload_n F 1 dL_life_3 rfl ?_
  refine ob_iload_n F 2 dL_life_4 rfl ?_
  refine ob_callVX F F2 dL_life_5 im_X11_life tw5_100 (t_X11_life hst hv) hk rfl rfl (Nat.le_of_ble_eq_true rfl) (by decide) (fun g2 hw => ?_) (fun w g2 hw => ?_)
  · cases v with
    | none =>
      cases hw
      obtain rfl := Option.some.inj h
      exact ob_catch F2 ht (by decide) tw4_214 dL_life_12 (by decide) dL_life_14 dL_life_15 k
    | some z => cases hw
  · cases v with
    | none => cases hw
    | some z =>
      cases hw
      refine ob_last F2 dL_life_8 h fun g3 h => ?_
      refine ob_goto F2 16 dL_life_9 (by decide) ?_
      refine ob_iconst F2 (v := 0) dL_life_16 (by decide) ?_
      obtain rfl := Option.some.inj h
      exact ob_iret F2 dL_life_17 k
theorem ih_L_life : ob_Ih yL_life cL_life 5 [(0, 9, 12, 13)] 4 := ⟨tw5_99, tw1_0, by decide, by decide, by decide, tw5_98⟩
-- L_gain
def f_L_gain (g : ob_St) (n0 : Nat) (x1 : Int32) (x2 : Int32) (x3 : Int32) (x4 : Int32) (n5 : Nat) : Option (Int32 × ob_St) :=
  (ob_ck 11 n0 (f_X11_gain g n0 x1 x2 x3 x4)).bind fun v => v.elim (some (1, g)) (fun w => (ob_wL w.2 n5 0 w.1).bind fun g3 => some (0, g3))
theorem t_L_gain {cf : ob_Cf} {g : ob_St} {n0 : Nat} {x1 : Int32} {x2 : Int32} {x3 : Int32} {x4 : Int32} {n5 : Nat} {r : Int32 × ob_St} (hst : cf.1.stackTraces = false) (h : f_L_gain g n0 x1 x2 x3 x4 n5 = some r) : ob_Mh cf yL_gain cL_gain 7 [(0, 13, 16, 13)] 8 199 [ob_rw cf n0, .int x1, .int x2, .int x3, .int x4, ob_rw cf n5] g r.1 r.2 := by
  refine ob_enterH (by decide) (Nat.le_of_ble_eq_true rfl) ?_
  intro C hC F F2 ht k
  subst hC
  unfold f_L_gain at h
  obtain ⟨v, hv, h⟩ := Option.bind_eq_some_iff.mp h
  obtain ⟨hk, hv⟩ := ob_cks hv
  refine ob_rload F 5 dL_gain_0 rfl ?_
  refine ob_iconst F (v := 0) dL_gain_2 (by decide) ?_
  refine ob_rload_n F 0 dL_gain_3 rfl ?_
  refine ob_iload_n F 1 dL_gain_4 rfl ?_
  refine ob_iload_n F 2 dL_gain_5 rfl ?_
  refine ob_iload_n F 3 dL_gain_6 rfl ?_
  refine ob_iload F 4 dL_gain_7 rfl ?_
  refine ob_callVX F F2 dL_gain_9 im_X11_gain tw5_113 (t_X11_gain hst hv) hk rfl rfl (Nat.le_of_ble_eq_true rfl) (by decide) (fun g2 hw => ?_) (fun w g2 hw => ?_)
  · cases v with
    | none =>
      cases hw
      obtain rfl := Option.some.inj h
      exact ob_catch F2 ht (by decide) tw4_214 dL_gain_16 (by decide) dL_gain_18 dL_gain_19 k
    | some z => cases hw
  · cases v with
    | none => cases hw
    | some z =>
      cases hw
      refine ob_last F2 dL_gain_12 h fun g3 h => ?_
      refine ob_goto F2 20 dL_gain_13 (by decide) ?_
      refine ob_iconst F2 (v := 0) dL_gain_20 (by decide) ?_
      obtain rfl := Option.some.inj h
      exact ob_iret F2 dL_gain_21 k
theorem ih_L_gain : ob_Ih yL_gain cL_gain 7 [(0, 13, 16, 13)] 6 := ⟨tw5_112, tw1_0, by decide, by decide, by decide, tw5_111⟩
-- L_early
def f_L_early (g : ob_St) (n0 : Nat) (x1 : Int32) (x2 : Int32) (n3 : Nat) : Option (Int32 × ob_St) :=
  (ob_ck 11 n0 (f_X11_early g n0 x1 x2)).bind fun v => v.elim (some (1, g)) (fun w => (ob_wL w.2 n3 0 w.1).bind fun g3 => some (0, g3))
theorem t_L_early {cf : ob_Cf} {g : ob_St} {n0 : Nat} {x1 : Int32} {x2 : Int32} {n3 : Nat} {r : Int32 × ob_St} (hst : cf.1.stackTraces = false) (h : f_L_early g n0 x1 x2 n3 = some r) : ob_Mh cf yL_early cL_early 5 [(0, 9, 12, 13)] 8 200 [ob_rw cf n0, .int x1, .int x2, ob_rw cf n3] g r.1 r.2 := by
  refine ob_enterH (by decide) (Nat.le_of_ble_eq_true rfl) ?_
  intro C hC F F2 ht k
  subst hC
  unfold f_L_early at h
  obtain ⟨v, hv, h⟩ := Option.bind_eq_some_iff.mp h
  obtain ⟨hk, hv⟩ := ob_cks hv
  refine ob_rload_n F 3 dL_early_0 rfl ?_
  refine ob_iconst F (v := 0) dL_early_1 (by decide) ?_
  refine ob_rload_n F 0 dL_early_2 rfl ?_
  refine ob_iload_n F 1 dL_early_3 rfl ?_
  refine ob_iload_n F 2 dL_early_4 rfl ?_
  refine ob_callVX F F2 dL_early_5 im_X11_early tw5_128 (t_X11_early hst hv) hk rfl rfl (Nat.le_of_ble_eq_true rfl) (by decide) (fun g2 hw => ?_) (fun w g2 hw => ?_)
  · cases v with
    | none =>
      cases hw
      obtain rfl := Option.some.inj h
      exact ob_catch F2 ht (by decide) tw4_214 dL_early_12 (by decide) dL_early_14 dL_early_15 k
    | some z => cases hw
  · cases v with
    | none => cases hw
    | some z =>
      cases hw
      refine ob_last F2 dL_early_8 h fun g3 h => ?_
      refine ob_goto F2 16 dL_early_9 (by decide) ?_
      refine ob_iconst F2 (v := 0) dL_early_16 (by decide) ?_
      obtain rfl := Option.some.inj h
      exact ob_iret F2 dL_early_17 k
theorem ih_L_early : ob_Ih yL_early cL_early 5 [(0, 9, 12, 13)] 4 := ⟨tw5_127, tw1_0, by decide, by decide, by decide, tw5_126⟩
-- L_worthBy
def f_L_worthBy (g : ob_St) (n0 : Nat) (x1 : Int32) (x2 : Int32) (x3 : Int32) (x4 : Int32) (n5 : Nat) : Option (Int32 × ob_St) :=
  (ob_ck 11 n0 (f_X11_worthBy g n0 x1 x2 x3 x4)).bind fun v => v.elim (some (1, g)) (fun w => (ob_wL w.2 n5 0 w.1).bind fun g3 => some (0, g3))
theorem t_L_worthBy {cf : ob_Cf} {g : ob_St} {n0 : Nat} {x1 : Int32} {x2 : Int32} {x3 : Int32} {x4 : Int32} {n5 : Nat} {r : Int32 × ob_St} (hst : cf.1.stackTraces = false) (h : f_L_worthBy g n0 x1 x2 x3 x4 n5 = some r) : ob_Mh cf yL_worthBy cL_worthBy 7 [(0, 13, 16, 13)] 8 199 [ob_rw cf n0, .int x1, .int x2, .int x3, .int x4, ob_rw cf n5] g r.1 r.2 := by
  refine ob_enterH (by decide) (Nat.le_of_ble_eq_true rfl) ?_
  intro C hC F F2 ht k
  subst hC
  unfold f_L_worthBy at h
  obtain ⟨v, hv, h⟩ := Option.bind_eq_some_iff.mp h
  obtain ⟨hk, hv⟩ := ob_cks hv
  refine ob_rload F 5 dL_worthBy_0 rfl ?_
  refine ob_iconst F (v := 0) dL_worthBy_2 (by decide) ?_
  refine ob_rload_n F 0 dL_worthBy_3 rfl ?_
  refine ob_iload_n F 1 dL_worthBy_4 rfl ?_
  refine ob_iload_n F 2 dL_worthBy_5 rfl ?_
  refine ob_iload_n F 3 dL_worthBy_6 rfl ?_
  refine ob_iload F 4 dL_worthBy_7 rfl ?_
  refine ob_callVX F F2 dL_worthBy_9 im_X11_worthBy tw5_135 (t_X11_worthBy hst hv) hk rfl rfl (Nat.le_of_ble_eq_true rfl) (by decide) (fun g2 hw => ?_) (fun w g2 hw => ?_)
  · cases v with
    | none =>
      cases hw
      obtain rfl := Option.some.inj h
      exact ob_catch F2 ht (by decide) tw4_214 dL_worthBy_16 (by decide) dL_worthBy_18 dL_worthBy_19 k
    | some z => cases hw
  · cases v with
    | none => cases hw
    | some z =>
      cases hw
      refine ob_last F2 dL_worthBy_12 h fun g3 h => ?_
      refine ob_goto F2 20 dL_worthBy_13 (by decide) ?_
      refine ob_iconst F2 (v := 0) dL_worthBy_20 (by decide) ?_
      obtain rfl := Option.some.inj h
      exact ob_iret F2 dL_worthBy_21 k
theorem ih_L_worthBy : ob_Ih yL_worthBy cL_worthBy 7 [(0, 13, 16, 13)] 6 := ⟨tw5_134, tw1_0, by decide, by decide, by decide, tw5_133⟩
-- L_reach
def f_L_reach (g : ob_St) (n0 : Nat) (x1 : Int32) (x2 : Int32) (x3 : Int32) (n4 : Nat) : Option (Int32 × ob_St) :=
  (ob_ck 11 n0 (f_X11_reach g n0 x1 x2 x3)).bind fun v => v.elim (some (1, g)) (fun w => (ob_wL w.2 n4 0 w.1).bind fun g3 => some (0, g3))
theorem t_L_reach {cf : ob_Cf} {g : ob_St} {n0 : Nat} {x1 : Int32} {x2 : Int32} {x3 : Int32} {n4 : Nat} {r : Int32 × ob_St} (hst : cf.1.stackTraces = false) (h : f_L_reach g n0 x1 x2 x3 n4 = some r) : ob_Mh cf yL_reach cL_reach 6 [(0, 11, 14, 13)] 8 177 [ob_rw cf n0, .int x1, .int x2, .int x3, ob_rw cf n4] g r.1 r.2 := by
  refine ob_enterH (by decide) (Nat.le_of_ble_eq_true rfl) ?_
  intro C hC F F2 ht k
  subst hC
  unfold f_L_reach at h
  obtain ⟨v, hv, h⟩ := Option.bind_eq_some_iff.mp h
  obtain ⟨hk, hv⟩ := ob_cks hv
  refine ob_rload F 4 dL_reach_0 rfl ?_
  refine ob_iconst F (v := 0) dL_reach_2 (by decide) ?_
  refine ob_rload_n F 0 dL_reach_3 rfl ?_
  refine ob_iload_n F 1 dL_reach_4 rfl ?_
  refine ob_iload_n F 2 dL_reach_5 rfl ?_
  refine ob_iload_n F 3 dL_reach_6 rfl ?_
  refine ob_callVX F F2 dL_reach_7 im_X11_reach tw5_146 (t_X11_reach hst hv) hk rfl rfl (Nat.le_of_ble_eq_true rfl) (by decide) (fun g2 hw => ?_) (fun w g2 hw => ?_)
  · cases v with
    | none =>
      cases hw
      obtain rfl := Option.some.inj h
      exact ob_catch F2 ht (by decide) tw4_214 dL_reach_14 (by decide) dL_reach_16 dL_reach_17 k
    | some z => cases hw
  · cases v with
    | none => cases hw
    | some z =>
      cases hw
      refine ob_last F2 dL_reach_10 h fun g3 h => ?_
      refine ob_goto F2 18 dL_reach_11 (by decide) ?_
      refine ob_iconst F2 (v := 0) dL_reach_18 (by decide) ?_
      obtain rfl := Option.some.inj h
      exact ob_iret F2 dL_reach_19 k
theorem ih_L_reach : ob_Ih yL_reach cL_reach 6 [(0, 11, 14, 13)] 5 := ⟨tw5_145, tw1_0, by decide, by decide, by decide, tw5_144⟩
-- L_book
def f_L_book (g : ob_St) (n0 : Nat) (x1 : Int32) (x2 : Int32) (x3 : Int32) (n4 : Nat) : Option (Int32 × ob_St) :=
  (ob_ck 11 n0 (f_X11_book g n0 x1 x2 x3)).bind fun v => v.elim (some (1, g)) (fun w => (ob_wL w.2 n4 0 w.1).bind fun g3 => some (0, g3))
theorem t_L_book {cf : ob_Cf} {g : ob_St} {n0 : Nat} {x1 : Int32} {x2 : Int32} {x3 : Int32} {n4 : Nat} {r : Int32 × ob_St} (hst : cf.1.stackTraces = false) (h : f_L_book g n0 x1 x2 x3 n4 = some r) : ob_Mh cf yL_book cL_book 6 [(0, 11, 14, 13)] 8 177 [ob_rw cf n0, .int x1, .int x2, .int x3, ob_rw cf n4] g r.1 r.2 := by
  refine ob_enterH (by decide) (Nat.le_of_ble_eq_true rfl) ?_
  intro C hC F F2 ht k
  subst hC
  unfold f_L_book at h
  obtain ⟨v, hv, h⟩ := Option.bind_eq_some_iff.mp h
  obtain ⟨hk, hv⟩ := ob_cks hv
  refine ob_rload F 4 dL_book_0 rfl ?_
  refine ob_iconst F (v := 0) dL_book_2 (by decide) ?_
  refine ob_rload_n F 0 dL_book_3 rfl ?_
  refine ob_iload_n F 1 dL_book_4 rfl ?_
  refine ob_iload_n F 2 dL_book_5 rfl ?_
  refine ob_iload_n F 3 dL_book_6 rfl ?_
  refine ob_callVX F F2 dL_book_7 im_X11_book tw5_157 (t_X11_book hst hv) hk rfl rfl (Nat.le_of_ble_eq_true rfl) (by decide) (fun g2 hw => ?_) (fun w g2 hw => ?_)
  · cases v with
    | none =>
      cases hw
      obtain rfl := Option.some.inj h
      exact ob_catch F2 ht (by decide) tw4_214 dL_book_14 (by decide) dL_book_16 dL_book_17 k
    | some z => cases hw
  · cases v with
    | none => cases hw
    | some z =>
      cases hw
      refine ob_last F2 dL_book_10 h fun g3 h => ?_
      refine ob_goto F2 18 dL_book_11 (by decide) ?_
      refine ob_iconst F2 (v := 0) dL_book_18 (by decide) ?_
      obtain rfl := Option.some.inj h
      exact ob_iret F2 dL_book_19 k
theorem ih_L_book : ob_Ih yL_book cL_book 6 [(0, 11, 14, 13)] 5 := ⟨tw5_156, tw1_0, by decide, by decide, by decide, tw5_155⟩
-- L_cover
def f_L_cover (g : ob_St) (n0 : Nat) (x1 : Int32) (x2 : Int32) (x3 : Int32) (x4 : Int32) (n5 : Nat) : Option (Int32 × ob_St) :=
  (ob_ck 11 n0 (f_X11_cover g n0 x1 x2 x3 x4)).bind fun v => v.elim (some (1, g)) (fun w => (ob_wL w.2 n5 0 w.1).bind fun g3 => some (0, g3))
theorem t_L_cover {cf : ob_Cf} {g : ob_St} {n0 : Nat} {x1 : Int32} {x2 : Int32} {x3 : Int32} {x4 : Int32} {n5 : Nat} {r : Int32 × ob_St} (hst : cf.1.stackTraces = false) (h : f_L_cover g n0 x1 x2 x3 x4 n5 = some r) : ob_Mh cf yL_cover cL_cover 7 [(0, 13, 16, 13)] 8 183 [ob_rw cf n0, .int x1, .int x2, .int x3, .int x4, ob_rw cf n5] g r.1 r.2 := by
  refine ob_enterH (by decide) (Nat.le_of_ble_eq_true rfl) ?_
  intro C hC F F2 ht k
  subst hC
  unfold f_L_cover at h
  obtain ⟨v, hv, h⟩ := Option.bind_eq_some_iff.mp h
  obtain ⟨hk, hv⟩ := ob_cks hv
  refine ob_rload F 5 dL_cover_0 rfl ?_
  refine ob_iconst F (v := 0) dL_cover_2 (by decide) ?_
  refine ob_rload_n F 0 dL_cover_3 rfl ?_
  refine ob_iload_n F 1 dL_cover_4 rfl ?_
  refine ob_iload_n F 2 dL_cover_5 rfl ?_
  refine ob_iload_n F 3 dL_cover_6 rfl ?_
  refine ob_iload F 4 dL_cover_7 rfl ?_
  refine ob_callVX F F2 dL_cover_9 im_X11_cover tw5_164 (t_X11_cover hst hv) hk rfl rfl (Nat.le_of_ble_eq_true rfl) (by decide) (fun g2 hw => ?_) (fun w g2 hw => ?_)
  · cases v with
    | none =>
      cases hw
      obtain rfl := Option.some.inj h
      exact ob_catch F2 ht (by decide) tw4_214 dL_cover_16 (by decide) dL_cover_18 dL_cover_19 k
    | some z => cases hw
  · cases v with
    | none => cases hw
    | some z =>
      cases hw
      refine ob_last F2 dL_cover_12 h fun g3 h => ?_
      refine ob_goto F2 20 dL_cover_13 (by decide) ?_
      refine ob_iconst F2 (v := 0) dL_cover_20 (by decide) ?_
      obtain rfl := Option.some.inj h
      exact ob_iret F2 dL_cover_21 k
theorem ih_L_cover : ob_Ih yL_cover cL_cover 7 [(0, 13, 16, 13)] 6 := ⟨tw5_163, tw1_0, by decide, by decide, by decide, tw5_162⟩
