/-! methods that may throw: the contract, the calls, require -/
def ob_w (C : ob_Cx) : ob_Cx := match C with | (p, l, e, R, s, m, args, below, meth, c, D, ad, ca, Q, ce, sl) => (p, l, e, R, s, m, args, below, meth, c, D, ad, ca, Q, ce + 1, sl + 6)
/-- thrown at pc in the world g: what is owed -/
def ob_Tw (C : ob_Cx) (pc : Nat) (ls : List (Nat × Value)) (g : ob_St) : Prop := match C with
  | (p, l, e, R, s, m, args, below, meth, c, D, ad, ca, Q, ce, sl) => ∀ (H : Heap) (locs : List Loc) (la : Array Slot) (rest : List Value) (q : Addr) (cq : Cell), va_P D vwCl (ob_ws ad ca g) H → va_S (ob_A ad s.heap.size) s.heap H locs → lv_has la c.maxLocals ls → H[q]? = some cq → cq.vm = .none → s.vm.findClass ob_NS = some cq.cls → vx_W p l e R s m args below meth c H locs (ce + 1) (sl + 6) Q (F0 m pc la rest) q
def ob_Mx (cf : ob_Cf) (y : MethodName) (bytes : ByteArray) (maxL : Nat) (ret : Option FieldType) (fr lo : Nat) (av : List Value) (g : ob_St) (w : ob_St ⊕ (Option Value × ob_St)) : Prop :=
  ∀ sz : Nat, vx_Met cf.1 y (Cond.code y bytes maxL ret :: ob_GT) { frames := fr, cells := 1, slots := 6, locals := lo } (va_Pc av (fun U => U.heap.size = sz ∧ ob_Wd cf.2.1 cf.2.2.1 cf.2.2.2 sz g U))
    (fun _ su o t => ∃ (v : Option Value) (g2 : ob_St), w = .inr (v, g2) ∧ o = .returned v ∧ va_P cf.2.1 vwCl (ob_ws cf.2.2.1 cf.2.2.2 g2) t.heap ∧ va_F (ob_A cf.2.2.1 sz) su t)
    (fun E su t => ∃ g2 : ob_St, w = .inl g2 ∧ E = ob_NS ∧ va_P cf.2.1 vwCl (ob_ws cf.2.2.1 cf.2.2.2 g2) t.heap ∧ va_F (ob_A cf.2.2.1 sz) su t) 1 6 (ob_A cf.2.2.1 sz)
section OBX
variable {C : ob_Cx} {cc : ByteArray} {nL : Nat} {own : String} {ret : Option FieldType} {fr lo pc : Nat} {ls : List (Nat × Value)} {st : List Value} {g : ob_St}
theorem ob_afterX {p : Program} {l : Launch} {e : Env} {R : Room} {s : State} {m : MethodId} {args : Array Value} {below : List Frame} {meth : Method} {c : Code} {D : va_G} {ad : Nat → Nat} {ca : Nat → ClassId} {Q : State → Prop} {ce sl : Nat} {H : Heap} {locs : List Loc} {la : Array Slot} {st0 rest : List Value} {w : ob_St ⊕ (Option Value × ob_St)}
    (hr : vx_Run p l e R s m args below meth c H locs ce sl 1 6 (F0 m pc la st0) rest (fun su o t => ∃ (v : Option Value) (g2 : ob_St), w = .inr (v, g2) ∧ o = .returned v ∧ va_P D vwCl (ob_ws ad ca g2) t.heap ∧ va_F (ob_A ad H.size) su t) (fun E su t => ∃ g2 : ob_St, w = .inl g2 ∧ E = ob_NS ∧ va_P D vwCl (ob_ws ad ca g2) t.heap ∧ va_F (ob_A ad H.size) su t) (ob_A ad H.size)) (hS : va_S (ob_A ad s.heap.size) s.heap H locs)
    (kx : ∀ (g2 : ob_St) (H1 : Heap) (locs1 : List Loc) (q : Addr) (cq : Cell), w = .inl g2 → va_P D vwCl (ob_ws ad ca g2) H1 → va_S (ob_A ad s.heap.size) s.heap H1 locs1 → H1[q]? = some cq → cq.vm = .none → s.vm.findClass ob_NS = some cq.cls → vx_W p l e R s m args below meth c H1 locs1 (ce + 1) (sl + 6) Q (F0 m pc la rest) q)
    (k : ∀ (v : Option Value) (g2 : ob_St) (H1 : Heap) (locs1 : List Loc), w = .inr (v, g2) → va_P D vwCl (ob_ws ad ca g2) H1 → va_S (ob_A ad s.heap.size) s.heap H1 locs1 → W p l e R s m args below meth c H1 locs1 (ce + 1) (sl + 6) Q (F0 m (pc + 3) la (v.toList ++ rest))) : W p l e R s m args below meth c H locs ce sl Q (F0 m pc la st0) := by
  intro T hT X
  rcases hr T hT X with ⟨v2, st₀, t, T', L, h0, X', hL, e1, e2, ⟨v, g2, hw, hv, hP1, hz, hk⟩, st⟩ | ⟨q, st₀, t, T', L, E, cq, h0, X', hL, e1, e2, ⟨g2, hw, hE, hP1, hz, hk⟩, hce, hcv, hcl, st⟩
  · cases hv
    rw [h0] at hz hk
    obtain ⟨t2, a1, b1⟩ := k _ g2 T'.heap (locs ++ L) hw (by rw [e1]; exact hP1)
      ⟨Nat.le_trans hS.1 (by rw [e1]; exact hz), fun q h1 h2 => by rw [e1, hk q (Nat.lt_of_lt_of_le h1 hS.1) (fun z => h2 (ob_A_mono hS.1 q z))]; exact hS.2.1 q h1 h2, fun q hq => by
        rcases List.mem_append.mp hq with h | h
        · exact hS.2.2 q h
        · exact ob_A_mono hS.1 _ (hL q h)⟩ T' rfl X'
    exact ⟨t2, st t2 a1, b1⟩
  · subst hE
    rw [h0] at hz hk
    obtain ⟨t2, a1, b1⟩ := kx g2 T'.heap (locs ++ L) q cq hw (by rw [e1]; exact hP1)
      ⟨Nat.le_trans hS.1 (by rw [e1]; exact hz), fun q h1 h2 => by rw [e1, hk q (Nat.lt_of_lt_of_le h1 hS.1) (fun z => h2 (ob_A_mono hS.1 q z))]; exact hS.2.1 q h1 h2, fun q hq => by
        rcases List.mem_append.mp hq with h | h
        · exact hS.2.2 q h
        · exact ob_A_mono hS.1 _ (hL q h)⟩ (by rw [e1]; exact hce) hcv hcl T' rfl X'
    exact ⟨t2, st.trans a1, b1⟩
theorem ob_cbX {R : Room} {s : State} {args : Array Value} {idx : Nat} {y : MethodName} {bytes : ByteArray} {maxL np fr lo : Nat} {ret : Option FieldType} (hts : ∀ w ∈ ob_GT, w.before args s = true) (ib : ob_Ib y bytes maxL ret np) (hl : Cond.methodLink own idx y ∈ ob_GT) (hR : fr + 1 ≤ R.frames ∧ 8 + (maxL + 11) + lo ≤ R.locals) :
    CallB R s args own idx y bytes maxL ret (Cond.code y bytes maxL ret :: ob_GT) { frames := fr, cells := 1, slots := 6, locals := lo } 1 6 np :=
  callB_of np hts (ob_good ib.1) rfl rfl rfl (hts _ ib.2.1) (hts _ hl) ib.2.2 hR
theorem ob_callSX {idx : Nat} {y : MethodName} {bytes : ByteArray} {maxL np fr2 lo2 : Nat} {rt : Option FieldType} {As rest : List Value} {w : ob_St ⊕ (Option Value × ob_St)} (F : ob_Fx C cc nL own ret fr lo) (F2 : ob_Fx (ob_w C) cc nL own ret fr lo) (d : decode cc pc = .ok (.invokestatic idx, 3)) (im : ob_Is y bytes maxL rt np) (hl : Cond.methodLink own idx y ∈ ob_GT) (hM : ob_Mx (ob_cf C) y bytes maxL rt fr2 lo2 As g w) (hn : As.length = np) (hs : st = As.reverse ++ rest) (hw : (rest.map fun v => v.category).sum ≤ 8) (hR : fr2 + 1 ≤ fr ∧ 8 + (maxL + 11) + lo2 ≤ lo) (kt : ∀ g2, w = .inl g2 → ob_Tw C pc ls g2) (k : ∀ v g2, w = .inr (v, g2) → ob_Ev (ob_w C) (pc + 3) ls (v.toList ++ rest) g2) : ob_Ev C pc ls st g := by
  obtain ⟨p, l, e, R, s, m, args, below, meth, c, D, ad, ca, Q, ce, sl⟩ := C
  obtain ⟨hx, hb, hml, hown, hts, hK, hi, hSF, hNs, hfr, hlo, hce, hsl, hrt, hlk⟩ := F
  obtain ⟨-, -, -, -, -, -, -, -, -, -, -, hce2, hsl2, -, -⟩ := F2
  obtain ⟨ib, i1⟩ := im
  intro H locs la hP hS hlv
  exact ob_afterX (vx_runS (As := As) (rest := rest) (n := np) ⟨hx, hb, hml, hown, hts⟩ (hM H.size) ⟨ob_cbX hts ib hl ⟨Nat.le_trans hR.1 hfr, Nat.le_trans hR.2 hlo⟩, hts _ i1⟩ ⟨ob_blind, fun U hU hW => ⟨rfl, ob_pre hP hS hK hi hSF hNs hU hW⟩⟩ rfl hn (by rw [hlv.1, hml]) hs (by simpa using hw) d ⟨hce2, hsl2⟩) hS (fun g2 H1 locs1 q cq hw hP1 hS1 h1 h2 h3 => kt g2 hw H1 locs1 la rest q cq hP1 hS1 hlv h1 h2 h3) (fun v g2 H1 locs1 hw hP1 hS1 => k v g2 hw H1 locs1 la hP1 hS1 hlv)
theorem ob_callVX {K n idx : Nat} {y : MethodName} {bytes : ByteArray} {maxL np fr2 lo2 : Nat} {rt : Option FieldType} {As rest : List Value} {w : ob_St ⊕ (Option Value × ob_St)} (F : ob_Fx C cc nL own ret fr lo) (F2 : ob_Fx (ob_w C) cc nL own ret fr lo) (d : decode cc pc = .ok (.invokevirtual idx, 3)) (im : ob_Im y bytes maxL rt np K) (hl : Cond.methodLink own idx y ∈ ob_GT) (hM : ob_Mx (ob_cf C) y bytes maxL rt fr2 lo2 (ob_rv C n :: As) g w) (hk : ob_kd n = K) (hn : As.length = np) (hs : st = As.reverse ++ ob_rv C n :: rest) (hw : (rest.map fun v => v.category).sum ≤ 8) (hR : fr2 + 1 ≤ fr ∧ 8 + (maxL + 11) + lo2 ≤ lo) (kt : ∀ g2, w = .inl g2 → ob_Tw C pc ls g2) (k : ∀ v g2, w = .inr (v, g2) → ob_Ev (ob_w C) (pc + 3) ls (v.toList ++ rest) g2) : ob_Ev C pc ls st g := by
  obtain ⟨p, l, e, R, s, m, args, below, meth, c, D, ad, ca, Q, ce, sl⟩ := C
  obtain ⟨hx, hb, hml, hown, hts, hK, hi, hSF, hNs, hfr, hlo, hce, hsl, hrt, hlk⟩ := F
  obtain ⟨-, -, -, -, -, -, -, -, -, -, -, hce2, hsl2, -, -⟩ := F2
  obtain ⟨ib, i1, i2, ⟨T, N, i3⟩, i4⟩ := im
  intro H locs la hP hS hlv
  exact ob_afterX (vx_runV (As := As) (rest := rest) (n := np) ⟨hx, hb, hml, hown, hts⟩ (hM H.size) ⟨ob_cbX hts ib hl ⟨Nat.le_trans hR.1 hfr, Nat.le_trans hR.2 hlo⟩, hts _ i1, hts _ i2⟩ ⟨ob_blind, va_recv hK hP (ci := K) (q0 := n) i3 (ob_at_obj hk i4), fun U hU hW => ⟨rfl, ob_pre hP hS hK hi hSF hNs hU hW⟩⟩ rfl hn (by rw [hlv.1, hml]) hs (by simpa using hw) d ⟨hce2, hsl2⟩) hS (fun g2 H1 locs1 q cq hw hP1 hS1 h1 h2 h3 => kt g2 hw H1 locs1 la rest q cq hP1 hS1 hlv h1 h2 h3) (fun v g2 H1 locs1 hw hP1 hS1 => k v g2 hw H1 locs1 la hP1 hS1 hlv)
/-- a method that may throw: its contract out of its body's walk -/
theorem ob_enterX {cf : ob_Cf} {y : MethodName} {bytes : ByteArray} {maxL fr2 lo2 : Nat} {av : List Value} {w : ob_St ⊕ (Option Value × ob_St)} (hy : plainName y.cls = true) (hav : (lg_sl av).length ≤ maxL) (hv : ∀ v g2, w = .inr (v, g2) → ∃ x : Int64, v = some (.long x))
    (body : ∀ C : ob_Cx, ob_cf C = cf → ob_Fx C bytes maxL y.cls (some .long) fr2 lo2 → ob_Fx (ob_w C) bytes maxL y.cls (some .long) fr2 lo2 → (∀ v g2, w = .inr (v, g2) → ob_Rt (ob_w C) v g2) → (∀ pc ls g2, w = .inl g2 → ob_Tw C pc ls g2) → ob_Ev C 0 (lv_args 0 av) [] g) : ob_Mx cf y bytes maxL (some .long) fr2 lo2 av g w := by
  intro sz
  obtain ⟨l, D, ad, ca⟩ := cf
  refine vx_ofW (cc := bytes) (maxL := maxL) (ret := some .long) hy rfl ?_
  intro p e s m args below meth c s₁ B hml htab hq
  obtain ⟨rfl, hsz, hP, hK, hi, hSF, hN⟩ := hq
  have hx := B.exec
  have hb := B.bytes
  have hr := B.returns
  have hts := atoms_spec (ws := Cond.code y bytes maxL (some .long) :: ob_GT) B.pre
  have hown : s.vm.findClass y.cls = some m.cls := findClass_of_methodNamed B.named
  have hlocks := B.notSynchronized
  subst hsz
  have hl := lv_entry av (n := maxL) hav
  rw [lg_entry_eq]
  generalize (lg_sl av ++ List.replicate (maxL - (lg_sl av).length) Slot.unset).toArray = la at hl ⊢
  refine body (p, l, e, _, s, m, av.toArray, below, meth, c, D, ad, ca, _, 0, 0) rfl ⟨hx, hb, hml, hown, fun w h => hts w (List.mem_cons_of_mem _ h), hK, hi, hSF, hN, Nat.le_refl _, Nat.le_refl _, Nat.zero_le _, Nat.zero_le _, hr, hlocks⟩ ⟨hx, hb, hml, hown, fun w h => hts w (List.mem_cons_of_mem _ h), hK, hi, hSF, hN, Nat.le_refl _, Nat.le_refl _, Nat.le_refl _, Nat.le_refl _, hr, hlocks⟩ ?_ ?_ s.heap [] la hP va_S.rf (by rw [hml]; exact hl)
  · intro v g2 hw
    obtain ⟨x, rfl⟩ := hv v g2 hw
    intro H locs pc la hP hS d
    exact vx_ret (W.lret hx rfl (by rw [hr]) (fun t ht hW => ⟨_, g2, hw, rfl, by rw [ht]; exact hP, hS.F ht⟩) hS.2.2 d)
  · intro pc ls g2 hw H locs la rest q cq hP hS hlv h1 h2 h3
    exact vx_out (fun x hx => (htab x hx).elim) hlocks h1 h2 h3 (fun t ht hW => ⟨g2, hw, rfl, by rw [ht]; exact hP, hS.F ht⟩) hS.2.2 (Nat.le_refl _) (Nat.le_refl _)
end OBX
theorem ob_xA : ∀ w ∈ (vx_at0 RX11 339 ob_NS ["java/lang/RuntimeException", "java/lang/Exception"]).filter goodWord, w ∈ lw_tbl := by decide +kernel
theorem ob_xB : ∀ w ∈ (vx_at0 RX11 339 ob_NS ["java/lang/RuntimeException", "java/lang/Exception"]).filter (fun w => !goodWord w), w ∈ ob_xw := by decide +kernel
theorem ob_xO : ∀ w ∈ Cond.classLink RX11 337 ob_NS :: Cond.initialized ob_NS :: vx_at0 RX11 339 ob_NS ["java/lang/RuntimeException", "java/lang/Exception"], vx_ot w = true := by decide +kernel
theorem ob_xF : Bundle.fit ob_NS = true ∧ ∀ n ∈ ["java/lang/RuntimeException", "java/lang/Exception"], Bundle.fit n = true := by decide +kernel
theorem ob_xK : Cond.classLink RX11 337 ob_NS ∈ ob_GT ∧ Cond.initialized ob_NS ∈ ob_GT := by decide +kernel
/-- require(x): returns where x isn't 0, else it throws -/
theorem t_X11_require {cf : ob_Cf} {g : ob_St} {x0 : Int32} (hst : cf.1.stackTraces = false) : ob_Mx cf yX11_require cX11_require 1 none 6 81 [.int x0] g (if x0 = 0 then .inl g else .inr (none, g)) := by
  intro sz
  obtain ⟨l, D, ad, ca⟩ := cf
  refine vx_ofW (cc := cX11_require) (maxL := 1) (ret := none) (by decide) rfl ?_
  intro p e s m args below meth c s₁ B hml htab hq
  obtain ⟨rfl, hsz, hP, hK, hi, hSF, hN⟩ := hq
  have hx := B.exec
  have hb := B.bytes
  have hr := B.returns
  have hts := atoms_spec (ws := Cond.code yX11_require cX11_require 1 none :: ob_GT) B.pre
  have hown : s.vm.findClass RX11 = some m.cls := findClass_of_methodNamed B.named
  have hlocks := B.notSynchronized
  subst hsz
  have hl := lv_entry [.int x0] (n := 1) (Nat.le_of_ble_eq_true rfl)
  rw [lg_entry_eq]
  generalize (lg_sl [.int x0] ++ List.replicate (1 - (lg_sl [.int x0]).length) Slot.unset).toArray = la at hl ⊢
  have hl : lv_has la 1 [(0, .int x0)] := hl
  refine lv_iload_n hx hb dX11_require_0 rfl (lv_at hl 0 rfl) ?_
  refine lv_if_ne (tgt := 12) hx hb dX11_require_1 (by decide) (fun q => ?_) (fun q => ?_)
  · refine vx_ret (W.widen (k := 1) (n := 6) (Nat.zero_le _) (Nat.zero_le _) (W.vret hx hb (by rw [hr]) (fun t ht hW => ⟨none, g, by rw [if_neg q], rfl, by rw [ht]; exact hP, va_S.F va_S.rf ht⟩) (fun q h => by cases h) dX11_require_12))
  · have hts2 : ∀ w ∈ ob_GT, w.before #[Value.int x0] s = true := fun w h => hts w (List.mem_cons_of_mem _ h)
    exact vx_throw0 (names := ["java/lang/RuntimeException", "java/lang/Exception"]) (cls := ob_NS) (ik := 337) (ic := 339) hx hb hst hown ob_xF.1 ob_xF.2 (hts2 _ ob_xK.1) (hts2 _ ob_xK.2)
      (vx_hat (fun w hw => hts2 w (List.mem_filter.mpr ⟨ob_xA w hw, (List.mem_filter.mp hw).2⟩)) ob_xB (fun w hw => va_Nw.use (ob_xw_on w hw) (hN.2 w hw))) ob_xO hSF.2.2.1 hSF.2.2.2 va_S.rf (by rw [hml]; exact hl.1)
      dX11_require_4 dX11_require_7 dX11_require_8 dX11_require_11 (fun x hx => (htab x hx).elim) (Nat.le_of_ble_eq_true rfl) (Nat.le_of_ble_eq_true rfl) (Nat.le_of_ble_eq_true rfl) (Nat.le_of_ble_eq_true rfl) hlocks
      (fun t _ h1 h2 => ⟨g, by rw [if_pos q], rfl, va_P.kept hP (fun k z hk => h2 _ (hP k z hk).lt), h1, fun z hz _ => h2 z hz⟩) (fun z h => by cases h) (Nat.le_refl _) (Nat.le_refl _)
theorem ob_wl {x : Int32} {g g2 : ob_St} {v : Option Value × ob_St} (h : (if x = 0 then Sum.inl g else Sum.inr v) = Sum.inl g2) : x = 0 ∧ g = g2 := by
  by_cases q : x = 0
  · rw [if_pos q] at h; exact ⟨q, Sum.inl.inj h⟩
  · rw [if_neg q] at h; cases h
theorem ob_wr {x : Int32} {g g2 : ob_St} {v : Option Value} (h : (if x = 0 then Sum.inl g else Sum.inr ((none : Option Value), g)) = Sum.inr (v, g2)) : ¬ x = 0 ∧ v = none ∧ g2 = g := by
  by_cases q : x = 0
  · rw [if_pos q] at h; cases h
  · rw [if_neg q] at h; cases h; exact ⟨q, rfl, rfl⟩
