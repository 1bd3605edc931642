/-! quiet methods (nothing is written), the text KEYWORDS, Tokens' loop, the reference's bare -/
def kv_Q0 (cf : ob_Cf) (y : MethodName) (bytes : ByteArray) (maxL : Nat) (rt : Option FieldType) (fr lo : Nat) (av : List Value) (v : Option Value) : Prop :=
  ∀ sz : Nat, Met cf.1 y (Cond.code y bytes maxL rt :: ob_GT) { frames := fr, cells := 0, slots := 0, locals := lo } (va_Pc av (fun U => U.heap.size = sz ∧ (va_P cf.2.1 vwCl [] U.heap ∧ va_K cf.2.1 vwCl (ob_ty cf.2.2.2) U ∧ kv_S cf.2.2.1 (kv_A sz sz) U U.heap ∧ kv_N cf.2.2.1 U))) (fun _ su o t => o = .returned v ∧ va_F (kv_A sz sz) su t) 0 0 (kv_A sz sz)
def kv_Rv (C : ob_Cx) (v : Option Value) : Prop := match C with
  | (p, l, e, R, s, m, args, below, meth, c, D, ad, ca, Q, h0, sl) => ∀ (H : Heap) (locs : List Loc) (pc : Nat) (la : Array Slot), va_S (kv_A h0 s.heap.size) s.heap H locs → (match v with
    | none => decode c.code pc = .ok (.return_, 1) → W p l e R s m args below meth c H locs 0 0 Q (F0 m pc la [])
    | some (.int x) => decode c.code pc = .ok (.ireturn, 1) → W p l e R s m args below meth c H locs 0 0 Q (F0 m pc la [.int x])
    | some (.long x) => decode c.code pc = .ok (.lreturn, 1) → W p l e R s m args below meth c H locs 0 0 Q (F0 m pc la [.long x])
    | some _ => True)
section KVQ
variable {C : ob_Cx} {cc : ByteArray} {nL : Nat} {own : String} {fr lo pc k n : Nat} {ls : List (Nat × Value)} {st : List Value} {ws : va_W}
theorem kv_enter0 {cf : ob_Cf} {y : MethodName} {bytes : ByteArray} {maxL fr2 lo2 : Nat} {rt : Option FieldType} {av : List Value} {v : Option Value} (hy : plainName y.cls = true) (hav : (lg_sl av).length ≤ maxL) (hv : match v with | none => rt = none | some (.int x) => ∃ ty, rt = some ty ∧ narrow ty (.int x) = .int x | some (.long _) => rt = some .long | some _ => False)
    (body : ∀ C : ob_Cx, ob_cf C = cf → kv_Fx C bytes maxL y.cls fr2 lo2 → kv_Rv C v → kv_Ev C 0 (lv_args 0 av) [] [] 0 0) : kv_Q0 cf y bytes maxL rt fr2 lo2 av v := by
  intro sz
  obtain ⟨l, D, ad, ca⟩ := cf
  refine Met.ofW (cc := bytes) (maxL := maxL) (ret := rt) hy rfl ?_
  intro p e s m args below meth c s₁ B hml hq
  obtain ⟨rfl, hsz, hP, hK, hS, hN⟩ := hq
  have hx := B.exec
  have hb := B.bytes
  have hr := B.returns
  have hts := atoms_spec (ws := Cond.code y bytes maxL rt :: ob_GT) B.pre
  have hown : s.vm.findClass y.cls = some m.cls := findClass_of_methodNamed B.named
  have hlocks := B.notSynchronized
  subst hsz
  have hl := lv_entry av (n := maxL) hav
  rw [lg_entry_eq]
  generalize (lg_sl av ++ List.replicate (maxL - (lg_sl av).length) Slot.unset).toArray = la at hl ⊢
  refine body (p, l, e, _, s, m, av.toArray, below, meth, c, D, ad, ca, _, s.heap.size, 0) rfl ⟨hx, hb, hml, hown, fun w h => hts w (List.mem_cons_of_mem _ h), hK, ⟨hS, hN⟩, Nat.le_refl _, Nat.le_refl _, hlocks⟩ ?_ s.heap [] la hP ⟨fun i j p q h => by simp at h, fun k q h => by simp at h⟩ va_S.rf (by rw [hml]; exact hl)
  intro H locs pc la hS
  cases v with
  | none => exact fun d => W.vret hx rfl (by rw [hr, hv]) (fun t ht hW => ⟨rfl, hS.F ht⟩) hS.2.2 d
  | some w =>
    cases w with
    | int x =>
      intro d
      obtain ⟨ty, h1, h2⟩ := hv
      exact W.zret hx rfl (by rw [hr, h1]) h2 (fun t ht hW => ⟨rfl, hS.F ht⟩) hS.2.2 d
    | long x => exact fun d => W.lret hx rfl (by rw [hr, hv]) (fun t ht hW => ⟨rfl, hS.F ht⟩) hS.2.2 d
    | _ => trivial
theorem kv_afterQ {p : Program} {l : Launch} {e : Env} {R : Room} {s : State} {m : MethodId} {args : Array Value} {below : List Frame} {meth : Method} {c : Code} {D : va_G} {Q : State → Prop} {h0 : Nat} {H : Heap} {locs : List Loc} {la : Array Slot} {st0 rest : List Value} {v : Option Value}
    (hr : va_Run p l e R s m args below meth c H locs k n 0 0 (F0 m pc la st0) rest (fun su o t => o = .returned v ∧ va_F (kv_A H.size H.size) su t) (kv_A H.size H.size)) (hP : va_P D vwCl ws H) (hS : va_S (kv_A h0 s.heap.size) s.heap H locs)
    (kk : ∀ (H1 : Heap) (locs1 : List Loc), va_P D vwCl ws H1 → va_S (kv_A h0 s.heap.size) s.heap H1 locs1 → W p l e R s m args below meth c H1 locs1 k n Q (F0 m (pc + 3) la (v.toList ++ rest))) : W p l e R s m args below meth c H locs k n Q (F0 m pc la st0) := by
  have hsub : ∀ z, kv_A H.size H.size z → kv_A h0 s.heap.size z := by
    rintro z (rfl | h)
    · exact Or.inr hS.1
    · exact Or.inr (Nat.le_trans hS.1 h)
  intro T hT X
  obtain ⟨v2, st₀, t, T', L, h00, X', hL, e1, e2, ⟨hv, hz, hk⟩, st9⟩ := hr T hT X
  cases hv
  rw [h00] at hz hk
  obtain ⟨t2, a1, b1⟩ := kk T'.heap (locs ++ L) (by rw [e1]; exact hP.kept (fun j x hj => hk x.1 (hP j x hj).lt (fun z => z.elim (fun z => by have := (hP j x hj).lt; omega) (fun z => by have := (hP j x hj).lt; omega))))
    ⟨Nat.le_trans hS.1 (by rw [e1]; exact hz), fun z h1 h2 => by rw [e1, hk z (Nat.lt_of_lt_of_le h1 hS.1) (fun y => h2 (hsub z y))]; exact hS.2.1 z h1 h2, fun z hz => by
      rcases List.mem_append.mp hz with h | h
      · exact hS.2.2 z h
      · exact hsub _ (hL z h)⟩ T' rfl X'
  exact ⟨t2, st9 t2 a1, b1⟩
theorem kv_preQ {D : va_G} {ad : Nat → Nat} {ca : Nat → ClassId} {s U : State} {H : Heap} {locs : List Loc} {h0 : Nat} (hS : va_S (kv_A h0 s.heap.size) s.heap H locs) (hK : va_K D vwCl (ob_ty ca) s) (hNk : kv_S ad (kv_A h0 s.heap.size) s s.heap ∧ kv_N ad s) (hU : U.heap = H) (hW : s.WarmedH U.vm) : U.heap.size = H.size ∧ (va_P D vwCl [] U.heap ∧ va_K D vwCl (ob_ty ca) U ∧ kv_S ad (kv_A H.size H.size) U U.heap ∧ kv_N ad U) := by
  refine ⟨by rw [hU], fun k q h => by simp at h, va_K.moved hW.alike hK, ?_, hNk.2.warm hW⟩
  rw [hU]
  refine ((hNk.1.kept hS.2.1).moved hW.alike).narrow ?_
  rintro z (rfl | h)
  · exact Or.inr hS.1
  · exact Or.inr (Nat.le_trans hS.1 h)
theorem kv_qS {idx : Nat} {y : MethodName} {bytes : ByteArray} {maxL np fr2 lo2 : Nat} {rt : Option FieldType} {As rest : List Value} {v : Option Value} (F : kv_Fx C cc nL own fr lo) (d : decode cc pc = .ok (.invokestatic idx, 3)) (im : ob_Is y bytes maxL rt np) (hl : Cond.methodLink own idx y ∈ ob_GT) (hM : kv_Q0 (ob_cf C) y bytes maxL rt fr2 lo2 As v) (hn : As.length = np) (hs : st = As.reverse ++ rest) (hw : (rest.map fun v => v.category).sum ≤ 8) (hR : fr2 + 1 ≤ fr ∧ 8 + (maxL + 11) + lo2 ≤ lo) (hr : kv_Rm C k n) (kk : kv_Ev C (pc + 3) ls (v.toList ++ rest) ws k n) : kv_Ev C pc ls st ws k n := by
  obtain ⟨p, l, e, R, s, m, args, below, meth, c, D, ad, ca, Q, h0, sl⟩ := C
  obtain ⟨hx, hb, hml, hown, hts, hK, hNk, hfr, hlo, hlk⟩ := F
  obtain ⟨ib, i1⟩ := im
  intro H locs la hP hD hS hlv
  exact kv_afterQ (va_runS (As := As) (rest := rest) (n := np) ⟨hx, hb, hml, hown, hts⟩ (hM H.size) ⟨ob_cb hts ib hl ⟨Nat.le_trans hR.1 hfr, Nat.le_trans hR.2 hlo⟩, hts _ i1⟩ ⟨kv_blind, fun U hU hW => ⟨rfl, kv_preQ hS hK hNk hU hW⟩⟩ rfl hn (by rw [hlv.1, hml]) hs (by simpa using hw) d hr) hP hS (fun H1 locs1 hP1 hS1 => kk H1 locs1 la hP1 hD hS1 hlv)
/-- a call of a String's method, on KEYWORDS -/
theorem kv_qV {idx : Nat} {y : MethodName} {bytes : ByteArray} {maxL np fr2 lo2 : Nat} {rt : Option FieldType} {As rest : List Value} {v : Option Value} (F : kv_Fx C cc nL own fr lo) (d : decode cc pc = .ok (.invokevirtual idx, 3)) (ib : ob_Ib y bytes maxL rt np) (i1 : Cond.instanceMethod y ∈ ob_GT) (i2 : Cond.selects "java/lang/String" y y ∈ ob_GT) (hl : Cond.methodLink own idx y ∈ ob_GT) (hM : kv_Q0 (ob_cf C) y bytes maxL rt fr2 lo2 (ob_rv C 1 :: As) v) (hn : As.length = np) (hs : st = As.reverse ++ ob_rv C 1 :: rest) (hw : (rest.map fun v => v.category).sum ≤ 8) (hR : fr2 + 1 ≤ fr ∧ 8 + (maxL + 11) + lo2 ≤ lo) (hr : kv_Rm C k n) (kk : kv_Ev C (pc + 3) ls (v.toList ++ rest) ws k n) : kv_Ev C pc ls st ws k n := by
  obtain ⟨p, l, e, R, s, m, args, below, meth, c, D, ad, ca, Q, h0, sl⟩ := C
  obtain ⟨hx, hb, hml, hown, hts, hK, hNk, hfr, hlo, hlk⟩ := F
  intro H locs la hP hD hS hlv
  have hrec : ∃ cell : Cell, H[ad 1]? = some cell ∧ cell.vm.isStatics = false ∧ s.vm.findClass "java/lang/String" = some cell.cls := by
    obtain ⟨cell, g1, g2, g3, g4⟩ := (hNk.1.kept hS.2.1).2.1
    exact ⟨cell, g1, g2, g3⟩
  exact kv_afterQ (va_runV (As := As) (rest := rest) (n := np) ⟨hx, hb, hml, hown, hts⟩ (hM H.size) ⟨ob_cb hts ib hl ⟨Nat.le_trans hR.1 hfr, Nat.le_trans hR.2 hlo⟩, hts _ i1, hts _ i2⟩ ⟨kv_blind, hrec, fun U hU hW => ⟨rfl, kv_preQ hS hK hNk hU hW⟩⟩ rfl hn (by rw [hlv.1, hml]) hs (by simpa using hw) d hr) hP hS (fun H1 locs1 hP1 hS1 => kk H1 locs1 la hP1 hD hS1 hlv)
theorem kv_iret {x : Int32} (F : kv_Fx C cc nL own fr lo) (d : decode cc pc = .ok (.ireturn, 1)) (kk : kv_Rv C (some (.int x))) : kv_Ev C pc ls [.int x] ws 0 0 := by
  obtain ⟨p, l, e, R, s, m, args, below, meth, c, D, ad, ca, Q, h0, sl⟩ := C
  obtain ⟨hx, hb, hml, hown, hts, hK, hNk, hfr, hlo, hlk⟩ := F
  subst hb
  exact fun H locs la hP hD hS hl => kk H locs pc la hS d
theorem kv_lret {x : Int64} (F : kv_Fx C cc nL own fr lo) (d : decode cc pc = .ok (.lreturn, 1)) (kk : kv_Rv C (some (.long x))) : kv_Ev C pc ls [.long x] ws 0 0 := by
  obtain ⟨p, l, e, R, s, m, args, below, meth, c, D, ad, ca, Q, h0, sl⟩ := C
  obtain ⟨hx, hb, hml, hown, hts, hK, hNk, hfr, hlo, hlk⟩ := F
  subst hb
  exact fun H locs la hP hD hS hl => kk H locs pc la hS d
theorem kv_vretQ (F : kv_Fx C cc nL own fr lo) (d : decode cc pc = .ok (.return_, 1)) (kk : kv_Rv C none) : kv_Ev C pc ls [] ws 0 0 := by
  obtain ⟨p, l, e, R, s, m, args, below, meth, c, D, ad, ca, Q, h0, sl⟩ := C
  obtain ⟨hx, hb, hml, hown, hts, hK, hNk, hfr, hlo, hlk⟩ := F
  subst hb
  exact fun H locs la hP hD hS hl => kk H locs pc la hS d
/-- one row of the kit, where the world doesn't matter -/
theorem kv_row {pc2 : Nat} {st2 : List Value} (F : kv_Fx C cc nL own fr lo) (h : match C with | (p, l, e, R, s, m, args, below, meth, c, D, ad, ca, Q, h0, sl) => ∀ (H : Heap) (locs : List Loc) (la : Array Slot), p.tables.exec = Jvm.exec → c.code = cc → s.vm.findClass own = some m.cls → (∀ w ∈ ob_GT, w.before args s = true) → kv_S ad (kv_A h0 s.heap.size) s s.heap → kv_N ad s → va_S (kv_A h0 s.heap.size) s.heap H locs → lv_has la c.maxLocals ls → W p l e R s m args below meth c H locs k n Q (F0 m pc2 la st2) → W p l e R s m args below meth c H locs k n Q (F0 m pc la st)) (kk : kv_Ev C pc2 ls st2 ws k n) : kv_Ev C pc ls st ws k n := by
  obtain ⟨p, l, e, R, s, m, args, below, meth, c, D, ad, ca, Q, h0, sl⟩ := C
  obtain ⟨hx, hb, hml, hown, hts, hK, hNk, hfr, hlo, hlk⟩ := F
  exact fun H locs la hP hD hS hl => h H locs la hx hb hown hts hNk.1 hNk.2 hS hl (kk H locs la hP hD hS hl)

theorem kv_ishr (F : kv_Fx C cc nL own fr lo) {x y : Int32} (d : decode cc pc = .ok (.ishr, 1)) (kk : kv_Ev C (pc + 1) ls (.int (x >>> (y &&& 31)) :: st) ws k n) : kv_Ev C pc ls (.int y :: .int x :: st) ws k n := by
  obtain ⟨p, l, e, R, s, m, args, below, meth, c, D, ad, ca, Q, h0, sl⟩ := C
  obtain ⟨hx, hb, hml, hown, hts, hK, hNk, hfr, hlo, hlk⟩ := F
  exact fun H locs la hP hD hS hl => lv_ishr hx hb d (kk H locs la hP hD hS hl)
theorem kv_iand (F : kv_Fx C cc nL own fr lo) {x y : Int32} (d : decode cc pc = .ok (.iand, 1)) (kk : kv_Ev C (pc + 1) ls (.int (x &&& y) :: st) ws k n) : kv_Ev C pc ls (.int y :: .int x :: st) ws k n := by
  obtain ⟨p, l, e, R, s, m, args, below, meth, c, D, ad, ca, Q, h0, sl⟩ := C
  obtain ⟨hx, hb, hml, hown, hts, hK, hNk, hfr, hlo, hlk⟩ := F
  exact fun H locs la hP hD hS hl => lv_iand hx hb d (kk H locs la hP hD hS hl)
theorem kv_i2c (F : kv_Fx C cc nL own fr lo) {x v : Int32} (d : decode cc pc = .ok (.i2c, 1)) (hv : (x.toUInt32 % 65536).toInt32 = v) (kk : kv_Ev C (pc + 1) ls (.int v :: st) ws k n) : kv_Ev C pc ls (.int x :: st) ws k n := by
  obtain ⟨p, l, e, R, s, m, args, below, meth, c, D, ad, ca, Q, h0, sl⟩ := C
  obtain ⟨hx, hb, hml, hown, hts, hK, hNk, hfr, hlo, hlk⟩ := F
  exact fun H locs la hP hD hS hl => lv_i2c hx hb d hv (kk H locs la hP hD hS hl)
theorem kv_pop (F : kv_Fx C cc nL own fr lo) {v : Value} (d : decode cc pc = .ok (.pop, 1)) (hc : v.category = 1) (kk : kv_Ev C (pc + 1) ls st ws k n) : kv_Ev C pc ls (v :: st) ws k n := by
  obtain ⟨p, l, e, R, s, m, args, below, meth, c, D, ad, ca, Q, h0, sl⟩ := C
  obtain ⟨hx, hb, hml, hown, hts, hK, hNk, hfr, hlo, hlk⟩ := F
  exact fun H locs la hP hD hS hl => lv_pop hx hb d hc (kk H locs la hP hD hS hl)
theorem kv_i2l (F : kv_Fx C cc nL own fr lo) {x : Int32} (d : decode cc pc = .ok (.i2l, 1)) (kk : kv_Ev C (pc + 1) ls (.long x.toInt64 :: st) ws k n) : kv_Ev C pc ls (.int x :: st) ws k n := by
  obtain ⟨p, l, e, R, s, m, args, below, meth, c, D, ad, ca, Q, h0, sl⟩ := C
  obtain ⟨hx, hb, hml, hown, hts, hK, hNk, hfr, hlo, hlk⟩ := F
  exact fun H locs la hP hD hS hl => lv_i2l hx hb d rfl (kk H locs la hP hD hS hl)
theorem kv_ladd (F : kv_Fx C cc nL own fr lo) {x y : Int64} (d : decode cc pc = .ok (.ladd, 1)) (kk : kv_Ev C (pc + 1) ls (.long (x + y) :: st) ws k n) : kv_Ev C pc ls (.long y :: .long x :: st) ws k n := by
  obtain ⟨p, l, e, R, s, m, args, below, meth, c, D, ad, ca, Q, h0, sl⟩ := C
  obtain ⟨hx, hb, hml, hown, hts, hK, hNk, hfr, hlo, hlk⟩ := F
  exact fun H locs la hP hD hS hl => lv_ladd hx hb d (kk H locs la hP hD hS hl)
theorem kv_lsub (F : kv_Fx C cc nL own fr lo) {x y : Int64} (d : decode cc pc = .ok (.lsub, 1)) (kk : kv_Ev C (pc + 1) ls (.long (x - y) :: st) ws k n) : kv_Ev C pc ls (.long y :: .long x :: st) ws k n := by
  obtain ⟨p, l, e, R, s, m, args, below, meth, c, D, ad, ca, Q, h0, sl⟩ := C
  obtain ⟨hx, hb, hml, hown, hts, hK, hNk, hfr, hlo, hlk⟩ := F
  exact fun H locs la hP hD hS hl => lv_lsub hx hb d (kk H locs la hP hD hS hl)
theorem kv_lmul (F : kv_Fx C cc nL own fr lo) {x y : Int64} (d : decode cc pc = .ok (.lmul, 1)) (kk : kv_Ev C (pc + 1) ls (.long (x * y) :: st) ws k n) : kv_Ev C pc ls (.long y :: .long x :: st) ws k n := by
  obtain ⟨p, l, e, R, s, m, args, below, meth, c, D, ad, ca, Q, h0, sl⟩ := C
  obtain ⟨hx, hb, hml, hown, hts, hK, hNk, hfr, hlo, hlk⟩ := F
  exact fun H locs la hP hD hS hl => lv_lmul hx hb d (kk H locs la hP hD hS hl)
theorem kv_lconst (F : kv_Fx C cc nL own fr lo) {i : Fin 2} {v : Int64} (d : decode cc pc = .ok (.lconst i, 1)) (hv : Int64.ofNat (i : Nat) = v) (kk : kv_Ev C (pc + 1) ls (.long v :: st) ws k n) : kv_Ev C pc ls st ws k n := by
  obtain ⟨p, l, e, R, s, m, args, below, meth, c, D, ad, ca, Q, h0, sl⟩ := C
  obtain ⟨hx, hb, hml, hown, hts, hK, hNk, hfr, hlo, hlk⟩ := F
  exact fun H locs la hP hD hS hl => lv_lconst hx hb d hv (kk H locs la hP hD hS hl)
theorem kv_ldc2 (F : kv_Fx C cc nL own fr lo) {i : Nat} {v : Int64} (d : decode cc pc = .ok (.ldc2_w i, 3)) (hw : Cond.constantLong own i v ∈ ob_GT) (kk : kv_Ev C (pc + 3) ls (.long v :: st) ws k n) : kv_Ev C pc ls st ws k n := by
  obtain ⟨p, l, e, R, s, m, args, below, meth, c, D, ad, ca, Q, h0, sl⟩ := C
  obtain ⟨hx, hb, hml, hown, hts, hK, hNk, hfr, hlo, hlk⟩ := F
  exact fun H locs la hP hD hS hl => lv_ldc2 hx hb hown (hts _ hw) d (kk H locs la hP hD hS hl)
theorem kv_lload_n (F : kv_Fx C cc nL own fr lo) {i : Fin 4} {x : Int64} (q : Nat) (d : decode cc pc = .ok (.lload_n i, 1)) (hq : ls[q]? = some ((i : Nat), .long x)) (kk : kv_Ev C (pc + 1) ls (.long x :: st) ws k n) : kv_Ev C pc ls st ws k n := by
  obtain ⟨p, l, e, R, s, m, args, below, meth, c, D, ad, ca, Q, h0, sl⟩ := C
  obtain ⟨hx, hb, hml, hown, hts, hK, hNk, hfr, hlo, hlk⟩ := F
  exact fun H locs la hP hD hS hl => lv_lload_n hx hb d rfl (lv_at hl q hq) (kk H locs la hP hD hS hl)
theorem kv_if_eq (F : kv_Fx C cc nL own fr lo) {x : Int32} {off : Int} (tgt : Nat) (d : decode cc pc = .ok (.ifCond .eq off, 3)) (ht : (pc : Int) + off = (tgt : Int)) (kt : x = 0 → kv_Ev C tgt ls st ws k n) (kf : ¬ x = 0 → kv_Ev C (pc + 3) ls st ws k n) : kv_Ev C pc ls (.int x :: st) ws k n := by
  obtain ⟨p, l, e, R, s, m, args, below, meth, c, D, ad, ca, Q, h0, sl⟩ := C
  obtain ⟨hx, hb, hml, hown, hts, hK, hNk, hfr, hlo, hlk⟩ := F
  exact fun H locs la hP hD hS hl => lv_if_eq hx hb d ht (fun q => kt q H locs la hP hD hS hl) (fun q => kf q H locs la hP hD hS hl)
theorem kv_if_ne (F : kv_Fx C cc nL own fr lo) {x : Int32} {off : Int} (tgt : Nat) (d : decode cc pc = .ok (.ifCond .ne off, 3)) (ht : (pc : Int) + off = (tgt : Int)) (kt : ¬ x = 0 → kv_Ev C tgt ls st ws k n) (kf : x = 0 → kv_Ev C (pc + 3) ls st ws k n) : kv_Ev C pc ls (.int x :: st) ws k n := by
  obtain ⟨p, l, e, R, s, m, args, below, meth, c, D, ad, ca, Q, h0, sl⟩ := C
  obtain ⟨hx, hb, hml, hown, hts, hK, hNk, hfr, hlo, hlk⟩ := F
  exact fun H locs la hP hD hS hl => lv_if_ne hx hb d ht (fun q => kt q H locs la hP hD hS hl) (fun q => kf q H locs la hP hD hS hl)
theorem kv_if_lt (F : kv_Fx C cc nL own fr lo) {x : Int32} {off : Int} (tgt : Nat) (d : decode cc pc = .ok (.ifCond .lt off, 3)) (ht : (pc : Int) + off = (tgt : Int)) (kt : x < 0 → kv_Ev C tgt ls st ws k n) (kf : ¬ x < 0 → kv_Ev C (pc + 3) ls st ws k n) : kv_Ev C pc ls (.int x :: st) ws k n := by
  obtain ⟨p, l, e, R, s, m, args, below, meth, c, D, ad, ca, Q, h0, sl⟩ := C
  obtain ⟨hx, hb, hml, hown, hts, hK, hNk, hfr, hlo, hlk⟩ := F
  exact fun H locs la hP hD hS hl => lv_if_lt hx hb d ht (fun q => kt q H locs la hP hD hS hl) (fun q => kf q H locs la hP hD hS hl)
theorem kv_icmp_lt (F : kv_Fx C cc nL own fr lo) {x y : Int32} {off : Int} (tgt : Nat) (d : decode cc pc = .ok (.if_icmp .lt off, 3)) (ht : (pc : Int) + off = (tgt : Int)) (kt : x < y → kv_Ev C tgt ls st ws k n) (kf : ¬ x < y → kv_Ev C (pc + 3) ls st ws k n) : kv_Ev C pc ls (.int y :: .int x :: st) ws k n := by
  obtain ⟨p, l, e, R, s, m, args, below, meth, c, D, ad, ca, Q, h0, sl⟩ := C
  obtain ⟨hx, hb, hml, hown, hts, hK, hNk, hfr, hlo, hlk⟩ := F
  exact fun H locs la hP hD hS hl => lv_icmp_lt hx hb d ht (fun q => kt q H locs la hP hD hS hl) (fun q => kf q H locs la hP hD hS hl)
theorem kv_compact (F : kv_Fx C cc nL own fr lo) (ho : own = RJ0) (d : decode cc pc = .ok (.getstatic 38, 3)) (kk : kv_Ev C (pc + 3) ls (.int 1 :: st) ws k n) : kv_Ev C pc ls st ws k n := by
  obtain ⟨p, l, e, R, s, m, args, below, meth, c, D, ad, ca, Q, h0, sl⟩ := C
  obtain ⟨hx, hb, hml, hown, hts, hK, hNk, hfr, hlo, hlk⟩ := F
  subst ho
  exact fun H locs la hP hD hS hl => va_gets hx hb hNk.1.1 hS hown (hts _ tw1_184) (fun _ z => z) d (kk H locs la hP hD hS hl)
theorem kv_sioobe (F : kv_Fx C cc nL own fr lo) (ho : own = RJ0) (d : decode cc pc = .ok (.getstatic 1053, 3)) (kk : ∀ v : Value, (v = .null ∨ ∃ t, v = .ref t) → kv_Ev C (pc + 3) ls (v :: st) ws k n) : kv_Ev C pc ls st ws k n := by
  obtain ⟨p, l, e, R, s, m, args, below, meth, c, D, ad, ca, Q, h0, sl⟩ := C
  obtain ⟨hx, hb, hml, hown, hts, hK, hNk, hfr, hlo, hlk⟩ := F
  subst ho
  intro H locs la hP hD hS hl
  rcases hNk.1.2.2.2.2.2 with h | ⟨t, h⟩
  · exact va_gets hx hb h hS hown (hts _ tw1_200) (fun _ z => z) d (kk _ (Or.inl rfl) H locs la hP hD hS hl)
  · exact va_gets hx hb h hS hown (hts _ tw1_200) (fun _ z => z) d (kk _ (Or.inr ⟨t, rfl⟩) H locs la hP hD hS hl)
theorem kv_strC (F : kv_Fx C cc nL own fr lo) (ho : own = RJ0) (d : decode cc pc = .ok (.getfield 15, 3)) (kk : kv_Ev C (pc + 3) ls (.int 0 :: st) ws k n) : kv_Ev C pc ls (ob_rv C 1 :: st) ws k n := by
  obtain ⟨p, l, e, R, s, m, args, below, meth, c, D, ad, ca, Q, h0, sl⟩ := C
  obtain ⟨hx, hb, hml, hown, hts, hK, hNk, hfr, hlo, hlk⟩ := F
  subst ho
  exact fun H locs la hP hD hS hl => vk_getf hx hb hNk.1.2.2.1 hS hown (hts _ tw7_191) (fun _ z => z) d (kk H locs la hP hD hS hl)
theorem kv_strV (F : kv_Fx C cc nL own fr lo) (ho : own = RJ0) (d : decode cc pc = .ok (.getfield 9, 3)) (kk : kv_Ev C (pc + 3) ls (ob_rv C 2 :: st) ws k n) : kv_Ev C pc ls (ob_rv C 1 :: st) ws k n := by
  obtain ⟨p, l, e, R, s, m, args, below, meth, c, D, ad, ca, Q, h0, sl⟩ := C
  obtain ⟨hx, hb, hml, hown, hts, hK, hNk, hfr, hlo, hlk⟩ := F
  subst ho
  exact fun H locs la hP hD hS hl => vk_getf hx hb hNk.1.2.2.2.1 hS hown (hts _ tw7_190) (fun _ z => z) d (kk H locs la hP hD hS hl)
theorem kv_alenK (F : kv_Fx C cc nL own fr lo) (d : decode cc pc = .ok (.arraylength, 1)) (kk : kv_Ev C (pc + 1) ls (.int 110 :: st) ws k n) : kv_Ev C pc ls (ob_rv C 2 :: st) ws k n := by
  obtain ⟨p, l, e, R, s, m, args, below, meth, c, D, ad, ca, Q, h0, sl⟩ := C
  obtain ⟨hx, hb, hml, hown, hts, hK, hNk, hfr, hlo, hlk⟩ := F
  exact fun H locs la hP hD hS hl => va_tlen hx hb hNk.1.2.2.2.2.1 hS (v := 110) rfl d (kk H locs la hP hD hS hl)
theorem kv_baldK (F : kv_Fx C cc nL own fr lo) {i : Int32} {v : Int32} (d : decode cc pc = .ok (.baload, 1)) (hin : vp_in i 110) (hv : kv_kb.getD i.toNatClampNeg 0 = v) (kk : kv_Ev C (pc + 1) ls (.int v :: st) ws k n) : kv_Ev C pc ls (.int i :: ob_rv C 2 :: st) ws k n := by
  obtain ⟨p, l, e, R, s, m, args, below, meth, c, D, ad, ca, Q, h0, sl⟩ := C
  obtain ⟨hx, hb, hml, hown, hts, hK, hNk, hfr, hlo, hlk⟩ := F
  subst hv
  exact fun H locs la hP hD hS hl => va_tb hx hb hNk.1.2.2.2.2.1 hS hin rfl d (kk H locs la hP hD hS hl)
theorem kv_ldcS (F : kv_Fx C cc nL own fr lo) (ho : own = RX10) (d : decode cc pc = .ok (.ldc 29, 2)) (kk : kv_Ev C (pc + 2) ls (ob_rv C 1 :: st) ws k n) : kv_Ev C pc ls st ws k n := by
  obtain ⟨p, l, e, R, s, m, args, below, meth, c, D, ad, ca, Q, h0, sl⟩ := C
  obtain ⟨hx, hb, hml, hown, hts, hK, hNk, hfr, hlo, hlk⟩ := F
  subst ho
  exact fun H locs la hP hD hS hl => va_ldcS hx hb hown hNk.2.2.2.2.2.2.2 d (kk H locs la hP hD hS hl)
theorem kv_lald (F : kv_Fx C cc nL own fr lo) {a N : Nat} {i : Int32} {f : Nat → Int64} {v : Int64} (q0 : Nat) (d : decode cc pc = .ok (.laload, 1)) (ha : ws[q0]? = some (a, .inl (kv_ca C 15, N, .inr (.inl f)))) (hin : vp_in i N) (hv : f i.toNatClampNeg = v) (kk : kv_Ev C (pc + 1) ls (.long v :: st) ws k n) : kv_Ev C pc ls (.int i :: .ref a :: st) ws k n := by
  obtain ⟨p, l, e, R, s, m, args, below, meth, c, D, ad, ca, Q, h0, sl⟩ := C
  obtain ⟨hx, hb, hml, hown, hts, hK, hNk, hfr, hlo, hlk⟩ := F
  subst hv
  exact fun H locs la hP hD hS hl => va_lald hx hb hK hP q0 2 ha rfl hin d (kk H locs la hP hD hS hl)
theorem kv_last (F : kv_Fx C cc nL own fr lo) {a N : Nat} {i : Int32} {f : Nat → Int64} {x : Int64} (q0 : Nat) (d : decode cc pc = .ok (.lastore, 1)) (ha : ws[q0]? = some (a, .inl (kv_ca C 15, N, .inr (.inl f)))) (hin : vp_in i N) (kk : kv_Ev C (pc + 1) ls st (ws.set q0 (a, .inl (kv_ca C 15, N, .inr (.inl (vp_updL f i.toNatClampNeg x))))) k n) : kv_Ev C pc ls (.long x :: .int i :: .ref a :: st) ws k n := by
  obtain ⟨p, l, e, R, s, m, args, below, meth, c, D, ad, ca, Q, h0, sl⟩ := C
  obtain ⟨hx, hb, hml, hown, hts, hK, hNk, hfr, hlo, hlk⟩ := F
  exact fun H locs la hP hD hS hl => va_last hx hb hK hP hD hS q0 2 ha rfl hin d (fun H1 locs1 hP1 hD1 hS1 => kk H1 locs1 la hP1 hD1 hS1 hl)
theorem kv_iast (F : kv_Fx C cc nL own fr lo) {a N : Nat} {i x : Int32} {f : Nat → Int32} (q0 : Nat) (d : decode cc pc = .ok (.iastore, 1)) (ha : ws[q0]? = some (a, .inl (kv_ca C 14, N, .inl f))) (hin : vp_in i N) (kk : kv_Ev C (pc + 1) ls st (ws.set q0 (a, .inl (kv_ca C 14, N, .inl (upd f i.toNatClampNeg x)))) k n) : kv_Ev C pc ls (.int x :: .int i :: .ref a :: st) ws k n := by
  obtain ⟨p, l, e, R, s, m, args, below, meth, c, D, ad, ca, Q, h0, sl⟩ := C
  obtain ⟨hx, hb, hml, hown, hts, hK, hNk, hfr, hlo, hlk⟩ := F
  exact fun H locs la hP hD hS hl => va_iast hx hb hK hP hD hS q0 1 ha rfl hin d (fun H1 locs1 hP1 hD1 hS1 => kk H1 locs1 la hP1 hD1 hS1 hl)
theorem kv_nz {x : Int32} {i : Nat} (h : x = nI i) (hi : i < 2 ^ 31) : x.toNatClampNeg = i := by rw [h]; exact Int32.toNatClampNeg_ofNat_of_lt hi
theorem kv_si {ls2 : List (Nat × Value)} (ks : List Nat) (he : ks.filterMap (fun k => ls[k]?) = ls2) (kk : kv_Ev C pc ls2 st ws k n) : kv_Ev C pc ls st ws k n := by
  obtain ⟨p, l, e, R, s, m, args, below, meth, c, D, ad, ca, Q, h0, sl⟩ := C
  exact fun H locs la hP hD hS hl => kk H locs la hP hD hS (lv_sub hl ks he)
end KVQ
theorem kv_nneg {i : Nat} (h : i < 2 ^ 31) : ¬ nI i < 0 := fun q => by
  have h1 := Int32.lt_iff_toInt_lt.mp q
  rw [show (nI i).toInt = (i : Int) from Int32.toInt_ofNat_of_lt h] at h1
  have : (0 : Int32).toInt = 0 := rfl
  omega
theorem kv_nlt {i j : Nat} (h : i < j) (hj : j < 2 ^ 31) : nI i < nI j := by
  rw [Int32.lt_iff_toInt_lt, show (nI i).toInt = (i : Int) from Int32.toInt_ofNat_of_lt (by omega), show (nI j).toInt = (j : Int) from Int32.toInt_ofNat_of_lt hj]
  omega
theorem kv_rm0 (C : ob_Cx) : kv_Rm C 0 0 := by
  obtain ⟨p, l, e, R, s, m, args, below, meth, c, D, ad, ca, Q, h0, sl⟩ := C
  exact ⟨Nat.zero_le _, Nat.zero_le _⟩

theorem k_coder {cf : ob_Cf} : kv_Q0 cf yJ0_coder_7d493 cJ0_coder_7d493 1 (some .byte) 0 0 [ob_rw cf 1] (some (.int 0)) := by
  refine kv_enter0 (by decide) (Nat.le_of_ble_eq_true rfl) ⟨.byte, rfl, by decide⟩ ?_
  intro C hC F k
  subst hC
  show kv_Ev C 0 [(0, ob_rv C 1)] [] [] 0 0
  refine kv_compact F rfl dJ0_coder_7d493_0 ?_
  refine kv_if_eq F 13 dJ0_coder_7d493_3 (by decide) (fun h => absurd h (by decide)) (fun _ => ?_)
  refine kv_aload_n F 0 dJ0_coder_7d493_6 rfl ?_
  refine kv_strC F rfl dJ0_coder_7d493_7 ?_
  refine kv_goto F 14 dJ0_coder_7d493_10 (by decide) ?_
  exact kv_iret F dJ0_coder_7d493_14 k
theorem k_length {cf : ob_Cf} : kv_Q0 cf yJ0_length_8abf5 cJ0_length_8abf5 1 (some .int) 1 20 [ob_rw cf 1] (some (.int 110)) := by
  refine kv_enter0 (by decide) (Nat.le_of_ble_eq_true rfl) ⟨.int, rfl, rfl⟩ ?_
  intro C hC F k
  subst hC
  show kv_Ev C 0 [(0, ob_rv C 1)] [] [] 0 0
  refine kv_aload_n F 0 dJ0_length_8abf5_0 rfl ?_
  refine kv_strV F rfl dJ0_length_8abf5_1 ?_
  refine kv_alenK F dJ0_length_8abf5_4 ?_
  refine kv_aload_n F 0 dJ0_length_8abf5_5 rfl ?_
  refine kv_qV F (As := []) (rest := [.int 110]) dJ0_length_8abf5_6 ⟨tw1_183, tw1_6, by decide, by decide, by decide⟩ tw1_181 tw1_182 tw1_180 k_coder rfl rfl (Nat.le_of_ble_eq_true rfl) (by decide) (kv_rm0 C) ?_
  refine kv_ishr F dJ0_length_8abf5_9 ?_
  exact kv_iret F dJ0_length_8abf5_10 k
theorem k_isLatin1 {cf : ob_Cf} : kv_Q0 cf yJ0_isLatin1_aae02 cJ0_isLatin1_aae02 1 (some .boolean) 0 0 [ob_rw cf 1] (some (.int 1)) := by
  refine kv_enter0 (by decide) (Nat.le_of_ble_eq_true rfl) ⟨.boolean, rfl, by decide⟩ ?_
  intro C hC F k
  subst hC
  show kv_Ev C 0 [(0, ob_rv C 1)] [] [] 0 0
  refine kv_compact F rfl dJ0_isLatin1_aae02_0 ?_
  refine kv_if_eq F 17 dJ0_isLatin1_aae02_3 (by decide) (fun h => absurd h (by decide)) (fun _ => ?_)
  refine kv_aload_n F 0 dJ0_isLatin1_aae02_6 rfl ?_
  refine kv_strC F rfl dJ0_isLatin1_aae02_7 ?_
  refine kv_if_ne F 17 dJ0_isLatin1_aae02_10 (by decide) (fun h => absurd rfl h) (fun _ => ?_)
  refine kv_iconst F (v := 1) dJ0_isLatin1_aae02_13 (by decide) ?_
  refine kv_goto F 18 dJ0_isLatin1_aae02_14 (by decide) ?_
  exact kv_iret F dJ0_isLatin1_aae02_18 k
theorem k_pcheck {cf : ob_Cf} {i : Nat} {v : Value} (hi : i < 110) (hv : v = .null ∨ ∃ t, v = .ref t) : kv_Q0 cf yJ3_checkIndex_8e157 cJ3_checkIndex_8e157 3 (some .int) 0 0 [.int (nI i), .int 110, v] (some (.int (nI i))) := by
  have hlen : (lg_sl [.int (nI i), .int 110, v]).length ≤ 3 := by rcases hv with rfl | ⟨t, rfl⟩ <;> exact Nat.le_of_ble_eq_true rfl
  refine kv_enter0 (by decide) hlen ⟨.int, rfl, rfl⟩ ?_
  intro C hC F k
  subst hC
  have hls : lv_args 0 [.int (nI i), .int 110, v] = [(0, .int (nI i)), (1, .int 110), (2, v)] := by rcases hv with rfl | ⟨t, rfl⟩ <;> rfl
  rw [hls]
  refine kv_iload_n F 0 dJ3_checkIndex_8e157_0 rfl ?_
  refine kv_if_lt F 9 dJ3_checkIndex_8e157_1 (by decide) (fun h => absurd h (kv_nneg (by omega))) (fun _ => ?_)
  refine kv_iload_n F 0 dJ3_checkIndex_8e157_4 rfl ?_
  refine kv_iload_n F 1 dJ3_checkIndex_8e157_5 rfl ?_
  refine kv_icmp_lt F 16 dJ3_checkIndex_8e157_6 (by decide) (fun _ => ?_) (fun h => absurd (kv_nlt hi (by omega)) h)
  refine kv_iload_n F 0 dJ3_checkIndex_8e157_16 rfl ?_
  exact kv_iret F dJ3_checkIndex_8e157_17 k
theorem k_scheck {cf : ob_Cf} {i : Nat} (hi : i < 110) : kv_Q0 cf yJ0_checkIndex_df160 cJ0_checkIndex_df160 2 none 1 22 [.int (nI i), .int 110] none := by
  refine kv_enter0 (by decide) (Nat.le_of_ble_eq_true rfl) rfl ?_
  intro C hC F k
  subst hC
  show kv_Ev C 0 [(0, .int (nI i)), (1, .int 110)] [] [] 0 0
  refine kv_iload_n F 0 dJ0_checkIndex_df160_0 rfl ?_
  refine kv_iload_n F 1 dJ0_checkIndex_df160_1 rfl ?_
  refine kv_sioobe F rfl dJ0_checkIndex_df160_2 (fun v hv => ?_)
  refine kv_qS F (np := 3) (As := [.int (nI i), .int 110, v]) (rest := []) dJ0_checkIndex_df160_5 ⟨⟨tw1_204, tw1_8, by decide, by decide, by decide⟩, tw1_203⟩ tw1_202 (k_pcheck hi hv) rfl rfl (Nat.le_of_ble_eq_true rfl) (by decide) (kv_rm0 C) ?_
  refine kv_pop F dJ0_checkIndex_df160_8 rfl ?_
  exact kv_vretQ F dJ0_checkIndex_df160_9 k
theorem kv_kb_ok : ∀ i, i < 110 → ((kv_kb.getD i 0 &&& 255).toUInt32 % 65536).toInt32 = kv_kb.getD i 0 := by decide +kernel
theorem kv_kb_ch : ∀ i, i < 110 → narrow .char (.int (kv_kb.getD i 0)) = .int (kv_kb.getD i 0) := by decide +kernel
theorem k_lcharAt {cf : ob_Cf} {i : Nat} (hi : i < 110) : kv_Q0 cf yJ1_charAt_3b067 cJ1_charAt_3b067 2 (some .char) 2 43 [ob_rw cf 2, .int (nI i)] (some (.int (kv_kb.getD i 0))) := by
  refine kv_enter0 (by decide) (Nat.le_of_ble_eq_true rfl) ⟨.char, rfl, kv_kb_ch i hi⟩ ?_
  intro C hC F k
  subst hC
  show kv_Ev C 0 [(0, ob_rv C 2), (1, .int (nI i))] [] [] 0 0
  refine kv_iload_n F 1 dJ1_charAt_3b067_0 rfl ?_
  refine kv_aload_n F 0 dJ1_charAt_3b067_1 rfl ?_
  refine kv_alenK F dJ1_charAt_3b067_2 ?_
  refine kv_qS F (np := 2) (As := [.int (nI i), .int 110]) (rest := []) dJ1_charAt_3b067_3 ⟨⟨tw1_199, tw1_6, by decide, by decide, by decide⟩, tw1_198⟩ tw1_197 (k_scheck hi) rfl rfl (Nat.le_of_ble_eq_true rfl) (by decide) (kv_rm0 C) ?_
  refine kv_aload_n F 0 dJ1_charAt_3b067_6 rfl ?_
  refine kv_iload_n F 1 dJ1_charAt_3b067_7 rfl ?_
  refine kv_baldK F (v := kv_kb.getD i 0) dJ1_charAt_3b067_8 (vp_in_nI hi (by omega)) (by rw [kv_nz rfl (by omega)]) ?_
  refine kv_sipush F (v := 255) dJ1_charAt_3b067_9 (by decide) ?_
  refine kv_iand F dJ1_charAt_3b067_12 ?_
  refine kv_i2c F dJ1_charAt_3b067_13 (kv_kb_ok i hi) ?_
  exact kv_iret F dJ1_charAt_3b067_14 k
theorem k_charAt {cf : ob_Cf} {i : Nat} (hi : i < 110) : kv_Q0 cf yJ0_charAt_5068e cJ0_charAt_5068e 2 (some .char) 3 64 [ob_rw cf 1, .int (nI i)] (some (.int (kv_kb.getD i 0))) := by
  refine kv_enter0 (by decide) (Nat.le_of_ble_eq_true rfl) ⟨.char, rfl, kv_kb_ch i hi⟩ ?_
  intro C hC F k
  subst hC
  show kv_Ev C 0 [(0, ob_rv C 1), (1, .int (nI i))] [] [] 0 0
  refine kv_aload_n F 0 dJ0_charAt_5068e_0 rfl ?_
  refine kv_qV F (As := []) (rest := []) dJ0_charAt_5068e_1 ⟨tw1_193, tw1_6, by decide, by decide, by decide⟩ tw1_191 tw1_192 tw1_190 k_isLatin1 rfl rfl (Nat.le_of_ble_eq_true rfl) (by decide) (kv_rm0 C) ?_
  refine kv_if_eq F 16 dJ0_charAt_5068e_4 (by decide) (fun h => absurd h (by decide)) (fun _ => ?_)
  refine kv_aload_n F 0 dJ0_charAt_5068e_7 rfl ?_
  refine kv_strV F rfl dJ0_charAt_5068e_8 ?_
  refine kv_iload_n F 1 dJ0_charAt_5068e_11 rfl ?_
  refine kv_qS F (np := 2) (As := [ob_rv C 2, .int (nI i)]) (rest := []) dJ0_charAt_5068e_12 ⟨⟨tw1_196, tw1_7, by decide, by decide, by decide⟩, tw1_195⟩ tw1_194 (k_lcharAt hi) rfl rfl (Nat.le_of_ble_eq_true rfl) (by decide) (kv_rm0 C) ?_
  exact kv_iret F dJ0_charAt_5068e_15 k
theorem k_spelt {cf : ob_Cf} {x : Int64} {y : Int32} : kv_Q0 cf yX10_spelt cX10_spelt 3 (some .long) 0 0 [.long x, .int y] (some (.long (x * 32 + y.toInt64 - 97 + 1))) := by
  refine kv_enter0 (by decide) (Nat.le_of_ble_eq_true rfl) rfl ?_
  intro C hC F k
  subst hC
  show kv_Ev C 0 [(0, .long x), (2, .int y)] [] [] 0 0
  refine kv_lload_n F 0 dX10_spelt_0 rfl ?_
  refine kv_ldc2 F (v := 32) dX10_spelt_1 tw1_227 ?_
  refine kv_lmul F dX10_spelt_4 ?_
  refine kv_iload_n F 1 dX10_spelt_5 rfl ?_
  refine kv_i2l F dX10_spelt_6 ?_
  refine kv_ladd F dX10_spelt_7 ?_
  refine kv_ldc2 F (v := 97) dX10_spelt_8 tw1_228 ?_
  refine kv_lsub F dX10_spelt_11 ?_
  refine kv_lconst F (v := 1) dX10_spelt_12 (by decide) ?_
  refine kv_ladd F dX10_spelt_13 ?_
  exact kv_lret F dX10_spelt_14 k
