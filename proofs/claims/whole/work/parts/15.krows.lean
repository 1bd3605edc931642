/-! constructors: the world is a list of cells that grows -/
def kv_A (h0 sz : Nat) : Nat → Prop := fun q => q = h0 ∨ sz ≤ q
def kv_kw : String := "call put digit spread either over stock step cash option times once any from out in above below rebate recall "
def kv_kb : List Int32 := [99, 97, 108, 108, 32, 112, 117, 116, 32, 100, 105, 103, 105, 116, 32, 115, 112, 114, 101, 97, 100, 32, 101, 105, 116, 104, 101, 114, 32, 111, 118, 101, 114, 32, 115, 116, 111, 99, 107, 32, 115, 116, 101, 112, 32, 99, 97, 115, 104, 32, 111, 112, 116, 105, 111, 110, 32, 116, 105, 109, 101, 115, 32, 111, 110, 99, 101, 32, 97, 110, 121, 32, 102, 114, 111, 109, 32, 111, 117, 116, 32, 105, 110, 32, 97, 98, 111, 118, 101, 32, 98, 101, 108, 111, 119, 32, 114, 101, 98, 97, 116, 101, 32, 114, 101, 99, 97, 108, 108, 32]
def kv_nest : List (String × Nat × MethodName) := [(RX5, 37, yX1_init), (RX11, 46, yX0_init), (RX3, 28, yX9_init), (RX9, 17, yX4_init)]
/-- what constructors need of the start beside the good words: links of nest mates, array classes, the text KEYWORDS, two statics -/
def kv_S (ad : Nat → Nat) (A : Nat → Prop) (U : State) (H : Heap) : Prop := va_Z "java/lang/String" "COMPACT_STRINGS" "Z" (.int 1) A U H ∧ va_O "java/lang/String" (ad 1) A U H ∧ va_OF "java/lang/String" "coder" "B" (.int 0) (ad 1) A U H ∧ va_OF "java/lang/String" "value" "[B" (.ref (ad 2)) (ad 1) A U H ∧ va_T .byte (ad 2) 110 (fun j => .int (kv_kb.getD j 0)) A U H ∧ va_Zq "jdk/internal/util/Preconditions" "SIOOBE_FORMATTER" "Ljava/util/function/BiFunction;" A U H
def kv_N (ad : Nat → Nat) (U : State) : Prop := (∀ q ∈ kv_nest, va_Nw (.methodLinkNest q.1 q.2.1 q.2.2 RX11) U) ∧ va_AO "OptionBench$Contract" U ∧ va_AO "OptionBench$Market" U ∧ va_AO "OptionBench$Sheet" U ∧ va_AOA .int U ∧ va_AOA .long U ∧ vk_R RX10 29 kv_kw (ad 1) U
theorem va_AOA.moved {ty : FieldType} {u U : State} (hvm : u.vm.Alike U.vm) (h : va_AOA ty u) : va_AOA ty U := arrayOver_alikeB hvm h
theorem kv_S.moved {ad : Nat → Nat} {A : Nat → Prop} {u U : State} {H : Heap} (hvm : u.vm.Alike U.vm) (h : kv_S ad A u H) : kv_S ad A U H := ⟨h.1.moved hvm, h.2.1.moved hvm, h.2.2.1.moved hvm, h.2.2.2.1.moved hvm, h.2.2.2.2.1.moved hvm, h.2.2.2.2.2.moved hvm⟩
theorem kv_S.kept {ad : Nat → Nat} {A : Nat → Prop} {U : State} {H H1 : Heap} (h : kv_S ad A U H) (hq : ∀ a : Nat, a < H.size → ¬ A a → H1[a]? = H[a]?) : kv_S ad A U H1 := ⟨h.1.kept hq, h.2.1.kept hq, h.2.2.1.kept hq, h.2.2.2.1.kept hq, h.2.2.2.2.1.kept hq, h.2.2.2.2.2.kept hq⟩
theorem kv_S.narrow {ad : Nat → Nat} {A B : Nat → Prop} {U : State} {H : Heap} (h : kv_S ad A U H) (hAB : ∀ q, B q → A q) : kv_S ad B U H := ⟨h.1.narrow hAB, h.2.1.narrow hAB, h.2.2.1.narrow hAB, h.2.2.2.1.narrow hAB, h.2.2.2.2.1.narrow hAB, h.2.2.2.2.2.narrow hAB⟩
theorem kv_N.warm {ad : Nat → Nat} {s U : State} (hW : s.WarmedH U.vm) (h : kv_N ad s) : kv_N ad U := ⟨fun q hq => va_Nw.warmM hW (h.1 q hq), h.2.1.moved hW.alike, h.2.2.1.moved hW.alike, h.2.2.2.1.moved hW.alike, h.2.2.2.2.1.moved hW.alike, h.2.2.2.2.2.1.moved hW.alike, h.2.2.2.2.2.2.warm hW⟩
theorem kv_N.same {ad : Nat → Nat} {s U : State} (hv : s.vm = U.vm) (h : kv_N ad s) : kv_N ad U := ⟨fun q hq => va_Nw.same rfl hv (h.1 q hq), h.2.1.moved (by rw [hv]; exact Vm.Alike.refl _), h.2.2.1.moved (by rw [hv]; exact Vm.Alike.refl _), h.2.2.2.1.moved (by rw [hv]; exact Vm.Alike.refl _), h.2.2.2.2.1.moved (by rw [hv]; exact Vm.Alike.refl _), h.2.2.2.2.2.1.moved (by rw [hv]; exact Vm.Alike.refl _), h.2.2.2.2.2.2.same hv.symm⟩
def kv_Ev (C : ob_Cx) (pc : Nat) (ls : List (Nat × Value)) (st : List Value) (ws : va_W) (k n : Nat) : Prop := match C with
  | (p, l, e, R, s, m, args, below, meth, c, D, ad, ca, Q, h0, sl) => ∀ (H : Heap) (locs : List Loc) (la : Array Slot), va_P D vwCl ws H → va_D (kv_A h0 s.heap.size) ws → va_S (kv_A h0 s.heap.size) s.heap H locs → lv_has la c.maxLocals ls → W p l e R s m args below meth c H locs k n Q (F0 m pc la st)
def kv_Fx (C : ob_Cx) (cc : ByteArray) (nL : Nat) (own : String) (fr lo : Nat) : Prop := match C with
  | (p, l, e, R, s, m, args, below, meth, c, D, ad, ca, Q, h0, sl) => p.tables.exec = Jvm.exec ∧ c.code = cc ∧ c.maxLocals = nL ∧ s.vm.findClass own = some m.cls ∧ (∀ w ∈ ob_GT, w.before args s = true) ∧ va_K D vwCl (ob_ty ca) s ∧ (kv_S ad (kv_A h0 s.heap.size) s s.heap ∧ kv_N ad s) ∧ fr ≤ R.frames ∧ lo ≤ R.locals ∧ meth.locks = false
def kv_In (C : ob_Cx) : Prop := match C with | (p, l, e, R, s, m, args, below, meth, c, D, ad, ca, Q, h0, sl) => meth.name = "<init>"
def kv_Rm (C : ob_Cx) (k n : Nat) : Prop := match C with | (p, l, e, R, s, m, args, below, meth, c, D, ad, ca, Q, h0, sl) => k ≤ R.cells ∧ n ≤ R.slots
def kv_ca (C : ob_Cx) : Nat → ClassId := match C with | (p, l, e, R, s, m, args, below, meth, c, D, ad, ca, Q, h0, sl) => ca
def kv_Rt (C : ob_Cx) (ws : va_W) (k n : Nat) : Prop := match C with
  | (p, l, e, R, s, m, args, below, meth, c, D, ad, ca, Q, h0, sl) => ∀ (H : Heap) (locs : List Loc) (pc : Nat) (la : Array Slot), va_P D vwCl ws H → va_D (kv_A h0 s.heap.size) ws → va_S (kv_A h0 s.heap.size) s.heap H locs → decode c.code pc = .ok (.return_, 1) → W p l e R s m args below meth c H locs k n Q (F0 m pc la [])
section KVR
variable {C : ob_Cx} {cc : ByteArray} {nL : Nat} {own : String} {fr lo pc k n : Nat} {ls : List (Nat × Value)} {st : List Value} {ws : va_W}
theorem kv_iconst (F : kv_Fx C cc nL own fr lo) {i : Int} {v : Int32} (d : decode cc pc = .ok (.iconst i, 1)) (hv : Int32.ofInt i = v) (kk : kv_Ev C (pc + 1) ls (.int v :: st) ws k n) : kv_Ev C pc ls st ws k n := by
  obtain ⟨p, l, e, R, s, m, args, below, meth, c, D, ad, ca, Q, h0, sl⟩ := C
  obtain ⟨hx, hb, hml, hown, hts, hK, hNk, hfr, hlo, hlk⟩ := F
  exact fun H locs la hP hD hS hl => lv_iconst hx hb d hv (kk H locs la hP hD hS hl)
theorem kv_bipush (F : kv_Fx C cc nL own fr lo) {i : Int} {v : Int32} (d : decode cc pc = .ok (.bipush i, 2)) (hv : (Int8.ofInt i).toInt32 = v) (kk : kv_Ev C (pc + 2) ls (.int v :: st) ws k n) : kv_Ev C pc ls st ws k n := by
  obtain ⟨p, l, e, R, s, m, args, below, meth, c, D, ad, ca, Q, h0, sl⟩ := C
  obtain ⟨hx, hb, hml, hown, hts, hK, hNk, hfr, hlo, hlk⟩ := F
  exact fun H locs la hP hD hS hl => lv_bipush hx hb d hv (kk H locs la hP hD hS hl)
theorem kv_sipush (F : kv_Fx C cc nL own fr lo) {i : Int} {v : Int32} (d : decode cc pc = .ok (.sipush i, 3)) (hv : (Int16.ofInt i).toInt32 = v) (kk : kv_Ev C (pc + 3) ls (.int v :: st) ws k n) : kv_Ev C pc ls st ws k n := by
  obtain ⟨p, l, e, R, s, m, args, below, meth, c, D, ad, ca, Q, h0, sl⟩ := C
  obtain ⟨hx, hb, hml, hown, hts, hK, hNk, hfr, hlo, hlk⟩ := F
  exact fun H locs la hP hD hS hl => lv_sipush hx hb d hv (kk H locs la hP hD hS hl)
theorem kv_dup (F : kv_Fx C cc nL own fr lo) {v : Value} (d : decode cc pc = .ok (.dup, 1)) (hc : v.category = 1) (kk : kv_Ev C (pc + 1) ls (v :: v :: st) ws k n) : kv_Ev C pc ls (v :: st) ws k n := by
  obtain ⟨p, l, e, R, s, m, args, below, meth, c, D, ad, ca, Q, h0, sl⟩ := C
  obtain ⟨hx, hb, hml, hown, hts, hK, hNk, hfr, hlo, hlk⟩ := F
  exact fun H locs la hP hD hS hl => lv_dup hx hb d hc (kk H locs la hP hD hS hl)
theorem kv_iload_n (F : kv_Fx C cc nL own fr lo) {i : Fin 4} {x : Int32} (q : Nat) (d : decode cc pc = .ok (.iload_n i, 1)) (hq : ls[q]? = some ((i : Nat), .int x)) (kk : kv_Ev C (pc + 1) ls (.int x :: st) ws k n) : kv_Ev C pc ls st ws k n := by
  obtain ⟨p, l, e, R, s, m, args, below, meth, c, D, ad, ca, Q, h0, sl⟩ := C
  obtain ⟨hx, hb, hml, hown, hts, hK, hNk, hfr, hlo, hlk⟩ := F
  exact fun H locs la hP hD hS hl => lv_iload_n hx hb d rfl (lv_at hl q hq) (kk H locs la hP hD hS hl)
theorem kv_iload (F : kv_Fx C cc nL own fr lo) {i : Nat} {x : Int32} (q : Nat) (d : decode cc pc = .ok (.iload i, 2)) (hq : ls[q]? = some (i, .int x)) (kk : kv_Ev C (pc + 2) ls (.int x :: st) ws k n) : kv_Ev C pc ls st ws k n := by
  obtain ⟨p, l, e, R, s, m, args, below, meth, c, D, ad, ca, Q, h0, sl⟩ := C
  obtain ⟨hx, hb, hml, hown, hts, hK, hNk, hfr, hlo, hlk⟩ := F
  exact fun H locs la hP hD hS hl => lv_iload hx hb d (lv_at hl q hq) (kk H locs la hP hD hS hl)
theorem kv_aload_n (F : kv_Fx C cc nL own fr lo) {i : Fin 4} {x : Nat} (q : Nat) (d : decode cc pc = .ok (.aload_n i, 1)) (hq : ls[q]? = some ((i : Nat), .ref x)) (kk : kv_Ev C (pc + 1) ls (.ref x :: st) ws k n) : kv_Ev C pc ls st ws k n := by
  obtain ⟨p, l, e, R, s, m, args, below, meth, c, D, ad, ca, Q, h0, sl⟩ := C
  obtain ⟨hx, hb, hml, hown, hts, hK, hNk, hfr, hlo, hlk⟩ := F
  exact fun H locs la hP hD hS hl => lv_aload_n hx hb d rfl (lv_at hl q hq) (kk H locs la hP hD hS hl)
theorem kv_aload (F : kv_Fx C cc nL own fr lo) {i : Nat} {x : Nat} (q : Nat) (d : decode cc pc = .ok (.aload i, 2)) (hq : ls[q]? = some (i, .ref x)) (kk : kv_Ev C (pc + 2) ls (.ref x :: st) ws k n) : kv_Ev C pc ls st ws k n := by
  obtain ⟨p, l, e, R, s, m, args, below, meth, c, D, ad, ca, Q, h0, sl⟩ := C
  obtain ⟨hx, hb, hml, hown, hts, hK, hNk, hfr, hlo, hlk⟩ := F
  exact fun H locs la hP hD hS hl => lv_aload hx hb d (lv_at hl q hq) (kk H locs la hP hD hS hl)
theorem kv_istore_n (F : kv_Fx C cc nL own fr lo) {i : Fin 4} {x : Int32} {ls2 : List (Nat × Value)} (d : decode cc pc = .ok (.istore_n i, 1)) (hn : (i : Nat) < nL) (he : ((i : Nat), .int x) :: ls.filter (fun q => !(q.1 == (i : Nat)) && !(q.1 + 1 == (i : Nat) && q.2.category == 2)) = ls2) (kk : kv_Ev C (pc + 1) ls2 st ws k n) : kv_Ev C pc ls (.int x :: st) ws k n := by
  obtain ⟨p, l, e, R, s, m, args, below, meth, c, D, ad, ca, Q, h0, sl⟩ := C
  obtain ⟨hx, hb, hml, hown, hts, hK, hNk, hfr, hlo, hlk⟩ := F
  subst hml
  exact fun H locs la hP hD hS hl => lv_istore_n hx hb d rfl hl hn he (fun la2 hl2 => kk H locs la2 hP hD hS hl2)
theorem kv_istore (F : kv_Fx C cc nL own fr lo) {i : Nat} {x : Int32} {ls2 : List (Nat × Value)} (d : decode cc pc = .ok (.istore i, 2)) (hn : (i : Nat) < nL) (he : ((i : Nat), .int x) :: ls.filter (fun q => !(q.1 == (i : Nat)) && !(q.1 + 1 == (i : Nat) && q.2.category == 2)) = ls2) (kk : kv_Ev C (pc + 2) ls2 st ws k n) : kv_Ev C pc ls (.int x :: st) ws k n := by
  obtain ⟨p, l, e, R, s, m, args, below, meth, c, D, ad, ca, Q, h0, sl⟩ := C
  obtain ⟨hx, hb, hml, hown, hts, hK, hNk, hfr, hlo, hlk⟩ := F
  subst hml
  exact fun H locs la hP hD hS hl => lv_istore hx hb d hl hn he (fun la2 hl2 => kk H locs la2 hP hD hS hl2)
theorem kv_astore_n (F : kv_Fx C cc nL own fr lo) {i : Fin 4} {x : Nat} {ls2 : List (Nat × Value)} (d : decode cc pc = .ok (.astore_n i, 1)) (hn : (i : Nat) < nL) (he : ((i : Nat), .ref x) :: ls.filter (fun q => !(q.1 == (i : Nat)) && !(q.1 + 1 == (i : Nat) && q.2.category == 2)) = ls2) (kk : kv_Ev C (pc + 1) ls2 st ws k n) : kv_Ev C pc ls (.ref x :: st) ws k n := by
  obtain ⟨p, l, e, R, s, m, args, below, meth, c, D, ad, ca, Q, h0, sl⟩ := C
  obtain ⟨hx, hb, hml, hown, hts, hK, hNk, hfr, hlo, hlk⟩ := F
  subst hml
  exact fun H locs la hP hD hS hl => lv_astore_n hx hb d rfl hl hn he (fun la2 hl2 => kk H locs la2 hP hD hS hl2)
theorem kv_astore (F : kv_Fx C cc nL own fr lo) {i : Nat} {x : Nat} {ls2 : List (Nat × Value)} (d : decode cc pc = .ok (.astore i, 2)) (hn : (i : Nat) < nL) (he : ((i : Nat), .ref x) :: ls.filter (fun q => !(q.1 == (i : Nat)) && !(q.1 + 1 == (i : Nat) && q.2.category == 2)) = ls2) (kk : kv_Ev C (pc + 2) ls2 st ws k n) : kv_Ev C pc ls (.ref x :: st) ws k n := by
  obtain ⟨p, l, e, R, s, m, args, below, meth, c, D, ad, ca, Q, h0, sl⟩ := C
  obtain ⟨hx, hb, hml, hown, hts, hK, hNk, hfr, hlo, hlk⟩ := F
  subst hml
  exact fun H locs la hP hD hS hl => lv_astore hx hb d hl hn he (fun la2 hl2 => kk H locs la2 hP hD hS hl2)
theorem kv_iinc (F : kv_Fx C cc nL own fr lo) {i : Nat} {j : Int} {x v : Int32} {ls2 : List (Nat × Value)} (q : Nat) (d : decode cc pc = .ok (.iinc i j, 3)) (hq : ls[q]? = some (i, .int x)) (hv : x + Int32.ofInt j = v) (hn : i < nL) (he : (i, Value.int v) :: ls.filter (fun q => !(q.1 == (i : Nat)) && !(q.1 + 1 == (i : Nat) && q.2.category == 2)) = ls2) (kk : kv_Ev C (pc + 3) ls2 st ws k n) : kv_Ev C pc ls st ws k n := by
  obtain ⟨p, l, e, R, s, m, args, below, meth, c, D, ad, ca, Q, h0, sl⟩ := C
  obtain ⟨hx, hb, hml, hown, hts, hK, hNk, hfr, hlo, hlk⟩ := F
  subst hml
  exact fun H locs la hP hD hS hl => lv_iinc hx hb d hl hq hv hn he (fun la2 hl2 => kk H locs la2 hP hD hS hl2)
theorem kv_icmp_ge (F : kv_Fx C cc nL own fr lo) {x y : Int32} {off : Int} (tgt : Nat) (d : decode cc pc = .ok (.if_icmp .ge off, 3)) (ht : (pc : Int) + off = (tgt : Int)) (kt : y ≤ x → kv_Ev C tgt ls st ws k n) (kf : ¬ y ≤ x → kv_Ev C (pc + 3) ls st ws k n) : kv_Ev C pc ls (.int y :: .int x :: st) ws k n := by
  obtain ⟨p, l, e, R, s, m, args, below, meth, c, D, ad, ca, Q, h0, sl⟩ := C
  obtain ⟨hx, hb, hml, hown, hts, hK, hNk, hfr, hlo, hlk⟩ := F
  exact fun H locs la hP hD hS hl => lv_icmp_ge hx hb d ht (fun q => kt q H locs la hP hD hS hl) (fun q => kf q H locs la hP hD hS hl)
theorem kv_icmp_ne (F : kv_Fx C cc nL own fr lo) {x y : Int32} {off : Int} (tgt : Nat) (d : decode cc pc = .ok (.if_icmp .ne off, 3)) (ht : (pc : Int) + off = (tgt : Int)) (kt : ¬ x = y → kv_Ev C tgt ls st ws k n) (kf : x = y → kv_Ev C (pc + 3) ls st ws k n) : kv_Ev C pc ls (.int y :: .int x :: st) ws k n := by
  obtain ⟨p, l, e, R, s, m, args, below, meth, c, D, ad, ca, Q, h0, sl⟩ := C
  obtain ⟨hx, hb, hml, hown, hts, hK, hNk, hfr, hlo, hlk⟩ := F
  exact fun H locs la hP hD hS hl => lv_icmp_ne hx hb d ht (fun q => kt q H locs la hP hD hS hl) (fun q => kf q H locs la hP hD hS hl)
theorem kv_goto (F : kv_Fx C cc nL own fr lo) {off : Int} (tgt : Nat) (d : decode cc pc = .ok (.goto off, 3)) (ht : (pc : Int) + off = (tgt : Int)) (kk : kv_Ev C tgt ls st ws k n) : kv_Ev C pc ls st ws k n := by
  obtain ⟨p, l, e, R, s, m, args, below, meth, c, D, ad, ca, Q, h0, sl⟩ := C
  obtain ⟨hx, hb, hml, hown, hts, hK, hNk, hfr, hlo, hlk⟩ := F
  exact fun H locs la hP hD hS hl => lv_goto hx hb d ht (kk H locs la hP hD hS hl)
theorem kv_ret (F : kv_Fx C cc nL own fr lo) (d : decode cc pc = .ok (.return_, 1)) (kk : kv_Rt C ws k n) : kv_Ev C pc ls [] ws k n := by
  obtain ⟨p, l, e, R, s, m, args, below, meth, c, D, ad, ca, Q, h0, sl⟩ := C
  obtain ⟨hx, hb, hml, hown, hts, hK, hNk, hfr, hlo, hlk⟩ := F
  subst hb
  exact fun H locs la hP hD hS hl => kk H locs pc la hP hD hS d
theorem kv_widen {k2 n2 : Nat} (h1 : k ≤ k2) (h2 : n ≤ n2) (kk : kv_Ev C pc ls st ws k2 n2) : kv_Ev C pc ls st ws k n := by
  obtain ⟨p, l, e, R, s, m, args, below, meth, c, D, ad, ca, Q, h0, sl⟩ := C
  exact fun H locs la hP hD hS hl => W.widen h1 h2 (kk H locs la hP hD hS hl)
theorem kv_obj (F : kv_Fx C cc nL own fr lo) {idx a : Nat} (d : decode cc pc = .ok (.invokespecial idx, 3)) (w1 : Cond.methodLink own idx Lib.objectInit ∈ ob_GT) (w2 : Cond.instanceMethod Lib.objectInit ∈ ob_GT) (w3 : Cond.code Lib.objectInit ⟨#[0xb1]⟩ 1 none ∈ ob_GT) (h1 : 1 ≤ fr) (h2 : (st.map fun v => v.category).sum + 12 ≤ lo) (kk : kv_Ev C (pc + 3) ls st ws k n) : kv_Ev C pc ls (.ref a :: st) ws k n := by
  obtain ⟨p, l, e, R, s, m, args, below, meth, c, D, ad, ca, Q, h0, sl⟩ := C
  obtain ⟨hx, hb, hml, hown, hts, hK, hNk, hfr, hlo, hlk⟩ := F
  exact fun H locs la hP hD hS hl => W.objInit hx hb hown (hts _ w1) (hts _ w2) (hts _ w3) rfl hl.1 rfl d (Nat.le_trans h1 hfr) (by have := Nat.le_trans h2 hlo; simpa using this) (W.eq (g2 := F0 m (pc + 3) la st) rfl (kk H locs la hP hD hS hl))
theorem kv_newaI (F : kv_Fx C cc nL own fr lo) {v : Int32} (N : Nat) (d : decode cc pc = .ok (.newarray .int, 2)) (hw : Cond.arrayClass .int ∈ ob_GT) (hn : ¬ v < 0) (hN : v.toNatClampNeg = N) (hb2 : N ≤ 60000) (hr : kv_Rm C (k + 1) (n + N)) (kk : ∀ q : Nat, kv_Ev C (pc + 2) ls (.ref q :: st) (ws ++ [(q, .inl (kv_ca C 14, N, .inl (fun _ => 0)))]) (k + 1) (n + N)) : kv_Ev C pc ls (.int v :: st) ws k n := by
  obtain ⟨p, l, e, R, s, m, args, below, meth, c, D, ad, ca, Q, h0, sl⟩ := C
  obtain ⟨hx, hb, hml, hown, hts, hK, hNk, hfr, hlo, hlk⟩ := F
  intro H locs la hP hD hS hl
  refine va_newa (atype := .int) (ty := .int) (a0 := (N, .inl (fun _ => 0))) hx hb (hts _ hw) rfl hK hP hD hS (fun q h => Or.inr h) (fun _ => rfl) hn hN (by show N * 4 ≤ _; omega) hr.1 hr.2 d (fun q cA H1 hK1 hP1 hD1 hS1 => ?_)
  have e1 := (hK1.2 9 (cA, .int) rfl).2
  have e2 := (hK.2 1 (ca 14, .int) rfl).2
  cases Option.some.inj (Eq.trans (Eq.symm e1) e2)
  exact kk q H1 locs la hP1 hD1 hS1 hl
theorem kv_newaJ (F : kv_Fx C cc nL own fr lo) {v : Int32} (N : Nat) (d : decode cc pc = .ok (.newarray .long, 2)) (hw : Cond.arrayClass .long ∈ ob_GT) (hn : ¬ v < 0) (hN : v.toNatClampNeg = N) (hb2 : N ≤ 60000) (hr : kv_Rm C (k + 1) (n + N)) (kk : ∀ q : Nat, kv_Ev C (pc + 2) ls (.ref q :: st) (ws ++ [(q, .inl (kv_ca C 15, N, .inr (.inl (fun _ => 0))))]) (k + 1) (n + N)) : kv_Ev C pc ls (.int v :: st) ws k n := by
  obtain ⟨p, l, e, R, s, m, args, below, meth, c, D, ad, ca, Q, h0, sl⟩ := C
  obtain ⟨hx, hb, hml, hown, hts, hK, hNk, hfr, hlo, hlk⟩ := F
  intro H locs la hP hD hS hl
  refine va_newa (atype := .long) (ty := .long) (a0 := (N, .inr (.inl (fun _ => 0)))) hx hb (hts _ hw) rfl hK hP hD hS (fun q h => Or.inr h) (fun _ => rfl) hn hN (by show N * 8 ≤ _; omega) hr.1 hr.2 d (fun q cA H1 hK1 hP1 hD1 hS1 => ?_)
  have e1 := (hK1.2 9 (cA, .long) rfl).2
  have e2 := (hK.2 2 (ca 15, .long) rfl).2
  cases Option.some.inj (Eq.trans (Eq.symm e1) e2)
  exact kk q H1 locs la hP1 hD1 hS1 hl
theorem kv_newaB (F : kv_Fx C cc nL own fr lo) {v : Int32} (N : Nat) (d : decode cc pc = .ok (.newarray .byte, 2)) (hw : Cond.arrayClass .byte ∈ ob_GT) (hn : ¬ v < 0) (hN : v.toNatClampNeg = N) (hb2 : N ≤ 60000) (hr : kv_Rm C (k + 1) (n + N)) (kk : ∀ q : Nat, kv_Ev C (pc + 2) ls (.ref q :: st) (ws ++ [(q, .inl (kv_ca C 13, N, .inl (fun _ => 0)))]) (k + 1) (n + N)) : kv_Ev C pc ls (.int v :: st) ws k n := by
  obtain ⟨p, l, e, R, s, m, args, below, meth, c, D, ad, ca, Q, h0, sl⟩ := C
  obtain ⟨hx, hb, hml, hown, hts, hK, hNk, hfr, hlo, hlk⟩ := F
  intro H locs la hP hD hS hl
  refine va_newa (atype := .byte) (ty := .byte) (a0 := (N, .inl (fun _ => 0))) hx hb (hts _ hw) rfl hK hP hD hS (fun q h => Or.inr h) (fun _ => rfl) hn hN (by show N * 1 ≤ _; omega) hr.1 hr.2 d (fun q cA H1 hK1 hP1 hD1 hS1 => ?_)
  have e1 := (hK1.2 9 (cA, .byte) rfl).2
  have e2 := (hK.2 0 (ca 13, .byte) rfl).2
  cases Option.some.inj (Eq.trans (Eq.symm e1) e2)
  exact kk q H1 locs la hP1 hD1 hS1 hl
theorem kv_newaZ (F : kv_Fx C cc nL own fr lo) {v : Int32} (N : Nat) (d : decode cc pc = .ok (.newarray .boolean, 2)) (hw : Cond.arrayClass .boolean ∈ ob_GT) (hn : ¬ v < 0) (hN : v.toNatClampNeg = N) (hb2 : N ≤ 60000) (hr : kv_Rm C (k + 1) (n + N)) (kk : ∀ q : Nat, kv_Ev C (pc + 2) ls (.ref q :: st) (ws ++ [(q, .inl (kv_ca C 16, N, .inl (fun _ => 0)))]) (k + 1) (n + N)) : kv_Ev C pc ls (.int v :: st) ws k n := by
  obtain ⟨p, l, e, R, s, m, args, below, meth, c, D, ad, ca, Q, h0, sl⟩ := C
  obtain ⟨hx, hb, hml, hown, hts, hK, hNk, hfr, hlo, hlk⟩ := F
  intro H locs la hP hD hS hl
  refine va_newa (atype := .boolean) (ty := .boolean) (a0 := (N, .inl (fun _ => 0))) hx hb (hts _ hw) rfl hK hP hD hS (fun q h => Or.inr h) (fun _ => rfl) hn hN (by show N * 1 ≤ _; omega) hr.1 hr.2 d (fun q cA H1 hK1 hP1 hD1 hS1 => ?_)
  have e1 := (hK1.2 9 (cA, .boolean) rfl).2
  have e2 := (hK.2 3 (ca 16, .boolean) rfl).2
  cases Option.some.inj (Eq.trans (Eq.symm e1) e2)
  exact kk q H1 locs la hP1 hD1 hS1 hl
theorem kv_newq (F : kv_Fx C cc nL own fr lo) {v : Int32} {idx : Nat} {Cn : String} (N K : Nat) (d : decode cc pc = .ok (.anewarray idx, 3)) (hc : (K = 17 ∧ Cn = "OptionBench$Contract") ∨ (K = 18 ∧ Cn = "OptionBench$Market") ∨ (K = 19 ∧ Cn = "OptionBench$Sheet")) (hw : Cond.classLink own idx Cn ∈ ob_GT) (hn : ¬ v < 0) (hN : v.toNatClampNeg = N) (hb2 : N ≤ 60000) (hr : kv_Rm C (k + 1) (n + N)) (kk : ∀ q : Nat, kv_Ev C (pc + 3) ls (.ref q :: st) (ws ++ [(q, .inl (kv_ca C K, N, .inr (.inr (.inr (.inr (fun _ => none))))))]) (k + 1) (n + N)) : kv_Ev C pc ls (.int v :: st) ws k n := by
  obtain ⟨p, l, e, R, s, m, args, below, meth, c, D, ad, ca, Q, h0, sl⟩ := C
  obtain ⟨hx, hb, hml, hown, hts, hK, hNk, hfr, hlo, hlk⟩ := F
  intro H locs la hP hD hS hl
  have hao : va_AO Cn s := by
    rcases hc with ⟨-, rfl⟩ | ⟨-, rfl⟩ | ⟨-, rfl⟩
    · exact hNk.2.2.1
    · exact hNk.2.2.2.1
    · exact hNk.2.2.2.2.1
  refine va_newq hx hb hown (hts _ hw) hao hK hP hD hS (fun q h => Or.inr h) hn hN (by omega) hr.1 hr.2 d (fun q cA H1 hK1 hP1 hD1 hS1 => ?_)
  have e1 := (hK1.2 9 (cA, .object Cn) rfl).2
  obtain ⟨_, _, _, _, _, e1⟩ := e1
  have e3 : cA = ca K := by
    rcases hc with ⟨rfl, rfl⟩ | ⟨rfl, rfl⟩ | ⟨rfl, rfl⟩
    · obtain ⟨_, _, _, _, _, e2⟩ := (hK.2 4 (ca 17, .object "OptionBench$Contract") rfl).2
      exact Option.some.inj (Eq.trans (Eq.symm e1) e2)
    · obtain ⟨_, _, _, _, _, e2⟩ := (hK.2 5 (ca 18, .object "OptionBench$Market") rfl).2
      exact Option.some.inj (Eq.trans (Eq.symm e1) e2)
    · obtain ⟨_, _, _, _, _, e2⟩ := (hK.2 6 (ca 19, .object "OptionBench$Sheet") rfl).2
      exact Option.some.inj (Eq.trans (Eq.symm e1) e2)
  subst e3
  exact kk q H1 locs la hP1 hD1 hS1 hl
def kv_df (K : Nat) : List Value := (ob_mask K).map (fun b => if b then .null else .int 0)
def kv_Cn (own : String) (idx K : Nat) (Cn : String) (T : u_T) (N : Nat) (ty0 : Nat → FieldType) : Prop := vwCl[K]? = some (Cn, T, N) ∧ (∀ w ∈ u_ws Cn T N, w ∈ ob_GT) ∧ (∀ k, k < N → parseFieldDescriptor (T k).2.2.1 = some (ty0 k)) ∧ Cond.classLink own idx Cn ∈ ob_GT ∧ Cond.instantiable Cn N ∈ ob_GT ∧ Cond.initialized Cn ∈ ob_GT ∧ (∀ j, j < N → defaultValue (ty0 j) = vp_V (kv_df K) j)
theorem kv_new (F : kv_Fx C cc nL own fr lo) {idx K N : Nat} {Cn : String} {T : u_T} {ty0 : Nat → FieldType} (d : decode cc pc = .ok (.new idx, 3)) (cn : kv_Cn own idx K Cn T N ty0) (hr : kv_Rm C (k + 1) (n + N)) (kk : ∀ q : Nat, kv_Ev C (pc + 3) ls (.ref q :: st) (ws ++ [(q, .inr (K, kv_df K))]) (k + 1) (n + N)) : kv_Ev C pc ls st ws k n := by
  obtain ⟨p, l, e, R, s, m, args, below, meth, c, D, ad, ca, Q, h0, sl⟩ := C
  obtain ⟨hx, hb, hml, hown, hts, hK, hNk, hfr, hlo, hlk⟩ := F
  obtain ⟨c1, c2, c3, c4, c5, c6, c7⟩ := cn
  intro H locs la hP hD hS hl
  exact va_new (ci := K) hx hb hts c2 ty0 c3 hown (hts _ c4) (hts _ c5) (hts _ c6) hK hP hD hS (fun q h => Or.inr h) c1 c7 hr.1 hr.2 d (fun q H1 hP1 hD1 hS1 => kk q H1 locs la hP1 hD1 hS1 hl)
def kv_Fp (own : String) (idx K k : Nat) (fin : Bool) (ty : FieldType) (Cn : String) (T : u_T) (N : Nat) (ty0 : Nat → FieldType) : Prop := vwCl[K]? = some (Cn, T, N) ∧ k < N ∧ (∀ w ∈ u_ws Cn T N, w ∈ ob_GT) ∧ Cond.fieldLink own idx (T k).1 (T k).2.1 (T k).2.2.1 ∈ ob_GT ∧ (∀ k, k < N → parseFieldDescriptor (T k).2.2.1 = some (ty0 k)) ∧ (∀ a, a < N → ∀ b, b < N → a ≠ b → (T a).2.1 ≠ (T b).2.1) ∧ (T k).2.2.2 = fin ∧ (T k).1 = own ∧ parseFieldDescriptor (T k).2.2.1 = some ty
theorem kv_putF (F : kv_Fx C cc nL own fr lo) {idx K N a : Nat} {j : Nat} {Cn : String} {T : u_T} {ty : FieldType} {ty0 : Nat → FieldType} {v : Value} {fs : List Value} (hI : kv_In C) (q0 : Nat) (d : decode cc pc = .ok (.putfield idx, 3)) (fp : kv_Fp own idx K j true ty Cn T N ty0) (he : ws[q0]? = some (a, .inr (K, fs))) (hn : narrow ty v = v) (hf : fits ty v = true) (hl2 : j < fs.length) (kk : kv_Ev C (pc + 3) ls st (ws.set q0 (a, .inr (K, fs.set j v))) k n) : kv_Ev C pc ls (v :: .ref a :: st) ws k n := by
  obtain ⟨p, l, e, R, s, m, args, below, meth, c, D, ad, ca, Q, h0, sl⟩ := C
  obtain ⟨hx, hb, hml, hown, hts, hK, hNk, hfr, hlo, hlk⟩ := F
  obtain ⟨f1, f2, f3, f4, f5, f6, f7, f8, f9⟩ := fp
  intro H locs la hP hD hS hl
  exact va_putF (ci := K) hx hb hts f3 ty0 f5 f6 hown hK hP hD hS q0 he f1 j f2 (hts _ f4) (fun _ z => z) f7 hI f8 f9 hn hf hl2 d (fun H1 locs1 hP1 hD1 hS1 => kk H1 locs1 la hP1 hD1 hS1 hl)
theorem kv_put (F : kv_Fx C cc nL own fr lo) {idx K N a : Nat} {j : Nat} {Cn : String} {T : u_T} {ty : FieldType} {ty0 : Nat → FieldType} {v : Value} {fs : List Value} (hI : kv_In C) (q0 : Nat) (d : decode cc pc = .ok (.putfield idx, 3)) (fp : kv_Fp own idx K j false ty Cn T N ty0) (he : ws[q0]? = some (a, .inr (K, fs))) (hn : narrow ty v = v) (hf : fits ty v = true) (hl2 : j < fs.length) (kk : kv_Ev C (pc + 3) ls st (ws.set q0 (a, .inr (K, fs.set j v))) k n) : kv_Ev C pc ls (v :: .ref a :: st) ws k n := by
  obtain ⟨p, l, e, R, s, m, args, below, meth, c, D, ad, ca, Q, h0, sl⟩ := C
  obtain ⟨hx, hb, hml, hown, hts, hK, hNk, hfr, hlo, hlk⟩ := F
  obtain ⟨f1, f2, f3, f4, f5, f6, f7, f8, f9⟩ := fp
  intro H locs la hP hD hS hl
  exact va_put (ci := K) hx hb hts f3 ty0 f5 f6 hown hK hP hD hS q0 he f1 j f2 (hts _ f4) (fun _ z => z) f7 f9 hn hf hl2 d (fun H1 locs1 hP1 hD1 hS1 => kk H1 locs1 la hP1 hD1 hS1 hl)
theorem kv_get (F : kv_Fx C cc nL own fr lo) {idx K N a : Nat} {j : Nat} {Cn : String} {T : u_T} {v : Value} {fs : List Value} (q0 : Nat) (d : decode cc pc = .ok (.getfield idx, 3)) (f1 : vwCl[K]? = some (Cn, T, N)) (f2 : j < N) (f3 : ∀ w ∈ u_ws Cn T N, w ∈ ob_GT) (f4 : Cond.fieldLink own idx (T j).1 (T j).2.1 (T j).2.2.1 ∈ ob_GT) (he : ws[q0]? = some (a, .inr (K, fs))) (hv : fs[j]? = some v) (kk : kv_Ev C (pc + 3) ls (v :: st) ws k n) : kv_Ev C pc ls (.ref a :: st) ws k n := by
  obtain ⟨p, l, e, R, s, m, args, below, meth, c, D, ad, ca, Q, h0, sl⟩ := C
  obtain ⟨hx, hb, hml, hown, hts, hK, hNk, hfr, hlo, hlk⟩ := F
  intro H locs la hP hD hS hl
  exact va_get (ci := K) hx hb hts f3 hown hK hP q0 he f1 j f2 (hts _ f4) (fun _ z => z) hv d (kk H locs la hP hD hS hl)
theorem kv_ast (F : kv_Fx C cc nL own fr lo) {a b i2 K Kc N : Nat} {i : Int32} {r : vw_C} {vs : List Value} {f : Nat → Option Nat} (q0 qk : Nat) (d : decode cc pc = .ok (.aastore, 1)) (hK2 : (K = 17 ∧ r.1 = "OptionBench$Contract") ∨ (K = 18 ∧ r.1 = "OptionBench$Market") ∨ (K = 19 ∧ r.1 = "OptionBench$Sheet")) (hc : vwCl[Kc]? = some r) (ha : ws[q0]? = some (a, .inl (kv_ca C K, N, .inr (.inr (.inr (.inr f)))))) (hv : ws[qk]? = some (b, .inr (Kc, vs))) (hin : vp_in i N) (hi : i.toNatClampNeg = i2) (kk : kv_Ev C (pc + 1) ls st (ws.set q0 (a, .inl (kv_ca C K, N, .inr (.inr (.inr (.inr (va_up f i2 (some b)))))))) k n) : kv_Ev C pc ls (.ref b :: .int i :: .ref a :: st) ws k n := by
  obtain ⟨p, l, e, R, s, m, args, below, meth, c, D, ad, ca, Q, h0, sl⟩ := C
  obtain ⟨hx, hb, hml, hown, hts, hK, hNk, hfr, hlo, hlk⟩ := F
  subst hi
  intro H locs la hP hD hS hl
  have kz := fun H1 locs1 hP1 hD1 hS1 => kk H1 locs1 la hP1 hD1 hS1 hl
  obtain ⟨r1, r2⟩ := r
  rcases hK2 with ⟨rfl, h2⟩ | ⟨rfl, h2⟩ | ⟨rfl, h2⟩ <;> (dsimp only at h2; subst h2)
  · exact va_astq hx hb hK hP hD hS q0 4 qk Kc ha rfl hv hc hin d kz
  · exact va_astq hx hb hK hP hD hS q0 5 qk Kc ha rfl hv hc hin d kz
  · exact va_astq hx hb hK hP hD hS q0 6 qk Kc ha rfl hv hc hin d kz
theorem kv_refs {cA : ClassId} {N : Nat} {f f2 : Nat → Option Nat} (h : ∀ i, i < N → f i = f2 i) : vp_cell cA (N, .inr (.inr (.inr (.inr f)))) = vp_cell cA (N, .inr (.inr (.inr (.inr f2)))) := by
  simp only [vp_cell, arrV]
  congr 1
  apply Array.ext
  · simp
  · intro i h5 h6
    simp only [Array.getElem_ofFn]
    rw [h i (by simpa using h5)]
/-! new T[2][91] -/
theorem kv_mna {v1 v2 : Int32} {idx K : Nat} {ty : FieldType} {z : vp_A} (F : kv_Fx C cc nL own fr lo) (d : decode cc pc = .ok (.multianewarray idx 2, 4)) (hc : (ty = .int ∧ K = 20 ∧ z = (91, .inl (fun _ => 0))) ∨ (ty = .long ∧ K = 21 ∧ z = (91, .inr (.inl (fun _ => 0))))) (h1 : v1 = 2) (h2 : v2 = 91) (hw : Cond.classLink own idx ("[" ++ (FieldType.array ty).toString) ∈ ob_GT) (hw2 : Cond.arrayClass ty ∈ ob_GT) (hr : kv_Rm C (k + 3) (n + 184))
    (kk : ∀ q r0 r1 : Nat, kv_Ev C (pc + 4) ls (.ref q :: st) (ws ++ [(q, .inl (kv_ca C K, 2, .inr (.inr (.inr (.inr (fun i => if i = 0 then some r0 else some r1)))))), (r0, .inl (kv_ca C (if K = 20 then 14 else 15), z)), (r1, .inl (kv_ca C (if K = 20 then 14 else 15), z))]) (k + 3) (n + 184)) : kv_Ev C pc ls (.int v2 :: .int v1 :: st) ws k n := by
  obtain ⟨p, l, e, R, s, m, args, below, meth, c, D, ad, ca, Q, h0, sl⟩ := C
  obtain ⟨hx, hb, hml, hown, hts, hK, hNk, hfr, hlo, hlk⟩ := F
  intro H locs la hP hD hS hl
  subst h1; subst h2
  have hover : va_AOA ty s := by
    rcases hc with ⟨rfl, -, -⟩ | ⟨rfl, -, -⟩
    · exact hNk.2.2.2.2.2.1
    · exact hNk.2.2.2.2.2.2.1
  have hcy : s.vm.findClass (FieldType.array ty).toString = some (ca (if K = 20 then 14 else 15)) := by
    rcases hc with ⟨rfl, rfl, -⟩ | ⟨rfl, rfl, -⟩
    · exact (hK.2 1 (ca 14, .int) rfl).2
    · exact (hK.2 2 (ca 15, .long) rfl).2
  have hz : ∀ c : ClassId, Jvm.Free.Multi.innerC c 91 (defaultValue ty) = vp_cell c z := by
    intro c
    rcases hc with ⟨rfl, -, rfl⟩ | ⟨rfl, -, rfl⟩
    · exact arrV_new _ _ _
    · exact arrV_new _ _ _
  have hby : 91 * componentBytes ty ≤ 536870912 := by
    rcases hc with ⟨rfl, -, -⟩ | ⟨rfl, -, -⟩ <;> decide
  have hdf : fits ty (defaultValue ty) = true ∧ (defaultValue ty).isDefault = true := by
    rcases hc with ⟨rfl, -, -⟩ | ⟨rfl, -, -⟩ <;> decide
  have hP0 : va_P D vwCl (ws ++ va_pl [] (fun _ => .inr (0, []))) H := by simpa [va_pl] using hP
  have hD0 : va_D (kv_A h0 s.heap.size) (ws ++ va_pl [] (fun _ => .inr (0, []))) := by simpa [va_pl] using hD
  refine va_mna (N' := 2) (K' := 91) (z := z) hx hb hown (hts _ hw) hover (hts _ hw2) hcy hK hP0 hD0 hS (fun q h => Or.inr h) (by decide) (by decide) (by decide) (by decide) (by decide) hby (by decide) hdf.1 hdf.2 hr.1 hr.2 hz d (fun q r cA H1 hinj hout hK1 hP1 hD1 hS1 => ?_)
  have e3 : cA = ca K := by
    have e1 := (hK1.2 9 (cA, .array ty) rfl).2
    rcases hc with ⟨rfl, rfl, -⟩ | ⟨rfl, rfl, -⟩
    · exact Option.some.inj (Eq.trans (Eq.symm e1) (hK.2 7 (ca 20, .array .int) rfl).2)
    · exact Option.some.inj (Eq.trans (Eq.symm e1) (hK.2 8 (ca 21, .array .long) rfl).2)
  subst e3
  have key : (ws ++ [(q, .inl (ca K, 2, .inr (.inr (.inr (.inr (fun i => if i < 2 then some (r i) else none))))))]) ++ va_pl ([] ++ (List.range 2).map r) (vr_up (fun _ => .inr (0, [])) ((List.range 2).map r) (.inl (ca (if K = 20 then 14 else 15), z)))
      = ws ++ [(q, .inl (ca K, 2, .inr (.inr (.inr (.inr (fun i => if i < 2 then some (r i) else none)))))), (r 0, .inl (ca (if K = 20 then 14 else 15), z)), (r 1, .inl (ca (if K = 20 then 14 else 15), z))] := by
    simp [va_pl, vr_up, List.range_succ]
  rw [key] at hP1 hD1
  have kz := kk q (r 0) (r 1)
  refine W.widen (k := k + 3) (n := n + 184) (by omega) (by omega) (kz H1 locs la ?_ ?_ hS1 hl)
  · intro j x hj
    have hlen : j < ws.length + 3 := by
      have := (List.getElem?_eq_some_iff.mp hj).1
      simpa using this
    by_cases q0 : j = ws.length
    · subst q0
      rw [List.getElem?_append_right (Nat.le_refl _), Nat.sub_self] at hj
      cases hj
      have h9 := hP1 ws.length _ (by rw [List.getElem?_append_right (Nat.le_refl _), Nat.sub_self]; rfl)
      show H1[q]? = some (vp_cell _ _)
      refine Eq.trans h9 (congrArg some ?_)
      exact kv_refs (fun i h7 => by rcases (show i = 0 ∨ i = 1 by omega) with rfl | rfl <;> rfl)
    · refine hP1 j x ?_
      rcases Nat.lt_or_ge j ws.length with h5 | h5
      · rw [List.getElem?_append_left h5] at hj ⊢
        exact hj
      · rw [List.getElem?_append_right h5] at hj ⊢
        rcases (show j - ws.length = 1 ∨ j - ws.length = 2 by omega) with h6 | h6 <;> rw [h6] at hj ⊢ <;> exact hj
  · refine ⟨fun i j x y hi hj hxy => ?_, fun j x hj => ?_⟩
    · have hi' : ∃ x', ((ws ++ [(q, .inl (ca K, 2, .inr (.inr (.inr (.inr (fun i => if i < 2 then some (r i) else none)))))), (r 0, .inl (ca (if K = 20 then 14 else 15), z)), (r 1, .inl (ca (if K = 20 then 14 else 15), z))])[i]? = some x') ∧ x'.1 = x.1 := by
        rcases Nat.lt_or_ge i ws.length with h5 | h5
        · rw [List.getElem?_append_left h5] at hi ⊢; exact ⟨x, hi, rfl⟩
        · rw [List.getElem?_append_right h5] at hi ⊢
          generalize i - ws.length = i9 at hi
          match i9, hi with
          | 0, hi => cases hi; exact ⟨_, rfl, rfl⟩
          | 1, hi => cases hi; exact ⟨_, rfl, rfl⟩
          | 2, hi => cases hi; exact ⟨_, rfl, rfl⟩
          | i9 + 3, hi => simp at hi
      have hj' : ∃ y', ((ws ++ [(q, .inl (ca K, 2, .inr (.inr (.inr (.inr (fun i => if i < 2 then some (r i) else none)))))), (r 0, .inl (ca (if K = 20 then 14 else 15), z)), (r 1, .inl (ca (if K = 20 then 14 else 15), z))])[j]? = some y') ∧ y'.1 = y.1 := by
        rcases Nat.lt_or_ge j ws.length with h5 | h5
        · rw [List.getElem?_append_left h5] at hj ⊢; exact ⟨y, hj, rfl⟩
        · rw [List.getElem?_append_right h5] at hj ⊢
          generalize j - ws.length = j9 at hj
          match j9, hj with
          | 0, hj => cases hj; exact ⟨_, rfl, rfl⟩
          | 1, hj => cases hj; exact ⟨_, rfl, rfl⟩
          | 2, hj => cases hj; exact ⟨_, rfl, rfl⟩
          | j9 + 3, hj => simp at hj
      obtain ⟨x', g1, g2⟩ := hi'
      obtain ⟨y', g3, g4⟩ := hj'
      exact hD1.1 i j x' y' g1 g3 (g2.trans (hxy.trans g4.symm))
    · rcases Nat.lt_or_ge j ws.length with h5 | h5
      · exact hD1.2 j x (by rw [List.getElem?_append_left h5] at hj ⊢; exact hj)
      · rw [List.getElem?_append_right h5] at hj
        have hd := fun i9 x9 (h9 : ([(q, .inl (ca K, 2, .inr (.inr (.inr (.inr (fun i => if i < 2 then some (r i) else none)))))), (r 0, .inl (ca (if K = 20 then 14 else 15), z)), (r 1, .inl (ca (if K = 20 then 14 else 15), z))] : va_W)[i9]? = some x9) => hD1.2 (ws.length + i9) x9 (by rw [List.getElem?_append_right (Nat.le_add_right _ _), Nat.add_sub_cancel_left]; exact h9)
        generalize j - ws.length = j9 at hj
        match j9, hj with
        | 0, hj => cases hj; exact (show kv_A h0 s.heap.size q from hd 0 _ rfl)
        | 1, hj => cases hj; exact hd 1 _ rfl
        | 2, hj => cases hj; exact hd 2 _ rfl
        | j9 + 3, hj => simp at hj
/-! a constructor's contract -/
def kv_Mt (cf : ob_Cf) (y : MethodName) (bytes : ByteArray) (maxL fr lo mc ms K : Nat) (As : List Value) (Wf : Nat → (Nat → Nat) → va_W) : Prop :=
  ∀ h0 sz : Nat, Met cf.1 y (Cond.code y bytes maxL none :: ob_GT) { frames := fr, cells := mc, slots := ms, locals := lo } (va_Pc (.ref h0 :: As) (fun U => U.heap.size = sz ∧ (va_P cf.2.1 vwCl [(h0, .inr (K, kv_df K))] U.heap ∧ va_K cf.2.1 vwCl (ob_ty cf.2.2.2) U ∧ kv_S cf.2.2.1 (kv_A h0 sz) U U.heap ∧ kv_N cf.2.2.1 U))) (fun _ su o t => o = .returned none ∧ (∃ qs : Nat → Nat, va_P cf.2.1 vwCl (Wf h0 qs) t.heap ∧ va_D (kv_A h0 sz) (Wf h0 qs)) ∧ va_F (kv_A h0 sz) su t) mc ms (kv_A h0 sz)
theorem kv_blind {D : va_G} {ad : Nat → Nat} {ca : Nat → ClassId} {sz h0 : Nat} {w : va_W} {av : List Value} : FrameBlind (va_Pc av (fun U => U.heap.size = sz ∧ (va_P D vwCl w U.heap ∧ va_K D vwCl (ob_ty ca) U ∧ kv_S ad (kv_A h0 sz) U U.heap ∧ kv_N ad U))) := by
  intro a U gg mk q
  obtain ⟨q0, q1, qP, qK, qS, qN⟩ := q
  exact ⟨q0, q1, qP, va_K.moved (u := U) (U := U.calling gg mk a) (Vm.Alike.refl U.vm) qK, qS.moved (u := U) (U := U.calling gg mk a) (Vm.Alike.refl U.vm), kv_N.same (s := U) (U := U.calling gg mk a) rfl qN⟩
theorem kv_enter {cf : ob_Cf} {y : MethodName} {bytes : ByteArray} {maxL fr2 lo2 mc ms K : Nat} {As : List Value} {Wf : Nat → (Nat → Nat) → va_W} (hy : plainName y.cls = true) (hyn : y.name = "<init>") (hav : ∀ h0 : Nat, (lg_sl (Value.ref h0 :: As)).length ≤ maxL)
    (body : ∀ (h0 : Nat) (C : ob_Cx), ob_cf C = cf → kv_Fx C bytes maxL y.cls fr2 lo2 → kv_In C → (∀ k n, k ≤ mc → n ≤ ms → kv_Rm C k n) → (∀ qs, kv_Rt C (Wf h0 qs) mc ms) → kv_Ev C 0 (lv_args 0 (.ref h0 :: As)) [] [(h0, .inr (K, kv_df K))] 0 0) : kv_Mt cf y bytes maxL fr2 lo2 mc ms K As Wf := by
  intro h0 sz
  obtain ⟨l, D, ad, ca⟩ := cf
  refine Met.ofW (cc := bytes) (maxL := maxL) (ret := none) hy rfl ?_
  intro p e s m args below meth c s₁ B hml hq
  obtain ⟨rfl, hsz, hP, hK, hS, hN⟩ := hq
  have hx := B.exec
  have hb := B.bytes
  have hr := B.returns
  have hts := atoms_spec (ws := Cond.code y bytes maxL none :: ob_GT) B.pre
  have hown : s.vm.findClass y.cls = some m.cls := findClass_of_methodNamed B.named
  have hlocks := B.notSynchronized
  have hin : meth.name = "<init>" := (name_of_methodNamed B.named B.method).1.trans hyn
  subst hsz
  have hl := lv_entry (Value.ref h0 :: As) (n := maxL) (hav h0)
  rw [lg_entry_eq]
  generalize (lg_sl (Value.ref h0 :: As) ++ List.replicate (maxL - (lg_sl (Value.ref h0 :: As)).length) Slot.unset).toArray = la at hl ⊢
  have hD : va_D (kv_A h0 s.heap.size) [(h0, .inr (K, kv_df K))] := by
    refine ⟨fun i j x y hi hj _ => ?_, fun k q hk => ?_⟩
    · have h1 := (List.getElem?_eq_some_iff.mp hi).1
      have h2 := (List.getElem?_eq_some_iff.mp hj).1
      simp at h1 h2
      omega
    · have h1 := (List.getElem?_eq_some_iff.mp hk).1
      simp at h1
      subst h1
      cases hk
      exact Or.inl rfl
  refine body h0 (p, l, e, _, s, m, (Value.ref h0 :: As).toArray, below, meth, c, D, ad, ca, _, h0, 0) rfl ⟨hx, hb, hml, hown, fun w h => hts w (List.mem_cons_of_mem _ h), hK, ⟨hS, hN⟩, Nat.le_refl _, Nat.le_refl _, hlocks⟩ hin (fun k n h1 h2 => ⟨h1, h2⟩) ?_ s.heap [] la hP hD va_S.rf (by rw [hml]; exact hl)
  intro qs H locs pc la hP hD hS d
  exact W.vret hx rfl (by rw [hr]) (fun t ht hW => ⟨rfl, ⟨qs, by rw [ht]; exact hP, hD⟩, hS.F ht⟩) hS.2.2 d
theorem kv_init {idx K maxL np fr2 lo2 mc ms q : Nat} {y : MethodName} {bytes : ByteArray} {As rest : List Value} {ws0 : va_W} {Wf : Nat → (Nat → Nat) → va_W} (F : kv_Fx C cc nL own fr lo) (d : decode cc pc = .ok (.invokespecial idx, 3)) (ib : ob_Ib y bytes maxL none np) (i1 : Cond.instanceMethod y ∈ ob_GT) (hy : y.name = "<init>") (hl : Cond.methodLink own idx y ∈ ob_GT ∨ (own, idx, y) ∈ kv_nest) (hM : kv_Mt (ob_cf C) y bytes maxL fr2 lo2 mc ms K As Wf) (hn : As.length = np) (hs : st = As.reverse ++ .ref q :: rest) (hw : (rest.map fun v => v.category).sum ≤ 8) (hR : fr2 + 1 ≤ fr ∧ 8 + (maxL + 11) + lo2 ≤ lo) (hr : kv_Rm C (k + mc) (n + ms)) (hws : ws = ws0 ++ [(q, .inr (K, kv_df K))])
    (kk : ∀ qs, kv_Ev C (pc + 3) ls rest (ws0 ++ Wf q qs) (k + mc) (n + ms)) : kv_Ev C pc ls st ws k n := by
  obtain ⟨p, l, e, R, s, m, args, below, meth, c, D, ad, ca, Q, h0, sl⟩ := C
  obtain ⟨hx, hb, hml, hown, hts, hK, hNk, hfr, hlo, hlk⟩ := F
  intro H locs la hP hD hS hlv
  subst hws
  have hlast : (ws0 ++ [(q, (.inr (K, kv_df K) : va_E))])[ws0.length]? = some (q, .inr (K, kv_df K)) := by rw [List.getElem?_append_right (Nat.le_refl _), Nat.sub_self]; rfl
  have hPc : va_P D vwCl [(q, .inr (K, kv_df K))] H := by
    intro j x hj
    have h1 := (List.getElem?_eq_some_iff.mp hj).1
    simp at h1
    subst h1
    cases hj
    exact hP _ _ hlast
  have hsub : ∀ z, kv_A q H.size z → kv_A h0 s.heap.size z := by
    rintro z (rfl | h)
    · exact hD.2 _ _ hlast
    · exact Or.inr (Nat.le_trans hS.1 h)
  have hpre : ∀ U : State, U.heap = H → s.WarmedH U.vm → va_Pc (.ref q :: As) (fun U => U.heap.size = H.size ∧ (va_P D vwCl [(q, .inr (K, kv_df K))] U.heap ∧ va_K D vwCl (ob_ty ca) U ∧ kv_S ad (kv_A q H.size) U U.heap ∧ kv_N ad U)) (Value.ref q :: As).toArray U := by
    intro U hU hW
    refine ⟨rfl, by rw [hU], by rw [hU]; exact hPc, va_K.moved hW.alike hK, ?_, hNk.2.warm hW⟩
    rw [hU]
    exact ((hNk.1.kept hS.2.1).moved hW.alike).narrow hsub
  have hrun : va_Run p l e R s m args below meth c H locs k n mc ms (F0 m pc la st) rest (fun su o t => o = .returned none ∧ (∃ qs : Nat → Nat, va_P D vwCl (Wf q qs) t.heap ∧ va_D (kv_A q H.size) (Wf q qs)) ∧ va_F (kv_A q H.size) su t) (kv_A q H.size) := by
    rcases hl with hl | hl
    · exact va_runI (As := As) (rest := rest) (n := np) ⟨hx, hb, hml, hown, hts⟩ (hM q H.size) ⟨callB_of np hts (ob_good ib.1) rfl rfl rfl (hts _ ib.2.1) (hts _ hl) ib.2.2 ⟨Nat.le_trans hR.1 hfr, Nat.le_trans hR.2 hlo⟩, hy, hts _ i1⟩ ⟨kv_blind, hpre⟩ rfl hn (by rw [hlv.1, hml]) hs (by simpa using hw) d hr
    · exact va_runIN (As := As) (rest := rest) (n := np) ⟨hx, hb, hml, hown, hts⟩ (hM q H.size) ⟨va_cnB np hts (ob_good ib.1) rfl rfl rfl (hNk.2.1 _ hl) (hts _ ib.2.1) ib.2.2 ⟨Nat.le_trans hR.1 hfr, Nat.le_trans hR.2 hlo⟩, hy, hts _ i1⟩ ⟨kv_blind, hpre⟩ rfl hn (by rw [hlv.1, hml]) hs (by simpa using hw) d hr
  intro T hT X
  obtain ⟨v2, st₀, t, T', L, h00, X', hL, e1, e2, ⟨hv, ⟨qs, hP1, hD1⟩, hz, hk⟩, st9⟩ := hrun T hT X
  cases hv
  rw [h00] at hz hk
  have hold : ∀ (j : Nat) (x : Nat × va_E), ws0[j]? = some x → x.1 < H.size ∧ x.1 ≠ q := by
    intro j x hj
    have hj2 : (ws0 ++ [(q, (.inr (K, kv_df K) : va_E))])[j]? = some x := by rw [List.getElem?_append_left (List.getElem?_eq_some_iff.mp hj).1]; exact hj
    refine ⟨(hP j x hj2).lt, fun h => ?_⟩
    have h3 := hD.1 j ws0.length x _ hj2 hlast h
    have h4 := (List.getElem?_eq_some_iff.mp hj).1
    omega
  have hPn : va_P D vwCl (ws0 ++ Wf q qs) T'.heap := by
    rw [e1]
    refine va_P.app (fun j x hj => ?_) hP1
    have hj2 : (ws0 ++ [(q, (.inr (K, kv_df K) : va_E))])[j]? = some x := by rw [List.getElem?_append_left (List.getElem?_eq_some_iff.mp hj).1]; exact hj
    obtain ⟨o1, o2⟩ := hold j x hj
    exact (hP j x hj2).kept (hk x.1 o1 (fun z => z.elim o2 (fun z => Nat.not_le.mpr o1 z)))
  have hDn : va_D (kv_A h0 s.heap.size) (ws0 ++ Wf q qs) := by
    refine va_D.app ⟨fun i j x y hi hj hxy => ?_, fun j x hj => ?_⟩ (hD1.weaken (fun _ _ _ h => hsub _ h)) (fun i j x y hi hj hxy => ?_)
    · exact hD.1 i j x y (by rw [List.getElem?_append_left (List.getElem?_eq_some_iff.mp hi).1]; exact hi) (by rw [List.getElem?_append_left (List.getElem?_eq_some_iff.mp hj).1]; exact hj) hxy
    · exact hD.2 j x (by rw [List.getElem?_append_left (List.getElem?_eq_some_iff.mp hj).1]; exact hj)
    · obtain ⟨o1, o2⟩ := hold i x hi
      rcases hD1.2 j y hj with h | h
      · exact o2 (hxy.trans h)
      · omega
  obtain ⟨t2, a1, b1⟩ := kk qs T'.heap (locs ++ L) la hPn hDn
    ⟨Nat.le_trans hS.1 (by rw [e1]; exact hz), fun z h1 h2 => by rw [e1, hk z (Nat.lt_of_lt_of_le h1 hS.1) (fun y => h2 (hsub z y))]; exact hS.2.1 z h1 h2, fun z hz => by
      rcases List.mem_append.mp hz with h | h
      · exact hS.2.2 z h
      · exact hsub _ (hL z h)⟩ hlv T' rfl X'
  exact ⟨t2, st9 t2 a1, b1⟩

end KVR
