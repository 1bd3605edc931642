abbrev ob_Cf : Type := Launch × va_G × (Nat → Nat) × (Nat → ClassId)
abbrev ob_Cx : Type := Program × Launch × Env × Room × State × MethodId × Array Value × List Frame × Method × Code × va_G × (Nat → Nat) × (Nat → ClassId) × (State → Prop) × Nat × Nat
def ob_cf (C : ob_Cx) : ob_Cf := match C with | (p, l, e, R, s, m, args, below, meth, c, D, ad, ca, Q, ce, sl) => (l, D, ad, ca)
def ob_rw (cf : ob_Cf) (n : Nat) : Value := .ref (cf.2.2.1 n)
abbrev ob_rv (C : ob_Cx) (n : Nat) : Value := ob_rw (ob_cf C) n
/-- at pc with these locals, this stack and the world g the machine comes to what is owed -/
def ob_Ev (C : ob_Cx) (pc : Nat) (ls : List (Nat × Value)) (st : List Value) (g : ob_St) : Prop := match C with
  | (p, l, e, R, s, m, args, below, meth, c, D, ad, ca, Q, ce, sl) => ∀ (H : Heap) (locs : List Loc) (la : Array Slot), va_P D vwCl (ob_ws ad ca g) H → va_S (ob_A ad s.heap.size) s.heap H locs → lv_has la c.maxLocals ls → W p l e R s m args below meth c H locs ce sl Q (F0 m pc la st)
/-- what stands all through a method's body -/
def ob_Fx (C : ob_Cx) (cc : ByteArray) (nL : Nat) (own : String) (ret : Option FieldType) (fr lo : Nat) : Prop := match C with
  | (p, l, e, R, s, m, args, below, meth, c, D, ad, ca, Q, ce, sl) => p.tables.exec = Jvm.exec ∧ c.code = cc ∧ c.maxLocals = nL ∧ s.vm.findClass own = some m.cls ∧ (∀ w ∈ ob_GT, w.before args s = true) ∧ va_K D vwCl (ob_ty ca) s ∧ ob_Inj ad ∧ ob_SF ad (ob_A ad s.heap.size) s s.heap ∧ ob_Nst s ∧ fr ≤ R.frames ∧ lo ≤ R.locals ∧ ce ≤ R.cells ∧ sl ≤ R.slots ∧ meth.sig.returnType = ret ∧ meth.locks = false
/-- a return with v in the world g is what is owed -/
def ob_Rt (C : ob_Cx) (v : Option Value) (g : ob_St) : Prop := match C with
  | (p, l, e, R, s, m, args, below, meth, c, D, ad, ca, Q, ce, sl) => ∀ (H : Heap) (locs : List Loc) (pc : Nat) (la : Array Slot), va_P D vwCl (ob_ws ad ca g) H → va_S (ob_A ad s.heap.size) s.heap H locs → (match v with
    | none => decode c.code pc = .ok (.return_, 1) → W p l e R s m args below meth c H locs ce sl Q (F0 m pc la [])
    | some (.int x) => (∀ ty, meth.sig.returnType = some ty → narrow ty (.int x) = .int x) → decode c.code pc = .ok (.ireturn, 1) → W p l e R s m args below meth c H locs ce sl Q (F0 m pc la [.int x])
    | some (.long x) => decode c.code pc = .ok (.lreturn, 1) → W p l e R s m args below meth c H locs ce sl Q (F0 m pc la [.long x])
    | some v => decode c.code pc = .ok (.areturn, 1) → W p l e R s m args below meth c H locs ce sl Q (F0 m pc la [v]))
section OBR
variable {C : ob_Cx} {cc : ByteArray} {nL : Nat} {own : String} {ret : Option FieldType} {fr lo pc : Nat} {ls : List (Nat × Value)} {st : List Value} {g : ob_St} {α : Type} {r : α}
theorem ob_iconst (F : ob_Fx C cc nL own ret fr lo) {n : Int} {v : Int32} (d : decode cc pc = .ok (.iconst n, 1)) (hv : Int32.ofInt n = v) (k : ob_Ev C (pc + 1) ls (.int v :: st) g) : ob_Ev C pc ls st g := by
  obtain ⟨p, l, e, R, s, m, args, below, meth, c, D, ad, ca, Q, ce, sl⟩ := C
  obtain ⟨hx, hb, hml, hown, hts, hK, hi, hSF, hNs, hfr, hlo, hce, hsl, hrt, hlk⟩ := F
  exact fun H locs la hP hS hl => lv_iconst hx hb d hv (k H locs la hP hS hl)
theorem ob_bipush (F : ob_Fx C cc nL own ret fr lo) {n : Int} {v : Int32} (d : decode cc pc = .ok (.bipush n, 2)) (hv : (Int8.ofInt n).toInt32 = v) (k : ob_Ev C (pc + 2) ls (.int v :: st) g) : ob_Ev C pc ls st g := by
  obtain ⟨p, l, e, R, s, m, args, below, meth, c, D, ad, ca, Q, ce, sl⟩ := C
  obtain ⟨hx, hb, hml, hown, hts, hK, hi, hSF, hNs, hfr, hlo, hce, hsl, hrt, hlk⟩ := F
  exact fun H locs la hP hS hl => lv_bipush hx hb d hv (k H locs la hP hS hl)
theorem ob_sipush (F : ob_Fx C cc nL own ret fr lo) {n : Int} {v : Int32} (d : decode cc pc = .ok (.sipush n, 3)) (hv : (Int16.ofInt n).toInt32 = v) (k : ob_Ev C (pc + 3) ls (.int v :: st) g) : ob_Ev C pc ls st g := by
  obtain ⟨p, l, e, R, s, m, args, below, meth, c, D, ad, ca, Q, ce, sl⟩ := C
  obtain ⟨hx, hb, hml, hown, hts, hK, hi, hSF, hNs, hfr, hlo, hce, hsl, hrt, hlk⟩ := F
  exact fun H locs la hP hS hl => lv_sipush hx hb d hv (k H locs la hP hS hl)
theorem ob_lconst (F : ob_Fx C cc nL own ret fr lo) {n : Fin 2} {v : Int64} (d : decode cc pc = .ok (.lconst n, 1)) (hv : Int64.ofNat (n : Nat) = v) (k : ob_Ev C (pc + 1) ls (.long v :: st) g) : ob_Ev C pc ls st g := by
  obtain ⟨p, l, e, R, s, m, args, below, meth, c, D, ad, ca, Q, ce, sl⟩ := C
  obtain ⟨hx, hb, hml, hown, hts, hK, hi, hSF, hNs, hfr, hlo, hce, hsl, hrt, hlk⟩ := F
  exact fun H locs la hP hS hl => lv_lconst hx hb d hv (k H locs la hP hS hl)
theorem ob_ldc (F : ob_Fx C cc nL own ret fr lo) {n : Nat} {v : Int32} (d : decode cc pc = .ok (.ldc n, 2)) (hw : Cond.constant own n v ∈ ob_GT) (k : ob_Ev C (pc + 2) ls (.int v :: st) g) : ob_Ev C pc ls st g := by
  obtain ⟨p, l, e, R, s, m, args, below, meth, c, D, ad, ca, Q, ce, sl⟩ := C
  obtain ⟨hx, hb, hml, hown, hts, hK, hi, hSF, hNs, hfr, hlo, hce, hsl, hrt, hlk⟩ := F
  exact fun H locs la hP hS hl => lv_ldc hx hb hown (hts _ hw) d (k H locs la hP hS hl)
theorem ob_ldc2 (F : ob_Fx C cc nL own ret fr lo) {n : Nat} {v : Int64} (d : decode cc pc = .ok (.ldc2_w n, 3)) (hw : Cond.constantLong own n v ∈ ob_GT) (k : ob_Ev C (pc + 3) ls (.long v :: st) g) : ob_Ev C pc ls st g := by
  obtain ⟨p, l, e, R, s, m, args, below, meth, c, D, ad, ca, Q, ce, sl⟩ := C
  obtain ⟨hx, hb, hml, hown, hts, hK, hi, hSF, hNs, hfr, hlo, hce, hsl, hrt, hlk⟩ := F
  exact fun H locs la hP hS hl => lv_ldc2 hx hb hown (hts _ hw) d (k H locs la hP hS hl)
theorem ob_iload_n (F : ob_Fx C cc nL own ret fr lo) {k : Fin 4} {x : Int32} (q : Nat) (d : decode cc pc = .ok (.iload_n k, 1)) (hq : ls[q]? = some ((k : Nat), .int x)) (kk : ob_Ev C (pc + 1) ls (.int x :: st) g) : ob_Ev C pc ls st g := by
  obtain ⟨p, l, e, R, s, m, args, below, meth, c, D, ad, ca, Q, ce, sl⟩ := C
  obtain ⟨hx, hb, hml, hown, hts, hK, hi, hSF, hNs, hfr, hlo, hce, hsl, hrt, hlk⟩ := F
  exact fun H locs la hP hS hl => lv_iload_n hx hb d rfl (lv_at hl q hq) (kk H locs la hP hS hl)
theorem ob_iload (F : ob_Fx C cc nL own ret fr lo) {i : Nat} {x : Int32} (q : Nat) (d : decode cc pc = .ok (.iload i, 2)) (hq : ls[q]? = some (i, .int x)) (kk : ob_Ev C (pc + 2) ls (.int x :: st) g) : ob_Ev C pc ls st g := by
  obtain ⟨p, l, e, R, s, m, args, below, meth, c, D, ad, ca, Q, ce, sl⟩ := C
  obtain ⟨hx, hb, hml, hown, hts, hK, hi, hSF, hNs, hfr, hlo, hce, hsl, hrt, hlk⟩ := F
  exact fun H locs la hP hS hl => lv_iload hx hb d (lv_at hl q hq) (kk H locs la hP hS hl)
theorem ob_lload_n (F : ob_Fx C cc nL own ret fr lo) {k : Fin 4} {x : Int64} (q : Nat) (d : decode cc pc = .ok (.lload_n k, 1)) (hq : ls[q]? = some ((k : Nat), .long x)) (kk : ob_Ev C (pc + 1) ls (.long x :: st) g) : ob_Ev C pc ls st g := by
  obtain ⟨p, l, e, R, s, m, args, below, meth, c, D, ad, ca, Q, ce, sl⟩ := C
  obtain ⟨hx, hb, hml, hown, hts, hK, hi, hSF, hNs, hfr, hlo, hce, hsl, hrt, hlk⟩ := F
  exact fun H locs la hP hS hl => lv_lload_n hx hb d rfl (lv_at hl q hq) (kk H locs la hP hS hl)
theorem ob_lload (F : ob_Fx C cc nL own ret fr lo) {i : Nat} {x : Int64} (q : Nat) (d : decode cc pc = .ok (.lload i, 2)) (hq : ls[q]? = some (i, .long x)) (kk : ob_Ev C (pc + 2) ls (.long x :: st) g) : ob_Ev C pc ls st g := by
  obtain ⟨p, l, e, R, s, m, args, below, meth, c, D, ad, ca, Q, ce, sl⟩ := C
  obtain ⟨hx, hb, hml, hown, hts, hK, hi, hSF, hNs, hfr, hlo, hce, hsl, hrt, hlk⟩ := F
  exact fun H locs la hP hS hl => lv_lload hx hb d (lv_at hl q hq) (kk H locs la hP hS hl)
theorem ob_aload_n (F : ob_Fx C cc nL own ret fr lo) {k : Fin 4} {x : Nat} (q : Nat) (d : decode cc pc = .ok (.aload_n k, 1)) (hq : ls[q]? = some ((k : Nat), .ref x)) (kk : ob_Ev C (pc + 1) ls (.ref x :: st) g) : ob_Ev C pc ls st g := by
  obtain ⟨p, l, e, R, s, m, args, below, meth, c, D, ad, ca, Q, ce, sl⟩ := C
  obtain ⟨hx, hb, hml, hown, hts, hK, hi, hSF, hNs, hfr, hlo, hce, hsl, hrt, hlk⟩ := F
  exact fun H locs la hP hS hl => lv_aload_n hx hb d rfl (lv_at hl q hq) (kk H locs la hP hS hl)
theorem ob_aload (F : ob_Fx C cc nL own ret fr lo) {i : Nat} {x : Nat} (q : Nat) (d : decode cc pc = .ok (.aload i, 2)) (hq : ls[q]? = some (i, .ref x)) (kk : ob_Ev C (pc + 2) ls (.ref x :: st) g) : ob_Ev C pc ls st g := by
  obtain ⟨p, l, e, R, s, m, args, below, meth, c, D, ad, ca, Q, ce, sl⟩ := C
  obtain ⟨hx, hb, hml, hown, hts, hK, hi, hSF, hNs, hfr, hlo, hce, hsl, hrt, hlk⟩ := F
  exact fun H locs la hP hS hl => lv_aload hx hb d (lv_at hl q hq) (kk H locs la hP hS hl)
theorem ob_rload_n (F : ob_Fx C cc nL own ret fr lo) {k : Fin 4} {n : Nat} (q : Nat) (d : decode cc pc = .ok (.aload_n k, 1)) (hq : ls[q]? = some ((k : Nat), ob_rv C n)) (kk : ob_Ev C (pc + 1) ls (ob_rv C n :: st) g) : ob_Ev C pc ls st g := by
  obtain ⟨p, l, e, R, s, m, args, below, meth, c, D, ad, ca, Q, ce, sl⟩ := C
  obtain ⟨hx, hb, hml, hown, hts, hK, hi, hSF, hNs, hfr, hlo, hce, hsl, hrt, hlk⟩ := F
  exact fun H locs la hP hS hl => lv_aload_n hx hb d rfl (lv_at hl q hq) (kk H locs la hP hS hl)
theorem ob_rload (F : ob_Fx C cc nL own ret fr lo) {k : Nat} {n : Nat} (q : Nat) (d : decode cc pc = .ok (.aload k, 2)) (hq : ls[q]? = some ((k : Nat), ob_rv C n)) (kk : ob_Ev C (pc + 2) ls (ob_rv C n :: st) g) : ob_Ev C pc ls st g := by
  obtain ⟨p, l, e, R, s, m, args, below, meth, c, D, ad, ca, Q, ce, sl⟩ := C
  obtain ⟨hx, hb, hml, hown, hts, hK, hi, hSF, hNs, hfr, hlo, hce, hsl, hrt, hlk⟩ := F
  exact fun H locs la hP hS hl => lv_aload hx hb d (lv_at hl q hq) (kk H locs la hP hS hl)
theorem ob_istore_n (F : ob_Fx C cc nL own ret fr lo) {i : Fin 4} {x : Int32} {ls2 : List (Nat × Value)} (d : decode cc pc = .ok (.istore_n i, 1)) (hn : (i : Nat) < nL) (he : ((i : Nat), .int x) :: ls.filter (fun q => !(q.1 == (i : Nat)) && !(q.1 + 1 == (i : Nat) && q.2.category == 2)) = ls2) (kk : ob_Ev C (pc + 1) ls2 st g) : ob_Ev C pc ls (.int x :: st) g := by
  obtain ⟨p, l, e, R, s, m, args, below, meth, c, D, ad, ca, Q, ce, sl⟩ := C
  obtain ⟨hx, hb, hml, hown, hts, hK, hi, hSF, hNs, hfr, hlo, hce, hsl, hrt, hlk⟩ := F
  subst hml
  exact fun H locs la hP hS hl => lv_istore_n hx hb d rfl hl hn he (fun la2 hl2 => kk H locs la2 hP hS hl2)
theorem ob_istore (F : ob_Fx C cc nL own ret fr lo) {i : Nat} {x : Int32} {ls2 : List (Nat × Value)} (d : decode cc pc = .ok (.istore i, 2)) (hn : (i : Nat) < nL) (he : ((i : Nat), .int x) :: ls.filter (fun q => !(q.1 == (i : Nat)) && !(q.1 + 1 == (i : Nat) && q.2.category == 2)) = ls2) (kk : ob_Ev C (pc + 2) ls2 st g) : ob_Ev C pc ls (.int x :: st) g := by
  obtain ⟨p, l, e, R, s, m, args, below, meth, c, D, ad, ca, Q, ce, sl⟩ := C
  obtain ⟨hx, hb, hml, hown, hts, hK, hi, hSF, hNs, hfr, hlo, hce, hsl, hrt, hlk⟩ := F
  subst hml
  exact fun H locs la hP hS hl => lv_istore hx hb d hl hn he (fun la2 hl2 => kk H locs la2 hP hS hl2)
theorem ob_lstore_n (F : ob_Fx C cc nL own ret fr lo) {i : Fin 4} {x : Int64} {ls2 : List (Nat × Value)} (d : decode cc pc = .ok (.lstore_n i, 1)) (hn : (i : Nat) + 1 < nL) (he : ((i : Nat), .long x) :: ls.filter (fun q => !(q.1 == (i : Nat)) && (!(q.1 == (i : Nat) + 1) && !(q.1 + 1 == (i : Nat) && q.2.category == 2))) = ls2) (kk : ob_Ev C (pc + 1) ls2 st g) : ob_Ev C pc ls (.long x :: st) g := by
  obtain ⟨p, l, e, R, s, m, args, below, meth, c, D, ad, ca, Q, ce, sl⟩ := C
  obtain ⟨hx, hb, hml, hown, hts, hK, hi, hSF, hNs, hfr, hlo, hce, hsl, hrt, hlk⟩ := F
  subst hml
  exact fun H locs la hP hS hl => lv_lstore_n hx hb d rfl hl hn he (fun la2 hl2 => kk H locs la2 hP hS hl2)
theorem ob_lstore (F : ob_Fx C cc nL own ret fr lo) {i : Nat} {x : Int64} {ls2 : List (Nat × Value)} (d : decode cc pc = .ok (.lstore i, 2)) (hn : (i : Nat) + 1 < nL) (he : ((i : Nat), .long x) :: ls.filter (fun q => !(q.1 == (i : Nat)) && (!(q.1 == (i : Nat) + 1) && !(q.1 + 1 == (i : Nat) && q.2.category == 2))) = ls2) (kk : ob_Ev C (pc + 2) ls2 st g) : ob_Ev C pc ls (.long x :: st) g := by
  obtain ⟨p, l, e, R, s, m, args, below, meth, c, D, ad, ca, Q, ce, sl⟩ := C
  obtain ⟨hx, hb, hml, hown, hts, hK, hi, hSF, hNs, hfr, hlo, hce, hsl, hrt, hlk⟩ := F
  subst hml
  exact fun H locs la hP hS hl => lv_lstore hx hb d hl hn he (fun la2 hl2 => kk H locs la2 hP hS hl2)
theorem ob_rstore_n (F : ob_Fx C cc nL own ret fr lo) {i : Fin 4} {x : Nat} {ls2 : List (Nat × Value)} (d : decode cc pc = .ok (.astore_n i, 1)) (hn : (i : Nat) < nL) (he : ((i : Nat), ob_rv C x) :: ls.filter (fun q => !(q.1 == (i : Nat)) && !(q.1 + 1 == (i : Nat) && q.2.category == 2)) = ls2) (kk : ob_Ev C (pc + 1) ls2 st g) : ob_Ev C pc ls (ob_rv C x :: st) g := by
  obtain ⟨p, l, e, R, s, m, args, below, meth, c, D, ad, ca, Q, ce, sl⟩ := C
  obtain ⟨hx, hb, hml, hown, hts, hK, hi, hSF, hNs, hfr, hlo, hce, hsl, hrt, hlk⟩ := F
  subst hml
  exact fun H locs la hP hS hl => lv_astore_n hx hb d rfl hl hn he (fun la2 hl2 => kk H locs la2 hP hS hl2)
theorem ob_rstore (F : ob_Fx C cc nL own ret fr lo) {i : Nat} {x : Nat} {ls2 : List (Nat × Value)} (d : decode cc pc = .ok (.astore i, 2)) (hn : (i : Nat) < nL) (he : ((i : Nat), ob_rv C x) :: ls.filter (fun q => !(q.1 == (i : Nat)) && !(q.1 + 1 == (i : Nat) && q.2.category == 2)) = ls2) (kk : ob_Ev C (pc + 2) ls2 st g) : ob_Ev C pc ls (ob_rv C x :: st) g := by
  obtain ⟨p, l, e, R, s, m, args, below, meth, c, D, ad, ca, Q, ce, sl⟩ := C
  obtain ⟨hx, hb, hml, hown, hts, hK, hi, hSF, hNs, hfr, hlo, hce, hsl, hrt, hlk⟩ := F
  subst hml
  exact fun H locs la hP hS hl => lv_astore hx hb d hl hn he (fun la2 hl2 => kk H locs la2 hP hS hl2)
theorem ob_iinc (F : ob_Fx C cc nL own ret fr lo) {i : Nat} {n : Int} {x v : Int32} {ls2 : List (Nat × Value)} (q : Nat) (d : decode cc pc = .ok (.iinc i n, 3)) (hq : ls[q]? = some (i, .int x)) (hv : x + Int32.ofInt n = v) (hn : i < nL) (he : (i, Value.int v) :: ls.filter (fun q => !(q.1 == (i : Nat)) && !(q.1 + 1 == (i : Nat) && q.2.category == 2)) = ls2) (kk : ob_Ev C (pc + 3) ls2 st g) : ob_Ev C pc ls st g := by
  obtain ⟨p, l, e, R, s, m, args, below, meth, c, D, ad, ca, Q, ce, sl⟩ := C
  obtain ⟨hx, hb, hml, hown, hts, hK, hi, hSF, hNs, hfr, hlo, hce, hsl, hrt, hlk⟩ := F
  subst hml
  exact fun H locs la hP hS hl => lv_iinc hx hb d hl hq hv hn he (fun la2 hl2 => kk H locs la2 hP hS hl2)
theorem ob_iadd (F : ob_Fx C cc nL own ret fr lo) {x y : Int32} (d : decode cc pc = .ok (.iadd, 1)) (k : ob_Ev C (pc + 1) ls (.int (x + y) :: st) g) : ob_Ev C pc ls (.int y :: .int x :: st) g := by
  obtain ⟨p, l, e, R, s, m, args, below, meth, c, D, ad, ca, Q, ce, sl⟩ := C
  obtain ⟨hx, hb, hml, hown, hts, hK, hi, hSF, hNs, hfr, hlo, hce, hsl, hrt, hlk⟩ := F
  exact fun H locs la hP hS hl => lv_iadd hx hb d (k H locs la hP hS hl)
theorem ob_isub (F : ob_Fx C cc nL own ret fr lo) {x y : Int32} (d : decode cc pc = .ok (.isub, 1)) (k : ob_Ev C (pc + 1) ls (.int (x - y) :: st) g) : ob_Ev C pc ls (.int y :: .int x :: st) g := by
  obtain ⟨p, l, e, R, s, m, args, below, meth, c, D, ad, ca, Q, ce, sl⟩ := C
  obtain ⟨hx, hb, hml, hown, hts, hK, hi, hSF, hNs, hfr, hlo, hce, hsl, hrt, hlk⟩ := F
  exact fun H locs la hP hS hl => lv_isub hx hb d (k H locs la hP hS hl)
theorem ob_imul (F : ob_Fx C cc nL own ret fr lo) {x y : Int32} (d : decode cc pc = .ok (.imul, 1)) (k : ob_Ev C (pc + 1) ls (.int (x * y) :: st) g) : ob_Ev C pc ls (.int y :: .int x :: st) g := by
  obtain ⟨p, l, e, R, s, m, args, below, meth, c, D, ad, ca, Q, ce, sl⟩ := C
  obtain ⟨hx, hb, hml, hown, hts, hK, hi, hSF, hNs, hfr, hlo, hce, hsl, hrt, hlk⟩ := F
  exact fun H locs la hP hS hl => lv_imul hx hb d (k H locs la hP hS hl)
theorem ob_iand (F : ob_Fx C cc nL own ret fr lo) {x y : Int32} (d : decode cc pc = .ok (.iand, 1)) (k : ob_Ev C (pc + 1) ls (.int (x &&& y) :: st) g) : ob_Ev C pc ls (.int y :: .int x :: st) g := by
  obtain ⟨p, l, e, R, s, m, args, below, meth, c, D, ad, ca, Q, ce, sl⟩ := C
  obtain ⟨hx, hb, hml, hown, hts, hK, hi, hSF, hNs, hfr, hlo, hce, hsl, hrt, hlk⟩ := F
  exact fun H locs la hP hS hl => lv_iand hx hb d (k H locs la hP hS hl)
theorem ob_ior (F : ob_Fx C cc nL own ret fr lo) {x y : Int32} (d : decode cc pc = .ok (.ior, 1)) (k : ob_Ev C (pc + 1) ls (.int (x ||| y) :: st) g) : ob_Ev C pc ls (.int y :: .int x :: st) g := by
  obtain ⟨p, l, e, R, s, m, args, below, meth, c, D, ad, ca, Q, ce, sl⟩ := C
  obtain ⟨hx, hb, hml, hown, hts, hK, hi, hSF, hNs, hfr, hlo, hce, hsl, hrt, hlk⟩ := F
  exact fun H locs la hP hS hl => lv_ior hx hb d (k H locs la hP hS hl)
theorem ob_ishl (F : ob_Fx C cc nL own ret fr lo) {x y : Int32} (d : decode cc pc = .ok (.ishl, 1)) (k : ob_Ev C (pc + 1) ls (.int (x <<< (y &&& 31)) :: st) g) : ob_Ev C pc ls (.int y :: .int x :: st) g := by
  obtain ⟨p, l, e, R, s, m, args, below, meth, c, D, ad, ca, Q, ce, sl⟩ := C
  obtain ⟨hx, hb, hml, hown, hts, hK, hi, hSF, hNs, hfr, hlo, hce, hsl, hrt, hlk⟩ := F
  exact fun H locs la hP hS hl => lv_ishl hx hb d (k H locs la hP hS hl)
theorem ob_ishr (F : ob_Fx C cc nL own ret fr lo) {x y : Int32} (d : decode cc pc = .ok (.ishr, 1)) (k : ob_Ev C (pc + 1) ls (.int (x >>> (y &&& 31)) :: st) g) : ob_Ev C pc ls (.int y :: .int x :: st) g := by
  obtain ⟨p, l, e, R, s, m, args, below, meth, c, D, ad, ca, Q, ce, sl⟩ := C
  obtain ⟨hx, hb, hml, hown, hts, hK, hi, hSF, hNs, hfr, hlo, hce, hsl, hrt, hlk⟩ := F
  exact fun H locs la hP hS hl => lv_ishr hx hb d (k H locs la hP hS hl)
theorem ob_ladd (F : ob_Fx C cc nL own ret fr lo) {x y : Int64} (d : decode cc pc = .ok (.ladd, 1)) (k : ob_Ev C (pc + 1) ls (.long (x + y) :: st) g) : ob_Ev C pc ls (.long y :: .long x :: st) g := by
  obtain ⟨p, l, e, R, s, m, args, below, meth, c, D, ad, ca, Q, ce, sl⟩ := C
  obtain ⟨hx, hb, hml, hown, hts, hK, hi, hSF, hNs, hfr, hlo, hce, hsl, hrt, hlk⟩ := F
  exact fun H locs la hP hS hl => lv_ladd hx hb d (k H locs la hP hS hl)
theorem ob_lsub (F : ob_Fx C cc nL own ret fr lo) {x y : Int64} (d : decode cc pc = .ok (.lsub, 1)) (k : ob_Ev C (pc + 1) ls (.long (x - y) :: st) g) : ob_Ev C pc ls (.long y :: .long x :: st) g := by
  obtain ⟨p, l, e, R, s, m, args, below, meth, c, D, ad, ca, Q, ce, sl⟩ := C
  obtain ⟨hx, hb, hml, hown, hts, hK, hi, hSF, hNs, hfr, hlo, hce, hsl, hrt, hlk⟩ := F
  exact fun H locs la hP hS hl => lv_lsub hx hb d (k H locs la hP hS hl)
theorem ob_lmul (F : ob_Fx C cc nL own ret fr lo) {x y : Int64} (d : decode cc pc = .ok (.lmul, 1)) (k : ob_Ev C (pc + 1) ls (.long (x * y) :: st) g) : ob_Ev C pc ls (.long y :: .long x :: st) g := by
  obtain ⟨p, l, e, R, s, m, args, below, meth, c, D, ad, ca, Q, ce, sl⟩ := C
  obtain ⟨hx, hb, hml, hown, hts, hK, hi, hSF, hNs, hfr, hlo, hce, hsl, hrt, hlk⟩ := F
  exact fun H locs la hP hS hl => lv_lmul hx hb d (k H locs la hP hS hl)
theorem ob_iushr (F : ob_Fx C cc nL own ret fr lo) {x y : Int32} (d : decode cc pc = .ok (.iushr, 1)) (k : ob_Ev C (pc + 1) ls (.int (x.toUInt32 >>> (y.toUInt32 &&& Int32.toUInt32 31)).toInt32 :: st) g) : ob_Ev C pc ls (.int y :: .int x :: st) g := by
  obtain ⟨p, l, e, R, s, m, args, below, meth, c, D, ad, ca, Q, ce, sl⟩ := C
  obtain ⟨hx, hb, hml, hown, hts, hK, hi, hSF, hNs, hfr, hlo, hce, hsl, hrt, hlk⟩ := F
  exact fun H locs la hP hS hl => lv_iushr hx hb d rfl (k H locs la hP hS hl)
theorem ob_ineg (F : ob_Fx C cc nL own ret fr lo) {x : Int32} (d : decode cc pc = .ok (.ineg, 1)) (k : ob_Ev C (pc + 1) ls (.int (-x) :: st) g) : ob_Ev C pc ls (.int x :: st) g := by
  obtain ⟨p, l, e, R, s, m, args, below, meth, c, D, ad, ca, Q, ce, sl⟩ := C
  obtain ⟨hx, hb, hml, hown, hts, hK, hi, hSF, hNs, hfr, hlo, hce, hsl, hrt, hlk⟩ := F
  exact fun H locs la hP hS hl => lv_ineg hx hb d (k H locs la hP hS hl)
theorem ob_lneg (F : ob_Fx C cc nL own ret fr lo) {x : Int64} (d : decode cc pc = .ok (.lneg, 1)) (k : ob_Ev C (pc + 1) ls (.long (-x) :: st) g) : ob_Ev C pc ls (.long x :: st) g := by
  obtain ⟨p, l, e, R, s, m, args, below, meth, c, D, ad, ca, Q, ce, sl⟩ := C
  obtain ⟨hx, hb, hml, hown, hts, hK, hi, hSF, hNs, hfr, hlo, hce, hsl, hrt, hlk⟩ := F
  exact fun H locs la hP hS hl => lv_lneg hx hb d (k H locs la hP hS hl)
theorem ob_i2l (F : ob_Fx C cc nL own ret fr lo) {x : Int32} (d : decode cc pc = .ok (.i2l, 1)) (k : ob_Ev C (pc + 1) ls (.long x.toInt64 :: st) g) : ob_Ev C pc ls (.int x :: st) g := by
  obtain ⟨p, l, e, R, s, m, args, below, meth, c, D, ad, ca, Q, ce, sl⟩ := C
  obtain ⟨hx, hb, hml, hown, hts, hK, hi, hSF, hNs, hfr, hlo, hce, hsl, hrt, hlk⟩ := F
  exact fun H locs la hP hS hl => lv_i2l hx hb d rfl (k H locs la hP hS hl)
theorem ob_l2i (F : ob_Fx C cc nL own ret fr lo) {x : Int64} (d : decode cc pc = .ok (.l2i, 1)) (k : ob_Ev C (pc + 1) ls (.int x.toInt32 :: st) g) : ob_Ev C pc ls (.long x :: st) g := by
  obtain ⟨p, l, e, R, s, m, args, below, meth, c, D, ad, ca, Q, ce, sl⟩ := C
  obtain ⟨hx, hb, hml, hown, hts, hK, hi, hSF, hNs, hfr, hlo, hce, hsl, hrt, hlk⟩ := F
  exact fun H locs la hP hS hl => lv_l2i hx hb d rfl (k H locs la hP hS hl)
theorem ob_i2b (F : ob_Fx C cc nL own ret fr lo) {x : Int32} (d : decode cc pc = .ok (.i2b, 1)) (k : ob_Ev C (pc + 1) ls (.int x.toInt8.toInt32 :: st) g) : ob_Ev C pc ls (.int x :: st) g := by
  obtain ⟨p, l, e, R, s, m, args, below, meth, c, D, ad, ca, Q, ce, sl⟩ := C
  obtain ⟨hx, hb, hml, hown, hts, hK, hi, hSF, hNs, hfr, hlo, hce, hsl, hrt, hlk⟩ := F
  exact fun H locs la hP hS hl => lv_i2b hx hb d rfl (k H locs la hP hS hl)
theorem ob_dup (F : ob_Fx C cc nL own ret fr lo) {v : Value} (d : decode cc pc = .ok (.dup, 1)) (hc : v.category = 1) (k : ob_Ev C (pc + 1) ls (v :: v :: st) g) : ob_Ev C pc ls (v :: st) g := by
  obtain ⟨p, l, e, R, s, m, args, below, meth, c, D, ad, ca, Q, ce, sl⟩ := C
  obtain ⟨hx, hb, hml, hown, hts, hK, hi, hSF, hNs, hfr, hlo, hce, hsl, hrt, hlk⟩ := F
  exact fun H locs la hP hS hl => lv_dup hx hb d hc (k H locs la hP hS hl)
theorem ob_dup2 (F : ob_Fx C cc nL own ret fr lo) {v w : Value} (d : decode cc pc = .ok (.dup2, 1)) (hc : v.category = 1) (hc2 : w.category = 1) (k : ob_Ev C (pc + 1) ls (v :: w :: v :: w :: st) g) : ob_Ev C pc ls (v :: w :: st) g := by
  obtain ⟨p, l, e, R, s, m, args, below, meth, c, D, ad, ca, Q, ce, sl⟩ := C
  obtain ⟨hx, hb, hml, hown, hts, hK, hi, hSF, hNs, hfr, hlo, hce, hsl, hrt, hlk⟩ := F
  exact fun H locs la hP hS hl => lv_dup2_11 hx hb d hc hc2 (k H locs la hP hS hl)
theorem ob_idiv (F : ob_Fx C cc nL own ret fr lo) {x y : Int32} {f : Int32 → Option α} (d : decode cc pc = .ok (.idiv, 1)) (h : (ob_dv x y).bind f = some r) (k : ∀ v, f v = some r → ob_Ev C (pc + 1) ls (.int v :: st) g) : ob_Ev C pc ls (.int y :: .int x :: st) g := by
  obtain ⟨p, l, e, R, s, m, args, below, meth, c, D, ad, ca, Q, ce, sl⟩ := C
  obtain ⟨hx, hb, hml, hown, hts, hK, hi, hSF, hNs, hfr, hlo, hce, hsl, hrt, hlk⟩ := F
  unfold ob_dv at h
  by_cases hy : y = 0
  · rw [if_pos hy] at h; cases h
  rw [if_neg hy] at h
  exact fun H locs la hP hS hl => lv_idiv hx hb d hy (k _ h H locs la hP hS hl)
theorem ob_ldiv (F : ob_Fx C cc nL own ret fr lo) {x y : Int64} {f : Int64 → Option α} (d : decode cc pc = .ok (.ldiv, 1)) (h : (ob_dvL x y).bind f = some r) (k : ∀ v, f v = some r → ob_Ev C (pc + 1) ls (.long v :: st) g) : ob_Ev C pc ls (.long y :: .long x :: st) g := by
  obtain ⟨p, l, e, R, s, m, args, below, meth, c, D, ad, ca, Q, ce, sl⟩ := C
  obtain ⟨hx, hb, hml, hown, hts, hK, hi, hSF, hNs, hfr, hlo, hce, hsl, hrt, hlk⟩ := F
  unfold ob_dvL at h
  by_cases hy : y = 0
  · rw [if_pos hy] at h; cases h
  rw [if_neg hy] at h
  exact fun H locs la hP hS hl => lv_ldiv hx hb d hy (k _ h H locs la hP hS hl)
theorem ob_lrem (F : ob_Fx C cc nL own ret fr lo) {x y : Int64} {f : Int64 → Option α} (d : decode cc pc = .ok (.lrem, 1)) (h : (ob_rmL x y).bind f = some r) (k : ∀ v, f v = some r → ob_Ev C (pc + 1) ls (.long v :: st) g) : ob_Ev C pc ls (.long y :: .long x :: st) g := by
  obtain ⟨p, l, e, R, s, m, args, below, meth, c, D, ad, ca, Q, ce, sl⟩ := C
  obtain ⟨hx, hb, hml, hown, hts, hK, hi, hSF, hNs, hfr, hlo, hce, hsl, hrt, hlk⟩ := F
  unfold ob_rmL at h
  by_cases hy : y = 0
  · rw [if_pos hy] at h; cases h
  rw [if_neg hy] at h
  exact fun H locs la hP hS hl => lv_lrem hx hb d hy (k _ h H locs la hP hS hl)
theorem ob_if_eq (F : ob_Fx C cc nL own ret fr lo) {x : Int32} {off : Int} {X Y : Option α} (tgt : Nat) (d : decode cc pc = .ok (.ifCond .eq off, 3)) (ht : (pc : Int) + off = (tgt : Int)) (h : (if x = 0 then X else Y) = some r) (kt : X = some r → ob_Ev C tgt ls st g) (kf : Y = some r → ob_Ev C (pc + 3) ls st g) : ob_Ev C pc ls (.int x :: st) g := by
  obtain ⟨p, l, e, R, s, m, args, below, meth, c, D, ad, ca, Q, ce, sl⟩ := C
  obtain ⟨hx, hb, hml, hown, hts, hK, hi, hSF, hNs, hfr, hlo, hce, hsl, hrt, hlk⟩ := F
  exact fun H locs la hP hS hl => lv_if_eq hx hb d ht (fun q => kt (by rw [if_pos q] at h; exact h) H locs la hP hS hl) (fun q => kf (by rw [if_neg q] at h; exact h) H locs la hP hS hl)
theorem ob_if_lt (F : ob_Fx C cc nL own ret fr lo) {x : Int32} {off : Int} {X Y : Option α} (tgt : Nat) (d : decode cc pc = .ok (.ifCond .lt off, 3)) (ht : (pc : Int) + off = (tgt : Int)) (h : (if x < 0 then X else Y) = some r) (kt : X = some r → ob_Ev C tgt ls st g) (kf : Y = some r → ob_Ev C (pc + 3) ls st g) : ob_Ev C pc ls (.int x :: st) g := by
  obtain ⟨p, l, e, R, s, m, args, below, meth, c, D, ad, ca, Q, ce, sl⟩ := C
  obtain ⟨hx, hb, hml, hown, hts, hK, hi, hSF, hNs, hfr, hlo, hce, hsl, hrt, hlk⟩ := F
  exact fun H locs la hP hS hl => lv_if_lt hx hb d ht (fun q => kt (by rw [if_pos q] at h; exact h) H locs la hP hS hl) (fun q => kf (by rw [if_neg q] at h; exact h) H locs la hP hS hl)
theorem ob_if_ge (F : ob_Fx C cc nL own ret fr lo) {x : Int32} {off : Int} {X Y : Option α} (tgt : Nat) (d : decode cc pc = .ok (.ifCond .ge off, 3)) (ht : (pc : Int) + off = (tgt : Int)) (h : (if 0 ≤ x then X else Y) = some r) (kt : X = some r → ob_Ev C tgt ls st g) (kf : Y = some r → ob_Ev C (pc + 3) ls st g) : ob_Ev C pc ls (.int x :: st) g := by
  obtain ⟨p, l, e, R, s, m, args, below, meth, c, D, ad, ca, Q, ce, sl⟩ := C
  obtain ⟨hx, hb, hml, hown, hts, hK, hi, hSF, hNs, hfr, hlo, hce, hsl, hrt, hlk⟩ := F
  exact fun H locs la hP hS hl => lv_if_ge hx hb d ht (fun q => kt (by rw [if_pos q] at h; exact h) H locs la hP hS hl) (fun q => kf (by rw [if_neg q] at h; exact h) H locs la hP hS hl)
theorem ob_if_gt (F : ob_Fx C cc nL own ret fr lo) {x : Int32} {off : Int} {X Y : Option α} (tgt : Nat) (d : decode cc pc = .ok (.ifCond .gt off, 3)) (ht : (pc : Int) + off = (tgt : Int)) (h : (if 0 < x then X else Y) = some r) (kt : X = some r → ob_Ev C tgt ls st g) (kf : Y = some r → ob_Ev C (pc + 3) ls st g) : ob_Ev C pc ls (.int x :: st) g := by
  obtain ⟨p, l, e, R, s, m, args, below, meth, c, D, ad, ca, Q, ce, sl⟩ := C
  obtain ⟨hx, hb, hml, hown, hts, hK, hi, hSF, hNs, hfr, hlo, hce, hsl, hrt, hlk⟩ := F
  exact fun H locs la hP hS hl => lv_if_gt hx hb d ht (fun q => kt (by rw [if_pos q] at h; exact h) H locs la hP hS hl) (fun q => kf (by rw [if_neg q] at h; exact h) H locs la hP hS hl)
theorem ob_if_le (F : ob_Fx C cc nL own ret fr lo) {x : Int32} {off : Int} {X Y : Option α} (tgt : Nat) (d : decode cc pc = .ok (.ifCond .le off, 3)) (ht : (pc : Int) + off = (tgt : Int)) (h : (if x ≤ 0 then X else Y) = some r) (kt : X = some r → ob_Ev C tgt ls st g) (kf : Y = some r → ob_Ev C (pc + 3) ls st g) : ob_Ev C pc ls (.int x :: st) g := by
  obtain ⟨p, l, e, R, s, m, args, below, meth, c, D, ad, ca, Q, ce, sl⟩ := C
  obtain ⟨hx, hb, hml, hown, hts, hK, hi, hSF, hNs, hfr, hlo, hce, hsl, hrt, hlk⟩ := F
  exact fun H locs la hP hS hl => lv_if_le hx hb d ht (fun q => kt (by rw [if_pos q] at h; exact h) H locs la hP hS hl) (fun q => kf (by rw [if_neg q] at h; exact h) H locs la hP hS hl)
theorem ob_if_ne (F : ob_Fx C cc nL own ret fr lo) {x : Int32} {off : Int} {X Y : Option α} (tgt : Nat) (d : decode cc pc = .ok (.ifCond .ne off, 3)) (ht : (pc : Int) + off = (tgt : Int)) (h : (if x = 0 then Y else X) = some r) (kt : X = some r → ob_Ev C tgt ls st g) (kf : Y = some r → ob_Ev C (pc + 3) ls st g) : ob_Ev C pc ls (.int x :: st) g := by
  obtain ⟨p, l, e, R, s, m, args, below, meth, c, D, ad, ca, Q, ce, sl⟩ := C
  obtain ⟨hx, hb, hml, hown, hts, hK, hi, hSF, hNs, hfr, hlo, hce, hsl, hrt, hlk⟩ := F
  exact fun H locs la hP hS hl => lv_if_ne hx hb d ht (fun q => kt (by rw [if_neg q] at h; exact h) H locs la hP hS hl) (fun q => kf (by rw [if_pos q] at h; exact h) H locs la hP hS hl)
theorem ob_icmp_eq (F : ob_Fx C cc nL own ret fr lo) {x y : Int32} {off : Int} {X Y : Option α} (tgt : Nat) (d : decode cc pc = .ok (.if_icmp .eq off, 3)) (ht : (pc : Int) + off = (tgt : Int)) (h : (if x = y then X else Y) = some r) (kt : X = some r → ob_Ev C tgt ls st g) (kf : Y = some r → ob_Ev C (pc + 3) ls st g) : ob_Ev C pc ls (.int y :: .int x :: st) g := by
  obtain ⟨p, l, e, R, s, m, args, below, meth, c, D, ad, ca, Q, ce, sl⟩ := C
  obtain ⟨hx, hb, hml, hown, hts, hK, hi, hSF, hNs, hfr, hlo, hce, hsl, hrt, hlk⟩ := F
  exact fun H locs la hP hS hl => lv_icmp_eq hx hb d ht (fun q => kt (by rw [if_pos q] at h; exact h) H locs la hP hS hl) (fun q => kf (by rw [if_neg q] at h; exact h) H locs la hP hS hl)
theorem ob_icmp_lt (F : ob_Fx C cc nL own ret fr lo) {x y : Int32} {off : Int} {X Y : Option α} (tgt : Nat) (d : decode cc pc = .ok (.if_icmp .lt off, 3)) (ht : (pc : Int) + off = (tgt : Int)) (h : (if x < y then X else Y) = some r) (kt : X = some r → ob_Ev C tgt ls st g) (kf : Y = some r → ob_Ev C (pc + 3) ls st g) : ob_Ev C pc ls (.int y :: .int x :: st) g := by
  obtain ⟨p, l, e, R, s, m, args, below, meth, c, D, ad, ca, Q, ce, sl⟩ := C
  obtain ⟨hx, hb, hml, hown, hts, hK, hi, hSF, hNs, hfr, hlo, hce, hsl, hrt, hlk⟩ := F
  exact fun H locs la hP hS hl => lv_icmp_lt hx hb d ht (fun q => kt (by rw [if_pos q] at h; exact h) H locs la hP hS hl) (fun q => kf (by rw [if_neg q] at h; exact h) H locs la hP hS hl)
theorem ob_icmp_ge (F : ob_Fx C cc nL own ret fr lo) {x y : Int32} {off : Int} {X Y : Option α} (tgt : Nat) (d : decode cc pc = .ok (.if_icmp .ge off, 3)) (ht : (pc : Int) + off = (tgt : Int)) (h : (if y ≤ x then X else Y) = some r) (kt : X = some r → ob_Ev C tgt ls st g) (kf : Y = some r → ob_Ev C (pc + 3) ls st g) : ob_Ev C pc ls (.int y :: .int x :: st) g := by
  obtain ⟨p, l, e, R, s, m, args, below, meth, c, D, ad, ca, Q, ce, sl⟩ := C
  obtain ⟨hx, hb, hml, hown, hts, hK, hi, hSF, hNs, hfr, hlo, hce, hsl, hrt, hlk⟩ := F
  exact fun H locs la hP hS hl => lv_icmp_ge hx hb d ht (fun q => kt (by rw [if_pos q] at h; exact h) H locs la hP hS hl) (fun q => kf (by rw [if_neg q] at h; exact h) H locs la hP hS hl)
theorem ob_icmp_gt (F : ob_Fx C cc nL own ret fr lo) {x y : Int32} {off : Int} {X Y : Option α} (tgt : Nat) (d : decode cc pc = .ok (.if_icmp .gt off, 3)) (ht : (pc : Int) + off = (tgt : Int)) (h : (if y < x then X else Y) = some r) (kt : X = some r → ob_Ev C tgt ls st g) (kf : Y = some r → ob_Ev C (pc + 3) ls st g) : ob_Ev C pc ls (.int y :: .int x :: st) g := by
  obtain ⟨p, l, e, R, s, m, args, below, meth, c, D, ad, ca, Q, ce, sl⟩ := C
  obtain ⟨hx, hb, hml, hown, hts, hK, hi, hSF, hNs, hfr, hlo, hce, hsl, hrt, hlk⟩ := F
  exact fun H locs la hP hS hl => lv_icmp_gt hx hb d ht (fun q => kt (by rw [if_pos q] at h; exact h) H locs la hP hS hl) (fun q => kf (by rw [if_neg q] at h; exact h) H locs la hP hS hl)
theorem ob_icmp_le (F : ob_Fx C cc nL own ret fr lo) {x y : Int32} {off : Int} {X Y : Option α} (tgt : Nat) (d : decode cc pc = .ok (.if_icmp .le off, 3)) (ht : (pc : Int) + off = (tgt : Int)) (h : (if x ≤ y then X else Y) = some r) (kt : X = some r → ob_Ev C tgt ls st g) (kf : Y = some r → ob_Ev C (pc + 3) ls st g) : ob_Ev C pc ls (.int y :: .int x :: st) g := by
  obtain ⟨p, l, e, R, s, m, args, below, meth, c, D, ad, ca, Q, ce, sl⟩ := C
  obtain ⟨hx, hb, hml, hown, hts, hK, hi, hSF, hNs, hfr, hlo, hce, hsl, hrt, hlk⟩ := F
  exact fun H locs la hP hS hl => lv_icmp_le hx hb d ht (fun q => kt (by rw [if_pos q] at h; exact h) H locs la hP hS hl) (fun q => kf (by rw [if_neg q] at h; exact h) H locs la hP hS hl)
theorem ob_icmp_ne (F : ob_Fx C cc nL own ret fr lo) {x y : Int32} {off : Int} {X Y : Option α} (tgt : Nat) (d : decode cc pc = .ok (.if_icmp .ne off, 3)) (ht : (pc : Int) + off = (tgt : Int)) (h : (if x = y then Y else X) = some r) (kt : X = some r → ob_Ev C tgt ls st g) (kf : Y = some r → ob_Ev C (pc + 3) ls st g) : ob_Ev C pc ls (.int y :: .int x :: st) g := by
  obtain ⟨p, l, e, R, s, m, args, below, meth, c, D, ad, ca, Q, ce, sl⟩ := C
  obtain ⟨hx, hb, hml, hown, hts, hK, hi, hSF, hNs, hfr, hlo, hce, hsl, hrt, hlk⟩ := F
  exact fun H locs la hP hS hl => lv_icmp_ne hx hb d ht (fun q => kt (by rw [if_neg q] at h; exact h) H locs la hP hS hl) (fun q => kf (by rw [if_pos q] at h; exact h) H locs la hP hS hl)
theorem ob_lcmp_eq (F : ob_Fx C cc nL own ret fr lo) {x y : Int64} {off : Int} {X Y : Option α} (tgt : Nat) (d : decode cc pc = .ok (.lcmp, 1)) (d2 : decode cc (pc + 1) = .ok (.ifCond .eq off, 3)) (ht : ((pc + 1 : Nat) : Int) + off = (tgt : Int)) (h : (if x = y then X else Y) = some r) (kt : X = some r → ob_Ev C tgt ls st g) (kf : Y = some r → ob_Ev C (pc + 4) ls st g) : ob_Ev C pc ls (.long y :: .long x :: st) g := by
  obtain ⟨p, l, e, R, s, m, args, below, meth, c, D, ad, ca, Q, ce, sl⟩ := C
  obtain ⟨hx, hb, hml, hown, hts, hK, hi, hSF, hNs, hfr, hlo, hce, hsl, hrt, hlk⟩ := F
  exact fun H locs la hP hS hl => W.lcmp hx hb d (lv_if_eq hx hb d2 ht (fun q => kt (by rw [if_pos ((lg_cmp_eq x y).mp q)] at h; exact h) H locs la hP hS hl) (fun q => kf (by rw [if_neg (fun z => q ((lg_cmp_eq x y).mpr z))] at h; exact h) H locs la hP hS hl))
theorem ob_lcmp_lt (F : ob_Fx C cc nL own ret fr lo) {x y : Int64} {off : Int} {X Y : Option α} (tgt : Nat) (d : decode cc pc = .ok (.lcmp, 1)) (d2 : decode cc (pc + 1) = .ok (.ifCond .lt off, 3)) (ht : ((pc + 1 : Nat) : Int) + off = (tgt : Int)) (h : (if x < y then X else Y) = some r) (kt : X = some r → ob_Ev C tgt ls st g) (kf : Y = some r → ob_Ev C (pc + 4) ls st g) : ob_Ev C pc ls (.long y :: .long x :: st) g := by
  obtain ⟨p, l, e, R, s, m, args, below, meth, c, D, ad, ca, Q, ce, sl⟩ := C
  obtain ⟨hx, hb, hml, hown, hts, hK, hi, hSF, hNs, hfr, hlo, hce, hsl, hrt, hlk⟩ := F
  exact fun H locs la hP hS hl => W.lcmp hx hb d (lv_if_lt hx hb d2 ht (fun q => kt (by rw [if_pos ((lg_cmp_lt x y).mp q)] at h; exact h) H locs la hP hS hl) (fun q => kf (by rw [if_neg (fun z => q ((lg_cmp_lt x y).mpr z))] at h; exact h) H locs la hP hS hl))
theorem ob_lcmp_ge (F : ob_Fx C cc nL own ret fr lo) {x y : Int64} {off : Int} {X Y : Option α} (tgt : Nat) (d : decode cc pc = .ok (.lcmp, 1)) (d2 : decode cc (pc + 1) = .ok (.ifCond .ge off, 3)) (ht : ((pc + 1 : Nat) : Int) + off = (tgt : Int)) (h : (if y ≤ x then X else Y) = some r) (kt : X = some r → ob_Ev C tgt ls st g) (kf : Y = some r → ob_Ev C (pc + 4) ls st g) : ob_Ev C pc ls (.long y :: .long x :: st) g := by
  obtain ⟨p, l, e, R, s, m, args, below, meth, c, D, ad, ca, Q, ce, sl⟩ := C
  obtain ⟨hx, hb, hml, hown, hts, hK, hi, hSF, hNs, hfr, hlo, hce, hsl, hrt, hlk⟩ := F
  exact fun H locs la hP hS hl => W.lcmp hx hb d (lv_if_ge hx hb d2 ht (fun q => kt (by rw [if_pos ((lg_cmp_ge x y).mp q)] at h; exact h) H locs la hP hS hl) (fun q => kf (by rw [if_neg (fun z => q ((lg_cmp_ge x y).mpr z))] at h; exact h) H locs la hP hS hl))
theorem ob_lcmp_gt (F : ob_Fx C cc nL own ret fr lo) {x y : Int64} {off : Int} {X Y : Option α} (tgt : Nat) (d : decode cc pc = .ok (.lcmp, 1)) (d2 : decode cc (pc + 1) = .ok (.ifCond .gt off, 3)) (ht : ((pc + 1 : Nat) : Int) + off = (tgt : Int)) (h : (if y < x then X else Y) = some r) (kt : X = some r → ob_Ev C tgt ls st g) (kf : Y = some r → ob_Ev C (pc + 4) ls st g) : ob_Ev C pc ls (.long y :: .long x :: st) g := by
  obtain ⟨p, l, e, R, s, m, args, below, meth, c, D, ad, ca, Q, ce, sl⟩ := C
  obtain ⟨hx, hb, hml, hown, hts, hK, hi, hSF, hNs, hfr, hlo, hce, hsl, hrt, hlk⟩ := F
  exact fun H locs la hP hS hl => W.lcmp hx hb d (lv_if_gt hx hb d2 ht (fun q => kt (by rw [if_pos ((lg_cmp_gt x y).mp q)] at h; exact h) H locs la hP hS hl) (fun q => kf (by rw [if_neg (fun z => q ((lg_cmp_gt x y).mpr z))] at h; exact h) H locs la hP hS hl))
theorem ob_lcmp_le (F : ob_Fx C cc nL own ret fr lo) {x y : Int64} {off : Int} {X Y : Option α} (tgt : Nat) (d : decode cc pc = .ok (.lcmp, 1)) (d2 : decode cc (pc + 1) = .ok (.ifCond .le off, 3)) (ht : ((pc + 1 : Nat) : Int) + off = (tgt : Int)) (h : (if x ≤ y then X else Y) = some r) (kt : X = some r → ob_Ev C tgt ls st g) (kf : Y = some r → ob_Ev C (pc + 4) ls st g) : ob_Ev C pc ls (.long y :: .long x :: st) g := by
  obtain ⟨p, l, e, R, s, m, args, below, meth, c, D, ad, ca, Q, ce, sl⟩ := C
  obtain ⟨hx, hb, hml, hown, hts, hK, hi, hSF, hNs, hfr, hlo, hce, hsl, hrt, hlk⟩ := F
  exact fun H locs la hP hS hl => W.lcmp hx hb d (lv_if_le hx hb d2 ht (fun q => kt (by rw [if_pos ((lg_cmp_le x y).mp q)] at h; exact h) H locs la hP hS hl) (fun q => kf (by rw [if_neg (fun z => q ((lg_cmp_le x y).mpr z))] at h; exact h) H locs la hP hS hl))
theorem ob_lcmp_ne (F : ob_Fx C cc nL own ret fr lo) {x y : Int64} {off : Int} {X Y : Option α} (tgt : Nat) (d : decode cc pc = .ok (.lcmp, 1)) (d2 : decode cc (pc + 1) = .ok (.ifCond .ne off, 3)) (ht : ((pc + 1 : Nat) : Int) + off = (tgt : Int)) (h : (if x = y then Y else X) = some r) (kt : X = some r → ob_Ev C tgt ls st g) (kf : Y = some r → ob_Ev C (pc + 4) ls st g) : ob_Ev C pc ls (.long y :: .long x :: st) g := by
  obtain ⟨p, l, e, R, s, m, args, below, meth, c, D, ad, ca, Q, ce, sl⟩ := C
  obtain ⟨hx, hb, hml, hown, hts, hK, hi, hSF, hNs, hfr, hlo, hce, hsl, hrt, hlk⟩ := F
  exact fun H locs la hP hS hl => W.lcmp hx hb d (lv_if_ne hx hb d2 ht (fun q => kt (by rw [if_neg (fun z => q ((lg_cmp_eq x y).mpr z))] at h; exact h) H locs la hP hS hl) (fun q => kf (by rw [if_pos ((lg_cmp_eq x y).mp q)] at h; exact h) H locs la hP hS hl))
theorem ob_goto (F : ob_Fx C cc nL own ret fr lo) {off : Int} (tgt : Nat) (d : decode cc pc = .ok (.goto off, 3)) (ht : (pc : Int) + off = (tgt : Int)) (k : ob_Ev C tgt ls st g) : ob_Ev C pc ls st g := by
  obtain ⟨p, l, e, R, s, m, args, below, meth, c, D, ad, ca, Q, ce, sl⟩ := C
  obtain ⟨hx, hb, hml, hown, hts, hK, hi, hSF, hNs, hfr, hlo, hce, hsl, hrt, hlk⟩ := F
  exact fun H locs la hP hS hl => lv_goto hx hb d ht (k H locs la hP hS hl)
theorem ob_tsi (F : ob_Fx C cc nL own ret fr lo) {dflt lo1 hi1 : Int} {offs : Array Int} {len : Nat} {off : Int} {x : Int32} (v : Int32) (tgt : Nat) (d : decode cc pc = .ok (.tableswitch dflt lo1 hi1 offs, len)) (hv : x = v) (h1 : ¬ v.toInt < lo1) (h2 : ¬ hi1 < v.toInt) (ho : offs[(v.toInt - lo1).toNat]? = some off) (ht : (pc : Int) + off = (tgt : Int)) (k : ob_Ev C tgt ls st g) : ob_Ev C pc ls (.int x :: st) g := by
  obtain ⟨p, l, e, R, s, m, args, below, meth, c, D, ad, ca, Q, ce, sl⟩ := C
  obtain ⟨hx, hb, hml, hown, hts, hK, hi, hSF, hNs, hfr, hlo, hce, hsl, hrt, hlk⟩ := F
  subst hv
  exact fun H locs la hP hS hl => lv_tableIn hx hb d h1 h2 ho ht (k H locs la hP hS hl)
theorem ob_tso (F : ob_Fx C cc nL own ret fr lo) {dflt lo1 hi1 : Int} {offs : Array Int} {len : Nat} {x : Int32} (tgt : Nat) (d : decode cc pc = .ok (.tableswitch dflt lo1 hi1 offs, len)) (h1 : x.toInt < lo1 ∨ hi1 < x.toInt) (ht : (pc : Int) + dflt = (tgt : Int)) (k : ob_Ev C tgt ls st g) : ob_Ev C pc ls (.int x :: st) g := by
  obtain ⟨p, l, e, R, s, m, args, below, meth, c, D, ad, ca, Q, ce, sl⟩ := C
  obtain ⟨hx, hb, hml, hown, hts, hK, hi, hSF, hNs, hfr, hlo, hce, hsl, hrt, hlk⟩ := F
  exact fun H locs la hP hS hl => lv_tableOut hx hb d h1 ht (k H locs la hP hS hl)
theorem ob_sub (ks : List Nat) {ls2 : List (Nat × Value)} (he : ks.filterMap (fun k => ls[k]?) = ls2) (k : ob_Ev C pc ls2 st g) : ob_Ev C pc ls st g := by
  obtain ⟨p, l, e, R, s, m, args, below, meth, c, D, ad, ca, Q, ce, sl⟩ := C
  exact fun H locs la hP hS hl => k H locs la hP hS (lv_sub hl ks he)
theorem ob_vret (F : ob_Fx C cc nL own ret fr lo) (d : decode cc pc = .ok (.return_, 1)) (k : ob_Rt C none g) : ob_Ev C pc ls [] g := by
  obtain ⟨p, l, e, R, s, m, args, below, meth, c, D, ad, ca, Q, ce, sl⟩ := C
  obtain ⟨hx, hb, hml, hown, hts, hK, hi, hSF, hNs, hfr, hlo, hce, hsl, hrt, hlk⟩ := F
  subst hb
  exact fun H locs la hP hS hl => k H locs pc la hP hS d
theorem ob_iret {x : Int32} (F : ob_Fx C cc nL own (some .int) fr lo) (d : decode cc pc = .ok (.ireturn, 1)) (k : ob_Rt C (some (.int x)) g) : ob_Ev C pc ls [.int x] g := by
  obtain ⟨p, l, e, R, s, m, args, below, meth, c, D, ad, ca, Q, ce, sl⟩ := C
  obtain ⟨hx, hb, hml, hown, hts, hK, hi, hSF, hNs, hfr, hlo, hce, hsl, hrt, hlk⟩ := F
  subst hb
  exact fun H locs la hP hS hl => k H locs pc la hP hS (fun ty h => by rw [hrt] at h; cases h; rfl) d
theorem ob_zret {x : Int32} (F : ob_Fx C cc nL own (some .boolean) fr lo) (d : decode cc pc = .ok (.ireturn, 1)) (hz : x = 0 ∨ x = 1) (k : ob_Rt C (some (.int x)) g) : ob_Ev C pc ls [.int x] g := by
  obtain ⟨p, l, e, R, s, m, args, below, meth, c, D, ad, ca, Q, ce, sl⟩ := C
  obtain ⟨hx, hb, hml, hown, hts, hK, hi, hSF, hNs, hfr, hlo, hce, hsl, hrt, hlk⟩ := F
  subst hb
  exact fun H locs la hP hS hl => k H locs pc la hP hS (fun ty h => by rw [hrt] at h; cases h; rcases hz with rfl | rfl <;> decide) d
theorem ob_lret {x : Int64} (F : ob_Fx C cc nL own ret fr lo) (d : decode cc pc = .ok (.lreturn, 1)) (k : ob_Rt C (some (.long x)) g) : ob_Ev C pc ls [.long x] g := by
  obtain ⟨p, l, e, R, s, m, args, below, meth, c, D, ad, ca, Q, ce, sl⟩ := C
  obtain ⟨hx, hb, hml, hown, hts, hK, hi, hSF, hNs, hfr, hlo, hce, hsl, hrt, hlk⟩ := F
  subst hb
  exact fun H locs la hP hS hl => k H locs pc la hP hS d
theorem ob_aret {n : Nat} (F : ob_Fx C cc nL own ret fr lo) (d : decode cc pc = .ok (.areturn, 1)) (k : ob_Rt C (some (ob_rv C n)) g) : ob_Ev C pc ls [ob_rv C n] g := by
  obtain ⟨p, l, e, R, s, m, args, below, meth, c, D, ad, ca, Q, ce, sl⟩ := C
  obtain ⟨hx, hb, hml, hown, hts, hK, hi, hSF, hNs, hfr, hlo, hce, hsl, hrt, hlk⟩ := F
  subst hb
  exact fun H locs la hP hS hl => k H locs pc la hP hS d
/-! fields -/
def ob_Fl (own : String) (idx K k : Nat) (b : Bool) (Cn : String) (T : u_T) (N : Nat) : Prop := vwCl[K]? = some (Cn, T, N) ∧ k < N ∧ (∀ w ∈ u_ws Cn T N, w ∈ ob_GT) ∧ Cond.fieldLink own idx (T k).1 (T k).2.1 (T k).2.2.1 ∈ ob_GT ∧ (ob_mask K)[k]? = some b ∧ K < 13
def ob_Fp (own : String) (idx K k : Nat) (ty : FieldType) (Cn : String) (T : u_T) (N : Nat) (ty0 : Nat → FieldType) : Prop := ob_Fl own idx K k false Cn T N ∧ (∀ k, k < N → parseFieldDescriptor (T k).2.2.1 = some (ty0 k)) ∧ (∀ a, a < N → ∀ b, b < N → a ≠ b → (T a).2.1 ≠ (T b).2.1) ∧ (T k).2.2.2 = false ∧ parseFieldDescriptor (T k).2.2.1 = some ty
theorem ob_getI {K n k idx N : Nat} {Cn : String} {T : u_T} {f : Int32 → Option α} (F : ob_Fx C cc nL own ret fr lo) (d : decode cc pc = .ok (.getfield idx, 3)) (fl : ob_Fl own idx K k false Cn T N) (h : (ob_gI g K n k).bind f = some r) (kk : ∀ v, f v = some r → ob_Ev C (pc + 3) ls (.int v :: st) g) : ob_Ev C pc ls (ob_rv C n :: st) g := by
  obtain ⟨p, l, e, R, s, m, args, below, meth, c, D, ad, ca, Q, ce, sl⟩ := C
  obtain ⟨hx, hb, hml, hown, hts, hK, hi, hSF, hNs, hfr, hlo, hce, hsl, hrt, hlk⟩ := F
  obtain ⟨f1, f2, f3, f4, f5, f6⟩ := fl
  intro H locs la hP hS hl
  unfold ob_gI at h
  by_cases q : ob_kd n = K
  · rw [if_pos q] at h
    exact va_get (ci := K) hx hb hts f3 hown hK hP n (ob_at_obj q f6) f1 k f2 (hts _ f4) (fun _ z => z) (ob_fs_at f5) d (kk (g.1 n k) h H locs la hP hS hl)
  · rw [if_neg q] at h; cases h
theorem ob_getR {K n k idx N : Nat} {Cn : String} {T : u_T} {f : Nat → Option α} (F : ob_Fx C cc nL own ret fr lo) (d : decode cc pc = .ok (.getfield idx, 3)) (fl : ob_Fl own idx K k true Cn T N) (h : (ob_gR K n k).bind f = some r) (kk : ∀ v, f v = some r → ob_Ev C (pc + 3) ls (ob_rv C v :: st) g) : ob_Ev C pc ls (ob_rv C n :: st) g := by
  obtain ⟨p, l, e, R, s, m, args, below, meth, c, D, ad, ca, Q, ce, sl⟩ := C
  obtain ⟨hx, hb, hml, hown, hts, hK, hi, hSF, hNs, hfr, hlo, hce, hsl, hrt, hlk⟩ := F
  obtain ⟨f1, f2, f3, f4, f5, f6⟩ := fl
  intro H locs la hP hS hl
  unfold ob_gR at h
  by_cases q : ob_kd n = K
  · rw [if_pos q] at h
    exact va_get (ci := K) hx hb hts f3 hown hK hP n (ob_at_obj q f6) f1 k f2 (hts _ f4) (fun _ z => z) (ob_fs_at f5) d (kk (ob_rf n k) h H locs la hP hS hl)
  · rw [if_neg q] at h; cases h
theorem ob_putI {K n k idx N : Nat} {Cn : String} {T : u_T} {ty0 : Nat → FieldType} {x : Int32} {f : ob_St → Option α} (F : ob_Fx C cc nL own ret fr lo) (d : decode cc pc = .ok (.putfield idx, 3)) (fp : ob_Fp own idx K k .int Cn T N ty0) (h : (ob_pI g K n k x).bind f = some r) (kk : ∀ g2, f g2 = some r → ob_Ev C (pc + 3) ls st g2) : ob_Ev C pc ls (.int x :: ob_rv C n :: st) g := by
  obtain ⟨p, l, e, R, s, m, args, below, meth, c, D, ad, ca, Q, ce, sl⟩ := C
  obtain ⟨hx, hb, hml, hown, hts, hK, hi, hSF, hNs, hfr, hlo, hce, hsl, hrt, hlk⟩ := F
  obtain ⟨⟨f1, f2, f3, f4, f5, f6⟩, p1, p2, p3, p4⟩ := fp
  intro H locs la hP hS hl
  unfold ob_pI at h
  by_cases q : ob_kd n = K
  · rw [if_pos q] at h
    refine va_put (ci := K) (ty := .int) hx hb hts f3 ty0 p1 p2 hown hK hP (ob_D _ hi) hS n (ob_at_obj q f6) f1 k f2 (hts _ f4) (fun _ z => z) p3 p4 rfl rfl (by rw [ob_fs_len]; exact (List.getElem?_eq_some_iff.mp f5).1) d (fun H1 locs1 hP1 _ hS1 => ?_)
    rw [ob_ws_O q f6 f5] at hP1
    exact kk (ob_up g.1 n k x, g.2) h H1 locs1 la hP1 hS1 hl
  · rw [if_neg q] at h; cases h
theorem ob_putZ {K n k idx N : Nat} {Cn : String} {T : u_T} {ty0 : Nat → FieldType} {x : Int32} {f : ob_St → Option α} (F : ob_Fx C cc nL own ret fr lo) (d : decode cc pc = .ok (.putfield idx, 3)) (fp : ob_Fp own idx K k .boolean Cn T N ty0) (h : (ob_pZ g K n k x).bind f = some r) (kk : ∀ g2, f g2 = some r → ob_Ev C (pc + 3) ls st g2) : ob_Ev C pc ls (.int x :: ob_rv C n :: st) g := by
  obtain ⟨p, l, e, R, s, m, args, below, meth, c, D, ad, ca, Q, ce, sl⟩ := C
  obtain ⟨hx, hb, hml, hown, hts, hK, hi, hSF, hNs, hfr, hlo, hce, hsl, hrt, hlk⟩ := F
  obtain ⟨⟨f1, f2, f3, f4, f5, f6⟩, p1, p2, p3, p4⟩ := fp
  intro H locs la hP hS hl
  unfold ob_pZ at h
  by_cases q : ob_kd n = K ∧ (x = 0 ∨ x = 1)
  · rw [if_pos q] at h
    refine va_put (ci := K) (ty := .boolean) hx hb hts f3 ty0 p1 p2 hown hK hP (ob_D _ hi) hS n (ob_at_obj q.1 f6) f1 k f2 (hts _ f4) (fun _ z => z) p3 p4 (by rcases q.2 with rfl | rfl <;> decide) (by rcases q.2 with rfl | rfl <;> decide) (by rw [ob_fs_len]; exact (List.getElem?_eq_some_iff.mp f5).1) d (fun H1 locs1 hP1 _ hS1 => ?_)
    rw [ob_ws_O q.1 f6 f5] at hP1
    exact kk (ob_up g.1 n k x, g.2) h H1 locs1 la hP1 hS1 hl
  · rw [if_neg q] at h; cases h
/-! arrays -/
theorem ob_iald {n : Nat} {i : Int32} {f : Int32 → Option α} (F : ob_Fx C cc nL own ret fr lo) (d : decode cc pc = .ok (.iaload, 1)) (h : (ob_rI g 14 n i).bind f = some r) (kk : ∀ v, f v = some r → ob_Ev C (pc + 1) ls (.int v :: st) g) : ob_Ev C pc ls (.int i :: ob_rv C n :: st) g := by
  obtain ⟨p, l, e, R, s, m, args, below, meth, c, D, ad, ca, Q, ce, sl⟩ := C
  obtain ⟨hx, hb, hml, hown, hts, hK, hi, hSF, hNs, hfr, hlo, hce, hsl, hrt, hlk⟩ := F
  intro H locs la hP hS hl
  unfold ob_rI at h
  by_cases q : ob_kd n = 14 ∧ ob_in i (ob_ln n) = true
  · rw [if_pos q] at h
    exact va_iald hx hb hK hP n 1 (ob_at_I q.1 (by decide) (by decide) (by decide)) rfl (ob_in_iff.mp q.2) d (kk _ h H locs la hP hS hl)
  · rw [if_neg q] at h; cases h
theorem ob_bald {n : Nat} {i : Int32} {f : Int32 → Option α} (F : ob_Fx C cc nL own ret fr lo) (d : decode cc pc = .ok (.baload, 1)) (h : (ob_rI g 13 n i).bind f = some r) (kk : ∀ v, f v = some r → ob_Ev C (pc + 1) ls (.int v :: st) g) : ob_Ev C pc ls (.int i :: ob_rv C n :: st) g := by
  obtain ⟨p, l, e, R, s, m, args, below, meth, c, D, ad, ca, Q, ce, sl⟩ := C
  obtain ⟨hx, hb, hml, hown, hts, hK, hi, hSF, hNs, hfr, hlo, hce, hsl, hrt, hlk⟩ := F
  intro H locs la hP hS hl
  unfold ob_rI at h
  by_cases q : ob_kd n = 13 ∧ ob_in i (ob_ln n) = true
  · rw [if_pos q] at h
    exact va_bald hx hb hK hP n 0 (ob_at_I q.1 (by decide) (by decide) (by decide)) rfl (ob_in_iff.mp q.2) d (kk _ h H locs la hP hS hl)
  · rw [if_neg q] at h; cases h
theorem ob_zald {n : Nat} {i : Int32} {f : Int32 → Option α} (F : ob_Fx C cc nL own ret fr lo) (d : decode cc pc = .ok (.baload, 1)) (h : (ob_rI g 16 n i).bind f = some r) (kk : ∀ v, f v = some r → ob_Ev C (pc + 1) ls (.int v :: st) g) : ob_Ev C pc ls (.int i :: ob_rv C n :: st) g := by
  obtain ⟨p, l, e, R, s, m, args, below, meth, c, D, ad, ca, Q, ce, sl⟩ := C
  obtain ⟨hx, hb, hml, hown, hts, hK, hi, hSF, hNs, hfr, hlo, hce, hsl, hrt, hlk⟩ := F
  intro H locs la hP hS hl
  unfold ob_rI at h
  by_cases q : ob_kd n = 16 ∧ ob_in i (ob_ln n) = true
  · rw [if_pos q] at h
    exact va_zald hx hb hK hP n 3 (ob_at_I q.1 (by decide) (by decide) (by decide)) rfl (ob_in_iff.mp q.2) d (kk _ h H locs la hP hS hl)
  · rw [if_neg q] at h; cases h
theorem ob_lald {n : Nat} {i : Int32} {f : Int64 → Option α} (F : ob_Fx C cc nL own ret fr lo) (d : decode cc pc = .ok (.laload, 1)) (h : (ob_rL g n i).bind f = some r) (kk : ∀ v, f v = some r → ob_Ev C (pc + 1) ls (.long v :: st) g) : ob_Ev C pc ls (.int i :: ob_rv C n :: st) g := by
  obtain ⟨p, l, e, R, s, m, args, below, meth, c, D, ad, ca, Q, ce, sl⟩ := C
  obtain ⟨hx, hb, hml, hown, hts, hK, hi, hSF, hNs, hfr, hlo, hce, hsl, hrt, hlk⟩ := F
  intro H locs la hP hS hl
  unfold ob_rL at h
  by_cases q : ob_kd n = 15 ∧ ob_in i (ob_ln n) = true
  · rw [if_pos q] at h
    exact va_lald hx hb hK hP n 2 (ob_at_J q.1) rfl (ob_in_iff.mp q.2) d (kk _ h H locs la hP hS hl)
  · rw [if_neg q] at h; cases h
theorem ob_aald {n K : Nat} {i : Int32} {f : Nat → Option α} (F : ob_Fx C cc nL own ret fr lo) (d : decode cc pc = .ok (.aaload, 1)) (hk : 17 ≤ K ∧ K < 22) (h : (ob_rR K n i).bind f = some r) (kk : ∀ v, f v = some r → ob_Ev C (pc + 1) ls (ob_rv C v :: st) g) : ob_Ev C pc ls (.int i :: ob_rv C n :: st) g := by
  obtain ⟨p, l, e, R, s, m, args, below, meth, c, D, ad, ca, Q, ce, sl⟩ := C
  obtain ⟨hx, hb, hml, hown, hts, hK, hi, hSF, hNs, hfr, hlo, hce, hsl, hrt, hlk⟩ := F
  intro H locs la hP hS hl
  unfold ob_rR at h
  by_cases q : ob_kd n = K ∧ ob_in i (ob_ln n) = true
  · rw [if_pos q] at h
    have hw : (ob_ws ad ca g)[n]? = some (ad n, .inl (ca K, ob_ln n, .inr (.inr (.inr (.inr (fun j => some (ad (ob_rf n j)))))))) := ob_at_R q.1 hk.1 (by omega)
    have kz := kk _ h H locs la hP hS hl
    rcases (show K = 17 ∨ K = 18 ∨ K = 19 ∨ K = 20 ∨ K = 21 by omega) with e1 | e1 | e1 | e1 | e1 <;> subst e1
    · exact va_aldq hx hb hK hP n 4 hw rfl (ob_in_iff.mp q.2) d kz
    · exact va_aldq hx hb hK hP n 5 hw rfl (ob_in_iff.mp q.2) d kz
    · exact va_aldq hx hb hK hP n 6 hw rfl (ob_in_iff.mp q.2) d kz
    · exact va_aldA hx hb hK hP n 7 hw rfl (ob_in_iff.mp q.2) d kz
    · exact va_aldA hx hb hK hP n 8 hw rfl (ob_in_iff.mp q.2) d kz
  · rw [if_neg q] at h; cases h
theorem ob_iast {n : Nat} {i x : Int32} {f : ob_St → Option α} (F : ob_Fx C cc nL own ret fr lo) (d : decode cc pc = .ok (.iastore, 1)) (h : (ob_wI g n i x).bind f = some r) (kk : ∀ g2, f g2 = some r → ob_Ev C (pc + 1) ls st g2) : ob_Ev C pc ls (.int x :: .int i :: ob_rv C n :: st) g := by
  obtain ⟨p, l, e, R, s, m, args, below, meth, c, D, ad, ca, Q, ce, sl⟩ := C
  obtain ⟨hx, hb, hml, hown, hts, hK, hi, hSF, hNs, hfr, hlo, hce, hsl, hrt, hlk⟩ := F
  intro H locs la hP hS hl
  unfold ob_wI at h
  by_cases q : ob_kd n = 14 ∧ ob_in i (ob_ln n) = true
  · rw [if_pos q] at h
    refine va_iast hx hb hK hP (ob_D _ hi) hS n 1 (ob_at_I q.1 (by decide) (by decide) (by decide)) rfl (ob_in_iff.mp q.2) d (fun H1 locs1 hP1 _ hS1 => ?_)
    rw [ob_ws_I q.1 (by decide) (by decide) (by decide)] at hP1
    exact kk _ h H1 locs1 la hP1 hS1 hl
  · rw [if_neg q] at h; cases h
theorem ob_bast {n : Nat} {i x : Int32} {f : ob_St → Option α} (F : ob_Fx C cc nL own ret fr lo) (d : decode cc pc = .ok (.bastore, 1)) (h : (ob_wB g n i x).bind f = some r) (kk : ∀ g2, f g2 = some r → ob_Ev C (pc + 1) ls st g2) : ob_Ev C pc ls (.int x :: .int i :: ob_rv C n :: st) g := by
  obtain ⟨p, l, e, R, s, m, args, below, meth, c, D, ad, ca, Q, ce, sl⟩ := C
  obtain ⟨hx, hb, hml, hown, hts, hK, hi, hSF, hNs, hfr, hlo, hce, hsl, hrt, hlk⟩ := F
  intro H locs la hP hS hl
  unfold ob_wB at h
  by_cases q : ob_kd n = 13 ∧ ob_in i (ob_ln n) = true
  · rw [if_pos q] at h
    refine va_bast hx hb hK hP (ob_D _ hi) hS n 0 (ob_at_I q.1 (by decide) (by decide) (by decide)) rfl (ob_in_iff.mp q.2) d (fun H1 locs1 hP1 _ hS1 => ?_)
    rw [ob_ws_I q.1 (by decide) (by decide) (by decide)] at hP1
    exact kk _ h H1 locs1 la hP1 hS1 hl
  · rw [if_neg q] at h; cases h
theorem ob_zast {n : Nat} {i x : Int32} {f : ob_St → Option α} (F : ob_Fx C cc nL own ret fr lo) (d : decode cc pc = .ok (.bastore, 1)) (h : (ob_wZ g n i x).bind f = some r) (kk : ∀ g2, f g2 = some r → ob_Ev C (pc + 1) ls st g2) : ob_Ev C pc ls (.int x :: .int i :: ob_rv C n :: st) g := by
  obtain ⟨p, l, e, R, s, m, args, below, meth, c, D, ad, ca, Q, ce, sl⟩ := C
  obtain ⟨hx, hb, hml, hown, hts, hK, hi, hSF, hNs, hfr, hlo, hce, hsl, hrt, hlk⟩ := F
  intro H locs la hP hS hl
  unfold ob_wZ at h
  by_cases q : ob_kd n = 16 ∧ ob_in i (ob_ln n) = true
  · rw [if_pos q] at h
    refine va_zast hx hb hK hP (ob_D _ hi) hS n 3 (ob_at_I q.1 (by decide) (by decide) (by decide)) rfl (ob_in_iff.mp q.2) d (fun H1 locs1 hP1 _ hS1 => ?_)
    rw [ob_ws_I q.1 (by decide) (by decide) (by decide)] at hP1
    exact kk _ h H1 locs1 la hP1 hS1 hl
  · rw [if_neg q] at h; cases h
theorem ob_last {n : Nat} {i : Int32} {x : Int64} {f : ob_St → Option α} (F : ob_Fx C cc nL own ret fr lo) (d : decode cc pc = .ok (.lastore, 1)) (h : (ob_wL g n i x).bind f = some r) (kk : ∀ g2, f g2 = some r → ob_Ev C (pc + 1) ls st g2) : ob_Ev C pc ls (.long x :: .int i :: ob_rv C n :: st) g := by
  obtain ⟨p, l, e, R, s, m, args, below, meth, c, D, ad, ca, Q, ce, sl⟩ := C
  obtain ⟨hx, hb, hml, hown, hts, hK, hi, hSF, hNs, hfr, hlo, hce, hsl, hrt, hlk⟩ := F
  intro H locs la hP hS hl
  unfold ob_wL at h
  by_cases q : ob_kd n = 15 ∧ ob_in i (ob_ln n) = true
  · rw [if_pos q] at h
    refine va_last hx hb hK hP (ob_D _ hi) hS n 2 (ob_at_J q.1) rfl (ob_in_iff.mp q.2) d (fun H1 locs1 hP1 _ hS1 => ?_)
    rw [ob_ws_J q.1] at hP1
    exact kk _ h H1 locs1 la hP1 hS1 hl
  · rw [if_neg q] at h; cases h
theorem ob_alen {n K : Nat} {f : Int32 → Option α} (F : ob_Fx C cc nL own ret fr lo) (d : decode cc pc = .ok (.arraylength, 1)) (hk : K = 14) (h : (ob_len K n).bind f = some r) (kk : ∀ v, f v = some r → ob_Ev C (pc + 1) ls (.int v :: st) g) : ob_Ev C pc ls (ob_rv C n :: st) g := by
  obtain ⟨p, l, e, R, s, m, args, below, meth, c, D, ad, ca, Q, ce, sl⟩ := C
  obtain ⟨hx, hb, hml, hown, hts, hK, hi, hSF, hNs, hfr, hlo, hce, hsl, hrt, hlk⟩ := F
  intro H locs la hP hS hl
  subst hk
  unfold ob_len at h
  by_cases q : ob_kd n = 14
  · rw [if_pos q] at h
    exact va_alen hx hb hK hP n 1 (x := (ob_ln n, .inl (g.1 n))) (ob_at_I q (by decide) (by decide) (by decide)) rfl rfl d (kk _ h H locs la hP hS hl)
  · rw [if_neg q] at h; cases h
/-! KNOWN -/
theorem ob_gets (F : ob_Fx C cc nL own ret fr lo) (d : decode cc pc = .ok (.getstatic 125, 3)) (ho : own = RX12) (hw : Cond.fieldLink RX12 125 "OptionBenchModel" "KNOWN" "[B" ∈ ob_GT) (kk : ob_Ev C (pc + 3) ls (ob_rv C 126 :: st) g) : ob_Ev C pc ls st g := by
  obtain ⟨p, l, e, R, s, m, args, below, meth, c, D, ad, ca, Q, ce, sl⟩ := C
  obtain ⟨hx, hb, hml, hown, hts, hK, hi, hSF, hNs, hfr, hlo, hce, hsl, hrt, hlk⟩ := F
  subst ho
  intro H locs la hP hS hl
  exact va_gets hx hb hSF.1 hS hown (hts _ hw) (fun _ z => z) d (kk H locs la hP hS hl)
theorem ob_kald {i : Int32} {f : Int32 → Option α} (F : ob_Fx C cc nL own ret fr lo) (d : decode cc pc = .ok (.baload, 1)) (h : (ob_rK i).bind f = some r) (kk : ∀ v, f v = some r → ob_Ev C (pc + 1) ls (.int v :: st) g) : ob_Ev C pc ls (.int i :: ob_rv C 126 :: st) g := by
  obtain ⟨p, l, e, R, s, m, args, below, meth, c, D, ad, ca, Q, ce, sl⟩ := C
  obtain ⟨hx, hb, hml, hown, hts, hK, hi, hSF, hNs, hfr, hlo, hce, hsl, hrt, hlk⟩ := F
  intro H locs la hP hS hl
  unfold ob_rK at h
  by_cases q : ob_in i 120 = true
  · rw [if_pos q] at h
    exact va_tb hx hb hSF.2.1 hS (ob_in_iff.mp q) rfl d (kk _ h H locs la hP hS hl)
  · rw [if_neg q] at h; cases h
/-! calls -/
/-- a method's contract: from the world g it returns v, in the world g2 -/
def ob_Mt (cf : ob_Cf) (y : MethodName) (bytes : ByteArray) (maxL : Nat) (ret : Option FieldType) (fr lo : Nat) (av : List Value) (g : ob_St) (v : Option Value) (g2 : ob_St) : Prop :=
  ∀ sz : Nat, Met cf.1 y (Cond.code y bytes maxL ret :: ob_GT) { frames := fr, cells := 0, slots := 0, locals := lo } (va_Pc av (fun U => U.heap.size = sz ∧ ob_Wd cf.2.1 cf.2.2.1 cf.2.2.2 sz g U)) (fun _ su o t => o = .returned v ∧ va_P cf.2.1 vwCl (ob_ws cf.2.2.1 cf.2.2.2 g2) t.heap ∧ va_F (ob_A cf.2.2.1 sz) su t) 0 0 (ob_A cf.2.2.1 sz)
def ob_Ib (y : MethodName) (bytes : ByteArray) (maxL : Nat) (ret : Option FieldType) (np : Nat) : Prop := Cond.code y bytes maxL ret ∈ ob_GT ∧ Cond.initialized y.cls ∈ ob_GT ∧ y.cls ≠ "java/lang/invoke/MethodHandle" ∧ y.cls ≠ "java/lang/invoke/VarHandle" ∧ (parseMethodDescriptor y.desc).map (fun d => d.parameters.length) = some np
def ob_Im (y : MethodName) (bytes : ByteArray) (maxL : Nat) (ret : Option FieldType) (np K : Nat) : Prop := ob_Ib y bytes maxL ret np ∧ Cond.instanceMethod y ∈ ob_GT ∧ Cond.selects y.cls y y ∈ ob_GT ∧ (∃ T N, vwCl[K]? = some (y.cls, T, N)) ∧ K < 13
def ob_Is (y : MethodName) (bytes : ByteArray) (maxL : Nat) (ret : Option FieldType) (np : Nat) : Prop := ob_Ib y bytes maxL ret np ∧ Cond.static y ∈ ob_GT
theorem ob_good {y : MethodName} {bytes : ByteArray} {maxL : Nat} {ret : Option FieldType} (h : Cond.code y bytes maxL ret ∈ ob_GT) : GoodIn ob_GT (Cond.code y bytes maxL ret :: ob_GT) := by
  intro w hw
  rcases List.mem_cons.mp hw with rfl | hw
  · exact ob_GT_good _ h
  · exact ob_GT_good _ hw
theorem ob_cb {R : Room} {s : State} {args : Array Value} {idx : Nat} {y : MethodName} {bytes : ByteArray} {maxL np fr lo : Nat} {ret : Option FieldType} (hts : ∀ w ∈ ob_GT, w.before args s = true) (ib : ob_Ib y bytes maxL ret np) (hl : Cond.methodLink own idx y ∈ ob_GT) (hR : fr + 1 ≤ R.frames ∧ 8 + (maxL + 11) + lo ≤ R.locals) :
    CallB R s args own idx y bytes maxL ret (Cond.code y bytes maxL ret :: ob_GT) { frames := fr, cells := 0, slots := 0, locals := lo } 0 0 np :=
  callB_of np hts (ob_good ib.1) rfl rfl rfl (hts _ ib.2.1) (hts _ hl) ib.2.2 hR
theorem ob_blind {D : va_G} {ad : Nat → Nat} {ca : Nat → ClassId} {sz : Nat} {g : ob_St} {av : List Value} : FrameBlind (va_Pc av (fun U => U.heap.size = sz ∧ ob_Wd D ad ca sz g U)) := by
  intro a U gg mk q
  obtain ⟨q0, q1, qP, qK, qI, qF, qN⟩ := q
  exact ⟨q0, q1, qP, va_K.moved (u := U) (U := U.calling gg mk a) (Vm.Alike.refl U.vm) qK, qI, qF.moved (u := U) (U := U.calling gg mk a) (Vm.Alike.refl U.vm), ob_Nst.same (s := U) (U := U.calling gg mk a) rfl qN⟩
theorem ob_pre {D : va_G} {ad : Nat → Nat} {ca : Nat → ClassId} {g : ob_St} {s U : State} {H : Heap} {locs : List Loc} (hP : va_P D vwCl (ob_ws ad ca g) H) (hS : va_S (ob_A ad s.heap.size) s.heap H locs) (hK : va_K D vwCl (ob_ty ca) s) (hi : ob_Inj ad) (hSF : ob_SF ad (ob_A ad s.heap.size) s s.heap) (hN : ob_Nst s) (hU : U.heap = H) (hW : s.WarmedH U.vm) : U.heap.size = H.size ∧ ob_Wd D ad ca H.size g U := by
  refine ⟨by rw [hU], by rw [hU]; exact hP, va_K.moved hW.alike hK, hi, ?_, hN.warm hW⟩
  rw [hU]
  exact ((hSF.kept hS.2.1).moved hW.alike).narrow (ob_A_mono hS.1)
theorem ob_after {p : Program} {l : Launch} {e : Env} {R : Room} {s : State} {m : MethodId} {args : Array Value} {below : List Frame} {meth : Method} {c : Code} {D : va_G} {ad : Nat → Nat} {ca : Nat → ClassId} {Q : State → Prop} {ce sl : Nat} {H : Heap} {locs : List Loc} {la : Array Slot} {st0 rest : List Value} {v : Option Value} {g2 : ob_St}
    (hr : va_Run p l e R s m args below meth c H locs ce sl 0 0 (F0 m pc la st0) rest (fun su o t => o = .returned v ∧ va_P D vwCl (ob_ws ad ca g2) t.heap ∧ va_F (ob_A ad H.size) su t) (ob_A ad H.size)) (hS : va_S (ob_A ad s.heap.size) s.heap H locs)
    (k : ∀ (H1 : Heap) (locs1 : List Loc), va_P D vwCl (ob_ws ad ca g2) H1 → va_S (ob_A ad s.heap.size) s.heap H1 locs1 → W p l e R s m args below meth c H1 locs1 ce sl Q (F0 m (pc + 3) la (v.toList ++ rest))) : W p l e R s m args below meth c H locs ce sl Q (F0 m pc la st0) := by
  intro T hT X
  obtain ⟨v2, st₀, t, T', L, h0, X', hL, e1, e2, ⟨hv, hP1, hz, hk⟩, st⟩ := hr T hT X
  cases hv
  rw [h0] at hz hk
  obtain ⟨t2, a1, b1⟩ := k T'.heap (locs ++ L) (by rw [e1]; exact hP1)
    ⟨Nat.le_trans hS.1 (by rw [e1]; exact hz), fun q h1 h2 => by rw [e1, hk q (Nat.lt_of_lt_of_le h1 hS.1) (fun z => h2 (ob_A_mono hS.1 q z))]; exact hS.2.1 q h1 h2, fun q hq => by
      rcases List.mem_append.mp hq with h | h
      · exact hS.2.2 q h
      · exact ob_A_mono hS.1 _ (hL q h)⟩ T' rfl X'
  exact ⟨t2, st t2 a1, b1⟩
theorem ob_callV {K n idx : Nat} {y : MethodName} {bytes : ByteArray} {maxL np fr2 lo2 : Nat} {rt : Option FieldType} {As rest : List Value} {v : Option Value} {g2 : ob_St} (F : ob_Fx C cc nL own ret fr lo) (d : decode cc pc = .ok (.invokevirtual idx, 3)) (im : ob_Im y bytes maxL rt np K) (hl : Cond.methodLink own idx y ∈ ob_GT) (hM : ob_Mt (ob_cf C) y bytes maxL rt fr2 lo2 (ob_rv C n :: As) g v g2) (hk : ob_kd n = K) (hn : As.length = np) (hs : st = As.reverse ++ ob_rv C n :: rest) (hw : (rest.map fun v => v.category).sum ≤ 8) (hR : fr2 + 1 ≤ fr ∧ 8 + (maxL + 11) + lo2 ≤ lo) (k : ob_Ev C (pc + 3) ls (v.toList ++ rest) g2) : ob_Ev C pc ls st g := by
  obtain ⟨p, l, e, R, s, m, args, below, meth, c, D, ad, ca, Q, ce, sl⟩ := C
  obtain ⟨hx, hb, hml, hown, hts, hK, hi, hSF, hNs, hfr, hlo, hce, hsl, hrt, hlk⟩ := F
  obtain ⟨ib, i1, i2, ⟨T, N, i3⟩, i4⟩ := im
  intro H locs la hP hS hlv
  exact ob_after (va_runV (As := As) (rest := rest) (n := np) ⟨hx, hb, hml, hown, hts⟩ (hM H.size) ⟨ob_cb hts ib hl ⟨Nat.le_trans hR.1 hfr, Nat.le_trans hR.2 hlo⟩, hts _ i1, hts _ i2⟩ ⟨ob_blind, va_recv hK hP (ci := K) (q0 := n) i3 (ob_at_obj hk i4), fun U hU hW => ⟨rfl, ob_pre hP hS hK hi hSF hNs hU hW⟩⟩ rfl hn (by rw [hlv.1, hml]) hs (by simpa using hw) d ⟨hce, hsl⟩) hS (fun H1 locs1 hP1 hS1 => k H1 locs1 la hP1 hS1 hlv)
theorem ob_callS {idx : Nat} {y : MethodName} {bytes : ByteArray} {maxL np fr2 lo2 : Nat} {rt : Option FieldType} {As rest : List Value} {v : Option Value} {g2 : ob_St} (F : ob_Fx C cc nL own ret fr lo) (d : decode cc pc = .ok (.invokestatic idx, 3)) (im : ob_Is y bytes maxL rt np) (hl : Cond.methodLink own idx y ∈ ob_GT) (hM : ob_Mt (ob_cf C) y bytes maxL rt fr2 lo2 As g v g2) (hn : As.length = np) (hs : st = As.reverse ++ rest) (hw : (rest.map fun v => v.category).sum ≤ 8) (hR : fr2 + 1 ≤ fr ∧ 8 + (maxL + 11) + lo2 ≤ lo) (k : ob_Ev C (pc + 3) ls (v.toList ++ rest) g2) : ob_Ev C pc ls st g := by
  obtain ⟨p, l, e, R, s, m, args, below, meth, c, D, ad, ca, Q, ce, sl⟩ := C
  obtain ⟨hx, hb, hml, hown, hts, hK, hi, hSF, hNs, hfr, hlo, hce, hsl, hrt, hlk⟩ := F
  obtain ⟨ib, i1⟩ := im
  intro H locs la hP hS hlv
  exact ob_after (va_runS (As := As) (rest := rest) (n := np) ⟨hx, hb, hml, hown, hts⟩ (hM H.size) ⟨ob_cb hts ib hl ⟨Nat.le_trans hR.1 hfr, Nat.le_trans hR.2 hlo⟩, hts _ i1⟩ ⟨ob_blind, fun U hU hW => ⟨rfl, ob_pre hP hS hK hi hSF hNs hU hW⟩⟩ rfl hn (by rw [hlv.1, hml]) hs (by simpa using hw) d ⟨hce, hsl⟩) hS (fun H1 locs1 hP1 hS1 => k H1 locs1 la hP1 hS1 hlv)
theorem ob_callN {idx : Nat} {y : MethodName} {bytes : ByteArray} {maxL np fr2 lo2 : Nat} {rt : Option FieldType} {As rest : List Value} {v : Option Value} {g2 : ob_St} (F : ob_Fx C cc nL own ret fr lo) (d : decode cc pc = .ok (.invokestatic idx, 3)) (im : ob_Is y bytes maxL rt np) (hl : (own, idx, y) ∈ ob_nest) (hM : ob_Mt (ob_cf C) y bytes maxL rt fr2 lo2 As g v g2) (hn : As.length = np) (hs : st = As.reverse ++ rest) (hw : (rest.map fun v => v.category).sum ≤ 8) (hR : fr2 + 1 ≤ fr ∧ 8 + (maxL + 11) + lo2 ≤ lo) (k : ob_Ev C (pc + 3) ls (v.toList ++ rest) g2) : ob_Ev C pc ls st g := by
  obtain ⟨p, l, e, R, s, m, args, below, meth, c, D, ad, ca, Q, ce, sl⟩ := C
  obtain ⟨hx, hb, hml, hown, hts, hK, hi, hSF, hNs, hfr, hlo, hce, hsl, hrt, hlk⟩ := F
  obtain ⟨ib, i1⟩ := im
  intro H locs la hP hS hlv
  exact ob_after (va_runSN (As := As) (rest := rest) (n := np) ⟨hx, hb, hml, hown, hts⟩ (hM H.size) ⟨va_cnB np hts (ob_good ib.1) rfl rfl rfl (hNs.1 _ hl) (hts _ ib.2.1) ib.2.2 ⟨Nat.le_trans hR.1 hfr, Nat.le_trans hR.2 hlo⟩, hts _ i1, trivial⟩ ⟨ob_blind, fun U hU hW => ⟨rfl, ob_pre hP hS hK hi hSF hNs hU hW⟩⟩ rfl hn (by rw [hlv.1, hml]) hs (by simpa using hw) d ⟨hce, hsl⟩) hS (fun H1 locs1 hP1 hS1 => k H1 locs1 la hP1 hS1 hlv)
/-- a method's contract out of its body's walk -/
theorem ob_enter {cf : ob_Cf} {y : MethodName} {bytes : ByteArray} {maxL fr2 lo2 : Nat} {rt : Option FieldType} {av : List Value} {v : Option Value} {g2 : ob_St} (hy : plainName y.cls = true) (hav : (lg_sl av).length ≤ maxL) (hv : match v with | none => rt = none | some (.int _) => rt = some .int ∨ rt = some .boolean | some (.long _) => rt = some .long | some w => (∃ k, rt = some (.object k)) ∧ ∃ a, w = .ref a)
    (body : ∀ C : ob_Cx, ob_cf C = cf → ob_Fx C bytes maxL y.cls rt fr2 lo2 → ob_Rt C v g2 → ob_Ev C 0 (lv_args 0 av) [] g) : ob_Mt cf y bytes maxL rt fr2 lo2 av g v g2 := by
  intro sz
  obtain ⟨l, D, ad, ca⟩ := cf
  refine Met.ofW (cc := bytes) (maxL := maxL) (ret := rt) hy rfl ?_
  intro p e s m args below meth c s₁ B hml hq
  obtain ⟨rfl, hsz, hP, hK, hi, hSF, hN⟩ := hq
  have hx := B.exec
  have hb := B.bytes
  have hr := B.returns
  have hts := atoms_spec (ws := Cond.code y bytes maxL rt :: ob_GT) B.pre
  have hown : s.vm.findClass y.cls = some m.cls := findClass_of_methodNamed B.named
  have hlocks := B.notSynchronized
  subst hsz
  have hl := lv_entry av (n := maxL) hav
  rw [lg_entry_eq]
  generalize (lg_sl av ++ List.replicate (maxL - (lg_sl av).length) Slot.unset).toArray = la at hl ⊢
  refine body (p, l, e, _, s, m, av.toArray, below, meth, c, D, ad, ca, _, 0, 0) rfl ⟨hx, hb, hml, hown, fun w h => hts w (List.mem_cons_of_mem _ h), hK, hi, hSF, hN, Nat.le_refl _, Nat.le_refl _, Nat.zero_le _, Nat.zero_le _, hr, hlocks⟩ ?_ s.heap [] la hP va_S.rf (by rw [hml]; exact hl)
  intro H locs pc la hP hS
  cases v with
  | none => exact fun d => W.vret hx rfl (by rw [hr, hv]) (fun t ht hW => ⟨rfl, by rw [ht]; exact hP, hS.F ht⟩) hS.2.2 d
  | some w =>
    cases w with
    | int x =>
        intro hn d
        rcases hv with hv | hv
        · exact W.iret hx rfl (by rw [hr, hv]) (fun t ht hW => ⟨rfl, by rw [ht]; exact hP, hS.F ht⟩) hS.2.2 d
        · exact W.zret hx rfl (by rw [hr, hv]) (hn _ (by rw [hr, hv])) (fun t ht hW => ⟨rfl, by rw [ht]; exact hP, hS.F ht⟩) hS.2.2 d
    | long x => exact fun d => W.lret hx rfl (by rw [hr, hv]) (fun t ht hW => ⟨rfl, by rw [ht]; exact hP, hS.F ht⟩) hS.2.2 d
    | ref a =>
        intro d
        obtain ⟨⟨k, hv⟩, -⟩ := hv
        exact W.aret hx rfl (by rw [hr, hv]) (Or.inl ⟨k, rfl⟩) (Or.inr ⟨a, rfl⟩) (fun t ht hW => ⟨rfl, by rw [ht]; exact hP, hS.F ht⟩) hS.2.2 d
    | _ => exact absurd hv.2 (by rintro ⟨a, h⟩; cases h)

theorem ob_cks {β : Type} {K n : Nat} {x : Option β} {b : β} (h : ob_ck K n x = some b) : ob_kd n = K ∧ x = some b := by
  unfold ob_ck at h
  by_cases q : ob_kd n = K
  · rw [if_pos q] at h; exact ⟨q, h⟩
  · rw [if_neg q] at h; cases h
theorem ob_zrs {v z : Int32} (h : ob_zr v = some z) : z = v ∧ (v = 0 ∨ v = 1) := by
  unfold ob_zr at h
  by_cases q : v = 0 ∨ v = 1
  · rw [if_pos q] at h; exact ⟨(Option.some.inj h).symm, q⟩
  · rw [if_neg q] at h; cases h
theorem ob_zrow {x : Int32} {f : Int32 → Option α} (h : (ob_zr x).bind f = some r) (k : (x = 0 ∨ x = 1) → f x = some r → ob_Ev C pc ls st g) : ob_Ev C pc ls st g := by
  obtain ⟨z, hz, h⟩ := Option.bind_eq_some_iff.mp h
  obtain ⟨e, hz⟩ := ob_zrs hz
  rw [e] at h
  exact k hz h
theorem ob_no {P : Prop} (h : (none : Option α) = some r) : P := nomatch h
theorem ob_nei {x v : Int32} {k : Int} (h : ¬ x = v) (hv : v.toInt = k) : x.toInt ≠ k := fun q => h (Int32.toInt_inj.mp (q.trans hv.symm))
theorem ob_inl {β γ : Type} {f : β → Option α} {f2 : γ → Option α} {y : β} (h : Sum.elim f f2 (.inl y) = some r) : f y = some r := h
theorem ob_inr {β γ : Type} {f : β → Option α} {f2 : γ → Option α} {y : γ} (h : Sum.elim f f2 (.inr y) = some r) : f2 y = some r := h
theorem ob_leti {x : Int32} {f : Int32 → Option α} (h : ob_let x f = some r) (k : ∀ y, f y = some r → ob_Ev C pc ls (.int y :: st) g) : ob_Ev C pc ls (.int x :: st) g := k x h
theorem ob_letl {x : Int64} {f : Int64 → Option α} (h : ob_let x f = some r) (k : ∀ y, f y = some r → ob_Ev C pc ls (.long y :: st) g) : ob_Ev C pc ls (.long x :: st) g := k x h
theorem ob_if {c : Prop} [Decidable c] {X Y : Option α} (h : (if c then X else Y) = some r) (k1 : c → X = some r → ob_Ev C pc ls st g) (k2 : ¬ c → Y = some r → ob_Ev C pc ls st g) : ob_Ev C pc ls st g := by
  by_cases q : c
  · exact k1 q (by rw [if_pos q] at h; exact h)
  · exact k2 q (by rw [if_neg q] at h; exact h)
def ob_labs (x : Int64) : Int64 := if 0 < x then x else -x
theorem ob_mlabs {idx : Nat} {x : Int64} (F : ob_Fx C cc nL own ret fr lo) (d : decode cc pc = .ok (.invokestatic idx, 3)) (hl : Cond.methodLink own idx Lib.MathLoose.abs_long.x ∈ ob_GT) (w1 : Cond.static Lib.MathLoose.abs_long.x ∈ ob_GT) (w2 : Cond.initialized "java/lang/Math" ∈ ob_GT) (w3 : Cond.code Lib.MathLoose.abs_long.x Lib.MathLoose.abs_long.code 2 (some .long) ∈ ob_GT) (hw : (st.map fun v => v.category).sum + 13 ≤ lo) (hf : 1 ≤ fr) (k : ob_Ev C (pc + 3) ls (.long (ob_labs x) :: st) g) : ob_Ev C pc ls (.long x :: st) g := by
  obtain ⟨p, l, e, R, s, m, args, below, meth, c, D, ad, ca, Q, ce, sl⟩ := C
  obtain ⟨hx, hb, hml, hown, hts, hK, hi, hSF, hNs, hfr, hlo, hce, hsl, hrt, hlk⟩ := F
  intro H locs la hP hS hlv
  exact va_mabs_long hx hb (by rw [hlv.1]) hown (hts _ hl) (hts _ w1) (hts _ w2) (hts _ w3) (Nat.le_trans hf hfr) (Nat.le_trans hw hlo) hce hsl d (k H locs la hP hS hlv)
def ob_lmin (x y : Int64) : Int64 := if y < x then y else x
theorem ob_mlmin {idx : Nat} {x y : Int64} (F : ob_Fx C cc nL own ret fr lo) (d : decode cc pc = .ok (.invokestatic idx, 3)) (hl : Cond.methodLink own idx Lib.MathLoose.min_long.x ∈ ob_GT) (w1 : Cond.static Lib.MathLoose.min_long.x ∈ ob_GT) (w2 : Cond.initialized "java/lang/Math" ∈ ob_GT) (w3 : Cond.code Lib.MathLoose.min_long.x Lib.MathLoose.min_long.code 4 (some .long) ∈ ob_GT) (hw : (st.map fun v => v.category).sum + 15 ≤ lo) (hf : 1 ≤ fr) (k : ob_Ev C (pc + 3) ls (.long (ob_lmin x y) :: st) g) : ob_Ev C pc ls (.long y :: .long x :: st) g := by
  obtain ⟨p, l, e, R, s, m, args, below, meth, c, D, ad, ca, Q, ce, sl⟩ := C
  obtain ⟨hx, hb, hml, hown, hts, hK, hi, hSF, hNs, hfr, hlo, hce, hsl, hrt, hlk⟩ := F
  intro H locs la hP hS hlv
  exact va_mmin_long hx hb (by rw [hlv.1]) hown (hts _ hl) (hts _ w1) (hts _ w2) (hts _ w3) (Nat.le_trans hf hfr) (Nat.le_trans hw hlo) hce hsl d (k H locs la hP hS hlv)
def ob_lmax (x y : Int64) : Int64 := if y < x then x else y
theorem ob_mlmax {idx : Nat} {x y : Int64} (F : ob_Fx C cc nL own ret fr lo) (d : decode cc pc = .ok (.invokestatic idx, 3)) (hl : Cond.methodLink own idx Lib.MathLoose.max_long.x ∈ ob_GT) (w1 : Cond.static Lib.MathLoose.max_long.x ∈ ob_GT) (w2 : Cond.initialized "java/lang/Math" ∈ ob_GT) (w3 : Cond.code Lib.MathLoose.max_long.x Lib.MathLoose.max_long.code 4 (some .long) ∈ ob_GT) (hw : (st.map fun v => v.category).sum + 15 ≤ lo) (hf : 1 ≤ fr) (k : ob_Ev C (pc + 3) ls (.long (ob_lmax x y) :: st) g) : ob_Ev C pc ls (.long y :: .long x :: st) g := by
  obtain ⟨p, l, e, R, s, m, args, below, meth, c, D, ad, ca, Q, ce, sl⟩ := C
  obtain ⟨hx, hb, hml, hown, hts, hK, hi, hSF, hNs, hfr, hlo, hce, hsl, hrt, hlk⟩ := F
  intro H locs la hP hS hlv
  exact va_mmax_long hx hb (by rw [hlv.1]) hown (hts _ hl) (hts _ w1) (hts _ w2) (hts _ w3) (Nat.le_trans hf hfr) (Nat.le_trans hw hlo) hce hsl d (k H locs la hP hS hlv)
def ob_iabs (x : Int32) : Int32 := if 0 ≤ x then x else 0 - x
theorem ob_miabs {idx : Nat} {x : Int32} (F : ob_Fx C cc nL own ret fr lo) (d : decode cc pc = .ok (.invokestatic idx, 3)) (hl : Cond.methodLink own idx Lib.Math.abs.name ∈ ob_GT) (w1 : Cond.static Lib.Math.abs.name ∈ ob_GT) (w2 : Cond.initialized "java/lang/Math" ∈ ob_GT) (w3 : Cond.code Lib.Math.abs.name Lib.Math.abs.code 1 (some .int) ∈ ob_GT) (hw : (st.map fun v => v.category).sum + 13 ≤ lo) (hf : 1 ≤ fr) (k : ob_Ev C (pc + 3) ls (.int (ob_iabs x) :: st) g) : ob_Ev C pc ls (.int x :: st) g := by
  obtain ⟨p, l, e, R, s, m, args, below, meth, c, D, ad, ca, Q, ce, sl⟩ := C
  obtain ⟨hx, hb, hml, hown, hts, hK, hi, hSF, hNs, hfr, hlo, hce, hsl, hrt, hlk⟩ := F
  intro H locs la hP hS hlv
  exact va_mabs hx hb (by rw [hlv.1]) hown (hts _ hl) (hts _ w1) (hts _ w2) (hts _ w3) (Nat.le_trans hf hfr) (Nat.le_trans hw hlo) hce hsl d (k H locs la hP hS hlv)
def ob_imin (x y : Int32) : Int32 := if y < x then y else x
theorem ob_mimin {idx : Nat} {x y : Int32} (F : ob_Fx C cc nL own ret fr lo) (d : decode cc pc = .ok (.invokestatic idx, 3)) (hl : Cond.methodLink own idx Lib.Math.min.name ∈ ob_GT) (w1 : Cond.static Lib.Math.min.name ∈ ob_GT) (w2 : Cond.initialized "java/lang/Math" ∈ ob_GT) (w3 : Cond.code Lib.Math.min.name Lib.Math.min.code 2 (some .int) ∈ ob_GT) (hw : (st.map fun v => v.category).sum + 13 ≤ lo) (hf : 1 ≤ fr) (k : ob_Ev C (pc + 3) ls (.int (ob_imin x y) :: st) g) : ob_Ev C pc ls (.int y :: .int x :: st) g := by
  obtain ⟨p, l, e, R, s, m, args, below, meth, c, D, ad, ca, Q, ce, sl⟩ := C
  obtain ⟨hx, hb, hml, hown, hts, hK, hi, hSF, hNs, hfr, hlo, hce, hsl, hrt, hlk⟩ := F
  intro H locs la hP hS hlv
  exact va_mmin hx hb (by rw [hlv.1]) hown (hts _ hl) (hts _ w1) (hts _ w2) (hts _ w3) (Nat.le_trans hf hfr) (Nat.le_trans hw hlo) hce hsl d (k H locs la hP hS hlv)
def ob_imax (x y : Int32) : Int32 := if x < y then y else x
theorem ob_mimax {idx : Nat} {x y : Int32} (F : ob_Fx C cc nL own ret fr lo) (d : decode cc pc = .ok (.invokestatic idx, 3)) (hl : Cond.methodLink own idx Lib.Math.max.name ∈ ob_GT) (w1 : Cond.static Lib.Math.max.name ∈ ob_GT) (w2 : Cond.initialized "java/lang/Math" ∈ ob_GT) (w3 : Cond.code Lib.Math.max.name Lib.Math.max.code 2 (some .int) ∈ ob_GT) (hw : (st.map fun v => v.category).sum + 13 ≤ lo) (hf : 1 ≤ fr) (k : ob_Ev C (pc + 3) ls (.int (ob_imax x y) :: st) g) : ob_Ev C pc ls (.int y :: .int x :: st) g := by
  obtain ⟨p, l, e, R, s, m, args, below, meth, c, D, ad, ca, Q, ce, sl⟩ := C
  obtain ⟨hx, hb, hml, hown, hts, hK, hi, hSF, hNs, hfr, hlo, hce, hsl, hrt, hlk⟩ := F
  intro H locs la hP hS hlv
  exact va_mmax hx hb (by rw [hlv.1]) hown (hts _ hl) (hts _ w1) (hts _ w2) (hts _ w3) (Nat.le_trans hf hfr) (Nat.le_trans hw hlo) hce hsl d (k H locs la hP hS hlv)
theorem ob_cVi {K n idx : Nat} {y : MethodName} {bytes : ByteArray} {maxL np fr2 lo2 : Nat} {rt : Option FieldType} {As rest : List Value} {x : Option Int32} {f : Int32 → Option α} (F : ob_Fx C cc nL own ret fr lo) (d : decode cc pc = .ok (.invokevirtual idx, 3)) (im : ob_Im y bytes maxL rt np K) (hl : Cond.methodLink own idx y ∈ ob_GT) (h : (ob_ck K n x).bind f = some r) (hM : ∀ b, x = some b → ob_Mt (ob_cf C) y bytes maxL rt fr2 lo2 (ob_rv C n :: As) g (some (.int b)) g) (hn : As.length = np) (hs : st = As.reverse ++ ob_rv C n :: rest) (hw : (rest.map fun v => v.category).sum ≤ 8) (hR : fr2 + 1 ≤ fr ∧ 8 + (maxL + 11) + lo2 ≤ lo) (kk : ∀ b, f b = some r → ob_Ev C (pc + 3) ls (.int b :: rest) g) : ob_Ev C pc ls st g := by
  obtain ⟨b, hb, h⟩ := Option.bind_eq_some_iff.mp h
  obtain ⟨hk, hb⟩ := ob_cks hb
  exact ob_callV F d im hl (hM b hb) hk hn hs hw hR (kk b h)
theorem ob_cViS {K n idx : Nat} {y : MethodName} {bytes : ByteArray} {maxL np fr2 lo2 : Nat} {rt : Option FieldType} {As rest : List Value} {x : Option (Int32 × ob_St)} {f : (Int32 × ob_St) → Option α} (F : ob_Fx C cc nL own ret fr lo) (d : decode cc pc = .ok (.invokevirtual idx, 3)) (im : ob_Im y bytes maxL rt np K) (hl : Cond.methodLink own idx y ∈ ob_GT) (h : (ob_ck K n x).bind f = some r) (hM : ∀ b, x = some b → ob_Mt (ob_cf C) y bytes maxL rt fr2 lo2 (ob_rv C n :: As) g (some (.int b.1)) b.2) (hn : As.length = np) (hs : st = As.reverse ++ ob_rv C n :: rest) (hw : (rest.map fun v => v.category).sum ≤ 8) (hR : fr2 + 1 ≤ fr ∧ 8 + (maxL + 11) + lo2 ≤ lo) (kk : ∀ b, f b = some r → ob_Ev C (pc + 3) ls (.int b.1 :: rest) b.2) : ob_Ev C pc ls st g := by
  obtain ⟨b, hb, h⟩ := Option.bind_eq_some_iff.mp h
  obtain ⟨hk, hb⟩ := ob_cks hb
  exact ob_callV F d im hl (hM b hb) hk hn hs hw hR (kk b h)
theorem ob_cVl {K n idx : Nat} {y : MethodName} {bytes : ByteArray} {maxL np fr2 lo2 : Nat} {rt : Option FieldType} {As rest : List Value} {x : Option Int64} {f : Int64 → Option α} (F : ob_Fx C cc nL own ret fr lo) (d : decode cc pc = .ok (.invokevirtual idx, 3)) (im : ob_Im y bytes maxL rt np K) (hl : Cond.methodLink own idx y ∈ ob_GT) (h : (ob_ck K n x).bind f = some r) (hM : ∀ b, x = some b → ob_Mt (ob_cf C) y bytes maxL rt fr2 lo2 (ob_rv C n :: As) g (some (.long b)) g) (hn : As.length = np) (hs : st = As.reverse ++ ob_rv C n :: rest) (hw : (rest.map fun v => v.category).sum ≤ 8) (hR : fr2 + 1 ≤ fr ∧ 8 + (maxL + 11) + lo2 ≤ lo) (kk : ∀ b, f b = some r → ob_Ev C (pc + 3) ls (.long b :: rest) g) : ob_Ev C pc ls st g := by
  obtain ⟨b, hb, h⟩ := Option.bind_eq_some_iff.mp h
  obtain ⟨hk, hb⟩ := ob_cks hb
  exact ob_callV F d im hl (hM b hb) hk hn hs hw hR (kk b h)
theorem ob_cVlS {K n idx : Nat} {y : MethodName} {bytes : ByteArray} {maxL np fr2 lo2 : Nat} {rt : Option FieldType} {As rest : List Value} {x : Option (Int64 × ob_St)} {f : (Int64 × ob_St) → Option α} (F : ob_Fx C cc nL own ret fr lo) (d : decode cc pc = .ok (.invokevirtual idx, 3)) (im : ob_Im y bytes maxL rt np K) (hl : Cond.methodLink own idx y ∈ ob_GT) (h : (ob_ck K n x).bind f = some r) (hM : ∀ b, x = some b → ob_Mt (ob_cf C) y bytes maxL rt fr2 lo2 (ob_rv C n :: As) g (some (.long b.1)) b.2) (hn : As.length = np) (hs : st = As.reverse ++ ob_rv C n :: rest) (hw : (rest.map fun v => v.category).sum ≤ 8) (hR : fr2 + 1 ≤ fr ∧ 8 + (maxL + 11) + lo2 ≤ lo) (kk : ∀ b, f b = some r → ob_Ev C (pc + 3) ls (.long b.1 :: rest) b.2) : ob_Ev C pc ls st g := by
  obtain ⟨b, hb, h⟩ := Option.bind_eq_some_iff.mp h
  obtain ⟨hk, hb⟩ := ob_cks hb
  exact ob_callV F d im hl (hM b hb) hk hn hs hw hR (kk b h)
theorem ob_cVr {K n idx : Nat} {y : MethodName} {bytes : ByteArray} {maxL np fr2 lo2 : Nat} {rt : Option FieldType} {As rest : List Value} {x : Option Nat} {f : Nat → Option α} (F : ob_Fx C cc nL own ret fr lo) (d : decode cc pc = .ok (.invokevirtual idx, 3)) (im : ob_Im y bytes maxL rt np K) (hl : Cond.methodLink own idx y ∈ ob_GT) (h : (ob_ck K n x).bind f = some r) (hM : ∀ b, x = some b → ob_Mt (ob_cf C) y bytes maxL rt fr2 lo2 (ob_rv C n :: As) g (some (ob_rv C b)) g) (hn : As.length = np) (hs : st = As.reverse ++ ob_rv C n :: rest) (hw : (rest.map fun v => v.category).sum ≤ 8) (hR : fr2 + 1 ≤ fr ∧ 8 + (maxL + 11) + lo2 ≤ lo) (kk : ∀ b, f b = some r → ob_Ev C (pc + 3) ls (ob_rv C b :: rest) g) : ob_Ev C pc ls st g := by
  obtain ⟨b, hb, h⟩ := Option.bind_eq_some_iff.mp h
  obtain ⟨hk, hb⟩ := ob_cks hb
  exact ob_callV F d im hl (hM b hb) hk hn hs hw hR (kk b h)
theorem ob_cVrS {K n idx : Nat} {y : MethodName} {bytes : ByteArray} {maxL np fr2 lo2 : Nat} {rt : Option FieldType} {As rest : List Value} {x : Option (Nat × ob_St)} {f : (Nat × ob_St) → Option α} (F : ob_Fx C cc nL own ret fr lo) (d : decode cc pc = .ok (.invokevirtual idx, 3)) (im : ob_Im y bytes maxL rt np K) (hl : Cond.methodLink own idx y ∈ ob_GT) (h : (ob_ck K n x).bind f = some r) (hM : ∀ b, x = some b → ob_Mt (ob_cf C) y bytes maxL rt fr2 lo2 (ob_rv C n :: As) g (some (ob_rv C b.1)) b.2) (hn : As.length = np) (hs : st = As.reverse ++ ob_rv C n :: rest) (hw : (rest.map fun v => v.category).sum ≤ 8) (hR : fr2 + 1 ≤ fr ∧ 8 + (maxL + 11) + lo2 ≤ lo) (kk : ∀ b, f b = some r → ob_Ev C (pc + 3) ls (ob_rv C b.1 :: rest) b.2) : ob_Ev C pc ls st g := by
  obtain ⟨b, hb, h⟩ := Option.bind_eq_some_iff.mp h
  obtain ⟨hk, hb⟩ := ob_cks hb
  exact ob_callV F d im hl (hM b hb) hk hn hs hw hR (kk b h)
theorem ob_cVvS {K n idx : Nat} {y : MethodName} {bytes : ByteArray} {maxL np fr2 lo2 : Nat} {rt : Option FieldType} {As rest : List Value} {x : Option ob_St} {f : ob_St → Option α} (F : ob_Fx C cc nL own ret fr lo) (d : decode cc pc = .ok (.invokevirtual idx, 3)) (im : ob_Im y bytes maxL rt np K) (hl : Cond.methodLink own idx y ∈ ob_GT) (h : (ob_ck K n x).bind f = some r) (hM : ∀ b, x = some b → ob_Mt (ob_cf C) y bytes maxL rt fr2 lo2 (ob_rv C n :: As) g none b) (hn : As.length = np) (hs : st = As.reverse ++ ob_rv C n :: rest) (hw : (rest.map fun v => v.category).sum ≤ 8) (hR : fr2 + 1 ≤ fr ∧ 8 + (maxL + 11) + lo2 ≤ lo) (kk : ∀ b, f b = some r → ob_Ev C (pc + 3) ls rest b) : ob_Ev C pc ls st g := by
  obtain ⟨b, hb, h⟩ := Option.bind_eq_some_iff.mp h
  obtain ⟨hk, hb⟩ := ob_cks hb
  exact ob_callV F d im hl (hM b hb) hk hn hs hw hR (kk b h)
theorem ob_cSi {idx : Nat} {y : MethodName} {bytes : ByteArray} {maxL np fr2 lo2 : Nat} {rt : Option FieldType} {As rest : List Value} {x : Option Int32} {f : Int32 → Option α} (F : ob_Fx C cc nL own ret fr lo) (d : decode cc pc = .ok (.invokestatic idx, 3)) (im : ob_Is y bytes maxL rt np) (hl : Cond.methodLink own idx y ∈ ob_GT) (h : x.bind f = some r) (hM : ∀ b, x = some b → ob_Mt (ob_cf C) y bytes maxL rt fr2 lo2 As g (some (.int b)) g) (hn : As.length = np) (hs : st = As.reverse ++ rest) (hw : (rest.map fun v => v.category).sum ≤ 8) (hR : fr2 + 1 ≤ fr ∧ 8 + (maxL + 11) + lo2 ≤ lo) (kk : ∀ b, f b = some r → ob_Ev C (pc + 3) ls (.int b :: rest) g) : ob_Ev C pc ls st g := by
  obtain ⟨b, hb, h⟩ := Option.bind_eq_some_iff.mp h
  exact ob_callS F d im hl (hM b hb) hn hs hw hR (kk b h)
theorem ob_cSiS {idx : Nat} {y : MethodName} {bytes : ByteArray} {maxL np fr2 lo2 : Nat} {rt : Option FieldType} {As rest : List Value} {x : Option (Int32 × ob_St)} {f : (Int32 × ob_St) → Option α} (F : ob_Fx C cc nL own ret fr lo) (d : decode cc pc = .ok (.invokestatic idx, 3)) (im : ob_Is y bytes maxL rt np) (hl : Cond.methodLink own idx y ∈ ob_GT) (h : x.bind f = some r) (hM : ∀ b, x = some b → ob_Mt (ob_cf C) y bytes maxL rt fr2 lo2 As g (some (.int b.1)) b.2) (hn : As.length = np) (hs : st = As.reverse ++ rest) (hw : (rest.map fun v => v.category).sum ≤ 8) (hR : fr2 + 1 ≤ fr ∧ 8 + (maxL + 11) + lo2 ≤ lo) (kk : ∀ b, f b = some r → ob_Ev C (pc + 3) ls (.int b.1 :: rest) b.2) : ob_Ev C pc ls st g := by
  obtain ⟨b, hb, h⟩ := Option.bind_eq_some_iff.mp h
  exact ob_callS F d im hl (hM b hb) hn hs hw hR (kk b h)
theorem ob_cSl {idx : Nat} {y : MethodName} {bytes : ByteArray} {maxL np fr2 lo2 : Nat} {rt : Option FieldType} {As rest : List Value} {x : Option Int64} {f : Int64 → Option α} (F : ob_Fx C cc nL own ret fr lo) (d : decode cc pc = .ok (.invokestatic idx, 3)) (im : ob_Is y bytes maxL rt np) (hl : Cond.methodLink own idx y ∈ ob_GT) (h : x.bind f = some r) (hM : ∀ b, x = some b → ob_Mt (ob_cf C) y bytes maxL rt fr2 lo2 As g (some (.long b)) g) (hn : As.length = np) (hs : st = As.reverse ++ rest) (hw : (rest.map fun v => v.category).sum ≤ 8) (hR : fr2 + 1 ≤ fr ∧ 8 + (maxL + 11) + lo2 ≤ lo) (kk : ∀ b, f b = some r → ob_Ev C (pc + 3) ls (.long b :: rest) g) : ob_Ev C pc ls st g := by
  obtain ⟨b, hb, h⟩ := Option.bind_eq_some_iff.mp h
  exact ob_callS F d im hl (hM b hb) hn hs hw hR (kk b h)
theorem ob_cSlS {idx : Nat} {y : MethodName} {bytes : ByteArray} {maxL np fr2 lo2 : Nat} {rt : Option FieldType} {As rest : List Value} {x : Option (Int64 × ob_St)} {f : (Int64 × ob_St) → Option α} (F : ob_Fx C cc nL own ret fr lo) (d : decode cc pc = .ok (.invokestatic idx, 3)) (im : ob_Is y bytes maxL rt np) (hl : Cond.methodLink own idx y ∈ ob_GT) (h : x.bind f = some r) (hM : ∀ b, x = some b → ob_Mt (ob_cf C) y bytes maxL rt fr2 lo2 As g (some (.long b.1)) b.2) (hn : As.length = np) (hs : st = As.reverse ++ rest) (hw : (rest.map fun v => v.category).sum ≤ 8) (hR : fr2 + 1 ≤ fr ∧ 8 + (maxL + 11) + lo2 ≤ lo) (kk : ∀ b, f b = some r → ob_Ev C (pc + 3) ls (.long b.1 :: rest) b.2) : ob_Ev C pc ls st g := by
  obtain ⟨b, hb, h⟩ := Option.bind_eq_some_iff.mp h
  exact ob_callS F d im hl (hM b hb) hn hs hw hR (kk b h)
theorem ob_cSr {idx : Nat} {y : MethodName} {bytes : ByteArray} {maxL np fr2 lo2 : Nat} {rt : Option FieldType} {As rest : List Value} {x : Option Nat} {f : Nat → Option α} (F : ob_Fx C cc nL own ret fr lo) (d : decode cc pc = .ok (.invokestatic idx, 3)) (im : ob_Is y bytes maxL rt np) (hl : Cond.methodLink own idx y ∈ ob_GT) (h : x.bind f = some r) (hM : ∀ b, x = some b → ob_Mt (ob_cf C) y bytes maxL rt fr2 lo2 As g (some (ob_rv C b)) g) (hn : As.length = np) (hs : st = As.reverse ++ rest) (hw : (rest.map fun v => v.category).sum ≤ 8) (hR : fr2 + 1 ≤ fr ∧ 8 + (maxL + 11) + lo2 ≤ lo) (kk : ∀ b, f b = some r → ob_Ev C (pc + 3) ls (ob_rv C b :: rest) g) : ob_Ev C pc ls st g := by
  obtain ⟨b, hb, h⟩ := Option.bind_eq_some_iff.mp h
  exact ob_callS F d im hl (hM b hb) hn hs hw hR (kk b h)
theorem ob_cSrS {idx : Nat} {y : MethodName} {bytes : ByteArray} {maxL np fr2 lo2 : Nat} {rt : Option FieldType} {As rest : List Value} {x : Option (Nat × ob_St)} {f : (Nat × ob_St) → Option α} (F : ob_Fx C cc nL own ret fr lo) (d : decode cc pc = .ok (.invokestatic idx, 3)) (im : ob_Is y bytes maxL rt np) (hl : Cond.methodLink own idx y ∈ ob_GT) (h : x.bind f = some r) (hM : ∀ b, x = some b → ob_Mt (ob_cf C) y bytes maxL rt fr2 lo2 As g (some (ob_rv C b.1)) b.2) (hn : As.length = np) (hs : st = As.reverse ++ rest) (hw : (rest.map fun v => v.category).sum ≤ 8) (hR : fr2 + 1 ≤ fr ∧ 8 + (maxL + 11) + lo2 ≤ lo) (kk : ∀ b, f b = some r → ob_Ev C (pc + 3) ls (ob_rv C b.1 :: rest) b.2) : ob_Ev C pc ls st g := by
  obtain ⟨b, hb, h⟩ := Option.bind_eq_some_iff.mp h
  exact ob_callS F d im hl (hM b hb) hn hs hw hR (kk b h)
theorem ob_cSvS {idx : Nat} {y : MethodName} {bytes : ByteArray} {maxL np fr2 lo2 : Nat} {rt : Option FieldType} {As rest : List Value} {x : Option ob_St} {f : ob_St → Option α} (F : ob_Fx C cc nL own ret fr lo) (d : decode cc pc = .ok (.invokestatic idx, 3)) (im : ob_Is y bytes maxL rt np) (hl : Cond.methodLink own idx y ∈ ob_GT) (h : x.bind f = some r) (hM : ∀ b, x = some b → ob_Mt (ob_cf C) y bytes maxL rt fr2 lo2 As g none b) (hn : As.length = np) (hs : st = As.reverse ++ rest) (hw : (rest.map fun v => v.category).sum ≤ 8) (hR : fr2 + 1 ≤ fr ∧ 8 + (maxL + 11) + lo2 ≤ lo) (kk : ∀ b, f b = some r → ob_Ev C (pc + 3) ls rest b) : ob_Ev C pc ls st g := by
  obtain ⟨b, hb, h⟩ := Option.bind_eq_some_iff.mp h
  exact ob_callS F d im hl (hM b hb) hn hs hw hR (kk b h)
theorem ob_cNi {idx : Nat} {y : MethodName} {bytes : ByteArray} {maxL np fr2 lo2 : Nat} {rt : Option FieldType} {As rest : List Value} {x : Option Int32} {f : Int32 → Option α} (F : ob_Fx C cc nL own ret fr lo) (d : decode cc pc = .ok (.invokestatic idx, 3)) (im : ob_Is y bytes maxL rt np) (hl : (own, idx, y) ∈ ob_nest) (h : x.bind f = some r) (hM : ∀ b, x = some b → ob_Mt (ob_cf C) y bytes maxL rt fr2 lo2 As g (some (.int b)) g) (hn : As.length = np) (hs : st = As.reverse ++ rest) (hw : (rest.map fun v => v.category).sum ≤ 8) (hR : fr2 + 1 ≤ fr ∧ 8 + (maxL + 11) + lo2 ≤ lo) (kk : ∀ b, f b = some r → ob_Ev C (pc + 3) ls (.int b :: rest) g) : ob_Ev C pc ls st g := by
  obtain ⟨b, hb, h⟩ := Option.bind_eq_some_iff.mp h
  exact ob_callN F d im hl (hM b hb) hn hs hw hR (kk b h)
theorem ob_cNiS {idx : Nat} {y : MethodName} {bytes : ByteArray} {maxL np fr2 lo2 : Nat} {rt : Option FieldType} {As rest : List Value} {x : Option (Int32 × ob_St)} {f : (Int32 × ob_St) → Option α} (F : ob_Fx C cc nL own ret fr lo) (d : decode cc pc = .ok (.invokestatic idx, 3)) (im : ob_Is y bytes maxL rt np) (hl : (own, idx, y) ∈ ob_nest) (h : x.bind f = some r) (hM : ∀ b, x = some b → ob_Mt (ob_cf C) y bytes maxL rt fr2 lo2 As g (some (.int b.1)) b.2) (hn : As.length = np) (hs : st = As.reverse ++ rest) (hw : (rest.map fun v => v.category).sum ≤ 8) (hR : fr2 + 1 ≤ fr ∧ 8 + (maxL + 11) + lo2 ≤ lo) (kk : ∀ b, f b = some r → ob_Ev C (pc + 3) ls (.int b.1 :: rest) b.2) : ob_Ev C pc ls st g := by
  obtain ⟨b, hb, h⟩ := Option.bind_eq_some_iff.mp h
  exact ob_callN F d im hl (hM b hb) hn hs hw hR (kk b h)
theorem ob_cNl {idx : Nat} {y : MethodName} {bytes : ByteArray} {maxL np fr2 lo2 : Nat} {rt : Option FieldType} {As rest : List Value} {x : Option Int64} {f : Int64 → Option α} (F : ob_Fx C cc nL own ret fr lo) (d : decode cc pc = .ok (.invokestatic idx, 3)) (im : ob_Is y bytes maxL rt np) (hl : (own, idx, y) ∈ ob_nest) (h : x.bind f = some r) (hM : ∀ b, x = some b → ob_Mt (ob_cf C) y bytes maxL rt fr2 lo2 As g (some (.long b)) g) (hn : As.length = np) (hs : st = As.reverse ++ rest) (hw : (rest.map fun v => v.category).sum ≤ 8) (hR : fr2 + 1 ≤ fr ∧ 8 + (maxL + 11) + lo2 ≤ lo) (kk : ∀ b, f b = some r → ob_Ev C (pc + 3) ls (.long b :: rest) g) : ob_Ev C pc ls st g := by
  obtain ⟨b, hb, h⟩ := Option.bind_eq_some_iff.mp h
  exact ob_callN F d im hl (hM b hb) hn hs hw hR (kk b h)
theorem ob_cNlS {idx : Nat} {y : MethodName} {bytes : ByteArray} {maxL np fr2 lo2 : Nat} {rt : Option FieldType} {As rest : List Value} {x : Option (Int64 × ob_St)} {f : (Int64 × ob_St) → Option α} (F : ob_Fx C cc nL own ret fr lo) (d : decode cc pc = .ok (.invokestatic idx, 3)) (im : ob_Is y bytes maxL rt np) (hl : (own, idx, y) ∈ ob_nest) (h : x.bind f = some r) (hM : ∀ b, x = some b → ob_Mt (ob_cf C) y bytes maxL rt fr2 lo2 As g (some (.long b.1)) b.2) (hn : As.length = np) (hs : st = As.reverse ++ rest) (hw : (rest.map fun v => v.category).sum ≤ 8) (hR : fr2 + 1 ≤ fr ∧ 8 + (maxL + 11) + lo2 ≤ lo) (kk : ∀ b, f b = some r → ob_Ev C (pc + 3) ls (.long b.1 :: rest) b.2) : ob_Ev C pc ls st g := by
  obtain ⟨b, hb, h⟩ := Option.bind_eq_some_iff.mp h
  exact ob_callN F d im hl (hM b hb) hn hs hw hR (kk b h)
theorem ob_cNr {idx : Nat} {y : MethodName} {bytes : ByteArray} {maxL np fr2 lo2 : Nat} {rt : Option FieldType} {As rest : List Value} {x : Option Nat} {f : Nat → Option α} (F : ob_Fx C cc nL own ret fr lo) (d : decode cc pc = .ok (.invokestatic idx, 3)) (im : ob_Is y bytes maxL rt np) (hl : (own, idx, y) ∈ ob_nest) (h : x.bind f = some r) (hM : ∀ b, x = some b → ob_Mt (ob_cf C) y bytes maxL rt fr2 lo2 As g (some (ob_rv C b)) g) (hn : As.length = np) (hs : st = As.reverse ++ rest) (hw : (rest.map fun v => v.category).sum ≤ 8) (hR : fr2 + 1 ≤ fr ∧ 8 + (maxL + 11) + lo2 ≤ lo) (kk : ∀ b, f b = some r → ob_Ev C (pc + 3) ls (ob_rv C b :: rest) g) : ob_Ev C pc ls st g := by
  obtain ⟨b, hb, h⟩ := Option.bind_eq_some_iff.mp h
  exact ob_callN F d im hl (hM b hb) hn hs hw hR (kk b h)
theorem ob_cNrS {idx : Nat} {y : MethodName} {bytes : ByteArray} {maxL np fr2 lo2 : Nat} {rt : Option FieldType} {As rest : List Value} {x : Option (Nat × ob_St)} {f : (Nat × ob_St) → Option α} (F : ob_Fx C cc nL own ret fr lo) (d : decode cc pc = .ok (.invokestatic idx, 3)) (im : ob_Is y bytes maxL rt np) (hl : (own, idx, y) ∈ ob_nest) (h : x.bind f = some r) (hM : ∀ b, x = some b → ob_Mt (ob_cf C) y bytes maxL rt fr2 lo2 As g (some (ob_rv C b.1)) b.2) (hn : As.length = np) (hs : st = As.reverse ++ rest) (hw : (rest.map fun v => v.category).sum ≤ 8) (hR : fr2 + 1 ≤ fr ∧ 8 + (maxL + 11) + lo2 ≤ lo) (kk : ∀ b, f b = some r → ob_Ev C (pc + 3) ls (ob_rv C b.1 :: rest) b.2) : ob_Ev C pc ls st g := by
  obtain ⟨b, hb, h⟩ := Option.bind_eq_some_iff.mp h
  exact ob_callN F d im hl (hM b hb) hn hs hw hR (kk b h)
theorem ob_cNvS {idx : Nat} {y : MethodName} {bytes : ByteArray} {maxL np fr2 lo2 : Nat} {rt : Option FieldType} {As rest : List Value} {x : Option ob_St} {f : ob_St → Option α} (F : ob_Fx C cc nL own ret fr lo) (d : decode cc pc = .ok (.invokestatic idx, 3)) (im : ob_Is y bytes maxL rt np) (hl : (own, idx, y) ∈ ob_nest) (h : x.bind f = some r) (hM : ∀ b, x = some b → ob_Mt (ob_cf C) y bytes maxL rt fr2 lo2 As g none b) (hn : As.length = np) (hs : st = As.reverse ++ rest) (hw : (rest.map fun v => v.category).sum ≤ 8) (hR : fr2 + 1 ≤ fr ∧ 8 + (maxL + 11) + lo2 ≤ lo) (kk : ∀ b, f b = some r → ob_Ev C (pc + 3) ls rest b) : ob_Ev C pc ls st g := by
  obtain ⟨b, hb, h⟩ := Option.bind_eq_some_iff.mp h
  exact ob_callN F d im hl (hM b hb) hn hs hw hR (kk b h)

end OBR
