/-! THE CLAIM OUT OF ONE WALK OF THE LAW'S BODY. Your part is whole_start (and what it stands on); all else here is the same for every law, but numbers. -/
def R_law : String := "OptionBenchLaw"
def lw_P (b : Addr) (xs : List Int32) (args : Array Value) (s : State) : Prop := args = #[.ref b] ∧ s.IntsAt b xs ∧ xs.length ≤ 3072 ∧ (Jvm.Cond.and given_1 narrow_1).before args s = true
def lw_Q (_ : Array Value) (s : State) (o : Outcome) (t : State) : Prop := o = .returned (some (.int 1)) ∧ Framed s o t [] 601024 7293034
def lw_Z (below : List Frame) (a : Array Value) (s : State) : State → Prop := fun t => ∃ o, t.status = .running ∧ Ended t below o ∧ lw_Q a s o t
/-- the law's own end, with 1 on the stack, nothing written that was there before, its room as the claim has it -/
theorem lw_ret {p : Program} {l : Launch} {e : Env} {s : State} {m : MethodId} {below : List Frame} {meth : Method} {c : Code} {b : Nat} (hx : p.tables.exec = Jvm.exec) (hb : c.code = code) (hr : meth.sig.returnType = ret) (hlocks : meth.locks = false) {pc : Nat} {H : Heap} {ls : Array Slot} (hdg : decode code pc = .ok (.ireturn, 1)) : W p l e room_1 s m #[Value.ref b] below meth c H [] 601024 7293034 (lw_Z below #[Value.ref b] s) (F0 m pc ls [.int 1]) := by
  intro T hT X
  obtain ⟨fs, hret, hrun, hended, hW, hframe⟩ := X.leave (v := some (.int 1)) (hlocks := hlocks) (fun h => by rw [hr] at h; cases h)
  have hmeth' : T.vm.method? m = some meth := X.method'
  refine ⟨T.setFrames fs, ?_, .returned (some (.int 1)), hrun, hended, rfl, ⟨_, rfl⟩, hW, hframe⟩
  jvm_step X.here [X.here.top, hx, hb, hdg, hmeth', hr, ret, narrow_b1]
  (try refine ⟨rfl, ?_⟩); (try refine ⟨rfl, ?_⟩)
  first | (intro acts; rw [hret _ acts rfl rfl rfl]) | rw [hret _ _ rfl rfl rfl]
  exact Steps.refl _
/-- what holds at the law's entry: the machine, the code, the tables' words (any of lw_tbl by 'hts w (by decide +kernel)'), the script of L ints xs at the cell b, what the Statement gives of the start (any of its parts by flat_of_before) -/
def lw_At (p : Program) (s : State) (m : MethodId) (meth : Method) (c : Code) (b L : Nat) (xs : Nat → Int32) : Prop :=
  p.tables.exec = Jvm.exec ∧ c.code = code ∧ meth.sig.returnType = ret ∧ c.maxLocals = 8 ∧ s.vm.findClass R_law = some m.cls ∧ (∀ w ∈ lw_tbl, w.before #[Value.ref b] s = true) ∧ va_X b L xs s s.heap ∧ b < s.heap.size ∧ meth.locks = false ∧ (Jvm.Cond.and given_1 narrow_1).before #[Value.ref b] s = true
theorem st_cls {s : State} {args : Array Value} (hG : ∀ w ∈ ob_GT, w.before args s = true) : ∃ (dC : Nat → ClassId) (dI : Nat → Nat → Nat), ∀ (k : Nat) (q : vw_C), vwCl[k]? = some q → u_Kn s q.1 q.2.1 q.2.2 (dC k) (dI k) := by
  have key : ∀ k : Nat, ∃ z : ClassId × (Nat → Nat), ∀ q : vw_C, vwCl[k]? = some q → u_Kn s q.1 q.2.1 q.2.2 z.1 z.2 := by
    intro k
    match k with
    | 0 =>
      obtain ⟨c, i, h⟩ := u_known (C := RX0) (T := TX0) (N := 4) (n := 4) hG inX0 (hG _ tw2_39)
      exact ⟨(c, i), fun q hq => by cases hq; exact h⟩
    | 1 =>
      obtain ⟨c, i, h⟩ := u_known (C := RX1) (T := TX1) (N := 10) (n := 10) hG inX1 (hG _ tw1_39)
      exact ⟨(c, i), fun q hq => by cases hq; exact h⟩
    | 2 =>
      obtain ⟨c, i, h⟩ := u_known (C := RX2) (T := TX2) (N := 3) (n := 3) hG inX2 (hG _ tw2_166)
      exact ⟨(c, i), fun q hq => by cases hq; exact h⟩
    | 3 =>
      obtain ⟨c, i, h⟩ := u_known (C := RX3) (T := TX3) (N := 7) (n := 7) hG inX3 (hG _ tw2_62)
      exact ⟨(c, i), fun q hq => by cases hq; exact h⟩
    | 4 =>
      obtain ⟨c, i, h⟩ := u_known (C := RX4) (T := TX4) (N := 2) (n := 2) hG inX4 (hG _ tw2_75)
      exact ⟨(c, i), fun q hq => by cases hq; exact h⟩
    | 5 =>
      obtain ⟨c, i, h⟩ := u_known (C := RX5) (T := TX5) (N := 7) (n := 7) hG inX5 (hG _ tw1_32)
      exact ⟨(c, i), fun q hq => by cases hq; exact h⟩
    | 6 =>
      obtain ⟨c, i, h⟩ := u_known (C := RX6) (T := TX6) (N := 3) (n := 3) hG inX6 (hG _ tw2_150)
      exact ⟨(c, i), fun q hq => by cases hq; exact h⟩
    | 7 =>
      obtain ⟨c, i, h⟩ := u_known (C := RX7) (T := TX7) (N := 8) (n := 8) hG inX7 (hG _ tw1_162)
      exact ⟨(c, i), fun q hq => by cases hq; exact h⟩
    | 8 =>
      obtain ⟨c, i, h⟩ := u_known (C := RX8) (T := TX8) (N := 5) (n := 5) hG inX8 (hG _ tw2_186)
      exact ⟨(c, i), fun q hq => by cases hq; exact h⟩
    | 9 =>
      obtain ⟨c, i, h⟩ := u_known (C := RX9) (T := TX9) (N := 3) (n := 3) hG inX9 (hG _ tw2_69)
      exact ⟨(c, i), fun q hq => by cases hq; exact h⟩
    | 10 =>
      obtain ⟨c, i, h⟩ := u_known (C := RX10) (T := TX10) (N := 5) (n := 5) hG inX10 (hG _ tw1_170)
      exact ⟨(c, i), fun q hq => by cases hq; exact h⟩
    | 11 =>
      obtain ⟨c, i, h⟩ := u_known (C := RX11) (T := TX11) (N := 12) (n := 12) hG inX11 (hG _ tw1_24)
      exact ⟨(c, i), fun q hq => by cases hq; exact h⟩
    | 12 =>
      obtain ⟨c, i, h⟩ := u_known (C := RX12) (T := TX12) (N := 30) (n := 30) hG inX12 (hG _ tw5_173)
      exact ⟨(c, i), fun q hq => by cases hq; exact h⟩
    | k + 13 => exact ⟨(0, fun _ => 0), fun q hq => by simp [vwCl] at hq⟩
  exact ⟨fun k => (Classical.choose (key k)).1, fun k => (Classical.choose (key k)).2, fun k q hq => Classical.choose_spec (key k) q hq⟩
theorem st_arr {s : State} {args : Array Value} (hts : ∀ w ∈ lw_tbl, w.before args s = true) : ∃ ca : Nat → ClassId, ∀ (k : Nat) (q : ClassId × FieldType), (ob_ty ca)[k]? = some q → ArrOfT s q.1 q.2 ∧ va_RA s q.1 q.2 := by
  have hp : ∀ ty : FieldType, (∀ C, ty ≠ .object C) → (Cond.arrayClass ty).before args s = true → ∃ c : ClassId, ArrOfT s c ty ∧ va_RA s c ty := by
    intro ty hne h
    obtain ⟨c, k, comp, h1, h2, h3⟩ := Cond.arrayClass_spec h
    refine ⟨c, fun n z => ⟨fun k h => (by cases h), k, h2, comp, h3⟩, ?_⟩
    cases ty <;> first | exact h1 | exact absurd rfl (hne _)
  have ho : ∀ C : String, (Cond.arrayOver (.object C)).before args s = true → ∃ c : ClassId, ArrOfT s c (.object C) ∧ va_RA s c (.object C) := by
    intro C h
    obtain ⟨comp, c, k, h1, h2, h3, h4, h5⟩ := Cond.arrayOver_spec h
    exact ⟨c, fun n z => ⟨fun k h => (by cases h), k, h3, comp, h4⟩, k, comp, h3, h4, h1, h5⟩
  have ha : ∀ t : FieldType, (Cond.arrayOver (.array t)).before args s = true → ∃ c : ClassId, ArrOfT s c (.array t) ∧ va_RA s c (.array t) := by
    intro t h
    obtain ⟨comp, c, k, h1, h2, h3, h4⟩ := Cond.arrayOver_specA h
    exact ⟨c, fun n z => ⟨fun k h => (by cases h), k, h2, comp, h3⟩, h4⟩
  obtain ⟨c13, e13⟩ := hp .byte (fun _ h => by cases h) (hts _ (by decide +kernel))
  obtain ⟨c14, e14⟩ := hp .int (fun _ h => by cases h) (hts _ (by decide +kernel))
  obtain ⟨c15, e15⟩ := hp .long (fun _ h => by cases h) (hts _ (by decide +kernel))
  obtain ⟨c16, e16⟩ := hp .boolean (fun _ h => by cases h) (hts _ (by decide +kernel))
  obtain ⟨c17, e17⟩ := ho "OptionBench$Contract" (hts _ (by decide +kernel))
  obtain ⟨c18, e18⟩ := ho "OptionBench$Market" (hts _ (by decide +kernel))
  obtain ⟨c19, e19⟩ := ho "OptionBench$Sheet" (hts _ (by decide +kernel))
  obtain ⟨c20, e20⟩ := ha .int (hts _ (by decide +kernel))
  obtain ⟨c21, e21⟩ := ha .long (hts _ (by decide +kernel))
  refine ⟨fun k => [c13, c14, c15, c16, c17, c18, c19, c20, c21].getD (k - 13) 0, fun k q hq => ?_⟩
  match k, hq with
  | 0, hq => cases hq; exact e13
  | 1, hq => cases hq; exact e14
  | 2, hq => cases hq; exact e15
  | 3, hq => cases hq; exact e16
  | 4, hq => cases hq; exact e17
  | 5, hq => cases hq; exact e18
  | 6, hq => cases hq; exact e19
  | 7, hq => cases hq; exact e20
  | 8, hq => cases hq; exact e21
  | k + 9, hq => simp [ob_ty] at hq
theorem st_kn0 : ((flatC (Jvm.Cond.and given_1 narrow_1)).drop 14).take 120 = (List.range 120).map (fun j => Cond.eq (.elem (.static "OptionBenchModel" "KNOWN" "[B") (.int (Int32.ofNat j))) (.int (ob_kn j))) := by decide +kernel
theorem st_kn : ∀ j, j < 120 → Cond.eq (.elem (.static "OptionBenchModel" "KNOWN" "[B") (.int (Int32.ofNat j))) (.int (ob_kn j)) ∈ flatC (Jvm.Cond.and given_1 narrow_1) := fun j hj => List.mem_of_mem_drop (List.mem_of_mem_take (by rw [st_kn0]; exact List.mem_map.mpr ⟨j, List.mem_range.mpr hj, rfl⟩))
theorem st_kw0 : ((flatC (Jvm.Cond.and given_1 narrow_1)).drop 151).take 110 = (List.range 110).map (fun j => Cond.eq (.elem (.field (.string RX10 29) "java/lang/String" "value" "[B") (.int (Int32.ofNat j))) (.int (kv_kb.getD j 0))) := by decide +kernel
theorem st_kw : ∀ j, j < 110 → Cond.eq (.elem (.field (.string RX10 29) "java/lang/String" "value" "[B") (.int (Int32.ofNat j))) (.int (kv_kb.getD j 0)) ∈ flatC (Jvm.Cond.and given_1 narrow_1) := fun j hj => List.mem_of_mem_drop (List.mem_of_mem_take (by rw [st_kw0]; exact List.mem_map.mpr ⟨j, List.mem_range.mpr hj, rfl⟩))
theorem st_nk : ∀ q ∈ kv_nest, Cond.methodLinkNest q.1 q.2.1 q.2.2 RX11 ∈ lw_tbl := by decide +kernel
theorem st_nb : ∀ q ∈ ob_nest, Cond.methodLinkNest q.1 q.2.1 q.2.2 RX11 ∈ lw_tbl := by decide +kernel
theorem st_xw : ∀ w ∈ ob_xw, w ∈ lw_tbl := by decide +kernel
theorem st_facts {s : State} {b : Nat} (hts : ∀ w ∈ lw_tbl, w.before #[Value.ref b] s = true) (hgv : (Jvm.Cond.and given_1 narrow_1).before #[Value.ref b] s = true) {A : Nat → Prop} (hA : ∀ a : Nat, a < s.heap.size → ¬ A a) :
    ∃ kq vq tk : Nat, (∀ ad : Nat → Nat, ad 1 = kq → ad 2 = vq → kv_S ad A s s.heap ∧ kv_N ad s) ∧ (∀ ad : Nat → Nat, ad 126 = tk → ob_SF ad A s s.heap) ∧ ob_Nst s := by
  have hs := flat_of_before _ hgv
  have z1 : va_Z "java/lang/String" "COMPACT_STRINGS" "Z" (.int 1) A s s.heap := va_Zof (hts (.laysStatic "java/lang/String" "COMPACT_STRINGS" "Z") (by decide +kernel)) (hts (.initialized "java/lang/String") (by decide +kernel)) (va_eqt (hs (.eq (.static "java/lang/String" "COMPACT_STRINGS" "Z") (.int 1)) (by decide +kernel))) hA
  have z2 : va_Zq "jdk/internal/util/Preconditions" "SIOOBE_FORMATTER" "Ljava/util/function/BiFunction;" A s s.heap := va_Zqof (hts (.laysStatic "jdk/internal/util/Preconditions" "SIOOBE_FORMATTER" "Ljava/util/function/BiFunction;") (by decide +kernel)) (hts (.initialized "jdk/internal/util/Preconditions") (by decide +kernel)) (hs (.isRef (.static "jdk/internal/util/Preconditions" "SIOOBE_FORMATTER" "Ljava/util/function/BiFunction;")) (by decide +kernel)) hA
  have z3 : vx_Zq Bundle.tN "UNASSIGNED_STACK" Bundle.steD A s s.heap := vx_Zqof (hts (.laysStatic Bundle.tN "UNASSIGNED_STACK" Bundle.steD) (by decide +kernel)) (hts (.initialized Bundle.tN) (by decide +kernel)) (hs (.isRef (.static Bundle.tN "UNASSIGNED_STACK" Bundle.steD)) (by decide +kernel)) hA
  have z4 : vx_Zq Bundle.tN "SUPPRESSED_SENTINEL" Bundle.listD A s s.heap := vx_Zqof (hts (.laysStatic Bundle.tN "SUPPRESSED_SENTINEL" Bundle.listD) (by decide +kernel)) (hts (.initialized Bundle.tN) (by decide +kernel)) (hs (.isRef (.static Bundle.tN "SUPPRESSED_SENTINEL" Bundle.listD)) (by decide +kernel)) hA
  obtain ⟨tk, k1, k2⟩ := va_Tof (tm := .static "OptionBenchModel" "KNOWN" "[B") (ty := .byte) (N := 120) (f := fun j => .int (ob_kn j)) (A := A) (by decide) (hs (.arrayOf (.static "OptionBenchModel" "KNOWN" "[B") .byte) (by decide +kernel)) (va_eqt (hs (.eq (.length (.static "OptionBenchModel" "KNOWN" "[B")) (.int 120)) (by decide +kernel))) (fun j hj => va_eqt (hs _ (st_kn j hj))) hA
  have k3 : va_Z "OptionBenchModel" "KNOWN" "[B" (.ref tk) A s s.heap := va_Zref (hts (.laysStatic "OptionBenchModel" "KNOWN" "[B") (by decide +kernel)) (hts (.initialized "OptionBenchModel") (by decide +kernel)) k1 hA
  obtain ⟨adK, adV, s1, s2⟩ := vk_Sof (args := #[Value.ref b]) (s := s) (N := 1) (tm := fun _ => .string RX10 29) (len := [110]) (byt := [kv_kb]) (A := A) (fun i hi => by rcases (show i = 0 by omega) with rfl; decide) (fun i _ => hs (.exactly (.string RX10 29) "java/lang/String") (by decide +kernel)) (fun i _ => hs (.eq (.field (.string RX10 29) "java/lang/String" "coder" "B") (.int 0)) (by decide +kernel))
    (fun i _ => hs (.arrayOf (.field (.string RX10 29) "java/lang/String" "value" "[B") .byte) (by decide +kernel)) (fun i hi => by rcases (show i = 0 by omega) with rfl; exact hs (.eq (.length (.field (.string RX10 29) "java/lang/String" "value" "[B")) (.int 110)) (by decide +kernel))
    (fun i hi j hj => by rcases (show i = 0 by omega) with rfl; exact hs _ (st_kw j hj)) (fun i j h1 h2 h3 => absurd (show i = j by omega) h3) hA
  obtain ⟨s3, s4, s5, s6⟩ := s1.1 0 (by decide)
  have s7 := s2 0 (by decide)
  refine ⟨adK 0, adV 0, tk, fun ad h1 h2 => ⟨⟨z1, by rw [h1]; exact s3, by rw [h1]; exact s4, by rw [h1, h2]; exact s5, by rw [h2]; exact s6, z2⟩, fun q hq => va_Nw.of rfl (hts _ (st_nk q hq)), va_AO.of (hts (.arrayOver (.object "OptionBench$Contract")) (by decide +kernel)), va_AO.of (hts (.arrayOver (.object "OptionBench$Market")) (by decide +kernel)), va_AO.of (hts (.arrayOver (.object "OptionBench$Sheet")) (by decide +kernel)), va_AOA.of (hts (.arrayOver (.array .int)) (by decide +kernel)), va_AOA.of (hts (.arrayOver (.array .long)) (by decide +kernel)), by rw [h1]; exact vk_R.of (hts (.stringRef RX10 29 kv_kw) (by decide +kernel)) s7⟩, fun ad h => ⟨by rw [h]; exact k3, by rw [h]; exact k2, z3, z4⟩, fun q hq => va_Nw.of rfl (hts _ (st_nb q hq)), fun w hw => va_Nw.of (ob_xw_on w hw) (hts _ (st_xw w hw))⟩
def st_ws (ca : Nat → ClassId) (h1 h2 h3 : Nat) (qa qb : Nat → Nat) : va_W := W_X11_init ca h1 qa ++ (W_X12_init ca h2 qb ++ [(h3, .inl (ca 15, 1, .inr (.inl (fun _ => 0))))])
def st_ad (h1 h2 h3 : Nat) (qa qb : Nat → Nat) (tk : Nat) : Nat → Nat := fun n => ([h2, (qb 0), (qb 1), (qb 2), (qb 3), (qb 4), (qb 5), (qb 6), (qb 7), (qb 8), (qb 9), (qb 10), (qb 11), (qb 12), (qb 13), (qb 14), (qb 15), (qb 16), (qb 17), h3, h1, (qa 0), (qa 9), (qa 10), (qa 1), (qa 2), (qa 3), (qa 4), (qa 5), (qa 6), (qa 7), (qa 8), (qa 12), (qa 13), (qa 14), (qa 15), (qa 16), (qa 17), (qa 18), (qa 19), (qa 89), (qa 90), (qa 91), (qa 92), (qa 93), (qa 94), (qa 95), (qa 96), (qa 97), (qa 98), (qa 99), (qa 100), (qa 101), (qa 102), (qa 103), (qa 104), (qa 11), (qa 21), (qa 22), (qa 23), (qa 24), (qa 25), (qa 20), (qa 26), (qa 27), (qa 28), (qa 29), (qa 30), (qa 31), (qa 32), (qa 33), (qa 34), (qa 43), (qa 44), (qa 45), (qa 46), (qa 47), (qa 48), (qa 49), (qa 50), (qa 51), (qa 52), (qa 53), (qa 54), (qa 55), (qa 56), (qa 57), (qa 58), (qa 59), (qa 60), (qa 61), (qa 62), (qa 63), (qa 64), (qa 65), (qa 66), (qa 67), (qa 68), (qa 69), (qa 70), (qa 71), (qa 72), (qa 73), (qa 74), (qa 35), (qa 36), (qa 37), (qa 38), (qa 39), (qa 40), (qa 41), (qa 42), (qa 75), (qa 76), (qa 77), (qa 78), (qa 79), (qa 80), (qa 81), (qa 82), (qa 83), (qa 84), (qa 85), (qa 86), (qa 87), (qa 88)] ++ [tk]).getD n 0
def st_pm : List Nat := [106, 107, 108, 109, 110, 111, 112, 113, 114, 115, 116, 117, 118, 119, 120, 121, 122, 123, 124, 125, 0, 1, 10, 11, 2, 3, 4, 5, 6, 7, 8, 9, 13, 14, 15, 16, 17, 18, 19, 20, 90, 91, 92, 93, 94, 95, 96, 97, 98, 99, 100, 101, 102, 103, 104, 105, 12, 22, 23, 24, 25, 26, 21, 27, 28, 29, 30, 31, 32, 33, 34, 35, 44, 45, 46, 47, 48, 49, 50, 51, 52, 53, 54, 55, 56, 57, 58, 59, 60, 61, 62, 63, 64, 65, 66, 67, 68, 69, 70, 71, 72, 73, 74, 75, 36, 37, 38, 39, 40, 41, 42, 43, 76, 77, 78, 79, 80, 81, 82, 83, 84, 85, 86, 87, 88, 89]
def st_g0 : ob_St := (fun n k => if n = 1 then (upd (upd (fun _ => 0) 0 100) 1 2) k else if n = 24 ∨ n = 32 ∨ n = 40 ∨ n = 48 then (if k = 3 then 100 else if k = 4 then 2 else 0) else if n = 67 ∧ k = 6 then 1 else 0, fun n k => if n = 61 then kv_kf 110 k else 0)
theorem fs_0 {ad : Nat → Nat} {n : Nat} {i : Nat → Int32} : ob_fs ad n i (ob_mask 0) = [.ref (ad (ob_rf n 0)), .ref (ad (ob_rf n 1)), .ref (ad (ob_rf n 2)), .int (i 3)] := by
  unfold ob_fs
  rw [show ob_mask 0 = [true, true, true, false] from rfl]
  simp [List.mapIdx_cons]
theorem fs_1 {ad : Nat → Nat} {n : Nat} {i : Nat → Int32} : ob_fs ad n i (ob_mask 1) = [.int (i 0), .int (i 1), .int (i 2), .int (i 3), .int (i 4), .int (i 5), .int (i 6), .int (i 7), .int (i 8), .int (i 9)] := by
  unfold ob_fs
  rw [show ob_mask 1 = [false, false, false, false, false, false, false, false, false, false] from rfl]
  simp [List.mapIdx_cons]
theorem fs_2 {ad : Nat → Nat} {n : Nat} {i : Nat → Int32} : ob_fs ad n i (ob_mask 2) = [.ref (ad (ob_rf n 0)), .ref (ad (ob_rf n 1)), .ref (ad (ob_rf n 2))] := by
  unfold ob_fs
  rw [show ob_mask 2 = [true, true, true] from rfl]
  simp [List.mapIdx_cons]
theorem fs_3 {ad : Nat → Nat} {n : Nat} {i : Nat → Int32} : ob_fs ad n i (ob_mask 3) = [.ref (ad (ob_rf n 0)), .ref (ad (ob_rf n 1)), .ref (ad (ob_rf n 2)), .ref (ad (ob_rf n 3)), .ref (ad (ob_rf n 4)), .ref (ad (ob_rf n 5)), .int (i 6)] := by
  unfold ob_fs
  rw [show ob_mask 3 = [true, true, true, true, true, true, false] from rfl]
  simp [List.mapIdx_cons]
theorem fs_4 {ad : Nat → Nat} {n : Nat} {i : Nat → Int32} : ob_fs ad n i (ob_mask 4) = [.ref (ad (ob_rf n 0)), .ref (ad (ob_rf n 1))] := by
  unfold ob_fs
  rw [show ob_mask 4 = [true, true] from rfl]
  simp [List.mapIdx_cons]
theorem fs_5 {ad : Nat → Nat} {n : Nat} {i : Nat → Int32} : ob_fs ad n i (ob_mask 5) = [.ref (ad (ob_rf n 0)), .ref (ad (ob_rf n 1)), .ref (ad (ob_rf n 2)), .int (i 3), .int (i 4), .int (i 5), .int (i 6)] := by
  unfold ob_fs
  rw [show ob_mask 5 = [true, true, true, false, false, false, false] from rfl]
  simp [List.mapIdx_cons]
theorem fs_6 {ad : Nat → Nat} {n : Nat} {i : Nat → Int32} : ob_fs ad n i (ob_mask 6) = [.ref (ad (ob_rf n 0)), .ref (ad (ob_rf n 1)), .ref (ad (ob_rf n 2))] := by
  unfold ob_fs
  rw [show ob_mask 6 = [true, true, true] from rfl]
  simp [List.mapIdx_cons]
theorem fs_7 {ad : Nat → Nat} {n : Nat} {i : Nat → Int32} : ob_fs ad n i (ob_mask 7) = [.ref (ad (ob_rf n 0)), .int (i 1), .int (i 2), .ref (ad (ob_rf n 3)), .ref (ad (ob_rf n 4)), .int (i 5), .int (i 6), .int (i 7)] := by
  unfold ob_fs
  rw [show ob_mask 7 = [true, false, false, true, true, false, false, false] from rfl]
  simp [List.mapIdx_cons]
theorem fs_8 {ad : Nat → Nat} {n : Nat} {i : Nat → Int32} : ob_fs ad n i (ob_mask 8) = [.ref (ad (ob_rf n 0)), .ref (ad (ob_rf n 1)), .ref (ad (ob_rf n 2)), .ref (ad (ob_rf n 3)), .int (i 4)] := by
  unfold ob_fs
  rw [show ob_mask 8 = [true, true, true, true, false] from rfl]
  simp [List.mapIdx_cons]
theorem fs_9 {ad : Nat → Nat} {n : Nat} {i : Nat → Int32} : ob_fs ad n i (ob_mask 9) = [.ref (ad (ob_rf n 0)), .ref (ad (ob_rf n 1)), .ref (ad (ob_rf n 2))] := by
  unfold ob_fs
  rw [show ob_mask 9 = [true, true, true] from rfl]
  simp [List.mapIdx_cons]
theorem fs_10 {ad : Nat → Nat} {n : Nat} {i : Nat → Int32} : ob_fs ad n i (ob_mask 10) = [.ref (ad (ob_rf n 0)), .ref (ad (ob_rf n 1)), .ref (ad (ob_rf n 2)), .ref (ad (ob_rf n 3)), .ref (ad (ob_rf n 4))] := by
  unfold ob_fs
  rw [show ob_mask 10 = [true, true, true, true, true] from rfl]
  simp [List.mapIdx_cons]
theorem fs_11 {ad : Nat → Nat} {n : Nat} {i : Nat → Int32} : ob_fs ad n i (ob_mask 11) = [.ref (ad (ob_rf n 0)), .int (i 1), .int (i 2), .ref (ad (ob_rf n 3)), .ref (ad (ob_rf n 4)), .ref (ad (ob_rf n 5)), .ref (ad (ob_rf n 6)), .ref (ad (ob_rf n 7)), .ref (ad (ob_rf n 8)), .ref (ad (ob_rf n 9)), .ref (ad (ob_rf n 10)), .ref (ad (ob_rf n 11))] := by
  unfold ob_fs
  rw [show ob_mask 11 = [true, false, false, true, true, true, true, true, true, true, true, true] from rfl]
  simp [List.mapIdx_cons]
theorem fs_12 {ad : Nat → Nat} {n : Nat} {i : Nat → Int32} : ob_fs ad n i (ob_mask 12) = [.int (i 0), .ref (ad (ob_rf n 1)), .ref (ad (ob_rf n 2)), .ref (ad (ob_rf n 3)), .ref (ad (ob_rf n 4)), .ref (ad (ob_rf n 5)), .int (i 6), .ref (ad (ob_rf n 7)), .int (i 8), .int (i 9), .int (i 10), .int (i 11), .int (i 12), .int (i 13), .int (i 14), .int (i 15), .int (i 16), .ref (ad (ob_rf n 17)), .ref (ad (ob_rf n 18)), .int (i 19), .ref (ad (ob_rf n 20)), .ref (ad (ob_rf n 21)), .ref (ad (ob_rf n 22)), .ref (ad (ob_rf n 23)), .ref (ad (ob_rf n 24)), .ref (ad (ob_rf n 25)), .ref (ad (ob_rf n 26)), .ref (ad (ob_rf n 27)), .ref (ad (ob_rf n 28)), .ref (ad (ob_rf n 29))] := by
  unfold ob_fs
  rw [show ob_mask 12 = [false, true, true, true, true, true, false, true, false, false, false, false, false, false, false, false, false, true, true, false, true, true, true, true, true, true, true, true, true, true] from rfl]
  simp [List.mapIdx_cons]
theorem st_k0 {D : va_G} {ca : Nat → ClassId} {h1 h2 h3 tk : Nat} {qa qb : Nat → Nat} {H : Heap} (hP : va_P D vwCl (st_ws ca h1 h2 h3 qa qb) H) : va_at D vwCl (st_ad h1 h2 h3 qa qb tk 0, ob_cell (st_ad h1 h2 h3 qa qb tk) ca 0 (st_g0.1 0) (st_g0.2 0)) H := by
  rw [ob_cell_obj (K := 12) rfl (by decide), fs_12]
  exact hP 106 _ rfl
theorem st_k1 {D : va_G} {ca : Nat → ClassId} {h1 h2 h3 tk : Nat} {qa qb : Nat → Nat} {H : Heap} (hP : va_P D vwCl (st_ws ca h1 h2 h3 qa qb) H) : va_at D vwCl (st_ad h1 h2 h3 qa qb tk 1, ob_cell (st_ad h1 h2 h3 qa qb tk) ca 1 (st_g0.1 1) (st_g0.2 1)) H := by
  rw [ob_cell_I (K := 14) rfl (by decide) (by decide) (by decide)]
  exact hP 107 _ rfl
theorem st_k2 {D : va_G} {ca : Nat → ClassId} {h1 h2 h3 tk : Nat} {qa qb : Nat → Nat} {H : Heap} (hP : va_P D vwCl (st_ws ca h1 h2 h3 qa qb) H) : va_at D vwCl (st_ad h1 h2 h3 qa qb tk 2, ob_cell (st_ad h1 h2 h3 qa qb tk) ca 2 (st_g0.1 2) (st_g0.2 2)) H := by
  rw [ob_cell_I (K := 14) rfl (by decide) (by decide) (by decide)]
  exact hP 108 _ rfl
theorem st_k3 {D : va_G} {ca : Nat → ClassId} {h1 h2 h3 tk : Nat} {qa qb : Nat → Nat} {H : Heap} (hP : va_P D vwCl (st_ws ca h1 h2 h3 qa qb) H) : va_at D vwCl (st_ad h1 h2 h3 qa qb tk 3, ob_cell (st_ad h1 h2 h3 qa qb tk) ca 3 (st_g0.1 3) (st_g0.2 3)) H := by
  rw [ob_cell_I (K := 14) rfl (by decide) (by decide) (by decide)]
  exact hP 109 _ rfl
theorem st_k4 {D : va_G} {ca : Nat → ClassId} {h1 h2 h3 tk : Nat} {qa qb : Nat → Nat} {H : Heap} (hP : va_P D vwCl (st_ws ca h1 h2 h3 qa qb) H) : va_at D vwCl (st_ad h1 h2 h3 qa qb tk 4, ob_cell (st_ad h1 h2 h3 qa qb tk) ca 4 (st_g0.1 4) (st_g0.2 4)) H := by
  rw [ob_cell_I (K := 14) rfl (by decide) (by decide) (by decide)]
  exact hP 110 _ rfl
theorem st_k5 {D : va_G} {ca : Nat → ClassId} {h1 h2 h3 tk : Nat} {qa qb : Nat → Nat} {H : Heap} (hP : va_P D vwCl (st_ws ca h1 h2 h3 qa qb) H) : va_at D vwCl (st_ad h1 h2 h3 qa qb tk 5, ob_cell (st_ad h1 h2 h3 qa qb tk) ca 5 (st_g0.1 5) (st_g0.2 5)) H := by
  rw [ob_cell_I (K := 16) rfl (by decide) (by decide) (by decide)]
  exact hP 111 _ rfl
theorem st_k6 {D : va_G} {ca : Nat → ClassId} {h1 h2 h3 tk : Nat} {qa qb : Nat → Nat} {H : Heap} (hP : va_P D vwCl (st_ws ca h1 h2 h3 qa qb) H) : va_at D vwCl (st_ad h1 h2 h3 qa qb tk 6, ob_cell (st_ad h1 h2 h3 qa qb tk) ca 6 (st_g0.1 6) (st_g0.2 6)) H := by
  rw [ob_cell_I (K := 13) rfl (by decide) (by decide) (by decide)]
  exact hP 112 _ rfl
theorem st_k7 {D : va_G} {ca : Nat → ClassId} {h1 h2 h3 tk : Nat} {qa qb : Nat → Nat} {H : Heap} (hP : va_P D vwCl (st_ws ca h1 h2 h3 qa qb) H) : va_at D vwCl (st_ad h1 h2 h3 qa qb tk 7, ob_cell (st_ad h1 h2 h3 qa qb tk) ca 7 (st_g0.1 7) (st_g0.2 7)) H := by
  rw [ob_cell_I (K := 13) rfl (by decide) (by decide) (by decide)]
  exact hP 113 _ rfl
theorem st_k8 {D : va_G} {ca : Nat → ClassId} {h1 h2 h3 tk : Nat} {qa qb : Nat → Nat} {H : Heap} (hP : va_P D vwCl (st_ws ca h1 h2 h3 qa qb) H) : va_at D vwCl (st_ad h1 h2 h3 qa qb tk 8, ob_cell (st_ad h1 h2 h3 qa qb tk) ca 8 (st_g0.1 8) (st_g0.2 8)) H := by
  rw [ob_cell_I (K := 13) rfl (by decide) (by decide) (by decide)]
  exact hP 114 _ rfl
theorem st_k9 {D : va_G} {ca : Nat → ClassId} {h1 h2 h3 tk : Nat} {qa qb : Nat → Nat} {H : Heap} (hP : va_P D vwCl (st_ws ca h1 h2 h3 qa qb) H) : va_at D vwCl (st_ad h1 h2 h3 qa qb tk 9, ob_cell (st_ad h1 h2 h3 qa qb tk) ca 9 (st_g0.1 9) (st_g0.2 9)) H := by
  rw [ob_cell_J rfl]
  exact hP 115 _ rfl
theorem st_k10 {D : va_G} {ca : Nat → ClassId} {h1 h2 h3 tk : Nat} {qa qb : Nat → Nat} {H : Heap} (hP : va_P D vwCl (st_ws ca h1 h2 h3 qa qb) H) : va_at D vwCl (st_ad h1 h2 h3 qa qb tk 10, ob_cell (st_ad h1 h2 h3 qa qb tk) ca 10 (st_g0.1 10) (st_g0.2 10)) H := by
  rw [ob_cell_J rfl]
  exact hP 116 _ rfl
theorem st_k11 {D : va_G} {ca : Nat → ClassId} {h1 h2 h3 tk : Nat} {qa qb : Nat → Nat} {H : Heap} (hP : va_P D vwCl (st_ws ca h1 h2 h3 qa qb) H) : va_at D vwCl (st_ad h1 h2 h3 qa qb tk 11, ob_cell (st_ad h1 h2 h3 qa qb tk) ca 11 (st_g0.1 11) (st_g0.2 11)) H := by
  rw [ob_cell_J rfl]
  exact hP 117 _ rfl
theorem st_k12 {D : va_G} {ca : Nat → ClassId} {h1 h2 h3 tk : Nat} {qa qb : Nat → Nat} {H : Heap} (hP : va_P D vwCl (st_ws ca h1 h2 h3 qa qb) H) : va_at D vwCl (st_ad h1 h2 h3 qa qb tk 12, ob_cell (st_ad h1 h2 h3 qa qb tk) ca 12 (st_g0.1 12) (st_g0.2 12)) H := by
  rw [ob_cell_I (K := 13) rfl (by decide) (by decide) (by decide)]
  exact hP 118 _ rfl
theorem st_k13 {D : va_G} {ca : Nat → ClassId} {h1 h2 h3 tk : Nat} {qa qb : Nat → Nat} {H : Heap} (hP : va_P D vwCl (st_ws ca h1 h2 h3 qa qb) H) : va_at D vwCl (st_ad h1 h2 h3 qa qb tk 13, ob_cell (st_ad h1 h2 h3 qa qb tk) ca 13 (st_g0.1 13) (st_g0.2 13)) H := by
  rw [ob_cell_I (K := 13) rfl (by decide) (by decide) (by decide)]
  exact hP 119 _ rfl
theorem st_k14 {D : va_G} {ca : Nat → ClassId} {h1 h2 h3 tk : Nat} {qa qb : Nat → Nat} {H : Heap} (hP : va_P D vwCl (st_ws ca h1 h2 h3 qa qb) H) : va_at D vwCl (st_ad h1 h2 h3 qa qb tk 14, ob_cell (st_ad h1 h2 h3 qa qb tk) ca 14 (st_g0.1 14) (st_g0.2 14)) H := by
  rw [ob_cell_J rfl]
  exact hP 120 _ rfl
theorem st_k15 {D : va_G} {ca : Nat → ClassId} {h1 h2 h3 tk : Nat} {qa qb : Nat → Nat} {H : Heap} (hP : va_P D vwCl (st_ws ca h1 h2 h3 qa qb) H) : va_at D vwCl (st_ad h1 h2 h3 qa qb tk 15, ob_cell (st_ad h1 h2 h3 qa qb tk) ca 15 (st_g0.1 15) (st_g0.2 15)) H := by
  rw [ob_cell_J rfl]
  exact hP 121 _ rfl
theorem st_k16 {D : va_G} {ca : Nat → ClassId} {h1 h2 h3 tk : Nat} {qa qb : Nat → Nat} {H : Heap} (hP : va_P D vwCl (st_ws ca h1 h2 h3 qa qb) H) : va_at D vwCl (st_ad h1 h2 h3 qa qb tk 16, ob_cell (st_ad h1 h2 h3 qa qb tk) ca 16 (st_g0.1 16) (st_g0.2 16)) H := by
  rw [ob_cell_J rfl]
  exact hP 122 _ rfl
theorem st_k17 {D : va_G} {ca : Nat → ClassId} {h1 h2 h3 tk : Nat} {qa qb : Nat → Nat} {H : Heap} (hP : va_P D vwCl (st_ws ca h1 h2 h3 qa qb) H) : va_at D vwCl (st_ad h1 h2 h3 qa qb tk 17, ob_cell (st_ad h1 h2 h3 qa qb tk) ca 17 (st_g0.1 17) (st_g0.2 17)) H := by
  rw [ob_cell_J rfl]
  exact hP 123 _ rfl
theorem st_k18 {D : va_G} {ca : Nat → ClassId} {h1 h2 h3 tk : Nat} {qa qb : Nat → Nat} {H : Heap} (hP : va_P D vwCl (st_ws ca h1 h2 h3 qa qb) H) : va_at D vwCl (st_ad h1 h2 h3 qa qb tk 18, ob_cell (st_ad h1 h2 h3 qa qb tk) ca 18 (st_g0.1 18) (st_g0.2 18)) H := by
  rw [ob_cell_J rfl]
  exact hP 124 _ rfl
theorem st_k19 {D : va_G} {ca : Nat → ClassId} {h1 h2 h3 tk : Nat} {qa qb : Nat → Nat} {H : Heap} (hP : va_P D vwCl (st_ws ca h1 h2 h3 qa qb) H) : va_at D vwCl (st_ad h1 h2 h3 qa qb tk 19, ob_cell (st_ad h1 h2 h3 qa qb tk) ca 19 (st_g0.1 19) (st_g0.2 19)) H := by
  rw [ob_cell_J rfl]
  exact hP 125 _ rfl
theorem st_k20 {D : va_G} {ca : Nat → ClassId} {h1 h2 h3 tk : Nat} {qa qb : Nat → Nat} {H : Heap} (hP : va_P D vwCl (st_ws ca h1 h2 h3 qa qb) H) : va_at D vwCl (st_ad h1 h2 h3 qa qb tk 20, ob_cell (st_ad h1 h2 h3 qa qb tk) ca 20 (st_g0.1 20) (st_g0.2 20)) H := by
  rw [ob_cell_obj (K := 11) rfl (by decide), fs_11]
  exact hP 0 _ rfl
theorem st_k21 {D : va_G} {ca : Nat → ClassId} {h1 h2 h3 tk : Nat} {qa qb : Nat → Nat} {H : Heap} (hP : va_P D vwCl (st_ws ca h1 h2 h3 qa qb) H) : va_at D vwCl (st_ad h1 h2 h3 qa qb tk 21, ob_cell (st_ad h1 h2 h3 qa qb tk) ca 21 (st_g0.1 21) (st_g0.2 21)) H := by
  rw [ob_cell_I (K := 13) rfl (by decide) (by decide) (by decide)]
  exact hP 1 _ rfl
theorem st_k22 {D : va_G} {ca : Nat → ClassId} {h1 h2 h3 tk : Nat} {qa qb : Nat → Nat} {H : Heap} (hP : va_P D vwCl (st_ws ca h1 h2 h3 qa qb) H) : va_at D vwCl (st_ad h1 h2 h3 qa qb tk 22, ob_cell (st_ad h1 h2 h3 qa qb tk) ca 22 (st_g0.1 22) (st_g0.2 22)) H := by
  rw [ob_cell_R (K := 18) rfl (by decide)]
  show H[(qa 9)]? = some (vp_cell (ca 18) (2, _))
  exact Eq.trans (hP 10 _ rfl) (congrArg some (kv_refs (fun i hi => by rcases (show i = 0 ∨ i = 1 by omega) with rfl | rfl <;> rfl)))
theorem st_k23 {D : va_G} {ca : Nat → ClassId} {h1 h2 h3 tk : Nat} {qa qb : Nat → Nat} {H : Heap} (hP : va_P D vwCl (st_ws ca h1 h2 h3 qa qb) H) : va_at D vwCl (st_ad h1 h2 h3 qa qb tk 23, ob_cell (st_ad h1 h2 h3 qa qb tk) ca 23 (st_g0.1 23) (st_g0.2 23)) H := by
  rw [ob_cell_I (K := 16) rfl (by decide) (by decide) (by decide)]
  exact hP 11 _ rfl
theorem st_k24 {D : va_G} {ca : Nat → ClassId} {h1 h2 h3 tk : Nat} {qa qb : Nat → Nat} {H : Heap} (hP : va_P D vwCl (st_ws ca h1 h2 h3 qa qb) H) : va_at D vwCl (st_ad h1 h2 h3 qa qb tk 24, ob_cell (st_ad h1 h2 h3 qa qb tk) ca 24 (st_g0.1 24) (st_g0.2 24)) H := by
  rw [ob_cell_obj (K := 5) rfl (by decide), fs_5]
  exact hP 2 _ rfl
theorem st_k25 {D : va_G} {ca : Nat → ClassId} {h1 h2 h3 tk : Nat} {qa qb : Nat → Nat} {H : Heap} (hP : va_P D vwCl (st_ws ca h1 h2 h3 qa qb) H) : va_at D vwCl (st_ad h1 h2 h3 qa qb tk 25, ob_cell (st_ad h1 h2 h3 qa qb tk) ca 25 (st_g0.1 25) (st_g0.2 25)) H := by
  rw [ob_cell_I (K := 14) rfl (by decide) (by decide) (by decide)]
  exact hP 3 _ rfl
theorem st_k26 {D : va_G} {ca : Nat → ClassId} {h1 h2 h3 tk : Nat} {qa qb : Nat → Nat} {H : Heap} (hP : va_P D vwCl (st_ws ca h1 h2 h3 qa qb) H) : va_at D vwCl (st_ad h1 h2 h3 qa qb tk 26, ob_cell (st_ad h1 h2 h3 qa qb tk) ca 26 (st_g0.1 26) (st_g0.2 26)) H := by
  rw [ob_cell_I (K := 14) rfl (by decide) (by decide) (by decide)]
  exact hP 4 _ rfl
theorem st_k27 {D : va_G} {ca : Nat → ClassId} {h1 h2 h3 tk : Nat} {qa qb : Nat → Nat} {H : Heap} (hP : va_P D vwCl (st_ws ca h1 h2 h3 qa qb) H) : va_at D vwCl (st_ad h1 h2 h3 qa qb tk 27, ob_cell (st_ad h1 h2 h3 qa qb tk) ca 27 (st_g0.1 27) (st_g0.2 27)) H := by
  rw [ob_cell_R (K := 17) rfl (by decide)]
  show H[(qa 4)]? = some (vp_cell (ca 17) (4, _))
  exact Eq.trans (hP 5 _ rfl) (congrArg some (kv_refs (fun i hi => by rcases (show i = 0 ∨ i = 1 ∨ i = 2 ∨ i = 3 by omega) with rfl | rfl | rfl | rfl <;> rfl)))
theorem st_k28 {D : va_G} {ca : Nat → ClassId} {h1 h2 h3 tk : Nat} {qa qb : Nat → Nat} {H : Heap} (hP : va_P D vwCl (st_ws ca h1 h2 h3 qa qb) H) : va_at D vwCl (st_ad h1 h2 h3 qa qb tk 28, ob_cell (st_ad h1 h2 h3 qa qb tk) ca 28 (st_g0.1 28) (st_g0.2 28)) H := by
  rw [ob_cell_obj (K := 1) rfl (by decide), fs_1]
  exact hP 6 _ rfl
theorem st_k29 {D : va_G} {ca : Nat → ClassId} {h1 h2 h3 tk : Nat} {qa qb : Nat → Nat} {H : Heap} (hP : va_P D vwCl (st_ws ca h1 h2 h3 qa qb) H) : va_at D vwCl (st_ad h1 h2 h3 qa qb tk 29, ob_cell (st_ad h1 h2 h3 qa qb tk) ca 29 (st_g0.1 29) (st_g0.2 29)) H := by
  rw [ob_cell_obj (K := 1) rfl (by decide), fs_1]
  exact hP 7 _ rfl
theorem st_k30 {D : va_G} {ca : Nat → ClassId} {h1 h2 h3 tk : Nat} {qa qb : Nat → Nat} {H : Heap} (hP : va_P D vwCl (st_ws ca h1 h2 h3 qa qb) H) : va_at D vwCl (st_ad h1 h2 h3 qa qb tk 30, ob_cell (st_ad h1 h2 h3 qa qb tk) ca 30 (st_g0.1 30) (st_g0.2 30)) H := by
  rw [ob_cell_obj (K := 1) rfl (by decide), fs_1]
  exact hP 8 _ rfl
theorem st_k31 {D : va_G} {ca : Nat → ClassId} {h1 h2 h3 tk : Nat} {qa qb : Nat → Nat} {H : Heap} (hP : va_P D vwCl (st_ws ca h1 h2 h3 qa qb) H) : va_at D vwCl (st_ad h1 h2 h3 qa qb tk 31, ob_cell (st_ad h1 h2 h3 qa qb tk) ca 31 (st_g0.1 31) (st_g0.2 31)) H := by
  rw [ob_cell_obj (K := 1) rfl (by decide), fs_1]
  exact hP 9 _ rfl
theorem st_k32 {D : va_G} {ca : Nat → ClassId} {h1 h2 h3 tk : Nat} {qa qb : Nat → Nat} {H : Heap} (hP : va_P D vwCl (st_ws ca h1 h2 h3 qa qb) H) : va_at D vwCl (st_ad h1 h2 h3 qa qb tk 32, ob_cell (st_ad h1 h2 h3 qa qb tk) ca 32 (st_g0.1 32) (st_g0.2 32)) H := by
  rw [ob_cell_obj (K := 5) rfl (by decide), fs_5]
  exact hP 13 _ rfl
theorem st_k33 {D : va_G} {ca : Nat → ClassId} {h1 h2 h3 tk : Nat} {qa qb : Nat → Nat} {H : Heap} (hP : va_P D vwCl (st_ws ca h1 h2 h3 qa qb) H) : va_at D vwCl (st_ad h1 h2 h3 qa qb tk 33, ob_cell (st_ad h1 h2 h3 qa qb tk) ca 33 (st_g0.1 33) (st_g0.2 33)) H := by
  rw [ob_cell_I (K := 14) rfl (by decide) (by decide) (by decide)]
  exact hP 14 _ rfl
theorem st_k34 {D : va_G} {ca : Nat → ClassId} {h1 h2 h3 tk : Nat} {qa qb : Nat → Nat} {H : Heap} (hP : va_P D vwCl (st_ws ca h1 h2 h3 qa qb) H) : va_at D vwCl (st_ad h1 h2 h3 qa qb tk 34, ob_cell (st_ad h1 h2 h3 qa qb tk) ca 34 (st_g0.1 34) (st_g0.2 34)) H := by
  rw [ob_cell_I (K := 14) rfl (by decide) (by decide) (by decide)]
  exact hP 15 _ rfl
theorem st_k35 {D : va_G} {ca : Nat → ClassId} {h1 h2 h3 tk : Nat} {qa qb : Nat → Nat} {H : Heap} (hP : va_P D vwCl (st_ws ca h1 h2 h3 qa qb) H) : va_at D vwCl (st_ad h1 h2 h3 qa qb tk 35, ob_cell (st_ad h1 h2 h3 qa qb tk) ca 35 (st_g0.1 35) (st_g0.2 35)) H := by
  rw [ob_cell_R (K := 17) rfl (by decide)]
  show H[(qa 15)]? = some (vp_cell (ca 17) (4, _))
  exact Eq.trans (hP 16 _ rfl) (congrArg some (kv_refs (fun i hi => by rcases (show i = 0 ∨ i = 1 ∨ i = 2 ∨ i = 3 by omega) with rfl | rfl | rfl | rfl <;> rfl)))
theorem st_k36 {D : va_G} {ca : Nat → ClassId} {h1 h2 h3 tk : Nat} {qa qb : Nat → Nat} {H : Heap} (hP : va_P D vwCl (st_ws ca h1 h2 h3 qa qb) H) : va_at D vwCl (st_ad h1 h2 h3 qa qb tk 36, ob_cell (st_ad h1 h2 h3 qa qb tk) ca 36 (st_g0.1 36) (st_g0.2 36)) H := by
  rw [ob_cell_obj (K := 1) rfl (by decide), fs_1]
  exact hP 17 _ rfl
theorem st_k37 {D : va_G} {ca : Nat → ClassId} {h1 h2 h3 tk : Nat} {qa qb : Nat → Nat} {H : Heap} (hP : va_P D vwCl (st_ws ca h1 h2 h3 qa qb) H) : va_at D vwCl (st_ad h1 h2 h3 qa qb tk 37, ob_cell (st_ad h1 h2 h3 qa qb tk) ca 37 (st_g0.1 37) (st_g0.2 37)) H := by
  rw [ob_cell_obj (K := 1) rfl (by decide), fs_1]
  exact hP 18 _ rfl
theorem st_k38 {D : va_G} {ca : Nat → ClassId} {h1 h2 h3 tk : Nat} {qa qb : Nat → Nat} {H : Heap} (hP : va_P D vwCl (st_ws ca h1 h2 h3 qa qb) H) : va_at D vwCl (st_ad h1 h2 h3 qa qb tk 38, ob_cell (st_ad h1 h2 h3 qa qb tk) ca 38 (st_g0.1 38) (st_g0.2 38)) H := by
  rw [ob_cell_obj (K := 1) rfl (by decide), fs_1]
  exact hP 19 _ rfl
theorem st_k39 {D : va_G} {ca : Nat → ClassId} {h1 h2 h3 tk : Nat} {qa qb : Nat → Nat} {H : Heap} (hP : va_P D vwCl (st_ws ca h1 h2 h3 qa qb) H) : va_at D vwCl (st_ad h1 h2 h3 qa qb tk 39, ob_cell (st_ad h1 h2 h3 qa qb tk) ca 39 (st_g0.1 39) (st_g0.2 39)) H := by
  rw [ob_cell_obj (K := 1) rfl (by decide), fs_1]
  exact hP 20 _ rfl
theorem st_k40 {D : va_G} {ca : Nat → ClassId} {h1 h2 h3 tk : Nat} {qa qb : Nat → Nat} {H : Heap} (hP : va_P D vwCl (st_ws ca h1 h2 h3 qa qb) H) : va_at D vwCl (st_ad h1 h2 h3 qa qb tk 40, ob_cell (st_ad h1 h2 h3 qa qb tk) ca 40 (st_g0.1 40) (st_g0.2 40)) H := by
  rw [ob_cell_obj (K := 5) rfl (by decide), fs_5]
  exact hP 90 _ rfl
theorem st_k41 {D : va_G} {ca : Nat → ClassId} {h1 h2 h3 tk : Nat} {qa qb : Nat → Nat} {H : Heap} (hP : va_P D vwCl (st_ws ca h1 h2 h3 qa qb) H) : va_at D vwCl (st_ad h1 h2 h3 qa qb tk 41, ob_cell (st_ad h1 h2 h3 qa qb tk) ca 41 (st_g0.1 41) (st_g0.2 41)) H := by
  rw [ob_cell_I (K := 14) rfl (by decide) (by decide) (by decide)]
  exact hP 91 _ rfl
theorem st_k42 {D : va_G} {ca : Nat → ClassId} {h1 h2 h3 tk : Nat} {qa qb : Nat → Nat} {H : Heap} (hP : va_P D vwCl (st_ws ca h1 h2 h3 qa qb) H) : va_at D vwCl (st_ad h1 h2 h3 qa qb tk 42, ob_cell (st_ad h1 h2 h3 qa qb tk) ca 42 (st_g0.1 42) (st_g0.2 42)) H := by
  rw [ob_cell_I (K := 14) rfl (by decide) (by decide) (by decide)]
  exact hP 92 _ rfl
theorem st_k43 {D : va_G} {ca : Nat → ClassId} {h1 h2 h3 tk : Nat} {qa qb : Nat → Nat} {H : Heap} (hP : va_P D vwCl (st_ws ca h1 h2 h3 qa qb) H) : va_at D vwCl (st_ad h1 h2 h3 qa qb tk 43, ob_cell (st_ad h1 h2 h3 qa qb tk) ca 43 (st_g0.1 43) (st_g0.2 43)) H := by
  rw [ob_cell_R (K := 17) rfl (by decide)]
  show H[(qa 92)]? = some (vp_cell (ca 17) (4, _))
  exact Eq.trans (hP 93 _ rfl) (congrArg some (kv_refs (fun i hi => by rcases (show i = 0 ∨ i = 1 ∨ i = 2 ∨ i = 3 by omega) with rfl | rfl | rfl | rfl <;> rfl)))
theorem st_k44 {D : va_G} {ca : Nat → ClassId} {h1 h2 h3 tk : Nat} {qa qb : Nat → Nat} {H : Heap} (hP : va_P D vwCl (st_ws ca h1 h2 h3 qa qb) H) : va_at D vwCl (st_ad h1 h2 h3 qa qb tk 44, ob_cell (st_ad h1 h2 h3 qa qb tk) ca 44 (st_g0.1 44) (st_g0.2 44)) H := by
  rw [ob_cell_obj (K := 1) rfl (by decide), fs_1]
  exact hP 94 _ rfl
theorem st_k45 {D : va_G} {ca : Nat → ClassId} {h1 h2 h3 tk : Nat} {qa qb : Nat → Nat} {H : Heap} (hP : va_P D vwCl (st_ws ca h1 h2 h3 qa qb) H) : va_at D vwCl (st_ad h1 h2 h3 qa qb tk 45, ob_cell (st_ad h1 h2 h3 qa qb tk) ca 45 (st_g0.1 45) (st_g0.2 45)) H := by
  rw [ob_cell_obj (K := 1) rfl (by decide), fs_1]
  exact hP 95 _ rfl
theorem st_k46 {D : va_G} {ca : Nat → ClassId} {h1 h2 h3 tk : Nat} {qa qb : Nat → Nat} {H : Heap} (hP : va_P D vwCl (st_ws ca h1 h2 h3 qa qb) H) : va_at D vwCl (st_ad h1 h2 h3 qa qb tk 46, ob_cell (st_ad h1 h2 h3 qa qb tk) ca 46 (st_g0.1 46) (st_g0.2 46)) H := by
  rw [ob_cell_obj (K := 1) rfl (by decide), fs_1]
  exact hP 96 _ rfl
theorem st_k47 {D : va_G} {ca : Nat → ClassId} {h1 h2 h3 tk : Nat} {qa qb : Nat → Nat} {H : Heap} (hP : va_P D vwCl (st_ws ca h1 h2 h3 qa qb) H) : va_at D vwCl (st_ad h1 h2 h3 qa qb tk 47, ob_cell (st_ad h1 h2 h3 qa qb tk) ca 47 (st_g0.1 47) (st_g0.2 47)) H := by
  rw [ob_cell_obj (K := 1) rfl (by decide), fs_1]
  exact hP 97 _ rfl
theorem st_k48 {D : va_G} {ca : Nat → ClassId} {h1 h2 h3 tk : Nat} {qa qb : Nat → Nat} {H : Heap} (hP : va_P D vwCl (st_ws ca h1 h2 h3 qa qb) H) : va_at D vwCl (st_ad h1 h2 h3 qa qb tk 48, ob_cell (st_ad h1 h2 h3 qa qb tk) ca 48 (st_g0.1 48) (st_g0.2 48)) H := by
  rw [ob_cell_obj (K := 5) rfl (by decide), fs_5]
  exact hP 98 _ rfl
theorem st_k49 {D : va_G} {ca : Nat → ClassId} {h1 h2 h3 tk : Nat} {qa qb : Nat → Nat} {H : Heap} (hP : va_P D vwCl (st_ws ca h1 h2 h3 qa qb) H) : va_at D vwCl (st_ad h1 h2 h3 qa qb tk 49, ob_cell (st_ad h1 h2 h3 qa qb tk) ca 49 (st_g0.1 49) (st_g0.2 49)) H := by
  rw [ob_cell_I (K := 14) rfl (by decide) (by decide) (by decide)]
  exact hP 99 _ rfl
theorem st_k50 {D : va_G} {ca : Nat → ClassId} {h1 h2 h3 tk : Nat} {qa qb : Nat → Nat} {H : Heap} (hP : va_P D vwCl (st_ws ca h1 h2 h3 qa qb) H) : va_at D vwCl (st_ad h1 h2 h3 qa qb tk 50, ob_cell (st_ad h1 h2 h3 qa qb tk) ca 50 (st_g0.1 50) (st_g0.2 50)) H := by
  rw [ob_cell_I (K := 14) rfl (by decide) (by decide) (by decide)]
  exact hP 100 _ rfl
theorem st_k51 {D : va_G} {ca : Nat → ClassId} {h1 h2 h3 tk : Nat} {qa qb : Nat → Nat} {H : Heap} (hP : va_P D vwCl (st_ws ca h1 h2 h3 qa qb) H) : va_at D vwCl (st_ad h1 h2 h3 qa qb tk 51, ob_cell (st_ad h1 h2 h3 qa qb tk) ca 51 (st_g0.1 51) (st_g0.2 51)) H := by
  rw [ob_cell_R (K := 17) rfl (by decide)]
  show H[(qa 100)]? = some (vp_cell (ca 17) (4, _))
  exact Eq.trans (hP 101 _ rfl) (congrArg some (kv_refs (fun i hi => by rcases (show i = 0 ∨ i = 1 ∨ i = 2 ∨ i = 3 by omega) with rfl | rfl | rfl | rfl <;> rfl)))
theorem st_k52 {D : va_G} {ca : Nat → ClassId} {h1 h2 h3 tk : Nat} {qa qb : Nat → Nat} {H : Heap} (hP : va_P D vwCl (st_ws ca h1 h2 h3 qa qb) H) : va_at D vwCl (st_ad h1 h2 h3 qa qb tk 52, ob_cell (st_ad h1 h2 h3 qa qb tk) ca 52 (st_g0.1 52) (st_g0.2 52)) H := by
  rw [ob_cell_obj (K := 1) rfl (by decide), fs_1]
  exact hP 102 _ rfl
theorem st_k53 {D : va_G} {ca : Nat → ClassId} {h1 h2 h3 tk : Nat} {qa qb : Nat → Nat} {H : Heap} (hP : va_P D vwCl (st_ws ca h1 h2 h3 qa qb) H) : va_at D vwCl (st_ad h1 h2 h3 qa qb tk 53, ob_cell (st_ad h1 h2 h3 qa qb tk) ca 53 (st_g0.1 53) (st_g0.2 53)) H := by
  rw [ob_cell_obj (K := 1) rfl (by decide), fs_1]
  exact hP 103 _ rfl
theorem st_k54 {D : va_G} {ca : Nat → ClassId} {h1 h2 h3 tk : Nat} {qa qb : Nat → Nat} {H : Heap} (hP : va_P D vwCl (st_ws ca h1 h2 h3 qa qb) H) : va_at D vwCl (st_ad h1 h2 h3 qa qb tk 54, ob_cell (st_ad h1 h2 h3 qa qb tk) ca 54 (st_g0.1 54) (st_g0.2 54)) H := by
  rw [ob_cell_obj (K := 1) rfl (by decide), fs_1]
  exact hP 104 _ rfl
theorem st_k55 {D : va_G} {ca : Nat → ClassId} {h1 h2 h3 tk : Nat} {qa qb : Nat → Nat} {H : Heap} (hP : va_P D vwCl (st_ws ca h1 h2 h3 qa qb) H) : va_at D vwCl (st_ad h1 h2 h3 qa qb tk 55, ob_cell (st_ad h1 h2 h3 qa qb tk) ca 55 (st_g0.1 55) (st_g0.2 55)) H := by
  rw [ob_cell_obj (K := 1) rfl (by decide), fs_1]
  exact hP 105 _ rfl
theorem st_k56 {D : va_G} {ca : Nat → ClassId} {h1 h2 h3 tk : Nat} {qa qb : Nat → Nat} {H : Heap} (hP : va_P D vwCl (st_ws ca h1 h2 h3 qa qb) H) : va_at D vwCl (st_ad h1 h2 h3 qa qb tk 56, ob_cell (st_ad h1 h2 h3 qa qb tk) ca 56 (st_g0.1 56) (st_g0.2 56)) H := by
  rw [ob_cell_obj (K := 7) rfl (by decide), fs_7]
  exact hP 12 _ rfl
theorem st_k57 {D : va_G} {ca : Nat → ClassId} {h1 h2 h3 tk : Nat} {qa qb : Nat → Nat} {H : Heap} (hP : va_P D vwCl (st_ws ca h1 h2 h3 qa qb) H) : va_at D vwCl (st_ad h1 h2 h3 qa qb tk 57, ob_cell (st_ad h1 h2 h3 qa qb tk) ca 57 (st_g0.1 57) (st_g0.2 57)) H := by
  rw [ob_cell_obj (K := 10) rfl (by decide), fs_10]
  exact hP 22 _ rfl
theorem st_k58 {D : va_G} {ca : Nat → ClassId} {h1 h2 h3 tk : Nat} {qa qb : Nat → Nat} {H : Heap} (hP : va_P D vwCl (st_ws ca h1 h2 h3 qa qb) H) : va_at D vwCl (st_ad h1 h2 h3 qa qb tk 58, ob_cell (st_ad h1 h2 h3 qa qb tk) ca 58 (st_g0.1 58) (st_g0.2 58)) H := by
  rw [ob_cell_I (K := 14) rfl (by decide) (by decide) (by decide)]
  exact hP 23 _ rfl
theorem st_k59 {D : va_G} {ca : Nat → ClassId} {h1 h2 h3 tk : Nat} {qa qb : Nat → Nat} {H : Heap} (hP : va_P D vwCl (st_ws ca h1 h2 h3 qa qb) H) : va_at D vwCl (st_ad h1 h2 h3 qa qb tk 59, ob_cell (st_ad h1 h2 h3 qa qb tk) ca 59 (st_g0.1 59) (st_g0.2 59)) H := by
  rw [ob_cell_I (K := 14) rfl (by decide) (by decide) (by decide)]
  exact hP 24 _ rfl
theorem st_k60 {D : va_G} {ca : Nat → ClassId} {h1 h2 h3 tk : Nat} {qa qb : Nat → Nat} {H : Heap} (hP : va_P D vwCl (st_ws ca h1 h2 h3 qa qb) H) : va_at D vwCl (st_ad h1 h2 h3 qa qb tk 60, ob_cell (st_ad h1 h2 h3 qa qb tk) ca 60 (st_g0.1 60) (st_g0.2 60)) H := by
  rw [ob_cell_J rfl]
  exact hP 25 _ rfl
theorem st_k61 {D : va_G} {ca : Nat → ClassId} {h1 h2 h3 tk : Nat} {qa qb : Nat → Nat} {H : Heap} (hP : va_P D vwCl (st_ws ca h1 h2 h3 qa qb) H) : va_at D vwCl (st_ad h1 h2 h3 qa qb tk 61, ob_cell (st_ad h1 h2 h3 qa qb tk) ca 61 (st_g0.1 61) (st_g0.2 61)) H := by
  rw [ob_cell_J rfl]
  exact hP 26 _ rfl
theorem st_k62 {D : va_G} {ca : Nat → ClassId} {h1 h2 h3 tk : Nat} {qa qb : Nat → Nat} {H : Heap} (hP : va_P D vwCl (st_ws ca h1 h2 h3 qa qb) H) : va_at D vwCl (st_ad h1 h2 h3 qa qb tk 62, ob_cell (st_ad h1 h2 h3 qa qb tk) ca 62 (st_g0.1 62) (st_g0.2 62)) H := by
  rw [ob_cell_J rfl]
  exact hP 21 _ rfl
theorem st_k63 {D : va_G} {ca : Nat → ClassId} {h1 h2 h3 tk : Nat} {qa qb : Nat → Nat} {H : Heap} (hP : va_P D vwCl (st_ws ca h1 h2 h3 qa qb) H) : va_at D vwCl (st_ad h1 h2 h3 qa qb tk 63, ob_cell (st_ad h1 h2 h3 qa qb tk) ca 63 (st_g0.1 63) (st_g0.2 63)) H := by
  rw [ob_cell_obj (K := 0) rfl (by decide), fs_0]
  exact hP 27 _ rfl
theorem st_k64 {D : va_G} {ca : Nat → ClassId} {h1 h2 h3 tk : Nat} {qa qb : Nat → Nat} {H : Heap} (hP : va_P D vwCl (st_ws ca h1 h2 h3 qa qb) H) : va_at D vwCl (st_ad h1 h2 h3 qa qb tk 64, ob_cell (st_ad h1 h2 h3 qa qb tk) ca 64 (st_g0.1 64) (st_g0.2 64)) H := by
  rw [ob_cell_I (K := 14) rfl (by decide) (by decide) (by decide)]
  exact hP 28 _ rfl
theorem st_k65 {D : va_G} {ca : Nat → ClassId} {h1 h2 h3 tk : Nat} {qa qb : Nat → Nat} {H : Heap} (hP : va_P D vwCl (st_ws ca h1 h2 h3 qa qb) H) : va_at D vwCl (st_ad h1 h2 h3 qa qb tk 65, ob_cell (st_ad h1 h2 h3 qa qb tk) ca 65 (st_g0.1 65) (st_g0.2 65)) H := by
  rw [ob_cell_I (K := 14) rfl (by decide) (by decide) (by decide)]
  exact hP 29 _ rfl
theorem st_k66 {D : va_G} {ca : Nat → ClassId} {h1 h2 h3 tk : Nat} {qa qb : Nat → Nat} {H : Heap} (hP : va_P D vwCl (st_ws ca h1 h2 h3 qa qb) H) : va_at D vwCl (st_ad h1 h2 h3 qa qb tk 66, ob_cell (st_ad h1 h2 h3 qa qb tk) ca 66 (st_g0.1 66) (st_g0.2 66)) H := by
  rw [ob_cell_I (K := 14) rfl (by decide) (by decide) (by decide)]
  exact hP 30 _ rfl
theorem st_k67 {D : va_G} {ca : Nat → ClassId} {h1 h2 h3 tk : Nat} {qa qb : Nat → Nat} {H : Heap} (hP : va_P D vwCl (st_ws ca h1 h2 h3 qa qb) H) : va_at D vwCl (st_ad h1 h2 h3 qa qb tk 67, ob_cell (st_ad h1 h2 h3 qa qb tk) ca 67 (st_g0.1 67) (st_g0.2 67)) H := by
  rw [ob_cell_obj (K := 3) rfl (by decide), fs_3]
  exact hP 31 _ rfl
theorem st_k68 {D : va_G} {ca : Nat → ClassId} {h1 h2 h3 tk : Nat} {qa qb : Nat → Nat} {H : Heap} (hP : va_P D vwCl (st_ws ca h1 h2 h3 qa qb) H) : va_at D vwCl (st_ad h1 h2 h3 qa qb tk 68, ob_cell (st_ad h1 h2 h3 qa qb tk) ca 68 (st_g0.1 68) (st_g0.2 68)) H := by
  rw [ob_cell_I (K := 14) rfl (by decide) (by decide) (by decide)]
  exact hP 32 _ rfl
theorem st_k69 {D : va_G} {ca : Nat → ClassId} {h1 h2 h3 tk : Nat} {qa qb : Nat → Nat} {H : Heap} (hP : va_P D vwCl (st_ws ca h1 h2 h3 qa qb) H) : va_at D vwCl (st_ad h1 h2 h3 qa qb tk 69, ob_cell (st_ad h1 h2 h3 qa qb tk) ca 69 (st_g0.1 69) (st_g0.2 69)) H := by
  rw [ob_cell_I (K := 14) rfl (by decide) (by decide) (by decide)]
  exact hP 33 _ rfl
theorem st_k70 {D : va_G} {ca : Nat → ClassId} {h1 h2 h3 tk : Nat} {qa qb : Nat → Nat} {H : Heap} (hP : va_P D vwCl (st_ws ca h1 h2 h3 qa qb) H) : va_at D vwCl (st_ad h1 h2 h3 qa qb tk 70, ob_cell (st_ad h1 h2 h3 qa qb tk) ca 70 (st_g0.1 70) (st_g0.2 70)) H := by
  rw [ob_cell_J rfl]
  exact hP 34 _ rfl
theorem st_k71 {D : va_G} {ca : Nat → ClassId} {h1 h2 h3 tk : Nat} {qa qb : Nat → Nat} {H : Heap} (hP : va_P D vwCl (st_ws ca h1 h2 h3 qa qb) H) : va_at D vwCl (st_ad h1 h2 h3 qa qb tk 71, ob_cell (st_ad h1 h2 h3 qa qb tk) ca 71 (st_g0.1 71) (st_g0.2 71)) H := by
  rw [ob_cell_R (K := 19) rfl (by decide)]
  show H[(qa 34)]? = some (vp_cell (ca 19) (4, _))
  exact Eq.trans (hP 35 _ rfl) (congrArg some (kv_refs (fun i hi => by rcases (show i = 0 ∨ i = 1 ∨ i = 2 ∨ i = 3 by omega) with rfl | rfl | rfl | rfl <;> rfl)))
theorem st_k72 {D : va_G} {ca : Nat → ClassId} {h1 h2 h3 tk : Nat} {qa qb : Nat → Nat} {H : Heap} (hP : va_P D vwCl (st_ws ca h1 h2 h3 qa qb) H) : va_at D vwCl (st_ad h1 h2 h3 qa qb tk 72, ob_cell (st_ad h1 h2 h3 qa qb tk) ca 72 (st_g0.1 72) (st_g0.2 72)) H := by
  rw [ob_cell_obj (K := 9) rfl (by decide), fs_9]
  exact hP 44 _ rfl
theorem st_k73 {D : va_G} {ca : Nat → ClassId} {h1 h2 h3 tk : Nat} {qa qb : Nat → Nat} {H : Heap} (hP : va_P D vwCl (st_ws ca h1 h2 h3 qa qb) H) : va_at D vwCl (st_ad h1 h2 h3 qa qb tk 73, ob_cell (st_ad h1 h2 h3 qa qb tk) ca 73 (st_g0.1 73) (st_g0.2 73)) H := by
  rw [ob_cell_J rfl]
  exact hP 45 _ rfl
theorem st_k74 {D : va_G} {ca : Nat → ClassId} {h1 h2 h3 tk : Nat} {qa qb : Nat → Nat} {H : Heap} (hP : va_P D vwCl (st_ws ca h1 h2 h3 qa qb) H) : va_at D vwCl (st_ad h1 h2 h3 qa qb tk 74, ob_cell (st_ad h1 h2 h3 qa qb tk) ca 74 (st_g0.1 74) (st_g0.2 74)) H := by
  rw [ob_cell_obj (K := 4) rfl (by decide), fs_4]
  exact hP 46 _ rfl
theorem st_k75 {D : va_G} {ca : Nat → ClassId} {h1 h2 h3 tk : Nat} {qa qb : Nat → Nat} {H : Heap} (hP : va_P D vwCl (st_ws ca h1 h2 h3 qa qb) H) : va_at D vwCl (st_ad h1 h2 h3 qa qb tk 75, ob_cell (st_ad h1 h2 h3 qa qb tk) ca 75 (st_g0.1 75) (st_g0.2 75)) H := by
  rw [ob_cell_J rfl]
  exact hP 47 _ rfl
theorem st_k76 {D : va_G} {ca : Nat → ClassId} {h1 h2 h3 tk : Nat} {qa qb : Nat → Nat} {H : Heap} (hP : va_P D vwCl (st_ws ca h1 h2 h3 qa qb) H) : va_at D vwCl (st_ad h1 h2 h3 qa qb tk 76, ob_cell (st_ad h1 h2 h3 qa qb tk) ca 76 (st_g0.1 76) (st_g0.2 76)) H := by
  rw [ob_cell_I (K := 14) rfl (by decide) (by decide) (by decide)]
  exact hP 48 _ rfl
theorem st_k77 {D : va_G} {ca : Nat → ClassId} {h1 h2 h3 tk : Nat} {qa qb : Nat → Nat} {H : Heap} (hP : va_P D vwCl (st_ws ca h1 h2 h3 qa qb) H) : va_at D vwCl (st_ad h1 h2 h3 qa qb tk 77, ob_cell (st_ad h1 h2 h3 qa qb tk) ca 77 (st_g0.1 77) (st_g0.2 77)) H := by
  rw [ob_cell_obj (K := 4) rfl (by decide), fs_4]
  exact hP 49 _ rfl
theorem st_k78 {D : va_G} {ca : Nat → ClassId} {h1 h2 h3 tk : Nat} {qa qb : Nat → Nat} {H : Heap} (hP : va_P D vwCl (st_ws ca h1 h2 h3 qa qb) H) : va_at D vwCl (st_ad h1 h2 h3 qa qb tk 78, ob_cell (st_ad h1 h2 h3 qa qb tk) ca 78 (st_g0.1 78) (st_g0.2 78)) H := by
  rw [ob_cell_J rfl]
  exact hP 50 _ rfl
theorem st_k79 {D : va_G} {ca : Nat → ClassId} {h1 h2 h3 tk : Nat} {qa qb : Nat → Nat} {H : Heap} (hP : va_P D vwCl (st_ws ca h1 h2 h3 qa qb) H) : va_at D vwCl (st_ad h1 h2 h3 qa qb tk 79, ob_cell (st_ad h1 h2 h3 qa qb tk) ca 79 (st_g0.1 79) (st_g0.2 79)) H := by
  rw [ob_cell_I (K := 14) rfl (by decide) (by decide) (by decide)]
  exact hP 51 _ rfl
theorem st_k80 {D : va_G} {ca : Nat → ClassId} {h1 h2 h3 tk : Nat} {qa qb : Nat → Nat} {H : Heap} (hP : va_P D vwCl (st_ws ca h1 h2 h3 qa qb) H) : va_at D vwCl (st_ad h1 h2 h3 qa qb tk 80, ob_cell (st_ad h1 h2 h3 qa qb tk) ca 80 (st_g0.1 80) (st_g0.2 80)) H := by
  rw [ob_cell_obj (K := 9) rfl (by decide), fs_9]
  exact hP 52 _ rfl
theorem st_k81 {D : va_G} {ca : Nat → ClassId} {h1 h2 h3 tk : Nat} {qa qb : Nat → Nat} {H : Heap} (hP : va_P D vwCl (st_ws ca h1 h2 h3 qa qb) H) : va_at D vwCl (st_ad h1 h2 h3 qa qb tk 81, ob_cell (st_ad h1 h2 h3 qa qb tk) ca 81 (st_g0.1 81) (st_g0.2 81)) H := by
  rw [ob_cell_J rfl]
  exact hP 53 _ rfl
theorem st_k82 {D : va_G} {ca : Nat → ClassId} {h1 h2 h3 tk : Nat} {qa qb : Nat → Nat} {H : Heap} (hP : va_P D vwCl (st_ws ca h1 h2 h3 qa qb) H) : va_at D vwCl (st_ad h1 h2 h3 qa qb tk 82, ob_cell (st_ad h1 h2 h3 qa qb tk) ca 82 (st_g0.1 82) (st_g0.2 82)) H := by
  rw [ob_cell_obj (K := 4) rfl (by decide), fs_4]
  exact hP 54 _ rfl
theorem st_k83 {D : va_G} {ca : Nat → ClassId} {h1 h2 h3 tk : Nat} {qa qb : Nat → Nat} {H : Heap} (hP : va_P D vwCl (st_ws ca h1 h2 h3 qa qb) H) : va_at D vwCl (st_ad h1 h2 h3 qa qb tk 83, ob_cell (st_ad h1 h2 h3 qa qb tk) ca 83 (st_g0.1 83) (st_g0.2 83)) H := by
  rw [ob_cell_J rfl]
  exact hP 55 _ rfl
theorem st_k84 {D : va_G} {ca : Nat → ClassId} {h1 h2 h3 tk : Nat} {qa qb : Nat → Nat} {H : Heap} (hP : va_P D vwCl (st_ws ca h1 h2 h3 qa qb) H) : va_at D vwCl (st_ad h1 h2 h3 qa qb tk 84, ob_cell (st_ad h1 h2 h3 qa qb tk) ca 84 (st_g0.1 84) (st_g0.2 84)) H := by
  rw [ob_cell_I (K := 14) rfl (by decide) (by decide) (by decide)]
  exact hP 56 _ rfl
theorem st_k85 {D : va_G} {ca : Nat → ClassId} {h1 h2 h3 tk : Nat} {qa qb : Nat → Nat} {H : Heap} (hP : va_P D vwCl (st_ws ca h1 h2 h3 qa qb) H) : va_at D vwCl (st_ad h1 h2 h3 qa qb tk 85, ob_cell (st_ad h1 h2 h3 qa qb tk) ca 85 (st_g0.1 85) (st_g0.2 85)) H := by
  rw [ob_cell_obj (K := 4) rfl (by decide), fs_4]
  exact hP 57 _ rfl
theorem st_k86 {D : va_G} {ca : Nat → ClassId} {h1 h2 h3 tk : Nat} {qa qb : Nat → Nat} {H : Heap} (hP : va_P D vwCl (st_ws ca h1 h2 h3 qa qb) H) : va_at D vwCl (st_ad h1 h2 h3 qa qb tk 86, ob_cell (st_ad h1 h2 h3 qa qb tk) ca 86 (st_g0.1 86) (st_g0.2 86)) H := by
  rw [ob_cell_J rfl]
  exact hP 58 _ rfl
theorem st_k87 {D : va_G} {ca : Nat → ClassId} {h1 h2 h3 tk : Nat} {qa qb : Nat → Nat} {H : Heap} (hP : va_P D vwCl (st_ws ca h1 h2 h3 qa qb) H) : va_at D vwCl (st_ad h1 h2 h3 qa qb tk 87, ob_cell (st_ad h1 h2 h3 qa qb tk) ca 87 (st_g0.1 87) (st_g0.2 87)) H := by
  rw [ob_cell_I (K := 14) rfl (by decide) (by decide) (by decide)]
  exact hP 59 _ rfl
theorem st_k88 {D : va_G} {ca : Nat → ClassId} {h1 h2 h3 tk : Nat} {qa qb : Nat → Nat} {H : Heap} (hP : va_P D vwCl (st_ws ca h1 h2 h3 qa qb) H) : va_at D vwCl (st_ad h1 h2 h3 qa qb tk 88, ob_cell (st_ad h1 h2 h3 qa qb tk) ca 88 (st_g0.1 88) (st_g0.2 88)) H := by
  rw [ob_cell_obj (K := 9) rfl (by decide), fs_9]
  exact hP 60 _ rfl
theorem st_k89 {D : va_G} {ca : Nat → ClassId} {h1 h2 h3 tk : Nat} {qa qb : Nat → Nat} {H : Heap} (hP : va_P D vwCl (st_ws ca h1 h2 h3 qa qb) H) : va_at D vwCl (st_ad h1 h2 h3 qa qb tk 89, ob_cell (st_ad h1 h2 h3 qa qb tk) ca 89 (st_g0.1 89) (st_g0.2 89)) H := by
  rw [ob_cell_J rfl]
  exact hP 61 _ rfl
theorem st_k90 {D : va_G} {ca : Nat → ClassId} {h1 h2 h3 tk : Nat} {qa qb : Nat → Nat} {H : Heap} (hP : va_P D vwCl (st_ws ca h1 h2 h3 qa qb) H) : va_at D vwCl (st_ad h1 h2 h3 qa qb tk 90, ob_cell (st_ad h1 h2 h3 qa qb tk) ca 90 (st_g0.1 90) (st_g0.2 90)) H := by
  rw [ob_cell_obj (K := 4) rfl (by decide), fs_4]
  exact hP 62 _ rfl
theorem st_k91 {D : va_G} {ca : Nat → ClassId} {h1 h2 h3 tk : Nat} {qa qb : Nat → Nat} {H : Heap} (hP : va_P D vwCl (st_ws ca h1 h2 h3 qa qb) H) : va_at D vwCl (st_ad h1 h2 h3 qa qb tk 91, ob_cell (st_ad h1 h2 h3 qa qb tk) ca 91 (st_g0.1 91) (st_g0.2 91)) H := by
  rw [ob_cell_J rfl]
  exact hP 63 _ rfl
theorem st_k92 {D : va_G} {ca : Nat → ClassId} {h1 h2 h3 tk : Nat} {qa qb : Nat → Nat} {H : Heap} (hP : va_P D vwCl (st_ws ca h1 h2 h3 qa qb) H) : va_at D vwCl (st_ad h1 h2 h3 qa qb tk 92, ob_cell (st_ad h1 h2 h3 qa qb tk) ca 92 (st_g0.1 92) (st_g0.2 92)) H := by
  rw [ob_cell_I (K := 14) rfl (by decide) (by decide) (by decide)]
  exact hP 64 _ rfl
theorem st_k93 {D : va_G} {ca : Nat → ClassId} {h1 h2 h3 tk : Nat} {qa qb : Nat → Nat} {H : Heap} (hP : va_P D vwCl (st_ws ca h1 h2 h3 qa qb) H) : va_at D vwCl (st_ad h1 h2 h3 qa qb tk 93, ob_cell (st_ad h1 h2 h3 qa qb tk) ca 93 (st_g0.1 93) (st_g0.2 93)) H := by
  rw [ob_cell_obj (K := 4) rfl (by decide), fs_4]
  exact hP 65 _ rfl
theorem st_k94 {D : va_G} {ca : Nat → ClassId} {h1 h2 h3 tk : Nat} {qa qb : Nat → Nat} {H : Heap} (hP : va_P D vwCl (st_ws ca h1 h2 h3 qa qb) H) : va_at D vwCl (st_ad h1 h2 h3 qa qb tk 94, ob_cell (st_ad h1 h2 h3 qa qb tk) ca 94 (st_g0.1 94) (st_g0.2 94)) H := by
  rw [ob_cell_J rfl]
  exact hP 66 _ rfl
theorem st_k95 {D : va_G} {ca : Nat → ClassId} {h1 h2 h3 tk : Nat} {qa qb : Nat → Nat} {H : Heap} (hP : va_P D vwCl (st_ws ca h1 h2 h3 qa qb) H) : va_at D vwCl (st_ad h1 h2 h3 qa qb tk 95, ob_cell (st_ad h1 h2 h3 qa qb tk) ca 95 (st_g0.1 95) (st_g0.2 95)) H := by
  rw [ob_cell_I (K := 14) rfl (by decide) (by decide) (by decide)]
  exact hP 67 _ rfl
theorem st_k96 {D : va_G} {ca : Nat → ClassId} {h1 h2 h3 tk : Nat} {qa qb : Nat → Nat} {H : Heap} (hP : va_P D vwCl (st_ws ca h1 h2 h3 qa qb) H) : va_at D vwCl (st_ad h1 h2 h3 qa qb tk 96, ob_cell (st_ad h1 h2 h3 qa qb tk) ca 96 (st_g0.1 96) (st_g0.2 96)) H := by
  rw [ob_cell_obj (K := 9) rfl (by decide), fs_9]
  exact hP 68 _ rfl
theorem st_k97 {D : va_G} {ca : Nat → ClassId} {h1 h2 h3 tk : Nat} {qa qb : Nat → Nat} {H : Heap} (hP : va_P D vwCl (st_ws ca h1 h2 h3 qa qb) H) : va_at D vwCl (st_ad h1 h2 h3 qa qb tk 97, ob_cell (st_ad h1 h2 h3 qa qb tk) ca 97 (st_g0.1 97) (st_g0.2 97)) H := by
  rw [ob_cell_J rfl]
  exact hP 69 _ rfl
theorem st_k98 {D : va_G} {ca : Nat → ClassId} {h1 h2 h3 tk : Nat} {qa qb : Nat → Nat} {H : Heap} (hP : va_P D vwCl (st_ws ca h1 h2 h3 qa qb) H) : va_at D vwCl (st_ad h1 h2 h3 qa qb tk 98, ob_cell (st_ad h1 h2 h3 qa qb tk) ca 98 (st_g0.1 98) (st_g0.2 98)) H := by
  rw [ob_cell_obj (K := 4) rfl (by decide), fs_4]
  exact hP 70 _ rfl
theorem st_k99 {D : va_G} {ca : Nat → ClassId} {h1 h2 h3 tk : Nat} {qa qb : Nat → Nat} {H : Heap} (hP : va_P D vwCl (st_ws ca h1 h2 h3 qa qb) H) : va_at D vwCl (st_ad h1 h2 h3 qa qb tk 99, ob_cell (st_ad h1 h2 h3 qa qb tk) ca 99 (st_g0.1 99) (st_g0.2 99)) H := by
  rw [ob_cell_J rfl]
  exact hP 71 _ rfl
theorem st_k100 {D : va_G} {ca : Nat → ClassId} {h1 h2 h3 tk : Nat} {qa qb : Nat → Nat} {H : Heap} (hP : va_P D vwCl (st_ws ca h1 h2 h3 qa qb) H) : va_at D vwCl (st_ad h1 h2 h3 qa qb tk 100, ob_cell (st_ad h1 h2 h3 qa qb tk) ca 100 (st_g0.1 100) (st_g0.2 100)) H := by
  rw [ob_cell_I (K := 14) rfl (by decide) (by decide) (by decide)]
  exact hP 72 _ rfl
theorem st_k101 {D : va_G} {ca : Nat → ClassId} {h1 h2 h3 tk : Nat} {qa qb : Nat → Nat} {H : Heap} (hP : va_P D vwCl (st_ws ca h1 h2 h3 qa qb) H) : va_at D vwCl (st_ad h1 h2 h3 qa qb tk 101, ob_cell (st_ad h1 h2 h3 qa qb tk) ca 101 (st_g0.1 101) (st_g0.2 101)) H := by
  rw [ob_cell_obj (K := 4) rfl (by decide), fs_4]
  exact hP 73 _ rfl
theorem st_k102 {D : va_G} {ca : Nat → ClassId} {h1 h2 h3 tk : Nat} {qa qb : Nat → Nat} {H : Heap} (hP : va_P D vwCl (st_ws ca h1 h2 h3 qa qb) H) : va_at D vwCl (st_ad h1 h2 h3 qa qb tk 102, ob_cell (st_ad h1 h2 h3 qa qb tk) ca 102 (st_g0.1 102) (st_g0.2 102)) H := by
  rw [ob_cell_J rfl]
  exact hP 74 _ rfl
theorem st_k103 {D : va_G} {ca : Nat → ClassId} {h1 h2 h3 tk : Nat} {qa qb : Nat → Nat} {H : Heap} (hP : va_P D vwCl (st_ws ca h1 h2 h3 qa qb) H) : va_at D vwCl (st_ad h1 h2 h3 qa qb tk 103, ob_cell (st_ad h1 h2 h3 qa qb tk) ca 103 (st_g0.1 103) (st_g0.2 103)) H := by
  rw [ob_cell_I (K := 14) rfl (by decide) (by decide) (by decide)]
  exact hP 75 _ rfl
theorem st_k104 {D : va_G} {ca : Nat → ClassId} {h1 h2 h3 tk : Nat} {qa qb : Nat → Nat} {H : Heap} (hP : va_P D vwCl (st_ws ca h1 h2 h3 qa qb) H) : va_at D vwCl (st_ad h1 h2 h3 qa qb tk 104, ob_cell (st_ad h1 h2 h3 qa qb tk) ca 104 (st_g0.1 104) (st_g0.2 104)) H := by
  rw [ob_cell_obj (K := 9) rfl (by decide), fs_9]
  exact hP 36 _ rfl
theorem st_k105 {D : va_G} {ca : Nat → ClassId} {h1 h2 h3 tk : Nat} {qa qb : Nat → Nat} {H : Heap} (hP : va_P D vwCl (st_ws ca h1 h2 h3 qa qb) H) : va_at D vwCl (st_ad h1 h2 h3 qa qb tk 105, ob_cell (st_ad h1 h2 h3 qa qb tk) ca 105 (st_g0.1 105) (st_g0.2 105)) H := by
  rw [ob_cell_J rfl]
  exact hP 37 _ rfl
theorem st_k106 {D : va_G} {ca : Nat → ClassId} {h1 h2 h3 tk : Nat} {qa qb : Nat → Nat} {H : Heap} (hP : va_P D vwCl (st_ws ca h1 h2 h3 qa qb) H) : va_at D vwCl (st_ad h1 h2 h3 qa qb tk 106, ob_cell (st_ad h1 h2 h3 qa qb tk) ca 106 (st_g0.1 106) (st_g0.2 106)) H := by
  rw [ob_cell_obj (K := 4) rfl (by decide), fs_4]
  exact hP 38 _ rfl
theorem st_k107 {D : va_G} {ca : Nat → ClassId} {h1 h2 h3 tk : Nat} {qa qb : Nat → Nat} {H : Heap} (hP : va_P D vwCl (st_ws ca h1 h2 h3 qa qb) H) : va_at D vwCl (st_ad h1 h2 h3 qa qb tk 107, ob_cell (st_ad h1 h2 h3 qa qb tk) ca 107 (st_g0.1 107) (st_g0.2 107)) H := by
  rw [ob_cell_J rfl]
  exact hP 39 _ rfl
theorem st_k108 {D : va_G} {ca : Nat → ClassId} {h1 h2 h3 tk : Nat} {qa qb : Nat → Nat} {H : Heap} (hP : va_P D vwCl (st_ws ca h1 h2 h3 qa qb) H) : va_at D vwCl (st_ad h1 h2 h3 qa qb tk 108, ob_cell (st_ad h1 h2 h3 qa qb tk) ca 108 (st_g0.1 108) (st_g0.2 108)) H := by
  rw [ob_cell_I (K := 14) rfl (by decide) (by decide) (by decide)]
  exact hP 40 _ rfl
theorem st_k109 {D : va_G} {ca : Nat → ClassId} {h1 h2 h3 tk : Nat} {qa qb : Nat → Nat} {H : Heap} (hP : va_P D vwCl (st_ws ca h1 h2 h3 qa qb) H) : va_at D vwCl (st_ad h1 h2 h3 qa qb tk 109, ob_cell (st_ad h1 h2 h3 qa qb tk) ca 109 (st_g0.1 109) (st_g0.2 109)) H := by
  rw [ob_cell_obj (K := 4) rfl (by decide), fs_4]
  exact hP 41 _ rfl
theorem st_k110 {D : va_G} {ca : Nat → ClassId} {h1 h2 h3 tk : Nat} {qa qb : Nat → Nat} {H : Heap} (hP : va_P D vwCl (st_ws ca h1 h2 h3 qa qb) H) : va_at D vwCl (st_ad h1 h2 h3 qa qb tk 110, ob_cell (st_ad h1 h2 h3 qa qb tk) ca 110 (st_g0.1 110) (st_g0.2 110)) H := by
  rw [ob_cell_J rfl]
  exact hP 42 _ rfl
theorem st_k111 {D : va_G} {ca : Nat → ClassId} {h1 h2 h3 tk : Nat} {qa qb : Nat → Nat} {H : Heap} (hP : va_P D vwCl (st_ws ca h1 h2 h3 qa qb) H) : va_at D vwCl (st_ad h1 h2 h3 qa qb tk 111, ob_cell (st_ad h1 h2 h3 qa qb tk) ca 111 (st_g0.1 111) (st_g0.2 111)) H := by
  rw [ob_cell_I (K := 14) rfl (by decide) (by decide) (by decide)]
  exact hP 43 _ rfl
theorem st_k112 {D : va_G} {ca : Nat → ClassId} {h1 h2 h3 tk : Nat} {qa qb : Nat → Nat} {H : Heap} (hP : va_P D vwCl (st_ws ca h1 h2 h3 qa qb) H) : va_at D vwCl (st_ad h1 h2 h3 qa qb tk 112, ob_cell (st_ad h1 h2 h3 qa qb tk) ca 112 (st_g0.1 112) (st_g0.2 112)) H := by
  rw [ob_cell_obj (K := 6) rfl (by decide), fs_6]
  exact hP 76 _ rfl
theorem st_k113 {D : va_G} {ca : Nat → ClassId} {h1 h2 h3 tk : Nat} {qa qb : Nat → Nat} {H : Heap} (hP : va_P D vwCl (st_ws ca h1 h2 h3 qa qb) H) : va_at D vwCl (st_ad h1 h2 h3 qa qb tk 113, ob_cell (st_ad h1 h2 h3 qa qb tk) ca 113 (st_g0.1 113) (st_g0.2 113)) H := by
  rw [ob_cell_J rfl]
  exact hP 77 _ rfl
theorem st_k114 {D : va_G} {ca : Nat → ClassId} {h1 h2 h3 tk : Nat} {qa qb : Nat → Nat} {H : Heap} (hP : va_P D vwCl (st_ws ca h1 h2 h3 qa qb) H) : va_at D vwCl (st_ad h1 h2 h3 qa qb tk 114, ob_cell (st_ad h1 h2 h3 qa qb tk) ca 114 (st_g0.1 114) (st_g0.2 114)) H := by
  rw [ob_cell_J rfl]
  exact hP 78 _ rfl
theorem st_k115 {D : va_G} {ca : Nat → ClassId} {h1 h2 h3 tk : Nat} {qa qb : Nat → Nat} {H : Heap} (hP : va_P D vwCl (st_ws ca h1 h2 h3 qa qb) H) : va_at D vwCl (st_ad h1 h2 h3 qa qb tk 115, ob_cell (st_ad h1 h2 h3 qa qb tk) ca 115 (st_g0.1 115) (st_g0.2 115)) H := by
  rw [ob_cell_obj (K := 2) rfl (by decide), fs_2]
  exact hP 79 _ rfl
theorem st_k116 {D : va_G} {ca : Nat → ClassId} {h1 h2 h3 tk : Nat} {qa qb : Nat → Nat} {H : Heap} (hP : va_P D vwCl (st_ws ca h1 h2 h3 qa qb) H) : va_at D vwCl (st_ad h1 h2 h3 qa qb tk 116, ob_cell (st_ad h1 h2 h3 qa qb tk) ca 116 (st_g0.1 116) (st_g0.2 116)) H := by
  rw [ob_cell_R (K := 21) rfl (by decide)]
  show H[(qa 79)]? = some (vp_cell (ca 21) (2, _))
  exact Eq.trans (hP 80 _ rfl) (congrArg some (kv_refs (fun i hi => by rcases (show i = 0 ∨ i = 1 by omega) with rfl | rfl <;> rfl)))
theorem st_k117 {D : va_G} {ca : Nat → ClassId} {h1 h2 h3 tk : Nat} {qa qb : Nat → Nat} {H : Heap} (hP : va_P D vwCl (st_ws ca h1 h2 h3 qa qb) H) : va_at D vwCl (st_ad h1 h2 h3 qa qb tk 117, ob_cell (st_ad h1 h2 h3 qa qb tk) ca 117 (st_g0.1 117) (st_g0.2 117)) H := by
  rw [ob_cell_J rfl]
  exact hP 81 _ rfl
theorem st_k118 {D : va_G} {ca : Nat → ClassId} {h1 h2 h3 tk : Nat} {qa qb : Nat → Nat} {H : Heap} (hP : va_P D vwCl (st_ws ca h1 h2 h3 qa qb) H) : va_at D vwCl (st_ad h1 h2 h3 qa qb tk 118, ob_cell (st_ad h1 h2 h3 qa qb tk) ca 118 (st_g0.1 118) (st_g0.2 118)) H := by
  rw [ob_cell_J rfl]
  exact hP 82 _ rfl
theorem st_k119 {D : va_G} {ca : Nat → ClassId} {h1 h2 h3 tk : Nat} {qa qb : Nat → Nat} {H : Heap} (hP : va_P D vwCl (st_ws ca h1 h2 h3 qa qb) H) : va_at D vwCl (st_ad h1 h2 h3 qa qb tk 119, ob_cell (st_ad h1 h2 h3 qa qb tk) ca 119 (st_g0.1 119) (st_g0.2 119)) H := by
  rw [ob_cell_R (K := 20) rfl (by decide)]
  show H[(qa 82)]? = some (vp_cell (ca 20) (2, _))
  exact Eq.trans (hP 83 _ rfl) (congrArg some (kv_refs (fun i hi => by rcases (show i = 0 ∨ i = 1 by omega) with rfl | rfl <;> rfl)))
theorem st_k120 {D : va_G} {ca : Nat → ClassId} {h1 h2 h3 tk : Nat} {qa qb : Nat → Nat} {H : Heap} (hP : va_P D vwCl (st_ws ca h1 h2 h3 qa qb) H) : va_at D vwCl (st_ad h1 h2 h3 qa qb tk 120, ob_cell (st_ad h1 h2 h3 qa qb tk) ca 120 (st_g0.1 120) (st_g0.2 120)) H := by
  rw [ob_cell_I (K := 14) rfl (by decide) (by decide) (by decide)]
  exact hP 84 _ rfl
theorem st_k121 {D : va_G} {ca : Nat → ClassId} {h1 h2 h3 tk : Nat} {qa qb : Nat → Nat} {H : Heap} (hP : va_P D vwCl (st_ws ca h1 h2 h3 qa qb) H) : va_at D vwCl (st_ad h1 h2 h3 qa qb tk 121, ob_cell (st_ad h1 h2 h3 qa qb tk) ca 121 (st_g0.1 121) (st_g0.2 121)) H := by
  rw [ob_cell_I (K := 14) rfl (by decide) (by decide) (by decide)]
  exact hP 85 _ rfl
theorem st_k122 {D : va_G} {ca : Nat → ClassId} {h1 h2 h3 tk : Nat} {qa qb : Nat → Nat} {H : Heap} (hP : va_P D vwCl (st_ws ca h1 h2 h3 qa qb) H) : va_at D vwCl (st_ad h1 h2 h3 qa qb tk 122, ob_cell (st_ad h1 h2 h3 qa qb tk) ca 122 (st_g0.1 122) (st_g0.2 122)) H := by
  rw [ob_cell_obj (K := 8) rfl (by decide), fs_8]
  exact hP 86 _ rfl
theorem st_k123 {D : va_G} {ca : Nat → ClassId} {h1 h2 h3 tk : Nat} {qa qb : Nat → Nat} {H : Heap} (hP : va_P D vwCl (st_ws ca h1 h2 h3 qa qb) H) : va_at D vwCl (st_ad h1 h2 h3 qa qb tk 123, ob_cell (st_ad h1 h2 h3 qa qb tk) ca 123 (st_g0.1 123) (st_g0.2 123)) H := by
  rw [ob_cell_J rfl]
  exact hP 87 _ rfl
theorem st_k124 {D : va_G} {ca : Nat → ClassId} {h1 h2 h3 tk : Nat} {qa qb : Nat → Nat} {H : Heap} (hP : va_P D vwCl (st_ws ca h1 h2 h3 qa qb) H) : va_at D vwCl (st_ad h1 h2 h3 qa qb tk 124, ob_cell (st_ad h1 h2 h3 qa qb tk) ca 124 (st_g0.1 124) (st_g0.2 124)) H := by
  rw [ob_cell_J rfl]
  exact hP 88 _ rfl
theorem st_k125 {D : va_G} {ca : Nat → ClassId} {h1 h2 h3 tk : Nat} {qa qb : Nat → Nat} {H : Heap} (hP : va_P D vwCl (st_ws ca h1 h2 h3 qa qb) H) : va_at D vwCl (st_ad h1 h2 h3 qa qb tk 125, ob_cell (st_ad h1 h2 h3 qa qb tk) ca 125 (st_g0.1 125) (st_g0.2 125)) H := by
  rw [ob_cell_I (K := 14) rfl (by decide) (by decide) (by decide)]
  exact hP 89 _ rfl
theorem st_c0 {D : va_G} {ca : Nat → ClassId} {h1 h2 h3 tk : Nat} {qa qb : Nat → Nat} {H : Heap} (hP : va_P D vwCl (st_ws ca h1 h2 h3 qa qb) H) : ∀ n : Nat, n < 21 → va_at D vwCl (st_ad h1 h2 h3 qa qb tk (n + 0), ob_cell (st_ad h1 h2 h3 qa qb tk) ca (n + 0) (st_g0.1 (n + 0)) (st_g0.2 (n + 0))) H
  | 0, _ => st_k0 hP
  | 1, _ => st_k1 hP
  | 2, _ => st_k2 hP
  | 3, _ => st_k3 hP
  | 4, _ => st_k4 hP
  | 5, _ => st_k5 hP
  | 6, _ => st_k6 hP
  | 7, _ => st_k7 hP
  | 8, _ => st_k8 hP
  | 9, _ => st_k9 hP
  | 10, _ => st_k10 hP
  | 11, _ => st_k11 hP
  | 12, _ => st_k12 hP
  | 13, _ => st_k13 hP
  | 14, _ => st_k14 hP
  | 15, _ => st_k15 hP
  | 16, _ => st_k16 hP
  | 17, _ => st_k17 hP
  | 18, _ => st_k18 hP
  | 19, _ => st_k19 hP
  | 20, _ => st_k20 hP
  | n + 21, h => absurd h (by omega)
theorem st_c1 {D : va_G} {ca : Nat → ClassId} {h1 h2 h3 tk : Nat} {qa qb : Nat → Nat} {H : Heap} (hP : va_P D vwCl (st_ws ca h1 h2 h3 qa qb) H) : ∀ n : Nat, n < 21 → va_at D vwCl (st_ad h1 h2 h3 qa qb tk (n + 21), ob_cell (st_ad h1 h2 h3 qa qb tk) ca (n + 21) (st_g0.1 (n + 21)) (st_g0.2 (n + 21))) H
  | 0, _ => st_k21 hP
  | 1, _ => st_k22 hP
  | 2, _ => st_k23 hP
  | 3, _ => st_k24 hP
  | 4, _ => st_k25 hP
  | 5, _ => st_k26 hP
  | 6, _ => st_k27 hP
  | 7, _ => st_k28 hP
  | 8, _ => st_k29 hP
  | 9, _ => st_k30 hP
  | 10, _ => st_k31 hP
  | 11, _ => st_k32 hP
  | 12, _ => st_k33 hP
  | 13, _ => st_k34 hP
  | 14, _ => st_k35 hP
  | 15, _ => st_k36 hP
  | 16, _ => st_k37 hP
  | 17, _ => st_k38 hP
  | 18, _ => st_k39 hP
  | 19, _ => st_k40 hP
  | 20, _ => st_k41 hP
  | n + 21, h => absurd h (by omega)
theorem st_c2 {D : va_G} {ca : Nat → ClassId} {h1 h2 h3 tk : Nat} {qa qb : Nat → Nat} {H : Heap} (hP : va_P D vwCl (st_ws ca h1 h2 h3 qa qb) H) : ∀ n : Nat, n < 21 → va_at D vwCl (st_ad h1 h2 h3 qa qb tk (n + 42), ob_cell (st_ad h1 h2 h3 qa qb tk) ca (n + 42) (st_g0.1 (n + 42)) (st_g0.2 (n + 42))) H
  | 0, _ => st_k42 hP
  | 1, _ => st_k43 hP
  | 2, _ => st_k44 hP
  | 3, _ => st_k45 hP
  | 4, _ => st_k46 hP
  | 5, _ => st_k47 hP
  | 6, _ => st_k48 hP
  | 7, _ => st_k49 hP
  | 8, _ => st_k50 hP
  | 9, _ => st_k51 hP
  | 10, _ => st_k52 hP
  | 11, _ => st_k53 hP
  | 12, _ => st_k54 hP
  | 13, _ => st_k55 hP
  | 14, _ => st_k56 hP
  | 15, _ => st_k57 hP
  | 16, _ => st_k58 hP
  | 17, _ => st_k59 hP
  | 18, _ => st_k60 hP
  | 19, _ => st_k61 hP
  | 20, _ => st_k62 hP
  | n + 21, h => absurd h (by omega)
theorem st_c3 {D : va_G} {ca : Nat → ClassId} {h1 h2 h3 tk : Nat} {qa qb : Nat → Nat} {H : Heap} (hP : va_P D vwCl (st_ws ca h1 h2 h3 qa qb) H) : ∀ n : Nat, n < 21 → va_at D vwCl (st_ad h1 h2 h3 qa qb tk (n + 63), ob_cell (st_ad h1 h2 h3 qa qb tk) ca (n + 63) (st_g0.1 (n + 63)) (st_g0.2 (n + 63))) H
  | 0, _ => st_k63 hP
  | 1, _ => st_k64 hP
  | 2, _ => st_k65 hP
  | 3, _ => st_k66 hP
  | 4, _ => st_k67 hP
  | 5, _ => st_k68 hP
  | 6, _ => st_k69 hP
  | 7, _ => st_k70 hP
  | 8, _ => st_k71 hP
  | 9, _ => st_k72 hP
  | 10, _ => st_k73 hP
  | 11, _ => st_k74 hP
  | 12, _ => st_k75 hP
  | 13, _ => st_k76 hP
  | 14, _ => st_k77 hP
  | 15, _ => st_k78 hP
  | 16, _ => st_k79 hP
  | 17, _ => st_k80 hP
  | 18, _ => st_k81 hP
  | 19, _ => st_k82 hP
  | 20, _ => st_k83 hP
  | n + 21, h => absurd h (by omega)
theorem st_c4 {D : va_G} {ca : Nat → ClassId} {h1 h2 h3 tk : Nat} {qa qb : Nat → Nat} {H : Heap} (hP : va_P D vwCl (st_ws ca h1 h2 h3 qa qb) H) : ∀ n : Nat, n < 21 → va_at D vwCl (st_ad h1 h2 h3 qa qb tk (n + 84), ob_cell (st_ad h1 h2 h3 qa qb tk) ca (n + 84) (st_g0.1 (n + 84)) (st_g0.2 (n + 84))) H
  | 0, _ => st_k84 hP
  | 1, _ => st_k85 hP
  | 2, _ => st_k86 hP
  | 3, _ => st_k87 hP
  | 4, _ => st_k88 hP
  | 5, _ => st_k89 hP
  | 6, _ => st_k90 hP
  | 7, _ => st_k91 hP
  | 8, _ => st_k92 hP
  | 9, _ => st_k93 hP
  | 10, _ => st_k94 hP
  | 11, _ => st_k95 hP
  | 12, _ => st_k96 hP
  | 13, _ => st_k97 hP
  | 14, _ => st_k98 hP
  | 15, _ => st_k99 hP
  | 16, _ => st_k100 hP
  | 17, _ => st_k101 hP
  | 18, _ => st_k102 hP
  | 19, _ => st_k103 hP
  | 20, _ => st_k104 hP
  | n + 21, h => absurd h (by omega)
theorem st_c5 {D : va_G} {ca : Nat → ClassId} {h1 h2 h3 tk : Nat} {qa qb : Nat → Nat} {H : Heap} (hP : va_P D vwCl (st_ws ca h1 h2 h3 qa qb) H) : ∀ n : Nat, n < 21 → va_at D vwCl (st_ad h1 h2 h3 qa qb tk (n + 105), ob_cell (st_ad h1 h2 h3 qa qb tk) ca (n + 105) (st_g0.1 (n + 105)) (st_g0.2 (n + 105))) H
  | 0, _ => st_k105 hP
  | 1, _ => st_k106 hP
  | 2, _ => st_k107 hP
  | 3, _ => st_k108 hP
  | 4, _ => st_k109 hP
  | 5, _ => st_k110 hP
  | 6, _ => st_k111 hP
  | 7, _ => st_k112 hP
  | 8, _ => st_k113 hP
  | 9, _ => st_k114 hP
  | 10, _ => st_k115 hP
  | 11, _ => st_k116 hP
  | 12, _ => st_k117 hP
  | 13, _ => st_k118 hP
  | 14, _ => st_k119 hP
  | 15, _ => st_k120 hP
  | 16, _ => st_k121 hP
  | 17, _ => st_k122 hP
  | 18, _ => st_k123 hP
  | 19, _ => st_k124 hP
  | 20, _ => st_k125 hP
  | n + 21, h => absurd h (by omega)
theorem st_P {D : va_G} {ca : Nat → ClassId} {h1 h2 h3 tk : Nat} {qa qb : Nat → Nat} {H : Heap} (hP : va_P D vwCl (st_ws ca h1 h2 h3 qa qb) H) : va_P D vwCl (ob_ws (st_ad h1 h2 h3 qa qb tk) ca st_g0) H := by
  intro k q hk
  obtain ⟨hl, rfl⟩ := ob_ws_of hk
  have hl : k < 126 := hl
  rcases (show k < 21 ∨ (21 ≤ k ∧ k < 42) ∨ (42 ≤ k ∧ k < 63) ∨ (63 ≤ k ∧ k < 84) ∨ (84 ≤ k ∧ k < 105) ∨ (105 ≤ k ∧ k < 126) by omega) with h | h | h | h | h | h
  · exact st_c0 (tk := tk) hP k h
  · obtain ⟨j, rfl⟩ : ∃ j, k = j + 21 := ⟨k - 21, by omega⟩
    exact st_c1 (tk := tk) hP j (by omega)
  · obtain ⟨j, rfl⟩ : ∃ j, k = j + 42 := ⟨k - 42, by omega⟩
    exact st_c2 (tk := tk) hP j (by omega)
  · obtain ⟨j, rfl⟩ : ∃ j, k = j + 63 := ⟨k - 63, by omega⟩
    exact st_c3 (tk := tk) hP j (by omega)
  · obtain ⟨j, rfl⟩ : ∃ j, k = j + 84 := ⟨k - 84, by omega⟩
    exact st_c4 (tk := tk) hP j (by omega)
  · obtain ⟨j, rfl⟩ : ∃ j, k = j + 105 := ⟨k - 105, by omega⟩
    exact st_c5 (tk := tk) hP j (by omega)
theorem st_a0 {ca : Nat → ClassId} {h1 h2 h3 tk : Nat} {qa qb : Nat → Nat} : ∀ n : Nat, n < 21 → ∃ e : va_E, (st_ws ca h1 h2 h3 qa qb)[st_pm.getD (n + 0) 0]? = some (st_ad h1 h2 h3 qa qb tk (n + 0), e)
  | 0, _ => ⟨_, rfl⟩
  | 1, _ => ⟨_, rfl⟩
  | 2, _ => ⟨_, rfl⟩
  | 3, _ => ⟨_, rfl⟩
  | 4, _ => ⟨_, rfl⟩
  | 5, _ => ⟨_, rfl⟩
  | 6, _ => ⟨_, rfl⟩
  | 7, _ => ⟨_, rfl⟩
  | 8, _ => ⟨_, rfl⟩
  | 9, _ => ⟨_, rfl⟩
  | 10, _ => ⟨_, rfl⟩
  | 11, _ => ⟨_, rfl⟩
  | 12, _ => ⟨_, rfl⟩
  | 13, _ => ⟨_, rfl⟩
  | 14, _ => ⟨_, rfl⟩
  | 15, _ => ⟨_, rfl⟩
  | 16, _ => ⟨_, rfl⟩
  | 17, _ => ⟨_, rfl⟩
  | 18, _ => ⟨_, rfl⟩
  | 19, _ => ⟨_, rfl⟩
  | 20, _ => ⟨_, rfl⟩
  | n + 21, h => absurd h (by omega)
theorem st_a1 {ca : Nat → ClassId} {h1 h2 h3 tk : Nat} {qa qb : Nat → Nat} : ∀ n : Nat, n < 21 → ∃ e : va_E, (st_ws ca h1 h2 h3 qa qb)[st_pm.getD (n + 21) 0]? = some (st_ad h1 h2 h3 qa qb tk (n + 21), e)
  | 0, _ => ⟨_, rfl⟩
  | 1, _ => ⟨_, rfl⟩
  | 2, _ => ⟨_, rfl⟩
  | 3, _ => ⟨_, rfl⟩
  | 4, _ => ⟨_, rfl⟩
  | 5, _ => ⟨_, rfl⟩
  | 6, _ => ⟨_, rfl⟩
  | 7, _ => ⟨_, rfl⟩
  | 8, _ => ⟨_, rfl⟩
  | 9, _ => ⟨_, rfl⟩
  | 10, _ => ⟨_, rfl⟩
  | 11, _ => ⟨_, rfl⟩
  | 12, _ => ⟨_, rfl⟩
  | 13, _ => ⟨_, rfl⟩
  | 14, _ => ⟨_, rfl⟩
  | 15, _ => ⟨_, rfl⟩
  | 16, _ => ⟨_, rfl⟩
  | 17, _ => ⟨_, rfl⟩
  | 18, _ => ⟨_, rfl⟩
  | 19, _ => ⟨_, rfl⟩
  | 20, _ => ⟨_, rfl⟩
  | n + 21, h => absurd h (by omega)
theorem st_a2 {ca : Nat → ClassId} {h1 h2 h3 tk : Nat} {qa qb : Nat → Nat} : ∀ n : Nat, n < 21 → ∃ e : va_E, (st_ws ca h1 h2 h3 qa qb)[st_pm.getD (n + 42) 0]? = some (st_ad h1 h2 h3 qa qb tk (n + 42), e)
  | 0, _ => ⟨_, rfl⟩
  | 1, _ => ⟨_, rfl⟩
  | 2, _ => ⟨_, rfl⟩
  | 3, _ => ⟨_, rfl⟩
  | 4, _ => ⟨_, rfl⟩
  | 5, _ => ⟨_, rfl⟩
  | 6, _ => ⟨_, rfl⟩
  | 7, _ => ⟨_, rfl⟩
  | 8, _ => ⟨_, rfl⟩
  | 9, _ => ⟨_, rfl⟩
  | 10, _ => ⟨_, rfl⟩
  | 11, _ => ⟨_, rfl⟩
  | 12, _ => ⟨_, rfl⟩
  | 13, _ => ⟨_, rfl⟩
  | 14, _ => ⟨_, rfl⟩
  | 15, _ => ⟨_, rfl⟩
  | 16, _ => ⟨_, rfl⟩
  | 17, _ => ⟨_, rfl⟩
  | 18, _ => ⟨_, rfl⟩
  | 19, _ => ⟨_, rfl⟩
  | 20, _ => ⟨_, rfl⟩
  | n + 21, h => absurd h (by omega)
theorem st_a3 {ca : Nat → ClassId} {h1 h2 h3 tk : Nat} {qa qb : Nat → Nat} : ∀ n : Nat, n < 21 → ∃ e : va_E, (st_ws ca h1 h2 h3 qa qb)[st_pm.getD (n + 63) 0]? = some (st_ad h1 h2 h3 qa qb tk (n + 63), e)
  | 0, _ => ⟨_, rfl⟩
  | 1, _ => ⟨_, rfl⟩
  | 2, _ => ⟨_, rfl⟩
  | 3, _ => ⟨_, rfl⟩
  | 4, _ => ⟨_, rfl⟩
  | 5, _ => ⟨_, rfl⟩
  | 6, _ => ⟨_, rfl⟩
  | 7, _ => ⟨_, rfl⟩
  | 8, _ => ⟨_, rfl⟩
  | 9, _ => ⟨_, rfl⟩
  | 10, _ => ⟨_, rfl⟩
  | 11, _ => ⟨_, rfl⟩
  | 12, _ => ⟨_, rfl⟩
  | 13, _ => ⟨_, rfl⟩
  | 14, _ => ⟨_, rfl⟩
  | 15, _ => ⟨_, rfl⟩
  | 16, _ => ⟨_, rfl⟩
  | 17, _ => ⟨_, rfl⟩
  | 18, _ => ⟨_, rfl⟩
  | 19, _ => ⟨_, rfl⟩
  | 20, _ => ⟨_, rfl⟩
  | n + 21, h => absurd h (by omega)
theorem st_a4 {ca : Nat → ClassId} {h1 h2 h3 tk : Nat} {qa qb : Nat → Nat} : ∀ n : Nat, n < 21 → ∃ e : va_E, (st_ws ca h1 h2 h3 qa qb)[st_pm.getD (n + 84) 0]? = some (st_ad h1 h2 h3 qa qb tk (n + 84), e)
  | 0, _ => ⟨_, rfl⟩
  | 1, _ => ⟨_, rfl⟩
  | 2, _ => ⟨_, rfl⟩
  | 3, _ => ⟨_, rfl⟩
  | 4, _ => ⟨_, rfl⟩
  | 5, _ => ⟨_, rfl⟩
  | 6, _ => ⟨_, rfl⟩
  | 7, _ => ⟨_, rfl⟩
  | 8, _ => ⟨_, rfl⟩
  | 9, _ => ⟨_, rfl⟩
  | 10, _ => ⟨_, rfl⟩
  | 11, _ => ⟨_, rfl⟩
  | 12, _ => ⟨_, rfl⟩
  | 13, _ => ⟨_, rfl⟩
  | 14, _ => ⟨_, rfl⟩
  | 15, _ => ⟨_, rfl⟩
  | 16, _ => ⟨_, rfl⟩
  | 17, _ => ⟨_, rfl⟩
  | 18, _ => ⟨_, rfl⟩
  | 19, _ => ⟨_, rfl⟩
  | 20, _ => ⟨_, rfl⟩
  | n + 21, h => absurd h (by omega)
theorem st_a5 {ca : Nat → ClassId} {h1 h2 h3 tk : Nat} {qa qb : Nat → Nat} : ∀ n : Nat, n < 21 → ∃ e : va_E, (st_ws ca h1 h2 h3 qa qb)[st_pm.getD (n + 105) 0]? = some (st_ad h1 h2 h3 qa qb tk (n + 105), e)
  | 0, _ => ⟨_, rfl⟩
  | 1, _ => ⟨_, rfl⟩
  | 2, _ => ⟨_, rfl⟩
  | 3, _ => ⟨_, rfl⟩
  | 4, _ => ⟨_, rfl⟩
  | 5, _ => ⟨_, rfl⟩
  | 6, _ => ⟨_, rfl⟩
  | 7, _ => ⟨_, rfl⟩
  | 8, _ => ⟨_, rfl⟩
  | 9, _ => ⟨_, rfl⟩
  | 10, _ => ⟨_, rfl⟩
  | 11, _ => ⟨_, rfl⟩
  | 12, _ => ⟨_, rfl⟩
  | 13, _ => ⟨_, rfl⟩
  | 14, _ => ⟨_, rfl⟩
  | 15, _ => ⟨_, rfl⟩
  | 16, _ => ⟨_, rfl⟩
  | 17, _ => ⟨_, rfl⟩
  | 18, _ => ⟨_, rfl⟩
  | 19, _ => ⟨_, rfl⟩
  | 20, _ => ⟨_, rfl⟩
  | n + 21, h => absurd h (by omega)
theorem st_at {ca : Nat → ClassId} {h1 h2 h3 tk : Nat} {qa qb : Nat → Nat} : ∀ k : Nat, k < 126 → ∃ e : va_E, (st_ws ca h1 h2 h3 qa qb)[st_pm.getD k 0]? = some (st_ad h1 h2 h3 qa qb tk k, e) := by
  intro k hl
  rcases (show k < 21 ∨ (21 ≤ k ∧ k < 42) ∨ (42 ≤ k ∧ k < 63) ∨ (63 ≤ k ∧ k < 84) ∨ (84 ≤ k ∧ k < 105) ∨ (105 ≤ k ∧ k < 126) by omega) with h | h | h | h | h | h
  · exact st_a0 k h
  · obtain ⟨j, rfl⟩ : ∃ j, k = j + 21 := ⟨k - 21, by omega⟩
    exact st_a1 j (by omega)
  · obtain ⟨j, rfl⟩ : ∃ j, k = j + 42 := ⟨k - 42, by omega⟩
    exact st_a2 j (by omega)
  · obtain ⟨j, rfl⟩ : ∃ j, k = j + 63 := ⟨k - 63, by omega⟩
    exact st_a3 j (by omega)
  · obtain ⟨j, rfl⟩ : ∃ j, k = j + 84 := ⟨k - 84, by omega⟩
    exact st_a4 j (by omega)
  · obtain ⟨j, rfl⟩ : ∃ j, k = j + 105 := ⟨k - 105, by omega⟩
    exact st_a5 j (by omega)
theorem st_pi : ∀ i, i < 126 → ∀ j, j < 126 → st_pm.getD i 0 = st_pm.getD j 0 → i = j := by decide +kernel
theorem st_inj {ca : Nat → ClassId} {h1 h2 h3 tk : Nat} {qa qb : Nat → Nat} {A : Nat → Prop} (hD : va_D A (st_ws ca h1 h2 h3 qa qb)) : ob_Inj (st_ad h1 h2 h3 qa qb tk) := by
  intro i j hi hj h
  obtain ⟨e1, g1⟩ := st_at (ca := ca) (h1 := h1) (h2 := h2) (h3 := h3) (tk := tk) (qa := qa) (qb := qb) i hi
  obtain ⟨e2, g2⟩ := st_at (ca := ca) (h1 := h1) (h2 := h2) (h3 := h3) (tk := tk) (qa := qa) (qb := qb) j hj
  exact st_pi i hi j hj (hD.1 _ _ _ _ g1 g2 h)
theorem law_all {p : Program} {l : Launch} {e : Env} {s : State} {m : MethodId} {below : List Frame} {meth : Method} {c : Code} {b L : Nat} {xs : Nat → Int32} {D : va_G} {ad : Nat → Nat} {ca : Nat → ClassId} (hst : l.stackTraces = false) (C0 : lw_At p s m meth c b L xs) (hK : va_K D vwCl (ob_ty ca) s) (hi : ob_Inj ad) (hnew : ∀ n, n < 126 → s.heap.size ≤ ad n) (hSF : ob_SF ad (ob_A ad s.heap.size) s s.heap) (hN : ob_Nst s) :
    ∀ (n ce sl : Nat), ce + n + 1 ≤ 601024 → sl + 6 * n + 6 ≤ 7293034 → ∀ {g : ob_St} {x4 : Int32} {x : ob_St}, law_f L xs 20 0 19 n g x4 = some x → ob_Ev (p, l, e, room_1, s, m, #[Value.ref b], below, meth, c, D, ad, ca, lw_Z below #[Value.ref b] s, ce, sl) 23 [(0, .ref b), (1, .ref (ad 20)), (2, .ref (ad 0)), (3, .ref (ad 19)), (4, .int x4)] [] g := by
  obtain ⟨hx, hb, hr, hml, hown, hts, hX, hbl, hlocks, hgv⟩ := id C0
  have hG : ∀ w ∈ ob_GT, w.before #[Value.ref b] s = true := fun w h => hts w (ob_GT_tbl w h)
  have hbA : ¬ ob_A ad s.heap.size b := by
    rintro (⟨n, h1, h2⟩ | h)
    · have := hnew n h1
      omega
    · omega
  intro n
  induction n with
  | zero => intro ce sl _ _ g x4 x h; exact ob_no h
  | succ n ih =>
    intro ce sl h1 h2 g x4 x h
    refine law_tb (C := (p, l, e, room_1, s, m, #[Value.ref b], below, meth, c, D, ad, ca, lw_Z below #[Value.ref b] s, ce, sl)) (b := b) (n1 := 20) (n2 := 0) (n3 := 19) ⟨hx, hb, hml, hown, hG, hK, hi, hSF, hN, Nat.le_refl _, Nat.le_refl _, by show ce ≤ 601024; omega, by show sl ≤ 7293034; omega, hr, hlocks⟩ ⟨hx, hb, hml, hown, hG, hK, hi, hSF, hN, Nat.le_refl _, Nat.le_refl _, by show ce + 1 ≤ 601024; omega, by show sl + 6 ≤ 7293034; omega, hr, hlocks⟩ ⟨hX, hbl, hbA⟩ hst (fun h => ih (ce + 1) (sl + 6) (by omega) (by omega) h) h (fun g => ?_)
    intro H locs la hP hS hl
    refine lv_iconst (v := 1) hx hb dL_law_2096 (by decide) ?_
    refine va_forget (fun q hq => ?_) ?_
    · rcases hS.2.2 q hq with ⟨n, g1, g2⟩ | g1
      · rw [g2]; exact hnew n g1
      · exact g1
    refine W.widen (k := 601024) (n := 7293034) (by omega) (by omega) ?_
    exact lw_ret hx hb hr hlocks dL_law_2097
theorem cn_L_8 : kv_Cn RL 8 11 RX11 TX11 12 tyX11 := ⟨rfl, inX11, tyX11_ok, tw1_23, tw1_24, tw1_1, by decide +kernel⟩
theorem cn_L_54 : kv_Cn RL 54 12 RX12 TX12 30 tyX12 := ⟨rfl, inX12, tyX12_ok, tw5_172, tw5_173, tw1_17, by decide +kernel⟩
/-- THE LAW, from its entry, out of the pure law -/
theorem whole_open (pure : ∀ (L : Nat) (xs : Nat → Int32), L ≤ 3072 → ∃ x, law_f L xs 20 0 19 513 st_g0 0 = some x) {p : Program} {e : Env} {s : State} {m : MethodId} {below : List Frame} {meth : Method} {c : Code} (l : Launch) (hflags : l.flags = flags0) {b L : Nat} {xs : Nat → Int32} (hL : L ≤ 3072) (C0 : lw_At p s m meth c b L xs) : W p l e room_1 s m #[Value.ref b] below meth c s.heap [] 0 0 (lw_Z below #[Value.ref b] s) (entryFrame m ([Value.ref b] : List Value).toArray 8) := by
  obtain ⟨x, hpure⟩ := pure L xs hL
  have hst : l.stackTraces = false := by
    unfold Launch.stackTraces
    rw [hflags]
    decide +kernel
  obtain ⟨hx, hb, hr, hml, hown, hts, hX, hbl, hlocks, hgv⟩ := id C0
  have hG : ∀ w ∈ ob_GT, w.before #[Value.ref b] s = true := fun w h => hts w (ob_GT_tbl w h)
  obtain ⟨dC, dI, hKc⟩ := st_cls hG
  obtain ⟨ca, hKa⟩ := st_arr hts
  have hK : va_K (dC, dI) vwCl (ob_ty ca) s := ⟨hKc, hKa⟩
  obtain ⟨kq, vq, tk, f1, f2, f3⟩ := st_facts hts hgv (A := kv_A s.heap.size s.heap.size) (fun a h z => by rcases z with z | z <;> omega)
  obtain ⟨f1a, f1b⟩ := f1 (fun n => if n = 1 then kq else vq) rfl rfl
  have hl := lv_entry ([.ref b]) (n := 8) (Nat.le_of_ble_eq_true rfl)
  rw [lg_entry_eq]
  generalize (lg_sl ([.ref b]) ++ List.replicate (8 - (lg_sl ([.ref b])).length) Slot.unset).toArray = ls at hl ⊢
  have F : kv_Fx (p, l, e, room_1, s, m, #[Value.ref b], below, meth, c, (dC, dI), (fun n => if n = 1 then kq else vq), ca, lw_Z below #[Value.ref b] s, s.heap.size, 0) cL_law 8 RL 11 454 := ⟨hx, hb, hml, hown, hG, hK, ⟨f1a, f1b⟩, Nat.le_refl _, Nat.le_refl _, hlocks⟩
  have key : kv_Ev (p, l, e, room_1, s, m, #[Value.ref b], below, meth, c, (dC, dI), (fun n => if n = 1 then kq else vq), ca, lw_Z below #[Value.ref b] s, s.heap.size, 0) 0 [(0, .ref b)] [] [] 0 0 := by
    refine kv_new F dL_law_0 cn_L_8 ⟨Nat.le_of_ble_eq_true rfl, Nat.le_of_ble_eq_true rfl⟩ (fun h1 => ?_)
    refine kv_dup F dL_law_3 rfl ?_
    refine kv_init F (ws0 := []) (K := 11) dL_law_4 ib_X11_init tw1_26 rfl (Or.inl tw1_25) k_X11_init rfl rfl (Nat.le_of_ble_eq_true rfl) (by decide) ⟨Nat.le_of_ble_eq_true rfl, Nat.le_of_ble_eq_true rfl⟩ rfl (fun qa => ?_)
    refine kv_astore_n F (ls2 := [(1, .ref h1), (0, .ref b)]) dL_law_7 (by decide) rfl ?_
    refine kv_new F dL_law_8 cn_L_54 ⟨Nat.le_of_ble_eq_true rfl, Nat.le_of_ble_eq_true rfl⟩ (fun h2 => ?_)
    refine kv_dup F dL_law_11 rfl ?_
    refine kv_init F (ws0 := [] ++ W_X11_init ca h1 qa) (K := 12) dL_law_12 ib_X12_init tw5_175 rfl (Or.inl tw5_174) k_X12_init rfl rfl (Nat.le_of_ble_eq_true rfl) (by decide) ⟨Nat.le_of_ble_eq_true rfl, Nat.le_of_ble_eq_true rfl⟩ rfl (fun qb => ?_)
    refine kv_astore_n F (ls2 := [(2, .ref h2), (1, .ref h1), (0, .ref b)]) dL_law_15 (by decide) rfl ?_
    refine kv_iconst F (v := 1) dL_law_16 (by decide) ?_
    refine kv_newaJ F 1 dL_law_17 ac_long (by decide) (by decide) (by decide) ⟨Nat.le_of_ble_eq_true rfl, Nat.le_of_ble_eq_true rfl⟩ (fun h3 => ?_)
    refine kv_astore_n F (ls2 := [(3, .ref h3), (2, .ref h2), (1, .ref h1), (0, .ref b)]) dL_law_19 (by decide) rfl ?_
    refine kv_iconst F (v := 0) dL_law_20 (by decide) ?_
    refine kv_istore F (x := 0) (ls2 := [(4, .int 0), (3, .ref h3), (2, .ref h2), (1, .ref h1), (0, .ref b)]) dL_law_21 (by decide) rfl ?_
    intro H locs la hP hD hS hlv
    have hws : ([] ++ W_X11_init ca h1 qa ++ W_X12_init ca h2 qb) ++ [(h3, .inl (ca 15, 1, .inr (.inl (fun _ => 0))))] = st_ws ca h1 h2 h3 qa qb := by
      unfold st_ws
      rw [List.nil_append, List.append_assoc]
    have hP : va_P (dC, dI) vwCl (st_ws ca h1 h2 h3 qa qb) H := by rw [← hws]; exact hP
    have hD : va_D (kv_A s.heap.size s.heap.size) (st_ws ca h1 h2 h3 qa qb) := by rw [← hws]; exact hD
    have hi := st_inj (tk := tk) hD
    have hnew : ∀ n, n < 126 → s.heap.size ≤ st_ad h1 h2 h3 qa qb tk n := by
      intro n hn
      obtain ⟨e1, g1⟩ := st_at (ca := ca) (h1 := h1) (h2 := h2) (h3 := h3) (tk := tk) (qa := qa) (qb := qb) n hn
      rcases hD.2 _ _ g1 with g2 | g2
      · exact Nat.le_of_eq g2.symm
      · exact g2
    have hAB : ∀ q, ob_A (st_ad h1 h2 h3 qa qb tk) s.heap.size q → kv_A s.heap.size s.heap.size q := by
      rintro q (⟨n, g1, g2⟩ | g1)
      · rw [g2]; exact Or.inr (hnew n g1)
      · exact Or.inr g1
    have hgo := law_all (p := p) (l := l) (e := e) (below := below) (D := (dC, dI)) (ad := st_ad h1 h2 h3 qa qb tk) (ca := ca) hst C0 hK hi hnew ((f2 _ rfl).narrow hAB) f3 513 130 11100 (Nat.le_of_ble_eq_true rfl) (Nat.le_of_ble_eq_true rfl) hpure
    refine W.widen (k := 130) (n := 11100) (Nat.le_of_ble_eq_true rfl) (Nat.le_of_ble_eq_true rfl) (hgo H locs la (st_P (tk := tk) hP) ⟨hS.1, fun q g1 g2 => hS.2.1 q g1 (fun z => by rcases z with z | z <;> omega), fun q hq => ?_⟩ (lv_sub hlv [4, 3, 2, 1, 0] rfl))
    rcases hS.2.2 q hq with g2 | g2
    · exact Or.inr (Nat.le_of_eq g2.symm)
    · exact Or.inr g2
  exact key s.heap [] ls (fun k q h => by simp at h) ⟨fun i j p q h => by simp at h, fun k q h => by simp at h⟩ va_S.rf (by rw [hml]; exact hl)
