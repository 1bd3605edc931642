/-! the cells of both objects by names 0..125 (0: the reference, 19: the row of the law, 20: the bench), their kinds (0..12 as vwCl, 13 bytes, 14 ints, 15 longs, 16 booleans, 17.. rows of references), lengths, references -/
abbrev ob_St : Type := (Nat → Nat → Int32) × (Nat → Nat → Int64)
def ob_NN : Nat := 126
def ob_kds : List Nat := [12, 14, 14, 14, 14, 16, 13, 13, 13, 15, 15, 15, 13, 13, 15, 15, 15, 15, 15, 15, 11, 13, 18, 16, 5, 14, 14, 17, 1, 1, 1, 1, 5, 14, 14, 17, 1, 1, 1, 1, 5, 14, 14, 17, 1, 1, 1, 1, 5, 14, 14, 17, 1, 1, 1, 1, 7, 10, 14, 14, 15, 15, 15, 0, 14, 14, 14, 3, 14, 14, 15, 19, 9, 15, 4, 15, 14, 4, 15, 14, 9, 15, 4, 15, 14, 4, 15, 14, 9, 15, 4, 15, 14, 4, 15, 14, 9, 15, 4, 15, 14, 4, 15, 14, 9, 15, 4, 15, 14, 4, 15, 14, 6, 15, 15, 2, 21, 15, 15, 20, 14, 14, 8, 15, 15, 14]
def ob_lns : List Nat := [30, 70, 70, 140, 560, 2, 540, 8, 32, 676, 676, 14, 676, 676, 338, 338, 52, 169, 169, 1, 12, 540, 2, 2, 7, 13, 13, 4, 10, 10, 10, 10, 7, 13, 13, 4, 10, 10, 10, 10, 7, 13, 13, 4, 10, 10, 10, 10, 7, 13, 13, 4, 10, 10, 10, 10, 8, 5, 501, 501, 501, 20, 4, 4, 8, 8, 8, 7, 91, 91, 13, 4, 3, 91, 2, 91, 91, 2, 91, 91, 3, 91, 2, 91, 91, 2, 91, 91, 3, 91, 2, 91, 91, 2, 91, 91, 3, 91, 2, 91, 91, 2, 91, 91, 3, 91, 2, 91, 91, 2, 91, 91, 3, 91, 91, 3, 2, 91, 91, 2, 91, 91, 5, 91, 91, 92]
def ob_rfs : List (List Nat) := [[0, 1, 2, 3, 4, 5, 0, 6, 0, 0, 0, 0, 0, 0, 0, 0, 0, 7, 8, 0, 9, 10, 11, 12, 13, 14, 15, 16, 17, 18], [], [], [], [], [], [], [], [], [], [], [], [], [], [], [], [], [], [], [], [21, 0, 0, 24, 22, 23, 56, 63, 67, 112, 115, 122], [], [40, 48], [], [25, 26, 27, 0, 0, 0, 0], [], [], [28, 29, 30, 31], [0, 0, 0, 0, 0, 0, 0, 0, 0, 0], [0, 0, 0, 0, 0, 0, 0, 0, 0, 0], [0, 0, 0, 0, 0, 0, 0, 0, 0, 0], [0, 0, 0, 0, 0, 0, 0, 0, 0, 0], [33, 34, 35, 0, 0, 0, 0], [], [], [36, 37, 38, 39], [0, 0, 0, 0, 0, 0, 0, 0, 0, 0], [0, 0, 0, 0, 0, 0, 0, 0, 0, 0], [0, 0, 0, 0, 0, 0, 0, 0, 0, 0], [0, 0, 0, 0, 0, 0, 0, 0, 0, 0], [41, 42, 43, 0, 0, 0, 0], [], [], [44, 45, 46, 47], [0, 0, 0, 0, 0, 0, 0, 0, 0, 0], [0, 0, 0, 0, 0, 0, 0, 0, 0, 0], [0, 0, 0, 0, 0, 0, 0, 0, 0, 0], [0, 0, 0, 0, 0, 0, 0, 0, 0, 0], [49, 50, 51, 0, 0, 0, 0], [], [], [52, 53, 54, 55], [0, 0, 0, 0, 0, 0, 0, 0, 0, 0], [0, 0, 0, 0, 0, 0, 0, 0, 0, 0], [0, 0, 0, 0, 0, 0, 0, 0, 0, 0], [0, 0, 0, 0, 0, 0, 0, 0, 0, 0], [32, 0, 0, 57, 62, 0, 0, 0], [58, 59, 60, 21, 61], [], [], [], [], [], [64, 65, 66, 0], [], [], [], [24, 68, 69, 70, 71, 104, 0], [], [], [], [72, 80, 88, 96], [73, 74, 77], [], [75, 76], [], [], [78, 79], [], [], [81, 82, 85], [], [83, 84], [], [], [86, 87], [], [], [89, 90, 93], [], [91, 92], [], [], [94, 95], [], [], [97, 98, 101], [], [99, 100], [], [], [102, 103], [], [], [105, 106, 109], [], [107, 108], [], [], [110, 111], [], [], [67, 113, 114], [], [], [67, 116, 119], [117, 118], [], [], [120, 121], [], [], [67, 123, 124, 125, 0], [], [], []]
def ob_masks : List (List Bool) := [[true, true, true, false], [false, false, false, false, false, false, false, false, false, false], [true, true, true], [true, true, true, true, true, true, false], [true, true], [true, true, true, false, false, false, false], [true, true, true], [true, false, false, true, true, false, false, false], [true, true, true, true, false], [true, true, true], [true, true, true, true, true], [true, false, false, true, true, true, true, true, true, true, true, true], [false, true, true, true, true, true, false, true, false, false, false, false, false, false, false, false, false, true, true, false, true, true, true, true, true, true, true, true, true, true]]
def ob_kns : List Int32 := [99, 97, 108, 108, 0, 0, 112, 117, 116, 0, 0, 0, 100, 105, 103, 105, 116, 0, 115, 112, 114, 101, 97, 100, 101, 105, 116, 104, 101, 114, 111, 118, 101, 114, 0, 0, 111, 110, 99, 101, 0, 0, 97, 110, 121, 0, 0, 0, 102, 114, 111, 109, 0, 0, 111, 117, 116, 0, 0, 0, 105, 110, 0, 0, 0, 0, 97, 98, 111, 118, 101, 0, 98, 101, 108, 111, 119, 0, 114, 101, 98, 97, 116, 101, 114, 101, 99, 97, 108, 108, 115, 116, 111, 99, 107, 0, 115, 116, 101, 112, 0, 0, 116, 105, 109, 101, 115, 0, 99, 97, 115, 104, 0, 0, 111, 112, 116, 105, 111, 110]
def ob_kd (n : Nat) : Nat := ob_kds.getD n 99
def ob_ln (n : Nat) : Nat := ob_lns.getD n 0
def ob_rf (n k : Nat) : Nat := (ob_rfs.getD n []).getD k 0
def ob_mask (k : Nat) : List Bool := ob_masks.getD k []
def ob_kn (j : Nat) : Int32 := ob_kns.getD j 0
def ob_fs (ad : Nat → Nat) (n : Nat) (i : Nat → Int32) (mk : List Bool) : List Value := mk.mapIdx (fun k b => if b then .ref (ad (ob_rf n k)) else .int (i k))
def ob_cell (ad : Nat → Nat) (ca : Nat → ClassId) (n : Nat) (i : Nat → Int32) (l : Nat → Int64) : va_E :=
  if ob_kd n < 13 then .inr (ob_kd n, ob_fs ad n i (ob_mask (ob_kd n)))
  else if ob_kd n = 15 then .inl (ca 15, ob_ln n, .inr (.inl l))
  else if ob_kd n < 17 then .inl (ca (ob_kd n), ob_ln n, .inl i)
  else .inl (ca (ob_kd n), ob_ln n, .inr (.inr (.inr (.inr (fun j => some (ad (ob_rf n j)))))))
def ob_ws (ad : Nat → Nat) (ca : Nat → ClassId) (g : ob_St) : va_W := (List.range ob_NN).map (fun n => (ad n, ob_cell ad ca n (g.1 n) (g.2 n)))
def ob_ty (ca : Nat → ClassId) : List (ClassId × FieldType) := [(ca 13, .byte), (ca 14, .int), (ca 15, .long), (ca 16, .boolean), (ca 17, .object "OptionBench$Contract"), (ca 18, .object "OptionBench$Market"), (ca 19, .object "OptionBench$Sheet"), (ca 20, .array .int), (ca 21, .array .long)]
def ob_A (ad : Nat → Nat) (sz : Nat) : Nat → Prop := fun q => (∃ n, n < ob_NN ∧ q = ad n) ∨ sz ≤ q
/-- the statics that are read: KNOWN and its row, and the two of a throw -/
def ob_SF (ad : Nat → Nat) (A : Nat → Prop) (U : State) (H : Heap) : Prop :=
  va_Z "OptionBenchModel" "KNOWN" "[B" (.ref (ad 126)) A U H ∧ va_T .byte (ad 126) 120 (fun j => .int (ob_kn j)) A U H ∧ vx_Zq Bundle.tN "UNASSIGNED_STACK" Bundle.steD A U H ∧ vx_Zq Bundle.tN "SUPPRESSED_SENTINEL" Bundle.listD A U H
def ob_Inj (ad : Nat → Nat) : Prop := ∀ i j : Nat, i < ob_NN → j < ob_NN → ad i = ad j → i = j
def ob_nest : List (String × Nat × MethodName) := [(RX3, 85, yX11_nodeAt), (RX3, 176, yX11_isPast), (RX6, 34, yX11_nodeAt), (RX2, 108, yX11_nodeAt), (RX8, 50, yX11_nodeAt), (RX8, 57, yX11_isPast)]
def ob_NS : String := "java/util/NoSuchElementException"
/-- the words of a throw that are not kept with the tables -/
def ob_xw : List Cond := [.castable ob_NS ob_NS, .declares ⟨"java/lang/RuntimeException", "<init>", "()V"⟩, .declares ⟨"java/lang/Exception", "<init>", "()V"⟩, .declares ⟨"java/lang/Throwable", "<init>", "()V"⟩]
/-- the links between nest mates, and those words -/
def ob_Nst (U : State) : Prop := (∀ q ∈ ob_nest, va_Nw (.methodLinkNest q.1 q.2.1 q.2.2 RX11) U) ∧ ∀ w ∈ ob_xw, va_Nw w U
theorem ob_xw_on : ∀ w ∈ ob_xw, w.onTables = true := by
  intro w h
  simp only [ob_xw, List.mem_cons, List.not_mem_nil, or_false] at h
  rcases h with rfl | rfl | rfl | rfl <;> rfl
theorem ob_Nst.warm {s U : State} (hW : s.WarmedH U.vm) (h : ob_Nst s) : ob_Nst U := by
  refine ⟨fun q hq => va_Nw.warmM hW (h.1 q hq), fun w hw => ?_⟩
  have h2 := h.2 w hw
  simp only [ob_xw, List.mem_cons, List.not_mem_nil, or_false] at hw
  rcases hw with rfl | rfl | rfl | rfl
  · exact va_Nw.warmC hW h2
  · exact va_Nw.warmD hW h2
  · exact va_Nw.warmD hW h2
  · exact va_Nw.warmD hW h2
theorem ob_Nst.same {s U : State} (hv : s.vm = U.vm) (h : ob_Nst s) : ob_Nst U := ⟨fun q hq => va_Nw.same rfl hv (h.1 q hq), fun w hw => va_Nw.same (ob_xw_on w hw) hv (h.2 w hw)⟩
theorem ob_SF.moved {ad : Nat → Nat} {A : Nat → Prop} {u U : State} {H : Heap} (hvm : u.vm.Alike U.vm) (h : ob_SF ad A u H) : ob_SF ad A U H := ⟨h.1.moved hvm, h.2.1.moved hvm, h.2.2.1.moved hvm, h.2.2.2.moved hvm⟩
theorem ob_SF.kept {ad : Nat → Nat} {A : Nat → Prop} {U : State} {H H1 : Heap} (h : ob_SF ad A U H) (hq : ∀ a : Nat, a < H.size → ¬ A a → H1[a]? = H[a]?) : ob_SF ad A U H1 := ⟨h.1.kept hq, h.2.1.kept hq, h.2.2.1.kept hq, h.2.2.2.kept hq⟩
theorem ob_SF.narrow {ad : Nat → Nat} {A B : Nat → Prop} {U : State} {H : Heap} (h : ob_SF ad A U H) (hAB : ∀ q, B q → A q) : ob_SF ad B U H := ⟨h.1.narrow hAB, h.2.1.narrow hAB, h.2.2.1.narrow hAB, h.2.2.2.narrow hAB⟩
theorem ob_A_mono {ad : Nat → Nat} {a b : Nat} (h : a ≤ b) : ∀ q, ob_A ad b q → ob_A ad a q := fun q z => z.elim Or.inl (fun z => Or.inr (Nat.le_trans h z))
/-- the world at a method's entry or end -/
def ob_Wd (D : va_G) (ad : Nat → Nat) (ca : Nat → ClassId) (sz : Nat) (g : ob_St) (U : State) : Prop :=
  va_P D vwCl (ob_ws ad ca g) U.heap ∧ va_K D vwCl (ob_ty ca) U ∧ ob_Inj ad ∧ ob_SF ad (ob_A ad sz) U U.heap ∧ ob_Nst U
/-! reads and writes of the pure machine -/
def ob_up (f : Nat → Nat → Int32) (n k : Nat) (v : Int32) : Nat → Nat → Int32 := fun a => if a = n then upd (f n) k v else f a
def ob_upL (f : Nat → Nat → Int64) (n k : Nat) (v : Int64) : Nat → Nat → Int64 := fun a => if a = n then vp_updL (f n) k v else f a
def ob_gI (g : ob_St) (K n k : Nat) : Option Int32 := if ob_kd n = K then some (g.1 n k) else none
def ob_gR (K n k : Nat) : Option Nat := if ob_kd n = K then some (ob_rf n k) else none
def ob_pI (g : ob_St) (K n k : Nat) (v : Int32) : Option ob_St := if ob_kd n = K then some (ob_up g.1 n k v, g.2) else none
def ob_pZ (g : ob_St) (K n k : Nat) (v : Int32) : Option ob_St := if ob_kd n = K ∧ (v = 0 ∨ v = 1) then some (ob_up g.1 n k v, g.2) else none
def ob_zr (v : Int32) : Option Int32 := if v = 0 ∨ v = 1 then some v else none
def ob_in (i : Int32) (n : Nat) : Bool := decide (¬ i < 0) && decide (i.toNatClampNeg < n)
def ob_rI (g : ob_St) (K n : Nat) (i : Int32) : Option Int32 := if ob_kd n = K ∧ ob_in i (ob_ln n) = true then some (g.1 n i.toNatClampNeg) else none
def ob_rL (g : ob_St) (n : Nat) (i : Int32) : Option Int64 := if ob_kd n = 15 ∧ ob_in i (ob_ln n) = true then some (g.2 n i.toNatClampNeg) else none
def ob_rR (K n : Nat) (i : Int32) : Option Nat := if ob_kd n = K ∧ ob_in i (ob_ln n) = true then some (ob_rf n i.toNatClampNeg) else none
def ob_rK (i : Int32) : Option Int32 := if ob_in i 120 = true then some (ob_kn i.toNatClampNeg) else none
def ob_wI (g : ob_St) (n : Nat) (i v : Int32) : Option ob_St := if ob_kd n = 14 ∧ ob_in i (ob_ln n) = true then some (ob_up g.1 n i.toNatClampNeg v, g.2) else none
def ob_wB (g : ob_St) (n : Nat) (i v : Int32) : Option ob_St := if ob_kd n = 13 ∧ ob_in i (ob_ln n) = true then some (ob_up g.1 n i.toNatClampNeg (vp_nar .byte v), g.2) else none
def ob_wZ (g : ob_St) (n : Nat) (i v : Int32) : Option ob_St := if ob_kd n = 16 ∧ ob_in i (ob_ln n) = true then some (ob_up g.1 n i.toNatClampNeg (vp_nar .boolean v), g.2) else none
def ob_wL (g : ob_St) (n : Nat) (i : Int32) (v : Int64) : Option ob_St := if ob_kd n = 15 ∧ ob_in i (ob_ln n) = true then some (g.1, ob_upL g.2 n i.toNatClampNeg v) else none
def ob_len (K n : Nat) : Option Int32 := if ob_kd n = K then some (Int32.ofNat (ob_ln n)) else none
def ob_ck {α : Type} (K n : Nat) (x : Option α) : Option α := if ob_kd n = K then x else none
def ob_dv (a b : Int32) : Option Int32 := if b = 0 then none else some (a / b)
def ob_dvL (a b : Int64) : Option Int64 := if b = 0 then none else some (a / b)
def ob_rmL (a b : Int64) : Option Int64 := if b = 0 then none else some (a - a / b * b)
def ob_let {α β : Type} (x : α) (f : α → Option β) : Option β := f x
def ob_FU : Nat := 5000
/-! the world's cells -/
theorem ob_kd_lt {n K : Nat} (h : ob_kd n = K) (hK : K < 99) : n < ob_NN := by
  rcases Nat.lt_or_ge n ob_NN with q | q
  · exact q
  · exfalso
    have h2 : ob_kds.getD n 99 = 99 := by
      rw [List.getD_eq_getElem?_getD, List.getElem?_eq_none (by exact q)]; rfl
    unfold ob_kd at h
    omega
theorem ob_ws_at {ad : Nat → Nat} {ca : Nat → ClassId} {g : ob_St} {n : Nat} (h : n < ob_NN) : (ob_ws ad ca g)[n]? = some (ad n, ob_cell ad ca n (g.1 n) (g.2 n)) := by
  unfold ob_ws
  rw [List.getElem?_map, List.getElem?_range h]
  rfl
theorem ob_ws_of {ad : Nat → Nat} {ca : Nat → ClassId} {g : ob_St} {k : Nat} {q : Nat × va_E} (h : (ob_ws ad ca g)[k]? = some q) : k < ob_NN ∧ q = (ad k, ob_cell ad ca k (g.1 k) (g.2 k)) := by
  have hk : k < ob_NN := by
    have h1 := (List.getElem?_eq_some_iff.mp h).1
    simpa [ob_ws] using h1
  rw [ob_ws_at hk] at h
  exact ⟨hk, (Option.some.inj h).symm⟩
theorem ob_ws_set {ad : Nat → Nat} {ca : Nat → ClassId} {g g2 : ob_St} {n : Nat} (hn : n < ob_NN) (h1 : ∀ m, m ≠ n → g2.1 m = g.1 m) (h2 : ∀ m, m ≠ n → g2.2 m = g.2 m) :
    (ob_ws ad ca g).set n (ad n, ob_cell ad ca n (g2.1 n) (g2.2 n)) = ob_ws ad ca g2 := by
  apply List.ext_getElem?
  intro k
  by_cases hk : k = n
  · subst hk
    rw [List.getElem?_set_self (by simpa [ob_ws] using hn), ob_ws_at hn]
  · rw [List.getElem?_set_ne (Ne.symm hk)]
    unfold ob_ws
    rw [List.getElem?_map, List.getElem?_map]
    cases hq : (List.range ob_NN)[k]? with
    | none => rfl
    | some z =>
      have hz : z = k := by
        rw [List.getElem?_eq_some_iff] at hq
        obtain ⟨_, hq⟩ := hq
        rw [List.getElem_range] at hq
        exact hq.symm
      subst hz
      simp [h1 z hk, h2 z hk]
theorem ob_D {ad : Nat → Nat} {ca : Nat → ClassId} {g : ob_St} (sz : Nat) (hi : ob_Inj ad) : va_D (ob_A ad sz) (ob_ws ad ca g) := by
  refine ⟨fun i j p q h1 h2 h3 => ?_, fun k q h => ?_⟩
  · obtain ⟨l1, rfl⟩ := ob_ws_of h1
    obtain ⟨l2, rfl⟩ := ob_ws_of h2
    exact hi i j l1 l2 h3
  · obtain ⟨l1, rfl⟩ := ob_ws_of h
    exact Or.inl ⟨k, l1, rfl⟩
theorem ob_cell_obj {ad : Nat → Nat} {ca : Nat → ClassId} {n K : Nat} {i : Nat → Int32} {l : Nat → Int64} (h : ob_kd n = K) (hK : K < 13) : ob_cell ad ca n i l = .inr (K, ob_fs ad n i (ob_mask K)) := by
  unfold ob_cell
  rw [if_pos (by omega), h]
theorem ob_cell_J {ad : Nat → Nat} {ca : Nat → ClassId} {n : Nat} {i : Nat → Int32} {l : Nat → Int64} (h : ob_kd n = 15) : ob_cell ad ca n i l = .inl (ca 15, ob_ln n, .inr (.inl l)) := by
  unfold ob_cell
  rw [if_neg (by omega), if_pos h]
theorem ob_cell_I {ad : Nat → Nat} {ca : Nat → ClassId} {n K : Nat} {i : Nat → Int32} {l : Nat → Int64} (h : ob_kd n = K) (h1 : 13 ≤ K) (h2 : K < 17) (h3 : K ≠ 15) : ob_cell ad ca n i l = .inl (ca K, ob_ln n, .inl i) := by
  unfold ob_cell
  rw [if_neg (by omega), if_neg (by omega), if_pos (by omega), h]
theorem ob_cell_R {ad : Nat → Nat} {ca : Nat → ClassId} {n K : Nat} {i : Nat → Int32} {l : Nat → Int64} (h : ob_kd n = K) (h1 : 17 ≤ K) : ob_cell ad ca n i l = .inl (ca K, ob_ln n, .inr (.inr (.inr (.inr (fun j => some (ad (ob_rf n j))))))) := by
  unfold ob_cell
  rw [if_neg (by omega), if_neg (by omega), if_neg (by omega), h]
theorem ob_fs_at {ad : Nat → Nat} {n k : Nat} {i : Nat → Int32} {mk : List Bool} {b : Bool} (h : mk[k]? = some b) : (ob_fs ad n i mk)[k]? = some (if b then .ref (ad (ob_rf n k)) else .int (i k)) := by
  unfold ob_fs
  rw [List.getElem?_mapIdx, h]
  rfl
theorem ob_fs_len {ad : Nat → Nat} {n : Nat} {i : Nat → Int32} {mk : List Bool} : (ob_fs ad n i mk).length = mk.length := by
  unfold ob_fs
  rw [List.length_mapIdx]
theorem ob_fs_set {ad : Nat → Nat} {n k : Nat} {i : Nat → Int32} {mk : List Bool} {v : Int32} (h : mk[k]? = some false) : (ob_fs ad n i mk).set k (.int v) = ob_fs ad n (upd i k v) mk := by
  apply List.ext_getElem?
  intro j
  by_cases hj : j = k
  · subst hj
    rw [List.getElem?_set_self (by rw [ob_fs_len]; exact (List.getElem?_eq_some_iff.mp h).1), ob_fs_at h]
    simp [upd]
  · rw [List.getElem?_set_ne (Ne.symm hj)]
    unfold ob_fs
    rw [List.getElem?_mapIdx, List.getElem?_mapIdx]
    cases mk[j]? with
    | none => rfl
    | some b => simp [upd, hj]
theorem ob_in_iff {i : Int32} {n : Nat} : ob_in i n = true ↔ vp_in i n := by
  unfold ob_in vp_in
  simp only [Bool.and_eq_true, decide_eq_true_eq]
  constructor
  · rintro ⟨h1, h2⟩ (q | q)
    · exact h1 q
    · omega
  · intro h
    exact ⟨fun q => h (Or.inl q), Nat.not_le.mp fun q => h (Or.inr q)⟩
theorem ob_ws_I {ad : Nat → Nat} {ca : Nat → ClassId} {g : ob_St} {n K i : Nat} {v : Int32} (hk : ob_kd n = K) (h1 : 13 ≤ K) (h2 : K < 17) (h3 : K ≠ 15) : (ob_ws ad ca g).set n (ad n, .inl (ca K, ob_ln n, .inl (upd (g.1 n) i v))) = ob_ws ad ca (ob_up g.1 n i v, g.2) := by
  rw [← ob_ws_set (g := g) (g2 := (ob_up g.1 n i v, g.2)) (ob_kd_lt hk (by omega)) (fun m hm => by simp [ob_up, hm]) (fun _ _ => rfl), ob_cell_I hk h1 h2 h3]
  simp [ob_up]
theorem ob_ws_J {ad : Nat → Nat} {ca : Nat → ClassId} {g : ob_St} {n i : Nat} {v : Int64} (hk : ob_kd n = 15) : (ob_ws ad ca g).set n (ad n, .inl (ca 15, ob_ln n, .inr (.inl (vp_updL (g.2 n) i v)))) = ob_ws ad ca (g.1, ob_upL g.2 n i v) := by
  rw [← ob_ws_set (g := g) (g2 := (g.1, ob_upL g.2 n i v)) (ob_kd_lt hk (by omega)) (fun _ _ => rfl) (fun m hm => by simp [ob_upL, hm]), ob_cell_J hk]
  simp [ob_upL]
theorem ob_ws_O {ad : Nat → Nat} {ca : Nat → ClassId} {g : ob_St} {n K k : Nat} {v : Int32} (hk : ob_kd n = K) (hK : K < 13) (hm : (ob_mask K)[k]? = some false) : (ob_ws ad ca g).set n (ad n, .inr (K, (ob_fs ad n (g.1 n) (ob_mask K)).set k (.int v))) = ob_ws ad ca (ob_up g.1 n k v, g.2) := by
  rw [← ob_ws_set (g := g) (g2 := (ob_up g.1 n k v, g.2)) (ob_kd_lt hk (by omega)) (fun m hm => by simp [ob_up, hm]) (fun _ _ => rfl), ob_cell_obj hk hK, ob_fs_set hm]
  simp [ob_up]
theorem va_aldA {p : Program} {l : Launch} {e : Env} {R : Room} {s : State} {m : MethodId} {args : Array Value} {below : List Frame} {meth : Method} {c : Code} {H : Heap} {locs : List Loc} {cells slots : Nat} {Q : State → Prop} {cc : ByteArray} {pc : Nat} {ls : Array Slot} {rest : List Value} {D : va_G} {cl : List vw_C} {a : Nat} {tys : List (ClassId × FieldType)} {ws : va_W}
    (hexec : p.tables.exec = Jvm.exec) (hb : c.code = cc) (hK : va_K D cl tys s) (hP : va_P D cl ws H) (q0 t0 : Nat) {cA : ClassId} {ty : FieldType} {n : Nat} {f : Nat → Option Nat} (ha : ws[q0]? = some (a, .inl (cA, n, .inr (.inr (.inr (.inr f)))))) (ht : tys[t0]? = some (cA, .array ty)) {i : Int32} (hin : vp_in i n) (hdg : decode cc pc = .ok (.aaload, 1))
    (kk : W p l e R s m args below meth c H locs cells slots Q (F0 m (pc + 1) ls (va_rf (f i.toNatClampNeg) :: rest))) : W p l e R s m args below meth c H locs cells slots Q (F0 m pc ls (.int i :: .ref a :: rest)) := by
  have hlt : i.toNatClampNeg < n := Nat.not_le.mp fun q => hin (Or.inr q)
  exact W.aald (v := va_rf (f i.toNatClampNeg)) (ty := .array ty) hexec hb (hP q0 _ ha) ((hK.2 t0 _ ht).1 n (fun j => va_rf (f j))) rfl (fun q => by cases q) (by show ¬ (i < 0 ∨ (arrV _ _ _).slots.size ≤ _); rw [arrV_size]; exact hin) (by show (arrV _ _ _).slots[_]? = _; rw [arrV_read _ _ hlt]) rfl rfl hdg kk
theorem ob_at_obj {ad : Nat → Nat} {ca : Nat → ClassId} {g : ob_St} {n K : Nat} (h : ob_kd n = K) (hK : K < 13) : (ob_ws ad ca g)[n]? = some (ad n, .inr (K, ob_fs ad n (g.1 n) (ob_mask K))) := by
  rw [ob_ws_at (ob_kd_lt h (by omega)), ob_cell_obj h hK]
theorem ob_at_I {ad : Nat → Nat} {ca : Nat → ClassId} {g : ob_St} {n K : Nat} (h : ob_kd n = K) (h1 : 13 ≤ K) (h2 : K < 17) (h3 : K ≠ 15) : (ob_ws ad ca g)[n]? = some (ad n, .inl (ca K, ob_ln n, .inl (g.1 n))) := by
  rw [ob_ws_at (ob_kd_lt h (by omega)), ob_cell_I h h1 h2 h3]
theorem ob_at_J {ad : Nat → Nat} {ca : Nat → ClassId} {g : ob_St} {n : Nat} (h : ob_kd n = 15) : (ob_ws ad ca g)[n]? = some (ad n, .inl (ca 15, ob_ln n, .inr (.inl (g.2 n)))) := by
  rw [ob_ws_at (ob_kd_lt h (by omega)), ob_cell_J h]
theorem ob_at_R {ad : Nat → Nat} {ca : Nat → ClassId} {g : ob_St} {n K : Nat} (h : ob_kd n = K) (h1 : 17 ≤ K) (h2 : K < 99) : (ob_ws ad ca g)[n]? = some (ad n, .inl (ca K, ob_ln n, .inr (.inr (.inr (.inr (fun j => some (ad (ob_rf n j)))))))) := by
  rw [ob_ws_at (ob_kd_lt h (by omega)), ob_cell_R h h1]
