-- X12_whenWord
def B_X12_whenWord_47 (g : ob_St) (n0 : Nat) (x1 : Int32) (x2 : Int32) : Option (Int32 × ob_St) :=
  (if x2 = 8 then ((ob_ck 12 n0 (f_X12_takes g n0 (x1 + 3) 0 12)).bind fun v6 => (if v6.1 = 0 then (some (0, v6.2)) else (some (1, v6.2)))) else (some (1, g)))
theorem b_X12_whenWord_47 {C : ob_Cx} (F : ob_Fx C cX12_whenWord 3 RX12 (some .boolean) 4 88) {g : ob_St} {n0 : Nat} {x1 : Int32} {x2 : Int32} {r : (Int32 × ob_St)} (h : B_X12_whenWord_47 g n0 x1 x2 = some r) (k : ob_Rt C (some (.int r.1)) r.2) : ob_Ev C 47 [(0, ob_rv C n0), (1, .int x1), (2, .int x2)] [] g := by
  unfold B_X12_whenWord_47 at h
  refine ob_iload_n F 2 dX12_whenWord_47 rfl ?_
  refine ob_bipush F (v := 8) dX12_whenWord_48 (by decide) ?_
  refine ob_icmp_ne F 66 dX12_whenWord_50 (by decide) h (fun h => ?_) (fun h => ?_)
  · refine ob_iconst F (v := 1) dX12_whenWord_66 (by decide) ?_
    refine ob_goto F 71 dX12_whenWord_67 (by decide) ?_
    obtain rfl := Option.some.inj h
    exact ob_zret F dX12_whenWord_71 (Or.inr rfl) k
  · refine ob_rload_n F 0 dX12_whenWord_53 rfl ?_
    refine ob_iload_n F 1 dX12_whenWord_54 rfl ?_
    refine ob_iconst F (v := 3) dX12_whenWord_55 (by decide) ?_
    refine ob_iadd F dX12_whenWord_56 ?_
    refine ob_iconst F (v := 0) dX12_whenWord_57 (by decide) ?_
    refine ob_bipush F (v := 12) dX12_whenWord_58 (by decide) ?_
    refine ob_cViS F dX12_whenWord_60 im_X12_takes tw6_87 h (fun b hb => t_X12_takes hb) rfl rfl (Nat.le_of_ble_eq_true rfl) (by decide) fun v6 h => ?_
    refine ob_if_eq F 70 dX12_whenWord_63 (by decide) h (fun h => ?_) (fun h => ?_)
    · refine ob_iconst F (v := 0) dX12_whenWord_70 (by decide) ?_
      obtain rfl := Option.some.inj h
      exact ob_zret F dX12_whenWord_71 (Or.inl rfl) k
    · refine ob_iconst F (v := 1) dX12_whenWord_66 (by decide) ?_
      refine ob_goto F 71 dX12_whenWord_67 (by decide) ?_
      obtain rfl := Option.some.inj h
      exact ob_zret F dX12_whenWord_71 (Or.inr rfl) k
def f_X12_whenWord (g : ob_St) (n0 : Nat) (x1 : Int32) : Option (Int32 × ob_St) :=
  (ob_ck 12 n0 (f_X12_known g n0)).bind fun v1 => (ob_gR 12 n0 2).bind fun v2 => (ob_wI g v2 (x1 + 3) 99).bind fun g3 => (f_X12_isIn v1 6 8).bind fun v4 => (if v4 = 0 then (some (1, g3)) else ((ob_ck 12 n0 (f_X12_next g3 n0)).bind fun g5 => (if v1 = 7 then ((ob_gR 12 n0 2).bind fun v7 => (ob_wI g5 v7 (x1 + 3) 0).bind fun g8 => B_X12_whenWord_47 g8 n0 x1 v1) else (B_X12_whenWord_47 g5 n0 x1 v1))))
theorem b_X12_whenWord_0 {C : ob_Cx} (F : ob_Fx C cX12_whenWord 3 RX12 (some .boolean) 4 88) {g : ob_St} {n0 : Nat} {x1 : Int32} {r : (Int32 × ob_St)} (h : f_X12_whenWord g n0 x1 = some r) (k : ob_Rt C (some (.int r.1)) r.2) : ob_Ev C 0 [(0, ob_rv C n0), (1, .int x1)] [] g := by
  unfold f_X12_whenWord at h
  refine ob_rload_n F 0 dX12_whenWord_0 rfl ?_
  refine ob_cVi F dX12_whenWord_1 im_X12_known tw6_73 h (fun b hb => t_X12_known hb) rfl rfl (Nat.le_of_ble_eq_true rfl) (by decide) fun v1 h => ?_
  refine ob_istore_n F (ls2 := [(2, .int v1), (0, ob_rv C n0), (1, .int x1)]) dX12_whenWord_4 (by decide) rfl ?_
  refine ob_rload_n F 1 dX12_whenWord_5 rfl ?_
  refine ob_getR F dX12_whenWord_6 fl_X12_17 h fun v2 h => ?_
  refine ob_iload_n F 2 dX12_whenWord_9 rfl ?_
  refine ob_iconst F (v := 3) dX12_whenWord_10 (by decide) ?_
  refine ob_iadd F dX12_whenWord_11 ?_
  refine ob_bipush F (v := 99) dX12_whenWord_12 (by decide) ?_
  refine ob_iast F dX12_whenWord_14 h fun g3 h => ?_
  refine ob_iload_n F 0 dX12_whenWord_15 rfl ?_
  refine ob_bipush F (v := 6) dX12_whenWord_16 (by decide) ?_
  refine ob_bipush F (v := 8) dX12_whenWord_18 (by decide) ?_
  refine ob_cSi F dX12_whenWord_20 im_X12_isIn tw6_67 h (fun b hb => t_X12_isIn hb) rfl rfl (Nat.le_of_ble_eq_true rfl) (by decide) fun v4 h => ?_
  refine ob_if_ne F 28 dX12_whenWord_23 (by decide) h (fun h => ?_) (fun h => ?_)
  · refine ob_rload_n F 1 dX12_whenWord_28 rfl ?_
    refine ob_cVvS F dX12_whenWord_29 im_X12_next tw6_56 h (fun b hb => t_X12_next hb) rfl rfl (Nat.le_of_ble_eq_true rfl) (by decide) fun g5 h => ?_
    refine ob_iload_n F 0 dX12_whenWord_32 rfl ?_
    refine ob_bipush F (v := 7) dX12_whenWord_33 (by decide) ?_
    refine ob_icmp_ne F 47 dX12_whenWord_35 (by decide) h (fun h => ?_) (fun h => ?_)
    · exact ob_sub [1, 2, 0] rfl (b_X12_whenWord_47 F h k)
    · refine ob_rload_n F 1 dX12_whenWord_38 rfl ?_
      refine ob_getR F dX12_whenWord_39 fl_X12_17 h fun v7 h => ?_
      refine ob_iload_n F 2 dX12_whenWord_42 rfl ?_
      refine ob_iconst F (v := 3) dX12_whenWord_43 (by decide) ?_
      refine ob_iadd F dX12_whenWord_44 ?_
      refine ob_iconst F (v := 0) dX12_whenWord_45 (by decide) ?_
      refine ob_iast F dX12_whenWord_46 h fun g8 h => ?_
      exact ob_sub [1, 2, 0] rfl (b_X12_whenWord_47 F h k)
  · refine ob_iconst F (v := 1) dX12_whenWord_26 (by decide) ?_
    obtain rfl := Option.some.inj h
    exact ob_zret F dX12_whenWord_27 (Or.inr rfl) k
theorem t_X12_whenWord {cf : ob_Cf} {g : ob_St} {n0 : Nat} {x1 : Int32} {r : (Int32 × ob_St)} (h : f_X12_whenWord g n0 x1 = some r) : ob_Mt cf yX12_whenWord cX12_whenWord 3 (some .boolean) 4 88 [ob_rw cf n0, .int x1] g (some (.int r.1)) r.2 := by
  refine ob_enter (by decide) (Nat.le_of_ble_eq_true rfl) (Or.inr rfl) ?_
  intro C hC F k
  subst hC
  exact b_X12_whenWord_0 F h k
-- X12_barrier
def B_X12_barrier_121 (g : ob_St) (n0 : Nat) (x1 : Int32) (x2 : Int32) (s0 : Nat) (s1 : Int32) (s2 : Int32) : Option (Int32 × ob_St) :=
  (ob_wI g s0 s1 s2).bind fun g15 => (ob_ck 12 n0 (f_X12_next g15 n0)).bind fun g16 => (ob_ck 12 n0 (f_X12_takes g16 n0 (x1 + 6) 0 999)).bind fun v17 => (if v17.1 = 0 then (some (0, v17.2)) else ((if x2 = 9 then ((ob_ck 12 n0 (f_X12_known v17.2 n0)).bind fun v18 => (if v18 = 13 then ((ob_ck 12 n0 (f_X12_next v17.2 n0)).bind fun g19 => (ob_ck 12 n0 (f_X12_takes g19 n0 (x1 + 7) 0 99)).bind fun v20 => (ob_zr v20.1).bind fun z21 => some (z21, v20.2)) else (some (1, v17.2)))) else (some (1, v17.2)))))
theorem b_X12_barrier_121 {C : ob_Cx} (F : ob_Fx C cX12_barrier 4 RX12 (some .boolean) 4 88) {g : ob_St} {n0 : Nat} {x1 : Int32} {x2 : Int32} {s0 : Nat} {s1 : Int32} {s2 : Int32} {r : (Int32 × ob_St)} (h : B_X12_barrier_121 g n0 x1 x2 s0 s1 s2 = some r) (k : ob_Rt C (some (.int r.1)) r.2) : ob_Ev C 121 [(0, ob_rv C n0), (1, .int x1), (2, .int x2)] [.int s2, .int s1, ob_rv C s0] g := by
  unfold B_X12_barrier_121 at h
  refine ob_iast F dX12_barrier_121 h fun g15 h => ?_
  refine ob_rload_n F 0 dX12_barrier_122 rfl ?_
  refine ob_cVvS F dX12_barrier_123 im_X12_next tw6_56 h (fun b hb => t_X12_next hb) rfl rfl (Nat.le_of_ble_eq_true rfl) (by decide) fun g16 h => ?_
  refine ob_rload_n F 0 dX12_barrier_126 rfl ?_
  refine ob_iload_n F 1 dX12_barrier_127 rfl ?_
  refine ob_bipush F (v := 6) dX12_barrier_128 (by decide) ?_
  refine ob_iadd F dX12_barrier_130 ?_
  refine ob_iconst F (v := 0) dX12_barrier_131 (by decide) ?_
  refine ob_sipush F (v := 999) dX12_barrier_132 (by decide) ?_
  refine ob_cViS F dX12_barrier_135 im_X12_takes tw6_87 h (fun b hb => t_X12_takes hb) rfl rfl (Nat.le_of_ble_eq_true rfl) (by decide) fun v17 h => ?_
  refine ob_if_ne F 143 dX12_barrier_138 (by decide) h (fun h => ?_) (fun h => ?_)
  · refine ob_iload_n F 2 dX12_barrier_143 rfl ?_
    refine ob_bipush F (v := 9) dX12_barrier_144 (by decide) ?_
    refine ob_icmp_ne F 158 dX12_barrier_146 (by decide) h (fun h => ?_) (fun h => ?_)
    · refine ob_iconst F (v := 1) dX12_barrier_158 (by decide) ?_
      obtain rfl := Option.some.inj h
      exact ob_zret F dX12_barrier_159 (Or.inr rfl) k
    · refine ob_rload_n F 0 dX12_barrier_149 rfl ?_
      refine ob_cVi F dX12_barrier_150 im_X12_known tw6_73 h (fun b hb => t_X12_known hb) rfl rfl (Nat.le_of_ble_eq_true rfl) (by decide) fun v18 h => ?_
      refine ob_bipush F (v := 13) dX12_barrier_153 (by decide) ?_
      refine ob_icmp_eq F 160 dX12_barrier_155 (by decide) h (fun h => ?_) (fun h => ?_)
      · refine ob_rload_n F 0 dX12_barrier_160 rfl ?_
        refine ob_cVvS F dX12_barrier_161 im_X12_next tw6_56 h (fun b hb => t_X12_next hb) rfl rfl (Nat.le_of_ble_eq_true rfl) (by decide) fun g19 h => ?_
        refine ob_rload_n F 0 dX12_barrier_164 rfl ?_
        refine ob_iload_n F 1 dX12_barrier_165 rfl ?_
        refine ob_bipush F (v := 7) dX12_barrier_166 (by decide) ?_
        refine ob_iadd F dX12_barrier_168 ?_
        refine ob_iconst F (v := 0) dX12_barrier_169 (by decide) ?_
        refine ob_bipush F (v := 99) dX12_barrier_170 (by decide) ?_
        refine ob_cViS F dX12_barrier_172 im_X12_takes tw6_87 h (fun b hb => t_X12_takes hb) rfl rfl (Nat.le_of_ble_eq_true rfl) (by decide) fun v20 h => ?_
        refine ob_zrow h fun hz h => ?_
        obtain rfl := Option.some.inj h
        exact ob_zret F dX12_barrier_175 hz k
      · refine ob_iconst F (v := 1) dX12_barrier_158 (by decide) ?_
        obtain rfl := Option.some.inj h
        exact ob_zret F dX12_barrier_159 (Or.inr rfl) k
  · refine ob_iconst F (v := 0) dX12_barrier_141 (by decide) ?_
    obtain rfl := Option.some.inj h
    exact ob_zret F dX12_barrier_142 (Or.inl rfl) k
def B_X12_barrier_103 (g : ob_St) (n0 : Nat) (x1 : Int32) (x2 : Int32) (x3 : Int32) : Option (Int32 × ob_St) :=
  (ob_gR 12 n0 2).bind fun v14 => (if x3 = 11 then (B_X12_barrier_121 g n0 x1 x2 v14 (x1 + 5) 1) else (B_X12_barrier_121 g n0 x1 x2 v14 (x1 + 5) 0))
theorem b_X12_barrier_103 {C : ob_Cx} (F : ob_Fx C cX12_barrier 4 RX12 (some .boolean) 4 88) {g : ob_St} {n0 : Nat} {x1 : Int32} {x2 : Int32} {x3 : Int32} {r : (Int32 × ob_St)} (h : B_X12_barrier_103 g n0 x1 x2 x3 = some r) (k : ob_Rt C (some (.int r.1)) r.2) : ob_Ev C 103 [(0, ob_rv C n0), (1, .int x1), (2, .int x2), (3, .int x3)] [] g := by
  unfold B_X12_barrier_103 at h
  refine ob_rload_n F 0 dX12_barrier_103 rfl ?_
  refine ob_getR F dX12_barrier_104 fl_X12_17 h fun v14 h => ?_
  refine ob_iload_n F 1 dX12_barrier_107 rfl ?_
  refine ob_iconst F (v := 5) dX12_barrier_108 (by decide) ?_
  refine ob_iadd F dX12_barrier_109 ?_
  refine ob_iload_n F 3 dX12_barrier_110 rfl ?_
  refine ob_bipush F (v := 11) dX12_barrier_111 (by decide) ?_
  refine ob_icmp_ne F 120 dX12_barrier_113 (by decide) h (fun h => ?_) (fun h => ?_)
  · refine ob_iconst F (v := 0) dX12_barrier_120 (by decide) ?_
    exact ob_sub [0, 1, 2] rfl (b_X12_barrier_121 F h k)
  · refine ob_iconst F (v := 1) dX12_barrier_116 (by decide) ?_
    refine ob_goto F 121 dX12_barrier_117 (by decide) ?_
    exact ob_sub [0, 1, 2] rfl (b_X12_barrier_121 F h k)
def B_X12_barrier_75 (g : ob_St) (n0 : Nat) (x1 : Int32) (x2 : Int32) (s0 : Nat) (s1 : Int32) (s2 : Int32) : Option (Int32 × ob_St) :=
  (ob_wI g s0 s1 s2).bind fun g11 => (ob_ck 12 n0 (f_X12_next g11 n0)).bind fun g12 => (ob_ck 12 n0 (f_X12_known g12 n0)).bind fun v13 => (if v13 = 11 then (B_X12_barrier_103 g12 n0 x1 x2 v13) else ((if v13 = 12 then (B_X12_barrier_103 g12 n0 x1 x2 v13) else ((ob_ck 12 n0 (f_X12_badHere g12 n0 1)).bind fun v22 => (ob_zr v22.1).bind fun z23 => some (z23, v22.2)))))
theorem b_X12_barrier_75 {C : ob_Cx} (F : ob_Fx C cX12_barrier 4 RX12 (some .boolean) 4 88) {g : ob_St} {n0 : Nat} {x1 : Int32} {x2 : Int32} {s0 : Nat} {s1 : Int32} {s2 : Int32} {r : (Int32 × ob_St)} (h : B_X12_barrier_75 g n0 x1 x2 s0 s1 s2 = some r) (k : ob_Rt C (some (.int r.1)) r.2) : ob_Ev C 75 [(0, ob_rv C n0), (1, .int x1), (2, .int x2)] [.int s2, .int s1, ob_rv C s0] g := by
  unfold B_X12_barrier_75 at h
  refine ob_iast F dX12_barrier_75 h fun g11 h => ?_
  refine ob_rload_n F 0 dX12_barrier_76 rfl ?_
  refine ob_cVvS F dX12_barrier_77 im_X12_next tw6_56 h (fun b hb => t_X12_next hb) rfl rfl (Nat.le_of_ble_eq_true rfl) (by decide) fun g12 h => ?_
  refine ob_rload_n F 0 dX12_barrier_80 rfl ?_
  refine ob_cVi F dX12_barrier_81 im_X12_known tw6_73 h (fun b hb => t_X12_known hb) rfl rfl (Nat.le_of_ble_eq_true rfl) (by decide) fun v13 h => ?_
  refine ob_istore_n F (ls2 := [(3, .int v13), (0, ob_rv C n0), (1, .int x1), (2, .int x2)]) dX12_barrier_84 (by decide) rfl ?_
  refine ob_iload_n F 0 dX12_barrier_85 rfl ?_
  refine ob_bipush F (v := 11) dX12_barrier_86 (by decide) ?_
  refine ob_icmp_eq F 103 dX12_barrier_88 (by decide) h (fun h => ?_) (fun h => ?_)
  · exact ob_sub [1, 2, 3, 0] rfl (b_X12_barrier_103 F h k)
  · refine ob_iload_n F 0 dX12_barrier_91 rfl ?_
    refine ob_bipush F (v := 12) dX12_barrier_92 (by decide) ?_
    refine ob_icmp_eq F 103 dX12_barrier_94 (by decide) h (fun h => ?_) (fun h => ?_)
    · exact ob_sub [1, 2, 3, 0] rfl (b_X12_barrier_103 F h k)
    · refine ob_rload_n F 1 dX12_barrier_97 rfl ?_
      refine ob_iconst F (v := 1) dX12_barrier_98 (by decide) ?_
      refine ob_cViS F dX12_barrier_99 im_X12_badHere tw6_79 h (fun b hb => t_X12_badHere hb) rfl rfl (Nat.le_of_ble_eq_true rfl) (by decide) fun v22 h => ?_
      refine ob_zrow h fun hz h => ?_
      obtain rfl := Option.some.inj h
      exact ob_zret F dX12_barrier_102 hz k
def B_X12_barrier_57 (g : ob_St) (n0 : Nat) (x1 : Int32) (x2 : Int32) : Option (Int32 × ob_St) :=
  (ob_gR 12 n0 2).bind fun v10 => (if x2 = 9 then (B_X12_barrier_75 g n0 x1 x2 v10 (x1 + 4) 1) else (B_X12_barrier_75 g n0 x1 x2 v10 (x1 + 4) 2))
theorem b_X12_barrier_57 {C : ob_Cx} (F : ob_Fx C cX12_barrier 4 RX12 (some .boolean) 4 88) {g : ob_St} {n0 : Nat} {x1 : Int32} {x2 : Int32} {r : (Int32 × ob_St)} (h : B_X12_barrier_57 g n0 x1 x2 = some r) (k : ob_Rt C (some (.int r.1)) r.2) : ob_Ev C 57 [(0, ob_rv C n0), (1, .int x1), (2, .int x2)] [] g := by
  unfold B_X12_barrier_57 at h
  refine ob_rload_n F 0 dX12_barrier_57 rfl ?_
  refine ob_getR F dX12_barrier_58 fl_X12_17 h fun v10 h => ?_
  refine ob_iload_n F 1 dX12_barrier_61 rfl ?_
  refine ob_iconst F (v := 4) dX12_barrier_62 (by decide) ?_
  refine ob_iadd F dX12_barrier_63 ?_
  refine ob_iload_n F 2 dX12_barrier_64 rfl ?_
  refine ob_bipush F (v := 9) dX12_barrier_65 (by decide) ?_
  refine ob_icmp_ne F 74 dX12_barrier_67 (by decide) h (fun h => ?_) (fun h => ?_)
  · refine ob_iconst F (v := 2) dX12_barrier_74 (by decide) ?_
    exact b_X12_barrier_75 F h k
  · refine ob_iconst F (v := 1) dX12_barrier_70 (by decide) ?_
    refine ob_goto F 75 dX12_barrier_71 (by decide) ?_
    exact b_X12_barrier_75 F h k
def f_X12_barrier (g : ob_St) (n0 : Nat) (x1 : Int32) : Option (Int32 × ob_St) :=
  (ob_ck 12 n0 (f_X12_known g n0)).bind fun v1 => (ob_gR 12 n0 2).bind fun v2 => (ob_wI g v2 (x1 + 4) 0).bind fun g3 => (ob_gR 12 n0 2).bind fun v4 => (ob_wI g3 v4 (x1 + 5) (-1)).bind fun g5 => (ob_gR 12 n0 2).bind fun v6 => (ob_wI g5 v6 (x1 + 6) (-1)).bind fun g7 => (ob_gR 12 n0 2).bind fun v8 => (ob_wI g7 v8 (x1 + 7) 0).bind fun g9 => (if v1 = 9 then (B_X12_barrier_57 g9 n0 x1 v1) else ((if v1 = 10 then (B_X12_barrier_57 g9 n0 x1 v1) else (some (1, g9)))))
theorem b_X12_barrier_0 {C : ob_Cx} (F : ob_Fx C cX12_barrier 4 RX12 (some .boolean) 4 88) {g : ob_St} {n0 : Nat} {x1 : Int32} {r : (Int32 × ob_St)} (h : f_X12_barrier g n0 x1 = some r) (k : ob_Rt C (some (.int r.1)) r.2) : ob_Ev C 0 [(0, ob_rv C n0), (1, .int x1)] [] g := by
  unfold f_X12_barrier at h
  refine ob_rload_n F 0 dX12_barrier_0 rfl ?_
  refine ob_cVi F dX12_barrier_1 im_X12_known tw6_73 h (fun b hb => t_X12_known hb) rfl rfl (Nat.le_of_ble_eq_true rfl) (by decide) fun v1 h => ?_
  refine ob_istore_n F (ls2 := [(2, .int v1), (0, ob_rv C n0), (1, .int x1)]) dX12_barrier_4 (by decide) rfl ?_
  refine ob_rload_n F 1 dX12_barrier_5 rfl ?_
  refine ob_getR F dX12_barrier_6 fl_X12_17 h fun v2 h => ?_
  refine ob_iload_n F 2 dX12_barrier_9 rfl ?_
  refine ob_iconst F (v := 4) dX12_barrier_10 (by decide) ?_
  refine ob_iadd F dX12_barrier_11 ?_
  refine ob_iconst F (v := 0) dX12_barrier_12 (by decide) ?_
  refine ob_iast F dX12_barrier_13 h fun g3 h => ?_
  refine ob_rload_n F 1 dX12_barrier_14 rfl ?_
  refine ob_getR F dX12_barrier_15 fl_X12_17 h fun v4 h => ?_
  refine ob_iload_n F 2 dX12_barrier_18 rfl ?_
  refine ob_iconst F (v := 5) dX12_barrier_19 (by decide) ?_
  refine ob_iadd F dX12_barrier_20 ?_
  refine ob_iconst F (v := (-1)) dX12_barrier_21 (by decide) ?_
  refine ob_iast F dX12_barrier_22 h fun g5 h => ?_
  refine ob_rload_n F 1 dX12_barrier_23 rfl ?_
  refine ob_getR F dX12_barrier_24 fl_X12_17 h fun v6 h => ?_
  refine ob_iload_n F 2 dX12_barrier_27 rfl ?_
  refine ob_bipush F (v := 6) dX12_barrier_28 (by decide) ?_
  refine ob_iadd F dX12_barrier_30 ?_
  refine ob_iconst F (v := (-1)) dX12_barrier_31 (by decide) ?_
  refine ob_iast F dX12_barrier_32 h fun g7 h => ?_
  refine ob_rload_n F 1 dX12_barrier_33 rfl ?_
  refine ob_getR F dX12_barrier_34 fl_X12_17 h fun v8 h => ?_
  refine ob_iload_n F 2 dX12_barrier_37 rfl ?_
  refine ob_bipush F (v := 7) dX12_barrier_38 (by decide) ?_
  refine ob_iadd F dX12_barrier_40 ?_
  refine ob_iconst F (v := 0) dX12_barrier_41 (by decide) ?_
  refine ob_iast F dX12_barrier_42 h fun g9 h => ?_
  refine ob_iload_n F 0 dX12_barrier_43 rfl ?_
  refine ob_bipush F (v := 9) dX12_barrier_44 (by decide) ?_
  refine ob_icmp_eq F 57 dX12_barrier_46 (by decide) h (fun h => ?_) (fun h => ?_)
  · exact ob_sub [1, 2, 0] rfl (b_X12_barrier_57 F h k)
  · refine ob_iload_n F 0 dX12_barrier_49 rfl ?_
    refine ob_bipush F (v := 10) dX12_barrier_50 (by decide) ?_
    refine ob_icmp_eq F 57 dX12_barrier_52 (by decide) h (fun h => ?_) (fun h => ?_)
    · exact ob_sub [1, 2, 0] rfl (b_X12_barrier_57 F h k)
    · refine ob_iconst F (v := 1) dX12_barrier_55 (by decide) ?_
      obtain rfl := Option.some.inj h
      exact ob_zret F dX12_barrier_56 (Or.inr rfl) k
theorem t_X12_barrier {cf : ob_Cf} {g : ob_St} {n0 : Nat} {x1 : Int32} {r : (Int32 × ob_St)} (h : f_X12_barrier g n0 x1 = some r) : ob_Mt cf yX12_barrier cX12_barrier 4 (some .boolean) 4 88 [ob_rw cf n0, .int x1] g (some (.int r.1)) r.2 := by
  refine ob_enter (by decide) (Nat.le_of_ble_eq_true rfl) (Or.inr rfl) ?_
  intro C hC F k
  subst hC
  exact b_X12_barrier_0 F h k
-- X12_optionLine
def B_X12_optionLine_79 (rec : ob_St → Int32 → Option (ob_St)) (g : ob_St) (n0 : Nat) (x1 : Int32) (x2 : Int32) (x3 : Int32) (s0 : Nat) (s1 : Int32) (s2 : Int32) : Option (ob_St) :=
  (ob_wB g s0 s1 s2).bind fun g7 => rec g7 (x3 + 1)
theorem b_X12_optionLine_79 {C : ob_Cx} {rec : ob_St → Int32 → Option (ob_St)} (F : ob_Fx C cX12_optionLine 4 RX12 (some .boolean) 5 111) {g : ob_St} {n0 : Nat} {x1 : Int32} {x2 : Int32} {x3 : Int32} {s0 : Nat} {s1 : Int32} {s2 : Int32} {x : (ob_St)} (hr : ∀ {g : ob_St} {x3 : Int32} {x : (ob_St)}, rec g x3 = some x → ob_Ev C 86 [(0, ob_rv C n0), (2, .int x2)] [] x → ob_Ev C 45 [(0, ob_rv C n0), (1, .int x1), (2, .int x2), (3, .int x3)] [] g) (h : B_X12_optionLine_79 rec g n0 x1 x2 x3 s0 s1 s2 = some x) (k0 : ob_Ev C 86 [(0, ob_rv C n0), (2, .int x2)] [] x) : ob_Ev C 79 [(0, ob_rv C n0), (1, .int x1), (2, .int x2), (3, .int x3)] [.int s2, .int s1, ob_rv C s0] g := by
  unfold B_X12_optionLine_79 at h
  refine ob_bast F dX12_optionLine_79 h fun g7 h => ?_
  refine ob_iinc F (v := (x3 + 1)) (ls2 := [(3, .int (x3 + 1)), (0, ob_rv C n0), (1, .int x1), (2, .int x2)]) 3 dX12_optionLine_80 rfl rfl (by decide) rfl ?_
  refine ob_goto F 45 dX12_optionLine_83 (by decide) ?_
  exact ob_sub [1, 2, 3, 0] rfl (hr h k0)
def Lb_X12_optionLine_45 (rec : ob_St → Int32 → Option (ob_St)) (g : ob_St) (n0 : Nat) (x1 : Int32) (x2 : Int32) (x3 : Int32) : Option (ob_St) :=
  (if 8 ≤ x3 then (some g) else ((ob_gR 12 n0 18).bind fun v5 => (ob_gI g 12 n0 14).bind fun v6 => (if v6 ≤ x3 then (B_X12_optionLine_79 rec g n0 x1 x2 x3 v5 ((8 * x1) + x3) 0) else ((ob_gR 12 n0 17).bind fun v8 => (ob_rI g 13 v8 x3).bind fun v9 => B_X12_optionLine_79 rec g n0 x1 x2 x3 v5 ((8 * x1) + x3) v9))))
def L_X12_optionLine_45 (n0 : Nat) (x1 : Int32) (x2 : Int32) : Nat → ob_St → Int32 → Option (ob_St)
  | 0, _, _ => none
  | n + 1, g, x3 => Lb_X12_optionLine_45 (L_X12_optionLine_45 n0 x1 x2 n) g n0 x1 x2 x3
theorem lb_X12_optionLine_45 {C : ob_Cx} {rec : ob_St → Int32 → Option (ob_St)} (F : ob_Fx C cX12_optionLine 4 RX12 (some .boolean) 5 111) {g : ob_St} {n0 : Nat} {x1 : Int32} {x2 : Int32} {x3 : Int32} {x : (ob_St)} (hr : ∀ {g : ob_St} {x3 : Int32} {x : (ob_St)}, rec g x3 = some x → ob_Ev C 86 [(0, ob_rv C n0), (2, .int x2)] [] x → ob_Ev C 45 [(0, ob_rv C n0), (1, .int x1), (2, .int x2), (3, .int x3)] [] g) (h : Lb_X12_optionLine_45 rec g n0 x1 x2 x3 = some x) (k0 : ob_Ev C 86 [(0, ob_rv C n0), (2, .int x2)] [] x) : ob_Ev C 45 [(0, ob_rv C n0), (1, .int x1), (2, .int x2), (3, .int x3)] [] g := by
  unfold Lb_X12_optionLine_45 at h
  refine ob_iload_n F 3 dX12_optionLine_45 rfl ?_
  refine ob_bipush F (v := 8) dX12_optionLine_46 (by decide) ?_
  refine ob_icmp_ge F 86 dX12_optionLine_48 (by decide) h (fun h => ?_) (fun h => ?_)
  · obtain rfl := Option.some.inj h
    exact ob_sub [0, 2] rfl (k0)
  · refine ob_rload_n F 0 dX12_optionLine_51 rfl ?_
    refine ob_getR F dX12_optionLine_52 fl_X12_37 h fun v5 h => ?_
    refine ob_bipush F (v := 8) dX12_optionLine_55 (by decide) ?_
    refine ob_iload_n F 1 dX12_optionLine_57 rfl ?_
    refine ob_imul F dX12_optionLine_58 ?_
    refine ob_iload_n F 3 dX12_optionLine_59 rfl ?_
    refine ob_iadd F dX12_optionLine_60 ?_
    refine ob_iload_n F 3 dX12_optionLine_61 rfl ?_
    refine ob_rload_n F 0 dX12_optionLine_62 rfl ?_
    refine ob_getI F dX12_optionLine_63 fl_X12_122 h fun v6 h => ?_
    refine ob_icmp_ge F 78 dX12_optionLine_66 (by decide) h (fun h => ?_) (fun h => ?_)
    · refine ob_iconst F (v := 0) dX12_optionLine_78 (by decide) ?_
      exact b_X12_optionLine_79 F hr h k0
    · refine ob_rload_n F 0 dX12_optionLine_69 rfl ?_
      refine ob_getR F dX12_optionLine_70 fl_X12_34 h fun v8 h => ?_
      refine ob_iload_n F 3 dX12_optionLine_73 rfl ?_
      refine ob_bald F dX12_optionLine_74 h fun v9 h => ?_
      refine ob_goto F 79 dX12_optionLine_75 (by decide) ?_
      exact b_X12_optionLine_79 F hr h k0
theorem l_X12_optionLine_45 {C : ob_Cx} (F : ob_Fx C cX12_optionLine 4 RX12 (some .boolean) 5 111) {n0 : Nat} {x1 : Int32} {x2 : Int32} : ∀ (n : Nat) {g : ob_St} {x3 : Int32} {x : (ob_St)}, L_X12_optionLine_45 n0 x1 x2 n g x3 = some x → ob_Ev C 86 [(0, ob_rv C n0), (2, .int x2)] [] x → ob_Ev C 45 [(0, ob_rv C n0), (1, .int x1), (2, .int x2), (3, .int x3)] [] g := by
  intro n
  induction n with
  | zero => intro g x3 x h; exact ob_no h
  | succ n ih => intro g x3 x h k0; exact lb_X12_optionLine_45 F ih h k0
def B_X12_optionLine_165 (g : ob_St) (n0 : Nat) : Option (Int32 × ob_St) :=
  (ob_gR 12 n0 2).bind fun v20 => (ob_rI g 14 v20 29).bind fun v21 => (ob_wI g v20 29 (v21 + 1)).bind fun g22 => some (1, g22)
theorem b_X12_optionLine_165 {C : ob_Cx} (F : ob_Fx C cX12_optionLine 4 RX12 (some .boolean) 5 111) {g : ob_St} {n0 : Nat} {r : (Int32 × ob_St)} (h : B_X12_optionLine_165 g n0 = some r) (k : ob_Rt C (some (.int r.1)) r.2) : ob_Ev C 165 [(0, ob_rv C n0)] [] g := by
  unfold B_X12_optionLine_165 at h
  refine ob_rload_n F 0 dX12_optionLine_165 rfl ?_
  refine ob_getR F dX12_optionLine_166 fl_X12_17 h fun v20 h => ?_
  refine ob_bipush F (v := 29) dX12_optionLine_169 (by decide) ?_
  refine ob_dup2 F dX12_optionLine_171 rfl rfl ?_
  refine ob_iald F dX12_optionLine_172 h fun v21 h => ?_
  refine ob_iconst F (v := 1) dX12_optionLine_173 (by decide) ?_
  refine ob_iadd F dX12_optionLine_174 ?_
  refine ob_iast F dX12_optionLine_175 h fun g22 h => ?_
  refine ob_iconst F (v := 1) dX12_optionLine_176 (by decide) ?_
  obtain rfl := Option.some.inj h
  exact ob_zret F dX12_optionLine_177 (Or.inr rfl) k
def f_X12_optionLine (g : ob_St) (n0 : Nat) : Option (Int32 × ob_St) :=
  (ob_gR 12 n0 2).bind fun v1 => (ob_rI g 14 v1 29).bind fun v2 => (ob_ck 12 n0 (f_X12_isName g n0)).bind fun v3 => (if v3 = 0 then ((ob_ck 12 n0 (f_X12_badHere g n0 1)).bind fun v27 => (ob_zr v27.1).bind fun z28 => some (z28, v27.2)) else ((ob_ck 12 n0 (f_X12_named g n0 v2)).bind fun v4 => (if v4 < 0 then ((L_X12_optionLine_45 n0 v2 (30 + (10 * v2)) ob_FU g 0).bind fun x_10 => (ob_ck 12 n0 (f_X12_next x_10 n0)).bind fun g11 => (ob_ck 12 n0 (f_X12_kindWord g11 n0 (30 + (10 * v2)))).bind fun v12 => (if v12.1 = 0 then (some (0, v12.2)) else ((ob_ck 12 n0 (f_X12_whenWord v12.2 n0 (30 + (10 * v2)))).bind fun v13 => (if v13.1 = 0 then (some (0, v13.2)) else ((ob_ck 12 n0 (f_X12_barrier v13.2 n0 (30 + (10 * v2)))).bind fun v14 => (if v14.1 = 0 then (some (0, v14.2)) else ((ob_gR 12 n0 2).bind fun v15 => (ob_wI v14.2 v15 ((30 + (10 * v2)) + 8) (-1)).bind fun g16 => (ob_gR 12 n0 2).bind fun v17 => (ob_wI g16 v17 ((30 + (10 * v2)) + 9) 0).bind fun g18 => (ob_ck 12 n0 (f_X12_known g18 n0)).bind fun v19 => (if v19 = 14 then ((ob_ck 12 n0 (f_X12_next g18 n0)).bind fun g23 => (ob_ck 12 n0 (f_X12_takes g23 n0 ((30 + (10 * v2)) + 8) 1 99)).bind fun v24 => (if v24.1 = 0 then (some (0, v24.2)) else (B_X12_optionLine_165 v24.2 n0))) else (B_X12_optionLine_165 g18 n0))))))))) else ((ob_ck 12 n0 (f_X12_badHere g n0 3)).bind fun v25 => (ob_zr v25.1).bind fun z26 => some (z26, v25.2)))))
theorem b_X12_optionLine_0 {C : ob_Cx} (F : ob_Fx C cX12_optionLine 4 RX12 (some .boolean) 5 111) {g : ob_St} {n0 : Nat} {r : (Int32 × ob_St)} (h : f_X12_optionLine g n0 = some r) (k : ob_Rt C (some (.int r.1)) r.2) : ob_Ev C 0 [(0, ob_rv C n0)] [] g := by
  unfold f_X12_optionLine at h
  refine ob_rload_n F 0 dX12_optionLine_0 rfl ?_
  refine ob_getR F dX12_optionLine_1 fl_X12_17 h fun v1 h => ?_
  refine ob_bipush F (v := 29) dX12_optionLine_4 (by decide) ?_
  refine ob_iald F dX12_optionLine_6 h fun v2 h => ?_
  refine ob_istore_n F (ls2 := [(1, .int v2), (0, ob_rv C n0)]) dX12_optionLine_7 (by decide) rfl ?_
  refine ob_bipush F (v := 30) dX12_optionLine_8 (by decide) ?_
  refine ob_bipush F (v := 10) dX12_optionLine_10 (by decide) ?_
  refine ob_iload_n F 0 dX12_optionLine_12 rfl ?_
  refine ob_imul F dX12_optionLine_13 ?_
  refine ob_iadd F dX12_optionLine_14 ?_
  refine ob_istore_n F (ls2 := [(2, .int (30 + (10 * v2))), (1, .int v2), (0, ob_rv C n0)]) dX12_optionLine_15 (by decide) rfl ?_
  refine ob_rload_n F 2 dX12_optionLine_16 rfl ?_
  refine ob_cVi F dX12_optionLine_17 im_X12_isName tw6_102 h (fun b hb => t_X12_isName hb) rfl rfl (Nat.le_of_ble_eq_true rfl) (by decide) fun v3 h => ?_
  refine ob_if_ne F 29 dX12_optionLine_20 (by decide) h (fun h => ?_) (fun h => ?_)
  · refine ob_rload_n F 2 dX12_optionLine_29 rfl ?_
    refine ob_iload_n F 1 dX12_optionLine_30 rfl ?_
    refine ob_cVi F dX12_optionLine_31 im_X12_named tw6_106 h (fun b hb => t_X12_named hb) rfl rfl (Nat.le_of_ble_eq_true rfl) (by decide) fun v4 h => ?_
    refine ob_if_lt F 43 dX12_optionLine_34 (by decide) h (fun h => ?_) (fun h => ?_)
    · refine ob_iconst F (v := 0) dX12_optionLine_43 (by decide) ?_
      refine ob_istore_n F (ls2 := [(3, .int 0), (2, .int (30 + (10 * v2))), (1, .int v2), (0, ob_rv C n0)]) dX12_optionLine_44 (by decide) rfl ?_
      obtain ⟨x_10, hx, h⟩ := Option.bind_eq_some_iff.mp h
      refine ob_sub [3, 2, 1, 0] rfl (l_X12_optionLine_45 F ob_FU hx ?_)
      refine ob_rload_n F 0 dX12_optionLine_86 rfl ?_
      refine ob_cVvS F dX12_optionLine_87 im_X12_next tw6_56 h (fun b hb => t_X12_next hb) rfl rfl (Nat.le_of_ble_eq_true rfl) (by decide) fun g11 h => ?_
      refine ob_rload_n F 0 dX12_optionLine_90 rfl ?_
      refine ob_iload_n F 1 dX12_optionLine_91 rfl ?_
      refine ob_cViS F dX12_optionLine_92 im_X12_kindWord tw6_110 h (fun b hb => t_X12_kindWord hb) rfl rfl (Nat.le_of_ble_eq_true rfl) (by decide) fun v12 h => ?_
      refine ob_if_eq F 114 dX12_optionLine_95 (by decide) h (fun h => ?_) (fun h => ?_)
      · refine ob_iconst F (v := 0) dX12_optionLine_114 (by decide) ?_
        obtain rfl := Option.some.inj h
        exact ob_zret F dX12_optionLine_115 (Or.inl rfl) k
      · refine ob_rload_n F 0 dX12_optionLine_98 rfl ?_
        refine ob_iload_n F 1 dX12_optionLine_99 rfl ?_
        refine ob_cViS F dX12_optionLine_100 im_X12_whenWord tw6_114 h (fun b hb => t_X12_whenWord hb) rfl rfl (Nat.le_of_ble_eq_true rfl) (by decide) fun v13 h => ?_
        refine ob_if_eq F 114 dX12_optionLine_103 (by decide) h (fun h => ?_) (fun h => ?_)
        · refine ob_iconst F (v := 0) dX12_optionLine_114 (by decide) ?_
          obtain rfl := Option.some.inj h
          exact ob_zret F dX12_optionLine_115 (Or.inl rfl) k
        · refine ob_rload_n F 0 dX12_optionLine_106 rfl ?_
          refine ob_iload_n F 1 dX12_optionLine_107 rfl ?_
          refine ob_cViS F dX12_optionLine_108 im_X12_barrier tw6_118 h (fun b hb => t_X12_barrier hb) rfl rfl (Nat.le_of_ble_eq_true rfl) (by decide) fun v14 h => ?_
          refine ob_if_ne F 116 dX12_optionLine_111 (by decide) h (fun h => ?_) (fun h => ?_)
          · refine ob_rload_n F 0 dX12_optionLine_116 rfl ?_
            refine ob_getR F dX12_optionLine_117 fl_X12_17 h fun v15 h => ?_
            refine ob_iload_n F 1 dX12_optionLine_120 rfl ?_
            refine ob_bipush F (v := 8) dX12_optionLine_121 (by decide) ?_
            refine ob_iadd F dX12_optionLine_123 ?_
            refine ob_iconst F (v := (-1)) dX12_optionLine_124 (by decide) ?_
            refine ob_iast F dX12_optionLine_125 h fun g16 h => ?_
            refine ob_rload_n F 0 dX12_optionLine_126 rfl ?_
            refine ob_getR F dX12_optionLine_127 fl_X12_17 h fun v17 h => ?_
            refine ob_iload_n F 1 dX12_optionLine_130 rfl ?_
            refine ob_bipush F (v := 9) dX12_optionLine_131 (by decide) ?_
            refine ob_iadd F dX12_optionLine_133 ?_
            refine ob_iconst F (v := 0) dX12_optionLine_134 (by decide) ?_
            refine ob_iast F dX12_optionLine_135 h fun g18 h => ?_
            refine ob_rload_n F 0 dX12_optionLine_136 rfl ?_
            refine ob_cVi F dX12_optionLine_137 im_X12_known tw6_73 h (fun b hb => t_X12_known hb) rfl rfl (Nat.le_of_ble_eq_true rfl) (by decide) fun v19 h => ?_
            refine ob_bipush F (v := 14) dX12_optionLine_140 (by decide) ?_
            refine ob_icmp_ne F 165 dX12_optionLine_142 (by decide) h (fun h => ?_) (fun h => ?_)
            · exact ob_sub [0] rfl (b_X12_optionLine_165 F h k)
            · refine ob_rload_n F 0 dX12_optionLine_145 rfl ?_
              refine ob_cVvS F dX12_optionLine_146 im_X12_next tw6_56 h (fun b hb => t_X12_next hb) rfl rfl (Nat.le_of_ble_eq_true rfl) (by decide) fun g23 h => ?_
              refine ob_rload_n F 0 dX12_optionLine_149 rfl ?_
              refine ob_iload_n F 1 dX12_optionLine_150 rfl ?_
              refine ob_bipush F (v := 8) dX12_optionLine_151 (by decide) ?_
              refine ob_iadd F dX12_optionLine_153 ?_
              refine ob_iconst F (v := 1) dX12_optionLine_154 (by decide) ?_
              refine ob_bipush F (v := 99) dX12_optionLine_155 (by decide) ?_
              refine ob_cViS F dX12_optionLine_157 im_X12_takes tw6_87 h (fun b hb => t_X12_takes hb) rfl rfl (Nat.le_of_ble_eq_true rfl) (by decide) fun v24 h => ?_
              refine ob_if_ne F 165 dX12_optionLine_160 (by decide) h (fun h => ?_) (fun h => ?_)
              · exact ob_sub [0] rfl (b_X12_optionLine_165 F h k)
              · refine ob_iconst F (v := 0) dX12_optionLine_163 (by decide) ?_
                obtain rfl := Option.some.inj h
                exact ob_zret F dX12_optionLine_164 (Or.inl rfl) k
          · refine ob_iconst F (v := 0) dX12_optionLine_114 (by decide) ?_
            obtain rfl := Option.some.inj h
            exact ob_zret F dX12_optionLine_115 (Or.inl rfl) k
    · refine ob_rload_n F 2 dX12_optionLine_37 rfl ?_
      refine ob_iconst F (v := 3) dX12_optionLine_38 (by decide) ?_
      refine ob_cViS F dX12_optionLine_39 im_X12_badHere tw6_79 h (fun b hb => t_X12_badHere hb) rfl rfl (Nat.le_of_ble_eq_true rfl) (by decide) fun v25 h => ?_
      refine ob_zrow h fun hz h => ?_
      obtain rfl := Option.some.inj h
      exact ob_zret F dX12_optionLine_42 hz k
  · refine ob_rload_n F 2 dX12_optionLine_23 rfl ?_
    refine ob_iconst F (v := 1) dX12_optionLine_24 (by decide) ?_
    refine ob_cViS F dX12_optionLine_25 im_X12_badHere tw6_79 h (fun b hb => t_X12_badHere hb) rfl rfl (Nat.le_of_ble_eq_true rfl) (by decide) fun v27 h => ?_
    refine ob_zrow h fun hz h => ?_
    obtain rfl := Option.some.inj h
    exact ob_zret F dX12_optionLine_28 hz k
theorem t_X12_optionLine {cf : ob_Cf} {g : ob_St} {n0 : Nat} {r : (Int32 × ob_St)} (h : f_X12_optionLine g n0 = some r) : ob_Mt cf yX12_optionLine cX12_optionLine 4 (some .boolean) 5 111 [ob_rw cf n0] g (some (.int r.1)) r.2 := by
  refine ob_enter (by decide) (Nat.le_of_ble_eq_true rfl) (Or.inr rfl) ?_
  intro C hC F k
  subst hC
  exact b_X12_optionLine_0 F h k
-- X12_line
def B_X12_line_69 (g : ob_St) (n0 : Nat) (x1 : Int32) : Option (Int32 × ob_St) :=
  (ob_ck 12 n0 (f_X12_next g n0)).bind fun g1 => (if x1 = 15 then ((ob_ck 12 n0 (f_X12_takes g1 n0 0 0 999)).bind fun v2 => (if v2.1 = 0 then (some (0, v2.2)) else ((ob_ck 12 n0 (f_X12_takes v2.2 n0 1 2 9)).bind fun v3 => (if v3.1 = 0 then (some (0, v3.2)) else (some (1, v3.2)))))) else (if x1 = 16 then ((ob_ck 12 n0 (f_X12_stepLine g1 n0)).bind fun v4 => (ob_zr v4.1).bind fun z5 => some (z5, v4.2)) else (if x1 = 18 then ((ob_gR 12 n0 2).bind fun v6 => (ob_rI g1 14 v6 2).bind fun v7 => (ob_ck 12 n0 (f_X12_takes g1 n0 (16 + v7) 1 99)).bind fun v8 => (ob_zr v8.1).bind fun z9 => some (z9, v8.2)) else ((ob_ck 12 n0 (f_X12_optionLine g1 n0)).bind fun v10 => (ob_zr v10.1).bind fun z11 => some (z11, v10.2)))))
theorem b_X12_line_69 {C : ob_Cx} (F : ob_Fx C cX12_line 2 RX12 (some .boolean) 6 134) {g : ob_St} {n0 : Nat} {x1 : Int32} {r : (Int32 × ob_St)} (h : B_X12_line_69 g n0 x1 = some r) (k : ob_Rt C (some (.int r.1)) r.2) : ob_Ev C 69 [(0, ob_rv C n0), (1, .int x1)] [] g := by
  unfold B_X12_line_69 at h
  refine ob_rload_n F 0 dX12_line_69 rfl ?_
  refine ob_cVvS F dX12_line_70 im_X12_next tw6_56 h (fun b hb => t_X12_next hb) rfl rfl (Nat.le_of_ble_eq_true rfl) (by decide) fun g1 h => ?_
  refine ob_iload_n F 1 dX12_line_73 rfl ?_
  by_cases c15 : x1 = 15
  · rw [if_pos c15] at h
    refine ob_tsi F 15 104 dX12_line_74 c15 (by decide) (by decide) rfl (by decide) ?_
    refine ob_rload_n F 0 dX12_line_104 rfl ?_
    refine ob_iconst F (v := 0) dX12_line_105 (by decide) ?_
    refine ob_iconst F (v := 0) dX12_line_106 (by decide) ?_
    refine ob_sipush F (v := 999) dX12_line_107 (by decide) ?_
    refine ob_cViS F dX12_line_110 im_X12_takes tw6_87 h (fun b hb => t_X12_takes hb) rfl rfl (Nat.le_of_ble_eq_true rfl) (by decide) fun v2 h => ?_
    refine ob_if_eq F 131 dX12_line_113 (by decide) h (fun h => ?_) (fun h => ?_)
    · refine ob_iconst F (v := 0) dX12_line_131 (by decide) ?_
      obtain rfl := Option.some.inj h
      exact ob_zret F dX12_line_132 (Or.inl rfl) k
    · refine ob_rload_n F 0 dX12_line_116 rfl ?_
      refine ob_iconst F (v := 1) dX12_line_117 (by decide) ?_
      refine ob_iconst F (v := 2) dX12_line_118 (by decide) ?_
      refine ob_bipush F (v := 9) dX12_line_119 (by decide) ?_
      refine ob_cViS F dX12_line_121 im_X12_takes tw6_87 h (fun b hb => t_X12_takes hb) rfl rfl (Nat.le_of_ble_eq_true rfl) (by decide) fun v3 h => ?_
      refine ob_if_eq F 131 dX12_line_124 (by decide) h (fun h => ?_) (fun h => ?_)
      · refine ob_iconst F (v := 0) dX12_line_131 (by decide) ?_
        obtain rfl := Option.some.inj h
        exact ob_zret F dX12_line_132 (Or.inl rfl) k
      · refine ob_iconst F (v := 1) dX12_line_127 (by decide) ?_
        refine ob_goto F 132 dX12_line_128 (by decide) ?_
        obtain rfl := Option.some.inj h
        exact ob_zret F dX12_line_132 (Or.inr rfl) k
  rw [if_neg c15] at h
  by_cases c16 : x1 = 16
  · rw [if_pos c16] at h
    refine ob_tsi F 16 133 dX12_line_74 c16 (by decide) (by decide) rfl (by decide) ?_
    refine ob_rload_n F 0 dX12_line_133 rfl ?_
    refine ob_cViS F dX12_line_134 im_X12_stepLine tw6_91 h (fun b hb => t_X12_stepLine hb) rfl rfl (Nat.le_of_ble_eq_true rfl) (by decide) fun v4 h => ?_
    refine ob_zrow h fun hz h => ?_
    obtain rfl := Option.some.inj h
    exact ob_zret F dX12_line_137 hz k
  rw [if_neg c16] at h
  by_cases c18 : x1 = 18
  · rw [if_pos c18] at h
    refine ob_tsi F 18 138 dX12_line_74 c18 (by decide) (by decide) rfl (by decide) ?_
    refine ob_rload_n F 0 dX12_line_138 rfl ?_
    refine ob_bipush F (v := 16) dX12_line_139 (by decide) ?_
    refine ob_rload_n F 0 dX12_line_141 rfl ?_
    refine ob_getR F dX12_line_142 fl_X12_17 h fun v6 h => ?_
    refine ob_iconst F (v := 2) dX12_line_145 (by decide) ?_
    refine ob_iald F dX12_line_146 h fun v7 h => ?_
    refine ob_iadd F dX12_line_147 ?_
    refine ob_iconst F (v := 1) dX12_line_148 (by decide) ?_
    refine ob_bipush F (v := 99) dX12_line_149 (by decide) ?_
    refine ob_cViS F dX12_line_151 im_X12_takes tw6_87 h (fun b hb => t_X12_takes hb) rfl rfl (Nat.le_of_ble_eq_true rfl) (by decide) fun v8 h => ?_
    refine ob_zrow h fun hz h => ?_
    obtain rfl := Option.some.inj h
    exact ob_zret F dX12_line_154 hz k
  rw [if_neg c18] at h
  by_cases c17 : x1 = 17
  · refine ob_tsi F 17 155 dX12_line_74 c17 (by decide) (by decide) rfl (by decide) ?_
    refine ob_rload_n F 0 dX12_line_155 rfl ?_
    refine ob_cViS F dX12_line_156 im_X12_optionLine tw6_98 h (fun b hb => t_X12_optionLine hb) rfl rfl (Nat.le_of_ble_eq_true rfl) (by decide) fun v10 h => ?_
    refine ob_zrow h fun hz h => ?_
    obtain rfl := Option.some.inj h
    exact ob_zret F dX12_line_159 hz k
  have q15 := ob_nei c15 (k := 15) rfl
  have q16 := ob_nei c16 (k := 16) rfl
  have q17 := ob_nei c17 (k := 17) rfl
  have q18 := ob_nei c18 (k := 18) rfl
  refine ob_tso F 155 dX12_line_74 (by omega) (by decide) ?_
  refine ob_rload_n F 0 dX12_line_155 rfl ?_
  refine ob_cViS F dX12_line_156 im_X12_optionLine tw6_98 h (fun b hb => t_X12_optionLine hb) rfl rfl (Nat.le_of_ble_eq_true rfl) (by decide) fun v10 h => ?_
  refine ob_zrow h fun hz h => ?_
  obtain rfl := Option.some.inj h
  exact ob_zret F dX12_line_159 hz k
def B_X12_line_40 (g : ob_St) (n0 : Nat) (x1 : Int32) : Option (Int32 × ob_St) :=
  (if x1 = 18 then ((ob_gR 12 n0 2).bind fun v12 => (ob_gR 12 n0 2).bind fun v13 => (ob_rI g 14 v13 2).bind fun v14 => (ob_rI g 14 v12 (16 + v14)).bind fun v15 => (if v15 ≤ 0 then (B_X12_line_69 g n0 x1) else ((ob_ck 12 n0 (f_X12_badHere g n0 3)).bind fun v16 => (ob_zr v16.1).bind fun z17 => some (z17, v16.2)))) else (B_X12_line_69 g n0 x1))
theorem b_X12_line_40 {C : ob_Cx} (F : ob_Fx C cX12_line 2 RX12 (some .boolean) 6 134) {g : ob_St} {n0 : Nat} {x1 : Int32} {r : (Int32 × ob_St)} (h : B_X12_line_40 g n0 x1 = some r) (k : ob_Rt C (some (.int r.1)) r.2) : ob_Ev C 40 [(0, ob_rv C n0), (1, .int x1)] [] g := by
  unfold B_X12_line_40 at h
  refine ob_iload_n F 1 dX12_line_40 rfl ?_
  refine ob_bipush F (v := 18) dX12_line_41 (by decide) ?_
  refine ob_icmp_ne F 69 dX12_line_43 (by decide) h (fun h => ?_) (fun h => ?_)
  · exact b_X12_line_69 F h k
  · refine ob_rload_n F 0 dX12_line_46 rfl ?_
    refine ob_getR F dX12_line_47 fl_X12_17 h fun v12 h => ?_
    refine ob_bipush F (v := 16) dX12_line_50 (by decide) ?_
    refine ob_rload_n F 0 dX12_line_52 rfl ?_
    refine ob_getR F dX12_line_53 fl_X12_17 h fun v13 h => ?_
    refine ob_iconst F (v := 2) dX12_line_56 (by decide) ?_
    refine ob_iald F dX12_line_57 h fun v14 h => ?_
    refine ob_iadd F dX12_line_58 ?_
    refine ob_iald F dX12_line_59 h fun v15 h => ?_
    refine ob_if_le F 69 dX12_line_60 (by decide) h (fun h => ?_) (fun h => ?_)
    · exact b_X12_line_69 F h k
    · refine ob_rload_n F 0 dX12_line_63 rfl ?_
      refine ob_iconst F (v := 3) dX12_line_64 (by decide) ?_
      refine ob_cViS F dX12_line_65 im_X12_badHere tw6_79 h (fun b hb => t_X12_badHere hb) rfl rfl (Nat.le_of_ble_eq_true rfl) (by decide) fun v16 h => ?_
      refine ob_zrow h fun hz h => ?_
      obtain rfl := Option.some.inj h
      exact ob_zret F dX12_line_68 hz k
def B_X12_line_34 (g : ob_St) (n0 : Nat) : Option (Int32 × ob_St) :=
  (ob_ck 12 n0 (f_X12_badHere g n0 4)).bind fun v20 => (ob_zr v20.1).bind fun z21 => some (z21, v20.2)
theorem b_X12_line_34 {C : ob_Cx} (F : ob_Fx C cX12_line 2 RX12 (some .boolean) 6 134) {g : ob_St} {n0 : Nat} {r : (Int32 × ob_St)} (h : B_X12_line_34 g n0 = some r) (k : ob_Rt C (some (.int r.1)) r.2) : ob_Ev C 34 [(0, ob_rv C n0)] [] g := by
  unfold B_X12_line_34 at h
  refine ob_rload_n F 0 dX12_line_34 rfl ?_
  refine ob_iconst F (v := 4) dX12_line_35 (by decide) ?_
  refine ob_cViS F dX12_line_36 im_X12_badHere tw6_79 h (fun b hb => t_X12_badHere hb) rfl rfl (Nat.le_of_ble_eq_true rfl) (by decide) fun v20 h => ?_
  refine ob_zrow h fun hz h => ?_
  obtain rfl := Option.some.inj h
  exact ob_zret F dX12_line_39 hz k
def B_X12_line_17 (g : ob_St) (n0 : Nat) (x1 : Int32) : Option (Int32 × ob_St) :=
  (if x1 = 19 then ((ob_gR 12 n0 2).bind fun v18 => (ob_rI g 14 v18 29).bind fun v19 => (if v19 = 4 then (B_X12_line_34 g n0) else (B_X12_line_40 g n0 x1))) else (B_X12_line_40 g n0 x1))
theorem b_X12_line_17 {C : ob_Cx} (F : ob_Fx C cX12_line 2 RX12 (some .boolean) 6 134) {g : ob_St} {n0 : Nat} {x1 : Int32} {r : (Int32 × ob_St)} (h : B_X12_line_17 g n0 x1 = some r) (k : ob_Rt C (some (.int r.1)) r.2) : ob_Ev C 17 [(0, ob_rv C n0), (1, .int x1)] [] g := by
  unfold B_X12_line_17 at h
  refine ob_iload_n F 1 dX12_line_17 rfl ?_
  refine ob_bipush F (v := 19) dX12_line_18 (by decide) ?_
  refine ob_icmp_ne F 40 dX12_line_20 (by decide) h (fun h => ?_) (fun h => ?_)
  · exact b_X12_line_40 F h k
  · refine ob_rload_n F 0 dX12_line_23 rfl ?_
    refine ob_getR F dX12_line_24 fl_X12_17 h fun v18 h => ?_
    refine ob_bipush F (v := 29) dX12_line_27 (by decide) ?_
    refine ob_iald F dX12_line_29 h fun v19 h => ?_
    refine ob_iconst F (v := 4) dX12_line_30 (by decide) ?_
    refine ob_icmp_ne F 40 dX12_line_31 (by decide) h (fun h => ?_) (fun h => ?_)
    · exact b_X12_line_40 F h k
    · exact ob_sub [0] rfl (b_X12_line_34 F h k)
def f_X12_line (g : ob_St) (n0 : Nat) (x1 : Int32) : Option (Int32 × ob_St) :=
  (if x1 = 16 then ((ob_gR 12 n0 2).bind fun v22 => (ob_rI g 14 v22 2).bind fun v23 => (if v23 = 12 then (B_X12_line_34 g n0) else (B_X12_line_17 g n0 x1))) else (B_X12_line_17 g n0 x1))
theorem b_X12_line_0 {C : ob_Cx} (F : ob_Fx C cX12_line 2 RX12 (some .boolean) 6 134) {g : ob_St} {n0 : Nat} {x1 : Int32} {r : (Int32 × ob_St)} (h : f_X12_line g n0 x1 = some r) (k : ob_Rt C (some (.int r.1)) r.2) : ob_Ev C 0 [(0, ob_rv C n0), (1, .int x1)] [] g := by
  unfold f_X12_line at h
  refine ob_iload_n F 1 dX12_line_0 rfl ?_
  refine ob_bipush F (v := 16) dX12_line_1 (by decide) ?_
  refine ob_icmp_ne F 17 dX12_line_3 (by decide) h (fun h => ?_) (fun h => ?_)
  · exact b_X12_line_17 F h k
  · refine ob_rload_n F 0 dX12_line_6 rfl ?_
    refine ob_getR F dX12_line_7 fl_X12_17 h fun v22 h => ?_
    refine ob_iconst F (v := 2) dX12_line_10 (by decide) ?_
    refine ob_iald F dX12_line_11 h fun v23 h => ?_
    refine ob_bipush F (v := 12) dX12_line_12 (by decide) ?_
    refine ob_icmp_eq F 34 dX12_line_14 (by decide) h (fun h => ?_) (fun h => ?_)
    · exact ob_sub [0] rfl (b_X12_line_34 F h k)
    · exact b_X12_line_17 F h k
theorem t_X12_line {cf : ob_Cf} {g : ob_St} {n0 : Nat} {x1 : Int32} {r : (Int32 × ob_St)} (h : f_X12_line g n0 x1 = some r) : ob_Mt cf yX12_line cX12_line 2 (some .boolean) 6 134 [ob_rw cf n0, .int x1] g (some (.int r.1)) r.2 := by
  refine ob_enter (by decide) (Nat.le_of_ble_eq_true rfl) (Or.inr rfl) ?_
  intro C hC F k
  subst hC
  exact b_X12_line_0 F h k
-- X12_reads
def B_X12_reads_83 (rec : ob_St → Int32 → Option ((ob_St) ⊕ ((ob_St) ⊕ ((ob_St) ⊕ (ob_St))))) (g : ob_St) (n0 : Nat) (x2 : Int32) : Option ((ob_St) ⊕ ((ob_St) ⊕ ((ob_St) ⊕ (ob_St)))) :=
  (ob_ck 12 n0 (f_X12_line g n0 x2)).bind fun v8 => (if v8.1 = 0 then (some (.inr (.inl v8.2))) else ((ob_gI v8.2 12 n0 12).bind fun v9 => (if v9 = 3 then ((ob_ck 12 n0 (f_X12_next v8.2 n0)).bind fun g10 => rec g10 0) else (some (.inr (.inr (.inl v8.2)))))))
theorem b_X12_reads_83 {C : ob_Cx} {rec : ob_St → Int32 → Option ((ob_St) ⊕ ((ob_St) ⊕ ((ob_St) ⊕ (ob_St))))} (F : ob_Fx C cX12_reads 3 RX12 (some .boolean) 7 155) {g : ob_St} {n0 : Nat} {x2 : Int32} {x : ((ob_St) ⊕ ((ob_St) ⊕ ((ob_St) ⊕ (ob_St))))} (hr : ∀ {g : ob_St} {x1 : Int32} {x : ((ob_St) ⊕ ((ob_St) ⊕ ((ob_St) ⊕ (ob_St))))}, rec g x1 = some x → (∀ y, x = (.inl y) → ob_Ev C 77 [(0, ob_rv C n0)] [] y) → (∀ y, x = (.inr (.inl y)) → ob_Ev C 93 [] [] y) → (∀ y, x = (.inr (.inr (.inl y))) → ob_Ev C 103 [(0, ob_rv C n0)] [] y) → (∀ y, x = (.inr (.inr (.inr y))) → ob_Ev C 116 [] [] y) → ob_Ev C 37 [(0, ob_rv C n0), (1, .int x1)] [] g) (h : B_X12_reads_83 rec g n0 x2 = some x) (k0 : (∀ y, x = (.inl y) → ob_Ev C 77 [(0, ob_rv C n0)] [] y)) (k1 : (∀ y, x = (.inr (.inl y)) → ob_Ev C 93 [] [] y)) (k2 : (∀ y, x = (.inr (.inr (.inl y))) → ob_Ev C 103 [(0, ob_rv C n0)] [] y)) (k3 : (∀ y, x = (.inr (.inr (.inr y))) → ob_Ev C 116 [] [] y)) : ob_Ev C 83 [(0, ob_rv C n0), (2, .int x2)] [] g := by
  unfold B_X12_reads_83 at h
  refine ob_iconst F (v := 0) dX12_reads_83 (by decide) ?_
  refine ob_istore_n F (ls2 := [(1, .int 0), (0, ob_rv C n0), (2, .int x2)]) dX12_reads_84 (by decide) rfl ?_
  refine ob_rload_n F 1 dX12_reads_85 rfl ?_
  refine ob_iload_n F 2 dX12_reads_86 rfl ?_
  refine ob_cViS F dX12_reads_87 im_X12_line tw6_83 h (fun b hb => t_X12_line hb) rfl rfl (Nat.le_of_ble_eq_true rfl) (by decide) fun v8 h => ?_
  refine ob_if_ne F 95 dX12_reads_90 (by decide) h (fun h => ?_) (fun h => ?_)
  · refine ob_rload_n F 1 dX12_reads_95 rfl ?_
    refine ob_getI F dX12_reads_96 fl_X12_109 h fun v9 h => ?_
    refine ob_iconst F (v := 3) dX12_reads_99 (by decide) ?_
    refine ob_icmp_eq F 109 dX12_reads_100 (by decide) h (fun h => ?_) (fun h => ?_)
    · refine ob_rload_n F 1 dX12_reads_109 rfl ?_
      refine ob_cVvS F dX12_reads_110 im_X12_next tw6_56 h (fun b hb => t_X12_next hb) rfl rfl (Nat.le_of_ble_eq_true rfl) (by decide) fun g10 h => ?_
      refine ob_goto F 37 dX12_reads_113 (by decide) ?_
      exact ob_sub [1, 0] rfl (hr h k0 k1 k2 k3)
    · obtain rfl := Option.some.inj h
      exact ob_sub [1] rfl (k2 _ rfl)
  · obtain rfl := Option.some.inj h
    exact ob_sub [] rfl (k1 _ rfl)
def Lb_X12_reads_37 (rec : ob_St → Int32 → Option ((ob_St) ⊕ ((ob_St) ⊕ ((ob_St) ⊕ (ob_St))))) (g : ob_St) (n0 : Nat) (x1 : Int32) : Option ((ob_St) ⊕ ((ob_St) ⊕ ((ob_St) ⊕ (ob_St)))) :=
  (ob_gI g 12 n0 12).bind fun v6 => (if v6 = 0 then (some (.inr (.inr (.inr g)))) else ((ob_ck 12 n0 (f_X12_known g n0)).bind fun v7 => (if v7 = 16 then (B_X12_reads_83 rec g n0 v7) else ((if v7 = 18 then (B_X12_reads_83 rec g n0 v7) else ((if v7 = 19 then (B_X12_reads_83 rec g n0 v7) else ((if v7 = 15 then ((if x1 = 0 then (some (.inl g)) else (B_X12_reads_83 rec g n0 v7))) else (some (.inl g)))))))))))
def L_X12_reads_37 (n0 : Nat) : Nat → ob_St → Int32 → Option ((ob_St) ⊕ ((ob_St) ⊕ ((ob_St) ⊕ (ob_St))))
  | 0, _, _ => none
  | n + 1, g, x1 => Lb_X12_reads_37 (L_X12_reads_37 n0 n) g n0 x1
theorem lb_X12_reads_37 {C : ob_Cx} {rec : ob_St → Int32 → Option ((ob_St) ⊕ ((ob_St) ⊕ ((ob_St) ⊕ (ob_St))))} (F : ob_Fx C cX12_reads 3 RX12 (some .boolean) 7 155) {g : ob_St} {n0 : Nat} {x1 : Int32} {x : ((ob_St) ⊕ ((ob_St) ⊕ ((ob_St) ⊕ (ob_St))))} (hr : ∀ {g : ob_St} {x1 : Int32} {x : ((ob_St) ⊕ ((ob_St) ⊕ ((ob_St) ⊕ (ob_St))))}, rec g x1 = some x → (∀ y, x = (.inl y) → ob_Ev C 77 [(0, ob_rv C n0)] [] y) → (∀ y, x = (.inr (.inl y)) → ob_Ev C 93 [] [] y) → (∀ y, x = (.inr (.inr (.inl y))) → ob_Ev C 103 [(0, ob_rv C n0)] [] y) → (∀ y, x = (.inr (.inr (.inr y))) → ob_Ev C 116 [] [] y) → ob_Ev C 37 [(0, ob_rv C n0), (1, .int x1)] [] g) (h : Lb_X12_reads_37 rec g n0 x1 = some x) (k0 : (∀ y, x = (.inl y) → ob_Ev C 77 [(0, ob_rv C n0)] [] y)) (k1 : (∀ y, x = (.inr (.inl y)) → ob_Ev C 93 [] [] y)) (k2 : (∀ y, x = (.inr (.inr (.inl y))) → ob_Ev C 103 [(0, ob_rv C n0)] [] y)) (k3 : (∀ y, x = (.inr (.inr (.inr y))) → ob_Ev C 116 [] [] y)) : ob_Ev C 37 [(0, ob_rv C n0), (1, .int x1)] [] g := by
  unfold Lb_X12_reads_37 at h
  refine ob_rload_n F 0 dX12_reads_37 rfl ?_
  refine ob_getI F dX12_reads_38 fl_X12_109 h fun v6 h => ?_
  refine ob_if_eq F 116 dX12_reads_41 (by decide) h (fun h => ?_) (fun h => ?_)
  · obtain rfl := Option.some.inj h
    exact ob_sub [] rfl (k3 _ rfl)
  · refine ob_rload_n F 0 dX12_reads_44 rfl ?_
    refine ob_cVi F dX12_reads_45 im_X12_known tw6_73 h (fun b hb => t_X12_known hb) rfl rfl (Nat.le_of_ble_eq_true rfl) (by decide) fun v7 h => ?_
    refine ob_istore_n F (ls2 := [(2, .int v7), (0, ob_rv C n0), (1, .int x1)]) dX12_reads_48 (by decide) rfl ?_
    refine ob_iload_n F 0 dX12_reads_49 rfl ?_
    refine ob_bipush F (v := 16) dX12_reads_50 (by decide) ?_
    refine ob_icmp_eq F 83 dX12_reads_52 (by decide) h (fun h => ?_) (fun h => ?_)
    · exact ob_sub [1, 0] rfl (b_X12_reads_83 F hr h k0 k1 k2 k3)
    · refine ob_iload_n F 0 dX12_reads_55 rfl ?_
      refine ob_bipush F (v := 18) dX12_reads_56 (by decide) ?_
      refine ob_icmp_eq F 83 dX12_reads_58 (by decide) h (fun h => ?_) (fun h => ?_)
      · exact ob_sub [1, 0] rfl (b_X12_reads_83 F hr h k0 k1 k2 k3)
      · refine ob_iload_n F 0 dX12_reads_61 rfl ?_
        refine ob_bipush F (v := 19) dX12_reads_62 (by decide) ?_
        refine ob_icmp_eq F 83 dX12_reads_64 (by decide) h (fun h => ?_) (fun h => ?_)
        · exact ob_sub [1, 0] rfl (b_X12_reads_83 F hr h k0 k1 k2 k3)
        · refine ob_iload_n F 0 dX12_reads_67 rfl ?_
          refine ob_bipush F (v := 15) dX12_reads_68 (by decide) ?_
          refine ob_icmp_ne F 77 dX12_reads_70 (by decide) h (fun h => ?_) (fun h => ?_)
          · obtain rfl := Option.some.inj h
            exact ob_sub [1] rfl (k0 _ rfl)
          · refine ob_iload_n F 2 dX12_reads_73 rfl ?_
            refine ob_if_ne F 83 dX12_reads_74 (by decide) h (fun h => ?_) (fun h => ?_)
            · exact ob_sub [1, 0] rfl (b_X12_reads_83 F hr h k0 k1 k2 k3)
            · obtain rfl := Option.some.inj h
              exact ob_sub [1] rfl (k0 _ rfl)
theorem l_X12_reads_37 {C : ob_Cx} (F : ob_Fx C cX12_reads 3 RX12 (some .boolean) 7 155) {n0 : Nat} : ∀ (n : Nat) {g : ob_St} {x1 : Int32} {x : ((ob_St) ⊕ ((ob_St) ⊕ ((ob_St) ⊕ (ob_St))))}, L_X12_reads_37 n0 n g x1 = some x → (∀ y, x = (.inl y) → ob_Ev C 77 [(0, ob_rv C n0)] [] y) → (∀ y, x = (.inr (.inl y)) → ob_Ev C 93 [] [] y) → (∀ y, x = (.inr (.inr (.inl y))) → ob_Ev C 103 [(0, ob_rv C n0)] [] y) → (∀ y, x = (.inr (.inr (.inr y))) → ob_Ev C 116 [] [] y) → ob_Ev C 37 [(0, ob_rv C n0), (1, .int x1)] [] g := by
  intro n
  induction n with
  | zero => intro g x1 x h; exact ob_no h
  | succ n ih => intro g x1 x h k0 k1 k2 k3; exact lb_X12_reads_37 F ih h k0 k1 k2 k3
def f_X12_reads (g : ob_St) (n0 : Nat) : Option (Int32 × ob_St) :=
  (ob_gR 12 n0 2).bind fun v1 => (f_X12_bare g v1).bind fun g2 => (ob_gI g2 12 n0 9).bind fun v3 => (if v3 ≤ 500 then ((ob_pI g2 12 n0 10 0).bind fun g4 => (ob_ck 12 n0 (f_X12_next g4 n0)).bind fun g5 => (L_X12_reads_37 n0 ob_FU g5 1).bind (Sum.elim (fun y_12 => (ob_ck 12 n0 (f_X12_badHere y_12 n0 1)).bind fun v13 => (ob_zr v13.1).bind fun z14 => some (z14, v13.2)) (Sum.elim (fun y_15 => some (0, y_15)) (Sum.elim (fun y_16 => (ob_ck 12 n0 (f_X12_badHere y_16 n0 1)).bind fun v17 => (ob_zr v17.1).bind fun z18 => some (z18, v17.2)) (fun y_19 => some (1, y_19)))))) else ((ob_ck 12 n0 (f_X12_bad g2 n0 1 500)).bind fun v20 => (ob_zr v20.1).bind fun z21 => some (z21, v20.2)))
theorem b_X12_reads_0 {C : ob_Cx} (F : ob_Fx C cX12_reads 3 RX12 (some .boolean) 7 155) {g : ob_St} {n0 : Nat} {r : (Int32 × ob_St)} (h : f_X12_reads g n0 = some r) (k : ob_Rt C (some (.int r.1)) r.2) : ob_Ev C 0 [(0, ob_rv C n0)] [] g := by
  unfold f_X12_reads at h
  refine ob_rload_n F 0 dX12_reads_0 rfl ?_
  refine ob_getR F dX12_reads_1 fl_X12_17 h fun v1 h => ?_
  refine ob_cSvS F dX12_reads_4 im_X12_bare tw5_178 h (fun b hb => t_X12_bare hb) rfl rfl (Nat.le_of_ble_eq_true rfl) (by decide) fun g2 h => ?_
  refine ob_rload_n F 0 dX12_reads_7 rfl ?_
  refine ob_getI F dX12_reads_8 fl_X12_85 h fun v3 h => ?_
  refine ob_sipush F (v := 500) dX12_reads_11 (by decide) ?_
  refine ob_icmp_le F 26 dX12_reads_14 (by decide) h (fun h => ?_) (fun h => ?_)
  · refine ob_rload_n F 0 dX12_reads_26 rfl ?_
    refine ob_iconst F (v := 0) dX12_reads_27 (by decide) ?_
    refine ob_putI F dX12_reads_28 fp_X12_82 h fun g4 h => ?_
    refine ob_rload_n F 0 dX12_reads_31 rfl ?_
    refine ob_cVvS F dX12_reads_32 im_X12_next tw6_56 h (fun b hb => t_X12_next hb) rfl rfl (Nat.le_of_ble_eq_true rfl) (by decide) fun g5 h => ?_
    refine ob_iconst F (v := 1) dX12_reads_35 (by decide) ?_
    refine ob_istore_n F (ls2 := [(1, .int 1), (0, ob_rv C n0)]) dX12_reads_36 (by decide) rfl ?_
    obtain ⟨x_11, hx, h⟩ := Option.bind_eq_some_iff.mp h
    refine ob_sub [1, 0] rfl (l_X12_reads_37 F ob_FU hx (fun y e => ?_) (fun y e => ?_) (fun y e => ?_) (fun y e => ?_))
    · subst e
      replace h := (ob_inl h)
      refine ob_rload_n F 0 dX12_reads_77 rfl ?_
      refine ob_iconst F (v := 1) dX12_reads_78 (by decide) ?_
      refine ob_cViS F dX12_reads_79 im_X12_badHere tw6_79 h (fun b hb => t_X12_badHere hb) rfl rfl (Nat.le_of_ble_eq_true rfl) (by decide) fun v13 h => ?_
      refine ob_zrow h fun hz h => ?_
      obtain rfl := Option.some.inj h
      exact ob_zret F dX12_reads_82 hz k
    · subst e
      replace h := (ob_inl (ob_inr h))
      refine ob_iconst F (v := 0) dX12_reads_93 (by decide) ?_
      obtain rfl := Option.some.inj h
      exact ob_zret F dX12_reads_94 (Or.inl rfl) k
    · subst e
      replace h := (ob_inl (ob_inr (ob_inr h)))
      refine ob_rload_n F 0 dX12_reads_103 rfl ?_
      refine ob_iconst F (v := 1) dX12_reads_104 (by decide) ?_
      refine ob_cViS F dX12_reads_105 im_X12_badHere tw6_79 h (fun b hb => t_X12_badHere hb) rfl rfl (Nat.le_of_ble_eq_true rfl) (by decide) fun v17 h => ?_
      refine ob_zrow h fun hz h => ?_
      obtain rfl := Option.some.inj h
      exact ob_zret F dX12_reads_108 hz k
    · subst e
      replace h := (ob_inr (ob_inr (ob_inr h)))
      refine ob_iconst F (v := 1) dX12_reads_116 (by decide) ?_
      obtain rfl := Option.some.inj h
      exact ob_zret F dX12_reads_117 (Or.inr rfl) k
  · refine ob_rload_n F 0 dX12_reads_17 rfl ?_
    refine ob_iconst F (v := 1) dX12_reads_18 (by decide) ?_
    refine ob_sipush F (v := 500) dX12_reads_19 (by decide) ?_
    refine ob_cViS F dX12_reads_22 im_X12_bad tw6_52 h (fun b hb => t_X12_bad hb) rfl rfl (Nat.le_of_ble_eq_true rfl) (by decide) fun v20 h => ?_
    refine ob_zrow h fun hz h => ?_
    obtain rfl := Option.some.inj h
    exact ob_zret F dX12_reads_25 hz k
theorem t_X12_reads {cf : ob_Cf} {g : ob_St} {n0 : Nat} {r : (Int32 × ob_St)} (h : f_X12_reads g n0 = some r) : ob_Mt cf yX12_reads cX12_reads 3 (some .boolean) 7 155 [ob_rw cf n0] g (some (.int r.1)) r.2 := by
  refine ob_enter (by decide) (Nat.le_of_ble_eq_true rfl) (Or.inr rfl) ?_
  intro C hC F k
  subst hC
  exact b_X12_reads_0 F h k
-- X12_bench
def f_X12_bench (g : ob_St) (n0 : Nat) : Option (Int32 × ob_St) :=
  (ob_pI g 12 n0 0 0).bind fun g1 => (ob_gI g1 12 n0 8).bind fun v2 => (ob_pI g1 12 n0 9 v2).bind fun g3 => (ob_pI g3 12 n0 8 0).bind fun g4 => (ob_pI g4 12 n0 15 0).bind fun g5 => (ob_ck 12 n0 (f_X12_reads g5 n0)).bind fun v6 => (if v6.1 = 0 then ((ob_gI v6.2 12 n0 16).bind fun v14 => some (((-1000) - v14), v6.2)) else ((ob_gR 12 n0 2).bind fun v7 => (ob_gR 12 n0 1).bind fun v8 => (f_X12_copies v6.2 v7 0 v8 0).bind fun g9 => (ob_pI g9 12 n0 6 0).bind fun g10 => (ob_pZ g10 12 n0 19 0).bind fun g11 => (ob_gR 12 n0 1).bind fun v12 => (ob_rI g11 14 v12 29).bind fun v13 => some (v13, g11)))
theorem b_X12_bench_0 {C : ob_Cx} (F : ob_Fx C cX12_bench 1 RX12 (some .int) 8 177) {g : ob_St} {n0 : Nat} {r : (Int32 × ob_St)} (h : f_X12_bench g n0 = some r) (k : ob_Rt C (some (.int r.1)) r.2) : ob_Ev C 0 [(0, ob_rv C n0)] [] g := by
  unfold f_X12_bench at h
  refine ob_rload_n F 0 dX12_bench_0 rfl ?_
  refine ob_iconst F (v := 0) dX12_bench_1 (by decide) ?_
  refine ob_putI F dX12_bench_2 fp_X12_1 h fun g1 h => ?_
  refine ob_rload_n F 0 dX12_bench_5 rfl ?_
  refine ob_rload_n F 0 dX12_bench_6 rfl ?_
  refine ob_getI F dX12_bench_7 fl_X12_75 h fun v2 h => ?_
  refine ob_putI F dX12_bench_10 fp_X12_85 h fun g3 h => ?_
  refine ob_rload_n F 0 dX12_bench_13 rfl ?_
  refine ob_iconst F (v := 0) dX12_bench_14 (by decide) ?_
  refine ob_putI F dX12_bench_15 fp_X12_75 h fun g4 h => ?_
  refine ob_rload_n F 0 dX12_bench_18 rfl ?_
  refine ob_iconst F (v := 0) dX12_bench_19 (by decide) ?_
  refine ob_putI F dX12_bench_20 fp_X12_92 h fun g5 h => ?_
  refine ob_rload_n F 0 dX12_bench_23 rfl ?_
  refine ob_cViS F dX12_bench_24 im_X12_reads tw6_48 h (fun b hb => t_X12_reads hb) rfl rfl (Nat.le_of_ble_eq_true rfl) (by decide) fun v6 h => ?_
  refine ob_if_ne F 39 dX12_bench_27 (by decide) h (fun h => ?_) (fun h => ?_)
  · refine ob_rload_n F 0 dX12_bench_39 rfl ?_
    refine ob_getR F dX12_bench_40 fl_X12_17 h fun v7 h => ?_
    refine ob_iconst F (v := 0) dX12_bench_43 (by decide) ?_
    refine ob_rload_n F 0 dX12_bench_44 rfl ?_
    refine ob_getR F dX12_bench_45 fl_X12_13 h fun v8 h => ?_
    refine ob_iconst F (v := 0) dX12_bench_48 (by decide) ?_
    refine ob_cSvS F dX12_bench_49 im_X12_copies tw6_122 h (fun b hb => t_X12_copies hb) rfl rfl (Nat.le_of_ble_eq_true rfl) (by decide) fun g9 h => ?_
    refine ob_rload_n F 0 dX12_bench_52 rfl ?_
    refine ob_iconst F (v := 0) dX12_bench_53 (by decide) ?_
    refine ob_putI F dX12_bench_54 fp_X12_177 h fun g10 h => ?_
    refine ob_rload_n F 0 dX12_bench_57 rfl ?_
    refine ob_iconst F (v := 0) dX12_bench_58 (by decide) ?_
    refine ob_putZ F dX12_bench_59 fp_X12_180 h fun g11 h => ?_
    refine ob_rload_n F 0 dX12_bench_62 rfl ?_
    refine ob_getR F dX12_bench_63 fl_X12_13 h fun v12 h => ?_
    refine ob_bipush F (v := 29) dX12_bench_66 (by decide) ?_
    refine ob_iald F dX12_bench_68 h fun v13 h => ?_
    obtain rfl := Option.some.inj h
    exact ob_iret F dX12_bench_69 k
  · refine ob_sipush F (v := (-1000)) dX12_bench_30 (by decide) ?_
    refine ob_rload_n F 0 dX12_bench_33 rfl ?_
    refine ob_getI F dX12_bench_34 fl_X12_95 h fun v14 h => ?_
    refine ob_isub F dX12_bench_37 ?_
    obtain rfl := Option.some.inj h
    exact ob_iret F dX12_bench_38 k
theorem t_X12_bench {cf : ob_Cf} {g : ob_St} {n0 : Nat} {r : (Int32 × ob_St)} (h : f_X12_bench g n0 = some r) : ob_Mt cf yX12_bench cX12_bench 1 (some .int) 8 177 [ob_rw cf n0] g (some (.int r.1)) r.2 := by
  refine ob_enter (by decide) (Nat.le_of_ble_eq_true rfl) (Or.inl rfl) ?_
  intro C hC F k
  subst hC
  exact b_X12_bench_0 F h k
-- X12_fault
def f_X12_fault (g : ob_St) (n0 : Nat) : Option (Int32 × ob_St) :=
  (ob_pI g 12 n0 0 0).bind fun g1 => (ob_gI g1 12 n0 15).bind fun v2 => some (v2, g1)
theorem b_X12_fault_0 {C : ob_Cx} (F : ob_Fx C cX12_fault 1 RX12 (some .int) 0 0) {g : ob_St} {n0 : Nat} {r : (Int32 × ob_St)} (h : f_X12_fault g n0 = some r) (k : ob_Rt C (some (.int r.1)) r.2) : ob_Ev C 0 [(0, ob_rv C n0)] [] g := by
  unfold f_X12_fault at h
  refine ob_rload_n F 0 dX12_fault_0 rfl ?_
  refine ob_iconst F (v := 0) dX12_fault_1 (by decide) ?_
  refine ob_putI F dX12_fault_2 fp_X12_1 h fun g1 h => ?_
  refine ob_rload_n F 0 dX12_fault_5 rfl ?_
  refine ob_getI F dX12_fault_6 fl_X12_92 h fun v2 h => ?_
  obtain rfl := Option.some.inj h
  exact ob_iret F dX12_fault_9 k
theorem t_X12_fault {cf : ob_Cf} {g : ob_St} {n0 : Nat} {r : (Int32 × ob_St)} (h : f_X12_fault g n0 = some r) : ob_Mt cf yX12_fault cX12_fault 1 (some .int) 0 0 [ob_rw cf n0] g (some (.int r.1)) r.2 := by
  refine ob_enter (by decide) (Nat.le_of_ble_eq_true rfl) (Or.inl rfl) ?_
  intro C hC F k
  subst hC
  exact b_X12_fault_0 F h k
-- X12_isNode
def f_X12_isNode (g : ob_St) (n0 : Nat) (x1 : Int32) (x2 : Int32) : Option Int32 :=
  (ob_gR 12 n0 1).bind fun v1 => (ob_rI g 14 v1 2).bind fun v2 => (f_X12_isIn x1 0 v2).bind fun v3 => (if v3 = 0 then (some 0) else ((f_X12_isIn x2 0 x1).bind fun v4 => (if v4 = 0 then (some 0) else (some 1))))
theorem b_X12_isNode_0 {C : ob_Cx} (F : ob_Fx C cX12_isNode 3 RX12 (some .boolean) 1 22) {g : ob_St} {n0 : Nat} {x1 : Int32} {x2 : Int32} {r : Int32} (h : f_X12_isNode g n0 x1 x2 = some r) (k : ob_Rt C (some (.int r)) g) : ob_Ev C 0 [(0, ob_rv C n0), (1, .int x1), (2, .int x2)] [] g := by
  unfold f_X12_isNode at h
  refine ob_iload_n F 1 dX12_isNode_0 rfl ?_
  refine ob_iconst F (v := 0) dX12_isNode_1 (by decide) ?_
  refine ob_rload_n F 0 dX12_isNode_2 rfl ?_
  refine ob_getR F dX12_isNode_3 fl_X12_13 h fun v1 h => ?_
  refine ob_iconst F (v := 2) dX12_isNode_6 (by decide) ?_
  refine ob_iald F dX12_isNode_7 h fun v2 h => ?_
  refine ob_cSi F dX12_isNode_8 im_X12_isIn tw6_67 h (fun b hb => t_X12_isIn hb) rfl rfl (Nat.le_of_ble_eq_true rfl) (by decide) fun v3 h => ?_
  refine ob_if_eq F 27 dX12_isNode_11 (by decide) h (fun h => ?_) (fun h => ?_)
  · refine ob_iconst F (v := 0) dX12_isNode_27 (by decide) ?_
    obtain rfl := Option.some.inj h
    exact ob_zret F dX12_isNode_28 (Or.inl rfl) k
  · refine ob_iload_n F 2 dX12_isNode_14 rfl ?_
    refine ob_iconst F (v := 0) dX12_isNode_15 (by decide) ?_
    refine ob_iload_n F 1 dX12_isNode_16 rfl ?_
    refine ob_cSi F dX12_isNode_17 im_X12_isIn tw6_67 h (fun b hb => t_X12_isIn hb) rfl rfl (Nat.le_of_ble_eq_true rfl) (by decide) fun v4 h => ?_
    refine ob_if_eq F 27 dX12_isNode_20 (by decide) h (fun h => ?_) (fun h => ?_)
    · refine ob_iconst F (v := 0) dX12_isNode_27 (by decide) ?_
      obtain rfl := Option.some.inj h
      exact ob_zret F dX12_isNode_28 (Or.inl rfl) k
    · refine ob_iconst F (v := 1) dX12_isNode_23 (by decide) ?_
      refine ob_goto F 28 dX12_isNode_24 (by decide) ?_
      obtain rfl := Option.some.inj h
      exact ob_zret F dX12_isNode_28 (Or.inr rfl) k
theorem t_X12_isNode {cf : ob_Cf} {g : ob_St} {n0 : Nat} {x1 : Int32} {x2 : Int32} {r : Int32} (h : f_X12_isNode g n0 x1 x2 = some r) : ob_Mt cf yX12_isNode cX12_isNode 3 (some .boolean) 1 22 [ob_rw cf n0, .int x1, .int x2] g (some (.int r)) g := by
  refine ob_enter (by decide) (Nat.le_of_ble_eq_true rfl) (Or.inr rfl) ?_
  intro C hC F k
  subst hC
  exact b_X12_isNode_0 F h k
-- X12_stripped
def Lb_X12_stripped_19 (rec : Int32 → Int32 → Option (Int32)) (g : ob_St) (n0 : Nat) (x1 : Int32) (x3 : Int32) (x4 : Int32) : Option (Int32) :=
  (if x1 < x4 then (some x3) else ((ob_gR 12 n0 1).bind fun v5 => (ob_rI g 14 v5 (3 + x4)).bind fun v6 => rec (x3 - v6) (x4 + 1)))
def L_X12_stripped_19 (g : ob_St) (n0 : Nat) (x1 : Int32) : Nat → Int32 → Int32 → Option (Int32)
  | 0, _, _ => none
  | n + 1, x3, x4 => Lb_X12_stripped_19 (L_X12_stripped_19 g n0 x1 n) g n0 x1 x3 x4
theorem lb_X12_stripped_19 {C : ob_Cx} {rec : Int32 → Int32 → Option (Int32)} (F : ob_Fx C cX12_stripped 5 RX12 (some .int) 0 0) {g : ob_St} {n0 : Nat} {x1 : Int32} {x3 : Int32} {x4 : Int32} {x : (Int32)} (hr : ∀ {x3 : Int32} {x4 : Int32} {x : (Int32)}, rec x3 x4 = some x → ob_Ev C 43 [(3, .int x)] [] g → ob_Ev C 19 [(0, ob_rv C n0), (1, .int x1), (3, .int x3), (4, .int x4)] [] g) (h : Lb_X12_stripped_19 rec g n0 x1 x3 x4 = some x) (k0 : ob_Ev C 43 [(3, .int x)] [] g) : ob_Ev C 19 [(0, ob_rv C n0), (1, .int x1), (3, .int x3), (4, .int x4)] [] g := by
  unfold Lb_X12_stripped_19 at h
  refine ob_iload F 3 dX12_stripped_19 rfl ?_
  refine ob_iload_n F 1 dX12_stripped_21 rfl ?_
  refine ob_icmp_gt F 43 dX12_stripped_22 (by decide) h (fun h => ?_) (fun h => ?_)
  · obtain rfl := Option.some.inj h
    exact ob_sub [2] rfl (k0)
  · refine ob_iload_n F 2 dX12_stripped_25 rfl ?_
    refine ob_rload_n F 0 dX12_stripped_26 rfl ?_
    refine ob_getR F dX12_stripped_27 fl_X12_13 h fun v5 h => ?_
    refine ob_iconst F (v := 3) dX12_stripped_30 (by decide) ?_
    refine ob_iload F 3 dX12_stripped_31 rfl ?_
    refine ob_iadd F dX12_stripped_33 ?_
    refine ob_iald F dX12_stripped_34 h fun v6 h => ?_
    refine ob_isub F dX12_stripped_35 ?_
    refine ob_istore_n F (ls2 := [(3, .int (x3 - v6)), (0, ob_rv C n0), (1, .int x1), (4, .int x4)]) dX12_stripped_36 (by decide) rfl ?_
    refine ob_iinc F (v := (x4 + 1)) (ls2 := [(4, .int (x4 + 1)), (3, .int (x3 - v6)), (0, ob_rv C n0), (1, .int x1)]) 3 dX12_stripped_37 rfl rfl (by decide) rfl ?_
    refine ob_goto F 19 dX12_stripped_40 (by decide) ?_
    exact ob_sub [2, 3, 1, 0] rfl (hr h k0)
theorem l_X12_stripped_19 {C : ob_Cx} (F : ob_Fx C cX12_stripped 5 RX12 (some .int) 0 0) {g : ob_St} {n0 : Nat} {x1 : Int32} : ∀ (n : Nat) {x3 : Int32} {x4 : Int32} {x : (Int32)}, L_X12_stripped_19 g n0 x1 n x3 x4 = some x → ob_Ev C 43 [(3, .int x)] [] g → ob_Ev C 19 [(0, ob_rv C n0), (1, .int x1), (3, .int x3), (4, .int x4)] [] g := by
  intro n
  induction n with
  | zero => intro x3 x4 x h; exact ob_no h
  | succ n ih => intro x3 x4 x h k0; exact lb_X12_stripped_19 F ih h k0
def f_X12_stripped (g : ob_St) (n0 : Nat) (x1 : Int32) (x2 : Int32) : Option Int32 :=
  (ob_gR 12 n0 1).bind fun v1 => (ob_rI g 14 v1 0).bind fun v2 => (ob_gR 12 n0 1).bind fun v3 => (ob_rI g 14 v3 1).bind fun v4 => (L_X12_stripped_19 g n0 x1 ob_FU (v2 + (x2 * v4)) 1).bind fun x_7 => some x_7
theorem b_X12_stripped_0 {C : ob_Cx} (F : ob_Fx C cX12_stripped 5 RX12 (some .int) 0 0) {g : ob_St} {n0 : Nat} {x1 : Int32} {x2 : Int32} {r : Int32} (h : f_X12_stripped g n0 x1 x2 = some r) (k : ob_Rt C (some (.int r)) g) : ob_Ev C 0 [(0, ob_rv C n0), (1, .int x1), (2, .int x2)] [] g := by
  unfold f_X12_stripped at h
  refine ob_rload_n F 0 dX12_stripped_0 rfl ?_
  refine ob_getR F dX12_stripped_1 fl_X12_13 h fun v1 h => ?_
  refine ob_iconst F (v := 0) dX12_stripped_4 (by decide) ?_
  refine ob_iald F dX12_stripped_5 h fun v2 h => ?_
  refine ob_iload_n F 2 dX12_stripped_6 rfl ?_
  refine ob_rload_n F 0 dX12_stripped_7 rfl ?_
  refine ob_getR F dX12_stripped_8 fl_X12_13 h fun v3 h => ?_
  refine ob_iconst F (v := 1) dX12_stripped_11 (by decide) ?_
  refine ob_iald F dX12_stripped_12 h fun v4 h => ?_
  refine ob_imul F dX12_stripped_13 ?_
  refine ob_iadd F dX12_stripped_14 ?_
  refine ob_istore_n F (ls2 := [(3, .int (v2 + (x2 * v4))), (0, ob_rv C n0), (1, .int x1), (2, .int x2)]) dX12_stripped_15 (by decide) rfl ?_
  refine ob_iconst F (v := 1) dX12_stripped_16 (by decide) ?_
  refine ob_istore F (ls2 := [(4, .int 1), (3, .int (v2 + (x2 * v4))), (0, ob_rv C n0), (1, .int x1), (2, .int x2)]) dX12_stripped_17 (by decide) rfl ?_
  obtain ⟨x_7, hx, h⟩ := Option.bind_eq_some_iff.mp h
  refine ob_sub [2, 3, 1, 0] rfl (l_X12_stripped_19 F ob_FU hx ?_)
  refine ob_iload_n F 0 dX12_stripped_43 rfl ?_
  obtain rfl := Option.some.inj h
  exact ob_iret F dX12_stripped_44 k
theorem t_X12_stripped {cf : ob_Cf} {g : ob_St} {n0 : Nat} {x1 : Int32} {x2 : Int32} {r : Int32} (h : f_X12_stripped g n0 x1 x2 = some r) : ob_Mt cf yX12_stripped cX12_stripped 5 (some .int) 0 0 [ob_rw cf n0, .int x1, .int x2] g (some (.int r)) g := by
  refine ob_enter (by decide) (Nat.le_of_ble_eq_true rfl) (Or.inl rfl) ?_
  intro C hC F k
  subst hC
  exact b_X12_stripped_0 F h k
-- X12_cashFrom
def Lb_X12_cashFrom_4 (rec : Int32 → Int32 → Option (Int32)) (g : ob_St) (n0 : Nat) (x2 : Int32) (x3 : Int32) : Option (Int32) :=
  (ob_gR 12 n0 1).bind fun v1 => (ob_rI g 14 v1 2).bind fun v2 => (if v2 < x3 then (some x2) else ((ob_gR 12 n0 1).bind fun v3 => (ob_rI g 14 v3 (16 + x3)).bind fun v4 => rec (x2 + v4) (x3 + 1)))
def L_X12_cashFrom_4 (g : ob_St) (n0 : Nat) : Nat → Int32 → Int32 → Option (Int32)
  | 0, _, _ => none
  | n + 1, x2, x3 => Lb_X12_cashFrom_4 (L_X12_cashFrom_4 g n0 n) g n0 x2 x3
theorem lb_X12_cashFrom_4 {C : ob_Cx} {rec : Int32 → Int32 → Option (Int32)} (F : ob_Fx C cX12_cashFrom 4 RX12 (some .int) 0 0) {g : ob_St} {n0 : Nat} {x2 : Int32} {x3 : Int32} {x : (Int32)} (hr : ∀ {x2 : Int32} {x3 : Int32} {x : (Int32)}, rec x2 x3 = some x → ob_Ev C 32 [(2, .int x)] [] g → ob_Ev C 4 [(0, ob_rv C n0), (2, .int x2), (3, .int x3)] [] g) (h : Lb_X12_cashFrom_4 rec g n0 x2 x3 = some x) (k0 : ob_Ev C 32 [(2, .int x)] [] g) : ob_Ev C 4 [(0, ob_rv C n0), (2, .int x2), (3, .int x3)] [] g := by
  unfold Lb_X12_cashFrom_4 at h
  refine ob_iload_n F 2 dX12_cashFrom_4 rfl ?_
  refine ob_rload_n F 0 dX12_cashFrom_5 rfl ?_
  refine ob_getR F dX12_cashFrom_6 fl_X12_13 h fun v1 h => ?_
  refine ob_iconst F (v := 2) dX12_cashFrom_9 (by decide) ?_
  refine ob_iald F dX12_cashFrom_10 h fun v2 h => ?_
  refine ob_icmp_gt F 32 dX12_cashFrom_11 (by decide) h (fun h => ?_) (fun h => ?_)
  · obtain rfl := Option.some.inj h
    exact ob_sub [1] rfl (k0)
  · refine ob_iload_n F 1 dX12_cashFrom_14 rfl ?_
    refine ob_rload_n F 0 dX12_cashFrom_15 rfl ?_
    refine ob_getR F dX12_cashFrom_16 fl_X12_13 h fun v3 h => ?_
    refine ob_bipush F (v := 16) dX12_cashFrom_19 (by decide) ?_
    refine ob_iload_n F 2 dX12_cashFrom_21 rfl ?_
    refine ob_iadd F dX12_cashFrom_22 ?_
    refine ob_iald F dX12_cashFrom_23 h fun v4 h => ?_
    refine ob_iadd F dX12_cashFrom_24 ?_
    refine ob_istore_n F (ls2 := [(2, .int (x2 + v4)), (0, ob_rv C n0), (3, .int x3)]) dX12_cashFrom_25 (by decide) rfl ?_
    refine ob_iinc F (v := (x3 + 1)) (ls2 := [(3, .int (x3 + 1)), (2, .int (x2 + v4)), (0, ob_rv C n0)]) 2 dX12_cashFrom_26 rfl rfl (by decide) rfl ?_
    refine ob_goto F 4 dX12_cashFrom_29 (by decide) ?_
    exact ob_sub [2, 1, 0] rfl (hr h k0)
theorem l_X12_cashFrom_4 {C : ob_Cx} (F : ob_Fx C cX12_cashFrom 4 RX12 (some .int) 0 0) {g : ob_St} {n0 : Nat} : ∀ (n : Nat) {x2 : Int32} {x3 : Int32} {x : (Int32)}, L_X12_cashFrom_4 g n0 n x2 x3 = some x → ob_Ev C 32 [(2, .int x)] [] g → ob_Ev C 4 [(0, ob_rv C n0), (2, .int x2), (3, .int x3)] [] g := by
  intro n
  induction n with
  | zero => intro x2 x3 x h; exact ob_no h
  | succ n ih => intro x2 x3 x h k0; exact lb_X12_cashFrom_4 F ih h k0
def f_X12_cashFrom (g : ob_St) (n0 : Nat) (x1 : Int32) : Option Int32 :=
  (L_X12_cashFrom_4 g n0 ob_FU 0 x1).bind fun x_5 => some x_5
theorem b_X12_cashFrom_0 {C : ob_Cx} (F : ob_Fx C cX12_cashFrom 4 RX12 (some .int) 0 0) {g : ob_St} {n0 : Nat} {x1 : Int32} {r : Int32} (h : f_X12_cashFrom g n0 x1 = some r) (k : ob_Rt C (some (.int r)) g) : ob_Ev C 0 [(0, ob_rv C n0), (1, .int x1)] [] g := by
  unfold f_X12_cashFrom at h
  refine ob_iconst F (v := 0) dX12_cashFrom_0 (by decide) ?_
  refine ob_istore_n F (ls2 := [(2, .int 0), (0, ob_rv C n0), (1, .int x1)]) dX12_cashFrom_1 (by decide) rfl ?_
  refine ob_iload_n F 2 dX12_cashFrom_2 rfl ?_
  refine ob_istore_n F (ls2 := [(3, .int x1), (2, .int 0), (0, ob_rv C n0), (1, .int x1)]) dX12_cashFrom_3 (by decide) rfl ?_
  obtain ⟨x_5, hx, h⟩ := Option.bind_eq_some_iff.mp h
  refine ob_sub [2, 1, 0] rfl (l_X12_cashFrom_4 F ob_FU hx ?_)
  refine ob_iload_n F 0 dX12_cashFrom_32 rfl ?_
  obtain rfl := Option.some.inj h
  exact ob_iret F dX12_cashFrom_33 k
theorem t_X12_cashFrom {cf : ob_Cf} {g : ob_St} {n0 : Nat} {x1 : Int32} {r : Int32} (h : f_X12_cashFrom g n0 x1 = some r) : ob_Mt cf yX12_cashFrom cX12_cashFrom 4 (some .int) 0 0 [ob_rw cf n0, .int x1] g (some (.int r)) g := by
  refine ob_enter (by decide) (Nat.le_of_ble_eq_true rfl) (Or.inl rfl) ?_
  intro C hC F k
  subst hC
  exact b_X12_cashFrom_0 F h k
-- X12_priceAt
def f_X12_priceAt (g : ob_St) (n0 : Nat) (x1 : Int32) (x2 : Int32) : Option Int32 :=
  (ob_ck 12 n0 (f_X12_stripped g n0 x1 x2)).bind fun v1 => (ob_ck 12 n0 (f_X12_cashFrom g n0 x1)).bind fun v2 => some (v1 + v2)
theorem b_X12_priceAt_0 {C : ob_Cx} (F : ob_Fx C cX12_priceAt 3 RX12 (some .int) 1 24) {g : ob_St} {n0 : Nat} {x1 : Int32} {x2 : Int32} {r : Int32} (h : f_X12_priceAt g n0 x1 x2 = some r) (k : ob_Rt C (some (.int r)) g) : ob_Ev C 0 [(0, ob_rv C n0), (1, .int x1), (2, .int x2)] [] g := by
  unfold f_X12_priceAt at h
  refine ob_rload_n F 0 dX12_priceAt_0 rfl ?_
  refine ob_iload_n F 1 dX12_priceAt_1 rfl ?_
  refine ob_iload_n F 2 dX12_priceAt_2 rfl ?_
  refine ob_cVi F dX12_priceAt_3 im_X12_stripped tw6_170 h (fun b hb => t_X12_stripped hb) rfl rfl (Nat.le_of_ble_eq_true rfl) (by decide) fun v1 h => ?_
  refine ob_rload_n F 0 dX12_priceAt_6 rfl ?_
  refine ob_iload_n F 1 dX12_priceAt_7 rfl ?_
  refine ob_cVi F dX12_priceAt_8 im_X12_cashFrom tw6_133 h (fun b hb => t_X12_cashFrom hb) rfl rfl (Nat.le_of_ble_eq_true rfl) (by decide) fun v2 h => ?_
  refine ob_iadd F dX12_priceAt_11 ?_
  obtain rfl := Option.some.inj h
  exact ob_iret F dX12_priceAt_12 k
theorem t_X12_priceAt {cf : ob_Cf} {g : ob_St} {n0 : Nat} {x1 : Int32} {x2 : Int32} {r : Int32} (h : f_X12_priceAt g n0 x1 x2 = some r) : ob_Mt cf yX12_priceAt cX12_priceAt 3 (some .int) 1 24 [ob_rw cf n0, .int x1, .int x2] g (some (.int r)) g := by
  refine ob_enter (by decide) (Nat.le_of_ble_eq_true rfl) (Or.inl rfl) ?_
  intro C hC F k
  subst hC
  exact b_X12_priceAt_0 F h k
-- X12_count
def f_X12_count (g : ob_St) (n0 : Nat) (x1 : Int32) : Option (Int32 × ob_St) :=
  (ob_pI g 12 n0 0 0).bind fun g1 => (if x1 = 0 then ((ob_gR 12 n0 1).bind fun v2 => (ob_rI g1 14 v2 2).bind fun v3 => some (v3, g1)) else (if x1 = 1 then ((ob_gR 12 n0 1).bind fun v4 => (ob_rI g1 14 v4 29).bind fun v5 => some (v5, g1)) else (if x1 = 2 then ((ob_gR 12 n0 1).bind fun v6 => (ob_rI g1 14 v6 1).bind fun v7 => some (v7, g1)) else (if x1 = 3 then ((ob_gR 12 n0 1).bind fun v8 => (ob_rI g1 14 v8 0).bind fun v9 => some (v9, g1)) else (if x1 = 4 then ((ob_ck 12 n0 (f_X12_cashFrom g1 n0 0)).bind fun v10 => some (v10, g1)) else (if x1 = 5 then ((ob_gI g1 12 n0 6).bind fun v11 => some (v11, g1)) else (if x1 = 6 then ((ob_gI g1 12 n0 8).bind fun v12 => some (v12, g1)) else (some ((-1), g1)))))))))
theorem b_X12_count_0 {C : ob_Cx} (F : ob_Fx C cX12_count 2 RX12 (some .int) 1 23) {g : ob_St} {n0 : Nat} {x1 : Int32} {r : (Int32 × ob_St)} (h : f_X12_count g n0 x1 = some r) (k : ob_Rt C (some (.int r.1)) r.2) : ob_Ev C 0 [(0, ob_rv C n0), (1, .int x1)] [] g := by
  unfold f_X12_count at h
  refine ob_rload_n F 0 dX12_count_0 rfl ?_
  refine ob_iconst F (v := 0) dX12_count_1 (by decide) ?_
  refine ob_putI F dX12_count_2 fp_X12_1 h fun g1 h => ?_
  refine ob_iload_n F 1 dX12_count_5 rfl ?_
  by_cases c0 : x1 = 0
  · rw [if_pos c0] at h
    refine ob_tsi F 0 48 dX12_count_6 c0 (by decide) (by decide) rfl (by decide) ?_
    refine ob_rload_n F 0 dX12_count_48 rfl ?_
    refine ob_getR F dX12_count_49 fl_X12_13 h fun v2 h => ?_
    refine ob_iconst F (v := 2) dX12_count_52 (by decide) ?_
    refine ob_iald F dX12_count_53 h fun v3 h => ?_
    obtain rfl := Option.some.inj h
    exact ob_iret F dX12_count_54 k
  rw [if_neg c0] at h
  by_cases c1 : x1 = 1
  · rw [if_pos c1] at h
    refine ob_tsi F 1 55 dX12_count_6 c1 (by decide) (by decide) rfl (by decide) ?_
    refine ob_rload_n F 0 dX12_count_55 rfl ?_
    refine ob_getR F dX12_count_56 fl_X12_13 h fun v4 h => ?_
    refine ob_bipush F (v := 29) dX12_count_59 (by decide) ?_
    refine ob_iald F dX12_count_61 h fun v5 h => ?_
    obtain rfl := Option.some.inj h
    exact ob_iret F dX12_count_62 k
  rw [if_neg c1] at h
  by_cases c2 : x1 = 2
  · rw [if_pos c2] at h
    refine ob_tsi F 2 63 dX12_count_6 c2 (by decide) (by decide) rfl (by decide) ?_
    refine ob_rload_n F 0 dX12_count_63 rfl ?_
    refine ob_getR F dX12_count_64 fl_X12_13 h fun v6 h => ?_
    refine ob_iconst F (v := 1) dX12_count_67 (by decide) ?_
    refine ob_iald F dX12_count_68 h fun v7 h => ?_
    obtain rfl := Option.some.inj h
    exact ob_iret F dX12_count_69 k
  rw [if_neg c2] at h
  by_cases c3 : x1 = 3
  · rw [if_pos c3] at h
    refine ob_tsi F 3 70 dX12_count_6 c3 (by decide) (by decide) rfl (by decide) ?_
    refine ob_rload_n F 0 dX12_count_70 rfl ?_
    refine ob_getR F dX12_count_71 fl_X12_13 h fun v8 h => ?_
    refine ob_iconst F (v := 0) dX12_count_74 (by decide) ?_
    refine ob_iald F dX12_count_75 h fun v9 h => ?_
    obtain rfl := Option.some.inj h
    exact ob_iret F dX12_count_76 k
  rw [if_neg c3] at h
  by_cases c4 : x1 = 4
  · rw [if_pos c4] at h
    refine ob_tsi F 4 77 dX12_count_6 c4 (by decide) (by decide) rfl (by decide) ?_
    refine ob_rload_n F 0 dX12_count_77 rfl ?_
    refine ob_iconst F (v := 0) dX12_count_78 (by decide) ?_
    refine ob_cVi F dX12_count_79 im_X12_cashFrom tw6_133 h (fun b hb => t_X12_cashFrom hb) rfl rfl (Nat.le_of_ble_eq_true rfl) (by decide) fun v10 h => ?_
    obtain rfl := Option.some.inj h
    exact ob_iret F dX12_count_82 k
  rw [if_neg c4] at h
  by_cases c5 : x1 = 5
  · rw [if_pos c5] at h
    refine ob_tsi F 5 83 dX12_count_6 c5 (by decide) (by decide) rfl (by decide) ?_
    refine ob_rload_n F 0 dX12_count_83 rfl ?_
    refine ob_getI F dX12_count_84 fl_X12_177 h fun v11 h => ?_
    obtain rfl := Option.some.inj h
    exact ob_iret F dX12_count_87 k
  rw [if_neg c5] at h
  by_cases c6 : x1 = 6
  · rw [if_pos c6] at h
    refine ob_tsi F 6 88 dX12_count_6 c6 (by decide) (by decide) rfl (by decide) ?_
    refine ob_rload_n F 0 dX12_count_88 rfl ?_
    refine ob_getI F dX12_count_89 fl_X12_75 h fun v12 h => ?_
    obtain rfl := Option.some.inj h
    exact ob_iret F dX12_count_92 k
  rw [if_neg c6] at h
  have q0 := ob_nei c0 (k := 0) rfl
  have q1 := ob_nei c1 (k := 1) rfl
  have q2 := ob_nei c2 (k := 2) rfl
  have q3 := ob_nei c3 (k := 3) rfl
  have q4 := ob_nei c4 (k := 4) rfl
  have q5 := ob_nei c5 (k := 5) rfl
  have q6 := ob_nei c6 (k := 6) rfl
  refine ob_tso F 93 dX12_count_6 (by omega) (by decide) ?_
  refine ob_iconst F (v := (-1)) dX12_count_93 (by decide) ?_
  obtain rfl := Option.some.inj h
  exact ob_iret F dX12_count_94 k
theorem t_X12_count {cf : ob_Cf} {g : ob_St} {n0 : Nat} {x1 : Int32} {r : (Int32 × ob_St)} (h : f_X12_count g n0 x1 = some r) : ob_Mt cf yX12_count cX12_count 2 (some .int) 1 23 [ob_rw cf n0, .int x1] g (some (.int r.1)) r.2 := by
  refine ob_enter (by decide) (Nat.le_of_ble_eq_true rfl) (Or.inl rfl) ?_
  intro C hC F k
  subst hC
  exact b_X12_count_0 F h k
-- X12_step
def B_X12_step_32 (g : ob_St) (n0 : Nat) (x1 : Int32) (x2 : Int32) : Option (Int32 × ob_St) :=
  (if x2 = 1 then ((ob_gR 12 n0 1).bind fun v2 => (ob_rI g 14 v2 2).bind fun v3 => (f_X12_isIn x1 0 v3).bind fun v4 => (if v4 = 0 then (some ((-1), g)) else ((ob_gR 12 n0 1).bind fun v5 => (ob_rI g 14 v5 (16 + x1)).bind fun v6 => some (v6, g)))) else (some ((-1), g)))
theorem b_X12_step_32 {C : ob_Cx} (F : ob_Fx C cX12_step 3 RX12 (some .int) 1 22) {g : ob_St} {n0 : Nat} {x1 : Int32} {x2 : Int32} {r : (Int32 × ob_St)} (h : B_X12_step_32 g n0 x1 x2 = some r) (k : ob_Rt C (some (.int r.1)) r.2) : ob_Ev C 32 [(0, ob_rv C n0), (1, .int x1), (2, .int x2)] [] g := by
  unfold B_X12_step_32 at h
  refine ob_iload_n F 2 dX12_step_32 rfl ?_
  refine ob_iconst F (v := 1) dX12_step_33 (by decide) ?_
  refine ob_icmp_ne F 63 dX12_step_34 (by decide) h (fun h => ?_) (fun h => ?_)
  · refine ob_iconst F (v := (-1)) dX12_step_63 (by decide) ?_
    obtain rfl := Option.some.inj h
    exact ob_iret F dX12_step_64 k
  · refine ob_iload_n F 1 dX12_step_37 rfl ?_
    refine ob_iconst F (v := 0) dX12_step_38 (by decide) ?_
    refine ob_rload_n F 0 dX12_step_39 rfl ?_
    refine ob_getR F dX12_step_40 fl_X12_13 h fun v2 h => ?_
    refine ob_iconst F (v := 2) dX12_step_43 (by decide) ?_
    refine ob_iald F dX12_step_44 h fun v3 h => ?_
    refine ob_cSi F dX12_step_45 im_X12_isIn tw6_67 h (fun b hb => t_X12_isIn hb) rfl rfl (Nat.le_of_ble_eq_true rfl) (by decide) fun v4 h => ?_
    refine ob_if_eq F 63 dX12_step_48 (by decide) h (fun h => ?_) (fun h => ?_)
    · refine ob_iconst F (v := (-1)) dX12_step_63 (by decide) ?_
      obtain rfl := Option.some.inj h
      exact ob_iret F dX12_step_64 k
    · refine ob_rload_n F 0 dX12_step_51 rfl ?_
      refine ob_getR F dX12_step_52 fl_X12_13 h fun v5 h => ?_
      refine ob_bipush F (v := 16) dX12_step_55 (by decide) ?_
      refine ob_iload_n F 1 dX12_step_57 rfl ?_
      refine ob_iadd F dX12_step_58 ?_
      refine ob_iald F dX12_step_59 h fun v6 h => ?_
      refine ob_goto F 64 dX12_step_60 (by decide) ?_
      obtain rfl := Option.some.inj h
      exact ob_iret F dX12_step_64 k
def f_X12_step (g : ob_St) (n0 : Nat) (x1 : Int32) (x2 : Int32) : Option (Int32 × ob_St) :=
  (ob_pI g 12 n0 0 0).bind fun g1 => (if x2 = 0 then ((ob_gR 12 n0 1).bind fun v7 => (ob_rI g1 14 v7 2).bind fun v8 => (f_X12_isIn x1 1 v8).bind fun v9 => (if v9 = 0 then (B_X12_step_32 g1 n0 x1 x2) else ((ob_gR 12 n0 1).bind fun v10 => (ob_rI g1 14 v10 (3 + x1)).bind fun v11 => some (v11, g1)))) else (B_X12_step_32 g1 n0 x1 x2))
theorem b_X12_step_0 {C : ob_Cx} (F : ob_Fx C cX12_step 3 RX12 (some .int) 1 22) {g : ob_St} {n0 : Nat} {x1 : Int32} {x2 : Int32} {r : (Int32 × ob_St)} (h : f_X12_step g n0 x1 x2 = some r) (k : ob_Rt C (some (.int r.1)) r.2) : ob_Ev C 0 [(0, ob_rv C n0), (1, .int x1), (2, .int x2)] [] g := by
  unfold f_X12_step at h
  refine ob_rload_n F 0 dX12_step_0 rfl ?_
  refine ob_iconst F (v := 0) dX12_step_1 (by decide) ?_
  refine ob_putI F dX12_step_2 fp_X12_1 h fun g1 h => ?_
  refine ob_iload_n F 2 dX12_step_5 rfl ?_
  refine ob_if_ne F 32 dX12_step_6 (by decide) h (fun h => ?_) (fun h => ?_)
  · exact b_X12_step_32 F h k
  · refine ob_iload_n F 1 dX12_step_9 rfl ?_
    refine ob_iconst F (v := 1) dX12_step_10 (by decide) ?_
    refine ob_rload_n F 0 dX12_step_11 rfl ?_
    refine ob_getR F dX12_step_12 fl_X12_13 h fun v7 h => ?_
    refine ob_iconst F (v := 2) dX12_step_15 (by decide) ?_
    refine ob_iald F dX12_step_16 h fun v8 h => ?_
    refine ob_cSi F dX12_step_17 im_X12_isIn tw6_67 h (fun b hb => t_X12_isIn hb) rfl rfl (Nat.le_of_ble_eq_true rfl) (by decide) fun v9 h => ?_
    refine ob_if_eq F 32 dX12_step_20 (by decide) h (fun h => ?_) (fun h => ?_)
    · exact b_X12_step_32 F h k
    · refine ob_rload_n F 0 dX12_step_23 rfl ?_
      refine ob_getR F dX12_step_24 fl_X12_13 h fun v10 h => ?_
      refine ob_iconst F (v := 3) dX12_step_27 (by decide) ?_
      refine ob_iload_n F 1 dX12_step_28 rfl ?_
      refine ob_iadd F dX12_step_29 ?_
      refine ob_iald F dX12_step_30 h fun v11 h => ?_
      obtain rfl := Option.some.inj h
      exact ob_iret F dX12_step_31 k
theorem t_X12_step {cf : ob_Cf} {g : ob_St} {n0 : Nat} {x1 : Int32} {x2 : Int32} {r : (Int32 × ob_St)} (h : f_X12_step g n0 x1 x2 = some r) : ob_Mt cf yX12_step cX12_step 3 (some .int) 1 22 [ob_rw cf n0, .int x1, .int x2] g (some (.int r.1)) r.2 := by
  refine ob_enter (by decide) (Nat.le_of_ble_eq_true rfl) (Or.inl rfl) ?_
  intro C hC F k
  subst hC
  exact b_X12_step_0 F h k
-- X12_isOption
def f_X12_isOption (g : ob_St) (n0 : Nat) (x1 : Int32) : Option Int32 :=
  (ob_gR 12 n0 1).bind fun v1 => (ob_rI g 14 v1 29).bind fun v2 => (f_X12_isIn x1 0 (v2 - 1)).bind fun v3 => (ob_zr v3).bind fun z4 => some z4
theorem b_X12_isOption_0 {C : ob_Cx} (F : ob_Fx C cX12_isOption 2 RX12 (some .boolean) 1 22) {g : ob_St} {n0 : Nat} {x1 : Int32} {r : Int32} (h : f_X12_isOption g n0 x1 = some r) (k : ob_Rt C (some (.int r)) g) : ob_Ev C 0 [(0, ob_rv C n0), (1, .int x1)] [] g := by
  unfold f_X12_isOption at h
  refine ob_iload_n F 1 dX12_isOption_0 rfl ?_
  refine ob_iconst F (v := 0) dX12_isOption_1 (by decide) ?_
  refine ob_rload_n F 0 dX12_isOption_2 rfl ?_
  refine ob_getR F dX12_isOption_3 fl_X12_13 h fun v1 h => ?_
  refine ob_bipush F (v := 29) dX12_isOption_6 (by decide) ?_
  refine ob_iald F dX12_isOption_8 h fun v2 h => ?_
  refine ob_iconst F (v := 1) dX12_isOption_9 (by decide) ?_
  refine ob_isub F dX12_isOption_10 ?_
  refine ob_cSi F dX12_isOption_11 im_X12_isIn tw6_67 h (fun b hb => t_X12_isIn hb) rfl rfl (Nat.le_of_ble_eq_true rfl) (by decide) fun v3 h => ?_
  refine ob_zrow h fun hz h => ?_
  obtain rfl := Option.some.inj h
  exact ob_zret F dX12_isOption_14 hz k
theorem t_X12_isOption {cf : ob_Cf} {g : ob_St} {n0 : Nat} {x1 : Int32} {r : Int32} (h : f_X12_isOption g n0 x1 = some r) : ob_Mt cf yX12_isOption cX12_isOption 2 (some .boolean) 1 22 [ob_rw cf n0, .int x1] g (some (.int r)) g := by
  refine ob_enter (by decide) (Nat.le_of_ble_eq_true rfl) (Or.inr rfl) ?_
  intro C hC F k
  subst hC
  exact b_X12_isOption_0 F h k
-- X12_get
def f_X12_get (g : ob_St) (n0 : Nat) (x1 : Int32) (x2 : Int32) : Option Int32 :=
  (ob_gR 12 n0 1).bind fun v1 => (ob_rI g 14 v1 ((30 + (10 * x1)) + x2)).bind fun v2 => some v2
theorem b_X12_get_0 {C : ob_Cx} (F : ob_Fx C cX12_get 3 RX12 (some .int) 0 0) {g : ob_St} {n0 : Nat} {x1 : Int32} {x2 : Int32} {r : Int32} (h : f_X12_get g n0 x1 x2 = some r) (k : ob_Rt C (some (.int r)) g) : ob_Ev C 0 [(0, ob_rv C n0), (1, .int x1), (2, .int x2)] [] g := by
  unfold f_X12_get at h
  refine ob_rload_n F 0 dX12_get_0 rfl ?_
  refine ob_getR F dX12_get_1 fl_X12_13 h fun v1 h => ?_
  refine ob_bipush F (v := 30) dX12_get_4 (by decide) ?_
  refine ob_bipush F (v := 10) dX12_get_6 (by decide) ?_
  refine ob_iload_n F 1 dX12_get_8 rfl ?_
  refine ob_imul F dX12_get_9 ?_
  refine ob_iadd F dX12_get_10 ?_
  refine ob_iload_n F 2 dX12_get_11 rfl ?_
  refine ob_iadd F dX12_get_12 ?_
  refine ob_iald F dX12_get_13 h fun v2 h => ?_
  obtain rfl := Option.some.inj h
  exact ob_iret F dX12_get_14 k
theorem t_X12_get {cf : ob_Cf} {g : ob_St} {n0 : Nat} {x1 : Int32} {x2 : Int32} {r : Int32} (h : f_X12_get g n0 x1 x2 = some r) : ob_Mt cf yX12_get cX12_get 3 (some .int) 0 0 [ob_rw cf n0, .int x1, .int x2] g (some (.int r)) g := by
  refine ob_enter (by decide) (Nat.le_of_ble_eq_true rfl) (Or.inl rfl) ?_
  intro C hC F k
  subst hC
  exact b_X12_get_0 F h k
-- X12_firstMay
def f_X12_firstMay (g : ob_St) (n0 : Nat) (x1 : Int32) : Option Int32 :=
  (ob_ck 12 n0 (f_X12_get g n0 x1 3)).bind fun v1 => (ob_gR 12 n0 1).bind fun v2 => (ob_rI g 14 v2 2).bind fun v3 => (if v3 ≤ v1 then ((ob_gR 12 n0 1).bind fun v4 => (ob_rI g 14 v4 2).bind fun v5 => some v5) else ((ob_ck 12 n0 (f_X12_get g n0 x1 3)).bind fun v6 => some v6))
theorem b_X12_firstMay_0 {C : ob_Cx} (F : ob_Fx C cX12_firstMay 2 RX12 (some .int) 1 22) {g : ob_St} {n0 : Nat} {x1 : Int32} {r : Int32} (h : f_X12_firstMay g n0 x1 = some r) (k : ob_Rt C (some (.int r)) g) : ob_Ev C 0 [(0, ob_rv C n0), (1, .int x1)] [] g := by
  unfold f_X12_firstMay at h
  refine ob_rload_n F 0 dX12_firstMay_0 rfl ?_
  refine ob_iload_n F 1 dX12_firstMay_1 rfl ?_
  refine ob_iconst F (v := 3) dX12_firstMay_2 (by decide) ?_
  refine ob_cVi F dX12_firstMay_3 im_X12_get tw6_154 h (fun b hb => t_X12_get hb) rfl rfl (Nat.le_of_ble_eq_true rfl) (by decide) fun v1 h => ?_
  refine ob_rload_n F 0 dX12_firstMay_6 rfl ?_
  refine ob_getR F dX12_firstMay_7 fl_X12_13 h fun v2 h => ?_
  refine ob_iconst F (v := 2) dX12_firstMay_10 (by decide) ?_
  refine ob_iald F dX12_firstMay_11 h fun v3 h => ?_
  refine ob_icmp_ge F 24 dX12_firstMay_12 (by decide) h (fun h => ?_) (fun h => ?_)
  · refine ob_rload_n F 0 dX12_firstMay_24 rfl ?_
    refine ob_getR F dX12_firstMay_25 fl_X12_13 h fun v4 h => ?_
    refine ob_iconst F (v := 2) dX12_firstMay_28 (by decide) ?_
    refine ob_iald F dX12_firstMay_29 h fun v5 h => ?_
    obtain rfl := Option.some.inj h
    exact ob_iret F dX12_firstMay_30 k
  · refine ob_rload_n F 0 dX12_firstMay_15 rfl ?_
    refine ob_iload_n F 1 dX12_firstMay_16 rfl ?_
    refine ob_iconst F (v := 3) dX12_firstMay_17 (by decide) ?_
    refine ob_cVi F dX12_firstMay_18 im_X12_get tw6_154 h (fun b hb => t_X12_get hb) rfl rfl (Nat.le_of_ble_eq_true rfl) (by decide) fun v6 h => ?_
    refine ob_goto F 30 dX12_firstMay_21 (by decide) ?_
    obtain rfl := Option.some.inj h
    exact ob_iret F dX12_firstMay_30 k
theorem t_X12_firstMay {cf : ob_Cf} {g : ob_St} {n0 : Nat} {x1 : Int32} {r : Int32} (h : f_X12_firstMay g n0 x1 = some r) : ob_Mt cf yX12_firstMay cX12_firstMay 2 (some .int) 1 22 [ob_rw cf n0, .int x1] g (some (.int r)) g := by
  refine ob_enter (by decide) (Nat.le_of_ble_eq_true rfl) (Or.inl rfl) ?_
  intro C hC F k
  subst hC
  exact b_X12_firstMay_0 F h k
-- X12_option
def f_X12_option (g : ob_St) (n0 : Nat) (x1 : Int32) (x2 : Int32) : Option (Int32 × ob_St) :=
  (ob_pI g 12 n0 0 0).bind fun g1 => (ob_ck 12 n0 (f_X12_isOption g1 n0 x1)).bind fun v2 => (if v2 = 0 then (some ((-1000000), g1)) else ((f_X12_isIn x2 0 9).bind fun v3 => (if v3 = 0 then (some ((-1000000), g1)) else ((if x2 = 3 then ((ob_ck 12 n0 (f_X12_firstMay g1 n0 x1)).bind fun v7 => some (v7, g1)) else ((if x2 = 8 then ((ob_ck 12 n0 (f_X12_get g1 n0 x1 9)).bind fun v6 => some (v6, g1)) else ((if x2 = 9 then ((ob_ck 12 n0 (f_X12_get g1 n0 x1 8)).bind fun v5 => some (v5, g1)) else ((ob_ck 12 n0 (f_X12_get g1 n0 x1 x2)).bind fun v4 => some (v4, g1)))))))))))
theorem b_X12_option_0 {C : ob_Cx} (F : ob_Fx C cX12_option 3 RX12 (some .int) 2 43) {g : ob_St} {n0 : Nat} {x1 : Int32} {x2 : Int32} {r : (Int32 × ob_St)} (h : f_X12_option g n0 x1 x2 = some r) (k : ob_Rt C (some (.int r.1)) r.2) : ob_Ev C 0 [(0, ob_rv C n0), (1, .int x1), (2, .int x2)] [] g := by
  unfold f_X12_option at h
  refine ob_rload_n F 0 dX12_option_0 rfl ?_
  refine ob_iconst F (v := 0) dX12_option_1 (by decide) ?_
  refine ob_putI F dX12_option_2 fp_X12_1 h fun g1 h => ?_
  refine ob_rload_n F 0 dX12_option_5 rfl ?_
  refine ob_iload_n F 1 dX12_option_6 rfl ?_
  refine ob_cVi F dX12_option_7 im_X12_isOption tw6_145 h (fun b hb => t_X12_isOption hb) rfl rfl (Nat.le_of_ble_eq_true rfl) (by decide) fun v2 h => ?_
  refine ob_if_eq F 23 dX12_option_10 (by decide) h (fun h => ?_) (fun h => ?_)
  · refine ob_ldc F (v := (-1000000)) dX12_option_23 tw6_149 ?_
    obtain rfl := Option.some.inj h
    exact ob_iret F dX12_option_25 k
  · refine ob_iload_n F 2 dX12_option_13 rfl ?_
    refine ob_iconst F (v := 0) dX12_option_14 (by decide) ?_
    refine ob_bipush F (v := 9) dX12_option_15 (by decide) ?_
    refine ob_cSi F dX12_option_17 im_X12_isIn tw6_67 h (fun b hb => t_X12_isIn hb) rfl rfl (Nat.le_of_ble_eq_true rfl) (by decide) fun v3 h => ?_
    refine ob_if_ne F 26 dX12_option_20 (by decide) h (fun h => ?_) (fun h => ?_)
    · refine ob_iload_n F 2 dX12_option_26 rfl ?_
      refine ob_iconst F (v := 3) dX12_option_27 (by decide) ?_
      refine ob_icmp_ne F 39 dX12_option_28 (by decide) h (fun h => ?_) (fun h => ?_)
      · refine ob_iload_n F 2 dX12_option_39 rfl ?_
        refine ob_bipush F (v := 8) dX12_option_40 (by decide) ?_
        refine ob_icmp_ne F 55 dX12_option_42 (by decide) h (fun h => ?_) (fun h => ?_)
        · refine ob_iload_n F 2 dX12_option_55 rfl ?_
          refine ob_bipush F (v := 9) dX12_option_56 (by decide) ?_
          refine ob_icmp_ne F 71 dX12_option_58 (by decide) h (fun h => ?_) (fun h => ?_)
          · refine ob_rload_n F 0 dX12_option_71 rfl ?_
            refine ob_iload_n F 1 dX12_option_72 rfl ?_
            refine ob_iload_n F 2 dX12_option_73 rfl ?_
            refine ob_cVi F dX12_option_74 im_X12_get tw6_154 h (fun b hb => t_X12_get hb) rfl rfl (Nat.le_of_ble_eq_true rfl) (by decide) fun v4 h => ?_
            obtain rfl := Option.some.inj h
            exact ob_iret F dX12_option_77 k
          · refine ob_rload_n F 0 dX12_option_61 rfl ?_
            refine ob_iload_n F 1 dX12_option_62 rfl ?_
            refine ob_bipush F (v := 8) dX12_option_63 (by decide) ?_
            refine ob_cVi F dX12_option_65 im_X12_get tw6_154 h (fun b hb => t_X12_get hb) rfl rfl (Nat.le_of_ble_eq_true rfl) (by decide) fun v5 h => ?_
            refine ob_goto F 77 dX12_option_68 (by decide) ?_
            obtain rfl := Option.some.inj h
            exact ob_iret F dX12_option_77 k
        · refine ob_rload_n F 0 dX12_option_45 rfl ?_
          refine ob_iload_n F 1 dX12_option_46 rfl ?_
          refine ob_bipush F (v := 9) dX12_option_47 (by decide) ?_
          refine ob_cVi F dX12_option_49 im_X12_get tw6_154 h (fun b hb => t_X12_get hb) rfl rfl (Nat.le_of_ble_eq_true rfl) (by decide) fun v6 h => ?_
          refine ob_goto F 77 dX12_option_52 (by decide) ?_
          obtain rfl := Option.some.inj h
          exact ob_iret F dX12_option_77 k
      · refine ob_rload_n F 0 dX12_option_31 rfl ?_
        refine ob_iload_n F 1 dX12_option_32 rfl ?_
        refine ob_cVi F dX12_option_33 im_X12_firstMay tw6_150 h (fun b hb => t_X12_firstMay hb) rfl rfl (Nat.le_of_ble_eq_true rfl) (by decide) fun v7 h => ?_
        refine ob_goto F 77 dX12_option_36 (by decide) ?_
        obtain rfl := Option.some.inj h
        exact ob_iret F dX12_option_77 k
    · refine ob_ldc F (v := (-1000000)) dX12_option_23 tw6_149 ?_
      obtain rfl := Option.some.inj h
      exact ob_iret F dX12_option_25 k
theorem t_X12_option {cf : ob_Cf} {g : ob_St} {n0 : Nat} {x1 : Int32} {x2 : Int32} {r : (Int32 × ob_St)} (h : f_X12_option g n0 x1 x2 = some r) : ob_Mt cf yX12_option cX12_option 3 (some .int) 2 43 [ob_rw cf n0, .int x1, .int x2] g (some (.int r.1)) r.2 := by
  refine ob_enter (by decide) (Nat.le_of_ble_eq_true rfl) (Or.inl rfl) ?_
  intro C hC F k
  subst hC
  exact b_X12_option_0 F h k
