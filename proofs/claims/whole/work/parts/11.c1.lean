-- X7_readNewName
def f_X7_readNewName (g : ob_St) (n0 : Nat) (x1 : Int32) : Option (Int32 × ob_St) :=
  (ob_ck 7 n0 (f_X7_isNext g n0 4)).bind fun v1 => (if v1 = 0 then ((ob_ck 7 n0 (f_X7_fails g n0 1)).bind fun v12 => (ob_zr v12.1).bind fun z13 => some (z13, v12.2)) else ((ob_ck 7 n0 (f_X7_namedOption g n0)).bind fun v2 => (if v2 = (-1) then ((ob_gR 7 n0 4).bind fun v3 => (ob_gR 7 n0 3).bind fun v4 => (ob_gR 10 v4 2).bind fun v5 => (ob_gI g 7 n0 5).bind fun v6 => (ob_rL g v5 v6).bind fun v7 => (ob_wL g v3 x1 v7).bind fun g8 => (ob_ck 7 n0 (f_X7_pass g8 n0)).bind fun g9 => some (1, g9)) else ((ob_ck 7 n0 (f_X7_fails g n0 3)).bind fun v10 => (ob_zr v10.1).bind fun z11 => some (z11, v10.2)))))
theorem b_X7_readNewName_0 {C : ob_Cx} (F : ob_Fx C cX7_readNewName 2 RX7 (some .boolean) 2 43) {g : ob_St} {n0 : Nat} {x1 : Int32} {r : (Int32 × ob_St)} (h : f_X7_readNewName g n0 x1 = some r) (k : ob_Rt C (some (.int r.1)) r.2) : ob_Ev C 0 [(0, ob_rv C n0), (1, .int x1)] [] g := by
  unfold f_X7_readNewName at h
  refine ob_rload_n F 0 dX7_readNewName_0 rfl ?_
  refine ob_iconst F (v := 4) dX7_readNewName_1 (by decide) ?_
  refine ob_cVi F dX7_readNewName_2 im_X7_isNext tw3_59 h (fun b hb => t_X7_isNext hb) rfl rfl (Nat.le_of_ble_eq_true rfl) (by decide) fun v1 h => ?_
  refine ob_if_ne F 14 dX7_readNewName_5 (by decide) h (fun h => ?_) (fun h => ?_)
  · refine ob_rload_n F 0 dX7_readNewName_14 rfl ?_
    refine ob_cVi F dX7_readNewName_15 im_X7_namedOption tw3_115 h (fun b hb => t_X7_namedOption hb) rfl rfl (Nat.le_of_ble_eq_true rfl) (by decide) fun v2 h => ?_
    refine ob_iconst F (v := (-1)) dX7_readNewName_18 (by decide) ?_
    refine ob_icmp_eq F 28 dX7_readNewName_19 (by decide) h (fun h => ?_) (fun h => ?_)
    · refine ob_rload_n F 0 dX7_readNewName_28 rfl ?_
      refine ob_getR F dX7_readNewName_29 fl_X7_25 h fun v3 h => ?_
      refine ob_iload_n F 1 dX7_readNewName_32 rfl ?_
      refine ob_rload_n F 0 dX7_readNewName_33 rfl ?_
      refine ob_getR F dX7_readNewName_34 fl_X7_43 h fun v4 h => ?_
      refine ob_getR F dX7_readNewName_37 fl_X7_79 h fun v5 h => ?_
      refine ob_rload_n F 0 dX7_readNewName_40 rfl ?_
      refine ob_getI F dX7_readNewName_41 fl_X7_29 h fun v6 h => ?_
      refine ob_lald F dX7_readNewName_44 h fun v7 h => ?_
      refine ob_last F dX7_readNewName_45 h fun g8 h => ?_
      refine ob_rload_n F 0 dX7_readNewName_46 rfl ?_
      refine ob_cVvS F dX7_readNewName_47 im_X7_pass tw3_75 h (fun b hb => t_X7_pass hb) rfl rfl (Nat.le_of_ble_eq_true rfl) (by decide) fun g9 h => ?_
      refine ob_iconst F (v := 1) dX7_readNewName_50 (by decide) ?_
      obtain rfl := Option.some.inj h
      exact ob_zret F dX7_readNewName_51 (Or.inr rfl) k
    · refine ob_rload_n F 0 dX7_readNewName_22 rfl ?_
      refine ob_iconst F (v := 3) dX7_readNewName_23 (by decide) ?_
      refine ob_cViS F dX7_readNewName_24 im_X7_fails tw3_83 h (fun b hb => t_X7_fails hb) rfl rfl (Nat.le_of_ble_eq_true rfl) (by decide) fun v10 h => ?_
      refine ob_zrow h fun hz h => ?_
      obtain rfl := Option.some.inj h
      exact ob_zret F dX7_readNewName_27 hz k
  · refine ob_rload_n F 0 dX7_readNewName_8 rfl ?_
    refine ob_iconst F (v := 1) dX7_readNewName_9 (by decide) ?_
    refine ob_cViS F dX7_readNewName_10 im_X7_fails tw3_83 h (fun b hb => t_X7_fails hb) rfl rfl (Nat.le_of_ble_eq_true rfl) (by decide) fun v12 h => ?_
    refine ob_zrow h fun hz h => ?_
    obtain rfl := Option.some.inj h
    exact ob_zret F dX7_readNewName_13 hz k
theorem t_X7_readNewName {cf : ob_Cf} {g : ob_St} {n0 : Nat} {x1 : Int32} {r : (Int32 × ob_St)} (h : f_X7_readNewName g n0 x1 = some r) : ob_Mt cf yX7_readNewName cX7_readNewName 2 (some .boolean) 2 43 [ob_rw cf n0, .int x1] g (some (.int r.1)) r.2 := by
  refine ob_enter (by decide) (Nat.le_of_ble_eq_true rfl) (Or.inr rfl) ?_
  intro C hC F k
  subst hC
  exact b_X7_readNewName_0 F h k
-- X7_readOther
def f_X7_readOther (g : ob_St) (n0 : Nat) (n1 : Nat) : Option (Int32 × ob_St) :=
  (ob_ck 7 n0 (f_X7_isNext g n0 4)).bind fun v1 => (if v1 = 0 then ((ob_ck 7 n0 (f_X7_fails g n0 1)).bind fun v8 => (ob_zr v8.1).bind fun z9 => some (z9, v8.2)) else ((ob_ck 7 n0 (f_X7_namedOption g n0)).bind fun v2 => (ob_pI g 1 n1 2 v2).bind fun g3 => (ob_gI g3 1 n1 2).bind fun v4 => (if v4 = (-1) then ((ob_ck 7 n0 (f_X7_fails g3 n0 3)).bind fun v6 => (ob_zr v6.1).bind fun z7 => some (z7, v6.2)) else ((ob_ck 7 n0 (f_X7_pass g3 n0)).bind fun g5 => some (1, g5)))))
theorem b_X7_readOther_0 {C : ob_Cx} (F : ob_Fx C cX7_readOther 2 RX7 (some .boolean) 2 43) {g : ob_St} {n0 : Nat} {n1 : Nat} {r : (Int32 × ob_St)} (h : f_X7_readOther g n0 n1 = some r) (k : ob_Rt C (some (.int r.1)) r.2) : ob_Ev C 0 [(0, ob_rv C n0), (1, ob_rv C n1)] [] g := by
  unfold f_X7_readOther at h
  refine ob_rload_n F 0 dX7_readOther_0 rfl ?_
  refine ob_iconst F (v := 4) dX7_readOther_1 (by decide) ?_
  refine ob_cVi F dX7_readOther_2 im_X7_isNext tw3_59 h (fun b hb => t_X7_isNext hb) rfl rfl (Nat.le_of_ble_eq_true rfl) (by decide) fun v1 h => ?_
  refine ob_if_ne F 14 dX7_readOther_5 (by decide) h (fun h => ?_) (fun h => ?_)
  · refine ob_rload_n F 1 dX7_readOther_14 rfl ?_
    refine ob_rload_n F 0 dX7_readOther_15 rfl ?_
    refine ob_cVi F dX7_readOther_16 im_X7_namedOption tw3_115 h (fun b hb => t_X7_namedOption hb) rfl rfl (Nat.le_of_ble_eq_true rfl) (by decide) fun v2 h => ?_
    refine ob_putI F dX7_readOther_19 fp_X7_164 h fun g3 h => ?_
    refine ob_rload_n F 1 dX7_readOther_22 rfl ?_
    refine ob_getI F dX7_readOther_23 fl_X7_164 h fun v4 h => ?_
    refine ob_iconst F (v := (-1)) dX7_readOther_26 (by decide) ?_
    refine ob_icmp_ne F 36 dX7_readOther_27 (by decide) h (fun h => ?_) (fun h => ?_)
    · refine ob_rload_n F 0 dX7_readOther_36 rfl ?_
      refine ob_cVvS F dX7_readOther_37 im_X7_pass tw3_75 h (fun b hb => t_X7_pass hb) rfl rfl (Nat.le_of_ble_eq_true rfl) (by decide) fun g5 h => ?_
      refine ob_iconst F (v := 1) dX7_readOther_40 (by decide) ?_
      obtain rfl := Option.some.inj h
      exact ob_zret F dX7_readOther_41 (Or.inr rfl) k
    · refine ob_rload_n F 0 dX7_readOther_30 rfl ?_
      refine ob_iconst F (v := 3) dX7_readOther_31 (by decide) ?_
      refine ob_cViS F dX7_readOther_32 im_X7_fails tw3_83 h (fun b hb => t_X7_fails hb) rfl rfl (Nat.le_of_ble_eq_true rfl) (by decide) fun v6 h => ?_
      refine ob_zrow h fun hz h => ?_
      obtain rfl := Option.some.inj h
      exact ob_zret F dX7_readOther_35 hz k
  · refine ob_rload_n F 0 dX7_readOther_8 rfl ?_
    refine ob_iconst F (v := 1) dX7_readOther_9 (by decide) ?_
    refine ob_cViS F dX7_readOther_10 im_X7_fails tw3_83 h (fun b hb => t_X7_fails hb) rfl rfl (Nat.le_of_ble_eq_true rfl) (by decide) fun v8 h => ?_
    refine ob_zrow h fun hz h => ?_
    obtain rfl := Option.some.inj h
    exact ob_zret F dX7_readOther_13 hz k
theorem t_X7_readOther {cf : ob_Cf} {g : ob_St} {n0 : Nat} {n1 : Nat} {r : (Int32 × ob_St)} (h : f_X7_readOther g n0 n1 = some r) : ob_Mt cf yX7_readOther cX7_readOther 2 (some .boolean) 2 43 [ob_rw cf n0, ob_rw cf n1] g (some (.int r.1)) r.2 := by
  refine ob_enter (by decide) (Nat.le_of_ble_eq_true rfl) (Or.inr rfl) ?_
  intro C hC F k
  subst hC
  exact b_X7_readOther_0 F h k
-- X7_readKind
def B_X7_readKind_27 (g : ob_St) (n0 : Nat) : Option (Int32 × ob_St) :=
  (ob_ck 7 n0 (f_X7_fails g n0 1)).bind fun v2 => (ob_zr v2.1).bind fun z3 => some (z3, v2.2)
theorem b_X7_readKind_27 {C : ob_Cx} (F : ob_Fx C cX7_readKind 3 RX7 (some .boolean) 3 65) {g : ob_St} {n0 : Nat} {r : (Int32 × ob_St)} (h : B_X7_readKind_27 g n0 = some r) (k : ob_Rt C (some (.int r.1)) r.2) : ob_Ev C 27 [(0, ob_rv C n0)] [] g := by
  unfold B_X7_readKind_27 at h
  refine ob_rload_n F 0 dX7_readKind_27 rfl ?_
  refine ob_iconst F (v := 1) dX7_readKind_28 (by decide) ?_
  refine ob_cViS F dX7_readKind_29 im_X7_fails tw3_83 h (fun b hb => t_X7_fails hb) rfl rfl (Nat.le_of_ble_eq_true rfl) (by decide) fun v2 h => ?_
  refine ob_zrow h fun hz h => ?_
  obtain rfl := Option.some.inj h
  exact ob_zret F dX7_readKind_32 hz k
def B_X7_readKind_142 (g : ob_St) (n0 : Nat) (n1 : Nat) (s0 : Int32) : Option (Int32 × ob_St) :=
  (ob_gI g 7 n0 6).bind fun v22 => (ob_pI g 1 n1 2 v22).bind fun g23 => (ob_zr s0).bind fun z24 => some (z24, g23)
theorem b_X7_readKind_142 {C : ob_Cx} (F : ob_Fx C cX7_readKind 3 RX7 (some .boolean) 3 65) {g : ob_St} {n0 : Nat} {n1 : Nat} {s0 : Int32} {r : (Int32 × ob_St)} (h : B_X7_readKind_142 g n0 n1 s0 = some r) (k : ob_Rt C (some (.int r.1)) r.2) : ob_Ev C 142 [(0, ob_rv C n0), (1, ob_rv C n1)] [.int s0] g := by
  unfold B_X7_readKind_142 at h
  refine ob_istore_n F (ls2 := [(2, .int s0), (0, ob_rv C n0), (1, ob_rv C n1)]) dX7_readKind_142 (by decide) rfl ?_
  refine ob_rload_n F 2 dX7_readKind_143 rfl ?_
  refine ob_rload_n F 1 dX7_readKind_144 rfl ?_
  refine ob_getI F dX7_readKind_145 fl_X7_32 h fun v22 h => ?_
  refine ob_putI F dX7_readKind_148 fp_X7_164 h fun g23 h => ?_
  refine ob_iload_n F 0 dX7_readKind_151 rfl ?_
  refine ob_zrow h fun hz h => ?_
  obtain rfl := Option.some.inj h
  exact ob_zret F dX7_readKind_152 hz k
def B_X7_readKind_111 (g : ob_St) (n0 : Nat) (n1 : Nat) : Option (Int32 × ob_St) :=
  (ob_gI g 1 n1 0).bind fun v19 => (if v19 = 2 then ((ob_ck 7 n0 (f_X7_readNumber g n0 1 99)).bind fun v25 => B_X7_readKind_142 v25.2 n0 n1 v25.1) else ((ob_gI g 1 n1 1).bind fun v20 => (ob_ck 7 n0 (f_X7_readNumber g n0 (v20 + 1) 999)).bind fun v21 => B_X7_readKind_142 v21.2 n0 n1 v21.1))
theorem b_X7_readKind_111 {C : ob_Cx} (F : ob_Fx C cX7_readKind 3 RX7 (some .boolean) 3 65) {g : ob_St} {n0 : Nat} {n1 : Nat} {r : (Int32 × ob_St)} (h : B_X7_readKind_111 g n0 n1 = some r) (k : ob_Rt C (some (.int r.1)) r.2) : ob_Ev C 111 [(0, ob_rv C n0), (1, ob_rv C n1)] [] g := by
  unfold B_X7_readKind_111 at h
  refine ob_rload_n F 1 dX7_readKind_111 rfl ?_
  refine ob_getI F dX7_readKind_112 fl_X7_155 h fun v19 h => ?_
  refine ob_iconst F (v := 2) dX7_readKind_115 (by decide) ?_
  refine ob_icmp_ne F 129 dX7_readKind_116 (by decide) h (fun h => ?_) (fun h => ?_)
  · refine ob_rload_n F 0 dX7_readKind_129 rfl ?_
    refine ob_rload_n F 1 dX7_readKind_130 rfl ?_
    refine ob_getI F dX7_readKind_131 fl_X7_161 h fun v20 h => ?_
    refine ob_iconst F (v := 1) dX7_readKind_134 (by decide) ?_
    refine ob_iadd F dX7_readKind_135 ?_
    refine ob_sipush F (v := 999) dX7_readKind_136 (by decide) ?_
    refine ob_cViS F dX7_readKind_139 im_X7_readNumber tw3_79 h (fun b hb => t_X7_readNumber hb) rfl rfl (Nat.le_of_ble_eq_true rfl) (by decide) fun v21 h => ?_
    exact b_X7_readKind_142 F h k
  · refine ob_rload_n F 0 dX7_readKind_119 rfl ?_
    refine ob_iconst F (v := 1) dX7_readKind_120 (by decide) ?_
    refine ob_bipush F (v := 99) dX7_readKind_121 (by decide) ?_
    refine ob_cViS F dX7_readKind_123 im_X7_readNumber tw3_79 h (fun b hb => t_X7_readNumber hb) rfl rfl (Nat.le_of_ble_eq_true rfl) (by decide) fun v25 h => ?_
    refine ob_goto F 142 dX7_readKind_126 (by decide) ?_
    exact b_X7_readKind_142 F h k
def B_X7_readKind_72 (g : ob_St) (n0 : Nat) (n1 : Nat) : Option (Int32 × ob_St) :=
  (ob_ck 7 n0 (f_X7_readNumber g n0 0 999)).bind fun v15 => (if v15.1 = 0 then (some (0, v15.2)) else ((ob_gI v15.2 7 n0 6).bind fun v16 => (ob_pI v15.2 1 n1 1 v16).bind fun g17 => (ob_gI g17 1 n1 0).bind fun v18 => (if v18 = 2 then (B_X7_readKind_111 g17 n0 n1) else ((ob_gI g17 1 n1 0).bind fun v26 => (if v26 = 3 then (B_X7_readKind_111 g17 n0 n1) else (some (1, g17)))))))
theorem b_X7_readKind_72 {C : ob_Cx} (F : ob_Fx C cX7_readKind 3 RX7 (some .boolean) 3 65) {g : ob_St} {n0 : Nat} {n1 : Nat} {r : (Int32 × ob_St)} (h : B_X7_readKind_72 g n0 n1 = some r) (k : ob_Rt C (some (.int r.1)) r.2) : ob_Ev C 72 [(0, ob_rv C n0), (1, ob_rv C n1)] [] g := by
  unfold B_X7_readKind_72 at h
  refine ob_rload_n F 0 dX7_readKind_72 rfl ?_
  refine ob_iconst F (v := 0) dX7_readKind_73 (by decide) ?_
  refine ob_sipush F (v := 999) dX7_readKind_74 (by decide) ?_
  refine ob_cViS F dX7_readKind_77 im_X7_readNumber tw3_79 h (fun b hb => t_X7_readNumber hb) rfl rfl (Nat.le_of_ble_eq_true rfl) (by decide) fun v15 h => ?_
  refine ob_if_ne F 85 dX7_readKind_80 (by decide) h (fun h => ?_) (fun h => ?_)
  · refine ob_rload_n F 1 dX7_readKind_85 rfl ?_
    refine ob_rload_n F 0 dX7_readKind_86 rfl ?_
    refine ob_getI F dX7_readKind_87 fl_X7_32 h fun v16 h => ?_
    refine ob_putI F dX7_readKind_90 fp_X7_161 h fun g17 h => ?_
    refine ob_rload_n F 1 dX7_readKind_93 rfl ?_
    refine ob_getI F dX7_readKind_94 fl_X7_155 h fun v18 h => ?_
    refine ob_iconst F (v := 2) dX7_readKind_97 (by decide) ?_
    refine ob_icmp_eq F 111 dX7_readKind_98 (by decide) h (fun h => ?_) (fun h => ?_)
    · exact b_X7_readKind_111 F h k
    · refine ob_rload_n F 1 dX7_readKind_101 rfl ?_
      refine ob_getI F dX7_readKind_102 fl_X7_155 h fun v26 h => ?_
      refine ob_iconst F (v := 3) dX7_readKind_105 (by decide) ?_
      refine ob_icmp_eq F 111 dX7_readKind_106 (by decide) h (fun h => ?_) (fun h => ?_)
      · exact b_X7_readKind_111 F h k
      · refine ob_iconst F (v := 1) dX7_readKind_109 (by decide) ?_
        obtain rfl := Option.some.inj h
        exact ob_zret F dX7_readKind_110 (Or.inr rfl) k
  · refine ob_iconst F (v := 0) dX7_readKind_83 (by decide) ?_
    obtain rfl := Option.some.inj h
    exact ob_zret F dX7_readKind_84 (Or.inl rfl) k
def f_X7_readKind (g : ob_St) (n0 : Nat) (n1 : Nat) : Option (Int32 × ob_St) :=
  (ob_ck 7 n0 (f_X7_isNext g n0 5)).bind fun v1 => (if v1 = 0 then (B_X7_readKind_27 g n0) else ((ob_gR 7 n0 3).bind fun v4 => (ob_gR 10 v4 2).bind fun v5 => (ob_gI g 7 n0 5).bind fun v6 => (ob_rL g v5 v6).bind fun v7 => (if v7 ≤ 5 then ((ob_gR 7 n0 3).bind fun v8 => (ob_gR 10 v8 2).bind fun v9 => (ob_gI g 7 n0 5).bind fun v10 => (ob_rL g v9 v10).bind fun v11 => (ob_pI g 1 n1 0 (Int64.toInt32 v11)).bind fun g12 => (ob_ck 7 n0 (f_X7_pass g12 n0)).bind fun g13 => (ob_gI g13 1 n1 0).bind fun v14 => (if v14 = 5 then ((ob_ck 7 n0 (f_X7_readOther g13 n0 n1)).bind fun v27 => (if v27.1 = 0 then (some (0, v27.2)) else (B_X7_readKind_72 v27.2 n0 n1))) else (B_X7_readKind_72 g13 n0 n1))) else (B_X7_readKind_27 g n0))))
theorem b_X7_readKind_0 {C : ob_Cx} (F : ob_Fx C cX7_readKind 3 RX7 (some .boolean) 3 65) {g : ob_St} {n0 : Nat} {n1 : Nat} {r : (Int32 × ob_St)} (h : f_X7_readKind g n0 n1 = some r) (k : ob_Rt C (some (.int r.1)) r.2) : ob_Ev C 0 [(0, ob_rv C n0), (1, ob_rv C n1)] [] g := by
  unfold f_X7_readKind at h
  refine ob_rload_n F 0 dX7_readKind_0 rfl ?_
  refine ob_iconst F (v := 5) dX7_readKind_1 (by decide) ?_
  refine ob_cVi F dX7_readKind_2 im_X7_isNext tw3_59 h (fun b hb => t_X7_isNext hb) rfl rfl (Nat.le_of_ble_eq_true rfl) (by decide) fun v1 h => ?_
  refine ob_if_eq F 27 dX7_readKind_5 (by decide) h (fun h => ?_) (fun h => ?_)
  · exact ob_sub [0] rfl (b_X7_readKind_27 F h k)
  · refine ob_rload_n F 0 dX7_readKind_8 rfl ?_
    refine ob_getR F dX7_readKind_9 fl_X7_43 h fun v4 h => ?_
    refine ob_getR F dX7_readKind_12 fl_X7_79 h fun v5 h => ?_
    refine ob_rload_n F 0 dX7_readKind_15 rfl ?_
    refine ob_getI F dX7_readKind_16 fl_X7_29 h fun v6 h => ?_
    refine ob_lald F dX7_readKind_19 h fun v7 h => ?_
    refine ob_ldc2 F (v := 5) dX7_readKind_20 tw3_123 ?_
    refine ob_lcmp_le F 33 dX7_readKind_23 dX7_readKind_24 (by decide) h (fun h => ?_) (fun h => ?_)
    · refine ob_rload_n F 1 dX7_readKind_33 rfl ?_
      refine ob_rload_n F 0 dX7_readKind_34 rfl ?_
      refine ob_getR F dX7_readKind_35 fl_X7_43 h fun v8 h => ?_
      refine ob_getR F dX7_readKind_38 fl_X7_79 h fun v9 h => ?_
      refine ob_rload_n F 0 dX7_readKind_41 rfl ?_
      refine ob_getI F dX7_readKind_42 fl_X7_29 h fun v10 h => ?_
      refine ob_lald F dX7_readKind_45 h fun v11 h => ?_
      refine ob_l2i F dX7_readKind_46 ?_
      refine ob_putI F dX7_readKind_47 fp_X7_155 h fun g12 h => ?_
      refine ob_rload_n F 0 dX7_readKind_50 rfl ?_
      refine ob_cVvS F dX7_readKind_51 im_X7_pass tw3_75 h (fun b hb => t_X7_pass hb) rfl rfl (Nat.le_of_ble_eq_true rfl) (by decide) fun g13 h => ?_
      refine ob_rload_n F 1 dX7_readKind_54 rfl ?_
      refine ob_getI F dX7_readKind_55 fl_X7_155 h fun v14 h => ?_
      refine ob_iconst F (v := 5) dX7_readKind_58 (by decide) ?_
      refine ob_icmp_ne F 72 dX7_readKind_59 (by decide) h (fun h => ?_) (fun h => ?_)
      · exact b_X7_readKind_72 F h k
      · refine ob_rload_n F 0 dX7_readKind_62 rfl ?_
        refine ob_rload_n F 1 dX7_readKind_63 rfl ?_
        refine ob_cViS F dX7_readKind_64 im_X7_readOther tw3_124 h (fun b hb => t_X7_readOther hb) rfl rfl (Nat.le_of_ble_eq_true rfl) (by decide) fun v27 h => ?_
        refine ob_if_ne F 72 dX7_readKind_67 (by decide) h (fun h => ?_) (fun h => ?_)
        · exact b_X7_readKind_72 F h k
        · refine ob_iconst F (v := 0) dX7_readKind_70 (by decide) ?_
          obtain rfl := Option.some.inj h
          exact ob_zret F dX7_readKind_71 (Or.inl rfl) k
    · exact ob_sub [0] rfl (b_X7_readKind_27 F h k)
theorem t_X7_readKind {cf : ob_Cf} {g : ob_St} {n0 : Nat} {n1 : Nat} {r : (Int32 × ob_St)} (h : f_X7_readKind g n0 n1 = some r) : ob_Mt cf yX7_readKind cX7_readKind 3 (some .boolean) 3 65 [ob_rw cf n0, ob_rw cf n1] g (some (.int r.1)) r.2 := by
  refine ob_enter (by decide) (Nat.le_of_ble_eq_true rfl) (Or.inr rfl) ?_
  intro C hC F k
  subst hC
  exact b_X7_readKind_0 F h k
-- X7_readWhen
def f_X7_readWhen (g : ob_St) (n0 : Nat) (n1 : Nat) : Option (Int32 × ob_St) :=
  (ob_ck 7 n0 (f_X7_isKeyword g n0 11)).bind fun v1 => (if v1 = 0 then ((ob_ck 7 n0 (f_X7_isKeyword g n0 12)).bind fun v2 => (if v2 = 0 then ((ob_ck 7 n0 (f_X7_isKeyword g n0 13)).bind fun v3 => (if v3 = 0 then (some (1, g)) else ((ob_ck 7 n0 (f_X7_pass g n0)).bind fun g4 => (ob_ck 7 n0 (f_X7_readNumber g4 n0 0 12)).bind fun v5 => (if v5.1 = 0 then (some (0, v5.2)) else ((ob_gI v5.2 7 n0 6).bind fun v6 => (ob_pI v5.2 1 n1 3 v6).bind fun g7 => some (1, g7)))))) else ((ob_pI g 1 n1 3 0).bind fun g8 => (ob_ck 7 n0 (f_X7_pass g8 n0)).bind fun g9 => some (1, g9)))) else ((ob_ck 7 n0 (f_X7_pass g n0)).bind fun g10 => some (1, g10)))
theorem b_X7_readWhen_0 {C : ob_Cx} (F : ob_Fx C cX7_readWhen 2 RX7 (some .boolean) 3 65) {g : ob_St} {n0 : Nat} {n1 : Nat} {r : (Int32 × ob_St)} (h : f_X7_readWhen g n0 n1 = some r) (k : ob_Rt C (some (.int r.1)) r.2) : ob_Ev C 0 [(0, ob_rv C n0), (1, ob_rv C n1)] [] g := by
  unfold f_X7_readWhen at h
  refine ob_rload_n F 0 dX7_readWhen_0 rfl ?_
  refine ob_bipush F (v := 11) dX7_readWhen_1 (by decide) ?_
  refine ob_cVi F dX7_readWhen_3 im_X7_isKeyword tw3_67 h (fun b hb => t_X7_isKeyword hb) rfl rfl (Nat.le_of_ble_eq_true rfl) (by decide) fun v1 h => ?_
  refine ob_if_eq F 16 dX7_readWhen_6 (by decide) h (fun h => ?_) (fun h => ?_)
  · refine ob_rload_n F 0 dX7_readWhen_16 rfl ?_
    refine ob_bipush F (v := 12) dX7_readWhen_17 (by decide) ?_
    refine ob_cVi F dX7_readWhen_19 im_X7_isKeyword tw3_67 h (fun b hb => t_X7_isKeyword hb) rfl rfl (Nat.le_of_ble_eq_true rfl) (by decide) fun v2 h => ?_
    refine ob_if_eq F 37 dX7_readWhen_22 (by decide) h (fun h => ?_) (fun h => ?_)
    · refine ob_rload_n F 0 dX7_readWhen_37 rfl ?_
      refine ob_bipush F (v := 13) dX7_readWhen_38 (by decide) ?_
      refine ob_cVi F dX7_readWhen_40 im_X7_isKeyword tw3_67 h (fun b hb => t_X7_isKeyword hb) rfl rfl (Nat.le_of_ble_eq_true rfl) (by decide) fun v3 h => ?_
      refine ob_if_eq F 70 dX7_readWhen_43 (by decide) h (fun h => ?_) (fun h => ?_)
      · refine ob_iconst F (v := 1) dX7_readWhen_70 (by decide) ?_
        obtain rfl := Option.some.inj h
        exact ob_zret F dX7_readWhen_71 (Or.inr rfl) k
      · refine ob_rload_n F 0 dX7_readWhen_46 rfl ?_
        refine ob_cVvS F dX7_readWhen_47 im_X7_pass tw3_75 h (fun b hb => t_X7_pass hb) rfl rfl (Nat.le_of_ble_eq_true rfl) (by decide) fun g4 h => ?_
        refine ob_rload_n F 0 dX7_readWhen_50 rfl ?_
        refine ob_iconst F (v := 0) dX7_readWhen_51 (by decide) ?_
        refine ob_bipush F (v := 12) dX7_readWhen_52 (by decide) ?_
        refine ob_cViS F dX7_readWhen_54 im_X7_readNumber tw3_79 h (fun b hb => t_X7_readNumber hb) rfl rfl (Nat.le_of_ble_eq_true rfl) (by decide) fun v5 h => ?_
        refine ob_if_ne F 62 dX7_readWhen_57 (by decide) h (fun h => ?_) (fun h => ?_)
        · refine ob_rload_n F 1 dX7_readWhen_62 rfl ?_
          refine ob_rload_n F 0 dX7_readWhen_63 rfl ?_
          refine ob_getI F dX7_readWhen_64 fl_X7_32 h fun v6 h => ?_
          refine ob_putI F dX7_readWhen_67 fp_X7_167 h fun g7 h => ?_
          refine ob_iconst F (v := 1) dX7_readWhen_70 (by decide) ?_
          obtain rfl := Option.some.inj h
          exact ob_zret F dX7_readWhen_71 (Or.inr rfl) k
        · refine ob_iconst F (v := 0) dX7_readWhen_60 (by decide) ?_
          obtain rfl := Option.some.inj h
          exact ob_zret F dX7_readWhen_61 (Or.inl rfl) k
    · refine ob_rload_n F 1 dX7_readWhen_25 rfl ?_
      refine ob_iconst F (v := 0) dX7_readWhen_26 (by decide) ?_
      refine ob_putI F dX7_readWhen_27 fp_X7_167 h fun g8 h => ?_
      refine ob_rload_n F 0 dX7_readWhen_30 rfl ?_
      refine ob_cVvS F dX7_readWhen_31 im_X7_pass tw3_75 h (fun b hb => t_X7_pass hb) rfl rfl (Nat.le_of_ble_eq_true rfl) (by decide) fun g9 h => ?_
      refine ob_goto F 70 dX7_readWhen_34 (by decide) ?_
      refine ob_iconst F (v := 1) dX7_readWhen_70 (by decide) ?_
      obtain rfl := Option.some.inj h
      exact ob_zret F dX7_readWhen_71 (Or.inr rfl) k
  · refine ob_rload_n F 0 dX7_readWhen_9 rfl ?_
    refine ob_cVvS F dX7_readWhen_10 im_X7_pass tw3_75 h (fun b hb => t_X7_pass hb) rfl rfl (Nat.le_of_ble_eq_true rfl) (by decide) fun g10 h => ?_
    refine ob_goto F 70 dX7_readWhen_13 (by decide) ?_
    refine ob_iconst F (v := 1) dX7_readWhen_70 (by decide) ?_
    obtain rfl := Option.some.inj h
    exact ob_zret F dX7_readWhen_71 (Or.inr rfl) k
theorem t_X7_readWhen {cf : ob_Cf} {g : ob_St} {n0 : Nat} {n1 : Nat} {r : (Int32 × ob_St)} (h : f_X7_readWhen g n0 n1 = some r) : ob_Mt cf yX7_readWhen cX7_readWhen 2 (some .boolean) 3 65 [ob_rw cf n0, ob_rw cf n1] g (some (.int r.1)) r.2 := by
  refine ob_enter (by decide) (Nat.le_of_ble_eq_true rfl) (Or.inr rfl) ?_
  intro C hC F k
  subst hC
  exact b_X7_readWhen_0 F h k
-- X7_readBarrier
def B_X7_readBarrier_78 (g : ob_St) (n0 : Nat) (n1 : Nat) (s0 : Nat) (s1 : Int32) : Option (Int32 × ob_St) :=
  (ob_pI g 1 s0 5 s1).bind fun g6 => (ob_ck 7 n0 (f_X7_pass g6 n0)).bind fun g7 => (ob_ck 7 n0 (f_X7_readNumber g7 n0 0 999)).bind fun v8 => (if v8.1 = 0 then (some (0, v8.2)) else ((ob_gI v8.2 7 n0 6).bind fun v9 => (ob_pI v8.2 1 n1 6 v9).bind fun g10 => some (1, g10)))
theorem b_X7_readBarrier_78 {C : ob_Cx} (F : ob_Fx C cX7_readBarrier 3 RX7 (some .boolean) 3 65) {g : ob_St} {n0 : Nat} {n1 : Nat} {s0 : Nat} {s1 : Int32} {r : (Int32 × ob_St)} (h : B_X7_readBarrier_78 g n0 n1 s0 s1 = some r) (k : ob_Rt C (some (.int r.1)) r.2) : ob_Ev C 78 [(0, ob_rv C n0), (1, ob_rv C n1)] [.int s1, ob_rv C s0] g := by
  unfold B_X7_readBarrier_78 at h
  refine ob_putI F dX7_readBarrier_78 fp_X7_173 h fun g6 h => ?_
  refine ob_rload_n F 0 dX7_readBarrier_81 rfl ?_
  refine ob_cVvS F dX7_readBarrier_82 im_X7_pass tw3_75 h (fun b hb => t_X7_pass hb) rfl rfl (Nat.le_of_ble_eq_true rfl) (by decide) fun g7 h => ?_
  refine ob_rload_n F 0 dX7_readBarrier_85 rfl ?_
  refine ob_iconst F (v := 0) dX7_readBarrier_86 (by decide) ?_
  refine ob_sipush F (v := 999) dX7_readBarrier_87 (by decide) ?_
  refine ob_cViS F dX7_readBarrier_90 im_X7_readNumber tw3_79 h (fun b hb => t_X7_readNumber hb) rfl rfl (Nat.le_of_ble_eq_true rfl) (by decide) fun v8 h => ?_
  refine ob_if_ne F 98 dX7_readBarrier_93 (by decide) h (fun h => ?_) (fun h => ?_)
  · refine ob_rload_n F 1 dX7_readBarrier_98 rfl ?_
    refine ob_rload_n F 0 dX7_readBarrier_99 rfl ?_
    refine ob_getI F dX7_readBarrier_100 fl_X7_32 h fun v9 h => ?_
    refine ob_putI F dX7_readBarrier_103 fp_X7_176 h fun g10 h => ?_
    refine ob_iconst F (v := 1) dX7_readBarrier_106 (by decide) ?_
    obtain rfl := Option.some.inj h
    exact ob_zret F dX7_readBarrier_107 (Or.inr rfl) k
  · refine ob_iconst F (v := 0) dX7_readBarrier_96 (by decide) ?_
    obtain rfl := Option.some.inj h
    exact ob_zret F dX7_readBarrier_97 (Or.inl rfl) k
def B_X7_readBarrier_63 (g : ob_St) (n0 : Nat) (n1 : Nat) : Option (Int32 × ob_St) :=
  (ob_ck 7 n0 (f_X7_isKeyword g n0 16)).bind fun v5 => (if v5 = 0 then (B_X7_readBarrier_78 g n0 n1 n1 0) else (B_X7_readBarrier_78 g n0 n1 n1 1))
theorem b_X7_readBarrier_63 {C : ob_Cx} (F : ob_Fx C cX7_readBarrier 3 RX7 (some .boolean) 3 65) {g : ob_St} {n0 : Nat} {n1 : Nat} {r : (Int32 × ob_St)} (h : B_X7_readBarrier_63 g n0 n1 = some r) (k : ob_Rt C (some (.int r.1)) r.2) : ob_Ev C 63 [(0, ob_rv C n0), (1, ob_rv C n1)] [] g := by
  unfold B_X7_readBarrier_63 at h
  refine ob_rload_n F 1 dX7_readBarrier_63 rfl ?_
  refine ob_rload_n F 0 dX7_readBarrier_64 rfl ?_
  refine ob_bipush F (v := 16) dX7_readBarrier_65 (by decide) ?_
  refine ob_cVi F dX7_readBarrier_67 im_X7_isKeyword tw3_67 h (fun b hb => t_X7_isKeyword hb) rfl rfl (Nat.le_of_ble_eq_true rfl) (by decide) fun v5 h => ?_
  refine ob_if_eq F 77 dX7_readBarrier_70 (by decide) h (fun h => ?_) (fun h => ?_)
  · refine ob_iconst F (v := 0) dX7_readBarrier_77 (by decide) ?_
    exact b_X7_readBarrier_78 F h k
  · refine ob_iconst F (v := 1) dX7_readBarrier_73 (by decide) ?_
    refine ob_goto F 78 dX7_readBarrier_74 (by decide) ?_
    exact b_X7_readBarrier_78 F h k
def B_X7_readBarrier_32 (g : ob_St) (n0 : Nat) (n1 : Nat) (s0 : Nat) (s1 : Int32) : Option (Int32 × ob_St) :=
  (ob_pI g 1 s0 4 s1).bind fun g2 => (ob_ck 7 n0 (f_X7_pass g2 n0)).bind fun g3 => (ob_ck 7 n0 (f_X7_isKeyword g3 n0 16)).bind fun v4 => (if v4 = 0 then ((ob_ck 7 n0 (f_X7_isKeyword g3 n0 17)).bind fun v11 => (if v11 = 0 then ((ob_ck 7 n0 (f_X7_fails g3 n0 1)).bind fun v12 => (ob_zr v12.1).bind fun z13 => some (z13, v12.2)) else (B_X7_readBarrier_63 g3 n0 n1))) else (B_X7_readBarrier_63 g3 n0 n1))
theorem b_X7_readBarrier_32 {C : ob_Cx} (F : ob_Fx C cX7_readBarrier 3 RX7 (some .boolean) 3 65) {g : ob_St} {n0 : Nat} {n1 : Nat} {s0 : Nat} {s1 : Int32} {r : (Int32 × ob_St)} (h : B_X7_readBarrier_32 g n0 n1 s0 s1 = some r) (k : ob_Rt C (some (.int r.1)) r.2) : ob_Ev C 32 [(0, ob_rv C n0), (1, ob_rv C n1)] [.int s1, ob_rv C s0] g := by
  unfold B_X7_readBarrier_32 at h
  refine ob_putI F dX7_readBarrier_32 fp_X7_170 h fun g2 h => ?_
  refine ob_rload_n F 0 dX7_readBarrier_35 rfl ?_
  refine ob_cVvS F dX7_readBarrier_36 im_X7_pass tw3_75 h (fun b hb => t_X7_pass hb) rfl rfl (Nat.le_of_ble_eq_true rfl) (by decide) fun g3 h => ?_
  refine ob_rload_n F 0 dX7_readBarrier_39 rfl ?_
  refine ob_bipush F (v := 16) dX7_readBarrier_40 (by decide) ?_
  refine ob_cVi F dX7_readBarrier_42 im_X7_isKeyword tw3_67 h (fun b hb => t_X7_isKeyword hb) rfl rfl (Nat.le_of_ble_eq_true rfl) (by decide) fun v4 h => ?_
  refine ob_if_ne F 63 dX7_readBarrier_45 (by decide) h (fun h => ?_) (fun h => ?_)
  · exact b_X7_readBarrier_63 F h k
  · refine ob_rload_n F 0 dX7_readBarrier_48 rfl ?_
    refine ob_bipush F (v := 17) dX7_readBarrier_49 (by decide) ?_
    refine ob_cVi F dX7_readBarrier_51 im_X7_isKeyword tw3_67 h (fun b hb => t_X7_isKeyword hb) rfl rfl (Nat.le_of_ble_eq_true rfl) (by decide) fun v11 h => ?_
    refine ob_if_ne F 63 dX7_readBarrier_54 (by decide) h (fun h => ?_) (fun h => ?_)
    · exact b_X7_readBarrier_63 F h k
    · refine ob_rload_n F 0 dX7_readBarrier_57 rfl ?_
      refine ob_iconst F (v := 1) dX7_readBarrier_58 (by decide) ?_
      refine ob_cViS F dX7_readBarrier_59 im_X7_fails tw3_83 h (fun b hb => t_X7_fails hb) rfl rfl (Nat.le_of_ble_eq_true rfl) (by decide) fun v12 h => ?_
      refine ob_zrow h fun hz h => ?_
      obtain rfl := Option.some.inj h
      exact ob_zret F dX7_readBarrier_62 hz k
def B_X7_readBarrier_22 (g : ob_St) (n0 : Nat) (n1 : Nat) (x2 : Int32) : Option (Int32 × ob_St) :=
  (if x2 = 0 then (B_X7_readBarrier_32 g n0 n1 n1 2) else (B_X7_readBarrier_32 g n0 n1 n1 1))
theorem b_X7_readBarrier_22 {C : ob_Cx} (F : ob_Fx C cX7_readBarrier 3 RX7 (some .boolean) 3 65) {g : ob_St} {n0 : Nat} {n1 : Nat} {x2 : Int32} {r : (Int32 × ob_St)} (h : B_X7_readBarrier_22 g n0 n1 x2 = some r) (k : ob_Rt C (some (.int r.1)) r.2) : ob_Ev C 22 [(0, ob_rv C n0), (1, ob_rv C n1), (2, .int x2)] [] g := by
  unfold B_X7_readBarrier_22 at h
  refine ob_rload_n F 1 dX7_readBarrier_22 rfl ?_
  refine ob_iload_n F 2 dX7_readBarrier_23 rfl ?_
  refine ob_if_eq F 31 dX7_readBarrier_24 (by decide) h (fun h => ?_) (fun h => ?_)
  · refine ob_iconst F (v := 2) dX7_readBarrier_31 (by decide) ?_
    exact ob_sub [0, 1] rfl (b_X7_readBarrier_32 F h k)
  · refine ob_iconst F (v := 1) dX7_readBarrier_27 (by decide) ?_
    refine ob_goto F 32 dX7_readBarrier_28 (by decide) ?_
    exact ob_sub [0, 1] rfl (b_X7_readBarrier_32 F h k)
def f_X7_readBarrier (g : ob_St) (n0 : Nat) (n1 : Nat) : Option (Int32 × ob_St) :=
  (ob_ck 7 n0 (f_X7_isKeyword g n0 14)).bind fun v1 => (if v1 = 0 then ((ob_ck 7 n0 (f_X7_isKeyword g n0 15)).bind fun v14 => (if v14 = 0 then (some (1, g)) else (B_X7_readBarrier_22 g n0 n1 v1))) else (B_X7_readBarrier_22 g n0 n1 v1))
theorem b_X7_readBarrier_0 {C : ob_Cx} (F : ob_Fx C cX7_readBarrier 3 RX7 (some .boolean) 3 65) {g : ob_St} {n0 : Nat} {n1 : Nat} {r : (Int32 × ob_St)} (h : f_X7_readBarrier g n0 n1 = some r) (k : ob_Rt C (some (.int r.1)) r.2) : ob_Ev C 0 [(0, ob_rv C n0), (1, ob_rv C n1)] [] g := by
  unfold f_X7_readBarrier at h
  refine ob_rload_n F 0 dX7_readBarrier_0 rfl ?_
  refine ob_bipush F (v := 14) dX7_readBarrier_1 (by decide) ?_
  refine ob_cVi F dX7_readBarrier_3 im_X7_isKeyword tw3_67 h (fun b hb => t_X7_isKeyword hb) rfl rfl (Nat.le_of_ble_eq_true rfl) (by decide) fun v1 h => ?_
  refine ob_istore_n F (ls2 := [(2, .int v1), (0, ob_rv C n0), (1, ob_rv C n1)]) dX7_readBarrier_6 (by decide) rfl ?_
  refine ob_iload_n F 0 dX7_readBarrier_7 rfl ?_
  refine ob_if_ne F 22 dX7_readBarrier_8 (by decide) h (fun h => ?_) (fun h => ?_)
  · exact ob_sub [1, 2, 0] rfl (b_X7_readBarrier_22 F h k)
  · refine ob_rload_n F 1 dX7_readBarrier_11 rfl ?_
    refine ob_bipush F (v := 15) dX7_readBarrier_12 (by decide) ?_
    refine ob_cVi F dX7_readBarrier_14 im_X7_isKeyword tw3_67 h (fun b hb => t_X7_isKeyword hb) rfl rfl (Nat.le_of_ble_eq_true rfl) (by decide) fun v14 h => ?_
    refine ob_if_ne F 22 dX7_readBarrier_17 (by decide) h (fun h => ?_) (fun h => ?_)
    · exact ob_sub [1, 2, 0] rfl (b_X7_readBarrier_22 F h k)
    · refine ob_iconst F (v := 1) dX7_readBarrier_20 (by decide) ?_
      obtain rfl := Option.some.inj h
      exact ob_zret F dX7_readBarrier_21 (Or.inr rfl) k
theorem t_X7_readBarrier {cf : ob_Cf} {g : ob_St} {n0 : Nat} {n1 : Nat} {r : (Int32 × ob_St)} (h : f_X7_readBarrier g n0 n1 = some r) : ob_Mt cf yX7_readBarrier cX7_readBarrier 3 (some .boolean) 3 65 [ob_rw cf n0, ob_rw cf n1] g (some (.int r.1)) r.2 := by
  refine ob_enter (by decide) (Nat.le_of_ble_eq_true rfl) (Or.inr rfl) ?_
  intro C hC F k
  subst hC
  exact b_X7_readBarrier_0 F h k
-- X7_readRebate
def f_X7_readRebate (g : ob_St) (n0 : Nat) (n1 : Nat) : Option (Int32 × ob_St) :=
  (ob_gI g 1 n1 4).bind fun v1 => (if v1 = 1 then ((ob_ck 7 n0 (f_X7_isKeyword g n0 18)).bind fun v2 => (if v2 = 0 then (some (1, g)) else ((ob_ck 7 n0 (f_X7_pass g n0)).bind fun g3 => (ob_ck 7 n0 (f_X7_readNumber g3 n0 0 99)).bind fun v4 => (if v4.1 = 0 then (some (0, v4.2)) else ((ob_gI v4.2 7 n0 6).bind fun v5 => (ob_pI v4.2 1 n1 7 v5).bind fun g6 => some (1, g6)))))) else (some (1, g)))
theorem b_X7_readRebate_0 {C : ob_Cx} (F : ob_Fx C cX7_readRebate 2 RX7 (some .boolean) 3 65) {g : ob_St} {n0 : Nat} {n1 : Nat} {r : (Int32 × ob_St)} (h : f_X7_readRebate g n0 n1 = some r) (k : ob_Rt C (some (.int r.1)) r.2) : ob_Ev C 0 [(0, ob_rv C n0), (1, ob_rv C n1)] [] g := by
  unfold f_X7_readRebate at h
  refine ob_rload_n F 1 dX7_readRebate_0 rfl ?_
  refine ob_getI F dX7_readRebate_1 fl_X7_170 h fun v1 h => ?_
  refine ob_iconst F (v := 1) dX7_readRebate_4 (by decide) ?_
  refine ob_icmp_ne F 41 dX7_readRebate_5 (by decide) h (fun h => ?_) (fun h => ?_)
  · refine ob_iconst F (v := 1) dX7_readRebate_41 (by decide) ?_
    obtain rfl := Option.some.inj h
    exact ob_zret F dX7_readRebate_42 (Or.inr rfl) k
  · refine ob_rload_n F 0 dX7_readRebate_8 rfl ?_
    refine ob_bipush F (v := 18) dX7_readRebate_9 (by decide) ?_
    refine ob_cVi F dX7_readRebate_11 im_X7_isKeyword tw3_67 h (fun b hb => t_X7_isKeyword hb) rfl rfl (Nat.le_of_ble_eq_true rfl) (by decide) fun v2 h => ?_
    refine ob_if_eq F 41 dX7_readRebate_14 (by decide) h (fun h => ?_) (fun h => ?_)
    · refine ob_iconst F (v := 1) dX7_readRebate_41 (by decide) ?_
      obtain rfl := Option.some.inj h
      exact ob_zret F dX7_readRebate_42 (Or.inr rfl) k
    · refine ob_rload_n F 0 dX7_readRebate_17 rfl ?_
      refine ob_cVvS F dX7_readRebate_18 im_X7_pass tw3_75 h (fun b hb => t_X7_pass hb) rfl rfl (Nat.le_of_ble_eq_true rfl) (by decide) fun g3 h => ?_
      refine ob_rload_n F 0 dX7_readRebate_21 rfl ?_
      refine ob_iconst F (v := 0) dX7_readRebate_22 (by decide) ?_
      refine ob_bipush F (v := 99) dX7_readRebate_23 (by decide) ?_
      refine ob_cViS F dX7_readRebate_25 im_X7_readNumber tw3_79 h (fun b hb => t_X7_readNumber hb) rfl rfl (Nat.le_of_ble_eq_true rfl) (by decide) fun v4 h => ?_
      refine ob_if_ne F 33 dX7_readRebate_28 (by decide) h (fun h => ?_) (fun h => ?_)
      · refine ob_rload_n F 1 dX7_readRebate_33 rfl ?_
        refine ob_rload_n F 0 dX7_readRebate_34 rfl ?_
        refine ob_getI F dX7_readRebate_35 fl_X7_32 h fun v5 h => ?_
        refine ob_putI F dX7_readRebate_38 fp_X7_179 h fun g6 h => ?_
        refine ob_iconst F (v := 1) dX7_readRebate_41 (by decide) ?_
        obtain rfl := Option.some.inj h
        exact ob_zret F dX7_readRebate_42 (Or.inr rfl) k
      · refine ob_iconst F (v := 0) dX7_readRebate_31 (by decide) ?_
        obtain rfl := Option.some.inj h
        exact ob_zret F dX7_readRebate_32 (Or.inl rfl) k
theorem t_X7_readRebate {cf : ob_Cf} {g : ob_St} {n0 : Nat} {n1 : Nat} {r : (Int32 × ob_St)} (h : f_X7_readRebate g n0 n1 = some r) : ob_Mt cf yX7_readRebate cX7_readRebate 2 (some .boolean) 3 65 [ob_rw cf n0, ob_rw cf n1] g (some (.int r.1)) r.2 := by
  refine ob_enter (by decide) (Nat.le_of_ble_eq_true rfl) (Or.inr rfl) ?_
  intro C hC F k
  subst hC
  exact b_X7_readRebate_0 F h k
-- X7_readRecall
def f_X7_readRecall (g : ob_St) (n0 : Nat) (n1 : Nat) : Option (Int32 × ob_St) :=
  (ob_ck 7 n0 (f_X7_isKeyword g n0 19)).bind fun v1 => (if v1 = 0 then (some (1, g)) else ((ob_ck 7 n0 (f_X7_pass g n0)).bind fun g2 => (ob_ck 7 n0 (f_X7_readNumber g2 n0 1 99)).bind fun v3 => (if v3.1 = 0 then (some (0, v3.2)) else ((ob_gI v3.2 7 n0 6).bind fun v4 => (ob_pI v3.2 1 n1 8 v4).bind fun g5 => some (1, g5)))))
theorem b_X7_readRecall_0 {C : ob_Cx} (F : ob_Fx C cX7_readRecall 2 RX7 (some .boolean) 3 65) {g : ob_St} {n0 : Nat} {n1 : Nat} {r : (Int32 × ob_St)} (h : f_X7_readRecall g n0 n1 = some r) (k : ob_Rt C (some (.int r.1)) r.2) : ob_Ev C 0 [(0, ob_rv C n0), (1, ob_rv C n1)] [] g := by
  unfold f_X7_readRecall at h
  refine ob_rload_n F 0 dX7_readRecall_0 rfl ?_
  refine ob_bipush F (v := 19) dX7_readRecall_1 (by decide) ?_
  refine ob_cVi F dX7_readRecall_3 im_X7_isKeyword tw3_67 h (fun b hb => t_X7_isKeyword hb) rfl rfl (Nat.le_of_ble_eq_true rfl) (by decide) fun v1 h => ?_
  refine ob_if_eq F 33 dX7_readRecall_6 (by decide) h (fun h => ?_) (fun h => ?_)
  · refine ob_iconst F (v := 1) dX7_readRecall_33 (by decide) ?_
    obtain rfl := Option.some.inj h
    exact ob_zret F dX7_readRecall_34 (Or.inr rfl) k
  · refine ob_rload_n F 0 dX7_readRecall_9 rfl ?_
    refine ob_cVvS F dX7_readRecall_10 im_X7_pass tw3_75 h (fun b hb => t_X7_pass hb) rfl rfl (Nat.le_of_ble_eq_true rfl) (by decide) fun g2 h => ?_
    refine ob_rload_n F 0 dX7_readRecall_13 rfl ?_
    refine ob_iconst F (v := 1) dX7_readRecall_14 (by decide) ?_
    refine ob_bipush F (v := 99) dX7_readRecall_15 (by decide) ?_
    refine ob_cViS F dX7_readRecall_17 im_X7_readNumber tw3_79 h (fun b hb => t_X7_readNumber hb) rfl rfl (Nat.le_of_ble_eq_true rfl) (by decide) fun v3 h => ?_
    refine ob_if_ne F 25 dX7_readRecall_20 (by decide) h (fun h => ?_) (fun h => ?_)
    · refine ob_rload_n F 1 dX7_readRecall_25 rfl ?_
      refine ob_rload_n F 0 dX7_readRecall_26 rfl ?_
      refine ob_getI F dX7_readRecall_27 fl_X7_32 h fun v4 h => ?_
      refine ob_putI F dX7_readRecall_30 fp_X7_182 h fun g5 h => ?_
      refine ob_iconst F (v := 1) dX7_readRecall_33 (by decide) ?_
      obtain rfl := Option.some.inj h
      exact ob_zret F dX7_readRecall_34 (Or.inr rfl) k
    · refine ob_iconst F (v := 0) dX7_readRecall_23 (by decide) ?_
      obtain rfl := Option.some.inj h
      exact ob_zret F dX7_readRecall_24 (Or.inl rfl) k
theorem t_X7_readRecall {cf : ob_Cf} {g : ob_St} {n0 : Nat} {n1 : Nat} {r : (Int32 × ob_St)} (h : f_X7_readRecall g n0 n1 = some r) : ob_Mt cf yX7_readRecall cX7_readRecall 2 (some .boolean) 3 65 [ob_rw cf n0, ob_rw cf n1] g (some (.int r.1)) r.2 := by
  refine ob_enter (by decide) (Nat.le_of_ble_eq_true rfl) (Or.inr rfl) ?_
  intro C hC F k
  subst hC
  exact b_X7_readRecall_0 F h k
-- X7_readOption
def f_X7_readOption (g : ob_St) (n0 : Nat) : Option (Int32 × ob_St) :=
  (ob_gR 7 n0 0).bind fun v1 => (ob_gI g 5 v1 6).bind fun v2 => (if v2 < 4 then ((ob_gR 7 n0 0).bind fun v3 => (ob_gR 5 v3 2).bind fun v4 => (ob_rR 17 v4 v2).bind fun v5 => (ob_ck 1 v5 (f_X1_clear g v5)).bind fun g6 => (ob_ck 7 n0 (f_X7_pass g6 n0)).bind fun g7 => (ob_ck 7 n0 (f_X7_readNewName g7 n0 v2)).bind fun v8 => (if v8.1 = 0 then (some (0, v8.2)) else ((ob_ck 7 n0 (f_X7_readKind v8.2 n0 v5)).bind fun v9 => (if v9.1 = 0 then (some (0, v9.2)) else ((ob_ck 7 n0 (f_X7_readWhen v9.2 n0 v5)).bind fun v10 => (if v10.1 = 0 then (some (0, v10.2)) else ((ob_ck 7 n0 (f_X7_readBarrier v10.2 n0 v5)).bind fun v11 => (if v11.1 = 0 then (some (0, v11.2)) else ((ob_ck 7 n0 (f_X7_readRebate v11.2 n0 v5)).bind fun v12 => (if v12.1 = 0 then (some (0, v12.2)) else ((ob_ck 7 n0 (f_X7_readRecall v12.2 n0 v5)).bind fun v13 => (if v13.1 = 0 then (some (0, v13.2)) else ((ob_gR 7 n0 0).bind fun v14 => (ob_pI v13.2 5 v14 6 (v2 + 1)).bind fun g15 => some (1, g15)))))))))))))) else ((ob_ck 7 n0 (f_X7_fails g n0 4)).bind fun v16 => (ob_zr v16.1).bind fun z17 => some (z17, v16.2)))
theorem b_X7_readOption_0 {C : ob_Cx} (F : ob_Fx C cX7_readOption 3 RX7 (some .boolean) 4 87) {g : ob_St} {n0 : Nat} {r : (Int32 × ob_St)} (h : f_X7_readOption g n0 = some r) (k : ob_Rt C (some (.int r.1)) r.2) : ob_Ev C 0 [(0, ob_rv C n0)] [] g := by
  unfold f_X7_readOption at h
  refine ob_rload_n F 0 dX7_readOption_0 rfl ?_
  refine ob_getR F dX7_readOption_1 fl_X7_12 h fun v1 h => ?_
  refine ob_getI F dX7_readOption_4 fl_X7_121 h fun v2 h => ?_
  refine ob_istore_n F (ls2 := [(1, .int v2), (0, ob_rv C n0)]) dX7_readOption_7 (by decide) rfl ?_
  refine ob_iload_n F 0 dX7_readOption_8 rfl ?_
  refine ob_iconst F (v := 4) dX7_readOption_9 (by decide) ?_
  refine ob_icmp_lt F 19 dX7_readOption_10 (by decide) h (fun h => ?_) (fun h => ?_)
  · refine ob_rload_n F 1 dX7_readOption_19 rfl ?_
    refine ob_getR F dX7_readOption_20 fl_X7_12 h fun v3 h => ?_
    refine ob_getR F dX7_readOption_23 fl_X7_124 h fun v4 h => ?_
    refine ob_iload_n F 0 dX7_readOption_26 rfl ?_
    refine ob_aald F dX7_readOption_27 (by decide) h fun v5 h => ?_
    refine ob_rstore_n F (ls2 := [(2, ob_rv C v5), (1, .int v2), (0, ob_rv C n0)]) dX7_readOption_28 (by decide) rfl ?_
    refine ob_rload_n F 0 dX7_readOption_29 rfl ?_
    refine ob_cVvS F dX7_readOption_30 im_X1_clear tw3_107 h (fun b hb => t_X1_clear hb) rfl rfl (Nat.le_of_ble_eq_true rfl) (by decide) fun g6 h => ?_
    refine ob_rload_n F 2 dX7_readOption_33 rfl ?_
    refine ob_cVvS F dX7_readOption_34 im_X7_pass tw3_75 h (fun b hb => t_X7_pass hb) rfl rfl (Nat.le_of_ble_eq_true rfl) (by decide) fun g7 h => ?_
    refine ob_rload_n F 2 dX7_readOption_37 rfl ?_
    refine ob_iload_n F 1 dX7_readOption_38 rfl ?_
    refine ob_cViS F dX7_readOption_39 im_X7_readNewName tw3_111 h (fun b hb => t_X7_readNewName hb) rfl rfl (Nat.le_of_ble_eq_true rfl) (by decide) fun v8 h => ?_
    refine ob_if_ne F 47 dX7_readOption_42 (by decide) h (fun h => ?_) (fun h => ?_)
    · refine ob_rload_n F 2 dX7_readOption_47 rfl ?_
      refine ob_rload_n F 0 dX7_readOption_48 rfl ?_
      refine ob_cViS F dX7_readOption_49 im_X7_readKind tw3_119 h (fun b hb => t_X7_readKind hb) rfl rfl (Nat.le_of_ble_eq_true rfl) (by decide) fun v9 h => ?_
      refine ob_if_eq F 87 dX7_readOption_52 (by decide) h (fun h => ?_) (fun h => ?_)
      · refine ob_iconst F (v := 0) dX7_readOption_87 (by decide) ?_
        obtain rfl := Option.some.inj h
        exact ob_zret F dX7_readOption_88 (Or.inl rfl) k
      · refine ob_rload_n F 2 dX7_readOption_55 rfl ?_
        refine ob_rload_n F 0 dX7_readOption_56 rfl ?_
        refine ob_cViS F dX7_readOption_57 im_X7_readWhen tw3_128 h (fun b hb => t_X7_readWhen hb) rfl rfl (Nat.le_of_ble_eq_true rfl) (by decide) fun v10 h => ?_
        refine ob_if_eq F 87 dX7_readOption_60 (by decide) h (fun h => ?_) (fun h => ?_)
        · refine ob_iconst F (v := 0) dX7_readOption_87 (by decide) ?_
          obtain rfl := Option.some.inj h
          exact ob_zret F dX7_readOption_88 (Or.inl rfl) k
        · refine ob_rload_n F 2 dX7_readOption_63 rfl ?_
          refine ob_rload_n F 0 dX7_readOption_64 rfl ?_
          refine ob_cViS F dX7_readOption_65 im_X7_readBarrier tw3_132 h (fun b hb => t_X7_readBarrier hb) rfl rfl (Nat.le_of_ble_eq_true rfl) (by decide) fun v11 h => ?_
          refine ob_if_eq F 87 dX7_readOption_68 (by decide) h (fun h => ?_) (fun h => ?_)
          · refine ob_iconst F (v := 0) dX7_readOption_87 (by decide) ?_
            obtain rfl := Option.some.inj h
            exact ob_zret F dX7_readOption_88 (Or.inl rfl) k
          · refine ob_rload_n F 2 dX7_readOption_71 rfl ?_
            refine ob_rload_n F 0 dX7_readOption_72 rfl ?_
            refine ob_cViS F dX7_readOption_73 im_X7_readRebate tw3_136 h (fun b hb => t_X7_readRebate hb) rfl rfl (Nat.le_of_ble_eq_true rfl) (by decide) fun v12 h => ?_
            refine ob_if_eq F 87 dX7_readOption_76 (by decide) h (fun h => ?_) (fun h => ?_)
            · refine ob_iconst F (v := 0) dX7_readOption_87 (by decide) ?_
              obtain rfl := Option.some.inj h
              exact ob_zret F dX7_readOption_88 (Or.inl rfl) k
            · refine ob_rload_n F 2 dX7_readOption_79 rfl ?_
              refine ob_rload_n F 0 dX7_readOption_80 rfl ?_
              refine ob_cViS F dX7_readOption_81 im_X7_readRecall tw3_140 h (fun b hb => t_X7_readRecall hb) rfl rfl (Nat.le_of_ble_eq_true rfl) (by decide) fun v13 h => ?_
              refine ob_if_ne F 89 dX7_readOption_84 (by decide) h (fun h => ?_) (fun h => ?_)
              · refine ob_rload_n F 2 dX7_readOption_89 rfl ?_
                refine ob_getR F dX7_readOption_90 fl_X7_12 h fun v14 h => ?_
                refine ob_iload_n F 1 dX7_readOption_93 rfl ?_
                refine ob_iconst F (v := 1) dX7_readOption_94 (by decide) ?_
                refine ob_iadd F dX7_readOption_95 ?_
                refine ob_putI F dX7_readOption_96 fp_X7_121 h fun g15 h => ?_
                refine ob_iconst F (v := 1) dX7_readOption_99 (by decide) ?_
                obtain rfl := Option.some.inj h
                exact ob_zret F dX7_readOption_100 (Or.inr rfl) k
              · refine ob_iconst F (v := 0) dX7_readOption_87 (by decide) ?_
                obtain rfl := Option.some.inj h
                exact ob_zret F dX7_readOption_88 (Or.inl rfl) k
    · refine ob_iconst F (v := 0) dX7_readOption_45 (by decide) ?_
      obtain rfl := Option.some.inj h
      exact ob_zret F dX7_readOption_46 (Or.inl rfl) k
  · refine ob_rload_n F 1 dX7_readOption_13 rfl ?_
    refine ob_iconst F (v := 4) dX7_readOption_14 (by decide) ?_
    refine ob_cViS F dX7_readOption_15 im_X7_fails tw3_83 h (fun b hb => t_X7_fails hb) rfl rfl (Nat.le_of_ble_eq_true rfl) (by decide) fun v16 h => ?_
    refine ob_zrow h fun hz h => ?_
    obtain rfl := Option.some.inj h
    exact ob_zret F dX7_readOption_18 hz k
theorem t_X7_readOption {cf : ob_Cf} {g : ob_St} {n0 : Nat} {r : (Int32 × ob_St)} (h : f_X7_readOption g n0 = some r) : ob_Mt cf yX7_readOption cX7_readOption 3 (some .boolean) 4 87 [ob_rw cf n0] g (some (.int r.1)) r.2 := by
  refine ob_enter (by decide) (Nat.le_of_ble_eq_true rfl) (Or.inr rfl) ?_
  intro C hC F k
  subst hC
  exact b_X7_readOption_0 F h k
-- X7_readLine
def B_X7_readLine_18 (g : ob_St) (n0 : Nat) : Option (Int32 × ob_St) :=
  (ob_ck 7 n0 (f_X7_isKeyword g n0 7)).bind fun v1 => (if v1 = 0 then ((ob_ck 7 n0 (f_X7_isKeyword g n0 8)).bind fun v2 => (if v2 = 0 then ((ob_ck 7 n0 (f_X7_isKeyword g n0 9)).bind fun v3 => (if v3 = 0 then ((ob_ck 7 n0 (f_X7_fails g n0 1)).bind fun v4 => (ob_zr v4.1).bind fun z5 => some (z5, v4.2)) else ((ob_ck 7 n0 (f_X7_readOption g n0)).bind fun v6 => (ob_zr v6.1).bind fun z7 => some (z7, v6.2)))) else ((ob_ck 7 n0 (f_X7_readCash g n0)).bind fun v8 => (ob_zr v8.1).bind fun z9 => some (z9, v8.2)))) else ((ob_ck 7 n0 (f_X7_readStep g n0)).bind fun v10 => (ob_zr v10.1).bind fun z11 => some (z11, v10.2)))
theorem b_X7_readLine_18 {C : ob_Cx} (F : ob_Fx C cX7_readLine 2 RX7 (some .boolean) 5 109) {g : ob_St} {n0 : Nat} {r : (Int32 × ob_St)} (h : B_X7_readLine_18 g n0 = some r) (k : ob_Rt C (some (.int r.1)) r.2) : ob_Ev C 18 [(0, ob_rv C n0)] [] g := by
  unfold B_X7_readLine_18 at h
  refine ob_rload_n F 0 dX7_readLine_18 rfl ?_
  refine ob_bipush F (v := 7) dX7_readLine_19 (by decide) ?_
  refine ob_cVi F dX7_readLine_21 im_X7_isKeyword tw3_67 h (fun b hb => t_X7_isKeyword hb) rfl rfl (Nat.le_of_ble_eq_true rfl) (by decide) fun v1 h => ?_
  refine ob_if_eq F 32 dX7_readLine_24 (by decide) h (fun h => ?_) (fun h => ?_)
  · refine ob_rload_n F 0 dX7_readLine_32 rfl ?_
    refine ob_bipush F (v := 8) dX7_readLine_33 (by decide) ?_
    refine ob_cVi F dX7_readLine_35 im_X7_isKeyword tw3_67 h (fun b hb => t_X7_isKeyword hb) rfl rfl (Nat.le_of_ble_eq_true rfl) (by decide) fun v2 h => ?_
    refine ob_if_eq F 46 dX7_readLine_38 (by decide) h (fun h => ?_) (fun h => ?_)
    · refine ob_rload_n F 0 dX7_readLine_46 rfl ?_
      refine ob_bipush F (v := 9) dX7_readLine_47 (by decide) ?_
      refine ob_cVi F dX7_readLine_49 im_X7_isKeyword tw3_67 h (fun b hb => t_X7_isKeyword hb) rfl rfl (Nat.le_of_ble_eq_true rfl) (by decide) fun v3 h => ?_
      refine ob_if_eq F 60 dX7_readLine_52 (by decide) h (fun h => ?_) (fun h => ?_)
      · refine ob_rload_n F 0 dX7_readLine_60 rfl ?_
        refine ob_iconst F (v := 1) dX7_readLine_61 (by decide) ?_
        refine ob_cViS F dX7_readLine_62 im_X7_fails tw3_83 h (fun b hb => t_X7_fails hb) rfl rfl (Nat.le_of_ble_eq_true rfl) (by decide) fun v4 h => ?_
        refine ob_zrow h fun hz h => ?_
        obtain rfl := Option.some.inj h
        exact ob_zret F dX7_readLine_65 hz k
      · refine ob_rload_n F 0 dX7_readLine_55 rfl ?_
        refine ob_cViS F dX7_readLine_56 im_X7_readOption tw3_103 h (fun b hb => t_X7_readOption hb) rfl rfl (Nat.le_of_ble_eq_true rfl) (by decide) fun v6 h => ?_
        refine ob_zrow h fun hz h => ?_
        obtain rfl := Option.some.inj h
        exact ob_zret F dX7_readLine_59 hz k
    · refine ob_rload_n F 0 dX7_readLine_41 rfl ?_
      refine ob_cViS F dX7_readLine_42 im_X7_readCash tw3_99 h (fun b hb => t_X7_readCash hb) rfl rfl (Nat.le_of_ble_eq_true rfl) (by decide) fun v8 h => ?_
      refine ob_zrow h fun hz h => ?_
      obtain rfl := Option.some.inj h
      exact ob_zret F dX7_readLine_45 hz k
  · refine ob_rload_n F 0 dX7_readLine_27 rfl ?_
    refine ob_cViS F dX7_readLine_28 im_X7_readStep tw3_87 h (fun b hb => t_X7_readStep hb) rfl rfl (Nat.le_of_ble_eq_true rfl) (by decide) fun v10 h => ?_
    refine ob_zrow h fun hz h => ?_
    obtain rfl := Option.some.inj h
    exact ob_zret F dX7_readLine_31 hz k
def f_X7_readLine (g : ob_St) (n0 : Nat) (x1 : Int32) : Option (Int32 × ob_St) :=
  (if x1 = 0 then (B_X7_readLine_18 g n0) else ((ob_ck 7 n0 (f_X7_isKeyword g n0 6)).bind fun v12 => (if v12 = 0 then (B_X7_readLine_18 g n0) else ((ob_ck 7 n0 (f_X7_readStock g n0)).bind fun v13 => (ob_zr v13.1).bind fun z14 => some (z14, v13.2)))))
theorem b_X7_readLine_0 {C : ob_Cx} (F : ob_Fx C cX7_readLine 2 RX7 (some .boolean) 5 109) {g : ob_St} {n0 : Nat} {x1 : Int32} {r : (Int32 × ob_St)} (h : f_X7_readLine g n0 x1 = some r) (k : ob_Rt C (some (.int r.1)) r.2) : ob_Ev C 0 [(0, ob_rv C n0), (1, .int x1)] [] g := by
  unfold f_X7_readLine at h
  refine ob_iload_n F 1 dX7_readLine_0 rfl ?_
  refine ob_if_eq F 18 dX7_readLine_1 (by decide) h (fun h => ?_) (fun h => ?_)
  · exact ob_sub [0] rfl (b_X7_readLine_18 F h k)
  · refine ob_rload_n F 0 dX7_readLine_4 rfl ?_
    refine ob_bipush F (v := 6) dX7_readLine_5 (by decide) ?_
    refine ob_cVi F dX7_readLine_7 im_X7_isKeyword tw3_67 h (fun b hb => t_X7_isKeyword hb) rfl rfl (Nat.le_of_ble_eq_true rfl) (by decide) fun v12 h => ?_
    refine ob_if_eq F 18 dX7_readLine_10 (by decide) h (fun h => ?_) (fun h => ?_)
    · exact ob_sub [0] rfl (b_X7_readLine_18 F h k)
    · refine ob_rload_n F 0 dX7_readLine_13 rfl ?_
      refine ob_cViS F dX7_readLine_14 im_X7_readStock tw3_71 h (fun b hb => t_X7_readStock hb) rfl rfl (Nat.le_of_ble_eq_true rfl) (by decide) fun v13 h => ?_
      refine ob_zrow h fun hz h => ?_
      obtain rfl := Option.some.inj h
      exact ob_zret F dX7_readLine_17 hz k
theorem t_X7_readLine {cf : ob_Cf} {g : ob_St} {n0 : Nat} {x1 : Int32} {r : (Int32 × ob_St)} (h : f_X7_readLine g n0 x1 = some r) : ob_Mt cf yX7_readLine cX7_readLine 2 (some .boolean) 5 109 [ob_rw cf n0, .int x1] g (some (.int r.1)) r.2 := by
  refine ob_enter (by decide) (Nat.le_of_ble_eq_true rfl) (Or.inr rfl) ?_
  intro C hC F k
  subst hC
  exact b_X7_readLine_0 F h k
-- X7_readText
def B_X7_readText_71 (rec : ob_St → Int32 → Option ((ob_St) ⊕ ((ob_St) ⊕ (ob_St)))) (g : ob_St) (n0 : Nat) (x1 : Int32) (x2 : Int32) (s0 : Nat) (s1 : Int32) : Option ((ob_St) ⊕ ((ob_St) ⊕ (ob_St))) :=
  (ob_ck 7 s0 (f_X7_readLine g s0 s1)).bind fun v9 => (if v9.1 = 0 then (some (.inl v9.2)) else ((ob_ck 7 n0 (f_X7_isNext v9.2 n0 2)).bind fun v10 => (if v10 = 0 then (some (.inr (.inl v9.2))) else ((ob_ck 7 n0 (f_X7_pass v9.2 n0)).bind fun g11 => rec g11 (x2 + 1)))))
theorem b_X7_readText_71 {C : ob_Cx} {rec : ob_St → Int32 → Option ((ob_St) ⊕ ((ob_St) ⊕ (ob_St)))} (F : ob_Fx C cX7_readText 3 RX7 (some .boolean) 6 130) {g : ob_St} {n0 : Nat} {x1 : Int32} {x2 : Int32} {s0 : Nat} {s1 : Int32} {x : ((ob_St) ⊕ ((ob_St) ⊕ (ob_St)))} (hr : ∀ {g : ob_St} {x2 : Int32} {x : ((ob_St) ⊕ ((ob_St) ⊕ (ob_St)))}, rec g x2 = some x → (∀ y, x = (.inl y) → ob_Ev C 77 [] [] y) → (∀ y, x = (.inr (.inl y)) → ob_Ev C 87 [(0, ob_rv C n0)] [] y) → (∀ y, x = (.inr (.inr y)) → ob_Ev C 103 [] [] y) → ob_Ev C 48 [(0, ob_rv C n0), (1, .int x1), (2, .int x2)] [] g) (h : B_X7_readText_71 rec g n0 x1 x2 s0 s1 = some x) (k0 : (∀ y, x = (.inl y) → ob_Ev C 77 [] [] y)) (k1 : (∀ y, x = (.inr (.inl y)) → ob_Ev C 87 [(0, ob_rv C n0)] [] y)) (k2 : (∀ y, x = (.inr (.inr y)) → ob_Ev C 103 [] [] y)) : ob_Ev C 71 [(0, ob_rv C n0), (1, .int x1), (2, .int x2)] [.int s1, ob_rv C s0] g := by
  unfold B_X7_readText_71 at h
  refine ob_cViS F dX7_readText_71 im_X7_readLine tw3_63 h (fun b hb => t_X7_readLine hb) rfl rfl (Nat.le_of_ble_eq_true rfl) (by decide) fun v9 h => ?_
  refine ob_if_ne F 79 dX7_readText_74 (by decide) h (fun h => ?_) (fun h => ?_)
  · refine ob_rload_n F 0 dX7_readText_79 rfl ?_
    refine ob_iconst F (v := 2) dX7_readText_80 (by decide) ?_
    refine ob_cVi F dX7_readText_81 im_X7_isNext tw3_59 h (fun b hb => t_X7_isNext hb) rfl rfl (Nat.le_of_ble_eq_true rfl) (by decide) fun v10 h => ?_
    refine ob_if_ne F 93 dX7_readText_84 (by decide) h (fun h => ?_) (fun h => ?_)
    · refine ob_rload_n F 0 dX7_readText_93 rfl ?_
      refine ob_cVvS F dX7_readText_94 im_X7_pass tw3_75 h (fun b hb => t_X7_pass hb) rfl rfl (Nat.le_of_ble_eq_true rfl) (by decide) fun g11 h => ?_
      refine ob_iinc F (v := (x2 + 1)) (ls2 := [(2, .int (x2 + 1)), (0, ob_rv C n0), (1, .int x1)]) 2 dX7_readText_97 rfl rfl (by decide) rfl ?_
      refine ob_goto F 48 dX7_readText_100 (by decide) ?_
      exact ob_sub [1, 2, 0] rfl (hr h k0 k1 k2)
    · obtain rfl := Option.some.inj h
      exact ob_sub [0] rfl (k1 _ rfl)
  · obtain rfl := Option.some.inj h
    exact ob_sub [] rfl (k0 _ rfl)
def Lb_X7_readText_48 (rec : ob_St → Int32 → Option ((ob_St) ⊕ ((ob_St) ⊕ (ob_St)))) (g : ob_St) (n0 : Nat) (x1 : Int32) (x2 : Int32) : Option ((ob_St) ⊕ ((ob_St) ⊕ (ob_St))) :=
  (ob_ck 7 n0 (f_X7_isNext g n0 0)).bind fun v8 => (if v8 = 0 then ((if x1 < x2 then (some (.inr (.inr g))) else ((if x2 = 0 then (B_X7_readText_71 rec g n0 x1 x2 n0 1) else (B_X7_readText_71 rec g n0 x1 x2 n0 0))))) else (some (.inr (.inr g))))
def L_X7_readText_48 (n0 : Nat) (x1 : Int32) : Nat → ob_St → Int32 → Option ((ob_St) ⊕ ((ob_St) ⊕ (ob_St)))
  | 0, _, _ => none
  | n + 1, g, x2 => Lb_X7_readText_48 (L_X7_readText_48 n0 x1 n) g n0 x1 x2
theorem lb_X7_readText_48 {C : ob_Cx} {rec : ob_St → Int32 → Option ((ob_St) ⊕ ((ob_St) ⊕ (ob_St)))} (F : ob_Fx C cX7_readText 3 RX7 (some .boolean) 6 130) {g : ob_St} {n0 : Nat} {x1 : Int32} {x2 : Int32} {x : ((ob_St) ⊕ ((ob_St) ⊕ (ob_St)))} (hr : ∀ {g : ob_St} {x2 : Int32} {x : ((ob_St) ⊕ ((ob_St) ⊕ (ob_St)))}, rec g x2 = some x → (∀ y, x = (.inl y) → ob_Ev C 77 [] [] y) → (∀ y, x = (.inr (.inl y)) → ob_Ev C 87 [(0, ob_rv C n0)] [] y) → (∀ y, x = (.inr (.inr y)) → ob_Ev C 103 [] [] y) → ob_Ev C 48 [(0, ob_rv C n0), (1, .int x1), (2, .int x2)] [] g) (h : Lb_X7_readText_48 rec g n0 x1 x2 = some x) (k0 : (∀ y, x = (.inl y) → ob_Ev C 77 [] [] y)) (k1 : (∀ y, x = (.inr (.inl y)) → ob_Ev C 87 [(0, ob_rv C n0)] [] y)) (k2 : (∀ y, x = (.inr (.inr y)) → ob_Ev C 103 [] [] y)) : ob_Ev C 48 [(0, ob_rv C n0), (1, .int x1), (2, .int x2)] [] g := by
  unfold Lb_X7_readText_48 at h
  refine ob_rload_n F 0 dX7_readText_48 rfl ?_
  refine ob_iconst F (v := 0) dX7_readText_49 (by decide) ?_
  refine ob_cVi F dX7_readText_50 im_X7_isNext tw3_59 h (fun b hb => t_X7_isNext hb) rfl rfl (Nat.le_of_ble_eq_true rfl) (by decide) fun v8 h => ?_
  refine ob_if_ne F 103 dX7_readText_53 (by decide) h (fun h => ?_) (fun h => ?_)
  · obtain rfl := Option.some.inj h
    exact ob_sub [] rfl (k2 _ rfl)
  · refine ob_iload_n F 2 dX7_readText_56 rfl ?_
    refine ob_iload_n F 1 dX7_readText_57 rfl ?_
    refine ob_icmp_gt F 103 dX7_readText_58 (by decide) h (fun h => ?_) (fun h => ?_)
    · obtain rfl := Option.some.inj h
      exact ob_sub [] rfl (k2 _ rfl)
    · refine ob_rload_n F 0 dX7_readText_61 rfl ?_
      refine ob_iload_n F 2 dX7_readText_62 rfl ?_
      refine ob_if_ne F 70 dX7_readText_63 (by decide) h (fun h => ?_) (fun h => ?_)
      · refine ob_iconst F (v := 0) dX7_readText_70 (by decide) ?_
        exact b_X7_readText_71 F hr h k0 k1 k2
      · refine ob_iconst F (v := 1) dX7_readText_66 (by decide) ?_
        refine ob_goto F 71 dX7_readText_67 (by decide) ?_
        exact b_X7_readText_71 F hr h k0 k1 k2
theorem l_X7_readText_48 {C : ob_Cx} (F : ob_Fx C cX7_readText 3 RX7 (some .boolean) 6 130) {n0 : Nat} {x1 : Int32} : ∀ (n : Nat) {g : ob_St} {x2 : Int32} {x : ((ob_St) ⊕ ((ob_St) ⊕ (ob_St)))}, L_X7_readText_48 n0 x1 n g x2 = some x → (∀ y, x = (.inl y) → ob_Ev C 77 [] [] y) → (∀ y, x = (.inr (.inl y)) → ob_Ev C 87 [(0, ob_rv C n0)] [] y) → (∀ y, x = (.inr (.inr y)) → ob_Ev C 103 [] [] y) → ob_Ev C 48 [(0, ob_rv C n0), (1, .int x1), (2, .int x2)] [] g := by
  intro n
  induction n with
  | zero => intro g x2 x h; exact ob_no h
  | succ n ih => intro g x2 x h k0 k1 k2; exact lb_X7_readText_48 F ih h k0 k1 k2
def f_X7_readText (g : ob_St) (n0 : Nat) (x1 : Int32) : Option (Int32 × ob_St) :=
  (ob_pI g 7 n0 1 0).bind fun g1 => (ob_pI g1 7 n0 2 0).bind fun g2 => (ob_gR 7 n0 0).bind fun v3 => (ob_ck 5 v3 (f_X5_clear g2 v3)).bind fun g4 => (ob_pI g4 7 n0 5 0).bind fun g5 => (if x1 ≤ 500 then ((ob_gR 7 n0 3).bind fun v6 => (ob_ck 10 v6 (f_X10_scan g5 v6 x1)).bind fun g7 => (L_X7_readText_48 n0 x1 ob_FU g7 0).bind (Sum.elim (fun y_13 => some (0, y_13)) (Sum.elim (fun y_14 => (ob_ck 7 n0 (f_X7_fails y_14 n0 1)).bind fun v15 => (ob_zr v15.1).bind fun z16 => some (z16, v15.2)) (fun y_17 => some (1, y_17))))) else ((ob_ck 7 n0 (f_X7_failsAt g5 n0 1 500)).bind fun v18 => (ob_zr v18.1).bind fun z19 => some (z19, v18.2)))
theorem b_X7_readText_0 {C : ob_Cx} (F : ob_Fx C cX7_readText 3 RX7 (some .boolean) 6 130) {g : ob_St} {n0 : Nat} {x1 : Int32} {r : (Int32 × ob_St)} (h : f_X7_readText g n0 x1 = some r) (k : ob_Rt C (some (.int r.1)) r.2) : ob_Ev C 0 [(0, ob_rv C n0), (1, .int x1)] [] g := by
  unfold f_X7_readText at h
  refine ob_rload_n F 0 dX7_readText_0 rfl ?_
  refine ob_iconst F (v := 0) dX7_readText_1 (by decide) ?_
  refine ob_putI F dX7_readText_2 fp_X7_18 h fun g1 h => ?_
  refine ob_rload_n F 0 dX7_readText_5 rfl ?_
  refine ob_iconst F (v := 0) dX7_readText_6 (by decide) ?_
  refine ob_putI F dX7_readText_7 fp_X7_22 h fun g2 h => ?_
  refine ob_rload_n F 0 dX7_readText_10 rfl ?_
  refine ob_getR F dX7_readText_11 fl_X7_12 h fun v3 h => ?_
  refine ob_cVvS F dX7_readText_14 im_X5_clear tw3_24 h (fun b hb => t_X5_clear hb) rfl rfl (Nat.le_of_ble_eq_true rfl) (by decide) fun g4 h => ?_
  refine ob_rload_n F 0 dX7_readText_17 rfl ?_
  refine ob_iconst F (v := 0) dX7_readText_18 (by decide) ?_
  refine ob_putI F dX7_readText_19 fp_X7_29 h fun g5 h => ?_
  refine ob_iload_n F 1 dX7_readText_22 rfl ?_
  refine ob_sipush F (v := 500) dX7_readText_23 (by decide) ?_
  refine ob_icmp_le F 38 dX7_readText_26 (by decide) h (fun h => ?_) (fun h => ?_)
  · refine ob_rload_n F 0 dX7_readText_38 rfl ?_
    refine ob_getR F dX7_readText_39 fl_X7_43 h fun v6 h => ?_
    refine ob_iload_n F 1 dX7_readText_42 rfl ?_
    refine ob_cVvS F dX7_readText_43 im_X10_scan tw3_32 h (fun b hb => t_X10_scan hb) rfl rfl (Nat.le_of_ble_eq_true rfl) (by decide) fun g7 h => ?_
    refine ob_iconst F (v := 0) dX7_readText_46 (by decide) ?_
    refine ob_istore_n F (ls2 := [(2, .int 0), (0, ob_rv C n0), (1, .int x1)]) dX7_readText_47 (by decide) rfl ?_
    obtain ⟨x_12, hx, h⟩ := Option.bind_eq_some_iff.mp h
    refine ob_sub [1, 2, 0] rfl (l_X7_readText_48 F ob_FU hx (fun y e => ?_) (fun y e => ?_) (fun y e => ?_))
    · subst e
      replace h := (ob_inl h)
      refine ob_iconst F (v := 0) dX7_readText_77 (by decide) ?_
      obtain rfl := Option.some.inj h
      exact ob_zret F dX7_readText_78 (Or.inl rfl) k
    · subst e
      replace h := (ob_inl (ob_inr h))
      refine ob_rload_n F 0 dX7_readText_87 rfl ?_
      refine ob_iconst F (v := 1) dX7_readText_88 (by decide) ?_
      refine ob_cViS F dX7_readText_89 im_X7_fails tw3_83 h (fun b hb => t_X7_fails hb) rfl rfl (Nat.le_of_ble_eq_true rfl) (by decide) fun v15 h => ?_
      refine ob_zrow h fun hz h => ?_
      obtain rfl := Option.some.inj h
      exact ob_zret F dX7_readText_92 hz k
    · subst e
      replace h := (ob_inr (ob_inr h))
      refine ob_iconst F (v := 1) dX7_readText_103 (by decide) ?_
      obtain rfl := Option.some.inj h
      exact ob_zret F dX7_readText_104 (Or.inr rfl) k
  · refine ob_rload_n F 0 dX7_readText_29 rfl ?_
    refine ob_iconst F (v := 1) dX7_readText_30 (by decide) ?_
    refine ob_sipush F (v := 500) dX7_readText_31 (by decide) ?_
    refine ob_cViS F dX7_readText_34 im_X7_failsAt tw3_28 h (fun b hb => t_X7_failsAt hb) rfl rfl (Nat.le_of_ble_eq_true rfl) (by decide) fun v18 h => ?_
    refine ob_zrow h fun hz h => ?_
    obtain rfl := Option.some.inj h
    exact ob_zret F dX7_readText_37 hz k
theorem t_X7_readText {cf : ob_Cf} {g : ob_St} {n0 : Nat} {x1 : Int32} {r : (Int32 × ob_St)} (h : f_X7_readText g n0 x1 = some r) : ob_Mt cf yX7_readText cX7_readText 3 (some .boolean) 6 130 [ob_rw cf n0, .int x1] g (some (.int r.1)) r.2 := by
  refine ob_enter (by decide) (Nat.le_of_ble_eq_true rfl) (Or.inr rfl) ?_
  intro C hC F k
  subst hC
  exact b_X7_readText_0 F h k
-- X1_copyFrom
def f_X1_copyFrom (g : ob_St) (n0 : Nat) (n1 : Nat) : Option ob_St :=
  (ob_gI g 1 n1 0).bind fun v1 => (ob_pI g 1 n0 0 v1).bind fun g2 => (ob_gI g2 1 n1 1).bind fun v3 => (ob_pI g2 1 n0 1 v3).bind fun g4 => (ob_gI g4 1 n1 2).bind fun v5 => (ob_pI g4 1 n0 2 v5).bind fun g6 => (ob_gI g6 1 n1 3).bind fun v7 => (ob_pI g6 1 n0 3 v7).bind fun g8 => (ob_gI g8 1 n1 4).bind fun v9 => (ob_pI g8 1 n0 4 v9).bind fun g10 => (ob_gI g10 1 n1 5).bind fun v11 => (ob_pI g10 1 n0 5 v11).bind fun g12 => (ob_gI g12 1 n1 6).bind fun v13 => (ob_pI g12 1 n0 6 v13).bind fun g14 => (ob_gI g14 1 n1 7).bind fun v15 => (ob_pI g14 1 n0 7 v15).bind fun g16 => (ob_gI g16 1 n1 8).bind fun v17 => (ob_pI g16 1 n0 8 v17).bind fun g18 => (ob_gI g18 1 n1 9).bind fun v19 => (ob_pI g18 1 n0 9 v19).bind fun g20 => some g20
theorem b_X1_copyFrom_0 {C : ob_Cx} (F : ob_Fx C cX1_copyFrom 2 RX1 none 0 0) {g : ob_St} {n0 : Nat} {n1 : Nat} {r : ob_St} (h : f_X1_copyFrom g n0 n1 = some r) (k : ob_Rt C none r) : ob_Ev C 0 [(0, ob_rv C n0), (1, ob_rv C n1)] [] g := by
  unfold f_X1_copyFrom at h
  refine ob_rload_n F 0 dX1_copyFrom_0 rfl ?_
  refine ob_rload_n F 1 dX1_copyFrom_1 rfl ?_
  refine ob_getI F dX1_copyFrom_2 fl_X1_9 h fun v1 h => ?_
  refine ob_putI F dX1_copyFrom_5 fp_X1_9 h fun g2 h => ?_
  refine ob_rload_n F 0 dX1_copyFrom_8 rfl ?_
  refine ob_rload_n F 1 dX1_copyFrom_9 rfl ?_
  refine ob_getI F dX1_copyFrom_10 fl_X1_15 h fun v3 h => ?_
  refine ob_putI F dX1_copyFrom_13 fp_X1_15 h fun g4 h => ?_
  refine ob_rload_n F 0 dX1_copyFrom_16 rfl ?_
  refine ob_rload_n F 1 dX1_copyFrom_17 rfl ?_
  refine ob_getI F dX1_copyFrom_18 fl_X1_18 h fun v5 h => ?_
  refine ob_putI F dX1_copyFrom_21 fp_X1_18 h fun g6 h => ?_
  refine ob_rload_n F 0 dX1_copyFrom_24 rfl ?_
  refine ob_rload_n F 1 dX1_copyFrom_25 rfl ?_
  refine ob_getI F dX1_copyFrom_26 fl_X1_21 h fun v7 h => ?_
  refine ob_putI F dX1_copyFrom_29 fp_X1_21 h fun g8 h => ?_
  refine ob_rload_n F 0 dX1_copyFrom_32 rfl ?_
  refine ob_rload_n F 1 dX1_copyFrom_33 rfl ?_
  refine ob_getI F dX1_copyFrom_34 fl_X1_24 h fun v9 h => ?_
  refine ob_putI F dX1_copyFrom_37 fp_X1_24 h fun g10 h => ?_
  refine ob_rload_n F 0 dX1_copyFrom_40 rfl ?_
  refine ob_rload_n F 1 dX1_copyFrom_41 rfl ?_
  refine ob_getI F dX1_copyFrom_42 fl_X1_27 h fun v11 h => ?_
  refine ob_putI F dX1_copyFrom_45 fp_X1_27 h fun g12 h => ?_
  refine ob_rload_n F 0 dX1_copyFrom_48 rfl ?_
  refine ob_rload_n F 1 dX1_copyFrom_49 rfl ?_
  refine ob_getI F dX1_copyFrom_50 fl_X1_30 h fun v13 h => ?_
  refine ob_putI F dX1_copyFrom_53 fp_X1_30 h fun g14 h => ?_
  refine ob_rload_n F 0 dX1_copyFrom_56 rfl ?_
  refine ob_rload_n F 1 dX1_copyFrom_57 rfl ?_
  refine ob_getI F dX1_copyFrom_58 fl_X1_33 h fun v15 h => ?_
  refine ob_putI F dX1_copyFrom_61 fp_X1_33 h fun g16 h => ?_
  refine ob_rload_n F 0 dX1_copyFrom_64 rfl ?_
  refine ob_rload_n F 1 dX1_copyFrom_65 rfl ?_
  refine ob_getI F dX1_copyFrom_66 fl_X1_36 h fun v17 h => ?_
  refine ob_putI F dX1_copyFrom_69 fp_X1_36 h fun g18 h => ?_
  refine ob_rload_n F 0 dX1_copyFrom_72 rfl ?_
  refine ob_rload_n F 1 dX1_copyFrom_73 rfl ?_
  refine ob_getI F dX1_copyFrom_74 fl_X1_39 h fun v19 h => ?_
  refine ob_putI F dX1_copyFrom_77 fp_X1_39 h fun g20 h => ?_
  obtain rfl := Option.some.inj h
  exact ob_vret F dX1_copyFrom_80 k
theorem t_X1_copyFrom {cf : ob_Cf} {g : ob_St} {n0 : Nat} {n1 : Nat} {r : ob_St} (h : f_X1_copyFrom g n0 n1 = some r) : ob_Mt cf yX1_copyFrom cX1_copyFrom 2 none 0 0 [ob_rw cf n0, ob_rw cf n1] g none r := by
  refine ob_enter (by decide) (Nat.le_of_ble_eq_true rfl) rfl ?_
  intro C hC F k
  subst hC
  exact b_X1_copyFrom_0 F h k
-- X5_copyFrom
def Lb_X5_copyFrom_34 (rec : ob_St → Int32 → Option (ob_St)) (g : ob_St) (n0 : Nat) (n1 : Nat) (x2 : Int32) : Option (ob_St) :=
  (if 12 < x2 then (some g) else ((ob_gR 5 n0 0).bind fun v9 => (ob_gR 5 n1 0).bind fun v10 => (ob_rI g 14 v10 x2).bind fun v11 => (ob_wI g v9 x2 v11).bind fun g12 => (ob_gR 5 n0 1).bind fun v13 => (ob_gR 5 n1 1).bind fun v14 => (ob_rI g12 14 v14 x2).bind fun v15 => (ob_wI g12 v13 x2 v15).bind fun g16 => rec g16 (x2 + 1)))
def L_X5_copyFrom_34 (n0 : Nat) (n1 : Nat) : Nat → ob_St → Int32 → Option (ob_St)
  | 0, _, _ => none
  | n + 1, g, x2 => Lb_X5_copyFrom_34 (L_X5_copyFrom_34 n0 n1 n) g n0 n1 x2
theorem lb_X5_copyFrom_34 {C : ob_Cx} {rec : ob_St → Int32 → Option (ob_St)} (F : ob_Fx C cX5_copyFrom 3 RX5 none 1 21) {g : ob_St} {n0 : Nat} {n1 : Nat} {x2 : Int32} {x : (ob_St)} (hr : ∀ {g : ob_St} {x2 : Int32} {x : (ob_St)}, rec g x2 = some x → ob_Ev C 70 [(0, ob_rv C n0), (1, ob_rv C n1)] [] x → ob_Ev C 34 [(0, ob_rv C n0), (1, ob_rv C n1), (2, .int x2)] [] g) (h : Lb_X5_copyFrom_34 rec g n0 n1 x2 = some x) (k0 : ob_Ev C 70 [(0, ob_rv C n0), (1, ob_rv C n1)] [] x) : ob_Ev C 34 [(0, ob_rv C n0), (1, ob_rv C n1), (2, .int x2)] [] g := by
  unfold Lb_X5_copyFrom_34 at h
  refine ob_iload_n F 2 dX5_copyFrom_34 rfl ?_
  refine ob_bipush F (v := 12) dX5_copyFrom_35 (by decide) ?_
  refine ob_icmp_gt F 70 dX5_copyFrom_37 (by decide) h (fun h => ?_) (fun h => ?_)
  · obtain rfl := Option.some.inj h
    exact ob_sub [0, 1] rfl (k0)
  · refine ob_rload_n F 0 dX5_copyFrom_40 rfl ?_
    refine ob_getR F dX5_copyFrom_41 fl_X5_9 h fun v9 h => ?_
    refine ob_iload_n F 2 dX5_copyFrom_44 rfl ?_
    refine ob_rload_n F 1 dX5_copyFrom_45 rfl ?_
    refine ob_getR F dX5_copyFrom_46 fl_X5_9 h fun v10 h => ?_
    refine ob_iload_n F 2 dX5_copyFrom_49 rfl ?_
    refine ob_iald F dX5_copyFrom_50 h fun v11 h => ?_
    refine ob_iast F dX5_copyFrom_51 h fun g12 h => ?_
    refine ob_rload_n F 0 dX5_copyFrom_52 rfl ?_
    refine ob_getR F dX5_copyFrom_53 fl_X5_15 h fun v13 h => ?_
    refine ob_iload_n F 2 dX5_copyFrom_56 rfl ?_
    refine ob_rload_n F 1 dX5_copyFrom_57 rfl ?_
    refine ob_getR F dX5_copyFrom_58 fl_X5_15 h fun v14 h => ?_
    refine ob_iload_n F 2 dX5_copyFrom_61 rfl ?_
    refine ob_iald F dX5_copyFrom_62 h fun v15 h => ?_
    refine ob_iast F dX5_copyFrom_63 h fun g16 h => ?_
    refine ob_iinc F (v := (x2 + 1)) (ls2 := [(2, .int (x2 + 1)), (0, ob_rv C n0), (1, ob_rv C n1)]) 2 dX5_copyFrom_64 rfl rfl (by decide) rfl ?_
    refine ob_goto F 34 dX5_copyFrom_67 (by decide) ?_
    exact ob_sub [1, 2, 0] rfl (hr h k0)
theorem l_X5_copyFrom_34 {C : ob_Cx} (F : ob_Fx C cX5_copyFrom 3 RX5 none 1 21) {n0 : Nat} {n1 : Nat} : ∀ (n : Nat) {g : ob_St} {x2 : Int32} {x : (ob_St)}, L_X5_copyFrom_34 n0 n1 n g x2 = some x → ob_Ev C 70 [(0, ob_rv C n0), (1, ob_rv C n1)] [] x → ob_Ev C 34 [(0, ob_rv C n0), (1, ob_rv C n1), (2, .int x2)] [] g := by
  intro n
  induction n with
  | zero => intro g x2 x h; exact ob_no h
  | succ n ih => intro g x2 x h k0; exact lb_X5_copyFrom_34 F ih h k0
def Lb_X5_copyFrom_72 (rec : ob_St → Int32 → Option (ob_St)) (g : ob_St) (n0 : Nat) (n1 : Nat) (x2 : Int32) : Option (ob_St) :=
  (if 4 ≤ x2 then (some g) else ((ob_gR 5 n0 2).bind fun v18 => (ob_rR 17 v18 x2).bind fun v19 => (ob_gR 5 n1 2).bind fun v20 => (ob_rR 17 v20 x2).bind fun v21 => (ob_ck 1 v19 (f_X1_copyFrom g v19 v21)).bind fun g22 => rec g22 (x2 + 1)))
def L_X5_copyFrom_72 (n0 : Nat) (n1 : Nat) : Nat → ob_St → Int32 → Option (ob_St)
  | 0, _, _ => none
  | n + 1, g, x2 => Lb_X5_copyFrom_72 (L_X5_copyFrom_72 n0 n1 n) g n0 n1 x2
theorem lb_X5_copyFrom_72 {C : ob_Cx} {rec : ob_St → Int32 → Option (ob_St)} (F : ob_Fx C cX5_copyFrom 3 RX5 none 1 21) {g : ob_St} {n0 : Nat} {n1 : Nat} {x2 : Int32} {x : (ob_St)} (hr : ∀ {g : ob_St} {x2 : Int32} {x : (ob_St)}, rec g x2 = some x → ob_Ev C 98 [] [] x → ob_Ev C 72 [(0, ob_rv C n0), (1, ob_rv C n1), (2, .int x2)] [] g) (h : Lb_X5_copyFrom_72 rec g n0 n1 x2 = some x) (k0 : ob_Ev C 98 [] [] x) : ob_Ev C 72 [(0, ob_rv C n0), (1, ob_rv C n1), (2, .int x2)] [] g := by
  unfold Lb_X5_copyFrom_72 at h
  refine ob_iload_n F 2 dX5_copyFrom_72 rfl ?_
  refine ob_iconst F (v := 4) dX5_copyFrom_73 (by decide) ?_
  refine ob_icmp_ge F 98 dX5_copyFrom_74 (by decide) h (fun h => ?_) (fun h => ?_)
  · obtain rfl := Option.some.inj h
    exact ob_sub [] rfl (k0)
  · refine ob_rload_n F 0 dX5_copyFrom_77 rfl ?_
    refine ob_getR F dX5_copyFrom_78 fl_X5_20 h fun v18 h => ?_
    refine ob_iload_n F 2 dX5_copyFrom_81 rfl ?_
    refine ob_aald F dX5_copyFrom_82 (by decide) h fun v19 h => ?_
    refine ob_rload_n F 1 dX5_copyFrom_83 rfl ?_
    refine ob_getR F dX5_copyFrom_84 fl_X5_20 h fun v20 h => ?_
    refine ob_iload_n F 2 dX5_copyFrom_87 rfl ?_
    refine ob_aald F dX5_copyFrom_88 (by decide) h fun v21 h => ?_
    refine ob_cVvS F dX5_copyFrom_89 im_X1_copyFrom tw3_148 h (fun b hb => t_X1_copyFrom hb) rfl rfl (Nat.le_of_ble_eq_true rfl) (by decide) fun g22 h => ?_
    refine ob_iinc F (v := (x2 + 1)) (ls2 := [(2, .int (x2 + 1)), (0, ob_rv C n0), (1, ob_rv C n1)]) 2 dX5_copyFrom_92 rfl rfl (by decide) rfl ?_
    refine ob_goto F 72 dX5_copyFrom_95 (by decide) ?_
    exact ob_sub [1, 2, 0] rfl (hr h k0)
theorem l_X5_copyFrom_72 {C : ob_Cx} (F : ob_Fx C cX5_copyFrom 3 RX5 none 1 21) {n0 : Nat} {n1 : Nat} : ∀ (n : Nat) {g : ob_St} {x2 : Int32} {x : (ob_St)}, L_X5_copyFrom_72 n0 n1 n g x2 = some x → ob_Ev C 98 [] [] x → ob_Ev C 72 [(0, ob_rv C n0), (1, ob_rv C n1), (2, .int x2)] [] g := by
  intro n
  induction n with
  | zero => intro g x2 x h; exact ob_no h
  | succ n ih => intro g x2 x h k0; exact lb_X5_copyFrom_72 F ih h k0
def f_X5_copyFrom (g : ob_St) (n0 : Nat) (n1 : Nat) : Option ob_St :=
  (ob_gI g 5 n1 3).bind fun v1 => (ob_pI g 5 n0 3 v1).bind fun g2 => (ob_gI g2 5 n1 4).bind fun v3 => (ob_pI g2 5 n0 4 v3).bind fun g4 => (ob_gI g4 5 n1 5).bind fun v5 => (ob_pI g4 5 n0 5 v5).bind fun g6 => (ob_gI g6 5 n1 6).bind fun v7 => (ob_pI g6 5 n0 6 v7).bind fun g8 => (L_X5_copyFrom_34 n0 n1 ob_FU g8 0).bind fun x_17 => (L_X5_copyFrom_72 n0 n1 ob_FU x_17 0).bind fun x_23 => some x_23
theorem b_X5_copyFrom_0 {C : ob_Cx} (F : ob_Fx C cX5_copyFrom 3 RX5 none 1 21) {g : ob_St} {n0 : Nat} {n1 : Nat} {r : ob_St} (h : f_X5_copyFrom g n0 n1 = some r) (k : ob_Rt C none r) : ob_Ev C 0 [(0, ob_rv C n0), (1, ob_rv C n1)] [] g := by
  unfold f_X5_copyFrom at h
  refine ob_rload_n F 0 dX5_copyFrom_0 rfl ?_
  refine ob_rload_n F 1 dX5_copyFrom_1 rfl ?_
  refine ob_getI F dX5_copyFrom_2 fl_X5_24 h fun v1 h => ?_
  refine ob_putI F dX5_copyFrom_5 fp_X5_24 h fun g2 h => ?_
  refine ob_rload_n F 0 dX5_copyFrom_8 rfl ?_
  refine ob_rload_n F 1 dX5_copyFrom_9 rfl ?_
  refine ob_getI F dX5_copyFrom_10 fl_X5_28 h fun v3 h => ?_
  refine ob_putI F dX5_copyFrom_13 fp_X5_28 h fun g4 h => ?_
  refine ob_rload_n F 0 dX5_copyFrom_16 rfl ?_
  refine ob_rload_n F 1 dX5_copyFrom_17 rfl ?_
  refine ob_getI F dX5_copyFrom_18 fl_X5_31 h fun v5 h => ?_
  refine ob_putI F dX5_copyFrom_21 fp_X5_31 h fun g6 h => ?_
  refine ob_rload_n F 0 dX5_copyFrom_24 rfl ?_
  refine ob_rload_n F 1 dX5_copyFrom_25 rfl ?_
  refine ob_getI F dX5_copyFrom_26 fl_X5_34 h fun v7 h => ?_
  refine ob_putI F dX5_copyFrom_29 fp_X5_34 h fun g8 h => ?_
  refine ob_iconst F (v := 0) dX5_copyFrom_32 (by decide) ?_
  refine ob_istore_n F (ls2 := [(2, .int 0), (0, ob_rv C n0), (1, ob_rv C n1)]) dX5_copyFrom_33 (by decide) rfl ?_
  obtain ⟨x_17, hx, h⟩ := Option.bind_eq_some_iff.mp h
  refine ob_sub [1, 2, 0] rfl (l_X5_copyFrom_34 F ob_FU hx ?_)
  refine ob_iconst F (v := 0) dX5_copyFrom_70 (by decide) ?_
  refine ob_istore_n F (ls2 := [(2, .int 0), (0, ob_rv C n0), (1, ob_rv C n1)]) dX5_copyFrom_71 (by decide) rfl ?_
  obtain ⟨x_23, hx, h⟩ := Option.bind_eq_some_iff.mp h
  refine ob_sub [1, 2, 0] rfl (l_X5_copyFrom_72 F ob_FU hx ?_)
  obtain rfl := Option.some.inj h
  exact ob_vret F dX5_copyFrom_98 k
theorem t_X5_copyFrom {cf : ob_Cf} {g : ob_St} {n0 : Nat} {n1 : Nat} {r : ob_St} (h : f_X5_copyFrom g n0 n1 = some r) : ob_Mt cf yX5_copyFrom cX5_copyFrom 3 none 1 21 [ob_rw cf n0, ob_rw cf n1] g none r := by
  refine ob_enter (by decide) (Nat.le_of_ble_eq_true rfl) rfl ?_
  intro C hC F k
  subst hC
  exact b_X5_copyFrom_0 F h k
-- X11_bench
def f_X11_bench (g : ob_St) (n0 : Nat) : Option (Int32 × ob_St) :=
  (ob_gR 11 n0 6).bind fun v1 => (ob_gI g 11 n0 1).bind fun v2 => (ob_ck 7 v1 (f_X7_readText g v1 v2)).bind fun v3 => (ob_pI v3.2 11 n0 1 0).bind fun g4 => (ob_gR 11 n0 6).bind fun v5 => (ob_gI g4 7 v5 1).bind fun v6 => (ob_pI g4 11 n0 2 v6).bind fun g7 => (if v3.1 = 0 then ((ob_gR 11 n0 6).bind fun v18 => (ob_gI g7 7 v18 2).bind fun v19 => some (((-1000) - v19), g7)) else ((ob_gR 11 n0 3).bind fun v8 => (ob_gR 11 n0 6).bind fun v9 => (ob_gR 7 v9 0).bind fun v10 => (ob_ck 5 v8 (f_X5_copyFrom g7 v8 v10)).bind fun g11 => (ob_gR 11 n0 7).bind fun v12 => (ob_pI g11 0 v12 3 0).bind fun g13 => (ob_gR 11 n0 8).bind fun v14 => (ob_pZ g13 3 v14 6 1).bind fun g15 => (ob_gR 11 n0 3).bind fun v16 => (ob_gI g15 5 v16 6).bind fun v17 => some (v17, g15)))
theorem b_X11_bench_0 {C : ob_Cx} (F : ob_Fx C cX11_bench 2 RX11 (some .int) 7 152) {g : ob_St} {n0 : Nat} {r : (Int32 × ob_St)} (h : f_X11_bench g n0 = some r) (k : ob_Rt C (some (.int r.1)) r.2) : ob_Ev C 0 [(0, ob_rv C n0)] [] g := by
  unfold f_X11_bench at h
  refine ob_rload_n F 0 dX11_bench_0 rfl ?_
  refine ob_getR F dX11_bench_1 fl_X11_40 h fun v1 h => ?_
  refine ob_rload_n F 0 dX11_bench_4 rfl ?_
  refine ob_getI F dX11_bench_5 fl_X11_13 h fun v2 h => ?_
  refine ob_cViS F dX11_bench_8 im_X7_readText tw3_20 h (fun b hb => t_X7_readText hb) rfl rfl (Nat.le_of_ble_eq_true rfl) (by decide) fun v3 h => ?_
  refine ob_istore_n F (ls2 := [(1, .int v3.1), (0, ob_rv C n0)]) dX11_bench_11 (by decide) rfl ?_
  refine ob_rload_n F 1 dX11_bench_12 rfl ?_
  refine ob_iconst F (v := 0) dX11_bench_13 (by decide) ?_
  refine ob_putI F dX11_bench_14 fp_X11_13 h fun g4 h => ?_
  refine ob_rload_n F 1 dX11_bench_17 rfl ?_
  refine ob_rload_n F 1 dX11_bench_18 rfl ?_
  refine ob_getR F dX11_bench_19 fl_X11_40 h fun v5 h => ?_
  refine ob_getI F dX11_bench_22 fl_X11_91 h fun v6 h => ?_
  refine ob_putI F dX11_bench_25 fp_X11_17 h fun g7 h => ?_
  refine ob_iload_n F 0 dX11_bench_28 rfl ?_
  refine ob_if_ne F 44 dX11_bench_29 (by decide) h (fun h => ?_) (fun h => ?_)
  · refine ob_rload_n F 1 dX11_bench_44 rfl ?_
    refine ob_getR F dX11_bench_45 fl_X11_23 h fun v8 h => ?_
    refine ob_rload_n F 1 dX11_bench_48 rfl ?_
    refine ob_getR F dX11_bench_49 fl_X11_40 h fun v9 h => ?_
    refine ob_getR F dX11_bench_52 fl_X11_95 h fun v10 h => ?_
    refine ob_cVvS F dX11_bench_55 im_X5_copyFrom tw3_144 h (fun b hb => t_X5_copyFrom hb) rfl rfl (Nat.le_of_ble_eq_true rfl) (by decide) fun g11 h => ?_
    refine ob_rload_n F 1 dX11_bench_58 rfl ?_
    refine ob_getR F dX11_bench_59 fl_X11_47 h fun v12 h => ?_
    refine ob_iconst F (v := 0) dX11_bench_62 (by decide) ?_
    refine ob_putI F dX11_bench_63 fp_X11_101 h fun g13 h => ?_
    refine ob_rload_n F 1 dX11_bench_66 rfl ?_
    refine ob_getR F dX11_bench_67 fl_X11_56 h fun v14 h => ?_
    refine ob_iconst F (v := 1) dX11_bench_70 (by decide) ?_
    refine ob_putZ F dX11_bench_71 fp_X11_104 h fun g15 h => ?_
    refine ob_rload_n F 1 dX11_bench_74 rfl ?_
    refine ob_getR F dX11_bench_75 fl_X11_23 h fun v16 h => ?_
    refine ob_getI F dX11_bench_78 fl_X11_108 h fun v17 h => ?_
    obtain rfl := Option.some.inj h
    exact ob_iret F dX11_bench_81 k
  · refine ob_sipush F (v := (-1000)) dX11_bench_32 (by decide) ?_
    refine ob_rload_n F 1 dX11_bench_35 rfl ?_
    refine ob_getR F dX11_bench_36 fl_X11_40 h fun v18 h => ?_
    refine ob_getI F dX11_bench_39 fl_X11_92 h fun v19 h => ?_
    refine ob_isub F dX11_bench_42 ?_
    obtain rfl := Option.some.inj h
    exact ob_iret F dX11_bench_43 k
theorem t_X11_bench {cf : ob_Cf} {g : ob_St} {n0 : Nat} {r : (Int32 × ob_St)} (h : f_X11_bench g n0 = some r) : ob_Mt cf yX11_bench cX11_bench 2 (some .int) 7 152 [ob_rw cf n0] g (some (.int r.1)) r.2 := by
  refine ob_enter (by decide) (Nat.le_of_ble_eq_true rfl) (Or.inl rfl) ?_
  intro C hC F k
  subst hC
  exact b_X11_bench_0 F h k
-- X11_fault
def f_X11_fault (g : ob_St) (n0 : Nat) : Option Int32 :=
  (ob_gI g 11 n0 2).bind fun v1 => some v1
theorem b_X11_fault_0 {C : ob_Cx} (F : ob_Fx C cX11_fault 1 RX11 (some .int) 0 0) {g : ob_St} {n0 : Nat} {r : Int32} (h : f_X11_fault g n0 = some r) (k : ob_Rt C (some (.int r)) g) : ob_Ev C 0 [(0, ob_rv C n0)] [] g := by
  unfold f_X11_fault at h
  refine ob_rload_n F 0 dX11_fault_0 rfl ?_
  refine ob_getI F dX11_fault_1 fl_X11_17 h fun v1 h => ?_
  obtain rfl := Option.some.inj h
  exact ob_iret F dX11_fault_4 k
theorem t_X11_fault {cf : ob_Cf} {g : ob_St} {n0 : Nat} {r : Int32} (h : f_X11_fault g n0 = some r) : ob_Mt cf yX11_fault cX11_fault 1 (some .int) 0 0 [ob_rw cf n0] g (some (.int r)) g := by
  refine ob_enter (by decide) (Nat.le_of_ble_eq_true rfl) (Or.inl rfl) ?_
  intro C hC F k
  subst hC
  exact b_X11_fault_0 F h k
-- X5_cashFrom
def Lb_X5_cashFrom_4 (rec : Int32 → Int32 → Option (Int32)) (g : ob_St) (n0 : Nat) (x2 : Int32) (x3 : Int32) : Option (Int32) :=
  (ob_gI g 5 n0 5).bind fun v1 => (if v1 < x3 then (some x2) else ((ob_gR 5 n0 1).bind fun v2 => (ob_rI g 14 v2 x3).bind fun v3 => rec (x2 + v3) (x3 + 1)))
def L_X5_cashFrom_4 (g : ob_St) (n0 : Nat) : Nat → Int32 → Int32 → Option (Int32)
  | 0, _, _ => none
  | n + 1, x2, x3 => Lb_X5_cashFrom_4 (L_X5_cashFrom_4 g n0 n) g n0 x2 x3
theorem lb_X5_cashFrom_4 {C : ob_Cx} {rec : Int32 → Int32 → Option (Int32)} (F : ob_Fx C cX5_cashFrom 4 RX5 (some .int) 0 0) {g : ob_St} {n0 : Nat} {x2 : Int32} {x3 : Int32} {x : (Int32)} (hr : ∀ {x2 : Int32} {x3 : Int32} {x : (Int32)}, rec x2 x3 = some x → ob_Ev C 27 [(2, .int x)] [] g → ob_Ev C 4 [(0, ob_rv C n0), (2, .int x2), (3, .int x3)] [] g) (h : Lb_X5_cashFrom_4 rec g n0 x2 x3 = some x) (k0 : ob_Ev C 27 [(2, .int x)] [] g) : ob_Ev C 4 [(0, ob_rv C n0), (2, .int x2), (3, .int x3)] [] g := by
  unfold Lb_X5_cashFrom_4 at h
  refine ob_iload_n F 2 dX5_cashFrom_4 rfl ?_
  refine ob_rload_n F 0 dX5_cashFrom_5 rfl ?_
  refine ob_getI F dX5_cashFrom_6 fl_X5_31 h fun v1 h => ?_
  refine ob_icmp_gt F 27 dX5_cashFrom_9 (by decide) h (fun h => ?_) (fun h => ?_)
  · obtain rfl := Option.some.inj h
    exact ob_sub [1] rfl (k0)
  · refine ob_iload_n F 1 dX5_cashFrom_12 rfl ?_
    refine ob_rload_n F 0 dX5_cashFrom_13 rfl ?_
    refine ob_getR F dX5_cashFrom_14 fl_X5_15 h fun v2 h => ?_
    refine ob_iload_n F 2 dX5_cashFrom_17 rfl ?_
    refine ob_iald F dX5_cashFrom_18 h fun v3 h => ?_
    refine ob_iadd F dX5_cashFrom_19 ?_
    refine ob_istore_n F (ls2 := [(2, .int (x2 + v3)), (0, ob_rv C n0), (3, .int x3)]) dX5_cashFrom_20 (by decide) rfl ?_
    refine ob_iinc F (v := (x3 + 1)) (ls2 := [(3, .int (x3 + 1)), (2, .int (x2 + v3)), (0, ob_rv C n0)]) 2 dX5_cashFrom_21 rfl rfl (by decide) rfl ?_
    refine ob_goto F 4 dX5_cashFrom_24 (by decide) ?_
    exact ob_sub [2, 1, 0] rfl (hr h k0)
theorem l_X5_cashFrom_4 {C : ob_Cx} (F : ob_Fx C cX5_cashFrom 4 RX5 (some .int) 0 0) {g : ob_St} {n0 : Nat} : ∀ (n : Nat) {x2 : Int32} {x3 : Int32} {x : (Int32)}, L_X5_cashFrom_4 g n0 n x2 x3 = some x → ob_Ev C 27 [(2, .int x)] [] g → ob_Ev C 4 [(0, ob_rv C n0), (2, .int x2), (3, .int x3)] [] g := by
  intro n
  induction n with
  | zero => intro x2 x3 x h; exact ob_no h
  | succ n ih => intro x2 x3 x h k0; exact lb_X5_cashFrom_4 F ih h k0
def f_X5_cashFrom (g : ob_St) (n0 : Nat) (x1 : Int32) : Option Int32 :=
  (L_X5_cashFrom_4 g n0 ob_FU 0 x1).bind fun x_4 => some x_4
theorem b_X5_cashFrom_0 {C : ob_Cx} (F : ob_Fx C cX5_cashFrom 4 RX5 (some .int) 0 0) {g : ob_St} {n0 : Nat} {x1 : Int32} {r : Int32} (h : f_X5_cashFrom g n0 x1 = some r) (k : ob_Rt C (some (.int r)) g) : ob_Ev C 0 [(0, ob_rv C n0), (1, .int x1)] [] g := by
  unfold f_X5_cashFrom at h
  refine ob_iconst F (v := 0) dX5_cashFrom_0 (by decide) ?_
  refine ob_istore_n F (ls2 := [(2, .int 0), (0, ob_rv C n0), (1, .int x1)]) dX5_cashFrom_1 (by decide) rfl ?_
  refine ob_iload_n F 2 dX5_cashFrom_2 rfl ?_
  refine ob_istore_n F (ls2 := [(3, .int x1), (2, .int 0), (0, ob_rv C n0), (1, .int x1)]) dX5_cashFrom_3 (by decide) rfl ?_
  obtain ⟨x_4, hx, h⟩ := Option.bind_eq_some_iff.mp h
  refine ob_sub [2, 1, 0] rfl (l_X5_cashFrom_4 F ob_FU hx ?_)
  refine ob_iload_n F 0 dX5_cashFrom_27 rfl ?_
  obtain rfl := Option.some.inj h
  exact ob_iret F dX5_cashFrom_28 k
theorem t_X5_cashFrom {cf : ob_Cf} {g : ob_St} {n0 : Nat} {x1 : Int32} {r : Int32} (h : f_X5_cashFrom g n0 x1 = some r) : ob_Mt cf yX5_cashFrom cX5_cashFrom 4 (some .int) 0 0 [ob_rw cf n0, .int x1] g (some (.int r)) g := by
  refine ob_enter (by decide) (Nat.le_of_ble_eq_true rfl) (Or.inl rfl) ?_
  intro C hC F k
  subst hC
  exact b_X5_cashFrom_0 F h k
-- X11_count
def f_X11_count (g : ob_St) (n0 : Nat) (x1 : Int32) : Option Int32 :=
  (if x1 = 0 then ((ob_gR 11 n0 3).bind fun v1 => (ob_gI g 5 v1 5).bind fun v2 => some v2) else (if x1 = 1 then ((ob_gR 11 n0 3).bind fun v3 => (ob_gI g 5 v3 6).bind fun v4 => some v4) else (if x1 = 2 then ((ob_gR 11 n0 3).bind fun v5 => (ob_gI g 5 v5 4).bind fun v6 => some v6) else (if x1 = 3 then ((ob_gR 11 n0 3).bind fun v7 => (ob_gI g 5 v7 3).bind fun v8 => some v8) else (if x1 = 4 then ((ob_gR 11 n0 3).bind fun v9 => (ob_ck 5 v9 (f_X5_cashFrom g v9 0)).bind fun v10 => some v10) else (if x1 = 5 then ((ob_gR 11 n0 7).bind fun v11 => (ob_gI g 0 v11 3).bind fun v12 => some v12) else (if x1 = 6 then ((ob_gI g 11 n0 1).bind fun v13 => some v13) else (some (-1)))))))))
theorem b_X11_count_0 {C : ob_Cx} (F : ob_Fx C cX11_count 2 RX11 (some .int) 1 23) {g : ob_St} {n0 : Nat} {x1 : Int32} {r : Int32} (h : f_X11_count g n0 x1 = some r) (k : ob_Rt C (some (.int r)) g) : ob_Ev C 0 [(0, ob_rv C n0), (1, .int x1)] [] g := by
  unfold f_X11_count at h
  refine ob_iload_n F 1 dX11_count_0 rfl ?_
  by_cases c0 : x1 = 0
  · rw [if_pos c0] at h
    refine ob_tsi F 0 44 dX11_count_1 c0 (by decide) (by decide) rfl (by decide) ?_
    refine ob_rload_n F 0 dX11_count_44 rfl ?_
    refine ob_getR F dX11_count_45 fl_X11_23 h fun v1 h => ?_
    refine ob_getI F dX11_count_48 fl_X11_111 h fun v2 h => ?_
    obtain rfl := Option.some.inj h
    exact ob_iret F dX11_count_51 k
  rw [if_neg c0] at h
  by_cases c1 : x1 = 1
  · rw [if_pos c1] at h
    refine ob_tsi F 1 52 dX11_count_1 c1 (by decide) (by decide) rfl (by decide) ?_
    refine ob_rload_n F 0 dX11_count_52 rfl ?_
    refine ob_getR F dX11_count_53 fl_X11_23 h fun v3 h => ?_
    refine ob_getI F dX11_count_56 fl_X11_108 h fun v4 h => ?_
    obtain rfl := Option.some.inj h
    exact ob_iret F dX11_count_59 k
  rw [if_neg c1] at h
  by_cases c2 : x1 = 2
  · rw [if_pos c2] at h
    refine ob_tsi F 2 60 dX11_count_1 c2 (by decide) (by decide) rfl (by decide) ?_
    refine ob_rload_n F 0 dX11_count_60 rfl ?_
    refine ob_getR F dX11_count_61 fl_X11_23 h fun v5 h => ?_
    refine ob_getI F dX11_count_64 fl_X11_114 h fun v6 h => ?_
    obtain rfl := Option.some.inj h
    exact ob_iret F dX11_count_67 k
  rw [if_neg c2] at h
  by_cases c3 : x1 = 3
  · rw [if_pos c3] at h
    refine ob_tsi F 3 68 dX11_count_1 c3 (by decide) (by decide) rfl (by decide) ?_
    refine ob_rload_n F 0 dX11_count_68 rfl ?_
    refine ob_getR F dX11_count_69 fl_X11_23 h fun v7 h => ?_
    refine ob_getI F dX11_count_72 fl_X11_117 h fun v8 h => ?_
    obtain rfl := Option.some.inj h
    exact ob_iret F dX11_count_75 k
  rw [if_neg c3] at h
  by_cases c4 : x1 = 4
  · rw [if_pos c4] at h
    refine ob_tsi F 4 76 dX11_count_1 c4 (by decide) (by decide) rfl (by decide) ?_
    refine ob_rload_n F 0 dX11_count_76 rfl ?_
    refine ob_getR F dX11_count_77 fl_X11_23 h fun v9 h => ?_
    refine ob_iconst F (v := 0) dX11_count_80 (by decide) ?_
    refine ob_cVi F dX11_count_81 im_X5_cashFrom tw3_160 h (fun b hb => t_X5_cashFrom hb) rfl rfl (Nat.le_of_ble_eq_true rfl) (by decide) fun v10 h => ?_
    obtain rfl := Option.some.inj h
    exact ob_iret F dX11_count_84 k
  rw [if_neg c4] at h
  by_cases c5 : x1 = 5
  · rw [if_pos c5] at h
    refine ob_tsi F 5 85 dX11_count_1 c5 (by decide) (by decide) rfl (by decide) ?_
    refine ob_rload_n F 0 dX11_count_85 rfl ?_
    refine ob_getR F dX11_count_86 fl_X11_47 h fun v11 h => ?_
    refine ob_getI F dX11_count_89 fl_X11_101 h fun v12 h => ?_
    obtain rfl := Option.some.inj h
    exact ob_iret F dX11_count_92 k
  rw [if_neg c5] at h
  by_cases c6 : x1 = 6
  · rw [if_pos c6] at h
    refine ob_tsi F 6 93 dX11_count_1 c6 (by decide) (by decide) rfl (by decide) ?_
    refine ob_rload_n F 0 dX11_count_93 rfl ?_
    refine ob_getI F dX11_count_94 fl_X11_13 h fun v13 h => ?_
    obtain rfl := Option.some.inj h
    exact ob_iret F dX11_count_97 k
  rw [if_neg c6] at h
  have q0 := ob_nei c0 (k := 0) rfl
  have q1 := ob_nei c1 (k := 1) rfl
  have q2 := ob_nei c2 (k := 2) rfl
  have q3 := ob_nei c3 (k := 3) rfl
  have q4 := ob_nei c4 (k := 4) rfl
  have q5 := ob_nei c5 (k := 5) rfl
  have q6 := ob_nei c6 (k := 6) rfl
  refine ob_tso F 98 dX11_count_1 (by omega) (by decide) ?_
  refine ob_iconst F (v := (-1)) dX11_count_98 (by decide) ?_
  obtain rfl := Option.some.inj h
  exact ob_iret F dX11_count_99 k
theorem t_X11_count {cf : ob_Cf} {g : ob_St} {n0 : Nat} {x1 : Int32} {r : Int32} (h : f_X11_count g n0 x1 = some r) : ob_Mt cf yX11_count cX11_count 2 (some .int) 1 23 [ob_rw cf n0, .int x1] g (some (.int r)) g := by
  refine ob_enter (by decide) (Nat.le_of_ble_eq_true rfl) (Or.inl rfl) ?_
  intro C hC F k
  subst hC
  exact b_X11_count_0 F h k
-- X11_isStep
def f_X11_isStep (g : ob_St) (n0 : Nat) (x1 : Int32) : Option Int32 :=
  (if x1 < 0 then (some 0) else ((ob_gR 11 n0 3).bind fun v1 => (ob_gI g 5 v1 5).bind fun v2 => (if v2 < x1 then (some 0) else (some 1))))
theorem b_X11_isStep_0 {C : ob_Cx} (F : ob_Fx C cX11_isStep 2 RX11 (some .boolean) 0 0) {g : ob_St} {n0 : Nat} {x1 : Int32} {r : Int32} (h : f_X11_isStep g n0 x1 = some r) (k : ob_Rt C (some (.int r)) g) : ob_Ev C 0 [(0, ob_rv C n0), (1, .int x1)] [] g := by
  unfold f_X11_isStep at h
  refine ob_iload_n F 1 dX11_isStep_0 rfl ?_
  refine ob_if_lt F 19 dX11_isStep_1 (by decide) h (fun h => ?_) (fun h => ?_)
  · refine ob_iconst F (v := 0) dX11_isStep_19 (by decide) ?_
    obtain rfl := Option.some.inj h
    exact ob_zret F dX11_isStep_20 (Or.inl rfl) k
  · refine ob_iload_n F 1 dX11_isStep_4 rfl ?_
    refine ob_rload_n F 0 dX11_isStep_5 rfl ?_
    refine ob_getR F dX11_isStep_6 fl_X11_23 h fun v1 h => ?_
    refine ob_getI F dX11_isStep_9 fl_X11_111 h fun v2 h => ?_
    refine ob_icmp_gt F 19 dX11_isStep_12 (by decide) h (fun h => ?_) (fun h => ?_)
    · refine ob_iconst F (v := 0) dX11_isStep_19 (by decide) ?_
      obtain rfl := Option.some.inj h
      exact ob_zret F dX11_isStep_20 (Or.inl rfl) k
    · refine ob_iconst F (v := 1) dX11_isStep_15 (by decide) ?_
      refine ob_goto F 20 dX11_isStep_16 (by decide) ?_
      obtain rfl := Option.some.inj h
      exact ob_zret F dX11_isStep_20 (Or.inr rfl) k
theorem t_X11_isStep {cf : ob_Cf} {g : ob_St} {n0 : Nat} {x1 : Int32} {r : Int32} (h : f_X11_isStep g n0 x1 = some r) : ob_Mt cf yX11_isStep cX11_isStep 2 (some .boolean) 0 0 [ob_rw cf n0, .int x1] g (some (.int r)) g := by
  refine ob_enter (by decide) (Nat.le_of_ble_eq_true rfl) (Or.inr rfl) ?_
  intro C hC F k
  subst hC
  exact b_X11_isStep_0 F h k
-- X11_step
def B_X11_step_30 (g : ob_St) (n0 : Nat) (x1 : Int32) (x2 : Int32) : Option Int32 :=
  (if x2 = 1 then ((ob_ck 11 n0 (f_X11_isStep g n0 x1)).bind fun v1 => (if v1 = 0 then (some (-1)) else ((ob_gR 11 n0 3).bind fun v2 => (ob_gR 5 v2 1).bind fun v3 => (ob_rI g 14 v3 x1).bind fun v4 => some v4))) else (some (-1)))
theorem b_X11_step_30 {C : ob_Cx} (F : ob_Fx C cX11_step 3 RX11 (some .int) 1 21) {g : ob_St} {n0 : Nat} {x1 : Int32} {x2 : Int32} {r : Int32} (h : B_X11_step_30 g n0 x1 x2 = some r) (k : ob_Rt C (some (.int r)) g) : ob_Ev C 30 [(0, ob_rv C n0), (1, .int x1), (2, .int x2)] [] g := by
  unfold B_X11_step_30 at h
  refine ob_iload_n F 2 dX11_step_30 rfl ?_
  refine ob_iconst F (v := 1) dX11_step_31 (by decide) ?_
  refine ob_icmp_ne F 53 dX11_step_32 (by decide) h (fun h => ?_) (fun h => ?_)
  · refine ob_iconst F (v := (-1)) dX11_step_53 (by decide) ?_
    obtain rfl := Option.some.inj h
    exact ob_iret F dX11_step_54 k
  · refine ob_rload_n F 0 dX11_step_35 rfl ?_
    refine ob_iload_n F 1 dX11_step_36 rfl ?_
    refine ob_cVi F dX11_step_37 im_X11_isStep tw3_168 h (fun b hb => t_X11_isStep hb) rfl rfl (Nat.le_of_ble_eq_true rfl) (by decide) fun v1 h => ?_
    refine ob_if_eq F 53 dX11_step_40 (by decide) h (fun h => ?_) (fun h => ?_)
    · refine ob_iconst F (v := (-1)) dX11_step_53 (by decide) ?_
      obtain rfl := Option.some.inj h
      exact ob_iret F dX11_step_54 k
    · refine ob_rload_n F 0 dX11_step_43 rfl ?_
      refine ob_getR F dX11_step_44 fl_X11_23 h fun v2 h => ?_
      refine ob_getR F dX11_step_47 fl_X11_131 h fun v3 h => ?_
      refine ob_iload_n F 1 dX11_step_50 rfl ?_
      refine ob_iald F dX11_step_51 h fun v4 h => ?_
      obtain rfl := Option.some.inj h
      exact ob_iret F dX11_step_52 k
def f_X11_step (g : ob_St) (n0 : Nat) (x1 : Int32) (x2 : Int32) : Option Int32 :=
  (if x2 = 0 then ((if x1 < 1 then (B_X11_step_30 g n0 x1 x2) else ((ob_gR 11 n0 3).bind fun v5 => (ob_gI g 5 v5 5).bind fun v6 => (if v6 < x1 then (B_X11_step_30 g n0 x1 x2) else ((ob_gR 11 n0 3).bind fun v7 => (ob_gR 5 v7 0).bind fun v8 => (ob_rI g 14 v8 x1).bind fun v9 => some v9))))) else (B_X11_step_30 g n0 x1 x2))
theorem b_X11_step_0 {C : ob_Cx} (F : ob_Fx C cX11_step 3 RX11 (some .int) 1 21) {g : ob_St} {n0 : Nat} {x1 : Int32} {x2 : Int32} {r : Int32} (h : f_X11_step g n0 x1 x2 = some r) (k : ob_Rt C (some (.int r)) g) : ob_Ev C 0 [(0, ob_rv C n0), (1, .int x1), (2, .int x2)] [] g := by
  unfold f_X11_step at h
  refine ob_iload_n F 2 dX11_step_0 rfl ?_
  refine ob_if_ne F 30 dX11_step_1 (by decide) h (fun h => ?_) (fun h => ?_)
  · exact b_X11_step_30 F h k
  · refine ob_iload_n F 1 dX11_step_4 rfl ?_
    refine ob_iconst F (v := 1) dX11_step_5 (by decide) ?_
    refine ob_icmp_lt F 30 dX11_step_6 (by decide) h (fun h => ?_) (fun h => ?_)
    · exact b_X11_step_30 F h k
    · refine ob_iload_n F 1 dX11_step_9 rfl ?_
      refine ob_rload_n F 0 dX11_step_10 rfl ?_
      refine ob_getR F dX11_step_11 fl_X11_23 h fun v5 h => ?_
      refine ob_getI F dX11_step_14 fl_X11_111 h fun v6 h => ?_
      refine ob_icmp_gt F 30 dX11_step_17 (by decide) h (fun h => ?_) (fun h => ?_)
      · exact b_X11_step_30 F h k
      · refine ob_rload_n F 0 dX11_step_20 rfl ?_
        refine ob_getR F dX11_step_21 fl_X11_23 h fun v7 h => ?_
        refine ob_getR F dX11_step_24 fl_X11_124 h fun v8 h => ?_
        refine ob_iload_n F 1 dX11_step_27 rfl ?_
        refine ob_iald F dX11_step_28 h fun v9 h => ?_
        obtain rfl := Option.some.inj h
        exact ob_iret F dX11_step_29 k
theorem t_X11_step {cf : ob_Cf} {g : ob_St} {n0 : Nat} {x1 : Int32} {x2 : Int32} {r : Int32} (h : f_X11_step g n0 x1 x2 = some r) : ob_Mt cf yX11_step cX11_step 3 (some .int) 1 21 [ob_rw cf n0, .int x1, .int x2] g (some (.int r)) g := by
  refine ob_enter (by decide) (Nat.le_of_ble_eq_true rfl) (Or.inl rfl) ?_
  intro C hC F k
  subst hC
  exact b_X11_step_0 F h k
