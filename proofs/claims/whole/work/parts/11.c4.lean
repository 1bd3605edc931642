-- X2_judge
def B_X2_judge_76 (g : ob_St) (n0 : Nat) (x3 : Int32) (x4 : Int32) (x5 : Int32) (y8 : Int64) : Option ob_St :=
  (ob_gR 2 n0 1).bind fun v5 => (ob_rR 21 v5 x5).bind fun v6 => (if y8 = (-1) then ((ob_wL g v6 x4 0).bind fun g11 => some g11) else ((ob_gR 2 n0 0).bind fun v7 => (ob_gR 3 v7 3).bind fun v8 => (ob_rL g v8 x3).bind fun v9 => (ob_wL g v6 x4 ((-y8) * v9)).bind fun g10 => some g10))
theorem b_X2_judge_76 {C : ob_Cx} (F : ob_Fx C cX2_judge 20 RX2 none 3 72) {g : ob_St} {n0 : Nat} {x3 : Int32} {x4 : Int32} {x5 : Int32} {y8 : Int64} {r : ob_St} (h : B_X2_judge_76 g n0 x3 x4 x5 y8 = some r) (k : ob_Rt C none r) : ob_Ev C 76 [(0, ob_rv C n0), (3, .int x3), (4, .int x4), (5, .int x5), (8, .long y8)] [] g := by
  unfold B_X2_judge_76 at h
  refine ob_rload_n F 0 dX2_judge_76 rfl ?_
  refine ob_getR F dX2_judge_77 fl_X2_11 h fun v5 h => ?_
  refine ob_iload F 3 dX2_judge_80 rfl ?_
  refine ob_aald F dX2_judge_82 (by decide) h fun v6 h => ?_
  refine ob_iload F 2 dX2_judge_83 rfl ?_
  refine ob_lload F 4 dX2_judge_85 rfl ?_
  refine ob_ldc2 F (v := (-1)) dX2_judge_87 tw4_83 ?_
  refine ob_lcmp_ne F 98 dX2_judge_90 dX2_judge_91 (by decide) h (fun h => ?_) (fun h => ?_)
  · refine ob_lload F 4 dX2_judge_98 rfl ?_
    refine ob_lneg F dX2_judge_100 ?_
    refine ob_rload_n F 0 dX2_judge_101 rfl ?_
    refine ob_getR F dX2_judge_102 fl_X2_21 h fun v7 h => ?_
    refine ob_getR F dX2_judge_105 fl_X2_59 h fun v8 h => ?_
    refine ob_iload_n F 1 dX2_judge_108 rfl ?_
    refine ob_lald F dX2_judge_109 h fun v9 h => ?_
    refine ob_lmul F dX2_judge_110 ?_
    refine ob_last F dX2_judge_111 h fun g10 h => ?_
    obtain rfl := Option.some.inj h
    exact ob_vret F dX2_judge_112 k
  · refine ob_lconst F (v := 0) dX2_judge_94 (by decide) ?_
    refine ob_goto F 111 dX2_judge_95 (by decide) ?_
    refine ob_last F dX2_judge_111 h fun g11 h => ?_
    obtain rfl := Option.some.inj h
    exact ob_vret F dX2_judge_112 k
def B_X2_judge_280 (g : ob_St) (n0 : Nat) (x4 : Int32) (x5 : Int32) (x17 : Int32) (x18 : Int32) (x19 : Int32) (s0 : Nat) (s1 : Int32) (s2 : Int64) : Option ob_St :=
  (ob_wL g s0 s1 s2).bind fun g35 => (ob_gR 2 n0 2).bind fun v36 => (ob_rR 20 v36 x5).bind fun v37 => (if x19 = 0 then ((ob_wI g35 v37 x4 x18).bind fun g38 => some g38) else ((ob_wI g35 v37 x4 x17).bind fun g39 => some g39))
theorem b_X2_judge_280 {C : ob_Cx} (F : ob_Fx C cX2_judge 20 RX2 none 3 72) {g : ob_St} {n0 : Nat} {x4 : Int32} {x5 : Int32} {x17 : Int32} {x18 : Int32} {x19 : Int32} {s0 : Nat} {s1 : Int32} {s2 : Int64} {r : ob_St} (h : B_X2_judge_280 g n0 x4 x5 x17 x18 x19 s0 s1 s2 = some r) (k : ob_Rt C none r) : ob_Ev C 280 [(0, ob_rv C n0), (4, .int x4), (5, .int x5), (17, .int x17), (18, .int x18), (19, .int x19)] [.long s2, .int s1, ob_rv C s0] g := by
  unfold B_X2_judge_280 at h
  refine ob_last F dX2_judge_280 h fun g35 h => ?_
  refine ob_rload_n F 0 dX2_judge_281 rfl ?_
  refine ob_getR F dX2_judge_282 fl_X2_18 h fun v36 h => ?_
  refine ob_iload F 2 dX2_judge_285 rfl ?_
  refine ob_aald F dX2_judge_287 (by decide) h fun v37 h => ?_
  refine ob_iload F 1 dX2_judge_288 rfl ?_
  refine ob_iload F 5 dX2_judge_290 rfl ?_
  refine ob_if_eq F 300 dX2_judge_292 (by decide) h (fun h => ?_) (fun h => ?_)
  · refine ob_iload F 4 dX2_judge_300 rfl ?_
    refine ob_iast F dX2_judge_302 h fun g38 h => ?_
    obtain rfl := Option.some.inj h
    exact ob_vret F dX2_judge_303 k
  · refine ob_iload F 3 dX2_judge_295 rfl ?_
    refine ob_goto F 302 dX2_judge_297 (by decide) ?_
    refine ob_iast F dX2_judge_302 h fun g39 h => ?_
    obtain rfl := Option.some.inj h
    exact ob_vret F dX2_judge_303 k
def B_X2_judge_257 (g : ob_St) (n0 : Nat) (x4 : Int32) (x5 : Int32) (y13 : Int64) (y15 : Int64) (x17 : Int32) (x18 : Int32) (s0 : Int32) : Option ob_St :=
  (ob_gR 2 n0 1).bind fun v33 => (ob_rR 21 v33 x5).bind fun v34 => (if s0 = 0 then (B_X2_judge_280 g n0 x4 x5 x17 x18 s0 v34 x4 y15) else (B_X2_judge_280 g n0 x4 x5 x17 x18 s0 v34 x4 y13))
theorem b_X2_judge_257 {C : ob_Cx} (F : ob_Fx C cX2_judge 20 RX2 none 3 72) {g : ob_St} {n0 : Nat} {x4 : Int32} {x5 : Int32} {y13 : Int64} {y15 : Int64} {x17 : Int32} {x18 : Int32} {s0 : Int32} {r : ob_St} (h : B_X2_judge_257 g n0 x4 x5 y13 y15 x17 x18 s0 = some r) (k : ob_Rt C none r) : ob_Ev C 257 [(0, ob_rv C n0), (4, .int x4), (5, .int x5), (13, .long y13), (15, .long y15), (17, .int x17), (18, .int x18)] [.int s0] g := by
  unfold B_X2_judge_257 at h
  refine ob_istore F (ls2 := [(19, .int s0), (0, ob_rv C n0), (4, .int x4), (5, .int x5), (13, .long y13), (15, .long y15), (17, .int x17), (18, .int x18)]) dX2_judge_257 (by decide) rfl ?_
  refine ob_rload_n F 1 dX2_judge_259 rfl ?_
  refine ob_getR F dX2_judge_260 fl_X2_11 h fun v33 h => ?_
  refine ob_iload F 3 dX2_judge_263 rfl ?_
  refine ob_aald F dX2_judge_265 (by decide) h fun v34 h => ?_
  refine ob_iload F 2 dX2_judge_266 rfl ?_
  refine ob_iload F 0 dX2_judge_268 rfl ?_
  refine ob_if_eq F 278 dX2_judge_270 (by decide) h (fun h => ?_) (fun h => ?_)
  · refine ob_lload F 5 dX2_judge_278 rfl ?_
    exact ob_sub [1, 2, 3, 6, 7, 0] rfl (b_X2_judge_280 F h k)
  · refine ob_lload F 4 dX2_judge_273 rfl ?_
    refine ob_goto F 280 dX2_judge_275 (by decide) ?_
    exact ob_sub [1, 2, 3, 6, 7, 0] rfl (b_X2_judge_280 F h k)
def B_X2_judge_252 (g : ob_St) (n0 : Nat) (x4 : Int32) (x5 : Int32) (y13 : Int64) (y15 : Int64) (x17 : Int32) (x18 : Int32) : Option ob_St :=
  B_X2_judge_257 g n0 x4 x5 y13 y15 x17 x18 1
theorem b_X2_judge_252 {C : ob_Cx} (F : ob_Fx C cX2_judge 20 RX2 none 3 72) {g : ob_St} {n0 : Nat} {x4 : Int32} {x5 : Int32} {y13 : Int64} {y15 : Int64} {x17 : Int32} {x18 : Int32} {r : ob_St} (h : B_X2_judge_252 g n0 x4 x5 y13 y15 x17 x18 = some r) (k : ob_Rt C none r) : ob_Ev C 252 [(0, ob_rv C n0), (4, .int x4), (5, .int x5), (13, .long y13), (15, .long y15), (17, .int x17), (18, .int x18)] [] g := by
  unfold B_X2_judge_252 at h
  refine ob_iconst F (v := 1) dX2_judge_252 (by decide) ?_
  refine ob_goto F 257 dX2_judge_253 (by decide) ?_
  exact b_X2_judge_257 F h k
def B_X2_judge_256 (g : ob_St) (n0 : Nat) (x4 : Int32) (x5 : Int32) (y13 : Int64) (y15 : Int64) (x17 : Int32) (x18 : Int32) : Option ob_St :=
  B_X2_judge_257 g n0 x4 x5 y13 y15 x17 x18 0
theorem b_X2_judge_256 {C : ob_Cx} (F : ob_Fx C cX2_judge 20 RX2 none 3 72) {g : ob_St} {n0 : Nat} {x4 : Int32} {x5 : Int32} {y13 : Int64} {y15 : Int64} {x17 : Int32} {x18 : Int32} {r : ob_St} (h : B_X2_judge_256 g n0 x4 x5 y13 y15 x17 x18 = some r) (k : ob_Rt C none r) : ob_Ev C 256 [(0, ob_rv C n0), (4, .int x4), (5, .int x5), (13, .long y13), (15, .long y15), (17, .int x17), (18, .int x18)] [] g := by
  unfold B_X2_judge_256 at h
  refine ob_iconst F (v := 0) dX2_judge_256 (by decide) ?_
  exact b_X2_judge_257 F h k
def B_X2_judge_123 (g : ob_St) (n0 : Nat) (n1 : Nat) (x3 : Int32) (x4 : Int32) (x5 : Int32) (x7 : Int32) (s0 : Int32) : Option ob_St :=
  (ob_gR 2 n0 0).bind fun v15 => (ob_ck 3 v15 (f_X3_upFrom v15 x3 x4)).bind fun v16 => (ob_gR 2 n0 0).bind fun v17 => (ob_ck 3 v17 (f_X3_downFrom v17 x3 x4)).bind fun v18 => (ob_gR 2 n0 1).bind fun v19 => (ob_rR 21 v19 s0).bind fun v20 => (ob_rL g v20 v16).bind fun v21 => (ob_ck 2 n0 (f_X2_gainTo g n0 n1 x3 x4 v16 x7)).bind fun v22 => (ob_gR 2 n0 1).bind fun v23 => (ob_rR 21 v23 s0).bind fun v24 => (ob_rL g v24 v18).bind fun v25 => (ob_ck 2 n0 (f_X2_gainTo g n0 n1 x3 x4 v18 x7)).bind fun v26 => (ob_gR 2 n0 2).bind fun v27 => (ob_rR 20 v27 s0).bind fun v28 => (ob_rI g 14 v28 v16).bind fun v29 => (ob_gR 2 n0 2).bind fun v30 => (ob_rR 20 v30 s0).bind fun v31 => (ob_rI g 14 v31 v18).bind fun v32 => (if (v25 + v26) < (v21 + v22) then (B_X2_judge_252 g n0 x4 x5 (v21 + v22) (v25 + v26) ((v29 * 2) + 1) (v32 * 2)) else ((if (v21 + v22) = (v25 + v26) then ((if (v32 * 2) ≤ ((v29 * 2) + 1) then (B_X2_judge_256 g n0 x4 x5 (v21 + v22) (v25 + v26) ((v29 * 2) + 1) (v32 * 2)) else (B_X2_judge_252 g n0 x4 x5 (v21 + v22) (v25 + v26) ((v29 * 2) + 1) (v32 * 2)))) else (B_X2_judge_256 g n0 x4 x5 (v21 + v22) (v25 + v26) ((v29 * 2) + 1) (v32 * 2)))))
theorem b_X2_judge_123 {C : ob_Cx} (F : ob_Fx C cX2_judge 20 RX2 none 3 72) {g : ob_St} {n0 : Nat} {n1 : Nat} {x3 : Int32} {x4 : Int32} {x5 : Int32} {x7 : Int32} {s0 : Int32} {r : ob_St} (h : B_X2_judge_123 g n0 n1 x3 x4 x5 x7 s0 = some r) (k : ob_Rt C none r) : ob_Ev C 123 [(0, ob_rv C n0), (1, ob_rv C n1), (3, .int x3), (4, .int x4), (5, .int x5), (7, .int x7)] [.int s0] g := by
  unfold B_X2_judge_123 at h
  refine ob_istore F (ls2 := [(10, .int s0), (0, ob_rv C n0), (1, ob_rv C n1), (3, .int x3), (4, .int x4), (5, .int x5), (7, .int x7)]) dX2_judge_123 (by decide) rfl ?_
  refine ob_rload_n F 1 dX2_judge_125 rfl ?_
  refine ob_getR F dX2_judge_126 fl_X2_21 h fun v15 h => ?_
  refine ob_iload_n F 3 dX2_judge_129 rfl ?_
  refine ob_iload F 4 dX2_judge_130 rfl ?_
  refine ob_cVi F dX2_judge_132 im_X3_upFrom tw4_85 h (fun b hb => t_X3_upFrom hb) rfl rfl (Nat.le_of_ble_eq_true rfl) (by decide) fun v16 h => ?_
  refine ob_istore F (ls2 := [(11, .int v16), (10, .int s0), (0, ob_rv C n0), (1, ob_rv C n1), (3, .int x3), (4, .int x4), (5, .int x5), (7, .int x7)]) dX2_judge_135 (by decide) rfl ?_
  refine ob_rload_n F 2 dX2_judge_137 rfl ?_
  refine ob_getR F dX2_judge_138 fl_X2_21 h fun v17 h => ?_
  refine ob_iload_n F 4 dX2_judge_141 rfl ?_
  refine ob_iload F 5 dX2_judge_142 rfl ?_
  refine ob_cVi F dX2_judge_144 im_X3_downFrom tw4_86 h (fun b hb => t_X3_downFrom hb) rfl rfl (Nat.le_of_ble_eq_true rfl) (by decide) fun v18 h => ?_
  refine ob_istore F (ls2 := [(12, .int v18), (11, .int v16), (10, .int s0), (0, ob_rv C n0), (1, ob_rv C n1), (3, .int x3), (4, .int x4), (5, .int x5), (7, .int x7)]) dX2_judge_147 (by decide) rfl ?_
  refine ob_rload_n F 3 dX2_judge_149 rfl ?_
  refine ob_getR F dX2_judge_150 fl_X2_11 h fun v19 h => ?_
  refine ob_iload F 2 dX2_judge_153 rfl ?_
  refine ob_aald F dX2_judge_155 (by decide) h fun v20 h => ?_
  refine ob_iload F 1 dX2_judge_156 rfl ?_
  refine ob_lald F dX2_judge_158 h fun v21 h => ?_
  refine ob_rload_n F 3 dX2_judge_159 rfl ?_
  refine ob_rload_n F 4 dX2_judge_160 rfl ?_
  refine ob_iload_n F 5 dX2_judge_161 rfl ?_
  refine ob_iload F 6 dX2_judge_162 rfl ?_
  refine ob_iload F 1 dX2_judge_164 rfl ?_
  refine ob_iload F 8 dX2_judge_166 rfl ?_
  refine ob_cVl F dX2_judge_168 im_X2_gainTo tw4_87 h (fun b hb => t_X2_gainTo hb) rfl rfl (Nat.le_of_ble_eq_true rfl) (by decide) fun v22 h => ?_
  refine ob_ladd F dX2_judge_171 ?_
  refine ob_lstore F (ls2 := [(13, .long (v21 + v22)), (12, .int v18), (11, .int v16), (10, .int s0), (0, ob_rv C n0), (1, ob_rv C n1), (3, .int x3), (4, .int x4), (5, .int x5), (7, .int x7)]) dX2_judge_172 (by decide) rfl ?_
  refine ob_rload_n F 4 dX2_judge_174 rfl ?_
  refine ob_getR F dX2_judge_175 fl_X2_11 h fun v23 h => ?_
  refine ob_iload F 3 dX2_judge_178 rfl ?_
  refine ob_aald F dX2_judge_180 (by decide) h fun v24 h => ?_
  refine ob_iload F 1 dX2_judge_181 rfl ?_
  refine ob_lald F dX2_judge_183 h fun v25 h => ?_
  refine ob_rload_n F 4 dX2_judge_184 rfl ?_
  refine ob_rload_n F 5 dX2_judge_185 rfl ?_
  refine ob_iload_n F 6 dX2_judge_186 rfl ?_
  refine ob_iload F 7 dX2_judge_187 rfl ?_
  refine ob_iload F 1 dX2_judge_189 rfl ?_
  refine ob_iload F 9 dX2_judge_191 rfl ?_
  refine ob_cVl F dX2_judge_193 im_X2_gainTo tw4_87 h (fun b hb => t_X2_gainTo hb) rfl rfl (Nat.le_of_ble_eq_true rfl) (by decide) fun v26 h => ?_
  refine ob_ladd F dX2_judge_196 ?_
  refine ob_lstore F (ls2 := [(15, .long (v25 + v26)), (13, .long (v21 + v22)), (12, .int v18), (11, .int v16), (10, .int s0), (0, ob_rv C n0), (1, ob_rv C n1), (3, .int x3), (4, .int x4), (5, .int x5), (7, .int x7)]) dX2_judge_197 (by decide) rfl ?_
  refine ob_rload_n F 5 dX2_judge_199 rfl ?_
  refine ob_getR F dX2_judge_200 fl_X2_18 h fun v27 h => ?_
  refine ob_iload F 4 dX2_judge_203 rfl ?_
  refine ob_aald F dX2_judge_205 (by decide) h fun v28 h => ?_
  refine ob_iload F 3 dX2_judge_206 rfl ?_
  refine ob_iald F dX2_judge_208 h fun v29 h => ?_
  refine ob_iconst F (v := 2) dX2_judge_209 (by decide) ?_
  refine ob_imul F dX2_judge_210 ?_
  refine ob_iconst F (v := 1) dX2_judge_211 (by decide) ?_
  refine ob_iadd F dX2_judge_212 ?_
  refine ob_istore F (ls2 := [(17, .int ((v29 * 2) + 1)), (15, .long (v25 + v26)), (13, .long (v21 + v22)), (12, .int v18), (11, .int v16), (10, .int s0), (0, ob_rv C n0), (1, ob_rv C n1), (3, .int x3), (4, .int x4), (5, .int x5), (7, .int x7)]) dX2_judge_213 (by decide) rfl ?_
  refine ob_rload_n F 6 dX2_judge_215 rfl ?_
  refine ob_getR F dX2_judge_216 fl_X2_18 h fun v30 h => ?_
  refine ob_iload F 5 dX2_judge_219 rfl ?_
  refine ob_aald F dX2_judge_221 (by decide) h fun v31 h => ?_
  refine ob_iload F 3 dX2_judge_222 rfl ?_
  refine ob_iald F dX2_judge_224 h fun v32 h => ?_
  refine ob_iconst F (v := 2) dX2_judge_225 (by decide) ?_
  refine ob_imul F dX2_judge_226 ?_
  refine ob_istore F (ls2 := [(18, .int (v32 * 2)), (17, .int ((v29 * 2) + 1)), (15, .long (v25 + v26)), (13, .long (v21 + v22)), (12, .int v18), (11, .int v16), (10, .int s0), (0, ob_rv C n0), (1, ob_rv C n1), (3, .int x3), (4, .int x4), (5, .int x5), (7, .int x7)]) dX2_judge_227 (by decide) rfl ?_
  refine ob_lload F 3 dX2_judge_229 rfl ?_
  refine ob_lload F 2 dX2_judge_231 rfl ?_
  refine ob_lcmp_gt F 252 dX2_judge_233 dX2_judge_234 (by decide) h (fun h => ?_) (fun h => ?_)
  · exact ob_sub [7, 10, 11, 3, 2, 1, 0] rfl (b_X2_judge_252 F h k)
  · refine ob_lload F 3 dX2_judge_237 rfl ?_
    refine ob_lload F 2 dX2_judge_239 rfl ?_
    refine ob_lcmp_ne F 256 dX2_judge_241 dX2_judge_242 (by decide) h (fun h => ?_) (fun h => ?_)
    · exact ob_sub [7, 10, 11, 3, 2, 1, 0] rfl (b_X2_judge_256 F h k)
    · refine ob_iload F 1 dX2_judge_245 rfl ?_
      refine ob_iload F 0 dX2_judge_247 rfl ?_
      refine ob_icmp_ge F 256 dX2_judge_249 (by decide) h (fun h => ?_) (fun h => ?_)
      · exact ob_sub [7, 10, 11, 3, 2, 1, 0] rfl (b_X2_judge_256 F h k)
      · exact ob_sub [7, 10, 11, 3, 2, 1, 0] rfl (b_X2_judge_252 F h k)
def B_X2_judge_25 (g : ob_St) (n0 : Nat) (n1 : Nat) (n2 : Nat) (x3 : Int32) (x4 : Int32) (x5 : Int32) (x6 : Int32) (s0 : Int32) : Option ob_St :=
  (ob_ck 2 n0 (f_X2_givenAt g n0 n1 n2 x3 x4 s0 x6)).bind fun v1 => (ob_gR 2 n0 2).bind fun v2 => (ob_rR 20 v2 x5).bind fun v3 => (ob_wI g v3 x4 0).bind fun g4 => (if v1 = (-1) then ((ob_gR 2 n0 0).bind fun v12 => (ob_gR 3 v12 0).bind fun v13 => (ob_gI g4 5 v13 5).bind fun v14 => (if x3 < v14 then ((if s0 = 0 then (B_X2_judge_123 g4 n0 n1 x3 x4 x5 s0 0) else (B_X2_judge_123 g4 n0 n1 x3 x4 x5 s0 1))) else (B_X2_judge_76 g4 n0 x3 x4 x5 v1))) else (B_X2_judge_76 g4 n0 x3 x4 x5 v1))
theorem b_X2_judge_25 {C : ob_Cx} (F : ob_Fx C cX2_judge 20 RX2 none 3 72) {g : ob_St} {n0 : Nat} {n1 : Nat} {n2 : Nat} {x3 : Int32} {x4 : Int32} {x5 : Int32} {x6 : Int32} {s0 : Int32} {r : ob_St} (h : B_X2_judge_25 g n0 n1 n2 x3 x4 x5 x6 s0 = some r) (k : ob_Rt C none r) : ob_Ev C 25 [(0, ob_rv C n0), (1, ob_rv C n1), (2, ob_rv C n2), (3, .int x3), (4, .int x4), (5, .int x5), (6, .int x6)] [.int s0] g := by
  unfold B_X2_judge_25 at h
  refine ob_istore F (ls2 := [(7, .int s0), (0, ob_rv C n0), (1, ob_rv C n1), (2, ob_rv C n2), (3, .int x3), (4, .int x4), (5, .int x5), (6, .int x6)]) dX2_judge_25 (by decide) rfl ?_
  refine ob_rload_n F 1 dX2_judge_27 rfl ?_
  refine ob_rload_n F 2 dX2_judge_28 rfl ?_
  refine ob_rload_n F 3 dX2_judge_29 rfl ?_
  refine ob_iload_n F 4 dX2_judge_30 rfl ?_
  refine ob_iload F 5 dX2_judge_31 rfl ?_
  refine ob_iload F 0 dX2_judge_33 rfl ?_
  refine ob_iload F 7 dX2_judge_35 rfl ?_
  refine ob_cVl F dX2_judge_37 im_X2_givenAt tw4_78 h (fun b hb => t_X2_givenAt hb) rfl rfl (Nat.le_of_ble_eq_true rfl) (by decide) fun v1 h => ?_
  refine ob_lstore F (ls2 := [(8, .long v1), (7, .int s0), (0, ob_rv C n0), (1, ob_rv C n1), (2, ob_rv C n2), (3, .int x3), (4, .int x4), (5, .int x5), (6, .int x6)]) dX2_judge_40 (by decide) rfl ?_
  refine ob_rload_n F 2 dX2_judge_42 rfl ?_
  refine ob_getR F dX2_judge_43 fl_X2_18 h fun v2 h => ?_
  refine ob_iload F 7 dX2_judge_46 rfl ?_
  refine ob_aald F dX2_judge_48 (by decide) h fun v3 h => ?_
  refine ob_iload F 6 dX2_judge_49 rfl ?_
  refine ob_iconst F (v := 0) dX2_judge_51 (by decide) ?_
  refine ob_iast F dX2_judge_52 h fun g4 h => ?_
  refine ob_lload F 0 dX2_judge_53 rfl ?_
  refine ob_ldc2 F (v := (-1)) dX2_judge_55 tw4_83 ?_
  refine ob_lcmp_ne F 76 dX2_judge_58 dX2_judge_59 (by decide) h (fun h => ?_) (fun h => ?_)
  · exact ob_sub [2, 5, 6, 7, 0] rfl (b_X2_judge_76 F h k)
  · refine ob_iload_n F 5 dX2_judge_62 rfl ?_
    refine ob_rload_n F 2 dX2_judge_63 rfl ?_
    refine ob_getR F dX2_judge_64 fl_X2_21 h fun v12 h => ?_
    refine ob_getR F dX2_judge_67 fl_X2_37 h fun v13 h => ?_
    refine ob_getI F dX2_judge_70 fl_X2_43 h fun v14 h => ?_
    refine ob_icmp_lt F 113 dX2_judge_73 (by decide) h (fun h => ?_) (fun h => ?_)
    · refine ob_iload F 1 dX2_judge_113 rfl ?_
      refine ob_if_eq F 122 dX2_judge_115 (by decide) h (fun h => ?_) (fun h => ?_)
      · refine ob_iconst F (v := 0) dX2_judge_122 (by decide) ?_
        exact ob_sub [2, 3, 5, 6, 7, 1] rfl (b_X2_judge_123 F h k)
      · refine ob_iconst F (v := 1) dX2_judge_118 (by decide) ?_
        refine ob_goto F 123 dX2_judge_119 (by decide) ?_
        exact ob_sub [2, 3, 5, 6, 7, 1] rfl (b_X2_judge_123 F h k)
    · exact ob_sub [2, 5, 6, 7, 0] rfl (b_X2_judge_76 F h k)
def B_X2_judge_20 (g : ob_St) (n0 : Nat) (n1 : Nat) (n2 : Nat) (x3 : Int32) (x4 : Int32) (x5 : Int32) (x6 : Int32) : Option ob_St :=
  B_X2_judge_25 g n0 n1 n2 x3 x4 x5 x6 1
theorem b_X2_judge_20 {C : ob_Cx} (F : ob_Fx C cX2_judge 20 RX2 none 3 72) {g : ob_St} {n0 : Nat} {n1 : Nat} {n2 : Nat} {x3 : Int32} {x4 : Int32} {x5 : Int32} {x6 : Int32} {r : ob_St} (h : B_X2_judge_20 g n0 n1 n2 x3 x4 x5 x6 = some r) (k : ob_Rt C none r) : ob_Ev C 20 [(0, ob_rv C n0), (1, ob_rv C n1), (2, ob_rv C n2), (3, .int x3), (4, .int x4), (5, .int x5), (6, .int x6)] [] g := by
  unfold B_X2_judge_20 at h
  refine ob_iconst F (v := 1) dX2_judge_20 (by decide) ?_
  refine ob_goto F 25 dX2_judge_21 (by decide) ?_
  exact b_X2_judge_25 F h k
def f_X2_judge (g : ob_St) (n0 : Nat) (n1 : Nat) (n2 : Nat) (x3 : Int32) (x4 : Int32) (x5 : Int32) (x6 : Int32) : Option ob_St :=
  (if x5 = 1 then (B_X2_judge_20 g n0 n1 n2 x3 x4 x5 x6) else ((ob_gR 9 n1 2).bind fun v40 => (ob_gR 4 v40 1).bind fun v41 => (ob_rI g 14 v41 x4).bind fun v42 => (if v42 = 3 then (B_X2_judge_20 g n0 n1 n2 x3 x4 x5 x6) else (B_X2_judge_25 g n0 n1 n2 x3 x4 x5 x6 0))))
theorem b_X2_judge_0 {C : ob_Cx} (F : ob_Fx C cX2_judge 20 RX2 none 3 72) {g : ob_St} {n0 : Nat} {n1 : Nat} {n2 : Nat} {x3 : Int32} {x4 : Int32} {x5 : Int32} {x6 : Int32} {r : ob_St} (h : f_X2_judge g n0 n1 n2 x3 x4 x5 x6 = some r) (k : ob_Rt C none r) : ob_Ev C 0 [(0, ob_rv C n0), (1, ob_rv C n1), (2, ob_rv C n2), (3, .int x3), (4, .int x4), (5, .int x5), (6, .int x6)] [] g := by
  unfold f_X2_judge at h
  refine ob_iload F 5 dX2_judge_0 rfl ?_
  refine ob_iconst F (v := 1) dX2_judge_2 (by decide) ?_
  refine ob_icmp_eq F 20 dX2_judge_3 (by decide) h (fun h => ?_) (fun h => ?_)
  · exact b_X2_judge_20 F h k
  · refine ob_rload_n F 1 dX2_judge_6 rfl ?_
    refine ob_getR F dX2_judge_7 fl_X2_25 h fun v40 h => ?_
    refine ob_getR F dX2_judge_10 fl_X2_49 h fun v41 h => ?_
    refine ob_iload F 4 dX2_judge_13 rfl ?_
    refine ob_iald F dX2_judge_15 h fun v42 h => ?_
    refine ob_iconst F (v := 3) dX2_judge_16 (by decide) ?_
    refine ob_icmp_ne F 24 dX2_judge_17 (by decide) h (fun h => ?_) (fun h => ?_)
    · refine ob_iconst F (v := 0) dX2_judge_24 (by decide) ?_
      exact b_X2_judge_25 F h k
    · exact b_X2_judge_20 F h k
theorem t_X2_judge {cf : ob_Cf} {g : ob_St} {n0 : Nat} {n1 : Nat} {n2 : Nat} {x3 : Int32} {x4 : Int32} {x5 : Int32} {x6 : Int32} {r : ob_St} (h : f_X2_judge g n0 n1 n2 x3 x4 x5 x6 = some r) : ob_Mt cf yX2_judge cX2_judge 20 none 3 72 [ob_rw cf n0, ob_rw cf n1, ob_rw cf n2, .int x3, .int x4, .int x5, .int x6] g none r := by
  refine ob_enter (by decide) (Nat.le_of_ble_eq_true rfl) rfl ?_
  intro C hC F k
  subst hC
  exact b_X2_judge_0 F h k
-- X2_richestPath
def Lb_X2_richestPath_45 (rec : ob_St → Int32 → Option (ob_St)) (g : ob_St) (n0 : Nat) (n1 : Nat) (n2 : Nat) (x3 : Int32) (x4 : Int32) (x5 : Int32) (x6 : Int32) (x7 : Int32) : Option (ob_St) :=
  (if x4 ≤ x7 then (some g) else ((f_X11_nodeAt x5 x6).bind fun v5 => (ob_ck 2 n0 (f_X2_judge g n0 n1 n2 x5 v5 x7 x3)).bind fun g6 => rec g6 (x7 + 1)))
def L_X2_richestPath_45 (n0 : Nat) (n1 : Nat) (n2 : Nat) (x3 : Int32) (x4 : Int32) (x5 : Int32) (x6 : Int32) : Nat → ob_St → Int32 → Option (ob_St)
  | 0, _, _ => none
  | n + 1, g, x7 => Lb_X2_richestPath_45 (L_X2_richestPath_45 n0 n1 n2 x3 x4 x5 x6 n) g n0 n1 n2 x3 x4 x5 x6 x7
theorem lb_X2_richestPath_45 {C : ob_Cx} {rec : ob_St → Int32 → Option (ob_St)} (F : ob_Fx C cX2_richestPath 8 RX2 (some .int) 4 111) {g : ob_St} {n0 : Nat} {n1 : Nat} {n2 : Nat} {x3 : Int32} {x4 : Int32} {x5 : Int32} {x6 : Int32} {x7 : Int32} {x : (ob_St)} (hr : ∀ {g : ob_St} {x7 : Int32} {x : (ob_St)}, rec g x7 = some x → ob_Ev C 76 [(0, ob_rv C n0), (1, ob_rv C n1), (2, ob_rv C n2), (3, .int x3), (4, .int x4), (5, .int x5), (6, .int x6)] [] x → ob_Ev C 45 [(0, ob_rv C n0), (1, ob_rv C n1), (2, ob_rv C n2), (3, .int x3), (4, .int x4), (5, .int x5), (6, .int x6), (7, .int x7)] [] g) (h : Lb_X2_richestPath_45 rec g n0 n1 n2 x3 x4 x5 x6 x7 = some x) (k0 : ob_Ev C 76 [(0, ob_rv C n0), (1, ob_rv C n1), (2, ob_rv C n2), (3, .int x3), (4, .int x4), (5, .int x5), (6, .int x6)] [] x) : ob_Ev C 45 [(0, ob_rv C n0), (1, ob_rv C n1), (2, ob_rv C n2), (3, .int x3), (4, .int x4), (5, .int x5), (6, .int x6), (7, .int x7)] [] g := by
  unfold Lb_X2_richestPath_45 at h
  refine ob_iload F 7 dX2_richestPath_45 rfl ?_
  refine ob_iload F 4 dX2_richestPath_47 rfl ?_
  refine ob_icmp_ge F 76 dX2_richestPath_49 (by decide) h (fun h => ?_) (fun h => ?_)
  · obtain rfl := Option.some.inj h
    exact ob_sub [0, 1, 2, 3, 4, 5, 6] rfl (k0)
  · refine ob_rload_n F 0 dX2_richestPath_52 rfl ?_
    refine ob_rload_n F 1 dX2_richestPath_53 rfl ?_
    refine ob_rload_n F 2 dX2_richestPath_54 rfl ?_
    refine ob_iload F 5 dX2_richestPath_55 rfl ?_
    refine ob_iload F 5 dX2_richestPath_57 rfl ?_
    refine ob_iload F 6 dX2_richestPath_59 rfl ?_
    refine ob_cNi F dX2_richestPath_61 im_X11_nodeAt (by decide +kernel) h (fun b hb => t_X11_nodeAt hb) rfl rfl (Nat.le_of_ble_eq_true rfl) (by decide) fun v5 h => ?_
    refine ob_iload F 7 dX2_richestPath_64 rfl ?_
    refine ob_iload_n F 3 dX2_richestPath_66 rfl ?_
    refine ob_cVvS F dX2_richestPath_67 im_X2_judge tw4_74 h (fun b hb => t_X2_judge hb) rfl rfl (Nat.le_of_ble_eq_true rfl) (by decide) fun g6 h => ?_
    refine ob_iinc F (v := (x7 + 1)) (ls2 := [(7, .int (x7 + 1)), (0, ob_rv C n0), (1, ob_rv C n1), (2, ob_rv C n2), (3, .int x3), (4, .int x4), (5, .int x5), (6, .int x6)]) 7 dX2_richestPath_70 rfl rfl (by decide) rfl ?_
    refine ob_goto F 45 dX2_richestPath_73 (by decide) ?_
    exact ob_sub [1, 2, 3, 4, 5, 6, 7, 0] rfl (hr h k0)
theorem l_X2_richestPath_45 {C : ob_Cx} (F : ob_Fx C cX2_richestPath 8 RX2 (some .int) 4 111) {n0 : Nat} {n1 : Nat} {n2 : Nat} {x3 : Int32} {x4 : Int32} {x5 : Int32} {x6 : Int32} : ∀ (n : Nat) {g : ob_St} {x7 : Int32} {x : (ob_St)}, L_X2_richestPath_45 n0 n1 n2 x3 x4 x5 x6 n g x7 = some x → ob_Ev C 76 [(0, ob_rv C n0), (1, ob_rv C n1), (2, ob_rv C n2), (3, .int x3), (4, .int x4), (5, .int x5), (6, .int x6)] [] x → ob_Ev C 45 [(0, ob_rv C n0), (1, ob_rv C n1), (2, ob_rv C n2), (3, .int x3), (4, .int x4), (5, .int x5), (6, .int x6), (7, .int x7)] [] g := by
  intro n
  induction n with
  | zero => intro g x7 x h; exact ob_no h
  | succ n ih => intro g x7 x h k0; exact lb_X2_richestPath_45 F ih h k0
def Lb_X2_richestPath_35 (rec : ob_St → Int32 → Option (ob_St)) (g : ob_St) (n0 : Nat) (n1 : Nat) (n2 : Nat) (x3 : Int32) (x4 : Int32) (x5 : Int32) (x6 : Int32) : Option (ob_St) :=
  (if x5 < x6 then (some g) else ((L_X2_richestPath_45 n0 n1 n2 x3 x4 x5 x6 ob_FU g 0).bind fun x_7 => rec x_7 (x6 + 1)))
def L_X2_richestPath_35 (n0 : Nat) (n1 : Nat) (n2 : Nat) (x3 : Int32) (x4 : Int32) (x5 : Int32) : Nat → ob_St → Int32 → Option (ob_St)
  | 0, _, _ => none
  | n + 1, g, x6 => Lb_X2_richestPath_35 (L_X2_richestPath_35 n0 n1 n2 x3 x4 x5 n) g n0 n1 n2 x3 x4 x5 x6
theorem lb_X2_richestPath_35 {C : ob_Cx} {rec : ob_St → Int32 → Option (ob_St)} (F : ob_Fx C cX2_richestPath 8 RX2 (some .int) 4 111) {g : ob_St} {n0 : Nat} {n1 : Nat} {n2 : Nat} {x3 : Int32} {x4 : Int32} {x5 : Int32} {x6 : Int32} {x : (ob_St)} (hr : ∀ {g : ob_St} {x6 : Int32} {x : (ob_St)}, rec g x6 = some x → ob_Ev C 82 [(0, ob_rv C n0), (1, ob_rv C n1), (2, ob_rv C n2), (3, .int x3), (4, .int x4), (5, .int x5)] [] x → ob_Ev C 35 [(0, ob_rv C n0), (1, ob_rv C n1), (2, ob_rv C n2), (3, .int x3), (4, .int x4), (5, .int x5), (6, .int x6)] [] g) (h : Lb_X2_richestPath_35 rec g n0 n1 n2 x3 x4 x5 x6 = some x) (k0 : ob_Ev C 82 [(0, ob_rv C n0), (1, ob_rv C n1), (2, ob_rv C n2), (3, .int x3), (4, .int x4), (5, .int x5)] [] x) : ob_Ev C 35 [(0, ob_rv C n0), (1, ob_rv C n1), (2, ob_rv C n2), (3, .int x3), (4, .int x4), (5, .int x5), (6, .int x6)] [] g := by
  unfold Lb_X2_richestPath_35 at h
  refine ob_iload F 6 dX2_richestPath_35 rfl ?_
  refine ob_iload F 5 dX2_richestPath_37 rfl ?_
  refine ob_icmp_gt F 82 dX2_richestPath_39 (by decide) h (fun h => ?_) (fun h => ?_)
  · obtain rfl := Option.some.inj h
    exact ob_sub [0, 1, 2, 3, 4, 5] rfl (k0)
  · refine ob_iconst F (v := 0) dX2_richestPath_42 (by decide) ?_
    refine ob_istore F (ls2 := [(7, .int 0), (0, ob_rv C n0), (1, ob_rv C n1), (2, ob_rv C n2), (3, .int x3), (4, .int x4), (5, .int x5), (6, .int x6)]) dX2_richestPath_43 (by decide) rfl ?_
    obtain ⟨x_7, hx, h⟩ := Option.bind_eq_some_iff.mp h
    refine ob_sub [1, 2, 3, 4, 5, 6, 7, 0] rfl (l_X2_richestPath_45 F ob_FU hx ?_)
    refine ob_iinc F (v := (x6 + 1)) (ls2 := [(6, .int (x6 + 1)), (0, ob_rv C n0), (1, ob_rv C n1), (2, ob_rv C n2), (3, .int x3), (4, .int x4), (5, .int x5)]) 6 dX2_richestPath_76 rfl rfl (by decide) rfl ?_
    refine ob_goto F 35 dX2_richestPath_79 (by decide) ?_
    exact ob_sub [1, 2, 3, 4, 5, 6, 0] rfl (hr h k0)
theorem l_X2_richestPath_35 {C : ob_Cx} (F : ob_Fx C cX2_richestPath 8 RX2 (some .int) 4 111) {n0 : Nat} {n1 : Nat} {n2 : Nat} {x3 : Int32} {x4 : Int32} {x5 : Int32} : ∀ (n : Nat) {g : ob_St} {x6 : Int32} {x : (ob_St)}, L_X2_richestPath_35 n0 n1 n2 x3 x4 x5 n g x6 = some x → ob_Ev C 82 [(0, ob_rv C n0), (1, ob_rv C n1), (2, ob_rv C n2), (3, .int x3), (4, .int x4), (5, .int x5)] [] x → ob_Ev C 35 [(0, ob_rv C n0), (1, ob_rv C n1), (2, ob_rv C n2), (3, .int x3), (4, .int x4), (5, .int x5), (6, .int x6)] [] g := by
  intro n
  induction n with
  | zero => intro g x6 x h; exact ob_no h
  | succ n ih => intro g x6 x h k0; exact lb_X2_richestPath_35 F ih h k0
def Lb_X2_richestPath_27 (rec : ob_St → Int32 → Option (ob_St)) (g : ob_St) (n0 : Nat) (n1 : Nat) (n2 : Nat) (x3 : Int32) (x4 : Int32) (x5 : Int32) : Option (ob_St) :=
  (if x5 < 0 then (some g) else ((L_X2_richestPath_35 n0 n1 n2 x3 x4 x5 ob_FU g 0).bind fun x_8 => rec x_8 (x5 + (-1))))
def L_X2_richestPath_27 (n0 : Nat) (n1 : Nat) (n2 : Nat) (x3 : Int32) (x4 : Int32) : Nat → ob_St → Int32 → Option (ob_St)
  | 0, _, _ => none
  | n + 1, g, x5 => Lb_X2_richestPath_27 (L_X2_richestPath_27 n0 n1 n2 x3 x4 n) g n0 n1 n2 x3 x4 x5
theorem lb_X2_richestPath_27 {C : ob_Cx} {rec : ob_St → Int32 → Option (ob_St)} (F : ob_Fx C cX2_richestPath 8 RX2 (some .int) 4 111) {g : ob_St} {n0 : Nat} {n1 : Nat} {n2 : Nat} {x3 : Int32} {x4 : Int32} {x5 : Int32} {x : (ob_St)} (hr : ∀ {g : ob_St} {x5 : Int32} {x : (ob_St)}, rec g x5 = some x → ob_Ev C 88 [(0, ob_rv C n0)] [] x → ob_Ev C 27 [(0, ob_rv C n0), (1, ob_rv C n1), (2, ob_rv C n2), (3, .int x3), (4, .int x4), (5, .int x5)] [] g) (h : Lb_X2_richestPath_27 rec g n0 n1 n2 x3 x4 x5 = some x) (k0 : ob_Ev C 88 [(0, ob_rv C n0)] [] x) : ob_Ev C 27 [(0, ob_rv C n0), (1, ob_rv C n1), (2, ob_rv C n2), (3, .int x3), (4, .int x4), (5, .int x5)] [] g := by
  unfold Lb_X2_richestPath_27 at h
  refine ob_iload F 5 dX2_richestPath_27 rfl ?_
  refine ob_if_lt F 88 dX2_richestPath_29 (by decide) h (fun h => ?_) (fun h => ?_)
  · obtain rfl := Option.some.inj h
    exact ob_sub [0] rfl (k0)
  · refine ob_iconst F (v := 0) dX2_richestPath_32 (by decide) ?_
    refine ob_istore F (ls2 := [(6, .int 0), (0, ob_rv C n0), (1, ob_rv C n1), (2, ob_rv C n2), (3, .int x3), (4, .int x4), (5, .int x5)]) dX2_richestPath_33 (by decide) rfl ?_
    obtain ⟨x_8, hx, h⟩ := Option.bind_eq_some_iff.mp h
    refine ob_sub [1, 2, 3, 4, 5, 6, 0] rfl (l_X2_richestPath_35 F ob_FU hx ?_)
    refine ob_iinc F (v := (x5 + (-1))) (ls2 := [(5, .int (x5 + (-1))), (0, ob_rv C n0), (1, ob_rv C n1), (2, ob_rv C n2), (3, .int x3), (4, .int x4)]) 5 dX2_richestPath_82 rfl rfl (by decide) rfl ?_
    refine ob_goto F 27 dX2_richestPath_85 (by decide) ?_
    exact ob_sub [1, 2, 3, 4, 5, 0] rfl (hr h k0)
theorem l_X2_richestPath_27 {C : ob_Cx} (F : ob_Fx C cX2_richestPath 8 RX2 (some .int) 4 111) {n0 : Nat} {n1 : Nat} {n2 : Nat} {x3 : Int32} {x4 : Int32} : ∀ (n : Nat) {g : ob_St} {x5 : Int32} {x : (ob_St)}, L_X2_richestPath_27 n0 n1 n2 x3 x4 n g x5 = some x → ob_Ev C 88 [(0, ob_rv C n0)] [] x → ob_Ev C 27 [(0, ob_rv C n0), (1, ob_rv C n1), (2, ob_rv C n2), (3, .int x3), (4, .int x4), (5, .int x5)] [] g := by
  intro n
  induction n with
  | zero => intro g x5 x h; exact ob_no h
  | succ n ih => intro g x5 x h k0; exact lb_X2_richestPath_27 F ih h k0
def B_X2_richestPath_13 (g : ob_St) (n0 : Nat) (n1 : Nat) (n2 : Nat) (x3 : Int32) (s0 : Int32) : Option (Int32 × ob_St) :=
  (ob_gR 2 n0 0).bind fun v2 => (ob_gR 3 v2 0).bind fun v3 => (ob_gI g 5 v3 5).bind fun v4 => (L_X2_richestPath_27 n0 n1 n2 x3 s0 ob_FU g v4).bind fun x_9 => (ob_gR 2 n0 2).bind fun v10 => (ob_rR 20 v10 0).bind fun v11 => (ob_rI x_9 14 v11 0).bind fun v12 => some (v12, x_9)
theorem b_X2_richestPath_13 {C : ob_Cx} (F : ob_Fx C cX2_richestPath 8 RX2 (some .int) 4 111) {g : ob_St} {n0 : Nat} {n1 : Nat} {n2 : Nat} {x3 : Int32} {s0 : Int32} {r : (Int32 × ob_St)} (h : B_X2_richestPath_13 g n0 n1 n2 x3 s0 = some r) (k : ob_Rt C (some (.int r.1)) r.2) : ob_Ev C 13 [(0, ob_rv C n0), (1, ob_rv C n1), (2, ob_rv C n2), (3, .int x3)] [.int s0] g := by
  unfold B_X2_richestPath_13 at h
  refine ob_istore F (ls2 := [(4, .int s0), (0, ob_rv C n0), (1, ob_rv C n1), (2, ob_rv C n2), (3, .int x3)]) dX2_richestPath_13 (by decide) rfl ?_
  refine ob_rload_n F 1 dX2_richestPath_15 rfl ?_
  refine ob_getR F dX2_richestPath_16 fl_X2_21 h fun v2 h => ?_
  refine ob_getR F dX2_richestPath_19 fl_X2_37 h fun v3 h => ?_
  refine ob_getI F dX2_richestPath_22 fl_X2_43 h fun v4 h => ?_
  refine ob_istore F (ls2 := [(5, .int v4), (4, .int s0), (0, ob_rv C n0), (1, ob_rv C n1), (2, ob_rv C n2), (3, .int x3)]) dX2_richestPath_25 (by decide) rfl ?_
  obtain ⟨x_9, hx, h⟩ := Option.bind_eq_some_iff.mp h
  refine ob_sub [2, 3, 4, 5, 1, 0] rfl (l_X2_richestPath_27 F ob_FU hx ?_)
  refine ob_rload_n F 0 dX2_richestPath_88 rfl ?_
  refine ob_getR F dX2_richestPath_89 fl_X2_18 h fun v10 h => ?_
  refine ob_iconst F (v := 0) dX2_richestPath_92 (by decide) ?_
  refine ob_aald F dX2_richestPath_93 (by decide) h fun v11 h => ?_
  refine ob_iconst F (v := 0) dX2_richestPath_94 (by decide) ?_
  refine ob_iald F dX2_richestPath_95 h fun v12 h => ?_
  obtain rfl := Option.some.inj h
  exact ob_iret F dX2_richestPath_96 k
def f_X2_richestPath (g : ob_St) (n0 : Nat) (n1 : Nat) (n2 : Nat) (x3 : Int32) : Option (Int32 × ob_St) :=
  (ob_gI g 1 n2 4).bind fun v1 => (if v1 = 2 then (B_X2_richestPath_13 g n0 n1 n2 x3 2) else (B_X2_richestPath_13 g n0 n1 n2 x3 1))
theorem b_X2_richestPath_0 {C : ob_Cx} (F : ob_Fx C cX2_richestPath 8 RX2 (some .int) 4 111) {g : ob_St} {n0 : Nat} {n1 : Nat} {n2 : Nat} {x3 : Int32} {r : (Int32 × ob_St)} (h : f_X2_richestPath g n0 n1 n2 x3 = some r) (k : ob_Rt C (some (.int r.1)) r.2) : ob_Ev C 0 [(0, ob_rv C n0), (1, ob_rv C n1), (2, ob_rv C n2), (3, .int x3)] [] g := by
  unfold f_X2_richestPath at h
  refine ob_rload_n F 2 dX2_richestPath_0 rfl ?_
  refine ob_getI F dX2_richestPath_1 fl_X2_82 h fun v1 h => ?_
  refine ob_iconst F (v := 2) dX2_richestPath_4 (by decide) ?_
  refine ob_icmp_ne F 12 dX2_richestPath_5 (by decide) h (fun h => ?_) (fun h => ?_)
  · refine ob_iconst F (v := 1) dX2_richestPath_12 (by decide) ?_
    exact b_X2_richestPath_13 F h k
  · refine ob_iconst F (v := 2) dX2_richestPath_8 (by decide) ?_
    refine ob_goto F 13 dX2_richestPath_9 (by decide) ?_
    exact b_X2_richestPath_13 F h k
theorem t_X2_richestPath {cf : ob_Cf} {g : ob_St} {n0 : Nat} {n1 : Nat} {n2 : Nat} {x3 : Int32} {r : (Int32 × ob_St)} (h : f_X2_richestPath g n0 n1 n2 x3 = some r) : ob_Mt cf yX2_richestPath cX2_richestPath 8 (some .int) 4 111 [ob_rw cf n0, ob_rw cf n1, ob_rw cf n2, .int x3] g (some (.int r.1)) r.2 := by
  refine ob_enter (by decide) (Nat.le_of_ble_eq_true rfl) (Or.inl rfl) ?_
  intro C hC F k
  subst hC
  exact b_X2_richestPath_0 F h k
-- X11_richest
def f_X11_richest (g : ob_St) (n0 : Nat) (x1 : Int32) (x2 : Int32) : Option (Int32 × ob_St) :=
  (ob_ck 11 n0 (f_X11_isOption g n0 x1)).bind fun v1 => (if v1 = 0 then (some ((-1), g)) else ((ob_ck 11 n0 (f_X11_isExercise g n0 x2)).bind fun v2 => (if v2 = 0 then (some ((-1), g)) else ((ob_gR 11 n0 10).bind fun v3 => (ob_ck 11 n0 (f_X11_sheetOf g n0 x1)).bind fun v4 => (ob_gR 11 n0 3).bind fun v5 => (ob_gR 5 v5 2).bind fun v6 => (ob_rR 17 v6 x1).bind fun v7 => (ob_ck 2 v3 (f_X2_richestPath v4.2 v3 v4.1 v7 x2)).bind fun v8 => some (v8.1, v8.2)))))
theorem b_X11_richest_0 {C : ob_Cx} (F : ob_Fx C cX11_richest 3 RX11 (some .int) 7 175) {g : ob_St} {n0 : Nat} {x1 : Int32} {x2 : Int32} {r : (Int32 × ob_St)} (h : f_X11_richest g n0 x1 x2 = some r) (k : ob_Rt C (some (.int r.1)) r.2) : ob_Ev C 0 [(0, ob_rv C n0), (1, .int x1), (2, .int x2)] [] g := by
  unfold f_X11_richest at h
  refine ob_rload_n F 0 dX11_richest_0 rfl ?_
  refine ob_iload_n F 1 dX11_richest_1 rfl ?_
  refine ob_cVi F dX11_richest_2 im_X11_isOption tw3_176 h (fun b hb => t_X11_isOption hb) rfl rfl (Nat.le_of_ble_eq_true rfl) (by decide) fun v1 h => ?_
  refine ob_if_eq F 16 dX11_richest_5 (by decide) h (fun h => ?_) (fun h => ?_)
  · refine ob_iconst F (v := (-1)) dX11_richest_16 (by decide) ?_
    obtain rfl := Option.some.inj h
    exact ob_iret F dX11_richest_17 k
  · refine ob_rload_n F 0 dX11_richest_8 rfl ?_
    refine ob_iload_n F 2 dX11_richest_9 rfl ?_
    refine ob_cVi F dX11_richest_10 im_X11_isExercise tw4_65 h (fun b hb => t_X11_isExercise hb) rfl rfl (Nat.le_of_ble_eq_true rfl) (by decide) fun v2 h => ?_
    refine ob_if_ne F 18 dX11_richest_13 (by decide) h (fun h => ?_) (fun h => ?_)
    · refine ob_rload_n F 0 dX11_richest_18 rfl ?_
      refine ob_getR F dX11_richest_19 fl_X11_72 h fun v3 h => ?_
      refine ob_rload_n F 0 dX11_richest_22 rfl ?_
      refine ob_iload_n F 1 dX11_richest_23 rfl ?_
      refine ob_cVrS F dX11_richest_24 im_X11_sheetOf tw4_30 h (fun b hb => t_X11_sheetOf hb) rfl rfl (Nat.le_of_ble_eq_true rfl) (by decide) fun v4 h => ?_
      refine ob_rload_n F 0 dX11_richest_27 rfl ?_
      refine ob_getR F dX11_richest_28 fl_X11_23 h fun v5 h => ?_
      refine ob_getR F dX11_richest_31 fl_X11_138 h fun v6 h => ?_
      refine ob_iload_n F 1 dX11_richest_34 rfl ?_
      refine ob_aald F dX11_richest_35 (by decide) h fun v7 h => ?_
      refine ob_iload_n F 2 dX11_richest_36 rfl ?_
      refine ob_cViS F dX11_richest_37 im_X2_richestPath tw4_69 h (fun b hb => t_X2_richestPath hb) rfl rfl (Nat.le_of_ble_eq_true rfl) (by decide) fun v8 h => ?_
      obtain rfl := Option.some.inj h
      exact ob_iret F dX11_richest_40 k
    · refine ob_iconst F (v := (-1)) dX11_richest_16 (by decide) ?_
      obtain rfl := Option.some.inj h
      exact ob_iret F dX11_richest_17 k
theorem t_X11_richest {cf : ob_Cf} {g : ob_St} {n0 : Nat} {x1 : Int32} {x2 : Int32} {r : (Int32 × ob_St)} (h : f_X11_richest g n0 x1 x2 = some r) : ob_Mt cf yX11_richest cX11_richest 3 (some .int) 7 175 [ob_rw cf n0, .int x1, .int x2] g (some (.int r.1)) r.2 := by
  refine ob_enter (by decide) (Nat.le_of_ble_eq_true rfl) (Or.inl rfl) ?_
  intro C hC F k
  subst hC
  exact b_X11_richest_0 F h k
-- X3_startWorth
def f_X3_startWorth (g : ob_St) (n0 : Nat) (n1 : Nat) (x2 : Int32) (x3 : Int32) : Option (Int64 × ob_St) :=
  (ob_gR 3 n0 5).bind fun v1 => (ob_ck 3 n0 (f_X3_fill g n0 v1 n1 x2 x3)).bind fun g2 => (ob_gR 3 n0 5).bind fun v3 => (ob_gR 9 v3 2).bind fun v4 => (ob_gR 4 v4 0).bind fun v5 => (ob_rL g2 v5 0).bind fun v6 => some (v6, g2)
theorem b_X3_startWorth_0 {C : ob_Cx} (F : ob_Fx C cX3_startWorth 4 RX3 (some .long) 5 132) {g : ob_St} {n0 : Nat} {n1 : Nat} {x2 : Int32} {x3 : Int32} {r : (Int64 × ob_St)} (h : f_X3_startWorth g n0 n1 x2 x3 = some r) (k : ob_Rt C (some (.long r.1)) r.2) : ob_Ev C 0 [(0, ob_rv C n0), (1, ob_rv C n1), (2, .int x2), (3, .int x3)] [] g := by
  unfold f_X3_startWorth at h
  refine ob_rload_n F 0 dX3_startWorth_0 rfl ?_
  refine ob_rload_n F 0 dX3_startWorth_1 rfl ?_
  refine ob_getR F dX3_startWorth_2 fl_X3_29 h fun v1 h => ?_
  refine ob_rload_n F 1 dX3_startWorth_5 rfl ?_
  refine ob_iload_n F 2 dX3_startWorth_6 rfl ?_
  refine ob_iload_n F 3 dX3_startWorth_7 rfl ?_
  refine ob_cVvS F dX3_startWorth_8 im_X3_fill tw3_208 h (fun b hb => t_X3_fill hb) rfl rfl (Nat.le_of_ble_eq_true rfl) (by decide) fun g2 h => ?_
  refine ob_rload_n F 0 dX3_startWorth_11 rfl ?_
  refine ob_getR F dX3_startWorth_12 fl_X3_29 h fun v3 h => ?_
  refine ob_getR F dX3_startWorth_15 fl_X3_89 h fun v4 h => ?_
  refine ob_getR F dX3_startWorth_18 fl_X3_93 h fun v5 h => ?_
  refine ob_iconst F (v := 0) dX3_startWorth_21 (by decide) ?_
  refine ob_lald F dX3_startWorth_22 h fun v6 h => ?_
  obtain rfl := Option.some.inj h
  exact ob_lret F dX3_startWorth_23 k
theorem t_X3_startWorth {cf : ob_Cf} {g : ob_St} {n0 : Nat} {n1 : Nat} {x2 : Int32} {x3 : Int32} {r : (Int64 × ob_St)} (h : f_X3_startWorth g n0 n1 x2 x3 = some r) : ob_Mt cf yX3_startWorth cX3_startWorth 4 (some .long) 5 132 [ob_rw cf n0, ob_rw cf n1, .int x2, .int x3] g (some (.long r.1)) r.2 := by
  refine ob_enter (by decide) (Nat.le_of_ble_eq_true rfl) rfl ?_
  intro C hC F k
  subst hC
  exact b_X3_startWorth_0 F h k
-- X11_boundingStrike
def B_X11_boundingStrike_131 (rec : ob_St → Int32 → Int32 → Int32 → Int32 → Option (ob_St × Int32)) (g : ob_St) (n0 : Nat) (n1 : Nat) (y3 : Int64) (x5 : Int32) (x6 : Int32) (x7 : Int32) (x8 : Int32) (x9 : Int32) : Option (ob_St × Int32) :=
  rec g x6 x7 x8 (x9 + 1)
theorem b_X11_boundingStrike_131 {C : ob_Cx} {rec : ob_St → Int32 → Int32 → Int32 → Int32 → Option (ob_St × Int32)} (F : ob_Fx C cX11_boundingStrike 12 RX11 (some .int) 6 155) {g : ob_St} {n0 : Nat} {n1 : Nat} {y3 : Int64} {x5 : Int32} {x6 : Int32} {x7 : Int32} {x8 : Int32} {x9 : Int32} {x : (ob_St × Int32)} (hr : ∀ {g : ob_St} {x6 : Int32} {x7 : Int32} {x8 : Int32} {x9 : Int32} {x : (ob_St × Int32)}, rec g x6 x7 x8 x9 = some x → ob_Ev C 137 [(6, .int x.2)] [] x.1 → ob_Ev C 50 [(0, ob_rv C n0), (1, ob_rv C n1), (3, .long y3), (5, .int x5), (6, .int x6), (7, .int x7), (8, .int x8), (9, .int x9)] [] g) (h : B_X11_boundingStrike_131 rec g n0 n1 y3 x5 x6 x7 x8 x9 = some x) (k0 : ob_Ev C 137 [(6, .int x.2)] [] x.1) : ob_Ev C 131 [(0, ob_rv C n0), (1, ob_rv C n1), (3, .long y3), (5, .int x5), (6, .int x6), (7, .int x7), (8, .int x8), (9, .int x9)] [] g := by
  unfold B_X11_boundingStrike_131 at h
  refine ob_iinc F (v := (x9 + 1)) (ls2 := [(9, .int (x9 + 1)), (0, ob_rv C n0), (1, ob_rv C n1), (3, .long y3), (5, .int x5), (6, .int x6), (7, .int x7), (8, .int x8)]) 7 dX11_boundingStrike_131 rfl rfl (by decide) rfl ?_
  refine ob_goto F 50 dX11_boundingStrike_134 (by decide) ?_
  exact ob_sub [1, 2, 3, 4, 5, 6, 7, 0] rfl (hr h k0)
def B_X11_boundingStrike_109 (rec : ob_St → Int32 → Int32 → Int32 → Int32 → Option (ob_St × Int32)) (g : ob_St) (n0 : Nat) (n1 : Nat) (y3 : Int64) (x5 : Int32) (x6 : Int32) (x7 : Int32) (x8 : Int32) (x9 : Int32) (x10 : Int32) (x11 : Int32) : Option (ob_St × Int32) :=
  (if x11 = x5 then (B_X11_boundingStrike_131 rec g n0 n1 y3 x5 x6 (x10 + 1) x8 x9) else (B_X11_boundingStrike_131 rec g n0 n1 y3 x5 x6 x7 (x10 - 1) x9))
theorem b_X11_boundingStrike_109 {C : ob_Cx} {rec : ob_St → Int32 → Int32 → Int32 → Int32 → Option (ob_St × Int32)} (F : ob_Fx C cX11_boundingStrike 12 RX11 (some .int) 6 155) {g : ob_St} {n0 : Nat} {n1 : Nat} {y3 : Int64} {x5 : Int32} {x6 : Int32} {x7 : Int32} {x8 : Int32} {x9 : Int32} {x10 : Int32} {x11 : Int32} {x : (ob_St × Int32)} (hr : ∀ {g : ob_St} {x6 : Int32} {x7 : Int32} {x8 : Int32} {x9 : Int32} {x : (ob_St × Int32)}, rec g x6 x7 x8 x9 = some x → ob_Ev C 137 [(6, .int x.2)] [] x.1 → ob_Ev C 50 [(0, ob_rv C n0), (1, ob_rv C n1), (3, .long y3), (5, .int x5), (6, .int x6), (7, .int x7), (8, .int x8), (9, .int x9)] [] g) (h : B_X11_boundingStrike_109 rec g n0 n1 y3 x5 x6 x7 x8 x9 x10 x11 = some x) (k0 : ob_Ev C 137 [(6, .int x.2)] [] x.1) : ob_Ev C 109 [(0, ob_rv C n0), (1, ob_rv C n1), (3, .long y3), (5, .int x5), (6, .int x6), (7, .int x7), (8, .int x8), (9, .int x9), (10, .int x10), (11, .int x11)] [] g := by
  unfold B_X11_boundingStrike_109 at h
  refine ob_iload F 9 dX11_boundingStrike_109 rfl ?_
  refine ob_iload F 3 dX11_boundingStrike_111 rfl ?_
  refine ob_icmp_ne F 125 dX11_boundingStrike_113 (by decide) h (fun h => ?_) (fun h => ?_)
  · refine ob_iload F 8 dX11_boundingStrike_125 rfl ?_
    refine ob_iconst F (v := 1) dX11_boundingStrike_127 (by decide) ?_
    refine ob_isub F dX11_boundingStrike_128 ?_
    refine ob_istore F (ls2 := [(8, .int (x10 - 1)), (0, ob_rv C n0), (1, ob_rv C n1), (3, .long y3), (5, .int x5), (6, .int x6), (7, .int x7), (9, .int x9), (10, .int x10), (11, .int x11)]) dX11_boundingStrike_129 (by decide) rfl ?_
    exact ob_sub [1, 2, 3, 4, 5, 6, 0, 7] rfl (b_X11_boundingStrike_131 F hr h k0)
  · refine ob_iload F 8 dX11_boundingStrike_116 rfl ?_
    refine ob_iconst F (v := 1) dX11_boundingStrike_118 (by decide) ?_
    refine ob_iadd F dX11_boundingStrike_119 ?_
    refine ob_istore F (ls2 := [(7, .int (x10 + 1)), (0, ob_rv C n0), (1, ob_rv C n1), (3, .long y3), (5, .int x5), (6, .int x6), (8, .int x8), (9, .int x9), (10, .int x10), (11, .int x11)]) dX11_boundingStrike_120 (by decide) rfl ?_
    refine ob_goto F 131 dX11_boundingStrike_122 (by decide) ?_
    exact ob_sub [1, 2, 3, 4, 5, 0, 6, 7] rfl (b_X11_boundingStrike_131 F hr h k0)
def B_X11_boundingStrike_98 (rec : ob_St → Int32 → Int32 → Int32 → Int32 → Option (ob_St × Int32)) (g : ob_St) (n0 : Nat) (n1 : Nat) (y3 : Int64) (x5 : Int32) (x6 : Int32) (x7 : Int32) (x8 : Int32) (x9 : Int32) (x10 : Int32) (s0 : Int32) : Option (ob_St × Int32) :=
  (if s0 = 0 then (B_X11_boundingStrike_109 rec g n0 n1 y3 x5 x6 x7 x8 x9 x10 s0) else (B_X11_boundingStrike_109 rec g n0 n1 y3 x5 x10 x7 x8 x9 x10 s0))
theorem b_X11_boundingStrike_98 {C : ob_Cx} {rec : ob_St → Int32 → Int32 → Int32 → Int32 → Option (ob_St × Int32)} (F : ob_Fx C cX11_boundingStrike 12 RX11 (some .int) 6 155) {g : ob_St} {n0 : Nat} {n1 : Nat} {y3 : Int64} {x5 : Int32} {x6 : Int32} {x7 : Int32} {x8 : Int32} {x9 : Int32} {x10 : Int32} {s0 : Int32} {x : (ob_St × Int32)} (hr : ∀ {g : ob_St} {x6 : Int32} {x7 : Int32} {x8 : Int32} {x9 : Int32} {x : (ob_St × Int32)}, rec g x6 x7 x8 x9 = some x → ob_Ev C 137 [(6, .int x.2)] [] x.1 → ob_Ev C 50 [(0, ob_rv C n0), (1, ob_rv C n1), (3, .long y3), (5, .int x5), (6, .int x6), (7, .int x7), (8, .int x8), (9, .int x9)] [] g) (h : B_X11_boundingStrike_98 rec g n0 n1 y3 x5 x6 x7 x8 x9 x10 s0 = some x) (k0 : ob_Ev C 137 [(6, .int x.2)] [] x.1) : ob_Ev C 98 [(0, ob_rv C n0), (1, ob_rv C n1), (3, .long y3), (5, .int x5), (6, .int x6), (7, .int x7), (8, .int x8), (9, .int x9), (10, .int x10)] [.int s0] g := by
  unfold B_X11_boundingStrike_98 at h
  refine ob_istore F (ls2 := [(11, .int s0), (0, ob_rv C n0), (1, ob_rv C n1), (3, .long y3), (5, .int x5), (6, .int x6), (7, .int x7), (8, .int x8), (9, .int x9), (10, .int x10)]) dX11_boundingStrike_98 (by decide) rfl ?_
  refine ob_iload F 0 dX11_boundingStrike_100 rfl ?_
  refine ob_if_eq F 109 dX11_boundingStrike_102 (by decide) h (fun h => ?_) (fun h => ?_)
  · exact ob_sub [1, 2, 3, 4, 5, 6, 7, 8, 9, 0] rfl (b_X11_boundingStrike_109 F hr h k0)
  · refine ob_iload F 9 dX11_boundingStrike_105 rfl ?_
    refine ob_istore F (ls2 := [(6, .int x10), (11, .int s0), (0, ob_rv C n0), (1, ob_rv C n1), (3, .long y3), (5, .int x5), (7, .int x7), (8, .int x8), (9, .int x9), (10, .int x10)]) dX11_boundingStrike_107 (by decide) rfl ?_
    exact ob_sub [2, 3, 4, 5, 0, 6, 7, 8, 9, 1] rfl (b_X11_boundingStrike_109 F hr h k0)
def Lb_X11_boundingStrike_50 (rec : ob_St → Int32 → Int32 → Int32 → Int32 → Option (ob_St × Int32)) (g : ob_St) (n0 : Nat) (n1 : Nat) (y3 : Int64) (x5 : Int32) (x6 : Int32) (x7 : Int32) (x8 : Int32) (x9 : Int32) : Option (ob_St × Int32) :=
  (if x8 < x7 then (some (g, x6)) else ((if 999 < x9 then (some (g, x6)) else ((ob_dv (x7 + x8) 2).bind fun v5 => (ob_gR 11 n0 8).bind fun v6 => (ob_gI g 1 n1 3).bind fun v7 => (ob_ck 3 v6 (f_X3_startWorth g v6 n1 v5 v7)).bind fun v8 => (if v8.1 < y3 then (B_X11_boundingStrike_98 rec v8.2 n0 n1 y3 x5 x6 x7 x8 x9 v5 0) else (B_X11_boundingStrike_98 rec v8.2 n0 n1 y3 x5 x6 x7 x8 x9 v5 1))))))
def L_X11_boundingStrike_50 (n0 : Nat) (n1 : Nat) (y3 : Int64) (x5 : Int32) : Nat → ob_St → Int32 → Int32 → Int32 → Int32 → Option (ob_St × Int32)
  | 0, _, _, _, _, _ => none
  | n + 1, g, x6, x7, x8, x9 => Lb_X11_boundingStrike_50 (L_X11_boundingStrike_50 n0 n1 y3 x5 n) g n0 n1 y3 x5 x6 x7 x8 x9
theorem lb_X11_boundingStrike_50 {C : ob_Cx} {rec : ob_St → Int32 → Int32 → Int32 → Int32 → Option (ob_St × Int32)} (F : ob_Fx C cX11_boundingStrike 12 RX11 (some .int) 6 155) {g : ob_St} {n0 : Nat} {n1 : Nat} {y3 : Int64} {x5 : Int32} {x6 : Int32} {x7 : Int32} {x8 : Int32} {x9 : Int32} {x : (ob_St × Int32)} (hr : ∀ {g : ob_St} {x6 : Int32} {x7 : Int32} {x8 : Int32} {x9 : Int32} {x : (ob_St × Int32)}, rec g x6 x7 x8 x9 = some x → ob_Ev C 137 [(6, .int x.2)] [] x.1 → ob_Ev C 50 [(0, ob_rv C n0), (1, ob_rv C n1), (3, .long y3), (5, .int x5), (6, .int x6), (7, .int x7), (8, .int x8), (9, .int x9)] [] g) (h : Lb_X11_boundingStrike_50 rec g n0 n1 y3 x5 x6 x7 x8 x9 = some x) (k0 : ob_Ev C 137 [(6, .int x.2)] [] x.1) : ob_Ev C 50 [(0, ob_rv C n0), (1, ob_rv C n1), (3, .long y3), (5, .int x5), (6, .int x6), (7, .int x7), (8, .int x8), (9, .int x9)] [] g := by
  unfold Lb_X11_boundingStrike_50 at h
  refine ob_iload F 5 dX11_boundingStrike_50 rfl ?_
  refine ob_iload F 6 dX11_boundingStrike_52 rfl ?_
  refine ob_icmp_gt F 137 dX11_boundingStrike_54 (by decide) h (fun h => ?_) (fun h => ?_)
  · obtain rfl := Option.some.inj h
    exact ob_sub [4] rfl (k0)
  · refine ob_iload F 7 dX11_boundingStrike_57 rfl ?_
    refine ob_sipush F (v := 999) dX11_boundingStrike_59 (by decide) ?_
    refine ob_icmp_gt F 137 dX11_boundingStrike_62 (by decide) h (fun h => ?_) (fun h => ?_)
    · obtain rfl := Option.some.inj h
      exact ob_sub [4] rfl (k0)
    · refine ob_iload F 5 dX11_boundingStrike_65 rfl ?_
      refine ob_iload F 6 dX11_boundingStrike_67 rfl ?_
      refine ob_iadd F dX11_boundingStrike_69 ?_
      refine ob_iconst F (v := 2) dX11_boundingStrike_70 (by decide) ?_
      refine ob_idiv F dX11_boundingStrike_71 h fun v5 h => ?_
      refine ob_istore F (ls2 := [(10, .int v5), (0, ob_rv C n0), (1, ob_rv C n1), (3, .long y3), (5, .int x5), (6, .int x6), (7, .int x7), (8, .int x8), (9, .int x9)]) dX11_boundingStrike_72 (by decide) rfl ?_
      refine ob_rload_n F 1 dX11_boundingStrike_74 rfl ?_
      refine ob_getR F dX11_boundingStrike_75 fl_X11_56 h fun v6 h => ?_
      refine ob_rload_n F 2 dX11_boundingStrike_78 rfl ?_
      refine ob_iload F 0 dX11_boundingStrike_79 rfl ?_
      refine ob_rload_n F 2 dX11_boundingStrike_81 rfl ?_
      refine ob_getI F dX11_boundingStrike_82 fl_X11_153 h fun v7 h => ?_
      refine ob_cVlS F dX11_boundingStrike_85 im_X3_startWorth tw4_105 h (fun b hb => t_X3_startWorth hb) rfl rfl (Nat.le_of_ble_eq_true rfl) (by decide) fun v8 h => ?_
      refine ob_lload_n F 3 dX11_boundingStrike_88 rfl ?_
      refine ob_lcmp_lt F 97 dX11_boundingStrike_89 dX11_boundingStrike_90 (by decide) h (fun h => ?_) (fun h => ?_)
      · refine ob_iconst F (v := 0) dX11_boundingStrike_97 (by decide) ?_
        exact ob_sub [1, 2, 3, 4, 5, 6, 7, 8, 0] rfl (b_X11_boundingStrike_98 F hr h k0)
      · refine ob_iconst F (v := 1) dX11_boundingStrike_93 (by decide) ?_
        refine ob_goto F 98 dX11_boundingStrike_94 (by decide) ?_
        exact ob_sub [1, 2, 3, 4, 5, 6, 7, 8, 0] rfl (b_X11_boundingStrike_98 F hr h k0)
theorem l_X11_boundingStrike_50 {C : ob_Cx} (F : ob_Fx C cX11_boundingStrike 12 RX11 (some .int) 6 155) {n0 : Nat} {n1 : Nat} {y3 : Int64} {x5 : Int32} : ∀ (n : Nat) {g : ob_St} {x6 : Int32} {x7 : Int32} {x8 : Int32} {x9 : Int32} {x : (ob_St × Int32)}, L_X11_boundingStrike_50 n0 n1 y3 x5 n g x6 x7 x8 x9 = some x → ob_Ev C 137 [(6, .int x.2)] [] x.1 → ob_Ev C 50 [(0, ob_rv C n0), (1, ob_rv C n1), (3, .long y3), (5, .int x5), (6, .int x6), (7, .int x7), (8, .int x8), (9, .int x9)] [] g := by
  intro n
  induction n with
  | zero => intro g x6 x7 x8 x9 x h; exact ob_no h
  | succ n ih => intro g x6 x7 x8 x9 x h k0; exact lb_X11_boundingStrike_50 F ih h k0
def B_X11_boundingStrike_34 (g : ob_St) (n0 : Nat) (n1 : Nat) (y3 : Int64) (s0 : Int32) : Option (Int32 × ob_St) :=
  (L_X11_boundingStrike_50 n0 n1 y3 s0 ob_FU g (-1) 0 999 0).bind fun x_9 => some (x_9.2, x_9.1)
theorem b_X11_boundingStrike_34 {C : ob_Cx} (F : ob_Fx C cX11_boundingStrike 12 RX11 (some .int) 6 155) {g : ob_St} {n0 : Nat} {n1 : Nat} {y3 : Int64} {s0 : Int32} {r : (Int32 × ob_St)} (h : B_X11_boundingStrike_34 g n0 n1 y3 s0 = some r) (k : ob_Rt C (some (.int r.1)) r.2) : ob_Ev C 34 [(0, ob_rv C n0), (1, ob_rv C n1), (3, .long y3)] [.int s0] g := by
  unfold B_X11_boundingStrike_34 at h
  refine ob_istore F (ls2 := [(5, .int s0), (0, ob_rv C n0), (1, ob_rv C n1), (3, .long y3)]) dX11_boundingStrike_34 (by decide) rfl ?_
  refine ob_iconst F (v := (-1)) dX11_boundingStrike_36 (by decide) ?_
  refine ob_istore F (ls2 := [(6, .int (-1)), (5, .int s0), (0, ob_rv C n0), (1, ob_rv C n1), (3, .long y3)]) dX11_boundingStrike_37 (by decide) rfl ?_
  refine ob_iconst F (v := 0) dX11_boundingStrike_39 (by decide) ?_
  refine ob_istore F (ls2 := [(7, .int 0), (6, .int (-1)), (5, .int s0), (0, ob_rv C n0), (1, ob_rv C n1), (3, .long y3)]) dX11_boundingStrike_40 (by decide) rfl ?_
  refine ob_sipush F (v := 999) dX11_boundingStrike_42 (by decide) ?_
  refine ob_istore F (ls2 := [(8, .int 999), (7, .int 0), (6, .int (-1)), (5, .int s0), (0, ob_rv C n0), (1, ob_rv C n1), (3, .long y3)]) dX11_boundingStrike_45 (by decide) rfl ?_
  refine ob_iconst F (v := 0) dX11_boundingStrike_47 (by decide) ?_
  refine ob_istore F (ls2 := [(9, .int 0), (8, .int 999), (7, .int 0), (6, .int (-1)), (5, .int s0), (0, ob_rv C n0), (1, ob_rv C n1), (3, .long y3)]) dX11_boundingStrike_48 (by decide) rfl ?_
  obtain ⟨x_9, hx, h⟩ := Option.bind_eq_some_iff.mp h
  refine ob_sub [5, 6, 7, 4, 3, 2, 1, 0] rfl (l_X11_boundingStrike_50 F ob_FU hx ?_)
  refine ob_iload F 0 dX11_boundingStrike_137 rfl ?_
  obtain rfl := Option.some.inj h
  exact ob_iret F dX11_boundingStrike_139 k
def f_X11_boundingStrike (g : ob_St) (n0 : Nat) (n1 : Nat) (x2 : Int32) : Option (Int32 × ob_St) :=
  (ob_gR 11 n0 8).bind fun v1 => (ob_ck 3 v1 (f_X3_scaleAt g v1 0)).bind fun v2 => ob_let ((Int32.toInt64 (ob_imax 0 (ob_imin x2 2999))) * v2) fun z3 => (ob_gI g 1 n1 0).bind fun v4 => (if v4 = 0 then (B_X11_boundingStrike_34 g n0 n1 z3 1) else (B_X11_boundingStrike_34 g n0 n1 z3 0))
theorem b_X11_boundingStrike_0 {C : ob_Cx} (F : ob_Fx C cX11_boundingStrike 12 RX11 (some .int) 6 155) {g : ob_St} {n0 : Nat} {n1 : Nat} {x2 : Int32} {r : (Int32 × ob_St)} (h : f_X11_boundingStrike g n0 n1 x2 = some r) (k : ob_Rt C (some (.int r.1)) r.2) : ob_Ev C 0 [(0, ob_rv C n0), (1, ob_rv C n1), (2, .int x2)] [] g := by
  unfold f_X11_boundingStrike at h
  refine ob_iconst F (v := 0) dX11_boundingStrike_0 (by decide) ?_
  refine ob_iload_n F 2 dX11_boundingStrike_1 rfl ?_
  refine ob_sipush F (v := 2999) dX11_boundingStrike_2 (by decide) ?_
  refine ob_mimin F dX11_boundingStrike_5 tw3_181 tw3_182 tw1_18 tw3_183 (Nat.le_of_ble_eq_true rfl) (by decide) ?_
  refine ob_mimax F dX11_boundingStrike_8 tw4_103 tw3_57 tw1_18 tw3_58 (Nat.le_of_ble_eq_true rfl) (by decide) ?_
  refine ob_i2l F dX11_boundingStrike_11 ?_
  refine ob_rload_n F 0 dX11_boundingStrike_12 rfl ?_
  refine ob_getR F dX11_boundingStrike_13 fl_X11_56 h fun v1 h => ?_
  refine ob_iconst F (v := 0) dX11_boundingStrike_16 (by decide) ?_
  refine ob_cVl F dX11_boundingStrike_17 im_X3_scaleAt tw4_104 h (fun b hb => t_X3_scaleAt hb) rfl rfl (Nat.le_of_ble_eq_true rfl) (by decide) fun v2 h => ?_
  refine ob_lmul F dX11_boundingStrike_20 ?_
  refine ob_letl h fun z3 h => ?_
  refine ob_lstore_n F (ls2 := [(3, .long z3), (0, ob_rv C n0), (1, ob_rv C n1), (2, .int x2)]) dX11_boundingStrike_21 (by decide) rfl ?_
  refine ob_rload_n F 2 dX11_boundingStrike_22 rfl ?_
  refine ob_getI F dX11_boundingStrike_23 fl_X11_142 h fun v4 h => ?_
  refine ob_if_ne F 33 dX11_boundingStrike_26 (by decide) h (fun h => ?_) (fun h => ?_)
  · refine ob_iconst F (v := 0) dX11_boundingStrike_33 (by decide) ?_
    exact ob_sub [1, 2, 0] rfl (b_X11_boundingStrike_34 F h k)
  · refine ob_iconst F (v := 1) dX11_boundingStrike_29 (by decide) ?_
    refine ob_goto F 34 dX11_boundingStrike_30 (by decide) ?_
    exact ob_sub [1, 2, 0] rfl (b_X11_boundingStrike_34 F h k)
theorem t_X11_boundingStrike {cf : ob_Cf} {g : ob_St} {n0 : Nat} {n1 : Nat} {x2 : Int32} {r : (Int32 × ob_St)} (h : f_X11_boundingStrike g n0 n1 x2 = some r) : ob_Mt cf yX11_boundingStrike cX11_boundingStrike 12 (some .int) 6 155 [ob_rw cf n0, ob_rw cf n1, .int x2] g (some (.int r.1)) r.2 := by
  refine ob_enter (by decide) (Nat.le_of_ble_eq_true rfl) (Or.inl rfl) ?_
  intro C hC F k
  subst hC
  exact b_X11_boundingStrike_0 F h k
-- X11_strike
def B_X11_strike_37 (g : ob_St) (n0 : Nat) (x2 : Int32) (n3 : Nat) : Option (Int32 × ob_St) :=
  (ob_gR 11 n0 8).bind fun v6 => (ob_ck 3 v6 (f_X3_refresh g v6)).bind fun g7 => (ob_ck 11 n0 (f_X11_boundingStrike g7 n0 n3 x2)).bind fun v8 => some (v8.1, v8.2)
theorem b_X11_strike_37 {C : ob_Cx} (F : ob_Fx C cX11_strike 4 RX11 (some .int) 7 186) {g : ob_St} {n0 : Nat} {x2 : Int32} {n3 : Nat} {r : (Int32 × ob_St)} (h : B_X11_strike_37 g n0 x2 n3 = some r) (k : ob_Rt C (some (.int r.1)) r.2) : ob_Ev C 37 [(0, ob_rv C n0), (2, .int x2), (3, ob_rv C n3)] [] g := by
  unfold B_X11_strike_37 at h
  refine ob_rload_n F 0 dX11_strike_37 rfl ?_
  refine ob_getR F dX11_strike_38 fl_X11_56 h fun v6 h => ?_
  refine ob_cVvS F dX11_strike_41 im_X3_refresh tw3_192 h (fun b hb => t_X3_refresh hb) rfl rfl (Nat.le_of_ble_eq_true rfl) (by decide) fun g7 h => ?_
  refine ob_rload_n F 0 dX11_strike_44 rfl ?_
  refine ob_rload_n F 2 dX11_strike_45 rfl ?_
  refine ob_iload_n F 1 dX11_strike_46 rfl ?_
  refine ob_cViS F dX11_strike_47 im_X11_boundingStrike tw4_99 h (fun b hb => t_X11_boundingStrike hb) rfl rfl (Nat.le_of_ble_eq_true rfl) (by decide) fun v8 h => ?_
  obtain rfl := Option.some.inj h
  exact ob_iret F dX11_strike_50 k
def f_X11_strike (g : ob_St) (n0 : Nat) (x1 : Int32) (x2 : Int32) : Option (Int32 × ob_St) :=
  (ob_ck 11 n0 (f_X11_isOption g n0 x1)).bind fun v1 => (if v1 = 0 then (some ((-1), g)) else ((ob_gR 11 n0 3).bind fun v2 => (ob_gR 5 v2 2).bind fun v3 => (ob_rR 17 v3 x1).bind fun v4 => (ob_gI g 1 v4 0).bind fun v5 => (if v5 = 0 then (B_X11_strike_37 g n0 x2 v4) else ((ob_gI g 1 v4 0).bind fun v9 => (if v9 = 1 then (B_X11_strike_37 g n0 x2 v4) else (some ((-1), g)))))))
theorem b_X11_strike_0 {C : ob_Cx} (F : ob_Fx C cX11_strike 4 RX11 (some .int) 7 186) {g : ob_St} {n0 : Nat} {x1 : Int32} {x2 : Int32} {r : (Int32 × ob_St)} (h : f_X11_strike g n0 x1 x2 = some r) (k : ob_Rt C (some (.int r.1)) r.2) : ob_Ev C 0 [(0, ob_rv C n0), (1, .int x1), (2, .int x2)] [] g := by
  unfold f_X11_strike at h
  refine ob_rload_n F 0 dX11_strike_0 rfl ?_
  refine ob_iload_n F 1 dX11_strike_1 rfl ?_
  refine ob_cVi F dX11_strike_2 im_X11_isOption tw3_176 h (fun b hb => t_X11_isOption hb) rfl rfl (Nat.le_of_ble_eq_true rfl) (by decide) fun v1 h => ?_
  refine ob_if_ne F 10 dX11_strike_5 (by decide) h (fun h => ?_) (fun h => ?_)
  · refine ob_rload_n F 0 dX11_strike_10 rfl ?_
    refine ob_getR F dX11_strike_11 fl_X11_23 h fun v2 h => ?_
    refine ob_getR F dX11_strike_14 fl_X11_138 h fun v3 h => ?_
    refine ob_iload_n F 1 dX11_strike_17 rfl ?_
    refine ob_aald F dX11_strike_18 (by decide) h fun v4 h => ?_
    refine ob_rstore_n F (ls2 := [(3, ob_rv C v4), (0, ob_rv C n0), (1, .int x1), (2, .int x2)]) dX11_strike_19 (by decide) rfl ?_
    refine ob_rload_n F 0 dX11_strike_20 rfl ?_
    refine ob_getI F dX11_strike_21 fl_X11_142 h fun v5 h => ?_
    refine ob_if_eq F 37 dX11_strike_24 (by decide) h (fun h => ?_) (fun h => ?_)
    · exact ob_sub [1, 3, 0] rfl (b_X11_strike_37 F h k)
    · refine ob_rload_n F 0 dX11_strike_27 rfl ?_
      refine ob_getI F dX11_strike_28 fl_X11_142 h fun v9 h => ?_
      refine ob_iconst F (v := 1) dX11_strike_31 (by decide) ?_
      refine ob_icmp_eq F 37 dX11_strike_32 (by decide) h (fun h => ?_) (fun h => ?_)
      · exact ob_sub [1, 3, 0] rfl (b_X11_strike_37 F h k)
      · refine ob_iconst F (v := (-1)) dX11_strike_35 (by decide) ?_
        obtain rfl := Option.some.inj h
        exact ob_iret F dX11_strike_36 k
  · refine ob_iconst F (v := (-1)) dX11_strike_8 (by decide) ?_
    obtain rfl := Option.some.inj h
    exact ob_iret F dX11_strike_9 k
theorem t_X11_strike {cf : ob_Cf} {g : ob_St} {n0 : Nat} {x1 : Int32} {x2 : Int32} {r : (Int32 × ob_St)} (h : f_X11_strike g n0 x1 x2 = some r) : ob_Mt cf yX11_strike cX11_strike 4 (some .int) 7 186 [ob_rw cf n0, .int x1, .int x2] g (some (.int r.1)) r.2 := by
  refine ob_enter (by decide) (Nat.le_of_ble_eq_true rfl) (Or.inl rfl) ?_
  intro C hC F k
  subst hC
  exact b_X11_strike_0 F h k
-- X11_isMark
def f_X11_isMark (x0 : Int32) : Option Int32 :=
  (if x0 < 0 then (some 0) else ((if 2999 < x0 then (some 0) else (some 1))))
theorem b_X11_isMark_0 {C : ob_Cx} (F : ob_Fx C cX11_isMark 1 RX11 (some .boolean) 0 0) {g : ob_St} {x0 : Int32} {r : Int32} (h : f_X11_isMark x0 = some r) (k : ob_Rt C (some (.int r)) g) : ob_Ev C 0 [(0, .int x0)] [] g := by
  unfold f_X11_isMark at h
  refine ob_iload_n F 0 dX11_isMark_0 rfl ?_
  refine ob_if_lt F 15 dX11_isMark_1 (by decide) h (fun h => ?_) (fun h => ?_)
  · refine ob_iconst F (v := 0) dX11_isMark_15 (by decide) ?_
    obtain rfl := Option.some.inj h
    exact ob_zret F dX11_isMark_16 (Or.inl rfl) k
  · refine ob_iload_n F 0 dX11_isMark_4 rfl ?_
    refine ob_sipush F (v := 2999) dX11_isMark_5 (by decide) ?_
    refine ob_icmp_gt F 15 dX11_isMark_8 (by decide) h (fun h => ?_) (fun h => ?_)
    · refine ob_iconst F (v := 0) dX11_isMark_15 (by decide) ?_
      obtain rfl := Option.some.inj h
      exact ob_zret F dX11_isMark_16 (Or.inl rfl) k
    · refine ob_iconst F (v := 1) dX11_isMark_11 (by decide) ?_
      refine ob_goto F 16 dX11_isMark_12 (by decide) ?_
      obtain rfl := Option.some.inj h
      exact ob_zret F dX11_isMark_16 (Or.inr rfl) k
theorem t_X11_isMark {cf : ob_Cf} {g : ob_St} {x0 : Int32} {r : Int32} (h : f_X11_isMark x0 = some r) : ob_Mt cf yX11_isMark cX11_isMark 1 (some .boolean) 0 0 [.int x0] g (some (.int r)) g := by
  refine ob_enter (by decide) (Nat.le_of_ble_eq_true rfl) (Or.inr rfl) ?_
  intro C hC F k
  subst hC
  exact b_X11_isMark_0 F h k
-- X8_barredWorth
def B_X8_barredWorth_82 (g : ob_St) (n0 : Nat) (x3 : Int32) (x4 : Int32) : Option Int64 :=
  (ob_gR 8 n0 0).bind fun v5 => (ob_gR 8 n0 2).bind fun v6 => (ob_ck 3 v5 (f_X3_heldOf g v5 v6 x3 x4)).bind fun v7 => some v7
theorem b_X8_barredWorth_82 {C : ob_Cx} (F : ob_Fx C cX8_barredWorth 6 RX8 (some .long) 2 46) {g : ob_St} {n0 : Nat} {x3 : Int32} {x4 : Int32} {r : Int64} (h : B_X8_barredWorth_82 g n0 x3 x4 = some r) (k : ob_Rt C (some (.long r)) g) : ob_Ev C 82 [(0, ob_rv C n0), (3, .int x3), (4, .int x4)] [] g := by
  unfold B_X8_barredWorth_82 at h
  refine ob_rload_n F 0 dX8_barredWorth_82 rfl ?_
  refine ob_getR F dX8_barredWorth_83 fl_X8_26 h fun v5 h => ?_
  refine ob_rload_n F 0 dX8_barredWorth_86 rfl ?_
  refine ob_getR F dX8_barredWorth_87 fl_X8_15 h fun v6 h => ?_
  refine ob_iload_n F 1 dX8_barredWorth_90 rfl ?_
  refine ob_iload F 2 dX8_barredWorth_91 rfl ?_
  refine ob_cVl F dX8_barredWorth_93 im_X3_heldOf tw4_135 h (fun b hb => t_X3_heldOf hb) rfl rfl (Nat.le_of_ble_eq_true rfl) (by decide) fun v7 h => ?_
  obtain rfl := Option.some.inj h
  exact ob_lret F dX8_barredWorth_96 k
def f_X8_barredWorth (g : ob_St) (n0 : Nat) (n1 : Nat) (n2 : Nat) (x3 : Int32) (x4 : Int32) (x5 : Int32) : Option Int64 :=
  (ob_gI g 1 n2 4).bind fun v1 => (if v1 = 0 then ((ob_gR 8 n0 1).bind fun v16 => (ob_rL g v16 x4).bind fun v17 => some v17) else ((ob_gR 8 n0 0).bind fun v2 => (ob_ck 3 v2 (f_X3_isTouched g v2 n2 x4)).bind fun v3 => (if v3 = 0 then ((ob_gI g 1 n2 4).bind fun v4 => (if v4 = 1 then ((if x5 = 0 then (B_X8_barredWorth_82 g n0 x3 x4) else ((ob_gR 9 n1 0).bind fun v8 => (ob_rL g v8 x4).bind fun v9 => some v9))) else (B_X8_barredWorth_82 g n0 x3 x4))) else ((ob_gI g 1 n2 4).bind fun v10 => (if v10 = 1 then ((ob_gI g 1 n2 7).bind fun v13 => (ob_gR 8 n0 0).bind fun v14 => (ob_ck 3 v14 (f_X3_scaleAt g v14 x3)).bind fun v15 => some ((Int32.toInt64 v13) * v15)) else ((ob_gR 8 n0 1).bind fun v11 => (ob_rL g v11 x4).bind fun v12 => some v12))))))
theorem b_X8_barredWorth_0 {C : ob_Cx} (F : ob_Fx C cX8_barredWorth 6 RX8 (some .long) 2 46) {g : ob_St} {n0 : Nat} {n1 : Nat} {n2 : Nat} {x3 : Int32} {x4 : Int32} {x5 : Int32} {r : Int64} (h : f_X8_barredWorth g n0 n1 n2 x3 x4 x5 = some r) (k : ob_Rt C (some (.long r)) g) : ob_Ev C 0 [(0, ob_rv C n0), (1, ob_rv C n1), (2, ob_rv C n2), (3, .int x3), (4, .int x4), (5, .int x5)] [] g := by
  unfold f_X8_barredWorth at h
  refine ob_rload_n F 2 dX8_barredWorth_0 rfl ?_
  refine ob_getI F dX8_barredWorth_1 fl_X8_74 h fun v1 h => ?_
  refine ob_if_ne F 15 dX8_barredWorth_4 (by decide) h (fun h => ?_) (fun h => ?_)
  · refine ob_rload_n F 0 dX8_barredWorth_15 rfl ?_
    refine ob_getR F dX8_barredWorth_16 fl_X8_26 h fun v2 h => ?_
    refine ob_rload_n F 2 dX8_barredWorth_19 rfl ?_
    refine ob_iload F 4 dX8_barredWorth_20 rfl ?_
    refine ob_cVi F dX8_barredWorth_22 im_X3_isTouched tw4_140 h (fun b hb => t_X3_isTouched hb) rfl rfl (Nat.le_of_ble_eq_true rfl) (by decide) fun v3 h => ?_
    refine ob_if_eq F 61 dX8_barredWorth_25 (by decide) h (fun h => ?_) (fun h => ?_)
    · refine ob_rload_n F 2 dX8_barredWorth_61 rfl ?_
      refine ob_getI F dX8_barredWorth_62 fl_X8_74 h fun v4 h => ?_
      refine ob_iconst F (v := 1) dX8_barredWorth_65 (by decide) ?_
      refine ob_icmp_ne F 82 dX8_barredWorth_66 (by decide) h (fun h => ?_) (fun h => ?_)
      · exact ob_sub [0, 3, 4] rfl (b_X8_barredWorth_82 F h k)
      · refine ob_iload F 5 dX8_barredWorth_69 rfl ?_
        refine ob_if_eq F 82 dX8_barredWorth_71 (by decide) h (fun h => ?_) (fun h => ?_)
        · exact ob_sub [0, 3, 4] rfl (b_X8_barredWorth_82 F h k)
        · refine ob_rload_n F 1 dX8_barredWorth_74 rfl ?_
          refine ob_getR F dX8_barredWorth_75 fl_X8_61 h fun v8 h => ?_
          refine ob_iload F 4 dX8_barredWorth_78 rfl ?_
          refine ob_lald F dX8_barredWorth_80 h fun v9 h => ?_
          obtain rfl := Option.some.inj h
          exact ob_lret F dX8_barredWorth_81 k
    · refine ob_rload_n F 2 dX8_barredWorth_28 rfl ?_
      refine ob_getI F dX8_barredWorth_29 fl_X8_74 h fun v10 h => ?_
      refine ob_iconst F (v := 1) dX8_barredWorth_32 (by decide) ?_
      refine ob_icmp_ne F 53 dX8_barredWorth_33 (by decide) h (fun h => ?_) (fun h => ?_)
      · refine ob_rload_n F 0 dX8_barredWorth_53 rfl ?_
        refine ob_getR F dX8_barredWorth_54 fl_X8_9 h fun v11 h => ?_
        refine ob_iload F 4 dX8_barredWorth_57 rfl ?_
        refine ob_lald F dX8_barredWorth_59 h fun v12 h => ?_
        obtain rfl := Option.some.inj h
        exact ob_lret F dX8_barredWorth_60 k
      · refine ob_rload_n F 2 dX8_barredWorth_36 rfl ?_
        refine ob_getI F dX8_barredWorth_37 fl_X8_81 h fun v13 h => ?_
        refine ob_i2l F dX8_barredWorth_40 ?_
        refine ob_rload_n F 0 dX8_barredWorth_41 rfl ?_
        refine ob_getR F dX8_barredWorth_42 fl_X8_26 h fun v14 h => ?_
        refine ob_iload_n F 3 dX8_barredWorth_45 rfl ?_
        refine ob_cVl F dX8_barredWorth_46 im_X3_scaleAt tw4_141 h (fun b hb => t_X3_scaleAt hb) rfl rfl (Nat.le_of_ble_eq_true rfl) (by decide) fun v15 h => ?_
        refine ob_lmul F dX8_barredWorth_49 ?_
        refine ob_goto F 60 dX8_barredWorth_50 (by decide) ?_
        obtain rfl := Option.some.inj h
        exact ob_lret F dX8_barredWorth_60 k
  · refine ob_rload_n F 0 dX8_barredWorth_7 rfl ?_
    refine ob_getR F dX8_barredWorth_8 fl_X8_9 h fun v16 h => ?_
    refine ob_iload F 4 dX8_barredWorth_11 rfl ?_
    refine ob_lald F dX8_barredWorth_13 h fun v17 h => ?_
    obtain rfl := Option.some.inj h
    exact ob_lret F dX8_barredWorth_14 k
theorem t_X8_barredWorth {cf : ob_Cf} {g : ob_St} {n0 : Nat} {n1 : Nat} {n2 : Nat} {x3 : Int32} {x4 : Int32} {x5 : Int32} {r : Int64} (h : f_X8_barredWorth g n0 n1 n2 x3 x4 x5 = some r) : ob_Mt cf yX8_barredWorth cX8_barredWorth 6 (some .long) 2 46 [ob_rw cf n0, ob_rw cf n1, ob_rw cf n2, .int x3, .int x4, .int x5] g (some (.long r)) g := by
  refine ob_enter (by decide) (Nat.le_of_ble_eq_true rfl) rfl ?_
  intro C hC F k
  subst hC
  exact b_X8_barredWorth_0 F h k
-- X8_worthOf
def B_X8_worthOf_157 (rec : ob_St → Int32 → Option (ob_St)) (g : ob_St) (n0 : Nat) (n1 : Nat) (n2 : Nat) (x3 : Int32) (x4 : Int32) (x5 : Int32) (x6 : Int32) (x7 : Int32) (x8 : Int32) (x10 : Int32) (s0 : Nat) (s1 : Int32) (s2 : Int64) : Option (ob_St) :=
  (ob_wL g s0 s1 s2).bind fun g15 => (ob_gR 8 n0 2).bind fun v16 => (ob_ck 8 n0 (f_X8_barredWorth g15 n0 n1 n2 x5 x8 x10)).bind fun v17 => (ob_wL g15 v16 x8 v17).bind fun g18 => rec g18 (x7 + 1)
theorem b_X8_worthOf_157 {C : ob_Cx} {rec : ob_St → Int32 → Option (ob_St)} (F : ob_Fx C cX8_worthOf 11 RX8 (some .long) 3 71) {g : ob_St} {n0 : Nat} {n1 : Nat} {n2 : Nat} {x3 : Int32} {x4 : Int32} {x5 : Int32} {x6 : Int32} {x7 : Int32} {x8 : Int32} {x10 : Int32} {s0 : Nat} {s1 : Int32} {s2 : Int64} {x : (ob_St)} (hr : ∀ {g : ob_St} {x7 : Int32} {x : (ob_St)}, rec g x7 = some x → ob_Ev C 183 [(0, ob_rv C n0), (1, ob_rv C n1), (2, ob_rv C n2), (3, .int x3), (4, .int x4), (5, .int x5)] [] x → ob_Ev C 35 [(0, ob_rv C n0), (1, ob_rv C n1), (2, ob_rv C n2), (3, .int x3), (4, .int x4), (5, .int x5), (6, .int x6), (7, .int x7)] [] g) (h : B_X8_worthOf_157 rec g n0 n1 n2 x3 x4 x5 x6 x7 x8 x10 s0 s1 s2 = some x) (k0 : ob_Ev C 183 [(0, ob_rv C n0), (1, ob_rv C n1), (2, ob_rv C n2), (3, .int x3), (4, .int x4), (5, .int x5)] [] x) : ob_Ev C 157 [(0, ob_rv C n0), (1, ob_rv C n1), (2, ob_rv C n2), (3, .int x3), (4, .int x4), (5, .int x5), (6, .int x6), (7, .int x7), (8, .int x8), (10, .int x10)] [.long s2, .int s1, ob_rv C s0] g := by
  unfold B_X8_worthOf_157 at h
  refine ob_last F dX8_worthOf_157 h fun g15 h => ?_
  refine ob_rload_n F 0 dX8_worthOf_158 rfl ?_
  refine ob_getR F dX8_worthOf_159 fl_X8_15 h fun v16 h => ?_
  refine ob_iload F 8 dX8_worthOf_162 rfl ?_
  refine ob_rload_n F 0 dX8_worthOf_164 rfl ?_
  refine ob_rload_n F 1 dX8_worthOf_165 rfl ?_
  refine ob_rload_n F 2 dX8_worthOf_166 rfl ?_
  refine ob_iload F 5 dX8_worthOf_167 rfl ?_
  refine ob_iload F 8 dX8_worthOf_169 rfl ?_
  refine ob_iload F 9 dX8_worthOf_171 rfl ?_
  refine ob_cVl F dX8_worthOf_173 im_X8_barredWorth tw4_136 h (fun b hb => t_X8_barredWorth hb) rfl rfl (Nat.le_of_ble_eq_true rfl) (by decide) fun v17 h => ?_
  refine ob_last F dX8_worthOf_176 h fun g18 h => ?_
  refine ob_iinc F (v := (x7 + 1)) (ls2 := [(7, .int (x7 + 1)), (0, ob_rv C n0), (1, ob_rv C n1), (2, ob_rv C n2), (3, .int x3), (4, .int x4), (5, .int x5), (6, .int x6), (8, .int x8), (10, .int x10)]) 7 dX8_worthOf_177 rfl rfl (by decide) rfl ?_
  refine ob_goto F 35 dX8_worthOf_180 (by decide) ?_
  exact ob_sub [1, 2, 3, 4, 5, 6, 7, 0] rfl (hr h k0)
def B_X8_worthOf_119 (rec : ob_St → Int32 → Option (ob_St)) (g : ob_St) (n0 : Nat) (n1 : Nat) (n2 : Nat) (x3 : Int32) (x4 : Int32) (x5 : Int32) (x6 : Int32) (x7 : Int32) (x8 : Int32) (s0 : Int32) : Option (ob_St) :=
  (ob_gR 8 n0 1).bind fun v11 => (if s0 = 0 then ((ob_gR 8 n0 0).bind fun v12 => (ob_gR 8 n0 1).bind fun v13 => (ob_ck 3 v12 (f_X3_heldOf g v12 v13 x5 x8)).bind fun v14 => B_X8_worthOf_157 rec g n0 n1 n2 x3 x4 x5 x6 x7 x8 s0 v11 x8 v14) else ((ob_gR 9 n1 0).bind fun v19 => (ob_rL g v19 x8).bind fun v20 => B_X8_worthOf_157 rec g n0 n1 n2 x3 x4 x5 x6 x7 x8 s0 v11 x8 v20))
theorem b_X8_worthOf_119 {C : ob_Cx} {rec : ob_St → Int32 → Option (ob_St)} (F : ob_Fx C cX8_worthOf 11 RX8 (some .long) 3 71) {g : ob_St} {n0 : Nat} {n1 : Nat} {n2 : Nat} {x3 : Int32} {x4 : Int32} {x5 : Int32} {x6 : Int32} {x7 : Int32} {x8 : Int32} {s0 : Int32} {x : (ob_St)} (hr : ∀ {g : ob_St} {x7 : Int32} {x : (ob_St)}, rec g x7 = some x → ob_Ev C 183 [(0, ob_rv C n0), (1, ob_rv C n1), (2, ob_rv C n2), (3, .int x3), (4, .int x4), (5, .int x5)] [] x → ob_Ev C 35 [(0, ob_rv C n0), (1, ob_rv C n1), (2, ob_rv C n2), (3, .int x3), (4, .int x4), (5, .int x5), (6, .int x6), (7, .int x7)] [] g) (h : B_X8_worthOf_119 rec g n0 n1 n2 x3 x4 x5 x6 x7 x8 s0 = some x) (k0 : ob_Ev C 183 [(0, ob_rv C n0), (1, ob_rv C n1), (2, ob_rv C n2), (3, .int x3), (4, .int x4), (5, .int x5)] [] x) : ob_Ev C 119 [(0, ob_rv C n0), (1, ob_rv C n1), (2, ob_rv C n2), (3, .int x3), (4, .int x4), (5, .int x5), (6, .int x6), (7, .int x7), (8, .int x8)] [.int s0] g := by
  unfold B_X8_worthOf_119 at h
  refine ob_istore F (ls2 := [(10, .int s0), (0, ob_rv C n0), (1, ob_rv C n1), (2, ob_rv C n2), (3, .int x3), (4, .int x4), (5, .int x5), (6, .int x6), (7, .int x7), (8, .int x8)]) dX8_worthOf_119 (by decide) rfl ?_
  refine ob_rload_n F 1 dX8_worthOf_121 rfl ?_
  refine ob_getR F dX8_worthOf_122 fl_X8_9 h fun v11 h => ?_
  refine ob_iload F 9 dX8_worthOf_125 rfl ?_
  refine ob_iload F 0 dX8_worthOf_127 rfl ?_
  refine ob_if_eq F 142 dX8_worthOf_129 (by decide) h (fun h => ?_) (fun h => ?_)
  · refine ob_rload_n F 1 dX8_worthOf_142 rfl ?_
    refine ob_getR F dX8_worthOf_143 fl_X8_26 h fun v12 h => ?_
    refine ob_rload_n F 1 dX8_worthOf_146 rfl ?_
    refine ob_getR F dX8_worthOf_147 fl_X8_9 h fun v13 h => ?_
    refine ob_iload F 6 dX8_worthOf_150 rfl ?_
    refine ob_iload F 9 dX8_worthOf_152 rfl ?_
    refine ob_cVl F dX8_worthOf_154 im_X3_heldOf tw4_135 h (fun b hb => t_X3_heldOf hb) rfl rfl (Nat.le_of_ble_eq_true rfl) (by decide) fun v14 h => ?_
    exact ob_sub [1, 2, 3, 4, 5, 6, 7, 8, 9, 0] rfl (b_X8_worthOf_157 F hr h k0)
  · refine ob_rload_n F 2 dX8_worthOf_132 rfl ?_
    refine ob_getR F dX8_worthOf_133 fl_X8_61 h fun v19 h => ?_
    refine ob_iload F 9 dX8_worthOf_136 rfl ?_
    refine ob_lald F dX8_worthOf_138 h fun v20 h => ?_
    refine ob_goto F 157 dX8_worthOf_139 (by decide) ?_
    exact ob_sub [1, 2, 3, 4, 5, 6, 7, 8, 9, 0] rfl (b_X8_worthOf_157 F hr h k0)
def B_X8_worthOf_118 (rec : ob_St → Int32 → Option (ob_St)) (g : ob_St) (n0 : Nat) (n1 : Nat) (n2 : Nat) (x3 : Int32) (x4 : Int32) (x5 : Int32) (x6 : Int32) (x7 : Int32) (x8 : Int32) : Option (ob_St) :=
  B_X8_worthOf_119 rec g n0 n1 n2 x3 x4 x5 x6 x7 x8 0
theorem b_X8_worthOf_118 {C : ob_Cx} {rec : ob_St → Int32 → Option (ob_St)} (F : ob_Fx C cX8_worthOf 11 RX8 (some .long) 3 71) {g : ob_St} {n0 : Nat} {n1 : Nat} {n2 : Nat} {x3 : Int32} {x4 : Int32} {x5 : Int32} {x6 : Int32} {x7 : Int32} {x8 : Int32} {x : (ob_St)} (hr : ∀ {g : ob_St} {x7 : Int32} {x : (ob_St)}, rec g x7 = some x → ob_Ev C 183 [(0, ob_rv C n0), (1, ob_rv C n1), (2, ob_rv C n2), (3, .int x3), (4, .int x4), (5, .int x5)] [] x → ob_Ev C 35 [(0, ob_rv C n0), (1, ob_rv C n1), (2, ob_rv C n2), (3, .int x3), (4, .int x4), (5, .int x5), (6, .int x6), (7, .int x7)] [] g) (h : B_X8_worthOf_118 rec g n0 n1 n2 x3 x4 x5 x6 x7 x8 = some x) (k0 : ob_Ev C 183 [(0, ob_rv C n0), (1, ob_rv C n1), (2, ob_rv C n2), (3, .int x3), (4, .int x4), (5, .int x5)] [] x) : ob_Ev C 118 [(0, ob_rv C n0), (1, ob_rv C n1), (2, ob_rv C n2), (3, .int x3), (4, .int x4), (5, .int x5), (6, .int x6), (7, .int x7), (8, .int x8)] [] g := by
  unfold B_X8_worthOf_118 at h
  refine ob_iconst F (v := 0) dX8_worthOf_118 (by decide) ?_
  exact b_X8_worthOf_119 F hr h k0
def B_X8_worthOf_90 (rec : ob_St → Int32 → Option (ob_St)) (g : ob_St) (n0 : Nat) (n1 : Nat) (n2 : Nat) (x3 : Int32) (x4 : Int32) (x5 : Int32) (x6 : Int32) (x7 : Int32) (x8 : Int32) (s0 : Int32) : Option (ob_St) :=
  (if x6 = 0 then (B_X8_worthOf_118 rec g n0 n1 n2 x3 x4 x5 x6 x7 x8) else ((if s0 = 0 then (B_X8_worthOf_118 rec g n0 n1 n2 x3 x4 x5 x6 x7 x8) else ((ob_gR 9 n1 0).bind fun v21 => (ob_rL g v21 x8).bind fun v22 => (if v22 ≤ 0 then (B_X8_worthOf_118 rec g n0 n1 n2 x3 x4 x5 x6 x7 x8) else (B_X8_worthOf_119 rec g n0 n1 n2 x3 x4 x5 x6 x7 x8 1))))))
theorem b_X8_worthOf_90 {C : ob_Cx} {rec : ob_St → Int32 → Option (ob_St)} (F : ob_Fx C cX8_worthOf 11 RX8 (some .long) 3 71) {g : ob_St} {n0 : Nat} {n1 : Nat} {n2 : Nat} {x3 : Int32} {x4 : Int32} {x5 : Int32} {x6 : Int32} {x7 : Int32} {x8 : Int32} {s0 : Int32} {x : (ob_St)} (hr : ∀ {g : ob_St} {x7 : Int32} {x : (ob_St)}, rec g x7 = some x → ob_Ev C 183 [(0, ob_rv C n0), (1, ob_rv C n1), (2, ob_rv C n2), (3, .int x3), (4, .int x4), (5, .int x5)] [] x → ob_Ev C 35 [(0, ob_rv C n0), (1, ob_rv C n1), (2, ob_rv C n2), (3, .int x3), (4, .int x4), (5, .int x5), (6, .int x6), (7, .int x7)] [] g) (h : B_X8_worthOf_90 rec g n0 n1 n2 x3 x4 x5 x6 x7 x8 s0 = some x) (k0 : ob_Ev C 183 [(0, ob_rv C n0), (1, ob_rv C n1), (2, ob_rv C n2), (3, .int x3), (4, .int x4), (5, .int x5)] [] x) : ob_Ev C 90 [(0, ob_rv C n0), (1, ob_rv C n1), (2, ob_rv C n2), (3, .int x3), (4, .int x4), (5, .int x5), (6, .int x6), (7, .int x7), (8, .int x8)] [.int s0] g := by
  unfold B_X8_worthOf_90 at h
  refine ob_istore F (ls2 := [(9, .int s0), (0, ob_rv C n0), (1, ob_rv C n1), (2, ob_rv C n2), (3, .int x3), (4, .int x4), (5, .int x5), (6, .int x6), (7, .int x7), (8, .int x8)]) dX8_worthOf_90 (by decide) rfl ?_
  refine ob_iload F 7 dX8_worthOf_92 rfl ?_
  refine ob_if_eq F 118 dX8_worthOf_94 (by decide) h (fun h => ?_) (fun h => ?_)
  · exact ob_sub [1, 2, 3, 4, 5, 6, 7, 8, 9] rfl (b_X8_worthOf_118 F hr h k0)
  · refine ob_iload F 0 dX8_worthOf_97 rfl ?_
    refine ob_if_eq F 118 dX8_worthOf_99 (by decide) h (fun h => ?_) (fun h => ?_)
    · exact ob_sub [1, 2, 3, 4, 5, 6, 7, 8, 9] rfl (b_X8_worthOf_118 F hr h k0)
    · refine ob_rload_n F 2 dX8_worthOf_102 rfl ?_
      refine ob_getR F dX8_worthOf_103 fl_X8_61 h fun v21 h => ?_
      refine ob_iload F 9 dX8_worthOf_106 rfl ?_
      refine ob_lald F dX8_worthOf_108 h fun v22 h => ?_
      refine ob_lconst F (v := 0) dX8_worthOf_109 (by decide) ?_
      refine ob_lcmp_le F 118 dX8_worthOf_110 dX8_worthOf_111 (by decide) h (fun h => ?_) (fun h => ?_)
      · exact ob_sub [1, 2, 3, 4, 5, 6, 7, 8, 9] rfl (b_X8_worthOf_118 F hr h k0)
      · refine ob_iconst F (v := 1) dX8_worthOf_114 (by decide) ?_
        refine ob_goto F 119 dX8_worthOf_115 (by decide) ?_
        exact ob_sub [1, 2, 3, 4, 5, 6, 7, 8, 9] rfl (b_X8_worthOf_119 F hr h k0)
def B_X8_worthOf_85 (rec : ob_St → Int32 → Option (ob_St)) (g : ob_St) (n0 : Nat) (n1 : Nat) (n2 : Nat) (x3 : Int32) (x4 : Int32) (x5 : Int32) (x6 : Int32) (x7 : Int32) (x8 : Int32) : Option (ob_St) :=
  B_X8_worthOf_90 rec g n0 n1 n2 x3 x4 x5 x6 x7 x8 1
theorem b_X8_worthOf_85 {C : ob_Cx} {rec : ob_St → Int32 → Option (ob_St)} (F : ob_Fx C cX8_worthOf 11 RX8 (some .long) 3 71) {g : ob_St} {n0 : Nat} {n1 : Nat} {n2 : Nat} {x3 : Int32} {x4 : Int32} {x5 : Int32} {x6 : Int32} {x7 : Int32} {x8 : Int32} {x : (ob_St)} (hr : ∀ {g : ob_St} {x7 : Int32} {x : (ob_St)}, rec g x7 = some x → ob_Ev C 183 [(0, ob_rv C n0), (1, ob_rv C n1), (2, ob_rv C n2), (3, .int x3), (4, .int x4), (5, .int x5)] [] x → ob_Ev C 35 [(0, ob_rv C n0), (1, ob_rv C n1), (2, ob_rv C n2), (3, .int x3), (4, .int x4), (5, .int x5), (6, .int x6), (7, .int x7)] [] g) (h : B_X8_worthOf_85 rec g n0 n1 n2 x3 x4 x5 x6 x7 x8 = some x) (k0 : ob_Ev C 183 [(0, ob_rv C n0), (1, ob_rv C n1), (2, ob_rv C n2), (3, .int x3), (4, .int x4), (5, .int x5)] [] x) : ob_Ev C 85 [(0, ob_rv C n0), (1, ob_rv C n1), (2, ob_rv C n2), (3, .int x3), (4, .int x4), (5, .int x5), (6, .int x6), (7, .int x7), (8, .int x8)] [] g := by
  unfold B_X8_worthOf_85 at h
  refine ob_iconst F (v := 1) dX8_worthOf_85 (by decide) ?_
  refine ob_goto F 90 dX8_worthOf_86 (by decide) ?_
  exact b_X8_worthOf_90 F hr h k0
def Lb_X8_worthOf_35 (rec : ob_St → Int32 → Option (ob_St)) (g : ob_St) (n0 : Nat) (n1 : Nat) (n2 : Nat) (x3 : Int32) (x4 : Int32) (x5 : Int32) (x6 : Int32) (x7 : Int32) : Option (ob_St) :=
  (if x5 < x7 then (some g) else ((f_X11_nodeAt x5 x7).bind fun v7 => (ob_gR 8 n0 0).bind fun v8 => (ob_gR 3 v8 0).bind fun v9 => (ob_gI g 5 v9 5).bind fun v10 => (if x5 = v10 then (B_X8_worthOf_85 rec g n0 n1 n2 x3 x4 x5 x6 x7 v7) else ((ob_gR 8 n0 0).bind fun v23 => (ob_gR 3 v23 2).bind fun v24 => (ob_rI g 14 v24 v7).bind fun v25 => (f_X11_isPast v25 x3 x4).bind fun v26 => (if v26 = 0 then (B_X8_worthOf_90 rec g n0 n1 n2 x3 x4 x5 x6 x7 v7 0) else (B_X8_worthOf_85 rec g n0 n1 n2 x3 x4 x5 x6 x7 v7))))))
def L_X8_worthOf_35 (n0 : Nat) (n1 : Nat) (n2 : Nat) (x3 : Int32) (x4 : Int32) (x5 : Int32) (x6 : Int32) : Nat → ob_St → Int32 → Option (ob_St)
  | 0, _, _ => none
  | n + 1, g, x7 => Lb_X8_worthOf_35 (L_X8_worthOf_35 n0 n1 n2 x3 x4 x5 x6 n) g n0 n1 n2 x3 x4 x5 x6 x7
theorem lb_X8_worthOf_35 {C : ob_Cx} {rec : ob_St → Int32 → Option (ob_St)} (F : ob_Fx C cX8_worthOf 11 RX8 (some .long) 3 71) {g : ob_St} {n0 : Nat} {n1 : Nat} {n2 : Nat} {x3 : Int32} {x4 : Int32} {x5 : Int32} {x6 : Int32} {x7 : Int32} {x : (ob_St)} (hr : ∀ {g : ob_St} {x7 : Int32} {x : (ob_St)}, rec g x7 = some x → ob_Ev C 183 [(0, ob_rv C n0), (1, ob_rv C n1), (2, ob_rv C n2), (3, .int x3), (4, .int x4), (5, .int x5)] [] x → ob_Ev C 35 [(0, ob_rv C n0), (1, ob_rv C n1), (2, ob_rv C n2), (3, .int x3), (4, .int x4), (5, .int x5), (6, .int x6), (7, .int x7)] [] g) (h : Lb_X8_worthOf_35 rec g n0 n1 n2 x3 x4 x5 x6 x7 = some x) (k0 : ob_Ev C 183 [(0, ob_rv C n0), (1, ob_rv C n1), (2, ob_rv C n2), (3, .int x3), (4, .int x4), (5, .int x5)] [] x) : ob_Ev C 35 [(0, ob_rv C n0), (1, ob_rv C n1), (2, ob_rv C n2), (3, .int x3), (4, .int x4), (5, .int x5), (6, .int x6), (7, .int x7)] [] g := by
  unfold Lb_X8_worthOf_35 at h
  refine ob_iload F 7 dX8_worthOf_35 rfl ?_
  refine ob_iload F 5 dX8_worthOf_37 rfl ?_
  refine ob_icmp_gt F 183 dX8_worthOf_39 (by decide) h (fun h => ?_) (fun h => ?_)
  · obtain rfl := Option.some.inj h
    exact ob_sub [0, 1, 2, 3, 4, 5] rfl (k0)
  · refine ob_iload F 5 dX8_worthOf_42 rfl ?_
    refine ob_iload F 7 dX8_worthOf_44 rfl ?_
    refine ob_cNi F dX8_worthOf_46 im_X11_nodeAt (by decide +kernel) h (fun b hb => t_X11_nodeAt hb) rfl rfl (Nat.le_of_ble_eq_true rfl) (by decide) fun v7 h => ?_
    refine ob_istore F (ls2 := [(8, .int v7), (0, ob_rv C n0), (1, ob_rv C n1), (2, ob_rv C n2), (3, .int x3), (4, .int x4), (5, .int x5), (6, .int x6), (7, .int x7)]) dX8_worthOf_49 (by decide) rfl ?_
    refine ob_iload F 6 dX8_worthOf_51 rfl ?_
    refine ob_rload_n F 1 dX8_worthOf_53 rfl ?_
    refine ob_getR F dX8_worthOf_54 fl_X8_26 h fun v8 h => ?_
    refine ob_getR F dX8_worthOf_57 fl_X8_30 h fun v9 h => ?_
    refine ob_getI F dX8_worthOf_60 fl_X8_36 h fun v10 h => ?_
    refine ob_icmp_eq F 85 dX8_worthOf_63 (by decide) h (fun h => ?_) (fun h => ?_)
    · exact ob_sub [1, 2, 3, 4, 5, 6, 7, 8, 0] rfl (b_X8_worthOf_85 F hr h k0)
    · refine ob_rload_n F 1 dX8_worthOf_66 rfl ?_
      refine ob_getR F dX8_worthOf_67 fl_X8_26 h fun v23 h => ?_
      refine ob_getR F dX8_worthOf_70 fl_X8_54 h fun v24 h => ?_
      refine ob_iload F 0 dX8_worthOf_73 rfl ?_
      refine ob_iald F dX8_worthOf_75 h fun v25 h => ?_
      refine ob_iload_n F 4 dX8_worthOf_76 rfl ?_
      refine ob_iload F 5 dX8_worthOf_77 rfl ?_
      refine ob_cNi F dX8_worthOf_79 im_X11_isPast (by decide +kernel) h (fun b hb => t_X11_isPast hb) rfl rfl (Nat.le_of_ble_eq_true rfl) (by decide) fun v26 h => ?_
      refine ob_if_eq F 89 dX8_worthOf_82 (by decide) h (fun h => ?_) (fun h => ?_)
      · refine ob_iconst F (v := 0) dX8_worthOf_89 (by decide) ?_
        exact ob_sub [1, 2, 3, 4, 5, 6, 7, 8, 0] rfl (b_X8_worthOf_90 F hr h k0)
      · exact ob_sub [1, 2, 3, 4, 5, 6, 7, 8, 0] rfl (b_X8_worthOf_85 F hr h k0)
theorem l_X8_worthOf_35 {C : ob_Cx} (F : ob_Fx C cX8_worthOf 11 RX8 (some .long) 3 71) {n0 : Nat} {n1 : Nat} {n2 : Nat} {x3 : Int32} {x4 : Int32} {x5 : Int32} {x6 : Int32} : ∀ (n : Nat) {g : ob_St} {x7 : Int32} {x : (ob_St)}, L_X8_worthOf_35 n0 n1 n2 x3 x4 x5 x6 n g x7 = some x → ob_Ev C 183 [(0, ob_rv C n0), (1, ob_rv C n1), (2, ob_rv C n2), (3, .int x3), (4, .int x4), (5, .int x5)] [] x → ob_Ev C 35 [(0, ob_rv C n0), (1, ob_rv C n1), (2, ob_rv C n2), (3, .int x3), (4, .int x4), (5, .int x5), (6, .int x6), (7, .int x7)] [] g := by
  intro n
  induction n with
  | zero => intro g x7 x h; exact ob_no h
  | succ n ih => intro g x7 x h k0; exact lb_X8_worthOf_35 F ih h k0
def Lb_X8_worthOf_12 (rec : ob_St → Int32 → Option (ob_St)) (g : ob_St) (n0 : Nat) (n1 : Nat) (n2 : Nat) (x3 : Int32) (x4 : Int32) (x5 : Int32) : Option (ob_St) :=
  (if x5 < 0 then (some g) else ((ob_gR 8 n0 0).bind fun v4 => (ob_gI g 1 n2 3).bind fun v5 => (ob_ck 3 v4 (f_X3_may g v4 x5 v5)).bind fun v6 => (L_X8_worthOf_35 n0 n1 n2 x3 x4 x5 v6 ob_FU g 0).bind fun x_27 => rec x_27 (x5 + (-1))))
def L_X8_worthOf_12 (n0 : Nat) (n1 : Nat) (n2 : Nat) (x3 : Int32) (x4 : Int32) : Nat → ob_St → Int32 → Option (ob_St)
  | 0, _, _ => none
  | n + 1, g, x5 => Lb_X8_worthOf_12 (L_X8_worthOf_12 n0 n1 n2 x3 x4 n) g n0 n1 n2 x3 x4 x5
theorem lb_X8_worthOf_12 {C : ob_Cx} {rec : ob_St → Int32 → Option (ob_St)} (F : ob_Fx C cX8_worthOf 11 RX8 (some .long) 3 71) {g : ob_St} {n0 : Nat} {n1 : Nat} {n2 : Nat} {x3 : Int32} {x4 : Int32} {x5 : Int32} {x : (ob_St)} (hr : ∀ {g : ob_St} {x5 : Int32} {x : (ob_St)}, rec g x5 = some x → ob_Ev C 189 [(0, ob_rv C n0)] [] x → ob_Ev C 12 [(0, ob_rv C n0), (1, ob_rv C n1), (2, ob_rv C n2), (3, .int x3), (4, .int x4), (5, .int x5)] [] g) (h : Lb_X8_worthOf_12 rec g n0 n1 n2 x3 x4 x5 = some x) (k0 : ob_Ev C 189 [(0, ob_rv C n0)] [] x) : ob_Ev C 12 [(0, ob_rv C n0), (1, ob_rv C n1), (2, ob_rv C n2), (3, .int x3), (4, .int x4), (5, .int x5)] [] g := by
  unfold Lb_X8_worthOf_12 at h
  refine ob_iload F 5 dX8_worthOf_12 rfl ?_
  refine ob_if_lt F 189 dX8_worthOf_14 (by decide) h (fun h => ?_) (fun h => ?_)
  · obtain rfl := Option.some.inj h
    exact ob_sub [0] rfl (k0)
  · refine ob_rload_n F 0 dX8_worthOf_17 rfl ?_
    refine ob_getR F dX8_worthOf_18 fl_X8_26 h fun v4 h => ?_
    refine ob_iload F 5 dX8_worthOf_21 rfl ?_
    refine ob_rload_n F 2 dX8_worthOf_23 rfl ?_
    refine ob_getI F dX8_worthOf_24 fl_X8_41 h fun v5 h => ?_
    refine ob_cVi F dX8_worthOf_27 im_X3_may tw4_124 h (fun b hb => t_X3_may hb) rfl rfl (Nat.le_of_ble_eq_true rfl) (by decide) fun v6 h => ?_
    refine ob_istore F (ls2 := [(6, .int v6), (0, ob_rv C n0), (1, ob_rv C n1), (2, ob_rv C n2), (3, .int x3), (4, .int x4), (5, .int x5)]) dX8_worthOf_30 (by decide) rfl ?_
    refine ob_iconst F (v := 0) dX8_worthOf_32 (by decide) ?_
    refine ob_istore F (ls2 := [(7, .int 0), (6, .int v6), (0, ob_rv C n0), (1, ob_rv C n1), (2, ob_rv C n2), (3, .int x3), (4, .int x4), (5, .int x5)]) dX8_worthOf_33 (by decide) rfl ?_
    obtain ⟨x_27, hx, h⟩ := Option.bind_eq_some_iff.mp h
    refine ob_sub [2, 3, 4, 5, 6, 7, 1, 0] rfl (l_X8_worthOf_35 F ob_FU hx ?_)
    refine ob_iinc F (v := (x5 + (-1))) (ls2 := [(5, .int (x5 + (-1))), (0, ob_rv C n0), (1, ob_rv C n1), (2, ob_rv C n2), (3, .int x3), (4, .int x4)]) 5 dX8_worthOf_183 rfl rfl (by decide) rfl ?_
    refine ob_goto F 12 dX8_worthOf_186 (by decide) ?_
    exact ob_sub [1, 2, 3, 4, 5, 0] rfl (hr h k0)
theorem l_X8_worthOf_12 {C : ob_Cx} (F : ob_Fx C cX8_worthOf 11 RX8 (some .long) 3 71) {n0 : Nat} {n1 : Nat} {n2 : Nat} {x3 : Int32} {x4 : Int32} : ∀ (n : Nat) {g : ob_St} {x5 : Int32} {x : (ob_St)}, L_X8_worthOf_12 n0 n1 n2 x3 x4 n g x5 = some x → ob_Ev C 189 [(0, ob_rv C n0)] [] x → ob_Ev C 12 [(0, ob_rv C n0), (1, ob_rv C n1), (2, ob_rv C n2), (3, .int x3), (4, .int x4), (5, .int x5)] [] g := by
  intro n
  induction n with
  | zero => intro g x5 x h; exact ob_no h
  | succ n ih => intro g x5 x h k0; exact lb_X8_worthOf_12 F ih h k0
def f_X8_worthOf (g : ob_St) (n0 : Nat) (n1 : Nat) (n2 : Nat) (x3 : Int32) (x4 : Int32) : Option (Int64 × ob_St) :=
  (ob_gR 8 n0 0).bind fun v1 => (ob_gR 3 v1 0).bind fun v2 => (ob_gI g 5 v2 5).bind fun v3 => (L_X8_worthOf_12 n0 n1 n2 x3 x4 ob_FU g v3).bind fun x_28 => (ob_gR 8 n0 2).bind fun v29 => (ob_rL x_28 v29 0).bind fun v30 => some (v30, x_28)
theorem b_X8_worthOf_0 {C : ob_Cx} (F : ob_Fx C cX8_worthOf 11 RX8 (some .long) 3 71) {g : ob_St} {n0 : Nat} {n1 : Nat} {n2 : Nat} {x3 : Int32} {x4 : Int32} {r : (Int64 × ob_St)} (h : f_X8_worthOf g n0 n1 n2 x3 x4 = some r) (k : ob_Rt C (some (.long r.1)) r.2) : ob_Ev C 0 [(0, ob_rv C n0), (1, ob_rv C n1), (2, ob_rv C n2), (3, .int x3), (4, .int x4)] [] g := by
  unfold f_X8_worthOf at h
  refine ob_rload_n F 0 dX8_worthOf_0 rfl ?_
  refine ob_getR F dX8_worthOf_1 fl_X8_26 h fun v1 h => ?_
  refine ob_getR F dX8_worthOf_4 fl_X8_30 h fun v2 h => ?_
  refine ob_getI F dX8_worthOf_7 fl_X8_36 h fun v3 h => ?_
  refine ob_istore F (ls2 := [(5, .int v3), (0, ob_rv C n0), (1, ob_rv C n1), (2, ob_rv C n2), (3, .int x3), (4, .int x4)]) dX8_worthOf_10 (by decide) rfl ?_
  obtain ⟨x_28, hx, h⟩ := Option.bind_eq_some_iff.mp h
  refine ob_sub [1, 2, 3, 4, 5, 0] rfl (l_X8_worthOf_12 F ob_FU hx ?_)
  refine ob_rload_n F 0 dX8_worthOf_189 rfl ?_
  refine ob_getR F dX8_worthOf_190 fl_X8_15 h fun v29 h => ?_
  refine ob_iconst F (v := 0) dX8_worthOf_193 (by decide) ?_
  refine ob_lald F dX8_worthOf_194 h fun v30 h => ?_
  obtain rfl := Option.some.inj h
  exact ob_lret F dX8_worthOf_195 k
theorem t_X8_worthOf {cf : ob_Cf} {g : ob_St} {n0 : Nat} {n1 : Nat} {n2 : Nat} {x3 : Int32} {x4 : Int32} {r : (Int64 × ob_St)} (h : f_X8_worthOf g n0 n1 n2 x3 x4 = some r) : ob_Mt cf yX8_worthOf cX8_worthOf 11 (some .long) 3 71 [ob_rw cf n0, ob_rw cf n1, ob_rw cf n2, .int x3, .int x4] g (some (.long r.1)) r.2 := by
  refine ob_enter (by decide) (Nat.le_of_ble_eq_true rfl) rfl ?_
  intro C hC F k
  subst hC
  exact b_X8_worthOf_0 F h k
-- X8_insertMark
def Lb_X8_insertMark_5 (rec : Int32 → Option (Int32)) (g : ob_St) (n0 : Nat) (x1 : Int32) (x2 : Int32) : Option (Int32) :=
  (if x2 ≤ 0 then (some x2) else ((ob_gR 8 n0 3).bind fun v2 => (ob_rI g 14 v2 (x2 - 1)).bind fun v3 => (if v3 ≤ x1 then (some x2) else (rec (x2 + (-1))))))
def L_X8_insertMark_5 (g : ob_St) (n0 : Nat) (x1 : Int32) : Nat → Int32 → Option (Int32)
  | 0, _ => none
  | n + 1, x2 => Lb_X8_insertMark_5 (L_X8_insertMark_5 g n0 x1 n) g n0 x1 x2
theorem lb_X8_insertMark_5 {C : ob_Cx} {rec : Int32 → Option (Int32)} (F : ob_Fx C cX8_insertMark 4 RX8 none 0 0) {g : ob_St} {n0 : Nat} {x1 : Int32} {x2 : Int32} {x : (Int32)} (hr : ∀ {x2 : Int32} {x : (Int32)}, rec x2 = some x → ob_Ev C 27 [(0, ob_rv C n0), (1, .int x1), (2, .int x)] [] g → ob_Ev C 5 [(0, ob_rv C n0), (1, .int x1), (2, .int x2)] [] g) (h : Lb_X8_insertMark_5 rec g n0 x1 x2 = some x) (k0 : ob_Ev C 27 [(0, ob_rv C n0), (1, .int x1), (2, .int x)] [] g) : ob_Ev C 5 [(0, ob_rv C n0), (1, .int x1), (2, .int x2)] [] g := by
  unfold Lb_X8_insertMark_5 at h
  refine ob_iload_n F 2 dX8_insertMark_5 rfl ?_
  refine ob_if_le F 27 dX8_insertMark_6 (by decide) h (fun h => ?_) (fun h => ?_)
  · obtain rfl := Option.some.inj h
    exact k0
  · refine ob_rload_n F 0 dX8_insertMark_9 rfl ?_
    refine ob_getR F dX8_insertMark_10 fl_X8_18 h fun v2 h => ?_
    refine ob_iload_n F 2 dX8_insertMark_13 rfl ?_
    refine ob_iconst F (v := 1) dX8_insertMark_14 (by decide) ?_
    refine ob_isub F dX8_insertMark_15 ?_
    refine ob_iald F dX8_insertMark_16 h fun v3 h => ?_
    refine ob_iload_n F 1 dX8_insertMark_17 rfl ?_
    refine ob_icmp_le F 27 dX8_insertMark_18 (by decide) h (fun h => ?_) (fun h => ?_)
    · obtain rfl := Option.some.inj h
      exact k0
    · refine ob_iinc F (v := (x2 + (-1))) (ls2 := [(2, .int (x2 + (-1))), (0, ob_rv C n0), (1, .int x1)]) 2 dX8_insertMark_21 rfl rfl (by decide) rfl ?_
      refine ob_goto F 5 dX8_insertMark_24 (by decide) ?_
      exact ob_sub [1, 2, 0] rfl (hr h k0)
theorem l_X8_insertMark_5 {C : ob_Cx} (F : ob_Fx C cX8_insertMark 4 RX8 none 0 0) {g : ob_St} {n0 : Nat} {x1 : Int32} : ∀ (n : Nat) {x2 : Int32} {x : (Int32)}, L_X8_insertMark_5 g n0 x1 n x2 = some x → ob_Ev C 27 [(0, ob_rv C n0), (1, .int x1), (2, .int x)] [] g → ob_Ev C 5 [(0, ob_rv C n0), (1, .int x1), (2, .int x2)] [] g := by
  intro n
  induction n with
  | zero => intro x2 x h; exact ob_no h
  | succ n ih => intro x2 x h k0; exact lb_X8_insertMark_5 F ih h k0
def Lb_X8_insertMark_61 (rec : ob_St → Int32 → Option (ob_St)) (g : ob_St) (n0 : Nat) (x1 : Int32) (x2 : Int32) (x3 : Int32) : Option (ob_St) :=
  (if x3 ≤ x2 then (some g) else ((ob_gR 8 n0 3).bind fun v9 => (ob_gR 8 n0 3).bind fun v10 => (ob_rI g 14 v10 (x3 - 1)).bind fun v11 => (ob_wI g v9 x3 v11).bind fun g12 => rec g12 (x3 + (-1))))
def L_X8_insertMark_61 (n0 : Nat) (x1 : Int32) (x2 : Int32) : Nat → ob_St → Int32 → Option (ob_St)
  | 0, _, _ => none
  | n + 1, g, x3 => Lb_X8_insertMark_61 (L_X8_insertMark_61 n0 x1 x2 n) g n0 x1 x2 x3
theorem lb_X8_insertMark_61 {C : ob_Cx} {rec : ob_St → Int32 → Option (ob_St)} (F : ob_Fx C cX8_insertMark 4 RX8 none 0 0) {g : ob_St} {n0 : Nat} {x1 : Int32} {x2 : Int32} {x3 : Int32} {x : (ob_St)} (hr : ∀ {g : ob_St} {x3 : Int32} {x : (ob_St)}, rec g x3 = some x → ob_Ev C 86 [(0, ob_rv C n0), (1, .int x1), (2, .int x2)] [] x → ob_Ev C 61 [(0, ob_rv C n0), (1, .int x1), (2, .int x2), (3, .int x3)] [] g) (h : Lb_X8_insertMark_61 rec g n0 x1 x2 x3 = some x) (k0 : ob_Ev C 86 [(0, ob_rv C n0), (1, .int x1), (2, .int x2)] [] x) : ob_Ev C 61 [(0, ob_rv C n0), (1, .int x1), (2, .int x2), (3, .int x3)] [] g := by
  unfold Lb_X8_insertMark_61 at h
  refine ob_iload_n F 3 dX8_insertMark_61 rfl ?_
  refine ob_iload_n F 2 dX8_insertMark_62 rfl ?_
  refine ob_icmp_le F 86 dX8_insertMark_63 (by decide) h (fun h => ?_) (fun h => ?_)
  · obtain rfl := Option.some.inj h
    exact ob_sub [0, 1, 2] rfl (k0)
  · refine ob_rload_n F 0 dX8_insertMark_66 rfl ?_
    refine ob_getR F dX8_insertMark_67 fl_X8_18 h fun v9 h => ?_
    refine ob_iload_n F 3 dX8_insertMark_70 rfl ?_
    refine ob_rload_n F 0 dX8_insertMark_71 rfl ?_
    refine ob_getR F dX8_insertMark_72 fl_X8_18 h fun v10 h => ?_
    refine ob_iload_n F 3 dX8_insertMark_75 rfl ?_
    refine ob_iconst F (v := 1) dX8_insertMark_76 (by decide) ?_
    refine ob_isub F dX8_insertMark_77 ?_
    refine ob_iald F dX8_insertMark_78 h fun v11 h => ?_
    refine ob_iast F dX8_insertMark_79 h fun g12 h => ?_
    refine ob_iinc F (v := (x3 + (-1))) (ls2 := [(3, .int (x3 + (-1))), (0, ob_rv C n0), (1, .int x1), (2, .int x2)]) 3 dX8_insertMark_80 rfl rfl (by decide) rfl ?_
    refine ob_goto F 61 dX8_insertMark_83 (by decide) ?_
    exact ob_sub [1, 2, 3, 0] rfl (hr h k0)
theorem l_X8_insertMark_61 {C : ob_Cx} (F : ob_Fx C cX8_insertMark 4 RX8 none 0 0) {n0 : Nat} {x1 : Int32} {x2 : Int32} : ∀ (n : Nat) {g : ob_St} {x3 : Int32} {x : (ob_St)}, L_X8_insertMark_61 n0 x1 x2 n g x3 = some x → ob_Ev C 86 [(0, ob_rv C n0), (1, .int x1), (2, .int x2)] [] x → ob_Ev C 61 [(0, ob_rv C n0), (1, .int x1), (2, .int x2), (3, .int x3)] [] g := by
  intro n
  induction n with
  | zero => intro g x3 x h; exact ob_no h
  | succ n ih => intro g x3 x h k0; exact lb_X8_insertMark_61 F ih h k0
def B_X8_insertMark_43 (g : ob_St) (n0 : Nat) (x1 : Int32) (x2 : Int32) : Option ob_St :=
  (ob_gI g 8 n0 4).bind fun v5 => (ob_gR 8 n0 3).bind fun v6 => (ob_len 14 v6).bind fun v7 => (if v5 < v7 then ((ob_gI g 8 n0 4).bind fun v8 => (L_X8_insertMark_61 n0 x1 x2 ob_FU g v8).bind fun x_13 => (ob_gR 8 n0 3).bind fun v14 => (ob_wI x_13 v14 x2 x1).bind fun g15 => (ob_gI g15 8 n0 4).bind fun v16 => (ob_pI g15 8 n0 4 (v16 + 1)).bind fun g17 => some g17) else (some g))
theorem b_X8_insertMark_43 {C : ob_Cx} (F : ob_Fx C cX8_insertMark 4 RX8 none 0 0) {g : ob_St} {n0 : Nat} {x1 : Int32} {x2 : Int32} {r : ob_St} (h : B_X8_insertMark_43 g n0 x1 x2 = some r) (k : ob_Rt C none r) : ob_Ev C 43 [(0, ob_rv C n0), (1, .int x1), (2, .int x2)] [] g := by
  unfold B_X8_insertMark_43 at h
  refine ob_rload_n F 0 dX8_insertMark_43 rfl ?_
  refine ob_getI F dX8_insertMark_44 fl_X8_22 h fun v5 h => ?_
  refine ob_rload_n F 0 dX8_insertMark_47 rfl ?_
  refine ob_getR F dX8_insertMark_48 fl_X8_18 h fun v6 h => ?_
  refine ob_alen F dX8_insertMark_51 rfl h fun v7 h => ?_
  refine ob_icmp_lt F 56 dX8_insertMark_52 (by decide) h (fun h => ?_) (fun h => ?_)
  · refine ob_rload_n F 0 dX8_insertMark_56 rfl ?_
    refine ob_getI F dX8_insertMark_57 fl_X8_22 h fun v8 h => ?_
    refine ob_istore_n F (ls2 := [(3, .int v8), (0, ob_rv C n0), (1, .int x1), (2, .int x2)]) dX8_insertMark_60 (by decide) rfl ?_
    obtain ⟨x_13, hx, h⟩ := Option.bind_eq_some_iff.mp h
    refine ob_sub [1, 2, 3, 0] rfl (l_X8_insertMark_61 F ob_FU hx ?_)
    refine ob_rload_n F 0 dX8_insertMark_86 rfl ?_
    refine ob_getR F dX8_insertMark_87 fl_X8_18 h fun v14 h => ?_
    refine ob_iload_n F 2 dX8_insertMark_90 rfl ?_
    refine ob_iload_n F 1 dX8_insertMark_91 rfl ?_
    refine ob_iast F dX8_insertMark_92 h fun g15 h => ?_
    refine ob_rload_n F 0 dX8_insertMark_93 rfl ?_
    refine ob_dup F dX8_insertMark_94 rfl ?_
    refine ob_getI F dX8_insertMark_95 fl_X8_22 h fun v16 h => ?_
    refine ob_iconst F (v := 1) dX8_insertMark_98 (by decide) ?_
    refine ob_iadd F dX8_insertMark_99 ?_
    refine ob_putI F dX8_insertMark_100 fp_X8_22 h fun g17 h => ?_
    obtain rfl := Option.some.inj h
    exact ob_vret F dX8_insertMark_103 k
  · obtain rfl := Option.some.inj h
    exact ob_vret F dX8_insertMark_55 k
def f_X8_insertMark (g : ob_St) (n0 : Nat) (x1 : Int32) : Option ob_St :=
  (ob_gI g 8 n0 4).bind fun v1 => (L_X8_insertMark_5 g n0 x1 ob_FU v1).bind fun x_4 => (if x_4 ≤ 0 then (B_X8_insertMark_43 g n0 x1 x_4) else ((ob_gR 8 n0 3).bind fun v18 => (ob_rI g 14 v18 (x_4 - 1)).bind fun v19 => (if v19 = x1 then (some g) else (B_X8_insertMark_43 g n0 x1 x_4))))
theorem b_X8_insertMark_0 {C : ob_Cx} (F : ob_Fx C cX8_insertMark 4 RX8 none 0 0) {g : ob_St} {n0 : Nat} {x1 : Int32} {r : ob_St} (h : f_X8_insertMark g n0 x1 = some r) (k : ob_Rt C none r) : ob_Ev C 0 [(0, ob_rv C n0), (1, .int x1)] [] g := by
  unfold f_X8_insertMark at h
  refine ob_rload_n F 0 dX8_insertMark_0 rfl ?_
  refine ob_getI F dX8_insertMark_1 fl_X8_22 h fun v1 h => ?_
  refine ob_istore_n F (ls2 := [(2, .int v1), (0, ob_rv C n0), (1, .int x1)]) dX8_insertMark_4 (by decide) rfl ?_
  obtain ⟨x_4, hx, h⟩ := Option.bind_eq_some_iff.mp h
  refine ob_sub [1, 2, 0] rfl (l_X8_insertMark_5 F ob_FU hx ?_)
  refine ob_iload_n F 2 dX8_insertMark_27 rfl ?_
  refine ob_if_le F 43 dX8_insertMark_28 (by decide) h (fun h => ?_) (fun h => ?_)
  · exact b_X8_insertMark_43 F h k
  · refine ob_rload_n F 0 dX8_insertMark_31 rfl ?_
    refine ob_getR F dX8_insertMark_32 fl_X8_18 h fun v18 h => ?_
    refine ob_iload_n F 2 dX8_insertMark_35 rfl ?_
    refine ob_iconst F (v := 1) dX8_insertMark_36 (by decide) ?_
    refine ob_isub F dX8_insertMark_37 ?_
    refine ob_iald F dX8_insertMark_38 h fun v19 h => ?_
    refine ob_iload_n F 1 dX8_insertMark_39 rfl ?_
    refine ob_icmp_eq F 55 dX8_insertMark_40 (by decide) h (fun h => ?_) (fun h => ?_)
    · obtain rfl := Option.some.inj h
      exact ob_vret F dX8_insertMark_55 k
    · exact b_X8_insertMark_43 F h k
theorem t_X8_insertMark {cf : ob_Cf} {g : ob_St} {n0 : Nat} {x1 : Int32} {r : ob_St} (h : f_X8_insertMark g n0 x1 = some r) : ob_Mt cf yX8_insertMark cX8_insertMark 4 none 0 0 [ob_rw cf n0, .int x1] g none r := by
  refine ob_enter (by decide) (Nat.le_of_ble_eq_true rfl) rfl ?_
  intro C hC F k
  subst hC
  exact b_X8_insertMark_0 F h k
-- X8_collectMarks
def B_X8_collectMarks_86 (rec : ob_St → Int32 → Option (ob_St)) (g : ob_St) (n0 : Nat) (n1 : Nat) (n2 : Nat) (x3 : Int32) (x4 : Int32) (x5 : Int32) : Option (ob_St) :=
  rec g (x5 + 1)
theorem b_X8_collectMarks_86 {C : ob_Cx} {rec : ob_St → Int32 → Option (ob_St)} (F : ob_Fx C cX8_collectMarks 7 RX8 none 1 23) {g : ob_St} {n0 : Nat} {n1 : Nat} {n2 : Nat} {x3 : Int32} {x4 : Int32} {x5 : Int32} {x : (ob_St)} (hr : ∀ {g : ob_St} {x5 : Int32} {x : (ob_St)}, rec g x5 = some x → ob_Ev C 92 [(0, ob_rv C n0), (1, ob_rv C n1), (2, ob_rv C n2), (3, .int x3), (4, .int x4)] [] x → ob_Ev C 26 [(0, ob_rv C n0), (1, ob_rv C n1), (2, ob_rv C n2), (3, .int x3), (4, .int x4), (5, .int x5)] [] g) (h : B_X8_collectMarks_86 rec g n0 n1 n2 x3 x4 x5 = some x) (k0 : ob_Ev C 92 [(0, ob_rv C n0), (1, ob_rv C n1), (2, ob_rv C n2), (3, .int x3), (4, .int x4)] [] x) : ob_Ev C 86 [(0, ob_rv C n0), (1, ob_rv C n1), (2, ob_rv C n2), (3, .int x3), (4, .int x4), (5, .int x5)] [] g := by
  unfold B_X8_collectMarks_86 at h
  refine ob_iinc F (v := (x5 + 1)) (ls2 := [(5, .int (x5 + 1)), (0, ob_rv C n0), (1, ob_rv C n1), (2, ob_rv C n2), (3, .int x3), (4, .int x4)]) 5 dX8_collectMarks_86 rfl rfl (by decide) rfl ?_
  refine ob_goto F 26 dX8_collectMarks_89 (by decide) ?_
  exact ob_sub [1, 2, 3, 4, 5, 0] rfl (hr h k0)
def Lb_X8_collectMarks_26 (rec : ob_St → Int32 → Option (ob_St)) (g : ob_St) (n0 : Nat) (n1 : Nat) (n2 : Nat) (x3 : Int32) (x4 : Int32) (x5 : Int32) : Option (ob_St) :=
  (if x4 < x5 then (some g) else ((ob_gR 8 n0 0).bind fun v5 => (ob_gI g 1 n2 3).bind fun v6 => (ob_ck 3 v5 (f_X3_may g v5 x4 v6)).bind fun v7 => (if v7 = 0 then (some g) else ((f_X11_nodeAt x4 x5).bind fun v8 => (ob_gR 9 n1 0).bind fun v9 => (ob_rL g v9 v8).bind fun v10 => (if v10 ≤ 0 then (B_X8_collectMarks_86 rec g n0 n1 n2 x3 x4 x5) else ((ob_gR 8 n0 0).bind fun v11 => (ob_gR 3 v11 2).bind fun v12 => (ob_rI g 14 v12 v8).bind fun v13 => (ob_ck 8 n0 (f_X8_insertMark g n0 (v13 + x3))).bind fun g14 => B_X8_collectMarks_86 rec g14 n0 n1 n2 x3 x4 x5))))))
def L_X8_collectMarks_26 (n0 : Nat) (n1 : Nat) (n2 : Nat) (x3 : Int32) (x4 : Int32) : Nat → ob_St → Int32 → Option (ob_St)
  | 0, _, _ => none
  | n + 1, g, x5 => Lb_X8_collectMarks_26 (L_X8_collectMarks_26 n0 n1 n2 x3 x4 n) g n0 n1 n2 x3 x4 x5
theorem lb_X8_collectMarks_26 {C : ob_Cx} {rec : ob_St → Int32 → Option (ob_St)} (F : ob_Fx C cX8_collectMarks 7 RX8 none 1 23) {g : ob_St} {n0 : Nat} {n1 : Nat} {n2 : Nat} {x3 : Int32} {x4 : Int32} {x5 : Int32} {x : (ob_St)} (hr : ∀ {g : ob_St} {x5 : Int32} {x : (ob_St)}, rec g x5 = some x → ob_Ev C 92 [(0, ob_rv C n0), (1, ob_rv C n1), (2, ob_rv C n2), (3, .int x3), (4, .int x4)] [] x → ob_Ev C 26 [(0, ob_rv C n0), (1, ob_rv C n1), (2, ob_rv C n2), (3, .int x3), (4, .int x4), (5, .int x5)] [] g) (h : Lb_X8_collectMarks_26 rec g n0 n1 n2 x3 x4 x5 = some x) (k0 : ob_Ev C 92 [(0, ob_rv C n0), (1, ob_rv C n1), (2, ob_rv C n2), (3, .int x3), (4, .int x4)] [] x) : ob_Ev C 26 [(0, ob_rv C n0), (1, ob_rv C n1), (2, ob_rv C n2), (3, .int x3), (4, .int x4), (5, .int x5)] [] g := by
  unfold Lb_X8_collectMarks_26 at h
  refine ob_iload F 5 dX8_collectMarks_26 rfl ?_
  refine ob_iload F 4 dX8_collectMarks_28 rfl ?_
  refine ob_icmp_gt F 92 dX8_collectMarks_30 (by decide) h (fun h => ?_) (fun h => ?_)
  · obtain rfl := Option.some.inj h
    exact ob_sub [0, 1, 2, 3, 4] rfl (k0)
  · refine ob_rload_n F 0 dX8_collectMarks_33 rfl ?_
    refine ob_getR F dX8_collectMarks_34 fl_X8_26 h fun v5 h => ?_
    refine ob_iload F 4 dX8_collectMarks_37 rfl ?_
    refine ob_rload_n F 2 dX8_collectMarks_39 rfl ?_
    refine ob_getI F dX8_collectMarks_40 fl_X8_41 h fun v6 h => ?_
    refine ob_cVi F dX8_collectMarks_43 im_X3_may tw4_124 h (fun b hb => t_X3_may hb) rfl rfl (Nat.le_of_ble_eq_true rfl) (by decide) fun v7 h => ?_
    refine ob_if_eq F 92 dX8_collectMarks_46 (by decide) h (fun h => ?_) (fun h => ?_)
    · obtain rfl := Option.some.inj h
      exact ob_sub [0, 1, 2, 3, 4] rfl (k0)
    · refine ob_iload F 4 dX8_collectMarks_49 rfl ?_
      refine ob_iload F 5 dX8_collectMarks_51 rfl ?_
      refine ob_cNi F dX8_collectMarks_53 im_X11_nodeAt (by decide +kernel) h (fun b hb => t_X11_nodeAt hb) rfl rfl (Nat.le_of_ble_eq_true rfl) (by decide) fun v8 h => ?_
      refine ob_istore F (ls2 := [(6, .int v8), (0, ob_rv C n0), (1, ob_rv C n1), (2, ob_rv C n2), (3, .int x3), (4, .int x4), (5, .int x5)]) dX8_collectMarks_56 (by decide) rfl ?_
      refine ob_rload_n F 2 dX8_collectMarks_58 rfl ?_
      refine ob_getR F dX8_collectMarks_59 fl_X8_61 h fun v9 h => ?_
      refine ob_iload F 0 dX8_collectMarks_62 rfl ?_
      refine ob_lald F dX8_collectMarks_64 h fun v10 h => ?_
      refine ob_lconst F (v := 0) dX8_collectMarks_65 (by decide) ?_
      refine ob_lcmp_le F 86 dX8_collectMarks_66 dX8_collectMarks_67 (by decide) h (fun h => ?_) (fun h => ?_)
      · exact ob_sub [1, 2, 3, 4, 5, 6] rfl (b_X8_collectMarks_86 F hr h k0)
      · refine ob_rload_n F 1 dX8_collectMarks_70 rfl ?_
        refine ob_rload_n F 1 dX8_collectMarks_71 rfl ?_
        refine ob_getR F dX8_collectMarks_72 fl_X8_26 h fun v11 h => ?_
        refine ob_getR F dX8_collectMarks_75 fl_X8_54 h fun v12 h => ?_
        refine ob_iload F 0 dX8_collectMarks_78 rfl ?_
        refine ob_iald F dX8_collectMarks_80 h fun v13 h => ?_
        refine ob_iload_n F 4 dX8_collectMarks_81 rfl ?_
        refine ob_iadd F dX8_collectMarks_82 ?_
        refine ob_cVvS F dX8_collectMarks_83 im_X8_insertMark tw4_126 h (fun b hb => t_X8_insertMark hb) rfl rfl (Nat.le_of_ble_eq_true rfl) (by decide) fun g14 h => ?_
        exact ob_sub [1, 2, 3, 4, 5, 6] rfl (b_X8_collectMarks_86 F hr h k0)
theorem l_X8_collectMarks_26 {C : ob_Cx} (F : ob_Fx C cX8_collectMarks 7 RX8 none 1 23) {n0 : Nat} {n1 : Nat} {n2 : Nat} {x3 : Int32} {x4 : Int32} : ∀ (n : Nat) {g : ob_St} {x5 : Int32} {x : (ob_St)}, L_X8_collectMarks_26 n0 n1 n2 x3 x4 n g x5 = some x → ob_Ev C 92 [(0, ob_rv C n0), (1, ob_rv C n1), (2, ob_rv C n2), (3, .int x3), (4, .int x4)] [] x → ob_Ev C 26 [(0, ob_rv C n0), (1, ob_rv C n1), (2, ob_rv C n2), (3, .int x3), (4, .int x4), (5, .int x5)] [] g := by
  intro n
  induction n with
  | zero => intro g x5 x h; exact ob_no h
  | succ n ih => intro g x5 x h k0; exact lb_X8_collectMarks_26 F ih h k0
def Lb_X8_collectMarks_8 (rec : ob_St → Int32 → Option (ob_St)) (g : ob_St) (n0 : Nat) (n1 : Nat) (n2 : Nat) (x3 : Int32) (x4 : Int32) : Option (ob_St) :=
  (ob_gR 8 n0 0).bind fun v2 => (ob_gR 3 v2 0).bind fun v3 => (ob_gI g 5 v3 5).bind fun v4 => (if v4 ≤ x4 then (some g) else ((L_X8_collectMarks_26 n0 n1 n2 x3 x4 ob_FU g 0).bind fun x_15 => rec x_15 (x4 + 1)))
def L_X8_collectMarks_8 (n0 : Nat) (n1 : Nat) (n2 : Nat) (x3 : Int32) : Nat → ob_St → Int32 → Option (ob_St)
  | 0, _, _ => none
  | n + 1, g, x4 => Lb_X8_collectMarks_8 (L_X8_collectMarks_8 n0 n1 n2 x3 n) g n0 n1 n2 x3 x4
theorem lb_X8_collectMarks_8 {C : ob_Cx} {rec : ob_St → Int32 → Option (ob_St)} (F : ob_Fx C cX8_collectMarks 7 RX8 none 1 23) {g : ob_St} {n0 : Nat} {n1 : Nat} {n2 : Nat} {x3 : Int32} {x4 : Int32} {x : (ob_St)} (hr : ∀ {g : ob_St} {x4 : Int32} {x : (ob_St)}, rec g x4 = some x → ob_Ev C 98 [] [] x → ob_Ev C 8 [(0, ob_rv C n0), (1, ob_rv C n1), (2, ob_rv C n2), (3, .int x3), (4, .int x4)] [] g) (h : Lb_X8_collectMarks_8 rec g n0 n1 n2 x3 x4 = some x) (k0 : ob_Ev C 98 [] [] x) : ob_Ev C 8 [(0, ob_rv C n0), (1, ob_rv C n1), (2, ob_rv C n2), (3, .int x3), (4, .int x4)] [] g := by
  unfold Lb_X8_collectMarks_8 at h
  refine ob_iload F 4 dX8_collectMarks_8 rfl ?_
  refine ob_rload_n F 0 dX8_collectMarks_10 rfl ?_
  refine ob_getR F dX8_collectMarks_11 fl_X8_26 h fun v2 h => ?_
  refine ob_getR F dX8_collectMarks_14 fl_X8_30 h fun v3 h => ?_
  refine ob_getI F dX8_collectMarks_17 fl_X8_36 h fun v4 h => ?_
  refine ob_icmp_ge F 98 dX8_collectMarks_20 (by decide) h (fun h => ?_) (fun h => ?_)
  · obtain rfl := Option.some.inj h
    exact ob_sub [] rfl (k0)
  · refine ob_iconst F (v := 0) dX8_collectMarks_23 (by decide) ?_
    refine ob_istore F (ls2 := [(5, .int 0), (0, ob_rv C n0), (1, ob_rv C n1), (2, ob_rv C n2), (3, .int x3), (4, .int x4)]) dX8_collectMarks_24 (by decide) rfl ?_
    obtain ⟨x_15, hx, h⟩ := Option.bind_eq_some_iff.mp h
    refine ob_sub [1, 2, 3, 4, 5, 0] rfl (l_X8_collectMarks_26 F ob_FU hx ?_)
    refine ob_iinc F (v := (x4 + 1)) (ls2 := [(4, .int (x4 + 1)), (0, ob_rv C n0), (1, ob_rv C n1), (2, ob_rv C n2), (3, .int x3)]) 4 dX8_collectMarks_92 rfl rfl (by decide) rfl ?_
    refine ob_goto F 8 dX8_collectMarks_95 (by decide) ?_
    exact ob_sub [1, 2, 3, 4, 0] rfl (hr h k0)
theorem l_X8_collectMarks_8 {C : ob_Cx} (F : ob_Fx C cX8_collectMarks 7 RX8 none 1 23) {n0 : Nat} {n1 : Nat} {n2 : Nat} {x3 : Int32} : ∀ (n : Nat) {g : ob_St} {x4 : Int32} {x : (ob_St)}, L_X8_collectMarks_8 n0 n1 n2 x3 n g x4 = some x → ob_Ev C 98 [] [] x → ob_Ev C 8 [(0, ob_rv C n0), (1, ob_rv C n1), (2, ob_rv C n2), (3, .int x3), (4, .int x4)] [] g := by
  intro n
  induction n with
  | zero => intro g x4 x h; exact ob_no h
  | succ n ih => intro g x4 x h k0; exact lb_X8_collectMarks_8 F ih h k0
def f_X8_collectMarks (g : ob_St) (n0 : Nat) (n1 : Nat) (n2 : Nat) (x3 : Int32) : Option ob_St :=
  (ob_pI g 8 n0 4 0).bind fun g1 => (L_X8_collectMarks_8 n0 n1 n2 x3 ob_FU g1 0).bind fun x_16 => some x_16
theorem b_X8_collectMarks_0 {C : ob_Cx} (F : ob_Fx C cX8_collectMarks 7 RX8 none 1 23) {g : ob_St} {n0 : Nat} {n1 : Nat} {n2 : Nat} {x3 : Int32} {r : ob_St} (h : f_X8_collectMarks g n0 n1 n2 x3 = some r) (k : ob_Rt C none r) : ob_Ev C 0 [(0, ob_rv C n0), (1, ob_rv C n1), (2, ob_rv C n2), (3, .int x3)] [] g := by
  unfold f_X8_collectMarks at h
  refine ob_rload_n F 0 dX8_collectMarks_0 rfl ?_
  refine ob_iconst F (v := 0) dX8_collectMarks_1 (by decide) ?_
  refine ob_putI F dX8_collectMarks_2 fp_X8_22 h fun g1 h => ?_
  refine ob_iconst F (v := 0) dX8_collectMarks_5 (by decide) ?_
  refine ob_istore F (ls2 := [(4, .int 0), (0, ob_rv C n0), (1, ob_rv C n1), (2, ob_rv C n2), (3, .int x3)]) dX8_collectMarks_6 (by decide) rfl ?_
  obtain ⟨x_16, hx, h⟩ := Option.bind_eq_some_iff.mp h
  refine ob_sub [1, 2, 3, 4, 0] rfl (l_X8_collectMarks_8 F ob_FU hx ?_)
  obtain rfl := Option.some.inj h
  exact ob_vret F dX8_collectMarks_98 k
theorem t_X8_collectMarks {cf : ob_Cf} {g : ob_St} {n0 : Nat} {n1 : Nat} {n2 : Nat} {x3 : Int32} {r : ob_St} (h : f_X8_collectMarks g n0 n1 n2 x3 = some r) : ob_Mt cf yX8_collectMarks cX8_collectMarks 7 none 1 23 [ob_rw cf n0, ob_rw cf n1, ob_rw cf n2, .int x3] g none r := by
  refine ob_enter (by decide) (Nat.le_of_ble_eq_true rfl) rfl ?_
  intro C hC F k
  subst hC
  exact b_X8_collectMarks_0 F h k
-- X8_bestMark
def B_X8_bestMark_69 (rec : ob_St → Int32 → Int64 → Int32 → Option (ob_St × Int32)) (g : ob_St) (n0 : Nat) (n1 : Nat) (n2 : Nat) (x3 : Int32) (x4 : Int32) (y5 : Int64) (x7 : Int32) : Option (ob_St × Int32) :=
  rec g x4 y5 (x7 + 1)
theorem b_X8_bestMark_69 {C : ob_Cx} {rec : ob_St → Int32 → Int64 → Int32 → Option (ob_St × Int32)} (F : ob_Fx C cX8_bestMark 10 RX8 (some .int) 4 101) {g : ob_St} {n0 : Nat} {n1 : Nat} {n2 : Nat} {x3 : Int32} {x4 : Int32} {y5 : Int64} {x7 : Int32} {x : (ob_St × Int32)} (hr : ∀ {g : ob_St} {x4 : Int32} {y5 : Int64} {x7 : Int32} {x : (ob_St × Int32)}, rec g x4 y5 x7 = some x → ob_Ev C 75 [(4, .int x.2)] [] x.1 → ob_Ev C 23 [(0, ob_rv C n0), (1, ob_rv C n1), (2, ob_rv C n2), (3, .int x3), (4, .int x4), (5, .long y5), (7, .int x7)] [] g) (h : B_X8_bestMark_69 rec g n0 n1 n2 x3 x4 y5 x7 = some x) (k0 : ob_Ev C 75 [(4, .int x.2)] [] x.1) : ob_Ev C 69 [(0, ob_rv C n0), (1, ob_rv C n1), (2, ob_rv C n2), (3, .int x3), (4, .int x4), (5, .long y5), (7, .int x7)] [] g := by
  unfold B_X8_bestMark_69 at h
  refine ob_iinc F (v := (x7 + 1)) (ls2 := [(7, .int (x7 + 1)), (0, ob_rv C n0), (1, ob_rv C n1), (2, ob_rv C n2), (3, .int x3), (4, .int x4), (5, .long y5)]) 6 dX8_bestMark_69 rfl rfl (by decide) rfl ?_
  refine ob_goto F 23 dX8_bestMark_72 (by decide) ?_
  exact ob_sub [1, 2, 3, 4, 5, 6, 0] rfl (hr h k0)
def Lb_X8_bestMark_23 (rec : ob_St → Int32 → Int64 → Int32 → Option (ob_St × Int32)) (g : ob_St) (n0 : Nat) (n1 : Nat) (n2 : Nat) (x3 : Int32) (x4 : Int32) (y5 : Int64) (x7 : Int32) : Option (ob_St × Int32) :=
  (ob_gI g 8 n0 4).bind fun v3 => (if v3 ≤ x7 then (some (g, x4)) else ((ob_gR 8 n0 3).bind fun v4 => (ob_rI g 14 v4 x7).bind fun v5 => (ob_ck 8 n0 (f_X8_worthOf g n0 n1 n2 v5 x3)).bind fun v6 => (if v6.1 ≤ y5 then (B_X8_bestMark_69 rec v6.2 n0 n1 n2 x3 x4 y5 x7) else ((ob_gR 8 n0 3).bind fun v7 => (ob_rI v6.2 14 v7 x7).bind fun v8 => B_X8_bestMark_69 rec v6.2 n0 n1 n2 x3 v8 v6.1 x7))))
def L_X8_bestMark_23 (n0 : Nat) (n1 : Nat) (n2 : Nat) (x3 : Int32) : Nat → ob_St → Int32 → Int64 → Int32 → Option (ob_St × Int32)
  | 0, _, _, _, _ => none
  | n + 1, g, x4, y5, x7 => Lb_X8_bestMark_23 (L_X8_bestMark_23 n0 n1 n2 x3 n) g n0 n1 n2 x3 x4 y5 x7
theorem lb_X8_bestMark_23 {C : ob_Cx} {rec : ob_St → Int32 → Int64 → Int32 → Option (ob_St × Int32)} (F : ob_Fx C cX8_bestMark 10 RX8 (some .int) 4 101) {g : ob_St} {n0 : Nat} {n1 : Nat} {n2 : Nat} {x3 : Int32} {x4 : Int32} {y5 : Int64} {x7 : Int32} {x : (ob_St × Int32)} (hr : ∀ {g : ob_St} {x4 : Int32} {y5 : Int64} {x7 : Int32} {x : (ob_St × Int32)}, rec g x4 y5 x7 = some x → ob_Ev C 75 [(4, .int x.2)] [] x.1 → ob_Ev C 23 [(0, ob_rv C n0), (1, ob_rv C n1), (2, ob_rv C n2), (3, .int x3), (4, .int x4), (5, .long y5), (7, .int x7)] [] g) (h : Lb_X8_bestMark_23 rec g n0 n1 n2 x3 x4 y5 x7 = some x) (k0 : ob_Ev C 75 [(4, .int x.2)] [] x.1) : ob_Ev C 23 [(0, ob_rv C n0), (1, ob_rv C n1), (2, ob_rv C n2), (3, .int x3), (4, .int x4), (5, .long y5), (7, .int x7)] [] g := by
  unfold Lb_X8_bestMark_23 at h
  refine ob_iload F 6 dX8_bestMark_23 rfl ?_
  refine ob_rload_n F 0 dX8_bestMark_25 rfl ?_
  refine ob_getI F dX8_bestMark_26 fl_X8_22 h fun v3 h => ?_
  refine ob_icmp_ge F 75 dX8_bestMark_29 (by decide) h (fun h => ?_) (fun h => ?_)
  · obtain rfl := Option.some.inj h
    exact ob_sub [4] rfl (k0)
  · refine ob_rload_n F 0 dX8_bestMark_32 rfl ?_
    refine ob_rload_n F 1 dX8_bestMark_33 rfl ?_
    refine ob_rload_n F 2 dX8_bestMark_34 rfl ?_
    refine ob_rload_n F 0 dX8_bestMark_35 rfl ?_
    refine ob_getR F dX8_bestMark_36 fl_X8_18 h fun v4 h => ?_
    refine ob_iload F 6 dX8_bestMark_39 rfl ?_
    refine ob_iald F dX8_bestMark_41 h fun v5 h => ?_
    refine ob_iload_n F 3 dX8_bestMark_42 rfl ?_
    refine ob_cVlS F dX8_bestMark_43 im_X8_worthOf tw4_130 h (fun b hb => t_X8_worthOf hb) rfl rfl (Nat.le_of_ble_eq_true rfl) (by decide) fun v6 h => ?_
    refine ob_lstore F (ls2 := [(8, .long v6.1), (0, ob_rv C n0), (1, ob_rv C n1), (2, ob_rv C n2), (3, .int x3), (4, .int x4), (5, .long y5), (7, .int x7)]) dX8_bestMark_46 (by decide) rfl ?_
    refine ob_lload F 0 dX8_bestMark_48 rfl ?_
    refine ob_lload F 6 dX8_bestMark_50 rfl ?_
    refine ob_lcmp_le F 69 dX8_bestMark_52 dX8_bestMark_53 (by decide) h (fun h => ?_) (fun h => ?_)
    · exact ob_sub [1, 2, 3, 4, 5, 6, 7] rfl (b_X8_bestMark_69 F hr h k0)
    · refine ob_lload F 0 dX8_bestMark_56 rfl ?_
      refine ob_lstore F (ls2 := [(5, .long v6.1), (8, .long v6.1), (0, ob_rv C n0), (1, ob_rv C n1), (2, ob_rv C n2), (3, .int x3), (4, .int x4), (7, .int x7)]) dX8_bestMark_58 (by decide) rfl ?_
      refine ob_rload_n F 2 dX8_bestMark_60 rfl ?_
      refine ob_getR F dX8_bestMark_61 fl_X8_18 h fun v7 h => ?_
      refine ob_iload F 7 dX8_bestMark_64 rfl ?_
      refine ob_iald F dX8_bestMark_66 h fun v8 h => ?_
      refine ob_istore F (ls2 := [(4, .int v8), (5, .long v6.1), (8, .long v6.1), (0, ob_rv C n0), (1, ob_rv C n1), (2, ob_rv C n2), (3, .int x3), (7, .int x7)]) dX8_bestMark_67 (by decide) rfl ?_
      exact ob_sub [3, 4, 5, 6, 0, 1, 7] rfl (b_X8_bestMark_69 F hr h k0)
theorem l_X8_bestMark_23 {C : ob_Cx} (F : ob_Fx C cX8_bestMark 10 RX8 (some .int) 4 101) {n0 : Nat} {n1 : Nat} {n2 : Nat} {x3 : Int32} : ∀ (n : Nat) {g : ob_St} {x4 : Int32} {y5 : Int64} {x7 : Int32} {x : (ob_St × Int32)}, L_X8_bestMark_23 n0 n1 n2 x3 n g x4 y5 x7 = some x → ob_Ev C 75 [(4, .int x.2)] [] x.1 → ob_Ev C 23 [(0, ob_rv C n0), (1, ob_rv C n1), (2, ob_rv C n2), (3, .int x3), (4, .int x4), (5, .long y5), (7, .int x7)] [] g := by
  intro n
  induction n with
  | zero => intro g x4 y5 x7 x h; exact ob_no h
  | succ n ih => intro g x4 y5 x7 x h k0; exact lb_X8_bestMark_23 F ih h k0
def f_X8_bestMark (g : ob_St) (n0 : Nat) (n1 : Nat) (n2 : Nat) (x3 : Int32) : Option (Int32 × ob_St) :=
  (ob_ck 8 n0 (f_X8_collectMarks g n0 n1 n2 x3)).bind fun g1 => (ob_ck 8 n0 (f_X8_worthOf g1 n0 n1 n2 0 x3)).bind fun v2 => (L_X8_bestMark_23 n0 n1 n2 x3 ob_FU v2.2 0 v2.1 0).bind fun x_9 => some (x_9.2, x_9.1)
theorem b_X8_bestMark_0 {C : ob_Cx} (F : ob_Fx C cX8_bestMark 10 RX8 (some .int) 4 101) {g : ob_St} {n0 : Nat} {n1 : Nat} {n2 : Nat} {x3 : Int32} {r : (Int32 × ob_St)} (h : f_X8_bestMark g n0 n1 n2 x3 = some r) (k : ob_Rt C (some (.int r.1)) r.2) : ob_Ev C 0 [(0, ob_rv C n0), (1, ob_rv C n1), (2, ob_rv C n2), (3, .int x3)] [] g := by
  unfold f_X8_bestMark at h
  refine ob_rload_n F 0 dX8_bestMark_0 rfl ?_
  refine ob_rload_n F 1 dX8_bestMark_1 rfl ?_
  refine ob_rload_n F 2 dX8_bestMark_2 rfl ?_
  refine ob_iload_n F 3 dX8_bestMark_3 rfl ?_
  refine ob_cVvS F dX8_bestMark_4 im_X8_collectMarks tw4_120 h (fun b hb => t_X8_collectMarks hb) rfl rfl (Nat.le_of_ble_eq_true rfl) (by decide) fun g1 h => ?_
  refine ob_iconst F (v := 0) dX8_bestMark_7 (by decide) ?_
  refine ob_istore F (ls2 := [(4, .int 0), (0, ob_rv C n0), (1, ob_rv C n1), (2, ob_rv C n2), (3, .int x3)]) dX8_bestMark_8 (by decide) rfl ?_
  refine ob_rload_n F 1 dX8_bestMark_10 rfl ?_
  refine ob_rload_n F 2 dX8_bestMark_11 rfl ?_
  refine ob_rload_n F 3 dX8_bestMark_12 rfl ?_
  refine ob_iconst F (v := 0) dX8_bestMark_13 (by decide) ?_
  refine ob_iload_n F 4 dX8_bestMark_14 rfl ?_
  refine ob_cVlS F dX8_bestMark_15 im_X8_worthOf tw4_130 h (fun b hb => t_X8_worthOf hb) rfl rfl (Nat.le_of_ble_eq_true rfl) (by decide) fun v2 h => ?_
  refine ob_lstore F (ls2 := [(5, .long v2.1), (4, .int 0), (0, ob_rv C n0), (1, ob_rv C n1), (2, ob_rv C n2), (3, .int x3)]) dX8_bestMark_18 (by decide) rfl ?_
  refine ob_iconst F (v := 0) dX8_bestMark_20 (by decide) ?_
  refine ob_istore F (ls2 := [(7, .int 0), (5, .long v2.1), (4, .int 0), (0, ob_rv C n0), (1, ob_rv C n1), (2, ob_rv C n2), (3, .int x3)]) dX8_bestMark_21 (by decide) rfl ?_
  obtain ⟨x_9, hx, h⟩ := Option.bind_eq_some_iff.mp h
  refine ob_sub [3, 4, 5, 6, 2, 1, 0] rfl (l_X8_bestMark_23 F ob_FU hx ?_)
  refine ob_iload F 0 dX8_bestMark_75 rfl ?_
  obtain rfl := Option.some.inj h
  exact ob_iret F dX8_bestMark_77 k
theorem t_X8_bestMark {cf : ob_Cf} {g : ob_St} {n0 : Nat} {n1 : Nat} {n2 : Nat} {x3 : Int32} {r : (Int32 × ob_St)} (h : f_X8_bestMark g n0 n1 n2 x3 = some r) : ob_Mt cf yX8_bestMark cX8_bestMark 10 (some .int) 4 101 [ob_rw cf n0, ob_rw cf n1, ob_rw cf n2, .int x3] g (some (.int r.1)) r.2 := by
  refine ob_enter (by decide) (Nat.le_of_ble_eq_true rfl) (Or.inl rfl) ?_
  intro C hC F k
  subst hC
  exact b_X8_bestMark_0 F h k
