def kX1_perform_0 (G : jGT) (d : Nat)  (x1 : Int32) (x2 : Int32) (x3 : Int32) (x4 : Int32) (x5 : Int32) (M : jM) (post : Int32 → jM → Prop) : Prop := J G (d + 1) mX1_perform 0 [some (.ref 115), some (.int x1), some (.int x2), some (.int x3), some (.int x4), some (.int x5)] [] jN jSH M jMR 0 0 0 0 (jQi post)
theorem bX1_perform_0 {G : jGT} {d : Nat} {x1 : Int32} {x2 : Int32} {x3 : Int32} {x4 : Int32} {x5 : Int32} {M : jM} {post : Int32 → jM → Prop} (h : CI G d mX1_run [.ref 115, .int x2, .int x4, .int x5, .int (0 : Int32)] (jup (jup (jup (jup M 115 1 (0 : Int32)) 115 2 x1) 115 3 x2) 115 4 x3) (fun r1 M1 => post r1 M1)) : kX1_perform_0 G d  x1 x2 x3 x4 x5 M post := by
  unfold kX1_perform_0
  refine J_aload_0 dX1_perform_0 ?_
  refine J_iconst (0 : Int32) dX1_perform_1 (by decide) ?_
  refine J_putI false dX1_perform_2 pl_X1_15 jlt_115 jsh_115 (by decide) jrf_1_1 (fun q => absurd q (by decide)) ?_
  refine J_aload_0 dX1_perform_5 ?_
  refine J_iload_1 dX1_perform_6 ?_
  refine J_putI false dX1_perform_7 pl_X1_19 jlt_115 jsh_115 (by decide) jrf_1_2 (fun q => absurd q (by decide)) ?_
  refine J_aload_0 dX1_perform_10 ?_
  refine J_iload_2 dX1_perform_11 ?_
  refine J_putI false dX1_perform_12 pl_X1_22 jlt_115 jsh_115 (by decide) jrf_1_3 (fun q => absurd q (by decide)) ?_
  refine J_aload_0 dX1_perform_15 ?_
  refine J_iload_3 dX1_perform_16 ?_
  refine J_putI false dX1_perform_17 pl_X1_25 jlt_115 jsh_115 (by decide) jrf_1_4 (fun q => absurd q (by decide)) ?_
  refine J_aload_0 dX1_perform_20 ?_
  refine J_aload_0 dX1_perform_21 ?_
  refine J_getI dX1_perform_22 fl_X1_22 jlt_115 jsh_115 (by decide) jrf_1_3 ?_
  refine J_iload_4 dX1_perform_25 ?_
  refine J_iload_5 dX1_perform_27 ?_
  refine J_iconst (0 : Int32) dX1_perform_29 (by decide) ?_
  refine K_callVI (As := [.int x2, .int x4, .int x5, .int (0 : Int32)]) (rest := []) dX1_perform_30 vl_X1_28 jlt_115 jsh_115 _ rfl rfl h rfl rfl (Nat.le_of_ble_eq_true rfl) (fun r1 M1 h => ?_)
  exact K_iret dX1_perform_33 rfl h
theorem eX1_perform {G : jGT} {d : Nat} {x1 : Int32} {x2 : Int32} {x3 : Int32} {x4 : Int32} {x5 : Int32} {M : jM} {post : Int32 → jM → Prop} (h : kX1_perform_0 G d  x1 x2 x3 x4 x5 M post) : CI G (d + 1) mX1_perform [.ref 115, .int x1, .int x2, .int x3, .int x4, .int x5] M post := Con_of_J ok_X1_perform 0 rfl rfl h
def kX1_run_0 (G : jGT) (d : Nat)  (x1 : Int32) (x2 : Int32) (x3 : Int32) (x4 : Int32) (M : jM) (post : Int32 → jM → Prop) : Prop := J G (d + 1) mX1_run 0 [some (.ref 115), some (.int x1), some (.int x2), some (.int x3), some (.int x4), none, none, none, none] [] jN jSH M jMR 0 0 0 0 (jQi post)
theorem bX1_run_0 {G : jGT} {d : Nat} {x1 : Int32} {x2 : Int32} {x3 : Int32} {x4 : Int32} {M : jM} {post : Int32 → jM → Prop} (h : CI G d mX1_holderFrom [.int x1, .int x2] M (fun r1 M1 => (if r1 < 0 then post (0 : Int32) M1 else (if x4 ≤ (30 : Int32) then (vp_in ((r1 * (3 : Int32)) + x2) 21 ∧ (vp_in r1 7 ∧ CV G d mX1_note [.ref 115, .int (jBODIES (((r1 * (3 : Int32)) + x2).toNatClampNeg))] M1 (fun M2 => (if (jBODIES (((r1 * (3 : Int32)) + x2).toNatClampNeg)) = (1 : Int32) then post (x3 + (M2 115 2)) M2 else (if (jBODIES (((r1 * (3 : Int32)) + x2).toNatClampNeg)) = (2 : Int32) then CI G d mX1_run [.ref 115, .int (M2 115 3), .int (0 : Int32), .int x3, .int (x4 + (1 : Int32))] M2 (fun r3 M3 => post (r3 - (M3 115 4)) M3) else (if (jBODIES (((r1 * (3 : Int32)) + x2).toNatClampNeg)) = (3 : Int32) then CI G d mX1_run [.ref 115, .int (M2 115 3), .int (1 : Int32), .int x3, .int (x4 + (1 : Int32))] M2 (fun r4 M4 => post (r4 * (2 : Int32)) M4) else (if (jBODIES (((r1 * (3 : Int32)) + x2).toNatClampNeg)) = (11 : Int32) then CI G d mX1_run [.ref 115, .int (jABOVE r1.toNatClampNeg), .int (0 : Int32), .int (x3 * (3 : Int32)), .int (x4 + (1 : Int32))] M2 (fun r5 M5 => post r5 M5) else (if (jBODIES (((r1 * (3 : Int32)) + x2).toNatClampNeg)) = (21 : Int32) then CI G d mX1_run [.ref 115, .int (jABOVE r1.toNatClampNeg), .int (1 : Int32), .int x3, .int (x4 + (1 : Int32))] M2 (fun r6 M6 => post (-r6) M6) else (if (jBODIES (((r1 * (3 : Int32)) + x2).toNatClampNeg)) = (31 : Int32) then CI G d mX1_run [.ref 115, .int (jABOVE r1.toNatClampNeg), .int (2 : Int32), .int x3, .int (x4 + (1 : Int32))] M2 (fun r7 M7 => post (r7 ^^^ (7 : Int32)) M7) else (if (jBODIES (((r1 * (3 : Int32)) + x2).toNatClampNeg)) = (41 : Int32) then CI G d mX1_run [.ref 115, .int (jABOVE r1.toNatClampNeg), .int (2 : Int32), .int (x3 - (1 : Int32)), .int (x4 + (1 : Int32))] M2 (fun r8 M8 => CI G d mX1_run [.ref 115, .int (M8 115 3), .int (0 : Int32), .int (2 : Int32), .int (x4 + (1 : Int32))] M8 (fun r9 M9 => post (r8 + r9) M9)) else (if (jBODIES (((r1 * (3 : Int32)) + x2).toNatClampNeg)) = (51 : Int32) then CI G d mX1_run [.ref 115, .int (jABOVE r1.toNatClampNeg), .int (0 : Int32), .int x3, .int (x4 + (1 : Int32))] M2 (fun r10 M10 => post (r10 ^^^ (M10 115 2)) M10) else CI G d mX1_run [.ref 115, .int (jABOVE r1.toNatClampNeg), .int (1 : Int32), .int x3, .int (x4 + (1 : Int32))] M2 (fun r11 M11 => post (r11 + (M11 115 4)) M11)))))))))))) else post (0 : Int32) M1)))) : kX1_run_0 G d  x1 x2 x3 x4 M post := by
  unfold kX1_run_0
  refine J_iload_1 dX1_run_0 ?_
  refine J_iload_2 dX1_run_1 ?_
  refine K_callSI (rest := []) dX1_run_2 sl_X1_32 h rfl rfl (Nat.le_of_ble_eq_true rfl) (fun r1 M1 h => ?_)
  refine J_istore_5 dX1_run_5 rfl ?_
  refine J_iload_5 dX1_run_7 ?_
  refine J_if_lt (t := 19) dX1_run_9 (by decide) (fun c0 => ?_) (fun c0 => ?_)
  · replace h := ite_t c0 h
    refine J_iconst (0 : Int32) dX1_run_19 (by decide) ?_
    exact K_iret dX1_run_20 rfl h
  · replace h := ite_f c0 h
    refine J_iload_4 dX1_run_12 ?_
    refine J_bipush (30 : Int32) dX1_run_14 (by decide) ?_
    refine J_icmp_le (t := 21) dX1_run_16 (by decide) (fun c1 => ?_) (fun c1 => ?_)
    · replace h := ite_t c1 h
      refine J_getsB dX1_run_21 w_870 ?_
      refine J_iload_5 dX1_run_24 ?_
      refine J_iconst (3 : Int32) dX1_run_26 (by decide) ?_
      refine J_imul dX1_run_27 ?_
      refine J_iload_2 dX1_run_28 ?_
      refine J_iadd dX1_run_29 ?_
      obtain ⟨g2, h⟩ := h
      refine K_ialdO (((r1 * (3 : Int32)) + x2).toNatClampNeg) rfl dX1_run_30 rfl g2 ?_
      refine J_istore_6 dX1_run_31 rfl ?_
      refine J_getsN dX1_run_33 rfl ?_
      refine J_iload_5 dX1_run_36 ?_
      obtain ⟨g3, h⟩ := h
      refine K_ialdO r1.toNatClampNeg rfl dX1_run_38 rfl g3 ?_
      refine J_istore_7 dX1_run_39 rfl ?_
      refine J_iload_4 dX1_run_41 ?_
      refine J_iconst (1 : Int32) dX1_run_43 (by decide) ?_
      refine J_iadd dX1_run_44 ?_
      refine J_istore_8 dX1_run_45 rfl ?_
      refine J_aload_0 dX1_run_47 ?_
      refine J_iload_6 dX1_run_48 ?_
      refine K_callVV (As := [.int (jBODIES (((r1 * (3 : Int32)) + x2).toNatClampNeg))]) (rest := []) dX1_run_50 vl_X1_42 jlt_115 jsh_115 _ rfl rfl h rfl rfl (Nat.le_of_ble_eq_true rfl) (fun M2 h => ?_)
      refine J_iload_6 dX1_run_53 ?_
      by_cases c4 : (jBODIES (((r1 * (3 : Int32)) + x2).toNatClampNeg)) = (1 : Int32)
      · replace h := ite_t c4 h
        refine J_lsw (off := 73) (t := 128) dX1_run_55 (by decide) (by rw [c4]; decide) (by decide) ?_
        refine J_iload_3 dX1_run_128 ?_
        refine J_aload_0 dX1_run_129 ?_
        refine J_getI dX1_run_130 fl_X1_19 jlt_115 jsh_115 (by decide) jrf_1_2 ?_
        refine J_iadd dX1_run_133 ?_
        exact K_iret dX1_run_134 rfl h
      replace h := ite_f c4 h
      by_cases c5 : (jBODIES (((r1 * (3 : Int32)) + x2).toNatClampNeg)) = (2 : Int32)
      · replace h := ite_t c5 h
        refine J_lsw (off := 80) (t := 135) dX1_run_55 (by decide) (by rw [c5]; decide) (by decide) ?_
        refine J_aload_0 dX1_run_135 ?_
        refine J_aload_0 dX1_run_136 ?_
        refine J_getI dX1_run_137 fl_X1_22 jlt_115 jsh_115 (by decide) jrf_1_3 ?_
        refine J_iconst (0 : Int32) dX1_run_140 (by decide) ?_
        refine J_iload_3 dX1_run_141 ?_
        refine J_iload_8 dX1_run_142 ?_
        refine K_callVI (As := [.int (M2 115 3), .int (0 : Int32), .int x3, .int (x4 + (1 : Int32))]) (rest := []) dX1_run_144 vl_X1_28 jlt_115 jsh_115 _ rfl rfl h rfl rfl (Nat.le_of_ble_eq_true rfl) (fun r3 M3 h => ?_)
        refine J_aload_0 dX1_run_147 ?_
        refine J_getI dX1_run_148 fl_X1_25 jlt_115 jsh_115 (by decide) jrf_1_4 ?_
        refine J_isub dX1_run_151 ?_
        exact K_iret dX1_run_152 rfl h
      replace h := ite_f c5 h
      by_cases c6 : (jBODIES (((r1 * (3 : Int32)) + x2).toNatClampNeg)) = (3 : Int32)
      · replace h := ite_t c6 h
        refine J_lsw (off := 98) (t := 153) dX1_run_55 (by decide) (by rw [c6]; decide) (by decide) ?_
        refine J_aload_0 dX1_run_153 ?_
        refine J_aload_0 dX1_run_154 ?_
        refine J_getI dX1_run_155 fl_X1_22 jlt_115 jsh_115 (by decide) jrf_1_3 ?_
        refine J_iconst (1 : Int32) dX1_run_158 (by decide) ?_
        refine J_iload_3 dX1_run_159 ?_
        refine J_iload_8 dX1_run_160 ?_
        refine K_callVI (As := [.int (M2 115 3), .int (1 : Int32), .int x3, .int (x4 + (1 : Int32))]) (rest := []) dX1_run_162 vl_X1_28 jlt_115 jsh_115 _ rfl rfl h rfl rfl (Nat.le_of_ble_eq_true rfl) (fun r4 M4 h => ?_)
        refine J_iconst (2 : Int32) dX1_run_165 (by decide) ?_
        refine J_imul dX1_run_166 ?_
        exact K_iret dX1_run_167 rfl h
      replace h := ite_f c6 h
      by_cases c7 : (jBODIES (((r1 * (3 : Int32)) + x2).toNatClampNeg)) = (11 : Int32)
      · replace h := ite_t c7 h
        refine J_lsw (off := 113) (t := 168) dX1_run_55 (by decide) (by rw [c7]; decide) (by decide) ?_
        refine J_aload_0 dX1_run_168 ?_
        refine J_iload_7 dX1_run_169 ?_
        refine J_iconst (0 : Int32) dX1_run_171 (by decide) ?_
        refine J_iload_3 dX1_run_172 ?_
        refine J_iconst (3 : Int32) dX1_run_173 (by decide) ?_
        refine J_imul dX1_run_174 ?_
        refine J_iload_8 dX1_run_175 ?_
        refine K_callVI (As := [.int (jABOVE r1.toNatClampNeg), .int (0 : Int32), .int (x3 * (3 : Int32)), .int (x4 + (1 : Int32))]) (rest := []) dX1_run_177 vl_X1_28 jlt_115 jsh_115 _ rfl rfl h rfl rfl (Nat.le_of_ble_eq_true rfl) (fun r5 M5 h => ?_)
        exact K_iret dX1_run_180 rfl h
      replace h := ite_f c7 h
      by_cases c8 : (jBODIES (((r1 * (3 : Int32)) + x2).toNatClampNeg)) = (21 : Int32)
      · replace h := ite_t c8 h
        refine J_lsw (off := 126) (t := 181) dX1_run_55 (by decide) (by rw [c8]; decide) (by decide) ?_
        refine J_aload_0 dX1_run_181 ?_
        refine J_iload_7 dX1_run_182 ?_
        refine J_iconst (1 : Int32) dX1_run_184 (by decide) ?_
        refine J_iload_3 dX1_run_185 ?_
        refine J_iload_8 dX1_run_186 ?_
        refine K_callVI (As := [.int (jABOVE r1.toNatClampNeg), .int (1 : Int32), .int x3, .int (x4 + (1 : Int32))]) (rest := []) dX1_run_188 vl_X1_28 jlt_115 jsh_115 _ rfl rfl h rfl rfl (Nat.le_of_ble_eq_true rfl) (fun r6 M6 h => ?_)
        refine J_ineg dX1_run_191 ?_
        exact K_iret dX1_run_192 rfl h
      replace h := ite_f c8 h
      by_cases c9 : (jBODIES (((r1 * (3 : Int32)) + x2).toNatClampNeg)) = (31 : Int32)
      · replace h := ite_t c9 h
        refine J_lsw (off := 138) (t := 193) dX1_run_55 (by decide) (by rw [c9]; decide) (by decide) ?_
        refine J_aload_0 dX1_run_193 ?_
        refine J_iload_7 dX1_run_194 ?_
        refine J_iconst (2 : Int32) dX1_run_196 (by decide) ?_
        refine J_iload_3 dX1_run_197 ?_
        refine J_iload_8 dX1_run_198 ?_
        refine K_callVI (As := [.int (jABOVE r1.toNatClampNeg), .int (2 : Int32), .int x3, .int (x4 + (1 : Int32))]) (rest := []) dX1_run_200 vl_X1_28 jlt_115 jsh_115 _ rfl rfl h rfl rfl (Nat.le_of_ble_eq_true rfl) (fun r7 M7 h => ?_)
        refine J_bipush (7 : Int32) dX1_run_203 (by decide) ?_
        refine J_ixor dX1_run_205 ?_
        exact K_iret dX1_run_206 rfl h
      replace h := ite_f c9 h
      by_cases c10 : (jBODIES (((r1 * (3 : Int32)) + x2).toNatClampNeg)) = (41 : Int32)
      · replace h := ite_t c10 h
        refine J_lsw (off := 152) (t := 207) dX1_run_55 (by decide) (by rw [c10]; decide) (by decide) ?_
        refine J_aload_0 dX1_run_207 ?_
        refine J_iload_7 dX1_run_208 ?_
        refine J_iconst (2 : Int32) dX1_run_210 (by decide) ?_
        refine J_iload_3 dX1_run_211 ?_
        refine J_iconst (1 : Int32) dX1_run_212 (by decide) ?_
        refine J_isub dX1_run_213 ?_
        refine J_iload_8 dX1_run_214 ?_
        refine K_callVI (As := [.int (jABOVE r1.toNatClampNeg), .int (2 : Int32), .int (x3 - (1 : Int32)), .int (x4 + (1 : Int32))]) (rest := []) dX1_run_216 vl_X1_28 jlt_115 jsh_115 _ rfl rfl h rfl rfl (Nat.le_of_ble_eq_true rfl) (fun r8 M8 h => ?_)
        refine J_aload_0 dX1_run_219 ?_
        refine J_aload_0 dX1_run_220 ?_
        refine J_getI dX1_run_221 fl_X1_22 jlt_115 jsh_115 (by decide) jrf_1_3 ?_
        refine J_iconst (0 : Int32) dX1_run_224 (by decide) ?_
        refine J_iconst (2 : Int32) dX1_run_225 (by decide) ?_
        refine J_iload_8 dX1_run_226 ?_
        refine K_callVI (As := [.int (M8 115 3), .int (0 : Int32), .int (2 : Int32), .int (x4 + (1 : Int32))]) (rest := [.int r8]) dX1_run_228 vl_X1_28 jlt_115 jsh_115 _ rfl rfl h rfl rfl (Nat.le_of_ble_eq_true rfl) (fun r9 M9 h => ?_)
        refine J_iadd dX1_run_231 ?_
        exact K_iret dX1_run_232 rfl h
      replace h := ite_f c10 h
      by_cases c11 : (jBODIES (((r1 * (3 : Int32)) + x2).toNatClampNeg)) = (51 : Int32)
      · replace h := ite_t c11 h
        refine J_lsw (off := 178) (t := 233) dX1_run_55 (by decide) (by rw [c11]; decide) (by decide) ?_
        refine J_aload_0 dX1_run_233 ?_
        refine J_iload_7 dX1_run_234 ?_
        refine J_iconst (0 : Int32) dX1_run_236 (by decide) ?_
        refine J_iload_3 dX1_run_237 ?_
        refine J_iload_8 dX1_run_238 ?_
        refine K_callVI (As := [.int (jABOVE r1.toNatClampNeg), .int (0 : Int32), .int x3, .int (x4 + (1 : Int32))]) (rest := []) dX1_run_240 vl_X1_28 jlt_115 jsh_115 _ rfl rfl h rfl rfl (Nat.le_of_ble_eq_true rfl) (fun r10 M10 h => ?_)
        refine J_aload_0 dX1_run_243 ?_
        refine J_getI dX1_run_244 fl_X1_19 jlt_115 jsh_115 (by decide) jrf_1_2 ?_
        refine J_ixor dX1_run_247 ?_
        exact K_iret dX1_run_248 rfl h
      replace h := ite_f c11 h
      refine J_lsw (off := 194) (t := 249) dX1_run_55 (by decide) (j_lswD _ _ _ (by simp only [List.forall_mem_cons, List.not_mem_nil, false_implies, implies_true, and_true]; exact ⟨fun q => c4 (Int32.toInt_inj.mp (q.trans (by decide))), fun q => c5 (Int32.toInt_inj.mp (q.trans (by decide))), fun q => c6 (Int32.toInt_inj.mp (q.trans (by decide))), fun q => c7 (Int32.toInt_inj.mp (q.trans (by decide))), fun q => c8 (Int32.toInt_inj.mp (q.trans (by decide))), fun q => c9 (Int32.toInt_inj.mp (q.trans (by decide))), fun q => c10 (Int32.toInt_inj.mp (q.trans (by decide))), fun q => c11 (Int32.toInt_inj.mp (q.trans (by decide)))⟩)) (by decide) ?_
      refine J_aload_0 dX1_run_249 ?_
      refine J_iload_7 dX1_run_250 ?_
      refine J_iconst (1 : Int32) dX1_run_252 (by decide) ?_
      refine J_iload_3 dX1_run_253 ?_
      refine J_iload_8 dX1_run_254 ?_
      refine K_callVI (As := [.int (jABOVE r1.toNatClampNeg), .int (1 : Int32), .int x3, .int (x4 + (1 : Int32))]) (rest := []) dX1_run_256 vl_X1_28 jlt_115 jsh_115 _ rfl rfl h rfl rfl (Nat.le_of_ble_eq_true rfl) (fun r11 M11 h => ?_)
      refine J_aload_0 dX1_run_259 ?_
      refine J_getI dX1_run_260 fl_X1_25 jlt_115 jsh_115 (by decide) jrf_1_4 ?_
      refine J_iadd dX1_run_263 ?_
      exact K_iret dX1_run_264 rfl h
    · replace h := ite_f c1 h
      refine J_iconst (0 : Int32) dX1_run_19 (by decide) ?_
      exact K_iret dX1_run_20 rfl h
theorem eX1_run {G : jGT} {d : Nat} {x1 : Int32} {x2 : Int32} {x3 : Int32} {x4 : Int32} {M : jM} {post : Int32 → jM → Prop} (h : kX1_run_0 G d  x1 x2 x3 x4 M post) : CI G (d + 1) mX1_run [.ref 115, .int x1, .int x2, .int x3, .int x4] M post := Con_of_J ok_X1_run 4 rfl rfl h
def kX1_holderFrom_0 (G : jGT) (d : Nat)  (x0 : Int32) (x1 : Int32) (M : jM) (post : Int32 → jM → Prop) : Prop := J G d mX1_holderFrom 0 [some (.int x0), some (.int x1), none, none] [] jN jSH M jMR 0 0 0 0 (jQi post)
def kX1_holderFrom_15 (G : jGT) (d : Nat)  (x0 : Int32) (x1 : Int32) (x2 : Int32) (x3 : Int32) (M : jM) (post : Int32 → jM → Prop) : Prop := J G d mX1_holderFrom 15 [some (.int x0), some (.int x1), some (.int x2), some (.int x3)] [] jN jSH M jMR 0 0 0 0 (jQi post)
theorem bX1_holderFrom_0 {G : jGT} {d : Nat} {x0 : Int32} {x1 : Int32} {M : jM} {post : Int32 → jM → Prop} (h : (if x1 < 0 then post (-1 : Int32) M else (if x1 < (3 : Int32) then kX1_holderFrom_15 G d x0 x1 x0 (0 : Int32) M post else post (-1 : Int32) M))) : kX1_holderFrom_0 G d  x0 x1 M post := by
  unfold kX1_holderFrom_0
  refine J_iload_1 dX1_holderFrom_0 ?_
  refine J_if_lt (t := 9) dX1_holderFrom_1 (by decide) (fun c0 => ?_) (fun c0 => ?_)
  · replace h := ite_t c0 h
    refine J_iconst (-1 : Int32) dX1_holderFrom_9 (by decide) ?_
    exact K_iret dX1_holderFrom_10 rfl h
  · replace h := ite_f c0 h
    refine J_iload_1 dX1_holderFrom_4 ?_
    refine J_iconst (3 : Int32) dX1_holderFrom_5 (by decide) ?_
    refine J_icmp_lt (t := 11) dX1_holderFrom_6 (by decide) (fun c1 => ?_) (fun c1 => ?_)
    · replace h := ite_t c1 h
      refine J_iload_0 dX1_holderFrom_11 ?_
      refine J_istore_2 dX1_holderFrom_12 rfl ?_
      refine J_iconst (0 : Int32) dX1_holderFrom_13 (by decide) ?_
      refine J_istore_3 dX1_holderFrom_14 rfl ?_
      exact h
    · replace h := ite_f c1 h
      refine J_iconst (-1 : Int32) dX1_holderFrom_9 (by decide) ?_
      exact K_iret dX1_holderFrom_10 rfl h
theorem bX1_holderFrom_15 {G : jGT} {d : Nat} {x0 : Int32} {x1 : Int32} {x2 : Int32} {x3 : Int32} {M : jM} {post : Int32 → jM → Prop} (h : (if (7 : Int32) ≤ x3 then post (-1 : Int32) M else (if x2 < 0 then post (-1 : Int32) M else (if (7 : Int32) ≤ x2 then post (-1 : Int32) M else (vp_in ((x2 * (3 : Int32)) + x1) 21 ∧ (if (jBODIES (((x2 * (3 : Int32)) + x1).toNatClampNeg)) = 0 then (vp_in x2 7 ∧ kX1_holderFrom_15 G d x0 x1 (jABOVE x2.toNatClampNeg) (x3 + (1 : Int32)) M post) else post x2 M)))))) : kX1_holderFrom_15 G d  x0 x1 x2 x3 M post := by
  unfold kX1_holderFrom_15
  refine J_iload_3 dX1_holderFrom_15 ?_
  refine J_bipush (7 : Int32) dX1_holderFrom_16 (by decide) ?_
  refine J_icmp_ge (t := 57) dX1_holderFrom_18 (by decide) (fun c0 => ?_) (fun c0 => ?_)
  · replace h := ite_t c0 h
    refine J_iconst (-1 : Int32) dX1_holderFrom_57 (by decide) ?_
    exact K_iret dX1_holderFrom_58 rfl h
  · replace h := ite_f c0 h
    refine J_iload_2 dX1_holderFrom_21 ?_
    refine J_if_lt (t := 57) dX1_holderFrom_22 (by decide) (fun c1 => ?_) (fun c1 => ?_)
    · replace h := ite_t c1 h
      refine J_iconst (-1 : Int32) dX1_holderFrom_57 (by decide) ?_
      exact K_iret dX1_holderFrom_58 rfl h
    · replace h := ite_f c1 h
      refine J_iload_2 dX1_holderFrom_25 ?_
      refine J_bipush (7 : Int32) dX1_holderFrom_26 (by decide) ?_
      refine J_icmp_ge (t := 57) dX1_holderFrom_28 (by decide) (fun c2 => ?_) (fun c2 => ?_)
      · replace h := ite_t c2 h
        refine J_iconst (-1 : Int32) dX1_holderFrom_57 (by decide) ?_
        exact K_iret dX1_holderFrom_58 rfl h
      · replace h := ite_f c2 h
        refine J_getsB dX1_holderFrom_31 w_870 ?_
        refine J_iload_2 dX1_holderFrom_34 ?_
        refine J_iconst (3 : Int32) dX1_holderFrom_35 (by decide) ?_
        refine J_imul dX1_holderFrom_36 ?_
        refine J_iload_1 dX1_holderFrom_37 ?_
        refine J_iadd dX1_holderFrom_38 ?_
        obtain ⟨g3, h⟩ := h
        refine K_ialdO (((x2 * (3 : Int32)) + x1).toNatClampNeg) rfl dX1_holderFrom_39 rfl g3 ?_
        refine J_if_eq (t := 45) dX1_holderFrom_40 (by decide) (fun c4 => ?_) (fun c4 => ?_)
        · replace h := ite_t c4 h
          refine J_getsN dX1_holderFrom_45 rfl ?_
          refine J_iload_2 dX1_holderFrom_48 ?_
          obtain ⟨g5, h⟩ := h
          refine K_ialdO x2.toNatClampNeg rfl dX1_holderFrom_49 rfl g5 ?_
          refine J_istore_2 dX1_holderFrom_50 rfl ?_
          refine J_iinc_3 (1 : Int32) dX1_holderFrom_51 (by decide) rfl ?_
          refine J_goto (t := 15) dX1_holderFrom_54 (by decide) ?_
          exact h
        · replace h := ite_f c4 h
          refine J_iload_2 dX1_holderFrom_43 ?_
          exact K_iret dX1_holderFrom_44 rfl h
theorem eX1_holderFrom {G : jGT} {d : Nat} {x0 : Int32} {x1 : Int32} {M : jM} {post : Int32 → jM → Prop} (h : kX1_holderFrom_0 G d  x0 x1 M post) : CI G d mX1_holderFrom [.int x0, .int x1] M post := Con_of_J ok_X1_holderFrom 2 rfl rfl h
def kX1_note_0 (G : jGT) (d : Nat)  (x1 : Int32) (M : jM) (post : jM → Prop) : Prop := J G d mX1_note 0 [some (.ref 115), some (.int x1)] [] jN jSH M jMR 0 0 0 0 (jQv post)
theorem bX1_note_0 {G : jGT} {d : Nat} {x1 : Int32} {M : jM} {post : jM → Prop} (h : (if (M 115 1) < 0 then post (jup M 115 1 ((M 115 1) + (1 : Int32))) else (if (20 : Int32) ≤ (M 115 1) then post (jup M 115 1 ((M 115 1) + (1 : Int32))) else (vp_in (M 115 1) 20 ∧ post (jup (jup M 116 ((M 115 1).toNatClampNeg) x1) 115 1 ((M 115 1) + (1 : Int32))))))) : kX1_note_0 G d  x1 M post := by
  unfold kX1_note_0
  refine J_aload_0 dX1_note_0 ?_
  refine J_getI dX1_note_1 fl_X1_15 jlt_115 jsh_115 (by decide) jrf_1_1 ?_
  refine J_if_lt (t := 26) dX1_note_4 (by decide) (fun c0 => ?_) (fun c0 => ?_)
  · replace h := ite_t c0 h
    refine J_aload_0 dX1_note_26 ?_
    refine J_dup dX1_note_27 rfl ?_
    refine J_getI dX1_note_28 fl_X1_15 jlt_115 jsh_115 (by decide) jrf_1_1 ?_
    refine J_iconst (1 : Int32) dX1_note_31 (by decide) ?_
    refine J_iadd dX1_note_32 ?_
    refine J_putI false dX1_note_33 pl_X1_15 jlt_115 jsh_115 (by decide) jrf_1_1 (fun q => absurd q (by decide)) ?_
    exact K_ret dX1_note_36 rfl h
  · replace h := ite_f c0 h
    refine J_aload_0 dX1_note_7 ?_
    refine J_getI dX1_note_8 fl_X1_15 jlt_115 jsh_115 (by decide) jrf_1_1 ?_
    refine J_bipush (20 : Int32) dX1_note_11 (by decide) ?_
    refine J_icmp_ge (t := 26) dX1_note_13 (by decide) (fun c1 => ?_) (fun c1 => ?_)
    · replace h := ite_t c1 h
      refine J_aload_0 dX1_note_26 ?_
      refine J_dup dX1_note_27 rfl ?_
      refine J_getI dX1_note_28 fl_X1_15 jlt_115 jsh_115 (by decide) jrf_1_1 ?_
      refine J_iconst (1 : Int32) dX1_note_31 (by decide) ?_
      refine J_iadd dX1_note_32 ?_
      refine J_putI false dX1_note_33 pl_X1_15 jlt_115 jsh_115 (by decide) jrf_1_1 (fun q => absurd q (by decide)) ?_
      exact K_ret dX1_note_36 rfl h
    · replace h := ite_f c1 h
      refine J_aload_0 dX1_note_16 ?_
      refine J_getR 116 dX1_note_17 fl_X1_9 jlt_115 jsh_115 (by decide) jrf_1_0 jmr_115_0 ?_
      refine J_aload_0 dX1_note_20 ?_
      refine J_getI dX1_note_21 fl_X1_15 jlt_115 jsh_115 (by decide) jrf_1_1 ?_
      refine J_iload_1 dX1_note_24 ?_
      obtain ⟨g2, h⟩ := h
      refine K_iast ((M 115 1).toNatClampNeg) rfl dX1_note_25 jlt_116 jsh_116 g2 ?_
      refine J_aload_0 dX1_note_26 ?_
      refine J_dup dX1_note_27 rfl ?_
      refine J_getI dX1_note_28 fl_X1_15 jlt_115 jsh_115 (by decide) jrf_1_1 ?_
      refine J_iconst (1 : Int32) dX1_note_31 (by decide) ?_
      refine J_iadd dX1_note_32 ?_
      refine J_putI false dX1_note_33 pl_X1_15 jlt_115 jsh_115 (by decide) jrf_1_1 (fun q => absurd q (by decide)) ?_
      exact K_ret dX1_note_36 rfl h
theorem eX1_note {G : jGT} {d : Nat} {x1 : Int32} {M : jM} {post : jM → Prop} (h : kX1_note_0 G d  x1 M post) : CV G d mX1_note [.ref 115, .int x1] M post := Con_of_J ok_X1_note 0 rfl rfl h
