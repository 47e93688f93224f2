def kX8_day_0 (G : jGT) (d : Nat)  (x1 : Int32) (M : jM) (post : Int32 → jM → Prop) : Prop := J G (d + 1) mX8_day 0 [some (.ref 117), some (.int x1), none] [] jN jSH M jMR 0 0 0 0 (jQi post)
theorem bX8_day_0 {G : jGT} {d : Nat} {x1 : Int32} {M : jM} {post : Int32 → jM → Prop} (h : CI G d mX8_in [.int x1, .int (0 : Int32), .int (9 : Int32)] M (fun r1 M1 => (if r1 = 0 then post (-2 : Int32) M1 else post (M1 118 7) (jup M1 118 7 x1)))) : kX8_day_0 G d  x1 M post := by
  unfold kX8_day_0
  refine J_iload_1 dX8_day_0 ?_
  refine J_iconst (0 : Int32) dX8_day_1 (by decide) ?_
  refine J_bipush (9 : Int32) dX8_day_2 (by decide) ?_
  refine K_callSI (rest := []) dX8_day_4 sl_X8_53 h rfl rfl (Nat.le_of_ble_eq_true rfl) (fun r1 M1 h => ?_)
  refine J_if_ne (t := 13) dX8_day_7 (by decide) (fun c0 => ?_) (fun c0 => ?_)
  · replace h := ite_f c0 h
    refine J_aload_0 dX8_day_13 ?_
    refine J_getR 118 dX8_day_14 fl_X8_9 jlt_117 jsh_117 (by decide) jrf_8_1 jmr_117_1 ?_
    refine J_bipush (7 : Int32) dX8_day_17 (by decide) ?_
    refine K_iald 7 rfl dX8_day_19 jlt_118 jsh_118 (vp_lit (by decide)) ?_
    refine J_istore_2 dX8_day_20 rfl ?_
    refine J_aload_0 dX8_day_21 ?_
    refine J_getR 118 dX8_day_22 fl_X8_9 jlt_117 jsh_117 (by decide) jrf_8_1 jmr_117_1 ?_
    refine J_bipush (7 : Int32) dX8_day_25 (by decide) ?_
    refine J_iload_1 dX8_day_27 ?_
    refine K_iast 7 rfl dX8_day_28 jlt_118 jsh_118 (vp_lit (by decide)) ?_
    refine J_iload_2 dX8_day_29 ?_
    exact K_iret dX8_day_30 rfl h
  · replace h := ite_t c0 h
    refine J_bipush (-2 : Int32) dX8_day_10 (by decide) ?_
    exact K_iret dX8_day_12 rfl h
theorem eX8_day {G : jGT} {d : Nat} {x1 : Int32} {M : jM} {post : Int32 → jM → Prop} (h : kX8_day_0 G d  x1 M post) : CI G (d + 1) mX8_day [.ref 117, .int x1] M post := Con_of_J ok_X8_day 1 rfl rfl h
def kX8_told_0 (G : jGT) (d : Nat)  (x1 : Int32) (M : jM) (post : Int32 → jM → Prop) : Prop := J G (d + 1) mX8_told 0 [some (.ref 117), some (.int x1)] [] jN jSH M jMR 0 0 0 0 (jQi post)
theorem bX8_told_0 {G : jGT} {d : Nat} {x1 : Int32} {M : jM} {post : Int32 → jM → Prop} (h : (if x1 = 0 then post (M 118 7) M else (if x1 = (1 : Int32) then CI G d mX8_barNow [.ref 117] M (fun r1 M1 => post r1 M1) else post (-1 : Int32) M))) : kX8_told_0 G d  x1 M post := by
  unfold kX8_told_0
  refine J_iload_1 dX8_told_0 ?_
  refine J_if_ne (t := 14) dX8_told_1 (by decide) (fun c0 => ?_) (fun c0 => ?_)
  · replace h := ite_f c0 h
    refine J_iload_1 dX8_told_14 ?_
    refine J_iconst (1 : Int32) dX8_told_15 (by decide) ?_
    refine J_icmp_ne (t := 26) dX8_told_16 (by decide) (fun c1 => ?_) (fun c1 => ?_)
    · replace h := ite_f c1 h
      refine J_iconst (-1 : Int32) dX8_told_26 (by decide) ?_
      exact K_iret dX8_told_27 rfl h
    · replace h := ite_t c1 h
      refine J_aload_0 dX8_told_19 ?_
      refine K_callVI (As := []) (rest := []) dX8_told_20 vl_X8_130 jlt_117 jsh_117 _ rfl rfl h rfl rfl (Nat.le_of_ble_eq_true rfl) (fun r1 M1 h => ?_)
      refine J_goto (t := 27) dX8_told_23 (by decide) ?_
      exact K_iret dX8_told_27 rfl h
  · replace h := ite_t c0 h
    refine J_aload_0 dX8_told_4 ?_
    refine J_getR 118 dX8_told_5 fl_X8_9 jlt_117 jsh_117 (by decide) jrf_8_1 jmr_117_1 ?_
    refine J_bipush (7 : Int32) dX8_told_8 (by decide) ?_
    refine K_iald 7 rfl dX8_told_10 jlt_118 jsh_118 (vp_lit (by decide)) ?_
    refine J_goto (t := 27) dX8_told_11 (by decide) ?_
    exact K_iret dX8_told_27 rfl h
theorem eX8_told {G : jGT} {d : Nat} {x1 : Int32} {M : jM} {post : Int32 → jM → Prop} (h : kX8_told_0 G d  x1 M post) : CI G (d + 1) mX8_told [.ref 117, .int x1] M post := Con_of_J ok_X8_told 0 rfl rfl h
def kX8_suit_0 (G : jGT) (d : Nat)  (x1 : Int32) (x2 : Int32) (M : jM) (post : Int32 → jM → Prop) : Prop := J G (d + 1) mX8_suit 0 [some (.ref 117), some (.int x1), some (.int x2), none] [] jN jSH M jMR 0 0 0 0 (jQi post)
theorem bX8_suit_0 {G : jGT} {d : Nat} {x1 : Int32} {x2 : Int32} {M : jM} {post : Int32 → jM → Prop} (h : CI G d mX8_in [.int x1, .int (0 : Int32), .int (255 : Int32)] M (fun r1 M1 => (if r1 = 0 then post (-2 : Int32) M1 else CI G d mX8_in [.int x2, .int (0 : Int32), .int (99 : Int32)] M1 (fun r2 M2 => (if r2 = 0 then post (-2 : Int32) M2 else (if (M2 118 0) = (8 : Int32) then post (-4 : Int32) M2 else (vp_in ((10 : Int32) + (M2 118 0)) 916 ∧ (vp_in ((18 : Int32) + (M2 118 0)) 916 ∧ post (M2 118 0) (jup (jup (jup M2 118 (((10 : Int32) + (M2 118 0)).toNatClampNeg) x1) 118 (((18 : Int32) + (M2 118 0)).toNatClampNeg) x2) 118 0 (((jup (jup M2 118 (((10 : Int32) + (M2 118 0)).toNatClampNeg) x1) 118 (((18 : Int32) + (M2 118 0)).toNatClampNeg) x2) 118 0) + (1 : Int32))))))))))) : kX8_suit_0 G d  x1 x2 M post := by
  unfold kX8_suit_0
  refine J_iload_1 dX8_suit_0 ?_
  refine J_iconst (0 : Int32) dX8_suit_1 (by decide) ?_
  refine J_sipush (255 : Int32) dX8_suit_2 (by decide) ?_
  refine K_callSI (rest := []) dX8_suit_5 sl_X8_53 h rfl rfl (Nat.le_of_ble_eq_true rfl) (fun r1 M1 h => ?_)
  refine J_if_eq (t := 21) dX8_suit_8 (by decide) (fun c0 => ?_) (fun c0 => ?_)
  · replace h := ite_t c0 h
    refine J_bipush (-2 : Int32) dX8_suit_21 (by decide) ?_
    exact K_iret dX8_suit_23 rfl h
  · replace h := ite_f c0 h
    refine J_iload_2 dX8_suit_11 ?_
    refine J_iconst (0 : Int32) dX8_suit_12 (by decide) ?_
    refine J_bipush (99 : Int32) dX8_suit_13 (by decide) ?_
    refine K_callSI (rest := []) dX8_suit_15 sl_X8_53 h rfl rfl (Nat.le_of_ble_eq_true rfl) (fun r2 M2 h => ?_)
    refine J_if_ne (t := 24) dX8_suit_18 (by decide) (fun c1 => ?_) (fun c1 => ?_)
    · replace h := ite_f c1 h
      refine J_aload_0 dX8_suit_24 ?_
      refine J_getR 118 dX8_suit_25 fl_X8_9 jlt_117 jsh_117 (by decide) jrf_8_1 jmr_117_1 ?_
      refine J_iconst (0 : Int32) dX8_suit_28 (by decide) ?_
      refine K_iald 0 rfl dX8_suit_29 jlt_118 jsh_118 (vp_lit (by decide)) ?_
      refine J_bipush (8 : Int32) dX8_suit_30 (by decide) ?_
      refine J_icmp_ne (t := 38) dX8_suit_32 (by decide) (fun c2 => ?_) (fun c2 => ?_)
      · replace h := ite_f c2 h
        refine J_aload_0 dX8_suit_38 ?_
        refine J_getR 118 dX8_suit_39 fl_X8_9 jlt_117 jsh_117 (by decide) jrf_8_1 jmr_117_1 ?_
        refine J_iconst (0 : Int32) dX8_suit_42 (by decide) ?_
        refine K_iald 0 rfl dX8_suit_43 jlt_118 jsh_118 (vp_lit (by decide)) ?_
        refine J_istore_3 dX8_suit_44 rfl ?_
        refine J_aload_0 dX8_suit_45 ?_
        refine J_getR 118 dX8_suit_46 fl_X8_9 jlt_117 jsh_117 (by decide) jrf_8_1 jmr_117_1 ?_
        refine J_bipush (10 : Int32) dX8_suit_49 (by decide) ?_
        refine J_iload_3 dX8_suit_51 ?_
        refine J_iadd dX8_suit_52 ?_
        refine J_iload_1 dX8_suit_53 ?_
        obtain ⟨g3, h⟩ := h
        refine K_iast (((10 : Int32) + (M2 118 0)).toNatClampNeg) rfl dX8_suit_54 jlt_118 jsh_118 g3 ?_
        refine J_aload_0 dX8_suit_55 ?_
        refine J_getR 118 dX8_suit_56 fl_X8_9 jlt_117 jsh_117 (by decide) jrf_8_1 jmr_117_1 ?_
        refine J_bipush (18 : Int32) dX8_suit_59 (by decide) ?_
        refine J_iload_3 dX8_suit_61 ?_
        refine J_iadd dX8_suit_62 ?_
        refine J_iload_2 dX8_suit_63 ?_
        obtain ⟨g4, h⟩ := h
        refine K_iast (((18 : Int32) + (M2 118 0)).toNatClampNeg) rfl dX8_suit_64 jlt_118 jsh_118 g4 ?_
        refine J_aload_0 dX8_suit_65 ?_
        refine J_getR 118 dX8_suit_66 fl_X8_9 jlt_117 jsh_117 (by decide) jrf_8_1 jmr_117_1 ?_
        refine J_iconst (0 : Int32) dX8_suit_69 (by decide) ?_
        refine J_dup2 dX8_suit_70 rfl rfl ?_
        refine K_iald 0 rfl dX8_suit_71 jlt_118 jsh_118 (vp_lit (by decide)) ?_
        refine J_iconst (1 : Int32) dX8_suit_72 (by decide) ?_
        refine J_iadd dX8_suit_73 ?_
        refine K_iast 0 rfl dX8_suit_74 jlt_118 jsh_118 (vp_lit (by decide)) ?_
        refine J_iload_3 dX8_suit_75 ?_
        exact K_iret dX8_suit_76 rfl h
      · replace h := ite_t c2 h
        refine J_bipush (-4 : Int32) dX8_suit_35 (by decide) ?_
        exact K_iret dX8_suit_37 rfl h
    · replace h := ite_t c1 h
      refine J_bipush (-2 : Int32) dX8_suit_21 (by decide) ?_
      exact K_iret dX8_suit_23 rfl h
theorem eX8_suit {G : jGT} {d : Nat} {x1 : Int32} {x2 : Int32} {M : jM} {post : Int32 → jM → Prop} (h : kX8_suit_0 G d  x1 x2 M post) : CI G (d + 1) mX8_suit [.ref 117, .int x1, .int x2] M post := Con_of_J ok_X8_suit 1 rfl rfl h
def kX8_of_0 (G : jGT) (d : Nat)  (x1 : Int32) (x2 : Int32) (M : jM) (post : Int32 → jM → Prop) : Prop := J G (d + 1) mX8_of 0 [some (.ref 117), some (.int x1), some (.int x2)] [] jN jSH M jMR 0 0 0 0 (jQi post)
theorem bX8_of_0 {G : jGT} {d : Nat} {x1 : Int32} {x2 : Int32} {M : jM} {post : Int32 → jM → Prop} (h : CI G d mX8_isSuit [.ref 117, .int x1] M (fun r1 M1 => (if r1 = 0 then post (-1 : Int32) M1 else CI G d mX8_in [.int x2, .int (0 : Int32), .int (1 : Int32)] M1 (fun r2 M2 => (if r2 = 0 then post (-1 : Int32) M2 else (vp_in (((10 : Int32) + ((8 : Int32) * x2)) + x1) 916 ∧ post (M2 118 ((((10 : Int32) + ((8 : Int32) * x2)) + x1).toNatClampNeg)) M2)))))) : kX8_of_0 G d  x1 x2 M post := by
  unfold kX8_of_0
  refine J_aload_0 dX8_of_0 ?_
  refine J_iload_1 dX8_of_1 ?_
  refine K_callVI (As := [.int x1]) (rest := []) dX8_of_2 vl_X8_133 jlt_117 jsh_117 _ rfl rfl h rfl rfl (Nat.le_of_ble_eq_true rfl) (fun r1 M1 h => ?_)
  refine J_if_eq (t := 34) dX8_of_5 (by decide) (fun c0 => ?_) (fun c0 => ?_)
  · replace h := ite_t c0 h
    refine J_iconst (-1 : Int32) dX8_of_34 (by decide) ?_
    exact K_iret dX8_of_35 rfl h
  · replace h := ite_f c0 h
    refine J_iload_2 dX8_of_8 ?_
    refine J_iconst (0 : Int32) dX8_of_9 (by decide) ?_
    refine J_iconst (1 : Int32) dX8_of_10 (by decide) ?_
    refine K_callSI (rest := []) dX8_of_11 sl_X8_53 h rfl rfl (Nat.le_of_ble_eq_true rfl) (fun r2 M2 h => ?_)
    refine J_if_eq (t := 34) dX8_of_14 (by decide) (fun c1 => ?_) (fun c1 => ?_)
    · replace h := ite_t c1 h
      refine J_iconst (-1 : Int32) dX8_of_34 (by decide) ?_
      exact K_iret dX8_of_35 rfl h
    · replace h := ite_f c1 h
      refine J_aload_0 dX8_of_17 ?_
      refine J_getR 118 dX8_of_18 fl_X8_9 jlt_117 jsh_117 (by decide) jrf_8_1 jmr_117_1 ?_
      refine J_bipush (10 : Int32) dX8_of_21 (by decide) ?_
      refine J_bipush (8 : Int32) dX8_of_23 (by decide) ?_
      refine J_iload_2 dX8_of_25 ?_
      refine J_imul dX8_of_26 ?_
      refine J_iadd dX8_of_27 ?_
      refine J_iload_1 dX8_of_28 ?_
      refine J_iadd dX8_of_29 ?_
      obtain ⟨g2, h⟩ := h
      refine K_iald ((((10 : Int32) + ((8 : Int32) * x2)) + x1).toNatClampNeg) rfl dX8_of_30 jlt_118 jsh_118 g2 ?_
      refine J_goto (t := 35) dX8_of_31 (by decide) ?_
      exact K_iret dX8_of_35 rfl h
theorem eX8_of {G : jGT} {d : Nat} {x1 : Int32} {x2 : Int32} {M : jM} {post : Int32 → jM → Prop} (h : kX8_of_0 G d  x1 x2 M post) : CI G (d + 1) mX8_of [.ref 117, .int x1, .int x2] M post := Con_of_J ok_X8_of 0 rfl rfl h
def kX8_judge_0 (G : jGT) (d : Nat)  (x1 : Int32) (x2 : Int32) (M : jM) (post : Int32 → jM → Prop) : Prop := J G (d + 1) mX8_judge 0 [some (.ref 117), some (.int x1), some (.int x2), none, none] [] jN jSH M jMR 0 0 0 0 (jQi post)
def kX8_judge_68 (G : jGT) (d : Nat)  (x1 : Int32) (x2 : Int32) (x3 : Int32) (x4 : Int32) (M : jM) (post : Int32 → jM → Prop) : Prop := J G (d + 1) mX8_judge 68 [some (.ref 117), some (.int x1), some (.int x2), some (.int x3), some (.int x4)] [] jN jSH M jMR 0 0 0 0 (jQi post)
theorem bX8_judge_0 {G : jGT} {d : Nat} {x1 : Int32} {x2 : Int32} {M : jM} {post : Int32 → jM → Prop} (h : CI G d mX8_in [.int x1, .int (0 : Int32), .int (6 : Int32)] M (fun r1 M1 => (if r1 = 0 then post (-1 : Int32) M1 else CI G d mX8_in [.int x2, .int (0 : Int32), .int (9 : Int32)] M1 (fun r2 M2 => (if r2 = 0 then post (-2 : Int32) M2 else (if (M2 118 1) = (4 : Int32) then post (-4 : Int32) M2 else (vp_in ((26 : Int32) + (M2 118 1)) 916 ∧ (vp_in ((30 : Int32) + (M2 118 1)) 916 ∧ kX8_judge_68 G d x1 x2 (M2 118 1) (0 : Int32) (jup (jup M2 118 (((26 : Int32) + (M2 118 1)).toNatClampNeg) x1) 118 (((30 : Int32) + (M2 118 1)).toNatClampNeg) x2) post)))))))) : kX8_judge_0 G d  x1 x2 M post := by
  unfold kX8_judge_0
  refine J_iload_1 dX8_judge_0 ?_
  refine J_iconst (0 : Int32) dX8_judge_1 (by decide) ?_
  refine J_bipush (6 : Int32) dX8_judge_2 (by decide) ?_
  refine K_callSI (rest := []) dX8_judge_4 sl_X8_53 h rfl rfl (Nat.le_of_ble_eq_true rfl) (fun r1 M1 h => ?_)
  refine J_if_ne (t := 12) dX8_judge_7 (by decide) (fun c0 => ?_) (fun c0 => ?_)
  · replace h := ite_f c0 h
    refine J_iload_2 dX8_judge_12 ?_
    refine J_iconst (0 : Int32) dX8_judge_13 (by decide) ?_
    refine J_bipush (9 : Int32) dX8_judge_14 (by decide) ?_
    refine K_callSI (rest := []) dX8_judge_16 sl_X8_53 h rfl rfl (Nat.le_of_ble_eq_true rfl) (fun r2 M2 h => ?_)
    refine J_if_ne (t := 25) dX8_judge_19 (by decide) (fun c1 => ?_) (fun c1 => ?_)
    · replace h := ite_f c1 h
      refine J_aload_0 dX8_judge_25 ?_
      refine J_getR 118 dX8_judge_26 fl_X8_9 jlt_117 jsh_117 (by decide) jrf_8_1 jmr_117_1 ?_
      refine J_iconst (1 : Int32) dX8_judge_29 (by decide) ?_
      refine K_iald 1 rfl dX8_judge_30 jlt_118 jsh_118 (vp_lit (by decide)) ?_
      refine J_iconst (4 : Int32) dX8_judge_31 (by decide) ?_
      refine J_icmp_ne (t := 38) dX8_judge_32 (by decide) (fun c2 => ?_) (fun c2 => ?_)
      · replace h := ite_f c2 h
        refine J_aload_0 dX8_judge_38 ?_
        refine J_getR 118 dX8_judge_39 fl_X8_9 jlt_117 jsh_117 (by decide) jrf_8_1 jmr_117_1 ?_
        refine J_iconst (1 : Int32) dX8_judge_42 (by decide) ?_
        refine K_iald 1 rfl dX8_judge_43 jlt_118 jsh_118 (vp_lit (by decide)) ?_
        refine J_istore_3 dX8_judge_44 rfl ?_
        refine J_aload_0 dX8_judge_45 ?_
        refine J_getR 118 dX8_judge_46 fl_X8_9 jlt_117 jsh_117 (by decide) jrf_8_1 jmr_117_1 ?_
        refine J_bipush (26 : Int32) dX8_judge_49 (by decide) ?_
        refine J_iload_3 dX8_judge_51 ?_
        refine J_iadd dX8_judge_52 ?_
        refine J_iload_1 dX8_judge_53 ?_
        obtain ⟨g3, h⟩ := h
        refine K_iast (((26 : Int32) + (M2 118 1)).toNatClampNeg) rfl dX8_judge_54 jlt_118 jsh_118 g3 ?_
        refine J_aload_0 dX8_judge_55 ?_
        refine J_getR 118 dX8_judge_56 fl_X8_9 jlt_117 jsh_117 (by decide) jrf_8_1 jmr_117_1 ?_
        refine J_bipush (30 : Int32) dX8_judge_59 (by decide) ?_
        refine J_iload_3 dX8_judge_61 ?_
        refine J_iadd dX8_judge_62 ?_
        refine J_iload_2 dX8_judge_63 ?_
        obtain ⟨g4, h⟩ := h
        refine K_iast (((30 : Int32) + (M2 118 1)).toNatClampNeg) rfl dX8_judge_64 jlt_118 jsh_118 g4 ?_
        refine J_iconst (0 : Int32) dX8_judge_65 (by decide) ?_
        refine J_istore_4 dX8_judge_66 rfl ?_
        exact h
      · replace h := ite_t c2 h
        refine J_bipush (-4 : Int32) dX8_judge_35 (by decide) ?_
        exact K_iret dX8_judge_37 rfl h
    · replace h := ite_t c1 h
      refine J_bipush (-2 : Int32) dX8_judge_22 (by decide) ?_
      exact K_iret dX8_judge_24 rfl h
  · replace h := ite_t c0 h
    refine J_iconst (-1 : Int32) dX8_judge_10 (by decide) ?_
    exact K_iret dX8_judge_11 rfl h
theorem bX8_judge_68 {G : jGT} {d : Nat} {x1 : Int32} {x2 : Int32} {x3 : Int32} {x4 : Int32} {M : jM} {post : Int32 → jM → Prop} (h : (if (4 : Int32) ≤ x4 then post x3 (jup M 118 1 ((M 118 1) + (1 : Int32))) else (vp_in (((34 : Int32) + ((4 : Int32) * x3)) + x4) 916 ∧ kX8_judge_68 G d x1 x2 x3 (x4 + (1 : Int32)) (jup M 118 ((((34 : Int32) + ((4 : Int32) * x3)) + x4).toNatClampNeg) (0 : Int32)) post))) : kX8_judge_68 G d  x1 x2 x3 x4 M post := by
  unfold kX8_judge_68
  refine J_iload_4 dX8_judge_68 ?_
  refine J_iconst (4 : Int32) dX8_judge_70 (by decide) ?_
  refine J_icmp_ge (t := 95) dX8_judge_71 (by decide) (fun c0 => ?_) (fun c0 => ?_)
  · replace h := ite_t c0 h
    refine J_aload_0 dX8_judge_95 ?_
    refine J_getR 118 dX8_judge_96 fl_X8_9 jlt_117 jsh_117 (by decide) jrf_8_1 jmr_117_1 ?_
    refine J_iconst (1 : Int32) dX8_judge_99 (by decide) ?_
    refine J_dup2 dX8_judge_100 rfl rfl ?_
    refine K_iald 1 rfl dX8_judge_101 jlt_118 jsh_118 (vp_lit (by decide)) ?_
    refine J_iconst (1 : Int32) dX8_judge_102 (by decide) ?_
    refine J_iadd dX8_judge_103 ?_
    refine K_iast 1 rfl dX8_judge_104 jlt_118 jsh_118 (vp_lit (by decide)) ?_
    refine J_iload_3 dX8_judge_105 ?_
    exact K_iret dX8_judge_106 rfl h
  · replace h := ite_f c0 h
    refine J_aload_0 dX8_judge_74 ?_
    refine J_getR 118 dX8_judge_75 fl_X8_9 jlt_117 jsh_117 (by decide) jrf_8_1 jmr_117_1 ?_
    refine J_bipush (34 : Int32) dX8_judge_78 (by decide) ?_
    refine J_iconst (4 : Int32) dX8_judge_80 (by decide) ?_
    refine J_iload_3 dX8_judge_81 ?_
    refine J_imul dX8_judge_82 ?_
    refine J_iadd dX8_judge_83 ?_
    refine J_iload_4 dX8_judge_84 ?_
    refine J_iadd dX8_judge_86 ?_
    refine J_iconst (0 : Int32) dX8_judge_87 (by decide) ?_
    obtain ⟨g1, h⟩ := h
    refine K_iast ((((34 : Int32) + ((4 : Int32) * x3)) + x4).toNatClampNeg) rfl dX8_judge_88 jlt_118 jsh_118 g1 ?_
    refine J_iinc_4 (1 : Int32) dX8_judge_89 (by decide) rfl ?_
    refine J_goto (t := 68) dX8_judge_92 (by decide) ?_
    exact h
theorem eX8_judge {G : jGT} {d : Nat} {x1 : Int32} {x2 : Int32} {M : jM} {post : Int32 → jM → Prop} (h : kX8_judge_0 G d  x1 x2 M post) : CI G (d + 1) mX8_judge [.ref 117, .int x1, .int x2] M post := Con_of_J ok_X8_judge 2 rfl rfl h
def kX8_row_0 (G : jGT) (d : Nat)  (x1 : Int32) (x2 : Int32) (x3 : Int32) (M : jM) (post : Int32 → jM → Prop) : Prop := J G (d + 1) mX8_row 0 [some (.ref 117), some (.int x1), some (.int x2), some (.int x3), none] [] jN jSH M jMR 0 0 0 0 (jQi post)
theorem bX8_row_0 {G : jGT} {d : Nat} {x1 : Int32} {x2 : Int32} {x3 : Int32} {M : jM} {post : Int32 → jM → Prop} (h : CI G d mX8_isJudge [.ref 117, .int x1] M (fun r1 M1 => (if r1 = 0 then post (-1 : Int32) M1 else CI G d mX8_in [.int x2, .int (0 : Int32), .int (3 : Int32)] M1 (fun r2 M2 => (if r2 = 0 then post (-1 : Int32) M2 else CI G d mX8_in [.int x3, .int (0 : Int32), .int (2 : Int32)] M2 (fun r3 M3 => (if r3 = 0 then post (-2 : Int32) M3 else (vp_in ((26 : Int32) + x1) 916 ∧ (if (M3 118 (((26 : Int32) + x1).toNatClampNeg)) = (6 : Int32) then (vp_in (((34 : Int32) + ((4 : Int32) * x1)) + x2) 916 ∧ (vp_in (((34 : Int32) + ((4 : Int32) * x1)) + x2) 916 ∧ post (M3 118 ((((34 : Int32) + ((4 : Int32) * x1)) + x2).toNatClampNeg)) (jup M3 118 ((((34 : Int32) + ((4 : Int32) * x1)) + x2).toNatClampNeg) x3))) else post (-3 : Int32) M3))))))))) : kX8_row_0 G d  x1 x2 x3 M post := by
  unfold kX8_row_0
  refine J_aload_0 dX8_row_0 ?_
  refine J_iload_1 dX8_row_1 ?_
  refine K_callVI (As := [.int x1]) (rest := []) dX8_row_2 vl_X8_137 jlt_117 jsh_117 _ rfl rfl h rfl rfl (Nat.le_of_ble_eq_true rfl) (fun r1 M1 h => ?_)
  refine J_if_eq (t := 17) dX8_row_5 (by decide) (fun c0 => ?_) (fun c0 => ?_)
  · replace h := ite_t c0 h
    refine J_iconst (-1 : Int32) dX8_row_17 (by decide) ?_
    exact K_iret dX8_row_18 rfl h
  · replace h := ite_f c0 h
    refine J_iload_2 dX8_row_8 ?_
    refine J_iconst (0 : Int32) dX8_row_9 (by decide) ?_
    refine J_iconst (3 : Int32) dX8_row_10 (by decide) ?_
    refine K_callSI (rest := []) dX8_row_11 sl_X8_53 h rfl rfl (Nat.le_of_ble_eq_true rfl) (fun r2 M2 h => ?_)
    refine J_if_ne (t := 19) dX8_row_14 (by decide) (fun c1 => ?_) (fun c1 => ?_)
    · replace h := ite_f c1 h
      refine J_iload_3 dX8_row_19 ?_
      refine J_iconst (0 : Int32) dX8_row_20 (by decide) ?_
      refine J_iconst (2 : Int32) dX8_row_21 (by decide) ?_
      refine K_callSI (rest := []) dX8_row_22 sl_X8_53 h rfl rfl (Nat.le_of_ble_eq_true rfl) (fun r3 M3 h => ?_)
      refine J_if_ne (t := 31) dX8_row_25 (by decide) (fun c2 => ?_) (fun c2 => ?_)
      · replace h := ite_f c2 h
        refine J_aload_0 dX8_row_31 ?_
        refine J_getR 118 dX8_row_32 fl_X8_9 jlt_117 jsh_117 (by decide) jrf_8_1 jmr_117_1 ?_
        refine J_bipush (26 : Int32) dX8_row_35 (by decide) ?_
        refine J_iload_1 dX8_row_37 ?_
        refine J_iadd dX8_row_38 ?_
        obtain ⟨g3, h⟩ := h
        refine K_iald (((26 : Int32) + x1).toNatClampNeg) rfl dX8_row_39 jlt_118 jsh_118 g3 ?_
        refine J_bipush (6 : Int32) dX8_row_40 (by decide) ?_
        refine J_icmp_eq (t := 48) dX8_row_42 (by decide) (fun c4 => ?_) (fun c4 => ?_)
        · replace h := ite_t c4 h
          refine J_aload_0 dX8_row_48 ?_
          refine J_getR 118 dX8_row_49 fl_X8_9 jlt_117 jsh_117 (by decide) jrf_8_1 jmr_117_1 ?_
          refine J_bipush (34 : Int32) dX8_row_52 (by decide) ?_
          refine J_iconst (4 : Int32) dX8_row_54 (by decide) ?_
          refine J_iload_1 dX8_row_55 ?_
          refine J_imul dX8_row_56 ?_
          refine J_iadd dX8_row_57 ?_
          refine J_iload_2 dX8_row_58 ?_
          refine J_iadd dX8_row_59 ?_
          obtain ⟨g5, h⟩ := h
          refine K_iald ((((34 : Int32) + ((4 : Int32) * x1)) + x2).toNatClampNeg) rfl dX8_row_60 jlt_118 jsh_118 g5 ?_
          refine J_istore_4 dX8_row_61 rfl ?_
          refine J_aload_0 dX8_row_63 ?_
          refine J_getR 118 dX8_row_64 fl_X8_9 jlt_117 jsh_117 (by decide) jrf_8_1 jmr_117_1 ?_
          refine J_bipush (34 : Int32) dX8_row_67 (by decide) ?_
          refine J_iconst (4 : Int32) dX8_row_69 (by decide) ?_
          refine J_iload_1 dX8_row_70 ?_
          refine J_imul dX8_row_71 ?_
          refine J_iadd dX8_row_72 ?_
          refine J_iload_2 dX8_row_73 ?_
          refine J_iadd dX8_row_74 ?_
          refine J_iload_3 dX8_row_75 ?_
          obtain ⟨g6, h⟩ := h
          refine K_iast ((((34 : Int32) + ((4 : Int32) * x1)) + x2).toNatClampNeg) rfl dX8_row_76 jlt_118 jsh_118 g6 ?_
          refine J_iload_4 dX8_row_77 ?_
          exact K_iret dX8_row_79 rfl h
        · replace h := ite_f c4 h
          refine J_bipush (-3 : Int32) dX8_row_45 (by decide) ?_
          exact K_iret dX8_row_47 rfl h
      · replace h := ite_t c2 h
        refine J_bipush (-2 : Int32) dX8_row_28 (by decide) ?_
        exact K_iret dX8_row_30 rfl h
    · replace h := ite_t c1 h
      refine J_iconst (-1 : Int32) dX8_row_17 (by decide) ?_
      exact K_iret dX8_row_18 rfl h
theorem eX8_row {G : jGT} {d : Nat} {x1 : Int32} {x2 : Int32} {x3 : Int32} {M : jM} {post : Int32 → jM → Prop} (h : kX8_row_0 G d  x1 x2 x3 M post) : CI G (d + 1) mX8_row [.ref 117, .int x1, .int x2, .int x3] M post := Con_of_J ok_X8_row 1 rfl rfl h
def kX8_looks_0 (G : jGT) (d : Nat)  (x1 : Int32) (x2 : Int32) (M : jM) (post : jM → Prop) : Prop := J G d mX8_looks 0 [some (.ref 117), some (.int x1), some (.int x2), none, none, none, none, none, none, none, none] [] jN jSH M jMR 0 0 0 0 (jQv post)
def kX8_looks_91 (G : jGT) (d : Nat)  (x1 : Int32) (x2 : Int32) (s0 : Int32) (M : jM) (post : jM → Prop) : Prop := J G d mX8_looks 91 [some (.ref 117), some (.int x1), some (.int x2), none, none, none, none, none, none, none, none] [.int s0] jN jSH M jMR 0 0 0 0 (jQv post)
def kX8_looks_116 (G : jGT) (d : Nat)  (x1 : Int32) (x2 : Int32) (x3 : Int32) (x4 : Int32) (x5 : Int32) (x6 : Int32) (M : jM) (post : jM → Prop) : Prop := J G d mX8_looks 116 [some (.ref 117), some (.int x1), some (.int x2), some (.int x3), some (.int x4), some (.int x5), some (.int x6), none, none, none, none] [] jN jSH M jMR 0 0 0 0 (jQv post)
def kX8_looks_226 (G : jGT) (d : Nat)  (x1 : Int32) (x2 : Int32) (x3 : Int32) (x4 : Int32) (x5 : Int32) (x6 : Int32) (x7 : Int32) (x8 : Int32) (x9 : Int32) (x10 : Int32) (s1 : Int32) (s2 : Int32) (M : jM) (post : jM → Prop) : Prop := J G d mX8_looks 226 [some (.ref 117), some (.int x1), some (.int x2), some (.int x3), some (.int x4), some (.int x5), some (.int x6), some (.int x7), some (.int x8), some (.int x9), some (.int x10)] [.int s2, .int s1, .ref 121] jN jSH M jMR 0 0 0 0 (jQv post)
def kX8_looks_264 (G : jGT) (d : Nat)  (x1 : Int32) (x2 : Int32) (x3 : Int32) (x4 : Int32) (x5 : Int32) (x6 : Int32) (x7 : Int32) (s1 : Int32) (s2 : Int32) (M : jM) (post : jM → Prop) : Prop := J G d mX8_looks 264 [some (.ref 117), some (.int x1), some (.int x2), some (.int x3), some (.int x4), some (.int x5), some (.int x6), some (.int x7), none, none, none] [.int s2, .int s1, .ref 121] jN jSH M jMR 0 0 0 0 (jQv post)
def kX8_looks_319 (G : jGT) (d : Nat)  (x1 : Int32) (x2 : Int32) (x3 : Int32) (x4 : Int32) (x5 : Int32) (x6 : Int32) (x7 : Int32) (s1 : Int32) (M : jM) (post : jM → Prop) : Prop := J G d mX8_looks 319 [some (.ref 117), some (.int x1), some (.int x2), some (.int x3), some (.int x4), some (.int x5), some (.int x6), some (.int x7), none, none, none] [.int s1, .ref 121] jN jSH M jMR 0 0 0 0 (jQv post)
def kX8_looks_345 (G : jGT) (d : Nat)  (x1 : Int32) (x2 : Int32) (x3 : Int32) (x4 : Int32) (x5 : Int32) (x6 : Int32) (x7 : Int32) (s1 : Int32) (M : jM) (post : jM → Prop) : Prop := J G d mX8_looks 345 [some (.ref 117), some (.int x1), some (.int x2), some (.int x3), some (.int x4), some (.int x5), some (.int x6), some (.int x7), none, none, none] [.int s1, .ref 121] jN jSH M jMR 0 0 0 0 (jQv post)
def kX8_looks_350 (G : jGT) (d : Nat)  (x1 : Int32) (x2 : Int32) (x3 : Int32) (x4 : Int32) (x5 : Int32) (x6 : Int32) (x7 : Int32) (s1 : Int32) (s2 : Int32) (M : jM) (post : jM → Prop) : Prop := J G d mX8_looks 350 [some (.ref 117), some (.int x1), some (.int x2), some (.int x3), some (.int x4), some (.int x5), some (.int x6), some (.int x7), none, none, none] [.int s2, .int s1, .ref 121] jN jSH M jMR 0 0 0 0 (jQv post)
def kX8_looks_391 (G : jGT) (d : Nat)  (x1 : Int32) (x2 : Int32) (x3 : Int32) (x4 : Int32) (x5 : Int32) (x6 : Int32) (x7 : Int32) (x8 : Int32) (s1 : Int32) (M : jM) (post : jM → Prop) : Prop := J G d mX8_looks 391 [some (.ref 117), some (.int x1), some (.int x2), some (.int x3), some (.int x4), some (.int x5), some (.int x6), some (.int x7), some (.int x8), none, none] [.int s1, .ref 117] jN jSH M jMR 0 0 0 0 (jQv post)
def kX8_looks_392 (G : jGT) (d : Nat)  (x1 : Int32) (x2 : Int32) (x3 : Int32) (x4 : Int32) (x5 : Int32) (x6 : Int32) (x7 : Int32) (x8 : Int32) (s1 : Int32) (s2 : Int32) (M : jM) (post : jM → Prop) : Prop := J G d mX8_looks 392 [some (.ref 117), some (.int x1), some (.int x2), some (.int x3), some (.int x4), some (.int x5), some (.int x6), some (.int x7), some (.int x8), none, none] [.int s2, .int s1, .ref 117] jN jSH M jMR 0 0 0 0 (jQv post)
def kX8_looks_423 (G : jGT) (d : Nat)  (x1 : Int32) (x2 : Int32) (x3 : Int32) (x4 : Int32) (x5 : Int32) (x6 : Int32) (x7 : Int32) (x8 : Int32) (s1 : Int32) (M : jM) (post : jM → Prop) : Prop := J G d mX8_looks 423 [some (.ref 117), some (.int x1), some (.int x2), some (.int x3), some (.int x4), some (.int x5), some (.int x6), some (.int x7), some (.int x8), none, none] [.int s1, .ref 117] jN jSH M jMR 0 0 0 0 (jQv post)
def kX8_looks_424 (G : jGT) (d : Nat)  (x1 : Int32) (x2 : Int32) (x3 : Int32) (x4 : Int32) (x5 : Int32) (x6 : Int32) (x7 : Int32) (x8 : Int32) (s1 : Int32) (s2 : Int32) (M : jM) (post : jM → Prop) : Prop := J G d mX8_looks 424 [some (.ref 117), some (.int x1), some (.int x2), some (.int x3), some (.int x4), some (.int x5), some (.int x6), some (.int x7), some (.int x8), none, none] [.int s2, .int s1, .ref 117] jN jSH M jMR 0 0 0 0 (jQv post)
def kX8_looks_428 (G : jGT) (d : Nat)  (x1 : Int32) (x2 : Int32) (x3 : Int32) (x4 : Int32) (x5 : Int32) (x6 : Int32) (x7 : Int32) (M : jM) (post : jM → Prop) : Prop := J G d mX8_looks 428 [some (.ref 117), some (.int x1), some (.int x2), some (.int x3), some (.int x4), some (.int x5), some (.int x6), some (.int x7), none, none, none] [] jN jSH M jMR 0 0 0 0 (jQv post)
theorem bX8_looks_0 {G : jGT} {d : Nat} {x1 : Int32} {x2 : Int32} {M : jM} {post : jM → Prop} (h : (vp_in ((26 : Int32) + x1) 916 ∧ (vp_in ((30 : Int32) + x1) 916 ∧ (if (M 118 6) = (-1 : Int32) then kX8_looks_91 G d x1 x2 (0 : Int32) (jup (jup (jup (jup (jup (jup M 120 0 x2) 120 1 (M 118 (((26 : Int32) + x1).toNatClampNeg))) 120 2 (M 118 (((30 : Int32) + x1).toNatClampNeg))) 120 3 (M 118 7)) 117 11 (1 : Int32)) 117 12 (0 : Int32)) post else (vp_in ((211 : Int32) + (M 118 6)) 916 ∧ kX8_looks_91 G d x1 x2 (M 118 (((211 : Int32) + (M 118 6)).toNatClampNeg)) (jup (jup (jup (jup (jup (jup M 120 0 x2) 120 1 (M 118 (((26 : Int32) + x1).toNatClampNeg))) 120 2 (M 118 (((30 : Int32) + x1).toNatClampNeg))) 120 3 (M 118 7)) 117 11 (1 : Int32)) 117 12 (0 : Int32)) post))))) : kX8_looks_0 G d  x1 x2 M post := by
  unfold kX8_looks_0
  refine J_aload_0 dX8_looks_0 ?_
  refine J_getR 120 dX8_looks_1 fl_X8_18 jlt_117 jsh_117 (by decide) jrf_8_9 jmr_117_9 ?_
  refine J_iconst (0 : Int32) dX8_looks_4 (by decide) ?_
  refine J_iload_2 dX8_looks_5 ?_
  refine K_iast 0 rfl dX8_looks_6 jlt_120 jsh_120 (vp_lit (by decide)) ?_
  refine J_aload_0 dX8_looks_7 ?_
  refine J_getR 120 dX8_looks_8 fl_X8_18 jlt_117 jsh_117 (by decide) jrf_8_9 jmr_117_9 ?_
  refine J_iconst (1 : Int32) dX8_looks_11 (by decide) ?_
  refine J_aload_0 dX8_looks_12 ?_
  refine J_getR 118 dX8_looks_13 fl_X8_9 jlt_117 jsh_117 (by decide) jrf_8_1 jmr_117_1 ?_
  refine J_bipush (26 : Int32) dX8_looks_16 (by decide) ?_
  refine J_iload_1 dX8_looks_18 ?_
  refine J_iadd dX8_looks_19 ?_
  obtain ⟨g0, h⟩ := h
  refine K_iald (((26 : Int32) + x1).toNatClampNeg) rfl dX8_looks_20 jlt_118 jsh_118 g0 ?_
  refine K_iast 1 rfl dX8_looks_21 jlt_120 jsh_120 (vp_lit (by decide)) ?_
  refine J_aload_0 dX8_looks_22 ?_
  refine J_getR 120 dX8_looks_23 fl_X8_18 jlt_117 jsh_117 (by decide) jrf_8_9 jmr_117_9 ?_
  refine J_iconst (2 : Int32) dX8_looks_26 (by decide) ?_
  refine J_aload_0 dX8_looks_27 ?_
  refine J_getR 118 dX8_looks_28 fl_X8_9 jlt_117 jsh_117 (by decide) jrf_8_1 jmr_117_1 ?_
  refine J_bipush (30 : Int32) dX8_looks_31 (by decide) ?_
  refine J_iload_1 dX8_looks_33 ?_
  refine J_iadd dX8_looks_34 ?_
  obtain ⟨g1, h⟩ := h
  refine K_iald (((30 : Int32) + x1).toNatClampNeg) rfl dX8_looks_35 jlt_118 jsh_118 g1 ?_
  refine K_iast 2 rfl dX8_looks_36 jlt_120 jsh_120 (vp_lit (by decide)) ?_
  refine J_aload_0 dX8_looks_37 ?_
  refine J_getR 120 dX8_looks_38 fl_X8_18 jlt_117 jsh_117 (by decide) jrf_8_9 jmr_117_9 ?_
  refine J_iconst (3 : Int32) dX8_looks_41 (by decide) ?_
  refine J_aload_0 dX8_looks_42 ?_
  refine J_getR 118 dX8_looks_43 fl_X8_9 jlt_117 jsh_117 (by decide) jrf_8_1 jmr_117_1 ?_
  refine J_bipush (7 : Int32) dX8_looks_46 (by decide) ?_
  refine K_iald 7 rfl dX8_looks_48 jlt_118 jsh_118 (vp_lit (by decide)) ?_
  refine K_iast 3 rfl dX8_looks_49 jlt_120 jsh_120 (vp_lit (by decide)) ?_
  refine J_aload_0 dX8_looks_50 ?_
  refine J_iconst (1 : Int32) dX8_looks_51 (by decide) ?_
  refine J_putI false dX8_looks_52 pl_X8_140 jlt_117 jsh_117 (by decide) jrf_8_11 (fun q => absurd q (by decide)) ?_
  refine J_aload_0 dX8_looks_55 ?_
  refine J_iconst (0 : Int32) dX8_looks_56 (by decide) ?_
  refine J_putI false dX8_looks_57 pl_X8_143 jlt_117 jsh_117 (by decide) jrf_8_12 (fun q => absurd q (by decide)) ?_
  refine J_aload_0 dX8_looks_60 ?_
  refine J_getR 118 dX8_looks_61 fl_X8_9 jlt_117 jsh_117 (by decide) jrf_8_1 jmr_117_1 ?_
  refine J_bipush (6 : Int32) dX8_looks_64 (by decide) ?_
  refine K_iald 6 rfl dX8_looks_66 jlt_118 jsh_118 (vp_lit (by decide)) ?_
  refine J_iconst (-1 : Int32) dX8_looks_67 (by decide) ?_
  refine J_icmp_ne (t := 75) dX8_looks_68 (by decide) (fun c2 => ?_) (fun c2 => ?_)
  · replace h := ite_f c2 h
    refine J_aload_0 dX8_looks_75 ?_
    refine J_getR 118 dX8_looks_76 fl_X8_9 jlt_117 jsh_117 (by decide) jrf_8_1 jmr_117_1 ?_
    refine J_sipush (211 : Int32) dX8_looks_79 (by decide) ?_
    refine J_aload_0 dX8_looks_82 ?_
    refine J_getR 118 dX8_looks_83 fl_X8_9 jlt_117 jsh_117 (by decide) jrf_8_1 jmr_117_1 ?_
    refine J_bipush (6 : Int32) dX8_looks_86 (by decide) ?_
    refine K_iald 6 rfl dX8_looks_88 jlt_118 jsh_118 (vp_lit (by decide)) ?_
    refine J_iadd dX8_looks_89 ?_
    obtain ⟨g3, h⟩ := h
    refine K_iald (((211 : Int32) + (M 118 6)).toNatClampNeg) rfl dX8_looks_90 jlt_118 jsh_118 g3 ?_
    exact h
  · replace h := ite_t c2 h
    refine J_iconst (0 : Int32) dX8_looks_71 (by decide) ?_
    refine J_goto (t := 91) dX8_looks_72 (by decide) ?_
    exact h
theorem bX8_looks_91 {G : jGT} {d : Nat} {x1 : Int32} {x2 : Int32} {s0 : Int32} {M : jM} {post : jM → Prop} (h : kX8_looks_116 G d x1 x2 s0 ((216 : Int32) + ((140 : Int32) * (M 118 6))) (0 : Int32) ((216 : Int32) + ((140 : Int32) * (M 118 6))) M post) : kX8_looks_91 G d  x1 x2 s0 M post := by
  unfold kX8_looks_91
  refine J_istore_3 dX8_looks_91 rfl ?_
  refine J_sipush (216 : Int32) dX8_looks_92 (by decide) ?_
  refine J_sipush (140 : Int32) dX8_looks_95 (by decide) ?_
  refine J_aload_0 dX8_looks_98 ?_
  refine J_getR 118 dX8_looks_99 fl_X8_9 jlt_117 jsh_117 (by decide) jrf_8_1 jmr_117_1 ?_
  refine J_bipush (6 : Int32) dX8_looks_102 (by decide) ?_
  refine K_iald 6 rfl dX8_looks_104 jlt_118 jsh_118 (vp_lit (by decide)) ?_
  refine J_imul dX8_looks_105 ?_
  refine J_iadd dX8_looks_106 ?_
  refine J_istore_4 dX8_looks_107 rfl ?_
  refine J_iconst (0 : Int32) dX8_looks_109 (by decide) ?_
  refine J_istore_5 dX8_looks_110 rfl ?_
  refine J_iload_4 dX8_looks_112 ?_
  refine J_istore_6 dX8_looks_114 rfl ?_
  exact h
theorem bX8_looks_116 {G : jGT} {d : Nat} {x1 : Int32} {x2 : Int32} {x3 : Int32} {x4 : Int32} {x5 : Int32} {x6 : Int32} {M : jM} {post : jM → Prop} (h : (if (x4 + x3) ≤ x6 then post M else (vp_in x6 916 ∧ (if (M 118 x6.toNatClampNeg) < 0 then (if (M 118 x6.toNatClampNeg) = (-1 : Int32) then (vp_in (x5 - (1 : Int32)) 64 ∧ (if (M 121 ((x5 - (1 : Int32)).toNatClampNeg)) = 0 then kX8_looks_264 G d x1 x2 x3 x4 x5 x6 (M 118 x6.toNatClampNeg) (x5 - (1 : Int32)) (1 : Int32) M post else kX8_looks_264 G d x1 x2 x3 x4 x5 x6 (M 118 x6.toNatClampNeg) (x5 - (1 : Int32)) (0 : Int32) M post)) else (if (M 118 x6.toNatClampNeg) ≤ (-10 : Int32) then (if (M 121 0) = 0 then kX8_looks_391 G d x1 x2 x3 x4 (0 : Int32) x6 (M 118 x6.toNatClampNeg) (M 121 0) (M 117 11) M post else (if (M 118 x6.toNatClampNeg) ≤ (-200 : Int32) then kX8_looks_391 G d x1 x2 x3 x4 (0 : Int32) x6 (M 118 x6.toNatClampNeg) (M 121 0) (M 117 11) M post else kX8_looks_392 G d x1 x2 x3 x4 (0 : Int32) x6 (M 118 x6.toNatClampNeg) (M 121 0) (M 117 11) ((-10 : Int32) - (M 118 x6.toNatClampNeg)) M post)) else (if (M 118 x6.toNatClampNeg) = (-2 : Int32) then (vp_in ((x5 + (-1 : Int32)) - (1 : Int32)) 64 ∧ (if (M 121 (((x5 + (-1 : Int32)) - (1 : Int32)).toNatClampNeg)) = 0 then kX8_looks_319 G d x1 x2 x3 x4 (x5 + (-1 : Int32)) x6 (M 118 x6.toNatClampNeg) ((x5 + (-1 : Int32)) - (1 : Int32)) M post else (vp_in (x5 + (-1 : Int32)) 64 ∧ (if (M 121 ((x5 + (-1 : Int32)).toNatClampNeg)) = 0 then kX8_looks_319 G d x1 x2 x3 x4 (x5 + (-1 : Int32)) x6 (M 118 x6.toNatClampNeg) ((x5 + (-1 : Int32)) - (1 : Int32)) M post else kX8_looks_350 G d x1 x2 x3 x4 (x5 + (-1 : Int32)) x6 (M 118 x6.toNatClampNeg) ((x5 + (-1 : Int32)) - (1 : Int32)) (1 : Int32) M post)))) else (vp_in ((x5 + (-1 : Int32)) - (1 : Int32)) 64 ∧ (if (M 121 (((x5 + (-1 : Int32)) - (1 : Int32)).toNatClampNeg)) = 0 then (vp_in (x5 + (-1 : Int32)) 64 ∧ (if (M 121 ((x5 + (-1 : Int32)).toNatClampNeg)) = 0 then kX8_looks_350 G d x1 x2 x3 x4 (x5 + (-1 : Int32)) x6 (M 118 x6.toNatClampNeg) ((x5 + (-1 : Int32)) - (1 : Int32)) (0 : Int32) M post else kX8_looks_345 G d x1 x2 x3 x4 (x5 + (-1 : Int32)) x6 (M 118 x6.toNatClampNeg) ((x5 + (-1 : Int32)) - (1 : Int32)) M post)) else kX8_looks_345 G d x1 x2 x3 x4 (x5 + (-1 : Int32)) x6 (M 118 x6.toNatClampNeg) ((x5 + (-1 : Int32)) - (1 : Int32)) M post))))) else (vp_in ((M 118 x6.toNatClampNeg) - (M 118 x6.toNatClampNeg) / (8 : Int32) * (8 : Int32)) 4 ∧ (if (((M 118 x6.toNatClampNeg) / (8 : Int32)) - ((M 118 x6.toNatClampNeg) / (8 : Int32)) / (4 : Int32) * (4 : Int32)) = 0 then (if ((M 118 x6.toNatClampNeg) / (32 : Int32)) ≤ (M 120 (((M 118 x6.toNatClampNeg) - (M 118 x6.toNatClampNeg) / (8 : Int32) * (8 : Int32)).toNatClampNeg)) then kX8_looks_226 G d x1 x2 x3 x4 x5 x6 (M 118 x6.toNatClampNeg) (M 120 (((M 118 x6.toNatClampNeg) - (M 118 x6.toNatClampNeg) / (8 : Int32) * (8 : Int32)).toNatClampNeg)) (((M 118 x6.toNatClampNeg) / (8 : Int32)) - ((M 118 x6.toNatClampNeg) / (8 : Int32)) / (4 : Int32) * (4 : Int32)) ((M 118 x6.toNatClampNeg) / (32 : Int32)) x5 (0 : Int32) M post else kX8_looks_226 G d x1 x2 x3 x4 x5 x6 (M 118 x6.toNatClampNeg) (M 120 (((M 118 x6.toNatClampNeg) - (M 118 x6.toNatClampNeg) / (8 : Int32) * (8 : Int32)).toNatClampNeg)) (((M 118 x6.toNatClampNeg) / (8 : Int32)) - ((M 118 x6.toNatClampNeg) / (8 : Int32)) / (4 : Int32) * (4 : Int32)) ((M 118 x6.toNatClampNeg) / (32 : Int32)) x5 (1 : Int32) M post) else (if (((M 118 x6.toNatClampNeg) / (8 : Int32)) - ((M 118 x6.toNatClampNeg) / (8 : Int32)) / (4 : Int32) * (4 : Int32)) = (1 : Int32) then (if (M 120 (((M 118 x6.toNatClampNeg) - (M 118 x6.toNatClampNeg) / (8 : Int32) * (8 : Int32)).toNatClampNeg)) = ((M 118 x6.toNatClampNeg) / (32 : Int32)) then kX8_looks_226 G d x1 x2 x3 x4 x5 x6 (M 118 x6.toNatClampNeg) (M 120 (((M 118 x6.toNatClampNeg) - (M 118 x6.toNatClampNeg) / (8 : Int32) * (8 : Int32)).toNatClampNeg)) (((M 118 x6.toNatClampNeg) / (8 : Int32)) - ((M 118 x6.toNatClampNeg) / (8 : Int32)) / (4 : Int32) * (4 : Int32)) ((M 118 x6.toNatClampNeg) / (32 : Int32)) x5 (1 : Int32) M post else kX8_looks_226 G d x1 x2 x3 x4 x5 x6 (M 118 x6.toNatClampNeg) (M 120 (((M 118 x6.toNatClampNeg) - (M 118 x6.toNatClampNeg) / (8 : Int32) * (8 : Int32)).toNatClampNeg)) (((M 118 x6.toNatClampNeg) / (8 : Int32)) - ((M 118 x6.toNatClampNeg) / (8 : Int32)) / (4 : Int32) * (4 : Int32)) ((M 118 x6.toNatClampNeg) / (32 : Int32)) x5 (0 : Int32) M post) else (if (M 120 (((M 118 x6.toNatClampNeg) - (M 118 x6.toNatClampNeg) / (8 : Int32) * (8 : Int32)).toNatClampNeg)) ≤ ((M 118 x6.toNatClampNeg) / (32 : Int32)) then kX8_looks_226 G d x1 x2 x3 x4 x5 x6 (M 118 x6.toNatClampNeg) (M 120 (((M 118 x6.toNatClampNeg) - (M 118 x6.toNatClampNeg) / (8 : Int32) * (8 : Int32)).toNatClampNeg)) (((M 118 x6.toNatClampNeg) / (8 : Int32)) - ((M 118 x6.toNatClampNeg) / (8 : Int32)) / (4 : Int32) * (4 : Int32)) ((M 118 x6.toNatClampNeg) / (32 : Int32)) x5 (0 : Int32) M post else kX8_looks_226 G d x1 x2 x3 x4 x5 x6 (M 118 x6.toNatClampNeg) (M 120 (((M 118 x6.toNatClampNeg) - (M 118 x6.toNatClampNeg) / (8 : Int32) * (8 : Int32)).toNatClampNeg)) (((M 118 x6.toNatClampNeg) / (8 : Int32)) - ((M 118 x6.toNatClampNeg) / (8 : Int32)) / (4 : Int32) * (4 : Int32)) ((M 118 x6.toNatClampNeg) / (32 : Int32)) x5 (1 : Int32) M post)))))))) : kX8_looks_116 G d  x1 x2 x3 x4 x5 x6 M post := by
  unfold kX8_looks_116
  refine J_iload_6 dX8_looks_116 ?_
  refine J_iload_4 dX8_looks_118 ?_
  refine J_iload_3 dX8_looks_120 ?_
  refine J_iadd dX8_looks_121 ?_
  refine J_icmp_ge (t := 434) dX8_looks_122 (by decide) (fun c0 => ?_) (fun c0 => ?_)
  · replace h := ite_t c0 h
    exact K_ret dX8_looks_434 rfl h
  · replace h := ite_f c0 h
    refine J_aload_0 dX8_looks_125 ?_
    refine J_getR 118 dX8_looks_126 fl_X8_9 jlt_117 jsh_117 (by decide) jrf_8_1 jmr_117_1 ?_
    refine J_iload_6 dX8_looks_129 ?_
    obtain ⟨g1, h⟩ := h
    refine K_iald x6.toNatClampNeg rfl dX8_looks_131 jlt_118 jsh_118 g1 ?_
    refine J_istore_7 dX8_looks_132 rfl ?_
    refine J_iload_7 dX8_looks_134 ?_
    refine J_if_lt (t := 233) dX8_looks_136 (by decide) (fun c2 => ?_) (fun c2 => ?_)
    · replace h := ite_t c2 h
      refine J_iload_7 dX8_looks_233 ?_
      refine J_iconst (-1 : Int32) dX8_looks_235 (by decide) ?_
      refine J_icmp_ne (t := 268) dX8_looks_236 (by decide) (fun c3 => ?_) (fun c3 => ?_)
      · replace h := ite_f c3 h
        refine J_iload_7 dX8_looks_268 ?_
        refine J_bipush (-10 : Int32) dX8_looks_270 (by decide) ?_
        refine J_icmp_le (t := 354) dX8_looks_272 (by decide) (fun c4 => ?_) (fun c4 => ?_)
        · replace h := ite_t c4 h
          refine J_iconst (0 : Int32) dX8_looks_354 (by decide) ?_
          refine J_istore_5 dX8_looks_355 rfl ?_
          refine J_aload_0 dX8_looks_357 ?_
          refine J_getR 121 dX8_looks_358 fl_X8_21 jlt_117 jsh_117 (by decide) jrf_8_10 jmr_117_10 ?_
          refine J_iconst (0 : Int32) dX8_looks_361 (by decide) ?_
          refine K_zald 0 rfl dX8_looks_362 jlt_121 jsh_121 (vp_lit (by decide)) ?_
          refine J_istore_8 dX8_looks_363 rfl ?_
          refine J_aload_0 dX8_looks_365 ?_
          refine J_dup dX8_looks_366 rfl ?_
          refine J_getI dX8_looks_367 fl_X8_140 jlt_117 jsh_117 (by decide) jrf_8_11 ?_
          refine J_iload_8 dX8_looks_370 ?_
          refine J_if_eq (t := 391) dX8_looks_372 (by decide) (fun c5 => ?_) (fun c5 => ?_)
          · replace h := ite_t c5 h
            exact h
          · replace h := ite_f c5 h
            refine J_iload_7 dX8_looks_375 ?_
            refine J_sipush (-200 : Int32) dX8_looks_377 (by decide) ?_
            refine J_icmp_le (t := 391) dX8_looks_380 (by decide) (fun c6 => ?_) (fun c6 => ?_)
            · replace h := ite_t c6 h
              exact h
            · replace h := ite_f c6 h
              refine J_bipush (-10 : Int32) dX8_looks_383 (by decide) ?_
              refine J_iload_7 dX8_looks_385 ?_
              refine J_isub dX8_looks_387 ?_
              refine J_goto (t := 392) dX8_looks_388 (by decide) ?_
              exact h
        · replace h := ite_f c4 h
          refine J_iinc_5 (-1 : Int32) dX8_looks_275 (by decide) rfl ?_
          refine J_aload_0 dX8_looks_278 ?_
          refine J_getR 121 dX8_looks_279 fl_X8_21 jlt_117 jsh_117 (by decide) jrf_8_10 jmr_117_10 ?_
          refine J_iload_5 dX8_looks_282 ?_
          refine J_iconst (1 : Int32) dX8_looks_284 (by decide) ?_
          refine J_isub dX8_looks_285 ?_
          refine J_iload_7 dX8_looks_286 ?_
          refine J_bipush (-2 : Int32) dX8_looks_288 (by decide) ?_
          refine J_icmp_ne (t := 323) dX8_looks_290 (by decide) (fun c5 => ?_) (fun c5 => ?_)
          · replace h := ite_f c5 h
            refine J_aload_0 dX8_looks_323 ?_
            refine J_getR 121 dX8_looks_324 fl_X8_21 jlt_117 jsh_117 (by decide) jrf_8_10 jmr_117_10 ?_
            refine J_iload_5 dX8_looks_327 ?_
            refine J_iconst (1 : Int32) dX8_looks_329 (by decide) ?_
            refine J_isub dX8_looks_330 ?_
            obtain ⟨g6, h⟩ := h
            refine K_zald (((x5 + (-1 : Int32)) - (1 : Int32)).toNatClampNeg) rfl dX8_looks_331 jlt_121 jsh_121 g6 ?_
            refine J_if_ne (t := 345) dX8_looks_332 (by decide) (fun c7 => ?_) (fun c7 => ?_)
            · replace h := ite_f c7 h
              exact h
            · replace h := ite_t c7 h
              refine J_aload_0 dX8_looks_335 ?_
              refine J_getR 121 dX8_looks_336 fl_X8_21 jlt_117 jsh_117 (by decide) jrf_8_10 jmr_117_10 ?_
              refine J_iload_5 dX8_looks_339 ?_
              obtain ⟨g8, h⟩ := h
              refine K_zald ((x5 + (-1 : Int32)).toNatClampNeg) rfl dX8_looks_341 jlt_121 jsh_121 g8 ?_
              refine J_if_eq (t := 349) dX8_looks_342 (by decide) (fun c9 => ?_) (fun c9 => ?_)
              · replace h := ite_t c9 h
                refine J_iconst (0 : Int32) dX8_looks_349 (by decide) ?_
                exact h
              · replace h := ite_f c9 h
                exact h
          · replace h := ite_t c5 h
            refine J_aload_0 dX8_looks_293 ?_
            refine J_getR 121 dX8_looks_294 fl_X8_21 jlt_117 jsh_117 (by decide) jrf_8_10 jmr_117_10 ?_
            refine J_iload_5 dX8_looks_297 ?_
            refine J_iconst (1 : Int32) dX8_looks_299 (by decide) ?_
            refine J_isub dX8_looks_300 ?_
            obtain ⟨g6, h⟩ := h
            refine K_zald (((x5 + (-1 : Int32)) - (1 : Int32)).toNatClampNeg) rfl dX8_looks_301 jlt_121 jsh_121 g6 ?_
            refine J_if_eq (t := 319) dX8_looks_302 (by decide) (fun c7 => ?_) (fun c7 => ?_)
            · replace h := ite_t c7 h
              exact h
            · replace h := ite_f c7 h
              refine J_aload_0 dX8_looks_305 ?_
              refine J_getR 121 dX8_looks_306 fl_X8_21 jlt_117 jsh_117 (by decide) jrf_8_10 jmr_117_10 ?_
              refine J_iload_5 dX8_looks_309 ?_
              obtain ⟨g8, h⟩ := h
              refine K_zald ((x5 + (-1 : Int32)).toNatClampNeg) rfl dX8_looks_311 jlt_121 jsh_121 g8 ?_
              refine J_if_eq (t := 319) dX8_looks_312 (by decide) (fun c9 => ?_) (fun c9 => ?_)
              · replace h := ite_t c9 h
                exact h
              · replace h := ite_f c9 h
                refine J_iconst (1 : Int32) dX8_looks_315 (by decide) ?_
                refine J_goto (t := 350) dX8_looks_316 (by decide) ?_
                exact h
      · replace h := ite_t c3 h
        refine J_aload_0 dX8_looks_239 ?_
        refine J_getR 121 dX8_looks_240 fl_X8_21 jlt_117 jsh_117 (by decide) jrf_8_10 jmr_117_10 ?_
        refine J_iload_5 dX8_looks_243 ?_
        refine J_iconst (1 : Int32) dX8_looks_245 (by decide) ?_
        refine J_isub dX8_looks_246 ?_
        refine J_aload_0 dX8_looks_247 ?_
        refine J_getR 121 dX8_looks_248 fl_X8_21 jlt_117 jsh_117 (by decide) jrf_8_10 jmr_117_10 ?_
        refine J_iload_5 dX8_looks_251 ?_
        refine J_iconst (1 : Int32) dX8_looks_253 (by decide) ?_
        refine J_isub dX8_looks_254 ?_
        obtain ⟨g4, h⟩ := h
        refine K_zald ((x5 - (1 : Int32)).toNatClampNeg) rfl dX8_looks_255 jlt_121 jsh_121 g4 ?_
        refine J_if_ne (t := 263) dX8_looks_256 (by decide) (fun c5 => ?_) (fun c5 => ?_)
        · replace h := ite_f c5 h
          refine J_iconst (0 : Int32) dX8_looks_263 (by decide) ?_
          exact h
        · replace h := ite_t c5 h
          refine J_iconst (1 : Int32) dX8_looks_259 (by decide) ?_
          refine J_goto (t := 264) dX8_looks_260 (by decide) ?_
          exact h
    · replace h := ite_f c2 h
      refine J_aload_0 dX8_looks_139 ?_
      refine J_getR 120 dX8_looks_140 fl_X8_18 jlt_117 jsh_117 (by decide) jrf_8_9 jmr_117_9 ?_
      refine J_iload_7 dX8_looks_143 ?_
      refine J_bipush (8 : Int32) dX8_looks_145 (by decide) ?_
      refine J_irem dX8_looks_147 (by decide) ?_
      obtain ⟨g3, h⟩ := h
      refine K_iald (((M 118 x6.toNatClampNeg) - (M 118 x6.toNatClampNeg) / (8 : Int32) * (8 : Int32)).toNatClampNeg) rfl dX8_looks_148 jlt_120 jsh_120 g3 ?_
      refine J_istore_8 dX8_looks_149 rfl ?_
      refine J_iload_7 dX8_looks_151 ?_
      refine J_bipush (8 : Int32) dX8_looks_153 (by decide) ?_
      refine J_idiv dX8_looks_155 (by decide) ?_
      refine J_iconst (4 : Int32) dX8_looks_156 (by decide) ?_
      refine J_irem dX8_looks_157 (by decide) ?_
      refine J_istore_9 dX8_looks_158 rfl ?_
      refine J_iload_7 dX8_looks_160 ?_
      refine J_bipush (32 : Int32) dX8_looks_162 (by decide) ?_
      refine J_idiv dX8_looks_164 (by decide) ?_
      refine J_istore_10 dX8_looks_165 rfl ?_
      refine J_aload_0 dX8_looks_167 ?_
      refine J_getR 121 dX8_looks_168 fl_X8_21 jlt_117 jsh_117 (by decide) jrf_8_10 jmr_117_10 ?_
      refine J_iload_5 dX8_looks_171 ?_
      refine J_iload_9 dX8_looks_173 ?_
      refine J_if_ne (t := 193) dX8_looks_175 (by decide) (fun c4 => ?_) (fun c4 => ?_)
      · replace h := ite_f c4 h
        refine J_iload_9 dX8_looks_193 ?_
        refine J_iconst (1 : Int32) dX8_looks_195 (by decide) ?_
        refine J_icmp_ne (t := 214) dX8_looks_196 (by decide) (fun c5 => ?_) (fun c5 => ?_)
        · replace h := ite_f c5 h
          refine J_iload_8 dX8_looks_214 ?_
          refine J_iload_10 dX8_looks_216 ?_
          refine J_icmp_le (t := 225) dX8_looks_218 (by decide) (fun c6 => ?_) (fun c6 => ?_)
          · replace h := ite_t c6 h
            refine J_iconst (0 : Int32) dX8_looks_225 (by decide) ?_
            exact h
          · replace h := ite_f c6 h
            refine J_iconst (1 : Int32) dX8_looks_221 (by decide) ?_
            refine J_goto (t := 226) dX8_looks_222 (by decide) ?_
            exact h
        · replace h := ite_t c5 h
          refine J_iload_8 dX8_looks_199 ?_
          refine J_iload_10 dX8_looks_201 ?_
          refine J_icmp_ne (t := 210) dX8_looks_203 (by decide) (fun c6 => ?_) (fun c6 => ?_)
          · replace h := ite_f c6 h
            refine J_iconst (0 : Int32) dX8_looks_210 (by decide) ?_
            refine J_goto (t := 226) dX8_looks_211 (by decide) ?_
            exact h
          · replace h := ite_t c6 h
            refine J_iconst (1 : Int32) dX8_looks_206 (by decide) ?_
            refine J_goto (t := 226) dX8_looks_207 (by decide) ?_
            exact h
      · replace h := ite_t c4 h
        refine J_iload_8 dX8_looks_178 ?_
        refine J_iload_10 dX8_looks_180 ?_
        refine J_icmp_ge (t := 189) dX8_looks_182 (by decide) (fun c5 => ?_) (fun c5 => ?_)
        · replace h := ite_t c5 h
          refine J_iconst (0 : Int32) dX8_looks_189 (by decide) ?_
          refine J_goto (t := 226) dX8_looks_190 (by decide) ?_
          exact h
        · replace h := ite_f c5 h
          refine J_iconst (1 : Int32) dX8_looks_185 (by decide) ?_
          refine J_goto (t := 226) dX8_looks_186 (by decide) ?_
          exact h
theorem bX8_looks_226 {G : jGT} {d : Nat} {x1 : Int32} {x2 : Int32} {x3 : Int32} {x4 : Int32} {x5 : Int32} {x6 : Int32} {x7 : Int32} {x8 : Int32} {x9 : Int32} {x10 : Int32} {s1 : Int32} {s2 : Int32} {M : jM} {post : jM → Prop} (h : (vp_in s1 64 ∧ kX8_looks_428 G d x1 x2 x3 x4 (x5 + (1 : Int32)) x6 x7 (jup M 121 s1.toNatClampNeg (vp_nar .boolean s2)) post)) : kX8_looks_226 G d  x1 x2 x3 x4 x5 x6 x7 x8 x9 x10 s1 s2 M post := by
  unfold kX8_looks_226
  obtain ⟨g0, h⟩ := h
  refine K_zast s1.toNatClampNeg rfl dX8_looks_226 jlt_121 jsh_121 g0 ?_
  refine J_iinc_5 (1 : Int32) dX8_looks_227 (by decide) rfl ?_
  refine J_goto (t := 428) dX8_looks_230 (by decide) ?_
  exact J_weak (lv' := [some (.ref 117), some (.int x1), some (.int x2), some (.int x3), some (.int x4), some (.int (x5 + (1 : Int32))), some (.int x6), some (.int x7), none, none, none]) (And.intro rfl (And.intro rfl (And.intro rfl (And.intro rfl (And.intro rfl (And.intro rfl (And.intro rfl (And.intro rfl trivial)))))))) h
theorem bX8_looks_264 {G : jGT} {d : Nat} {x1 : Int32} {x2 : Int32} {x3 : Int32} {x4 : Int32} {x5 : Int32} {x6 : Int32} {x7 : Int32} {s1 : Int32} {s2 : Int32} {M : jM} {post : jM → Prop} (h : (vp_in s1 64 ∧ kX8_looks_428 G d x1 x2 x3 x4 x5 x6 x7 (jup M 121 s1.toNatClampNeg (vp_nar .boolean s2)) post)) : kX8_looks_264 G d  x1 x2 x3 x4 x5 x6 x7 s1 s2 M post := by
  unfold kX8_looks_264
  obtain ⟨g0, h⟩ := h
  refine K_zast s1.toNatClampNeg rfl dX8_looks_264 jlt_121 jsh_121 g0 ?_
  refine J_goto (t := 428) dX8_looks_265 (by decide) ?_
  exact h
theorem bX8_looks_319 {G : jGT} {d : Nat} {x1 : Int32} {x2 : Int32} {x3 : Int32} {x4 : Int32} {x5 : Int32} {x6 : Int32} {x7 : Int32} {s1 : Int32} {M : jM} {post : jM → Prop} (h : kX8_looks_350 G d x1 x2 x3 x4 x5 x6 x7 s1 (0 : Int32) M post) : kX8_looks_319 G d  x1 x2 x3 x4 x5 x6 x7 s1 M post := by
  unfold kX8_looks_319
  refine J_iconst (0 : Int32) dX8_looks_319 (by decide) ?_
  refine J_goto (t := 350) dX8_looks_320 (by decide) ?_
  exact h
theorem bX8_looks_345 {G : jGT} {d : Nat} {x1 : Int32} {x2 : Int32} {x3 : Int32} {x4 : Int32} {x5 : Int32} {x6 : Int32} {x7 : Int32} {s1 : Int32} {M : jM} {post : jM → Prop} (h : kX8_looks_350 G d x1 x2 x3 x4 x5 x6 x7 s1 (1 : Int32) M post) : kX8_looks_345 G d  x1 x2 x3 x4 x5 x6 x7 s1 M post := by
  unfold kX8_looks_345
  refine J_iconst (1 : Int32) dX8_looks_345 (by decide) ?_
  refine J_goto (t := 350) dX8_looks_346 (by decide) ?_
  exact h
theorem bX8_looks_350 {G : jGT} {d : Nat} {x1 : Int32} {x2 : Int32} {x3 : Int32} {x4 : Int32} {x5 : Int32} {x6 : Int32} {x7 : Int32} {s1 : Int32} {s2 : Int32} {M : jM} {post : jM → Prop} (h : (vp_in s1 64 ∧ kX8_looks_428 G d x1 x2 x3 x4 x5 x6 x7 (jup M 121 s1.toNatClampNeg (vp_nar .boolean s2)) post)) : kX8_looks_350 G d  x1 x2 x3 x4 x5 x6 x7 s1 s2 M post := by
  unfold kX8_looks_350
  obtain ⟨g0, h⟩ := h
  refine K_zast s1.toNatClampNeg rfl dX8_looks_350 jlt_121 jsh_121 g0 ?_
  refine J_goto (t := 428) dX8_looks_351 (by decide) ?_
  exact h
theorem bX8_looks_391 {G : jGT} {d : Nat} {x1 : Int32} {x2 : Int32} {x3 : Int32} {x4 : Int32} {x5 : Int32} {x6 : Int32} {x7 : Int32} {x8 : Int32} {s1 : Int32} {M : jM} {post : jM → Prop} (h : kX8_looks_392 G d x1 x2 x3 x4 x5 x6 x7 x8 s1 (0 : Int32) M post) : kX8_looks_391 G d  x1 x2 x3 x4 x5 x6 x7 x8 s1 M post := by
  unfold kX8_looks_391
  refine J_iconst (0 : Int32) dX8_looks_391 (by decide) ?_
  exact h
theorem bX8_looks_392 {G : jGT} {d : Nat} {x1 : Int32} {x2 : Int32} {x3 : Int32} {x4 : Int32} {x5 : Int32} {x6 : Int32} {x7 : Int32} {x8 : Int32} {s1 : Int32} {s2 : Int32} {M : jM} {post : jM → Prop} (h : (if x8 = 0 then kX8_looks_423 G d x1 x2 x3 x4 x5 x6 x7 x8 (M 117 12) (jup M 117 11 (s1 + s2)) post else (if (-200 : Int32) < x7 then kX8_looks_423 G d x1 x2 x3 x4 x5 x6 x7 x8 (M 117 12) (jup M 117 11 (s1 + s2)) post else kX8_looks_424 G d x1 x2 x3 x4 x5 x6 x7 x8 (M 117 12) ((-200 : Int32) - x7) (jup M 117 11 (s1 + s2)) post))) : kX8_looks_392 G d  x1 x2 x3 x4 x5 x6 x7 x8 s1 s2 M post := by
  unfold kX8_looks_392
  refine J_iadd dX8_looks_392 ?_
  refine J_putI false dX8_looks_393 pl_X8_140 jlt_117 jsh_117 (by decide) jrf_8_11 (fun q => absurd q (by decide)) ?_
  refine J_aload_0 dX8_looks_396 ?_
  refine J_dup dX8_looks_397 rfl ?_
  refine J_getI dX8_looks_398 fl_X8_143 jlt_117 jsh_117 (by decide) jrf_8_12 ?_
  refine J_iload_8 dX8_looks_401 ?_
  refine J_if_eq (t := 423) dX8_looks_403 (by decide) (fun c0 => ?_) (fun c0 => ?_)
  · replace h := ite_t c0 h
    exact h
  · replace h := ite_f c0 h
    refine J_iload_7 dX8_looks_406 ?_
    refine J_sipush (-200 : Int32) dX8_looks_408 (by decide) ?_
    refine J_icmp_gt (t := 423) dX8_looks_411 (by decide) (fun c1 => ?_) (fun c1 => ?_)
    · replace h := ite_t c1 h
      exact h
    · replace h := ite_f c1 h
      refine J_sipush (-200 : Int32) dX8_looks_414 (by decide) ?_
      refine J_iload_7 dX8_looks_417 ?_
      refine J_isub dX8_looks_419 ?_
      refine J_goto (t := 424) dX8_looks_420 (by decide) ?_
      exact h
theorem bX8_looks_423 {G : jGT} {d : Nat} {x1 : Int32} {x2 : Int32} {x3 : Int32} {x4 : Int32} {x5 : Int32} {x6 : Int32} {x7 : Int32} {x8 : Int32} {s1 : Int32} {M : jM} {post : jM → Prop} (h : kX8_looks_424 G d x1 x2 x3 x4 x5 x6 x7 x8 s1 (0 : Int32) M post) : kX8_looks_423 G d  x1 x2 x3 x4 x5 x6 x7 x8 s1 M post := by
  unfold kX8_looks_423
  refine J_iconst (0 : Int32) dX8_looks_423 (by decide) ?_
  exact h
theorem bX8_looks_424 {G : jGT} {d : Nat} {x1 : Int32} {x2 : Int32} {x3 : Int32} {x4 : Int32} {x5 : Int32} {x6 : Int32} {x7 : Int32} {x8 : Int32} {s1 : Int32} {s2 : Int32} {M : jM} {post : jM → Prop} (h : kX8_looks_428 G d x1 x2 x3 x4 x5 x6 x7 (jup M 117 12 (s1 + s2)) post) : kX8_looks_424 G d  x1 x2 x3 x4 x5 x6 x7 x8 s1 s2 M post := by
  unfold kX8_looks_424
  refine J_iadd dX8_looks_424 ?_
  refine J_putI false dX8_looks_425 pl_X8_143 jlt_117 jsh_117 (by decide) jrf_8_12 (fun q => absurd q (by decide)) ?_
  exact J_weak (lv' := [some (.ref 117), some (.int x1), some (.int x2), some (.int x3), some (.int x4), some (.int x5), some (.int x6), some (.int x7), none, none, none]) (And.intro rfl (And.intro rfl (And.intro rfl (And.intro rfl (And.intro rfl (And.intro rfl (And.intro rfl (And.intro rfl trivial)))))))) h
theorem bX8_looks_428 {G : jGT} {d : Nat} {x1 : Int32} {x2 : Int32} {x3 : Int32} {x4 : Int32} {x5 : Int32} {x6 : Int32} {x7 : Int32} {M : jM} {post : jM → Prop} (h : kX8_looks_116 G d x1 x2 x3 x4 x5 (x6 + (1 : Int32)) M post) : kX8_looks_428 G d  x1 x2 x3 x4 x5 x6 x7 M post := by
  unfold kX8_looks_428
  refine J_iinc_6 (1 : Int32) dX8_looks_428 (by decide) rfl ?_
  refine J_goto (t := 116) dX8_looks_431 (by decide) ?_
  exact J_weak (lv' := [some (.ref 117), some (.int x1), some (.int x2), some (.int x3), some (.int x4), some (.int x5), some (.int (x6 + (1 : Int32))), none, none, none, none]) (And.intro rfl (And.intro rfl (And.intro rfl (And.intro rfl (And.intro rfl (And.intro rfl (And.intro rfl trivial))))))) h
theorem eX8_looks {G : jGT} {d : Nat} {x1 : Int32} {x2 : Int32} {M : jM} {post : jM → Prop} (h : kX8_looks_0 G d  x1 x2 M post) : CV G d mX8_looks [.ref 117, .int x1, .int x2] M post := Con_of_J ok_X8_looks 8 rfl rfl h
def kX8_looksFor_0 (G : jGT) (d : Nat)  (x1 : Int32) (M : jM) (post : jM → Prop) : Prop := J G (d + 1) mX8_looksFor 0 [some (.ref 117), some (.int x1), none, none] [] jN jSH M jMR 0 0 0 0 (jQv post)
def kX8_looksFor_16 (G : jGT) (d : Nat)  (x1 : Int32) (x2 : Int32) (M : jM) (post : jM → Prop) : Prop := J G (d + 1) mX8_looksFor 16 [some (.ref 117), some (.int x1), some (.int x2), none] [] jN jSH M jMR 0 0 0 0 (jQv post)
def kX8_looksFor_30 (G : jGT) (d : Nat)  (x1 : Int32) (x2 : Int32) (x3 : Int32) (M : jM) (post : jM → Prop) : Prop := J G (d + 1) mX8_looksFor 30 [some (.ref 117), some (.int x1), some (.int x2), some (.int x3)] [] jN jSH M jMR 0 0 0 0 (jQv post)
theorem bX8_looksFor_0 {G : jGT} {d : Nat} {x1 : Int32} {M : jM} {post : jM → Prop} (h : kX8_looksFor_16 G d x1 (0 : Int32) (jup (jup M 122 0 (0 : Int32)) 123 0 (0 : Int32)) post) : kX8_looksFor_0 G d  x1 M post := by
  unfold kX8_looksFor_0
  refine J_aload_0 dX8_looksFor_0 ?_
  refine J_getR 122 dX8_looksFor_1 fl_X8_25 jlt_117 jsh_117 (by decide) jrf_8_13 jmr_117_13 ?_
  refine J_iconst (0 : Int32) dX8_looksFor_4 (by decide) ?_
  refine J_iconst (0 : Int32) dX8_looksFor_5 (by decide) ?_
  refine K_iast 0 rfl dX8_looksFor_6 jlt_122 jsh_122 (vp_lit (by decide)) ?_
  refine J_aload_0 dX8_looksFor_7 ?_
  refine J_getR 123 dX8_looksFor_8 fl_X8_28 jlt_117 jsh_117 (by decide) jrf_8_14 jmr_117_14 ?_
  refine J_iconst (0 : Int32) dX8_looksFor_11 (by decide) ?_
  refine J_iconst (0 : Int32) dX8_looksFor_12 (by decide) ?_
  refine K_iast 0 rfl dX8_looksFor_13 jlt_123 jsh_123 (vp_lit (by decide)) ?_
  refine J_iconst (0 : Int32) dX8_looksFor_14 (by decide) ?_
  refine J_istore_2 dX8_looksFor_15 rfl ?_
  exact h
theorem bX8_looksFor_16 {G : jGT} {d : Nat} {x1 : Int32} {x2 : Int32} {M : jM} {post : jM → Prop} (h : (if (8 : Int32) ≤ x2 then CI G d mX8_barNow [.ref 117] M (fun r1 M1 => (vp_in ((26 : Int32) + x1) 916 ∧ (if (M1 118 (((26 : Int32) + x1).toNatClampNeg)) = (5 : Int32) then (vp_in ((30 : Int32) + x1) 916 ∧ post (jup M1 117 15 (r1 + (M1 118 (((30 : Int32) + x1).toNatClampNeg))))) else post (jup M1 117 15 (r1 + (0 : Int32)))))) else CV G d mX8_looks [.ref 117, .int x1, .int x2] M (fun M2 => kX8_looksFor_30 G d x1 x2 (0 : Int32) M2 post))) : kX8_looksFor_16 G d  x1 x2 M post := by
  unfold kX8_looksFor_16
  refine J_iload_2 dX8_looksFor_16 ?_
  refine J_bipush (8 : Int32) dX8_looksFor_17 (by decide) ?_
  refine J_icmp_ge (t := 91) dX8_looksFor_19 (by decide) (fun c0 => ?_) (fun c0 => ?_)
  · replace h := ite_t c0 h
    refine J_aload_0 dX8_looksFor_91 ?_
    refine J_aload_0 dX8_looksFor_92 ?_
    refine K_callVI (As := []) (rest := [.ref 117]) dX8_looksFor_93 vl_X8_130 jlt_117 jsh_117 _ rfl rfl h rfl rfl (Nat.le_of_ble_eq_true rfl) (fun r1 M1 h => ?_)
    refine J_aload_0 dX8_looksFor_96 ?_
    refine J_getR 118 dX8_looksFor_97 fl_X8_9 jlt_117 jsh_117 (by decide) jrf_8_1 jmr_117_1 ?_
    refine J_bipush (26 : Int32) dX8_looksFor_100 (by decide) ?_
    refine J_iload_1 dX8_looksFor_102 ?_
    refine J_iadd dX8_looksFor_103 ?_
    obtain ⟨g1, h⟩ := h
    refine K_iald (((26 : Int32) + x1).toNatClampNeg) rfl dX8_looksFor_104 jlt_118 jsh_118 g1 ?_
    refine J_iconst (5 : Int32) dX8_looksFor_105 (by decide) ?_
    refine J_icmp_ne (t := 121) dX8_looksFor_106 (by decide) (fun c2 => ?_) (fun c2 => ?_)
    · replace h := ite_f c2 h
      refine J_iconst (0 : Int32) dX8_looksFor_121 (by decide) ?_
      refine J_iadd dX8_looksFor_122 ?_
      refine J_putI false dX8_looksFor_123 pl_X8_150 jlt_117 jsh_117 (by decide) jrf_8_15 (fun q => absurd q (by decide)) ?_
      exact K_ret dX8_looksFor_126 rfl h
    · replace h := ite_t c2 h
      refine J_aload_0 dX8_looksFor_109 ?_
      refine J_getR 118 dX8_looksFor_110 fl_X8_9 jlt_117 jsh_117 (by decide) jrf_8_1 jmr_117_1 ?_
      refine J_bipush (30 : Int32) dX8_looksFor_113 (by decide) ?_
      refine J_iload_1 dX8_looksFor_115 ?_
      refine J_iadd dX8_looksFor_116 ?_
      obtain ⟨g3, h⟩ := h
      refine K_iald (((30 : Int32) + x1).toNatClampNeg) rfl dX8_looksFor_117 jlt_118 jsh_118 g3 ?_
      refine J_goto (t := 122) dX8_looksFor_118 (by decide) ?_
      refine J_iadd dX8_looksFor_122 ?_
      refine J_putI false dX8_looksFor_123 pl_X8_150 jlt_117 jsh_117 (by decide) jrf_8_15 (fun q => absurd q (by decide)) ?_
      exact K_ret dX8_looksFor_126 rfl h
  · replace h := ite_f c0 h
    refine J_aload_0 dX8_looksFor_22 ?_
    refine J_iload_1 dX8_looksFor_23 ?_
    refine J_iload_2 dX8_looksFor_24 ?_
    refine K_callVV (As := [.int x1, .int x2]) (rest := []) dX8_looksFor_25 vl_X8_146 jlt_117 jsh_117 _ rfl rfl h rfl rfl (Nat.le_of_ble_eq_true rfl) (fun M2 h => ?_)
    refine J_iconst (0 : Int32) dX8_looksFor_28 (by decide) ?_
    refine J_istore_3 dX8_looksFor_29 rfl ?_
    exact h
theorem bX8_looksFor_30 {G : jGT} {d : Nat} {x1 : Int32} {x2 : Int32} {x3 : Int32} {M : jM} {post : jM → Prop} (h : (if ((1 : Int32) <<< (x2 &&& 31)) ≤ x3 then kX8_looksFor_16 G d x1 (x2 + (1 : Int32)) M post else (vp_in x3 256 ∧ (vp_in (x3 + ((1 : Int32) <<< (x2 &&& 31))) 256 ∧ (vp_in x3 256 ∧ (vp_in (x3 + ((1 : Int32) <<< (x2 &&& 31))) 256 ∧ kX8_looksFor_30 G d x1 x2 (x3 + (1 : Int32)) (jup (jup M 122 ((x3 + ((1 : Int32) <<< (x2 &&& 31))).toNatClampNeg) ((M 122 x3.toNatClampNeg) + (M 117 11))) 123 ((x3 + ((1 : Int32) <<< (x2 &&& 31))).toNatClampNeg) ((M 123 x3.toNatClampNeg) + (M 117 12))) post)))))) : kX8_looksFor_30 G d  x1 x2 x3 M post := by
  unfold kX8_looksFor_30
  refine J_iload_3 dX8_looksFor_30 ?_
  refine J_iconst (1 : Int32) dX8_looksFor_31 (by decide) ?_
  refine J_iload_2 dX8_looksFor_32 ?_
  refine J_ishl dX8_looksFor_33 ?_
  refine J_icmp_ge (t := 85) dX8_looksFor_34 (by decide) (fun c0 => ?_) (fun c0 => ?_)
  · replace h := ite_t c0 h
    refine J_iinc_2 (1 : Int32) dX8_looksFor_85 (by decide) rfl ?_
    refine J_goto (t := 16) dX8_looksFor_88 (by decide) ?_
    exact J_weak (lv' := [some (.ref 117), some (.int x1), some (.int (x2 + (1 : Int32))), none]) (And.intro rfl (And.intro rfl (And.intro rfl trivial))) h
  · replace h := ite_f c0 h
    refine J_aload_0 dX8_looksFor_37 ?_
    refine J_getR 122 dX8_looksFor_38 fl_X8_25 jlt_117 jsh_117 (by decide) jrf_8_13 jmr_117_13 ?_
    refine J_iload_3 dX8_looksFor_41 ?_
    refine J_iconst (1 : Int32) dX8_looksFor_42 (by decide) ?_
    refine J_iload_2 dX8_looksFor_43 ?_
    refine J_ishl dX8_looksFor_44 ?_
    refine J_iadd dX8_looksFor_45 ?_
    refine J_aload_0 dX8_looksFor_46 ?_
    refine J_getR 122 dX8_looksFor_47 fl_X8_25 jlt_117 jsh_117 (by decide) jrf_8_13 jmr_117_13 ?_
    refine J_iload_3 dX8_looksFor_50 ?_
    obtain ⟨g1, h⟩ := h
    refine K_iald x3.toNatClampNeg rfl dX8_looksFor_51 jlt_122 jsh_122 g1 ?_
    refine J_aload_0 dX8_looksFor_52 ?_
    refine J_getI dX8_looksFor_53 fl_X8_140 jlt_117 jsh_117 (by decide) jrf_8_11 ?_
    refine J_iadd dX8_looksFor_56 ?_
    obtain ⟨g2, h⟩ := h
    refine K_iast ((x3 + ((1 : Int32) <<< (x2 &&& 31))).toNatClampNeg) rfl dX8_looksFor_57 jlt_122 jsh_122 g2 ?_
    refine J_aload_0 dX8_looksFor_58 ?_
    refine J_getR 123 dX8_looksFor_59 fl_X8_28 jlt_117 jsh_117 (by decide) jrf_8_14 jmr_117_14 ?_
    refine J_iload_3 dX8_looksFor_62 ?_
    refine J_iconst (1 : Int32) dX8_looksFor_63 (by decide) ?_
    refine J_iload_2 dX8_looksFor_64 ?_
    refine J_ishl dX8_looksFor_65 ?_
    refine J_iadd dX8_looksFor_66 ?_
    refine J_aload_0 dX8_looksFor_67 ?_
    refine J_getR 123 dX8_looksFor_68 fl_X8_28 jlt_117 jsh_117 (by decide) jrf_8_14 jmr_117_14 ?_
    refine J_iload_3 dX8_looksFor_71 ?_
    obtain ⟨g3, h⟩ := h
    refine K_iald x3.toNatClampNeg rfl dX8_looksFor_72 jlt_123 jsh_123 g3 ?_
    refine J_aload_0 dX8_looksFor_73 ?_
    refine J_getI dX8_looksFor_74 fl_X8_143 jlt_117 jsh_117 (by decide) jrf_8_12 ?_
    refine J_iadd dX8_looksFor_77 ?_
    obtain ⟨g4, h⟩ := h
    refine K_iast ((x3 + ((1 : Int32) <<< (x2 &&& 31))).toNatClampNeg) rfl dX8_looksFor_78 jlt_123 jsh_123 g4 ?_
    refine J_iinc_3 (1 : Int32) dX8_looksFor_79 (by decide) rfl ?_
    refine J_goto (t := 30) dX8_looksFor_82 (by decide) ?_
    exact h
theorem eX8_looksFor {G : jGT} {d : Nat} {x1 : Int32} {M : jM} {post : jM → Prop} (h : kX8_looksFor_0 G d  x1 M post) : CV G (d + 1) mX8_looksFor [.ref 117, .int x1] M post := Con_of_J ok_X8_looksFor 2 rfl rfl h
def kX8_scoreOf_0 (G : jGT) (d : Nat)  (x1 : Int32) (x2 : Int32) (M : jM) (post : Int32 → jM → Prop) : Prop := J G d mX8_scoreOf 0 [some (.ref 117), some (.int x1), some (.int x2)] [] jN jSH M jMR 0 0 0 0 (jQi post)
theorem bX8_scoreOf_0 {G : jGT} {d : Nat} {x1 : Int32} {x2 : Int32} {M : jM} {post : Int32 → jM → Prop} (h : (vp_in (x1 &&& x2) 256 ∧ (vp_in (x1 ^^^ x2) 256 ∧ post ((M 122 ((x1 &&& x2).toNatClampNeg)) - (M 123 ((x1 ^^^ x2).toNatClampNeg))) M))) : kX8_scoreOf_0 G d  x1 x2 M post := by
  unfold kX8_scoreOf_0
  refine J_aload_0 dX8_scoreOf_0 ?_
  refine J_getR 122 dX8_scoreOf_1 fl_X8_25 jlt_117 jsh_117 (by decide) jrf_8_13 jmr_117_13 ?_
  refine J_iload_1 dX8_scoreOf_4 ?_
  refine J_iload_2 dX8_scoreOf_5 ?_
  refine J_iand dX8_scoreOf_6 ?_
  obtain ⟨g0, h⟩ := h
  refine K_iald ((x1 &&& x2).toNatClampNeg) rfl dX8_scoreOf_7 jlt_122 jsh_122 g0 ?_
  refine J_aload_0 dX8_scoreOf_8 ?_
  refine J_getR 123 dX8_scoreOf_9 fl_X8_28 jlt_117 jsh_117 (by decide) jrf_8_14 jmr_117_14 ?_
  refine J_iload_1 dX8_scoreOf_12 ?_
  refine J_iload_2 dX8_scoreOf_13 ?_
  refine J_ixor dX8_scoreOf_14 ?_
  obtain ⟨g1, h⟩ := h
  refine K_iald ((x1 ^^^ x2).toNatClampNeg) rfl dX8_scoreOf_15 jlt_123 jsh_123 g1 ?_
  refine J_isub dX8_scoreOf_16 ?_
  exact K_iret dX8_scoreOf_17 rfl h
theorem eX8_scoreOf {G : jGT} {d : Nat} {x1 : Int32} {x2 : Int32} {M : jM} {post : Int32 → jM → Prop} (h : kX8_scoreOf_0 G d  x1 x2 M post) : CI G d mX8_scoreOf [.ref 117, .int x1, .int x2] M post := Con_of_J ok_X8_scoreOf 0 rfl rfl h
def kX8_at_0 (G : jGT) (d : Nat)  (x1 : Int32) (x2 : Int32) (M : jM) (post : Int32 → jM → Prop) : Prop := J G (d + 1) mX8_at 0 [some (.ref 117), some (.int x1), some (.int x2)] [] jN jSH M jMR 0 0 0 0 (jQi post)
theorem bX8_at_0 {G : jGT} {d : Nat} {x1 : Int32} {x2 : Int32} {M : jM} {post : Int32 → jM → Prop} (h : CI G d mX8_isJudge [.ref 117, .int x1] M (fun r1 M1 => (if r1 = 0 then post (-1 : Int32) M1 else CI G d mX8_in [.int x2, .int (0 : Int32), .int (1 : Int32)] M1 (fun r2 M2 => (if r2 = 0 then CI G d mX8_in [.int x2, .int (10 : Int32), .int (17 : Int32)] M2 (fun r4 M4 => (if r4 = 0 then CI G d mX8_in [.int x2, .int (20 : Int32), .int (27 : Int32)] M4 (fun r6 M6 => (if r6 = 0 then post (-1 : Int32) M6 else (if (2 : Int32) ≤ x2 then CV G d mX8_looks [.ref 117, .int x1, .int (x2 - x2 / (10 : Int32) * (10 : Int32))] M6 (fun M7 => (if (20 : Int32) ≤ x2 then post (M7 117 12) M7 else post (M7 117 11) M7)) else (vp_in (((26 : Int32) + ((4 : Int32) * x2)) + x1) 916 ∧ post (M6 118 ((((26 : Int32) + ((4 : Int32) * x2)) + x1).toNatClampNeg)) M6)))) else (if (2 : Int32) ≤ x2 then CV G d mX8_looks [.ref 117, .int x1, .int (x2 - x2 / (10 : Int32) * (10 : Int32))] M4 (fun M5 => (if (20 : Int32) ≤ x2 then post (M5 117 12) M5 else post (M5 117 11) M5)) else (vp_in (((26 : Int32) + ((4 : Int32) * x2)) + x1) 916 ∧ post (M4 118 ((((26 : Int32) + ((4 : Int32) * x2)) + x1).toNatClampNeg)) M4)))) else (if (2 : Int32) ≤ x2 then CV G d mX8_looks [.ref 117, .int x1, .int (x2 - x2 / (10 : Int32) * (10 : Int32))] M2 (fun M3 => (if (20 : Int32) ≤ x2 then post (M3 117 12) M3 else post (M3 117 11) M3)) else (vp_in (((26 : Int32) + ((4 : Int32) * x2)) + x1) 916 ∧ post (M2 118 ((((26 : Int32) + ((4 : Int32) * x2)) + x1).toNatClampNeg)) M2))))))) : kX8_at_0 G d  x1 x2 M post := by
  unfold kX8_at_0
  refine J_aload_0 dX8_at_0 ?_
  refine J_iload_1 dX8_at_1 ?_
  refine K_callVI (As := [.int x1]) (rest := []) dX8_at_2 vl_X8_137 jlt_117 jsh_117 _ rfl rfl h rfl rfl (Nat.le_of_ble_eq_true rfl) (fun r1 M1 h => ?_)
  refine J_if_eq (t := 39) dX8_at_5 (by decide) (fun c0 => ?_) (fun c0 => ?_)
  · replace h := ite_t c0 h
    refine J_iconst (-1 : Int32) dX8_at_39 (by decide) ?_
    exact K_iret dX8_at_40 rfl h
  · replace h := ite_f c0 h
    refine J_iload_2 dX8_at_8 ?_
    refine J_iconst (0 : Int32) dX8_at_9 (by decide) ?_
    refine J_iconst (1 : Int32) dX8_at_10 (by decide) ?_
    refine K_callSI (rest := []) dX8_at_11 sl_X8_53 h rfl rfl (Nat.le_of_ble_eq_true rfl) (fun r2 M2 h => ?_)
    refine J_if_ne (t := 41) dX8_at_14 (by decide) (fun c1 => ?_) (fun c1 => ?_)
    · replace h := ite_f c1 h
      refine J_iload_2 dX8_at_41 ?_
      refine J_iconst (2 : Int32) dX8_at_42 (by decide) ?_
      refine J_icmp_ge (t := 60) dX8_at_43 (by decide) (fun c2 => ?_) (fun c2 => ?_)
      · replace h := ite_t c2 h
        refine J_aload_0 dX8_at_60 ?_
        refine J_iload_1 dX8_at_61 ?_
        refine J_iload_2 dX8_at_62 ?_
        refine J_bipush (10 : Int32) dX8_at_63 (by decide) ?_
        refine J_irem dX8_at_65 (by decide) ?_
        refine K_callVV (As := [.int x1, .int (x2 - x2 / (10 : Int32) * (10 : Int32))]) (rest := []) dX8_at_66 vl_X8_146 jlt_117 jsh_117 _ rfl rfl h rfl rfl (Nat.le_of_ble_eq_true rfl) (fun M3 h => ?_)
        refine J_iload_2 dX8_at_69 ?_
        refine J_bipush (20 : Int32) dX8_at_70 (by decide) ?_
        refine J_icmp_ge (t := 82) dX8_at_72 (by decide) (fun c3 => ?_) (fun c3 => ?_)
        · replace h := ite_t c3 h
          refine J_aload_0 dX8_at_82 ?_
          refine J_getI dX8_at_83 fl_X8_143 jlt_117 jsh_117 (by decide) jrf_8_12 ?_
          exact K_iret dX8_at_86 rfl h
        · replace h := ite_f c3 h
          refine J_aload_0 dX8_at_75 ?_
          refine J_getI dX8_at_76 fl_X8_140 jlt_117 jsh_117 (by decide) jrf_8_11 ?_
          refine J_goto (t := 86) dX8_at_79 (by decide) ?_
          exact K_iret dX8_at_86 rfl h
      · replace h := ite_f c2 h
        refine J_aload_0 dX8_at_46 ?_
        refine J_getR 118 dX8_at_47 fl_X8_9 jlt_117 jsh_117 (by decide) jrf_8_1 jmr_117_1 ?_
        refine J_bipush (26 : Int32) dX8_at_50 (by decide) ?_
        refine J_iconst (4 : Int32) dX8_at_52 (by decide) ?_
        refine J_iload_2 dX8_at_53 ?_
        refine J_imul dX8_at_54 ?_
        refine J_iadd dX8_at_55 ?_
        refine J_iload_1 dX8_at_56 ?_
        refine J_iadd dX8_at_57 ?_
        obtain ⟨g3, h⟩ := h
        refine K_iald ((((26 : Int32) + ((4 : Int32) * x2)) + x1).toNatClampNeg) rfl dX8_at_58 jlt_118 jsh_118 g3 ?_
        exact K_iret dX8_at_59 rfl h
    · replace h := ite_t c1 h
      refine J_iload_2 dX8_at_17 ?_
      refine J_bipush (10 : Int32) dX8_at_18 (by decide) ?_
      refine J_bipush (17 : Int32) dX8_at_20 (by decide) ?_
      refine K_callSI (rest := []) dX8_at_22 sl_X8_53 h rfl rfl (Nat.le_of_ble_eq_true rfl) (fun r4 M4 h => ?_)
      refine J_if_ne (t := 41) dX8_at_25 (by decide) (fun c2 => ?_) (fun c2 => ?_)
      · replace h := ite_f c2 h
        refine J_iload_2 dX8_at_41 ?_
        refine J_iconst (2 : Int32) dX8_at_42 (by decide) ?_
        refine J_icmp_ge (t := 60) dX8_at_43 (by decide) (fun c3 => ?_) (fun c3 => ?_)
        · replace h := ite_t c3 h
          refine J_aload_0 dX8_at_60 ?_
          refine J_iload_1 dX8_at_61 ?_
          refine J_iload_2 dX8_at_62 ?_
          refine J_bipush (10 : Int32) dX8_at_63 (by decide) ?_
          refine J_irem dX8_at_65 (by decide) ?_
          refine K_callVV (As := [.int x1, .int (x2 - x2 / (10 : Int32) * (10 : Int32))]) (rest := []) dX8_at_66 vl_X8_146 jlt_117 jsh_117 _ rfl rfl h rfl rfl (Nat.le_of_ble_eq_true rfl) (fun M5 h => ?_)
          refine J_iload_2 dX8_at_69 ?_
          refine J_bipush (20 : Int32) dX8_at_70 (by decide) ?_
          refine J_icmp_ge (t := 82) dX8_at_72 (by decide) (fun c4 => ?_) (fun c4 => ?_)
          · replace h := ite_t c4 h
            refine J_aload_0 dX8_at_82 ?_
            refine J_getI dX8_at_83 fl_X8_143 jlt_117 jsh_117 (by decide) jrf_8_12 ?_
            exact K_iret dX8_at_86 rfl h
          · replace h := ite_f c4 h
            refine J_aload_0 dX8_at_75 ?_
            refine J_getI dX8_at_76 fl_X8_140 jlt_117 jsh_117 (by decide) jrf_8_11 ?_
            refine J_goto (t := 86) dX8_at_79 (by decide) ?_
            exact K_iret dX8_at_86 rfl h
        · replace h := ite_f c3 h
          refine J_aload_0 dX8_at_46 ?_
          refine J_getR 118 dX8_at_47 fl_X8_9 jlt_117 jsh_117 (by decide) jrf_8_1 jmr_117_1 ?_
          refine J_bipush (26 : Int32) dX8_at_50 (by decide) ?_
          refine J_iconst (4 : Int32) dX8_at_52 (by decide) ?_
          refine J_iload_2 dX8_at_53 ?_
          refine J_imul dX8_at_54 ?_
          refine J_iadd dX8_at_55 ?_
          refine J_iload_1 dX8_at_56 ?_
          refine J_iadd dX8_at_57 ?_
          obtain ⟨g4, h⟩ := h
          refine K_iald ((((26 : Int32) + ((4 : Int32) * x2)) + x1).toNatClampNeg) rfl dX8_at_58 jlt_118 jsh_118 g4 ?_
          exact K_iret dX8_at_59 rfl h
      · replace h := ite_t c2 h
        refine J_iload_2 dX8_at_28 ?_
        refine J_bipush (20 : Int32) dX8_at_29 (by decide) ?_
        refine J_bipush (27 : Int32) dX8_at_31 (by decide) ?_
        refine K_callSI (rest := []) dX8_at_33 sl_X8_53 h rfl rfl (Nat.le_of_ble_eq_true rfl) (fun r6 M6 h => ?_)
        refine J_if_ne (t := 41) dX8_at_36 (by decide) (fun c3 => ?_) (fun c3 => ?_)
        · replace h := ite_f c3 h
          refine J_iload_2 dX8_at_41 ?_
          refine J_iconst (2 : Int32) dX8_at_42 (by decide) ?_
          refine J_icmp_ge (t := 60) dX8_at_43 (by decide) (fun c4 => ?_) (fun c4 => ?_)
          · replace h := ite_t c4 h
            refine J_aload_0 dX8_at_60 ?_
            refine J_iload_1 dX8_at_61 ?_
            refine J_iload_2 dX8_at_62 ?_
            refine J_bipush (10 : Int32) dX8_at_63 (by decide) ?_
            refine J_irem dX8_at_65 (by decide) ?_
            refine K_callVV (As := [.int x1, .int (x2 - x2 / (10 : Int32) * (10 : Int32))]) (rest := []) dX8_at_66 vl_X8_146 jlt_117 jsh_117 _ rfl rfl h rfl rfl (Nat.le_of_ble_eq_true rfl) (fun M7 h => ?_)
            refine J_iload_2 dX8_at_69 ?_
            refine J_bipush (20 : Int32) dX8_at_70 (by decide) ?_
            refine J_icmp_ge (t := 82) dX8_at_72 (by decide) (fun c5 => ?_) (fun c5 => ?_)
            · replace h := ite_t c5 h
              refine J_aload_0 dX8_at_82 ?_
              refine J_getI dX8_at_83 fl_X8_143 jlt_117 jsh_117 (by decide) jrf_8_12 ?_
              exact K_iret dX8_at_86 rfl h
            · replace h := ite_f c5 h
              refine J_aload_0 dX8_at_75 ?_
              refine J_getI dX8_at_76 fl_X8_140 jlt_117 jsh_117 (by decide) jrf_8_11 ?_
              refine J_goto (t := 86) dX8_at_79 (by decide) ?_
              exact K_iret dX8_at_86 rfl h
          · replace h := ite_f c4 h
            refine J_aload_0 dX8_at_46 ?_
            refine J_getR 118 dX8_at_47 fl_X8_9 jlt_117 jsh_117 (by decide) jrf_8_1 jmr_117_1 ?_
            refine J_bipush (26 : Int32) dX8_at_50 (by decide) ?_
            refine J_iconst (4 : Int32) dX8_at_52 (by decide) ?_
            refine J_iload_2 dX8_at_53 ?_
            refine J_imul dX8_at_54 ?_
            refine J_iadd dX8_at_55 ?_
            refine J_iload_1 dX8_at_56 ?_
            refine J_iadd dX8_at_57 ?_
            obtain ⟨g5, h⟩ := h
            refine K_iald ((((26 : Int32) + ((4 : Int32) * x2)) + x1).toNatClampNeg) rfl dX8_at_58 jlt_118 jsh_118 g5 ?_
            exact K_iret dX8_at_59 rfl h
        · replace h := ite_t c3 h
          refine J_iconst (-1 : Int32) dX8_at_39 (by decide) ?_
          exact K_iret dX8_at_40 rfl h
theorem eX8_at {G : jGT} {d : Nat} {x1 : Int32} {x2 : Int32} {M : jM} {post : Int32 → jM → Prop} (h : kX8_at_0 G d  x1 x2 M post) : CI G (d + 1) mX8_at [.ref 117, .int x1, .int x2] M post := Con_of_J ok_X8_at 0 rfl rfl h
def kX8_score_0 (G : jGT) (d : Nat)  (x1 : Int32) (x2 : Int32) (x3 : Int32) (M : jM) (post : Int32 → jM → Prop) : Prop := J G (d + 1) mX8_score 0 [some (.ref 117), some (.int x1), some (.int x2), some (.int x3)] [] jN jSH M jMR 0 0 0 0 (jQi post)
theorem bX8_score_0 {G : jGT} {d : Nat} {x1 : Int32} {x2 : Int32} {x3 : Int32} {M : jM} {post : Int32 → jM → Prop} (h : CI G d mX8_isJudge [.ref 117, .int x1] M (fun r1 M1 => (if r1 = 0 then post (-100001 : Int32) M1 else CI G d mX8_isSuit [.ref 117, .int x2] M1 (fun r2 M2 => (if r2 = 0 then post (-100001 : Int32) M2 else CI G d mX8_isSuit [.ref 117, .int x3] M2 (fun r3 M3 => (if r3 = 0 then post (-100001 : Int32) M3 else CV G d mX8_looksFor [.ref 117, .int x1] M3 (fun M4 => (vp_in ((10 : Int32) + x2) 916 ∧ (vp_in ((10 : Int32) + x3) 916 ∧ CI G d mX8_scoreOf [.ref 117, .int (M4 118 (((10 : Int32) + x2).toNatClampNeg)), .int (M4 118 (((10 : Int32) + x3).toNatClampNeg))] M4 (fun r5 M5 => post r5 M5))))))))))) : kX8_score_0 G d  x1 x2 x3 M post := by
  unfold kX8_score_0
  refine J_aload_0 dX8_score_0 ?_
  refine J_iload_1 dX8_score_1 ?_
  refine K_callVI (As := [.int x1]) (rest := []) dX8_score_2 vl_X8_137 jlt_117 jsh_117 _ rfl rfl h rfl rfl (Nat.le_of_ble_eq_true rfl) (fun r1 M1 h => ?_)
  refine J_if_eq (t := 24) dX8_score_5 (by decide) (fun c0 => ?_) (fun c0 => ?_)
  · replace h := ite_t c0 h
    refine J_ldc (-100001 : Int32) dX8_score_24 w_1113 ?_
    exact K_iret dX8_score_26 rfl h
  · replace h := ite_f c0 h
    refine J_aload_0 dX8_score_8 ?_
    refine J_iload_2 dX8_score_9 ?_
    refine K_callVI (As := [.int x2]) (rest := []) dX8_score_10 vl_X8_133 jlt_117 jsh_117 _ rfl rfl h rfl rfl (Nat.le_of_ble_eq_true rfl) (fun r2 M2 h => ?_)
    refine J_if_eq (t := 24) dX8_score_13 (by decide) (fun c1 => ?_) (fun c1 => ?_)
    · replace h := ite_t c1 h
      refine J_ldc (-100001 : Int32) dX8_score_24 w_1113 ?_
      exact K_iret dX8_score_26 rfl h
    · replace h := ite_f c1 h
      refine J_aload_0 dX8_score_16 ?_
      refine J_iload_3 dX8_score_17 ?_
      refine K_callVI (As := [.int x3]) (rest := []) dX8_score_18 vl_X8_133 jlt_117 jsh_117 _ rfl rfl h rfl rfl (Nat.le_of_ble_eq_true rfl) (fun r3 M3 h => ?_)
      refine J_if_ne (t := 27) dX8_score_21 (by decide) (fun c2 => ?_) (fun c2 => ?_)
      · replace h := ite_f c2 h
        refine J_aload_0 dX8_score_27 ?_
        refine J_iload_1 dX8_score_28 ?_
        refine K_callVV (As := [.int x1]) (rest := []) dX8_score_29 vl_X8_154 jlt_117 jsh_117 _ rfl rfl h rfl rfl (Nat.le_of_ble_eq_true rfl) (fun M4 h => ?_)
        refine J_aload_0 dX8_score_32 ?_
        refine J_aload_0 dX8_score_33 ?_
        refine J_getR 118 dX8_score_34 fl_X8_9 jlt_117 jsh_117 (by decide) jrf_8_1 jmr_117_1 ?_
        refine J_bipush (10 : Int32) dX8_score_37 (by decide) ?_
        refine J_iload_2 dX8_score_39 ?_
        refine J_iadd dX8_score_40 ?_
        obtain ⟨g3, h⟩ := h
        refine K_iald (((10 : Int32) + x2).toNatClampNeg) rfl dX8_score_41 jlt_118 jsh_118 g3 ?_
        refine J_aload_0 dX8_score_42 ?_
        refine J_getR 118 dX8_score_43 fl_X8_9 jlt_117 jsh_117 (by decide) jrf_8_1 jmr_117_1 ?_
        refine J_bipush (10 : Int32) dX8_score_46 (by decide) ?_
        refine J_iload_3 dX8_score_48 ?_
        refine J_iadd dX8_score_49 ?_
        obtain ⟨g4, h⟩ := h
        refine K_iald (((10 : Int32) + x3).toNatClampNeg) rfl dX8_score_50 jlt_118 jsh_118 g4 ?_
        refine K_callVI (As := [.int (M4 118 (((10 : Int32) + x2).toNatClampNeg)), .int (M4 118 (((10 : Int32) + x3).toNatClampNeg))]) (rest := []) dX8_score_51 vl_X8_157 jlt_117 jsh_117 _ rfl rfl h rfl rfl (Nat.le_of_ble_eq_true rfl) (fun r5 M5 h => ?_)
        exact K_iret dX8_score_54 rfl h
      · replace h := ite_t c2 h
        refine J_ldc (-100001 : Int32) dX8_score_24 w_1113 ?_
        exact K_iret dX8_score_26 rfl h
theorem eX8_score {G : jGT} {d : Nat} {x1 : Int32} {x2 : Int32} {x3 : Int32} {M : jM} {post : Int32 → jM → Prop} (h : kX8_score_0 G d  x1 x2 x3 M post) : CI G (d + 1) mX8_score [.ref 117, .int x1, .int x2, .int x3] M post := Con_of_J ok_X8_score 0 rfl rfl h
def kX8_opens_0 (G : jGT) (d : Nat)   (M : jM) (post : jM → Prop) : Prop := J G (d + 1) mX8_opens 0 [some (.ref 117), none] [] jN jSH M jMR 0 0 0 0 (jQv post)
def kX8_opens_7 (G : jGT) (d : Nat)  (x1 : Int32) (M : jM) (post : jM → Prop) : Prop := J G (d + 1) mX8_opens 7 [some (.ref 117), some (.int x1)] [] jN jSH M jMR 0 0 0 0 (jQv post)
theorem bX8_opens_0 {G : jGT} {d : Nat}  {M : jM} {post : jM → Prop} (h : kX8_opens_7 G d (0 : Int32) (jup M 117 18 (0 : Int32)) post) : kX8_opens_0 G d   M post := by
  unfold kX8_opens_0
  refine J_aload_0 dX8_opens_0 ?_
  refine J_iconst (0 : Int32) dX8_opens_1 (by decide) ?_
  refine J_putI false dX8_opens_2 pl_X8_161 jlt_117 jsh_117 (by decide) jrf_8_18 (fun q => absurd q (by decide)) ?_
  refine J_iconst (0 : Int32) dX8_opens_5 (by decide) ?_
  refine J_istore_1 dX8_opens_6 rfl ?_
  exact h
theorem bX8_opens_7 {G : jGT} {d : Nat} {x1 : Int32} {M : jM} {post : jM → Prop} (h : (if (M 118 3) ≤ x1 then post M else (vp_in ((50 : Int32) + x1) 916 ∧ (vp_in ((10 : Int32) + (M 118 (((50 : Int32) + x1).toNatClampNeg))) 916 ∧ (vp_in ((74 : Int32) + x1) 916 ∧ (if (M 118 (((74 : Int32) + x1).toNatClampNeg)) = (1 : Int32) then CV G d mX8_writes [.ref 117, .int (M 118 (((10 : Int32) + (M 118 (((50 : Int32) + x1).toNatClampNeg))).toNatClampNeg)), .int (1 : Int32)] M (fun M2 => kX8_opens_7 G d (x1 + (1 : Int32)) M2 post) else CV G d mX8_writes [.ref 117, .int (M 118 (((10 : Int32) + (M 118 (((50 : Int32) + x1).toNatClampNeg))).toNatClampNeg)), .int (0 : Int32)] M (fun M1 => kX8_opens_7 G d (x1 + (1 : Int32)) M1 post))))))) : kX8_opens_7 G d  x1 M post := by
  unfold kX8_opens_7
  refine J_iload_1 dX8_opens_7 ?_
  refine J_aload_0 dX8_opens_8 ?_
  refine J_getR 118 dX8_opens_9 fl_X8_9 jlt_117 jsh_117 (by decide) jrf_8_1 jmr_117_1 ?_
  refine J_iconst (3 : Int32) dX8_opens_12 (by decide) ?_
  refine K_iald 3 rfl dX8_opens_13 jlt_118 jsh_118 (vp_lit (by decide)) ?_
  refine J_icmp_ge (t := 62) dX8_opens_14 (by decide) (fun c0 => ?_) (fun c0 => ?_)
  · replace h := ite_t c0 h
    exact K_ret dX8_opens_62 rfl h
  · replace h := ite_f c0 h
    refine J_aload_0 dX8_opens_17 ?_
    refine J_aload_0 dX8_opens_18 ?_
    refine J_getR 118 dX8_opens_19 fl_X8_9 jlt_117 jsh_117 (by decide) jrf_8_1 jmr_117_1 ?_
    refine J_bipush (10 : Int32) dX8_opens_22 (by decide) ?_
    refine J_aload_0 dX8_opens_24 ?_
    refine J_getR 118 dX8_opens_25 fl_X8_9 jlt_117 jsh_117 (by decide) jrf_8_1 jmr_117_1 ?_
    refine J_bipush (50 : Int32) dX8_opens_28 (by decide) ?_
    refine J_iload_1 dX8_opens_30 ?_
    refine J_iadd dX8_opens_31 ?_
    obtain ⟨g1, h⟩ := h
    refine K_iald (((50 : Int32) + x1).toNatClampNeg) rfl dX8_opens_32 jlt_118 jsh_118 g1 ?_
    refine J_iadd dX8_opens_33 ?_
    obtain ⟨g2, h⟩ := h
    refine K_iald (((10 : Int32) + (M 118 (((50 : Int32) + x1).toNatClampNeg))).toNatClampNeg) rfl dX8_opens_34 jlt_118 jsh_118 g2 ?_
    refine J_aload_0 dX8_opens_35 ?_
    refine J_getR 118 dX8_opens_36 fl_X8_9 jlt_117 jsh_117 (by decide) jrf_8_1 jmr_117_1 ?_
    refine J_bipush (74 : Int32) dX8_opens_39 (by decide) ?_
    refine J_iload_1 dX8_opens_41 ?_
    refine J_iadd dX8_opens_42 ?_
    obtain ⟨g3, h⟩ := h
    refine K_iald (((74 : Int32) + x1).toNatClampNeg) rfl dX8_opens_43 jlt_118 jsh_118 g3 ?_
    refine J_iconst (1 : Int32) dX8_opens_44 (by decide) ?_
    refine J_icmp_ne (t := 52) dX8_opens_45 (by decide) (fun c4 => ?_) (fun c4 => ?_)
    · replace h := ite_f c4 h
      refine J_iconst (0 : Int32) dX8_opens_52 (by decide) ?_
      refine K_callVV (As := [.int (M 118 (((10 : Int32) + (M 118 (((50 : Int32) + x1).toNatClampNeg))).toNatClampNeg)), .int (0 : Int32)]) (rest := []) dX8_opens_53 vl_X8_164 jlt_117 jsh_117 _ rfl rfl h rfl rfl (Nat.le_of_ble_eq_true rfl) (fun M1 h => ?_)
      refine J_iinc_1 (1 : Int32) dX8_opens_56 (by decide) rfl ?_
      refine J_goto (t := 7) dX8_opens_59 (by decide) ?_
      exact h
    · replace h := ite_t c4 h
      refine J_iconst (1 : Int32) dX8_opens_48 (by decide) ?_
      refine J_goto (t := 53) dX8_opens_49 (by decide) ?_
      refine K_callVV (As := [.int (M 118 (((10 : Int32) + (M 118 (((50 : Int32) + x1).toNatClampNeg))).toNatClampNeg)), .int (1 : Int32)]) (rest := []) dX8_opens_53 vl_X8_164 jlt_117 jsh_117 _ rfl rfl h rfl rfl (Nat.le_of_ble_eq_true rfl) (fun M2 h => ?_)
      refine J_iinc_1 (1 : Int32) dX8_opens_56 (by decide) rfl ?_
      refine J_goto (t := 7) dX8_opens_59 (by decide) ?_
      exact h
theorem eX8_opens {G : jGT} {d : Nat}  {M : jM} {post : jM → Prop} (h : kX8_opens_0 G d   M post) : CV G (d + 1) mX8_opens [.ref 117] M post := Con_of_J ok_X8_opens 1 rfl rfl h
def kX8_writes_0 (G : jGT) (d : Nat)  (x1 : Int32) (x2 : Int32) (M : jM) (post : jM → Prop) : Prop := J G d mX8_writes 0 [some (.ref 117), some (.int x1), some (.int x2)] [] jN jSH M jMR 0 0 0 0 (jQv post)
theorem bX8_writes_0 {G : jGT} {d : Nat} {x1 : Int32} {x2 : Int32} {M : jM} {post : jM → Prop} (h : (vp_in (M 117 18) 100 ∧ (vp_in (M 117 18) 100 ∧ post (jup (jup (jup M 124 ((M 117 18).toNatClampNeg) x1) 125 ((M 117 18).toNatClampNeg) (vp_nar .boolean x2)) 117 18 ((M 117 18) + (1 : Int32)))))) : kX8_writes_0 G d  x1 x2 M post := by
  unfold kX8_writes_0
  refine J_aload_0 dX8_writes_0 ?_
  refine J_getR 124 dX8_writes_1 fl_X8_31 jlt_117 jsh_117 (by decide) jrf_8_16 jmr_117_16 ?_
  refine J_aload_0 dX8_writes_4 ?_
  refine J_getI dX8_writes_5 fl_X8_161 jlt_117 jsh_117 (by decide) jrf_8_18 ?_
  refine J_iload_1 dX8_writes_8 ?_
  obtain ⟨g0, h⟩ := h
  refine K_iast ((M 117 18).toNatClampNeg) rfl dX8_writes_9 jlt_124 jsh_124 g0 ?_
  refine J_aload_0 dX8_writes_10 ?_
  refine J_getR 125 dX8_writes_11 fl_X8_34 jlt_117 jsh_117 (by decide) jrf_8_17 jmr_117_17 ?_
  refine J_aload_0 dX8_writes_14 ?_
  refine J_getI dX8_writes_15 fl_X8_161 jlt_117 jsh_117 (by decide) jrf_8_18 ?_
  refine J_iload_2 dX8_writes_18 ?_
  obtain ⟨g1, h⟩ := h
  refine K_zast ((M 117 18).toNatClampNeg) rfl dX8_writes_19 jlt_125 jsh_125 g1 ?_
  refine J_aload_0 dX8_writes_20 ?_
  refine J_dup dX8_writes_21 rfl ?_
  refine J_getI dX8_writes_22 fl_X8_161 jlt_117 jsh_117 (by decide) jrf_8_18 ?_
  refine J_iconst (1 : Int32) dX8_writes_25 (by decide) ?_
  refine J_iadd dX8_writes_26 ?_
  refine J_putI false dX8_writes_27 pl_X8_161 jlt_117 jsh_117 (by decide) jrf_8_18 (fun q => absurd q (by decide)) ?_
  exact K_ret dX8_writes_30 rfl h
theorem eX8_writes {G : jGT} {d : Nat} {x1 : Int32} {x2 : Int32} {M : jM} {post : jM → Prop} (h : kX8_writes_0 G d  x1 x2 M post) : CV G d mX8_writes [.ref 117, .int x1, .int x2] M post := Con_of_J ok_X8_writes 0 rfl rfl h
def kX8_isLike_0 (G : jGT) (d : Nat)  (x1 : Int32) (x2 : Int32) (M : jM) (post : Int32 → jM → Prop) : Prop := J G (d + 1) mX8_isLike 0 [some (.ref 117), some (.int x1), some (.int x2)] [] jN jSH M jMR 0 0 0 0 (jQi post)
theorem bX8_isLike_0 {G : jGT} {d : Nat} {x1 : Int32} {x2 : Int32} {M : jM} {post : Int32 → jM → Prop} (h : (vp_in x1 100 ∧ CI G d mX8_scoreOf [.ref 117, .int (M 124 x1.toNatClampNeg), .int x2] M (fun r1 M1 => (if r1 < (M1 117 15) then post (0 : Int32) M1 else post (1 : Int32) M1)))) : kX8_isLike_0 G d  x1 x2 M post := by
  unfold kX8_isLike_0
  refine J_aload_0 dX8_isLike_0 ?_
  refine J_aload_0 dX8_isLike_1 ?_
  refine J_getR 124 dX8_isLike_2 fl_X8_31 jlt_117 jsh_117 (by decide) jrf_8_16 jmr_117_16 ?_
  refine J_iload_1 dX8_isLike_5 ?_
  obtain ⟨g0, h⟩ := h
  refine K_iald x1.toNatClampNeg rfl dX8_isLike_6 jlt_124 jsh_124 g0 ?_
  refine J_iload_2 dX8_isLike_7 ?_
  refine K_callVI (As := [.int (M 124 x1.toNatClampNeg), .int x2]) (rest := []) dX8_isLike_8 vl_X8_157 jlt_117 jsh_117 _ rfl rfl h rfl rfl (Nat.le_of_ble_eq_true rfl) (fun r1 M1 h => ?_)
  refine J_aload_0 dX8_isLike_11 ?_
  refine J_getI dX8_isLike_12 fl_X8_150 jlt_117 jsh_117 (by decide) jrf_8_15 ?_
  refine J_icmp_lt (t := 22) dX8_isLike_15 (by decide) (fun c1 => ?_) (fun c1 => ?_)
  · replace h := ite_t c1 h
    refine J_iconst (0 : Int32) dX8_isLike_22 (by decide) ?_
    exact K_zret dX8_isLike_23 rfl (by decide +kernel) h
  · replace h := ite_f c1 h
    refine J_iconst (1 : Int32) dX8_isLike_18 (by decide) ?_
    refine J_goto (t := 23) dX8_isLike_19 (by decide) ?_
    exact K_zret dX8_isLike_23 rfl (by decide +kernel) h
theorem eX8_isLike {G : jGT} {d : Nat} {x1 : Int32} {x2 : Int32} {M : jM} {post : Int32 → jM → Prop} (h : kX8_isLike_0 G d  x1 x2 M post) : CI G (d + 1) mX8_isLike [.ref 117, .int x1, .int x2] M post := Con_of_J ok_X8_isLike 0 rfl rfl h
def kX8_likeOne_0 (G : jGT) (d : Nat)  (x1 : Int32) (x2 : Int32) (M : jM) (post : Int32 → jM → Prop) : Prop := J G (d + 1) mX8_likeOne 0 [some (.ref 117), some (.int x1), some (.int x2), none, none, none] [] jN jSH M jMR 0 0 0 0 (jQi post)
def kX8_likeOne_5 (G : jGT) (d : Nat)  (x1 : Int32) (x2 : Int32) (x3 : Int32) (x4 : Int32) (M : jM) (post : Int32 → jM → Prop) : Prop := J G (d + 1) mX8_likeOne 5 [some (.ref 117), some (.int x1), some (.int x2), some (.int x3), some (.int x4), none] [] jN jSH M jMR 0 0 0 0 (jQi post)
theorem bX8_likeOne_0 {G : jGT} {d : Nat} {x1 : Int32} {x2 : Int32} {M : jM} {post : Int32 → jM → Prop} (h : kX8_likeOne_5 G d x1 x2 (-1 : Int32) (0 : Int32) M post) : kX8_likeOne_0 G d  x1 x2 M post := by
  unfold kX8_likeOne_0
  refine J_iconst (-1 : Int32) dX8_likeOne_0 (by decide) ?_
  refine J_istore_3 dX8_likeOne_1 rfl ?_
  refine J_iconst (0 : Int32) dX8_likeOne_2 (by decide) ?_
  refine J_istore_4 dX8_likeOne_3 rfl ?_
  exact h
theorem bX8_likeOne_5 {G : jGT} {d : Nat} {x1 : Int32} {x2 : Int32} {x3 : Int32} {x4 : Int32} {M : jM} {post : Int32 → jM → Prop} (h : (if (M 117 18) ≤ x4 then post x3 M else CI G d mX8_isLike [.ref 117, .int x4, .int x1] M (fun r1 M1 => (if r1 = 0 then kX8_likeOne_5 G d x1 x2 x3 (x4 + (1 : Int32)) M1 post else (if x3 = (-1 : Int32) then kX8_likeOne_5 G d x1 x2 x4 (x4 + (1 : Int32)) M1 post else (if x2 = (1 : Int32) then kX8_likeOne_5 G d x1 x2 x4 (x4 + (1 : Int32)) M1 post else (if x2 = (2 : Int32) then (vp_in x4 100 ∧ CI G d mX8_scoreOf [.ref 117, .int (M1 124 x4.toNatClampNeg), .int x1] M1 (fun r2 M2 => (vp_in x3 100 ∧ CI G d mX8_scoreOf [.ref 117, .int (M2 124 x3.toNatClampNeg), .int x1] M2 (fun r3 M3 => (if r2 < r3 then kX8_likeOne_5 G d x1 x2 x3 (x4 + (1 : Int32)) M3 post else kX8_likeOne_5 G d x1 x2 x4 (x4 + (1 : Int32)) M3 post))))) else kX8_likeOne_5 G d x1 x2 x3 (x4 + (1 : Int32)) M1 post))))))) : kX8_likeOne_5 G d  x1 x2 x3 x4 M post := by
  unfold kX8_likeOne_5
  refine J_iload_4 dX8_likeOne_5 ?_
  refine J_aload_0 dX8_likeOne_7 ?_
  refine J_getI dX8_likeOne_8 fl_X8_161 jlt_117 jsh_117 (by decide) jrf_8_18 ?_
  refine J_icmp_ge (t := 90) dX8_likeOne_11 (by decide) (fun c0 => ?_) (fun c0 => ?_)
  · replace h := ite_t c0 h
    refine J_iload_3 dX8_likeOne_90 ?_
    exact K_iret dX8_likeOne_91 rfl h
  · replace h := ite_f c0 h
    refine J_aload_0 dX8_likeOne_14 ?_
    refine J_iload_4 dX8_likeOne_15 ?_
    refine J_iload_1 dX8_likeOne_17 ?_
    refine K_callVI (As := [.int x4, .int x1]) (rest := []) dX8_likeOne_18 vl_X8_168 jlt_117 jsh_117 _ rfl rfl h rfl rfl (Nat.le_of_ble_eq_true rfl) (fun r1 M1 h => ?_)
    refine J_if_eq (t := 84) dX8_likeOne_21 (by decide) (fun c1 => ?_) (fun c1 => ?_)
    · replace h := ite_t c1 h
      refine J_iinc_4 (1 : Int32) dX8_likeOne_84 (by decide) rfl ?_
      refine J_goto (t := 5) dX8_likeOne_87 (by decide) ?_
      exact h
    · replace h := ite_f c1 h
      refine J_iload_3 dX8_likeOne_24 ?_
      refine J_iconst (-1 : Int32) dX8_likeOne_25 (by decide) ?_
      refine J_icmp_eq (t := 65) dX8_likeOne_26 (by decide) (fun c2 => ?_) (fun c2 => ?_)
      · replace h := ite_t c2 h
        refine J_iconst (1 : Int32) dX8_likeOne_65 (by decide) ?_
        refine J_goto (t := 70) dX8_likeOne_66 (by decide) ?_
        refine J_istore_5 dX8_likeOne_70 rfl ?_
        refine J_iload_5 dX8_likeOne_72 ?_
        refine J_if_eq (t := 82) dX8_likeOne_74 (by decide) (fun c3 => absurd c3 (by decide)) (fun c3 => ?_)
        refine J_iload_4 dX8_likeOne_77 ?_
        refine J_goto (t := 83) dX8_likeOne_79 (by decide) ?_
        refine J_istore_3 dX8_likeOne_83 rfl ?_
        refine J_iinc_4 (1 : Int32) dX8_likeOne_84 (by decide) rfl ?_
        refine J_goto (t := 5) dX8_likeOne_87 (by decide) ?_
        exact J_weak (lv' := [some (.ref 117), some (.int x1), some (.int x2), some (.int x4), some (.int (x4 + (1 : Int32))), none]) (And.intro rfl (And.intro rfl (And.intro rfl (And.intro rfl (And.intro rfl trivial))))) h
      · replace h := ite_f c2 h
        refine J_iload_2 dX8_likeOne_29 ?_
        refine J_iconst (1 : Int32) dX8_likeOne_30 (by decide) ?_
        refine J_icmp_eq (t := 65) dX8_likeOne_31 (by decide) (fun c3 => ?_) (fun c3 => ?_)
        · replace h := ite_t c3 h
          refine J_iconst (1 : Int32) dX8_likeOne_65 (by decide) ?_
          refine J_goto (t := 70) dX8_likeOne_66 (by decide) ?_
          refine J_istore_5 dX8_likeOne_70 rfl ?_
          refine J_iload_5 dX8_likeOne_72 ?_
          refine J_if_eq (t := 82) dX8_likeOne_74 (by decide) (fun c4 => absurd c4 (by decide)) (fun c4 => ?_)
          refine J_iload_4 dX8_likeOne_77 ?_
          refine J_goto (t := 83) dX8_likeOne_79 (by decide) ?_
          refine J_istore_3 dX8_likeOne_83 rfl ?_
          refine J_iinc_4 (1 : Int32) dX8_likeOne_84 (by decide) rfl ?_
          refine J_goto (t := 5) dX8_likeOne_87 (by decide) ?_
          exact J_weak (lv' := [some (.ref 117), some (.int x1), some (.int x2), some (.int x4), some (.int (x4 + (1 : Int32))), none]) (And.intro rfl (And.intro rfl (And.intro rfl (And.intro rfl (And.intro rfl trivial))))) h
        · replace h := ite_f c3 h
          refine J_iload_2 dX8_likeOne_34 ?_
          refine J_iconst (2 : Int32) dX8_likeOne_35 (by decide) ?_
          refine J_icmp_ne (t := 69) dX8_likeOne_36 (by decide) (fun c4 => ?_) (fun c4 => ?_)
          · replace h := ite_f c4 h
            refine J_iconst (0 : Int32) dX8_likeOne_69 (by decide) ?_
            refine J_istore_5 dX8_likeOne_70 rfl ?_
            refine J_iload_5 dX8_likeOne_72 ?_
            refine J_if_eq (t := 82) dX8_likeOne_74 (by decide) (fun c5 => ?_) (fun c5 => absurd c5 (by decide))
            refine J_iload_3 dX8_likeOne_82 ?_
            refine J_istore_3 dX8_likeOne_83 rfl ?_
            refine J_iinc_4 (1 : Int32) dX8_likeOne_84 (by decide) rfl ?_
            refine J_goto (t := 5) dX8_likeOne_87 (by decide) ?_
            exact J_weak (lv' := [some (.ref 117), some (.int x1), some (.int x2), some (.int x3), some (.int (x4 + (1 : Int32))), none]) (And.intro rfl (And.intro rfl (And.intro rfl (And.intro rfl (And.intro rfl trivial))))) h
          · replace h := ite_t c4 h
            refine J_aload_0 dX8_likeOne_39 ?_
            refine J_aload_0 dX8_likeOne_40 ?_
            refine J_getR 124 dX8_likeOne_41 fl_X8_31 jlt_117 jsh_117 (by decide) jrf_8_16 jmr_117_16 ?_
            refine J_iload_4 dX8_likeOne_44 ?_
            obtain ⟨g5, h⟩ := h
            refine K_iald x4.toNatClampNeg rfl dX8_likeOne_46 jlt_124 jsh_124 g5 ?_
            refine J_iload_1 dX8_likeOne_47 ?_
            refine K_callVI (As := [.int (M1 124 x4.toNatClampNeg), .int x1]) (rest := []) dX8_likeOne_48 vl_X8_157 jlt_117 jsh_117 _ rfl rfl h rfl rfl (Nat.le_of_ble_eq_true rfl) (fun r2 M2 h => ?_)
            refine J_aload_0 dX8_likeOne_51 ?_
            refine J_aload_0 dX8_likeOne_52 ?_
            refine J_getR 124 dX8_likeOne_53 fl_X8_31 jlt_117 jsh_117 (by decide) jrf_8_16 jmr_117_16 ?_
            refine J_iload_3 dX8_likeOne_56 ?_
            obtain ⟨g6, h⟩ := h
            refine K_iald x3.toNatClampNeg rfl dX8_likeOne_57 jlt_124 jsh_124 g6 ?_
            refine J_iload_1 dX8_likeOne_58 ?_
            refine K_callVI (As := [.int (M2 124 x3.toNatClampNeg), .int x1]) (rest := [.int r2]) dX8_likeOne_59 vl_X8_157 jlt_117 jsh_117 _ rfl rfl h rfl rfl (Nat.le_of_ble_eq_true rfl) (fun r3 M3 h => ?_)
            refine J_icmp_lt (t := 69) dX8_likeOne_62 (by decide) (fun c7 => ?_) (fun c7 => ?_)
            · replace h := ite_t c7 h
              refine J_iconst (0 : Int32) dX8_likeOne_69 (by decide) ?_
              refine J_istore_5 dX8_likeOne_70 rfl ?_
              refine J_iload_5 dX8_likeOne_72 ?_
              refine J_if_eq (t := 82) dX8_likeOne_74 (by decide) (fun c8 => ?_) (fun c8 => absurd c8 (by decide))
              refine J_iload_3 dX8_likeOne_82 ?_
              refine J_istore_3 dX8_likeOne_83 rfl ?_
              refine J_iinc_4 (1 : Int32) dX8_likeOne_84 (by decide) rfl ?_
              refine J_goto (t := 5) dX8_likeOne_87 (by decide) ?_
              exact J_weak (lv' := [some (.ref 117), some (.int x1), some (.int x2), some (.int x3), some (.int (x4 + (1 : Int32))), none]) (And.intro rfl (And.intro rfl (And.intro rfl (And.intro rfl (And.intro rfl trivial))))) h
            · replace h := ite_f c7 h
              refine J_iconst (1 : Int32) dX8_likeOne_65 (by decide) ?_
              refine J_goto (t := 70) dX8_likeOne_66 (by decide) ?_
              refine J_istore_5 dX8_likeOne_70 rfl ?_
              refine J_iload_5 dX8_likeOne_72 ?_
              refine J_if_eq (t := 82) dX8_likeOne_74 (by decide) (fun c8 => absurd c8 (by decide)) (fun c8 => ?_)
              refine J_iload_4 dX8_likeOne_77 ?_
              refine J_goto (t := 83) dX8_likeOne_79 (by decide) ?_
              refine J_istore_3 dX8_likeOne_83 rfl ?_
              refine J_iinc_4 (1 : Int32) dX8_likeOne_84 (by decide) rfl ?_
              refine J_goto (t := 5) dX8_likeOne_87 (by decide) ?_
              exact J_weak (lv' := [some (.ref 117), some (.int x1), some (.int x2), some (.int x4), some (.int (x4 + (1 : Int32))), none]) (And.intro rfl (And.intro rfl (And.intro rfl (And.intro rfl (And.intro rfl trivial))))) h
theorem eX8_likeOne {G : jGT} {d : Nat} {x1 : Int32} {x2 : Int32} {M : jM} {post : Int32 → jM → Prop} (h : kX8_likeOne_0 G d  x1 x2 M post) : CI G (d + 1) mX8_likeOne [.ref 117, .int x1, .int x2] M post := Con_of_J ok_X8_likeOne 3 rfl rfl h
def kX8_decidesMost_0 (G : jGT) (d : Nat)  (x1 : Int32) (x2 : Int32) (M : jM) (post : Int32 → jM → Prop) : Prop := J G (d + 1) mX8_decidesMost 0 [some (.ref 117), some (.int x1), some (.int x2)] [] jN jSH M jMR 0 0 0 0 (jQi post)
theorem bX8_decidesMost_0 {G : jGT} {d : Nat} {x1 : Int32} {x2 : Int32} {M : jM} {post : Int32 → jM → Prop} (h : (if ((2 : Int32) * x2) = (M 117 20) then CI G d mX8_likeOne [.ref 117, .int x1, .int (0 : Int32)] M (fun r1 M1 => (vp_in r1 100 ∧ (if (M1 125 r1.toNatClampNeg) = 0 then post (1 : Int32) M1 else post (0 : Int32) M1))) else (if ((2 : Int32) * x2) ≤ (M 117 20) then post (1 : Int32) M else post (0 : Int32) M))) : kX8_decidesMost_0 G d  x1 x2 M post := by
  unfold kX8_decidesMost_0
  refine J_iconst (2 : Int32) dX8_decidesMost_0 (by decide) ?_
  refine J_iload_2 dX8_decidesMost_1 ?_
  refine J_imul dX8_decidesMost_2 ?_
  refine J_aload_0 dX8_decidesMost_3 ?_
  refine J_getI dX8_decidesMost_4 fl_X8_172 jlt_117 jsh_117 (by decide) jrf_8_20 ?_
  refine J_icmp_ne (t := 32) dX8_decidesMost_7 (by decide) (fun c0 => ?_) (fun c0 => ?_)
  · replace h := ite_f c0 h
    refine J_iconst (2 : Int32) dX8_decidesMost_32 (by decide) ?_
    refine J_iload_2 dX8_decidesMost_33 ?_
    refine J_imul dX8_decidesMost_34 ?_
    refine J_aload_0 dX8_decidesMost_35 ?_
    refine J_getI dX8_decidesMost_36 fl_X8_172 jlt_117 jsh_117 (by decide) jrf_8_20 ?_
    refine J_icmp_le (t := 46) dX8_decidesMost_39 (by decide) (fun c1 => ?_) (fun c1 => ?_)
    · replace h := ite_t c1 h
      refine J_iconst (1 : Int32) dX8_decidesMost_46 (by decide) ?_
      exact K_iret dX8_decidesMost_47 rfl h
    · replace h := ite_f c1 h
      refine J_iconst (0 : Int32) dX8_decidesMost_42 (by decide) ?_
      refine J_goto (t := 47) dX8_decidesMost_43 (by decide) ?_
      exact K_iret dX8_decidesMost_47 rfl h
  · replace h := ite_t c0 h
    refine J_aload_0 dX8_decidesMost_10 ?_
    refine J_getR 125 dX8_decidesMost_11 fl_X8_34 jlt_117 jsh_117 (by decide) jrf_8_17 jmr_117_17 ?_
    refine J_aload_0 dX8_decidesMost_14 ?_
    refine J_iload_1 dX8_decidesMost_15 ?_
    refine J_iconst (0 : Int32) dX8_decidesMost_16 (by decide) ?_
    refine K_callVI (As := [.int x1, .int (0 : Int32)]) (rest := [.ref 125]) dX8_decidesMost_17 vl_X8_175 jlt_117 jsh_117 _ rfl rfl h rfl rfl (Nat.le_of_ble_eq_true rfl) (fun r1 M1 h => ?_)
    obtain ⟨g1, h⟩ := h
    refine K_zald r1.toNatClampNeg rfl dX8_decidesMost_20 jlt_125 jsh_125 g1 ?_
    refine J_if_eq (t := 28) dX8_decidesMost_21 (by decide) (fun c2 => ?_) (fun c2 => ?_)
    · replace h := ite_t c2 h
      refine J_iconst (1 : Int32) dX8_decidesMost_28 (by decide) ?_
      refine J_goto (t := 47) dX8_decidesMost_29 (by decide) ?_
      exact K_iret dX8_decidesMost_47 rfl h
    · replace h := ite_f c2 h
      refine J_iconst (0 : Int32) dX8_decidesMost_24 (by decide) ?_
      refine J_goto (t := 47) dX8_decidesMost_25 (by decide) ?_
      exact K_iret dX8_decidesMost_47 rfl h
theorem eX8_decidesMost {G : jGT} {d : Nat} {x1 : Int32} {x2 : Int32} {M : jM} {post : Int32 → jM → Prop} (h : kX8_decidesMost_0 G d  x1 x2 M post) : CI G (d + 1) mX8_decidesMost [.ref 117, .int x1, .int x2] M post := Con_of_J ok_X8_decidesMost 0 rfl rfl h
def kX8_decidesBy_0 (G : jGT) (d : Nat)  (x1 : Int32) (x2 : Int32) (M : jM) (post : Int32 → jM → Prop) : Prop := J G (d + 1) mX8_decidesBy 0 [some (.ref 117), some (.int x1), some (.int x2), none, none, none, none] [] jN jSH M jMR 0 0 0 0 (jQi post)
def kX8_decidesBy_47 (G : jGT) (d : Nat)  (x1 : Int32) (x2 : Int32) (x3 : Int32) (x4 : Int32) (x5 : Int32) (x6 : Int32) (M : jM) (post : Int32 → jM → Prop) : Prop := J G (d + 1) mX8_decidesBy 47 [some (.ref 117), some (.int x1), some (.int x2), some (.int x3), some (.int x4), some (.int x5), some (.int x6)] [] jN jSH M jMR 0 0 0 0 (jQi post)
def kX8_decidesBy_93 (G : jGT) (d : Nat)  (x1 : Int32) (x2 : Int32) (x3 : Int32) (x4 : Int32) (x5 : Int32) (x6 : Int32) (s0 : Int32) (s1 : Int32) (M : jM) (post : Int32 → jM → Prop) : Prop := J G (d + 1) mX8_decidesBy 93 [some (.ref 117), some (.int x1), some (.int x2), some (.int x3), some (.int x4), some (.int x5), some (.int x6)] [.int s1, .int s0] jN jSH M jMR 0 0 0 0 (jQi post)
def kX8_decidesBy_96 (G : jGT) (d : Nat)  (x1 : Int32) (x2 : Int32) (x3 : Int32) (x4 : Int32) (x5 : Int32) (x6 : Int32) (M : jM) (post : Int32 → jM → Prop) : Prop := J G (d + 1) mX8_decidesBy 96 [some (.ref 117), some (.int x1), some (.int x2), some (.int x3), some (.int x4), some (.int x5), some (.int x6)] [] jN jSH M jMR 0 0 0 0 (jQi post)
def kX8_decidesBy_124 (G : jGT) (d : Nat)  (x1 : Int32) (x2 : Int32) (x3 : Int32) (x4 : Int32) (x5 : Int32) (x6 : Int32) (s0 : Int32) (M : jM) (post : Int32 → jM → Prop) : Prop := J G (d + 1) mX8_decidesBy 124 [some (.ref 117), some (.int x1), some (.int x2), some (.int x3), some (.int x4), some (.int x5), some (.int x6)] [.int s0] jN jSH M jMR 0 0 0 0 (jQi post)
def kX8_decidesBy_125 (G : jGT) (d : Nat)  (x1 : Int32) (x2 : Int32) (x3 : Int32) (x4 : Int32) (x5 : Int32) (x6 : Int32) (M : jM) (post : Int32 → jM → Prop) : Prop := J G (d + 1) mX8_decidesBy 125 [some (.ref 117), some (.int x1), some (.int x2), some (.int x3), some (.int x4), some (.int x5), some (.int x6)] [] jN jSH M jMR 0 0 0 0 (jQi post)
def kX8_decidesBy_145 (G : jGT) (d : Nat)  (x1 : Int32) (x2 : Int32) (x3 : Int32) (x4 : Int32) (x5 : Int32) (x6 : Int32) (M : jM) (post : Int32 → jM → Prop) : Prop := J G (d + 1) mX8_decidesBy 145 [some (.ref 117), some (.int x1), some (.int x2), some (.int x3), some (.int x4), some (.int x5), some (.int x6)] [] jN jSH M jMR 0 0 0 0 (jQi post)
def kX8_decidesBy_190 (G : jGT) (d : Nat)  (x1 : Int32) (x2 : Int32) (x3 : Int32) (x4 : Int32) (x5 : Int32) (x6 : Int32) (s0 : Int32) (M : jM) (post : Int32 → jM → Prop) : Prop := J G (d + 1) mX8_decidesBy 190 [some (.ref 117), some (.int x1), some (.int x2), some (.int x3), some (.int x4), some (.int x5), some (.int x6)] [.int s0] jN jSH M jMR 0 0 0 0 (jQi post)
def kX8_decidesBy_191 (G : jGT) (d : Nat)  (x1 : Int32) (x2 : Int32) (x3 : Int32) (x4 : Int32) (x5 : Int32) (x6 : Int32) (M : jM) (post : Int32 → jM → Prop) : Prop := J G (d + 1) mX8_decidesBy 191 [some (.ref 117), some (.int x1), some (.int x2), some (.int x3), some (.int x4), some (.int x5), some (.int x6)] [] jN jSH M jMR 0 0 0 0 (jQi post)
def kX8_decidesBy_204 (G : jGT) (d : Nat)  (x1 : Int32) (x2 : Int32) (x3 : Int32) (x4 : Int32) (x5 : Int32) (x6 : Int32) (s2 : Int32) (M : jM) (post : Int32 → jM → Prop) : Prop := J G (d + 1) mX8_decidesBy 204 [some (.ref 117), some (.int x1), some (.int x2), some (.int x3), some (.int x4), some (.int x5), some (.int x6)] [.int s2, .ref 117, .ref 117] jN jSH M jMR 0 0 0 0 (jQi post)
def kX8_decidesBy_218 (G : jGT) (d : Nat)  (x1 : Int32) (x2 : Int32) (x3 : Int32) (x4 : Int32) (x5 : Int32) (x6 : Int32) (s2 : Int32) (M : jM) (post : Int32 → jM → Prop) : Prop := J G (d + 1) mX8_decidesBy 218 [some (.ref 117), some (.int x1), some (.int x2), some (.int x3), some (.int x4), some (.int x5), some (.int x6)] [.int s2, .ref 117, .ref 117] jN jSH M jMR 0 0 0 0 (jQi post)
def kX8_decidesBy_223 (G : jGT) (d : Nat)  (x1 : Int32) (x2 : Int32) (x3 : Int32) (x4 : Int32) (x5 : Int32) (x6 : Int32) (s2 : Int32) (s3 : Int32) (M : jM) (post : Int32 → jM → Prop) : Prop := J G (d + 1) mX8_decidesBy 223 [some (.ref 117), some (.int x1), some (.int x2), some (.int x3), some (.int x4), some (.int x5), some (.int x6)] [.int s3, .int s2, .ref 117, .ref 117] jN jSH M jMR 0 0 0 0 (jQi post)
def kX8_decidesBy_246 (G : jGT) (d : Nat)  (x1 : Int32) (x2 : Int32) (x3 : Int32) (x4 : Int32) (x5 : Int32) (x6 : Int32) (s0 : Int32) (M : jM) (post : Int32 → jM → Prop) : Prop := J G (d + 1) mX8_decidesBy 246 [some (.ref 117), some (.int x1), some (.int x2), some (.int x3), some (.int x4), some (.int x5), some (.int x6)] [.int s0] jN jSH M jMR 0 0 0 0 (jQi post)
theorem bX8_decidesBy_0 {G : jGT} {d : Nat} {x1 : Int32} {x2 : Int32} {M : jM} {post : Int32 → jM → Prop} (h : (vp_in ((26 : Int32) + x1) 916 ∧ CI G d mX8_count1 [.int x2] M (fun r1 M1 => (vp_in (((34 : Int32) + ((4 : Int32) * x1)) + (r1 - r1 / (4 : Int32) * (4 : Int32))) 916 ∧ kX8_decidesBy_47 G d x1 x2 (M 118 (((26 : Int32) + x1).toNatClampNeg)) (M1 118 ((((34 : Int32) + ((4 : Int32) * x1)) + (r1 - r1 / (4 : Int32) * (4 : Int32))).toNatClampNeg)) (0 : Int32) (0 : Int32) (jup (jup M1 117 20 (0 : Int32)) 117 19 (-5 : Int32)) post)))) : kX8_decidesBy_0 G d  x1 x2 M post := by
  unfold kX8_decidesBy_0
  refine J_aload_0 dX8_decidesBy_0 ?_
  refine J_getR 118 dX8_decidesBy_1 fl_X8_9 jlt_117 jsh_117 (by decide) jrf_8_1 jmr_117_1 ?_
  refine J_bipush (26 : Int32) dX8_decidesBy_4 (by decide) ?_
  refine J_iload_1 dX8_decidesBy_6 ?_
  refine J_iadd dX8_decidesBy_7 ?_
  obtain ⟨g0, h⟩ := h
  refine K_iald (((26 : Int32) + x1).toNatClampNeg) rfl dX8_decidesBy_8 jlt_118 jsh_118 g0 ?_
  refine J_istore_3 dX8_decidesBy_9 rfl ?_
  refine J_aload_0 dX8_decidesBy_10 ?_
  refine J_getR 118 dX8_decidesBy_11 fl_X8_9 jlt_117 jsh_117 (by decide) jrf_8_1 jmr_117_1 ?_
  refine J_bipush (34 : Int32) dX8_decidesBy_14 (by decide) ?_
  refine J_iconst (4 : Int32) dX8_decidesBy_16 (by decide) ?_
  refine J_iload_1 dX8_decidesBy_17 ?_
  refine J_imul dX8_decidesBy_18 ?_
  refine J_iadd dX8_decidesBy_19 ?_
  refine J_iload_2 dX8_decidesBy_20 ?_
  refine K_callSI (rest := [.int ((34 : Int32) + ((4 : Int32) * x1)), .ref 118]) dX8_decidesBy_21 sl_X8_178 h rfl rfl (Nat.le_of_ble_eq_true rfl) (fun r1 M1 h => ?_)
  refine J_iconst (4 : Int32) dX8_decidesBy_24 (by decide) ?_
  refine J_irem dX8_decidesBy_25 (by decide) ?_
  refine J_iadd dX8_decidesBy_26 ?_
  obtain ⟨g1, h⟩ := h
  refine K_iald ((((34 : Int32) + ((4 : Int32) * x1)) + (r1 - r1 / (4 : Int32) * (4 : Int32))).toNatClampNeg) rfl dX8_decidesBy_27 jlt_118 jsh_118 g1 ?_
  refine J_istore_4 dX8_decidesBy_28 rfl ?_
  refine J_iconst (0 : Int32) dX8_decidesBy_30 (by decide) ?_
  refine J_istore_5 dX8_decidesBy_31 rfl ?_
  refine J_aload_0 dX8_decidesBy_33 ?_
  refine J_iconst (0 : Int32) dX8_decidesBy_34 (by decide) ?_
  refine J_putI false dX8_decidesBy_35 pl_X8_172 jlt_117 jsh_117 (by decide) jrf_8_20 (fun q => absurd q (by decide)) ?_
  refine J_aload_0 dX8_decidesBy_38 ?_
  refine J_bipush (-5 : Int32) dX8_decidesBy_39 (by decide) ?_
  refine J_putI false dX8_decidesBy_41 pl_X8_182 jlt_117 jsh_117 (by decide) jrf_8_19 (fun q => absurd q (by decide)) ?_
  refine J_iconst (0 : Int32) dX8_decidesBy_44 (by decide) ?_
  refine J_istore_6 dX8_decidesBy_45 rfl ?_
  exact h
theorem bX8_decidesBy_47 {G : jGT} {d : Nat} {x1 : Int32} {x2 : Int32} {x3 : Int32} {x4 : Int32} {x5 : Int32} {x6 : Int32} {M : jM} {post : Int32 → jM → Prop} (h : (if (M 117 18) ≤ x6 then (if x3 = (6 : Int32) then (if x4 ≤ 0 then kX8_decidesBy_125 G d x1 x2 x3 x4 x5 x6 M post else (if x4 = (1 : Int32) then kX8_decidesBy_124 G d x1 x2 x3 x4 x5 x6 (1 : Int32) M post else kX8_decidesBy_124 G d x1 x2 x3 x4 x5 x6 (0 : Int32) M post)) else kX8_decidesBy_125 G d x1 x2 x3 x4 x5 x6 M post) else CI G d mX8_isLike [.ref 117, .int x6, .int x2] M (fun r1 M1 => (if r1 = 0 then kX8_decidesBy_96 G d x1 x2 x3 x4 x5 x6 M1 post else (vp_in x6 100 ∧ (if (M1 125 x6.toNatClampNeg) = 0 then kX8_decidesBy_93 G d x1 x2 x3 x4 x5 x6 x5 (0 : Int32) (jup M1 117 20 ((M1 117 20) + (1 : Int32))) post else kX8_decidesBy_93 G d x1 x2 x3 x4 x5 x6 x5 (1 : Int32) (jup M1 117 20 ((M1 117 20) + (1 : Int32))) post)))))) : kX8_decidesBy_47 G d  x1 x2 x3 x4 x5 x6 M post := by
  unfold kX8_decidesBy_47
  refine J_iload_6 dX8_decidesBy_47 ?_
  refine J_aload_0 dX8_decidesBy_49 ?_
  refine J_getI dX8_decidesBy_50 fl_X8_161 jlt_117 jsh_117 (by decide) jrf_8_18 ?_
  refine J_icmp_ge (t := 102) dX8_decidesBy_53 (by decide) (fun c0 => ?_) (fun c0 => ?_)
  · replace h := ite_t c0 h
    refine J_iload_3 dX8_decidesBy_102 ?_
    refine J_bipush (6 : Int32) dX8_decidesBy_103 (by decide) ?_
    refine J_icmp_ne (t := 125) dX8_decidesBy_105 (by decide) (fun c1 => ?_) (fun c1 => ?_)
    · replace h := ite_f c1 h
      exact h
    · replace h := ite_t c1 h
      refine J_iload_4 dX8_decidesBy_108 ?_
      refine J_if_le (t := 125) dX8_decidesBy_110 (by decide) (fun c2 => ?_) (fun c2 => ?_)
      · replace h := ite_t c2 h
        exact h
      · replace h := ite_f c2 h
        refine J_iload_4 dX8_decidesBy_113 ?_
        refine J_iconst (1 : Int32) dX8_decidesBy_115 (by decide) ?_
        refine J_icmp_ne (t := 123) dX8_decidesBy_116 (by decide) (fun c3 => ?_) (fun c3 => ?_)
        · replace h := ite_f c3 h
          refine J_iconst (0 : Int32) dX8_decidesBy_123 (by decide) ?_
          exact h
        · replace h := ite_t c3 h
          refine J_iconst (1 : Int32) dX8_decidesBy_119 (by decide) ?_
          refine J_goto (t := 124) dX8_decidesBy_120 (by decide) ?_
          exact h
  · replace h := ite_f c0 h
    refine J_aload_0 dX8_decidesBy_56 ?_
    refine J_iload_6 dX8_decidesBy_57 ?_
    refine J_iload_2 dX8_decidesBy_59 ?_
    refine K_callVI (As := [.int x6, .int x2]) (rest := []) dX8_decidesBy_60 vl_X8_168 jlt_117 jsh_117 _ rfl rfl h rfl rfl (Nat.le_of_ble_eq_true rfl) (fun r1 M1 h => ?_)
    refine J_if_eq (t := 96) dX8_decidesBy_63 (by decide) (fun c1 => ?_) (fun c1 => ?_)
    · replace h := ite_t c1 h
      exact h
    · replace h := ite_f c1 h
      refine J_aload_0 dX8_decidesBy_66 ?_
      refine J_dup dX8_decidesBy_67 rfl ?_
      refine J_getI dX8_decidesBy_68 fl_X8_172 jlt_117 jsh_117 (by decide) jrf_8_20 ?_
      refine J_iconst (1 : Int32) dX8_decidesBy_71 (by decide) ?_
      refine J_iadd dX8_decidesBy_72 ?_
      refine J_putI false dX8_decidesBy_73 pl_X8_172 jlt_117 jsh_117 (by decide) jrf_8_20 (fun q => absurd q (by decide)) ?_
      refine J_iload_5 dX8_decidesBy_76 ?_
      refine J_aload_0 dX8_decidesBy_78 ?_
      refine J_getR 125 dX8_decidesBy_79 fl_X8_34 jlt_117 jsh_117 (by decide) jrf_8_17 jmr_117_17 ?_
      refine J_iload_6 dX8_decidesBy_82 ?_
      obtain ⟨g2, h⟩ := h
      refine K_zald x6.toNatClampNeg rfl dX8_decidesBy_84 jlt_125 jsh_125 g2 ?_
      refine J_if_eq (t := 92) dX8_decidesBy_85 (by decide) (fun c3 => ?_) (fun c3 => ?_)
      · replace h := ite_t c3 h
        refine J_iconst (0 : Int32) dX8_decidesBy_92 (by decide) ?_
        exact h
      · replace h := ite_f c3 h
        refine J_iconst (1 : Int32) dX8_decidesBy_88 (by decide) ?_
        refine J_goto (t := 93) dX8_decidesBy_89 (by decide) ?_
        exact h
theorem bX8_decidesBy_93 {G : jGT} {d : Nat} {x1 : Int32} {x2 : Int32} {x3 : Int32} {x4 : Int32} {x5 : Int32} {x6 : Int32} {s0 : Int32} {s1 : Int32} {M : jM} {post : Int32 → jM → Prop} (h : kX8_decidesBy_96 G d x1 x2 x3 x4 (s0 + s1) x6 M post) : kX8_decidesBy_93 G d  x1 x2 x3 x4 x5 x6 s0 s1 M post := by
  unfold kX8_decidesBy_93
  refine J_iadd dX8_decidesBy_93 ?_
  refine J_istore_5 dX8_decidesBy_94 rfl ?_
  exact h
theorem bX8_decidesBy_96 {G : jGT} {d : Nat} {x1 : Int32} {x2 : Int32} {x3 : Int32} {x4 : Int32} {x5 : Int32} {x6 : Int32} {M : jM} {post : Int32 → jM → Prop} (h : kX8_decidesBy_47 G d x1 x2 x3 x4 x5 (x6 + (1 : Int32)) M post) : kX8_decidesBy_96 G d  x1 x2 x3 x4 x5 x6 M post := by
  unfold kX8_decidesBy_96
  refine J_iinc_6 (1 : Int32) dX8_decidesBy_96 (by decide) rfl ?_
  refine J_goto (t := 47) dX8_decidesBy_99 (by decide) ?_
  exact h
theorem bX8_decidesBy_124 {G : jGT} {d : Nat} {x1 : Int32} {x2 : Int32} {x3 : Int32} {x4 : Int32} {x5 : Int32} {x6 : Int32} {s0 : Int32} {M : jM} {post : Int32 → jM → Prop} (h : post s0 M) : kX8_decidesBy_124 G d  x1 x2 x3 x4 x5 x6 s0 M post := by
  unfold kX8_decidesBy_124
  exact K_iret dX8_decidesBy_124 rfl h
theorem bX8_decidesBy_125 {G : jGT} {d : Nat} {x1 : Int32} {x2 : Int32} {x3 : Int32} {x4 : Int32} {x5 : Int32} {x6 : Int32} {M : jM} {post : Int32 → jM → Prop} (h : (if (M 117 20) = 0 then post (2 : Int32) M else (if x3 = (3 : Int32) then kX8_decidesBy_145 G d x1 x2 x3 x4 x5 x6 M post else (if x3 = (6 : Int32) then kX8_decidesBy_145 G d x1 x2 x3 x4 x5 x6 M post else (if x3 = (4 : Int32) then (if x5 ≤ 0 then kX8_decidesBy_191 G d x1 x2 x3 x4 x5 x6 M post else (if (M 117 20) ≤ x5 then kX8_decidesBy_191 G d x1 x2 x3 x4 x5 x6 M post else (vp_in ((30 : Int32) + x1) 916 ∧ (if (M 118 (((30 : Int32) + x1).toNatClampNeg)) ≤ (4 : Int32) then kX8_decidesBy_190 G d x1 x2 x3 x4 x5 x6 (0 : Int32) M post else kX8_decidesBy_190 G d x1 x2 x3 x4 x5 x6 (1 : Int32) M post)))) else kX8_decidesBy_191 G d x1 x2 x3 x4 x5 x6 M post))))) : kX8_decidesBy_125 G d  x1 x2 x3 x4 x5 x6 M post := by
  unfold kX8_decidesBy_125
  refine J_aload_0 dX8_decidesBy_125 ?_
  refine J_getI dX8_decidesBy_126 fl_X8_172 jlt_117 jsh_117 (by decide) jrf_8_20 ?_
  refine J_if_ne (t := 134) dX8_decidesBy_129 (by decide) (fun c0 => ?_) (fun c0 => ?_)
  · replace h := ite_f c0 h
    refine J_iload_3 dX8_decidesBy_134 ?_
    refine J_iconst (3 : Int32) dX8_decidesBy_135 (by decide) ?_
    refine J_icmp_eq (t := 145) dX8_decidesBy_136 (by decide) (fun c1 => ?_) (fun c1 => ?_)
    · replace h := ite_t c1 h
      exact h
    · replace h := ite_f c1 h
      refine J_iload_3 dX8_decidesBy_139 ?_
      refine J_bipush (6 : Int32) dX8_decidesBy_140 (by decide) ?_
      refine J_icmp_ne (t := 153) dX8_decidesBy_142 (by decide) (fun c2 => ?_) (fun c2 => ?_)
      · replace h := ite_f c2 h
        refine J_iload_3 dX8_decidesBy_153 ?_
        refine J_iconst (4 : Int32) dX8_decidesBy_154 (by decide) ?_
        refine J_icmp_ne (t := 191) dX8_decidesBy_155 (by decide) (fun c3 => ?_) (fun c3 => ?_)
        · replace h := ite_f c3 h
          exact h
        · replace h := ite_t c3 h
          refine J_iload_5 dX8_decidesBy_158 ?_
          refine J_if_le (t := 191) dX8_decidesBy_160 (by decide) (fun c4 => ?_) (fun c4 => ?_)
          · replace h := ite_t c4 h
            exact h
          · replace h := ite_f c4 h
            refine J_iload_5 dX8_decidesBy_163 ?_
            refine J_aload_0 dX8_decidesBy_165 ?_
            refine J_getI dX8_decidesBy_166 fl_X8_172 jlt_117 jsh_117 (by decide) jrf_8_20 ?_
            refine J_icmp_ge (t := 191) dX8_decidesBy_169 (by decide) (fun c5 => ?_) (fun c5 => ?_)
            · replace h := ite_t c5 h
              exact h
            · replace h := ite_f c5 h
              refine J_aload_0 dX8_decidesBy_172 ?_
              refine J_getR 118 dX8_decidesBy_173 fl_X8_9 jlt_117 jsh_117 (by decide) jrf_8_1 jmr_117_1 ?_
              refine J_bipush (30 : Int32) dX8_decidesBy_176 (by decide) ?_
              refine J_iload_1 dX8_decidesBy_178 ?_
              refine J_iadd dX8_decidesBy_179 ?_
              obtain ⟨g6, h⟩ := h
              refine K_iald (((30 : Int32) + x1).toNatClampNeg) rfl dX8_decidesBy_180 jlt_118 jsh_118 g6 ?_
              refine J_iconst (4 : Int32) dX8_decidesBy_181 (by decide) ?_
              refine J_icmp_le (t := 189) dX8_decidesBy_182 (by decide) (fun c7 => ?_) (fun c7 => ?_)
              · replace h := ite_t c7 h
                refine J_iconst (0 : Int32) dX8_decidesBy_189 (by decide) ?_
                exact h
              · replace h := ite_f c7 h
                refine J_iconst (1 : Int32) dX8_decidesBy_185 (by decide) ?_
                refine J_goto (t := 190) dX8_decidesBy_186 (by decide) ?_
                exact h
      · replace h := ite_t c2 h
        exact h
  · replace h := ite_t c0 h
    refine J_iconst (2 : Int32) dX8_decidesBy_132 (by decide) ?_
    exact K_iret dX8_decidesBy_133 rfl h
theorem bX8_decidesBy_145 {G : jGT} {d : Nat} {x1 : Int32} {x2 : Int32} {x3 : Int32} {x4 : Int32} {x5 : Int32} {x6 : Int32} {M : jM} {post : Int32 → jM → Prop} (h : CI G d mX8_decidesMost [.ref 117, .int x2, .int x5] M (fun r1 M1 => post r1 M1)) : kX8_decidesBy_145 G d  x1 x2 x3 x4 x5 x6 M post := by
  unfold kX8_decidesBy_145
  refine J_aload_0 dX8_decidesBy_145 ?_
  refine J_iload_2 dX8_decidesBy_146 ?_
  refine J_iload_5 dX8_decidesBy_147 ?_
  refine K_callVI (As := [.int x2, .int x5]) (rest := []) dX8_decidesBy_149 vl_X8_185 jlt_117 jsh_117 _ rfl rfl h rfl rfl (Nat.le_of_ble_eq_true rfl) (fun r1 M1 h => ?_)
  exact K_iret dX8_decidesBy_152 rfl h
theorem bX8_decidesBy_190 {G : jGT} {d : Nat} {x1 : Int32} {x2 : Int32} {x3 : Int32} {x4 : Int32} {x5 : Int32} {x6 : Int32} {s0 : Int32} {M : jM} {post : Int32 → jM → Prop} (h : post s0 M) : kX8_decidesBy_190 G d  x1 x2 x3 x4 x5 x6 s0 M post := by
  unfold kX8_decidesBy_190
  exact K_iret dX8_decidesBy_190 rfl h
theorem bX8_decidesBy_191 {G : jGT} {d : Nat} {x1 : Int32} {x2 : Int32} {x3 : Int32} {x4 : Int32} {x5 : Int32} {x6 : Int32} {M : jM} {post : Int32 → jM → Prop} (h : (if x3 = (1 : Int32) then kX8_decidesBy_204 G d x1 x2 x3 x4 x5 x6 x2 M post else (if x3 = (4 : Int32) then kX8_decidesBy_204 G d x1 x2 x3 x4 x5 x6 x2 M post else (if x3 = (2 : Int32) then kX8_decidesBy_218 G d x1 x2 x3 x4 x5 x6 x2 M post else (if x3 = (5 : Int32) then kX8_decidesBy_218 G d x1 x2 x3 x4 x5 x6 x2 M post else kX8_decidesBy_223 G d x1 x2 x3 x4 x5 x6 x2 (0 : Int32) M post))))) : kX8_decidesBy_191 G d  x1 x2 x3 x4 x5 x6 M post := by
  unfold kX8_decidesBy_191
  refine J_aload_0 dX8_decidesBy_191 ?_
  refine J_aload_0 dX8_decidesBy_192 ?_
  refine J_iload_2 dX8_decidesBy_193 ?_
  refine J_iload_3 dX8_decidesBy_194 ?_
  refine J_iconst (1 : Int32) dX8_decidesBy_195 (by decide) ?_
  refine J_icmp_eq (t := 204) dX8_decidesBy_196 (by decide) (fun c0 => ?_) (fun c0 => ?_)
  · replace h := ite_t c0 h
    exact h
  · replace h := ite_f c0 h
    refine J_iload_3 dX8_decidesBy_199 ?_
    refine J_iconst (4 : Int32) dX8_decidesBy_200 (by decide) ?_
    refine J_icmp_ne (t := 208) dX8_decidesBy_201 (by decide) (fun c1 => ?_) (fun c1 => ?_)
    · replace h := ite_f c1 h
      refine J_iload_3 dX8_decidesBy_208 ?_
      refine J_iconst (2 : Int32) dX8_decidesBy_209 (by decide) ?_
      refine J_icmp_eq (t := 218) dX8_decidesBy_210 (by decide) (fun c2 => ?_) (fun c2 => ?_)
      · replace h := ite_t c2 h
        exact h
      · replace h := ite_f c2 h
        refine J_iload_3 dX8_decidesBy_213 ?_
        refine J_iconst (5 : Int32) dX8_decidesBy_214 (by decide) ?_
        refine J_icmp_ne (t := 222) dX8_decidesBy_215 (by decide) (fun c3 => ?_) (fun c3 => ?_)
        · replace h := ite_f c3 h
          refine J_iconst (0 : Int32) dX8_decidesBy_222 (by decide) ?_
          exact h
        · replace h := ite_t c3 h
          exact h
    · replace h := ite_t c1 h
      exact h
theorem bX8_decidesBy_204 {G : jGT} {d : Nat} {x1 : Int32} {x2 : Int32} {x3 : Int32} {x4 : Int32} {x5 : Int32} {x6 : Int32} {s2 : Int32} {M : jM} {post : Int32 → jM → Prop} (h : kX8_decidesBy_223 G d x1 x2 x3 x4 x5 x6 s2 (1 : Int32) M post) : kX8_decidesBy_204 G d  x1 x2 x3 x4 x5 x6 s2 M post := by
  unfold kX8_decidesBy_204
  refine J_iconst (1 : Int32) dX8_decidesBy_204 (by decide) ?_
  refine J_goto (t := 223) dX8_decidesBy_205 (by decide) ?_
  exact h
theorem bX8_decidesBy_218 {G : jGT} {d : Nat} {x1 : Int32} {x2 : Int32} {x3 : Int32} {x4 : Int32} {x5 : Int32} {x6 : Int32} {s2 : Int32} {M : jM} {post : Int32 → jM → Prop} (h : kX8_decidesBy_223 G d x1 x2 x3 x4 x5 x6 s2 (2 : Int32) M post) : kX8_decidesBy_218 G d  x1 x2 x3 x4 x5 x6 s2 M post := by
  unfold kX8_decidesBy_218
  refine J_iconst (2 : Int32) dX8_decidesBy_218 (by decide) ?_
  refine J_goto (t := 223) dX8_decidesBy_219 (by decide) ?_
  exact h
theorem bX8_decidesBy_223 {G : jGT} {d : Nat} {x1 : Int32} {x2 : Int32} {x3 : Int32} {x4 : Int32} {x5 : Int32} {x6 : Int32} {s2 : Int32} {s3 : Int32} {M : jM} {post : Int32 → jM → Prop} (h : CI G d mX8_likeOne [.ref 117, .int s2, .int s3] M (fun r1 M1 => (vp_in r1 100 ∧ (if (M1 125 r1.toNatClampNeg) = 0 then kX8_decidesBy_246 G d x1 x2 x3 x4 x5 x6 (1 : Int32) (jup M1 117 19 r1) post else kX8_decidesBy_246 G d x1 x2 x3 x4 x5 x6 (0 : Int32) (jup M1 117 19 r1) post)))) : kX8_decidesBy_223 G d  x1 x2 x3 x4 x5 x6 s2 s3 M post := by
  unfold kX8_decidesBy_223
  refine K_callVI (As := [.int s2, .int s3]) (rest := [.ref 117]) dX8_decidesBy_223 vl_X8_175 jlt_117 jsh_117 _ rfl rfl h rfl rfl (Nat.le_of_ble_eq_true rfl) (fun r1 M1 h => ?_)
  refine J_putI false dX8_decidesBy_226 pl_X8_182 jlt_117 jsh_117 (by decide) jrf_8_19 (fun q => absurd q (by decide)) ?_
  refine J_aload_0 dX8_decidesBy_229 ?_
  refine J_getR 125 dX8_decidesBy_230 fl_X8_34 jlt_117 jsh_117 (by decide) jrf_8_17 jmr_117_17 ?_
  refine J_aload_0 dX8_decidesBy_233 ?_
  refine J_getI dX8_decidesBy_234 fl_X8_182 jlt_117 jsh_117 (by decide) jrf_8_19 ?_
  obtain ⟨g0, h⟩ := h
  refine K_zald r1.toNatClampNeg rfl dX8_decidesBy_237 jlt_125 jsh_125 g0 ?_
  refine J_if_eq (t := 245) dX8_decidesBy_238 (by decide) (fun c1 => ?_) (fun c1 => ?_)
  · replace h := ite_t c1 h
    refine J_iconst (1 : Int32) dX8_decidesBy_245 (by decide) ?_
    exact h
  · replace h := ite_f c1 h
    refine J_iconst (0 : Int32) dX8_decidesBy_241 (by decide) ?_
    refine J_goto (t := 246) dX8_decidesBy_242 (by decide) ?_
    exact h
theorem bX8_decidesBy_246 {G : jGT} {d : Nat} {x1 : Int32} {x2 : Int32} {x3 : Int32} {x4 : Int32} {x5 : Int32} {x6 : Int32} {s0 : Int32} {M : jM} {post : Int32 → jM → Prop} (h : post s0 M) : kX8_decidesBy_246 G d  x1 x2 x3 x4 x5 x6 s0 M post := by
  unfold kX8_decidesBy_246
  exact K_iret dX8_decidesBy_246 rfl h
theorem eX8_decidesBy {G : jGT} {d : Nat} {x1 : Int32} {x2 : Int32} {M : jM} {post : Int32 → jM → Prop} (h : kX8_decidesBy_0 G d  x1 x2 M post) : CI G (d + 1) mX8_decidesBy [.ref 117, .int x1, .int x2] M post := Con_of_J ok_X8_decidesBy 4 rfl rfl h
def kX8_isForIt_0 (G : jGT) (d : Nat)  (x1 : Int32) (x2 : Int32) (M : jM) (post : Int32 → jM → Prop) : Prop := J G (d + 1) mX8_isForIt 0 [some (.ref 117), some (.int x1), some (.int x2), none] [] jN jSH M jMR 0 0 0 0 (jQi post)
theorem bX8_isForIt_0 {G : jGT} {d : Nat} {x1 : Int32} {x2 : Int32} {M : jM} {post : Int32 → jM → Prop} (h : CI G d mX8_decidesBy [.ref 117, .int x1, .int x2] M (fun r1 M1 => (if r1 = (2 : Int32) then (vp_in ((30 : Int32) + x1) 916 ∧ (if ((M1 118 (((30 : Int32) + x1).toNatClampNeg)) - (M1 118 (((30 : Int32) + x1).toNatClampNeg)) / (2 : Int32) * (2 : Int32)) = (1 : Int32) then post (1 : Int32) M1 else post (0 : Int32) M1)) else (if r1 = (1 : Int32) then post (1 : Int32) M1 else post (0 : Int32) M1)))) : kX8_isForIt_0 G d  x1 x2 M post := by
  unfold kX8_isForIt_0
  refine J_aload_0 dX8_isForIt_0 ?_
  refine J_iload_1 dX8_isForIt_1 ?_
  refine J_iload_2 dX8_isForIt_2 ?_
  refine K_callVI (As := [.int x1, .int x2]) (rest := []) dX8_isForIt_3 vl_X8_188 jlt_117 jsh_117 _ rfl rfl h rfl rfl (Nat.le_of_ble_eq_true rfl) (fun r1 M1 h => ?_)
  refine J_istore_3 dX8_isForIt_6 rfl ?_
  refine J_iload_3 dX8_isForIt_7 ?_
  refine J_iconst (2 : Int32) dX8_isForIt_8 (by decide) ?_
  refine J_icmp_ne (t := 35) dX8_isForIt_9 (by decide) (fun c0 => ?_) (fun c0 => ?_)
  · replace h := ite_f c0 h
    refine J_iload_3 dX8_isForIt_35 ?_
    refine J_iconst (1 : Int32) dX8_isForIt_36 (by decide) ?_
    refine J_icmp_ne (t := 44) dX8_isForIt_37 (by decide) (fun c1 => ?_) (fun c1 => ?_)
    · replace h := ite_f c1 h
      refine J_iconst (0 : Int32) dX8_isForIt_44 (by decide) ?_
      exact K_zret dX8_isForIt_45 rfl (by decide +kernel) h
    · replace h := ite_t c1 h
      refine J_iconst (1 : Int32) dX8_isForIt_40 (by decide) ?_
      refine J_goto (t := 45) dX8_isForIt_41 (by decide) ?_
      exact K_zret dX8_isForIt_45 rfl (by decide +kernel) h
  · replace h := ite_t c0 h
    refine J_aload_0 dX8_isForIt_12 ?_
    refine J_getR 118 dX8_isForIt_13 fl_X8_9 jlt_117 jsh_117 (by decide) jrf_8_1 jmr_117_1 ?_
    refine J_bipush (30 : Int32) dX8_isForIt_16 (by decide) ?_
    refine J_iload_1 dX8_isForIt_18 ?_
    refine J_iadd dX8_isForIt_19 ?_
    obtain ⟨g1, h⟩ := h
    refine K_iald (((30 : Int32) + x1).toNatClampNeg) rfl dX8_isForIt_20 jlt_118 jsh_118 g1 ?_
    refine J_iconst (2 : Int32) dX8_isForIt_21 (by decide) ?_
    refine J_irem dX8_isForIt_22 (by decide) ?_
    refine J_iconst (1 : Int32) dX8_isForIt_23 (by decide) ?_
    refine J_icmp_ne (t := 31) dX8_isForIt_24 (by decide) (fun c2 => ?_) (fun c2 => ?_)
    · replace h := ite_f c2 h
      refine J_iconst (0 : Int32) dX8_isForIt_31 (by decide) ?_
      refine J_goto (t := 45) dX8_isForIt_32 (by decide) ?_
      exact K_zret dX8_isForIt_45 rfl (by decide +kernel) h
    · replace h := ite_t c2 h
      refine J_iconst (1 : Int32) dX8_isForIt_27 (by decide) ?_
      refine J_goto (t := 45) dX8_isForIt_28 (by decide) ?_
      exact K_zret dX8_isForIt_45 rfl (by decide +kernel) h
theorem eX8_isForIt {G : jGT} {d : Nat} {x1 : Int32} {x2 : Int32} {M : jM} {post : Int32 → jM → Prop} (h : kX8_isForIt_0 G d  x1 x2 M post) : CI G (d + 1) mX8_isForIt [.ref 117, .int x1, .int x2] M post := Con_of_J ok_X8_isForIt 1 rfl rfl h
def kX8_hears_0 (G : jGT) (d : Nat)  (x1 : Int32) (x2 : Int32) (M : jM) (post : Int32 → jM → Prop) : Prop := J G (d + 1) mX8_hears 0 [some (.ref 117), some (.int x1), some (.int x2), none] [] jN jSH M jMR 0 0 0 0 (jQi post)
theorem bX8_hears_0 {G : jGT} {d : Nat} {x1 : Int32} {x2 : Int32} {M : jM} {post : Int32 → jM → Prop} (h : CI G d mX8_isForIt [.ref 117, .int x1, .int x2] M (fun r1 M1 => CV G d mX8_writes [.ref 117, .int x2, .int r1] M1 (fun M2 => ((r1 = 0 ∨ r1 = 1) ∧ post r1 M2)))) : kX8_hears_0 G d  x1 x2 M post := by
  unfold kX8_hears_0
  refine J_aload_0 dX8_hears_0 ?_
  refine J_iload_1 dX8_hears_1 ?_
  refine J_iload_2 dX8_hears_2 ?_
  refine K_callVI (As := [.int x1, .int x2]) (rest := []) dX8_hears_3 vl_X8_191 jlt_117 jsh_117 _ rfl rfl h rfl rfl (Nat.le_of_ble_eq_true rfl) (fun r1 M1 h => ?_)
  refine J_istore_3 dX8_hears_6 rfl ?_
  refine J_aload_0 dX8_hears_7 ?_
  refine J_iload_2 dX8_hears_8 ?_
  refine J_iload_3 dX8_hears_9 ?_
  refine K_callVV (As := [.int x2, .int r1]) (rest := []) dX8_hears_10 vl_X8_164 jlt_117 jsh_117 _ rfl rfl h rfl rfl (Nat.le_of_ble_eq_true rfl) (fun M2 h => ?_)
  refine J_iload_3 dX8_hears_13 ?_
  exact K_zret dX8_hears_14 rfl (nz h.1) h.2
theorem eX8_hears {G : jGT} {d : Nat} {x1 : Int32} {x2 : Int32} {M : jM} {post : Int32 → jM → Prop} (h : kX8_hears_0 G d  x1 x2 M post) : CI G (d + 1) mX8_hears [.ref 117, .int x1, .int x2] M post := Con_of_J ok_X8_hears 1 rfl rfl h
def kX8_decides_0 (G : jGT) (d : Nat)  (x1 : Int32) (x2 : Int32) (x3 : Int32) (M : jM) (post : Int32 → jM → Prop) : Prop := J G (d + 1) mX8_decides 0 [some (.ref 117), some (.int x1), some (.int x2), some (.int x3), none] [] jN jSH M jMR 0 0 0 0 (jQi post)
theorem bX8_decides_0 {G : jGT} {d : Nat} {x1 : Int32} {x2 : Int32} {x3 : Int32} {M : jM} {post : Int32 → jM → Prop} (h : CI G d mX8_isJudge [.ref 117, .int x1] M (fun r1 M1 => (if r1 = 0 then post (-1 : Int32) M1 else CI G d mX8_isSuit [.ref 117, .int x2] M1 (fun r2 M2 => (if r2 = 0 then post (-1 : Int32) M2 else CI G d mX8_in [.int x3, .int (0 : Int32), .int (2 : Int32)] M2 (fun r3 M3 => (if r3 = 0 then post (-1 : Int32) M3 else CV G d mX8_looksFor [.ref 117, .int x1] M3 (fun M4 => CV G d mX8_opens [.ref 117] M4 (fun M5 => (vp_in ((10 : Int32) + x2) 916 ∧ CI G d mX8_isForIt [.ref 117, .int x1, .int (M5 118 (((10 : Int32) + x2).toNatClampNeg))] M5 (fun r6 M6 => (if x3 = 0 then (if r6 = 0 then post (0 : Int32) M6 else post (1 : Int32) M6) else (if x3 = (1 : Int32) then post (M6 117 19) M6 else post (M6 117 20) M6))))))))))))) : kX8_decides_0 G d  x1 x2 x3 M post := by
  unfold kX8_decides_0
  refine J_aload_0 dX8_decides_0 ?_
  refine J_iload_1 dX8_decides_1 ?_
  refine K_callVI (As := [.int x1]) (rest := []) dX8_decides_2 vl_X8_137 jlt_117 jsh_117 _ rfl rfl h rfl rfl (Nat.le_of_ble_eq_true rfl) (fun r1 M1 h => ?_)
  refine J_if_eq (t := 25) dX8_decides_5 (by decide) (fun c0 => ?_) (fun c0 => ?_)
  · replace h := ite_t c0 h
    refine J_iconst (-1 : Int32) dX8_decides_25 (by decide) ?_
    exact K_iret dX8_decides_26 rfl h
  · replace h := ite_f c0 h
    refine J_aload_0 dX8_decides_8 ?_
    refine J_iload_2 dX8_decides_9 ?_
    refine K_callVI (As := [.int x2]) (rest := []) dX8_decides_10 vl_X8_133 jlt_117 jsh_117 _ rfl rfl h rfl rfl (Nat.le_of_ble_eq_true rfl) (fun r2 M2 h => ?_)
    refine J_if_eq (t := 25) dX8_decides_13 (by decide) (fun c1 => ?_) (fun c1 => ?_)
    · replace h := ite_t c1 h
      refine J_iconst (-1 : Int32) dX8_decides_25 (by decide) ?_
      exact K_iret dX8_decides_26 rfl h
    · replace h := ite_f c1 h
      refine J_iload_3 dX8_decides_16 ?_
      refine J_iconst (0 : Int32) dX8_decides_17 (by decide) ?_
      refine J_iconst (2 : Int32) dX8_decides_18 (by decide) ?_
      refine K_callSI (rest := []) dX8_decides_19 sl_X8_53 h rfl rfl (Nat.le_of_ble_eq_true rfl) (fun r3 M3 h => ?_)
      refine J_if_ne (t := 27) dX8_decides_22 (by decide) (fun c2 => ?_) (fun c2 => ?_)
      · replace h := ite_f c2 h
        refine J_aload_0 dX8_decides_27 ?_
        refine J_iload_1 dX8_decides_28 ?_
        refine K_callVV (As := [.int x1]) (rest := []) dX8_decides_29 vl_X8_154 jlt_117 jsh_117 _ rfl rfl h rfl rfl (Nat.le_of_ble_eq_true rfl) (fun M4 h => ?_)
        refine J_aload_0 dX8_decides_32 ?_
        refine K_callVV (As := []) (rest := []) dX8_decides_33 vl_X8_194 jlt_117 jsh_117 _ rfl rfl h rfl rfl (Nat.le_of_ble_eq_true rfl) (fun M5 h => ?_)
        refine J_aload_0 dX8_decides_36 ?_
        refine J_iload_1 dX8_decides_37 ?_
        refine J_aload_0 dX8_decides_38 ?_
        refine J_getR 118 dX8_decides_39 fl_X8_9 jlt_117 jsh_117 (by decide) jrf_8_1 jmr_117_1 ?_
        refine J_bipush (10 : Int32) dX8_decides_42 (by decide) ?_
        refine J_iload_2 dX8_decides_44 ?_
        refine J_iadd dX8_decides_45 ?_
        obtain ⟨g3, h⟩ := h
        refine K_iald (((10 : Int32) + x2).toNatClampNeg) rfl dX8_decides_46 jlt_118 jsh_118 g3 ?_
        refine K_callVI (As := [.int x1, .int (M5 118 (((10 : Int32) + x2).toNatClampNeg))]) (rest := []) dX8_decides_47 vl_X8_191 jlt_117 jsh_117 _ rfl rfl h rfl rfl (Nat.le_of_ble_eq_true rfl) (fun r6 M6 h => ?_)
        refine J_istore_4 dX8_decides_50 rfl ?_
        refine J_iload_3 dX8_decides_52 ?_
        refine J_if_ne (t := 69) dX8_decides_53 (by decide) (fun c4 => ?_) (fun c4 => ?_)
        · replace h := ite_f c4 h
          refine J_iload_3 dX8_decides_69 ?_
          refine J_iconst (1 : Int32) dX8_decides_70 (by decide) ?_
          refine J_icmp_ne (t := 81) dX8_decides_71 (by decide) (fun c5 => ?_) (fun c5 => ?_)
          · replace h := ite_f c5 h
            refine J_aload_0 dX8_decides_81 ?_
            refine J_getI dX8_decides_82 fl_X8_172 jlt_117 jsh_117 (by decide) jrf_8_20 ?_
            exact K_iret dX8_decides_85 rfl h
          · replace h := ite_t c5 h
            refine J_aload_0 dX8_decides_74 ?_
            refine J_getI dX8_decides_75 fl_X8_182 jlt_117 jsh_117 (by decide) jrf_8_19 ?_
            refine J_goto (t := 85) dX8_decides_78 (by decide) ?_
            exact K_iret dX8_decides_85 rfl h
        · replace h := ite_t c4 h
          refine J_iload_4 dX8_decides_56 ?_
          refine J_if_eq (t := 65) dX8_decides_58 (by decide) (fun c5 => ?_) (fun c5 => ?_)
          · replace h := ite_t c5 h
            refine J_iconst (0 : Int32) dX8_decides_65 (by decide) ?_
            refine J_goto (t := 85) dX8_decides_66 (by decide) ?_
            exact K_iret dX8_decides_85 rfl h
          · replace h := ite_f c5 h
            refine J_iconst (1 : Int32) dX8_decides_61 (by decide) ?_
            refine J_goto (t := 85) dX8_decides_62 (by decide) ?_
            exact K_iret dX8_decides_85 rfl h
      · replace h := ite_t c2 h
        refine J_iconst (-1 : Int32) dX8_decides_25 (by decide) ?_
        exact K_iret dX8_decides_26 rfl h
theorem eX8_decides {G : jGT} {d : Nat} {x1 : Int32} {x2 : Int32} {x3 : Int32} {M : jM} {post : Int32 → jM → Prop} (h : kX8_decides_0 G d  x1 x2 x3 M post) : CI G (d + 1) mX8_decides [.ref 117, .int x1, .int x2, .int x3] M post := Con_of_J ok_X8_decides 1 rfl rfl h
def kX8_enters_0 (G : jGT) (d : Nat)  (x1 : Int32) (x2 : Int32) (M : jM) (post : Int32 → jM → Prop) : Prop := J G d mX8_enters 0 [some (.ref 117), some (.int x1), some (.int x2)] [] jN jSH M jMR 0 0 0 0 (jQi post)
theorem bX8_enters_0 {G : jGT} {d : Nat} {x1 : Int32} {x2 : Int32} {M : jM} {post : Int32 → jM → Prop} (h : (vp_in ((50 : Int32) + (M 118 3)) 916 ∧ (if x2 = 0 then (vp_in ((74 : Int32) + ((jup M 118 (((50 : Int32) + (M 118 3)).toNatClampNeg) x1) 118 3)) 916 ∧ post (((jup (jup M 118 (((50 : Int32) + (M 118 3)).toNatClampNeg) x1) 118 (((74 : Int32) + ((jup M 118 (((50 : Int32) + (M 118 3)).toNatClampNeg) x1) 118 3)).toNatClampNeg) (0 : Int32)) 118 3) + (1 : Int32)) (jup (jup (jup M 118 (((50 : Int32) + (M 118 3)).toNatClampNeg) x1) 118 (((74 : Int32) + ((jup M 118 (((50 : Int32) + (M 118 3)).toNatClampNeg) x1) 118 3)).toNatClampNeg) (0 : Int32)) 118 3 (((jup (jup M 118 (((50 : Int32) + (M 118 3)).toNatClampNeg) x1) 118 (((74 : Int32) + ((jup M 118 (((50 : Int32) + (M 118 3)).toNatClampNeg) x1) 118 3)).toNatClampNeg) (0 : Int32)) 118 3) + (1 : Int32)))) else (vp_in ((74 : Int32) + ((jup M 118 (((50 : Int32) + (M 118 3)).toNatClampNeg) x1) 118 3)) 916 ∧ post (((jup (jup M 118 (((50 : Int32) + (M 118 3)).toNatClampNeg) x1) 118 (((74 : Int32) + ((jup M 118 (((50 : Int32) + (M 118 3)).toNatClampNeg) x1) 118 3)).toNatClampNeg) (1 : Int32)) 118 3) + (1 : Int32)) (jup (jup (jup M 118 (((50 : Int32) + (M 118 3)).toNatClampNeg) x1) 118 (((74 : Int32) + ((jup M 118 (((50 : Int32) + (M 118 3)).toNatClampNeg) x1) 118 3)).toNatClampNeg) (1 : Int32)) 118 3 (((jup (jup M 118 (((50 : Int32) + (M 118 3)).toNatClampNeg) x1) 118 (((74 : Int32) + ((jup M 118 (((50 : Int32) + (M 118 3)).toNatClampNeg) x1) 118 3)).toNatClampNeg) (1 : Int32)) 118 3) + (1 : Int32))))))) : kX8_enters_0 G d  x1 x2 M post := by
  unfold kX8_enters_0
  refine J_aload_0 dX8_enters_0 ?_
  refine J_getR 118 dX8_enters_1 fl_X8_9 jlt_117 jsh_117 (by decide) jrf_8_1 jmr_117_1 ?_
  refine J_bipush (50 : Int32) dX8_enters_4 (by decide) ?_
  refine J_aload_0 dX8_enters_6 ?_
  refine J_getR 118 dX8_enters_7 fl_X8_9 jlt_117 jsh_117 (by decide) jrf_8_1 jmr_117_1 ?_
  refine J_iconst (3 : Int32) dX8_enters_10 (by decide) ?_
  refine K_iald 3 rfl dX8_enters_11 jlt_118 jsh_118 (vp_lit (by decide)) ?_
  refine J_iadd dX8_enters_12 ?_
  refine J_iload_1 dX8_enters_13 ?_
  obtain ⟨g0, h⟩ := h
  refine K_iast (((50 : Int32) + (M 118 3)).toNatClampNeg) rfl dX8_enters_14 jlt_118 jsh_118 g0 ?_
  refine J_aload_0 dX8_enters_15 ?_
  refine J_getR 118 dX8_enters_16 fl_X8_9 jlt_117 jsh_117 (by decide) jrf_8_1 jmr_117_1 ?_
  refine J_bipush (74 : Int32) dX8_enters_19 (by decide) ?_
  refine J_aload_0 dX8_enters_21 ?_
  refine J_getR 118 dX8_enters_22 fl_X8_9 jlt_117 jsh_117 (by decide) jrf_8_1 jmr_117_1 ?_
  refine J_iconst (3 : Int32) dX8_enters_25 (by decide) ?_
  refine K_iald 3 rfl dX8_enters_26 jlt_118 jsh_118 (vp_lit (by decide)) ?_
  refine J_iadd dX8_enters_27 ?_
  refine J_iload_2 dX8_enters_28 ?_
  refine J_if_eq (t := 36) dX8_enters_29 (by decide) (fun c1 => ?_) (fun c1 => ?_)
  · replace h := ite_t c1 h
    refine J_iconst (0 : Int32) dX8_enters_36 (by decide) ?_
    obtain ⟨g2, h⟩ := h
    refine K_iast (((74 : Int32) + ((jup M 118 (((50 : Int32) + (M 118 3)).toNatClampNeg) x1) 118 3)).toNatClampNeg) rfl dX8_enters_37 jlt_118 jsh_118 g2 ?_
    refine J_aload_0 dX8_enters_38 ?_
    refine J_getR 118 dX8_enters_39 fl_X8_9 jlt_117 jsh_117 (by decide) jrf_8_1 jmr_117_1 ?_
    refine J_iconst (3 : Int32) dX8_enters_42 (by decide) ?_
    refine J_dup2 dX8_enters_43 rfl rfl ?_
    refine K_iald 3 rfl dX8_enters_44 jlt_118 jsh_118 (vp_lit (by decide)) ?_
    refine J_iconst (1 : Int32) dX8_enters_45 (by decide) ?_
    refine J_iadd dX8_enters_46 ?_
    refine K_iast 3 rfl dX8_enters_47 jlt_118 jsh_118 (vp_lit (by decide)) ?_
    refine J_aload_0 dX8_enters_48 ?_
    refine J_getR 118 dX8_enters_49 fl_X8_9 jlt_117 jsh_117 (by decide) jrf_8_1 jmr_117_1 ?_
    refine J_iconst (3 : Int32) dX8_enters_52 (by decide) ?_
    refine K_iald 3 rfl dX8_enters_53 jlt_118 jsh_118 (vp_lit (by decide)) ?_
    exact K_iret dX8_enters_54 rfl h
  · replace h := ite_f c1 h
    refine J_iconst (1 : Int32) dX8_enters_32 (by decide) ?_
    refine J_goto (t := 37) dX8_enters_33 (by decide) ?_
    obtain ⟨g2, h⟩ := h
    refine K_iast (((74 : Int32) + ((jup M 118 (((50 : Int32) + (M 118 3)).toNatClampNeg) x1) 118 3)).toNatClampNeg) rfl dX8_enters_37 jlt_118 jsh_118 g2 ?_
    refine J_aload_0 dX8_enters_38 ?_
    refine J_getR 118 dX8_enters_39 fl_X8_9 jlt_117 jsh_117 (by decide) jrf_8_1 jmr_117_1 ?_
    refine J_iconst (3 : Int32) dX8_enters_42 (by decide) ?_
    refine J_dup2 dX8_enters_43 rfl rfl ?_
    refine K_iald 3 rfl dX8_enters_44 jlt_118 jsh_118 (vp_lit (by decide)) ?_
    refine J_iconst (1 : Int32) dX8_enters_45 (by decide) ?_
    refine J_iadd dX8_enters_46 ?_
    refine K_iast 3 rfl dX8_enters_47 jlt_118 jsh_118 (vp_lit (by decide)) ?_
    refine J_aload_0 dX8_enters_48 ?_
    refine J_getR 118 dX8_enters_49 fl_X8_9 jlt_117 jsh_117 (by decide) jrf_8_1 jmr_117_1 ?_
    refine J_iconst (3 : Int32) dX8_enters_52 (by decide) ?_
    refine K_iald 3 rfl dX8_enters_53 jlt_118 jsh_118 (vp_lit (by decide)) ?_
    exact K_iret dX8_enters_54 rfl h
theorem eX8_enters {G : jGT} {d : Nat} {x1 : Int32} {x2 : Int32} {M : jM} {post : Int32 → jM → Prop} (h : kX8_enters_0 G d  x1 x2 M post) : CI G d mX8_enters [.ref 117, .int x1, .int x2] M post := Con_of_J ok_X8_enters 0 rfl rfl h
def kX8_hear_0 (G : jGT) (d : Nat)  (x1 : Int32) (x2 : Int32) (M : jM) (post : Int32 → jM → Prop) : Prop := J G (d + 1) mX8_hear 0 [some (.ref 117), some (.int x1), some (.int x2), none] [] jN jSH M jMR 0 0 0 0 (jQi post)
theorem bX8_hear_0 {G : jGT} {d : Nat} {x1 : Int32} {x2 : Int32} {M : jM} {post : Int32 → jM → Prop} (h : CI G d mX8_isJudge [.ref 117, .int x1] M (fun r1 M1 => (if r1 = 0 then post (-1 : Int32) M1 else CI G d mX8_isSuit [.ref 117, .int x2] M1 (fun r2 M2 => (if r2 = 0 then post (-1 : Int32) M2 else (if (M2 118 3) = (24 : Int32) then post (-4 : Int32) M2 else CV G d mX8_looksFor [.ref 117, .int x1] M2 (fun M3 => CV G d mX8_opens [.ref 117] M3 (fun M4 => (vp_in ((10 : Int32) + x2) 916 ∧ CI G d mX8_isForIt [.ref 117, .int x1, .int (M4 118 (((10 : Int32) + x2).toNatClampNeg))] M4 (fun r5 M5 => CI G d mX8_enters [.ref 117, .int x2, .int r5] M5 (fun r6 M6 => (if r5 = 0 then post (0 : Int32) M6 else post (1 : Int32) M6)))))))))))) : kX8_hear_0 G d  x1 x2 M post := by
  unfold kX8_hear_0
  refine J_aload_0 dX8_hear_0 ?_
  refine J_iload_1 dX8_hear_1 ?_
  refine K_callVI (As := [.int x1]) (rest := []) dX8_hear_2 vl_X8_137 jlt_117 jsh_117 _ rfl rfl h rfl rfl (Nat.le_of_ble_eq_true rfl) (fun r1 M1 h => ?_)
  refine J_if_eq (t := 16) dX8_hear_5 (by decide) (fun c0 => ?_) (fun c0 => ?_)
  · replace h := ite_t c0 h
    refine J_iconst (-1 : Int32) dX8_hear_16 (by decide) ?_
    exact K_iret dX8_hear_17 rfl h
  · replace h := ite_f c0 h
    refine J_aload_0 dX8_hear_8 ?_
    refine J_iload_2 dX8_hear_9 ?_
    refine K_callVI (As := [.int x2]) (rest := []) dX8_hear_10 vl_X8_133 jlt_117 jsh_117 _ rfl rfl h rfl rfl (Nat.le_of_ble_eq_true rfl) (fun r2 M2 h => ?_)
    refine J_if_ne (t := 18) dX8_hear_13 (by decide) (fun c1 => ?_) (fun c1 => ?_)
    · replace h := ite_f c1 h
      refine J_aload_0 dX8_hear_18 ?_
      refine J_getR 118 dX8_hear_19 fl_X8_9 jlt_117 jsh_117 (by decide) jrf_8_1 jmr_117_1 ?_
      refine J_iconst (3 : Int32) dX8_hear_22 (by decide) ?_
      refine K_iald 3 rfl dX8_hear_23 jlt_118 jsh_118 (vp_lit (by decide)) ?_
      refine J_bipush (24 : Int32) dX8_hear_24 (by decide) ?_
      refine J_icmp_ne (t := 32) dX8_hear_26 (by decide) (fun c2 => ?_) (fun c2 => ?_)
      · replace h := ite_f c2 h
        refine J_aload_0 dX8_hear_32 ?_
        refine J_iload_1 dX8_hear_33 ?_
        refine K_callVV (As := [.int x1]) (rest := []) dX8_hear_34 vl_X8_154 jlt_117 jsh_117 _ rfl rfl h rfl rfl (Nat.le_of_ble_eq_true rfl) (fun M3 h => ?_)
        refine J_aload_0 dX8_hear_37 ?_
        refine K_callVV (As := []) (rest := []) dX8_hear_38 vl_X8_194 jlt_117 jsh_117 _ rfl rfl h rfl rfl (Nat.le_of_ble_eq_true rfl) (fun M4 h => ?_)
        refine J_aload_0 dX8_hear_41 ?_
        refine J_iload_1 dX8_hear_42 ?_
        refine J_aload_0 dX8_hear_43 ?_
        refine J_getR 118 dX8_hear_44 fl_X8_9 jlt_117 jsh_117 (by decide) jrf_8_1 jmr_117_1 ?_
        refine J_bipush (10 : Int32) dX8_hear_47 (by decide) ?_
        refine J_iload_2 dX8_hear_49 ?_
        refine J_iadd dX8_hear_50 ?_
        obtain ⟨g3, h⟩ := h
        refine K_iald (((10 : Int32) + x2).toNatClampNeg) rfl dX8_hear_51 jlt_118 jsh_118 g3 ?_
        refine K_callVI (As := [.int x1, .int (M4 118 (((10 : Int32) + x2).toNatClampNeg))]) (rest := []) dX8_hear_52 vl_X8_191 jlt_117 jsh_117 _ rfl rfl h rfl rfl (Nat.le_of_ble_eq_true rfl) (fun r5 M5 h => ?_)
        refine J_istore_3 dX8_hear_55 rfl ?_
        refine J_aload_0 dX8_hear_56 ?_
        refine J_iload_2 dX8_hear_57 ?_
        refine J_iload_3 dX8_hear_58 ?_
        refine K_callVI (As := [.int x2, .int r5]) (rest := []) dX8_hear_59 vl_X8_197 jlt_117 jsh_117 _ rfl rfl h rfl rfl (Nat.le_of_ble_eq_true rfl) (fun r6 M6 h => ?_)
        refine J_pop dX8_hear_62 rfl ?_
        refine J_iload_3 dX8_hear_63 ?_
        refine J_if_eq (t := 71) dX8_hear_64 (by decide) (fun c4 => ?_) (fun c4 => ?_)
        · replace h := ite_t c4 h
          refine J_iconst (0 : Int32) dX8_hear_71 (by decide) ?_
          exact K_iret dX8_hear_72 rfl h
        · replace h := ite_f c4 h
          refine J_iconst (1 : Int32) dX8_hear_67 (by decide) ?_
          refine J_goto (t := 72) dX8_hear_68 (by decide) ?_
          exact K_iret dX8_hear_72 rfl h
      · replace h := ite_t c2 h
        refine J_bipush (-4 : Int32) dX8_hear_29 (by decide) ?_
        exact K_iret dX8_hear_31 rfl h
    · replace h := ite_t c1 h
      refine J_iconst (-1 : Int32) dX8_hear_16 (by decide) ?_
      exact K_iret dX8_hear_17 rfl h
theorem eX8_hear {G : jGT} {d : Nat} {x1 : Int32} {x2 : Int32} {M : jM} {post : Int32 → jM → Prop} (h : kX8_hear_0 G d  x1 x2 M post) : CI G (d + 1) mX8_hear [.ref 117, .int x1, .int x2] M post := Con_of_J ok_X8_hear 1 rfl rfl h
