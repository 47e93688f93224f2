def kX8_in_0 (G : jGT) (d : Nat)  (x0 : Int32) (x1 : Int32) (x2 : Int32) (M : jM) (post : Int32 → jM → Prop) : Prop := J G d mX8_in 0 [some (.int x0), some (.int x1), some (.int x2)] [] jN jSH M jMR 0 0 0 0 (jQi post)
theorem bX8_in_0 {G : jGT} {d : Nat} {x0 : Int32} {x1 : Int32} {x2 : Int32} {M : jM} {post : Int32 → jM → Prop} (h : (if x0 < x1 then post (0 : Int32) M else (if x2 < x0 then post (0 : Int32) M else post (1 : Int32) M))) : kX8_in_0 G d  x0 x1 x2 M post := by
  unfold kX8_in_0
  refine J_iload_0 dX8_in_0 ?_
  refine J_iload_1 dX8_in_1 ?_
  refine J_icmp_lt (t := 14) dX8_in_2 (by decide) (fun c0 => ?_) (fun c0 => ?_)
  · replace h := ite_t c0 h
    refine J_iconst (0 : Int32) dX8_in_14 (by decide) ?_
    exact K_zret dX8_in_15 rfl (by decide +kernel) h
  · replace h := ite_f c0 h
    refine J_iload_0 dX8_in_5 ?_
    refine J_iload_2 dX8_in_6 ?_
    refine J_icmp_gt (t := 14) dX8_in_7 (by decide) (fun c1 => ?_) (fun c1 => ?_)
    · replace h := ite_t c1 h
      refine J_iconst (0 : Int32) dX8_in_14 (by decide) ?_
      exact K_zret dX8_in_15 rfl (by decide +kernel) h
    · replace h := ite_f c1 h
      refine J_iconst (1 : Int32) dX8_in_10 (by decide) ?_
      refine J_goto (t := 15) dX8_in_11 (by decide) ?_
      exact K_zret dX8_in_15 rfl (by decide +kernel) h
theorem eX8_in {G : jGT} {d : Nat} {x0 : Int32} {x1 : Int32} {x2 : Int32} {M : jM} {post : Int32 → jM → Prop} (h : kX8_in_0 G d  x0 x1 x2 M post) : CI G d mX8_in [.int x0, .int x1, .int x2] M post := Con_of_J ok_X8_in 0 rfl rfl h
def kX8_isSuit_0 (G : jGT) (d : Nat)  (x1 : Int32) (M : jM) (post : Int32 → jM → Prop) : Prop := J G (d + 1) mX8_isSuit 0 [some (.ref 117), some (.int x1)] [] jN jSH M jMR 0 0 0 0 (jQi post)
theorem bX8_isSuit_0 {G : jGT} {d : Nat} {x1 : Int32} {M : jM} {post : Int32 → jM → Prop} (h : CI G d mX8_in [.int x1, .int (0 : Int32), .int ((M 118 0) - (1 : Int32))] M (fun r1 M1 => ((r1 = 0 ∨ r1 = 1) ∧ post r1 M1))) : kX8_isSuit_0 G d  x1 M post := by
  unfold kX8_isSuit_0
  refine J_iload_1 dX8_isSuit_0 ?_
  refine J_iconst (0 : Int32) dX8_isSuit_1 (by decide) ?_
  refine J_aload_0 dX8_isSuit_2 ?_
  refine J_getR 118 dX8_isSuit_3 fl_X8_9 jlt_117 jsh_117 (by decide) jrf_8_1 jmr_117_1 ?_
  refine J_iconst (0 : Int32) dX8_isSuit_6 (by decide) ?_
  refine K_iald 0 rfl dX8_isSuit_7 jlt_118 jsh_118 (vp_lit (by decide)) ?_
  refine J_iconst (1 : Int32) dX8_isSuit_8 (by decide) ?_
  refine J_isub dX8_isSuit_9 ?_
  refine K_callSI (rest := []) dX8_isSuit_10 sl_X8_53 h rfl rfl (Nat.le_of_ble_eq_true rfl) (fun r1 M1 h => ?_)
  exact K_zret dX8_isSuit_13 rfl (nz h.1) h.2
theorem eX8_isSuit {G : jGT} {d : Nat} {x1 : Int32} {M : jM} {post : Int32 → jM → Prop} (h : kX8_isSuit_0 G d  x1 M post) : CI G (d + 1) mX8_isSuit [.ref 117, .int x1] M post := Con_of_J ok_X8_isSuit 0 rfl rfl h
def kX8_isJudge_0 (G : jGT) (d : Nat)  (x1 : Int32) (M : jM) (post : Int32 → jM → Prop) : Prop := J G (d + 1) mX8_isJudge 0 [some (.ref 117), some (.int x1)] [] jN jSH M jMR 0 0 0 0 (jQi post)
theorem bX8_isJudge_0 {G : jGT} {d : Nat} {x1 : Int32} {M : jM} {post : Int32 → jM → Prop} (h : CI G d mX8_in [.int x1, .int (0 : Int32), .int ((M 118 1) - (1 : Int32))] M (fun r1 M1 => ((r1 = 0 ∨ r1 = 1) ∧ post r1 M1))) : kX8_isJudge_0 G d  x1 M post := by
  unfold kX8_isJudge_0
  refine J_iload_1 dX8_isJudge_0 ?_
  refine J_iconst (0 : Int32) dX8_isJudge_1 (by decide) ?_
  refine J_aload_0 dX8_isJudge_2 ?_
  refine J_getR 118 dX8_isJudge_3 fl_X8_9 jlt_117 jsh_117 (by decide) jrf_8_1 jmr_117_1 ?_
  refine J_iconst (1 : Int32) dX8_isJudge_6 (by decide) ?_
  refine K_iald 1 rfl dX8_isJudge_7 jlt_118 jsh_118 (vp_lit (by decide)) ?_
  refine J_iconst (1 : Int32) dX8_isJudge_8 (by decide) ?_
  refine J_isub dX8_isJudge_9 ?_
  refine K_callSI (rest := []) dX8_isJudge_10 sl_X8_53 h rfl rfl (Nat.le_of_ble_eq_true rfl) (fun r1 M1 h => ?_)
  exact K_zret dX8_isJudge_13 rfl (nz h.1) h.2
theorem eX8_isJudge {G : jGT} {d : Nat} {x1 : Int32} {M : jM} {post : Int32 → jM → Prop} (h : kX8_isJudge_0 G d  x1 M post) : CI G (d + 1) mX8_isJudge [.ref 117, .int x1] M post := Con_of_J ok_X8_isJudge 0 rfl rfl h
def kX8_count1_0 (G : jGT) (d : Nat)  (x0 : Int32) (M : jM) (post : Int32 → jM → Prop) : Prop := J G d mX8_count1 0 [some (.int x0), none, none] [] jN jSH M jMR 0 0 0 0 (jQi post)
def kX8_count1_4 (G : jGT) (d : Nat)  (x0 : Int32) (x1 : Int32) (x2 : Int32) (M : jM) (post : Int32 → jM → Prop) : Prop := J G d mX8_count1 4 [some (.int x0), some (.int x1), some (.int x2)] [] jN jSH M jMR 0 0 0 0 (jQi post)
theorem bX8_count1_0 {G : jGT} {d : Nat} {x0 : Int32} {M : jM} {post : Int32 → jM → Prop} (h : kX8_count1_4 G d x0 (0 : Int32) (0 : Int32) M post) : kX8_count1_0 G d  x0 M post := by
  unfold kX8_count1_0
  refine J_iconst (0 : Int32) dX8_count1_0 (by decide) ?_
  refine J_istore_1 dX8_count1_1 rfl ?_
  refine J_iconst (0 : Int32) dX8_count1_2 (by decide) ?_
  refine J_istore_2 dX8_count1_3 rfl ?_
  exact h
theorem bX8_count1_4 {G : jGT} {d : Nat} {x0 : Int32} {x1 : Int32} {x2 : Int32} {M : jM} {post : Int32 → jM → Prop} (h : (if (8 : Int32) ≤ x2 then post x1 M else kX8_count1_4 G d x0 (x1 + ((x0 >>> (x2 &&& 31)) &&& (1 : Int32))) (x2 + (1 : Int32)) M post)) : kX8_count1_4 G d  x0 x1 x2 M post := by
  unfold kX8_count1_4
  refine J_iload_2 dX8_count1_4 ?_
  refine J_bipush (8 : Int32) dX8_count1_5 (by decide) ?_
  refine J_icmp_ge (t := 24) dX8_count1_7 (by decide) (fun c0 => ?_) (fun c0 => ?_)
  · replace h := ite_t c0 h
    refine J_iload_1 dX8_count1_24 ?_
    exact K_iret dX8_count1_25 rfl h
  · replace h := ite_f c0 h
    refine J_iload_1 dX8_count1_10 ?_
    refine J_iload_0 dX8_count1_11 ?_
    refine J_iload_2 dX8_count1_12 ?_
    refine J_ishr dX8_count1_13 ?_
    refine J_iconst (1 : Int32) dX8_count1_14 (by decide) ?_
    refine J_iand dX8_count1_15 ?_
    refine J_iadd dX8_count1_16 ?_
    refine J_istore_1 dX8_count1_17 rfl ?_
    refine J_iinc_2 (1 : Int32) dX8_count1_18 (by decide) rfl ?_
    refine J_goto (t := 4) dX8_count1_21 (by decide) ?_
    exact h
theorem eX8_count1 {G : jGT} {d : Nat} {x0 : Int32} {M : jM} {post : Int32 → jM → Prop} (h : kX8_count1_0 G d  x0 M post) : CI G d mX8_count1 [.int x0] M post := Con_of_J ok_X8_count1 2 rfl rfl h
def kX8_feed_0 (G : jGT) (d : Nat)  (x1 : Int32) (M : jM) (post : Int32 → jM → Prop) : Prop := J G (d + 1) mX8_feed 0 [some (.ref 117), some (.int x1)] [] jN jSH M jMR 0 0 0 0 (jQi post)
theorem bX8_feed_0 {G : jGT} {d : Nat} {x1 : Int32} {M : jM} {post : Int32 → jM → Prop} (h : CI G d mX8_in [.int x1, .int (0 : Int32), .int (127 : Int32)] M (fun r1 M1 => (if r1 = 0 then post (-2 : Int32) M1 else (if (M1 118 5) = (100 : Int32) then post (-4 : Int32) M1 else (vp_in ((106 : Int32) + (M1 118 5)) 916 ∧ post (((jup M1 118 (((106 : Int32) + (M1 118 5)).toNatClampNeg) x1) 118 5) + (1 : Int32)) (jup (jup M1 118 (((106 : Int32) + (M1 118 5)).toNatClampNeg) x1) 118 5 (((jup M1 118 (((106 : Int32) + (M1 118 5)).toNatClampNeg) x1) 118 5) + (1 : Int32)))))))) : kX8_feed_0 G d  x1 M post := by
  unfold kX8_feed_0
  refine J_iload_1 dX8_feed_0 ?_
  refine J_iconst (0 : Int32) dX8_feed_1 (by decide) ?_
  refine J_bipush (127 : Int32) dX8_feed_2 (by decide) ?_
  refine K_callSI (rest := []) dX8_feed_4 sl_X8_53 h rfl rfl (Nat.le_of_ble_eq_true rfl) (fun r1 M1 h => ?_)
  refine J_if_ne (t := 13) dX8_feed_7 (by decide) (fun c0 => ?_) (fun c0 => ?_)
  · replace h := ite_f c0 h
    refine J_aload_0 dX8_feed_13 ?_
    refine J_getR 118 dX8_feed_14 fl_X8_9 jlt_117 jsh_117 (by decide) jrf_8_1 jmr_117_1 ?_
    refine J_iconst (5 : Int32) dX8_feed_17 (by decide) ?_
    refine K_iald 5 rfl dX8_feed_18 jlt_118 jsh_118 (vp_lit (by decide)) ?_
    refine J_bipush (100 : Int32) dX8_feed_19 (by decide) ?_
    refine J_icmp_ne (t := 27) dX8_feed_21 (by decide) (fun c1 => ?_) (fun c1 => ?_)
    · replace h := ite_f c1 h
      refine J_aload_0 dX8_feed_27 ?_
      refine J_getR 118 dX8_feed_28 fl_X8_9 jlt_117 jsh_117 (by decide) jrf_8_1 jmr_117_1 ?_
      refine J_bipush (106 : Int32) dX8_feed_31 (by decide) ?_
      refine J_aload_0 dX8_feed_33 ?_
      refine J_getR 118 dX8_feed_34 fl_X8_9 jlt_117 jsh_117 (by decide) jrf_8_1 jmr_117_1 ?_
      refine J_iconst (5 : Int32) dX8_feed_37 (by decide) ?_
      refine K_iald 5 rfl dX8_feed_38 jlt_118 jsh_118 (vp_lit (by decide)) ?_
      refine J_iadd dX8_feed_39 ?_
      refine J_iload_1 dX8_feed_40 ?_
      obtain ⟨g2, h⟩ := h
      refine K_iast (((106 : Int32) + (M1 118 5)).toNatClampNeg) rfl dX8_feed_41 jlt_118 jsh_118 g2 ?_
      refine J_aload_0 dX8_feed_42 ?_
      refine J_getR 118 dX8_feed_43 fl_X8_9 jlt_117 jsh_117 (by decide) jrf_8_1 jmr_117_1 ?_
      refine J_iconst (5 : Int32) dX8_feed_46 (by decide) ?_
      refine J_dup2 dX8_feed_47 rfl rfl ?_
      refine K_iald 5 rfl dX8_feed_48 jlt_118 jsh_118 (vp_lit (by decide)) ?_
      refine J_iconst (1 : Int32) dX8_feed_49 (by decide) ?_
      refine J_iadd dX8_feed_50 ?_
      refine K_iast 5 rfl dX8_feed_51 jlt_118 jsh_118 (vp_lit (by decide)) ?_
      refine J_aload_0 dX8_feed_52 ?_
      refine J_getR 118 dX8_feed_53 fl_X8_9 jlt_117 jsh_117 (by decide) jrf_8_1 jmr_117_1 ?_
      refine J_iconst (5 : Int32) dX8_feed_56 (by decide) ?_
      refine K_iald 5 rfl dX8_feed_57 jlt_118 jsh_118 (vp_lit (by decide)) ?_
      exact K_iret dX8_feed_58 rfl h
    · replace h := ite_t c1 h
      refine J_bipush (-4 : Int32) dX8_feed_24 (by decide) ?_
      exact K_iret dX8_feed_26 rfl h
  · replace h := ite_t c0 h
    refine J_bipush (-2 : Int32) dX8_feed_10 (by decide) ?_
    exact K_iret dX8_feed_12 rfl h
theorem eX8_feed {G : jGT} {d : Nat} {x1 : Int32} {M : jM} {post : Int32 → jM → Prop} (h : kX8_feed_0 G d  x1 M post) : CI G (d + 1) mX8_feed [.ref 117, .int x1] M post := Con_of_J ok_X8_feed 0 rfl rfl h
def kX8_here_0 (G : jGT) (d : Nat)   (M : jM) (post : Int32 → jM → Prop) : Prop := J G d mX8_here 0 [some (.ref 117)] [] jN jSH M jMR 0 0 0 0 (jQi post)
theorem bX8_here_0 {G : jGT} {d : Nat}  {M : jM} {post : Int32 → jM → Prop} (h : (if (M 117 6) ≤ (M 117 5) then post (-1 : Int32) M else (vp_in ((106 : Int32) + (M 117 5)) 916 ∧ post (M 118 (((106 : Int32) + (M 117 5)).toNatClampNeg)) M))) : kX8_here_0 G d   M post := by
  unfold kX8_here_0
  refine J_aload_0 dX8_here_0 ?_
  refine J_getI dX8_here_1 fl_X8_57 jlt_117 jsh_117 (by decide) jrf_8_5 ?_
  refine J_aload_0 dX8_here_4 ?_
  refine J_getI dX8_here_5 fl_X8_60 jlt_117 jsh_117 (by decide) jrf_8_6 ?_
  refine J_icmp_ge (t := 26) dX8_here_8 (by decide) (fun c0 => ?_) (fun c0 => ?_)
  · replace h := ite_t c0 h
    refine J_iconst (-1 : Int32) dX8_here_26 (by decide) ?_
    exact K_iret dX8_here_27 rfl h
  · replace h := ite_f c0 h
    refine J_aload_0 dX8_here_11 ?_
    refine J_getR 118 dX8_here_12 fl_X8_9 jlt_117 jsh_117 (by decide) jrf_8_1 jmr_117_1 ?_
    refine J_bipush (106 : Int32) dX8_here_15 (by decide) ?_
    refine J_aload_0 dX8_here_17 ?_
    refine J_getI dX8_here_18 fl_X8_57 jlt_117 jsh_117 (by decide) jrf_8_5 ?_
    refine J_iadd dX8_here_21 ?_
    obtain ⟨g1, h⟩ := h
    refine K_iald (((106 : Int32) + (M 117 5)).toNatClampNeg) rfl dX8_here_22 jlt_118 jsh_118 g1 ?_
    refine J_goto (t := 27) dX8_here_23 (by decide) ?_
    exact K_iret dX8_here_27 rfl h
theorem eX8_here {G : jGT} {d : Nat}  {M : jM} {post : Int32 → jM → Prop} (h : kX8_here_0 G d   M post) : CI G d mX8_here [.ref 117] M post := Con_of_J ok_X8_here 0 rfl rfl h
def kX8_must_0 (G : jGT) (d : Nat)  (x1 : Int32) (M : jM) (post : jM → Prop) : Prop := J G (d + 1) mX8_must 0 [some (.ref 117), some (.int x1)] [] jN jSH M jMR 0 0 0 0 (jQv post)
theorem bX8_must_0 {G : jGT} {d : Nat} {x1 : Int32} {M : jM} {post : jM → Prop} (h : (if (M 117 7) = 0 then CI G d mX8_here [.ref 117] M (fun r1 M1 => (if r1 = x1 then (if (0 : Int32) = 0 then post (jup (jup M1 117 7 (0 : Int32)) 117 5 ((M1 117 5) + (1 : Int32))) else post (jup (jup M1 117 7 (0 : Int32)) 117 5 ((M1 117 5) + (0 : Int32)))) else (if (1 : Int32) = 0 then post (jup (jup M1 117 7 (1 : Int32)) 117 5 ((M1 117 5) + (1 : Int32))) else post (jup (jup M1 117 7 (1 : Int32)) 117 5 ((M1 117 5) + (0 : Int32)))))) else (if (1 : Int32) = 0 then post (jup (jup M 117 7 (1 : Int32)) 117 5 ((M 117 5) + (1 : Int32))) else post (jup (jup M 117 7 (1 : Int32)) 117 5 ((M 117 5) + (0 : Int32)))))) : kX8_must_0 G d  x1 M post := by
  unfold kX8_must_0
  refine J_aload_0 dX8_must_0 ?_
  refine J_aload_0 dX8_must_1 ?_
  refine J_getI dX8_must_2 fl_X8_63 jlt_117 jsh_117 (by decide) jrf_8_7 ?_
  refine J_if_ne (t := 16) dX8_must_5 (by decide) (fun c0 => ?_) (fun c0 => ?_)
  · replace h := ite_f c0 h
    refine J_iconst (1 : Int32) dX8_must_16 (by decide) ?_
    refine J_goto (t := 21) dX8_must_17 (by decide) ?_
    refine J_putI true dX8_must_21 pl_X8_63 jlt_117 jsh_117 (by decide) jrf_8_7 (fun _ => by decide) ?_
    refine J_aload_0 dX8_must_24 ?_
    refine J_dup dX8_must_25 rfl ?_
    refine J_getI dX8_must_26 fl_X8_57 jlt_117 jsh_117 (by decide) jrf_8_5 ?_
    refine J_aload_0 dX8_must_29 ?_
    refine J_getI dX8_must_30 fl_X8_63 jlt_117 jsh_117 (by decide) jrf_8_7 ?_
    refine J_if_eq (t := 40) dX8_must_33 (by decide) (fun c1 => ?_) (fun c1 => ?_)
    · replace h := ite_t c1 h
      refine J_iconst (1 : Int32) dX8_must_40 (by decide) ?_
      refine J_iadd dX8_must_41 ?_
      refine J_putI false dX8_must_42 pl_X8_57 jlt_117 jsh_117 (by decide) jrf_8_5 (fun q => absurd q (by decide)) ?_
      exact K_ret dX8_must_45 rfl h
    · replace h := ite_f c1 h
      refine J_iconst (0 : Int32) dX8_must_36 (by decide) ?_
      refine J_goto (t := 41) dX8_must_37 (by decide) ?_
      refine J_iadd dX8_must_41 ?_
      refine J_putI false dX8_must_42 pl_X8_57 jlt_117 jsh_117 (by decide) jrf_8_5 (fun q => absurd q (by decide)) ?_
      exact K_ret dX8_must_45 rfl h
  · replace h := ite_t c0 h
    refine J_aload_0 dX8_must_8 ?_
    refine K_callVI (As := []) (rest := [.ref 117]) dX8_must_9 vl_X8_67 jlt_117 jsh_117 _ rfl rfl h rfl rfl (Nat.le_of_ble_eq_true rfl) (fun r1 M1 h => ?_)
    refine J_iload_1 dX8_must_12 ?_
    refine J_icmp_eq (t := 20) dX8_must_13 (by decide) (fun c1 => ?_) (fun c1 => ?_)
    · replace h := ite_t c1 h
      refine J_iconst (0 : Int32) dX8_must_20 (by decide) ?_
      refine J_putI true dX8_must_21 pl_X8_63 jlt_117 jsh_117 (by decide) jrf_8_7 (fun _ => by decide) ?_
      refine J_aload_0 dX8_must_24 ?_
      refine J_dup dX8_must_25 rfl ?_
      refine J_getI dX8_must_26 fl_X8_57 jlt_117 jsh_117 (by decide) jrf_8_5 ?_
      refine J_aload_0 dX8_must_29 ?_
      refine J_getI dX8_must_30 fl_X8_63 jlt_117 jsh_117 (by decide) jrf_8_7 ?_
      refine J_if_eq (t := 40) dX8_must_33 (by decide) (fun c2 => ?_) (fun c2 => ?_)
      · replace h := ite_t c2 h
        refine J_iconst (1 : Int32) dX8_must_40 (by decide) ?_
        refine J_iadd dX8_must_41 ?_
        refine J_putI false dX8_must_42 pl_X8_57 jlt_117 jsh_117 (by decide) jrf_8_5 (fun q => absurd q (by decide)) ?_
        exact K_ret dX8_must_45 rfl h
      · replace h := ite_f c2 h
        refine J_iconst (0 : Int32) dX8_must_36 (by decide) ?_
        refine J_goto (t := 41) dX8_must_37 (by decide) ?_
        refine J_iadd dX8_must_41 ?_
        refine J_putI false dX8_must_42 pl_X8_57 jlt_117 jsh_117 (by decide) jrf_8_5 (fun q => absurd q (by decide)) ?_
        exact K_ret dX8_must_45 rfl h
    · replace h := ite_f c1 h
      refine J_iconst (1 : Int32) dX8_must_16 (by decide) ?_
      refine J_goto (t := 21) dX8_must_17 (by decide) ?_
      refine J_putI true dX8_must_21 pl_X8_63 jlt_117 jsh_117 (by decide) jrf_8_7 (fun _ => by decide) ?_
      refine J_aload_0 dX8_must_24 ?_
      refine J_dup dX8_must_25 rfl ?_
      refine J_getI dX8_must_26 fl_X8_57 jlt_117 jsh_117 (by decide) jrf_8_5 ?_
      refine J_aload_0 dX8_must_29 ?_
      refine J_getI dX8_must_30 fl_X8_63 jlt_117 jsh_117 (by decide) jrf_8_7 ?_
      refine J_if_eq (t := 40) dX8_must_33 (by decide) (fun c2 => ?_) (fun c2 => ?_)
      · replace h := ite_t c2 h
        refine J_iconst (1 : Int32) dX8_must_40 (by decide) ?_
        refine J_iadd dX8_must_41 ?_
        refine J_putI false dX8_must_42 pl_X8_57 jlt_117 jsh_117 (by decide) jrf_8_5 (fun q => absurd q (by decide)) ?_
        exact K_ret dX8_must_45 rfl h
      · replace h := ite_f c2 h
        refine J_iconst (0 : Int32) dX8_must_36 (by decide) ?_
        refine J_goto (t := 41) dX8_must_37 (by decide) ?_
        refine J_iadd dX8_must_41 ?_
        refine J_putI false dX8_must_42 pl_X8_57 jlt_117 jsh_117 (by decide) jrf_8_5 (fun q => absurd q (by decide)) ?_
        exact K_ret dX8_must_45 rfl h
theorem eX8_must {G : jGT} {d : Nat} {x1 : Int32} {M : jM} {post : jM → Prop} (h : kX8_must_0 G d  x1 M post) : CV G (d + 1) mX8_must [.ref 117, .int x1] M post := Con_of_J ok_X8_must 0 rfl rfl h
def kX8_spellsW_0 (G : jGT) (d : Nat)   (M : jM) (post : jM → Prop) : Prop := J G (d + 1) mX8_spells 0 [some (.ref 117), some (.ref 3000), none] [] jN jSH M jMR 0 0 0 0 (jQv post)
def kX8_spellsW_2 (G : jGT) (d : Nat)  (x2 : Int32) (M : jM) (post : jM → Prop) : Prop := J G (d + 1) mX8_spells 2 [some (.ref 117), some (.ref 3000), some (.int x2)] [] jN jSH M jMR 0 0 0 0 (jQv post)
theorem bX8_spellsW_0 {G : jGT} {d : Nat}  {M : jM} {post : jM → Prop} (h : kX8_spellsW_2 G d (0 : Int32) M post) : kX8_spellsW_0 G d   M post := by
  unfold kX8_spellsW_0
  refine J_iconst (0 : Int32) dX8_spells_0 (by decide) ?_
  refine J_istore_2 dX8_spells_1 rfl ?_
  exact h
theorem bX8_spellsW_2 {G : jGT} {d : Nat} {x2 : Int32} {M : jM} {post : jM → Prop} (h : CI G d mJ0_length_8abf5 [.ref 3000] M (fun r1 M1 => (if r1 ≤ x2 then post M1 else CI G d mJ0_charAt_5068e [.ref 3000, .int x2] M1 (fun r2 M2 => CV G d mX8_must [.ref 117, .int r2] M2 (fun M3 => kX8_spellsW_2 G d (x2 + (1 : Int32)) M3 post))))) : kX8_spellsW_2 G d  x2 M post := by
  unfold kX8_spellsW_2
  refine J_iload_2 dX8_spells_2 ?_
  refine J_aload_1 dX8_spells_3 ?_
  refine K_callTI (As := []) (rest := [.int x2]) dX8_spells_4 vl_X8_71 0 (by decide) rfl h rfl rfl (Nat.le_of_ble_eq_true rfl) (fun r1 M1 h => ?_)
  refine J_icmp_ge (t := 25) dX8_spells_7 (by decide) (fun c0 => ?_) (fun c0 => ?_)
  · replace h := ite_t c0 h
    exact K_ret dX8_spells_25 rfl h
  · replace h := ite_f c0 h
    refine J_aload_0 dX8_spells_10 ?_
    refine J_aload_1 dX8_spells_11 ?_
    refine J_iload_2 dX8_spells_12 ?_
    refine K_callTI (As := [.int x2]) (rest := [.ref 117]) dX8_spells_13 vl_X8_76 0 (by decide) rfl h rfl rfl (Nat.le_of_ble_eq_true rfl) (fun r2 M2 h => ?_)
    refine K_callVV (As := [.int r2]) (rest := []) dX8_spells_16 vl_X8_80 jlt_117 jsh_117 _ rfl rfl h rfl rfl (Nat.le_of_ble_eq_true rfl) (fun M3 h => ?_)
    refine J_iinc_2 (1 : Int32) dX8_spells_19 (by decide) rfl ?_
    refine J_goto (t := 2) dX8_spells_22 (by decide) ?_
    exact h
theorem eX8_spellsW {G : jGT} {d : Nat}  {M : jM} {post : jM → Prop} (h : kX8_spellsW_0 G d   M post) : CV G (d + 1) mX8_spells [.ref 117, .ref 3000] M post := Con_of_J ok_X8_spells 1 rfl rfl h
def kX8_spellsC_0 (G : jGT) (d : Nat)   (M : jM) (post : jM → Prop) : Prop := J G (d + 1) mX8_spells 0 [some (.ref 117), some (.ref 3001), none] [] jN jSH M jMR 0 0 0 0 (jQv post)
def kX8_spellsC_2 (G : jGT) (d : Nat)  (x2 : Int32) (M : jM) (post : jM → Prop) : Prop := J G (d + 1) mX8_spells 2 [some (.ref 117), some (.ref 3001), some (.int x2)] [] jN jSH M jMR 0 0 0 0 (jQv post)
theorem bX8_spellsC_0 {G : jGT} {d : Nat}  {M : jM} {post : jM → Prop} (h : kX8_spellsC_2 G d (0 : Int32) M post) : kX8_spellsC_0 G d   M post := by
  unfold kX8_spellsC_0
  refine J_iconst (0 : Int32) dX8_spells_0 (by decide) ?_
  refine J_istore_2 dX8_spells_1 rfl ?_
  exact h
theorem bX8_spellsC_2 {G : jGT} {d : Nat} {x2 : Int32} {M : jM} {post : jM → Prop} (h : CI G d mJ0_length_8abf5 [.ref 3001] M (fun r1 M1 => (if r1 ≤ x2 then post M1 else CI G d mJ0_charAt_5068e [.ref 3001, .int x2] M1 (fun r2 M2 => CV G d mX8_must [.ref 117, .int r2] M2 (fun M3 => kX8_spellsC_2 G d (x2 + (1 : Int32)) M3 post))))) : kX8_spellsC_2 G d  x2 M post := by
  unfold kX8_spellsC_2
  refine J_iload_2 dX8_spells_2 ?_
  refine J_aload_1 dX8_spells_3 ?_
  refine K_callTI (As := []) (rest := [.int x2]) dX8_spells_4 vl_X8_71 1 (by decide) rfl h rfl rfl (Nat.le_of_ble_eq_true rfl) (fun r1 M1 h => ?_)
  refine J_icmp_ge (t := 25) dX8_spells_7 (by decide) (fun c0 => ?_) (fun c0 => ?_)
  · replace h := ite_t c0 h
    exact K_ret dX8_spells_25 rfl h
  · replace h := ite_f c0 h
    refine J_aload_0 dX8_spells_10 ?_
    refine J_aload_1 dX8_spells_11 ?_
    refine J_iload_2 dX8_spells_12 ?_
    refine K_callTI (As := [.int x2]) (rest := [.ref 117]) dX8_spells_13 vl_X8_76 1 (by decide) rfl h rfl rfl (Nat.le_of_ble_eq_true rfl) (fun r2 M2 h => ?_)
    refine K_callVV (As := [.int r2]) (rest := []) dX8_spells_16 vl_X8_80 jlt_117 jsh_117 _ rfl rfl h rfl rfl (Nat.le_of_ble_eq_true rfl) (fun M3 h => ?_)
    refine J_iinc_2 (1 : Int32) dX8_spells_19 (by decide) rfl ?_
    refine J_goto (t := 2) dX8_spells_22 (by decide) ?_
    exact h
theorem eX8_spellsC {G : jGT} {d : Nat}  {M : jM} {post : jM → Prop} (h : kX8_spellsC_0 G d   M post) : CV G (d + 1) mX8_spells [.ref 117, .ref 3001] M post := Con_of_J ok_X8_spells 1 rfl rfl h
def kX8_spellsB_0 (G : jGT) (d : Nat)   (M : jM) (post : jM → Prop) : Prop := J G (d + 1) mX8_spells 0 [some (.ref 117), some (.ref 3002), none] [] jN jSH M jMR 0 0 0 0 (jQv post)
def kX8_spellsB_2 (G : jGT) (d : Nat)  (x2 : Int32) (M : jM) (post : jM → Prop) : Prop := J G (d + 1) mX8_spells 2 [some (.ref 117), some (.ref 3002), some (.int x2)] [] jN jSH M jMR 0 0 0 0 (jQv post)
theorem bX8_spellsB_0 {G : jGT} {d : Nat}  {M : jM} {post : jM → Prop} (h : kX8_spellsB_2 G d (0 : Int32) M post) : kX8_spellsB_0 G d   M post := by
  unfold kX8_spellsB_0
  refine J_iconst (0 : Int32) dX8_spells_0 (by decide) ?_
  refine J_istore_2 dX8_spells_1 rfl ?_
  exact h
theorem bX8_spellsB_2 {G : jGT} {d : Nat} {x2 : Int32} {M : jM} {post : jM → Prop} (h : CI G d mJ0_length_8abf5 [.ref 3002] M (fun r1 M1 => (if r1 ≤ x2 then post M1 else CI G d mJ0_charAt_5068e [.ref 3002, .int x2] M1 (fun r2 M2 => CV G d mX8_must [.ref 117, .int r2] M2 (fun M3 => kX8_spellsB_2 G d (x2 + (1 : Int32)) M3 post))))) : kX8_spellsB_2 G d  x2 M post := by
  unfold kX8_spellsB_2
  refine J_iload_2 dX8_spells_2 ?_
  refine J_aload_1 dX8_spells_3 ?_
  refine K_callTI (As := []) (rest := [.int x2]) dX8_spells_4 vl_X8_71 2 (by decide) rfl h rfl rfl (Nat.le_of_ble_eq_true rfl) (fun r1 M1 h => ?_)
  refine J_icmp_ge (t := 25) dX8_spells_7 (by decide) (fun c0 => ?_) (fun c0 => ?_)
  · replace h := ite_t c0 h
    exact K_ret dX8_spells_25 rfl h
  · replace h := ite_f c0 h
    refine J_aload_0 dX8_spells_10 ?_
    refine J_aload_1 dX8_spells_11 ?_
    refine J_iload_2 dX8_spells_12 ?_
    refine K_callTI (As := [.int x2]) (rest := [.ref 117]) dX8_spells_13 vl_X8_76 2 (by decide) rfl h rfl rfl (Nat.le_of_ble_eq_true rfl) (fun r2 M2 h => ?_)
    refine K_callVV (As := [.int r2]) (rest := []) dX8_spells_16 vl_X8_80 jlt_117 jsh_117 _ rfl rfl h rfl rfl (Nat.le_of_ble_eq_true rfl) (fun M3 h => ?_)
    refine J_iinc_2 (1 : Int32) dX8_spells_19 (by decide) rfl ?_
    refine J_goto (t := 2) dX8_spells_22 (by decide) ?_
    exact h
theorem eX8_spellsB {G : jGT} {d : Nat}  {M : jM} {post : jM → Prop} (h : kX8_spellsB_0 G d   M post) : CV G (d + 1) mX8_spells [.ref 117, .ref 3002] M post := Con_of_J ok_X8_spells 1 rfl rfl h
def kX8_figures_0 (G : jGT) (d : Nat)   (M : jM) (post : Int32 → jM → Prop) : Prop := J G (d + 1) mX8_figures 0 [some (.ref 117), none, none] [] jN jSH M jMR 0 0 0 0 (jQi post)
def kX8_figures_34 (G : jGT) (d : Nat)  (x1 : Int32) (x2 : Int32) (M : jM) (post : Int32 → jM → Prop) : Prop := J G (d + 1) mX8_figures 34 [some (.ref 117), some (.int x1), some (.int x2)] [] jN jSH M jMR 0 0 0 0 (jQi post)
theorem bX8_figures_0 {G : jGT} {d : Nat}  {M : jM} {post : Int32 → jM → Prop} (h : (if (M 117 7) = 0 then CI G d mX8_here [.ref 117] M (fun r1 M1 => CI G d mX8_in [.int r1, .int (48 : Int32), .int (57 : Int32)] M1 (fun r2 M2 => (if r2 = 0 then kX8_figures_34 G d (0 : Int32) (0 : Int32) (jup M2 117 7 (1 : Int32)) post else kX8_figures_34 G d (0 : Int32) (0 : Int32) (jup M2 117 7 (0 : Int32)) post))) else kX8_figures_34 G d (0 : Int32) (0 : Int32) (jup M 117 7 (1 : Int32)) post)) : kX8_figures_0 G d   M post := by
  unfold kX8_figures_0
  refine J_aload_0 dX8_figures_0 ?_
  refine J_aload_0 dX8_figures_1 ?_
  refine J_getI dX8_figures_2 fl_X8_63 jlt_117 jsh_117 (by decide) jrf_8_7 ?_
  refine J_if_ne (t := 22) dX8_figures_5 (by decide) (fun c0 => ?_) (fun c0 => ?_)
  · replace h := ite_f c0 h
    refine J_iconst (1 : Int32) dX8_figures_22 (by decide) ?_
    refine J_goto (t := 27) dX8_figures_23 (by decide) ?_
    refine J_putI true dX8_figures_27 pl_X8_63 jlt_117 jsh_117 (by decide) jrf_8_7 (fun _ => by decide) ?_
    refine J_iconst (0 : Int32) dX8_figures_30 (by decide) ?_
    refine J_istore_1 dX8_figures_31 rfl ?_
    refine J_iconst (0 : Int32) dX8_figures_32 (by decide) ?_
    refine J_istore_2 dX8_figures_33 rfl ?_
    exact h
  · replace h := ite_t c0 h
    refine J_aload_0 dX8_figures_8 ?_
    refine K_callVI (As := []) (rest := [.ref 117]) dX8_figures_9 vl_X8_67 jlt_117 jsh_117 _ rfl rfl h rfl rfl (Nat.le_of_ble_eq_true rfl) (fun r1 M1 h => ?_)
    refine J_bipush (48 : Int32) dX8_figures_12 (by decide) ?_
    refine J_bipush (57 : Int32) dX8_figures_14 (by decide) ?_
    refine K_callSI (rest := [.ref 117]) dX8_figures_16 sl_X8_53 h rfl rfl (Nat.le_of_ble_eq_true rfl) (fun r2 M2 h => ?_)
    refine J_if_ne (t := 26) dX8_figures_19 (by decide) (fun c1 => ?_) (fun c1 => ?_)
    · replace h := ite_f c1 h
      refine J_iconst (0 : Int32) dX8_figures_26 (by decide) ?_
      refine J_putI true dX8_figures_27 pl_X8_63 jlt_117 jsh_117 (by decide) jrf_8_7 (fun _ => by decide) ?_
      refine J_iconst (0 : Int32) dX8_figures_30 (by decide) ?_
      refine J_istore_1 dX8_figures_31 rfl ?_
      refine J_iconst (0 : Int32) dX8_figures_32 (by decide) ?_
      refine J_istore_2 dX8_figures_33 rfl ?_
      exact h
    · replace h := ite_t c1 h
      refine J_iconst (1 : Int32) dX8_figures_22 (by decide) ?_
      refine J_goto (t := 27) dX8_figures_23 (by decide) ?_
      refine J_putI true dX8_figures_27 pl_X8_63 jlt_117 jsh_117 (by decide) jrf_8_7 (fun _ => by decide) ?_
      refine J_iconst (0 : Int32) dX8_figures_30 (by decide) ?_
      refine J_istore_1 dX8_figures_31 rfl ?_
      refine J_iconst (0 : Int32) dX8_figures_32 (by decide) ?_
      refine J_istore_2 dX8_figures_33 rfl ?_
      exact h
theorem bX8_figures_34 {G : jGT} {d : Nat} {x1 : Int32} {x2 : Int32} {M : jM} {post : Int32 → jM → Prop} (h : (if (2 : Int32) ≤ x2 then post x1 M else (if (M 117 7) = 0 then CI G d mX8_here [.ref 117] M (fun r1 M1 => CI G d mX8_in [.int r1, .int (48 : Int32), .int (57 : Int32)] M1 (fun r2 M2 => (if r2 = 0 then post x1 M2 else (if x2 = 0 then CI G d mX8_here [.ref 117] M2 (fun r3 M3 => kX8_figures_34 G d ((((10 : Int32) * x1) + r3) - (48 : Int32)) (x2 + (1 : Int32)) (jup M3 117 5 ((M3 117 5) + (1 : Int32))) post) else (if x1 ≤ 0 then post x1 M2 else CI G d mX8_here [.ref 117] M2 (fun r4 M4 => kX8_figures_34 G d ((((10 : Int32) * x1) + r4) - (48 : Int32)) (x2 + (1 : Int32)) (jup M4 117 5 ((M4 117 5) + (1 : Int32))) post)))))) else post x1 M))) : kX8_figures_34 G d  x1 x2 M post := by
  unfold kX8_figures_34
  refine J_iload_2 dX8_figures_34 ?_
  refine J_iconst (2 : Int32) dX8_figures_35 (by decide) ?_
  refine J_icmp_ge (t := 97) dX8_figures_36 (by decide) (fun c0 => ?_) (fun c0 => ?_)
  · replace h := ite_t c0 h
    refine J_iload_1 dX8_figures_97 ?_
    exact K_iret dX8_figures_98 rfl h
  · replace h := ite_f c0 h
    refine J_aload_0 dX8_figures_39 ?_
    refine J_getI dX8_figures_40 fl_X8_63 jlt_117 jsh_117 (by decide) jrf_8_7 ?_
    refine J_if_ne (t := 97) dX8_figures_43 (by decide) (fun c1 => ?_) (fun c1 => ?_)
    · replace h := ite_f c1 h
      refine J_iload_1 dX8_figures_97 ?_
      exact K_iret dX8_figures_98 rfl h
    · replace h := ite_t c1 h
      refine J_aload_0 dX8_figures_46 ?_
      refine K_callVI (As := []) (rest := []) dX8_figures_47 vl_X8_67 jlt_117 jsh_117 _ rfl rfl h rfl rfl (Nat.le_of_ble_eq_true rfl) (fun r1 M1 h => ?_)
      refine J_bipush (48 : Int32) dX8_figures_50 (by decide) ?_
      refine J_bipush (57 : Int32) dX8_figures_52 (by decide) ?_
      refine K_callSI (rest := []) dX8_figures_54 sl_X8_53 h rfl rfl (Nat.le_of_ble_eq_true rfl) (fun r2 M2 h => ?_)
      refine J_if_eq (t := 97) dX8_figures_57 (by decide) (fun c2 => ?_) (fun c2 => ?_)
      · replace h := ite_t c2 h
        refine J_iload_1 dX8_figures_97 ?_
        exact K_iret dX8_figures_98 rfl h
      · replace h := ite_f c2 h
        refine J_iload_2 dX8_figures_60 ?_
        refine J_if_eq (t := 68) dX8_figures_61 (by decide) (fun c3 => ?_) (fun c3 => ?_)
        · replace h := ite_t c3 h
          refine J_bipush (10 : Int32) dX8_figures_68 (by decide) ?_
          refine J_iload_1 dX8_figures_70 ?_
          refine J_imul dX8_figures_71 ?_
          refine J_aload_0 dX8_figures_72 ?_
          refine K_callVI (As := []) (rest := [.int ((10 : Int32) * x1)]) dX8_figures_73 vl_X8_67 jlt_117 jsh_117 _ rfl rfl h rfl rfl (Nat.le_of_ble_eq_true rfl) (fun r3 M3 h => ?_)
          refine J_iadd dX8_figures_76 ?_
          refine J_bipush (48 : Int32) dX8_figures_77 (by decide) ?_
          refine J_isub dX8_figures_79 ?_
          refine J_istore_1 dX8_figures_80 rfl ?_
          refine J_aload_0 dX8_figures_81 ?_
          refine J_dup dX8_figures_82 rfl ?_
          refine J_getI dX8_figures_83 fl_X8_57 jlt_117 jsh_117 (by decide) jrf_8_5 ?_
          refine J_iconst (1 : Int32) dX8_figures_86 (by decide) ?_
          refine J_iadd dX8_figures_87 ?_
          refine J_putI false dX8_figures_88 pl_X8_57 jlt_117 jsh_117 (by decide) jrf_8_5 (fun q => absurd q (by decide)) ?_
          refine J_iinc_2 (1 : Int32) dX8_figures_91 (by decide) rfl ?_
          refine J_goto (t := 34) dX8_figures_94 (by decide) ?_
          exact h
        · replace h := ite_f c3 h
          refine J_iload_1 dX8_figures_64 ?_
          refine J_if_le (t := 97) dX8_figures_65 (by decide) (fun c4 => ?_) (fun c4 => ?_)
          · replace h := ite_t c4 h
            refine J_iload_1 dX8_figures_97 ?_
            exact K_iret dX8_figures_98 rfl h
          · replace h := ite_f c4 h
            refine J_bipush (10 : Int32) dX8_figures_68 (by decide) ?_
            refine J_iload_1 dX8_figures_70 ?_
            refine J_imul dX8_figures_71 ?_
            refine J_aload_0 dX8_figures_72 ?_
            refine K_callVI (As := []) (rest := [.int ((10 : Int32) * x1)]) dX8_figures_73 vl_X8_67 jlt_117 jsh_117 _ rfl rfl h rfl rfl (Nat.le_of_ble_eq_true rfl) (fun r4 M4 h => ?_)
            refine J_iadd dX8_figures_76 ?_
            refine J_bipush (48 : Int32) dX8_figures_77 (by decide) ?_
            refine J_isub dX8_figures_79 ?_
            refine J_istore_1 dX8_figures_80 rfl ?_
            refine J_aload_0 dX8_figures_81 ?_
            refine J_dup dX8_figures_82 rfl ?_
            refine J_getI dX8_figures_83 fl_X8_57 jlt_117 jsh_117 (by decide) jrf_8_5 ?_
            refine J_iconst (1 : Int32) dX8_figures_86 (by decide) ?_
            refine J_iadd dX8_figures_87 ?_
            refine J_putI false dX8_figures_88 pl_X8_57 jlt_117 jsh_117 (by decide) jrf_8_5 (fun q => absurd q (by decide)) ?_
            refine J_iinc_2 (1 : Int32) dX8_figures_91 (by decide) rfl ?_
            refine J_goto (t := 34) dX8_figures_94 (by decide) ?_
            exact h
theorem eX8_figures {G : jGT} {d : Nat}  {M : jM} {post : Int32 → jM → Prop} (h : kX8_figures_0 G d   M post) : CI G (d + 1) mX8_figures [.ref 117] M post := Con_of_J ok_X8_figures 2 rfl rfl h
def kX8_amongP_0 (G : jGT) (d : Nat)   (M : jM) (post : Int32 → jM → Prop) : Prop := J G (d + 1) mX8_among 0 [some (.ref 117), some (.ref 3003), none] [] jN jSH M jMR 0 0 0 0 (jQi post)
def kX8_amongP_2 (G : jGT) (d : Nat)  (x2 : Int32) (M : jM) (post : Int32 → jM → Prop) : Prop := J G (d + 1) mX8_among 2 [some (.ref 117), some (.ref 3003), some (.int x2)] [] jN jSH M jMR 0 0 0 0 (jQi post)
theorem bX8_amongP_0 {G : jGT} {d : Nat}  {M : jM} {post : Int32 → jM → Prop} (h : kX8_amongP_2 G d (0 : Int32) M post) : kX8_amongP_0 G d   M post := by
  unfold kX8_amongP_0
  refine J_iconst (0 : Int32) dX8_among_0 (by decide) ?_
  refine J_istore_2 dX8_among_1 rfl ?_
  exact h
theorem bX8_amongP_2 {G : jGT} {d : Nat} {x2 : Int32} {M : jM} {post : Int32 → jM → Prop} (h : CI G d mJ0_length_8abf5 [.ref 3003] M (fun r1 M1 => (if r1 ≤ x2 then post (-1 : Int32) M1 else CI G d mX8_here [.ref 117] M1 (fun r2 M2 => CI G d mJ0_charAt_5068e [.ref 3003, .int x2] M2 (fun r3 M3 => (if r2 = r3 then post x2 (jup M3 117 5 ((M3 117 5) + (1 : Int32))) else kX8_amongP_2 G d (x2 + (1 : Int32)) M3 post)))))) : kX8_amongP_2 G d  x2 M post := by
  unfold kX8_amongP_2
  refine J_iload_2 dX8_among_2 ?_
  refine J_aload_1 dX8_among_3 ?_
  refine K_callTI (As := []) (rest := [.int x2]) dX8_among_4 vl_X8_71 3 (by decide) rfl h rfl rfl (Nat.le_of_ble_eq_true rfl) (fun r1 M1 h => ?_)
  refine J_icmp_ge (t := 40) dX8_among_7 (by decide) (fun c0 => ?_) (fun c0 => ?_)
  · replace h := ite_t c0 h
    refine J_iconst (-1 : Int32) dX8_among_40 (by decide) ?_
    exact K_iret dX8_among_41 rfl h
  · replace h := ite_f c0 h
    refine J_aload_0 dX8_among_10 ?_
    refine K_callVI (As := []) (rest := []) dX8_among_11 vl_X8_67 jlt_117 jsh_117 _ rfl rfl h rfl rfl (Nat.le_of_ble_eq_true rfl) (fun r2 M2 h => ?_)
    refine J_aload_1 dX8_among_14 ?_
    refine J_iload_2 dX8_among_15 ?_
    refine K_callTI (As := [.int x2]) (rest := [.int r2]) dX8_among_16 vl_X8_76 3 (by decide) rfl h rfl rfl (Nat.le_of_ble_eq_true rfl) (fun r3 M3 h => ?_)
    refine J_icmp_ne (t := 34) dX8_among_19 (by decide) (fun c1 => ?_) (fun c1 => ?_)
    · replace h := ite_f c1 h
      refine J_iinc_2 (1 : Int32) dX8_among_34 (by decide) rfl ?_
      refine J_goto (t := 2) dX8_among_37 (by decide) ?_
      exact h
    · replace h := ite_t c1 h
      refine J_aload_0 dX8_among_22 ?_
      refine J_dup dX8_among_23 rfl ?_
      refine J_getI dX8_among_24 fl_X8_57 jlt_117 jsh_117 (by decide) jrf_8_5 ?_
      refine J_iconst (1 : Int32) dX8_among_27 (by decide) ?_
      refine J_iadd dX8_among_28 ?_
      refine J_putI false dX8_among_29 pl_X8_57 jlt_117 jsh_117 (by decide) jrf_8_5 (fun q => absurd q (by decide)) ?_
      refine J_iload_2 dX8_among_32 ?_
      exact K_iret dX8_among_33 rfl h
theorem eX8_amongP {G : jGT} {d : Nat}  {M : jM} {post : Int32 → jM → Prop} (h : kX8_amongP_0 G d   M post) : CI G (d + 1) mX8_among [.ref 117, .ref 3003] M post := Con_of_J ok_X8_among 1 rfl rfl h
def kX8_amongL_0 (G : jGT) (d : Nat)   (M : jM) (post : Int32 → jM → Prop) : Prop := J G (d + 1) mX8_among 0 [some (.ref 117), some (.ref 3004), none] [] jN jSH M jMR 0 0 0 0 (jQi post)
def kX8_amongL_2 (G : jGT) (d : Nat)  (x2 : Int32) (M : jM) (post : Int32 → jM → Prop) : Prop := J G (d + 1) mX8_among 2 [some (.ref 117), some (.ref 3004), some (.int x2)] [] jN jSH M jMR 0 0 0 0 (jQi post)
theorem bX8_amongL_0 {G : jGT} {d : Nat}  {M : jM} {post : Int32 → jM → Prop} (h : kX8_amongL_2 G d (0 : Int32) M post) : kX8_amongL_0 G d   M post := by
  unfold kX8_amongL_0
  refine J_iconst (0 : Int32) dX8_among_0 (by decide) ?_
  refine J_istore_2 dX8_among_1 rfl ?_
  exact h
theorem bX8_amongL_2 {G : jGT} {d : Nat} {x2 : Int32} {M : jM} {post : Int32 → jM → Prop} (h : CI G d mJ0_length_8abf5 [.ref 3004] M (fun r1 M1 => (if r1 ≤ x2 then post (-1 : Int32) M1 else CI G d mX8_here [.ref 117] M1 (fun r2 M2 => CI G d mJ0_charAt_5068e [.ref 3004, .int x2] M2 (fun r3 M3 => (if r2 = r3 then post x2 (jup M3 117 5 ((M3 117 5) + (1 : Int32))) else kX8_amongL_2 G d (x2 + (1 : Int32)) M3 post)))))) : kX8_amongL_2 G d  x2 M post := by
  unfold kX8_amongL_2
  refine J_iload_2 dX8_among_2 ?_
  refine J_aload_1 dX8_among_3 ?_
  refine K_callTI (As := []) (rest := [.int x2]) dX8_among_4 vl_X8_71 4 (by decide) rfl h rfl rfl (Nat.le_of_ble_eq_true rfl) (fun r1 M1 h => ?_)
  refine J_icmp_ge (t := 40) dX8_among_7 (by decide) (fun c0 => ?_) (fun c0 => ?_)
  · replace h := ite_t c0 h
    refine J_iconst (-1 : Int32) dX8_among_40 (by decide) ?_
    exact K_iret dX8_among_41 rfl h
  · replace h := ite_f c0 h
    refine J_aload_0 dX8_among_10 ?_
    refine K_callVI (As := []) (rest := []) dX8_among_11 vl_X8_67 jlt_117 jsh_117 _ rfl rfl h rfl rfl (Nat.le_of_ble_eq_true rfl) (fun r2 M2 h => ?_)
    refine J_aload_1 dX8_among_14 ?_
    refine J_iload_2 dX8_among_15 ?_
    refine K_callTI (As := [.int x2]) (rest := [.int r2]) dX8_among_16 vl_X8_76 4 (by decide) rfl h rfl rfl (Nat.le_of_ble_eq_true rfl) (fun r3 M3 h => ?_)
    refine J_icmp_ne (t := 34) dX8_among_19 (by decide) (fun c1 => ?_) (fun c1 => ?_)
    · replace h := ite_f c1 h
      refine J_iinc_2 (1 : Int32) dX8_among_34 (by decide) rfl ?_
      refine J_goto (t := 2) dX8_among_37 (by decide) ?_
      exact h
    · replace h := ite_t c1 h
      refine J_aload_0 dX8_among_22 ?_
      refine J_dup dX8_among_23 rfl ?_
      refine J_getI dX8_among_24 fl_X8_57 jlt_117 jsh_117 (by decide) jrf_8_5 ?_
      refine J_iconst (1 : Int32) dX8_among_27 (by decide) ?_
      refine J_iadd dX8_among_28 ?_
      refine J_putI false dX8_among_29 pl_X8_57 jlt_117 jsh_117 (by decide) jrf_8_5 (fun q => absurd q (by decide)) ?_
      refine J_iload_2 dX8_among_32 ?_
      exact K_iret dX8_among_33 rfl h
theorem eX8_amongL {G : jGT} {d : Nat}  {M : jM} {post : Int32 → jM → Prop} (h : kX8_amongL_0 G d   M post) : CI G (d + 1) mX8_among [.ref 117, .ref 3004] M post := Con_of_J ok_X8_among 1 rfl rfl h
def kX8_emits_0 (G : jGT) (d : Nat)  (x1 : Int32) (M : jM) (post : jM → Prop) : Prop := J G d mX8_emits 0 [some (.ref 117), some (.int x1)] [] jN jSH M jMR 0 0 0 0 (jQv post)
theorem bX8_emits_0 {G : jGT} {d : Nat} {x1 : Int32} {M : jM} {post : jM → Prop} (h : (if (M 117 7) = 0 then (vp_in ((211 : Int32) + (M 117 4)) 916 ∧ (vp_in (((216 : Int32) + ((140 : Int32) * (M 117 4))) + (M 118 (((211 : Int32) + (M 117 4)).toNatClampNeg))) 916 ∧ (vp_in ((211 : Int32) + (M 117 4)) 916 ∧ (vp_in ((211 : Int32) + (M 117 4)) 916 ∧ post (jup (jup M 118 ((((216 : Int32) + ((140 : Int32) * (M 117 4))) + (M 118 (((211 : Int32) + (M 117 4)).toNatClampNeg))).toNatClampNeg) x1) 118 (((211 : Int32) + (M 117 4)).toNatClampNeg) (((jup M 118 ((((216 : Int32) + ((140 : Int32) * (M 117 4))) + (M 118 (((211 : Int32) + (M 117 4)).toNatClampNeg))).toNatClampNeg) x1) 118 (((211 : Int32) + (M 117 4)).toNatClampNeg)) + (1 : Int32))))))) else post M)) : kX8_emits_0 G d  x1 M post := by
  unfold kX8_emits_0
  refine J_aload_0 dX8_emits_0 ?_
  refine J_getI dX8_emits_1 fl_X8_63 jlt_117 jsh_117 (by decide) jrf_8_7 ?_
  refine J_if_ne (t := 56) dX8_emits_4 (by decide) (fun c0 => ?_) (fun c0 => ?_)
  · replace h := ite_f c0 h
    exact K_ret dX8_emits_56 rfl h
  · replace h := ite_t c0 h
    refine J_aload_0 dX8_emits_7 ?_
    refine J_getR 118 dX8_emits_8 fl_X8_9 jlt_117 jsh_117 (by decide) jrf_8_1 jmr_117_1 ?_
    refine J_sipush (216 : Int32) dX8_emits_11 (by decide) ?_
    refine J_sipush (140 : Int32) dX8_emits_14 (by decide) ?_
    refine J_aload_0 dX8_emits_17 ?_
    refine J_getI dX8_emits_18 fl_X8_84 jlt_117 jsh_117 (by decide) jrf_8_4 ?_
    refine J_imul dX8_emits_21 ?_
    refine J_iadd dX8_emits_22 ?_
    refine J_aload_0 dX8_emits_23 ?_
    refine J_getR 118 dX8_emits_24 fl_X8_9 jlt_117 jsh_117 (by decide) jrf_8_1 jmr_117_1 ?_
    refine J_sipush (211 : Int32) dX8_emits_27 (by decide) ?_
    refine J_aload_0 dX8_emits_30 ?_
    refine J_getI dX8_emits_31 fl_X8_84 jlt_117 jsh_117 (by decide) jrf_8_4 ?_
    refine J_iadd dX8_emits_34 ?_
    obtain ⟨g1, h⟩ := h
    refine K_iald (((211 : Int32) + (M 117 4)).toNatClampNeg) rfl dX8_emits_35 jlt_118 jsh_118 g1 ?_
    refine J_iadd dX8_emits_36 ?_
    refine J_iload_1 dX8_emits_37 ?_
    obtain ⟨g2, h⟩ := h
    refine K_iast ((((216 : Int32) + ((140 : Int32) * (M 117 4))) + (M 118 (((211 : Int32) + (M 117 4)).toNatClampNeg))).toNatClampNeg) rfl dX8_emits_38 jlt_118 jsh_118 g2 ?_
    refine J_aload_0 dX8_emits_39 ?_
    refine J_getR 118 dX8_emits_40 fl_X8_9 jlt_117 jsh_117 (by decide) jrf_8_1 jmr_117_1 ?_
    refine J_sipush (211 : Int32) dX8_emits_43 (by decide) ?_
    refine J_aload_0 dX8_emits_46 ?_
    refine J_getI dX8_emits_47 fl_X8_84 jlt_117 jsh_117 (by decide) jrf_8_4 ?_
    refine J_iadd dX8_emits_50 ?_
    refine J_dup2 dX8_emits_51 rfl rfl ?_
    obtain ⟨g3, h⟩ := h
    refine K_iald (((211 : Int32) + (M 117 4)).toNatClampNeg) rfl dX8_emits_52 jlt_118 jsh_118 g3 ?_
    refine J_iconst (1 : Int32) dX8_emits_53 (by decide) ?_
    refine J_iadd dX8_emits_54 ?_
    obtain ⟨g4, h⟩ := h
    refine K_iast (((211 : Int32) + (M 117 4)).toNatClampNeg) rfl dX8_emits_55 jlt_118 jsh_118 g4 ?_
    exact K_ret dX8_emits_56 rfl h
theorem eX8_emits {G : jGT} {d : Nat} {x1 : Int32} {M : jM} {post : jM → Prop} (h : kX8_emits_0 G d  x1 M post) : CV G d mX8_emits [.ref 117, .int x1] M post := Con_of_J ok_X8_emits 0 rfl rfl h
def kX8_factor_0 (G : jGT) (d : Nat)   (M : jM) (post : jM → Prop) : Prop := J G (d + 1) mX8_factor 0 [some (.ref 117), none, none, none, none] [] jN jSH M jMR 0 0 0 0 (jQv post)
def kX8_factor_25 (G : jGT) (d : Nat)  (x1 : Int32) (M : jM) (post : jM → Prop) : Prop := J G (d + 1) mX8_factor 25 [some (.ref 117), some (.int x1), none, none, none] [] jN jSH M jMR 0 0 0 0 (jQv post)
def kX8_factor_39 (G : jGT) (d : Nat)  (x1 : Int32) (s1 : Int32) (M : jM) (post : jM → Prop) : Prop := J G (d + 1) mX8_factor 39 [some (.ref 117), some (.int x1), none, none, none] [.int s1, .ref 117] jN jSH M jMR 0 0 0 0 (jQv post)
def kX8_factor_69 (G : jGT) (d : Nat)  (x1 : Int32) (s1 : Int32) (s2 : Int32) (M : jM) (post : jM → Prop) : Prop := J G (d + 1) mX8_factor 69 [some (.ref 117), some (.int x1), none, none, none] [.int s2, .int s1, .ref 117] jN jSH M jMR 0 0 0 0 (jQv post)
def kX8_factor_101 (G : jGT) (d : Nat)  (x1 : Int32) (M : jM) (post : jM → Prop) : Prop := J G (d + 1) mX8_factor 101 [some (.ref 117), some (.int x1), none, none, none] [] jN jSH M jMR 0 0 0 0 (jQv post)
def kX8_factor_130 (G : jGT) (d : Nat)  (x1 : Int32) (x2 : Int32) (s1 : Int32) (M : jM) (post : jM → Prop) : Prop := J G (d + 1) mX8_factor 130 [some (.ref 117), some (.int x1), some (.int x2), none, none] [.int s1, .ref 117] jN jSH M jMR 0 0 0 0 (jQv post)
def kX8_factor_150 (G : jGT) (d : Nat)  (x1 : Int32) (x2 : Int32) (s0 : Int32) (M : jM) (post : jM → Prop) : Prop := J G (d + 1) mX8_factor 150 [some (.ref 117), some (.int x1), some (.int x2), none, none] [.int s0] jN jSH M jMR 0 0 0 0 (jQv post)
def kX8_factor_164 (G : jGT) (d : Nat)  (x1 : Int32) (x2 : Int32) (x3 : Int32) (M : jM) (post : jM → Prop) : Prop := J G (d + 1) mX8_factor 164 [some (.ref 117), some (.int x1), some (.int x2), some (.int x3), none] [.ref 117] jN jSH M jMR 0 0 0 0 (jQv post)
def kX8_factor_169 (G : jGT) (d : Nat)  (x1 : Int32) (x2 : Int32) (x3 : Int32) (s1 : Int32) (M : jM) (post : jM → Prop) : Prop := J G (d + 1) mX8_factor 169 [some (.ref 117), some (.int x1), some (.int x2), some (.int x3), none] [.int s1, .ref 117] jN jSH M jMR 0 0 0 0 (jQv post)
theorem bX8_factor_0 {G : jGT} {d : Nat}  {M : jM} {post : jM → Prop} (h : (if (M 117 7) = 0 then CI G d mX8_here [.ref 117] M (fun r1 M1 => (if r1 = (33 : Int32) then kX8_factor_25 G d r1 M1 post else (if r1 = (40 : Int32) then kX8_factor_25 G d r1 M1 post else CI G d mX8_among [.ref 117, .ref 3003] M1 (fun r2 M2 => (if r2 = (-1 : Int32) then kX8_factor_130 G d r1 r2 (1 : Int32) M2 post else kX8_factor_130 G d r1 r2 (0 : Int32) M2 post))))) else post M)) : kX8_factor_0 G d   M post := by
  unfold kX8_factor_0
  refine J_aload_0 dX8_factor_0 ?_
  refine J_getI dX8_factor_1 fl_X8_63 jlt_117 jsh_117 (by decide) jrf_8_7 ?_
  refine J_if_eq (t := 8) dX8_factor_4 (by decide) (fun c0 => ?_) (fun c0 => ?_)
  · replace h := ite_t c0 h
    refine J_aload_0 dX8_factor_8 ?_
    refine K_callVI (As := []) (rest := []) dX8_factor_9 vl_X8_67 jlt_117 jsh_117 _ rfl rfl h rfl rfl (Nat.le_of_ble_eq_true rfl) (fun r1 M1 h => ?_)
    refine J_istore_1 dX8_factor_12 rfl ?_
    refine J_iload_1 dX8_factor_13 ?_
    refine J_bipush (33 : Int32) dX8_factor_14 (by decide) ?_
    refine J_icmp_eq (t := 25) dX8_factor_16 (by decide) (fun c1 => ?_) (fun c1 => ?_)
    · replace h := ite_t c1 h
      exact h
    · replace h := ite_f c1 h
      refine J_iload_1 dX8_factor_19 ?_
      refine J_bipush (40 : Int32) dX8_factor_20 (by decide) ?_
      refine J_icmp_ne (t := 112) dX8_factor_22 (by decide) (fun c2 => ?_) (fun c2 => ?_)
      · replace h := ite_f c2 h
        refine J_aload_0 dX8_factor_112 ?_
        refine J_ldcS (t := 3) (tx := "pkvd") dX8_factor_113 (by decide +kernel) ?_
        refine K_callVI (As := [.ref 3003]) (rest := []) dX8_factor_115 vl_X8_101 jlt_117 jsh_117 _ rfl rfl h rfl rfl (Nat.le_of_ble_eq_true rfl) (fun r2 M2 h => ?_)
        refine J_istore_2 dX8_factor_118 rfl ?_
        refine J_aload_0 dX8_factor_119 ?_
        refine J_iload_2 dX8_factor_120 ?_
        refine J_iconst (-1 : Int32) dX8_factor_121 (by decide) ?_
        refine J_icmp_ne (t := 129) dX8_factor_122 (by decide) (fun c3 => ?_) (fun c3 => ?_)
        · replace h := ite_f c3 h
          refine J_iconst (0 : Int32) dX8_factor_129 (by decide) ?_
          exact h
        · replace h := ite_t c3 h
          refine J_iconst (1 : Int32) dX8_factor_125 (by decide) ?_
          refine J_goto (t := 130) dX8_factor_126 (by decide) ?_
          exact h
      · replace h := ite_t c2 h
        exact h
  · replace h := ite_f c0 h
    exact K_ret dX8_factor_7 rfl h
theorem bX8_factor_25 {G : jGT} {d : Nat} {x1 : Int32} {M : jM} {post : jM → Prop} (h : (if (M 117 8) = (5 : Int32) then kX8_factor_39 G d x1 (1 : Int32) M post else kX8_factor_39 G d x1 (0 : Int32) M post)) : kX8_factor_25 G d  x1 M post := by
  unfold kX8_factor_25
  refine J_aload_0 dX8_factor_25 ?_
  refine J_aload_0 dX8_factor_26 ?_
  refine J_getI dX8_factor_27 fl_X8_87 jlt_117 jsh_117 (by decide) jrf_8_8 ?_
  refine J_iconst (5 : Int32) dX8_factor_30 (by decide) ?_
  refine J_icmp_ne (t := 38) dX8_factor_31 (by decide) (fun c0 => ?_) (fun c0 => ?_)
  · replace h := ite_f c0 h
    refine J_iconst (0 : Int32) dX8_factor_38 (by decide) ?_
    exact h
  · replace h := ite_t c0 h
    refine J_iconst (1 : Int32) dX8_factor_34 (by decide) ?_
    refine J_goto (t := 39) dX8_factor_35 (by decide) ?_
    exact h
theorem bX8_factor_39 {G : jGT} {d : Nat} {x1 : Int32} {s1 : Int32} {M : jM} {post : jM → Prop} (h : ((s1 = 0 ∨ s1 = 1) ∧ (if s1 = 0 then kX8_factor_69 G d x1 (M 117 5) (1 : Int32) (jup (jup M 117 7 s1) 117 8 ((M 117 8) + (1 : Int32))) post else kX8_factor_69 G d x1 (M 117 5) (0 : Int32) (jup (jup M 117 7 s1) 117 8 ((M 117 8) + (1 : Int32))) post))) : kX8_factor_39 G d  x1 s1 M post := by
  unfold kX8_factor_39
  obtain ⟨g0, h⟩ := h
  refine J_putI true dX8_factor_39 pl_X8_63 jlt_117 jsh_117 (by decide) jrf_8_7 (fun _ => g0) ?_
  refine J_aload_0 dX8_factor_42 ?_
  refine J_dup dX8_factor_43 rfl ?_
  refine J_getI dX8_factor_44 fl_X8_87 jlt_117 jsh_117 (by decide) jrf_8_8 ?_
  refine J_iconst (1 : Int32) dX8_factor_47 (by decide) ?_
  refine J_iadd dX8_factor_48 ?_
  refine J_putI false dX8_factor_49 pl_X8_87 jlt_117 jsh_117 (by decide) jrf_8_8 (fun q => absurd q (by decide)) ?_
  refine J_aload_0 dX8_factor_52 ?_
  refine J_dup dX8_factor_53 rfl ?_
  refine J_getI dX8_factor_54 fl_X8_57 jlt_117 jsh_117 (by decide) jrf_8_5 ?_
  refine J_aload_0 dX8_factor_57 ?_
  refine J_getI dX8_factor_58 fl_X8_63 jlt_117 jsh_117 (by decide) jrf_8_7 ?_
  refine J_if_eq (t := 68) dX8_factor_61 (by decide) (fun c1 => ?_) (fun c1 => ?_)
  · replace h := ite_t c1 h
    refine J_iconst (1 : Int32) dX8_factor_68 (by decide) ?_
    exact h
  · replace h := ite_f c1 h
    refine J_iconst (0 : Int32) dX8_factor_64 (by decide) ?_
    refine J_goto (t := 69) dX8_factor_65 (by decide) ?_
    exact h
theorem bX8_factor_69 {G : jGT} {d : Nat} {x1 : Int32} {s1 : Int32} {s2 : Int32} {M : jM} {post : jM → Prop} (h : (if x1 = (33 : Int32) then CV G d mX8_factor [.ref 117] (jup M 117 5 (s1 + s2)) (fun M3 => CV G d mX8_emits [.ref 117, .int (-1 : Int32)] M3 (fun M4 => kX8_factor_101 G d x1 M4 post)) else CV G d mX8_some [.ref 117] (jup M 117 5 (s1 + s2)) (fun M1 => CV G d mX8_must [.ref 117, .int (41 : Int32)] M1 (fun M2 => kX8_factor_101 G d x1 M2 post)))) : kX8_factor_69 G d  x1 s1 s2 M post := by
  unfold kX8_factor_69
  refine J_iadd dX8_factor_69 ?_
  refine J_putI false dX8_factor_70 pl_X8_57 jlt_117 jsh_117 (by decide) jrf_8_5 (fun q => absurd q (by decide)) ?_
  refine J_iload_1 dX8_factor_73 ?_
  refine J_bipush (33 : Int32) dX8_factor_74 (by decide) ?_
  refine J_icmp_ne (t := 91) dX8_factor_76 (by decide) (fun c0 => ?_) (fun c0 => ?_)
  · replace h := ite_f c0 h
    refine J_aload_0 dX8_factor_91 ?_
    refine K_callVV (As := []) (rest := []) dX8_factor_92 vl_X8_96 jlt_117 jsh_117 _ rfl rfl h rfl rfl (Nat.le_of_ble_eq_true rfl) (fun M1 h => ?_)
    refine J_aload_0 dX8_factor_95 ?_
    refine J_bipush (41 : Int32) dX8_factor_96 (by decide) ?_
    refine K_callVV (As := [.int (41 : Int32)]) (rest := []) dX8_factor_98 vl_X8_80 jlt_117 jsh_117 _ rfl rfl h rfl rfl (Nat.le_of_ble_eq_true rfl) (fun M2 h => ?_)
    exact h
  · replace h := ite_t c0 h
    refine J_aload_0 dX8_factor_79 ?_
    refine K_callVV (As := []) (rest := []) dX8_factor_80 vl_X8_90 jlt_117 jsh_117 _ rfl rfl h rfl rfl (Nat.le_of_ble_eq_true rfl) (fun M3 h => ?_)
    refine J_aload_0 dX8_factor_83 ?_
    refine J_iconst (-1 : Int32) dX8_factor_84 (by decide) ?_
    refine K_callVV (As := [.int (-1 : Int32)]) (rest := []) dX8_factor_85 vl_X8_93 jlt_117 jsh_117 _ rfl rfl h rfl rfl (Nat.le_of_ble_eq_true rfl) (fun M4 h => ?_)
    refine J_goto (t := 101) dX8_factor_88 (by decide) ?_
    exact h
theorem bX8_factor_101 {G : jGT} {d : Nat} {x1 : Int32} {M : jM} {post : jM → Prop} (h : post (jup M 117 8 ((M 117 8) - (1 : Int32)))) : kX8_factor_101 G d  x1 M post := by
  unfold kX8_factor_101
  refine J_aload_0 dX8_factor_101 ?_
  refine J_dup dX8_factor_102 rfl ?_
  refine J_getI dX8_factor_103 fl_X8_87 jlt_117 jsh_117 (by decide) jrf_8_8 ?_
  refine J_iconst (1 : Int32) dX8_factor_106 (by decide) ?_
  refine J_isub dX8_factor_107 ?_
  refine J_putI false dX8_factor_108 pl_X8_87 jlt_117 jsh_117 (by decide) jrf_8_8 (fun q => absurd q (by decide)) ?_
  exact K_ret dX8_factor_111 rfl h
theorem bX8_factor_130 {G : jGT} {d : Nat} {x1 : Int32} {x2 : Int32} {s1 : Int32} {M : jM} {post : jM → Prop} (h : ((s1 = 0 ∨ s1 = 1) ∧ (if s1 = 0 then CI G d mX8_among [.ref 117, .ref 3004] (jup M 117 7 s1) (fun r1 M1 => kX8_factor_150 G d x1 x2 r1 M1 post) else kX8_factor_150 G d x1 x2 (0 : Int32) (jup M 117 7 s1) post))) : kX8_factor_130 G d  x1 x2 s1 M post := by
  unfold kX8_factor_130
  obtain ⟨g0, h⟩ := h
  refine J_putI true dX8_factor_130 pl_X8_63 jlt_117 jsh_117 (by decide) jrf_8_7 (fun _ => g0) ?_
  refine J_aload_0 dX8_factor_133 ?_
  refine J_getI dX8_factor_134 fl_X8_63 jlt_117 jsh_117 (by decide) jrf_8_7 ?_
  refine J_if_eq (t := 144) dX8_factor_137 (by decide) (fun c1 => ?_) (fun c1 => ?_)
  · replace h := ite_t c1 h
    refine J_aload_0 dX8_factor_144 ?_
    refine J_ldcS (t := 4) (tx := "<=>") dX8_factor_145 (by decide +kernel) ?_
    refine K_callVI (As := [.ref 3004]) (rest := []) dX8_factor_147 vl_X8_101 jlt_117 jsh_117 _ rfl rfl h rfl rfl (Nat.le_of_ble_eq_true rfl) (fun r1 M1 h => ?_)
    exact h
  · replace h := ite_f c1 h
    refine J_iconst (0 : Int32) dX8_factor_140 (by decide) ?_
    refine J_goto (t := 150) dX8_factor_141 (by decide) ?_
    exact h
theorem bX8_factor_150 {G : jGT} {d : Nat} {x1 : Int32} {x2 : Int32} {s0 : Int32} {M : jM} {post : jM → Prop} (h : (if (M 117 7) = 0 then (if s0 = (-1 : Int32) then kX8_factor_164 G d x1 x2 s0 M post else kX8_factor_169 G d x1 x2 s0 (0 : Int32) M post) else kX8_factor_164 G d x1 x2 s0 M post)) : kX8_factor_150 G d  x1 x2 s0 M post := by
  unfold kX8_factor_150
  refine J_istore_3 dX8_factor_150 rfl ?_
  refine J_aload_0 dX8_factor_151 ?_
  refine J_aload_0 dX8_factor_152 ?_
  refine J_getI dX8_factor_153 fl_X8_63 jlt_117 jsh_117 (by decide) jrf_8_7 ?_
  refine J_if_ne (t := 164) dX8_factor_156 (by decide) (fun c0 => ?_) (fun c0 => ?_)
  · replace h := ite_f c0 h
    exact h
  · replace h := ite_t c0 h
    refine J_iload_3 dX8_factor_159 ?_
    refine J_iconst (-1 : Int32) dX8_factor_160 (by decide) ?_
    refine J_icmp_ne (t := 168) dX8_factor_161 (by decide) (fun c1 => ?_) (fun c1 => ?_)
    · replace h := ite_f c1 h
      refine J_iconst (0 : Int32) dX8_factor_168 (by decide) ?_
      exact h
    · replace h := ite_t c1 h
      exact h
theorem bX8_factor_164 {G : jGT} {d : Nat} {x1 : Int32} {x2 : Int32} {x3 : Int32} {M : jM} {post : jM → Prop} (h : kX8_factor_169 G d x1 x2 x3 (1 : Int32) M post) : kX8_factor_164 G d  x1 x2 x3 M post := by
  unfold kX8_factor_164
  refine J_iconst (1 : Int32) dX8_factor_164 (by decide) ?_
  refine J_goto (t := 169) dX8_factor_165 (by decide) ?_
  exact h
theorem bX8_factor_169 {G : jGT} {d : Nat} {x1 : Int32} {x2 : Int32} {x3 : Int32} {s1 : Int32} {M : jM} {post : jM → Prop} (h : ((s1 = 0 ∨ s1 = 1) ∧ CI G d mX8_figures [.ref 117] (jup M 117 7 s1) (fun r1 M1 => CV G d mX8_emits [.ref 117, .int ((x2 + ((8 : Int32) * x3)) + ((32 : Int32) * r1))] M1 (fun M2 => post M2)))) : kX8_factor_169 G d  x1 x2 x3 s1 M post := by
  unfold kX8_factor_169
  obtain ⟨g0, h⟩ := h
  refine J_putI true dX8_factor_169 pl_X8_63 jlt_117 jsh_117 (by decide) jrf_8_7 (fun _ => g0) ?_
  refine J_aload_0 dX8_factor_172 ?_
  refine K_callVI (As := []) (rest := []) dX8_factor_173 vl_X8_107 jlt_117 jsh_117 _ rfl rfl h rfl rfl (Nat.le_of_ble_eq_true rfl) (fun r1 M1 h => ?_)
  refine J_istore_4 dX8_factor_176 rfl ?_
  refine J_aload_0 dX8_factor_178 ?_
  refine J_iload_2 dX8_factor_179 ?_
  refine J_bipush (8 : Int32) dX8_factor_180 (by decide) ?_
  refine J_iload_3 dX8_factor_182 ?_
  refine J_imul dX8_factor_183 ?_
  refine J_iadd dX8_factor_184 ?_
  refine J_bipush (32 : Int32) dX8_factor_185 (by decide) ?_
  refine J_iload_4 dX8_factor_187 ?_
  refine J_imul dX8_factor_189 ?_
  refine J_iadd dX8_factor_190 ?_
  refine K_callVV (As := [.int ((x2 + ((8 : Int32) * x3)) + ((32 : Int32) * r1))]) (rest := []) dX8_factor_191 vl_X8_93 jlt_117 jsh_117 _ rfl rfl h rfl rfl (Nat.le_of_ble_eq_true rfl) (fun M2 h => ?_)
  exact K_ret dX8_factor_194 rfl h
theorem eX8_factor {G : jGT} {d : Nat}  {M : jM} {post : jM → Prop} (h : kX8_factor_0 G d   M post) : CV G (d + 1) mX8_factor [.ref 117] M post := Con_of_J ok_X8_factor 4 rfl rfl h
def kX8_every_0 (G : jGT) (d : Nat)   (M : jM) (post : jM → Prop) : Prop := J G (d + 1) mX8_every 0 [some (.ref 117)] [] jN jSH M jMR 0 0 0 0 (jQv post)
def kX8_every_4 (G : jGT) (d : Nat)   (M : jM) (post : jM → Prop) : Prop := J G (d + 1) mX8_every 4 [some (.ref 117)] [] jN jSH M jMR 0 0 0 0 (jQv post)
theorem bX8_every_0 {G : jGT} {d : Nat}  {M : jM} {post : jM → Prop} (h : CV G d mX8_factor [.ref 117] M (fun M1 => kX8_every_4 G d M1 post)) : kX8_every_0 G d   M post := by
  unfold kX8_every_0
  refine J_aload_0 dX8_every_0 ?_
  refine K_callVV (As := []) (rest := []) dX8_every_1 vl_X8_90 jlt_117 jsh_117 _ rfl rfl h rfl rfl (Nat.le_of_ble_eq_true rfl) (fun M1 h => ?_)
  exact h
theorem bX8_every_4 {G : jGT} {d : Nat}  {M : jM} {post : jM → Prop} (h : (if (M 117 7) = 0 then CI G d mX8_here [.ref 117] M (fun r1 M1 => (if r1 = (38 : Int32) then CV G d mX8_factor [.ref 117] (jup M1 117 5 ((M1 117 5) + (1 : Int32))) (fun M2 => CV G d mX8_emits [.ref 117, .int (-2 : Int32)] M2 (fun M3 => kX8_every_4 G d M3 post)) else post M1)) else post M)) : kX8_every_4 G d   M post := by
  unfold kX8_every_4
  refine J_aload_0 dX8_every_4 ?_
  refine J_getI dX8_every_5 fl_X8_63 jlt_117 jsh_117 (by decide) jrf_8_7 ?_
  refine J_if_ne (t := 43) dX8_every_8 (by decide) (fun c0 => ?_) (fun c0 => ?_)
  · replace h := ite_f c0 h
    exact K_ret dX8_every_43 rfl h
  · replace h := ite_t c0 h
    refine J_aload_0 dX8_every_11 ?_
    refine K_callVI (As := []) (rest := []) dX8_every_12 vl_X8_67 jlt_117 jsh_117 _ rfl rfl h rfl rfl (Nat.le_of_ble_eq_true rfl) (fun r1 M1 h => ?_)
    refine J_bipush (38 : Int32) dX8_every_15 (by decide) ?_
    refine J_icmp_ne (t := 43) dX8_every_17 (by decide) (fun c1 => ?_) (fun c1 => ?_)
    · replace h := ite_f c1 h
      exact K_ret dX8_every_43 rfl h
    · replace h := ite_t c1 h
      refine J_aload_0 dX8_every_20 ?_
      refine J_dup dX8_every_21 rfl ?_
      refine J_getI dX8_every_22 fl_X8_57 jlt_117 jsh_117 (by decide) jrf_8_5 ?_
      refine J_iconst (1 : Int32) dX8_every_25 (by decide) ?_
      refine J_iadd dX8_every_26 ?_
      refine J_putI false dX8_every_27 pl_X8_57 jlt_117 jsh_117 (by decide) jrf_8_5 (fun q => absurd q (by decide)) ?_
      refine J_aload_0 dX8_every_30 ?_
      refine K_callVV (As := []) (rest := []) dX8_every_31 vl_X8_90 jlt_117 jsh_117 _ rfl rfl h rfl rfl (Nat.le_of_ble_eq_true rfl) (fun M2 h => ?_)
      refine J_aload_0 dX8_every_34 ?_
      refine J_bipush (-2 : Int32) dX8_every_35 (by decide) ?_
      refine K_callVV (As := [.int (-2 : Int32)]) (rest := []) dX8_every_37 vl_X8_93 jlt_117 jsh_117 _ rfl rfl h rfl rfl (Nat.le_of_ble_eq_true rfl) (fun M3 h => ?_)
      refine J_goto (t := 4) dX8_every_40 (by decide) ?_
      exact h
theorem eX8_every {G : jGT} {d : Nat}  {M : jM} {post : jM → Prop} (h : kX8_every_0 G d   M post) : CV G (d + 1) mX8_every [.ref 117] M post := Con_of_J ok_X8_every 0 rfl rfl h
def kX8_some_0 (G : jGT) (d : Nat)   (M : jM) (post : jM → Prop) : Prop := J G (d + 1) mX8_some 0 [some (.ref 117)] [] jN jSH M jMR 0 0 0 0 (jQv post)
def kX8_some_4 (G : jGT) (d : Nat)   (M : jM) (post : jM → Prop) : Prop := J G (d + 1) mX8_some 4 [some (.ref 117)] [] jN jSH M jMR 0 0 0 0 (jQv post)
theorem bX8_some_0 {G : jGT} {d : Nat}  {M : jM} {post : jM → Prop} (h : CV G d mX8_every [.ref 117] M (fun M1 => kX8_some_4 G d M1 post)) : kX8_some_0 G d   M post := by
  unfold kX8_some_0
  refine J_aload_0 dX8_some_0 ?_
  refine K_callVV (As := []) (rest := []) dX8_some_1 vl_X8_110 jlt_117 jsh_117 _ rfl rfl h rfl rfl (Nat.le_of_ble_eq_true rfl) (fun M1 h => ?_)
  exact h
theorem bX8_some_4 {G : jGT} {d : Nat}  {M : jM} {post : jM → Prop} (h : (if (M 117 7) = 0 then CI G d mX8_here [.ref 117] M (fun r1 M1 => (if r1 = (124 : Int32) then CV G d mX8_every [.ref 117] (jup M1 117 5 ((M1 117 5) + (1 : Int32))) (fun M2 => CV G d mX8_emits [.ref 117, .int (-3 : Int32)] M2 (fun M3 => kX8_some_4 G d M3 post)) else post M1)) else post M)) : kX8_some_4 G d   M post := by
  unfold kX8_some_4
  refine J_aload_0 dX8_some_4 ?_
  refine J_getI dX8_some_5 fl_X8_63 jlt_117 jsh_117 (by decide) jrf_8_7 ?_
  refine J_if_ne (t := 43) dX8_some_8 (by decide) (fun c0 => ?_) (fun c0 => ?_)
  · replace h := ite_f c0 h
    exact K_ret dX8_some_43 rfl h
  · replace h := ite_t c0 h
    refine J_aload_0 dX8_some_11 ?_
    refine K_callVI (As := []) (rest := []) dX8_some_12 vl_X8_67 jlt_117 jsh_117 _ rfl rfl h rfl rfl (Nat.le_of_ble_eq_true rfl) (fun r1 M1 h => ?_)
    refine J_bipush (124 : Int32) dX8_some_15 (by decide) ?_
    refine J_icmp_ne (t := 43) dX8_some_17 (by decide) (fun c1 => ?_) (fun c1 => ?_)
    · replace h := ite_f c1 h
      exact K_ret dX8_some_43 rfl h
    · replace h := ite_t c1 h
      refine J_aload_0 dX8_some_20 ?_
      refine J_dup dX8_some_21 rfl ?_
      refine J_getI dX8_some_22 fl_X8_57 jlt_117 jsh_117 (by decide) jrf_8_5 ?_
      refine J_iconst (1 : Int32) dX8_some_25 (by decide) ?_
      refine J_iadd dX8_some_26 ?_
      refine J_putI false dX8_some_27 pl_X8_57 jlt_117 jsh_117 (by decide) jrf_8_5 (fun q => absurd q (by decide)) ?_
      refine J_aload_0 dX8_some_30 ?_
      refine K_callVV (As := []) (rest := []) dX8_some_31 vl_X8_110 jlt_117 jsh_117 _ rfl rfl h rfl rfl (Nat.le_of_ble_eq_true rfl) (fun M2 h => ?_)
      refine J_aload_0 dX8_some_34 ?_
      refine J_bipush (-3 : Int32) dX8_some_35 (by decide) ?_
      refine K_callVV (As := [.int (-3 : Int32)]) (rest := []) dX8_some_37 vl_X8_93 jlt_117 jsh_117 _ rfl rfl h rfl rfl (Nat.le_of_ble_eq_true rfl) (fun M3 h => ?_)
      refine J_goto (t := 4) dX8_some_40 (by decide) ?_
      exact h
theorem eX8_some {G : jGT} {d : Nat}  {M : jM} {post : jM → Prop} (h : kX8_some_0 G d   M post) : CV G (d + 1) mX8_some [.ref 117] M post := Con_of_J ok_X8_some 0 rfl rfl h
def kX8_muchW_0 (G : jGT) (d : Nat)  (x1 : Int32) (M : jM) (post : jM → Prop) : Prop := J G (d + 1) mX8_much 0 [some (.ref 117), some (.int x1), some (.ref 3000), none] [] jN jSH M jMR 0 0 0 0 (jQv post)
theorem bX8_muchW_0 {G : jGT} {d : Nat} {x1 : Int32} {M : jM} {post : jM → Prop} (h : CV G d mX8_spells [.ref 117, .ref 3000] M (fun M1 => CI G d mX8_figures [.ref 117] M1 (fun r2 M2 => CV G d mX8_must [.ref 117, .int (32 : Int32)] M2 (fun M3 => CV G d mX8_some [.ref 117] M3 (fun M4 => CV G d mX8_emits [.ref 117, .int (x1 - r2)] M4 (fun M5 => post M5)))))) : kX8_muchW_0 G d  x1 M post := by
  unfold kX8_muchW_0
  refine J_aload_0 dX8_much_0 ?_
  refine J_aload_2 dX8_much_1 ?_
  refine K_callVV (As := [.ref 3000]) (rest := []) dX8_much_2 vl_X8_113 jlt_117 jsh_117 _ rfl rfl h rfl rfl (Nat.le_of_ble_eq_true rfl) (fun M1 h => ?_)
  refine J_aload_0 dX8_much_5 ?_
  refine K_callVI (As := []) (rest := []) dX8_much_6 vl_X8_107 jlt_117 jsh_117 _ rfl rfl h rfl rfl (Nat.le_of_ble_eq_true rfl) (fun r2 M2 h => ?_)
  refine J_istore_3 dX8_much_9 rfl ?_
  refine J_aload_0 dX8_much_10 ?_
  refine J_bipush (32 : Int32) dX8_much_11 (by decide) ?_
  refine K_callVV (As := [.int (32 : Int32)]) (rest := []) dX8_much_13 vl_X8_80 jlt_117 jsh_117 _ rfl rfl h rfl rfl (Nat.le_of_ble_eq_true rfl) (fun M3 h => ?_)
  refine J_aload_0 dX8_much_16 ?_
  refine K_callVV (As := []) (rest := []) dX8_much_17 vl_X8_96 jlt_117 jsh_117 _ rfl rfl h rfl rfl (Nat.le_of_ble_eq_true rfl) (fun M4 h => ?_)
  refine J_aload_0 dX8_much_20 ?_
  refine J_iload_1 dX8_much_21 ?_
  refine J_iload_3 dX8_much_22 ?_
  refine J_isub dX8_much_23 ?_
  refine K_callVV (As := [.int (x1 - r2)]) (rest := []) dX8_much_24 vl_X8_93 jlt_117 jsh_117 _ rfl rfl h rfl rfl (Nat.le_of_ble_eq_true rfl) (fun M5 h => ?_)
  exact K_ret dX8_much_27 rfl h
theorem eX8_muchW {G : jGT} {d : Nat} {x1 : Int32} {M : jM} {post : jM → Prop} (h : kX8_muchW_0 G d  x1 M post) : CV G (d + 1) mX8_much [.ref 117, .int x1, .ref 3000] M post := Con_of_J ok_X8_much 1 rfl rfl h
def kX8_muchC_0 (G : jGT) (d : Nat)  (x1 : Int32) (M : jM) (post : jM → Prop) : Prop := J G (d + 1) mX8_much 0 [some (.ref 117), some (.int x1), some (.ref 3001), none] [] jN jSH M jMR 0 0 0 0 (jQv post)
theorem bX8_muchC_0 {G : jGT} {d : Nat} {x1 : Int32} {M : jM} {post : jM → Prop} (h : CV G d mX8_spells [.ref 117, .ref 3001] M (fun M1 => CI G d mX8_figures [.ref 117] M1 (fun r2 M2 => CV G d mX8_must [.ref 117, .int (32 : Int32)] M2 (fun M3 => CV G d mX8_some [.ref 117] M3 (fun M4 => CV G d mX8_emits [.ref 117, .int (x1 - r2)] M4 (fun M5 => post M5)))))) : kX8_muchC_0 G d  x1 M post := by
  unfold kX8_muchC_0
  refine J_aload_0 dX8_much_0 ?_
  refine J_aload_2 dX8_much_1 ?_
  refine K_callVV (As := [.ref 3001]) (rest := []) dX8_much_2 vl_X8_113 jlt_117 jsh_117 _ rfl rfl h rfl rfl (Nat.le_of_ble_eq_true rfl) (fun M1 h => ?_)
  refine J_aload_0 dX8_much_5 ?_
  refine K_callVI (As := []) (rest := []) dX8_much_6 vl_X8_107 jlt_117 jsh_117 _ rfl rfl h rfl rfl (Nat.le_of_ble_eq_true rfl) (fun r2 M2 h => ?_)
  refine J_istore_3 dX8_much_9 rfl ?_
  refine J_aload_0 dX8_much_10 ?_
  refine J_bipush (32 : Int32) dX8_much_11 (by decide) ?_
  refine K_callVV (As := [.int (32 : Int32)]) (rest := []) dX8_much_13 vl_X8_80 jlt_117 jsh_117 _ rfl rfl h rfl rfl (Nat.le_of_ble_eq_true rfl) (fun M3 h => ?_)
  refine J_aload_0 dX8_much_16 ?_
  refine K_callVV (As := []) (rest := []) dX8_much_17 vl_X8_96 jlt_117 jsh_117 _ rfl rfl h rfl rfl (Nat.le_of_ble_eq_true rfl) (fun M4 h => ?_)
  refine J_aload_0 dX8_much_20 ?_
  refine J_iload_1 dX8_much_21 ?_
  refine J_iload_3 dX8_much_22 ?_
  refine J_isub dX8_much_23 ?_
  refine K_callVV (As := [.int (x1 - r2)]) (rest := []) dX8_much_24 vl_X8_93 jlt_117 jsh_117 _ rfl rfl h rfl rfl (Nat.le_of_ble_eq_true rfl) (fun M5 h => ?_)
  exact K_ret dX8_much_27 rfl h
theorem eX8_muchC {G : jGT} {d : Nat} {x1 : Int32} {M : jM} {post : jM → Prop} (h : kX8_muchC_0 G d  x1 M post) : CV G (d + 1) mX8_much [.ref 117, .int x1, .ref 3001] M post := Con_of_J ok_X8_much 1 rfl rfl h
def kX8_clauseHere_0 (G : jGT) (d : Nat)   (M : jM) (post : jM → Prop) : Prop := J G (d + 1) mX8_clauseHere 0 [some (.ref 117), none] [] jN jSH M jMR 0 0 0 0 (jQv post)
theorem bX8_clauseHere_0 {G : jGT} {d : Nat}  {M : jM} {post : jM → Prop} (h : CI G d mX8_here [.ref 117] M (fun r1 M1 => (if r1 = (98 : Int32) then CV G d mX8_spells [.ref 117, .ref 3002] M1 (fun M2 => CI G d mX8_figures [.ref 117] M2 (fun r3 M3 => (if (M3 117 7) = 0 then (vp_in ((206 : Int32) + (M3 117 4)) 916 ∧ post (jup M3 118 (((206 : Int32) + (M3 117 4)).toNatClampNeg) r3)) else post M3))) else (if r1 = (99 : Int32) then CV G d mX8_much [.ref 117, .int (-200 : Int32), .ref 3001] M1 (fun M4 => post M4) else (if r1 = (119 : Int32) then CV G d mX8_much [.ref 117, .int (-10 : Int32), .ref 3000] M1 (fun M5 => post M5) else post (jup M1 117 7 (1 : Int32))))))) : kX8_clauseHere_0 G d   M post := by
  unfold kX8_clauseHere_0
  refine J_aload_0 dX8_clauseHere_0 ?_
  refine K_callVI (As := []) (rest := []) dX8_clauseHere_1 vl_X8_67 jlt_117 jsh_117 _ rfl rfl h rfl rfl (Nat.le_of_ble_eq_true rfl) (fun r1 M1 h => ?_)
  by_cases c0 : r1 = (98 : Int32)
  · replace h := ite_t c0 h
    refine J_lsw (off := 59) (t := 63) dX8_clauseHere_4 (by decide) (by rw [c0]; decide) (by decide) ?_
    refine J_aload_0 dX8_clauseHere_63 ?_
    refine J_ldcS (t := 2) (tx := "bar ") dX8_clauseHere_64 (by decide +kernel) ?_
    refine K_callVV (As := [.ref 3002]) (rest := []) dX8_clauseHere_66 vl_X8_113 jlt_117 jsh_117 _ rfl rfl h rfl rfl (Nat.le_of_ble_eq_true rfl) (fun M2 h => ?_)
    refine J_aload_0 dX8_clauseHere_69 ?_
    refine K_callVI (As := []) (rest := []) dX8_clauseHere_70 vl_X8_107 jlt_117 jsh_117 _ rfl rfl h rfl rfl (Nat.le_of_ble_eq_true rfl) (fun r3 M3 h => ?_)
    refine J_istore_1 dX8_clauseHere_73 rfl ?_
    refine J_aload_0 dX8_clauseHere_74 ?_
    refine J_getI dX8_clauseHere_75 fl_X8_63 jlt_117 jsh_117 (by decide) jrf_8_7 ?_
    refine J_if_ne (t := 103) dX8_clauseHere_78 (by decide) (fun c1 => ?_) (fun c1 => ?_)
    · replace h := ite_f c1 h
      exact K_ret dX8_clauseHere_103 rfl h
    · replace h := ite_t c1 h
      refine J_aload_0 dX8_clauseHere_81 ?_
      refine J_getR 118 dX8_clauseHere_82 fl_X8_9 jlt_117 jsh_117 (by decide) jrf_8_1 jmr_117_1 ?_
      refine J_sipush (206 : Int32) dX8_clauseHere_85 (by decide) ?_
      refine J_aload_0 dX8_clauseHere_88 ?_
      refine J_getI dX8_clauseHere_89 fl_X8_84 jlt_117 jsh_117 (by decide) jrf_8_4 ?_
      refine J_iadd dX8_clauseHere_92 ?_
      refine J_iload_1 dX8_clauseHere_93 ?_
      obtain ⟨g2, h⟩ := h
      refine K_iast (((206 : Int32) + (M3 117 4)).toNatClampNeg) rfl dX8_clauseHere_94 jlt_118 jsh_118 g2 ?_
      refine J_goto (t := 103) dX8_clauseHere_95 (by decide) ?_
      exact K_ret dX8_clauseHere_103 rfl h
  replace h := ite_f c0 h
  by_cases c1 : r1 = (99 : Int32)
  · replace h := ite_t c1 h
    refine J_lsw (off := 47) (t := 51) dX8_clauseHere_4 (by decide) (by rw [c1]; decide) (by decide) ?_
    refine J_aload_0 dX8_clauseHere_51 ?_
    refine J_sipush (-200 : Int32) dX8_clauseHere_52 (by decide) ?_
    refine J_ldcS (t := 1) (tx := "clash ") dX8_clauseHere_55 (by decide +kernel) ?_
    refine K_callVV (As := [.int (-200 : Int32), .ref 3001]) (rest := []) dX8_clauseHere_57 vl_X8_119 jlt_117 jsh_117 _ rfl rfl h rfl rfl (Nat.le_of_ble_eq_true rfl) (fun M4 h => ?_)
    refine J_goto (t := 103) dX8_clauseHere_60 (by decide) ?_
    exact K_ret dX8_clauseHere_103 rfl h
  replace h := ite_f c1 h
  by_cases c2 : r1 = (119 : Int32)
  · replace h := ite_t c2 h
    refine J_lsw (off := 36) (t := 40) dX8_clauseHere_4 (by decide) (by rw [c2]; decide) (by decide) ?_
    refine J_aload_0 dX8_clauseHere_40 ?_
    refine J_bipush (-10 : Int32) dX8_clauseHere_41 (by decide) ?_
    refine J_ldcS (t := 0) (tx := "weigh ") dX8_clauseHere_43 (by decide +kernel) ?_
    refine K_callVV (As := [.int (-10 : Int32), .ref 3000]) (rest := []) dX8_clauseHere_45 vl_X8_119 jlt_117 jsh_117 _ rfl rfl h rfl rfl (Nat.le_of_ble_eq_true rfl) (fun M5 h => ?_)
    refine J_goto (t := 103) dX8_clauseHere_48 (by decide) ?_
    exact K_ret dX8_clauseHere_103 rfl h
  replace h := ite_f c2 h
  refine J_lsw (off := 94) (t := 98) dX8_clauseHere_4 (by decide) (j_lswD _ _ _ (by simp only [List.forall_mem_cons, List.not_mem_nil, false_implies, implies_true, and_true]; exact ⟨fun q => c0 (Int32.toInt_inj.mp (q.trans (by decide))), fun q => c1 (Int32.toInt_inj.mp (q.trans (by decide))), fun q => c2 (Int32.toInt_inj.mp (q.trans (by decide)))⟩)) (by decide) ?_
  refine J_aload_0 dX8_clauseHere_98 ?_
  refine J_iconst (1 : Int32) dX8_clauseHere_99 (by decide) ?_
  refine J_putI true dX8_clauseHere_100 pl_X8_63 jlt_117 jsh_117 (by decide) jrf_8_7 (fun _ => by decide) ?_
  exact K_ret dX8_clauseHere_103 rfl h
theorem eX8_clauseHere {G : jGT} {d : Nat}  {M : jM} {post : jM → Prop} (h : kX8_clauseHere_0 G d   M post) : CV G (d + 1) mX8_clauseHere [.ref 117] M post := Con_of_J ok_X8_clauseHere 1 rfl rfl h
def kX8_court_0 (G : jGT) (d : Nat)   (M : jM) (post : Int32 → jM → Prop) : Prop := J G (d + 1) mX8_court 0 [some (.ref 117), none] [] jN jSH M jMR 0 0 0 0 (jQi post)
def kX8_court_89 (G : jGT) (d : Nat)  (x1 : Int32) (M : jM) (post : Int32 → jM → Prop) : Prop := J G (d + 1) mX8_court 89 [some (.ref 117), some (.int x1)] [] jN jSH M jMR 0 0 0 0 (jQi post)
theorem bX8_court_0 {G : jGT} {d : Nat}  {M : jM} {post : Int32 → jM → Prop} (h : (if (M 118 2) = (5 : Int32) then post (-4 : Int32) M else (vp_in ((206 : Int32) + (M 118 2)) 916 ∧ (vp_in ((211 : Int32) + (M 118 2)) 916 ∧ CV G d mX8_clauseHere [.ref 117] (jup (jup (jup (jup (jup (jup (jup (jup M 117 4 (M 118 2)) 117 6 (M 118 5)) 118 5 (0 : Int32)) 118 (((206 : Int32) + (M 118 2)).toNatClampNeg) (2 : Int32)) 118 (((211 : Int32) + (M 118 2)).toNatClampNeg) (0 : Int32)) 117 5 (0 : Int32)) 117 7 (0 : Int32)) 117 8 (0 : Int32)) (fun M1 => kX8_court_89 G d (1 : Int32) M1 post))))) : kX8_court_0 G d   M post := by
  unfold kX8_court_0
  refine J_aload_0 dX8_court_0 ?_
  refine J_getR 118 dX8_court_1 fl_X8_9 jlt_117 jsh_117 (by decide) jrf_8_1 jmr_117_1 ?_
  refine J_iconst (2 : Int32) dX8_court_4 (by decide) ?_
  refine K_iald 2 rfl dX8_court_5 jlt_118 jsh_118 (vp_lit (by decide)) ?_
  refine J_iconst (5 : Int32) dX8_court_6 (by decide) ?_
  refine J_icmp_ne (t := 13) dX8_court_7 (by decide) (fun c0 => ?_) (fun c0 => ?_)
  · replace h := ite_f c0 h
    refine J_aload_0 dX8_court_13 ?_
    refine J_aload_0 dX8_court_14 ?_
    refine J_getR 118 dX8_court_15 fl_X8_9 jlt_117 jsh_117 (by decide) jrf_8_1 jmr_117_1 ?_
    refine J_iconst (2 : Int32) dX8_court_18 (by decide) ?_
    refine K_iald 2 rfl dX8_court_19 jlt_118 jsh_118 (vp_lit (by decide)) ?_
    refine J_putI false dX8_court_20 pl_X8_84 jlt_117 jsh_117 (by decide) jrf_8_4 (fun q => absurd q (by decide)) ?_
    refine J_aload_0 dX8_court_23 ?_
    refine J_aload_0 dX8_court_24 ?_
    refine J_getR 118 dX8_court_25 fl_X8_9 jlt_117 jsh_117 (by decide) jrf_8_1 jmr_117_1 ?_
    refine J_iconst (5 : Int32) dX8_court_28 (by decide) ?_
    refine K_iald 5 rfl dX8_court_29 jlt_118 jsh_118 (vp_lit (by decide)) ?_
    refine J_putI false dX8_court_30 pl_X8_60 jlt_117 jsh_117 (by decide) jrf_8_6 (fun q => absurd q (by decide)) ?_
    refine J_aload_0 dX8_court_33 ?_
    refine J_getR 118 dX8_court_34 fl_X8_9 jlt_117 jsh_117 (by decide) jrf_8_1 jmr_117_1 ?_
    refine J_iconst (5 : Int32) dX8_court_37 (by decide) ?_
    refine J_iconst (0 : Int32) dX8_court_38 (by decide) ?_
    refine K_iast 5 rfl dX8_court_39 jlt_118 jsh_118 (vp_lit (by decide)) ?_
    refine J_aload_0 dX8_court_40 ?_
    refine J_getR 118 dX8_court_41 fl_X8_9 jlt_117 jsh_117 (by decide) jrf_8_1 jmr_117_1 ?_
    refine J_sipush (206 : Int32) dX8_court_44 (by decide) ?_
    refine J_aload_0 dX8_court_47 ?_
    refine J_getI dX8_court_48 fl_X8_84 jlt_117 jsh_117 (by decide) jrf_8_4 ?_
    refine J_iadd dX8_court_51 ?_
    refine J_iconst (2 : Int32) dX8_court_52 (by decide) ?_
    obtain ⟨g1, h⟩ := h
    refine K_iast (((206 : Int32) + (M 118 2)).toNatClampNeg) rfl dX8_court_53 jlt_118 jsh_118 g1 ?_
    refine J_aload_0 dX8_court_54 ?_
    refine J_getR 118 dX8_court_55 fl_X8_9 jlt_117 jsh_117 (by decide) jrf_8_1 jmr_117_1 ?_
    refine J_sipush (211 : Int32) dX8_court_58 (by decide) ?_
    refine J_aload_0 dX8_court_61 ?_
    refine J_getI dX8_court_62 fl_X8_84 jlt_117 jsh_117 (by decide) jrf_8_4 ?_
    refine J_iadd dX8_court_65 ?_
    refine J_iconst (0 : Int32) dX8_court_66 (by decide) ?_
    obtain ⟨g2, h⟩ := h
    refine K_iast (((211 : Int32) + (M 118 2)).toNatClampNeg) rfl dX8_court_67 jlt_118 jsh_118 g2 ?_
    refine J_aload_0 dX8_court_68 ?_
    refine J_iconst (0 : Int32) dX8_court_69 (by decide) ?_
    refine J_putI false dX8_court_70 pl_X8_57 jlt_117 jsh_117 (by decide) jrf_8_5 (fun q => absurd q (by decide)) ?_
    refine J_aload_0 dX8_court_73 ?_
    refine J_iconst (0 : Int32) dX8_court_74 (by decide) ?_
    refine J_putI true dX8_court_75 pl_X8_63 jlt_117 jsh_117 (by decide) jrf_8_7 (fun _ => by decide) ?_
    refine J_aload_0 dX8_court_78 ?_
    refine J_iconst (0 : Int32) dX8_court_79 (by decide) ?_
    refine J_putI false dX8_court_80 pl_X8_87 jlt_117 jsh_117 (by decide) jrf_8_8 (fun q => absurd q (by decide)) ?_
    refine J_iconst (1 : Int32) dX8_court_83 (by decide) ?_
    refine J_istore_1 dX8_court_84 rfl ?_
    refine J_aload_0 dX8_court_85 ?_
    refine K_callVV (As := []) (rest := []) dX8_court_86 vl_X8_127 jlt_117 jsh_117 _ rfl rfl h rfl rfl (Nat.le_of_ble_eq_true rfl) (fun M1 h => ?_)
    exact h
  · replace h := ite_t c0 h
    refine J_bipush (-4 : Int32) dX8_court_10 (by decide) ?_
    exact K_iret dX8_court_12 rfl h
theorem bX8_court_89 {G : jGT} {d : Nat} {x1 : Int32} {M : jM} {post : Int32 → jM → Prop} (h : (if (M 117 7) = 0 then (if (10 : Int32) ≤ x1 then (if (M 117 7) = 0 then (if (M 117 5) = (M 117 6) then post (M 117 4) (jup (jup M 118 2 ((M 118 2) + (1 : Int32))) 118 6 (M 117 4)) else post ((-10 : Int32) - (M 117 5)) M) else post ((-10 : Int32) - (M 117 5)) M) else CI G d mX8_here [.ref 117] M (fun r1 M1 => (if r1 = (59 : Int32) then CV G d mX8_clauseHere [.ref 117] (jup M1 117 5 ((M1 117 5) + (1 : Int32))) (fun M2 => kX8_court_89 G d (x1 + (1 : Int32)) M2 post) else (if (M1 117 7) = 0 then (if (M1 117 5) = (M1 117 6) then post (M1 117 4) (jup (jup M1 118 2 ((M1 118 2) + (1 : Int32))) 118 6 (M1 117 4)) else post ((-10 : Int32) - (M1 117 5)) M1) else post ((-10 : Int32) - (M1 117 5)) M1)))) else (if (M 117 7) = 0 then (if (M 117 5) = (M 117 6) then post (M 117 4) (jup (jup M 118 2 ((M 118 2) + (1 : Int32))) 118 6 (M 117 4)) else post ((-10 : Int32) - (M 117 5)) M) else post ((-10 : Int32) - (M 117 5)) M))) : kX8_court_89 G d  x1 M post := by
  unfold kX8_court_89
  refine J_aload_0 dX8_court_89 ?_
  refine J_getI dX8_court_90 fl_X8_63 jlt_117 jsh_117 (by decide) jrf_8_7 ?_
  refine J_if_ne (t := 131) dX8_court_93 (by decide) (fun c0 => ?_) (fun c0 => ?_)
  · replace h := ite_f c0 h
    refine J_aload_0 dX8_court_131 ?_
    refine J_getI dX8_court_132 fl_X8_63 jlt_117 jsh_117 (by decide) jrf_8_7 ?_
    refine J_if_ne (t := 149) dX8_court_135 (by decide) (fun c1 => ?_) (fun c1 => ?_)
    · replace h := ite_f c1 h
      refine J_bipush (-10 : Int32) dX8_court_149 (by decide) ?_
      refine J_aload_0 dX8_court_151 ?_
      refine J_getI dX8_court_152 fl_X8_57 jlt_117 jsh_117 (by decide) jrf_8_5 ?_
      refine J_isub dX8_court_155 ?_
      exact K_iret dX8_court_156 rfl h
    · replace h := ite_t c1 h
      refine J_aload_0 dX8_court_138 ?_
      refine J_getI dX8_court_139 fl_X8_57 jlt_117 jsh_117 (by decide) jrf_8_5 ?_
      refine J_aload_0 dX8_court_142 ?_
      refine J_getI dX8_court_143 fl_X8_60 jlt_117 jsh_117 (by decide) jrf_8_6 ?_
      refine J_icmp_eq (t := 157) dX8_court_146 (by decide) (fun c2 => ?_) (fun c2 => ?_)
      · replace h := ite_t c2 h
        refine J_aload_0 dX8_court_157 ?_
        refine J_getR 118 dX8_court_158 fl_X8_9 jlt_117 jsh_117 (by decide) jrf_8_1 jmr_117_1 ?_
        refine J_iconst (2 : Int32) dX8_court_161 (by decide) ?_
        refine J_dup2 dX8_court_162 rfl rfl ?_
        refine K_iald 2 rfl dX8_court_163 jlt_118 jsh_118 (vp_lit (by decide)) ?_
        refine J_iconst (1 : Int32) dX8_court_164 (by decide) ?_
        refine J_iadd dX8_court_165 ?_
        refine K_iast 2 rfl dX8_court_166 jlt_118 jsh_118 (vp_lit (by decide)) ?_
        refine J_aload_0 dX8_court_167 ?_
        refine J_getR 118 dX8_court_168 fl_X8_9 jlt_117 jsh_117 (by decide) jrf_8_1 jmr_117_1 ?_
        refine J_bipush (6 : Int32) dX8_court_171 (by decide) ?_
        refine J_aload_0 dX8_court_173 ?_
        refine J_getI dX8_court_174 fl_X8_84 jlt_117 jsh_117 (by decide) jrf_8_4 ?_
        refine K_iast 6 rfl dX8_court_177 jlt_118 jsh_118 (vp_lit (by decide)) ?_
        refine J_aload_0 dX8_court_178 ?_
        refine J_getI dX8_court_179 fl_X8_84 jlt_117 jsh_117 (by decide) jrf_8_4 ?_
        exact K_iret dX8_court_182 rfl h
      · replace h := ite_f c2 h
        refine J_bipush (-10 : Int32) dX8_court_149 (by decide) ?_
        refine J_aload_0 dX8_court_151 ?_
        refine J_getI dX8_court_152 fl_X8_57 jlt_117 jsh_117 (by decide) jrf_8_5 ?_
        refine J_isub dX8_court_155 ?_
        exact K_iret dX8_court_156 rfl h
  · replace h := ite_t c0 h
    refine J_iload_1 dX8_court_96 ?_
    refine J_bipush (10 : Int32) dX8_court_97 (by decide) ?_
    refine J_icmp_ge (t := 131) dX8_court_99 (by decide) (fun c1 => ?_) (fun c1 => ?_)
    · replace h := ite_t c1 h
      refine J_aload_0 dX8_court_131 ?_
      refine J_getI dX8_court_132 fl_X8_63 jlt_117 jsh_117 (by decide) jrf_8_7 ?_
      refine J_if_ne (t := 149) dX8_court_135 (by decide) (fun c2 => ?_) (fun c2 => ?_)
      · replace h := ite_f c2 h
        refine J_bipush (-10 : Int32) dX8_court_149 (by decide) ?_
        refine J_aload_0 dX8_court_151 ?_
        refine J_getI dX8_court_152 fl_X8_57 jlt_117 jsh_117 (by decide) jrf_8_5 ?_
        refine J_isub dX8_court_155 ?_
        exact K_iret dX8_court_156 rfl h
      · replace h := ite_t c2 h
        refine J_aload_0 dX8_court_138 ?_
        refine J_getI dX8_court_139 fl_X8_57 jlt_117 jsh_117 (by decide) jrf_8_5 ?_
        refine J_aload_0 dX8_court_142 ?_
        refine J_getI dX8_court_143 fl_X8_60 jlt_117 jsh_117 (by decide) jrf_8_6 ?_
        refine J_icmp_eq (t := 157) dX8_court_146 (by decide) (fun c3 => ?_) (fun c3 => ?_)
        · replace h := ite_t c3 h
          refine J_aload_0 dX8_court_157 ?_
          refine J_getR 118 dX8_court_158 fl_X8_9 jlt_117 jsh_117 (by decide) jrf_8_1 jmr_117_1 ?_
          refine J_iconst (2 : Int32) dX8_court_161 (by decide) ?_
          refine J_dup2 dX8_court_162 rfl rfl ?_
          refine K_iald 2 rfl dX8_court_163 jlt_118 jsh_118 (vp_lit (by decide)) ?_
          refine J_iconst (1 : Int32) dX8_court_164 (by decide) ?_
          refine J_iadd dX8_court_165 ?_
          refine K_iast 2 rfl dX8_court_166 jlt_118 jsh_118 (vp_lit (by decide)) ?_
          refine J_aload_0 dX8_court_167 ?_
          refine J_getR 118 dX8_court_168 fl_X8_9 jlt_117 jsh_117 (by decide) jrf_8_1 jmr_117_1 ?_
          refine J_bipush (6 : Int32) dX8_court_171 (by decide) ?_
          refine J_aload_0 dX8_court_173 ?_
          refine J_getI dX8_court_174 fl_X8_84 jlt_117 jsh_117 (by decide) jrf_8_4 ?_
          refine K_iast 6 rfl dX8_court_177 jlt_118 jsh_118 (vp_lit (by decide)) ?_
          refine J_aload_0 dX8_court_178 ?_
          refine J_getI dX8_court_179 fl_X8_84 jlt_117 jsh_117 (by decide) jrf_8_4 ?_
          exact K_iret dX8_court_182 rfl h
        · replace h := ite_f c3 h
          refine J_bipush (-10 : Int32) dX8_court_149 (by decide) ?_
          refine J_aload_0 dX8_court_151 ?_
          refine J_getI dX8_court_152 fl_X8_57 jlt_117 jsh_117 (by decide) jrf_8_5 ?_
          refine J_isub dX8_court_155 ?_
          exact K_iret dX8_court_156 rfl h
    · replace h := ite_f c1 h
      refine J_aload_0 dX8_court_102 ?_
      refine K_callVI (As := []) (rest := []) dX8_court_103 vl_X8_67 jlt_117 jsh_117 _ rfl rfl h rfl rfl (Nat.le_of_ble_eq_true rfl) (fun r1 M1 h => ?_)
      refine J_bipush (59 : Int32) dX8_court_106 (by decide) ?_
      refine J_icmp_ne (t := 131) dX8_court_108 (by decide) (fun c2 => ?_) (fun c2 => ?_)
      · replace h := ite_f c2 h
        refine J_aload_0 dX8_court_131 ?_
        refine J_getI dX8_court_132 fl_X8_63 jlt_117 jsh_117 (by decide) jrf_8_7 ?_
        refine J_if_ne (t := 149) dX8_court_135 (by decide) (fun c3 => ?_) (fun c3 => ?_)
        · replace h := ite_f c3 h
          refine J_bipush (-10 : Int32) dX8_court_149 (by decide) ?_
          refine J_aload_0 dX8_court_151 ?_
          refine J_getI dX8_court_152 fl_X8_57 jlt_117 jsh_117 (by decide) jrf_8_5 ?_
          refine J_isub dX8_court_155 ?_
          exact K_iret dX8_court_156 rfl h
        · replace h := ite_t c3 h
          refine J_aload_0 dX8_court_138 ?_
          refine J_getI dX8_court_139 fl_X8_57 jlt_117 jsh_117 (by decide) jrf_8_5 ?_
          refine J_aload_0 dX8_court_142 ?_
          refine J_getI dX8_court_143 fl_X8_60 jlt_117 jsh_117 (by decide) jrf_8_6 ?_
          refine J_icmp_eq (t := 157) dX8_court_146 (by decide) (fun c4 => ?_) (fun c4 => ?_)
          · replace h := ite_t c4 h
            refine J_aload_0 dX8_court_157 ?_
            refine J_getR 118 dX8_court_158 fl_X8_9 jlt_117 jsh_117 (by decide) jrf_8_1 jmr_117_1 ?_
            refine J_iconst (2 : Int32) dX8_court_161 (by decide) ?_
            refine J_dup2 dX8_court_162 rfl rfl ?_
            refine K_iald 2 rfl dX8_court_163 jlt_118 jsh_118 (vp_lit (by decide)) ?_
            refine J_iconst (1 : Int32) dX8_court_164 (by decide) ?_
            refine J_iadd dX8_court_165 ?_
            refine K_iast 2 rfl dX8_court_166 jlt_118 jsh_118 (vp_lit (by decide)) ?_
            refine J_aload_0 dX8_court_167 ?_
            refine J_getR 118 dX8_court_168 fl_X8_9 jlt_117 jsh_117 (by decide) jrf_8_1 jmr_117_1 ?_
            refine J_bipush (6 : Int32) dX8_court_171 (by decide) ?_
            refine J_aload_0 dX8_court_173 ?_
            refine J_getI dX8_court_174 fl_X8_84 jlt_117 jsh_117 (by decide) jrf_8_4 ?_
            refine K_iast 6 rfl dX8_court_177 jlt_118 jsh_118 (vp_lit (by decide)) ?_
            refine J_aload_0 dX8_court_178 ?_
            refine J_getI dX8_court_179 fl_X8_84 jlt_117 jsh_117 (by decide) jrf_8_4 ?_
            exact K_iret dX8_court_182 rfl h
          · replace h := ite_f c4 h
            refine J_bipush (-10 : Int32) dX8_court_149 (by decide) ?_
            refine J_aload_0 dX8_court_151 ?_
            refine J_getI dX8_court_152 fl_X8_57 jlt_117 jsh_117 (by decide) jrf_8_5 ?_
            refine J_isub dX8_court_155 ?_
            exact K_iret dX8_court_156 rfl h
      · replace h := ite_t c2 h
        refine J_aload_0 dX8_court_111 ?_
        refine J_dup dX8_court_112 rfl ?_
        refine J_getI dX8_court_113 fl_X8_57 jlt_117 jsh_117 (by decide) jrf_8_5 ?_
        refine J_iconst (1 : Int32) dX8_court_116 (by decide) ?_
        refine J_iadd dX8_court_117 ?_
        refine J_putI false dX8_court_118 pl_X8_57 jlt_117 jsh_117 (by decide) jrf_8_5 (fun q => absurd q (by decide)) ?_
        refine J_aload_0 dX8_court_121 ?_
        refine K_callVV (As := []) (rest := []) dX8_court_122 vl_X8_127 jlt_117 jsh_117 _ rfl rfl h rfl rfl (Nat.le_of_ble_eq_true rfl) (fun M2 h => ?_)
        refine J_iinc_1 (1 : Int32) dX8_court_125 (by decide) rfl ?_
        refine J_goto (t := 89) dX8_court_128 (by decide) ?_
        exact h
theorem eX8_court {G : jGT} {d : Nat}  {M : jM} {post : Int32 → jM → Prop} (h : kX8_court_0 G d   M post) : CI G (d + 1) mX8_court [.ref 117] M post := Con_of_J ok_X8_court 1 rfl rfl h
def kX8_barNow_0 (G : jGT) (d : Nat)   (M : jM) (post : Int32 → jM → Prop) : Prop := J G d mX8_barNow 0 [some (.ref 117)] [] jN jSH M jMR 0 0 0 0 (jQi post)
theorem bX8_barNow_0 {G : jGT} {d : Nat}  {M : jM} {post : Int32 → jM → Prop} (h : (if (M 118 6) = (-1 : Int32) then post (2 : Int32) M else (vp_in ((206 : Int32) + (M 118 6)) 916 ∧ post (M 118 (((206 : Int32) + (M 118 6)).toNatClampNeg)) M))) : kX8_barNow_0 G d   M post := by
  unfold kX8_barNow_0
  refine J_aload_0 dX8_barNow_0 ?_
  refine J_getR 118 dX8_barNow_1 fl_X8_9 jlt_117 jsh_117 (by decide) jrf_8_1 jmr_117_1 ?_
  refine J_bipush (6 : Int32) dX8_barNow_4 (by decide) ?_
  refine K_iald 6 rfl dX8_barNow_6 jlt_118 jsh_118 (vp_lit (by decide)) ?_
  refine J_iconst (-1 : Int32) dX8_barNow_7 (by decide) ?_
  refine J_icmp_ne (t := 15) dX8_barNow_8 (by decide) (fun c0 => ?_) (fun c0 => ?_)
  · replace h := ite_f c0 h
    refine J_aload_0 dX8_barNow_15 ?_
    refine J_getR 118 dX8_barNow_16 fl_X8_9 jlt_117 jsh_117 (by decide) jrf_8_1 jmr_117_1 ?_
    refine J_sipush (206 : Int32) dX8_barNow_19 (by decide) ?_
    refine J_aload_0 dX8_barNow_22 ?_
    refine J_getR 118 dX8_barNow_23 fl_X8_9 jlt_117 jsh_117 (by decide) jrf_8_1 jmr_117_1 ?_
    refine J_bipush (6 : Int32) dX8_barNow_26 (by decide) ?_
    refine K_iald 6 rfl dX8_barNow_28 jlt_118 jsh_118 (vp_lit (by decide)) ?_
    refine J_iadd dX8_barNow_29 ?_
    obtain ⟨g1, h⟩ := h
    refine K_iald (((206 : Int32) + (M 118 6)).toNatClampNeg) rfl dX8_barNow_30 jlt_118 jsh_118 g1 ?_
    exact K_iret dX8_barNow_31 rfl h
  · replace h := ite_t c0 h
    refine J_iconst (2 : Int32) dX8_barNow_11 (by decide) ?_
    refine J_goto (t := 31) dX8_barNow_12 (by decide) ?_
    exact K_iret dX8_barNow_31 rfl h
theorem eX8_barNow {G : jGT} {d : Nat}  {M : jM} {post : Int32 → jM → Prop} (h : kX8_barNow_0 G d   M post) : CI G d mX8_barNow [.ref 117] M post := Con_of_J ok_X8_barNow 0 rfl rfl h
