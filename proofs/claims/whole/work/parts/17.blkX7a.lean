def kX7_feed_0 (G : jGT) (d : Nat)  (x1 : Int32) (M : jM) (post : Int32 → jM → Prop) : Prop := J G d mX7_feed 0 [some (.ref 0), some (.int x1)] [] jN jSH M jMR 0 0 0 0 (jQi post)
theorem bX7_feed_0 {G : jGT} {d : Nat} {x1 : Int32} {M : jM} {post : Int32 → jM → Prop} (h : (if x1 < 0 then post (-2 : Int32) M else (if x1 ≤ (127 : Int32) then (if (M 1 12) < 0 then post (-4 : Int32) M else (if (M 1 12) < (100 : Int32) then (vp_in (M 1 12) 100 ∧ post ((M 1 12) + (1 : Int32)) (jup (jup M 9 ((M 1 12).toNatClampNeg) (vp_nar .byte x1.toInt8.toInt32)) 1 12 ((M 1 12) + (1 : Int32)))) else post (-4 : Int32) M)) else post (-2 : Int32) M))) : kX7_feed_0 G d  x1 M post := by
  unfold kX7_feed_0
  refine J_iload_1 dX7_feed_0 ?_
  refine J_if_lt (t := 10) dX7_feed_1 (by decide) (fun c0 => ?_) (fun c0 => ?_)
  · replace h := ite_t c0 h
    refine J_bipush (-2 : Int32) dX7_feed_10 (by decide) ?_
    exact K_iret dX7_feed_12 rfl h
  · replace h := ite_f c0 h
    refine J_iload_1 dX7_feed_4 ?_
    refine J_bipush (127 : Int32) dX7_feed_5 (by decide) ?_
    refine J_icmp_le (t := 13) dX7_feed_7 (by decide) (fun c1 => ?_) (fun c1 => ?_)
    · replace h := ite_t c1 h
      refine J_aload_0 dX7_feed_13 ?_
      refine J_getR 1 dX7_feed_14 fl_X7_14 jlt_0 jsh_0 (by decide) jrf_7_0 jmr_0_0 ?_
      refine J_getI dX7_feed_17 fl_X7_62 jlt_1 jsh_1 (by decide) jrf_2_12 ?_
      refine J_if_lt (t := 35) dX7_feed_20 (by decide) (fun c2 => ?_) (fun c2 => ?_)
      · replace h := ite_t c2 h
        refine J_bipush (-4 : Int32) dX7_feed_35 (by decide) ?_
        exact K_iret dX7_feed_37 rfl h
      · replace h := ite_f c2 h
        refine J_aload_0 dX7_feed_23 ?_
        refine J_getR 1 dX7_feed_24 fl_X7_14 jlt_0 jsh_0 (by decide) jrf_7_0 jmr_0_0 ?_
        refine J_getI dX7_feed_27 fl_X7_62 jlt_1 jsh_1 (by decide) jrf_2_12 ?_
        refine J_bipush (100 : Int32) dX7_feed_30 (by decide) ?_
        refine J_icmp_lt (t := 38) dX7_feed_32 (by decide) (fun c3 => ?_) (fun c3 => ?_)
        · replace h := ite_t c3 h
          refine J_aload_0 dX7_feed_38 ?_
          refine J_getR 1 dX7_feed_39 fl_X7_14 jlt_0 jsh_0 (by decide) jrf_7_0 jmr_0_0 ?_
          refine J_getR 9 dX7_feed_42 fl_X7_66 jlt_1 jsh_1 (by decide) jrf_2_13 jmr_1_13 ?_
          refine J_aload_0 dX7_feed_45 ?_
          refine J_getR 1 dX7_feed_46 fl_X7_14 jlt_0 jsh_0 (by decide) jrf_7_0 jmr_0_0 ?_
          refine J_getI dX7_feed_49 fl_X7_62 jlt_1 jsh_1 (by decide) jrf_2_12 ?_
          refine J_iload_1 dX7_feed_52 ?_
          refine J_i2b dX7_feed_53 ?_
          obtain ⟨g4, h⟩ := h
          refine K_bast ((M 1 12).toNatClampNeg) rfl dX7_feed_54 jlt_9 jsh_9 g4 ?_
          refine J_aload_0 dX7_feed_55 ?_
          refine J_getR 1 dX7_feed_56 fl_X7_14 jlt_0 jsh_0 (by decide) jrf_7_0 jmr_0_0 ?_
          refine J_dup dX7_feed_59 rfl ?_
          refine J_getI dX7_feed_60 fl_X7_62 jlt_1 jsh_1 (by decide) jrf_2_12 ?_
          refine J_iconst (1 : Int32) dX7_feed_63 (by decide) ?_
          refine J_iadd dX7_feed_64 ?_
          refine J_putI false dX7_feed_65 pl_X7_62 jlt_1 jsh_1 (by decide) jrf_2_12 (fun q => absurd q (by decide)) ?_
          refine J_aload_0 dX7_feed_68 ?_
          refine J_getR 1 dX7_feed_69 fl_X7_14 jlt_0 jsh_0 (by decide) jrf_7_0 jmr_0_0 ?_
          refine J_getI dX7_feed_72 fl_X7_62 jlt_1 jsh_1 (by decide) jrf_2_12 ?_
          exact K_iret dX7_feed_75 rfl h
        · replace h := ite_f c3 h
          refine J_bipush (-4 : Int32) dX7_feed_35 (by decide) ?_
          exact K_iret dX7_feed_37 rfl h
    · replace h := ite_f c1 h
      refine J_bipush (-2 : Int32) dX7_feed_10 (by decide) ?_
      exact K_iret dX7_feed_12 rfl h
theorem eX7_feed {G : jGT} {d : Nat} {x1 : Int32} {M : jM} {post : Int32 → jM → Prop} (h : kX7_feed_0 G d  x1 M post) : CI G d mX7_feed [.ref 0, .int x1] M post := Con_of_J ok_X7_feed 0 rfl rfl h
def kX7_court_0 (G : jGT) (d : Nat)   (M : jM) (post : Int32 → jM → Prop) : Prop := J G (d + 1) mX7_court 0 [some (.ref 0), none, none, none] [] jN jSH M jMR 0 0 0 0 (jQi post)
def kX7_court_60 (G : jGT) (d : Nat)  (x1 : Int32) (x2 : Int32) (x3 : Int32) (M : jM) (post : Int32 → jM → Prop) : Prop := J G (d + 1) mX7_court 60 [some (.ref 0), some (.int x1), some (.int x2), some (.int x3)] [] jN jSH M jMR 0 0 0 0 (jQi post)
theorem bX7_court_0 {G : jGT} {d : Nat}  {M : jM} {post : Int32 → jM → Prop} (h : (if (M 1 14) < (5 : Int32) then CI G d mX3_learn [.ref 21, .ref 9, .int (M 1 12), .int (0 : Int32), .int (0 : Int32), .int (0 : Int32)] (jup M 1 12 (0 : Int32)) (fun r1 M1 => (if r1 < 0 then kX7_court_60 G d (M 1 12) r1 (0 : Int32) M1 post else post ((-10 : Int32) - r1) M1)) else post (-4 : Int32) M)) : kX7_court_0 G d   M post := by
  unfold kX7_court_0
  refine J_aload_0 dX7_court_0 ?_
  refine J_getR 1 dX7_court_1 fl_X7_14 jlt_0 jsh_0 (by decide) jrf_7_0 jmr_0_0 ?_
  refine J_getI dX7_court_4 fl_X7_70 jlt_1 jsh_1 (by decide) jrf_2_14 ?_
  refine J_iconst (5 : Int32) dX7_court_7 (by decide) ?_
  refine J_icmp_lt (t := 14) dX7_court_8 (by decide) (fun c0 => ?_) (fun c0 => ?_)
  · replace h := ite_t c0 h
    refine J_aload_0 dX7_court_14 ?_
    refine J_getR 1 dX7_court_15 fl_X7_14 jlt_0 jsh_0 (by decide) jrf_7_0 jmr_0_0 ?_
    refine J_getI dX7_court_18 fl_X7_62 jlt_1 jsh_1 (by decide) jrf_2_12 ?_
    refine J_istore_1 dX7_court_21 rfl ?_
    refine J_aload_0 dX7_court_22 ?_
    refine J_getR 1 dX7_court_23 fl_X7_14 jlt_0 jsh_0 (by decide) jrf_7_0 jmr_0_0 ?_
    refine J_iconst (0 : Int32) dX7_court_26 (by decide) ?_
    refine J_putI false dX7_court_27 pl_X7_62 jlt_1 jsh_1 (by decide) jrf_2_12 (fun q => absurd q (by decide)) ?_
    refine J_aload_0 dX7_court_30 ?_
    refine J_getR 21 dX7_court_31 fl_X7_28 jlt_0 jsh_0 (by decide) jrf_7_3 jmr_0_3 ?_
    refine J_aload_0 dX7_court_34 ?_
    refine J_getR 1 dX7_court_35 fl_X7_14 jlt_0 jsh_0 (by decide) jrf_7_0 jmr_0_0 ?_
    refine J_getR 9 dX7_court_38 fl_X7_66 jlt_1 jsh_1 (by decide) jrf_2_13 jmr_1_13 ?_
    refine J_iload_1 dX7_court_41 ?_
    refine J_iconst (0 : Int32) dX7_court_42 (by decide) ?_
    refine J_iconst (0 : Int32) dX7_court_43 (by decide) ?_
    refine J_iconst (0 : Int32) dX7_court_44 (by decide) ?_
    refine K_callVI (As := [.ref 9, .int (M 1 12), .int (0 : Int32), .int (0 : Int32), .int (0 : Int32)]) (rest := []) dX7_court_45 vl_X7_73 jlt_21 jsh_21 _ rfl rfl h rfl rfl (Nat.le_of_ble_eq_true rfl) (fun r1 M1 h => ?_)
    refine J_istore_2 dX7_court_48 rfl ?_
    refine J_iload_2 dX7_court_49 ?_
    refine J_if_lt (t := 58) dX7_court_50 (by decide) (fun c1 => ?_) (fun c1 => ?_)
    · replace h := ite_t c1 h
      refine J_iconst (0 : Int32) dX7_court_58 (by decide) ?_
      refine J_istore_3 dX7_court_59 rfl ?_
      exact h
    · replace h := ite_f c1 h
      refine J_bipush (-10 : Int32) dX7_court_53 (by decide) ?_
      refine J_iload_2 dX7_court_55 ?_
      refine J_isub dX7_court_56 ?_
      exact K_iret dX7_court_57 rfl h
  · replace h := ite_f c0 h
    refine J_bipush (-4 : Int32) dX7_court_11 (by decide) ?_
    exact K_iret dX7_court_13 rfl h
theorem bX7_court_60 {G : jGT} {d : Nat} {x1 : Int32} {x2 : Int32} {x3 : Int32} {M : jM} {post : Int32 → jM → Prop} (h : (if x1 ≤ x3 then post (((M 1 14) + (1 : Int32)) - (1 : Int32)) (jup (jup M 1 15 x1) 1 14 ((M 1 14) + (1 : Int32))) else (if (100 : Int32) ≤ x3 then post (((M 1 14) + (1 : Int32)) - (1 : Int32)) (jup (jup M 1 15 x1) 1 14 ((M 1 14) + (1 : Int32))) else (vp_in x3 100 ∧ (vp_in x3 100 ∧ kX7_court_60 G d x1 x2 (x3 + (1 : Int32)) (jup M 10 x3.toNatClampNeg (vp_nar .byte (M 9 x3.toNatClampNeg))) post))))) : kX7_court_60 G d  x1 x2 x3 M post := by
  unfold kX7_court_60
  refine J_iload_3 dX7_court_60 ?_
  refine J_iload_1 dX7_court_61 ?_
  refine J_icmp_ge (t := 95) dX7_court_62 (by decide) (fun c0 => ?_) (fun c0 => ?_)
  · replace h := ite_t c0 h
    refine J_aload_0 dX7_court_95 ?_
    refine J_getR 1 dX7_court_96 fl_X7_14 jlt_0 jsh_0 (by decide) jrf_7_0 jmr_0_0 ?_
    refine J_iload_1 dX7_court_99 ?_
    refine J_putI false dX7_court_100 pl_X7_79 jlt_1 jsh_1 (by decide) jrf_2_15 (fun q => absurd q (by decide)) ?_
    refine J_aload_0 dX7_court_103 ?_
    refine J_getR 1 dX7_court_104 fl_X7_14 jlt_0 jsh_0 (by decide) jrf_7_0 jmr_0_0 ?_
    refine J_dup dX7_court_107 rfl ?_
    refine J_getI dX7_court_108 fl_X7_70 jlt_1 jsh_1 (by decide) jrf_2_14 ?_
    refine J_iconst (1 : Int32) dX7_court_111 (by decide) ?_
    refine J_iadd dX7_court_112 ?_
    refine J_putI false dX7_court_113 pl_X7_70 jlt_1 jsh_1 (by decide) jrf_2_14 (fun q => absurd q (by decide)) ?_
    refine J_aload_0 dX7_court_116 ?_
    refine J_getR 1 dX7_court_117 fl_X7_14 jlt_0 jsh_0 (by decide) jrf_7_0 jmr_0_0 ?_
    refine J_getI dX7_court_120 fl_X7_70 jlt_1 jsh_1 (by decide) jrf_2_14 ?_
    refine J_iconst (1 : Int32) dX7_court_123 (by decide) ?_
    refine J_isub dX7_court_124 ?_
    exact K_iret dX7_court_125 rfl h
  · replace h := ite_f c0 h
    refine J_iload_3 dX7_court_65 ?_
    refine J_bipush (100 : Int32) dX7_court_66 (by decide) ?_
    refine J_icmp_ge (t := 95) dX7_court_68 (by decide) (fun c1 => ?_) (fun c1 => ?_)
    · replace h := ite_t c1 h
      refine J_aload_0 dX7_court_95 ?_
      refine J_getR 1 dX7_court_96 fl_X7_14 jlt_0 jsh_0 (by decide) jrf_7_0 jmr_0_0 ?_
      refine J_iload_1 dX7_court_99 ?_
      refine J_putI false dX7_court_100 pl_X7_79 jlt_1 jsh_1 (by decide) jrf_2_15 (fun q => absurd q (by decide)) ?_
      refine J_aload_0 dX7_court_103 ?_
      refine J_getR 1 dX7_court_104 fl_X7_14 jlt_0 jsh_0 (by decide) jrf_7_0 jmr_0_0 ?_
      refine J_dup dX7_court_107 rfl ?_
      refine J_getI dX7_court_108 fl_X7_70 jlt_1 jsh_1 (by decide) jrf_2_14 ?_
      refine J_iconst (1 : Int32) dX7_court_111 (by decide) ?_
      refine J_iadd dX7_court_112 ?_
      refine J_putI false dX7_court_113 pl_X7_70 jlt_1 jsh_1 (by decide) jrf_2_14 (fun q => absurd q (by decide)) ?_
      refine J_aload_0 dX7_court_116 ?_
      refine J_getR 1 dX7_court_117 fl_X7_14 jlt_0 jsh_0 (by decide) jrf_7_0 jmr_0_0 ?_
      refine J_getI dX7_court_120 fl_X7_70 jlt_1 jsh_1 (by decide) jrf_2_14 ?_
      refine J_iconst (1 : Int32) dX7_court_123 (by decide) ?_
      refine J_isub dX7_court_124 ?_
      exact K_iret dX7_court_125 rfl h
    · replace h := ite_f c1 h
      refine J_aload_0 dX7_court_71 ?_
      refine J_getR 1 dX7_court_72 fl_X7_14 jlt_0 jsh_0 (by decide) jrf_7_0 jmr_0_0 ?_
      refine J_getR 10 dX7_court_75 fl_X7_77 jlt_1 jsh_1 (by decide) jrf_2_16 jmr_1_16 ?_
      refine J_iload_3 dX7_court_78 ?_
      refine J_aload_0 dX7_court_79 ?_
      refine J_getR 1 dX7_court_80 fl_X7_14 jlt_0 jsh_0 (by decide) jrf_7_0 jmr_0_0 ?_
      refine J_getR 9 dX7_court_83 fl_X7_66 jlt_1 jsh_1 (by decide) jrf_2_13 jmr_1_13 ?_
      refine J_iload_3 dX7_court_86 ?_
      obtain ⟨g2, h⟩ := h
      refine K_bald x3.toNatClampNeg rfl dX7_court_87 jlt_9 jsh_9 g2 ?_
      obtain ⟨g3, h⟩ := h
      refine K_bast x3.toNatClampNeg rfl dX7_court_88 jlt_10 jsh_10 g3 ?_
      refine J_iinc_3 (1 : Int32) dX7_court_89 (by decide) rfl ?_
      refine J_goto (t := 60) dX7_court_92 (by decide) ?_
      exact h
theorem eX7_court {G : jGT} {d : Nat}  {M : jM} {post : Int32 → jM → Prop} (h : kX7_court_0 G d   M post) : CI G (d + 1) mX7_court [.ref 0] M post := Con_of_J ok_X7_court 3 rfl rfl h
def kX7_day_0 (G : jGT) (d : Nat)  (x1 : Int32) (M : jM) (post : Int32 → jM → Prop) : Prop := J G d mX7_day 0 [some (.ref 0), some (.int x1), none] [] jN jSH M jMR 0 0 0 0 (jQi post)
theorem bX7_day_0 {G : jGT} {d : Nat} {x1 : Int32} {M : jM} {post : Int32 → jM → Prop} (h : (if x1 < 0 then post (-2 : Int32) M else (if x1 ≤ (9 : Int32) then post (M 1 0) (jup M 1 0 x1) else post (-2 : Int32) M))) : kX7_day_0 G d  x1 M post := by
  unfold kX7_day_0
  refine J_iload_1 dX7_day_0 ?_
  refine J_if_lt (t := 10) dX7_day_1 (by decide) (fun c0 => ?_) (fun c0 => ?_)
  · replace h := ite_t c0 h
    refine J_bipush (-2 : Int32) dX7_day_10 (by decide) ?_
    exact K_iret dX7_day_12 rfl h
  · replace h := ite_f c0 h
    refine J_iload_1 dX7_day_4 ?_
    refine J_bipush (9 : Int32) dX7_day_5 (by decide) ?_
    refine J_icmp_le (t := 13) dX7_day_7 (by decide) (fun c1 => ?_) (fun c1 => ?_)
    · replace h := ite_t c1 h
      refine J_aload_0 dX7_day_13 ?_
      refine J_getR 1 dX7_day_14 fl_X7_14 jlt_0 jsh_0 (by decide) jrf_7_0 jmr_0_0 ?_
      refine J_getI dX7_day_17 fl_X7_82 jlt_1 jsh_1 (by decide) jrf_2_0 ?_
      refine J_istore_2 dX7_day_20 rfl ?_
      refine J_aload_0 dX7_day_21 ?_
      refine J_getR 1 dX7_day_22 fl_X7_14 jlt_0 jsh_0 (by decide) jrf_7_0 jmr_0_0 ?_
      refine J_iload_1 dX7_day_25 ?_
      refine J_putI false dX7_day_26 pl_X7_82 jlt_1 jsh_1 (by decide) jrf_2_0 (fun q => absurd q (by decide)) ?_
      refine J_iload_2 dX7_day_29 ?_
      exact K_iret dX7_day_30 rfl h
    · replace h := ite_f c1 h
      refine J_bipush (-2 : Int32) dX7_day_10 (by decide) ?_
      exact K_iret dX7_day_12 rfl h
theorem eX7_day {G : jGT} {d : Nat} {x1 : Int32} {M : jM} {post : Int32 → jM → Prop} (h : kX7_day_0 G d  x1 M post) : CI G d mX7_day [.ref 0, .int x1] M post := Con_of_J ok_X7_day 1 rfl rfl h
def kX7_suit_0 (G : jGT) (d : Nat)  (x1 : Int32) (x2 : Int32) (M : jM) (post : Int32 → jM → Prop) : Prop := J G d mX7_suit 0 [some (.ref 0), some (.int x1), some (.int x2)] [] jN jSH M jMR 0 0 0 0 (jQi post)
theorem bX7_suit_0 {G : jGT} {d : Nat} {x1 : Int32} {x2 : Int32} {M : jM} {post : Int32 → jM → Prop} (h : (if x1 < 0 then post (-2 : Int32) M else (if (256 : Int32) ≤ x1 then post (-2 : Int32) M else (if x2 < 0 then post (-2 : Int32) M else (if x2 ≤ (99 : Int32) then (if (M 1 1) < 0 then post (-4 : Int32) M else (if (M 1 1) < (8 : Int32) then (vp_in (M 1 1) 8 ∧ (vp_in (M 1 1) 8 ∧ post (((M 1 1) + (1 : Int32)) - (1 : Int32)) (jup (jup (jup M 2 ((M 1 1).toNatClampNeg) x1) 3 ((M 1 1).toNatClampNeg) x2) 1 1 ((M 1 1) + (1 : Int32))))) else post (-4 : Int32) M)) else post (-2 : Int32) M))))) : kX7_suit_0 G d  x1 x2 M post := by
  unfold kX7_suit_0
  refine J_iload_1 dX7_suit_0 ?_
  refine J_if_lt (t := 21) dX7_suit_1 (by decide) (fun c0 => ?_) (fun c0 => ?_)
  · replace h := ite_t c0 h
    refine J_bipush (-2 : Int32) dX7_suit_21 (by decide) ?_
    exact K_iret dX7_suit_23 rfl h
  · replace h := ite_f c0 h
    refine J_iload_1 dX7_suit_4 ?_
    refine J_sipush (256 : Int32) dX7_suit_5 (by decide) ?_
    refine J_icmp_ge (t := 21) dX7_suit_8 (by decide) (fun c1 => ?_) (fun c1 => ?_)
    · replace h := ite_t c1 h
      refine J_bipush (-2 : Int32) dX7_suit_21 (by decide) ?_
      exact K_iret dX7_suit_23 rfl h
    · replace h := ite_f c1 h
      refine J_iload_2 dX7_suit_11 ?_
      refine J_if_lt (t := 21) dX7_suit_12 (by decide) (fun c2 => ?_) (fun c2 => ?_)
      · replace h := ite_t c2 h
        refine J_bipush (-2 : Int32) dX7_suit_21 (by decide) ?_
        exact K_iret dX7_suit_23 rfl h
      · replace h := ite_f c2 h
        refine J_iload_2 dX7_suit_15 ?_
        refine J_bipush (99 : Int32) dX7_suit_16 (by decide) ?_
        refine J_icmp_le (t := 24) dX7_suit_18 (by decide) (fun c3 => ?_) (fun c3 => ?_)
        · replace h := ite_t c3 h
          refine J_aload_0 dX7_suit_24 ?_
          refine J_getR 1 dX7_suit_25 fl_X7_14 jlt_0 jsh_0 (by decide) jrf_7_0 jmr_0_0 ?_
          refine J_getI dX7_suit_28 fl_X7_85 jlt_1 jsh_1 (by decide) jrf_2_1 ?_
          refine J_if_lt (t := 46) dX7_suit_31 (by decide) (fun c4 => ?_) (fun c4 => ?_)
          · replace h := ite_t c4 h
            refine J_bipush (-4 : Int32) dX7_suit_46 (by decide) ?_
            exact K_iret dX7_suit_48 rfl h
          · replace h := ite_f c4 h
            refine J_aload_0 dX7_suit_34 ?_
            refine J_getR 1 dX7_suit_35 fl_X7_14 jlt_0 jsh_0 (by decide) jrf_7_0 jmr_0_0 ?_
            refine J_getI dX7_suit_38 fl_X7_85 jlt_1 jsh_1 (by decide) jrf_2_1 ?_
            refine J_bipush (8 : Int32) dX7_suit_41 (by decide) ?_
            refine J_icmp_lt (t := 49) dX7_suit_43 (by decide) (fun c5 => ?_) (fun c5 => ?_)
            · replace h := ite_t c5 h
              refine J_aload_0 dX7_suit_49 ?_
              refine J_getR 1 dX7_suit_50 fl_X7_14 jlt_0 jsh_0 (by decide) jrf_7_0 jmr_0_0 ?_
              refine J_getR 2 dX7_suit_53 fl_X7_88 jlt_1 jsh_1 (by decide) jrf_2_2 jmr_1_2 ?_
              refine J_aload_0 dX7_suit_56 ?_
              refine J_getR 1 dX7_suit_57 fl_X7_14 jlt_0 jsh_0 (by decide) jrf_7_0 jmr_0_0 ?_
              refine J_getI dX7_suit_60 fl_X7_85 jlt_1 jsh_1 (by decide) jrf_2_1 ?_
              refine J_iload_1 dX7_suit_63 ?_
              obtain ⟨g6, h⟩ := h
              refine K_iast ((M 1 1).toNatClampNeg) rfl dX7_suit_64 jlt_2 jsh_2 g6 ?_
              refine J_aload_0 dX7_suit_65 ?_
              refine J_getR 1 dX7_suit_66 fl_X7_14 jlt_0 jsh_0 (by decide) jrf_7_0 jmr_0_0 ?_
              refine J_getR 3 dX7_suit_69 fl_X7_92 jlt_1 jsh_1 (by decide) jrf_2_3 jmr_1_3 ?_
              refine J_aload_0 dX7_suit_72 ?_
              refine J_getR 1 dX7_suit_73 fl_X7_14 jlt_0 jsh_0 (by decide) jrf_7_0 jmr_0_0 ?_
              refine J_getI dX7_suit_76 fl_X7_85 jlt_1 jsh_1 (by decide) jrf_2_1 ?_
              refine J_iload_2 dX7_suit_79 ?_
              obtain ⟨g7, h⟩ := h
              refine K_iast ((M 1 1).toNatClampNeg) rfl dX7_suit_80 jlt_3 jsh_3 g7 ?_
              refine J_aload_0 dX7_suit_81 ?_
              refine J_getR 1 dX7_suit_82 fl_X7_14 jlt_0 jsh_0 (by decide) jrf_7_0 jmr_0_0 ?_
              refine J_dup dX7_suit_85 rfl ?_
              refine J_getI dX7_suit_86 fl_X7_85 jlt_1 jsh_1 (by decide) jrf_2_1 ?_
              refine J_iconst (1 : Int32) dX7_suit_89 (by decide) ?_
              refine J_iadd dX7_suit_90 ?_
              refine J_putI false dX7_suit_91 pl_X7_85 jlt_1 jsh_1 (by decide) jrf_2_1 (fun q => absurd q (by decide)) ?_
              refine J_aload_0 dX7_suit_94 ?_
              refine J_getR 1 dX7_suit_95 fl_X7_14 jlt_0 jsh_0 (by decide) jrf_7_0 jmr_0_0 ?_
              refine J_getI dX7_suit_98 fl_X7_85 jlt_1 jsh_1 (by decide) jrf_2_1 ?_
              refine J_iconst (1 : Int32) dX7_suit_101 (by decide) ?_
              refine J_isub dX7_suit_102 ?_
              exact K_iret dX7_suit_103 rfl h
            · replace h := ite_f c5 h
              refine J_bipush (-4 : Int32) dX7_suit_46 (by decide) ?_
              exact K_iret dX7_suit_48 rfl h
        · replace h := ite_f c3 h
          refine J_bipush (-2 : Int32) dX7_suit_21 (by decide) ?_
          exact K_iret dX7_suit_23 rfl h
theorem eX7_suit {G : jGT} {d : Nat} {x1 : Int32} {x2 : Int32} {M : jM} {post : Int32 → jM → Prop} (h : kX7_suit_0 G d  x1 x2 M post) : CI G d mX7_suit [.ref 0, .int x1, .int x2] M post := Con_of_J ok_X7_suit 0 rfl rfl h
def kX7_of_0 (G : jGT) (d : Nat)  (x1 : Int32) (x2 : Int32) (M : jM) (post : Int32 → jM → Prop) : Prop := J G (d + 1) mX7_of 0 [some (.ref 0), some (.int x1), some (.int x2)] [] jN jSH M jMR 0 0 0 0 (jQi post)
theorem bX7_of_0 {G : jGT} {d : Nat} {x1 : Int32} {x2 : Int32} {M : jM} {post : Int32 → jM → Prop} (h : CI G d mX2_hasSuit [.ref 1, .int x1] M (fun r1 M1 => (if r1 = 0 then post (-1 : Int32) M1 else (if x2 < 0 then post (-1 : Int32) M1 else (if x2 ≤ (1 : Int32) then (if x2 = 0 then CI G d mX2_pointsOf [.ref 1, .int x1] M1 (fun r3 M3 => post r3 M3) else CI G d mX2_worthOf [.ref 1, .int x1] M1 (fun r2 M2 => post r2 M2)) else post (-1 : Int32) M1))))) : kX7_of_0 G d  x1 x2 M post := by
  unfold kX7_of_0
  refine J_aload_0 dX7_of_0 ?_
  refine J_getR 1 dX7_of_1 fl_X7_14 jlt_0 jsh_0 (by decide) jrf_7_0 jmr_0_0 ?_
  refine J_iload_1 dX7_of_4 ?_
  refine K_callVI (As := [.int x1]) (rest := []) dX7_of_5 vl_X7_95 jlt_1 jsh_1 _ rfl rfl h rfl rfl (Nat.le_of_ble_eq_true rfl) (fun r1 M1 h => ?_)
  refine J_if_eq (t := 20) dX7_of_8 (by decide) (fun c0 => ?_) (fun c0 => ?_)
  · replace h := ite_t c0 h
    refine J_iconst (-1 : Int32) dX7_of_20 (by decide) ?_
    exact K_iret dX7_of_21 rfl h
  · replace h := ite_f c0 h
    refine J_iload_2 dX7_of_11 ?_
    refine J_if_lt (t := 20) dX7_of_12 (by decide) (fun c1 => ?_) (fun c1 => ?_)
    · replace h := ite_t c1 h
      refine J_iconst (-1 : Int32) dX7_of_20 (by decide) ?_
      exact K_iret dX7_of_21 rfl h
    · replace h := ite_f c1 h
      refine J_iload_2 dX7_of_15 ?_
      refine J_iconst (1 : Int32) dX7_of_16 (by decide) ?_
      refine J_icmp_le (t := 22) dX7_of_17 (by decide) (fun c2 => ?_) (fun c2 => ?_)
      · replace h := ite_t c2 h
        refine J_iload_2 dX7_of_22 ?_
        refine J_if_ne (t := 37) dX7_of_23 (by decide) (fun c3 => ?_) (fun c3 => ?_)
        · replace h := ite_f c3 h
          refine J_aload_0 dX7_of_37 ?_
          refine J_getR 1 dX7_of_38 fl_X7_14 jlt_0 jsh_0 (by decide) jrf_7_0 jmr_0_0 ?_
          refine J_iload_1 dX7_of_41 ?_
          refine K_callVI (As := [.int x1]) (rest := []) dX7_of_42 vl_X7_103 jlt_1 jsh_1 _ rfl rfl h rfl rfl (Nat.le_of_ble_eq_true rfl) (fun r2 M2 h => ?_)
          exact K_iret dX7_of_45 rfl h
        · replace h := ite_t c3 h
          refine J_aload_0 dX7_of_26 ?_
          refine J_getR 1 dX7_of_27 fl_X7_14 jlt_0 jsh_0 (by decide) jrf_7_0 jmr_0_0 ?_
          refine J_iload_1 dX7_of_30 ?_
          refine K_callVI (As := [.int x1]) (rest := []) dX7_of_31 vl_X7_99 jlt_1 jsh_1 _ rfl rfl h rfl rfl (Nat.le_of_ble_eq_true rfl) (fun r3 M3 h => ?_)
          refine J_goto (t := 45) dX7_of_34 (by decide) ?_
          exact K_iret dX7_of_45 rfl h
      · replace h := ite_f c2 h
        refine J_iconst (-1 : Int32) dX7_of_20 (by decide) ?_
        exact K_iret dX7_of_21 rfl h
theorem eX7_of {G : jGT} {d : Nat} {x1 : Int32} {x2 : Int32} {M : jM} {post : Int32 → jM → Prop} (h : kX7_of_0 G d  x1 x2 M post) : CI G (d + 1) mX7_of [.ref 0, .int x1, .int x2] M post := Con_of_J ok_X7_of 0 rfl rfl h
def kX7_judge_0 (G : jGT) (d : Nat)  (x1 : Int32) (x2 : Int32) (M : jM) (post : Int32 → jM → Prop) : Prop := J G d mX7_judge 0 [some (.ref 0), some (.int x1), some (.int x2)] [] jN jSH M jMR 0 0 0 0 (jQi post)
theorem bX7_judge_0 {G : jGT} {d : Nat} {x1 : Int32} {x2 : Int32} {M : jM} {post : Int32 → jM → Prop} (h : (if x1 < 0 then post (-1 : Int32) M else (if x1 < (7 : Int32) then (if x2 < 0 then post (-2 : Int32) M else (if x2 ≤ (9 : Int32) then (if (M 1 4) < 0 then post (-4 : Int32) M else (if (M 1 4) < (4 : Int32) then (vp_in (M 1 4) 4 ∧ (vp_in (M 1 4) 4 ∧ post (((M 1 4) + (1 : Int32)) - (1 : Int32)) (jup (jup (jup M 4 ((M 1 4).toNatClampNeg) x1) 5 ((M 1 4).toNatClampNeg) x2) 1 4 ((M 1 4) + (1 : Int32))))) else post (-4 : Int32) M)) else post (-2 : Int32) M)) else post (-1 : Int32) M))) : kX7_judge_0 G d  x1 x2 M post := by
  unfold kX7_judge_0
  refine J_iload_1 dX7_judge_0 ?_
  refine J_if_lt (t := 10) dX7_judge_1 (by decide) (fun c0 => ?_) (fun c0 => ?_)
  · replace h := ite_t c0 h
    refine J_iconst (-1 : Int32) dX7_judge_10 (by decide) ?_
    exact K_iret dX7_judge_11 rfl h
  · replace h := ite_f c0 h
    refine J_iload_1 dX7_judge_4 ?_
    refine J_bipush (7 : Int32) dX7_judge_5 (by decide) ?_
    refine J_icmp_lt (t := 12) dX7_judge_7 (by decide) (fun c1 => ?_) (fun c1 => ?_)
    · replace h := ite_t c1 h
      refine J_iload_2 dX7_judge_12 ?_
      refine J_if_lt (t := 22) dX7_judge_13 (by decide) (fun c2 => ?_) (fun c2 => ?_)
      · replace h := ite_t c2 h
        refine J_bipush (-2 : Int32) dX7_judge_22 (by decide) ?_
        exact K_iret dX7_judge_24 rfl h
      · replace h := ite_f c2 h
        refine J_iload_2 dX7_judge_16 ?_
        refine J_bipush (9 : Int32) dX7_judge_17 (by decide) ?_
        refine J_icmp_le (t := 25) dX7_judge_19 (by decide) (fun c3 => ?_) (fun c3 => ?_)
        · replace h := ite_t c3 h
          refine J_aload_0 dX7_judge_25 ?_
          refine J_getR 1 dX7_judge_26 fl_X7_14 jlt_0 jsh_0 (by decide) jrf_7_0 jmr_0_0 ?_
          refine J_getI dX7_judge_29 fl_X7_106 jlt_1 jsh_1 (by decide) jrf_2_4 ?_
          refine J_if_lt (t := 46) dX7_judge_32 (by decide) (fun c4 => ?_) (fun c4 => ?_)
          · replace h := ite_t c4 h
            refine J_bipush (-4 : Int32) dX7_judge_46 (by decide) ?_
            exact K_iret dX7_judge_48 rfl h
          · replace h := ite_f c4 h
            refine J_aload_0 dX7_judge_35 ?_
            refine J_getR 1 dX7_judge_36 fl_X7_14 jlt_0 jsh_0 (by decide) jrf_7_0 jmr_0_0 ?_
            refine J_getI dX7_judge_39 fl_X7_106 jlt_1 jsh_1 (by decide) jrf_2_4 ?_
            refine J_iconst (4 : Int32) dX7_judge_42 (by decide) ?_
            refine J_icmp_lt (t := 49) dX7_judge_43 (by decide) (fun c5 => ?_) (fun c5 => ?_)
            · replace h := ite_t c5 h
              refine J_aload_0 dX7_judge_49 ?_
              refine J_getR 1 dX7_judge_50 fl_X7_14 jlt_0 jsh_0 (by decide) jrf_7_0 jmr_0_0 ?_
              refine J_getR 4 dX7_judge_53 fl_X7_109 jlt_1 jsh_1 (by decide) jrf_2_5 jmr_1_5 ?_
              refine J_aload_0 dX7_judge_56 ?_
              refine J_getR 1 dX7_judge_57 fl_X7_14 jlt_0 jsh_0 (by decide) jrf_7_0 jmr_0_0 ?_
              refine J_getI dX7_judge_60 fl_X7_106 jlt_1 jsh_1 (by decide) jrf_2_4 ?_
              refine J_iload_1 dX7_judge_63 ?_
              obtain ⟨g6, h⟩ := h
              refine K_iast ((M 1 4).toNatClampNeg) rfl dX7_judge_64 jlt_4 jsh_4 g6 ?_
              refine J_aload_0 dX7_judge_65 ?_
              refine J_getR 1 dX7_judge_66 fl_X7_14 jlt_0 jsh_0 (by decide) jrf_7_0 jmr_0_0 ?_
              refine J_getR 5 dX7_judge_69 fl_X7_112 jlt_1 jsh_1 (by decide) jrf_2_6 jmr_1_6 ?_
              refine J_aload_0 dX7_judge_72 ?_
              refine J_getR 1 dX7_judge_73 fl_X7_14 jlt_0 jsh_0 (by decide) jrf_7_0 jmr_0_0 ?_
              refine J_getI dX7_judge_76 fl_X7_106 jlt_1 jsh_1 (by decide) jrf_2_4 ?_
              refine J_iload_2 dX7_judge_79 ?_
              obtain ⟨g7, h⟩ := h
              refine K_iast ((M 1 4).toNatClampNeg) rfl dX7_judge_80 jlt_5 jsh_5 g7 ?_
              refine J_aload_0 dX7_judge_81 ?_
              refine J_getR 1 dX7_judge_82 fl_X7_14 jlt_0 jsh_0 (by decide) jrf_7_0 jmr_0_0 ?_
              refine J_dup dX7_judge_85 rfl ?_
              refine J_getI dX7_judge_86 fl_X7_106 jlt_1 jsh_1 (by decide) jrf_2_4 ?_
              refine J_iconst (1 : Int32) dX7_judge_89 (by decide) ?_
              refine J_iadd dX7_judge_90 ?_
              refine J_putI false dX7_judge_91 pl_X7_106 jlt_1 jsh_1 (by decide) jrf_2_4 (fun q => absurd q (by decide)) ?_
              refine J_aload_0 dX7_judge_94 ?_
              refine J_getR 1 dX7_judge_95 fl_X7_14 jlt_0 jsh_0 (by decide) jrf_7_0 jmr_0_0 ?_
              refine J_getI dX7_judge_98 fl_X7_106 jlt_1 jsh_1 (by decide) jrf_2_4 ?_
              refine J_iconst (1 : Int32) dX7_judge_101 (by decide) ?_
              refine J_isub dX7_judge_102 ?_
              exact K_iret dX7_judge_103 rfl h
            · replace h := ite_f c5 h
              refine J_bipush (-4 : Int32) dX7_judge_46 (by decide) ?_
              exact K_iret dX7_judge_48 rfl h
        · replace h := ite_f c3 h
          refine J_bipush (-2 : Int32) dX7_judge_22 (by decide) ?_
          exact K_iret dX7_judge_24 rfl h
    · replace h := ite_f c1 h
      refine J_iconst (-1 : Int32) dX7_judge_10 (by decide) ?_
      exact K_iret dX7_judge_11 rfl h
theorem eX7_judge {G : jGT} {d : Nat} {x1 : Int32} {x2 : Int32} {M : jM} {post : Int32 → jM → Prop} (h : kX7_judge_0 G d  x1 x2 M post) : CI G d mX7_judge [.ref 0, .int x1, .int x2] M post := Con_of_J ok_X7_judge 0 rfl rfl h
def kX7_at_0 (G : jGT) (d : Nat)  (x1 : Int32) (x2 : Int32) (M : jM) (post : Int32 → jM → Prop) : Prop := J G (d + 1) mX7_at 0 [some (.ref 0), some (.int x1), some (.int x2)] [] jN jSH M jMR 0 0 0 0 (jQi post)
theorem bX7_at_0 {G : jGT} {d : Nat} {x1 : Int32} {x2 : Int32} {M : jM} {post : Int32 → jM → Prop} (h : CI G d mX2_hasJudge [.ref 1, .int x1] M (fun r1 M1 => (if r1 = 0 then post (-1 : Int32) M1 else (if x2 = 0 then CI G d mX2_kindOf [.ref 1, .int x1] M1 (fun r6 M6 => post r6 M6) else (if x2 = (1 : Int32) then CI G d mX2_numberOf [.ref 1, .int x1] M1 (fun r5 M5 => post r5 M5) else (if x2 < (10 : Int32) then (if x2 < (20 : Int32) then post (-1 : Int32) M1 else (if (28 : Int32) ≤ x2 then post (-1 : Int32) M1 else CV G d mX7_openFor [.ref 0, .int x1] M1 (fun M2 => (vp_in (x2 - (20 : Int32)) 8 ∧ post (M2 23 ((x2 - (20 : Int32)).toNatClampNeg)) M2)))) else (if (18 : Int32) ≤ x2 then (if x2 < (20 : Int32) then post (-1 : Int32) M1 else (if (28 : Int32) ≤ x2 then post (-1 : Int32) M1 else CV G d mX7_openFor [.ref 0, .int x1] M1 (fun M3 => (vp_in (x2 - (20 : Int32)) 8 ∧ post (M3 23 ((x2 - (20 : Int32)).toNatClampNeg)) M3)))) else CV G d mX7_openFor [.ref 0, .int x1] M1 (fun M4 => (vp_in (x2 - (10 : Int32)) 8 ∧ post (M4 22 ((x2 - (10 : Int32)).toNatClampNeg)) M4))))))))) : kX7_at_0 G d  x1 x2 M post := by
  unfold kX7_at_0
  refine J_aload_0 dX7_at_0 ?_
  refine J_getR 1 dX7_at_1 fl_X7_14 jlt_0 jsh_0 (by decide) jrf_7_0 jmr_0_0 ?_
  refine J_iload_1 dX7_at_4 ?_
  refine K_callVI (As := [.int x1]) (rest := []) dX7_at_5 vl_X7_115 jlt_1 jsh_1 _ rfl rfl h rfl rfl (Nat.le_of_ble_eq_true rfl) (fun r1 M1 h => ?_)
  refine J_if_ne (t := 13) dX7_at_8 (by decide) (fun c0 => ?_) (fun c0 => ?_)
  · replace h := ite_f c0 h
    refine J_iload_2 dX7_at_13 ?_
    refine J_if_ne (t := 26) dX7_at_14 (by decide) (fun c1 => ?_) (fun c1 => ?_)
    · replace h := ite_f c1 h
      refine J_iload_2 dX7_at_26 ?_
      refine J_iconst (1 : Int32) dX7_at_27 (by decide) ?_
      refine J_icmp_ne (t := 40) dX7_at_28 (by decide) (fun c2 => ?_) (fun c2 => ?_)
      · replace h := ite_f c2 h
        refine J_iload_2 dX7_at_40 ?_
        refine J_bipush (10 : Int32) dX7_at_41 (by decide) ?_
        refine J_icmp_lt (t := 70) dX7_at_43 (by decide) (fun c3 => ?_) (fun c3 => ?_)
        · replace h := ite_t c3 h
          refine J_iload_2 dX7_at_70 ?_
          refine J_bipush (20 : Int32) dX7_at_71 (by decide) ?_
          refine J_icmp_lt (t := 100) dX7_at_73 (by decide) (fun c4 => ?_) (fun c4 => ?_)
          · replace h := ite_t c4 h
            refine J_iconst (-1 : Int32) dX7_at_100 (by decide) ?_
            exact K_iret dX7_at_101 rfl h
          · replace h := ite_f c4 h
            refine J_iload_2 dX7_at_76 ?_
            refine J_bipush (28 : Int32) dX7_at_77 (by decide) ?_
            refine J_icmp_ge (t := 100) dX7_at_79 (by decide) (fun c5 => ?_) (fun c5 => ?_)
            · replace h := ite_t c5 h
              refine J_iconst (-1 : Int32) dX7_at_100 (by decide) ?_
              exact K_iret dX7_at_101 rfl h
            · replace h := ite_f c5 h
              refine J_aload_0 dX7_at_82 ?_
              refine J_iload_1 dX7_at_83 ?_
              refine K_callVV (As := [.int x1]) (rest := []) dX7_at_84 vl_X7_124 jlt_0 jsh_0 _ rfl rfl h rfl rfl (Nat.le_of_ble_eq_true rfl) (fun M2 h => ?_)
              refine J_aload_0 dX7_at_87 ?_
              refine J_getR 21 dX7_at_88 fl_X7_28 jlt_0 jsh_0 (by decide) jrf_7_3 jmr_0_3 ?_
              refine J_getR 23 dX7_at_91 fl_X7_131 jlt_21 jsh_21 (by decide) jrf_3_1 jmr_21_1 ?_
              refine J_iload_2 dX7_at_94 ?_
              refine J_bipush (20 : Int32) dX7_at_95 (by decide) ?_
              refine J_isub dX7_at_97 ?_
              obtain ⟨g6, h⟩ := h
              refine K_iald ((x2 - (20 : Int32)).toNatClampNeg) rfl dX7_at_98 jlt_23 jsh_23 g6 ?_
              exact K_iret dX7_at_99 rfl h
        · replace h := ite_f c3 h
          refine J_iload_2 dX7_at_46 ?_
          refine J_bipush (18 : Int32) dX7_at_47 (by decide) ?_
          refine J_icmp_ge (t := 70) dX7_at_49 (by decide) (fun c4 => ?_) (fun c4 => ?_)
          · replace h := ite_t c4 h
            refine J_iload_2 dX7_at_70 ?_
            refine J_bipush (20 : Int32) dX7_at_71 (by decide) ?_
            refine J_icmp_lt (t := 100) dX7_at_73 (by decide) (fun c5 => ?_) (fun c5 => ?_)
            · replace h := ite_t c5 h
              refine J_iconst (-1 : Int32) dX7_at_100 (by decide) ?_
              exact K_iret dX7_at_101 rfl h
            · replace h := ite_f c5 h
              refine J_iload_2 dX7_at_76 ?_
              refine J_bipush (28 : Int32) dX7_at_77 (by decide) ?_
              refine J_icmp_ge (t := 100) dX7_at_79 (by decide) (fun c6 => ?_) (fun c6 => ?_)
              · replace h := ite_t c6 h
                refine J_iconst (-1 : Int32) dX7_at_100 (by decide) ?_
                exact K_iret dX7_at_101 rfl h
              · replace h := ite_f c6 h
                refine J_aload_0 dX7_at_82 ?_
                refine J_iload_1 dX7_at_83 ?_
                refine K_callVV (As := [.int x1]) (rest := []) dX7_at_84 vl_X7_124 jlt_0 jsh_0 _ rfl rfl h rfl rfl (Nat.le_of_ble_eq_true rfl) (fun M3 h => ?_)
                refine J_aload_0 dX7_at_87 ?_
                refine J_getR 21 dX7_at_88 fl_X7_28 jlt_0 jsh_0 (by decide) jrf_7_3 jmr_0_3 ?_
                refine J_getR 23 dX7_at_91 fl_X7_131 jlt_21 jsh_21 (by decide) jrf_3_1 jmr_21_1 ?_
                refine J_iload_2 dX7_at_94 ?_
                refine J_bipush (20 : Int32) dX7_at_95 (by decide) ?_
                refine J_isub dX7_at_97 ?_
                obtain ⟨g7, h⟩ := h
                refine K_iald ((x2 - (20 : Int32)).toNatClampNeg) rfl dX7_at_98 jlt_23 jsh_23 g7 ?_
                exact K_iret dX7_at_99 rfl h
          · replace h := ite_f c4 h
            refine J_aload_0 dX7_at_52 ?_
            refine J_iload_1 dX7_at_53 ?_
            refine K_callVV (As := [.int x1]) (rest := []) dX7_at_54 vl_X7_124 jlt_0 jsh_0 _ rfl rfl h rfl rfl (Nat.le_of_ble_eq_true rfl) (fun M4 h => ?_)
            refine J_aload_0 dX7_at_57 ?_
            refine J_getR 21 dX7_at_58 fl_X7_28 jlt_0 jsh_0 (by decide) jrf_7_3 jmr_0_3 ?_
            refine J_getR 22 dX7_at_61 fl_X7_128 jlt_21 jsh_21 (by decide) jrf_3_0 jmr_21_0 ?_
            refine J_iload_2 dX7_at_64 ?_
            refine J_bipush (10 : Int32) dX7_at_65 (by decide) ?_
            refine J_isub dX7_at_67 ?_
            obtain ⟨g5, h⟩ := h
            refine K_iald ((x2 - (10 : Int32)).toNatClampNeg) rfl dX7_at_68 jlt_22 jsh_22 g5 ?_
            exact K_iret dX7_at_69 rfl h
      · replace h := ite_t c2 h
        refine J_aload_0 dX7_at_31 ?_
        refine J_getR 1 dX7_at_32 fl_X7_14 jlt_0 jsh_0 (by decide) jrf_7_0 jmr_0_0 ?_
        refine J_iload_1 dX7_at_35 ?_
        refine K_callVI (As := [.int x1]) (rest := []) dX7_at_36 vl_X7_121 jlt_1 jsh_1 _ rfl rfl h rfl rfl (Nat.le_of_ble_eq_true rfl) (fun r5 M5 h => ?_)
        exact K_iret dX7_at_39 rfl h
    · replace h := ite_t c1 h
      refine J_aload_0 dX7_at_17 ?_
      refine J_getR 1 dX7_at_18 fl_X7_14 jlt_0 jsh_0 (by decide) jrf_7_0 jmr_0_0 ?_
      refine J_iload_1 dX7_at_21 ?_
      refine K_callVI (As := [.int x1]) (rest := []) dX7_at_22 vl_X7_118 jlt_1 jsh_1 _ rfl rfl h rfl rfl (Nat.le_of_ble_eq_true rfl) (fun r6 M6 h => ?_)
      exact K_iret dX7_at_25 rfl h
  · replace h := ite_t c0 h
    refine J_iconst (-1 : Int32) dX7_at_11 (by decide) ?_
    exact K_iret dX7_at_12 rfl h
theorem eX7_at {G : jGT} {d : Nat} {x1 : Int32} {x2 : Int32} {M : jM} {post : Int32 → jM → Prop} (h : kX7_at_0 G d  x1 x2 M post) : CI G (d + 1) mX7_at [.ref 0, .int x1, .int x2] M post := Con_of_J ok_X7_at 0 rfl rfl h
def kX7_row_0 (G : jGT) (d : Nat)  (x1 : Int32) (x2 : Int32) (x3 : Int32) (M : jM) (post : Int32 → jM → Prop) : Prop := J G (d + 1) mX7_row 0 [some (.ref 0), some (.int x1), some (.int x2), some (.int x3), none] [] jN jSH M jMR 0 0 0 0 (jQi post)
theorem bX7_row_0 {G : jGT} {d : Nat} {x1 : Int32} {x2 : Int32} {x3 : Int32} {M : jM} {post : Int32 → jM → Prop} (h : CI G d mX2_hasJudge [.ref 1, .int x1] M (fun r1 M1 => (if r1 = 0 then post (-1 : Int32) M1 else (if x2 < 0 then post (-1 : Int32) M1 else (if x2 < (4 : Int32) then (if x3 < 0 then post (-2 : Int32) M1 else (if x3 ≤ (2 : Int32) then CI G d mX2_kindOf [.ref 1, .int x1] M1 (fun r2 M2 => (if r2 = (6 : Int32) then (vp_in ((x1 * (4 : Int32)) + x2) 16 ∧ (vp_in ((x1 * (4 : Int32)) + x2) 16 ∧ post (M2 6 (((x1 * (4 : Int32)) + x2).toNatClampNeg)) (jup M2 6 (((x1 * (4 : Int32)) + x2).toNatClampNeg) x3))) else post (-3 : Int32) M2)) else post (-2 : Int32) M1)) else post (-1 : Int32) M1))))) : kX7_row_0 G d  x1 x2 x3 M post := by
  unfold kX7_row_0
  refine J_aload_0 dX7_row_0 ?_
  refine J_getR 1 dX7_row_1 fl_X7_14 jlt_0 jsh_0 (by decide) jrf_7_0 jmr_0_0 ?_
  refine J_iload_1 dX7_row_4 ?_
  refine K_callVI (As := [.int x1]) (rest := []) dX7_row_5 vl_X7_115 jlt_1 jsh_1 _ rfl rfl h rfl rfl (Nat.le_of_ble_eq_true rfl) (fun r1 M1 h => ?_)
  refine J_if_eq (t := 20) dX7_row_8 (by decide) (fun c0 => ?_) (fun c0 => ?_)
  · replace h := ite_t c0 h
    refine J_iconst (-1 : Int32) dX7_row_20 (by decide) ?_
    exact K_iret dX7_row_21 rfl h
  · replace h := ite_f c0 h
    refine J_iload_2 dX7_row_11 ?_
    refine J_if_lt (t := 20) dX7_row_12 (by decide) (fun c1 => ?_) (fun c1 => ?_)
    · replace h := ite_t c1 h
      refine J_iconst (-1 : Int32) dX7_row_20 (by decide) ?_
      exact K_iret dX7_row_21 rfl h
    · replace h := ite_f c1 h
      refine J_iload_2 dX7_row_15 ?_
      refine J_iconst (4 : Int32) dX7_row_16 (by decide) ?_
      refine J_icmp_lt (t := 22) dX7_row_17 (by decide) (fun c2 => ?_) (fun c2 => ?_)
      · replace h := ite_t c2 h
        refine J_iload_3 dX7_row_22 ?_
        refine J_if_lt (t := 31) dX7_row_23 (by decide) (fun c3 => ?_) (fun c3 => ?_)
        · replace h := ite_t c3 h
          refine J_bipush (-2 : Int32) dX7_row_31 (by decide) ?_
          exact K_iret dX7_row_33 rfl h
        · replace h := ite_f c3 h
          refine J_iload_3 dX7_row_26 ?_
          refine J_iconst (2 : Int32) dX7_row_27 (by decide) ?_
          refine J_icmp_le (t := 34) dX7_row_28 (by decide) (fun c4 => ?_) (fun c4 => ?_)
          · replace h := ite_t c4 h
            refine J_aload_0 dX7_row_34 ?_
            refine J_getR 1 dX7_row_35 fl_X7_14 jlt_0 jsh_0 (by decide) jrf_7_0 jmr_0_0 ?_
            refine J_iload_1 dX7_row_38 ?_
            refine K_callVI (As := [.int x1]) (rest := []) dX7_row_39 vl_X7_118 jlt_1 jsh_1 _ rfl rfl h rfl rfl (Nat.le_of_ble_eq_true rfl) (fun r2 M2 h => ?_)
            refine J_bipush (6 : Int32) dX7_row_42 (by decide) ?_
            refine J_icmp_eq (t := 50) dX7_row_44 (by decide) (fun c5 => ?_) (fun c5 => ?_)
            · replace h := ite_t c5 h
              refine J_aload_0 dX7_row_50 ?_
              refine J_getR 1 dX7_row_51 fl_X7_14 jlt_0 jsh_0 (by decide) jrf_7_0 jmr_0_0 ?_
              refine J_getR 6 dX7_row_54 fl_X7_134 jlt_1 jsh_1 (by decide) jrf_2_7 jmr_1_7 ?_
              refine J_iload_1 dX7_row_57 ?_
              refine J_iconst (4 : Int32) dX7_row_58 (by decide) ?_
              refine J_imul dX7_row_59 ?_
              refine J_iload_2 dX7_row_60 ?_
              refine J_iadd dX7_row_61 ?_
              obtain ⟨g6, h⟩ := h
              refine K_iald (((x1 * (4 : Int32)) + x2).toNatClampNeg) rfl dX7_row_62 jlt_6 jsh_6 g6 ?_
              refine J_istore_4 dX7_row_63 rfl ?_
              refine J_aload_0 dX7_row_65 ?_
              refine J_getR 1 dX7_row_66 fl_X7_14 jlt_0 jsh_0 (by decide) jrf_7_0 jmr_0_0 ?_
              refine J_getR 6 dX7_row_69 fl_X7_134 jlt_1 jsh_1 (by decide) jrf_2_7 jmr_1_7 ?_
              refine J_iload_1 dX7_row_72 ?_
              refine J_iconst (4 : Int32) dX7_row_73 (by decide) ?_
              refine J_imul dX7_row_74 ?_
              refine J_iload_2 dX7_row_75 ?_
              refine J_iadd dX7_row_76 ?_
              refine J_iload_3 dX7_row_77 ?_
              obtain ⟨g7, h⟩ := h
              refine K_iast (((x1 * (4 : Int32)) + x2).toNatClampNeg) rfl dX7_row_78 jlt_6 jsh_6 g7 ?_
              refine J_iload_4 dX7_row_79 ?_
              exact K_iret dX7_row_81 rfl h
            · replace h := ite_f c5 h
              refine J_bipush (-3 : Int32) dX7_row_47 (by decide) ?_
              exact K_iret dX7_row_49 rfl h
          · replace h := ite_f c4 h
            refine J_bipush (-2 : Int32) dX7_row_31 (by decide) ?_
            exact K_iret dX7_row_33 rfl h
      · replace h := ite_f c2 h
        refine J_iconst (-1 : Int32) dX7_row_20 (by decide) ?_
        exact K_iret dX7_row_21 rfl h
theorem eX7_row {G : jGT} {d : Nat} {x1 : Int32} {x2 : Int32} {x3 : Int32} {M : jM} {post : Int32 → jM → Prop} (h : kX7_row_0 G d  x1 x2 x3 M post) : CI G (d + 1) mX7_row [.ref 0, .int x1, .int x2, .int x3] M post := Con_of_J ok_X7_row 1 rfl rfl h
def kX7_told_0 (G : jGT) (d : Nat)  (x1 : Int32) (M : jM) (post : Int32 → jM → Prop) : Prop := J G (d + 1) mX7_told 0 [some (.ref 0), some (.int x1)] [] jN jSH M jMR 0 0 0 0 (jQi post)
theorem bX7_told_0 {G : jGT} {d : Nat} {x1 : Int32} {M : jM} {post : Int32 → jM → Prop} (h : (if x1 = 0 then post (M 1 0) M else (if x1 = (1 : Int32) then CI G d mX3_learn [.ref 21, .ref 10, .int (M 1 15), .int (0 : Int32), .int (0 : Int32), .int (M 1 0)] M (fun r1 M1 => post (M1 21 2) M1) else post (-1 : Int32) M))) : kX7_told_0 G d  x1 M post := by
  unfold kX7_told_0
  refine J_iload_1 dX7_told_0 ?_
  refine J_if_ne (t := 12) dX7_told_1 (by decide) (fun c0 => ?_) (fun c0 => ?_)
  · replace h := ite_f c0 h
    refine J_iload_1 dX7_told_12 ?_
    refine J_iconst (1 : Int32) dX7_told_13 (by decide) ?_
    refine J_icmp_ne (t := 56) dX7_told_14 (by decide) (fun c1 => ?_) (fun c1 => ?_)
    · replace h := ite_f c1 h
      refine J_iconst (-1 : Int32) dX7_told_56 (by decide) ?_
      exact K_iret dX7_told_57 rfl h
    · replace h := ite_t c1 h
      refine J_aload_0 dX7_told_17 ?_
      refine J_getR 21 dX7_told_18 fl_X7_28 jlt_0 jsh_0 (by decide) jrf_7_3 jmr_0_3 ?_
      refine J_aload_0 dX7_told_21 ?_
      refine J_getR 1 dX7_told_22 fl_X7_14 jlt_0 jsh_0 (by decide) jrf_7_0 jmr_0_0 ?_
      refine J_getR 10 dX7_told_25 fl_X7_77 jlt_1 jsh_1 (by decide) jrf_2_16 jmr_1_16 ?_
      refine J_aload_0 dX7_told_28 ?_
      refine J_getR 1 dX7_told_29 fl_X7_14 jlt_0 jsh_0 (by decide) jrf_7_0 jmr_0_0 ?_
      refine J_getI dX7_told_32 fl_X7_79 jlt_1 jsh_1 (by decide) jrf_2_15 ?_
      refine J_iconst (0 : Int32) dX7_told_35 (by decide) ?_
      refine J_iconst (0 : Int32) dX7_told_36 (by decide) ?_
      refine J_aload_0 dX7_told_37 ?_
      refine J_getR 1 dX7_told_38 fl_X7_14 jlt_0 jsh_0 (by decide) jrf_7_0 jmr_0_0 ?_
      refine J_getI dX7_told_41 fl_X7_82 jlt_1 jsh_1 (by decide) jrf_2_0 ?_
      refine K_callVI (As := [.ref 10, .int (M 1 15), .int (0 : Int32), .int (0 : Int32), .int (M 1 0)]) (rest := []) dX7_told_44 vl_X7_73 jlt_21 jsh_21 _ rfl rfl h rfl rfl (Nat.le_of_ble_eq_true rfl) (fun r1 M1 h => ?_)
      refine J_pop dX7_told_47 rfl ?_
      refine J_aload_0 dX7_told_48 ?_
      refine J_getR 21 dX7_told_49 fl_X7_28 jlt_0 jsh_0 (by decide) jrf_7_3 jmr_0_3 ?_
      refine J_getI dX7_told_52 fl_X7_137 jlt_21 jsh_21 (by decide) jrf_3_2 ?_
      exact K_iret dX7_told_55 rfl h
  · replace h := ite_t c0 h
    refine J_aload_0 dX7_told_4 ?_
    refine J_getR 1 dX7_told_5 fl_X7_14 jlt_0 jsh_0 (by decide) jrf_7_0 jmr_0_0 ?_
    refine J_getI dX7_told_8 fl_X7_82 jlt_1 jsh_1 (by decide) jrf_2_0 ?_
    exact K_iret dX7_told_11 rfl h
theorem eX7_told {G : jGT} {d : Nat} {x1 : Int32} {M : jM} {post : Int32 → jM → Prop} (h : kX7_told_0 G d  x1 M post) : CI G (d + 1) mX7_told [.ref 0, .int x1] M post := Con_of_J ok_X7_told 0 rfl rfl h
def kX7_score_0 (G : jGT) (d : Nat)  (x1 : Int32) (x2 : Int32) (x3 : Int32) (M : jM) (post : Int32 → jM → Prop) : Prop := J G (d + 1) mX7_score 0 [some (.ref 0), some (.int x1), some (.int x2), some (.int x3)] [] jN jSH M jMR 0 0 0 0 (jQi post)
theorem bX7_score_0 {G : jGT} {d : Nat} {x1 : Int32} {x2 : Int32} {x3 : Int32} {M : jM} {post : Int32 → jM → Prop} (h : CI G d mX2_hasJudge [.ref 1, .int x1] M (fun r1 M1 => (if r1 = 0 then post (-100001 : Int32) M1 else CI G d mX2_hasSuit [.ref 1, .int x2] M1 (fun r2 M2 => (if r2 = 0 then post (-100001 : Int32) M2 else CI G d mX2_hasSuit [.ref 1, .int x3] M2 (fun r3 M3 => (if r3 = 0 then post (-100001 : Int32) M3 else CV G d mX7_openFor [.ref 0, .int x1] M3 (fun M4 => CI G d mX2_pointsOf [.ref 1, .int x2] M4 (fun r5 M5 => CI G d mX2_pointsOf [.ref 1, .int x3] M5 (fun r6 M6 => CI G d mX5_alike [.ref 27, .int r5, .int r6] M6 (fun r7 M7 => post r7 M7))))))))))) : kX7_score_0 G d  x1 x2 x3 M post := by
  unfold kX7_score_0
  refine J_aload_0 dX7_score_0 ?_
  refine J_getR 1 dX7_score_1 fl_X7_14 jlt_0 jsh_0 (by decide) jrf_7_0 jmr_0_0 ?_
  refine J_iload_1 dX7_score_4 ?_
  refine K_callVI (As := [.int x1]) (rest := []) dX7_score_5 vl_X7_115 jlt_1 jsh_1 _ rfl rfl h rfl rfl (Nat.le_of_ble_eq_true rfl) (fun r1 M1 h => ?_)
  refine J_if_eq (t := 33) dX7_score_8 (by decide) (fun c0 => ?_) (fun c0 => ?_)
  · replace h := ite_t c0 h
    refine J_ldc (-100001 : Int32) dX7_score_33 w_624 ?_
    exact K_iret dX7_score_35 rfl h
  · replace h := ite_f c0 h
    refine J_aload_0 dX7_score_11 ?_
    refine J_getR 1 dX7_score_12 fl_X7_14 jlt_0 jsh_0 (by decide) jrf_7_0 jmr_0_0 ?_
    refine J_iload_2 dX7_score_15 ?_
    refine K_callVI (As := [.int x2]) (rest := []) dX7_score_16 vl_X7_95 jlt_1 jsh_1 _ rfl rfl h rfl rfl (Nat.le_of_ble_eq_true rfl) (fun r2 M2 h => ?_)
    refine J_if_eq (t := 33) dX7_score_19 (by decide) (fun c1 => ?_) (fun c1 => ?_)
    · replace h := ite_t c1 h
      refine J_ldc (-100001 : Int32) dX7_score_33 w_624 ?_
      exact K_iret dX7_score_35 rfl h
    · replace h := ite_f c1 h
      refine J_aload_0 dX7_score_22 ?_
      refine J_getR 1 dX7_score_23 fl_X7_14 jlt_0 jsh_0 (by decide) jrf_7_0 jmr_0_0 ?_
      refine J_iload_3 dX7_score_26 ?_
      refine K_callVI (As := [.int x3]) (rest := []) dX7_score_27 vl_X7_95 jlt_1 jsh_1 _ rfl rfl h rfl rfl (Nat.le_of_ble_eq_true rfl) (fun r3 M3 h => ?_)
      refine J_if_ne (t := 36) dX7_score_30 (by decide) (fun c2 => ?_) (fun c2 => ?_)
      · replace h := ite_f c2 h
        refine J_aload_0 dX7_score_36 ?_
        refine J_iload_1 dX7_score_37 ?_
        refine K_callVV (As := [.int x1]) (rest := []) dX7_score_38 vl_X7_124 jlt_0 jsh_0 _ rfl rfl h rfl rfl (Nat.le_of_ble_eq_true rfl) (fun M4 h => ?_)
        refine J_aload_0 dX7_score_41 ?_
        refine J_getR 27 dX7_score_42 fl_X7_35 jlt_0 jsh_0 (by decide) jrf_7_4 jmr_0_4 ?_
        refine J_aload_0 dX7_score_45 ?_
        refine J_getR 1 dX7_score_46 fl_X7_14 jlt_0 jsh_0 (by decide) jrf_7_0 jmr_0_0 ?_
        refine J_iload_2 dX7_score_49 ?_
        refine K_callVI (As := [.int x2]) (rest := [.ref 27]) dX7_score_50 vl_X7_99 jlt_1 jsh_1 _ rfl rfl h rfl rfl (Nat.le_of_ble_eq_true rfl) (fun r5 M5 h => ?_)
        refine J_aload_0 dX7_score_53 ?_
        refine J_getR 1 dX7_score_54 fl_X7_14 jlt_0 jsh_0 (by decide) jrf_7_0 jmr_0_0 ?_
        refine J_iload_3 dX7_score_57 ?_
        refine K_callVI (As := [.int x3]) (rest := [.int r5, .ref 27]) dX7_score_58 vl_X7_99 jlt_1 jsh_1 _ rfl rfl h rfl rfl (Nat.le_of_ble_eq_true rfl) (fun r6 M6 h => ?_)
        refine K_callVI (As := [.int r5, .int r6]) (rest := []) dX7_score_61 vl_X7_141 jlt_27 jsh_27 _ rfl rfl h rfl rfl (Nat.le_of_ble_eq_true rfl) (fun r7 M7 h => ?_)
        exact K_iret dX7_score_64 rfl h
      · replace h := ite_t c2 h
        refine J_ldc (-100001 : Int32) dX7_score_33 w_624 ?_
        exact K_iret dX7_score_35 rfl h
theorem eX7_score {G : jGT} {d : Nat} {x1 : Int32} {x2 : Int32} {x3 : Int32} {M : jM} {post : Int32 → jM → Prop} (h : kX7_score_0 G d  x1 x2 x3 M post) : CI G (d + 1) mX7_score [.ref 0, .int x1, .int x2, .int x3] M post := Con_of_J ok_X7_score 0 rfl rfl h
def kX7_decides_0 (G : jGT) (d : Nat)  (x1 : Int32) (x2 : Int32) (x3 : Int32) (M : jM) (post : Int32 → jM → Prop) : Prop := J G (d + 1) mX7_decides 0 [some (.ref 0), some (.int x1), some (.int x2), some (.int x3), none] [] jN jSH M jMR 0 0 0 0 (jQi post)
theorem bX7_decides_0 {G : jGT} {d : Nat} {x1 : Int32} {x2 : Int32} {x3 : Int32} {M : jM} {post : Int32 → jM → Prop} (h : CI G d mX2_hasJudge [.ref 1, .int x1] M (fun r1 M1 => (if r1 = 0 then post (-1 : Int32) M1 else CI G d mX2_hasSuit [.ref 1, .int x2] M1 (fun r2 M2 => (if r2 = 0 then post (-1 : Int32) M2 else (if x3 < 0 then post (-1 : Int32) M2 else (if x3 ≤ (2 : Int32) then CV G d mX7_openFor [.ref 0, .int x1] M2 (fun M3 => CI G d mX2_pointsOf [.ref 1, .int x2] M3 (fun r4 M4 => CV G d mX6_begin [.ref 33, .int r4] M4 (fun M5 => CV G d mX5_follow [.ref 27, .ref 33, .int (M5 27 6)] M5 (fun M6 => (if x3 = 0 then CI G d mX5_isFor [.ref 27, .ref 33] M6 (fun r9 M9 => (if r9 = 0 then post (0 : Int32) M9 else post (1 : Int32) M9)) else (if x3 = (1 : Int32) then CI G d mX5_decidedBy [.ref 27, .ref 33] M6 (fun r8 M8 => post r8 M8) else CI G d mX6_likes [.ref 33] M6 (fun r7 M7 => post r7 M7))))))) else post (-1 : Int32) M2))))))) : kX7_decides_0 G d  x1 x2 x3 M post := by
  unfold kX7_decides_0
  refine J_aload_0 dX7_decides_0 ?_
  refine J_getR 1 dX7_decides_1 fl_X7_14 jlt_0 jsh_0 (by decide) jrf_7_0 jmr_0_0 ?_
  refine J_iload_1 dX7_decides_4 ?_
  refine K_callVI (As := [.int x1]) (rest := []) dX7_decides_5 vl_X7_115 jlt_1 jsh_1 _ rfl rfl h rfl rfl (Nat.le_of_ble_eq_true rfl) (fun r1 M1 h => ?_)
  refine J_if_eq (t := 31) dX7_decides_8 (by decide) (fun c0 => ?_) (fun c0 => ?_)
  · replace h := ite_t c0 h
    refine J_iconst (-1 : Int32) dX7_decides_31 (by decide) ?_
    exact K_iret dX7_decides_32 rfl h
  · replace h := ite_f c0 h
    refine J_aload_0 dX7_decides_11 ?_
    refine J_getR 1 dX7_decides_12 fl_X7_14 jlt_0 jsh_0 (by decide) jrf_7_0 jmr_0_0 ?_
    refine J_iload_2 dX7_decides_15 ?_
    refine K_callVI (As := [.int x2]) (rest := []) dX7_decides_16 vl_X7_95 jlt_1 jsh_1 _ rfl rfl h rfl rfl (Nat.le_of_ble_eq_true rfl) (fun r2 M2 h => ?_)
    refine J_if_eq (t := 31) dX7_decides_19 (by decide) (fun c1 => ?_) (fun c1 => ?_)
    · replace h := ite_t c1 h
      refine J_iconst (-1 : Int32) dX7_decides_31 (by decide) ?_
      exact K_iret dX7_decides_32 rfl h
    · replace h := ite_f c1 h
      refine J_iload_3 dX7_decides_22 ?_
      refine J_if_lt (t := 31) dX7_decides_23 (by decide) (fun c2 => ?_) (fun c2 => ?_)
      · replace h := ite_t c2 h
        refine J_iconst (-1 : Int32) dX7_decides_31 (by decide) ?_
        exact K_iret dX7_decides_32 rfl h
      · replace h := ite_f c2 h
        refine J_iload_3 dX7_decides_26 ?_
        refine J_iconst (2 : Int32) dX7_decides_27 (by decide) ?_
        refine J_icmp_le (t := 33) dX7_decides_28 (by decide) (fun c3 => ?_) (fun c3 => ?_)
        · replace h := ite_t c3 h
          refine J_aload_0 dX7_decides_33 ?_
          refine J_iload_1 dX7_decides_34 ?_
          refine K_callVV (As := [.int x1]) (rest := []) dX7_decides_35 vl_X7_124 jlt_0 jsh_0 _ rfl rfl h rfl rfl (Nat.le_of_ble_eq_true rfl) (fun M3 h => ?_)
          refine J_aload_0 dX7_decides_38 ?_
          refine J_getR 27 dX7_decides_39 fl_X7_35 jlt_0 jsh_0 (by decide) jrf_7_4 jmr_0_4 ?_
          refine J_getR 33 dX7_decides_42 fl_X7_145 jlt_27 jsh_27 (by decide) jrf_5_9 jmr_27_9 ?_
          refine J_astore_4 dX7_decides_45 rfl ?_
          refine J_aload_4 dX7_decides_47 ?_
          refine J_aload_0 dX7_decides_49 ?_
          refine J_getR 1 dX7_decides_50 fl_X7_14 jlt_0 jsh_0 (by decide) jrf_7_0 jmr_0_0 ?_
          refine J_iload_2 dX7_decides_53 ?_
          refine K_callVI (As := [.int x2]) (rest := [.ref 33]) dX7_decides_54 vl_X7_99 jlt_1 jsh_1 _ rfl rfl h rfl rfl (Nat.le_of_ble_eq_true rfl) (fun r4 M4 h => ?_)
          refine K_callVV (As := [.int r4]) (rest := []) dX7_decides_57 vl_X7_149 jlt_33 jsh_33 _ rfl rfl h rfl rfl (Nat.le_of_ble_eq_true rfl) (fun M5 h => ?_)
          refine J_aload_0 dX7_decides_60 ?_
          refine J_getR 27 dX7_decides_61 fl_X7_35 jlt_0 jsh_0 (by decide) jrf_7_4 jmr_0_4 ?_
          refine J_aload_4 dX7_decides_64 ?_
          refine J_aload_0 dX7_decides_66 ?_
          refine J_getR 27 dX7_decides_67 fl_X7_35 jlt_0 jsh_0 (by decide) jrf_7_4 jmr_0_4 ?_
          refine J_getI dX7_decides_70 fl_X7_154 jlt_27 jsh_27 (by decide) jrf_5_6 ?_
          refine K_callVV (As := [.ref 33, .int (M5 27 6)]) (rest := []) dX7_decides_73 vl_X7_157 jlt_27 jsh_27 _ rfl rfl h rfl rfl (Nat.le_of_ble_eq_true rfl) (fun M6 h => ?_)
          refine J_iload_3 dX7_decides_76 ?_
          refine J_if_ne (t := 98) dX7_decides_77 (by decide) (fun c4 => ?_) (fun c4 => ?_)
          · replace h := ite_f c4 h
            refine J_iload_3 dX7_decides_98 ?_
            refine J_iconst (1 : Int32) dX7_decides_99 (by decide) ?_
            refine J_icmp_ne (t := 115) dX7_decides_100 (by decide) (fun c5 => ?_) (fun c5 => ?_)
            · replace h := ite_f c5 h
              refine J_aload_4 dX7_decides_115 ?_
              refine K_callVI (As := []) (rest := []) dX7_decides_117 vl_X7_169 jlt_33 jsh_33 _ rfl rfl h rfl rfl (Nat.le_of_ble_eq_true rfl) (fun r7 M7 h => ?_)
              exact K_iret dX7_decides_120 rfl h
            · replace h := ite_t c5 h
              refine J_aload_0 dX7_decides_103 ?_
              refine J_getR 27 dX7_decides_104 fl_X7_35 jlt_0 jsh_0 (by decide) jrf_7_4 jmr_0_4 ?_
              refine J_aload_4 dX7_decides_107 ?_
              refine K_callVI (As := [.ref 33]) (rest := []) dX7_decides_109 vl_X7_165 jlt_27 jsh_27 _ rfl rfl h rfl rfl (Nat.le_of_ble_eq_true rfl) (fun r8 M8 h => ?_)
              refine J_goto (t := 120) dX7_decides_112 (by decide) ?_
              exact K_iret dX7_decides_120 rfl h
          · replace h := ite_t c4 h
            refine J_aload_0 dX7_decides_80 ?_
            refine J_getR 27 dX7_decides_81 fl_X7_35 jlt_0 jsh_0 (by decide) jrf_7_4 jmr_0_4 ?_
            refine J_aload_4 dX7_decides_84 ?_
            refine K_callVI (As := [.ref 33]) (rest := []) dX7_decides_86 vl_X7_161 jlt_27 jsh_27 _ rfl rfl h rfl rfl (Nat.le_of_ble_eq_true rfl) (fun r9 M9 h => ?_)
            refine J_if_eq (t := 96) dX7_decides_89 (by decide) (fun c5 => ?_) (fun c5 => ?_)
            · replace h := ite_t c5 h
              refine J_iconst (0 : Int32) dX7_decides_96 (by decide) ?_
              exact K_iret dX7_decides_97 rfl h
            · replace h := ite_f c5 h
              refine J_iconst (1 : Int32) dX7_decides_92 (by decide) ?_
              refine J_goto (t := 97) dX7_decides_93 (by decide) ?_
              exact K_iret dX7_decides_97 rfl h
        · replace h := ite_f c3 h
          refine J_iconst (-1 : Int32) dX7_decides_31 (by decide) ?_
          exact K_iret dX7_decides_32 rfl h
theorem eX7_decides {G : jGT} {d : Nat} {x1 : Int32} {x2 : Int32} {x3 : Int32} {M : jM} {post : Int32 → jM → Prop} (h : kX7_decides_0 G d  x1 x2 x3 M post) : CI G (d + 1) mX7_decides [.ref 0, .int x1, .int x2, .int x3] M post := Con_of_J ok_X7_decides 1 rfl rfl h
def kX7_hear_0 (G : jGT) (d : Nat)  (x1 : Int32) (x2 : Int32) (M : jM) (post : Int32 → jM → Prop) : Prop := J G (d + 1) mX7_hear 0 [some (.ref 0), some (.int x1), some (.int x2), none] [] jN jSH M jMR 0 0 0 0 (jQi post)
theorem bX7_hear_0 {G : jGT} {d : Nat} {x1 : Int32} {x2 : Int32} {M : jM} {post : Int32 → jM → Prop} (h : CI G d mX2_hasJudge [.ref 1, .int x1] M (fun r1 M1 => (if r1 = 0 then post (-1 : Int32) M1 else CI G d mX2_hasSuit [.ref 1, .int x2] M1 (fun r2 M2 => (if r2 = 0 then post (-1 : Int32) M2 else (if (M2 1 8) < (24 : Int32) then CV G d mX7_openFor [.ref 0, .int x1] M2 (fun M3 => CI G d mX2_pointsOf [.ref 1, .int x2] M3 (fun r4 M4 => CI G d mX5_wins [.ref 27, .int r4] M4 (fun r5 M5 => CV G d mX2_write [.ref 1, .int x2, .int r5] M5 (fun M6 => (if r5 = 0 then post (0 : Int32) M6 else post (1 : Int32) M6))))) else post (-4 : Int32) M2)))))) : kX7_hear_0 G d  x1 x2 M post := by
  unfold kX7_hear_0
  refine J_aload_0 dX7_hear_0 ?_
  refine J_getR 1 dX7_hear_1 fl_X7_14 jlt_0 jsh_0 (by decide) jrf_7_0 jmr_0_0 ?_
  refine J_iload_1 dX7_hear_4 ?_
  refine K_callVI (As := [.int x1]) (rest := []) dX7_hear_5 vl_X7_115 jlt_1 jsh_1 _ rfl rfl h rfl rfl (Nat.le_of_ble_eq_true rfl) (fun r1 M1 h => ?_)
  refine J_if_eq (t := 22) dX7_hear_8 (by decide) (fun c0 => ?_) (fun c0 => ?_)
  · replace h := ite_t c0 h
    refine J_iconst (-1 : Int32) dX7_hear_22 (by decide) ?_
    exact K_iret dX7_hear_23 rfl h
  · replace h := ite_f c0 h
    refine J_aload_0 dX7_hear_11 ?_
    refine J_getR 1 dX7_hear_12 fl_X7_14 jlt_0 jsh_0 (by decide) jrf_7_0 jmr_0_0 ?_
    refine J_iload_2 dX7_hear_15 ?_
    refine K_callVI (As := [.int x2]) (rest := []) dX7_hear_16 vl_X7_95 jlt_1 jsh_1 _ rfl rfl h rfl rfl (Nat.le_of_ble_eq_true rfl) (fun r2 M2 h => ?_)
    refine J_if_ne (t := 24) dX7_hear_19 (by decide) (fun c1 => ?_) (fun c1 => ?_)
    · replace h := ite_f c1 h
      refine J_aload_0 dX7_hear_24 ?_
      refine J_getR 1 dX7_hear_25 fl_X7_14 jlt_0 jsh_0 (by decide) jrf_7_0 jmr_0_0 ?_
      refine J_getI dX7_hear_28 fl_X7_173 jlt_1 jsh_1 (by decide) jrf_2_8 ?_
      refine J_bipush (24 : Int32) dX7_hear_31 (by decide) ?_
      refine J_icmp_lt (t := 39) dX7_hear_33 (by decide) (fun c2 => ?_) (fun c2 => ?_)
      · replace h := ite_t c2 h
        refine J_aload_0 dX7_hear_39 ?_
        refine J_iload_1 dX7_hear_40 ?_
        refine K_callVV (As := [.int x1]) (rest := []) dX7_hear_41 vl_X7_124 jlt_0 jsh_0 _ rfl rfl h rfl rfl (Nat.le_of_ble_eq_true rfl) (fun M3 h => ?_)
        refine J_aload_0 dX7_hear_44 ?_
        refine J_getR 27 dX7_hear_45 fl_X7_35 jlt_0 jsh_0 (by decide) jrf_7_4 jmr_0_4 ?_
        refine J_aload_0 dX7_hear_48 ?_
        refine J_getR 1 dX7_hear_49 fl_X7_14 jlt_0 jsh_0 (by decide) jrf_7_0 jmr_0_0 ?_
        refine J_iload_2 dX7_hear_52 ?_
        refine K_callVI (As := [.int x2]) (rest := [.ref 27]) dX7_hear_53 vl_X7_99 jlt_1 jsh_1 _ rfl rfl h rfl rfl (Nat.le_of_ble_eq_true rfl) (fun r4 M4 h => ?_)
        refine K_callVI (As := [.int r4]) (rest := []) dX7_hear_56 vl_X7_176 jlt_27 jsh_27 _ rfl rfl h rfl rfl (Nat.le_of_ble_eq_true rfl) (fun r5 M5 h => ?_)
        refine J_istore_3 dX7_hear_59 rfl ?_
        refine J_aload_0 dX7_hear_60 ?_
        refine J_getR 1 dX7_hear_61 fl_X7_14 jlt_0 jsh_0 (by decide) jrf_7_0 jmr_0_0 ?_
        refine J_iload_2 dX7_hear_64 ?_
        refine J_iload_3 dX7_hear_65 ?_
        refine K_callVV (As := [.int x2, .int r5]) (rest := []) dX7_hear_66 vl_X7_179 jlt_1 jsh_1 _ rfl rfl h rfl rfl (Nat.le_of_ble_eq_true rfl) (fun M6 h => ?_)
        refine J_iload_3 dX7_hear_69 ?_
        refine J_if_eq (t := 77) dX7_hear_70 (by decide) (fun c3 => ?_) (fun c3 => ?_)
        · replace h := ite_t c3 h
          refine J_iconst (0 : Int32) dX7_hear_77 (by decide) ?_
          exact K_iret dX7_hear_78 rfl h
        · replace h := ite_f c3 h
          refine J_iconst (1 : Int32) dX7_hear_73 (by decide) ?_
          refine J_goto (t := 78) dX7_hear_74 (by decide) ?_
          exact K_iret dX7_hear_78 rfl h
      · replace h := ite_f c2 h
        refine J_bipush (-4 : Int32) dX7_hear_36 (by decide) ?_
        exact K_iret dX7_hear_38 rfl h
    · replace h := ite_t c1 h
      refine J_iconst (-1 : Int32) dX7_hear_22 (by decide) ?_
      exact K_iret dX7_hear_23 rfl h
theorem eX7_hear {G : jGT} {d : Nat} {x1 : Int32} {x2 : Int32} {M : jM} {post : Int32 → jM → Prop} (h : kX7_hear_0 G d  x1 x2 M post) : CI G (d + 1) mX7_hear [.ref 0, .int x1, .int x2] M post := Con_of_J ok_X7_hear 1 rfl rfl h
def kX7_enter_0 (G : jGT) (d : Nat)  (x1 : Int32) (x2 : Int32) (M : jM) (post : Int32 → jM → Prop) : Prop := J G (d + 1) mX7_enter 0 [some (.ref 0), some (.int x1), some (.int x2)] [] jN jSH M jMR 0 0 0 0 (jQi post)
theorem bX7_enter_0 {G : jGT} {d : Nat} {x1 : Int32} {x2 : Int32} {M : jM} {post : Int32 → jM → Prop} (h : (if x1 = (-1 : Int32) then post (0 : Int32) (jup M 1 8 (0 : Int32)) else CI G d mX2_hasSuit [.ref 1, .int x1] M (fun r1 M1 => (if r1 = 0 then post (-1 : Int32) M1 else (if (M1 1 8) < (24 : Int32) then CV G d mX2_write [.ref 1, .int x1, .int x2] M1 (fun M2 => post (M2 1 8) M2) else post (-4 : Int32) M1))))) : kX7_enter_0 G d  x1 x2 M post := by
  unfold kX7_enter_0
  refine J_iload_1 dX7_enter_0 ?_
  refine J_iconst (-1 : Int32) dX7_enter_1 (by decide) ?_
  refine J_icmp_ne (t := 15) dX7_enter_2 (by decide) (fun c0 => ?_) (fun c0 => ?_)
  · replace h := ite_f c0 h
    refine J_aload_0 dX7_enter_15 ?_
    refine J_getR 1 dX7_enter_16 fl_X7_14 jlt_0 jsh_0 (by decide) jrf_7_0 jmr_0_0 ?_
    refine J_iload_1 dX7_enter_19 ?_
    refine K_callVI (As := [.int x1]) (rest := []) dX7_enter_20 vl_X7_95 jlt_1 jsh_1 _ rfl rfl h rfl rfl (Nat.le_of_ble_eq_true rfl) (fun r1 M1 h => ?_)
    refine J_if_ne (t := 28) dX7_enter_23 (by decide) (fun c1 => ?_) (fun c1 => ?_)
    · replace h := ite_f c1 h
      refine J_aload_0 dX7_enter_28 ?_
      refine J_getR 1 dX7_enter_29 fl_X7_14 jlt_0 jsh_0 (by decide) jrf_7_0 jmr_0_0 ?_
      refine J_getI dX7_enter_32 fl_X7_173 jlt_1 jsh_1 (by decide) jrf_2_8 ?_
      refine J_bipush (24 : Int32) dX7_enter_35 (by decide) ?_
      refine J_icmp_lt (t := 43) dX7_enter_37 (by decide) (fun c2 => ?_) (fun c2 => ?_)
      · replace h := ite_t c2 h
        refine J_aload_0 dX7_enter_43 ?_
        refine J_getR 1 dX7_enter_44 fl_X7_14 jlt_0 jsh_0 (by decide) jrf_7_0 jmr_0_0 ?_
        refine J_iload_1 dX7_enter_47 ?_
        refine J_iload_2 dX7_enter_48 ?_
        refine K_callVV (As := [.int x1, .int x2]) (rest := []) dX7_enter_49 vl_X7_179 jlt_1 jsh_1 _ rfl rfl h rfl rfl (Nat.le_of_ble_eq_true rfl) (fun M2 h => ?_)
        refine J_aload_0 dX7_enter_52 ?_
        refine J_getR 1 dX7_enter_53 fl_X7_14 jlt_0 jsh_0 (by decide) jrf_7_0 jmr_0_0 ?_
        refine J_getI dX7_enter_56 fl_X7_173 jlt_1 jsh_1 (by decide) jrf_2_8 ?_
        exact K_iret dX7_enter_59 rfl h
      · replace h := ite_f c2 h
        refine J_bipush (-4 : Int32) dX7_enter_40 (by decide) ?_
        exact K_iret dX7_enter_42 rfl h
    · replace h := ite_t c1 h
      refine J_iconst (-1 : Int32) dX7_enter_26 (by decide) ?_
      exact K_iret dX7_enter_27 rfl h
  · replace h := ite_t c0 h
    refine J_aload_0 dX7_enter_5 ?_
    refine J_getR 1 dX7_enter_6 fl_X7_14 jlt_0 jsh_0 (by decide) jrf_7_0 jmr_0_0 ?_
    refine J_iconst (0 : Int32) dX7_enter_9 (by decide) ?_
    refine J_putI false dX7_enter_10 pl_X7_173 jlt_1 jsh_1 (by decide) jrf_2_8 (fun q => absurd q (by decide)) ?_
    refine J_iconst (0 : Int32) dX7_enter_13 (by decide) ?_
    exact K_iret dX7_enter_14 rfl h
theorem eX7_enter {G : jGT} {d : Nat} {x1 : Int32} {x2 : Int32} {M : jM} {post : Int32 → jM → Prop} (h : kX7_enter_0 G d  x1 x2 M post) : CI G (d + 1) mX7_enter [.ref 0, .int x1, .int x2] M post := Con_of_J ok_X7_enter 0 rfl rfl h
def kX7_entry_0 (G : jGT) (d : Nat)  (x1 : Int32) (M : jM) (post : Int32 → jM → Prop) : Prop := J G d mX7_entry 0 [some (.ref 0), some (.int x1)] [] jN jSH M jMR 0 0 0 0 (jQi post)
theorem bX7_entry_0 {G : jGT} {d : Nat} {x1 : Int32} {M : jM} {post : Int32 → jM → Prop} (h : (if x1 < 0 then post (-1 : Int32) M else (if (M 1 8) ≤ x1 then post (-1 : Int32) M else (if x1 < (24 : Int32) then (vp_in x1 24 ∧ post (M 7 x1.toNatClampNeg) M) else post (-1 : Int32) M)))) : kX7_entry_0 G d  x1 M post := by
  unfold kX7_entry_0
  refine J_iload_1 dX7_entry_0 ?_
  refine J_if_lt (t := 21) dX7_entry_1 (by decide) (fun c0 => ?_) (fun c0 => ?_)
  · replace h := ite_t c0 h
    refine J_iconst (-1 : Int32) dX7_entry_21 (by decide) ?_
    exact K_iret dX7_entry_22 rfl h
  · replace h := ite_f c0 h
    refine J_iload_1 dX7_entry_4 ?_
    refine J_aload_0 dX7_entry_5 ?_
    refine J_getR 1 dX7_entry_6 fl_X7_14 jlt_0 jsh_0 (by decide) jrf_7_0 jmr_0_0 ?_
    refine J_getI dX7_entry_9 fl_X7_173 jlt_1 jsh_1 (by decide) jrf_2_8 ?_
    refine J_icmp_ge (t := 21) dX7_entry_12 (by decide) (fun c1 => ?_) (fun c1 => ?_)
    · replace h := ite_t c1 h
      refine J_iconst (-1 : Int32) dX7_entry_21 (by decide) ?_
      exact K_iret dX7_entry_22 rfl h
    · replace h := ite_f c1 h
      refine J_iload_1 dX7_entry_15 ?_
      refine J_bipush (24 : Int32) dX7_entry_16 (by decide) ?_
      refine J_icmp_lt (t := 23) dX7_entry_18 (by decide) (fun c2 => ?_) (fun c2 => ?_)
      · replace h := ite_t c2 h
        refine J_aload_0 dX7_entry_23 ?_
        refine J_getR 1 dX7_entry_24 fl_X7_14 jlt_0 jsh_0 (by decide) jrf_7_0 jmr_0_0 ?_
        refine J_getR 7 dX7_entry_27 fl_X7_183 jlt_1 jsh_1 (by decide) jrf_2_9 jmr_1_9 ?_
        refine J_iload_1 dX7_entry_30 ?_
        obtain ⟨g3, h⟩ := h
        refine K_iald x1.toNatClampNeg rfl dX7_entry_31 jlt_7 jsh_7 g3 ?_
        exact K_iret dX7_entry_32 rfl h
      · replace h := ite_f c2 h
        refine J_iconst (-1 : Int32) dX7_entry_21 (by decide) ?_
        exact K_iret dX7_entry_22 rfl h
theorem eX7_entry {G : jGT} {d : Nat} {x1 : Int32} {M : jM} {post : Int32 → jM → Prop} (h : kX7_entry_0 G d  x1 M post) : CI G d mX7_entry [.ref 0, .int x1] M post := Con_of_J ok_X7_entry 0 rfl rfl h
def kX7_best_0 (G : jGT) (d : Nat)  (x1 : Int32) (x2 : Int32) (x3 : Int32) (M : jM) (post : Int32 → jM → Prop) : Prop := J G (d + 1) mX7_best 0 [some (.ref 0), some (.int x1), some (.int x2), some (.int x3)] [] jN jSH M jMR 0 0 0 0 (jQi post)
theorem bX7_best_0 {G : jGT} {d : Nat} {x1 : Int32} {x2 : Int32} {x3 : Int32} {M : jM} {post : Int32 → jM → Prop} (h : CI G d mX2_hasJudge [.ref 1, .int x1] M (fun r1 M1 => (if r1 = 0 then post (-100001 : Int32) M1 else (if x3 < (-1 : Int32) then post (-100001 : Int32) M1 else (if x3 < (6 : Int32) then CI G d mX2_hasSuits [.ref 1, .int x2] M1 (fun r2 M2 => (if r2 = 0 then post (-100002 : Int32) M2 else CI G d mJ6_bitCount_0f7a4 [.int x2] M2 (fun r3 M3 => (if r3 ≤ (6 : Int32) then CV G d mX7_openFor [.ref 0, .int x1] M3 (fun M4 => CV G d mX4_order [.ref 35, .ref 1, .int x2] M4 (fun M5 => (if x3 = (-1 : Int32) then post (M5 35 5) M5 else CI G d mJ6_bitCount_0f7a4 [.int x2] M5 (fun r6 M6 => (if r6 ≤ x3 then post (-5 : Int32) M6 else (vp_in x3 6 ∧ post (M6 39 x3.toNatClampNeg) M6)))))) else post (-100002 : Int32) M3)))) else post (-100001 : Int32) M1))))) : kX7_best_0 G d  x1 x2 x3 M post := by
  unfold kX7_best_0
  refine J_aload_0 dX7_best_0 ?_
  refine J_getR 1 dX7_best_1 fl_X7_14 jlt_0 jsh_0 (by decide) jrf_7_0 jmr_0_0 ?_
  refine J_iload_1 dX7_best_4 ?_
  refine K_callVI (As := [.int x1]) (rest := []) dX7_best_5 vl_X7_115 jlt_1 jsh_1 _ rfl rfl h rfl rfl (Nat.le_of_ble_eq_true rfl) (fun r1 M1 h => ?_)
  refine J_if_eq (t := 22) dX7_best_8 (by decide) (fun c0 => ?_) (fun c0 => ?_)
  · replace h := ite_t c0 h
    refine J_ldc (-100001 : Int32) dX7_best_22 w_624 ?_
    exact K_iret dX7_best_24 rfl h
  · replace h := ite_f c0 h
    refine J_iload_3 dX7_best_11 ?_
    refine J_iconst (-1 : Int32) dX7_best_12 (by decide) ?_
    refine J_icmp_lt (t := 22) dX7_best_13 (by decide) (fun c1 => ?_) (fun c1 => ?_)
    · replace h := ite_t c1 h
      refine J_ldc (-100001 : Int32) dX7_best_22 w_624 ?_
      exact K_iret dX7_best_24 rfl h
    · replace h := ite_f c1 h
      refine J_iload_3 dX7_best_16 ?_
      refine J_bipush (6 : Int32) dX7_best_17 (by decide) ?_
      refine J_icmp_lt (t := 25) dX7_best_19 (by decide) (fun c2 => ?_) (fun c2 => ?_)
      · replace h := ite_t c2 h
        refine J_aload_0 dX7_best_25 ?_
        refine J_getR 1 dX7_best_26 fl_X7_14 jlt_0 jsh_0 (by decide) jrf_7_0 jmr_0_0 ?_
        refine J_iload_2 dX7_best_29 ?_
        refine K_callVI (As := [.int x2]) (rest := []) dX7_best_30 vl_X7_186 jlt_1 jsh_1 _ rfl rfl h rfl rfl (Nat.le_of_ble_eq_true rfl) (fun r2 M2 h => ?_)
        refine J_if_eq (t := 45) dX7_best_33 (by decide) (fun c3 => ?_) (fun c3 => ?_)
        · replace h := ite_t c3 h
          refine J_ldc (-100002 : Int32) dX7_best_45 w_711 ?_
          exact K_iret dX7_best_47 rfl h
        · replace h := ite_f c3 h
          refine J_iload_2 dX7_best_36 ?_
          refine K_callSI (rest := []) dX7_best_37 sl_X7_189 h rfl rfl (Nat.le_of_ble_eq_true rfl) (fun r3 M3 h => ?_)
          refine J_bipush (6 : Int32) dX7_best_40 (by decide) ?_
          refine J_icmp_le (t := 48) dX7_best_42 (by decide) (fun c4 => ?_) (fun c4 => ?_)
          · replace h := ite_t c4 h
            refine J_aload_0 dX7_best_48 ?_
            refine J_iload_1 dX7_best_49 ?_
            refine K_callVV (As := [.int x1]) (rest := []) dX7_best_50 vl_X7_124 jlt_0 jsh_0 _ rfl rfl h rfl rfl (Nat.le_of_ble_eq_true rfl) (fun M4 h => ?_)
            refine J_aload_0 dX7_best_53 ?_
            refine J_getR 35 dX7_best_54 fl_X7_44 jlt_0 jsh_0 (by decide) jrf_7_5 jmr_0_5 ?_
            refine J_aload_0 dX7_best_57 ?_
            refine J_getR 1 dX7_best_58 fl_X7_14 jlt_0 jsh_0 (by decide) jrf_7_0 jmr_0_0 ?_
            refine J_iload_2 dX7_best_61 ?_
            refine K_callVV (As := [.ref 1, .int x2]) (rest := []) dX7_best_62 vl_X7_195 jlt_35 jsh_35 _ rfl rfl h rfl rfl (Nat.le_of_ble_eq_true rfl) (fun M5 h => ?_)
            refine J_iload_3 dX7_best_65 ?_
            refine J_iconst (-1 : Int32) dX7_best_66 (by decide) ?_
            refine J_icmp_ne (t := 78) dX7_best_67 (by decide) (fun c5 => ?_) (fun c5 => ?_)
            · replace h := ite_f c5 h
              refine J_iload_3 dX7_best_78 ?_
              refine J_iload_2 dX7_best_79 ?_
              refine K_callSI (rest := [.int x3]) dX7_best_80 sl_X7_189 h rfl rfl (Nat.le_of_ble_eq_true rfl) (fun r6 M6 h => ?_)
              refine J_icmp_ge (t := 98) dX7_best_83 (by decide) (fun c6 => ?_) (fun c6 => ?_)
              · replace h := ite_t c6 h
                refine J_bipush (-5 : Int32) dX7_best_98 (by decide) ?_
                exact K_iret dX7_best_100 rfl h
              · replace h := ite_f c6 h
                refine J_aload_0 dX7_best_86 ?_
                refine J_getR 35 dX7_best_87 fl_X7_44 jlt_0 jsh_0 (by decide) jrf_7_5 jmr_0_5 ?_
                refine J_getR 39 dX7_best_90 fl_X7_202 jlt_35 jsh_35 (by decide) jrf_4_4 jmr_35_4 ?_
                refine J_iload_3 dX7_best_93 ?_
                obtain ⟨g7, h⟩ := h
                refine K_iald x3.toNatClampNeg rfl dX7_best_94 jlt_39 jsh_39 g7 ?_
                refine J_goto (t := 100) dX7_best_95 (by decide) ?_
                exact K_iret dX7_best_100 rfl h
            · replace h := ite_t c5 h
              refine J_aload_0 dX7_best_70 ?_
              refine J_getR 35 dX7_best_71 fl_X7_44 jlt_0 jsh_0 (by decide) jrf_7_5 jmr_0_5 ?_
              refine J_getI dX7_best_74 fl_X7_199 jlt_35 jsh_35 (by decide) jrf_4_5 ?_
              exact K_iret dX7_best_77 rfl h
          · replace h := ite_f c4 h
            refine J_ldc (-100002 : Int32) dX7_best_45 w_711 ?_
            exact K_iret dX7_best_47 rfl h
      · replace h := ite_f c2 h
        refine J_ldc (-100001 : Int32) dX7_best_22 w_624 ?_
        exact K_iret dX7_best_24 rfl h
theorem eX7_best {G : jGT} {d : Nat} {x1 : Int32} {x2 : Int32} {x3 : Int32} {M : jM} {post : Int32 → jM → Prop} (h : kX7_best_0 G d  x1 x2 x3 M post) : CI G (d + 1) mX7_best [.ref 0, .int x1, .int x2, .int x3] M post := Con_of_J ok_X7_best 0 rfl rfl h
def kX7_shams_0 (G : jGT) (d : Nat)  (x1 : Int32) (x2 : Int32) (x3 : Int32) (M : jM) (post : Int32 → jM → Prop) : Prop := J G (d + 1) mX7_shams 0 [some (.ref 0), some (.int x1), some (.int x2), some (.int x3), none] [] jN jSH M jMR 0 0 0 0 (jQi post)
theorem bX7_shams_0 {G : jGT} {d : Nat} {x1 : Int32} {x2 : Int32} {x3 : Int32} {M : jM} {post : Int32 → jM → Prop} (h : CI G d mX2_hasJudge [.ref 1, .int x1] M (fun r1 M1 => (if r1 = 0 then post (-1 : Int32) M1 else CI G d mX2_hasSuit [.ref 1, .int x2] M1 (fun r2 M2 => (if r2 = 0 then post (-1 : Int32) M2 else (if x3 < (-1 : Int32) then post (-1 : Int32) M2 else (if x3 ≤ (1 : Int32) then CV G d mX7_openFor [.ref 0, .int x1] M2 (fun M3 => CI G d mX2_pointsOf [.ref 1, .int x2] M3 (fun r4 M4 => CI G d mX4_shamsAhead [.ref 35, .int r4] M4 (fun r5 M5 => (if x3 = (-1 : Int32) then post r5 M5 else (if r5 ≤ x3 then post (-5 : Int32) M5 else (vp_in x3 6 ∧ post (M5 39 x3.toNatClampNeg) M5)))))) else post (-1 : Int32) M2))))))) : kX7_shams_0 G d  x1 x2 x3 M post := by
  unfold kX7_shams_0
  refine J_aload_0 dX7_shams_0 ?_
  refine J_getR 1 dX7_shams_1 fl_X7_14 jlt_0 jsh_0 (by decide) jrf_7_0 jmr_0_0 ?_
  refine J_iload_1 dX7_shams_4 ?_
  refine K_callVI (As := [.int x1]) (rest := []) dX7_shams_5 vl_X7_115 jlt_1 jsh_1 _ rfl rfl h rfl rfl (Nat.le_of_ble_eq_true rfl) (fun r1 M1 h => ?_)
  refine J_if_eq (t := 32) dX7_shams_8 (by decide) (fun c0 => ?_) (fun c0 => ?_)
  · replace h := ite_t c0 h
    refine J_iconst (-1 : Int32) dX7_shams_32 (by decide) ?_
    exact K_iret dX7_shams_33 rfl h
  · replace h := ite_f c0 h
    refine J_aload_0 dX7_shams_11 ?_
    refine J_getR 1 dX7_shams_12 fl_X7_14 jlt_0 jsh_0 (by decide) jrf_7_0 jmr_0_0 ?_
    refine J_iload_2 dX7_shams_15 ?_
    refine K_callVI (As := [.int x2]) (rest := []) dX7_shams_16 vl_X7_95 jlt_1 jsh_1 _ rfl rfl h rfl rfl (Nat.le_of_ble_eq_true rfl) (fun r2 M2 h => ?_)
    refine J_if_eq (t := 32) dX7_shams_19 (by decide) (fun c1 => ?_) (fun c1 => ?_)
    · replace h := ite_t c1 h
      refine J_iconst (-1 : Int32) dX7_shams_32 (by decide) ?_
      exact K_iret dX7_shams_33 rfl h
    · replace h := ite_f c1 h
      refine J_iload_3 dX7_shams_22 ?_
      refine J_iconst (-1 : Int32) dX7_shams_23 (by decide) ?_
      refine J_icmp_lt (t := 32) dX7_shams_24 (by decide) (fun c2 => ?_) (fun c2 => ?_)
      · replace h := ite_t c2 h
        refine J_iconst (-1 : Int32) dX7_shams_32 (by decide) ?_
        exact K_iret dX7_shams_33 rfl h
      · replace h := ite_f c2 h
        refine J_iload_3 dX7_shams_27 ?_
        refine J_iconst (1 : Int32) dX7_shams_28 (by decide) ?_
        refine J_icmp_le (t := 34) dX7_shams_29 (by decide) (fun c3 => ?_) (fun c3 => ?_)
        · replace h := ite_t c3 h
          refine J_aload_0 dX7_shams_34 ?_
          refine J_iload_1 dX7_shams_35 ?_
          refine K_callVV (As := [.int x1]) (rest := []) dX7_shams_36 vl_X7_124 jlt_0 jsh_0 _ rfl rfl h rfl rfl (Nat.le_of_ble_eq_true rfl) (fun M3 h => ?_)
          refine J_aload_0 dX7_shams_39 ?_
          refine J_getR 35 dX7_shams_40 fl_X7_44 jlt_0 jsh_0 (by decide) jrf_7_5 jmr_0_5 ?_
          refine J_aload_0 dX7_shams_43 ?_
          refine J_getR 1 dX7_shams_44 fl_X7_14 jlt_0 jsh_0 (by decide) jrf_7_0 jmr_0_0 ?_
          refine J_iload_2 dX7_shams_47 ?_
          refine K_callVI (As := [.int x2]) (rest := [.ref 35]) dX7_shams_48 vl_X7_99 jlt_1 jsh_1 _ rfl rfl h rfl rfl (Nat.le_of_ble_eq_true rfl) (fun r4 M4 h => ?_)
          refine K_callVI (As := [.int r4]) (rest := []) dX7_shams_51 vl_X7_205 jlt_35 jsh_35 _ rfl rfl h rfl rfl (Nat.le_of_ble_eq_true rfl) (fun r5 M5 h => ?_)
          refine J_istore_4 dX7_shams_54 rfl ?_
          refine J_iload_3 dX7_shams_56 ?_
          refine J_iconst (-1 : Int32) dX7_shams_57 (by decide) ?_
          refine J_icmp_ne (t := 64) dX7_shams_58 (by decide) (fun c4 => ?_) (fun c4 => ?_)
          · replace h := ite_f c4 h
            refine J_iload_3 dX7_shams_64 ?_
            refine J_iload_4 dX7_shams_65 ?_
            refine J_icmp_ge (t := 82) dX7_shams_67 (by decide) (fun c5 => ?_) (fun c5 => ?_)
            · replace h := ite_t c5 h
              refine J_bipush (-5 : Int32) dX7_shams_82 (by decide) ?_
              exact K_iret dX7_shams_84 rfl h
            · replace h := ite_f c5 h
              refine J_aload_0 dX7_shams_70 ?_
              refine J_getR 35 dX7_shams_71 fl_X7_44 jlt_0 jsh_0 (by decide) jrf_7_5 jmr_0_5 ?_
              refine J_getR 39 dX7_shams_74 fl_X7_202 jlt_35 jsh_35 (by decide) jrf_4_4 jmr_35_4 ?_
              refine J_iload_3 dX7_shams_77 ?_
              obtain ⟨g6, h⟩ := h
              refine K_iald x3.toNatClampNeg rfl dX7_shams_78 jlt_39 jsh_39 g6 ?_
              refine J_goto (t := 84) dX7_shams_79 (by decide) ?_
              exact K_iret dX7_shams_84 rfl h
          · replace h := ite_t c4 h
            refine J_iload_4 dX7_shams_61 ?_
            exact K_iret dX7_shams_63 rfl h
        · replace h := ite_f c3 h
          refine J_iconst (-1 : Int32) dX7_shams_32 (by decide) ?_
          exact K_iret dX7_shams_33 rfl h
theorem eX7_shams {G : jGT} {d : Nat} {x1 : Int32} {x2 : Int32} {x3 : Int32} {M : jM} {post : Int32 → jM → Prop} (h : kX7_shams_0 G d  x1 x2 x3 M post) : CI G (d + 1) mX7_shams [.ref 0, .int x1, .int x2, .int x3] M post := Con_of_J ok_X7_shams 1 rfl rfl h
def kX7_point_0 (G : jGT) (d : Nat)  (x1 : Int32) (x2 : Int32) (x3 : Int32) (M : jM) (post : Int32 → jM → Prop) : Prop := J G (d + 1) mX7_point 0 [some (.ref 0), some (.int x1), some (.int x2), some (.int x3), none, none, none] [] jN jSH M jMR 0 0 0 0 (jQi post)
def kX7_point_66 (G : jGT) (d : Nat)  (x1 : Int32) (x2 : Int32) (x3 : Int32) (x4 : Int32) (x5 : Int32) (M : jM) (post : Int32 → jM → Prop) : Prop := J G (d + 1) mX7_point 66 [some (.ref 0), some (.int x1), some (.int x2), some (.int x3), some (.int x4), some (.int x5), none] [] jN jSH M jMR 0 0 0 0 (jQi post)
theorem bX7_point_0 {G : jGT} {d : Nat} {x1 : Int32} {x2 : Int32} {x3 : Int32} {M : jM} {post : Int32 → jM → Prop} (h : CI G d mX2_hasJudge [.ref 1, .int x1] M (fun r1 M1 => (if r1 = 0 then post (-1 : Int32) M1 else CI G d mX2_hasSuit [.ref 1, .int x2] M1 (fun r2 M2 => (if r2 = 0 then post (-1 : Int32) M2 else (if x3 < 0 then post (-1 : Int32) M2 else (if x3 ≤ (1 : Int32) then CV G d mX7_openFor [.ref 0, .int x1] M2 (fun M3 => CI G d mX2_pointsOf [.ref 1, .int x2] M3 (fun r4 M4 => CI G d mX5_wins [.ref 27, .int r4] M4 (fun r5 M5 => (if r5 = 0 then kX7_point_66 G d x1 x2 x3 r4 (0 : Int32) M5 post else post (8 : Int32) M5)))) else post (-1 : Int32) M2))))))) : kX7_point_0 G d  x1 x2 x3 M post := by
  unfold kX7_point_0
  refine J_aload_0 dX7_point_0 ?_
  refine J_getR 1 dX7_point_1 fl_X7_14 jlt_0 jsh_0 (by decide) jrf_7_0 jmr_0_0 ?_
  refine J_iload_1 dX7_point_4 ?_
  refine K_callVI (As := [.int x1]) (rest := []) dX7_point_5 vl_X7_115 jlt_1 jsh_1 _ rfl rfl h rfl rfl (Nat.le_of_ble_eq_true rfl) (fun r1 M1 h => ?_)
  refine J_if_eq (t := 31) dX7_point_8 (by decide) (fun c0 => ?_) (fun c0 => ?_)
  · replace h := ite_t c0 h
    refine J_iconst (-1 : Int32) dX7_point_31 (by decide) ?_
    exact K_iret dX7_point_32 rfl h
  · replace h := ite_f c0 h
    refine J_aload_0 dX7_point_11 ?_
    refine J_getR 1 dX7_point_12 fl_X7_14 jlt_0 jsh_0 (by decide) jrf_7_0 jmr_0_0 ?_
    refine J_iload_2 dX7_point_15 ?_
    refine K_callVI (As := [.int x2]) (rest := []) dX7_point_16 vl_X7_95 jlt_1 jsh_1 _ rfl rfl h rfl rfl (Nat.le_of_ble_eq_true rfl) (fun r2 M2 h => ?_)
    refine J_if_eq (t := 31) dX7_point_19 (by decide) (fun c1 => ?_) (fun c1 => ?_)
    · replace h := ite_t c1 h
      refine J_iconst (-1 : Int32) dX7_point_31 (by decide) ?_
      exact K_iret dX7_point_32 rfl h
    · replace h := ite_f c1 h
      refine J_iload_3 dX7_point_22 ?_
      refine J_if_lt (t := 31) dX7_point_23 (by decide) (fun c2 => ?_) (fun c2 => ?_)
      · replace h := ite_t c2 h
        refine J_iconst (-1 : Int32) dX7_point_31 (by decide) ?_
        exact K_iret dX7_point_32 rfl h
      · replace h := ite_f c2 h
        refine J_iload_3 dX7_point_26 ?_
        refine J_iconst (1 : Int32) dX7_point_27 (by decide) ?_
        refine J_icmp_le (t := 33) dX7_point_28 (by decide) (fun c3 => ?_) (fun c3 => ?_)
        · replace h := ite_t c3 h
          refine J_aload_0 dX7_point_33 ?_
          refine J_iload_1 dX7_point_34 ?_
          refine K_callVV (As := [.int x1]) (rest := []) dX7_point_35 vl_X7_124 jlt_0 jsh_0 _ rfl rfl h rfl rfl (Nat.le_of_ble_eq_true rfl) (fun M3 h => ?_)
          refine J_aload_0 dX7_point_38 ?_
          refine J_getR 1 dX7_point_39 fl_X7_14 jlt_0 jsh_0 (by decide) jrf_7_0 jmr_0_0 ?_
          refine J_iload_2 dX7_point_42 ?_
          refine K_callVI (As := [.int x2]) (rest := []) dX7_point_43 vl_X7_99 jlt_1 jsh_1 _ rfl rfl h rfl rfl (Nat.le_of_ble_eq_true rfl) (fun r4 M4 h => ?_)
          refine J_istore_4 dX7_point_46 rfl ?_
          refine J_aload_0 dX7_point_48 ?_
          refine J_getR 27 dX7_point_49 fl_X7_35 jlt_0 jsh_0 (by decide) jrf_7_4 jmr_0_4 ?_
          refine J_iload_4 dX7_point_52 ?_
          refine K_callVI (As := [.int r4]) (rest := []) dX7_point_54 vl_X7_176 jlt_27 jsh_27 _ rfl rfl h rfl rfl (Nat.le_of_ble_eq_true rfl) (fun r5 M5 h => ?_)
          refine J_if_eq (t := 63) dX7_point_57 (by decide) (fun c4 => ?_) (fun c4 => ?_)
          · replace h := ite_t c4 h
            refine J_iconst (0 : Int32) dX7_point_63 (by decide) ?_
            refine J_istore_5 dX7_point_64 rfl ?_
            exact h
          · replace h := ite_f c4 h
            refine J_bipush (8 : Int32) dX7_point_60 (by decide) ?_
            exact K_iret dX7_point_62 rfl h
        · replace h := ite_f c3 h
          refine J_iconst (-1 : Int32) dX7_point_31 (by decide) ?_
          exact K_iret dX7_point_32 rfl h
theorem bX7_point_66 {G : jGT} {d : Nat} {x1 : Int32} {x2 : Int32} {x3 : Int32} {x4 : Int32} {x5 : Int32} {M : jM} {post : Int32 → jM → Prop} (h : (if (8 : Int32) ≤ x5 then post (-5 : Int32) M else (if ((x4 >>> (x5 &&& 31)) &&& (1 : Int32)) = (1 : Int32) then (if x3 = (1 : Int32) then CI G d mX5_wins [.ref 27, .int (x4 ^^^ ((1 : Int32) <<< (x5 &&& 31)))] M (fun r2 M2 => (if r2 = 0 then kX7_point_66 G d x1 x2 x3 x4 (x5 + (1 : Int32)) M2 post else post x5 M2)) else kX7_point_66 G d x1 x2 x3 x4 (x5 + (1 : Int32)) M post) else (if x3 = (1 : Int32) then kX7_point_66 G d x1 x2 x3 x4 (x5 + (1 : Int32)) M post else CI G d mX5_wins [.ref 27, .int (x4 ^^^ ((1 : Int32) <<< (x5 &&& 31)))] M (fun r1 M1 => (if r1 = 0 then kX7_point_66 G d x1 x2 x3 x4 (x5 + (1 : Int32)) M1 post else post x5 M1)))))) : kX7_point_66 G d  x1 x2 x3 x4 x5 M post := by
  unfold kX7_point_66
  refine J_iload_5 dX7_point_66 ?_
  refine J_bipush (8 : Int32) dX7_point_68 (by decide) ?_
  refine J_icmp_ge (t := 132) dX7_point_70 (by decide) (fun c0 => ?_) (fun c0 => ?_)
  · replace h := ite_t c0 h
    refine J_bipush (-5 : Int32) dX7_point_132 (by decide) ?_
    exact K_iret dX7_point_134 rfl h
  · replace h := ite_f c0 h
    refine J_iload_4 dX7_point_73 ?_
    refine J_iload_5 dX7_point_75 ?_
    refine J_ishr dX7_point_77 ?_
    refine J_iconst (1 : Int32) dX7_point_78 (by decide) ?_
    refine J_iand dX7_point_79 ?_
    refine J_iconst (1 : Int32) dX7_point_80 (by decide) ?_
    refine J_icmp_ne (t := 88) dX7_point_81 (by decide) (fun c1 => ?_) (fun c1 => ?_)
    · replace h := ite_f c1 h
      refine J_iconst (0 : Int32) dX7_point_88 (by decide) ?_
      refine J_istore_6 dX7_point_89 rfl ?_
      refine J_iload_6 dX7_point_91 ?_
      refine J_iload_3 dX7_point_93 ?_
      refine J_iconst (1 : Int32) dX7_point_94 (by decide) ?_
      refine J_icmp_ne (t := 102) dX7_point_95 (by decide) (fun c2 => ?_) (fun c2 => ?_)
      · replace h := ite_f c2 h
        refine J_iconst (0 : Int32) dX7_point_102 (by decide) ?_
        refine J_icmp_ne (t := 126) dX7_point_103 (by decide) (fun c3 => absurd c3 (by decide)) (fun c3 => ?_)
        refine J_aload_0 dX7_point_106 ?_
        refine J_getR 27 dX7_point_107 fl_X7_35 jlt_0 jsh_0 (by decide) jrf_7_4 jmr_0_4 ?_
        refine J_iload_4 dX7_point_110 ?_
        refine J_iconst (1 : Int32) dX7_point_112 (by decide) ?_
        refine J_iload_5 dX7_point_113 ?_
        refine J_ishl dX7_point_115 ?_
        refine J_ixor dX7_point_116 ?_
        refine K_callVI (As := [.int (x4 ^^^ ((1 : Int32) <<< (x5 &&& 31)))]) (rest := []) dX7_point_117 vl_X7_176 jlt_27 jsh_27 _ rfl rfl h rfl rfl (Nat.le_of_ble_eq_true rfl) (fun r1 M1 h => ?_)
        refine J_if_eq (t := 126) dX7_point_120 (by decide) (fun c4 => ?_) (fun c4 => ?_)
        · replace h := ite_t c4 h
          refine J_iinc_5 (1 : Int32) dX7_point_126 (by decide) rfl ?_
          refine J_goto (t := 66) dX7_point_129 (by decide) ?_
          exact J_weak (lv' := [some (.ref 0), some (.int x1), some (.int x2), some (.int x3), some (.int x4), some (.int (x5 + (1 : Int32))), none]) (And.intro rfl (And.intro rfl (And.intro rfl (And.intro rfl (And.intro rfl (And.intro rfl trivial)))))) h
        · replace h := ite_f c4 h
          refine J_iload_5 dX7_point_123 ?_
          exact K_iret dX7_point_125 rfl h
      · replace h := ite_t c2 h
        refine J_iconst (1 : Int32) dX7_point_98 (by decide) ?_
        refine J_goto (t := 103) dX7_point_99 (by decide) ?_
        refine J_icmp_ne (t := 126) dX7_point_103 (by decide) (fun c3 => ?_) (fun c3 => absurd c3 (by decide))
        refine J_iinc_5 (1 : Int32) dX7_point_126 (by decide) rfl ?_
        refine J_goto (t := 66) dX7_point_129 (by decide) ?_
        exact J_weak (lv' := [some (.ref 0), some (.int x1), some (.int x2), some (.int x3), some (.int x4), some (.int (x5 + (1 : Int32))), none]) (And.intro rfl (And.intro rfl (And.intro rfl (And.intro rfl (And.intro rfl (And.intro rfl trivial)))))) h
    · replace h := ite_t c1 h
      refine J_iconst (1 : Int32) dX7_point_84 (by decide) ?_
      refine J_goto (t := 89) dX7_point_85 (by decide) ?_
      refine J_istore_6 dX7_point_89 rfl ?_
      refine J_iload_6 dX7_point_91 ?_
      refine J_iload_3 dX7_point_93 ?_
      refine J_iconst (1 : Int32) dX7_point_94 (by decide) ?_
      refine J_icmp_ne (t := 102) dX7_point_95 (by decide) (fun c2 => ?_) (fun c2 => ?_)
      · replace h := ite_f c2 h
        refine J_iconst (0 : Int32) dX7_point_102 (by decide) ?_
        refine J_icmp_ne (t := 126) dX7_point_103 (by decide) (fun c3 => ?_) (fun c3 => absurd c3 (by decide))
        refine J_iinc_5 (1 : Int32) dX7_point_126 (by decide) rfl ?_
        refine J_goto (t := 66) dX7_point_129 (by decide) ?_
        exact J_weak (lv' := [some (.ref 0), some (.int x1), some (.int x2), some (.int x3), some (.int x4), some (.int (x5 + (1 : Int32))), none]) (And.intro rfl (And.intro rfl (And.intro rfl (And.intro rfl (And.intro rfl (And.intro rfl trivial)))))) h
      · replace h := ite_t c2 h
        refine J_iconst (1 : Int32) dX7_point_98 (by decide) ?_
        refine J_goto (t := 103) dX7_point_99 (by decide) ?_
        refine J_icmp_ne (t := 126) dX7_point_103 (by decide) (fun c3 => absurd c3 (by decide)) (fun c3 => ?_)
        refine J_aload_0 dX7_point_106 ?_
        refine J_getR 27 dX7_point_107 fl_X7_35 jlt_0 jsh_0 (by decide) jrf_7_4 jmr_0_4 ?_
        refine J_iload_4 dX7_point_110 ?_
        refine J_iconst (1 : Int32) dX7_point_112 (by decide) ?_
        refine J_iload_5 dX7_point_113 ?_
        refine J_ishl dX7_point_115 ?_
        refine J_ixor dX7_point_116 ?_
        refine K_callVI (As := [.int (x4 ^^^ ((1 : Int32) <<< (x5 &&& 31)))]) (rest := []) dX7_point_117 vl_X7_176 jlt_27 jsh_27 _ rfl rfl h rfl rfl (Nat.le_of_ble_eq_true rfl) (fun r2 M2 h => ?_)
        refine J_if_eq (t := 126) dX7_point_120 (by decide) (fun c4 => ?_) (fun c4 => ?_)
        · replace h := ite_t c4 h
          refine J_iinc_5 (1 : Int32) dX7_point_126 (by decide) rfl ?_
          refine J_goto (t := 66) dX7_point_129 (by decide) ?_
          exact J_weak (lv' := [some (.ref 0), some (.int x1), some (.int x2), some (.int x3), some (.int x4), some (.int (x5 + (1 : Int32))), none]) (And.intro rfl (And.intro rfl (And.intro rfl (And.intro rfl (And.intro rfl (And.intro rfl trivial)))))) h
        · replace h := ite_f c4 h
          refine J_iload_5 dX7_point_123 ?_
          exact K_iret dX7_point_125 rfl h
theorem eX7_point {G : jGT} {d : Nat} {x1 : Int32} {x2 : Int32} {x3 : Int32} {M : jM} {post : Int32 → jM → Prop} (h : kX7_point_0 G d  x1 x2 x3 M post) : CI G (d + 1) mX7_point [.ref 0, .int x1, .int x2, .int x3] M post := Con_of_J ok_X7_point 3 rfl rfl h
