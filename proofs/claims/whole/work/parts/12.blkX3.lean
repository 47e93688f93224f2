def kX3_learnT_0 (G : jGT) (d : Nat)  (x2 : Int32) (x3 : Int32) (x4 : Int32) (x5 : Int32) (M : jM) (post : Int32 → jM → Prop) : Prop := J G (d + 1) mX3_learn 0 [some (.ref 21), some (.ref 9), some (.int x2), some (.int x3), some (.int x4), some (.int x5), none, none] [] jN jSH M jMR 0 0 0 0 (jQi post)
def kX3_learnT_3 (G : jGT) (d : Nat)  (x2 : Int32) (x3 : Int32) (x4 : Int32) (x5 : Int32) (x6 : Int32) (M : jM) (post : Int32 → jM → Prop) : Prop := J G (d + 1) mX3_learn 3 [some (.ref 21), some (.ref 9), some (.int x2), some (.int x3), some (.int x4), some (.int x5), some (.int x6), none] [] jN jSH M jMR 0 0 0 0 (jQi post)
def kX3_learnT_79 (G : jGT) (d : Nat)  (x2 : Int32) (x3 : Int32) (x4 : Int32) (x5 : Int32) (x6 : Int32) (x7 : Int32) (M : jM) (post : Int32 → jM → Prop) : Prop := J G (d + 1) mX3_learn 79 [some (.ref 21), some (.ref 9), some (.int x2), some (.int x3), some (.int x4), some (.int x5), some (.int x6), some (.int x7)] [] jN jSH M jMR 0 0 0 0 (jQi post)
theorem bX3_learnT_0 {G : jGT} {d : Nat} {x2 : Int32} {x3 : Int32} {x4 : Int32} {x5 : Int32} {M : jM} {post : Int32 → jM → Prop} (h : kX3_learnT_3 G d x2 x3 x4 x5 (0 : Int32) M post) : kX3_learnT_0 G d  x2 x3 x4 x5 M post := by
  unfold kX3_learnT_0
  refine J_iconst (0 : Int32) dX3_learn_0 (by decide) ?_
  refine J_istore_6 dX3_learn_1 rfl ?_
  exact h
theorem bX3_learnT_3 {G : jGT} {d : Nat} {x2 : Int32} {x3 : Int32} {x4 : Int32} {x5 : Int32} {x6 : Int32} {M : jM} {post : Int32 → jM → Prop} (h : (if (8 : Int32) ≤ x6 then kX3_learnT_79 G d x2 x3 x4 x5 (if (0 : Int32) < if (100 : Int32) < x2 then (100 : Int32) else x2 then if (100 : Int32) < x2 then (100 : Int32) else x2 else (0 : Int32)) (0 : Int32) (jup (jup (jup (jup (jup (jup M 21 2 (2 : Int32)) 21 9 (0 : Int32)) 21 6 (0 : Int32)) 21 3 x3) 21 4 x4) 21 5 x5) post else (vp_in x6 8 ∧ (vp_in x6 8 ∧ kX3_learnT_3 G d x2 x3 x4 x5 (x6 + (1 : Int32)) (jup (jup M 22 x6.toNatClampNeg (1 : Int32)) 23 x6.toNatClampNeg (0 : Int32)) post)))) : kX3_learnT_3 G d  x2 x3 x4 x5 x6 M post := by
  unfold kX3_learnT_3
  refine J_iload_6 dX3_learn_3 ?_
  refine J_bipush (8 : Int32) dX3_learn_5 (by decide) ?_
  refine J_icmp_ge (t := 32) dX3_learn_7 (by decide) (fun c0 => ?_) (fun c0 => ?_)
  · replace h := ite_t c0 h
    refine J_aload_0 dX3_learn_32 ?_
    refine J_iconst (2 : Int32) dX3_learn_33 (by decide) ?_
    refine J_putI false dX3_learn_34 pl_X3_18 jlt_21 jsh_21 (by decide) jrf_3_2 (fun q => absurd q (by decide)) ?_
    refine J_aload_0 dX3_learn_37 ?_
    refine J_iconst (0 : Int32) dX3_learn_38 (by decide) ?_
    refine J_putI false dX3_learn_39 pl_X3_40 jlt_21 jsh_21 (by decide) jrf_3_9 (fun q => absurd q (by decide)) ?_
    refine J_aload_0 dX3_learn_42 ?_
    refine J_iconst (0 : Int32) dX3_learn_43 (by decide) ?_
    refine J_putI false dX3_learn_44 pl_X3_31 jlt_21 jsh_21 (by decide) jrf_3_6 (fun q => absurd q (by decide)) ?_
    refine J_aload_0 dX3_learn_47 ?_
    refine J_iload_3 dX3_learn_48 ?_
    refine J_putI false dX3_learn_49 pl_X3_22 jlt_21 jsh_21 (by decide) jrf_3_3 (fun q => absurd q (by decide)) ?_
    refine J_aload_0 dX3_learn_52 ?_
    refine J_iload_4 dX3_learn_53 ?_
    refine J_putI false dX3_learn_55 pl_X3_25 jlt_21 jsh_21 (by decide) jrf_3_4 (fun q => absurd q (by decide)) ?_
    refine J_aload_0 dX3_learn_58 ?_
    refine J_iload_5 dX3_learn_59 ?_
    refine J_putI false dX3_learn_61 pl_X3_28 jlt_21 jsh_21 (by decide) jrf_3_5 (fun q => absurd q (by decide)) ?_
    refine J_iconst (0 : Int32) dX3_learn_64 (by decide) ?_
    refine J_iload_2 dX3_learn_65 ?_
    refine J_aload_1 dX3_learn_66 ?_
    refine J_alen (t := 1) (100 : Int32) dX3_learn_67 jlt_9 jsh_9 (by decide) (by decide) ?_
    refine J_mmin dX3_learn_68 w_439 (by omega) (by decide) ?_
    refine J_mmax dX3_learn_71 w_442 (by omega) (by decide) ?_
    refine J_istore_6 dX3_learn_74 rfl ?_
    refine J_iconst (0 : Int32) dX3_learn_76 (by decide) ?_
    refine J_istore_7 dX3_learn_77 rfl ?_
    exact h
  · replace h := ite_f c0 h
    refine J_aload_0 dX3_learn_10 ?_
    refine J_getR 22 dX3_learn_11 fl_X3_9 jlt_21 jsh_21 (by decide) jrf_3_0 jmr_21_0 ?_
    refine J_iload_6 dX3_learn_14 ?_
    refine J_iconst (1 : Int32) dX3_learn_16 (by decide) ?_
    obtain ⟨g1, h⟩ := h
    refine K_iast x6.toNatClampNeg rfl dX3_learn_17 jlt_22 jsh_22 g1 ?_
    refine J_aload_0 dX3_learn_18 ?_
    refine J_getR 23 dX3_learn_19 fl_X3_15 jlt_21 jsh_21 (by decide) jrf_3_1 jmr_21_1 ?_
    refine J_iload_6 dX3_learn_22 ?_
    refine J_iconst (0 : Int32) dX3_learn_24 (by decide) ?_
    obtain ⟨g2, h⟩ := h
    refine K_iast x6.toNatClampNeg rfl dX3_learn_25 jlt_23 jsh_23 g2 ?_
    refine J_iinc_6 (1 : Int32) dX3_learn_26 (by decide) rfl ?_
    refine J_goto (t := 3) dX3_learn_29 (by decide) ?_
    exact h
theorem bX3_learnT_79 {G : jGT} {d : Nat} {x2 : Int32} {x3 : Int32} {x4 : Int32} {x5 : Int32} {x6 : Int32} {x7 : Int32} {M : jM} {post : Int32 → jM → Prop} (h : (if x6 ≤ x7 then CI G d mX3_goesOn [.ref 21, .int (59 : Int32)] M (fun r1 M1 => (if r1 = 0 then post x6 M1 else post (-1 : Int32) M1)) else (vp_in x7 100 ∧ CI G d mX3_goesOn [.ref 21, .int (M 9 x7.toNatClampNeg)] M (fun r2 M2 => (if r2 = 0 then post x7 M2 else (if (M2 21 9) = (10 : Int32) then post x7 M2 else kX3_learnT_79 G d x2 x3 x4 x5 x6 (x7 + (1 : Int32)) M2 post)))))) : kX3_learnT_79 G d  x2 x3 x4 x5 x6 x7 M post := by
  unfold kX3_learnT_79
  refine J_iload_7 dX3_learn_79 ?_
  refine J_iload_6 dX3_learn_81 ?_
  refine J_icmp_ge (t := 115) dX3_learn_83 (by decide) (fun c0 => ?_) (fun c0 => ?_)
  · replace h := ite_t c0 h
    refine J_aload_0 dX3_learn_115 ?_
    refine J_bipush (59 : Int32) dX3_learn_116 (by decide) ?_
    refine K_callVI (As := [.int (59 : Int32)]) (rest := []) dX3_learn_118 vl_X3_79 jlt_21 jsh_21 _ rfl rfl h rfl rfl (Nat.le_of_ble_eq_true rfl) (fun r1 M1 h => ?_)
    refine J_if_eq (t := 128) dX3_learn_121 (by decide) (fun c1 => ?_) (fun c1 => ?_)
    · replace h := ite_t c1 h
      refine J_iload_6 dX3_learn_128 ?_
      exact K_iret dX3_learn_130 rfl h
    · replace h := ite_f c1 h
      refine J_iconst (-1 : Int32) dX3_learn_124 (by decide) ?_
      refine J_goto (t := 130) dX3_learn_125 (by decide) ?_
      exact K_iret dX3_learn_130 rfl h
  · replace h := ite_f c0 h
    refine J_aload_0 dX3_learn_86 ?_
    refine J_aload_1 dX3_learn_87 ?_
    refine J_iload_7 dX3_learn_88 ?_
    obtain ⟨g1, h⟩ := h
    refine K_bald x7.toNatClampNeg rfl dX3_learn_90 jlt_9 jsh_9 g1 ?_
    refine K_callVI (As := [.int (M 9 x7.toNatClampNeg)]) (rest := []) dX3_learn_91 vl_X3_79 jlt_21 jsh_21 _ rfl rfl h rfl rfl (Nat.le_of_ble_eq_true rfl) (fun r2 M2 h => ?_)
    refine J_if_eq (t := 106) dX3_learn_94 (by decide) (fun c2 => ?_) (fun c2 => ?_)
    · replace h := ite_t c2 h
      refine J_iload_7 dX3_learn_106 ?_
      exact K_iret dX3_learn_108 rfl h
    · replace h := ite_f c2 h
      refine J_aload_0 dX3_learn_97 ?_
      refine J_getI dX3_learn_98 fl_X3_40 jlt_21 jsh_21 (by decide) jrf_3_9 ?_
      refine J_bipush (10 : Int32) dX3_learn_101 (by decide) ?_
      refine J_icmp_ne (t := 109) dX3_learn_103 (by decide) (fun c3 => ?_) (fun c3 => ?_)
      · replace h := ite_f c3 h
        refine J_iinc_7 (1 : Int32) dX3_learn_109 (by decide) rfl ?_
        refine J_goto (t := 79) dX3_learn_112 (by decide) ?_
        exact h
      · replace h := ite_t c3 h
        refine J_iload_7 dX3_learn_106 ?_
        exact K_iret dX3_learn_108 rfl h
theorem eX3_learnT {G : jGT} {d : Nat} {x2 : Int32} {x3 : Int32} {x4 : Int32} {x5 : Int32} {M : jM} {post : Int32 → jM → Prop} (h : kX3_learnT_0 G d  x2 x3 x4 x5 M post) : CI G (d + 1) mX3_learn [.ref 21, .ref 9, .int x2, .int x3, .int x4, .int x5] M post := Con_of_J ok_X3_learn 2 rfl rfl h
def kX3_learnL_0 (G : jGT) (d : Nat)  (x2 : Int32) (x3 : Int32) (x4 : Int32) (x5 : Int32) (M : jM) (post : Int32 → jM → Prop) : Prop := J G (d + 1) mX3_learn 0 [some (.ref 21), some (.ref 10), some (.int x2), some (.int x3), some (.int x4), some (.int x5), none, none] [] jN jSH M jMR 0 0 0 0 (jQi post)
def kX3_learnL_3 (G : jGT) (d : Nat)  (x2 : Int32) (x3 : Int32) (x4 : Int32) (x5 : Int32) (x6 : Int32) (M : jM) (post : Int32 → jM → Prop) : Prop := J G (d + 1) mX3_learn 3 [some (.ref 21), some (.ref 10), some (.int x2), some (.int x3), some (.int x4), some (.int x5), some (.int x6), none] [] jN jSH M jMR 0 0 0 0 (jQi post)
def kX3_learnL_79 (G : jGT) (d : Nat)  (x2 : Int32) (x3 : Int32) (x4 : Int32) (x5 : Int32) (x6 : Int32) (x7 : Int32) (M : jM) (post : Int32 → jM → Prop) : Prop := J G (d + 1) mX3_learn 79 [some (.ref 21), some (.ref 10), some (.int x2), some (.int x3), some (.int x4), some (.int x5), some (.int x6), some (.int x7)] [] jN jSH M jMR 0 0 0 0 (jQi post)
theorem bX3_learnL_0 {G : jGT} {d : Nat} {x2 : Int32} {x3 : Int32} {x4 : Int32} {x5 : Int32} {M : jM} {post : Int32 → jM → Prop} (h : kX3_learnL_3 G d x2 x3 x4 x5 (0 : Int32) M post) : kX3_learnL_0 G d  x2 x3 x4 x5 M post := by
  unfold kX3_learnL_0
  refine J_iconst (0 : Int32) dX3_learn_0 (by decide) ?_
  refine J_istore_6 dX3_learn_1 rfl ?_
  exact h
theorem bX3_learnL_3 {G : jGT} {d : Nat} {x2 : Int32} {x3 : Int32} {x4 : Int32} {x5 : Int32} {x6 : Int32} {M : jM} {post : Int32 → jM → Prop} (h : (if (8 : Int32) ≤ x6 then kX3_learnL_79 G d x2 x3 x4 x5 (if (0 : Int32) < if (100 : Int32) < x2 then (100 : Int32) else x2 then if (100 : Int32) < x2 then (100 : Int32) else x2 else (0 : Int32)) (0 : Int32) (jup (jup (jup (jup (jup (jup M 21 2 (2 : Int32)) 21 9 (0 : Int32)) 21 6 (0 : Int32)) 21 3 x3) 21 4 x4) 21 5 x5) post else (vp_in x6 8 ∧ (vp_in x6 8 ∧ kX3_learnL_3 G d x2 x3 x4 x5 (x6 + (1 : Int32)) (jup (jup M 22 x6.toNatClampNeg (1 : Int32)) 23 x6.toNatClampNeg (0 : Int32)) post)))) : kX3_learnL_3 G d  x2 x3 x4 x5 x6 M post := by
  unfold kX3_learnL_3
  refine J_iload_6 dX3_learn_3 ?_
  refine J_bipush (8 : Int32) dX3_learn_5 (by decide) ?_
  refine J_icmp_ge (t := 32) dX3_learn_7 (by decide) (fun c0 => ?_) (fun c0 => ?_)
  · replace h := ite_t c0 h
    refine J_aload_0 dX3_learn_32 ?_
    refine J_iconst (2 : Int32) dX3_learn_33 (by decide) ?_
    refine J_putI false dX3_learn_34 pl_X3_18 jlt_21 jsh_21 (by decide) jrf_3_2 (fun q => absurd q (by decide)) ?_
    refine J_aload_0 dX3_learn_37 ?_
    refine J_iconst (0 : Int32) dX3_learn_38 (by decide) ?_
    refine J_putI false dX3_learn_39 pl_X3_40 jlt_21 jsh_21 (by decide) jrf_3_9 (fun q => absurd q (by decide)) ?_
    refine J_aload_0 dX3_learn_42 ?_
    refine J_iconst (0 : Int32) dX3_learn_43 (by decide) ?_
    refine J_putI false dX3_learn_44 pl_X3_31 jlt_21 jsh_21 (by decide) jrf_3_6 (fun q => absurd q (by decide)) ?_
    refine J_aload_0 dX3_learn_47 ?_
    refine J_iload_3 dX3_learn_48 ?_
    refine J_putI false dX3_learn_49 pl_X3_22 jlt_21 jsh_21 (by decide) jrf_3_3 (fun q => absurd q (by decide)) ?_
    refine J_aload_0 dX3_learn_52 ?_
    refine J_iload_4 dX3_learn_53 ?_
    refine J_putI false dX3_learn_55 pl_X3_25 jlt_21 jsh_21 (by decide) jrf_3_4 (fun q => absurd q (by decide)) ?_
    refine J_aload_0 dX3_learn_58 ?_
    refine J_iload_5 dX3_learn_59 ?_
    refine J_putI false dX3_learn_61 pl_X3_28 jlt_21 jsh_21 (by decide) jrf_3_5 (fun q => absurd q (by decide)) ?_
    refine J_iconst (0 : Int32) dX3_learn_64 (by decide) ?_
    refine J_iload_2 dX3_learn_65 ?_
    refine J_aload_1 dX3_learn_66 ?_
    refine J_alen (t := 1) (100 : Int32) dX3_learn_67 jlt_10 jsh_10 (by decide) (by decide) ?_
    refine J_mmin dX3_learn_68 w_439 (by omega) (by decide) ?_
    refine J_mmax dX3_learn_71 w_442 (by omega) (by decide) ?_
    refine J_istore_6 dX3_learn_74 rfl ?_
    refine J_iconst (0 : Int32) dX3_learn_76 (by decide) ?_
    refine J_istore_7 dX3_learn_77 rfl ?_
    exact h
  · replace h := ite_f c0 h
    refine J_aload_0 dX3_learn_10 ?_
    refine J_getR 22 dX3_learn_11 fl_X3_9 jlt_21 jsh_21 (by decide) jrf_3_0 jmr_21_0 ?_
    refine J_iload_6 dX3_learn_14 ?_
    refine J_iconst (1 : Int32) dX3_learn_16 (by decide) ?_
    obtain ⟨g1, h⟩ := h
    refine K_iast x6.toNatClampNeg rfl dX3_learn_17 jlt_22 jsh_22 g1 ?_
    refine J_aload_0 dX3_learn_18 ?_
    refine J_getR 23 dX3_learn_19 fl_X3_15 jlt_21 jsh_21 (by decide) jrf_3_1 jmr_21_1 ?_
    refine J_iload_6 dX3_learn_22 ?_
    refine J_iconst (0 : Int32) dX3_learn_24 (by decide) ?_
    obtain ⟨g2, h⟩ := h
    refine K_iast x6.toNatClampNeg rfl dX3_learn_25 jlt_23 jsh_23 g2 ?_
    refine J_iinc_6 (1 : Int32) dX3_learn_26 (by decide) rfl ?_
    refine J_goto (t := 3) dX3_learn_29 (by decide) ?_
    exact h
theorem bX3_learnL_79 {G : jGT} {d : Nat} {x2 : Int32} {x3 : Int32} {x4 : Int32} {x5 : Int32} {x6 : Int32} {x7 : Int32} {M : jM} {post : Int32 → jM → Prop} (h : (if x6 ≤ x7 then CI G d mX3_goesOn [.ref 21, .int (59 : Int32)] M (fun r1 M1 => (if r1 = 0 then post x6 M1 else post (-1 : Int32) M1)) else (vp_in x7 100 ∧ CI G d mX3_goesOn [.ref 21, .int (M 10 x7.toNatClampNeg)] M (fun r2 M2 => (if r2 = 0 then post x7 M2 else (if (M2 21 9) = (10 : Int32) then post x7 M2 else kX3_learnL_79 G d x2 x3 x4 x5 x6 (x7 + (1 : Int32)) M2 post)))))) : kX3_learnL_79 G d  x2 x3 x4 x5 x6 x7 M post := by
  unfold kX3_learnL_79
  refine J_iload_7 dX3_learn_79 ?_
  refine J_iload_6 dX3_learn_81 ?_
  refine J_icmp_ge (t := 115) dX3_learn_83 (by decide) (fun c0 => ?_) (fun c0 => ?_)
  · replace h := ite_t c0 h
    refine J_aload_0 dX3_learn_115 ?_
    refine J_bipush (59 : Int32) dX3_learn_116 (by decide) ?_
    refine K_callVI (As := [.int (59 : Int32)]) (rest := []) dX3_learn_118 vl_X3_79 jlt_21 jsh_21 _ rfl rfl h rfl rfl (Nat.le_of_ble_eq_true rfl) (fun r1 M1 h => ?_)
    refine J_if_eq (t := 128) dX3_learn_121 (by decide) (fun c1 => ?_) (fun c1 => ?_)
    · replace h := ite_t c1 h
      refine J_iload_6 dX3_learn_128 ?_
      exact K_iret dX3_learn_130 rfl h
    · replace h := ite_f c1 h
      refine J_iconst (-1 : Int32) dX3_learn_124 (by decide) ?_
      refine J_goto (t := 130) dX3_learn_125 (by decide) ?_
      exact K_iret dX3_learn_130 rfl h
  · replace h := ite_f c0 h
    refine J_aload_0 dX3_learn_86 ?_
    refine J_aload_1 dX3_learn_87 ?_
    refine J_iload_7 dX3_learn_88 ?_
    obtain ⟨g1, h⟩ := h
    refine K_bald x7.toNatClampNeg rfl dX3_learn_90 jlt_10 jsh_10 g1 ?_
    refine K_callVI (As := [.int (M 10 x7.toNatClampNeg)]) (rest := []) dX3_learn_91 vl_X3_79 jlt_21 jsh_21 _ rfl rfl h rfl rfl (Nat.le_of_ble_eq_true rfl) (fun r2 M2 h => ?_)
    refine J_if_eq (t := 106) dX3_learn_94 (by decide) (fun c2 => ?_) (fun c2 => ?_)
    · replace h := ite_t c2 h
      refine J_iload_7 dX3_learn_106 ?_
      exact K_iret dX3_learn_108 rfl h
    · replace h := ite_f c2 h
      refine J_aload_0 dX3_learn_97 ?_
      refine J_getI dX3_learn_98 fl_X3_40 jlt_21 jsh_21 (by decide) jrf_3_9 ?_
      refine J_bipush (10 : Int32) dX3_learn_101 (by decide) ?_
      refine J_icmp_ne (t := 109) dX3_learn_103 (by decide) (fun c3 => ?_) (fun c3 => ?_)
      · replace h := ite_f c3 h
        refine J_iinc_7 (1 : Int32) dX3_learn_109 (by decide) rfl ?_
        refine J_goto (t := 79) dX3_learn_112 (by decide) ?_
        exact h
      · replace h := ite_t c3 h
        refine J_iload_7 dX3_learn_106 ?_
        exact K_iret dX3_learn_108 rfl h
theorem eX3_learnL {G : jGT} {d : Nat} {x2 : Int32} {x3 : Int32} {x4 : Int32} {x5 : Int32} {M : jM} {post : Int32 → jM → Prop} (h : kX3_learnL_0 G d  x2 x3 x4 x5 M post) : CI G (d + 1) mX3_learn [.ref 21, .ref 10, .int x2, .int x3, .int x4, .int x5] M post := Con_of_J ok_X3_learn 2 rfl rfl h
def kX3_goesOn_0 (G : jGT) (d : Nat)  (x1 : Int32) (M : jM) (post : Int32 → jM → Prop) : Prop := J G (d + 1) mX3_goesOn 0 [some (.ref 21), some (.int x1)] [] jN jSH M jMR 0 0 0 0 (jQi post)
theorem bX3_goesOn_0 {G : jGT} {d : Nat} {x1 : Int32} {M : jM} {post : Int32 → jM → Prop} (h : (if (M 21 6) = (0 : Int32) then CI G d mX3_beginsClause [.ref 21, .int x1] M (fun r1 M1 => ((r1 = 0 ∨ r1 = 1) ∧ post r1 M1)) else (if (M 21 6) = (1 : Int32) then CI G d mX3_goesOnWord [.ref 21, .int x1] M (fun r2 M2 => ((r2 = 0 ∨ r2 = 1) ∧ post r2 M2)) else (if (M 21 6) = (2 : Int32) then CI G d mX3_isDigit [.ref 21, .int x1] M (fun r3 M3 => (if r3 = 0 then (if (M3 21 11) ≤ 0 then post (0 : Int32) M3 else CI G d mX3_endsAmount [.ref 21, .int x1] M3 (fun r4 M4 => (if r4 = 0 then post (0 : Int32) M4 else post (1 : Int32) M4))) else post (1 : Int32) M3)) else (if (M 21 6) = (3 : Int32) then CI G d mX3_beginsFactor [.ref 21, .int x1] M (fun r5 M5 => ((r5 = 0 ∨ r5 = 1) ∧ post r5 M5)) else (if (M 21 6) = (4 : Int32) then CI G d mX3_compares [.ref 21, .int x1] M (fun r6 M6 => ((r6 = 0 ∨ r6 = 1) ∧ post r6 M6)) else (if (M 21 6) = (5 : Int32) then CI G d mX3_isDigit [.ref 21, .int x1] M (fun r7 M7 => (if r7 = 0 then (if (M7 21 11) ≤ 0 then post (0 : Int32) M7 else CI G d mX3_endsTest [.ref 21, .int x1] M7 (fun r8 M8 => (if r8 = 0 then post (0 : Int32) M8 else post (1 : Int32) M8))) else post (1 : Int32) M7)) else CI G d mX3_goesBehind [.ref 21, .int x1] M (fun r9 M9 => ((r9 = 0 ∨ r9 = 1) ∧ post r9 M9))))))))) : kX3_goesOn_0 G d  x1 M post := by
  unfold kX3_goesOn_0
  refine J_aload_0 dX3_goesOn_0 ?_
  refine J_getI dX3_goesOn_1 fl_X3_31 jlt_21 jsh_21 (by decide) jrf_3_6 ?_
  by_cases c0 : (M 21 6) = (0 : Int32)
  · replace h := ite_t c0 h
    refine J_tswC (off := 40) (t := 44) dX3_goesOn_4 c0 (by decide) ?_
    refine J_aload_0 dX3_goesOn_44 ?_
    refine J_iload_1 dX3_goesOn_45 ?_
    refine K_callVI (As := [.int x1]) (rest := []) dX3_goesOn_46 vl_X3_83 jlt_21 jsh_21 _ rfl rfl h rfl rfl (Nat.le_of_ble_eq_true rfl) (fun r1 M1 h => ?_)
    exact K_zret dX3_goesOn_49 rfl (nz h.1) h.2
  replace h := ite_f c0 h
  by_cases c1 : (M 21 6) = (1 : Int32)
  · replace h := ite_t c1 h
    refine J_tswC (off := 46) (t := 50) dX3_goesOn_4 c1 (by decide) ?_
    refine J_aload_0 dX3_goesOn_50 ?_
    refine J_iload_1 dX3_goesOn_51 ?_
    refine K_callVI (As := [.int x1]) (rest := []) dX3_goesOn_52 vl_X3_86 jlt_21 jsh_21 _ rfl rfl h rfl rfl (Nat.le_of_ble_eq_true rfl) (fun r2 M2 h => ?_)
    exact K_zret dX3_goesOn_55 rfl (nz h.1) h.2
  replace h := ite_f c1 h
  by_cases c2 : (M 21 6) = (2 : Int32)
  · replace h := ite_t c2 h
    refine J_tswC (off := 52) (t := 56) dX3_goesOn_4 c2 (by decide) ?_
    refine J_aload_0 dX3_goesOn_56 ?_
    refine J_iload_1 dX3_goesOn_57 ?_
    refine K_callVI (As := [.int x1]) (rest := []) dX3_goesOn_58 vl_X3_89 jlt_21 jsh_21 _ rfl rfl h rfl rfl (Nat.le_of_ble_eq_true rfl) (fun r3 M3 h => ?_)
    refine J_if_ne (t := 79) dX3_goesOn_61 (by decide) (fun c3 => ?_) (fun c3 => ?_)
    · replace h := ite_f c3 h
      refine J_iconst (1 : Int32) dX3_goesOn_79 (by decide) ?_
      refine J_goto (t := 84) dX3_goesOn_80 (by decide) ?_
      exact K_zret dX3_goesOn_84 rfl (by decide +kernel) h
    · replace h := ite_t c3 h
      refine J_aload_0 dX3_goesOn_64 ?_
      refine J_getI dX3_goesOn_65 fl_X3_46 jlt_21 jsh_21 (by decide) jrf_3_11 ?_
      refine J_if_le (t := 83) dX3_goesOn_68 (by decide) (fun c4 => ?_) (fun c4 => ?_)
      · replace h := ite_t c4 h
        refine J_iconst (0 : Int32) dX3_goesOn_83 (by decide) ?_
        exact K_zret dX3_goesOn_84 rfl (by decide +kernel) h
      · replace h := ite_f c4 h
        refine J_aload_0 dX3_goesOn_71 ?_
        refine J_iload_1 dX3_goesOn_72 ?_
        refine K_callVI (As := [.int x1]) (rest := []) dX3_goesOn_73 vl_X3_92 jlt_21 jsh_21 _ rfl rfl h rfl rfl (Nat.le_of_ble_eq_true rfl) (fun r4 M4 h => ?_)
        refine J_if_eq (t := 83) dX3_goesOn_76 (by decide) (fun c5 => ?_) (fun c5 => ?_)
        · replace h := ite_t c5 h
          refine J_iconst (0 : Int32) dX3_goesOn_83 (by decide) ?_
          exact K_zret dX3_goesOn_84 rfl (by decide +kernel) h
        · replace h := ite_f c5 h
          refine J_iconst (1 : Int32) dX3_goesOn_79 (by decide) ?_
          refine J_goto (t := 84) dX3_goesOn_80 (by decide) ?_
          exact K_zret dX3_goesOn_84 rfl (by decide +kernel) h
  replace h := ite_f c2 h
  by_cases c3 : (M 21 6) = (3 : Int32)
  · replace h := ite_t c3 h
    refine J_tswC (off := 81) (t := 85) dX3_goesOn_4 c3 (by decide) ?_
    refine J_aload_0 dX3_goesOn_85 ?_
    refine J_iload_1 dX3_goesOn_86 ?_
    refine K_callVI (As := [.int x1]) (rest := []) dX3_goesOn_87 vl_X3_95 jlt_21 jsh_21 _ rfl rfl h rfl rfl (Nat.le_of_ble_eq_true rfl) (fun r5 M5 h => ?_)
    exact K_zret dX3_goesOn_90 rfl (nz h.1) h.2
  replace h := ite_f c3 h
  by_cases c4 : (M 21 6) = (4 : Int32)
  · replace h := ite_t c4 h
    refine J_tswC (off := 87) (t := 91) dX3_goesOn_4 c4 (by decide) ?_
    refine J_aload_0 dX3_goesOn_91 ?_
    refine J_iload_1 dX3_goesOn_92 ?_
    refine K_callVI (As := [.int x1]) (rest := []) dX3_goesOn_93 vl_X3_98 jlt_21 jsh_21 _ rfl rfl h rfl rfl (Nat.le_of_ble_eq_true rfl) (fun r6 M6 h => ?_)
    exact K_zret dX3_goesOn_96 rfl (nz h.1) h.2
  replace h := ite_f c4 h
  by_cases c5 : (M 21 6) = (5 : Int32)
  · replace h := ite_t c5 h
    refine J_tswC (off := 93) (t := 97) dX3_goesOn_4 c5 (by decide) ?_
    refine J_aload_0 dX3_goesOn_97 ?_
    refine J_iload_1 dX3_goesOn_98 ?_
    refine K_callVI (As := [.int x1]) (rest := []) dX3_goesOn_99 vl_X3_89 jlt_21 jsh_21 _ rfl rfl h rfl rfl (Nat.le_of_ble_eq_true rfl) (fun r7 M7 h => ?_)
    refine J_if_ne (t := 120) dX3_goesOn_102 (by decide) (fun c6 => ?_) (fun c6 => ?_)
    · replace h := ite_f c6 h
      refine J_iconst (1 : Int32) dX3_goesOn_120 (by decide) ?_
      refine J_goto (t := 125) dX3_goesOn_121 (by decide) ?_
      exact K_zret dX3_goesOn_125 rfl (by decide +kernel) h
    · replace h := ite_t c6 h
      refine J_aload_0 dX3_goesOn_105 ?_
      refine J_getI dX3_goesOn_106 fl_X3_46 jlt_21 jsh_21 (by decide) jrf_3_11 ?_
      refine J_if_le (t := 124) dX3_goesOn_109 (by decide) (fun c7 => ?_) (fun c7 => ?_)
      · replace h := ite_t c7 h
        refine J_iconst (0 : Int32) dX3_goesOn_124 (by decide) ?_
        exact K_zret dX3_goesOn_125 rfl (by decide +kernel) h
      · replace h := ite_f c7 h
        refine J_aload_0 dX3_goesOn_112 ?_
        refine J_iload_1 dX3_goesOn_113 ?_
        refine K_callVI (As := [.int x1]) (rest := []) dX3_goesOn_114 vl_X3_101 jlt_21 jsh_21 _ rfl rfl h rfl rfl (Nat.le_of_ble_eq_true rfl) (fun r8 M8 h => ?_)
        refine J_if_eq (t := 124) dX3_goesOn_117 (by decide) (fun c8 => ?_) (fun c8 => ?_)
        · replace h := ite_t c8 h
          refine J_iconst (0 : Int32) dX3_goesOn_124 (by decide) ?_
          exact K_zret dX3_goesOn_125 rfl (by decide +kernel) h
        · replace h := ite_f c8 h
          refine J_iconst (1 : Int32) dX3_goesOn_120 (by decide) ?_
          refine J_goto (t := 125) dX3_goesOn_121 (by decide) ?_
          exact K_zret dX3_goesOn_125 rfl (by decide +kernel) h
  replace h := ite_f c5 h
  refine J_tswD (t := 126) dX3_goesOn_4 (j_outr (offs := #[40, 46, 52, 81, 87, 93]) [(0 : Int32), (1 : Int32), (2 : Int32), (3 : Int32), (4 : Int32), (5 : Int32)] (by decide) (by decide) (by decide) (by decide) (by simp only [List.forall_mem_cons, List.not_mem_nil, false_implies, implies_true, and_true]; exact ⟨c0, c1, c2, c3, c4, c5⟩)) (by decide) ?_
  refine J_aload_0 dX3_goesOn_126 ?_
  refine J_iload_1 dX3_goesOn_127 ?_
  refine K_callVI (As := [.int x1]) (rest := []) dX3_goesOn_128 vl_X3_104 jlt_21 jsh_21 _ rfl rfl h rfl rfl (Nat.le_of_ble_eq_true rfl) (fun r9 M9 h => ?_)
  exact K_zret dX3_goesOn_131 rfl (nz h.1) h.2
theorem eX3_goesOn {G : jGT} {d : Nat} {x1 : Int32} {M : jM} {post : Int32 → jM → Prop} (h : kX3_goesOn_0 G d  x1 M post) : CI G (d + 1) mX3_goesOn [.ref 21, .int x1] M post := Con_of_J ok_X3_goesOn 0 rfl rfl h
def kX3_beginsClause_0 (G : jGT) (d : Nat)  (x1 : Int32) (M : jM) (post : Int32 → jM → Prop) : Prop := J G d mX3_beginsClause 0 [some (.ref 21), some (.int x1)] [] jN jSH M jMR 0 0 0 0 (jQi post)
theorem bX3_beginsClause_0 {G : jGT} {d : Nat} {x1 : Int32} {M : jM} {post : Int32 → jM → Prop} (h : (if x1 = (119 : Int32) then post (1 : Int32) (jup (jup (jup M 21 7 x1) 21 8 (1 : Int32)) 21 6 (1 : Int32)) else (if x1 = (99 : Int32) then post (1 : Int32) (jup (jup (jup M 21 7 x1) 21 8 (1 : Int32)) 21 6 (1 : Int32)) else (if x1 = (98 : Int32) then post (1 : Int32) (jup (jup (jup M 21 7 x1) 21 8 (1 : Int32)) 21 6 (1 : Int32)) else post (0 : Int32) (jup (jup (jup M 21 7 x1) 21 8 (1 : Int32)) 21 6 (1 : Int32)))))) : kX3_beginsClause_0 G d  x1 M post := by
  unfold kX3_beginsClause_0
  refine J_aload_0 dX3_beginsClause_0 ?_
  refine J_iload_1 dX3_beginsClause_1 ?_
  refine J_putI false dX3_beginsClause_2 pl_X3_34 jlt_21 jsh_21 (by decide) jrf_3_7 (fun q => absurd q (by decide)) ?_
  refine J_aload_0 dX3_beginsClause_5 ?_
  refine J_iconst (1 : Int32) dX3_beginsClause_6 (by decide) ?_
  refine J_putI false dX3_beginsClause_7 pl_X3_37 jlt_21 jsh_21 (by decide) jrf_3_8 (fun q => absurd q (by decide)) ?_
  refine J_aload_0 dX3_beginsClause_10 ?_
  refine J_iconst (1 : Int32) dX3_beginsClause_11 (by decide) ?_
  refine J_putI false dX3_beginsClause_12 pl_X3_31 jlt_21 jsh_21 (by decide) jrf_3_6 (fun q => absurd q (by decide)) ?_
  refine J_iload_1 dX3_beginsClause_15 ?_
  refine J_bipush (119 : Int32) dX3_beginsClause_16 (by decide) ?_
  refine J_icmp_eq (t := 33) dX3_beginsClause_18 (by decide) (fun c0 => ?_) (fun c0 => ?_)
  · replace h := ite_t c0 h
    refine J_iconst (1 : Int32) dX3_beginsClause_33 (by decide) ?_
    refine J_goto (t := 38) dX3_beginsClause_34 (by decide) ?_
    exact K_zret dX3_beginsClause_38 rfl (by decide +kernel) h
  · replace h := ite_f c0 h
    refine J_iload_1 dX3_beginsClause_21 ?_
    refine J_bipush (99 : Int32) dX3_beginsClause_22 (by decide) ?_
    refine J_icmp_eq (t := 33) dX3_beginsClause_24 (by decide) (fun c1 => ?_) (fun c1 => ?_)
    · replace h := ite_t c1 h
      refine J_iconst (1 : Int32) dX3_beginsClause_33 (by decide) ?_
      refine J_goto (t := 38) dX3_beginsClause_34 (by decide) ?_
      exact K_zret dX3_beginsClause_38 rfl (by decide +kernel) h
    · replace h := ite_f c1 h
      refine J_iload_1 dX3_beginsClause_27 ?_
      refine J_bipush (98 : Int32) dX3_beginsClause_28 (by decide) ?_
      refine J_icmp_ne (t := 37) dX3_beginsClause_30 (by decide) (fun c2 => ?_) (fun c2 => ?_)
      · replace h := ite_f c2 h
        refine J_iconst (0 : Int32) dX3_beginsClause_37 (by decide) ?_
        exact K_zret dX3_beginsClause_38 rfl (by decide +kernel) h
      · replace h := ite_t c2 h
        refine J_iconst (1 : Int32) dX3_beginsClause_33 (by decide) ?_
        refine J_goto (t := 38) dX3_beginsClause_34 (by decide) ?_
        exact K_zret dX3_beginsClause_38 rfl (by decide +kernel) h
theorem eX3_beginsClause {G : jGT} {d : Nat} {x1 : Int32} {M : jM} {post : Int32 → jM → Prop} (h : kX3_beginsClause_0 G d  x1 M post) : CI G d mX3_beginsClause [.ref 21, .int x1] M post := Con_of_J ok_X3_beginsClause 0 rfl rfl h
def kX3_goesOnWord_0 (G : jGT) (d : Nat)  (x1 : Int32) (M : jM) (post : Int32 → jM → Prop) : Prop := J G (d + 1) mX3_goesOnWord 0 [some (.ref 21), some (.int x1), none] [] jN jSH M jMR 0 0 0 0 (jQi post)
theorem bX3_goesOnWord_0 {G : jGT} {d : Nat} {x1 : Int32} {M : jM} {post : Int32 → jM → Prop} (h : (if (M 21 7) = (119 : Int32) then (if (M 21 8) < 0 then post (0 : Int32) M else CI G d mJ0_length_8abf5 [.ref 3000] M (fun r9 M9 => (if r9 ≤ (M 21 8) then post (0 : Int32) M9 else CI G d mJ0_charAt_5068e [.ref 3000, .int (M9 21 8)] M9 (fun r10 M10 => (if r10 = x1 then CI G d mJ0_length_8abf5 [.ref 3000] (jup M10 21 8 ((M10 21 8) + (1 : Int32))) (fun r11 M11 => (if ((M10 21 8) + (1 : Int32)) = r11 then CV G d mX3_beginNumber [.ref 21, .int (2 : Int32)] M11 (fun M12 => post (1 : Int32) M12) else post (1 : Int32) M11)) else post (0 : Int32) M10))))) else (if (M 21 7) = (99 : Int32) then (if (M 21 8) < 0 then post (0 : Int32) M else CI G d mJ0_length_8abf5 [.ref 3001] M (fun r5 M5 => (if r5 ≤ (M 21 8) then post (0 : Int32) M5 else CI G d mJ0_charAt_5068e [.ref 3001, .int (M5 21 8)] M5 (fun r6 M6 => (if r6 = x1 then CI G d mJ0_length_8abf5 [.ref 3001] (jup M6 21 8 ((M6 21 8) + (1 : Int32))) (fun r7 M7 => (if ((M6 21 8) + (1 : Int32)) = r7 then CV G d mX3_beginNumber [.ref 21, .int (2 : Int32)] M7 (fun M8 => post (1 : Int32) M8) else post (1 : Int32) M7)) else post (0 : Int32) M6))))) else (if (M 21 8) < 0 then post (0 : Int32) M else CI G d mJ0_length_8abf5 [.ref 3002] M (fun r1 M1 => (if r1 ≤ (M 21 8) then post (0 : Int32) M1 else CI G d mJ0_charAt_5068e [.ref 3002, .int (M1 21 8)] M1 (fun r2 M2 => (if r2 = x1 then CI G d mJ0_length_8abf5 [.ref 3002] (jup M2 21 8 ((M2 21 8) + (1 : Int32))) (fun r3 M3 => (if ((M2 21 8) + (1 : Int32)) = r3 then CV G d mX3_beginNumber [.ref 21, .int (2 : Int32)] M3 (fun M4 => post (1 : Int32) M4) else post (1 : Int32) M3)) else post (0 : Int32) M2)))))))) : kX3_goesOnWord_0 G d  x1 M post := by
  unfold kX3_goesOnWord_0
  refine J_aload_0 dX3_goesOnWord_0 ?_
  refine J_getI dX3_goesOnWord_1 fl_X3_34 jlt_21 jsh_21 (by decide) jrf_3_7 ?_
  refine J_bipush (119 : Int32) dX3_goesOnWord_4 (by decide) ?_
  refine J_icmp_ne (t := 14) dX3_goesOnWord_6 (by decide) (fun c0 => ?_) (fun c0 => ?_)
  · replace h := ite_f c0 h
    refine J_aload_0 dX3_goesOnWord_14 ?_
    refine J_getI dX3_goesOnWord_15 fl_X3_34 jlt_21 jsh_21 (by decide) jrf_3_7 ?_
    refine J_bipush (99 : Int32) dX3_goesOnWord_18 (by decide) ?_
    refine J_icmp_ne (t := 28) dX3_goesOnWord_20 (by decide) (fun c1 => ?_) (fun c1 => ?_)
    · replace h := ite_f c1 h
      refine J_ldcS (t := 2) (tx := "bar ") dX3_goesOnWord_28 (by decide +kernel) ?_
      refine J_astore_2 dX3_goesOnWord_30 rfl ?_
      refine J_aload_0 dX3_goesOnWord_31 ?_
      refine J_getI dX3_goesOnWord_32 fl_X3_37 jlt_21 jsh_21 (by decide) jrf_3_8 ?_
      refine J_if_lt (t := 61) dX3_goesOnWord_35 (by decide) (fun c2 => ?_) (fun c2 => ?_)
      · replace h := ite_t c2 h
        refine J_iconst (0 : Int32) dX3_goesOnWord_61 (by decide) ?_
        exact K_zret dX3_goesOnWord_62 rfl (by decide +kernel) h
      · replace h := ite_f c2 h
        refine J_aload_0 dX3_goesOnWord_38 ?_
        refine J_getI dX3_goesOnWord_39 fl_X3_37 jlt_21 jsh_21 (by decide) jrf_3_8 ?_
        refine J_aload_2 dX3_goesOnWord_42 ?_
        refine K_callTI (As := []) (rest := [.int (M 21 8)]) dX3_goesOnWord_43 vl_X3_113 2 (by decide) rfl h rfl rfl (Nat.le_of_ble_eq_true rfl) (fun r1 M1 h => ?_)
        refine J_icmp_ge (t := 61) dX3_goesOnWord_46 (by decide) (fun c3 => ?_) (fun c3 => ?_)
        · replace h := ite_t c3 h
          refine J_iconst (0 : Int32) dX3_goesOnWord_61 (by decide) ?_
          exact K_zret dX3_goesOnWord_62 rfl (by decide +kernel) h
        · replace h := ite_f c3 h
          refine J_aload_2 dX3_goesOnWord_49 ?_
          refine J_aload_0 dX3_goesOnWord_50 ?_
          refine J_getI dX3_goesOnWord_51 fl_X3_37 jlt_21 jsh_21 (by decide) jrf_3_8 ?_
          refine K_callTI (As := [.int (M1 21 8)]) (rest := []) dX3_goesOnWord_54 vl_X3_119 2 (by decide) rfl h rfl rfl (Nat.le_of_ble_eq_true rfl) (fun r2 M2 h => ?_)
          refine J_iload_1 dX3_goesOnWord_57 ?_
          refine J_icmp_eq (t := 63) dX3_goesOnWord_58 (by decide) (fun c4 => ?_) (fun c4 => ?_)
          · replace h := ite_t c4 h
            refine J_aload_0 dX3_goesOnWord_63 ?_
            refine J_dup dX3_goesOnWord_64 rfl ?_
            refine J_getI dX3_goesOnWord_65 fl_X3_37 jlt_21 jsh_21 (by decide) jrf_3_8 ?_
            refine J_iconst (1 : Int32) dX3_goesOnWord_68 (by decide) ?_
            refine J_iadd dX3_goesOnWord_69 ?_
            refine J_putI false dX3_goesOnWord_70 pl_X3_37 jlt_21 jsh_21 (by decide) jrf_3_8 (fun q => absurd q (by decide)) ?_
            refine J_aload_0 dX3_goesOnWord_73 ?_
            refine J_getI dX3_goesOnWord_74 fl_X3_37 jlt_21 jsh_21 (by decide) jrf_3_8 ?_
            refine J_aload_2 dX3_goesOnWord_77 ?_
            refine K_callTI (As := []) (rest := [.int ((M2 21 8) + (1 : Int32))]) dX3_goesOnWord_78 vl_X3_113 2 (by decide) rfl h rfl rfl (Nat.le_of_ble_eq_true rfl) (fun r3 M3 h => ?_)
            refine J_icmp_ne (t := 89) dX3_goesOnWord_81 (by decide) (fun c5 => ?_) (fun c5 => ?_)
            · replace h := ite_f c5 h
              refine J_iconst (1 : Int32) dX3_goesOnWord_89 (by decide) ?_
              exact K_zret dX3_goesOnWord_90 rfl (by decide +kernel) h
            · replace h := ite_t c5 h
              refine J_aload_0 dX3_goesOnWord_84 ?_
              refine J_iconst (2 : Int32) dX3_goesOnWord_85 (by decide) ?_
              refine K_callVV (As := [.int (2 : Int32)]) (rest := []) dX3_goesOnWord_86 vl_X3_123 jlt_21 jsh_21 _ rfl rfl h rfl rfl (Nat.le_of_ble_eq_true rfl) (fun M4 h => ?_)
              refine J_iconst (1 : Int32) dX3_goesOnWord_89 (by decide) ?_
              exact K_zret dX3_goesOnWord_90 rfl (by decide +kernel) h
          · replace h := ite_f c4 h
            refine J_iconst (0 : Int32) dX3_goesOnWord_61 (by decide) ?_
            exact K_zret dX3_goesOnWord_62 rfl (by decide +kernel) h
    · replace h := ite_t c1 h
      refine J_ldcS (t := 1) (tx := "clash ") dX3_goesOnWord_23 (by decide +kernel) ?_
      refine J_goto (t := 30) dX3_goesOnWord_25 (by decide) ?_
      refine J_astore_2 dX3_goesOnWord_30 rfl ?_
      refine J_aload_0 dX3_goesOnWord_31 ?_
      refine J_getI dX3_goesOnWord_32 fl_X3_37 jlt_21 jsh_21 (by decide) jrf_3_8 ?_
      refine J_if_lt (t := 61) dX3_goesOnWord_35 (by decide) (fun c2 => ?_) (fun c2 => ?_)
      · replace h := ite_t c2 h
        refine J_iconst (0 : Int32) dX3_goesOnWord_61 (by decide) ?_
        exact K_zret dX3_goesOnWord_62 rfl (by decide +kernel) h
      · replace h := ite_f c2 h
        refine J_aload_0 dX3_goesOnWord_38 ?_
        refine J_getI dX3_goesOnWord_39 fl_X3_37 jlt_21 jsh_21 (by decide) jrf_3_8 ?_
        refine J_aload_2 dX3_goesOnWord_42 ?_
        refine K_callTI (As := []) (rest := [.int (M 21 8)]) dX3_goesOnWord_43 vl_X3_113 1 (by decide) rfl h rfl rfl (Nat.le_of_ble_eq_true rfl) (fun r5 M5 h => ?_)
        refine J_icmp_ge (t := 61) dX3_goesOnWord_46 (by decide) (fun c3 => ?_) (fun c3 => ?_)
        · replace h := ite_t c3 h
          refine J_iconst (0 : Int32) dX3_goesOnWord_61 (by decide) ?_
          exact K_zret dX3_goesOnWord_62 rfl (by decide +kernel) h
        · replace h := ite_f c3 h
          refine J_aload_2 dX3_goesOnWord_49 ?_
          refine J_aload_0 dX3_goesOnWord_50 ?_
          refine J_getI dX3_goesOnWord_51 fl_X3_37 jlt_21 jsh_21 (by decide) jrf_3_8 ?_
          refine K_callTI (As := [.int (M5 21 8)]) (rest := []) dX3_goesOnWord_54 vl_X3_119 1 (by decide) rfl h rfl rfl (Nat.le_of_ble_eq_true rfl) (fun r6 M6 h => ?_)
          refine J_iload_1 dX3_goesOnWord_57 ?_
          refine J_icmp_eq (t := 63) dX3_goesOnWord_58 (by decide) (fun c4 => ?_) (fun c4 => ?_)
          · replace h := ite_t c4 h
            refine J_aload_0 dX3_goesOnWord_63 ?_
            refine J_dup dX3_goesOnWord_64 rfl ?_
            refine J_getI dX3_goesOnWord_65 fl_X3_37 jlt_21 jsh_21 (by decide) jrf_3_8 ?_
            refine J_iconst (1 : Int32) dX3_goesOnWord_68 (by decide) ?_
            refine J_iadd dX3_goesOnWord_69 ?_
            refine J_putI false dX3_goesOnWord_70 pl_X3_37 jlt_21 jsh_21 (by decide) jrf_3_8 (fun q => absurd q (by decide)) ?_
            refine J_aload_0 dX3_goesOnWord_73 ?_
            refine J_getI dX3_goesOnWord_74 fl_X3_37 jlt_21 jsh_21 (by decide) jrf_3_8 ?_
            refine J_aload_2 dX3_goesOnWord_77 ?_
            refine K_callTI (As := []) (rest := [.int ((M6 21 8) + (1 : Int32))]) dX3_goesOnWord_78 vl_X3_113 1 (by decide) rfl h rfl rfl (Nat.le_of_ble_eq_true rfl) (fun r7 M7 h => ?_)
            refine J_icmp_ne (t := 89) dX3_goesOnWord_81 (by decide) (fun c5 => ?_) (fun c5 => ?_)
            · replace h := ite_f c5 h
              refine J_iconst (1 : Int32) dX3_goesOnWord_89 (by decide) ?_
              exact K_zret dX3_goesOnWord_90 rfl (by decide +kernel) h
            · replace h := ite_t c5 h
              refine J_aload_0 dX3_goesOnWord_84 ?_
              refine J_iconst (2 : Int32) dX3_goesOnWord_85 (by decide) ?_
              refine K_callVV (As := [.int (2 : Int32)]) (rest := []) dX3_goesOnWord_86 vl_X3_123 jlt_21 jsh_21 _ rfl rfl h rfl rfl (Nat.le_of_ble_eq_true rfl) (fun M8 h => ?_)
              refine J_iconst (1 : Int32) dX3_goesOnWord_89 (by decide) ?_
              exact K_zret dX3_goesOnWord_90 rfl (by decide +kernel) h
          · replace h := ite_f c4 h
            refine J_iconst (0 : Int32) dX3_goesOnWord_61 (by decide) ?_
            exact K_zret dX3_goesOnWord_62 rfl (by decide +kernel) h
  · replace h := ite_t c0 h
    refine J_ldcS (t := 0) (tx := "weigh ") dX3_goesOnWord_9 (by decide +kernel) ?_
    refine J_goto (t := 30) dX3_goesOnWord_11 (by decide) ?_
    refine J_astore_2 dX3_goesOnWord_30 rfl ?_
    refine J_aload_0 dX3_goesOnWord_31 ?_
    refine J_getI dX3_goesOnWord_32 fl_X3_37 jlt_21 jsh_21 (by decide) jrf_3_8 ?_
    refine J_if_lt (t := 61) dX3_goesOnWord_35 (by decide) (fun c1 => ?_) (fun c1 => ?_)
    · replace h := ite_t c1 h
      refine J_iconst (0 : Int32) dX3_goesOnWord_61 (by decide) ?_
      exact K_zret dX3_goesOnWord_62 rfl (by decide +kernel) h
    · replace h := ite_f c1 h
      refine J_aload_0 dX3_goesOnWord_38 ?_
      refine J_getI dX3_goesOnWord_39 fl_X3_37 jlt_21 jsh_21 (by decide) jrf_3_8 ?_
      refine J_aload_2 dX3_goesOnWord_42 ?_
      refine K_callTI (As := []) (rest := [.int (M 21 8)]) dX3_goesOnWord_43 vl_X3_113 0 (by decide) rfl h rfl rfl (Nat.le_of_ble_eq_true rfl) (fun r9 M9 h => ?_)
      refine J_icmp_ge (t := 61) dX3_goesOnWord_46 (by decide) (fun c2 => ?_) (fun c2 => ?_)
      · replace h := ite_t c2 h
        refine J_iconst (0 : Int32) dX3_goesOnWord_61 (by decide) ?_
        exact K_zret dX3_goesOnWord_62 rfl (by decide +kernel) h
      · replace h := ite_f c2 h
        refine J_aload_2 dX3_goesOnWord_49 ?_
        refine J_aload_0 dX3_goesOnWord_50 ?_
        refine J_getI dX3_goesOnWord_51 fl_X3_37 jlt_21 jsh_21 (by decide) jrf_3_8 ?_
        refine K_callTI (As := [.int (M9 21 8)]) (rest := []) dX3_goesOnWord_54 vl_X3_119 0 (by decide) rfl h rfl rfl (Nat.le_of_ble_eq_true rfl) (fun r10 M10 h => ?_)
        refine J_iload_1 dX3_goesOnWord_57 ?_
        refine J_icmp_eq (t := 63) dX3_goesOnWord_58 (by decide) (fun c3 => ?_) (fun c3 => ?_)
        · replace h := ite_t c3 h
          refine J_aload_0 dX3_goesOnWord_63 ?_
          refine J_dup dX3_goesOnWord_64 rfl ?_
          refine J_getI dX3_goesOnWord_65 fl_X3_37 jlt_21 jsh_21 (by decide) jrf_3_8 ?_
          refine J_iconst (1 : Int32) dX3_goesOnWord_68 (by decide) ?_
          refine J_iadd dX3_goesOnWord_69 ?_
          refine J_putI false dX3_goesOnWord_70 pl_X3_37 jlt_21 jsh_21 (by decide) jrf_3_8 (fun q => absurd q (by decide)) ?_
          refine J_aload_0 dX3_goesOnWord_73 ?_
          refine J_getI dX3_goesOnWord_74 fl_X3_37 jlt_21 jsh_21 (by decide) jrf_3_8 ?_
          refine J_aload_2 dX3_goesOnWord_77 ?_
          refine K_callTI (As := []) (rest := [.int ((M10 21 8) + (1 : Int32))]) dX3_goesOnWord_78 vl_X3_113 0 (by decide) rfl h rfl rfl (Nat.le_of_ble_eq_true rfl) (fun r11 M11 h => ?_)
          refine J_icmp_ne (t := 89) dX3_goesOnWord_81 (by decide) (fun c4 => ?_) (fun c4 => ?_)
          · replace h := ite_f c4 h
            refine J_iconst (1 : Int32) dX3_goesOnWord_89 (by decide) ?_
            exact K_zret dX3_goesOnWord_90 rfl (by decide +kernel) h
          · replace h := ite_t c4 h
            refine J_aload_0 dX3_goesOnWord_84 ?_
            refine J_iconst (2 : Int32) dX3_goesOnWord_85 (by decide) ?_
            refine K_callVV (As := [.int (2 : Int32)]) (rest := []) dX3_goesOnWord_86 vl_X3_123 jlt_21 jsh_21 _ rfl rfl h rfl rfl (Nat.le_of_ble_eq_true rfl) (fun M12 h => ?_)
            refine J_iconst (1 : Int32) dX3_goesOnWord_89 (by decide) ?_
            exact K_zret dX3_goesOnWord_90 rfl (by decide +kernel) h
        · replace h := ite_f c3 h
          refine J_iconst (0 : Int32) dX3_goesOnWord_61 (by decide) ?_
          exact K_zret dX3_goesOnWord_62 rfl (by decide +kernel) h
theorem eX3_goesOnWord {G : jGT} {d : Nat} {x1 : Int32} {M : jM} {post : Int32 → jM → Prop} (h : kX3_goesOnWord_0 G d  x1 M post) : CI G (d + 1) mX3_goesOnWord [.ref 21, .int x1] M post := Con_of_J ok_X3_goesOnWord 1 rfl rfl h
def kX3_beginNumber_0 (G : jGT) (d : Nat)  (x1 : Int32) (M : jM) (post : jM → Prop) : Prop := J G d mX3_beginNumber 0 [some (.ref 21), some (.int x1)] [] jN jSH M jMR 0 0 0 0 (jQv post)
theorem bX3_beginNumber_0 {G : jGT} {d : Nat} {x1 : Int32} {M : jM} {post : jM → Prop} (h : post (jup (jup (jup M 21 10 (0 : Int32)) 21 11 (0 : Int32)) 21 6 x1)) : kX3_beginNumber_0 G d  x1 M post := by
  unfold kX3_beginNumber_0
  refine J_aload_0 dX3_beginNumber_0 ?_
  refine J_iconst (0 : Int32) dX3_beginNumber_1 (by decide) ?_
  refine J_putI false dX3_beginNumber_2 pl_X3_43 jlt_21 jsh_21 (by decide) jrf_3_10 (fun q => absurd q (by decide)) ?_
  refine J_aload_0 dX3_beginNumber_5 ?_
  refine J_iconst (0 : Int32) dX3_beginNumber_6 (by decide) ?_
  refine J_putI false dX3_beginNumber_7 pl_X3_46 jlt_21 jsh_21 (by decide) jrf_3_11 (fun q => absurd q (by decide)) ?_
  refine J_aload_0 dX3_beginNumber_10 ?_
  refine J_iload_1 dX3_beginNumber_11 ?_
  refine J_putI false dX3_beginNumber_12 pl_X3_31 jlt_21 jsh_21 (by decide) jrf_3_6 (fun q => absurd q (by decide)) ?_
  exact K_ret dX3_beginNumber_15 rfl h
theorem eX3_beginNumber {G : jGT} {d : Nat} {x1 : Int32} {M : jM} {post : jM → Prop} (h : kX3_beginNumber_0 G d  x1 M post) : CV G d mX3_beginNumber [.ref 21, .int x1] M post := Con_of_J ok_X3_beginNumber 0 rfl rfl h
def kX3_isDigit_0 (G : jGT) (d : Nat)  (x1 : Int32) (M : jM) (post : Int32 → jM → Prop) : Prop := J G d mX3_isDigit 0 [some (.ref 21), some (.int x1)] [] jN jSH M jMR 0 0 0 0 (jQi post)
theorem bX3_isDigit_0 {G : jGT} {d : Nat} {x1 : Int32} {M : jM} {post : Int32 → jM → Prop} (h : (if x1 < (48 : Int32) then post (0 : Int32) M else (if (57 : Int32) < x1 then post (0 : Int32) M else (if (1 : Int32) < (M 21 11) then post (0 : Int32) M else (if (M 21 11) = (1 : Int32) then (if (M 21 10) = 0 then post (0 : Int32) M else post (1 : Int32) (jup (jup M 21 10 ((((M 21 10) * (10 : Int32)) + x1) - (48 : Int32))) 21 11 ((M 21 11) + (1 : Int32)))) else post (1 : Int32) (jup (jup M 21 10 ((((M 21 10) * (10 : Int32)) + x1) - (48 : Int32))) 21 11 ((M 21 11) + (1 : Int32)))))))) : kX3_isDigit_0 G d  x1 M post := by
  unfold kX3_isDigit_0
  refine J_iload_1 dX3_isDigit_0 ?_
  refine J_bipush (48 : Int32) dX3_isDigit_1 (by decide) ?_
  refine J_icmp_lt (t := 35) dX3_isDigit_3 (by decide) (fun c0 => ?_) (fun c0 => ?_)
  · replace h := ite_t c0 h
    refine J_iconst (0 : Int32) dX3_isDigit_35 (by decide) ?_
    exact K_zret dX3_isDigit_36 rfl (by decide +kernel) h
  · replace h := ite_f c0 h
    refine J_iload_1 dX3_isDigit_6 ?_
    refine J_bipush (57 : Int32) dX3_isDigit_7 (by decide) ?_
    refine J_icmp_gt (t := 35) dX3_isDigit_9 (by decide) (fun c1 => ?_) (fun c1 => ?_)
    · replace h := ite_t c1 h
      refine J_iconst (0 : Int32) dX3_isDigit_35 (by decide) ?_
      exact K_zret dX3_isDigit_36 rfl (by decide +kernel) h
    · replace h := ite_f c1 h
      refine J_aload_0 dX3_isDigit_12 ?_
      refine J_getI dX3_isDigit_13 fl_X3_46 jlt_21 jsh_21 (by decide) jrf_3_11 ?_
      refine J_iconst (1 : Int32) dX3_isDigit_16 (by decide) ?_
      refine J_icmp_gt (t := 35) dX3_isDigit_17 (by decide) (fun c2 => ?_) (fun c2 => ?_)
      · replace h := ite_t c2 h
        refine J_iconst (0 : Int32) dX3_isDigit_35 (by decide) ?_
        exact K_zret dX3_isDigit_36 rfl (by decide +kernel) h
      · replace h := ite_f c2 h
        refine J_aload_0 dX3_isDigit_20 ?_
        refine J_getI dX3_isDigit_21 fl_X3_46 jlt_21 jsh_21 (by decide) jrf_3_11 ?_
        refine J_iconst (1 : Int32) dX3_isDigit_24 (by decide) ?_
        refine J_icmp_ne (t := 37) dX3_isDigit_25 (by decide) (fun c3 => ?_) (fun c3 => ?_)
        · replace h := ite_f c3 h
          refine J_aload_0 dX3_isDigit_37 ?_
          refine J_aload_0 dX3_isDigit_38 ?_
          refine J_getI dX3_isDigit_39 fl_X3_43 jlt_21 jsh_21 (by decide) jrf_3_10 ?_
          refine J_bipush (10 : Int32) dX3_isDigit_42 (by decide) ?_
          refine J_imul dX3_isDigit_44 ?_
          refine J_iload_1 dX3_isDigit_45 ?_
          refine J_iadd dX3_isDigit_46 ?_
          refine J_bipush (48 : Int32) dX3_isDigit_47 (by decide) ?_
          refine J_isub dX3_isDigit_49 ?_
          refine J_putI false dX3_isDigit_50 pl_X3_43 jlt_21 jsh_21 (by decide) jrf_3_10 (fun q => absurd q (by decide)) ?_
          refine J_aload_0 dX3_isDigit_53 ?_
          refine J_dup dX3_isDigit_54 rfl ?_
          refine J_getI dX3_isDigit_55 fl_X3_46 jlt_21 jsh_21 (by decide) jrf_3_11 ?_
          refine J_iconst (1 : Int32) dX3_isDigit_58 (by decide) ?_
          refine J_iadd dX3_isDigit_59 ?_
          refine J_putI false dX3_isDigit_60 pl_X3_46 jlt_21 jsh_21 (by decide) jrf_3_11 (fun q => absurd q (by decide)) ?_
          refine J_iconst (1 : Int32) dX3_isDigit_63 (by decide) ?_
          exact K_zret dX3_isDigit_64 rfl (by decide +kernel) h
        · replace h := ite_t c3 h
          refine J_aload_0 dX3_isDigit_28 ?_
          refine J_getI dX3_isDigit_29 fl_X3_43 jlt_21 jsh_21 (by decide) jrf_3_10 ?_
          refine J_if_ne (t := 37) dX3_isDigit_32 (by decide) (fun c4 => ?_) (fun c4 => ?_)
          · replace h := ite_f c4 h
            refine J_aload_0 dX3_isDigit_37 ?_
            refine J_aload_0 dX3_isDigit_38 ?_
            refine J_getI dX3_isDigit_39 fl_X3_43 jlt_21 jsh_21 (by decide) jrf_3_10 ?_
            refine J_bipush (10 : Int32) dX3_isDigit_42 (by decide) ?_
            refine J_imul dX3_isDigit_44 ?_
            refine J_iload_1 dX3_isDigit_45 ?_
            refine J_iadd dX3_isDigit_46 ?_
            refine J_bipush (48 : Int32) dX3_isDigit_47 (by decide) ?_
            refine J_isub dX3_isDigit_49 ?_
            refine J_putI false dX3_isDigit_50 pl_X3_43 jlt_21 jsh_21 (by decide) jrf_3_10 (fun q => absurd q (by decide)) ?_
            refine J_aload_0 dX3_isDigit_53 ?_
            refine J_dup dX3_isDigit_54 rfl ?_
            refine J_getI dX3_isDigit_55 fl_X3_46 jlt_21 jsh_21 (by decide) jrf_3_11 ?_
            refine J_iconst (1 : Int32) dX3_isDigit_58 (by decide) ?_
            refine J_iadd dX3_isDigit_59 ?_
            refine J_putI false dX3_isDigit_60 pl_X3_46 jlt_21 jsh_21 (by decide) jrf_3_11 (fun q => absurd q (by decide)) ?_
            refine J_iconst (1 : Int32) dX3_isDigit_63 (by decide) ?_
            exact K_zret dX3_isDigit_64 rfl (by decide +kernel) h
          · replace h := ite_t c4 h
            refine J_iconst (0 : Int32) dX3_isDigit_35 (by decide) ?_
            exact K_zret dX3_isDigit_36 rfl (by decide +kernel) h
theorem eX3_isDigit {G : jGT} {d : Nat} {x1 : Int32} {M : jM} {post : Int32 → jM → Prop} (h : kX3_isDigit_0 G d  x1 M post) : CI G d mX3_isDigit [.ref 21, .int x1] M post := Con_of_J ok_X3_isDigit 0 rfl rfl h
def kX3_endsAmount_0 (G : jGT) (d : Nat)  (x1 : Int32) (M : jM) (post : Int32 → jM → Prop) : Prop := J G d mX3_endsAmount 0 [some (.ref 21), some (.int x1)] [] jN jSH M jMR 0 0 0 0 (jQi post)
theorem bX3_endsAmount_0 {G : jGT} {d : Nat} {x1 : Int32} {M : jM} {post : Int32 → jM → Prop} (h : (if (M 21 7) = (98 : Int32) then (if x1 = (59 : Int32) then post (1 : Int32) (jup (jup (jup M 21 2 (M 21 10)) 21 9 ((M 21 9) + (1 : Int32))) 21 6 (0 : Int32)) else post (0 : Int32) (jup (jup (jup M 21 2 (M 21 10)) 21 9 ((M 21 9) + (1 : Int32))) 21 6 (0 : Int32))) else (if x1 = (32 : Int32) then post (1 : Int32) (jup (jup (jup (jup (jup M 21 12 (M 21 10)) 21 15 (0 : Int32)) 25 0 (0 : Int32)) 26 0 (255 : Int32)) 21 6 (3 : Int32)) else post (0 : Int32) (jup (jup (jup (jup (jup M 21 12 (M 21 10)) 21 15 (0 : Int32)) 25 0 (0 : Int32)) 26 0 (255 : Int32)) 21 6 (3 : Int32))))) : kX3_endsAmount_0 G d  x1 M post := by
  unfold kX3_endsAmount_0
  refine J_aload_0 dX3_endsAmount_0 ?_
  refine J_getI dX3_endsAmount_1 fl_X3_34 jlt_21 jsh_21 (by decide) jrf_3_7 ?_
  refine J_bipush (98 : Int32) dX3_endsAmount_4 (by decide) ?_
  refine J_icmp_ne (t := 44) dX3_endsAmount_6 (by decide) (fun c0 => ?_) (fun c0 => ?_)
  · replace h := ite_f c0 h
    refine J_aload_0 dX3_endsAmount_44 ?_
    refine J_aload_0 dX3_endsAmount_45 ?_
    refine J_getI dX3_endsAmount_46 fl_X3_43 jlt_21 jsh_21 (by decide) jrf_3_10 ?_
    refine J_putI false dX3_endsAmount_49 pl_X3_49 jlt_21 jsh_21 (by decide) jrf_3_12 (fun q => absurd q (by decide)) ?_
    refine J_aload_0 dX3_endsAmount_52 ?_
    refine J_iconst (0 : Int32) dX3_endsAmount_53 (by decide) ?_
    refine J_putI false dX3_endsAmount_54 pl_X3_58 jlt_21 jsh_21 (by decide) jrf_3_15 (fun q => absurd q (by decide)) ?_
    refine J_aload_0 dX3_endsAmount_57 ?_
    refine J_getR 25 dX3_endsAmount_58 fl_X3_64 jlt_21 jsh_21 (by decide) jrf_3_17 jmr_21_17 ?_
    refine J_iconst (0 : Int32) dX3_endsAmount_61 (by decide) ?_
    refine J_iconst (0 : Int32) dX3_endsAmount_62 (by decide) ?_
    refine K_iast 0 rfl dX3_endsAmount_63 jlt_25 jsh_25 (vp_lit (by decide)) ?_
    refine J_aload_0 dX3_endsAmount_64 ?_
    refine J_getR 26 dX3_endsAmount_65 fl_X3_67 jlt_21 jsh_21 (by decide) jrf_3_18 jmr_21_18 ?_
    refine J_iconst (0 : Int32) dX3_endsAmount_68 (by decide) ?_
    refine J_sipush (255 : Int32) dX3_endsAmount_69 (by decide) ?_
    refine K_iast 0 rfl dX3_endsAmount_72 jlt_26 jsh_26 (vp_lit (by decide)) ?_
    refine J_aload_0 dX3_endsAmount_73 ?_
    refine J_iconst (3 : Int32) dX3_endsAmount_74 (by decide) ?_
    refine J_putI false dX3_endsAmount_75 pl_X3_31 jlt_21 jsh_21 (by decide) jrf_3_6 (fun q => absurd q (by decide)) ?_
    refine J_iload_1 dX3_endsAmount_78 ?_
    refine J_bipush (32 : Int32) dX3_endsAmount_79 (by decide) ?_
    refine J_icmp_ne (t := 88) dX3_endsAmount_81 (by decide) (fun c1 => ?_) (fun c1 => ?_)
    · replace h := ite_f c1 h
      refine J_iconst (0 : Int32) dX3_endsAmount_88 (by decide) ?_
      exact K_zret dX3_endsAmount_89 rfl (by decide +kernel) h
    · replace h := ite_t c1 h
      refine J_iconst (1 : Int32) dX3_endsAmount_84 (by decide) ?_
      refine J_goto (t := 89) dX3_endsAmount_85 (by decide) ?_
      exact K_zret dX3_endsAmount_89 rfl (by decide +kernel) h
  · replace h := ite_t c0 h
    refine J_aload_0 dX3_endsAmount_9 ?_
    refine J_aload_0 dX3_endsAmount_10 ?_
    refine J_getI dX3_endsAmount_11 fl_X3_43 jlt_21 jsh_21 (by decide) jrf_3_10 ?_
    refine J_putI false dX3_endsAmount_14 pl_X3_18 jlt_21 jsh_21 (by decide) jrf_3_2 (fun q => absurd q (by decide)) ?_
    refine J_aload_0 dX3_endsAmount_17 ?_
    refine J_dup dX3_endsAmount_18 rfl ?_
    refine J_getI dX3_endsAmount_19 fl_X3_40 jlt_21 jsh_21 (by decide) jrf_3_9 ?_
    refine J_iconst (1 : Int32) dX3_endsAmount_22 (by decide) ?_
    refine J_iadd dX3_endsAmount_23 ?_
    refine J_putI false dX3_endsAmount_24 pl_X3_40 jlt_21 jsh_21 (by decide) jrf_3_9 (fun q => absurd q (by decide)) ?_
    refine J_aload_0 dX3_endsAmount_27 ?_
    refine J_iconst (0 : Int32) dX3_endsAmount_28 (by decide) ?_
    refine J_putI false dX3_endsAmount_29 pl_X3_31 jlt_21 jsh_21 (by decide) jrf_3_6 (fun q => absurd q (by decide)) ?_
    refine J_iload_1 dX3_endsAmount_32 ?_
    refine J_bipush (59 : Int32) dX3_endsAmount_33 (by decide) ?_
    refine J_icmp_ne (t := 42) dX3_endsAmount_35 (by decide) (fun c1 => ?_) (fun c1 => ?_)
    · replace h := ite_f c1 h
      refine J_iconst (0 : Int32) dX3_endsAmount_42 (by decide) ?_
      exact K_zret dX3_endsAmount_43 rfl (by decide +kernel) h
    · replace h := ite_t c1 h
      refine J_iconst (1 : Int32) dX3_endsAmount_38 (by decide) ?_
      refine J_goto (t := 43) dX3_endsAmount_39 (by decide) ?_
      exact K_zret dX3_endsAmount_43 rfl (by decide +kernel) h
theorem eX3_endsAmount {G : jGT} {d : Nat} {x1 : Int32} {M : jM} {post : Int32 → jM → Prop} (h : kX3_endsAmount_0 G d  x1 M post) : CI G d mX3_endsAmount [.ref 21, .int x1] M post := Con_of_J ok_X3_endsAmount 0 rfl rfl h
def kX3_beginsFactor_0 (G : jGT) (d : Nat)  (x1 : Int32) (M : jM) (post : Int32 → jM → Prop) : Prop := J G d mX3_beginsFactor 0 [some (.ref 21), some (.int x1)] [] jN jSH M jMR 0 0 0 0 (jQi post)
theorem bX3_beginsFactor_0 {G : jGT} {d : Nat} {x1 : Int32} {M : jM} {post : Int32 → jM → Prop} (h : (if x1 = (33 : Int32) then (if (M 21 15) < 0 then post (0 : Int32) M else (if (M 21 15) < (5 : Int32) then (vp_in (M 21 15) 5 ∧ (vp_in ((M 21 15) + (1 : Int32)) 6 ∧ (vp_in ((M 21 15) + (1 : Int32)) 6 ∧ post (1 : Int32) (jup (jup (jup (jup M 24 ((M 21 15).toNatClampNeg) x1) 21 15 ((M 21 15) + (1 : Int32))) 25 (((M 21 15) + (1 : Int32)).toNatClampNeg) (0 : Int32)) 26 (((M 21 15) + (1 : Int32)).toNatClampNeg) (255 : Int32))))) else post (0 : Int32) M)) else (if x1 = (40 : Int32) then (if (M 21 15) < 0 then post (0 : Int32) M else (if (M 21 15) < (5 : Int32) then (vp_in (M 21 15) 5 ∧ (vp_in ((M 21 15) + (1 : Int32)) 6 ∧ (vp_in ((M 21 15) + (1 : Int32)) 6 ∧ post (1 : Int32) (jup (jup (jup (jup M 24 ((M 21 15).toNatClampNeg) x1) 21 15 ((M 21 15) + (1 : Int32))) 25 (((M 21 15) + (1 : Int32)).toNatClampNeg) (0 : Int32)) 26 (((M 21 15) + (1 : Int32)).toNatClampNeg) (255 : Int32))))) else post (0 : Int32) M)) else (if x1 = (112 : Int32) then post (1 : Int32) (jup (jup M 21 13 x1) 21 6 (4 : Int32)) else (if x1 = (107 : Int32) then post (1 : Int32) (jup (jup M 21 13 x1) 21 6 (4 : Int32)) else (if x1 = (118 : Int32) then post (1 : Int32) (jup (jup M 21 13 x1) 21 6 (4 : Int32)) else (if x1 = (100 : Int32) then post (1 : Int32) (jup (jup M 21 13 x1) 21 6 (4 : Int32)) else post (0 : Int32) (jup (jup M 21 13 x1) 21 6 (4 : Int32))))))))) : kX3_beginsFactor_0 G d  x1 M post := by
  unfold kX3_beginsFactor_0
  refine J_iload_1 dX3_beginsFactor_0 ?_
  refine J_bipush (33 : Int32) dX3_beginsFactor_1 (by decide) ?_
  refine J_icmp_eq (t := 12) dX3_beginsFactor_3 (by decide) (fun c0 => ?_) (fun c0 => ?_)
  · replace h := ite_t c0 h
    refine J_aload_0 dX3_beginsFactor_12 ?_
    refine J_getI dX3_beginsFactor_13 fl_X3_58 jlt_21 jsh_21 (by decide) jrf_3_15 ?_
    refine J_if_lt (t := 27) dX3_beginsFactor_16 (by decide) (fun c1 => ?_) (fun c1 => ?_)
    · replace h := ite_t c1 h
      refine J_iconst (0 : Int32) dX3_beginsFactor_27 (by decide) ?_
      exact K_zret dX3_beginsFactor_28 rfl (by decide +kernel) h
    · replace h := ite_f c1 h
      refine J_aload_0 dX3_beginsFactor_19 ?_
      refine J_getI dX3_beginsFactor_20 fl_X3_58 jlt_21 jsh_21 (by decide) jrf_3_15 ?_
      refine J_iconst (5 : Int32) dX3_beginsFactor_23 (by decide) ?_
      refine J_icmp_lt (t := 29) dX3_beginsFactor_24 (by decide) (fun c2 => ?_) (fun c2 => ?_)
      · replace h := ite_t c2 h
        refine J_aload_0 dX3_beginsFactor_29 ?_
        refine J_getR 24 dX3_beginsFactor_30 fl_X3_61 jlt_21 jsh_21 (by decide) jrf_3_16 jmr_21_16 ?_
        refine J_aload_0 dX3_beginsFactor_33 ?_
        refine J_getI dX3_beginsFactor_34 fl_X3_58 jlt_21 jsh_21 (by decide) jrf_3_15 ?_
        refine J_iload_1 dX3_beginsFactor_37 ?_
        obtain ⟨g3, h⟩ := h
        refine K_iast ((M 21 15).toNatClampNeg) rfl dX3_beginsFactor_38 jlt_24 jsh_24 g3 ?_
        refine J_aload_0 dX3_beginsFactor_39 ?_
        refine J_dup dX3_beginsFactor_40 rfl ?_
        refine J_getI dX3_beginsFactor_41 fl_X3_58 jlt_21 jsh_21 (by decide) jrf_3_15 ?_
        refine J_iconst (1 : Int32) dX3_beginsFactor_44 (by decide) ?_
        refine J_iadd dX3_beginsFactor_45 ?_
        refine J_putI false dX3_beginsFactor_46 pl_X3_58 jlt_21 jsh_21 (by decide) jrf_3_15 (fun q => absurd q (by decide)) ?_
        refine J_aload_0 dX3_beginsFactor_49 ?_
        refine J_getR 25 dX3_beginsFactor_50 fl_X3_64 jlt_21 jsh_21 (by decide) jrf_3_17 jmr_21_17 ?_
        refine J_aload_0 dX3_beginsFactor_53 ?_
        refine J_getI dX3_beginsFactor_54 fl_X3_58 jlt_21 jsh_21 (by decide) jrf_3_15 ?_
        refine J_iconst (0 : Int32) dX3_beginsFactor_57 (by decide) ?_
        obtain ⟨g4, h⟩ := h
        refine K_iast (((M 21 15) + (1 : Int32)).toNatClampNeg) rfl dX3_beginsFactor_58 jlt_25 jsh_25 g4 ?_
        refine J_aload_0 dX3_beginsFactor_59 ?_
        refine J_getR 26 dX3_beginsFactor_60 fl_X3_67 jlt_21 jsh_21 (by decide) jrf_3_18 jmr_21_18 ?_
        refine J_aload_0 dX3_beginsFactor_63 ?_
        refine J_getI dX3_beginsFactor_64 fl_X3_58 jlt_21 jsh_21 (by decide) jrf_3_15 ?_
        refine J_sipush (255 : Int32) dX3_beginsFactor_67 (by decide) ?_
        obtain ⟨g5, h⟩ := h
        refine K_iast (((M 21 15) + (1 : Int32)).toNatClampNeg) rfl dX3_beginsFactor_70 jlt_26 jsh_26 g5 ?_
        refine J_iconst (1 : Int32) dX3_beginsFactor_71 (by decide) ?_
        exact K_zret dX3_beginsFactor_72 rfl (by decide +kernel) h
      · replace h := ite_f c2 h
        refine J_iconst (0 : Int32) dX3_beginsFactor_27 (by decide) ?_
        exact K_zret dX3_beginsFactor_28 rfl (by decide +kernel) h
  · replace h := ite_f c0 h
    refine J_iload_1 dX3_beginsFactor_6 ?_
    refine J_bipush (40 : Int32) dX3_beginsFactor_7 (by decide) ?_
    refine J_icmp_ne (t := 73) dX3_beginsFactor_9 (by decide) (fun c1 => ?_) (fun c1 => ?_)
    · replace h := ite_f c1 h
      refine J_aload_0 dX3_beginsFactor_73 ?_
      refine J_iload_1 dX3_beginsFactor_74 ?_
      refine J_putI false dX3_beginsFactor_75 pl_X3_52 jlt_21 jsh_21 (by decide) jrf_3_13 (fun q => absurd q (by decide)) ?_
      refine J_aload_0 dX3_beginsFactor_78 ?_
      refine J_iconst (4 : Int32) dX3_beginsFactor_79 (by decide) ?_
      refine J_putI false dX3_beginsFactor_80 pl_X3_31 jlt_21 jsh_21 (by decide) jrf_3_6 (fun q => absurd q (by decide)) ?_
      refine J_iload_1 dX3_beginsFactor_83 ?_
      refine J_bipush (112 : Int32) dX3_beginsFactor_84 (by decide) ?_
      refine J_icmp_eq (t := 107) dX3_beginsFactor_86 (by decide) (fun c2 => ?_) (fun c2 => ?_)
      · replace h := ite_t c2 h
        refine J_iconst (1 : Int32) dX3_beginsFactor_107 (by decide) ?_
        refine J_goto (t := 112) dX3_beginsFactor_108 (by decide) ?_
        exact K_zret dX3_beginsFactor_112 rfl (by decide +kernel) h
      · replace h := ite_f c2 h
        refine J_iload_1 dX3_beginsFactor_89 ?_
        refine J_bipush (107 : Int32) dX3_beginsFactor_90 (by decide) ?_
        refine J_icmp_eq (t := 107) dX3_beginsFactor_92 (by decide) (fun c3 => ?_) (fun c3 => ?_)
        · replace h := ite_t c3 h
          refine J_iconst (1 : Int32) dX3_beginsFactor_107 (by decide) ?_
          refine J_goto (t := 112) dX3_beginsFactor_108 (by decide) ?_
          exact K_zret dX3_beginsFactor_112 rfl (by decide +kernel) h
        · replace h := ite_f c3 h
          refine J_iload_1 dX3_beginsFactor_95 ?_
          refine J_bipush (118 : Int32) dX3_beginsFactor_96 (by decide) ?_
          refine J_icmp_eq (t := 107) dX3_beginsFactor_98 (by decide) (fun c4 => ?_) (fun c4 => ?_)
          · replace h := ite_t c4 h
            refine J_iconst (1 : Int32) dX3_beginsFactor_107 (by decide) ?_
            refine J_goto (t := 112) dX3_beginsFactor_108 (by decide) ?_
            exact K_zret dX3_beginsFactor_112 rfl (by decide +kernel) h
          · replace h := ite_f c4 h
            refine J_iload_1 dX3_beginsFactor_101 ?_
            refine J_bipush (100 : Int32) dX3_beginsFactor_102 (by decide) ?_
            refine J_icmp_ne (t := 111) dX3_beginsFactor_104 (by decide) (fun c5 => ?_) (fun c5 => ?_)
            · replace h := ite_f c5 h
              refine J_iconst (0 : Int32) dX3_beginsFactor_111 (by decide) ?_
              exact K_zret dX3_beginsFactor_112 rfl (by decide +kernel) h
            · replace h := ite_t c5 h
              refine J_iconst (1 : Int32) dX3_beginsFactor_107 (by decide) ?_
              refine J_goto (t := 112) dX3_beginsFactor_108 (by decide) ?_
              exact K_zret dX3_beginsFactor_112 rfl (by decide +kernel) h
    · replace h := ite_t c1 h
      refine J_aload_0 dX3_beginsFactor_12 ?_
      refine J_getI dX3_beginsFactor_13 fl_X3_58 jlt_21 jsh_21 (by decide) jrf_3_15 ?_
      refine J_if_lt (t := 27) dX3_beginsFactor_16 (by decide) (fun c2 => ?_) (fun c2 => ?_)
      · replace h := ite_t c2 h
        refine J_iconst (0 : Int32) dX3_beginsFactor_27 (by decide) ?_
        exact K_zret dX3_beginsFactor_28 rfl (by decide +kernel) h
      · replace h := ite_f c2 h
        refine J_aload_0 dX3_beginsFactor_19 ?_
        refine J_getI dX3_beginsFactor_20 fl_X3_58 jlt_21 jsh_21 (by decide) jrf_3_15 ?_
        refine J_iconst (5 : Int32) dX3_beginsFactor_23 (by decide) ?_
        refine J_icmp_lt (t := 29) dX3_beginsFactor_24 (by decide) (fun c3 => ?_) (fun c3 => ?_)
        · replace h := ite_t c3 h
          refine J_aload_0 dX3_beginsFactor_29 ?_
          refine J_getR 24 dX3_beginsFactor_30 fl_X3_61 jlt_21 jsh_21 (by decide) jrf_3_16 jmr_21_16 ?_
          refine J_aload_0 dX3_beginsFactor_33 ?_
          refine J_getI dX3_beginsFactor_34 fl_X3_58 jlt_21 jsh_21 (by decide) jrf_3_15 ?_
          refine J_iload_1 dX3_beginsFactor_37 ?_
          obtain ⟨g4, h⟩ := h
          refine K_iast ((M 21 15).toNatClampNeg) rfl dX3_beginsFactor_38 jlt_24 jsh_24 g4 ?_
          refine J_aload_0 dX3_beginsFactor_39 ?_
          refine J_dup dX3_beginsFactor_40 rfl ?_
          refine J_getI dX3_beginsFactor_41 fl_X3_58 jlt_21 jsh_21 (by decide) jrf_3_15 ?_
          refine J_iconst (1 : Int32) dX3_beginsFactor_44 (by decide) ?_
          refine J_iadd dX3_beginsFactor_45 ?_
          refine J_putI false dX3_beginsFactor_46 pl_X3_58 jlt_21 jsh_21 (by decide) jrf_3_15 (fun q => absurd q (by decide)) ?_
          refine J_aload_0 dX3_beginsFactor_49 ?_
          refine J_getR 25 dX3_beginsFactor_50 fl_X3_64 jlt_21 jsh_21 (by decide) jrf_3_17 jmr_21_17 ?_
          refine J_aload_0 dX3_beginsFactor_53 ?_
          refine J_getI dX3_beginsFactor_54 fl_X3_58 jlt_21 jsh_21 (by decide) jrf_3_15 ?_
          refine J_iconst (0 : Int32) dX3_beginsFactor_57 (by decide) ?_
          obtain ⟨g5, h⟩ := h
          refine K_iast (((M 21 15) + (1 : Int32)).toNatClampNeg) rfl dX3_beginsFactor_58 jlt_25 jsh_25 g5 ?_
          refine J_aload_0 dX3_beginsFactor_59 ?_
          refine J_getR 26 dX3_beginsFactor_60 fl_X3_67 jlt_21 jsh_21 (by decide) jrf_3_18 jmr_21_18 ?_
          refine J_aload_0 dX3_beginsFactor_63 ?_
          refine J_getI dX3_beginsFactor_64 fl_X3_58 jlt_21 jsh_21 (by decide) jrf_3_15 ?_
          refine J_sipush (255 : Int32) dX3_beginsFactor_67 (by decide) ?_
          obtain ⟨g6, h⟩ := h
          refine K_iast (((M 21 15) + (1 : Int32)).toNatClampNeg) rfl dX3_beginsFactor_70 jlt_26 jsh_26 g6 ?_
          refine J_iconst (1 : Int32) dX3_beginsFactor_71 (by decide) ?_
          exact K_zret dX3_beginsFactor_72 rfl (by decide +kernel) h
        · replace h := ite_f c3 h
          refine J_iconst (0 : Int32) dX3_beginsFactor_27 (by decide) ?_
          exact K_zret dX3_beginsFactor_28 rfl (by decide +kernel) h
theorem eX3_beginsFactor {G : jGT} {d : Nat} {x1 : Int32} {M : jM} {post : Int32 → jM → Prop} (h : kX3_beginsFactor_0 G d  x1 M post) : CI G d mX3_beginsFactor [.ref 21, .int x1] M post := Con_of_J ok_X3_beginsFactor 0 rfl rfl h
def kX3_compares_0 (G : jGT) (d : Nat)  (x1 : Int32) (M : jM) (post : Int32 → jM → Prop) : Prop := J G (d + 1) mX3_compares 0 [some (.ref 21), some (.int x1)] [] jN jSH M jMR 0 0 0 0 (jQi post)
theorem bX3_compares_0 {G : jGT} {d : Nat} {x1 : Int32} {M : jM} {post : Int32 → jM → Prop} (h : CV G d mX3_beginNumber [.ref 21, .int (5 : Int32)] (jup M 21 14 x1) (fun M1 => (if x1 = (60 : Int32) then post (1 : Int32) M1 else (if x1 = (61 : Int32) then post (1 : Int32) M1 else (if x1 = (62 : Int32) then post (1 : Int32) M1 else post (0 : Int32) M1))))) : kX3_compares_0 G d  x1 M post := by
  unfold kX3_compares_0
  refine J_aload_0 dX3_compares_0 ?_
  refine J_iload_1 dX3_compares_1 ?_
  refine J_putI false dX3_compares_2 pl_X3_55 jlt_21 jsh_21 (by decide) jrf_3_14 (fun q => absurd q (by decide)) ?_
  refine J_aload_0 dX3_compares_5 ?_
  refine J_iconst (5 : Int32) dX3_compares_6 (by decide) ?_
  refine K_callVV (As := [.int (5 : Int32)]) (rest := []) dX3_compares_7 vl_X3_123 jlt_21 jsh_21 _ rfl rfl h rfl rfl (Nat.le_of_ble_eq_true rfl) (fun M1 h => ?_)
  refine J_iload_1 dX3_compares_10 ?_
  refine J_bipush (60 : Int32) dX3_compares_11 (by decide) ?_
  refine J_icmp_eq (t := 28) dX3_compares_13 (by decide) (fun c0 => ?_) (fun c0 => ?_)
  · replace h := ite_t c0 h
    refine J_iconst (1 : Int32) dX3_compares_28 (by decide) ?_
    refine J_goto (t := 33) dX3_compares_29 (by decide) ?_
    exact K_zret dX3_compares_33 rfl (by decide +kernel) h
  · replace h := ite_f c0 h
    refine J_iload_1 dX3_compares_16 ?_
    refine J_bipush (61 : Int32) dX3_compares_17 (by decide) ?_
    refine J_icmp_eq (t := 28) dX3_compares_19 (by decide) (fun c1 => ?_) (fun c1 => ?_)
    · replace h := ite_t c1 h
      refine J_iconst (1 : Int32) dX3_compares_28 (by decide) ?_
      refine J_goto (t := 33) dX3_compares_29 (by decide) ?_
      exact K_zret dX3_compares_33 rfl (by decide +kernel) h
    · replace h := ite_f c1 h
      refine J_iload_1 dX3_compares_22 ?_
      refine J_bipush (62 : Int32) dX3_compares_23 (by decide) ?_
      refine J_icmp_ne (t := 32) dX3_compares_25 (by decide) (fun c2 => ?_) (fun c2 => ?_)
      · replace h := ite_f c2 h
        refine J_iconst (0 : Int32) dX3_compares_32 (by decide) ?_
        exact K_zret dX3_compares_33 rfl (by decide +kernel) h
      · replace h := ite_t c2 h
        refine J_iconst (1 : Int32) dX3_compares_28 (by decide) ?_
        refine J_goto (t := 33) dX3_compares_29 (by decide) ?_
        exact K_zret dX3_compares_33 rfl (by decide +kernel) h
theorem eX3_compares {G : jGT} {d : Nat} {x1 : Int32} {M : jM} {post : Int32 → jM → Prop} (h : kX3_compares_0 G d  x1 M post) : CI G (d + 1) mX3_compares [.ref 21, .int x1] M post := Con_of_J ok_X3_compares 0 rfl rfl h
def kX3_endsTest_0 (G : jGT) (d : Nat)  (x1 : Int32) (M : jM) (post : Int32 → jM → Prop) : Prop := J G (d + 1) mX3_endsTest 0 [some (.ref 21), some (.int x1), none, none, none] [] jN jSH M jMR 0 0 0 0 (jQi post)
def kX3_endsTest_4 (G : jGT) (d : Nat)  (x1 : Int32) (x2 : Int32) (x3 : Int32) (M : jM) (post : Int32 → jM → Prop) : Prop := J G (d + 1) mX3_endsTest 4 [some (.ref 21), some (.int x1), some (.int x2), some (.int x3), none] [] jN jSH M jMR 0 0 0 0 (jQi post)
theorem bX3_endsTest_0 {G : jGT} {d : Nat} {x1 : Int32} {M : jM} {post : Int32 → jM → Prop} (h : kX3_endsTest_4 G d x1 (0 : Int32) (0 : Int32) M post) : kX3_endsTest_0 G d  x1 M post := by
  unfold kX3_endsTest_0
  refine J_iconst (0 : Int32) dX3_endsTest_0 (by decide) ?_
  refine J_istore_2 dX3_endsTest_1 rfl ?_
  refine J_iconst (0 : Int32) dX3_endsTest_2 (by decide) ?_
  refine J_istore_3 dX3_endsTest_3 rfl ?_
  exact h
theorem bX3_endsTest_4 {G : jGT} {d : Nat} {x1 : Int32} {x2 : Int32} {x3 : Int32} {M : jM} {post : Int32 → jM → Prop} (h : (if (8 : Int32) ≤ x3 then CV G d mX3_endFactor [.ref 21, .int x2] M (fun M1 => CI G d mX3_goesBehind [.ref 21, .int x1] (jup M1 21 6 (6 : Int32)) (fun r2 M2 => ((r2 = 0 ∨ r2 = 1) ∧ post r2 M2))) else (if (M 21 13) = (112 : Int32) then (if (M 21 14) = (60 : Int32) then (if (M 21 10) ≤ x3 then kX3_endsTest_4 G d x1 x2 (x3 + (1 : Int32)) M post else kX3_endsTest_4 G d x1 (x2 ||| ((1 : Int32) <<< (x3 &&& 31))) (x3 + (1 : Int32)) M post) else (if (M 21 14) = (61 : Int32) then (if x3 = (M 21 10) then kX3_endsTest_4 G d x1 (x2 ||| ((1 : Int32) <<< (x3 &&& 31))) (x3 + (1 : Int32)) M post else kX3_endsTest_4 G d x1 x2 (x3 + (1 : Int32)) M post) else (if x3 ≤ (M 21 10) then kX3_endsTest_4 G d x1 x2 (x3 + (1 : Int32)) M post else kX3_endsTest_4 G d x1 (x2 ||| ((1 : Int32) <<< (x3 &&& 31))) (x3 + (1 : Int32)) M post))) else (if (M 21 13) = (107 : Int32) then (if (M 21 14) = (60 : Int32) then (if (M 21 10) ≤ (M 21 3) then kX3_endsTest_4 G d x1 x2 (x3 + (1 : Int32)) M post else kX3_endsTest_4 G d x1 (x2 ||| ((1 : Int32) <<< (x3 &&& 31))) (x3 + (1 : Int32)) M post) else (if (M 21 14) = (61 : Int32) then (if (M 21 3) = (M 21 10) then kX3_endsTest_4 G d x1 (x2 ||| ((1 : Int32) <<< (x3 &&& 31))) (x3 + (1 : Int32)) M post else kX3_endsTest_4 G d x1 x2 (x3 + (1 : Int32)) M post) else (if (M 21 3) ≤ (M 21 10) then kX3_endsTest_4 G d x1 x2 (x3 + (1 : Int32)) M post else kX3_endsTest_4 G d x1 (x2 ||| ((1 : Int32) <<< (x3 &&& 31))) (x3 + (1 : Int32)) M post))) else (if (M 21 13) = (118 : Int32) then (if (M 21 14) = (60 : Int32) then (if (M 21 10) ≤ (M 21 4) then kX3_endsTest_4 G d x1 x2 (x3 + (1 : Int32)) M post else kX3_endsTest_4 G d x1 (x2 ||| ((1 : Int32) <<< (x3 &&& 31))) (x3 + (1 : Int32)) M post) else (if (M 21 14) = (61 : Int32) then (if (M 21 4) = (M 21 10) then kX3_endsTest_4 G d x1 (x2 ||| ((1 : Int32) <<< (x3 &&& 31))) (x3 + (1 : Int32)) M post else kX3_endsTest_4 G d x1 x2 (x3 + (1 : Int32)) M post) else (if (M 21 4) ≤ (M 21 10) then kX3_endsTest_4 G d x1 x2 (x3 + (1 : Int32)) M post else kX3_endsTest_4 G d x1 (x2 ||| ((1 : Int32) <<< (x3 &&& 31))) (x3 + (1 : Int32)) M post))) else (if (M 21 14) = (60 : Int32) then (if (M 21 10) ≤ (M 21 5) then kX3_endsTest_4 G d x1 x2 (x3 + (1 : Int32)) M post else kX3_endsTest_4 G d x1 (x2 ||| ((1 : Int32) <<< (x3 &&& 31))) (x3 + (1 : Int32)) M post) else (if (M 21 14) = (61 : Int32) then (if (M 21 5) = (M 21 10) then kX3_endsTest_4 G d x1 (x2 ||| ((1 : Int32) <<< (x3 &&& 31))) (x3 + (1 : Int32)) M post else kX3_endsTest_4 G d x1 x2 (x3 + (1 : Int32)) M post) else (if (M 21 5) ≤ (M 21 10) then kX3_endsTest_4 G d x1 x2 (x3 + (1 : Int32)) M post else kX3_endsTest_4 G d x1 (x2 ||| ((1 : Int32) <<< (x3 &&& 31))) (x3 + (1 : Int32)) M post)))))))) : kX3_endsTest_4 G d  x1 x2 x3 M post := by
  unfold kX3_endsTest_4
  refine J_iload_3 dX3_endsTest_4 ?_
  refine J_bipush (8 : Int32) dX3_endsTest_5 (by decide) ?_
  refine J_icmp_ge (t := 124) dX3_endsTest_7 (by decide) (fun c0 => ?_) (fun c0 => ?_)
  · replace h := ite_t c0 h
    refine J_aload_0 dX3_endsTest_124 ?_
    refine J_iload_2 dX3_endsTest_125 ?_
    refine K_callVV (As := [.int x2]) (rest := []) dX3_endsTest_126 vl_X3_127 jlt_21 jsh_21 _ rfl rfl h rfl rfl (Nat.le_of_ble_eq_true rfl) (fun M1 h => ?_)
    refine J_aload_0 dX3_endsTest_129 ?_
    refine J_bipush (6 : Int32) dX3_endsTest_130 (by decide) ?_
    refine J_putI false dX3_endsTest_132 pl_X3_31 jlt_21 jsh_21 (by decide) jrf_3_6 (fun q => absurd q (by decide)) ?_
    refine J_aload_0 dX3_endsTest_135 ?_
    refine J_iload_1 dX3_endsTest_136 ?_
    refine K_callVI (As := [.int x1]) (rest := []) dX3_endsTest_137 vl_X3_104 jlt_21 jsh_21 _ rfl rfl h rfl rfl (Nat.le_of_ble_eq_true rfl) (fun r2 M2 h => ?_)
    exact K_zret dX3_endsTest_140 rfl (nz h.1) h.2
  · replace h := ite_f c0 h
    refine J_aload_0 dX3_endsTest_10 ?_
    refine J_getI dX3_endsTest_11 fl_X3_52 jlt_21 jsh_21 (by decide) jrf_3_13 ?_
    refine J_bipush (112 : Int32) dX3_endsTest_14 (by decide) ?_
    refine J_icmp_ne (t := 23) dX3_endsTest_16 (by decide) (fun c1 => ?_) (fun c1 => ?_)
    · replace h := ite_f c1 h
      refine J_aload_0 dX3_endsTest_23 ?_
      refine J_getI dX3_endsTest_24 fl_X3_52 jlt_21 jsh_21 (by decide) jrf_3_13 ?_
      refine J_bipush (107 : Int32) dX3_endsTest_27 (by decide) ?_
      refine J_icmp_ne (t := 39) dX3_endsTest_29 (by decide) (fun c2 => ?_) (fun c2 => ?_)
      · replace h := ite_f c2 h
        refine J_aload_0 dX3_endsTest_39 ?_
        refine J_getI dX3_endsTest_40 fl_X3_52 jlt_21 jsh_21 (by decide) jrf_3_13 ?_
        refine J_bipush (118 : Int32) dX3_endsTest_43 (by decide) ?_
        refine J_icmp_ne (t := 55) dX3_endsTest_45 (by decide) (fun c3 => ?_) (fun c3 => ?_)
        · replace h := ite_f c3 h
          refine J_aload_0 dX3_endsTest_55 ?_
          refine J_getI dX3_endsTest_56 fl_X3_28 jlt_21 jsh_21 (by decide) jrf_3_5 ?_
          refine J_istore_4 dX3_endsTest_59 rfl ?_
          refine J_aload_0 dX3_endsTest_61 ?_
          refine J_getI dX3_endsTest_62 fl_X3_55 jlt_21 jsh_21 (by decide) jrf_3_14 ?_
          refine J_bipush (60 : Int32) dX3_endsTest_65 (by decide) ?_
          refine J_icmp_ne (t := 82) dX3_endsTest_67 (by decide) (fun c4 => ?_) (fun c4 => ?_)
          · replace h := ite_f c4 h
            refine J_aload_0 dX3_endsTest_82 ?_
            refine J_getI dX3_endsTest_83 fl_X3_55 jlt_21 jsh_21 (by decide) jrf_3_14 ?_
            refine J_bipush (61 : Int32) dX3_endsTest_86 (by decide) ?_
            refine J_icmp_ne (t := 103) dX3_endsTest_88 (by decide) (fun c5 => ?_) (fun c5 => ?_)
            · replace h := ite_f c5 h
              refine J_iload_4 dX3_endsTest_103 ?_
              refine J_aload_0 dX3_endsTest_105 ?_
              refine J_getI dX3_endsTest_106 fl_X3_43 jlt_21 jsh_21 (by decide) jrf_3_10 ?_
              refine J_icmp_le (t := 118) dX3_endsTest_109 (by decide) (fun c6 => ?_) (fun c6 => ?_)
              · replace h := ite_t c6 h
                refine J_iinc_3 (1 : Int32) dX3_endsTest_118 (by decide) rfl ?_
                refine J_goto (t := 4) dX3_endsTest_121 (by decide) ?_
                exact J_weak (lv' := [some (.ref 21), some (.int x1), some (.int x2), some (.int (x3 + (1 : Int32))), none]) (And.intro rfl (And.intro rfl (And.intro rfl (And.intro rfl trivial)))) h
              · replace h := ite_f c6 h
                refine J_iload_2 dX3_endsTest_112 ?_
                refine J_iconst (1 : Int32) dX3_endsTest_113 (by decide) ?_
                refine J_iload_3 dX3_endsTest_114 ?_
                refine J_ishl dX3_endsTest_115 ?_
                refine J_ior dX3_endsTest_116 ?_
                refine J_istore_2 dX3_endsTest_117 rfl ?_
                refine J_iinc_3 (1 : Int32) dX3_endsTest_118 (by decide) rfl ?_
                refine J_goto (t := 4) dX3_endsTest_121 (by decide) ?_
                exact J_weak (lv' := [some (.ref 21), some (.int x1), some (.int (x2 ||| ((1 : Int32) <<< (x3 &&& 31)))), some (.int (x3 + (1 : Int32))), none]) (And.intro rfl (And.intro rfl (And.intro rfl (And.intro rfl trivial)))) h
            · replace h := ite_t c5 h
              refine J_iload_4 dX3_endsTest_91 ?_
              refine J_aload_0 dX3_endsTest_93 ?_
              refine J_getI dX3_endsTest_94 fl_X3_43 jlt_21 jsh_21 (by decide) jrf_3_10 ?_
              refine J_icmp_ne (t := 118) dX3_endsTest_97 (by decide) (fun c6 => ?_) (fun c6 => ?_)
              · replace h := ite_f c6 h
                refine J_iinc_3 (1 : Int32) dX3_endsTest_118 (by decide) rfl ?_
                refine J_goto (t := 4) dX3_endsTest_121 (by decide) ?_
                exact J_weak (lv' := [some (.ref 21), some (.int x1), some (.int x2), some (.int (x3 + (1 : Int32))), none]) (And.intro rfl (And.intro rfl (And.intro rfl (And.intro rfl trivial)))) h
              · replace h := ite_t c6 h
                refine J_goto (t := 112) dX3_endsTest_100 (by decide) ?_
                refine J_iload_2 dX3_endsTest_112 ?_
                refine J_iconst (1 : Int32) dX3_endsTest_113 (by decide) ?_
                refine J_iload_3 dX3_endsTest_114 ?_
                refine J_ishl dX3_endsTest_115 ?_
                refine J_ior dX3_endsTest_116 ?_
                refine J_istore_2 dX3_endsTest_117 rfl ?_
                refine J_iinc_3 (1 : Int32) dX3_endsTest_118 (by decide) rfl ?_
                refine J_goto (t := 4) dX3_endsTest_121 (by decide) ?_
                exact J_weak (lv' := [some (.ref 21), some (.int x1), some (.int (x2 ||| ((1 : Int32) <<< (x3 &&& 31)))), some (.int (x3 + (1 : Int32))), none]) (And.intro rfl (And.intro rfl (And.intro rfl (And.intro rfl trivial)))) h
          · replace h := ite_t c4 h
            refine J_iload_4 dX3_endsTest_70 ?_
            refine J_aload_0 dX3_endsTest_72 ?_
            refine J_getI dX3_endsTest_73 fl_X3_43 jlt_21 jsh_21 (by decide) jrf_3_10 ?_
            refine J_icmp_ge (t := 118) dX3_endsTest_76 (by decide) (fun c5 => ?_) (fun c5 => ?_)
            · replace h := ite_t c5 h
              refine J_iinc_3 (1 : Int32) dX3_endsTest_118 (by decide) rfl ?_
              refine J_goto (t := 4) dX3_endsTest_121 (by decide) ?_
              exact J_weak (lv' := [some (.ref 21), some (.int x1), some (.int x2), some (.int (x3 + (1 : Int32))), none]) (And.intro rfl (And.intro rfl (And.intro rfl (And.intro rfl trivial)))) h
            · replace h := ite_f c5 h
              refine J_goto (t := 112) dX3_endsTest_79 (by decide) ?_
              refine J_iload_2 dX3_endsTest_112 ?_
              refine J_iconst (1 : Int32) dX3_endsTest_113 (by decide) ?_
              refine J_iload_3 dX3_endsTest_114 ?_
              refine J_ishl dX3_endsTest_115 ?_
              refine J_ior dX3_endsTest_116 ?_
              refine J_istore_2 dX3_endsTest_117 rfl ?_
              refine J_iinc_3 (1 : Int32) dX3_endsTest_118 (by decide) rfl ?_
              refine J_goto (t := 4) dX3_endsTest_121 (by decide) ?_
              exact J_weak (lv' := [some (.ref 21), some (.int x1), some (.int (x2 ||| ((1 : Int32) <<< (x3 &&& 31)))), some (.int (x3 + (1 : Int32))), none]) (And.intro rfl (And.intro rfl (And.intro rfl (And.intro rfl trivial)))) h
        · replace h := ite_t c3 h
          refine J_aload_0 dX3_endsTest_48 ?_
          refine J_getI dX3_endsTest_49 fl_X3_25 jlt_21 jsh_21 (by decide) jrf_3_4 ?_
          refine J_goto (t := 59) dX3_endsTest_52 (by decide) ?_
          refine J_istore_4 dX3_endsTest_59 rfl ?_
          refine J_aload_0 dX3_endsTest_61 ?_
          refine J_getI dX3_endsTest_62 fl_X3_55 jlt_21 jsh_21 (by decide) jrf_3_14 ?_
          refine J_bipush (60 : Int32) dX3_endsTest_65 (by decide) ?_
          refine J_icmp_ne (t := 82) dX3_endsTest_67 (by decide) (fun c4 => ?_) (fun c4 => ?_)
          · replace h := ite_f c4 h
            refine J_aload_0 dX3_endsTest_82 ?_
            refine J_getI dX3_endsTest_83 fl_X3_55 jlt_21 jsh_21 (by decide) jrf_3_14 ?_
            refine J_bipush (61 : Int32) dX3_endsTest_86 (by decide) ?_
            refine J_icmp_ne (t := 103) dX3_endsTest_88 (by decide) (fun c5 => ?_) (fun c5 => ?_)
            · replace h := ite_f c5 h
              refine J_iload_4 dX3_endsTest_103 ?_
              refine J_aload_0 dX3_endsTest_105 ?_
              refine J_getI dX3_endsTest_106 fl_X3_43 jlt_21 jsh_21 (by decide) jrf_3_10 ?_
              refine J_icmp_le (t := 118) dX3_endsTest_109 (by decide) (fun c6 => ?_) (fun c6 => ?_)
              · replace h := ite_t c6 h
                refine J_iinc_3 (1 : Int32) dX3_endsTest_118 (by decide) rfl ?_
                refine J_goto (t := 4) dX3_endsTest_121 (by decide) ?_
                exact J_weak (lv' := [some (.ref 21), some (.int x1), some (.int x2), some (.int (x3 + (1 : Int32))), none]) (And.intro rfl (And.intro rfl (And.intro rfl (And.intro rfl trivial)))) h
              · replace h := ite_f c6 h
                refine J_iload_2 dX3_endsTest_112 ?_
                refine J_iconst (1 : Int32) dX3_endsTest_113 (by decide) ?_
                refine J_iload_3 dX3_endsTest_114 ?_
                refine J_ishl dX3_endsTest_115 ?_
                refine J_ior dX3_endsTest_116 ?_
                refine J_istore_2 dX3_endsTest_117 rfl ?_
                refine J_iinc_3 (1 : Int32) dX3_endsTest_118 (by decide) rfl ?_
                refine J_goto (t := 4) dX3_endsTest_121 (by decide) ?_
                exact J_weak (lv' := [some (.ref 21), some (.int x1), some (.int (x2 ||| ((1 : Int32) <<< (x3 &&& 31)))), some (.int (x3 + (1 : Int32))), none]) (And.intro rfl (And.intro rfl (And.intro rfl (And.intro rfl trivial)))) h
            · replace h := ite_t c5 h
              refine J_iload_4 dX3_endsTest_91 ?_
              refine J_aload_0 dX3_endsTest_93 ?_
              refine J_getI dX3_endsTest_94 fl_X3_43 jlt_21 jsh_21 (by decide) jrf_3_10 ?_
              refine J_icmp_ne (t := 118) dX3_endsTest_97 (by decide) (fun c6 => ?_) (fun c6 => ?_)
              · replace h := ite_f c6 h
                refine J_iinc_3 (1 : Int32) dX3_endsTest_118 (by decide) rfl ?_
                refine J_goto (t := 4) dX3_endsTest_121 (by decide) ?_
                exact J_weak (lv' := [some (.ref 21), some (.int x1), some (.int x2), some (.int (x3 + (1 : Int32))), none]) (And.intro rfl (And.intro rfl (And.intro rfl (And.intro rfl trivial)))) h
              · replace h := ite_t c6 h
                refine J_goto (t := 112) dX3_endsTest_100 (by decide) ?_
                refine J_iload_2 dX3_endsTest_112 ?_
                refine J_iconst (1 : Int32) dX3_endsTest_113 (by decide) ?_
                refine J_iload_3 dX3_endsTest_114 ?_
                refine J_ishl dX3_endsTest_115 ?_
                refine J_ior dX3_endsTest_116 ?_
                refine J_istore_2 dX3_endsTest_117 rfl ?_
                refine J_iinc_3 (1 : Int32) dX3_endsTest_118 (by decide) rfl ?_
                refine J_goto (t := 4) dX3_endsTest_121 (by decide) ?_
                exact J_weak (lv' := [some (.ref 21), some (.int x1), some (.int (x2 ||| ((1 : Int32) <<< (x3 &&& 31)))), some (.int (x3 + (1 : Int32))), none]) (And.intro rfl (And.intro rfl (And.intro rfl (And.intro rfl trivial)))) h
          · replace h := ite_t c4 h
            refine J_iload_4 dX3_endsTest_70 ?_
            refine J_aload_0 dX3_endsTest_72 ?_
            refine J_getI dX3_endsTest_73 fl_X3_43 jlt_21 jsh_21 (by decide) jrf_3_10 ?_
            refine J_icmp_ge (t := 118) dX3_endsTest_76 (by decide) (fun c5 => ?_) (fun c5 => ?_)
            · replace h := ite_t c5 h
              refine J_iinc_3 (1 : Int32) dX3_endsTest_118 (by decide) rfl ?_
              refine J_goto (t := 4) dX3_endsTest_121 (by decide) ?_
              exact J_weak (lv' := [some (.ref 21), some (.int x1), some (.int x2), some (.int (x3 + (1 : Int32))), none]) (And.intro rfl (And.intro rfl (And.intro rfl (And.intro rfl trivial)))) h
            · replace h := ite_f c5 h
              refine J_goto (t := 112) dX3_endsTest_79 (by decide) ?_
              refine J_iload_2 dX3_endsTest_112 ?_
              refine J_iconst (1 : Int32) dX3_endsTest_113 (by decide) ?_
              refine J_iload_3 dX3_endsTest_114 ?_
              refine J_ishl dX3_endsTest_115 ?_
              refine J_ior dX3_endsTest_116 ?_
              refine J_istore_2 dX3_endsTest_117 rfl ?_
              refine J_iinc_3 (1 : Int32) dX3_endsTest_118 (by decide) rfl ?_
              refine J_goto (t := 4) dX3_endsTest_121 (by decide) ?_
              exact J_weak (lv' := [some (.ref 21), some (.int x1), some (.int (x2 ||| ((1 : Int32) <<< (x3 &&& 31)))), some (.int (x3 + (1 : Int32))), none]) (And.intro rfl (And.intro rfl (And.intro rfl (And.intro rfl trivial)))) h
      · replace h := ite_t c2 h
        refine J_aload_0 dX3_endsTest_32 ?_
        refine J_getI dX3_endsTest_33 fl_X3_22 jlt_21 jsh_21 (by decide) jrf_3_3 ?_
        refine J_goto (t := 59) dX3_endsTest_36 (by decide) ?_
        refine J_istore_4 dX3_endsTest_59 rfl ?_
        refine J_aload_0 dX3_endsTest_61 ?_
        refine J_getI dX3_endsTest_62 fl_X3_55 jlt_21 jsh_21 (by decide) jrf_3_14 ?_
        refine J_bipush (60 : Int32) dX3_endsTest_65 (by decide) ?_
        refine J_icmp_ne (t := 82) dX3_endsTest_67 (by decide) (fun c3 => ?_) (fun c3 => ?_)
        · replace h := ite_f c3 h
          refine J_aload_0 dX3_endsTest_82 ?_
          refine J_getI dX3_endsTest_83 fl_X3_55 jlt_21 jsh_21 (by decide) jrf_3_14 ?_
          refine J_bipush (61 : Int32) dX3_endsTest_86 (by decide) ?_
          refine J_icmp_ne (t := 103) dX3_endsTest_88 (by decide) (fun c4 => ?_) (fun c4 => ?_)
          · replace h := ite_f c4 h
            refine J_iload_4 dX3_endsTest_103 ?_
            refine J_aload_0 dX3_endsTest_105 ?_
            refine J_getI dX3_endsTest_106 fl_X3_43 jlt_21 jsh_21 (by decide) jrf_3_10 ?_
            refine J_icmp_le (t := 118) dX3_endsTest_109 (by decide) (fun c5 => ?_) (fun c5 => ?_)
            · replace h := ite_t c5 h
              refine J_iinc_3 (1 : Int32) dX3_endsTest_118 (by decide) rfl ?_
              refine J_goto (t := 4) dX3_endsTest_121 (by decide) ?_
              exact J_weak (lv' := [some (.ref 21), some (.int x1), some (.int x2), some (.int (x3 + (1 : Int32))), none]) (And.intro rfl (And.intro rfl (And.intro rfl (And.intro rfl trivial)))) h
            · replace h := ite_f c5 h
              refine J_iload_2 dX3_endsTest_112 ?_
              refine J_iconst (1 : Int32) dX3_endsTest_113 (by decide) ?_
              refine J_iload_3 dX3_endsTest_114 ?_
              refine J_ishl dX3_endsTest_115 ?_
              refine J_ior dX3_endsTest_116 ?_
              refine J_istore_2 dX3_endsTest_117 rfl ?_
              refine J_iinc_3 (1 : Int32) dX3_endsTest_118 (by decide) rfl ?_
              refine J_goto (t := 4) dX3_endsTest_121 (by decide) ?_
              exact J_weak (lv' := [some (.ref 21), some (.int x1), some (.int (x2 ||| ((1 : Int32) <<< (x3 &&& 31)))), some (.int (x3 + (1 : Int32))), none]) (And.intro rfl (And.intro rfl (And.intro rfl (And.intro rfl trivial)))) h
          · replace h := ite_t c4 h
            refine J_iload_4 dX3_endsTest_91 ?_
            refine J_aload_0 dX3_endsTest_93 ?_
            refine J_getI dX3_endsTest_94 fl_X3_43 jlt_21 jsh_21 (by decide) jrf_3_10 ?_
            refine J_icmp_ne (t := 118) dX3_endsTest_97 (by decide) (fun c5 => ?_) (fun c5 => ?_)
            · replace h := ite_f c5 h
              refine J_iinc_3 (1 : Int32) dX3_endsTest_118 (by decide) rfl ?_
              refine J_goto (t := 4) dX3_endsTest_121 (by decide) ?_
              exact J_weak (lv' := [some (.ref 21), some (.int x1), some (.int x2), some (.int (x3 + (1 : Int32))), none]) (And.intro rfl (And.intro rfl (And.intro rfl (And.intro rfl trivial)))) h
            · replace h := ite_t c5 h
              refine J_goto (t := 112) dX3_endsTest_100 (by decide) ?_
              refine J_iload_2 dX3_endsTest_112 ?_
              refine J_iconst (1 : Int32) dX3_endsTest_113 (by decide) ?_
              refine J_iload_3 dX3_endsTest_114 ?_
              refine J_ishl dX3_endsTest_115 ?_
              refine J_ior dX3_endsTest_116 ?_
              refine J_istore_2 dX3_endsTest_117 rfl ?_
              refine J_iinc_3 (1 : Int32) dX3_endsTest_118 (by decide) rfl ?_
              refine J_goto (t := 4) dX3_endsTest_121 (by decide) ?_
              exact J_weak (lv' := [some (.ref 21), some (.int x1), some (.int (x2 ||| ((1 : Int32) <<< (x3 &&& 31)))), some (.int (x3 + (1 : Int32))), none]) (And.intro rfl (And.intro rfl (And.intro rfl (And.intro rfl trivial)))) h
        · replace h := ite_t c3 h
          refine J_iload_4 dX3_endsTest_70 ?_
          refine J_aload_0 dX3_endsTest_72 ?_
          refine J_getI dX3_endsTest_73 fl_X3_43 jlt_21 jsh_21 (by decide) jrf_3_10 ?_
          refine J_icmp_ge (t := 118) dX3_endsTest_76 (by decide) (fun c4 => ?_) (fun c4 => ?_)
          · replace h := ite_t c4 h
            refine J_iinc_3 (1 : Int32) dX3_endsTest_118 (by decide) rfl ?_
            refine J_goto (t := 4) dX3_endsTest_121 (by decide) ?_
            exact J_weak (lv' := [some (.ref 21), some (.int x1), some (.int x2), some (.int (x3 + (1 : Int32))), none]) (And.intro rfl (And.intro rfl (And.intro rfl (And.intro rfl trivial)))) h
          · replace h := ite_f c4 h
            refine J_goto (t := 112) dX3_endsTest_79 (by decide) ?_
            refine J_iload_2 dX3_endsTest_112 ?_
            refine J_iconst (1 : Int32) dX3_endsTest_113 (by decide) ?_
            refine J_iload_3 dX3_endsTest_114 ?_
            refine J_ishl dX3_endsTest_115 ?_
            refine J_ior dX3_endsTest_116 ?_
            refine J_istore_2 dX3_endsTest_117 rfl ?_
            refine J_iinc_3 (1 : Int32) dX3_endsTest_118 (by decide) rfl ?_
            refine J_goto (t := 4) dX3_endsTest_121 (by decide) ?_
            exact J_weak (lv' := [some (.ref 21), some (.int x1), some (.int (x2 ||| ((1 : Int32) <<< (x3 &&& 31)))), some (.int (x3 + (1 : Int32))), none]) (And.intro rfl (And.intro rfl (And.intro rfl (And.intro rfl trivial)))) h
    · replace h := ite_t c1 h
      refine J_iload_3 dX3_endsTest_19 ?_
      refine J_goto (t := 59) dX3_endsTest_20 (by decide) ?_
      refine J_istore_4 dX3_endsTest_59 rfl ?_
      refine J_aload_0 dX3_endsTest_61 ?_
      refine J_getI dX3_endsTest_62 fl_X3_55 jlt_21 jsh_21 (by decide) jrf_3_14 ?_
      refine J_bipush (60 : Int32) dX3_endsTest_65 (by decide) ?_
      refine J_icmp_ne (t := 82) dX3_endsTest_67 (by decide) (fun c2 => ?_) (fun c2 => ?_)
      · replace h := ite_f c2 h
        refine J_aload_0 dX3_endsTest_82 ?_
        refine J_getI dX3_endsTest_83 fl_X3_55 jlt_21 jsh_21 (by decide) jrf_3_14 ?_
        refine J_bipush (61 : Int32) dX3_endsTest_86 (by decide) ?_
        refine J_icmp_ne (t := 103) dX3_endsTest_88 (by decide) (fun c3 => ?_) (fun c3 => ?_)
        · replace h := ite_f c3 h
          refine J_iload_4 dX3_endsTest_103 ?_
          refine J_aload_0 dX3_endsTest_105 ?_
          refine J_getI dX3_endsTest_106 fl_X3_43 jlt_21 jsh_21 (by decide) jrf_3_10 ?_
          refine J_icmp_le (t := 118) dX3_endsTest_109 (by decide) (fun c4 => ?_) (fun c4 => ?_)
          · replace h := ite_t c4 h
            refine J_iinc_3 (1 : Int32) dX3_endsTest_118 (by decide) rfl ?_
            refine J_goto (t := 4) dX3_endsTest_121 (by decide) ?_
            exact J_weak (lv' := [some (.ref 21), some (.int x1), some (.int x2), some (.int (x3 + (1 : Int32))), none]) (And.intro rfl (And.intro rfl (And.intro rfl (And.intro rfl trivial)))) h
          · replace h := ite_f c4 h
            refine J_iload_2 dX3_endsTest_112 ?_
            refine J_iconst (1 : Int32) dX3_endsTest_113 (by decide) ?_
            refine J_iload_3 dX3_endsTest_114 ?_
            refine J_ishl dX3_endsTest_115 ?_
            refine J_ior dX3_endsTest_116 ?_
            refine J_istore_2 dX3_endsTest_117 rfl ?_
            refine J_iinc_3 (1 : Int32) dX3_endsTest_118 (by decide) rfl ?_
            refine J_goto (t := 4) dX3_endsTest_121 (by decide) ?_
            exact J_weak (lv' := [some (.ref 21), some (.int x1), some (.int (x2 ||| ((1 : Int32) <<< (x3 &&& 31)))), some (.int (x3 + (1 : Int32))), none]) (And.intro rfl (And.intro rfl (And.intro rfl (And.intro rfl trivial)))) h
        · replace h := ite_t c3 h
          refine J_iload_4 dX3_endsTest_91 ?_
          refine J_aload_0 dX3_endsTest_93 ?_
          refine J_getI dX3_endsTest_94 fl_X3_43 jlt_21 jsh_21 (by decide) jrf_3_10 ?_
          refine J_icmp_ne (t := 118) dX3_endsTest_97 (by decide) (fun c4 => ?_) (fun c4 => ?_)
          · replace h := ite_f c4 h
            refine J_iinc_3 (1 : Int32) dX3_endsTest_118 (by decide) rfl ?_
            refine J_goto (t := 4) dX3_endsTest_121 (by decide) ?_
            exact J_weak (lv' := [some (.ref 21), some (.int x1), some (.int x2), some (.int (x3 + (1 : Int32))), none]) (And.intro rfl (And.intro rfl (And.intro rfl (And.intro rfl trivial)))) h
          · replace h := ite_t c4 h
            refine J_goto (t := 112) dX3_endsTest_100 (by decide) ?_
            refine J_iload_2 dX3_endsTest_112 ?_
            refine J_iconst (1 : Int32) dX3_endsTest_113 (by decide) ?_
            refine J_iload_3 dX3_endsTest_114 ?_
            refine J_ishl dX3_endsTest_115 ?_
            refine J_ior dX3_endsTest_116 ?_
            refine J_istore_2 dX3_endsTest_117 rfl ?_
            refine J_iinc_3 (1 : Int32) dX3_endsTest_118 (by decide) rfl ?_
            refine J_goto (t := 4) dX3_endsTest_121 (by decide) ?_
            exact J_weak (lv' := [some (.ref 21), some (.int x1), some (.int (x2 ||| ((1 : Int32) <<< (x3 &&& 31)))), some (.int (x3 + (1 : Int32))), none]) (And.intro rfl (And.intro rfl (And.intro rfl (And.intro rfl trivial)))) h
      · replace h := ite_t c2 h
        refine J_iload_4 dX3_endsTest_70 ?_
        refine J_aload_0 dX3_endsTest_72 ?_
        refine J_getI dX3_endsTest_73 fl_X3_43 jlt_21 jsh_21 (by decide) jrf_3_10 ?_
        refine J_icmp_ge (t := 118) dX3_endsTest_76 (by decide) (fun c3 => ?_) (fun c3 => ?_)
        · replace h := ite_t c3 h
          refine J_iinc_3 (1 : Int32) dX3_endsTest_118 (by decide) rfl ?_
          refine J_goto (t := 4) dX3_endsTest_121 (by decide) ?_
          exact J_weak (lv' := [some (.ref 21), some (.int x1), some (.int x2), some (.int (x3 + (1 : Int32))), none]) (And.intro rfl (And.intro rfl (And.intro rfl (And.intro rfl trivial)))) h
        · replace h := ite_f c3 h
          refine J_goto (t := 112) dX3_endsTest_79 (by decide) ?_
          refine J_iload_2 dX3_endsTest_112 ?_
          refine J_iconst (1 : Int32) dX3_endsTest_113 (by decide) ?_
          refine J_iload_3 dX3_endsTest_114 ?_
          refine J_ishl dX3_endsTest_115 ?_
          refine J_ior dX3_endsTest_116 ?_
          refine J_istore_2 dX3_endsTest_117 rfl ?_
          refine J_iinc_3 (1 : Int32) dX3_endsTest_118 (by decide) rfl ?_
          refine J_goto (t := 4) dX3_endsTest_121 (by decide) ?_
          exact J_weak (lv' := [some (.ref 21), some (.int x1), some (.int (x2 ||| ((1 : Int32) <<< (x3 &&& 31)))), some (.int (x3 + (1 : Int32))), none]) (And.intro rfl (And.intro rfl (And.intro rfl (And.intro rfl trivial)))) h
theorem eX3_endsTest {G : jGT} {d : Nat} {x1 : Int32} {M : jM} {post : Int32 → jM → Prop} (h : kX3_endsTest_0 G d  x1 M post) : CI G (d + 1) mX3_endsTest [.ref 21, .int x1] M post := Con_of_J ok_X3_endsTest 3 rfl rfl h
def kX3_endFactor_0 (G : jGT) (d : Nat)  (x1 : Int32) (M : jM) (post : jM → Prop) : Prop := J G d mX3_endFactor 0 [some (.ref 21), some (.int x1), none, none] [] jN jSH M jMR 0 0 0 0 (jQv post)
def kX3_endFactor_4 (G : jGT) (d : Nat)  (x1 : Int32) (x2 : Int32) (x3 : Int32) (M : jM) (post : jM → Prop) : Prop := J G d mX3_endFactor 4 [some (.ref 21), some (.int x1), some (.int x2), some (.int x3)] [] jN jSH M jMR 0 0 0 0 (jQv post)
theorem bX3_endFactor_0 {G : jGT} {d : Nat} {x1 : Int32} {M : jM} {post : jM → Prop} (h : kX3_endFactor_4 G d x1 x1 (0 : Int32) M post) : kX3_endFactor_0 G d  x1 M post := by
  unfold kX3_endFactor_0
  refine J_iload_1 dX3_endFactor_0 ?_
  refine J_istore_2 dX3_endFactor_1 rfl ?_
  refine J_iconst (0 : Int32) dX3_endFactor_2 (by decide) ?_
  refine J_istore_3 dX3_endFactor_3 rfl ?_
  exact h
theorem bX3_endFactor_4 {G : jGT} {d : Nat} {x1 : Int32} {x2 : Int32} {x3 : Int32} {M : jM} {post : jM → Prop} (h : (if (5 : Int32) ≤ x3 then (if (M 21 15) < 0 then post M else (if (5 : Int32) < (M 21 15) then post M else (vp_in (M 21 15) 6 ∧ (vp_in (M 21 15) 6 ∧ post (jup M 26 ((M 21 15).toNatClampNeg) ((M 26 ((M 21 15).toNatClampNeg)) &&& x2)))))) else (if (M 21 15) ≤ 0 then (if (M 21 15) < 0 then post M else (if (5 : Int32) < (M 21 15) then post M else (vp_in (M 21 15) 6 ∧ (vp_in (M 21 15) 6 ∧ post (jup M 26 ((M 21 15).toNatClampNeg) ((M 26 ((M 21 15).toNatClampNeg)) &&& x2)))))) else (if (5 : Int32) < (M 21 15) then (if (M 21 15) < 0 then post M else (if (5 : Int32) < (M 21 15) then post M else (vp_in (M 21 15) 6 ∧ (vp_in (M 21 15) 6 ∧ post (jup M 26 ((M 21 15).toNatClampNeg) ((M 26 ((M 21 15).toNatClampNeg)) &&& x2)))))) else (vp_in ((M 21 15) - (1 : Int32)) 5 ∧ (if (M 24 (((M 21 15) - (1 : Int32)).toNatClampNeg)) = (33 : Int32) then kX3_endFactor_4 G d x1 (x2 ^^^ (255 : Int32)) (x3 + (1 : Int32)) (jup M 21 15 ((M 21 15) - (1 : Int32))) post else (if (M 21 15) < 0 then post M else (if (5 : Int32) < (M 21 15) then post M else (vp_in (M 21 15) 6 ∧ (vp_in (M 21 15) 6 ∧ post (jup M 26 ((M 21 15).toNatClampNeg) ((M 26 ((M 21 15).toNatClampNeg)) &&& x2)))))))))))) : kX3_endFactor_4 G d  x1 x2 x3 M post := by
  unfold kX3_endFactor_4
  refine J_iload_3 dX3_endFactor_4 ?_
  refine J_iconst (5 : Int32) dX3_endFactor_5 (by decide) ?_
  refine J_icmp_ge (t := 62) dX3_endFactor_6 (by decide) (fun c0 => ?_) (fun c0 => ?_)
  · replace h := ite_t c0 h
    refine J_aload_0 dX3_endFactor_62 ?_
    refine J_getI dX3_endFactor_63 fl_X3_58 jlt_21 jsh_21 (by decide) jrf_3_15 ?_
    refine J_if_lt (t := 90) dX3_endFactor_66 (by decide) (fun c1 => ?_) (fun c1 => ?_)
    · replace h := ite_t c1 h
      exact K_ret dX3_endFactor_90 rfl h
    · replace h := ite_f c1 h
      refine J_aload_0 dX3_endFactor_69 ?_
      refine J_getI dX3_endFactor_70 fl_X3_58 jlt_21 jsh_21 (by decide) jrf_3_15 ?_
      refine J_iconst (5 : Int32) dX3_endFactor_73 (by decide) ?_
      refine J_icmp_gt (t := 90) dX3_endFactor_74 (by decide) (fun c2 => ?_) (fun c2 => ?_)
      · replace h := ite_t c2 h
        exact K_ret dX3_endFactor_90 rfl h
      · replace h := ite_f c2 h
        refine J_aload_0 dX3_endFactor_77 ?_
        refine J_getR 26 dX3_endFactor_78 fl_X3_67 jlt_21 jsh_21 (by decide) jrf_3_18 jmr_21_18 ?_
        refine J_aload_0 dX3_endFactor_81 ?_
        refine J_getI dX3_endFactor_82 fl_X3_58 jlt_21 jsh_21 (by decide) jrf_3_15 ?_
        refine J_dup2 dX3_endFactor_85 rfl rfl ?_
        obtain ⟨g3, h⟩ := h
        refine K_iald ((M 21 15).toNatClampNeg) rfl dX3_endFactor_86 jlt_26 jsh_26 g3 ?_
        refine J_iload_2 dX3_endFactor_87 ?_
        refine J_iand dX3_endFactor_88 ?_
        obtain ⟨g4, h⟩ := h
        refine K_iast ((M 21 15).toNatClampNeg) rfl dX3_endFactor_89 jlt_26 jsh_26 g4 ?_
        exact K_ret dX3_endFactor_90 rfl h
  · replace h := ite_f c0 h
    refine J_aload_0 dX3_endFactor_9 ?_
    refine J_getI dX3_endFactor_10 fl_X3_58 jlt_21 jsh_21 (by decide) jrf_3_15 ?_
    refine J_if_le (t := 62) dX3_endFactor_13 (by decide) (fun c1 => ?_) (fun c1 => ?_)
    · replace h := ite_t c1 h
      refine J_aload_0 dX3_endFactor_62 ?_
      refine J_getI dX3_endFactor_63 fl_X3_58 jlt_21 jsh_21 (by decide) jrf_3_15 ?_
      refine J_if_lt (t := 90) dX3_endFactor_66 (by decide) (fun c2 => ?_) (fun c2 => ?_)
      · replace h := ite_t c2 h
        exact K_ret dX3_endFactor_90 rfl h
      · replace h := ite_f c2 h
        refine J_aload_0 dX3_endFactor_69 ?_
        refine J_getI dX3_endFactor_70 fl_X3_58 jlt_21 jsh_21 (by decide) jrf_3_15 ?_
        refine J_iconst (5 : Int32) dX3_endFactor_73 (by decide) ?_
        refine J_icmp_gt (t := 90) dX3_endFactor_74 (by decide) (fun c3 => ?_) (fun c3 => ?_)
        · replace h := ite_t c3 h
          exact K_ret dX3_endFactor_90 rfl h
        · replace h := ite_f c3 h
          refine J_aload_0 dX3_endFactor_77 ?_
          refine J_getR 26 dX3_endFactor_78 fl_X3_67 jlt_21 jsh_21 (by decide) jrf_3_18 jmr_21_18 ?_
          refine J_aload_0 dX3_endFactor_81 ?_
          refine J_getI dX3_endFactor_82 fl_X3_58 jlt_21 jsh_21 (by decide) jrf_3_15 ?_
          refine J_dup2 dX3_endFactor_85 rfl rfl ?_
          obtain ⟨g4, h⟩ := h
          refine K_iald ((M 21 15).toNatClampNeg) rfl dX3_endFactor_86 jlt_26 jsh_26 g4 ?_
          refine J_iload_2 dX3_endFactor_87 ?_
          refine J_iand dX3_endFactor_88 ?_
          obtain ⟨g5, h⟩ := h
          refine K_iast ((M 21 15).toNatClampNeg) rfl dX3_endFactor_89 jlt_26 jsh_26 g5 ?_
          exact K_ret dX3_endFactor_90 rfl h
    · replace h := ite_f c1 h
      refine J_aload_0 dX3_endFactor_16 ?_
      refine J_getI dX3_endFactor_17 fl_X3_58 jlt_21 jsh_21 (by decide) jrf_3_15 ?_
      refine J_iconst (5 : Int32) dX3_endFactor_20 (by decide) ?_
      refine J_icmp_gt (t := 62) dX3_endFactor_21 (by decide) (fun c2 => ?_) (fun c2 => ?_)
      · replace h := ite_t c2 h
        refine J_aload_0 dX3_endFactor_62 ?_
        refine J_getI dX3_endFactor_63 fl_X3_58 jlt_21 jsh_21 (by decide) jrf_3_15 ?_
        refine J_if_lt (t := 90) dX3_endFactor_66 (by decide) (fun c3 => ?_) (fun c3 => ?_)
        · replace h := ite_t c3 h
          exact K_ret dX3_endFactor_90 rfl h
        · replace h := ite_f c3 h
          refine J_aload_0 dX3_endFactor_69 ?_
          refine J_getI dX3_endFactor_70 fl_X3_58 jlt_21 jsh_21 (by decide) jrf_3_15 ?_
          refine J_iconst (5 : Int32) dX3_endFactor_73 (by decide) ?_
          refine J_icmp_gt (t := 90) dX3_endFactor_74 (by decide) (fun c4 => ?_) (fun c4 => ?_)
          · replace h := ite_t c4 h
            exact K_ret dX3_endFactor_90 rfl h
          · replace h := ite_f c4 h
            refine J_aload_0 dX3_endFactor_77 ?_
            refine J_getR 26 dX3_endFactor_78 fl_X3_67 jlt_21 jsh_21 (by decide) jrf_3_18 jmr_21_18 ?_
            refine J_aload_0 dX3_endFactor_81 ?_
            refine J_getI dX3_endFactor_82 fl_X3_58 jlt_21 jsh_21 (by decide) jrf_3_15 ?_
            refine J_dup2 dX3_endFactor_85 rfl rfl ?_
            obtain ⟨g5, h⟩ := h
            refine K_iald ((M 21 15).toNatClampNeg) rfl dX3_endFactor_86 jlt_26 jsh_26 g5 ?_
            refine J_iload_2 dX3_endFactor_87 ?_
            refine J_iand dX3_endFactor_88 ?_
            obtain ⟨g6, h⟩ := h
            refine K_iast ((M 21 15).toNatClampNeg) rfl dX3_endFactor_89 jlt_26 jsh_26 g6 ?_
            exact K_ret dX3_endFactor_90 rfl h
      · replace h := ite_f c2 h
        refine J_aload_0 dX3_endFactor_24 ?_
        refine J_getR 24 dX3_endFactor_25 fl_X3_61 jlt_21 jsh_21 (by decide) jrf_3_16 jmr_21_16 ?_
        refine J_aload_0 dX3_endFactor_28 ?_
        refine J_getI dX3_endFactor_29 fl_X3_58 jlt_21 jsh_21 (by decide) jrf_3_15 ?_
        refine J_iconst (1 : Int32) dX3_endFactor_32 (by decide) ?_
        refine J_isub dX3_endFactor_33 ?_
        obtain ⟨g3, h⟩ := h
        refine K_iald (((M 21 15) - (1 : Int32)).toNatClampNeg) rfl dX3_endFactor_34 jlt_24 jsh_24 g3 ?_
        refine J_bipush (33 : Int32) dX3_endFactor_35 (by decide) ?_
        refine J_icmp_ne (t := 62) dX3_endFactor_37 (by decide) (fun c4 => ?_) (fun c4 => ?_)
        · replace h := ite_f c4 h
          refine J_aload_0 dX3_endFactor_62 ?_
          refine J_getI dX3_endFactor_63 fl_X3_58 jlt_21 jsh_21 (by decide) jrf_3_15 ?_
          refine J_if_lt (t := 90) dX3_endFactor_66 (by decide) (fun c5 => ?_) (fun c5 => ?_)
          · replace h := ite_t c5 h
            exact K_ret dX3_endFactor_90 rfl h
          · replace h := ite_f c5 h
            refine J_aload_0 dX3_endFactor_69 ?_
            refine J_getI dX3_endFactor_70 fl_X3_58 jlt_21 jsh_21 (by decide) jrf_3_15 ?_
            refine J_iconst (5 : Int32) dX3_endFactor_73 (by decide) ?_
            refine J_icmp_gt (t := 90) dX3_endFactor_74 (by decide) (fun c6 => ?_) (fun c6 => ?_)
            · replace h := ite_t c6 h
              exact K_ret dX3_endFactor_90 rfl h
            · replace h := ite_f c6 h
              refine J_aload_0 dX3_endFactor_77 ?_
              refine J_getR 26 dX3_endFactor_78 fl_X3_67 jlt_21 jsh_21 (by decide) jrf_3_18 jmr_21_18 ?_
              refine J_aload_0 dX3_endFactor_81 ?_
              refine J_getI dX3_endFactor_82 fl_X3_58 jlt_21 jsh_21 (by decide) jrf_3_15 ?_
              refine J_dup2 dX3_endFactor_85 rfl rfl ?_
              obtain ⟨g7, h⟩ := h
              refine K_iald ((M 21 15).toNatClampNeg) rfl dX3_endFactor_86 jlt_26 jsh_26 g7 ?_
              refine J_iload_2 dX3_endFactor_87 ?_
              refine J_iand dX3_endFactor_88 ?_
              obtain ⟨g8, h⟩ := h
              refine K_iast ((M 21 15).toNatClampNeg) rfl dX3_endFactor_89 jlt_26 jsh_26 g8 ?_
              exact K_ret dX3_endFactor_90 rfl h
        · replace h := ite_t c4 h
          refine J_iload_2 dX3_endFactor_40 ?_
          refine J_sipush (255 : Int32) dX3_endFactor_41 (by decide) ?_
          refine J_ixor dX3_endFactor_44 ?_
          refine J_istore_2 dX3_endFactor_45 rfl ?_
          refine J_aload_0 dX3_endFactor_46 ?_
          refine J_dup dX3_endFactor_47 rfl ?_
          refine J_getI dX3_endFactor_48 fl_X3_58 jlt_21 jsh_21 (by decide) jrf_3_15 ?_
          refine J_iconst (1 : Int32) dX3_endFactor_51 (by decide) ?_
          refine J_isub dX3_endFactor_52 ?_
          refine J_putI false dX3_endFactor_53 pl_X3_58 jlt_21 jsh_21 (by decide) jrf_3_15 (fun q => absurd q (by decide)) ?_
          refine J_iinc_3 (1 : Int32) dX3_endFactor_56 (by decide) rfl ?_
          refine J_goto (t := 4) dX3_endFactor_59 (by decide) ?_
          exact h
theorem eX3_endFactor {G : jGT} {d : Nat} {x1 : Int32} {M : jM} {post : jM → Prop} (h : kX3_endFactor_0 G d  x1 M post) : CV G d mX3_endFactor [.ref 21, .int x1] M post := Con_of_J ok_X3_endFactor 2 rfl rfl h
def kX3_goesBehind_0 (G : jGT) (d : Nat)  (x1 : Int32) (M : jM) (post : Int32 → jM → Prop) : Prop := J G (d + 1) mX3_goesBehind 0 [some (.ref 21), some (.int x1), none] [] jN jSH M jMR 0 0 0 0 (jQi post)
theorem bX3_goesBehind_0 {G : jGT} {d : Nat} {x1 : Int32} {M : jM} {post : Int32 → jM → Prop} (h : (if (M 21 15) < 0 then post (0 : Int32) M else (if (M 21 15) ≤ (5 : Int32) then (if x1 = (38 : Int32) then post (1 : Int32) (jup M 21 6 (3 : Int32)) else (vp_in (M 21 15) 6 ∧ (vp_in (M 21 15) 6 ∧ (vp_in (M 21 15) 6 ∧ (vp_in (M 21 15) 6 ∧ (if x1 = (124 : Int32) then post (1 : Int32) (jup (jup (jup M 25 ((M 21 15).toNatClampNeg) ((M 25 ((M 21 15).toNatClampNeg)) ||| (M 26 ((M 21 15).toNatClampNeg)))) 26 ((M 21 15).toNatClampNeg) (255 : Int32)) 21 6 (3 : Int32)) else (vp_in (M 21 15) 6 ∧ (if x1 = (41 : Int32) then (if (M 21 15) ≤ 0 then (if x1 = (59 : Int32) then (if (M 21 15) = 0 then (if (M 21 7) = (119 : Int32) then CV G d mX3_grow [.ref 21, .ref 22, .int ((jup M 25 ((M 21 15).toNatClampNeg) ((M 25 ((M 21 15).toNatClampNeg)) ||| (M 26 ((M 21 15).toNatClampNeg)))) 25 ((M 21 15).toNatClampNeg))] (jup (jup M 25 ((M 21 15).toNatClampNeg) ((M 25 ((M 21 15).toNatClampNeg)) ||| (M 26 ((M 21 15).toNatClampNeg)))) 26 ((M 21 15).toNatClampNeg) (255 : Int32)) (fun M4 => post (1 : Int32) (jup (jup M4 21 9 ((M4 21 9) + (1 : Int32))) 21 6 (0 : Int32))) else CV G d mX3_grow [.ref 21, .ref 23, .int ((jup M 25 ((M 21 15).toNatClampNeg) ((M 25 ((M 21 15).toNatClampNeg)) ||| (M 26 ((M 21 15).toNatClampNeg)))) 25 ((M 21 15).toNatClampNeg))] (jup (jup M 25 ((M 21 15).toNatClampNeg) ((M 25 ((M 21 15).toNatClampNeg)) ||| (M 26 ((M 21 15).toNatClampNeg)))) 26 ((M 21 15).toNatClampNeg) (255 : Int32)) (fun M3 => post (1 : Int32) (jup (jup M3 21 9 ((M3 21 9) + (1 : Int32))) 21 6 (0 : Int32)))) else post (0 : Int32) (jup (jup M 25 ((M 21 15).toNatClampNeg) ((M 25 ((M 21 15).toNatClampNeg)) ||| (M 26 ((M 21 15).toNatClampNeg)))) 26 ((M 21 15).toNatClampNeg) (255 : Int32))) else post (0 : Int32) (jup (jup M 25 ((M 21 15).toNatClampNeg) ((M 25 ((M 21 15).toNatClampNeg)) ||| (M 26 ((M 21 15).toNatClampNeg)))) 26 ((M 21 15).toNatClampNeg) (255 : Int32))) else CV G d mX3_endFactor [.ref 21, .int ((jup M 25 ((M 21 15).toNatClampNeg) ((M 25 ((M 21 15).toNatClampNeg)) ||| (M 26 ((M 21 15).toNatClampNeg)))) 25 ((M 21 15).toNatClampNeg))] (jup (jup (jup M 25 ((M 21 15).toNatClampNeg) ((M 25 ((M 21 15).toNatClampNeg)) ||| (M 26 ((M 21 15).toNatClampNeg)))) 26 ((M 21 15).toNatClampNeg) (255 : Int32)) 21 15 ((M 21 15) - (1 : Int32))) (fun M5 => post (1 : Int32) M5)) else (if x1 = (59 : Int32) then (if (M 21 15) = 0 then (if (M 21 7) = (119 : Int32) then CV G d mX3_grow [.ref 21, .ref 22, .int ((jup M 25 ((M 21 15).toNatClampNeg) ((M 25 ((M 21 15).toNatClampNeg)) ||| (M 26 ((M 21 15).toNatClampNeg)))) 25 ((M 21 15).toNatClampNeg))] (jup (jup M 25 ((M 21 15).toNatClampNeg) ((M 25 ((M 21 15).toNatClampNeg)) ||| (M 26 ((M 21 15).toNatClampNeg)))) 26 ((M 21 15).toNatClampNeg) (255 : Int32)) (fun M2 => post (1 : Int32) (jup (jup M2 21 9 ((M2 21 9) + (1 : Int32))) 21 6 (0 : Int32))) else CV G d mX3_grow [.ref 21, .ref 23, .int ((jup M 25 ((M 21 15).toNatClampNeg) ((M 25 ((M 21 15).toNatClampNeg)) ||| (M 26 ((M 21 15).toNatClampNeg)))) 25 ((M 21 15).toNatClampNeg))] (jup (jup M 25 ((M 21 15).toNatClampNeg) ((M 25 ((M 21 15).toNatClampNeg)) ||| (M 26 ((M 21 15).toNatClampNeg)))) 26 ((M 21 15).toNatClampNeg) (255 : Int32)) (fun M1 => post (1 : Int32) (jup (jup M1 21 9 ((M1 21 9) + (1 : Int32))) 21 6 (0 : Int32)))) else post (0 : Int32) (jup (jup M 25 ((M 21 15).toNatClampNeg) ((M 25 ((M 21 15).toNatClampNeg)) ||| (M 26 ((M 21 15).toNatClampNeg)))) 26 ((M 21 15).toNatClampNeg) (255 : Int32))) else post (0 : Int32) (jup (jup M 25 ((M 21 15).toNatClampNeg) ((M 25 ((M 21 15).toNatClampNeg)) ||| (M 26 ((M 21 15).toNatClampNeg)))) 26 ((M 21 15).toNatClampNeg) (255 : Int32))))))))))) else post (0 : Int32) M))) : kX3_goesBehind_0 G d  x1 M post := by
  unfold kX3_goesBehind_0
  refine J_aload_0 dX3_goesBehind_0 ?_
  refine J_getI dX3_goesBehind_1 fl_X3_58 jlt_21 jsh_21 (by decide) jrf_3_15 ?_
  refine J_if_lt (t := 15) dX3_goesBehind_4 (by decide) (fun c0 => ?_) (fun c0 => ?_)
  · replace h := ite_t c0 h
    refine J_iconst (0 : Int32) dX3_goesBehind_15 (by decide) ?_
    exact K_zret dX3_goesBehind_16 rfl (by decide +kernel) h
  · replace h := ite_f c0 h
    refine J_aload_0 dX3_goesBehind_7 ?_
    refine J_getI dX3_goesBehind_8 fl_X3_58 jlt_21 jsh_21 (by decide) jrf_3_15 ?_
    refine J_iconst (5 : Int32) dX3_goesBehind_11 (by decide) ?_
    refine J_icmp_le (t := 17) dX3_goesBehind_12 (by decide) (fun c1 => ?_) (fun c1 => ?_)
    · replace h := ite_t c1 h
      refine J_iload_1 dX3_goesBehind_17 ?_
      refine J_bipush (38 : Int32) dX3_goesBehind_18 (by decide) ?_
      refine J_icmp_ne (t := 30) dX3_goesBehind_20 (by decide) (fun c2 => ?_) (fun c2 => ?_)
      · replace h := ite_f c2 h
        refine J_aload_0 dX3_goesBehind_30 ?_
        refine J_getR 25 dX3_goesBehind_31 fl_X3_64 jlt_21 jsh_21 (by decide) jrf_3_17 jmr_21_17 ?_
        refine J_aload_0 dX3_goesBehind_34 ?_
        refine J_getI dX3_goesBehind_35 fl_X3_58 jlt_21 jsh_21 (by decide) jrf_3_15 ?_
        refine J_dup2 dX3_goesBehind_38 rfl rfl ?_
        obtain ⟨g3, h⟩ := h
        refine K_iald ((M 21 15).toNatClampNeg) rfl dX3_goesBehind_39 jlt_25 jsh_25 g3 ?_
        refine J_aload_0 dX3_goesBehind_40 ?_
        refine J_getR 26 dX3_goesBehind_41 fl_X3_67 jlt_21 jsh_21 (by decide) jrf_3_18 jmr_21_18 ?_
        refine J_aload_0 dX3_goesBehind_44 ?_
        refine J_getI dX3_goesBehind_45 fl_X3_58 jlt_21 jsh_21 (by decide) jrf_3_15 ?_
        obtain ⟨g4, h⟩ := h
        refine K_iald ((M 21 15).toNatClampNeg) rfl dX3_goesBehind_48 jlt_26 jsh_26 g4 ?_
        refine J_ior dX3_goesBehind_49 ?_
        obtain ⟨g5, h⟩ := h
        refine K_iast ((M 21 15).toNatClampNeg) rfl dX3_goesBehind_50 jlt_25 jsh_25 g5 ?_
        refine J_aload_0 dX3_goesBehind_51 ?_
        refine J_getR 26 dX3_goesBehind_52 fl_X3_67 jlt_21 jsh_21 (by decide) jrf_3_18 jmr_21_18 ?_
        refine J_aload_0 dX3_goesBehind_55 ?_
        refine J_getI dX3_goesBehind_56 fl_X3_58 jlt_21 jsh_21 (by decide) jrf_3_15 ?_
        refine J_sipush (255 : Int32) dX3_goesBehind_59 (by decide) ?_
        obtain ⟨g6, h⟩ := h
        refine K_iast ((M 21 15).toNatClampNeg) rfl dX3_goesBehind_62 jlt_26 jsh_26 g6 ?_
        refine J_iload_1 dX3_goesBehind_63 ?_
        refine J_bipush (124 : Int32) dX3_goesBehind_64 (by decide) ?_
        refine J_icmp_ne (t := 76) dX3_goesBehind_66 (by decide) (fun c7 => ?_) (fun c7 => ?_)
        · replace h := ite_f c7 h
          refine J_aload_0 dX3_goesBehind_76 ?_
          refine J_getR 25 dX3_goesBehind_77 fl_X3_64 jlt_21 jsh_21 (by decide) jrf_3_17 jmr_21_17 ?_
          refine J_aload_0 dX3_goesBehind_80 ?_
          refine J_getI dX3_goesBehind_81 fl_X3_58 jlt_21 jsh_21 (by decide) jrf_3_15 ?_
          obtain ⟨g8, h⟩ := h
          refine K_iald ((M 21 15).toNatClampNeg) rfl dX3_goesBehind_84 jlt_25 jsh_25 g8 ?_
          refine J_istore_2 dX3_goesBehind_85 rfl ?_
          refine J_iload_1 dX3_goesBehind_86 ?_
          refine J_bipush (41 : Int32) dX3_goesBehind_87 (by decide) ?_
          refine J_icmp_ne (t := 116) dX3_goesBehind_89 (by decide) (fun c9 => ?_) (fun c9 => ?_)
          · replace h := ite_f c9 h
            refine J_iload_1 dX3_goesBehind_116 ?_
            refine J_bipush (59 : Int32) dX3_goesBehind_117 (by decide) ?_
            refine J_icmp_ne (t := 171) dX3_goesBehind_119 (by decide) (fun c10 => ?_) (fun c10 => ?_)
            · replace h := ite_f c10 h
              refine J_iconst (0 : Int32) dX3_goesBehind_171 (by decide) ?_
              exact K_zret dX3_goesBehind_172 rfl (by decide +kernel) h
            · replace h := ite_t c10 h
              refine J_aload_0 dX3_goesBehind_122 ?_
              refine J_getI dX3_goesBehind_123 fl_X3_58 jlt_21 jsh_21 (by decide) jrf_3_15 ?_
              refine J_if_ne (t := 171) dX3_goesBehind_126 (by decide) (fun c11 => ?_) (fun c11 => ?_)
              · replace h := ite_f c11 h
                refine J_iconst (0 : Int32) dX3_goesBehind_171 (by decide) ?_
                exact K_zret dX3_goesBehind_172 rfl (by decide +kernel) h
              · replace h := ite_t c11 h
                refine J_aload_0 dX3_goesBehind_129 ?_
                refine J_aload_0 dX3_goesBehind_130 ?_
                refine J_getI dX3_goesBehind_131 fl_X3_34 jlt_21 jsh_21 (by decide) jrf_3_7 ?_
                refine J_bipush (119 : Int32) dX3_goesBehind_134 (by decide) ?_
                refine J_icmp_ne (t := 146) dX3_goesBehind_136 (by decide) (fun c12 => ?_) (fun c12 => ?_)
                · replace h := ite_f c12 h
                  refine J_aload_0 dX3_goesBehind_146 ?_
                  refine J_getR 23 dX3_goesBehind_147 fl_X3_15 jlt_21 jsh_21 (by decide) jrf_3_1 jmr_21_1 ?_
                  refine J_iload_2 dX3_goesBehind_150 ?_
                  refine K_callVV (As := [.ref 23, .int ((jup M 25 ((M 21 15).toNatClampNeg) ((M 25 ((M 21 15).toNatClampNeg)) ||| (M 26 ((M 21 15).toNatClampNeg)))) 25 ((M 21 15).toNatClampNeg))]) (rest := []) dX3_goesBehind_151 vl_X3_130 jlt_21 jsh_21 _ rfl rfl h rfl rfl (Nat.le_of_ble_eq_true rfl) (fun M1 h => ?_)
                  refine J_aload_0 dX3_goesBehind_154 ?_
                  refine J_dup dX3_goesBehind_155 rfl ?_
                  refine J_getI dX3_goesBehind_156 fl_X3_40 jlt_21 jsh_21 (by decide) jrf_3_9 ?_
                  refine J_iconst (1 : Int32) dX3_goesBehind_159 (by decide) ?_
                  refine J_iadd dX3_goesBehind_160 ?_
                  refine J_putI false dX3_goesBehind_161 pl_X3_40 jlt_21 jsh_21 (by decide) jrf_3_9 (fun q => absurd q (by decide)) ?_
                  refine J_aload_0 dX3_goesBehind_164 ?_
                  refine J_iconst (0 : Int32) dX3_goesBehind_165 (by decide) ?_
                  refine J_putI false dX3_goesBehind_166 pl_X3_31 jlt_21 jsh_21 (by decide) jrf_3_6 (fun q => absurd q (by decide)) ?_
                  refine J_iconst (1 : Int32) dX3_goesBehind_169 (by decide) ?_
                  exact K_zret dX3_goesBehind_170 rfl (by decide +kernel) h
                · replace h := ite_t c12 h
                  refine J_aload_0 dX3_goesBehind_139 ?_
                  refine J_getR 22 dX3_goesBehind_140 fl_X3_9 jlt_21 jsh_21 (by decide) jrf_3_0 jmr_21_0 ?_
                  refine J_goto (t := 150) dX3_goesBehind_143 (by decide) ?_
                  refine J_iload_2 dX3_goesBehind_150 ?_
                  refine K_callVV (As := [.ref 22, .int ((jup M 25 ((M 21 15).toNatClampNeg) ((M 25 ((M 21 15).toNatClampNeg)) ||| (M 26 ((M 21 15).toNatClampNeg)))) 25 ((M 21 15).toNatClampNeg))]) (rest := []) dX3_goesBehind_151 vl_X3_130 jlt_21 jsh_21 _ rfl rfl h rfl rfl (Nat.le_of_ble_eq_true rfl) (fun M2 h => ?_)
                  refine J_aload_0 dX3_goesBehind_154 ?_
                  refine J_dup dX3_goesBehind_155 rfl ?_
                  refine J_getI dX3_goesBehind_156 fl_X3_40 jlt_21 jsh_21 (by decide) jrf_3_9 ?_
                  refine J_iconst (1 : Int32) dX3_goesBehind_159 (by decide) ?_
                  refine J_iadd dX3_goesBehind_160 ?_
                  refine J_putI false dX3_goesBehind_161 pl_X3_40 jlt_21 jsh_21 (by decide) jrf_3_9 (fun q => absurd q (by decide)) ?_
                  refine J_aload_0 dX3_goesBehind_164 ?_
                  refine J_iconst (0 : Int32) dX3_goesBehind_165 (by decide) ?_
                  refine J_putI false dX3_goesBehind_166 pl_X3_31 jlt_21 jsh_21 (by decide) jrf_3_6 (fun q => absurd q (by decide)) ?_
                  refine J_iconst (1 : Int32) dX3_goesBehind_169 (by decide) ?_
                  exact K_zret dX3_goesBehind_170 rfl (by decide +kernel) h
          · replace h := ite_t c9 h
            refine J_aload_0 dX3_goesBehind_92 ?_
            refine J_getI dX3_goesBehind_93 fl_X3_58 jlt_21 jsh_21 (by decide) jrf_3_15 ?_
            refine J_if_le (t := 116) dX3_goesBehind_96 (by decide) (fun c10 => ?_) (fun c10 => ?_)
            · replace h := ite_t c10 h
              refine J_iload_1 dX3_goesBehind_116 ?_
              refine J_bipush (59 : Int32) dX3_goesBehind_117 (by decide) ?_
              refine J_icmp_ne (t := 171) dX3_goesBehind_119 (by decide) (fun c11 => ?_) (fun c11 => ?_)
              · replace h := ite_f c11 h
                refine J_iconst (0 : Int32) dX3_goesBehind_171 (by decide) ?_
                exact K_zret dX3_goesBehind_172 rfl (by decide +kernel) h
              · replace h := ite_t c11 h
                refine J_aload_0 dX3_goesBehind_122 ?_
                refine J_getI dX3_goesBehind_123 fl_X3_58 jlt_21 jsh_21 (by decide) jrf_3_15 ?_
                refine J_if_ne (t := 171) dX3_goesBehind_126 (by decide) (fun c12 => ?_) (fun c12 => ?_)
                · replace h := ite_f c12 h
                  refine J_iconst (0 : Int32) dX3_goesBehind_171 (by decide) ?_
                  exact K_zret dX3_goesBehind_172 rfl (by decide +kernel) h
                · replace h := ite_t c12 h
                  refine J_aload_0 dX3_goesBehind_129 ?_
                  refine J_aload_0 dX3_goesBehind_130 ?_
                  refine J_getI dX3_goesBehind_131 fl_X3_34 jlt_21 jsh_21 (by decide) jrf_3_7 ?_
                  refine J_bipush (119 : Int32) dX3_goesBehind_134 (by decide) ?_
                  refine J_icmp_ne (t := 146) dX3_goesBehind_136 (by decide) (fun c13 => ?_) (fun c13 => ?_)
                  · replace h := ite_f c13 h
                    refine J_aload_0 dX3_goesBehind_146 ?_
                    refine J_getR 23 dX3_goesBehind_147 fl_X3_15 jlt_21 jsh_21 (by decide) jrf_3_1 jmr_21_1 ?_
                    refine J_iload_2 dX3_goesBehind_150 ?_
                    refine K_callVV (As := [.ref 23, .int ((jup M 25 ((M 21 15).toNatClampNeg) ((M 25 ((M 21 15).toNatClampNeg)) ||| (M 26 ((M 21 15).toNatClampNeg)))) 25 ((M 21 15).toNatClampNeg))]) (rest := []) dX3_goesBehind_151 vl_X3_130 jlt_21 jsh_21 _ rfl rfl h rfl rfl (Nat.le_of_ble_eq_true rfl) (fun M3 h => ?_)
                    refine J_aload_0 dX3_goesBehind_154 ?_
                    refine J_dup dX3_goesBehind_155 rfl ?_
                    refine J_getI dX3_goesBehind_156 fl_X3_40 jlt_21 jsh_21 (by decide) jrf_3_9 ?_
                    refine J_iconst (1 : Int32) dX3_goesBehind_159 (by decide) ?_
                    refine J_iadd dX3_goesBehind_160 ?_
                    refine J_putI false dX3_goesBehind_161 pl_X3_40 jlt_21 jsh_21 (by decide) jrf_3_9 (fun q => absurd q (by decide)) ?_
                    refine J_aload_0 dX3_goesBehind_164 ?_
                    refine J_iconst (0 : Int32) dX3_goesBehind_165 (by decide) ?_
                    refine J_putI false dX3_goesBehind_166 pl_X3_31 jlt_21 jsh_21 (by decide) jrf_3_6 (fun q => absurd q (by decide)) ?_
                    refine J_iconst (1 : Int32) dX3_goesBehind_169 (by decide) ?_
                    exact K_zret dX3_goesBehind_170 rfl (by decide +kernel) h
                  · replace h := ite_t c13 h
                    refine J_aload_0 dX3_goesBehind_139 ?_
                    refine J_getR 22 dX3_goesBehind_140 fl_X3_9 jlt_21 jsh_21 (by decide) jrf_3_0 jmr_21_0 ?_
                    refine J_goto (t := 150) dX3_goesBehind_143 (by decide) ?_
                    refine J_iload_2 dX3_goesBehind_150 ?_
                    refine K_callVV (As := [.ref 22, .int ((jup M 25 ((M 21 15).toNatClampNeg) ((M 25 ((M 21 15).toNatClampNeg)) ||| (M 26 ((M 21 15).toNatClampNeg)))) 25 ((M 21 15).toNatClampNeg))]) (rest := []) dX3_goesBehind_151 vl_X3_130 jlt_21 jsh_21 _ rfl rfl h rfl rfl (Nat.le_of_ble_eq_true rfl) (fun M4 h => ?_)
                    refine J_aload_0 dX3_goesBehind_154 ?_
                    refine J_dup dX3_goesBehind_155 rfl ?_
                    refine J_getI dX3_goesBehind_156 fl_X3_40 jlt_21 jsh_21 (by decide) jrf_3_9 ?_
                    refine J_iconst (1 : Int32) dX3_goesBehind_159 (by decide) ?_
                    refine J_iadd dX3_goesBehind_160 ?_
                    refine J_putI false dX3_goesBehind_161 pl_X3_40 jlt_21 jsh_21 (by decide) jrf_3_9 (fun q => absurd q (by decide)) ?_
                    refine J_aload_0 dX3_goesBehind_164 ?_
                    refine J_iconst (0 : Int32) dX3_goesBehind_165 (by decide) ?_
                    refine J_putI false dX3_goesBehind_166 pl_X3_31 jlt_21 jsh_21 (by decide) jrf_3_6 (fun q => absurd q (by decide)) ?_
                    refine J_iconst (1 : Int32) dX3_goesBehind_169 (by decide) ?_
                    exact K_zret dX3_goesBehind_170 rfl (by decide +kernel) h
            · replace h := ite_f c10 h
              refine J_aload_0 dX3_goesBehind_99 ?_
              refine J_dup dX3_goesBehind_100 rfl ?_
              refine J_getI dX3_goesBehind_101 fl_X3_58 jlt_21 jsh_21 (by decide) jrf_3_15 ?_
              refine J_iconst (1 : Int32) dX3_goesBehind_104 (by decide) ?_
              refine J_isub dX3_goesBehind_105 ?_
              refine J_putI false dX3_goesBehind_106 pl_X3_58 jlt_21 jsh_21 (by decide) jrf_3_15 (fun q => absurd q (by decide)) ?_
              refine J_aload_0 dX3_goesBehind_109 ?_
              refine J_iload_2 dX3_goesBehind_110 ?_
              refine K_callVV (As := [.int ((jup M 25 ((M 21 15).toNatClampNeg) ((M 25 ((M 21 15).toNatClampNeg)) ||| (M 26 ((M 21 15).toNatClampNeg)))) 25 ((M 21 15).toNatClampNeg))]) (rest := []) dX3_goesBehind_111 vl_X3_127 jlt_21 jsh_21 _ rfl rfl h rfl rfl (Nat.le_of_ble_eq_true rfl) (fun M5 h => ?_)
              refine J_iconst (1 : Int32) dX3_goesBehind_114 (by decide) ?_
              exact K_zret dX3_goesBehind_115 rfl (by decide +kernel) h
        · replace h := ite_t c7 h
          refine J_aload_0 dX3_goesBehind_69 ?_
          refine J_iconst (3 : Int32) dX3_goesBehind_70 (by decide) ?_
          refine J_putI false dX3_goesBehind_71 pl_X3_31 jlt_21 jsh_21 (by decide) jrf_3_6 (fun q => absurd q (by decide)) ?_
          refine J_iconst (1 : Int32) dX3_goesBehind_74 (by decide) ?_
          exact K_zret dX3_goesBehind_75 rfl (by decide +kernel) h
      · replace h := ite_t c2 h
        refine J_aload_0 dX3_goesBehind_23 ?_
        refine J_iconst (3 : Int32) dX3_goesBehind_24 (by decide) ?_
        refine J_putI false dX3_goesBehind_25 pl_X3_31 jlt_21 jsh_21 (by decide) jrf_3_6 (fun q => absurd q (by decide)) ?_
        refine J_iconst (1 : Int32) dX3_goesBehind_28 (by decide) ?_
        exact K_zret dX3_goesBehind_29 rfl (by decide +kernel) h
    · replace h := ite_f c1 h
      refine J_iconst (0 : Int32) dX3_goesBehind_15 (by decide) ?_
      exact K_zret dX3_goesBehind_16 rfl (by decide +kernel) h
theorem eX3_goesBehind {G : jGT} {d : Nat} {x1 : Int32} {M : jM} {post : Int32 → jM → Prop} (h : kX3_goesBehind_0 G d  x1 M post) : CI G (d + 1) mX3_goesBehind [.ref 21, .int x1] M post := Con_of_J ok_X3_goesBehind 1 rfl rfl h
def kX3_growW_0 (G : jGT) (d : Nat)  (x2 : Int32) (M : jM) (post : jM → Prop) : Prop := J G d mX3_grow 0 [some (.ref 21), some (.ref 22), some (.int x2), none] [] jN jSH M jMR 0 0 0 0 (jQv post)
def kX3_growW_2 (G : jGT) (d : Nat)  (x2 : Int32) (x3 : Int32) (M : jM) (post : jM → Prop) : Prop := J G d mX3_grow 2 [some (.ref 21), some (.ref 22), some (.int x2), some (.int x3)] [] jN jSH M jMR 0 0 0 0 (jQv post)
theorem bX3_growW_0 {G : jGT} {d : Nat} {x2 : Int32} {M : jM} {post : jM → Prop} (h : kX3_growW_2 G d x2 (0 : Int32) M post) : kX3_growW_0 G d  x2 M post := by
  unfold kX3_growW_0
  refine J_iconst (0 : Int32) dX3_grow_0 (by decide) ?_
  refine J_istore_3 dX3_grow_1 rfl ?_
  exact h
theorem bX3_growW_2 {G : jGT} {d : Nat} {x2 : Int32} {x3 : Int32} {M : jM} {post : jM → Prop} (h : (if (8 : Int32) ≤ x3 then post M else (if (8 : Int32) ≤ x3 then post M else (vp_in x3 8 ∧ (vp_in x3 8 ∧ kX3_growW_2 G d x2 (x3 + (1 : Int32)) (jup M 22 x3.toNatClampNeg ((M 22 x3.toNatClampNeg) + (((x2 >>> (x3 &&& 31)) &&& (1 : Int32)) * (M 21 12)))) post))))) : kX3_growW_2 G d  x2 x3 M post := by
  unfold kX3_growW_2
  refine J_iload_3 dX3_grow_2 ?_
  refine J_bipush (8 : Int32) dX3_grow_3 (by decide) ?_
  refine J_icmp_ge (t := 36) dX3_grow_5 (by decide) (fun c0 => ?_) (fun c0 => ?_)
  · replace h := ite_t c0 h
    exact K_ret dX3_grow_36 rfl h
  · replace h := ite_f c0 h
    refine J_iload_3 dX3_grow_8 ?_
    refine J_aload_1 dX3_grow_9 ?_
    refine J_alen (t := 0) (8 : Int32) dX3_grow_10 jlt_22 jsh_22 (by decide) (by decide) ?_
    refine J_icmp_ge (t := 36) dX3_grow_11 (by decide) (fun c1 => ?_) (fun c1 => ?_)
    · replace h := ite_t c1 h
      exact K_ret dX3_grow_36 rfl h
    · replace h := ite_f c1 h
      refine J_aload_1 dX3_grow_14 ?_
      refine J_iload_3 dX3_grow_15 ?_
      refine J_dup2 dX3_grow_16 rfl rfl ?_
      obtain ⟨g2, h⟩ := h
      refine K_iald x3.toNatClampNeg rfl dX3_grow_17 jlt_22 jsh_22 g2 ?_
      refine J_iload_2 dX3_grow_18 ?_
      refine J_iload_3 dX3_grow_19 ?_
      refine J_ishr dX3_grow_20 ?_
      refine J_iconst (1 : Int32) dX3_grow_21 (by decide) ?_
      refine J_iand dX3_grow_22 ?_
      refine J_aload_0 dX3_grow_23 ?_
      refine J_getI dX3_grow_24 fl_X3_49 jlt_21 jsh_21 (by decide) jrf_3_12 ?_
      refine J_imul dX3_grow_27 ?_
      refine J_iadd dX3_grow_28 ?_
      obtain ⟨g3, h⟩ := h
      refine K_iast x3.toNatClampNeg rfl dX3_grow_29 jlt_22 jsh_22 g3 ?_
      refine J_iinc_3 (1 : Int32) dX3_grow_30 (by decide) rfl ?_
      refine J_goto (t := 2) dX3_grow_33 (by decide) ?_
      exact h
theorem eX3_growW {G : jGT} {d : Nat} {x2 : Int32} {M : jM} {post : jM → Prop} (h : kX3_growW_0 G d  x2 M post) : CV G d mX3_grow [.ref 21, .ref 22, .int x2] M post := Con_of_J ok_X3_grow 1 rfl rfl h
def kX3_growC_0 (G : jGT) (d : Nat)  (x2 : Int32) (M : jM) (post : jM → Prop) : Prop := J G d mX3_grow 0 [some (.ref 21), some (.ref 23), some (.int x2), none] [] jN jSH M jMR 0 0 0 0 (jQv post)
def kX3_growC_2 (G : jGT) (d : Nat)  (x2 : Int32) (x3 : Int32) (M : jM) (post : jM → Prop) : Prop := J G d mX3_grow 2 [some (.ref 21), some (.ref 23), some (.int x2), some (.int x3)] [] jN jSH M jMR 0 0 0 0 (jQv post)
theorem bX3_growC_0 {G : jGT} {d : Nat} {x2 : Int32} {M : jM} {post : jM → Prop} (h : kX3_growC_2 G d x2 (0 : Int32) M post) : kX3_growC_0 G d  x2 M post := by
  unfold kX3_growC_0
  refine J_iconst (0 : Int32) dX3_grow_0 (by decide) ?_
  refine J_istore_3 dX3_grow_1 rfl ?_
  exact h
theorem bX3_growC_2 {G : jGT} {d : Nat} {x2 : Int32} {x3 : Int32} {M : jM} {post : jM → Prop} (h : (if (8 : Int32) ≤ x3 then post M else (if (8 : Int32) ≤ x3 then post M else (vp_in x3 8 ∧ (vp_in x3 8 ∧ kX3_growC_2 G d x2 (x3 + (1 : Int32)) (jup M 23 x3.toNatClampNeg ((M 23 x3.toNatClampNeg) + (((x2 >>> (x3 &&& 31)) &&& (1 : Int32)) * (M 21 12)))) post))))) : kX3_growC_2 G d  x2 x3 M post := by
  unfold kX3_growC_2
  refine J_iload_3 dX3_grow_2 ?_
  refine J_bipush (8 : Int32) dX3_grow_3 (by decide) ?_
  refine J_icmp_ge (t := 36) dX3_grow_5 (by decide) (fun c0 => ?_) (fun c0 => ?_)
  · replace h := ite_t c0 h
    exact K_ret dX3_grow_36 rfl h
  · replace h := ite_f c0 h
    refine J_iload_3 dX3_grow_8 ?_
    refine J_aload_1 dX3_grow_9 ?_
    refine J_alen (t := 0) (8 : Int32) dX3_grow_10 jlt_23 jsh_23 (by decide) (by decide) ?_
    refine J_icmp_ge (t := 36) dX3_grow_11 (by decide) (fun c1 => ?_) (fun c1 => ?_)
    · replace h := ite_t c1 h
      exact K_ret dX3_grow_36 rfl h
    · replace h := ite_f c1 h
      refine J_aload_1 dX3_grow_14 ?_
      refine J_iload_3 dX3_grow_15 ?_
      refine J_dup2 dX3_grow_16 rfl rfl ?_
      obtain ⟨g2, h⟩ := h
      refine K_iald x3.toNatClampNeg rfl dX3_grow_17 jlt_23 jsh_23 g2 ?_
      refine J_iload_2 dX3_grow_18 ?_
      refine J_iload_3 dX3_grow_19 ?_
      refine J_ishr dX3_grow_20 ?_
      refine J_iconst (1 : Int32) dX3_grow_21 (by decide) ?_
      refine J_iand dX3_grow_22 ?_
      refine J_aload_0 dX3_grow_23 ?_
      refine J_getI dX3_grow_24 fl_X3_49 jlt_21 jsh_21 (by decide) jrf_3_12 ?_
      refine J_imul dX3_grow_27 ?_
      refine J_iadd dX3_grow_28 ?_
      obtain ⟨g3, h⟩ := h
      refine K_iast x3.toNatClampNeg rfl dX3_grow_29 jlt_23 jsh_23 g3 ?_
      refine J_iinc_3 (1 : Int32) dX3_grow_30 (by decide) rfl ?_
      refine J_goto (t := 2) dX3_grow_33 (by decide) ?_
      exact h
theorem eX3_growC {G : jGT} {d : Nat} {x2 : Int32} {M : jM} {post : jM → Prop} (h : kX3_growC_0 G d  x2 M post) : CV G d mX3_grow [.ref 21, .ref 23, .int x2] M post := Con_of_J ok_X3_grow 1 rfl rfl h
