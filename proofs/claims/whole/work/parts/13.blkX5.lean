def kX5_open_0 (G : jGT) (d : Nat)  (x3 : Int32) (M : jM) (post : jM → Prop) : Prop := J G (d + 1) mX5_open 0 [some (.ref 27), some (.ref 1), some (.ref 21), some (.int x3), none, none] [] jN jSH M jMR 0 0 0 0 (jQv post)
def kX5_open_21 (G : jGT) (d : Nat)  (x3 : Int32) (x4 : Int32) (M : jM) (post : jM → Prop) : Prop := J G (d + 1) mX5_open 21 [some (.ref 27), some (.ref 1), some (.ref 21), some (.int x3), some (.int x4), none] [] jN jSH M jMR 0 0 0 0 (jQv post)
def kX5_open_109 (G : jGT) (d : Nat)  (x3 : Int32) (x4 : Int32) (M : jM) (post : jM → Prop) : Prop := J G (d + 1) mX5_open 109 [some (.ref 27), some (.ref 1), some (.ref 21), some (.int x3), some (.int x4), none] [] jN jSH M jMR 0 0 0 0 (jQv post)
theorem bX5_open_0 {G : jGT} {d : Nat} {x3 : Int32} {M : jM} {post : jM → Prop} (h : CI G d mX2_kindOf [.ref 1, .int x3] M (fun r1 M1 => CI G d mX2_numberOf [.ref 1, .int x3] (jup M1 27 0 r1) (fun r2 M2 => kX5_open_21 G d x3 (0 : Int32) (jup M2 27 1 r2) post))) : kX5_open_0 G d  x3 M post := by
  unfold kX5_open_0
  refine J_aload_0 dX5_open_0 ?_
  refine J_aload_1 dX5_open_1 ?_
  refine J_iload_3 dX5_open_2 ?_
  refine K_callVI (As := [.int x3]) (rest := [.ref 27]) dX5_open_3 vl_X5_51 jlt_1 jsh_1 _ rfl rfl h rfl rfl (Nat.le_of_ble_eq_true rfl) (fun r1 M1 h => ?_)
  refine J_putI false dX5_open_6 pl_X5_9 jlt_27 jsh_27 (by decide) jrf_5_0 (fun q => absurd q (by decide)) ?_
  refine J_aload_0 dX5_open_9 ?_
  refine J_aload_1 dX5_open_10 ?_
  refine J_iload_3 dX5_open_11 ?_
  refine K_callVI (As := [.int x3]) (rest := [.ref 27]) dX5_open_12 vl_X5_57 jlt_1 jsh_1 _ rfl rfl h rfl rfl (Nat.le_of_ble_eq_true rfl) (fun r2 M2 h => ?_)
  refine J_putI false dX5_open_15 pl_X5_15 jlt_27 jsh_27 (by decide) jrf_5_1 (fun q => absurd q (by decide)) ?_
  refine J_iconst (0 : Int32) dX5_open_18 (by decide) ?_
  refine J_istore_4 dX5_open_19 rfl ?_
  exact h
theorem bX5_open_21 {G : jGT} {d : Nat} {x3 : Int32} {x4 : Int32} {M : jM} {post : jM → Prop} (h : (if (4 : Int32) ≤ x4 then CV G d mX5_addUp [.ref 22, .ref 29] M (fun M1 => CV G d mX5_addUp [.ref 23, .ref 30] M1 (fun M2 => CV G d mX5_setBar [.ref 27, .int (M2 21 2)] M2 (fun M3 => kX5_open_109 G d x3 (0 : Int32) (jup M3 27 6 (0 : Int32)) post))) else (if ((x3 * (4 : Int32)) + x4) < 0 then (vp_in x4 4 ∧ kX5_open_21 G d x3 (x4 + (1 : Int32)) (jup M 28 x4.toNatClampNeg (0 : Int32)) post) else (if (16 : Int32) ≤ ((x3 * (4 : Int32)) + x4) then (vp_in x4 4 ∧ kX5_open_21 G d x3 (x4 + (1 : Int32)) (jup M 28 x4.toNatClampNeg (0 : Int32)) post) else (vp_in ((x3 * (4 : Int32)) + x4) 16 ∧ (vp_in x4 4 ∧ kX5_open_21 G d x3 (x4 + (1 : Int32)) (jup M 28 x4.toNatClampNeg (M 6 (((x3 * (4 : Int32)) + x4).toNatClampNeg))) post)))))) : kX5_open_21 G d  x3 x4 M post := by
  unfold kX5_open_21
  refine J_iload_4 dX5_open_21 ?_
  refine J_iconst (4 : Int32) dX5_open_23 (by decide) ?_
  refine J_icmp_ge (t := 71) dX5_open_24 (by decide) (fun c0 => ?_) (fun c0 => ?_)
  · replace h := ite_t c0 h
    refine J_aload_2 dX5_open_71 ?_
    refine J_getR 22 dX5_open_72 fl_X5_63 jlt_21 jsh_21 (by decide) jrf_3_0 jmr_21_0 ?_
    refine J_aload_0 dX5_open_75 ?_
    refine J_getR 29 dX5_open_76 fl_X5_25 jlt_27 jsh_27 (by decide) jrf_5_4 jmr_27_4 ?_
    refine K_callSV (rest := []) dX5_open_79 sl_X5_68 h rfl rfl (Nat.le_of_ble_eq_true rfl) (fun M1 h => ?_)
    refine J_aload_2 dX5_open_82 ?_
    refine J_getR 23 dX5_open_83 fl_X5_72 jlt_21 jsh_21 (by decide) jrf_3_1 jmr_21_1 ?_
    refine J_aload_0 dX5_open_86 ?_
    refine J_getR 30 dX5_open_87 fl_X5_28 jlt_27 jsh_27 (by decide) jrf_5_5 jmr_27_5 ?_
    refine K_callSV (rest := []) dX5_open_90 sl_X5_68 h rfl rfl (Nat.le_of_ble_eq_true rfl) (fun M2 h => ?_)
    refine J_aload_0 dX5_open_93 ?_
    refine J_aload_2 dX5_open_94 ?_
    refine J_getI dX5_open_95 fl_X5_75 jlt_21 jsh_21 (by decide) jrf_3_2 ?_
    refine K_callVV (As := [.int (M2 21 2)]) (rest := []) dX5_open_98 vl_X5_76 jlt_27 jsh_27 _ rfl rfl h rfl rfl (Nat.le_of_ble_eq_true rfl) (fun M3 h => ?_)
    refine J_aload_0 dX5_open_101 ?_
    refine J_iconst (0 : Int32) dX5_open_102 (by decide) ?_
    refine J_putI false dX5_open_103 pl_X5_31 jlt_27 jsh_27 (by decide) jrf_5_6 (fun q => absurd q (by decide)) ?_
    refine J_iconst (0 : Int32) dX5_open_106 (by decide) ?_
    refine J_istore_4 dX5_open_107 rfl ?_
    exact h
  · replace h := ite_f c0 h
    refine J_iload_3 dX5_open_27 ?_
    refine J_iconst (4 : Int32) dX5_open_28 (by decide) ?_
    refine J_imul dX5_open_29 ?_
    refine J_iload_4 dX5_open_30 ?_
    refine J_iadd dX5_open_32 ?_
    refine J_istore_5 dX5_open_33 rfl ?_
    refine J_aload_0 dX5_open_35 ?_
    refine J_getR 28 dX5_open_36 fl_X5_21 jlt_27 jsh_27 (by decide) jrf_5_3 jmr_27_3 ?_
    refine J_iload_4 dX5_open_39 ?_
    refine J_iload_5 dX5_open_41 ?_
    refine J_if_lt (t := 63) dX5_open_43 (by decide) (fun c1 => ?_) (fun c1 => ?_)
    · replace h := ite_t c1 h
      refine J_iconst (0 : Int32) dX5_open_63 (by decide) ?_
      obtain ⟨g2, h⟩ := h
      refine K_iast x4.toNatClampNeg rfl dX5_open_64 jlt_28 jsh_28 g2 ?_
      refine J_iinc_4 (1 : Int32) dX5_open_65 (by decide) rfl ?_
      refine J_goto (t := 21) dX5_open_68 (by decide) ?_
      exact J_weak (lv' := [some (.ref 27), some (.ref 1), some (.ref 21), some (.int x3), some (.int (x4 + (1 : Int32))), none]) (And.intro rfl (And.intro rfl (And.intro rfl (And.intro rfl (And.intro rfl trivial))))) h
    · replace h := ite_f c1 h
      refine J_iload_5 dX5_open_46 ?_
      refine J_bipush (16 : Int32) dX5_open_48 (by decide) ?_
      refine J_icmp_ge (t := 63) dX5_open_50 (by decide) (fun c2 => ?_) (fun c2 => ?_)
      · replace h := ite_t c2 h
        refine J_iconst (0 : Int32) dX5_open_63 (by decide) ?_
        obtain ⟨g3, h⟩ := h
        refine K_iast x4.toNatClampNeg rfl dX5_open_64 jlt_28 jsh_28 g3 ?_
        refine J_iinc_4 (1 : Int32) dX5_open_65 (by decide) rfl ?_
        refine J_goto (t := 21) dX5_open_68 (by decide) ?_
        exact J_weak (lv' := [some (.ref 27), some (.ref 1), some (.ref 21), some (.int x3), some (.int (x4 + (1 : Int32))), none]) (And.intro rfl (And.intro rfl (And.intro rfl (And.intro rfl (And.intro rfl trivial))))) h
      · replace h := ite_f c2 h
        refine J_aload_1 dX5_open_53 ?_
        refine J_getR 6 dX5_open_54 fl_X5_60 jlt_1 jsh_1 (by decide) jrf_2_7 jmr_1_7 ?_
        refine J_iload_5 dX5_open_57 ?_
        obtain ⟨g3, h⟩ := h
        refine K_iald (((x3 * (4 : Int32)) + x4).toNatClampNeg) rfl dX5_open_59 jlt_6 jsh_6 g3 ?_
        refine J_goto (t := 64) dX5_open_60 (by decide) ?_
        obtain ⟨g4, h⟩ := h
        refine K_iast x4.toNatClampNeg rfl dX5_open_64 jlt_28 jsh_28 g4 ?_
        refine J_iinc_4 (1 : Int32) dX5_open_65 (by decide) rfl ?_
        refine J_goto (t := 21) dX5_open_68 (by decide) ?_
        exact J_weak (lv' := [some (.ref 27), some (.ref 1), some (.ref 21), some (.int x3), some (.int (x4 + (1 : Int32))), none]) (And.intro rfl (And.intro rfl (And.intro rfl (And.intro rfl (And.intro rfl trivial))))) h
theorem bX5_open_109 {G : jGT} {d : Nat} {x3 : Int32} {x4 : Int32} {M : jM} {post : jM → Prop} (h : (if (M 1 8) ≤ x4 then post M else (if (24 : Int32) ≤ x4 then post M else (vp_in x4 24 ∧ CI G d mX2_pointsOf [.ref 1, .int ((M 7 x4.toNatClampNeg) >>> ((1 : Int32) &&& 31))] M (fun r1 M1 => (vp_in x4 24 ∧ (if ((M1 7 x4.toNatClampNeg) &&& (1 : Int32)) = (1 : Int32) then CV G d mX5_push [.ref 27, .int r1, .int (1 : Int32)] M1 (fun M3 => kX5_open_109 G d x3 (x4 + (1 : Int32)) M3 post) else CV G d mX5_push [.ref 27, .int r1, .int (0 : Int32)] M1 (fun M2 => kX5_open_109 G d x3 (x4 + (1 : Int32)) M2 post)))))))) : kX5_open_109 G d  x3 x4 M post := by
  unfold kX5_open_109
  refine J_iload_4 dX5_open_109 ?_
  refine J_aload_1 dX5_open_111 ?_
  refine J_getI dX5_open_112 fl_X5_80 jlt_1 jsh_1 (by decide) jrf_2_8 ?_
  refine J_icmp_ge (t := 166) dX5_open_115 (by decide) (fun c0 => ?_) (fun c0 => ?_)
  · replace h := ite_t c0 h
    exact K_ret dX5_open_166 rfl h
  · replace h := ite_f c0 h
    refine J_iload_4 dX5_open_118 ?_
    refine J_bipush (24 : Int32) dX5_open_120 (by decide) ?_
    refine J_icmp_ge (t := 166) dX5_open_122 (by decide) (fun c1 => ?_) (fun c1 => ?_)
    · replace h := ite_t c1 h
      exact K_ret dX5_open_166 rfl h
    · replace h := ite_f c1 h
      refine J_aload_0 dX5_open_125 ?_
      refine J_aload_1 dX5_open_126 ?_
      refine J_aload_1 dX5_open_127 ?_
      refine J_getR 7 dX5_open_128 fl_X5_83 jlt_1 jsh_1 (by decide) jrf_2_9 jmr_1_9 ?_
      refine J_iload_4 dX5_open_131 ?_
      obtain ⟨g2, h⟩ := h
      refine K_iald x4.toNatClampNeg rfl dX5_open_133 jlt_7 jsh_7 g2 ?_
      refine J_iconst (1 : Int32) dX5_open_134 (by decide) ?_
      refine J_ishr dX5_open_135 ?_
      refine K_callVI (As := [.int ((M 7 x4.toNatClampNeg) >>> ((1 : Int32) &&& 31))]) (rest := [.ref 27]) dX5_open_136 vl_X5_86 jlt_1 jsh_1 _ rfl rfl h rfl rfl (Nat.le_of_ble_eq_true rfl) (fun r1 M1 h => ?_)
      refine J_aload_1 dX5_open_139 ?_
      refine J_getR 7 dX5_open_140 fl_X5_83 jlt_1 jsh_1 (by decide) jrf_2_9 jmr_1_9 ?_
      refine J_iload_4 dX5_open_143 ?_
      obtain ⟨g3, h⟩ := h
      refine K_iald x4.toNatClampNeg rfl dX5_open_145 jlt_7 jsh_7 g3 ?_
      refine J_iconst (1 : Int32) dX5_open_146 (by decide) ?_
      refine J_iand dX5_open_147 ?_
      refine J_iconst (1 : Int32) dX5_open_148 (by decide) ?_
      refine J_icmp_ne (t := 156) dX5_open_149 (by decide) (fun c4 => ?_) (fun c4 => ?_)
      · replace h := ite_f c4 h
        refine J_iconst (0 : Int32) dX5_open_156 (by decide) ?_
        refine K_callVV (As := [.int r1, .int (0 : Int32)]) (rest := []) dX5_open_157 vl_X5_89 jlt_27 jsh_27 _ rfl rfl h rfl rfl (Nat.le_of_ble_eq_true rfl) (fun M2 h => ?_)
        refine J_iinc_4 (1 : Int32) dX5_open_160 (by decide) rfl ?_
        refine J_goto (t := 109) dX5_open_163 (by decide) ?_
        exact h
      · replace h := ite_t c4 h
        refine J_iconst (1 : Int32) dX5_open_152 (by decide) ?_
        refine J_goto (t := 157) dX5_open_153 (by decide) ?_
        refine K_callVV (As := [.int r1, .int (1 : Int32)]) (rest := []) dX5_open_157 vl_X5_89 jlt_27 jsh_27 _ rfl rfl h rfl rfl (Nat.le_of_ble_eq_true rfl) (fun M3 h => ?_)
        refine J_iinc_4 (1 : Int32) dX5_open_160 (by decide) rfl ?_
        refine J_goto (t := 109) dX5_open_163 (by decide) ?_
        exact h
theorem eX5_open {G : jGT} {d : Nat} {x3 : Int32} {M : jM} {post : jM → Prop} (h : kX5_open_0 G d  x3 M post) : CV G (d + 1) mX5_open [.ref 27, .ref 1, .ref 21, .int x3] M post := Con_of_J ok_X5_open 2 rfl rfl h
def kX5_addUpW_0 (G : jGT) (d : Nat)   (M : jM) (post : jM → Prop) : Prop := J G d mX5_addUp 0 [some (.ref 22), some (.ref 29), none, none, none] [] jN jSH M jMR 0 0 0 0 (jQv post)
def kX5_addUpW_6 (G : jGT) (d : Nat)  (x2 : Int32) (M : jM) (post : jM → Prop) : Prop := J G d mX5_addUp 6 [some (.ref 22), some (.ref 29), some (.int x2), none, none] [] jN jSH M jMR 0 0 0 0 (jQv post)
def kX5_addUpW_19 (G : jGT) (d : Nat)  (x2 : Int32) (x3 : Int32) (x4 : Int32) (M : jM) (post : jM → Prop) : Prop := J G d mX5_addUp 19 [some (.ref 22), some (.ref 29), some (.int x2), some (.int x3), some (.int x4)] [] jN jSH M jMR 0 0 0 0 (jQv post)
theorem bX5_addUpW_0 {G : jGT} {d : Nat}  {M : jM} {post : jM → Prop} (h : kX5_addUpW_6 G d (0 : Int32) (jup M 29 0 (0 : Int32)) post) : kX5_addUpW_0 G d   M post := by
  unfold kX5_addUpW_0
  refine J_aload_1 dX5_addUp_0 ?_
  refine J_iconst (0 : Int32) dX5_addUp_1 (by decide) ?_
  refine J_iconst (0 : Int32) dX5_addUp_2 (by decide) ?_
  refine K_iast 0 rfl dX5_addUp_3 jlt_29 jsh_29 (vp_lit (by decide)) ?_
  refine J_iconst (0 : Int32) dX5_addUp_4 (by decide) ?_
  refine J_istore_2 dX5_addUp_5 rfl ?_
  exact h
theorem bX5_addUpW_6 {G : jGT} {d : Nat} {x2 : Int32} {M : jM} {post : jM → Prop} (h : (if (8 : Int32) ≤ x2 then post M else kX5_addUpW_19 G d x2 ((1 : Int32) <<< (x2 &&& 31)) (0 : Int32) M post)) : kX5_addUpW_6 G d  x2 M post := by
  unfold kX5_addUpW_6
  refine J_iload_2 dX5_addUp_6 ?_
  refine J_bipush (8 : Int32) dX5_addUp_7 (by decide) ?_
  refine J_icmp_ge (t := 51) dX5_addUp_9 (by decide) (fun c0 => ?_) (fun c0 => ?_)
  · replace h := ite_t c0 h
    exact K_ret dX5_addUp_51 rfl h
  · replace h := ite_f c0 h
    refine J_iconst (1 : Int32) dX5_addUp_12 (by decide) ?_
    refine J_iload_2 dX5_addUp_13 ?_
    refine J_ishl dX5_addUp_14 ?_
    refine J_istore_3 dX5_addUp_15 rfl ?_
    refine J_iconst (0 : Int32) dX5_addUp_16 (by decide) ?_
    refine J_istore_4 dX5_addUp_17 rfl ?_
    exact h
theorem bX5_addUpW_19 {G : jGT} {d : Nat} {x2 : Int32} {x3 : Int32} {x4 : Int32} {M : jM} {post : jM → Prop} (h : (if x3 ≤ x4 then kX5_addUpW_6 G d (x2 + (1 : Int32)) M post else (vp_in x4 256 ∧ (vp_in x2 8 ∧ (vp_in (x3 + x4) 256 ∧ kX5_addUpW_19 G d x2 x3 (x4 + (1 : Int32)) (jup M 29 ((x3 + x4).toNatClampNeg) ((M 29 x4.toNatClampNeg) + (M 22 x2.toNatClampNeg))) post))))) : kX5_addUpW_19 G d  x2 x3 x4 M post := by
  unfold kX5_addUpW_19
  refine J_iload_4 dX5_addUp_19 ?_
  refine J_iload_3 dX5_addUp_21 ?_
  refine J_icmp_ge (t := 45) dX5_addUp_22 (by decide) (fun c0 => ?_) (fun c0 => ?_)
  · replace h := ite_t c0 h
    refine J_iinc_2 (1 : Int32) dX5_addUp_45 (by decide) rfl ?_
    refine J_goto (t := 6) dX5_addUp_48 (by decide) ?_
    exact J_weak (lv' := [some (.ref 22), some (.ref 29), some (.int (x2 + (1 : Int32))), none, none]) (And.intro rfl (And.intro rfl (And.intro rfl trivial))) h
  · replace h := ite_f c0 h
    refine J_aload_1 dX5_addUp_25 ?_
    refine J_iload_3 dX5_addUp_26 ?_
    refine J_iload_4 dX5_addUp_27 ?_
    refine J_iadd dX5_addUp_29 ?_
    refine J_aload_1 dX5_addUp_30 ?_
    refine J_iload_4 dX5_addUp_31 ?_
    obtain ⟨g1, h⟩ := h
    refine K_iald x4.toNatClampNeg rfl dX5_addUp_33 jlt_29 jsh_29 g1 ?_
    refine J_aload_0 dX5_addUp_34 ?_
    refine J_iload_2 dX5_addUp_35 ?_
    obtain ⟨g2, h⟩ := h
    refine K_iald x2.toNatClampNeg rfl dX5_addUp_36 jlt_22 jsh_22 g2 ?_
    refine J_iadd dX5_addUp_37 ?_
    obtain ⟨g3, h⟩ := h
    refine K_iast ((x3 + x4).toNatClampNeg) rfl dX5_addUp_38 jlt_29 jsh_29 g3 ?_
    refine J_iinc_4 (1 : Int32) dX5_addUp_39 (by decide) rfl ?_
    refine J_goto (t := 19) dX5_addUp_42 (by decide) ?_
    exact h
theorem eX5_addUpW {G : jGT} {d : Nat}  {M : jM} {post : jM → Prop} (h : kX5_addUpW_0 G d   M post) : CV G d mX5_addUp [.ref 22, .ref 29] M post := Con_of_J ok_X5_addUp 3 rfl rfl h
def kX5_addUpC_0 (G : jGT) (d : Nat)   (M : jM) (post : jM → Prop) : Prop := J G d mX5_addUp 0 [some (.ref 23), some (.ref 30), none, none, none] [] jN jSH M jMR 0 0 0 0 (jQv post)
def kX5_addUpC_6 (G : jGT) (d : Nat)  (x2 : Int32) (M : jM) (post : jM → Prop) : Prop := J G d mX5_addUp 6 [some (.ref 23), some (.ref 30), some (.int x2), none, none] [] jN jSH M jMR 0 0 0 0 (jQv post)
def kX5_addUpC_19 (G : jGT) (d : Nat)  (x2 : Int32) (x3 : Int32) (x4 : Int32) (M : jM) (post : jM → Prop) : Prop := J G d mX5_addUp 19 [some (.ref 23), some (.ref 30), some (.int x2), some (.int x3), some (.int x4)] [] jN jSH M jMR 0 0 0 0 (jQv post)
theorem bX5_addUpC_0 {G : jGT} {d : Nat}  {M : jM} {post : jM → Prop} (h : kX5_addUpC_6 G d (0 : Int32) (jup M 30 0 (0 : Int32)) post) : kX5_addUpC_0 G d   M post := by
  unfold kX5_addUpC_0
  refine J_aload_1 dX5_addUp_0 ?_
  refine J_iconst (0 : Int32) dX5_addUp_1 (by decide) ?_
  refine J_iconst (0 : Int32) dX5_addUp_2 (by decide) ?_
  refine K_iast 0 rfl dX5_addUp_3 jlt_30 jsh_30 (vp_lit (by decide)) ?_
  refine J_iconst (0 : Int32) dX5_addUp_4 (by decide) ?_
  refine J_istore_2 dX5_addUp_5 rfl ?_
  exact h
theorem bX5_addUpC_6 {G : jGT} {d : Nat} {x2 : Int32} {M : jM} {post : jM → Prop} (h : (if (8 : Int32) ≤ x2 then post M else kX5_addUpC_19 G d x2 ((1 : Int32) <<< (x2 &&& 31)) (0 : Int32) M post)) : kX5_addUpC_6 G d  x2 M post := by
  unfold kX5_addUpC_6
  refine J_iload_2 dX5_addUp_6 ?_
  refine J_bipush (8 : Int32) dX5_addUp_7 (by decide) ?_
  refine J_icmp_ge (t := 51) dX5_addUp_9 (by decide) (fun c0 => ?_) (fun c0 => ?_)
  · replace h := ite_t c0 h
    exact K_ret dX5_addUp_51 rfl h
  · replace h := ite_f c0 h
    refine J_iconst (1 : Int32) dX5_addUp_12 (by decide) ?_
    refine J_iload_2 dX5_addUp_13 ?_
    refine J_ishl dX5_addUp_14 ?_
    refine J_istore_3 dX5_addUp_15 rfl ?_
    refine J_iconst (0 : Int32) dX5_addUp_16 (by decide) ?_
    refine J_istore_4 dX5_addUp_17 rfl ?_
    exact h
theorem bX5_addUpC_19 {G : jGT} {d : Nat} {x2 : Int32} {x3 : Int32} {x4 : Int32} {M : jM} {post : jM → Prop} (h : (if x3 ≤ x4 then kX5_addUpC_6 G d (x2 + (1 : Int32)) M post else (vp_in x4 256 ∧ (vp_in x2 8 ∧ (vp_in (x3 + x4) 256 ∧ kX5_addUpC_19 G d x2 x3 (x4 + (1 : Int32)) (jup M 30 ((x3 + x4).toNatClampNeg) ((M 30 x4.toNatClampNeg) + (M 23 x2.toNatClampNeg))) post))))) : kX5_addUpC_19 G d  x2 x3 x4 M post := by
  unfold kX5_addUpC_19
  refine J_iload_4 dX5_addUp_19 ?_
  refine J_iload_3 dX5_addUp_21 ?_
  refine J_icmp_ge (t := 45) dX5_addUp_22 (by decide) (fun c0 => ?_) (fun c0 => ?_)
  · replace h := ite_t c0 h
    refine J_iinc_2 (1 : Int32) dX5_addUp_45 (by decide) rfl ?_
    refine J_goto (t := 6) dX5_addUp_48 (by decide) ?_
    exact J_weak (lv' := [some (.ref 23), some (.ref 30), some (.int (x2 + (1 : Int32))), none, none]) (And.intro rfl (And.intro rfl (And.intro rfl trivial))) h
  · replace h := ite_f c0 h
    refine J_aload_1 dX5_addUp_25 ?_
    refine J_iload_3 dX5_addUp_26 ?_
    refine J_iload_4 dX5_addUp_27 ?_
    refine J_iadd dX5_addUp_29 ?_
    refine J_aload_1 dX5_addUp_30 ?_
    refine J_iload_4 dX5_addUp_31 ?_
    obtain ⟨g1, h⟩ := h
    refine K_iald x4.toNatClampNeg rfl dX5_addUp_33 jlt_30 jsh_30 g1 ?_
    refine J_aload_0 dX5_addUp_34 ?_
    refine J_iload_2 dX5_addUp_35 ?_
    obtain ⟨g2, h⟩ := h
    refine K_iald x2.toNatClampNeg rfl dX5_addUp_36 jlt_23 jsh_23 g2 ?_
    refine J_iadd dX5_addUp_37 ?_
    obtain ⟨g3, h⟩ := h
    refine K_iast ((x3 + x4).toNatClampNeg) rfl dX5_addUp_38 jlt_30 jsh_30 g3 ?_
    refine J_iinc_4 (1 : Int32) dX5_addUp_39 (by decide) rfl ?_
    refine J_goto (t := 19) dX5_addUp_42 (by decide) ?_
    exact h
theorem eX5_addUpC {G : jGT} {d : Nat}  {M : jM} {post : jM → Prop} (h : kX5_addUpC_0 G d   M post) : CV G d mX5_addUp [.ref 23, .ref 30] M post := Con_of_J ok_X5_addUp 3 rfl rfl h
def kX5_setBar_0 (G : jGT) (d : Nat)  (x1 : Int32) (M : jM) (post : jM → Prop) : Prop := J G d mX5_setBar 0 [some (.ref 27), some (.int x1)] [] jN jSH M jMR 0 0 0 0 (jQv post)
theorem bX5_setBar_0 {G : jGT} {d : Nat} {x1 : Int32} {M : jM} {post : jM → Prop} (h : (if (M 27 0) = (5 : Int32) then post (jup M 27 2 (x1 + (M 27 1))) else post (jup M 27 2 x1))) : kX5_setBar_0 G d  x1 M post := by
  unfold kX5_setBar_0
  refine J_aload_0 dX5_setBar_0 ?_
  refine J_aload_0 dX5_setBar_1 ?_
  refine J_getI dX5_setBar_2 fl_X5_9 jlt_27 jsh_27 (by decide) jrf_5_0 ?_
  refine J_iconst (5 : Int32) dX5_setBar_5 (by decide) ?_
  refine J_icmp_ne (t := 18) dX5_setBar_6 (by decide) (fun c0 => ?_) (fun c0 => ?_)
  · replace h := ite_f c0 h
    refine J_iload_1 dX5_setBar_18 ?_
    refine J_putI false dX5_setBar_19 pl_X5_18 jlt_27 jsh_27 (by decide) jrf_5_2 (fun q => absurd q (by decide)) ?_
    exact K_ret dX5_setBar_22 rfl h
  · replace h := ite_t c0 h
    refine J_iload_1 dX5_setBar_9 ?_
    refine J_aload_0 dX5_setBar_10 ?_
    refine J_getI dX5_setBar_11 fl_X5_15 jlt_27 jsh_27 (by decide) jrf_5_1 ?_
    refine J_iadd dX5_setBar_14 ?_
    refine J_goto (t := 19) dX5_setBar_15 (by decide) ?_
    refine J_putI false dX5_setBar_19 pl_X5_18 jlt_27 jsh_27 (by decide) jrf_5_2 (fun q => absurd q (by decide)) ?_
    exact K_ret dX5_setBar_22 rfl h
theorem eX5_setBar {G : jGT} {d : Nat} {x1 : Int32} {M : jM} {post : jM → Prop} (h : kX5_setBar_0 G d  x1 M post) : CV G d mX5_setBar [.ref 27, .int x1] M post := Con_of_J ok_X5_setBar 0 rfl rfl h
def kX5_alike_0 (G : jGT) (d : Nat)  (x1 : Int32) (x2 : Int32) (M : jM) (post : Int32 → jM → Prop) : Prop := J G d mX5_alike 0 [some (.ref 27), some (.int x1), some (.int x2)] [] jN jSH M jMR 0 0 0 0 (jQi post)
theorem bX5_alike_0 {G : jGT} {d : Nat} {x1 : Int32} {x2 : Int32} {M : jM} {post : Int32 → jM → Prop} (h : (vp_in ((x1 &&& x2) &&& (255 : Int32)) 256 ∧ (vp_in ((x1 ^^^ x2) &&& (255 : Int32)) 256 ∧ post ((M 29 (((x1 &&& x2) &&& (255 : Int32)).toNatClampNeg)) - (M 30 (((x1 ^^^ x2) &&& (255 : Int32)).toNatClampNeg))) M))) : kX5_alike_0 G d  x1 x2 M post := by
  unfold kX5_alike_0
  refine J_aload_0 dX5_alike_0 ?_
  refine J_getR 29 dX5_alike_1 fl_X5_25 jlt_27 jsh_27 (by decide) jrf_5_4 jmr_27_4 ?_
  refine J_iload_1 dX5_alike_4 ?_
  refine J_iload_2 dX5_alike_5 ?_
  refine J_iand dX5_alike_6 ?_
  refine J_sipush (255 : Int32) dX5_alike_7 (by decide) ?_
  refine J_iand dX5_alike_10 ?_
  obtain ⟨g0, h⟩ := h
  refine K_iald (((x1 &&& x2) &&& (255 : Int32)).toNatClampNeg) rfl dX5_alike_11 jlt_29 jsh_29 g0 ?_
  refine J_aload_0 dX5_alike_12 ?_
  refine J_getR 30 dX5_alike_13 fl_X5_28 jlt_27 jsh_27 (by decide) jrf_5_5 jmr_27_5 ?_
  refine J_iload_1 dX5_alike_16 ?_
  refine J_iload_2 dX5_alike_17 ?_
  refine J_ixor dX5_alike_18 ?_
  refine J_sipush (255 : Int32) dX5_alike_19 (by decide) ?_
  refine J_iand dX5_alike_22 ?_
  obtain ⟨g1, h⟩ := h
  refine K_iald (((x1 ^^^ x2) &&& (255 : Int32)).toNatClampNeg) rfl dX5_alike_23 jlt_30 jsh_30 g1 ?_
  refine J_isub dX5_alike_24 ?_
  exact K_iret dX5_alike_25 rfl h
theorem eX5_alike {G : jGT} {d : Nat} {x1 : Int32} {x2 : Int32} {M : jM} {post : Int32 → jM → Prop} (h : kX5_alike_0 G d  x1 x2 M post) : CI G d mX5_alike [.ref 27, .int x1, .int x2] M post := Con_of_J ok_X5_alike 0 rfl rfl h
def kX5_push_0 (G : jGT) (d : Nat)  (x1 : Int32) (x2 : Int32) (M : jM) (post : jM → Prop) : Prop := J G d mX5_push 0 [some (.ref 27), some (.int x1), some (.int x2)] [] jN jSH M jMR 0 0 0 0 (jQv post)
theorem bX5_push_0 {G : jGT} {d : Nat} {x1 : Int32} {x2 : Int32} {M : jM} {post : jM → Prop} (h : (if (M 27 6) < 0 then post M else (if (85 : Int32) ≤ (M 27 6) then post M else (vp_in (M 27 6) 85 ∧ (vp_in (M 27 6) 85 ∧ post (jup (jup (jup M 31 ((M 27 6).toNatClampNeg) x1) 32 ((M 27 6).toNatClampNeg) (vp_nar .boolean x2)) 27 6 ((M 27 6) + (1 : Int32)))))))) : kX5_push_0 G d  x1 x2 M post := by
  unfold kX5_push_0
  refine J_aload_0 dX5_push_0 ?_
  refine J_getI dX5_push_1 fl_X5_31 jlt_27 jsh_27 (by decide) jrf_5_6 ?_
  refine J_if_lt (t := 46) dX5_push_4 (by decide) (fun c0 => ?_) (fun c0 => ?_)
  · replace h := ite_t c0 h
    exact K_ret dX5_push_46 rfl h
  · replace h := ite_f c0 h
    refine J_aload_0 dX5_push_7 ?_
    refine J_getI dX5_push_8 fl_X5_31 jlt_27 jsh_27 (by decide) jrf_5_6 ?_
    refine J_bipush (85 : Int32) dX5_push_11 (by decide) ?_
    refine J_icmp_ge (t := 46) dX5_push_13 (by decide) (fun c1 => ?_) (fun c1 => ?_)
    · replace h := ite_t c1 h
      exact K_ret dX5_push_46 rfl h
    · replace h := ite_f c1 h
      refine J_aload_0 dX5_push_16 ?_
      refine J_getR 31 dX5_push_17 fl_X5_34 jlt_27 jsh_27 (by decide) jrf_5_7 jmr_27_7 ?_
      refine J_aload_0 dX5_push_20 ?_
      refine J_getI dX5_push_21 fl_X5_31 jlt_27 jsh_27 (by decide) jrf_5_6 ?_
      refine J_iload_1 dX5_push_24 ?_
      obtain ⟨g2, h⟩ := h
      refine K_iast ((M 27 6).toNatClampNeg) rfl dX5_push_25 jlt_31 jsh_31 g2 ?_
      refine J_aload_0 dX5_push_26 ?_
      refine J_getR 32 dX5_push_27 fl_X5_37 jlt_27 jsh_27 (by decide) jrf_5_8 jmr_27_8 ?_
      refine J_aload_0 dX5_push_30 ?_
      refine J_getI dX5_push_31 fl_X5_31 jlt_27 jsh_27 (by decide) jrf_5_6 ?_
      refine J_iload_2 dX5_push_34 ?_
      obtain ⟨g3, h⟩ := h
      refine K_zast ((M 27 6).toNatClampNeg) rfl dX5_push_35 jlt_32 jsh_32 g3 ?_
      refine J_aload_0 dX5_push_36 ?_
      refine J_dup dX5_push_37 rfl ?_
      refine J_getI dX5_push_38 fl_X5_31 jlt_27 jsh_27 (by decide) jrf_5_6 ?_
      refine J_iconst (1 : Int32) dX5_push_41 (by decide) ?_
      refine J_iadd dX5_push_42 ?_
      refine J_putI false dX5_push_43 pl_X5_31 jlt_27 jsh_27 (by decide) jrf_5_6 (fun q => absurd q (by decide)) ?_
      exact K_ret dX5_push_46 rfl h
theorem eX5_push {G : jGT} {d : Nat} {x1 : Int32} {x2 : Int32} {M : jM} {post : jM → Prop} (h : kX5_push_0 G d  x1 x2 M post) : CV G d mX5_push [.ref 27, .int x1, .int x2] M post := Con_of_J ok_X5_push 0 rfl rfl h
def kX5_pop_0 (G : jGT) (d : Nat)   (M : jM) (post : jM → Prop) : Prop := J G (d + 1) mX5_pop 0 [some (.ref 27)] [] jN jSH M jMR 0 0 0 0 (jQv post)
theorem bX5_pop_0 {G : jGT} {d : Nat}  {M : jM} {post : jM → Prop} (h : post (jup M 27 6 (if (0 : Int32) < (M 27 6) - (1 : Int32) then (M 27 6) - (1 : Int32) else (0 : Int32)))) : kX5_pop_0 G d   M post := by
  unfold kX5_pop_0
  refine J_aload_0 dX5_pop_0 ?_
  refine J_iconst (0 : Int32) dX5_pop_1 (by decide) ?_
  refine J_aload_0 dX5_pop_2 ?_
  refine J_getI dX5_pop_3 fl_X5_31 jlt_27 jsh_27 (by decide) jrf_5_6 ?_
  refine J_iconst (1 : Int32) dX5_pop_6 (by decide) ?_
  refine J_isub dX5_pop_7 ?_
  refine J_mmax dX5_pop_8 w_642 (by omega) (by decide) ?_
  refine J_putI false dX5_pop_11 pl_X5_31 jlt_27 jsh_27 (by decide) jrf_5_6 (fun q => absurd q (by decide)) ?_
  exact K_ret dX5_pop_14 rfl h
theorem eX5_pop {G : jGT} {d : Nat}  {M : jM} {post : jM → Prop} (h : kX5_pop_0 G d   M post) : CV G (d + 1) mX5_pop [.ref 27] M post := Con_of_J ok_X5_pop 0 rfl rfl h
def kX5_turn_0 (G : jGT) (d : Nat)  (x1 : Int32) (M : jM) (post : jM → Prop) : Prop := J G d mX5_turn 0 [some (.ref 27), some (.int x1)] [] jN jSH M jMR 0 0 0 0 (jQv post)
theorem bX5_turn_0 {G : jGT} {d : Nat} {x1 : Int32} {M : jM} {post : jM → Prop} (h : (if x1 < 0 then post M else (if (M 27 6) ≤ x1 then post M else (if (85 : Int32) ≤ x1 then post M else (vp_in x1 85 ∧ (if (M 32 x1.toNatClampNeg) = 0 then (vp_in x1 85 ∧ post (jup M 32 x1.toNatClampNeg (vp_nar .boolean (1 : Int32)))) else (vp_in x1 85 ∧ post (jup M 32 x1.toNatClampNeg (vp_nar .boolean (0 : Int32)))))))))) : kX5_turn_0 G d  x1 M post := by
  unfold kX5_turn_0
  refine J_iload_1 dX5_turn_0 ?_
  refine J_if_lt (t := 38) dX5_turn_1 (by decide) (fun c0 => ?_) (fun c0 => ?_)
  · replace h := ite_t c0 h
    exact K_ret dX5_turn_38 rfl h
  · replace h := ite_f c0 h
    refine J_iload_1 dX5_turn_4 ?_
    refine J_aload_0 dX5_turn_5 ?_
    refine J_getI dX5_turn_6 fl_X5_31 jlt_27 jsh_27 (by decide) jrf_5_6 ?_
    refine J_icmp_ge (t := 38) dX5_turn_9 (by decide) (fun c1 => ?_) (fun c1 => ?_)
    · replace h := ite_t c1 h
      exact K_ret dX5_turn_38 rfl h
    · replace h := ite_f c1 h
      refine J_iload_1 dX5_turn_12 ?_
      refine J_bipush (85 : Int32) dX5_turn_13 (by decide) ?_
      refine J_icmp_ge (t := 38) dX5_turn_15 (by decide) (fun c2 => ?_) (fun c2 => ?_)
      · replace h := ite_t c2 h
        exact K_ret dX5_turn_38 rfl h
      · replace h := ite_f c2 h
        refine J_aload_0 dX5_turn_18 ?_
        refine J_getR 32 dX5_turn_19 fl_X5_37 jlt_27 jsh_27 (by decide) jrf_5_8 jmr_27_8 ?_
        refine J_iload_1 dX5_turn_22 ?_
        refine J_aload_0 dX5_turn_23 ?_
        refine J_getR 32 dX5_turn_24 fl_X5_37 jlt_27 jsh_27 (by decide) jrf_5_8 jmr_27_8 ?_
        refine J_iload_1 dX5_turn_27 ?_
        obtain ⟨g3, h⟩ := h
        refine K_zald x1.toNatClampNeg rfl dX5_turn_28 jlt_32 jsh_32 g3 ?_
        refine J_if_ne (t := 36) dX5_turn_29 (by decide) (fun c4 => ?_) (fun c4 => ?_)
        · replace h := ite_f c4 h
          refine J_iconst (0 : Int32) dX5_turn_36 (by decide) ?_
          obtain ⟨g5, h⟩ := h
          refine K_zast x1.toNatClampNeg rfl dX5_turn_37 jlt_32 jsh_32 g5 ?_
          exact K_ret dX5_turn_38 rfl h
        · replace h := ite_t c4 h
          refine J_iconst (1 : Int32) dX5_turn_32 (by decide) ?_
          refine J_goto (t := 37) dX5_turn_33 (by decide) ?_
          obtain ⟨g5, h⟩ := h
          refine K_zast x1.toNatClampNeg rfl dX5_turn_37 jlt_32 jsh_32 g5 ?_
          exact K_ret dX5_turn_38 rfl h
theorem eX5_turn {G : jGT} {d : Nat} {x1 : Int32} {M : jM} {post : jM → Prop} (h : kX5_turn_0 G d  x1 M post) : CV G d mX5_turn [.ref 27, .int x1] M post := Con_of_J ok_X5_turn 0 rfl rfl h
def kX5_wasFor_0 (G : jGT) (d : Nat)  (x1 : Int32) (M : jM) (post : Int32 → jM → Prop) : Prop := J G d mX5_wasFor 0 [some (.ref 27), some (.int x1)] [] jN jSH M jMR 0 0 0 0 (jQi post)
theorem bX5_wasFor_0 {G : jGT} {d : Nat} {x1 : Int32} {M : jM} {post : Int32 → jM → Prop} (h : (if x1 < 0 then post (0 : Int32) M else (if (M 27 6) ≤ x1 then post (0 : Int32) M else (if (85 : Int32) ≤ x1 then post (0 : Int32) M else (vp_in x1 85 ∧ (if (M 32 x1.toNatClampNeg) = 0 then post (0 : Int32) M else post (1 : Int32) M)))))) : kX5_wasFor_0 G d  x1 M post := by
  unfold kX5_wasFor_0
  refine J_iload_1 dX5_wasFor_0 ?_
  refine J_if_lt (t := 31) dX5_wasFor_1 (by decide) (fun c0 => ?_) (fun c0 => ?_)
  · replace h := ite_t c0 h
    refine J_iconst (0 : Int32) dX5_wasFor_31 (by decide) ?_
    exact K_zret dX5_wasFor_32 rfl (by decide +kernel) h
  · replace h := ite_f c0 h
    refine J_iload_1 dX5_wasFor_4 ?_
    refine J_aload_0 dX5_wasFor_5 ?_
    refine J_getI dX5_wasFor_6 fl_X5_31 jlt_27 jsh_27 (by decide) jrf_5_6 ?_
    refine J_icmp_ge (t := 31) dX5_wasFor_9 (by decide) (fun c1 => ?_) (fun c1 => ?_)
    · replace h := ite_t c1 h
      refine J_iconst (0 : Int32) dX5_wasFor_31 (by decide) ?_
      exact K_zret dX5_wasFor_32 rfl (by decide +kernel) h
    · replace h := ite_f c1 h
      refine J_iload_1 dX5_wasFor_12 ?_
      refine J_bipush (85 : Int32) dX5_wasFor_13 (by decide) ?_
      refine J_icmp_ge (t := 31) dX5_wasFor_15 (by decide) (fun c2 => ?_) (fun c2 => ?_)
      · replace h := ite_t c2 h
        refine J_iconst (0 : Int32) dX5_wasFor_31 (by decide) ?_
        exact K_zret dX5_wasFor_32 rfl (by decide +kernel) h
      · replace h := ite_f c2 h
        refine J_aload_0 dX5_wasFor_18 ?_
        refine J_getR 32 dX5_wasFor_19 fl_X5_37 jlt_27 jsh_27 (by decide) jrf_5_8 jmr_27_8 ?_
        refine J_iload_1 dX5_wasFor_22 ?_
        obtain ⟨g3, h⟩ := h
        refine K_zald x1.toNatClampNeg rfl dX5_wasFor_23 jlt_32 jsh_32 g3 ?_
        refine J_if_eq (t := 31) dX5_wasFor_24 (by decide) (fun c4 => ?_) (fun c4 => ?_)
        · replace h := ite_t c4 h
          refine J_iconst (0 : Int32) dX5_wasFor_31 (by decide) ?_
          exact K_zret dX5_wasFor_32 rfl (by decide +kernel) h
        · replace h := ite_f c4 h
          refine J_iconst (1 : Int32) dX5_wasFor_27 (by decide) ?_
          refine J_goto (t := 32) dX5_wasFor_28 (by decide) ?_
          exact K_zret dX5_wasFor_32 rfl (by decide +kernel) h
theorem eX5_wasFor {G : jGT} {d : Nat} {x1 : Int32} {M : jM} {post : Int32 → jM → Prop} (h : kX5_wasFor_0 G d  x1 M post) : CI G d mX5_wasFor [.ref 27, .int x1] M post := Con_of_J ok_X5_wasFor 0 rfl rfl h
def kX5_follow_0 (G : jGT) (d : Nat) (t : Nat) (x2 : Int32) (M : jM) (post : jM → Prop) : Prop := J G (d + 1) mX5_follow 0 [some (.ref 27), some (.ref t), some (.int x2), none, none, none] [] jN jSH M jMR 0 0 0 0 (jQv post)
def kX5_follow_24 (G : jGT) (d : Nat) (t : Nat) (x2 : Int32) (x3 : Int32) (x4 : Int32) (M : jM) (post : jM → Prop) : Prop := J G (d + 1) mX5_follow 24 [some (.ref 27), some (.ref t), some (.int x2), some (.int x3), some (.int x4), none] [] jN jSH M jMR 0 0 0 0 (jQv post)
theorem bX5_follow_0 {G : jGT} {d : Nat} {t : Nat} (ht : jT t) {x2 : Int32} {M : jM} {post : jM → Prop} (h : kX5_follow_24 G d t x2 (if (85 : Int32) < if M 27 6 < x2 then M 27 6 else x2 then (85 : Int32) else if M 27 6 < x2 then M 27 6 else x2) (if (0 : Int32) < M t 1 then M t 1 else (0 : Int32)) M post) : kX5_follow_0 G d t x2 M post := by
  unfold kX5_follow_0
  refine J_iload_2 dX5_follow_0 ?_
  refine J_aload_0 dX5_follow_1 ?_
  refine J_getI dX5_follow_2 fl_X5_31 jlt_27 jsh_27 (by decide) jrf_5_6 ?_
  refine J_mmin dX5_follow_5 w_641 (by omega) (by decide) ?_
  refine J_bipush (85 : Int32) dX5_follow_8 (by decide) ?_
  refine J_mmin dX5_follow_10 w_641 (by omega) (by decide) ?_
  refine J_istore_3 dX5_follow_13 rfl ?_
  refine J_iconst (0 : Int32) dX5_follow_14 (by decide) ?_
  refine J_aload_1 dX5_follow_15 ?_
  refine J_getI dX5_follow_16 fl_X5_102 (jT_lt ht) (jT_sh ht) (by decide) jrf_6_1 ?_
  refine J_mmax dX5_follow_19 w_642 (by omega) (by decide) ?_
  refine J_istore_4 dX5_follow_22 rfl ?_
  exact h
theorem bX5_follow_24 {G : jGT} {d : Nat} {t : Nat} (ht : jT t) {x2 : Int32} {x3 : Int32} {x4 : Int32} {M : jM} {post : jM → Prop} (h : (if x3 ≤ x4 then post M else (vp_in x4 85 ∧ CI G d mX5_alike [.ref 27, .int (M t 0), .int (M 31 x4.toNatClampNeg)] M (fun r1 M1 => (if r1 < (M1 27 2) then kX5_follow_24 G d t x2 x3 (x4 + (1 : Int32)) (jup M1 t 1 (x4 + (1 : Int32))) post else (vp_in x4 85 ∧ CV G d mX6_meet [.ref t, .int x4, .int r1, .int (M1 32 x4.toNatClampNeg)] M1 (fun M2 => kX5_follow_24 G d t x2 x3 (x4 + (1 : Int32)) (jup M2 t 1 (x4 + (1 : Int32))) post))))))) : kX5_follow_24 G d t x2 x3 x4 M post := by
  unfold kX5_follow_24
  refine J_iload_4 dX5_follow_24 ?_
  refine J_iload_3 dX5_follow_26 ?_
  refine J_icmp_ge (t := 85) dX5_follow_27 (by decide) (fun c0 => ?_) (fun c0 => ?_)
  · replace h := ite_t c0 h
    exact K_ret dX5_follow_85 rfl h
  · replace h := ite_f c0 h
    refine J_aload_0 dX5_follow_30 ?_
    refine J_aload_1 dX5_follow_31 ?_
    refine J_getI dX5_follow_32 fl_X5_105 (jT_lt ht) (jT_sh ht) (by decide) jrf_6_0 ?_
    refine J_aload_0 dX5_follow_35 ?_
    refine J_getR 31 dX5_follow_36 fl_X5_34 jlt_27 jsh_27 (by decide) jrf_5_7 jmr_27_7 ?_
    refine J_iload_4 dX5_follow_39 ?_
    obtain ⟨g1, h⟩ := h
    refine K_iald x4.toNatClampNeg rfl dX5_follow_41 jlt_31 jsh_31 g1 ?_
    refine K_callVI (As := [.int (M t 0), .int (M 31 x4.toNatClampNeg)]) (rest := []) dX5_follow_42 vl_X5_107 jlt_27 jsh_27 _ rfl rfl h rfl rfl (Nat.le_of_ble_eq_true rfl) (fun r1 M1 h => ?_)
    refine J_istore_5 dX5_follow_45 rfl ?_
    refine J_iload_5 dX5_follow_47 ?_
    refine J_aload_0 dX5_follow_49 ?_
    refine J_getI dX5_follow_50 fl_X5_18 jlt_27 jsh_27 (by decide) jrf_5_2 ?_
    refine J_icmp_lt (t := 71) dX5_follow_53 (by decide) (fun c2 => ?_) (fun c2 => ?_)
    · replace h := ite_t c2 h
      refine J_aload_1 dX5_follow_71 ?_
      refine J_iload_4 dX5_follow_72 ?_
      refine J_iconst (1 : Int32) dX5_follow_74 (by decide) ?_
      refine J_iadd dX5_follow_75 ?_
      refine J_putI false dX5_follow_76 pl_X5_102 (jT_lt ht) (jT_sh ht) (by decide) jrf_6_1 (fun q => absurd q (by decide)) ?_
      refine J_iinc_4 (1 : Int32) dX5_follow_79 (by decide) rfl ?_
      refine J_goto (t := 24) dX5_follow_82 (by decide) ?_
      exact J_weak (lv' := [some (.ref 27), some (.ref t), some (.int x2), some (.int x3), some (.int (x4 + (1 : Int32))), none]) (And.intro rfl (And.intro rfl (And.intro rfl (And.intro rfl (And.intro rfl trivial))))) h
    · replace h := ite_f c2 h
      refine J_aload_1 dX5_follow_56 ?_
      refine J_iload_4 dX5_follow_57 ?_
      refine J_iload_5 dX5_follow_59 ?_
      refine J_aload_0 dX5_follow_61 ?_
      refine J_getR 32 dX5_follow_62 fl_X5_37 jlt_27 jsh_27 (by decide) jrf_5_8 jmr_27_8 ?_
      refine J_iload_4 dX5_follow_65 ?_
      obtain ⟨g3, h⟩ := h
      refine K_zald x4.toNatClampNeg rfl dX5_follow_67 jlt_32 jsh_32 g3 ?_
      refine K_callVV (As := [.int x4, .int r1, .int (M1 32 x4.toNatClampNeg)]) (rest := []) dX5_follow_68 vl_X5_110 (jT_lt ht) (jT_sh ht) _ rfl rfl h rfl rfl (Nat.le_of_ble_eq_true rfl) (fun M2 h => ?_)
      refine J_aload_1 dX5_follow_71 ?_
      refine J_iload_4 dX5_follow_72 ?_
      refine J_iconst (1 : Int32) dX5_follow_74 (by decide) ?_
      refine J_iadd dX5_follow_75 ?_
      refine J_putI false dX5_follow_76 pl_X5_102 (jT_lt ht) (jT_sh ht) (by decide) jrf_6_1 (fun q => absurd q (by decide)) ?_
      refine J_iinc_4 (1 : Int32) dX5_follow_79 (by decide) rfl ?_
      refine J_goto (t := 24) dX5_follow_82 (by decide) ?_
      exact J_weak (lv' := [some (.ref 27), some (.ref t), some (.int x2), some (.int x3), some (.int (x4 + (1 : Int32))), none]) (And.intro rfl (And.intro rfl (And.intro rfl (And.intro rfl (And.intro rfl trivial))))) h
theorem eX5_follow {G : jGT} {d : Nat} {t : Nat} {x2 : Int32} {M : jM} {post : jM → Prop} (h : kX5_follow_0 G d t x2 M post) : CV G (d + 1) mX5_follow [.ref 27, .ref t, .int x2] M post := Con_of_J ok_X5_follow 3 rfl rfl h
def kX5_rowTells_0 (G : jGT) (d : Nat)  (x1 : Int32) (M : jM) (post : Int32 → jM → Prop) : Prop := J G (d + 1) mX5_rowTells 0 [some (.ref 27), some (.int x1)] [] jN jSH M jMR 0 0 0 0 (jQi post)
theorem bX5_rowTells_0 {G : jGT} {d : Nat} {x1 : Int32} {M : jM} {post : Int32 → jM → Prop} (h : (if (M 27 0) = (6 : Int32) then CI G d mJ6_bitCount_0f7a4 [.int x1] M (fun r1 M1 => (vp_in (r1 &&& (3 : Int32)) 4 ∧ post (M1 28 ((r1 &&& (3 : Int32)).toNatClampNeg)) M1)) else post (0 : Int32) M)) : kX5_rowTells_0 G d  x1 M post := by
  unfold kX5_rowTells_0
  refine J_aload_0 dX5_rowTells_0 ?_
  refine J_getI dX5_rowTells_1 fl_X5_9 jlt_27 jsh_27 (by decide) jrf_5_0 ?_
  refine J_bipush (6 : Int32) dX5_rowTells_4 (by decide) ?_
  refine J_icmp_ne (t := 23) dX5_rowTells_6 (by decide) (fun c0 => ?_) (fun c0 => ?_)
  · replace h := ite_f c0 h
    refine J_iconst (0 : Int32) dX5_rowTells_23 (by decide) ?_
    exact K_iret dX5_rowTells_24 rfl h
  · replace h := ite_t c0 h
    refine J_aload_0 dX5_rowTells_9 ?_
    refine J_getR 28 dX5_rowTells_10 fl_X5_21 jlt_27 jsh_27 (by decide) jrf_5_3 jmr_27_3 ?_
    refine J_iload_1 dX5_rowTells_13 ?_
    refine K_callSI (rest := [.ref 28]) dX5_rowTells_14 sl_X5_114 h rfl rfl (Nat.le_of_ble_eq_true rfl) (fun r1 M1 h => ?_)
    refine J_iconst (3 : Int32) dX5_rowTells_17 (by decide) ?_
    refine J_iand dX5_rowTells_18 ?_
    obtain ⟨g1, h⟩ := h
    refine K_iald ((r1 &&& (3 : Int32)).toNatClampNeg) rfl dX5_rowTells_19 jlt_28 jsh_28 g1 ?_
    refine J_goto (t := 24) dX5_rowTells_20 (by decide) ?_
    exact K_iret dX5_rowTells_24 rfl h
theorem eX5_rowTells {G : jGT} {d : Nat} {x1 : Int32} {M : jM} {post : Int32 → jM → Prop} (h : kX5_rowTells_0 G d  x1 M post) : CI G (d + 1) mX5_rowTells [.ref 27, .int x1] M post := Con_of_J ok_X5_rowTells 0 rfl rfl h
def kX5_isOpen_0 (G : jGT) (d : Nat) (t : Nat)  (M : jM) (post : Int32 → jM → Prop) : Prop := J G (d + 1) mX5_isOpen 0 [some (.ref 27), some (.ref t)] [] jN jSH M jMR 0 0 0 0 (jQi post)
theorem bX5_isOpen_0 {G : jGT} {d : Nat} {t : Nat} (ht : jT t)  {M : jM} {post : Int32 → jM → Prop} (h : CI G d mX5_rowTells [.ref 27, .int (M t 0)] M (fun r1 M1 => (if r1 = 0 then CI G d mX6_likes [.ref t] M1 (fun r2 M2 => (if r2 = 0 then post (1 : Int32) M2 else post (0 : Int32) M2)) else post (0 : Int32) M1))) : kX5_isOpen_0 G d t  M post := by
  unfold kX5_isOpen_0
  refine J_aload_0 dX5_isOpen_0 ?_
  refine J_aload_1 dX5_isOpen_1 ?_
  refine J_getI dX5_isOpen_2 fl_X5_105 (jT_lt ht) (jT_sh ht) (by decide) jrf_6_0 ?_
  refine K_callVI (As := [.int (M t 0)]) (rest := []) dX5_isOpen_5 vl_X5_119 jlt_27 jsh_27 _ rfl rfl h rfl rfl (Nat.le_of_ble_eq_true rfl) (fun r1 M1 h => ?_)
  refine J_if_ne (t := 22) dX5_isOpen_8 (by decide) (fun c0 => ?_) (fun c0 => ?_)
  · replace h := ite_f c0 h
    refine J_iconst (0 : Int32) dX5_isOpen_22 (by decide) ?_
    exact K_zret dX5_isOpen_23 rfl (by decide +kernel) h
  · replace h := ite_t c0 h
    refine J_aload_1 dX5_isOpen_11 ?_
    refine K_callVI (As := []) (rest := []) dX5_isOpen_12 vl_X5_122 (jT_lt ht) (jT_sh ht) _ rfl rfl h rfl rfl (Nat.le_of_ble_eq_true rfl) (fun r2 M2 h => ?_)
    refine J_if_ne (t := 22) dX5_isOpen_15 (by decide) (fun c1 => ?_) (fun c1 => ?_)
    · replace h := ite_f c1 h
      refine J_iconst (0 : Int32) dX5_isOpen_22 (by decide) ?_
      exact K_zret dX5_isOpen_23 rfl (by decide +kernel) h
    · replace h := ite_t c1 h
      refine J_iconst (1 : Int32) dX5_isOpen_18 (by decide) ?_
      refine J_goto (t := 23) dX5_isOpen_19 (by decide) ?_
      exact K_zret dX5_isOpen_23 rfl (by decide +kernel) h
theorem eX5_isOpen {G : jGT} {d : Nat} {t : Nat} {M : jM} {post : Int32 → jM → Prop} (h : kX5_isOpen_0 G d t  M post) : CI G (d + 1) mX5_isOpen [.ref 27, .ref t] M post := Con_of_J ok_X5_isOpen 0 rfl rfl h
def kX5_isFor_0 (G : jGT) (d : Nat) (t : Nat)  (M : jM) (post : Int32 → jM → Prop) : Prop := J G (d + 1) mX5_isFor 0 [some (.ref 27), some (.ref t), none] [] jN jSH M jMR 0 0 0 0 (jQi post)
theorem bX5_isFor_0 {G : jGT} {d : Nat} {t : Nat} (ht : jT t)  {M : jM} {post : Int32 → jM → Prop} (h : CI G d mX5_rowTells [.ref 27, .int (M t 0)] M (fun r1 M1 => (if r1 = 0 then CI G d mX6_likes [.ref t] M1 (fun r2 M2 => (if r2 = 0 then (if ((M2 27 1) &&& (1 : Int32)) = (1 : Int32) then post (1 : Int32) M2 else post (0 : Int32) M2) else (if (M2 27 0) = (1 : Int32) then CI G d mX5_wasFor [.ref 27, .int (M2 t 3)] M2 (fun r3 M3 => (if r3 = 0 then post (1 : Int32) M3 else post (0 : Int32) M3)) else (if (M2 27 0) = (2 : Int32) then CI G d mX5_wasFor [.ref 27, .int (M2 t 4)] M2 (fun r4 M4 => (if r4 = 0 then post (1 : Int32) M4 else post (0 : Int32) M4)) else (if (M2 27 0) = (3 : Int32) then (if (M2 t 6) = (M2 t 7) then CI G d mX5_wasFor [.ref 27, .int (M2 t 2)] M2 (fun r5 M5 => (if r5 = 0 then post (1 : Int32) M5 else post (0 : Int32) M5)) else (if (M2 t 7) ≤ (M2 t 6) then post (0 : Int32) M2 else post (1 : Int32) M2)) else (if (M2 27 0) = (4 : Int32) then CI G d mX6_torn [.ref t] M2 (fun r6 M6 => (if r6 = 0 then CI G d mX5_wasFor [.ref 27, .int (M6 t 3)] M6 (fun r7 M7 => (if r7 = 0 then post (1 : Int32) M7 else post (0 : Int32) M7)) else (if (M6 27 1) ≤ (4 : Int32) then post (0 : Int32) M6 else post (1 : Int32) M6))) else (if (M2 27 0) = (5 : Int32) then CI G d mX5_wasFor [.ref 27, .int (M2 t 4)] M2 (fun r8 M8 => (if r8 = 0 then post (1 : Int32) M8 else post (0 : Int32) M8)) else (if (M2 27 0) = (6 : Int32) then (if (M2 t 6) = (M2 t 7) then CI G d mX5_wasFor [.ref 27, .int (M2 t 2)] M2 (fun r9 M9 => (if r9 = 0 then post (1 : Int32) M9 else post (0 : Int32) M9)) else (if (M2 t 7) ≤ (M2 t 6) then post (0 : Int32) M2 else post (1 : Int32) M2)) else CI G d mX5_wasFor [.ref 27, .int (M2 t 2)] M2 (fun r10 M10 => (if r10 = 0 then post (1 : Int32) M10 else post (0 : Int32) M10)))))))))) else (if r1 = (1 : Int32) then post (1 : Int32) M1 else post (0 : Int32) M1)))) : kX5_isFor_0 G d t  M post := by
  unfold kX5_isFor_0
  refine J_aload_0 dX5_isFor_0 ?_
  refine J_aload_1 dX5_isFor_1 ?_
  refine J_getI dX5_isFor_2 fl_X5_105 (jT_lt ht) (jT_sh ht) (by decide) jrf_6_0 ?_
  refine K_callVI (As := [.int (M t 0)]) (rest := []) dX5_isFor_5 vl_X5_119 jlt_27 jsh_27 _ rfl rfl h rfl rfl (Nat.le_of_ble_eq_true rfl) (fun r1 M1 h => ?_)
  refine J_istore_2 dX5_isFor_8 rfl ?_
  refine J_iload_2 dX5_isFor_9 ?_
  refine J_if_eq (t := 24) dX5_isFor_10 (by decide) (fun c0 => ?_) (fun c0 => ?_)
  · replace h := ite_t c0 h
    refine J_aload_1 dX5_isFor_24 ?_
    refine K_callVI (As := []) (rest := []) dX5_isFor_25 vl_X5_122 (jT_lt ht) (jT_sh ht) _ rfl rfl h rfl rfl (Nat.le_of_ble_eq_true rfl) (fun r2 M2 h => ?_)
    refine J_if_ne (t := 47) dX5_isFor_28 (by decide) (fun c1 => ?_) (fun c1 => ?_)
    · replace h := ite_f c1 h
      refine J_aload_0 dX5_isFor_47 ?_
      refine J_getI dX5_isFor_48 fl_X5_9 jlt_27 jsh_27 (by decide) jrf_5_0 ?_
      by_cases c2 : (M2 27 0) = (1 : Int32)
      · replace h := ite_t c2 h
        refine J_tswC (off := 37) (t := 88) dX5_isFor_51 c2 (by decide) ?_
        refine J_aload_0 dX5_isFor_88 ?_
        refine J_aload_1 dX5_isFor_89 ?_
        refine J_getI dX5_isFor_90 fl_X5_126 (jT_lt ht) (jT_sh ht) (by decide) jrf_6_3 ?_
        refine K_callVI (As := [.int (M2 t 3)]) (rest := []) dX5_isFor_93 vl_X5_129 jlt_27 jsh_27 _ rfl rfl h rfl rfl (Nat.le_of_ble_eq_true rfl) (fun r3 M3 h => ?_)
        refine J_if_ne (t := 103) dX5_isFor_96 (by decide) (fun c3 => ?_) (fun c3 => ?_)
        · replace h := ite_f c3 h
          refine J_iconst (0 : Int32) dX5_isFor_103 (by decide) ?_
          exact K_zret dX5_isFor_104 rfl (by decide +kernel) h
        · replace h := ite_t c3 h
          refine J_iconst (1 : Int32) dX5_isFor_99 (by decide) ?_
          refine J_goto (t := 104) dX5_isFor_100 (by decide) ?_
          exact K_zret dX5_isFor_104 rfl (by decide +kernel) h
      replace h := ite_f c2 h
      by_cases c3 : (M2 27 0) = (2 : Int32)
      · replace h := ite_t c3 h
        refine J_tswC (off := 54) (t := 105) dX5_isFor_51 c3 (by decide) ?_
        refine J_aload_0 dX5_isFor_105 ?_
        refine J_aload_1 dX5_isFor_106 ?_
        refine J_getI dX5_isFor_107 fl_X5_133 (jT_lt ht) (jT_sh ht) (by decide) jrf_6_4 ?_
        refine K_callVI (As := [.int (M2 t 4)]) (rest := []) dX5_isFor_110 vl_X5_129 jlt_27 jsh_27 _ rfl rfl h rfl rfl (Nat.le_of_ble_eq_true rfl) (fun r4 M4 h => ?_)
        refine J_if_ne (t := 120) dX5_isFor_113 (by decide) (fun c4 => ?_) (fun c4 => ?_)
        · replace h := ite_f c4 h
          refine J_iconst (0 : Int32) dX5_isFor_120 (by decide) ?_
          exact K_zret dX5_isFor_121 rfl (by decide +kernel) h
        · replace h := ite_t c4 h
          refine J_iconst (1 : Int32) dX5_isFor_116 (by decide) ?_
          refine J_goto (t := 121) dX5_isFor_117 (by decide) ?_
          exact K_zret dX5_isFor_121 rfl (by decide +kernel) h
      replace h := ite_f c3 h
      by_cases c4 : (M2 27 0) = (3 : Int32)
      · replace h := ite_t c4 h
        refine J_tswC (off := 71) (t := 122) dX5_isFor_51 c4 (by decide) ?_
        refine J_aload_1 dX5_isFor_122 ?_
        refine J_getI dX5_isFor_123 fl_X5_136 (jT_lt ht) (jT_sh ht) (by decide) jrf_6_6 ?_
        refine J_aload_1 dX5_isFor_126 ?_
        refine J_getI dX5_isFor_127 fl_X5_139 (jT_lt ht) (jT_sh ht) (by decide) jrf_6_7 ?_
        refine J_icmp_ne (t := 152) dX5_isFor_130 (by decide) (fun c5 => ?_) (fun c5 => ?_)
        · replace h := ite_f c5 h
          refine J_aload_1 dX5_isFor_152 ?_
          refine J_getI dX5_isFor_153 fl_X5_139 (jT_lt ht) (jT_sh ht) (by decide) jrf_6_7 ?_
          refine J_aload_1 dX5_isFor_156 ?_
          refine J_getI dX5_isFor_157 fl_X5_136 (jT_lt ht) (jT_sh ht) (by decide) jrf_6_6 ?_
          refine J_icmp_le (t := 167) dX5_isFor_160 (by decide) (fun c6 => ?_) (fun c6 => ?_)
          · replace h := ite_t c6 h
            refine J_iconst (0 : Int32) dX5_isFor_167 (by decide) ?_
            exact K_zret dX5_isFor_168 rfl (by decide +kernel) h
          · replace h := ite_f c6 h
            refine J_iconst (1 : Int32) dX5_isFor_163 (by decide) ?_
            refine J_goto (t := 168) dX5_isFor_164 (by decide) ?_
            exact K_zret dX5_isFor_168 rfl (by decide +kernel) h
        · replace h := ite_t c5 h
          refine J_aload_0 dX5_isFor_133 ?_
          refine J_aload_1 dX5_isFor_134 ?_
          refine J_getI dX5_isFor_135 fl_X5_142 (jT_lt ht) (jT_sh ht) (by decide) jrf_6_2 ?_
          refine K_callVI (As := [.int (M2 t 2)]) (rest := []) dX5_isFor_138 vl_X5_129 jlt_27 jsh_27 _ rfl rfl h rfl rfl (Nat.le_of_ble_eq_true rfl) (fun r5 M5 h => ?_)
          refine J_if_ne (t := 148) dX5_isFor_141 (by decide) (fun c6 => ?_) (fun c6 => ?_)
          · replace h := ite_f c6 h
            refine J_iconst (0 : Int32) dX5_isFor_148 (by decide) ?_
            refine J_goto (t := 168) dX5_isFor_149 (by decide) ?_
            exact K_zret dX5_isFor_168 rfl (by decide +kernel) h
          · replace h := ite_t c6 h
            refine J_iconst (1 : Int32) dX5_isFor_144 (by decide) ?_
            refine J_goto (t := 168) dX5_isFor_145 (by decide) ?_
            exact K_zret dX5_isFor_168 rfl (by decide +kernel) h
      replace h := ite_f c4 h
      by_cases c5 : (M2 27 0) = (4 : Int32)
      · replace h := ite_t c5 h
        refine J_tswC (off := 118) (t := 169) dX5_isFor_51 c5 (by decide) ?_
        refine J_aload_1 dX5_isFor_169 ?_
        refine K_callVI (As := []) (rest := []) dX5_isFor_170 vl_X5_145 (jT_lt ht) (jT_sh ht) _ rfl rfl h rfl rfl (Nat.le_of_ble_eq_true rfl) (fun r6 M6 h => ?_)
        refine J_if_eq (t := 192) dX5_isFor_173 (by decide) (fun c6 => ?_) (fun c6 => ?_)
        · replace h := ite_t c6 h
          refine J_aload_0 dX5_isFor_192 ?_
          refine J_aload_1 dX5_isFor_193 ?_
          refine J_getI dX5_isFor_194 fl_X5_126 (jT_lt ht) (jT_sh ht) (by decide) jrf_6_3 ?_
          refine K_callVI (As := [.int (M6 t 3)]) (rest := []) dX5_isFor_197 vl_X5_129 jlt_27 jsh_27 _ rfl rfl h rfl rfl (Nat.le_of_ble_eq_true rfl) (fun r7 M7 h => ?_)
          refine J_if_ne (t := 207) dX5_isFor_200 (by decide) (fun c7 => ?_) (fun c7 => ?_)
          · replace h := ite_f c7 h
            refine J_iconst (0 : Int32) dX5_isFor_207 (by decide) ?_
            exact K_zret dX5_isFor_208 rfl (by decide +kernel) h
          · replace h := ite_t c7 h
            refine J_iconst (1 : Int32) dX5_isFor_203 (by decide) ?_
            refine J_goto (t := 208) dX5_isFor_204 (by decide) ?_
            exact K_zret dX5_isFor_208 rfl (by decide +kernel) h
        · replace h := ite_f c6 h
          refine J_aload_0 dX5_isFor_176 ?_
          refine J_getI dX5_isFor_177 fl_X5_15 jlt_27 jsh_27 (by decide) jrf_5_1 ?_
          refine J_iconst (4 : Int32) dX5_isFor_180 (by decide) ?_
          refine J_icmp_le (t := 188) dX5_isFor_181 (by decide) (fun c7 => ?_) (fun c7 => ?_)
          · replace h := ite_t c7 h
            refine J_iconst (0 : Int32) dX5_isFor_188 (by decide) ?_
            refine J_goto (t := 208) dX5_isFor_189 (by decide) ?_
            exact K_zret dX5_isFor_208 rfl (by decide +kernel) h
          · replace h := ite_f c7 h
            refine J_iconst (1 : Int32) dX5_isFor_184 (by decide) ?_
            refine J_goto (t := 208) dX5_isFor_185 (by decide) ?_
            exact K_zret dX5_isFor_208 rfl (by decide +kernel) h
      replace h := ite_f c5 h
      by_cases c6 : (M2 27 0) = (5 : Int32)
      · replace h := ite_t c6 h
        refine J_tswC (off := 54) (t := 105) dX5_isFor_51 c6 (by decide) ?_
        refine J_aload_0 dX5_isFor_105 ?_
        refine J_aload_1 dX5_isFor_106 ?_
        refine J_getI dX5_isFor_107 fl_X5_133 (jT_lt ht) (jT_sh ht) (by decide) jrf_6_4 ?_
        refine K_callVI (As := [.int (M2 t 4)]) (rest := []) dX5_isFor_110 vl_X5_129 jlt_27 jsh_27 _ rfl rfl h rfl rfl (Nat.le_of_ble_eq_true rfl) (fun r8 M8 h => ?_)
        refine J_if_ne (t := 120) dX5_isFor_113 (by decide) (fun c7 => ?_) (fun c7 => ?_)
        · replace h := ite_f c7 h
          refine J_iconst (0 : Int32) dX5_isFor_120 (by decide) ?_
          exact K_zret dX5_isFor_121 rfl (by decide +kernel) h
        · replace h := ite_t c7 h
          refine J_iconst (1 : Int32) dX5_isFor_116 (by decide) ?_
          refine J_goto (t := 121) dX5_isFor_117 (by decide) ?_
          exact K_zret dX5_isFor_121 rfl (by decide +kernel) h
      replace h := ite_f c6 h
      by_cases c7 : (M2 27 0) = (6 : Int32)
      · replace h := ite_t c7 h
        refine J_tswC (off := 71) (t := 122) dX5_isFor_51 c7 (by decide) ?_
        refine J_aload_1 dX5_isFor_122 ?_
        refine J_getI dX5_isFor_123 fl_X5_136 (jT_lt ht) (jT_sh ht) (by decide) jrf_6_6 ?_
        refine J_aload_1 dX5_isFor_126 ?_
        refine J_getI dX5_isFor_127 fl_X5_139 (jT_lt ht) (jT_sh ht) (by decide) jrf_6_7 ?_
        refine J_icmp_ne (t := 152) dX5_isFor_130 (by decide) (fun c8 => ?_) (fun c8 => ?_)
        · replace h := ite_f c8 h
          refine J_aload_1 dX5_isFor_152 ?_
          refine J_getI dX5_isFor_153 fl_X5_139 (jT_lt ht) (jT_sh ht) (by decide) jrf_6_7 ?_
          refine J_aload_1 dX5_isFor_156 ?_
          refine J_getI dX5_isFor_157 fl_X5_136 (jT_lt ht) (jT_sh ht) (by decide) jrf_6_6 ?_
          refine J_icmp_le (t := 167) dX5_isFor_160 (by decide) (fun c9 => ?_) (fun c9 => ?_)
          · replace h := ite_t c9 h
            refine J_iconst (0 : Int32) dX5_isFor_167 (by decide) ?_
            exact K_zret dX5_isFor_168 rfl (by decide +kernel) h
          · replace h := ite_f c9 h
            refine J_iconst (1 : Int32) dX5_isFor_163 (by decide) ?_
            refine J_goto (t := 168) dX5_isFor_164 (by decide) ?_
            exact K_zret dX5_isFor_168 rfl (by decide +kernel) h
        · replace h := ite_t c8 h
          refine J_aload_0 dX5_isFor_133 ?_
          refine J_aload_1 dX5_isFor_134 ?_
          refine J_getI dX5_isFor_135 fl_X5_142 (jT_lt ht) (jT_sh ht) (by decide) jrf_6_2 ?_
          refine K_callVI (As := [.int (M2 t 2)]) (rest := []) dX5_isFor_138 vl_X5_129 jlt_27 jsh_27 _ rfl rfl h rfl rfl (Nat.le_of_ble_eq_true rfl) (fun r9 M9 h => ?_)
          refine J_if_ne (t := 148) dX5_isFor_141 (by decide) (fun c9 => ?_) (fun c9 => ?_)
          · replace h := ite_f c9 h
            refine J_iconst (0 : Int32) dX5_isFor_148 (by decide) ?_
            refine J_goto (t := 168) dX5_isFor_149 (by decide) ?_
            exact K_zret dX5_isFor_168 rfl (by decide +kernel) h
          · replace h := ite_t c9 h
            refine J_iconst (1 : Int32) dX5_isFor_144 (by decide) ?_
            refine J_goto (t := 168) dX5_isFor_145 (by decide) ?_
            exact K_zret dX5_isFor_168 rfl (by decide +kernel) h
      replace h := ite_f c7 h
      refine J_tswD (t := 209) dX5_isFor_51 (j_outr (offs := #[37, 54, 71, 118, 54, 71]) [(1 : Int32), (2 : Int32), (3 : Int32), (4 : Int32), (5 : Int32), (6 : Int32)] (by decide) (by decide) (by decide) (by decide) (by simp only [List.forall_mem_cons, List.not_mem_nil, false_implies, implies_true, and_true]; exact ⟨c2, c3, c4, c5, c6, c7⟩)) (by decide) ?_
      refine J_aload_0 dX5_isFor_209 ?_
      refine J_aload_1 dX5_isFor_210 ?_
      refine J_getI dX5_isFor_211 fl_X5_142 (jT_lt ht) (jT_sh ht) (by decide) jrf_6_2 ?_
      refine K_callVI (As := [.int (M2 t 2)]) (rest := []) dX5_isFor_214 vl_X5_129 jlt_27 jsh_27 _ rfl rfl h rfl rfl (Nat.le_of_ble_eq_true rfl) (fun r10 M10 h => ?_)
      refine J_if_ne (t := 224) dX5_isFor_217 (by decide) (fun c8 => ?_) (fun c8 => ?_)
      · replace h := ite_f c8 h
        refine J_iconst (0 : Int32) dX5_isFor_224 (by decide) ?_
        exact K_zret dX5_isFor_225 rfl (by decide +kernel) h
      · replace h := ite_t c8 h
        refine J_iconst (1 : Int32) dX5_isFor_220 (by decide) ?_
        refine J_goto (t := 225) dX5_isFor_221 (by decide) ?_
        exact K_zret dX5_isFor_225 rfl (by decide +kernel) h
    · replace h := ite_t c1 h
      refine J_aload_0 dX5_isFor_31 ?_
      refine J_getI dX5_isFor_32 fl_X5_15 jlt_27 jsh_27 (by decide) jrf_5_1 ?_
      refine J_iconst (1 : Int32) dX5_isFor_35 (by decide) ?_
      refine J_iand dX5_isFor_36 ?_
      refine J_iconst (1 : Int32) dX5_isFor_37 (by decide) ?_
      refine J_icmp_ne (t := 45) dX5_isFor_38 (by decide) (fun c2 => ?_) (fun c2 => ?_)
      · replace h := ite_f c2 h
        refine J_iconst (0 : Int32) dX5_isFor_45 (by decide) ?_
        exact K_zret dX5_isFor_46 rfl (by decide +kernel) h
      · replace h := ite_t c2 h
        refine J_iconst (1 : Int32) dX5_isFor_41 (by decide) ?_
        refine J_goto (t := 46) dX5_isFor_42 (by decide) ?_
        exact K_zret dX5_isFor_46 rfl (by decide +kernel) h
  · replace h := ite_f c0 h
    refine J_iload_2 dX5_isFor_13 ?_
    refine J_iconst (1 : Int32) dX5_isFor_14 (by decide) ?_
    refine J_icmp_ne (t := 22) dX5_isFor_15 (by decide) (fun c1 => ?_) (fun c1 => ?_)
    · replace h := ite_f c1 h
      refine J_iconst (0 : Int32) dX5_isFor_22 (by decide) ?_
      exact K_zret dX5_isFor_23 rfl (by decide +kernel) h
    · replace h := ite_t c1 h
      refine J_iconst (1 : Int32) dX5_isFor_18 (by decide) ?_
      refine J_goto (t := 23) dX5_isFor_19 (by decide) ?_
      exact K_zret dX5_isFor_23 rfl (by decide +kernel) h
theorem eX5_isFor {G : jGT} {d : Nat} {t : Nat} {M : jM} {post : Int32 → jM → Prop} (h : kX5_isFor_0 G d t  M post) : CI G (d + 1) mX5_isFor [.ref 27, .ref t] M post := Con_of_J ok_X5_isFor 1 rfl rfl h
def kX5_decidedBy_0 (G : jGT) (d : Nat) (t : Nat)  (M : jM) (post : Int32 → jM → Prop) : Prop := J G (d + 1) mX5_decidedBy 0 [some (.ref 27), some (.ref t)] [] jN jSH M jMR 0 0 0 0 (jQi post)
theorem bX5_decidedBy_0 {G : jGT} {d : Nat} {t : Nat} (ht : jT t)  {M : jM} {post : Int32 → jM → Prop} (h : CI G d mX6_likes [.ref t] M (fun r1 M1 => (if r1 = 0 then post (-5 : Int32) M1 else (if (M1 27 0) = (1 : Int32) then post (M1 t 3) M1 else (if (M1 27 0) = (2 : Int32) then post (M1 t 4) M1 else (if (M1 27 0) = (3 : Int32) then post (-5 : Int32) M1 else (if (M1 27 0) = (4 : Int32) then CI G d mX6_torn [.ref t] M1 (fun r2 M2 => (if r2 = 0 then post (M2 t 3) M2 else post (-5 : Int32) M2)) else (if (M1 27 0) = (5 : Int32) then post (M1 t 4) M1 else (if (M1 27 0) = (6 : Int32) then post (-5 : Int32) M1 else post (M1 t 2) M1))))))))) : kX5_decidedBy_0 G d t  M post := by
  unfold kX5_decidedBy_0
  refine J_aload_1 dX5_decidedBy_0 ?_
  refine K_callVI (As := []) (rest := []) dX5_decidedBy_1 vl_X5_122 (jT_lt ht) (jT_sh ht) _ rfl rfl h rfl rfl (Nat.le_of_ble_eq_true rfl) (fun r1 M1 h => ?_)
  refine J_if_ne (t := 10) dX5_decidedBy_4 (by decide) (fun c0 => ?_) (fun c0 => ?_)
  · replace h := ite_f c0 h
    refine J_aload_0 dX5_decidedBy_10 ?_
    refine J_getI dX5_decidedBy_11 fl_X5_9 jlt_27 jsh_27 (by decide) jrf_5_0 ?_
    by_cases c1 : (M1 27 0) = (1 : Int32)
    · replace h := ite_t c1 h
      refine J_tswC (off := 38) (t := 52) dX5_decidedBy_14 c1 (by decide) ?_
      refine J_aload_1 dX5_decidedBy_52 ?_
      refine J_getI dX5_decidedBy_53 fl_X5_126 (jT_lt ht) (jT_sh ht) (by decide) jrf_6_3 ?_
      exact K_iret dX5_decidedBy_56 rfl h
    replace h := ite_f c1 h
    by_cases c2 : (M1 27 0) = (2 : Int32)
    · replace h := ite_t c2 h
      refine J_tswC (off := 43) (t := 57) dX5_decidedBy_14 c2 (by decide) ?_
      refine J_aload_1 dX5_decidedBy_57 ?_
      refine J_getI dX5_decidedBy_58 fl_X5_133 (jT_lt ht) (jT_sh ht) (by decide) jrf_6_4 ?_
      exact K_iret dX5_decidedBy_61 rfl h
    replace h := ite_f c2 h
    by_cases c3 : (M1 27 0) = (3 : Int32)
    · replace h := ite_t c3 h
      refine J_tswC (off := 48) (t := 62) dX5_decidedBy_14 c3 (by decide) ?_
      refine J_bipush (-5 : Int32) dX5_decidedBy_62 (by decide) ?_
      exact K_iret dX5_decidedBy_64 rfl h
    replace h := ite_f c3 h
    by_cases c4 : (M1 27 0) = (4 : Int32)
    · replace h := ite_t c4 h
      refine J_tswC (off := 51) (t := 65) dX5_decidedBy_14 c4 (by decide) ?_
      refine J_aload_1 dX5_decidedBy_65 ?_
      refine K_callVI (As := []) (rest := []) dX5_decidedBy_66 vl_X5_145 (jT_lt ht) (jT_sh ht) _ rfl rfl h rfl rfl (Nat.le_of_ble_eq_true rfl) (fun r2 M2 h => ?_)
      refine J_if_eq (t := 77) dX5_decidedBy_69 (by decide) (fun c5 => ?_) (fun c5 => ?_)
      · replace h := ite_t c5 h
        refine J_aload_1 dX5_decidedBy_77 ?_
        refine J_getI dX5_decidedBy_78 fl_X5_126 (jT_lt ht) (jT_sh ht) (by decide) jrf_6_3 ?_
        exact K_iret dX5_decidedBy_81 rfl h
      · replace h := ite_f c5 h
        refine J_bipush (-5 : Int32) dX5_decidedBy_72 (by decide) ?_
        refine J_goto (t := 81) dX5_decidedBy_74 (by decide) ?_
        exact K_iret dX5_decidedBy_81 rfl h
    replace h := ite_f c4 h
    by_cases c5 : (M1 27 0) = (5 : Int32)
    · replace h := ite_t c5 h
      refine J_tswC (off := 43) (t := 57) dX5_decidedBy_14 c5 (by decide) ?_
      refine J_aload_1 dX5_decidedBy_57 ?_
      refine J_getI dX5_decidedBy_58 fl_X5_133 (jT_lt ht) (jT_sh ht) (by decide) jrf_6_4 ?_
      exact K_iret dX5_decidedBy_61 rfl h
    replace h := ite_f c5 h
    by_cases c6 : (M1 27 0) = (6 : Int32)
    · replace h := ite_t c6 h
      refine J_tswC (off := 48) (t := 62) dX5_decidedBy_14 c6 (by decide) ?_
      refine J_bipush (-5 : Int32) dX5_decidedBy_62 (by decide) ?_
      exact K_iret dX5_decidedBy_64 rfl h
    replace h := ite_f c6 h
    refine J_tswD (t := 82) dX5_decidedBy_14 (j_outr (offs := #[38, 43, 48, 51, 43, 48]) [(1 : Int32), (2 : Int32), (3 : Int32), (4 : Int32), (5 : Int32), (6 : Int32)] (by decide) (by decide) (by decide) (by decide) (by simp only [List.forall_mem_cons, List.not_mem_nil, false_implies, implies_true, and_true]; exact ⟨c1, c2, c3, c4, c5, c6⟩)) (by decide) ?_
    refine J_aload_1 dX5_decidedBy_82 ?_
    refine J_getI dX5_decidedBy_83 fl_X5_142 (jT_lt ht) (jT_sh ht) (by decide) jrf_6_2 ?_
    exact K_iret dX5_decidedBy_86 rfl h
  · replace h := ite_t c0 h
    refine J_bipush (-5 : Int32) dX5_decidedBy_7 (by decide) ?_
    exact K_iret dX5_decidedBy_9 rfl h
theorem eX5_decidedBy {G : jGT} {d : Nat} {t : Nat} {M : jM} {post : Int32 → jM → Prop} (h : kX5_decidedBy_0 G d t  M post) : CI G (d + 1) mX5_decidedBy [.ref 27, .ref t] M post := Con_of_J ok_X5_decidedBy 0 rfl rfl h
def kX5_wins_0 (G : jGT) (d : Nat)  (x1 : Int32) (M : jM) (post : Int32 → jM → Prop) : Prop := J G (d + 1) mX5_wins 0 [some (.ref 27), some (.int x1)] [] jN jSH M jMR 0 0 0 0 (jQi post)
theorem bX5_wins_0 {G : jGT} {d : Nat} {x1 : Int32} {M : jM} {post : Int32 → jM → Prop} (h : CV G d mX6_begin [.ref 33, .int x1] M (fun M1 => CV G d mX5_follow [.ref 27, .ref 33, .int (M1 27 6)] M1 (fun M2 => CI G d mX5_isFor [.ref 27, .ref 33] M2 (fun r3 M3 => ((r3 = 0 ∨ r3 = 1) ∧ post r3 M3))))) : kX5_wins_0 G d  x1 M post := by
  unfold kX5_wins_0
  refine J_aload_0 dX5_wins_0 ?_
  refine J_getR 33 dX5_wins_1 fl_X5_44 jlt_27 jsh_27 (by decide) jrf_5_9 jmr_27_9 ?_
  refine J_iload_1 dX5_wins_4 ?_
  refine K_callVV (As := [.int x1]) (rest := []) dX5_wins_5 vl_X5_149 jlt_33 jsh_33 _ rfl rfl h rfl rfl (Nat.le_of_ble_eq_true rfl) (fun M1 h => ?_)
  refine J_aload_0 dX5_wins_8 ?_
  refine J_aload_0 dX5_wins_9 ?_
  refine J_getR 33 dX5_wins_10 fl_X5_44 jlt_27 jsh_27 (by decide) jrf_5_9 jmr_27_9 ?_
  refine J_aload_0 dX5_wins_13 ?_
  refine J_getI dX5_wins_14 fl_X5_31 jlt_27 jsh_27 (by decide) jrf_5_6 ?_
  refine K_callVV (As := [.ref 33, .int (M1 27 6)]) (rest := []) dX5_wins_17 vl_X5_152 jlt_27 jsh_27 _ rfl rfl h rfl rfl (Nat.le_of_ble_eq_true rfl) (fun M2 h => ?_)
  refine J_aload_0 dX5_wins_20 ?_
  refine J_aload_0 dX5_wins_21 ?_
  refine J_getR 33 dX5_wins_22 fl_X5_44 jlt_27 jsh_27 (by decide) jrf_5_9 jmr_27_9 ?_
  refine K_callVI (As := [.ref 33]) (rest := []) dX5_wins_25 vl_X5_156 jlt_27 jsh_27 _ rfl rfl h rfl rfl (Nat.le_of_ble_eq_true rfl) (fun r3 M3 h => ?_)
  exact K_zret dX5_wins_28 rfl (nz h.1) h.2
theorem eX5_wins {G : jGT} {d : Nat} {x1 : Int32} {M : jM} {post : Int32 → jM → Prop} (h : kX5_wins_0 G d  x1 M post) : CI G (d + 1) mX5_wins [.ref 27, .int x1] M post := Con_of_J ok_X5_wins 0 rfl rfl h
def kX5_now_0 (G : jGT) (d : Nat) (t : Nat)  (M : jM) (post : Nat → jM → Prop) : Prop := J G (d + 1) mX5_now 0 [some (.ref 27), some (.ref t)] [] jN jSH M jMR 0 0 0 0 (jQr post)
theorem bX5_now_0 {G : jGT} {d : Nat} {t : Nat} (ht : jT t)  {M : jM} {post : Nat → jM → Prop} (h : CV G d mX6_become [.ref 34, .ref t] M (fun M1 => CV G d mX5_follow [.ref 27, .ref 34, .int (M1 27 6)] M1 (fun M2 => post 34 M2))) : kX5_now_0 G d t  M post := by
  unfold kX5_now_0
  refine J_aload_0 dX5_now_0 ?_
  refine J_getR 34 dX5_now_1 fl_X5_48 jlt_27 jsh_27 (by decide) jrf_5_10 jmr_27_10 ?_
  refine J_aload_1 dX5_now_4 ?_
  refine K_callVV (As := [.ref t]) (rest := []) dX5_now_5 vl_X5_160 jlt_34 jsh_34 _ rfl rfl h rfl rfl (Nat.le_of_ble_eq_true rfl) (fun M1 h => ?_)
  refine J_aload_0 dX5_now_8 ?_
  refine J_aload_0 dX5_now_9 ?_
  refine J_getR 34 dX5_now_10 fl_X5_48 jlt_27 jsh_27 (by decide) jrf_5_10 jmr_27_10 ?_
  refine J_aload_0 dX5_now_13 ?_
  refine J_getI dX5_now_14 fl_X5_31 jlt_27 jsh_27 (by decide) jrf_5_6 ?_
  refine K_callVV (As := [.ref 34, .int (M1 27 6)]) (rest := []) dX5_now_17 vl_X5_152 jlt_27 jsh_27 _ rfl rfl h rfl rfl (Nat.le_of_ble_eq_true rfl) (fun M2 h => ?_)
  refine J_aload_0 dX5_now_20 ?_
  refine J_getR 34 dX5_now_21 fl_X5_48 jlt_27 jsh_27 (by decide) jrf_5_10 jmr_27_10 ?_
  exact K_aret dX5_now_24 rfl h
theorem eX5_now {G : jGT} {d : Nat} {t : Nat} {M : jM} {post : Nat → jM → Prop} (h : kX5_now_0 G d t  M post) : CR G (d + 1) mX5_now [.ref 27, .ref t] M post := Con_of_J ok_X5_now 0 rfl rfl h
def kX5_winsNow_0 (G : jGT) (d : Nat) (t : Nat)  (M : jM) (post : Int32 → jM → Prop) : Prop := J G (d + 1) mX5_winsNow 0 [some (.ref 27), some (.ref t)] [] jN jSH M jMR 0 0 0 0 (jQi post)
theorem bX5_winsNow_0 {G : jGT} {d : Nat} {t : Nat} (ht : jT t)  {M : jM} {post : Int32 → jM → Prop} (h : CR G d mX5_now [.ref 27, .ref t] M (fun r1 M1 => (jT r1 ∧ CI G d mX5_isFor [.ref 27, .ref r1] M1 (fun r2 M2 => ((r2 = 0 ∨ r2 = 1) ∧ post r2 M2))))) : kX5_winsNow_0 G d t  M post := by
  unfold kX5_winsNow_0
  refine J_aload_0 dX5_winsNow_0 ?_
  refine J_aload_0 dX5_winsNow_1 ?_
  refine J_aload_1 dX5_winsNow_2 ?_
  refine K_callVR (As := [.ref t]) (rest := [.ref 27]) dX5_winsNow_3 vl_X5_164 jlt_27 jsh_27 _ rfl rfl h rfl rfl (Nat.le_of_ble_eq_true rfl) (fun r1 M1 h => ?_)
  obtain ⟨hr1, h⟩ := h
  refine K_callVI (As := [.ref r1]) (rest := []) dX5_winsNow_6 vl_X5_156 jlt_27 jsh_27 _ rfl rfl h rfl rfl (Nat.le_of_ble_eq_true rfl) (fun r2 M2 h => ?_)
  exact K_zret dX5_winsNow_9 rfl (nz h.1) h.2
theorem eX5_winsNow {G : jGT} {d : Nat} {t : Nat} {M : jM} {post : Int32 → jM → Prop} (h : kX5_winsNow_0 G d t  M post) : CI G (d + 1) mX5_winsNow [.ref 27, .ref t] M post := Con_of_J ok_X5_winsNow 0 rfl rfl h
def kX5_timesWon_0 (G : jGT) (d : Nat)  (x1 : Int32) (x2 : Int32) (M : jM) (post : Int32 → jM → Prop) : Prop := J G (d + 1) mX5_timesWon 0 [some (.ref 27), some (.int x1), some (.int x2), none, none, none] [] jN jSH M jMR 0 0 0 0 (jQi post)
def kX5_timesWon_13 (G : jGT) (d : Nat)  (x1 : Int32) (x2 : Int32) (x3 : Int32) (x4 : Int32) (M : jM) (post : Int32 → jM → Prop) : Prop := J G (d + 1) mX5_timesWon 13 [some (.ref 27), some (.int x1), some (.int x2), some (.int x3), some (.int x4), none] [] jN jSH M jMR 0 0 0 0 (jQi post)
theorem bX5_timesWon_0 {G : jGT} {d : Nat} {x1 : Int32} {x2 : Int32} {M : jM} {post : Int32 → jM → Prop} (h : CV G d mX6_begin [.ref 33, .int x1] M (fun M1 => kX5_timesWon_13 G d x1 x2 (0 : Int32) (0 : Int32) M1 post)) : kX5_timesWon_0 G d  x1 x2 M post := by
  unfold kX5_timesWon_0
  refine J_aload_0 dX5_timesWon_0 ?_
  refine J_getR 33 dX5_timesWon_1 fl_X5_44 jlt_27 jsh_27 (by decide) jrf_5_9 jmr_27_9 ?_
  refine J_iload_1 dX5_timesWon_4 ?_
  refine K_callVV (As := [.int x1]) (rest := []) dX5_timesWon_5 vl_X5_149 jlt_33 jsh_33 _ rfl rfl h rfl rfl (Nat.le_of_ble_eq_true rfl) (fun M1 h => ?_)
  refine J_iconst (0 : Int32) dX5_timesWon_8 (by decide) ?_
  refine J_istore_3 dX5_timesWon_9 rfl ?_
  refine J_iconst (0 : Int32) dX5_timesWon_10 (by decide) ?_
  refine J_istore_4 dX5_timesWon_11 rfl ?_
  exact h
theorem bX5_timesWon_13 {G : jGT} {d : Nat} {x1 : Int32} {x2 : Int32} {x3 : Int32} {x4 : Int32} {M : jM} {post : Int32 → jM → Prop} (h : (if x2 ≤ x4 then post x3 M else CV G d mX5_follow [.ref 27, .ref 33, .int (M 27 6)] M (fun M1 => CI G d mX5_isFor [.ref 27, .ref 33] M1 (fun r2 M2 => (if r2 = 0 then CV G d mX5_push [.ref 27, .int x1, .int r2] M2 (fun M3 => kX5_timesWon_13 G d x1 x2 (x3 + (0 : Int32)) (x4 + (1 : Int32)) M3 post) else CV G d mX5_push [.ref 27, .int x1, .int r2] M2 (fun M4 => kX5_timesWon_13 G d x1 x2 (x3 + (1 : Int32)) (x4 + (1 : Int32)) M4 post)))))) : kX5_timesWon_13 G d  x1 x2 x3 x4 M post := by
  unfold kX5_timesWon_13
  refine J_iload_4 dX5_timesWon_13 ?_
  refine J_iload_2 dX5_timesWon_15 ?_
  refine J_icmp_ge (t := 67) dX5_timesWon_16 (by decide) (fun c0 => ?_) (fun c0 => ?_)
  · replace h := ite_t c0 h
    refine J_iload_3 dX5_timesWon_67 ?_
    exact K_iret dX5_timesWon_68 rfl h
  · replace h := ite_f c0 h
    refine J_aload_0 dX5_timesWon_19 ?_
    refine J_aload_0 dX5_timesWon_20 ?_
    refine J_getR 33 dX5_timesWon_21 fl_X5_44 jlt_27 jsh_27 (by decide) jrf_5_9 jmr_27_9 ?_
    refine J_aload_0 dX5_timesWon_24 ?_
    refine J_getI dX5_timesWon_25 fl_X5_31 jlt_27 jsh_27 (by decide) jrf_5_6 ?_
    refine K_callVV (As := [.ref 33, .int (M 27 6)]) (rest := []) dX5_timesWon_28 vl_X5_152 jlt_27 jsh_27 _ rfl rfl h rfl rfl (Nat.le_of_ble_eq_true rfl) (fun M1 h => ?_)
    refine J_aload_0 dX5_timesWon_31 ?_
    refine J_aload_0 dX5_timesWon_32 ?_
    refine J_getR 33 dX5_timesWon_33 fl_X5_44 jlt_27 jsh_27 (by decide) jrf_5_9 jmr_27_9 ?_
    refine K_callVI (As := [.ref 33]) (rest := []) dX5_timesWon_36 vl_X5_156 jlt_27 jsh_27 _ rfl rfl h rfl rfl (Nat.le_of_ble_eq_true rfl) (fun r2 M2 h => ?_)
    refine J_istore_5 dX5_timesWon_39 rfl ?_
    refine J_iload_3 dX5_timesWon_41 ?_
    refine J_iload_5 dX5_timesWon_42 ?_
    refine J_if_eq (t := 51) dX5_timesWon_44 (by decide) (fun c1 => ?_) (fun c1 => ?_)
    · replace h := ite_t c1 h
      refine J_iconst (0 : Int32) dX5_timesWon_51 (by decide) ?_
      refine J_iadd dX5_timesWon_52 ?_
      refine J_istore_3 dX5_timesWon_53 rfl ?_
      refine J_aload_0 dX5_timesWon_54 ?_
      refine J_iload_1 dX5_timesWon_55 ?_
      refine J_iload_5 dX5_timesWon_56 ?_
      refine K_callVV (As := [.int x1, .int r2]) (rest := []) dX5_timesWon_58 vl_X5_89 jlt_27 jsh_27 _ rfl rfl h rfl rfl (Nat.le_of_ble_eq_true rfl) (fun M3 h => ?_)
      refine J_iinc_4 (1 : Int32) dX5_timesWon_61 (by decide) rfl ?_
      refine J_goto (t := 13) dX5_timesWon_64 (by decide) ?_
      exact J_weak (lv' := [some (.ref 27), some (.int x1), some (.int x2), some (.int (x3 + (0 : Int32))), some (.int (x4 + (1 : Int32))), none]) (And.intro rfl (And.intro rfl (And.intro rfl (And.intro rfl (And.intro rfl trivial))))) h
    · replace h := ite_f c1 h
      refine J_iconst (1 : Int32) dX5_timesWon_47 (by decide) ?_
      refine J_goto (t := 52) dX5_timesWon_48 (by decide) ?_
      refine J_iadd dX5_timesWon_52 ?_
      refine J_istore_3 dX5_timesWon_53 rfl ?_
      refine J_aload_0 dX5_timesWon_54 ?_
      refine J_iload_1 dX5_timesWon_55 ?_
      refine J_iload_5 dX5_timesWon_56 ?_
      refine K_callVV (As := [.int x1, .int r2]) (rest := []) dX5_timesWon_58 vl_X5_89 jlt_27 jsh_27 _ rfl rfl h rfl rfl (Nat.le_of_ble_eq_true rfl) (fun M4 h => ?_)
      refine J_iinc_4 (1 : Int32) dX5_timesWon_61 (by decide) rfl ?_
      refine J_goto (t := 13) dX5_timesWon_64 (by decide) ?_
      exact J_weak (lv' := [some (.ref 27), some (.int x1), some (.int x2), some (.int (x3 + (1 : Int32))), some (.int (x4 + (1 : Int32))), none]) (And.intro rfl (And.intro rfl (And.intro rfl (And.intro rfl (And.intro rfl trivial))))) h
theorem eX5_timesWon {G : jGT} {d : Nat} {x1 : Int32} {x2 : Int32} {M : jM} {post : Int32 → jM → Prop} (h : kX5_timesWon_0 G d  x1 x2 M post) : CI G (d + 1) mX5_timesWon [.ref 27, .int x1, .int x2] M post := Con_of_J ok_X5_timesWon 3 rfl rfl h
def kX5_firstTurn_0 (G : jGT) (d : Nat)  (x1 : Int32) (M : jM) (post : Int32 → jM → Prop) : Prop := J G (d + 1) mX5_firstTurn 0 [some (.ref 27), some (.int x1), none, none] [] jN jSH M jMR 0 0 0 0 (jQi post)
def kX5_firstTurn_8 (G : jGT) (d : Nat)  (x1 : Int32) (x2 : Int32) (x3 : Int32) (M : jM) (post : Int32 → jM → Prop) : Prop := J G (d + 1) mX5_firstTurn 8 [some (.ref 27), some (.int x1), some (.int x2), some (.int x3)] [] jN jSH M jMR 0 0 0 0 (jQi post)
theorem bX5_firstTurn_0 {G : jGT} {d : Nat} {x1 : Int32} {M : jM} {post : Int32 → jM → Prop} (h : CI G d mX5_wins [.ref 27, .int x1] M (fun r1 M1 => kX5_firstTurn_8 G d x1 r1 (1 : Int32) M1 post)) : kX5_firstTurn_0 G d  x1 M post := by
  unfold kX5_firstTurn_0
  refine J_aload_0 dX5_firstTurn_0 ?_
  refine J_iload_1 dX5_firstTurn_1 ?_
  refine K_callVI (As := [.int x1]) (rest := []) dX5_firstTurn_2 vl_X5_168 jlt_27 jsh_27 _ rfl rfl h rfl rfl (Nat.le_of_ble_eq_true rfl) (fun r1 M1 h => ?_)
  refine J_istore_2 dX5_firstTurn_5 rfl ?_
  refine J_iconst (1 : Int32) dX5_firstTurn_6 (by decide) ?_
  refine J_istore_3 dX5_firstTurn_7 rfl ?_
  exact h
theorem bX5_firstTurn_8 {G : jGT} {d : Nat} {x1 : Int32} {x2 : Int32} {x3 : Int32} {M : jM} {post : Int32 → jM → Prop} (h : (if (60 : Int32) < x3 then post (-5 : Int32) M else CV G d mX5_push [.ref 27, .int x1, .int x2] M (fun M1 => CV G d mX5_follow [.ref 27, .ref 33, .int (M1 27 6)] M1 (fun M2 => CI G d mX5_isFor [.ref 27, .ref 33] M2 (fun r3 M3 => (if r3 = x2 then kX5_firstTurn_8 G d x1 x2 (x3 + (1 : Int32)) M3 post else post x3 M3)))))) : kX5_firstTurn_8 G d  x1 x2 x3 M post := by
  unfold kX5_firstTurn_8
  refine J_iload_3 dX5_firstTurn_8 ?_
  refine J_bipush (60 : Int32) dX5_firstTurn_9 (by decide) ?_
  refine J_icmp_gt (t := 52) dX5_firstTurn_11 (by decide) (fun c0 => ?_) (fun c0 => ?_)
  · replace h := ite_t c0 h
    refine J_bipush (-5 : Int32) dX5_firstTurn_52 (by decide) ?_
    exact K_iret dX5_firstTurn_54 rfl h
  · replace h := ite_f c0 h
    refine J_aload_0 dX5_firstTurn_14 ?_
    refine J_iload_1 dX5_firstTurn_15 ?_
    refine J_iload_2 dX5_firstTurn_16 ?_
    refine K_callVV (As := [.int x1, .int x2]) (rest := []) dX5_firstTurn_17 vl_X5_89 jlt_27 jsh_27 _ rfl rfl h rfl rfl (Nat.le_of_ble_eq_true rfl) (fun M1 h => ?_)
    refine J_aload_0 dX5_firstTurn_20 ?_
    refine J_aload_0 dX5_firstTurn_21 ?_
    refine J_getR 33 dX5_firstTurn_22 fl_X5_44 jlt_27 jsh_27 (by decide) jrf_5_9 jmr_27_9 ?_
    refine J_aload_0 dX5_firstTurn_25 ?_
    refine J_getI dX5_firstTurn_26 fl_X5_31 jlt_27 jsh_27 (by decide) jrf_5_6 ?_
    refine K_callVV (As := [.ref 33, .int (M1 27 6)]) (rest := []) dX5_firstTurn_29 vl_X5_152 jlt_27 jsh_27 _ rfl rfl h rfl rfl (Nat.le_of_ble_eq_true rfl) (fun M2 h => ?_)
    refine J_aload_0 dX5_firstTurn_32 ?_
    refine J_aload_0 dX5_firstTurn_33 ?_
    refine J_getR 33 dX5_firstTurn_34 fl_X5_44 jlt_27 jsh_27 (by decide) jrf_5_9 jmr_27_9 ?_
    refine K_callVI (As := [.ref 33]) (rest := []) dX5_firstTurn_37 vl_X5_156 jlt_27 jsh_27 _ rfl rfl h rfl rfl (Nat.le_of_ble_eq_true rfl) (fun r3 M3 h => ?_)
    refine J_iload_2 dX5_firstTurn_40 ?_
    refine J_icmp_eq (t := 46) dX5_firstTurn_41 (by decide) (fun c1 => ?_) (fun c1 => ?_)
    · replace h := ite_t c1 h
      refine J_iinc_3 (1 : Int32) dX5_firstTurn_46 (by decide) rfl ?_
      refine J_goto (t := 8) dX5_firstTurn_49 (by decide) ?_
      exact h
    · replace h := ite_f c1 h
      refine J_iload_3 dX5_firstTurn_44 ?_
      exact K_iret dX5_firstTurn_45 rfl h
theorem eX5_firstTurn {G : jGT} {d : Nat} {x1 : Int32} {M : jM} {post : Int32 → jM → Prop} (h : kX5_firstTurn_0 G d  x1 M post) : CI G (d + 1) mX5_firstTurn [.ref 27, .int x1] M post := Con_of_J ok_X5_firstTurn 2 rfl rfl h
def kX5_firstUnlawful_0 (G : jGT) (d : Nat)   (M : jM) (post : Int32 → jM → Prop) : Prop := J G (d + 1) mX5_firstUnlawful 0 [some (.ref 27), none] [] jN jSH M jMR 0 0 0 0 (jQi post)
def kX5_firstUnlawful_2 (G : jGT) (d : Nat)  (x1 : Int32) (M : jM) (post : Int32 → jM → Prop) : Prop := J G (d + 1) mX5_firstUnlawful 2 [some (.ref 27), some (.int x1)] [] jN jSH M jMR 0 0 0 0 (jQi post)
theorem bX5_firstUnlawful_0 {G : jGT} {d : Nat}  {M : jM} {post : Int32 → jM → Prop} (h : kX5_firstUnlawful_2 G d (0 : Int32) M post) : kX5_firstUnlawful_0 G d   M post := by
  unfold kX5_firstUnlawful_0
  refine J_iconst (0 : Int32) dX5_firstUnlawful_0 (by decide) ?_
  refine J_istore_1 dX5_firstUnlawful_1 rfl ?_
  exact h
theorem bX5_firstUnlawful_2 {G : jGT} {d : Nat} {x1 : Int32} {M : jM} {post : Int32 → jM → Prop} (h : (if (M 27 6) ≤ x1 then post (-5 : Int32) M else (if (85 : Int32) ≤ x1 then post (-5 : Int32) M else (vp_in x1 85 ∧ CV G d mX6_begin [.ref 33, .int (M 31 x1.toNatClampNeg)] M (fun M1 => CV G d mX5_follow [.ref 27, .ref 33, .int x1] M1 (fun M2 => CI G d mX5_isFor [.ref 27, .ref 33] M2 (fun r3 M3 => (vp_in x1 85 ∧ (if r3 = (M3 32 x1.toNatClampNeg) then kX5_firstUnlawful_2 G d (x1 + (1 : Int32)) M3 post else post x1 M3))))))))) : kX5_firstUnlawful_2 G d  x1 M post := by
  unfold kX5_firstUnlawful_2
  refine J_iload_1 dX5_firstUnlawful_2 ?_
  refine J_aload_0 dX5_firstUnlawful_3 ?_
  refine J_getI dX5_firstUnlawful_4 fl_X5_31 jlt_27 jsh_27 (by decide) jrf_5_6 ?_
  refine J_icmp_ge (t := 63) dX5_firstUnlawful_7 (by decide) (fun c0 => ?_) (fun c0 => ?_)
  · replace h := ite_t c0 h
    refine J_bipush (-5 : Int32) dX5_firstUnlawful_63 (by decide) ?_
    exact K_iret dX5_firstUnlawful_65 rfl h
  · replace h := ite_f c0 h
    refine J_iload_1 dX5_firstUnlawful_10 ?_
    refine J_bipush (85 : Int32) dX5_firstUnlawful_11 (by decide) ?_
    refine J_icmp_ge (t := 63) dX5_firstUnlawful_13 (by decide) (fun c1 => ?_) (fun c1 => ?_)
    · replace h := ite_t c1 h
      refine J_bipush (-5 : Int32) dX5_firstUnlawful_63 (by decide) ?_
      exact K_iret dX5_firstUnlawful_65 rfl h
    · replace h := ite_f c1 h
      refine J_aload_0 dX5_firstUnlawful_16 ?_
      refine J_getR 33 dX5_firstUnlawful_17 fl_X5_44 jlt_27 jsh_27 (by decide) jrf_5_9 jmr_27_9 ?_
      refine J_aload_0 dX5_firstUnlawful_20 ?_
      refine J_getR 31 dX5_firstUnlawful_21 fl_X5_34 jlt_27 jsh_27 (by decide) jrf_5_7 jmr_27_7 ?_
      refine J_iload_1 dX5_firstUnlawful_24 ?_
      obtain ⟨g2, h⟩ := h
      refine K_iald x1.toNatClampNeg rfl dX5_firstUnlawful_25 jlt_31 jsh_31 g2 ?_
      refine K_callVV (As := [.int (M 31 x1.toNatClampNeg)]) (rest := []) dX5_firstUnlawful_26 vl_X5_149 jlt_33 jsh_33 _ rfl rfl h rfl rfl (Nat.le_of_ble_eq_true rfl) (fun M1 h => ?_)
      refine J_aload_0 dX5_firstUnlawful_29 ?_
      refine J_aload_0 dX5_firstUnlawful_30 ?_
      refine J_getR 33 dX5_firstUnlawful_31 fl_X5_44 jlt_27 jsh_27 (by decide) jrf_5_9 jmr_27_9 ?_
      refine J_iload_1 dX5_firstUnlawful_34 ?_
      refine K_callVV (As := [.ref 33, .int x1]) (rest := []) dX5_firstUnlawful_35 vl_X5_152 jlt_27 jsh_27 _ rfl rfl h rfl rfl (Nat.le_of_ble_eq_true rfl) (fun M2 h => ?_)
      refine J_aload_0 dX5_firstUnlawful_38 ?_
      refine J_aload_0 dX5_firstUnlawful_39 ?_
      refine J_getR 33 dX5_firstUnlawful_40 fl_X5_44 jlt_27 jsh_27 (by decide) jrf_5_9 jmr_27_9 ?_
      refine K_callVI (As := [.ref 33]) (rest := []) dX5_firstUnlawful_43 vl_X5_156 jlt_27 jsh_27 _ rfl rfl h rfl rfl (Nat.le_of_ble_eq_true rfl) (fun r3 M3 h => ?_)
      refine J_aload_0 dX5_firstUnlawful_46 ?_
      refine J_getR 32 dX5_firstUnlawful_47 fl_X5_37 jlt_27 jsh_27 (by decide) jrf_5_8 jmr_27_8 ?_
      refine J_iload_1 dX5_firstUnlawful_50 ?_
      obtain ⟨g3, h⟩ := h
      refine K_zald x1.toNatClampNeg rfl dX5_firstUnlawful_51 jlt_32 jsh_32 g3 ?_
      refine J_icmp_eq (t := 57) dX5_firstUnlawful_52 (by decide) (fun c4 => ?_) (fun c4 => ?_)
      · replace h := ite_t c4 h
        refine J_iinc_1 (1 : Int32) dX5_firstUnlawful_57 (by decide) rfl ?_
        refine J_goto (t := 2) dX5_firstUnlawful_60 (by decide) ?_
        exact h
      · replace h := ite_f c4 h
        refine J_iload_1 dX5_firstUnlawful_55 ?_
        exact K_iret dX5_firstUnlawful_56 rfl h
theorem eX5_firstUnlawful {G : jGT} {d : Nat}  {M : jM} {post : Int32 → jM → Prop} (h : kX5_firstUnlawful_0 G d   M post) : CI G (d + 1) mX5_firstUnlawful [.ref 27] M post := Con_of_J ok_X5_firstUnlawful 1 rfl rfl h
def kJ6_bitCount_0f7a4_0 (G : jGT) (d : Nat)  (x0 : Int32) (M : jM) (post : Int32 → jM → Prop) : Prop := J G d mJ6_bitCount_0f7a4 0 [some (.int x0)] [] jN jSH M jMR 0 0 0 0 (jQi post)
theorem bJ6_bitCount_0f7a4_0 {G : jGT} {d : Nat} {x0 : Int32} {M : jM} {post : Int32 → jM → Prop} (h : post ((((((((x0 - ((((x0).toUInt32 >>> (((1 : Int32)).toUInt32 &&& Int32.toUInt32 31)).toInt32) &&& (1431655765 : Int32))) &&& (858993459 : Int32)) + ((((x0 - ((((x0).toUInt32 >>> (((1 : Int32)).toUInt32 &&& Int32.toUInt32 31)).toInt32) &&& (1431655765 : Int32))).toUInt32 >>> (((2 : Int32)).toUInt32 &&& Int32.toUInt32 31)).toInt32) &&& (858993459 : Int32))) + (((((x0 - ((((x0).toUInt32 >>> (((1 : Int32)).toUInt32 &&& Int32.toUInt32 31)).toInt32) &&& (1431655765 : Int32))) &&& (858993459 : Int32)) + ((((x0 - ((((x0).toUInt32 >>> (((1 : Int32)).toUInt32 &&& Int32.toUInt32 31)).toInt32) &&& (1431655765 : Int32))).toUInt32 >>> (((2 : Int32)).toUInt32 &&& Int32.toUInt32 31)).toInt32) &&& (858993459 : Int32))).toUInt32 >>> (((4 : Int32)).toUInt32 &&& Int32.toUInt32 31)).toInt32)) &&& (252645135 : Int32)) + (((((((x0 - ((((x0).toUInt32 >>> (((1 : Int32)).toUInt32 &&& Int32.toUInt32 31)).toInt32) &&& (1431655765 : Int32))) &&& (858993459 : Int32)) + ((((x0 - ((((x0).toUInt32 >>> (((1 : Int32)).toUInt32 &&& Int32.toUInt32 31)).toInt32) &&& (1431655765 : Int32))).toUInt32 >>> (((2 : Int32)).toUInt32 &&& Int32.toUInt32 31)).toInt32) &&& (858993459 : Int32))) + (((((x0 - ((((x0).toUInt32 >>> (((1 : Int32)).toUInt32 &&& Int32.toUInt32 31)).toInt32) &&& (1431655765 : Int32))) &&& (858993459 : Int32)) + ((((x0 - ((((x0).toUInt32 >>> (((1 : Int32)).toUInt32 &&& Int32.toUInt32 31)).toInt32) &&& (1431655765 : Int32))).toUInt32 >>> (((2 : Int32)).toUInt32 &&& Int32.toUInt32 31)).toInt32) &&& (858993459 : Int32))).toUInt32 >>> (((4 : Int32)).toUInt32 &&& Int32.toUInt32 31)).toInt32)) &&& (252645135 : Int32)).toUInt32 >>> (((8 : Int32)).toUInt32 &&& Int32.toUInt32 31)).toInt32)) + ((((((((x0 - ((((x0).toUInt32 >>> (((1 : Int32)).toUInt32 &&& Int32.toUInt32 31)).toInt32) &&& (1431655765 : Int32))) &&& (858993459 : Int32)) + ((((x0 - ((((x0).toUInt32 >>> (((1 : Int32)).toUInt32 &&& Int32.toUInt32 31)).toInt32) &&& (1431655765 : Int32))).toUInt32 >>> (((2 : Int32)).toUInt32 &&& Int32.toUInt32 31)).toInt32) &&& (858993459 : Int32))) + (((((x0 - ((((x0).toUInt32 >>> (((1 : Int32)).toUInt32 &&& Int32.toUInt32 31)).toInt32) &&& (1431655765 : Int32))) &&& (858993459 : Int32)) + ((((x0 - ((((x0).toUInt32 >>> (((1 : Int32)).toUInt32 &&& Int32.toUInt32 31)).toInt32) &&& (1431655765 : Int32))).toUInt32 >>> (((2 : Int32)).toUInt32 &&& Int32.toUInt32 31)).toInt32) &&& (858993459 : Int32))).toUInt32 >>> (((4 : Int32)).toUInt32 &&& Int32.toUInt32 31)).toInt32)) &&& (252645135 : Int32)) + (((((((x0 - ((((x0).toUInt32 >>> (((1 : Int32)).toUInt32 &&& Int32.toUInt32 31)).toInt32) &&& (1431655765 : Int32))) &&& (858993459 : Int32)) + ((((x0 - ((((x0).toUInt32 >>> (((1 : Int32)).toUInt32 &&& Int32.toUInt32 31)).toInt32) &&& (1431655765 : Int32))).toUInt32 >>> (((2 : Int32)).toUInt32 &&& Int32.toUInt32 31)).toInt32) &&& (858993459 : Int32))) + (((((x0 - ((((x0).toUInt32 >>> (((1 : Int32)).toUInt32 &&& Int32.toUInt32 31)).toInt32) &&& (1431655765 : Int32))) &&& (858993459 : Int32)) + ((((x0 - ((((x0).toUInt32 >>> (((1 : Int32)).toUInt32 &&& Int32.toUInt32 31)).toInt32) &&& (1431655765 : Int32))).toUInt32 >>> (((2 : Int32)).toUInt32 &&& Int32.toUInt32 31)).toInt32) &&& (858993459 : Int32))).toUInt32 >>> (((4 : Int32)).toUInt32 &&& Int32.toUInt32 31)).toInt32)) &&& (252645135 : Int32)).toUInt32 >>> (((8 : Int32)).toUInt32 &&& Int32.toUInt32 31)).toInt32)).toUInt32 >>> (((16 : Int32)).toUInt32 &&& Int32.toUInt32 31)).toInt32)) &&& (63 : Int32)) M) : kJ6_bitCount_0f7a4_0 G d  x0 M post := by
  unfold kJ6_bitCount_0f7a4_0
  refine J_iload_0 dJ6_bitCount_0f7a4_0 ?_
  refine J_iload_0 dJ6_bitCount_0f7a4_1 ?_
  refine J_iconst (1 : Int32) dJ6_bitCount_0f7a4_2 (by decide) ?_
  refine J_iushr dJ6_bitCount_0f7a4_3 ?_
  refine J_ldcw (1431655765 : Int32) dJ6_bitCount_0f7a4_4 w_659 ?_
  refine J_iand dJ6_bitCount_0f7a4_7 ?_
  refine J_isub dJ6_bitCount_0f7a4_8 ?_
  refine J_istore_0 dJ6_bitCount_0f7a4_9 ?_
  refine J_iload_0 dJ6_bitCount_0f7a4_10 ?_
  refine J_ldcw (858993459 : Int32) dJ6_bitCount_0f7a4_11 w_660 ?_
  refine J_iand dJ6_bitCount_0f7a4_14 ?_
  refine J_iload_0 dJ6_bitCount_0f7a4_15 ?_
  refine J_iconst (2 : Int32) dJ6_bitCount_0f7a4_16 (by decide) ?_
  refine J_iushr dJ6_bitCount_0f7a4_17 ?_
  refine J_ldcw (858993459 : Int32) dJ6_bitCount_0f7a4_18 w_660 ?_
  refine J_iand dJ6_bitCount_0f7a4_21 ?_
  refine J_iadd dJ6_bitCount_0f7a4_22 ?_
  refine J_istore_0 dJ6_bitCount_0f7a4_23 ?_
  refine J_iload_0 dJ6_bitCount_0f7a4_24 ?_
  refine J_iload_0 dJ6_bitCount_0f7a4_25 ?_
  refine J_iconst (4 : Int32) dJ6_bitCount_0f7a4_26 (by decide) ?_
  refine J_iushr dJ6_bitCount_0f7a4_27 ?_
  refine J_iadd dJ6_bitCount_0f7a4_28 ?_
  refine J_ldcw (252645135 : Int32) dJ6_bitCount_0f7a4_29 w_661 ?_
  refine J_iand dJ6_bitCount_0f7a4_32 ?_
  refine J_istore_0 dJ6_bitCount_0f7a4_33 ?_
  refine J_iload_0 dJ6_bitCount_0f7a4_34 ?_
  refine J_iload_0 dJ6_bitCount_0f7a4_35 ?_
  refine J_bipush (8 : Int32) dJ6_bitCount_0f7a4_36 (by decide) ?_
  refine J_iushr dJ6_bitCount_0f7a4_38 ?_
  refine J_iadd dJ6_bitCount_0f7a4_39 ?_
  refine J_istore_0 dJ6_bitCount_0f7a4_40 ?_
  refine J_iload_0 dJ6_bitCount_0f7a4_41 ?_
  refine J_iload_0 dJ6_bitCount_0f7a4_42 ?_
  refine J_bipush (16 : Int32) dJ6_bitCount_0f7a4_43 (by decide) ?_
  refine J_iushr dJ6_bitCount_0f7a4_45 ?_
  refine J_iadd dJ6_bitCount_0f7a4_46 ?_
  refine J_istore_0 dJ6_bitCount_0f7a4_47 ?_
  refine J_iload_0 dJ6_bitCount_0f7a4_48 ?_
  refine J_bipush (63 : Int32) dJ6_bitCount_0f7a4_49 (by decide) ?_
  refine J_iand dJ6_bitCount_0f7a4_51 ?_
  exact K_iret dJ6_bitCount_0f7a4_52 rfl h
theorem eJ6_bitCount_0f7a4 {G : jGT} {d : Nat} {x0 : Int32} {M : jM} {post : Int32 → jM → Prop} (h : kJ6_bitCount_0f7a4_0 G d  x0 M post) : CI G d mJ6_bitCount_0f7a4 [.int x0] M post := Con_of_J ok_J6_bitCount_0f7a4 0 rfl rfl h
