def kX8_enter_0 (G : jGT) (d : Nat)  (x1 : Int32) (x2 : Int32) (M : jM) (post : Int32 → jM → Prop) : Prop := J G (d + 1) mX8_enter 0 [some (.ref 117), some (.int x1), some (.int x2)] [] jN jSH M jMR 0 0 0 0 (jQi post)
theorem bX8_enter_0 {G : jGT} {d : Nat} {x1 : Int32} {x2 : Int32} {M : jM} {post : Int32 → jM → Prop} (h : (if x1 = (-1 : Int32) then post (0 : Int32) (jup M 118 3 (0 : Int32)) else CI G d mX8_isSuit [.ref 117, .int x1] M (fun r1 M1 => (if r1 = 0 then post (-1 : Int32) M1 else (if (M1 118 3) = (24 : Int32) then post (-4 : Int32) M1 else CI G d mX8_enters [.ref 117, .int x1, .int x2] M1 (fun r2 M2 => post r2 M2)))))) : kX8_enter_0 G d  x1 x2 M post := by
  unfold kX8_enter_0
  refine J_iload_1 dX8_enter_0 ?_
  refine J_iconst (-1 : Int32) dX8_enter_1 (by decide) ?_
  refine J_icmp_ne (t := 14) dX8_enter_2 (by decide) (fun c0 => ?_) (fun c0 => ?_)
  · replace h := ite_f c0 h
    refine J_aload_0 dX8_enter_14 ?_
    refine J_iload_1 dX8_enter_15 ?_
    refine K_callVI (As := [.int x1]) (rest := []) dX8_enter_16 vl_X8_133 jlt_117 jsh_117 _ rfl rfl h rfl rfl (Nat.le_of_ble_eq_true rfl) (fun r1 M1 h => ?_)
    refine J_if_ne (t := 24) dX8_enter_19 (by decide) (fun c1 => ?_) (fun c1 => ?_)
    · replace h := ite_f c1 h
      refine J_aload_0 dX8_enter_24 ?_
      refine J_getR 118 dX8_enter_25 fl_X8_9 jlt_117 jsh_117 (by decide) jrf_8_1 jmr_117_1 ?_
      refine J_iconst (3 : Int32) dX8_enter_28 (by decide) ?_
      refine K_iald 3 rfl dX8_enter_29 jlt_118 jsh_118 (vp_lit (by decide)) ?_
      refine J_bipush (24 : Int32) dX8_enter_30 (by decide) ?_
      refine J_icmp_ne (t := 40) dX8_enter_32 (by decide) (fun c2 => ?_) (fun c2 => ?_)
      · replace h := ite_f c2 h
        refine J_aload_0 dX8_enter_40 ?_
        refine J_iload_1 dX8_enter_41 ?_
        refine J_iload_2 dX8_enter_42 ?_
        refine K_callVI (As := [.int x1, .int x2]) (rest := []) dX8_enter_43 vl_X8_197 jlt_117 jsh_117 _ rfl rfl h rfl rfl (Nat.le_of_ble_eq_true rfl) (fun r2 M2 h => ?_)
        exact K_iret dX8_enter_46 rfl h
      · replace h := ite_t c2 h
        refine J_bipush (-4 : Int32) dX8_enter_35 (by decide) ?_
        refine J_goto (t := 46) dX8_enter_37 (by decide) ?_
        exact K_iret dX8_enter_46 rfl h
    · replace h := ite_t c1 h
      refine J_iconst (-1 : Int32) dX8_enter_22 (by decide) ?_
      exact K_iret dX8_enter_23 rfl h
  · replace h := ite_t c0 h
    refine J_aload_0 dX8_enter_5 ?_
    refine J_getR 118 dX8_enter_6 fl_X8_9 jlt_117 jsh_117 (by decide) jrf_8_1 jmr_117_1 ?_
    refine J_iconst (3 : Int32) dX8_enter_9 (by decide) ?_
    refine J_iconst (0 : Int32) dX8_enter_10 (by decide) ?_
    refine K_iast 3 rfl dX8_enter_11 jlt_118 jsh_118 (vp_lit (by decide)) ?_
    refine J_iconst (0 : Int32) dX8_enter_12 (by decide) ?_
    exact K_iret dX8_enter_13 rfl h
theorem eX8_enter {G : jGT} {d : Nat} {x1 : Int32} {x2 : Int32} {M : jM} {post : Int32 → jM → Prop} (h : kX8_enter_0 G d  x1 x2 M post) : CI G (d + 1) mX8_enter [.ref 117, .int x1, .int x2] M post := Con_of_J ok_X8_enter 0 rfl rfl h
def kX8_entry_0 (G : jGT) (d : Nat)  (x1 : Int32) (M : jM) (post : Int32 → jM → Prop) : Prop := J G (d + 1) mX8_entry 0 [some (.ref 117), some (.int x1)] [] jN jSH M jMR 0 0 0 0 (jQi post)
theorem bX8_entry_0 {G : jGT} {d : Nat} {x1 : Int32} {M : jM} {post : Int32 → jM → Prop} (h : CI G d mX8_in [.int x1, .int (0 : Int32), .int ((M 118 3) - (1 : Int32))] M (fun r1 M1 => (if r1 = 0 then post (-1 : Int32) M1 else (vp_in ((50 : Int32) + x1) 916 ∧ (vp_in ((74 : Int32) + x1) 916 ∧ post (((2 : Int32) * (M1 118 (((50 : Int32) + x1).toNatClampNeg))) + (M1 118 (((74 : Int32) + x1).toNatClampNeg))) M1))))) : kX8_entry_0 G d  x1 M post := by
  unfold kX8_entry_0
  refine J_iload_1 dX8_entry_0 ?_
  refine J_iconst (0 : Int32) dX8_entry_1 (by decide) ?_
  refine J_aload_0 dX8_entry_2 ?_
  refine J_getR 118 dX8_entry_3 fl_X8_9 jlt_117 jsh_117 (by decide) jrf_8_1 jmr_117_1 ?_
  refine J_iconst (3 : Int32) dX8_entry_6 (by decide) ?_
  refine K_iald 3 rfl dX8_entry_7 jlt_118 jsh_118 (vp_lit (by decide)) ?_
  refine J_iconst (1 : Int32) dX8_entry_8 (by decide) ?_
  refine J_isub dX8_entry_9 ?_
  refine K_callSI (rest := []) dX8_entry_10 sl_X8_53 h rfl rfl (Nat.le_of_ble_eq_true rfl) (fun r1 M1 h => ?_)
  refine J_if_eq (t := 40) dX8_entry_13 (by decide) (fun c0 => ?_) (fun c0 => ?_)
  · replace h := ite_t c0 h
    refine J_iconst (-1 : Int32) dX8_entry_40 (by decide) ?_
    exact K_iret dX8_entry_41 rfl h
  · replace h := ite_f c0 h
    refine J_iconst (2 : Int32) dX8_entry_16 (by decide) ?_
    refine J_aload_0 dX8_entry_17 ?_
    refine J_getR 118 dX8_entry_18 fl_X8_9 jlt_117 jsh_117 (by decide) jrf_8_1 jmr_117_1 ?_
    refine J_bipush (50 : Int32) dX8_entry_21 (by decide) ?_
    refine J_iload_1 dX8_entry_23 ?_
    refine J_iadd dX8_entry_24 ?_
    obtain ⟨g1, h⟩ := h
    refine K_iald (((50 : Int32) + x1).toNatClampNeg) rfl dX8_entry_25 jlt_118 jsh_118 g1 ?_
    refine J_imul dX8_entry_26 ?_
    refine J_aload_0 dX8_entry_27 ?_
    refine J_getR 118 dX8_entry_28 fl_X8_9 jlt_117 jsh_117 (by decide) jrf_8_1 jmr_117_1 ?_
    refine J_bipush (74 : Int32) dX8_entry_31 (by decide) ?_
    refine J_iload_1 dX8_entry_33 ?_
    refine J_iadd dX8_entry_34 ?_
    obtain ⟨g2, h⟩ := h
    refine K_iald (((74 : Int32) + x1).toNatClampNeg) rfl dX8_entry_35 jlt_118 jsh_118 g2 ?_
    refine J_iadd dX8_entry_36 ?_
    refine J_goto (t := 41) dX8_entry_37 (by decide) ?_
    exact K_iret dX8_entry_41 rfl h
theorem eX8_entry {G : jGT} {d : Nat} {x1 : Int32} {M : jM} {post : Int32 → jM → Prop} (h : kX8_entry_0 G d  x1 M post) : CI G (d + 1) mX8_entry [.ref 117, .int x1] M post := Con_of_J ok_X8_entry 0 rfl rfl h
def kX8_ordersFrom_0 (G : jGT) (d : Nat)  (x1 : Int32) (x2 : Int32) (x3 : Int32) (x4 : Int32) (M : jM) (post : jM → Prop) : Prop := J G (d + 1) mX8_ordersFrom 0 [some (.ref 117), some (.int x1), some (.int x2), some (.int x3), some (.int x4), none, none] [] jN jSH M jMR 0 0 0 0 (jQv post)
def kX8_ordersFrom_22 (G : jGT) (d : Nat)  (x1 : Int32) (x2 : Int32) (x3 : Int32) (x4 : Int32) (x5 : Int32) (M : jM) (post : jM → Prop) : Prop := J G (d + 1) mX8_ordersFrom 22 [some (.ref 117), some (.int x1), some (.int x2), some (.int x3), some (.int x4), some (.int x5), none] [] jN jSH M jMR 0 0 0 0 (jQv post)
def kX8_ordersFrom_63 (G : jGT) (d : Nat)  (x1 : Int32) (x2 : Int32) (x3 : Int32) (x4 : Int32) (x5 : Int32) (M : jM) (post : jM → Prop) : Prop := J G (d + 1) mX8_ordersFrom 63 [some (.ref 117), some (.int x1), some (.int x2), some (.int x3), some (.int x4), some (.int x5), none] [] jN jSH M jMR 0 0 0 0 (jQv post)
theorem bX8_ordersFrom_0 {G : jGT} {d : Nat} {x1 : Int32} {x2 : Int32} {x3 : Int32} {x4 : Int32} {M : jM} {post : jM → Prop} (h : (if x2 = 0 then (if x4 ≤ (M 117 23) then kX8_ordersFrom_63 G d x1 x2 x3 x4 (0 : Int32) M post else kX8_ordersFrom_22 G d x1 x2 x3 x4 (0 : Int32) (jup M 117 23 x4) post) else kX8_ordersFrom_63 G d x1 x2 x3 x4 (0 : Int32) M post)) : kX8_ordersFrom_0 G d  x1 x2 x3 x4 M post := by
  unfold kX8_ordersFrom_0
  refine J_iload_2 dX8_ordersFrom_0 ?_
  refine J_if_ne (t := 60) dX8_ordersFrom_1 (by decide) (fun c0 => ?_) (fun c0 => ?_)
  · replace h := ite_f c0 h
    refine J_iconst (0 : Int32) dX8_ordersFrom_60 (by decide) ?_
    refine J_istore_5 dX8_ordersFrom_61 rfl ?_
    exact h
  · replace h := ite_t c0 h
    refine J_iload_4 dX8_ordersFrom_4 ?_
    refine J_aload_0 dX8_ordersFrom_6 ?_
    refine J_getI dX8_ordersFrom_7 fl_X8_201 jlt_117 jsh_117 (by decide) jrf_8_23 ?_
    refine J_icmp_le (t := 60) dX8_ordersFrom_10 (by decide) (fun c1 => ?_) (fun c1 => ?_)
    · replace h := ite_t c1 h
      refine J_iconst (0 : Int32) dX8_ordersFrom_60 (by decide) ?_
      refine J_istore_5 dX8_ordersFrom_61 rfl ?_
      exact h
    · replace h := ite_f c1 h
      refine J_aload_0 dX8_ordersFrom_13 ?_
      refine J_iload_4 dX8_ordersFrom_14 ?_
      refine J_putI false dX8_ordersFrom_16 pl_X8_201 jlt_117 jsh_117 (by decide) jrf_8_23 (fun q => absurd q (by decide)) ?_
      refine J_iconst (0 : Int32) dX8_ordersFrom_19 (by decide) ?_
      refine J_istore_5 dX8_ordersFrom_20 rfl ?_
      exact h
theorem bX8_ordersFrom_22 {G : jGT} {d : Nat} {x1 : Int32} {x2 : Int32} {x3 : Int32} {x4 : Int32} {x5 : Int32} {M : jM} {post : jM → Prop} (h : (if (6 : Int32) ≤ x5 then kX8_ordersFrom_63 G d x1 x2 x3 x4 (0 : Int32) M post else (if x3 ≤ x5 then (vp_in x5 6 ∧ kX8_ordersFrom_22 G d x1 x2 x3 x4 (x5 + (1 : Int32)) (jup M 127 x5.toNatClampNeg (-5 : Int32)) post) else (vp_in x5 6 ∧ (vp_in x5 6 ∧ kX8_ordersFrom_22 G d x1 x2 x3 x4 (x5 + (1 : Int32)) (jup M 127 x5.toNatClampNeg (M 126 x5.toNatClampNeg)) post))))) : kX8_ordersFrom_22 G d  x1 x2 x3 x4 x5 M post := by
  unfold kX8_ordersFrom_22
  refine J_iload_5 dX8_ordersFrom_22 ?_
  refine J_bipush (6 : Int32) dX8_ordersFrom_24 (by decide) ?_
  refine J_icmp_ge (t := 60) dX8_ordersFrom_26 (by decide) (fun c0 => ?_) (fun c0 => ?_)
  · replace h := ite_t c0 h
    refine J_iconst (0 : Int32) dX8_ordersFrom_60 (by decide) ?_
    refine J_istore_5 dX8_ordersFrom_61 rfl ?_
    exact h
  · replace h := ite_f c0 h
    refine J_aload_0 dX8_ordersFrom_29 ?_
    refine J_getR 127 dX8_ordersFrom_30 fl_X8_40 jlt_117 jsh_117 (by decide) jrf_8_22 jmr_117_22 ?_
    refine J_iload_5 dX8_ordersFrom_33 ?_
    refine J_iload_5 dX8_ordersFrom_35 ?_
    refine J_iload_3 dX8_ordersFrom_37 ?_
    refine J_icmp_ge (t := 51) dX8_ordersFrom_38 (by decide) (fun c1 => ?_) (fun c1 => ?_)
    · replace h := ite_t c1 h
      refine J_bipush (-5 : Int32) dX8_ordersFrom_51 (by decide) ?_
      obtain ⟨g2, h⟩ := h
      refine K_iast x5.toNatClampNeg rfl dX8_ordersFrom_53 jlt_127 jsh_127 g2 ?_
      refine J_iinc_5 (1 : Int32) dX8_ordersFrom_54 (by decide) rfl ?_
      refine J_goto (t := 22) dX8_ordersFrom_57 (by decide) ?_
      exact h
    · replace h := ite_f c1 h
      refine J_aload_0 dX8_ordersFrom_41 ?_
      refine J_getR 126 dX8_ordersFrom_42 fl_X8_37 jlt_117 jsh_117 (by decide) jrf_8_21 jmr_117_21 ?_
      refine J_iload_5 dX8_ordersFrom_45 ?_
      obtain ⟨g2, h⟩ := h
      refine K_iald x5.toNatClampNeg rfl dX8_ordersFrom_47 jlt_126 jsh_126 g2 ?_
      refine J_goto (t := 53) dX8_ordersFrom_48 (by decide) ?_
      obtain ⟨g3, h⟩ := h
      refine K_iast x5.toNatClampNeg rfl dX8_ordersFrom_53 jlt_127 jsh_127 g3 ?_
      refine J_iinc_5 (1 : Int32) dX8_ordersFrom_54 (by decide) rfl ?_
      refine J_goto (t := 22) dX8_ordersFrom_57 (by decide) ?_
      exact h
theorem bX8_ordersFrom_63 {G : jGT} {d : Nat} {x1 : Int32} {x2 : Int32} {x3 : Int32} {x4 : Int32} {x5 : Int32} {M : jM} {post : jM → Prop} (h : (if (M 118 0) ≤ x5 then post M else (if ((x2 >>> (x5 &&& 31)) &&& (1 : Int32)) = (1 : Int32) then (vp_in x3 6 ∧ (vp_in ((10 : Int32) + x5) 916 ∧ CI G d mX8_hears [.ref 117, .int x1, .int (M 118 (((10 : Int32) + x5).toNatClampNeg))] (jup M 126 x3.toNatClampNeg x5) (fun r1 M1 => (if r1 = 0 then CV G d mX8_ordersFrom [.ref 117, .int x1, .int (x2 &&& (((1 : Int32) <<< (x5 &&& 31)) ^^^ (-1 : Int32))), .int (x3 + (1 : Int32)), .int (x4 + (0 : Int32))] M1 (fun M2 => kX8_ordersFrom_63 G d x1 x2 x3 x4 (x5 + (1 : Int32)) (jup M2 117 18 ((M2 117 18) - (1 : Int32))) post) else (vp_in ((18 : Int32) + x5) 916 ∧ CV G d mX8_ordersFrom [.ref 117, .int x1, .int (x2 &&& (((1 : Int32) <<< (x5 &&& 31)) ^^^ (-1 : Int32))), .int (x3 + (1 : Int32)), .int (x4 + (M1 118 (((18 : Int32) + x5).toNatClampNeg)))] M1 (fun M3 => kX8_ordersFrom_63 G d x1 x2 x3 x4 (x5 + (1 : Int32)) (jup M3 117 18 ((M3 117 18) - (1 : Int32))) post)))))) else kX8_ordersFrom_63 G d x1 x2 x3 x4 (x5 + (1 : Int32)) M post))) : kX8_ordersFrom_63 G d  x1 x2 x3 x4 x5 M post := by
  unfold kX8_ordersFrom_63
  refine J_iload_5 dX8_ordersFrom_63 ?_
  refine J_aload_0 dX8_ordersFrom_65 ?_
  refine J_getR 118 dX8_ordersFrom_66 fl_X8_9 jlt_117 jsh_117 (by decide) jrf_8_1 jmr_117_1 ?_
  refine J_iconst (0 : Int32) dX8_ordersFrom_69 (by decide) ?_
  refine K_iald 0 rfl dX8_ordersFrom_70 jlt_118 jsh_118 (vp_lit (by decide)) ?_
  refine J_icmp_ge (t := 163) dX8_ordersFrom_71 (by decide) (fun c0 => ?_) (fun c0 => ?_)
  · replace h := ite_t c0 h
    exact K_ret dX8_ordersFrom_163 rfl h
  · replace h := ite_f c0 h
    refine J_iload_2 dX8_ordersFrom_74 ?_
    refine J_iload_5 dX8_ordersFrom_75 ?_
    refine J_ishr dX8_ordersFrom_77 ?_
    refine J_iconst (1 : Int32) dX8_ordersFrom_78 (by decide) ?_
    refine J_iand dX8_ordersFrom_79 ?_
    refine J_iconst (1 : Int32) dX8_ordersFrom_80 (by decide) ?_
    refine J_icmp_ne (t := 157) dX8_ordersFrom_81 (by decide) (fun c1 => ?_) (fun c1 => ?_)
    · replace h := ite_f c1 h
      refine J_iinc_5 (1 : Int32) dX8_ordersFrom_157 (by decide) rfl ?_
      refine J_goto (t := 63) dX8_ordersFrom_160 (by decide) ?_
      exact h
    · replace h := ite_t c1 h
      refine J_aload_0 dX8_ordersFrom_84 ?_
      refine J_getR 126 dX8_ordersFrom_85 fl_X8_37 jlt_117 jsh_117 (by decide) jrf_8_21 jmr_117_21 ?_
      refine J_iload_3 dX8_ordersFrom_88 ?_
      refine J_iload_5 dX8_ordersFrom_89 ?_
      obtain ⟨g2, h⟩ := h
      refine K_iast x3.toNatClampNeg rfl dX8_ordersFrom_91 jlt_126 jsh_126 g2 ?_
      refine J_aload_0 dX8_ordersFrom_92 ?_
      refine J_iload_1 dX8_ordersFrom_93 ?_
      refine J_aload_0 dX8_ordersFrom_94 ?_
      refine J_getR 118 dX8_ordersFrom_95 fl_X8_9 jlt_117 jsh_117 (by decide) jrf_8_1 jmr_117_1 ?_
      refine J_bipush (10 : Int32) dX8_ordersFrom_98 (by decide) ?_
      refine J_iload_5 dX8_ordersFrom_100 ?_
      refine J_iadd dX8_ordersFrom_102 ?_
      obtain ⟨g3, h⟩ := h
      refine K_iald (((10 : Int32) + x5).toNatClampNeg) rfl dX8_ordersFrom_103 jlt_118 jsh_118 g3 ?_
      refine K_callVI (As := [.int x1, .int (M 118 (((10 : Int32) + x5).toNatClampNeg))]) (rest := []) dX8_ordersFrom_104 vl_X8_204 jlt_117 jsh_117 _ rfl rfl h rfl rfl (Nat.le_of_ble_eq_true rfl) (fun r1 M1 h => ?_)
      refine J_istore_6 dX8_ordersFrom_107 rfl ?_
      refine J_aload_0 dX8_ordersFrom_109 ?_
      refine J_iload_1 dX8_ordersFrom_110 ?_
      refine J_iload_2 dX8_ordersFrom_111 ?_
      refine J_iconst (1 : Int32) dX8_ordersFrom_112 (by decide) ?_
      refine J_iload_5 dX8_ordersFrom_113 ?_
      refine J_ishl dX8_ordersFrom_115 ?_
      refine J_iconst (-1 : Int32) dX8_ordersFrom_116 (by decide) ?_
      refine J_ixor dX8_ordersFrom_117 ?_
      refine J_iand dX8_ordersFrom_118 ?_
      refine J_iload_3 dX8_ordersFrom_119 ?_
      refine J_iconst (1 : Int32) dX8_ordersFrom_120 (by decide) ?_
      refine J_iadd dX8_ordersFrom_121 ?_
      refine J_iload_4 dX8_ordersFrom_122 ?_
      refine J_iload_6 dX8_ordersFrom_124 ?_
      refine J_if_eq (t := 142) dX8_ordersFrom_126 (by decide) (fun c4 => ?_) (fun c4 => ?_)
      · replace h := ite_t c4 h
        refine J_iconst (0 : Int32) dX8_ordersFrom_142 (by decide) ?_
        refine J_iadd dX8_ordersFrom_143 ?_
        refine K_callVV (As := [.int x1, .int (x2 &&& (((1 : Int32) <<< (x5 &&& 31)) ^^^ (-1 : Int32))), .int (x3 + (1 : Int32)), .int (x4 + (0 : Int32))]) (rest := []) dX8_ordersFrom_144 vl_X8_207 jlt_117 jsh_117 _ rfl rfl h rfl rfl (Nat.le_of_ble_eq_true rfl) (fun M2 h => ?_)
        refine J_aload_0 dX8_ordersFrom_147 ?_
        refine J_dup dX8_ordersFrom_148 rfl ?_
        refine J_getI dX8_ordersFrom_149 fl_X8_161 jlt_117 jsh_117 (by decide) jrf_8_18 ?_
        refine J_iconst (1 : Int32) dX8_ordersFrom_152 (by decide) ?_
        refine J_isub dX8_ordersFrom_153 ?_
        refine J_putI false dX8_ordersFrom_154 pl_X8_161 jlt_117 jsh_117 (by decide) jrf_8_18 (fun q => absurd q (by decide)) ?_
        refine J_iinc_5 (1 : Int32) dX8_ordersFrom_157 (by decide) rfl ?_
        refine J_goto (t := 63) dX8_ordersFrom_160 (by decide) ?_
        exact J_weak (lv' := [some (.ref 117), some (.int x1), some (.int x2), some (.int x3), some (.int x4), some (.int (x5 + (1 : Int32))), none]) (And.intro rfl (And.intro rfl (And.intro rfl (And.intro rfl (And.intro rfl (And.intro rfl trivial)))))) h
      · replace h := ite_f c4 h
        refine J_aload_0 dX8_ordersFrom_129 ?_
        refine J_getR 118 dX8_ordersFrom_130 fl_X8_9 jlt_117 jsh_117 (by decide) jrf_8_1 jmr_117_1 ?_
        refine J_bipush (18 : Int32) dX8_ordersFrom_133 (by decide) ?_
        refine J_iload_5 dX8_ordersFrom_135 ?_
        refine J_iadd dX8_ordersFrom_137 ?_
        obtain ⟨g5, h⟩ := h
        refine K_iald (((18 : Int32) + x5).toNatClampNeg) rfl dX8_ordersFrom_138 jlt_118 jsh_118 g5 ?_
        refine J_goto (t := 143) dX8_ordersFrom_139 (by decide) ?_
        refine J_iadd dX8_ordersFrom_143 ?_
        refine K_callVV (As := [.int x1, .int (x2 &&& (((1 : Int32) <<< (x5 &&& 31)) ^^^ (-1 : Int32))), .int (x3 + (1 : Int32)), .int (x4 + (M1 118 (((18 : Int32) + x5).toNatClampNeg)))]) (rest := []) dX8_ordersFrom_144 vl_X8_207 jlt_117 jsh_117 _ rfl rfl h rfl rfl (Nat.le_of_ble_eq_true rfl) (fun M3 h => ?_)
        refine J_aload_0 dX8_ordersFrom_147 ?_
        refine J_dup dX8_ordersFrom_148 rfl ?_
        refine J_getI dX8_ordersFrom_149 fl_X8_161 jlt_117 jsh_117 (by decide) jrf_8_18 ?_
        refine J_iconst (1 : Int32) dX8_ordersFrom_152 (by decide) ?_
        refine J_isub dX8_ordersFrom_153 ?_
        refine J_putI false dX8_ordersFrom_154 pl_X8_161 jlt_117 jsh_117 (by decide) jrf_8_18 (fun q => absurd q (by decide)) ?_
        refine J_iinc_5 (1 : Int32) dX8_ordersFrom_157 (by decide) rfl ?_
        refine J_goto (t := 63) dX8_ordersFrom_160 (by decide) ?_
        exact J_weak (lv' := [some (.ref 117), some (.int x1), some (.int x2), some (.int x3), some (.int x4), some (.int (x5 + (1 : Int32))), none]) (And.intro rfl (And.intro rfl (And.intro rfl (And.intro rfl (And.intro rfl (And.intro rfl trivial)))))) h
theorem eX8_ordersFrom {G : jGT} {d : Nat} {x1 : Int32} {x2 : Int32} {x3 : Int32} {x4 : Int32} {M : jM} {post : jM → Prop} (h : kX8_ordersFrom_0 G d  x1 x2 x3 x4 M post) : CV G (d + 1) mX8_ordersFrom [.ref 117, .int x1, .int x2, .int x3, .int x4] M post := Con_of_J ok_X8_ordersFrom 2 rfl rfl h
def kX8_isSet_0 (G : jGT) (d : Nat)  (x1 : Int32) (M : jM) (post : Int32 → jM → Prop) : Prop := J G d mX8_isSet 0 [some (.ref 117), some (.int x1)] [] jN jSH M jMR 0 0 0 0 (jQi post)
theorem bX8_isSet_0 {G : jGT} {d : Nat} {x1 : Int32} {M : jM} {post : Int32 → jM → Prop} (h : (if x1 < 0 then post (0 : Int32) M else (if (x1 >>> ((M 118 0) &&& 31)) = 0 then post (1 : Int32) M else post (0 : Int32) M))) : kX8_isSet_0 G d  x1 M post := by
  unfold kX8_isSet_0
  refine J_iload_1 dX8_isSet_0 ?_
  refine J_if_lt (t := 19) dX8_isSet_1 (by decide) (fun c0 => ?_) (fun c0 => ?_)
  · replace h := ite_t c0 h
    refine J_iconst (0 : Int32) dX8_isSet_19 (by decide) ?_
    exact K_zret dX8_isSet_20 rfl (by decide +kernel) h
  · replace h := ite_f c0 h
    refine J_iload_1 dX8_isSet_4 ?_
    refine J_aload_0 dX8_isSet_5 ?_
    refine J_getR 118 dX8_isSet_6 fl_X8_9 jlt_117 jsh_117 (by decide) jrf_8_1 jmr_117_1 ?_
    refine J_iconst (0 : Int32) dX8_isSet_9 (by decide) ?_
    refine K_iald 0 rfl dX8_isSet_10 jlt_118 jsh_118 (vp_lit (by decide)) ?_
    refine J_ishr dX8_isSet_11 ?_
    refine J_if_ne (t := 19) dX8_isSet_12 (by decide) (fun c1 => ?_) (fun c1 => ?_)
    · replace h := ite_f c1 h
      refine J_iconst (0 : Int32) dX8_isSet_19 (by decide) ?_
      exact K_zret dX8_isSet_20 rfl (by decide +kernel) h
    · replace h := ite_t c1 h
      refine J_iconst (1 : Int32) dX8_isSet_15 (by decide) ?_
      refine J_goto (t := 20) dX8_isSet_16 (by decide) ?_
      exact K_zret dX8_isSet_20 rfl (by decide +kernel) h
theorem eX8_isSet {G : jGT} {d : Nat} {x1 : Int32} {M : jM} {post : Int32 → jM → Prop} (h : kX8_isSet_0 G d  x1 M post) : CI G d mX8_isSet [.ref 117, .int x1] M post := Con_of_J ok_X8_isSet 0 rfl rfl h
def kX8_best_0 (G : jGT) (d : Nat)  (x1 : Int32) (x2 : Int32) (x3 : Int32) (M : jM) (post : Int32 → jM → Prop) : Prop := J G (d + 1) mX8_best 0 [some (.ref 117), some (.int x1), some (.int x2), some (.int x3)] [] jN jSH M jMR 0 0 0 0 (jQi post)
theorem bX8_best_0 {G : jGT} {d : Nat} {x1 : Int32} {x2 : Int32} {x3 : Int32} {M : jM} {post : Int32 → jM → Prop} (h : CI G d mX8_isJudge [.ref 117, .int x1] M (fun r1 M1 => (if r1 = 0 then post (-100001 : Int32) M1 else CI G d mX8_in [.int x3, .int (-1 : Int32), .int (5 : Int32)] M1 (fun r2 M2 => (if r2 = 0 then post (-100001 : Int32) M2 else CI G d mX8_isSet [.ref 117, .int x2] M2 (fun r3 M3 => (if r3 = 0 then post (-100002 : Int32) M3 else CI G d mX8_count1 [.int x2] M3 (fun r4 M4 => (if r4 ≤ (6 : Int32) then CV G d mX8_looksFor [.ref 117, .int x1] M4 (fun M5 => CV G d mX8_opens [.ref 117] M5 (fun M6 => CV G d mX8_ordersFrom [.ref 117, .int x1, .int x2, .int (0 : Int32), .int (0 : Int32)] (jup M6 117 23 (-1 : Int32)) (fun M7 => (if x3 = (-1 : Int32) then post (M7 117 23) M7 else (vp_in x3 6 ∧ post (M7 127 x3.toNatClampNeg) M7))))) else post (-100002 : Int32) M4))))))))) : kX8_best_0 G d  x1 x2 x3 M post := by
  unfold kX8_best_0
  refine J_aload_0 dX8_best_0 ?_
  refine J_iload_1 dX8_best_1 ?_
  refine K_callVI (As := [.int x1]) (rest := []) dX8_best_2 vl_X8_137 jlt_117 jsh_117 _ rfl rfl h rfl rfl (Nat.le_of_ble_eq_true rfl) (fun r1 M1 h => ?_)
  refine J_if_eq (t := 17) dX8_best_5 (by decide) (fun c0 => ?_) (fun c0 => ?_)
  · replace h := ite_t c0 h
    refine J_ldc (-100001 : Int32) dX8_best_17 w_1113 ?_
    exact K_iret dX8_best_19 rfl h
  · replace h := ite_f c0 h
    refine J_iload_3 dX8_best_8 ?_
    refine J_iconst (-1 : Int32) dX8_best_9 (by decide) ?_
    refine J_iconst (5 : Int32) dX8_best_10 (by decide) ?_
    refine K_callSI (rest := []) dX8_best_11 sl_X8_53 h rfl rfl (Nat.le_of_ble_eq_true rfl) (fun r2 M2 h => ?_)
    refine J_if_ne (t := 20) dX8_best_14 (by decide) (fun c1 => ?_) (fun c1 => ?_)
    · replace h := ite_f c1 h
      refine J_aload_0 dX8_best_20 ?_
      refine J_iload_2 dX8_best_21 ?_
      refine K_callVI (As := [.int x2]) (rest := []) dX8_best_22 vl_X8_211 jlt_117 jsh_117 _ rfl rfl h rfl rfl (Nat.le_of_ble_eq_true rfl) (fun r3 M3 h => ?_)
      refine J_if_eq (t := 37) dX8_best_25 (by decide) (fun c2 => ?_) (fun c2 => ?_)
      · replace h := ite_t c2 h
        refine J_ldc (-100002 : Int32) dX8_best_37 w_1181 ?_
        exact K_iret dX8_best_39 rfl h
      · replace h := ite_f c2 h
        refine J_iload_2 dX8_best_28 ?_
        refine K_callSI (rest := []) dX8_best_29 sl_X8_178 h rfl rfl (Nat.le_of_ble_eq_true rfl) (fun r4 M4 h => ?_)
        refine J_bipush (6 : Int32) dX8_best_32 (by decide) ?_
        refine J_icmp_le (t := 40) dX8_best_34 (by decide) (fun c3 => ?_) (fun c3 => ?_)
        · replace h := ite_t c3 h
          refine J_aload_0 dX8_best_40 ?_
          refine J_iload_1 dX8_best_41 ?_
          refine K_callVV (As := [.int x1]) (rest := []) dX8_best_42 vl_X8_154 jlt_117 jsh_117 _ rfl rfl h rfl rfl (Nat.le_of_ble_eq_true rfl) (fun M5 h => ?_)
          refine J_aload_0 dX8_best_45 ?_
          refine K_callVV (As := []) (rest := []) dX8_best_46 vl_X8_194 jlt_117 jsh_117 _ rfl rfl h rfl rfl (Nat.le_of_ble_eq_true rfl) (fun M6 h => ?_)
          refine J_aload_0 dX8_best_49 ?_
          refine J_iconst (-1 : Int32) dX8_best_50 (by decide) ?_
          refine J_putI false dX8_best_51 pl_X8_201 jlt_117 jsh_117 (by decide) jrf_8_23 (fun q => absurd q (by decide)) ?_
          refine J_aload_0 dX8_best_54 ?_
          refine J_iload_1 dX8_best_55 ?_
          refine J_iload_2 dX8_best_56 ?_
          refine J_iconst (0 : Int32) dX8_best_57 (by decide) ?_
          refine J_iconst (0 : Int32) dX8_best_58 (by decide) ?_
          refine K_callVV (As := [.int x1, .int x2, .int (0 : Int32), .int (0 : Int32)]) (rest := []) dX8_best_59 vl_X8_207 jlt_117 jsh_117 _ rfl rfl h rfl rfl (Nat.le_of_ble_eq_true rfl) (fun M7 h => ?_)
          refine J_iload_3 dX8_best_62 ?_
          refine J_iconst (-1 : Int32) dX8_best_63 (by decide) ?_
          refine J_icmp_ne (t := 74) dX8_best_64 (by decide) (fun c4 => ?_) (fun c4 => ?_)
          · replace h := ite_f c4 h
            refine J_aload_0 dX8_best_74 ?_
            refine J_getR 127 dX8_best_75 fl_X8_40 jlt_117 jsh_117 (by decide) jrf_8_22 jmr_117_22 ?_
            refine J_iload_3 dX8_best_78 ?_
            obtain ⟨g5, h⟩ := h
            refine K_iald x3.toNatClampNeg rfl dX8_best_79 jlt_127 jsh_127 g5 ?_
            exact K_iret dX8_best_80 rfl h
          · replace h := ite_t c4 h
            refine J_aload_0 dX8_best_67 ?_
            refine J_getI dX8_best_68 fl_X8_201 jlt_117 jsh_117 (by decide) jrf_8_23 ?_
            refine J_goto (t := 80) dX8_best_71 (by decide) ?_
            exact K_iret dX8_best_80 rfl h
        · replace h := ite_f c3 h
          refine J_ldc (-100002 : Int32) dX8_best_37 w_1181 ?_
          exact K_iret dX8_best_39 rfl h
    · replace h := ite_t c1 h
      refine J_ldc (-100001 : Int32) dX8_best_17 w_1113 ?_
      exact K_iret dX8_best_19 rfl h
theorem eX8_best {G : jGT} {d : Nat} {x1 : Int32} {x2 : Int32} {x3 : Int32} {M : jM} {post : Int32 → jM → Prop} (h : kX8_best_0 G d  x1 x2 x3 M post) : CI G (d + 1) mX8_best [.ref 117, .int x1, .int x2, .int x3] M post := Con_of_J ok_X8_best 0 rfl rfl h
def kX8_looksForShams_0 (G : jGT) (d : Nat)  (x1 : Int32) (x2 : Int32) (M : jM) (post : Int32 → jM → Prop) : Prop := J G (d + 1) mX8_looksForShams 0 [some (.ref 117), some (.int x1), some (.int x2), none, none, none] [] jN jSH M jMR 0 0 0 0 (jQi post)
def kX8_looksForShams_13 (G : jGT) (d : Nat)  (x1 : Int32) (x2 : Int32) (x3 : Int32) (M : jM) (post : Int32 → jM → Prop) : Prop := J G (d + 1) mX8_looksForShams 13 [some (.ref 117), some (.int x1), some (.int x2), some (.int x3), none, none] [] jN jSH M jMR 0 0 0 0 (jQi post)
def kX8_looksForShams_66 (G : jGT) (d : Nat)  (x1 : Int32) (x2 : Int32) (x3 : Int32) (M : jM) (post : Int32 → jM → Prop) : Prop := J G (d + 1) mX8_looksForShams 66 [some (.ref 117), some (.int x1), some (.int x2), some (.int x3), none, none] [] jN jSH M jMR 0 0 0 0 (jQi post)
def kX8_looksForShams_82 (G : jGT) (d : Nat)  (x1 : Int32) (x2 : Int32) (x3 : Int32) (x4 : Int32) (M : jM) (post : Int32 → jM → Prop) : Prop := J G (d + 1) mX8_looksForShams 82 [some (.ref 117), some (.int x1), some (.int x2), some (.int x3), some (.int x4), none] [] jN jSH M jMR 0 0 0 0 (jQi post)
theorem bX8_looksForShams_0 {G : jGT} {d : Nat} {x1 : Int32} {x2 : Int32} {M : jM} {post : Int32 → jM → Prop} (h : CI G d mX8_isForIt [.ref 117, .int x1, .int x2] M (fun r1 M1 => (if r1 = 0 then kX8_looksForShams_13 G d x1 x2 (0 : Int32) M1 post else post (0 : Int32) M1))) : kX8_looksForShams_0 G d  x1 x2 M post := by
  unfold kX8_looksForShams_0
  refine J_aload_0 dX8_looksForShams_0 ?_
  refine J_iload_1 dX8_looksForShams_1 ?_
  refine J_iload_2 dX8_looksForShams_2 ?_
  refine K_callVI (As := [.int x1, .int x2]) (rest := []) dX8_looksForShams_3 vl_X8_191 jlt_117 jsh_117 _ rfl rfl h rfl rfl (Nat.le_of_ble_eq_true rfl) (fun r1 M1 h => ?_)
  refine J_if_eq (t := 11) dX8_looksForShams_6 (by decide) (fun c0 => ?_) (fun c0 => ?_)
  · replace h := ite_t c0 h
    refine J_iconst (0 : Int32) dX8_looksForShams_11 (by decide) ?_
    refine J_istore_3 dX8_looksForShams_12 rfl ?_
    exact h
  · replace h := ite_f c0 h
    refine J_iconst (0 : Int32) dX8_looksForShams_9 (by decide) ?_
    exact K_iret dX8_looksForShams_10 rfl h
theorem bX8_looksForShams_13 {G : jGT} {d : Nat} {x1 : Int32} {x2 : Int32} {x3 : Int32} {M : jM} {post : Int32 → jM → Prop} (h : (if (64 : Int32) ≤ x3 then kX8_looksForShams_66 G d x1 x2 (0 : Int32) M post else CI G d mX8_hears [.ref 117, .int x1, .int x3] M (fun r1 M1 => CI G d mX8_isForIt [.ref 117, .int x1, .int x2] M1 (fun r2 M2 => (if r2 = 0 then kX8_looksForShams_13 G d x1 x2 (x3 + (1 : Int32)) (jup M2 117 18 ((M2 117 18) - (1 : Int32))) post else post (1 : Int32) (jup (jup M2 117 18 ((M2 117 18) - (1 : Int32))) 128 0 x3)))))) : kX8_looksForShams_13 G d  x1 x2 x3 M post := by
  unfold kX8_looksForShams_13
  refine J_iload_3 dX8_looksForShams_13 ?_
  refine J_bipush (64 : Int32) dX8_looksForShams_14 (by decide) ?_
  refine J_icmp_ge (t := 64) dX8_looksForShams_16 (by decide) (fun c0 => ?_) (fun c0 => ?_)
  · replace h := ite_t c0 h
    refine J_iconst (0 : Int32) dX8_looksForShams_64 (by decide) ?_
    refine J_istore_3 dX8_looksForShams_65 rfl ?_
    exact h
  · replace h := ite_f c0 h
    refine J_aload_0 dX8_looksForShams_19 ?_
    refine J_iload_1 dX8_looksForShams_20 ?_
    refine J_iload_3 dX8_looksForShams_21 ?_
    refine K_callVI (As := [.int x1, .int x3]) (rest := []) dX8_looksForShams_22 vl_X8_204 jlt_117 jsh_117 _ rfl rfl h rfl rfl (Nat.le_of_ble_eq_true rfl) (fun r1 M1 h => ?_)
    refine J_pop dX8_looksForShams_25 rfl ?_
    refine J_aload_0 dX8_looksForShams_26 ?_
    refine J_iload_1 dX8_looksForShams_27 ?_
    refine J_iload_2 dX8_looksForShams_28 ?_
    refine K_callVI (As := [.int x1, .int x2]) (rest := []) dX8_looksForShams_29 vl_X8_191 jlt_117 jsh_117 _ rfl rfl h rfl rfl (Nat.le_of_ble_eq_true rfl) (fun r2 M2 h => ?_)
    refine J_istore_4 dX8_looksForShams_32 rfl ?_
    refine J_aload_0 dX8_looksForShams_34 ?_
    refine J_dup dX8_looksForShams_35 rfl ?_
    refine J_getI dX8_looksForShams_36 fl_X8_161 jlt_117 jsh_117 (by decide) jrf_8_18 ?_
    refine J_iconst (1 : Int32) dX8_looksForShams_39 (by decide) ?_
    refine J_isub dX8_looksForShams_40 ?_
    refine J_putI false dX8_looksForShams_41 pl_X8_161 jlt_117 jsh_117 (by decide) jrf_8_18 (fun q => absurd q (by decide)) ?_
    refine J_iload_4 dX8_looksForShams_44 ?_
    refine J_if_eq (t := 58) dX8_looksForShams_46 (by decide) (fun c1 => ?_) (fun c1 => ?_)
    · replace h := ite_t c1 h
      refine J_iinc_3 (1 : Int32) dX8_looksForShams_58 (by decide) rfl ?_
      refine J_goto (t := 13) dX8_looksForShams_61 (by decide) ?_
      exact J_weak (lv' := [some (.ref 117), some (.int x1), some (.int x2), some (.int (x3 + (1 : Int32))), none, none]) (And.intro rfl (And.intro rfl (And.intro rfl (And.intro rfl trivial)))) h
    · replace h := ite_f c1 h
      refine J_aload_0 dX8_looksForShams_49 ?_
      refine J_getR 128 dX8_looksForShams_50 fl_X8_43 jlt_117 jsh_117 (by decide) jrf_8_24 jmr_117_24 ?_
      refine J_iconst (0 : Int32) dX8_looksForShams_53 (by decide) ?_
      refine J_iload_3 dX8_looksForShams_54 ?_
      refine K_iast 0 rfl dX8_looksForShams_55 jlt_128 jsh_128 (vp_lit (by decide)) ?_
      refine J_iconst (1 : Int32) dX8_looksForShams_56 (by decide) ?_
      exact K_iret dX8_looksForShams_57 rfl h
theorem bX8_looksForShams_66 {G : jGT} {d : Nat} {x1 : Int32} {x2 : Int32} {x3 : Int32} {M : jM} {post : Int32 → jM → Prop} (h : (if (64 : Int32) ≤ x3 then post (-5 : Int32) M else CI G d mX8_hears [.ref 117, .int x1, .int x3] M (fun r1 M1 => kX8_looksForShams_82 G d x1 x2 x3 (0 : Int32) M1 post))) : kX8_looksForShams_66 G d  x1 x2 x3 M post := by
  unfold kX8_looksForShams_66
  refine J_iload_3 dX8_looksForShams_66 ?_
  refine J_bipush (64 : Int32) dX8_looksForShams_67 (by decide) ?_
  refine J_icmp_ge (t := 159) dX8_looksForShams_69 (by decide) (fun c0 => ?_) (fun c0 => ?_)
  · replace h := ite_t c0 h
    refine J_bipush (-5 : Int32) dX8_looksForShams_159 (by decide) ?_
    exact K_iret dX8_looksForShams_161 rfl h
  · replace h := ite_f c0 h
    refine J_aload_0 dX8_looksForShams_72 ?_
    refine J_iload_1 dX8_looksForShams_73 ?_
    refine J_iload_3 dX8_looksForShams_74 ?_
    refine K_callVI (As := [.int x1, .int x3]) (rest := []) dX8_looksForShams_75 vl_X8_204 jlt_117 jsh_117 _ rfl rfl h rfl rfl (Nat.le_of_ble_eq_true rfl) (fun r1 M1 h => ?_)
    refine J_pop dX8_looksForShams_78 rfl ?_
    refine J_iconst (0 : Int32) dX8_looksForShams_79 (by decide) ?_
    refine J_istore_4 dX8_looksForShams_80 rfl ?_
    exact h
theorem bX8_looksForShams_82 {G : jGT} {d : Nat} {x1 : Int32} {x2 : Int32} {x3 : Int32} {x4 : Int32} {M : jM} {post : Int32 → jM → Prop} (h : (if (64 : Int32) ≤ x4 then kX8_looksForShams_66 G d x1 x2 (x3 + (1 : Int32)) (jup M 117 18 ((M 117 18) - (1 : Int32))) post else CI G d mX8_hears [.ref 117, .int x1, .int x4] M (fun r1 M1 => CI G d mX8_isForIt [.ref 117, .int x1, .int x2] M1 (fun r2 M2 => (if r2 = 0 then kX8_looksForShams_82 G d x1 x2 x3 (x4 + (1 : Int32)) (jup M2 117 18 ((M2 117 18) - (1 : Int32))) post else post (2 : Int32) (jup (jup (jup M2 117 18 ((M2 117 18) - (1 : Int32))) 128 0 x3) 128 1 x4)))))) : kX8_looksForShams_82 G d  x1 x2 x3 x4 M post := by
  unfold kX8_looksForShams_82
  refine J_iload_4 dX8_looksForShams_82 ?_
  refine J_bipush (64 : Int32) dX8_looksForShams_84 (by decide) ?_
  refine J_icmp_ge (t := 143) dX8_looksForShams_86 (by decide) (fun c0 => ?_) (fun c0 => ?_)
  · replace h := ite_t c0 h
    refine J_aload_0 dX8_looksForShams_143 ?_
    refine J_dup dX8_looksForShams_144 rfl ?_
    refine J_getI dX8_looksForShams_145 fl_X8_161 jlt_117 jsh_117 (by decide) jrf_8_18 ?_
    refine J_iconst (1 : Int32) dX8_looksForShams_148 (by decide) ?_
    refine J_isub dX8_looksForShams_149 ?_
    refine J_putI false dX8_looksForShams_150 pl_X8_161 jlt_117 jsh_117 (by decide) jrf_8_18 (fun q => absurd q (by decide)) ?_
    refine J_iinc_3 (1 : Int32) dX8_looksForShams_153 (by decide) rfl ?_
    refine J_goto (t := 66) dX8_looksForShams_156 (by decide) ?_
    exact J_weak (lv' := [some (.ref 117), some (.int x1), some (.int x2), some (.int (x3 + (1 : Int32))), none, none]) (And.intro rfl (And.intro rfl (And.intro rfl (And.intro rfl trivial)))) h
  · replace h := ite_f c0 h
    refine J_aload_0 dX8_looksForShams_89 ?_
    refine J_iload_1 dX8_looksForShams_90 ?_
    refine J_iload_4 dX8_looksForShams_91 ?_
    refine K_callVI (As := [.int x1, .int x4]) (rest := []) dX8_looksForShams_93 vl_X8_204 jlt_117 jsh_117 _ rfl rfl h rfl rfl (Nat.le_of_ble_eq_true rfl) (fun r1 M1 h => ?_)
    refine J_pop dX8_looksForShams_96 rfl ?_
    refine J_aload_0 dX8_looksForShams_97 ?_
    refine J_iload_1 dX8_looksForShams_98 ?_
    refine J_iload_2 dX8_looksForShams_99 ?_
    refine K_callVI (As := [.int x1, .int x2]) (rest := []) dX8_looksForShams_100 vl_X8_191 jlt_117 jsh_117 _ rfl rfl h rfl rfl (Nat.le_of_ble_eq_true rfl) (fun r2 M2 h => ?_)
    refine J_istore_5 dX8_looksForShams_103 rfl ?_
    refine J_aload_0 dX8_looksForShams_105 ?_
    refine J_dup dX8_looksForShams_106 rfl ?_
    refine J_getI dX8_looksForShams_107 fl_X8_161 jlt_117 jsh_117 (by decide) jrf_8_18 ?_
    refine J_iconst (1 : Int32) dX8_looksForShams_110 (by decide) ?_
    refine J_isub dX8_looksForShams_111 ?_
    refine J_putI false dX8_looksForShams_112 pl_X8_161 jlt_117 jsh_117 (by decide) jrf_8_18 (fun q => absurd q (by decide)) ?_
    refine J_iload_5 dX8_looksForShams_115 ?_
    refine J_if_eq (t := 137) dX8_looksForShams_117 (by decide) (fun c1 => ?_) (fun c1 => ?_)
    · replace h := ite_t c1 h
      refine J_iinc_4 (1 : Int32) dX8_looksForShams_137 (by decide) rfl ?_
      refine J_goto (t := 82) dX8_looksForShams_140 (by decide) ?_
      exact J_weak (lv' := [some (.ref 117), some (.int x1), some (.int x2), some (.int x3), some (.int (x4 + (1 : Int32))), none]) (And.intro rfl (And.intro rfl (And.intro rfl (And.intro rfl (And.intro rfl trivial))))) h
    · replace h := ite_f c1 h
      refine J_aload_0 dX8_looksForShams_120 ?_
      refine J_getR 128 dX8_looksForShams_121 fl_X8_43 jlt_117 jsh_117 (by decide) jrf_8_24 jmr_117_24 ?_
      refine J_iconst (0 : Int32) dX8_looksForShams_124 (by decide) ?_
      refine J_iload_3 dX8_looksForShams_125 ?_
      refine K_iast 0 rfl dX8_looksForShams_126 jlt_128 jsh_128 (vp_lit (by decide)) ?_
      refine J_aload_0 dX8_looksForShams_127 ?_
      refine J_getR 128 dX8_looksForShams_128 fl_X8_43 jlt_117 jsh_117 (by decide) jrf_8_24 jmr_117_24 ?_
      refine J_iconst (1 : Int32) dX8_looksForShams_131 (by decide) ?_
      refine J_iload_4 dX8_looksForShams_132 ?_
      refine K_iast 1 rfl dX8_looksForShams_134 jlt_128 jsh_128 (vp_lit (by decide)) ?_
      refine J_iconst (2 : Int32) dX8_looksForShams_135 (by decide) ?_
      exact K_iret dX8_looksForShams_136 rfl h
theorem eX8_looksForShams {G : jGT} {d : Nat} {x1 : Int32} {x2 : Int32} {M : jM} {post : Int32 → jM → Prop} (h : kX8_looksForShams_0 G d  x1 x2 M post) : CI G (d + 1) mX8_looksForShams [.ref 117, .int x1, .int x2] M post := Con_of_J ok_X8_looksForShams 3 rfl rfl h
def kX8_shams_0 (G : jGT) (d : Nat)  (x1 : Int32) (x2 : Int32) (x3 : Int32) (M : jM) (post : Int32 → jM → Prop) : Prop := J G (d + 1) mX8_shams 0 [some (.ref 117), some (.int x1), some (.int x2), some (.int x3), none] [] jN jSH M jMR 0 0 0 0 (jQi post)
theorem bX8_shams_0 {G : jGT} {d : Nat} {x1 : Int32} {x2 : Int32} {x3 : Int32} {M : jM} {post : Int32 → jM → Prop} (h : CI G d mX8_isJudge [.ref 117, .int x1] M (fun r1 M1 => (if r1 = 0 then post (-1 : Int32) M1 else CI G d mX8_isSuit [.ref 117, .int x2] M1 (fun r2 M2 => (if r2 = 0 then post (-1 : Int32) M2 else CI G d mX8_in [.int x3, .int (-1 : Int32), .int (1 : Int32)] M2 (fun r3 M3 => (if r3 = 0 then post (-1 : Int32) M3 else CV G d mX8_looksFor [.ref 117, .int x1] M3 (fun M4 => CV G d mX8_opens [.ref 117] M4 (fun M5 => (vp_in ((10 : Int32) + x2) 916 ∧ CI G d mX8_looksForShams [.ref 117, .int x1, .int (M5 118 (((10 : Int32) + x2).toNatClampNeg))] M5 (fun r6 M6 => (if x3 = (-1 : Int32) then post r6 M6 else (if r6 ≤ x3 then post (-5 : Int32) M6 else (vp_in x3 2 ∧ post (M6 128 x3.toNatClampNeg) M6)))))))))))))) : kX8_shams_0 G d  x1 x2 x3 M post := by
  unfold kX8_shams_0
  refine J_aload_0 dX8_shams_0 ?_
  refine J_iload_1 dX8_shams_1 ?_
  refine K_callVI (As := [.int x1]) (rest := []) dX8_shams_2 vl_X8_137 jlt_117 jsh_117 _ rfl rfl h rfl rfl (Nat.le_of_ble_eq_true rfl) (fun r1 M1 h => ?_)
  refine J_if_eq (t := 25) dX8_shams_5 (by decide) (fun c0 => ?_) (fun c0 => ?_)
  · replace h := ite_t c0 h
    refine J_iconst (-1 : Int32) dX8_shams_25 (by decide) ?_
    exact K_iret dX8_shams_26 rfl h
  · replace h := ite_f c0 h
    refine J_aload_0 dX8_shams_8 ?_
    refine J_iload_2 dX8_shams_9 ?_
    refine K_callVI (As := [.int x2]) (rest := []) dX8_shams_10 vl_X8_133 jlt_117 jsh_117 _ rfl rfl h rfl rfl (Nat.le_of_ble_eq_true rfl) (fun r2 M2 h => ?_)
    refine J_if_eq (t := 25) dX8_shams_13 (by decide) (fun c1 => ?_) (fun c1 => ?_)
    · replace h := ite_t c1 h
      refine J_iconst (-1 : Int32) dX8_shams_25 (by decide) ?_
      exact K_iret dX8_shams_26 rfl h
    · replace h := ite_f c1 h
      refine J_iload_3 dX8_shams_16 ?_
      refine J_iconst (-1 : Int32) dX8_shams_17 (by decide) ?_
      refine J_iconst (1 : Int32) dX8_shams_18 (by decide) ?_
      refine K_callSI (rest := []) dX8_shams_19 sl_X8_53 h rfl rfl (Nat.le_of_ble_eq_true rfl) (fun r3 M3 h => ?_)
      refine J_if_ne (t := 27) dX8_shams_22 (by decide) (fun c2 => ?_) (fun c2 => ?_)
      · replace h := ite_f c2 h
        refine J_aload_0 dX8_shams_27 ?_
        refine J_iload_1 dX8_shams_28 ?_
        refine K_callVV (As := [.int x1]) (rest := []) dX8_shams_29 vl_X8_154 jlt_117 jsh_117 _ rfl rfl h rfl rfl (Nat.le_of_ble_eq_true rfl) (fun M4 h => ?_)
        refine J_aload_0 dX8_shams_32 ?_
        refine K_callVV (As := []) (rest := []) dX8_shams_33 vl_X8_194 jlt_117 jsh_117 _ rfl rfl h rfl rfl (Nat.le_of_ble_eq_true rfl) (fun M5 h => ?_)
        refine J_aload_0 dX8_shams_36 ?_
        refine J_iload_1 dX8_shams_37 ?_
        refine J_aload_0 dX8_shams_38 ?_
        refine J_getR 118 dX8_shams_39 fl_X8_9 jlt_117 jsh_117 (by decide) jrf_8_1 jmr_117_1 ?_
        refine J_bipush (10 : Int32) dX8_shams_42 (by decide) ?_
        refine J_iload_2 dX8_shams_44 ?_
        refine J_iadd dX8_shams_45 ?_
        obtain ⟨g3, h⟩ := h
        refine K_iald (((10 : Int32) + x2).toNatClampNeg) rfl dX8_shams_46 jlt_118 jsh_118 g3 ?_
        refine K_callVI (As := [.int x1, .int (M5 118 (((10 : Int32) + x2).toNatClampNeg))]) (rest := []) dX8_shams_47 vl_X8_215 jlt_117 jsh_117 _ rfl rfl h rfl rfl (Nat.le_of_ble_eq_true rfl) (fun r6 M6 h => ?_)
        refine J_istore_4 dX8_shams_50 rfl ?_
        refine J_iload_3 dX8_shams_52 ?_
        refine J_iconst (-1 : Int32) dX8_shams_53 (by decide) ?_
        refine J_icmp_ne (t := 62) dX8_shams_54 (by decide) (fun c4 => ?_) (fun c4 => ?_)
        · replace h := ite_f c4 h
          refine J_iload_3 dX8_shams_62 ?_
          refine J_iload_4 dX8_shams_63 ?_
          refine J_icmp_ge (t := 77) dX8_shams_65 (by decide) (fun c5 => ?_) (fun c5 => ?_)
          · replace h := ite_t c5 h
            refine J_bipush (-5 : Int32) dX8_shams_77 (by decide) ?_
            exact K_iret dX8_shams_79 rfl h
          · replace h := ite_f c5 h
            refine J_aload_0 dX8_shams_68 ?_
            refine J_getR 128 dX8_shams_69 fl_X8_43 jlt_117 jsh_117 (by decide) jrf_8_24 jmr_117_24 ?_
            refine J_iload_3 dX8_shams_72 ?_
            obtain ⟨g6, h⟩ := h
            refine K_iald x3.toNatClampNeg rfl dX8_shams_73 jlt_128 jsh_128 g6 ?_
            refine J_goto (t := 79) dX8_shams_74 (by decide) ?_
            exact K_iret dX8_shams_79 rfl h
        · replace h := ite_t c4 h
          refine J_iload_4 dX8_shams_57 ?_
          refine J_goto (t := 79) dX8_shams_59 (by decide) ?_
          exact K_iret dX8_shams_79 rfl h
      · replace h := ite_t c2 h
        refine J_iconst (-1 : Int32) dX8_shams_25 (by decide) ?_
        exact K_iret dX8_shams_26 rfl h
theorem eX8_shams {G : jGT} {d : Nat} {x1 : Int32} {x2 : Int32} {x3 : Int32} {M : jM} {post : Int32 → jM → Prop} (h : kX8_shams_0 G d  x1 x2 x3 M post) : CI G (d + 1) mX8_shams [.ref 117, .int x1, .int x2, .int x3] M post := Con_of_J ok_X8_shams 1 rfl rfl h
def kX8_point_0 (G : jGT) (d : Nat)  (x1 : Int32) (x2 : Int32) (x3 : Int32) (M : jM) (post : Int32 → jM → Prop) : Prop := J G (d + 1) mX8_point 0 [some (.ref 117), some (.int x1), some (.int x2), some (.int x3), none, none] [] jN jSH M jMR 0 0 0 0 (jQi post)
def kX8_point_63 (G : jGT) (d : Nat)  (x1 : Int32) (x2 : Int32) (x3 : Int32) (x4 : Int32) (x5 : Int32) (M : jM) (post : Int32 → jM → Prop) : Prop := J G (d + 1) mX8_point 63 [some (.ref 117), some (.int x1), some (.int x2), some (.int x3), some (.int x4), some (.int x5)] [] jN jSH M jMR 0 0 0 0 (jQi post)
theorem bX8_point_0 {G : jGT} {d : Nat} {x1 : Int32} {x2 : Int32} {x3 : Int32} {M : jM} {post : Int32 → jM → Prop} (h : CI G d mX8_isJudge [.ref 117, .int x1] M (fun r1 M1 => (if r1 = 0 then post (-1 : Int32) M1 else CI G d mX8_isSuit [.ref 117, .int x2] M1 (fun r2 M2 => (if r2 = 0 then post (-1 : Int32) M2 else CI G d mX8_in [.int x3, .int (0 : Int32), .int (1 : Int32)] M2 (fun r3 M3 => (if r3 = 0 then post (-1 : Int32) M3 else CV G d mX8_looksFor [.ref 117, .int x1] M3 (fun M4 => CV G d mX8_opens [.ref 117] M4 (fun M5 => (vp_in ((10 : Int32) + x2) 916 ∧ CI G d mX8_isForIt [.ref 117, .int x1, .int (M5 118 (((10 : Int32) + x2).toNatClampNeg))] M5 (fun r6 M6 => (if r6 = 0 then kX8_point_63 G d x1 x2 x3 (M5 118 (((10 : Int32) + x2).toNatClampNeg)) (0 : Int32) M6 post else post (8 : Int32) M6)))))))))))) : kX8_point_0 G d  x1 x2 x3 M post := by
  unfold kX8_point_0
  refine J_aload_0 dX8_point_0 ?_
  refine J_iload_1 dX8_point_1 ?_
  refine K_callVI (As := [.int x1]) (rest := []) dX8_point_2 vl_X8_137 jlt_117 jsh_117 _ rfl rfl h rfl rfl (Nat.le_of_ble_eq_true rfl) (fun r1 M1 h => ?_)
  refine J_if_eq (t := 25) dX8_point_5 (by decide) (fun c0 => ?_) (fun c0 => ?_)
  · replace h := ite_t c0 h
    refine J_iconst (-1 : Int32) dX8_point_25 (by decide) ?_
    exact K_iret dX8_point_26 rfl h
  · replace h := ite_f c0 h
    refine J_aload_0 dX8_point_8 ?_
    refine J_iload_2 dX8_point_9 ?_
    refine K_callVI (As := [.int x2]) (rest := []) dX8_point_10 vl_X8_133 jlt_117 jsh_117 _ rfl rfl h rfl rfl (Nat.le_of_ble_eq_true rfl) (fun r2 M2 h => ?_)
    refine J_if_eq (t := 25) dX8_point_13 (by decide) (fun c1 => ?_) (fun c1 => ?_)
    · replace h := ite_t c1 h
      refine J_iconst (-1 : Int32) dX8_point_25 (by decide) ?_
      exact K_iret dX8_point_26 rfl h
    · replace h := ite_f c1 h
      refine J_iload_3 dX8_point_16 ?_
      refine J_iconst (0 : Int32) dX8_point_17 (by decide) ?_
      refine J_iconst (1 : Int32) dX8_point_18 (by decide) ?_
      refine K_callSI (rest := []) dX8_point_19 sl_X8_53 h rfl rfl (Nat.le_of_ble_eq_true rfl) (fun r3 M3 h => ?_)
      refine J_if_ne (t := 27) dX8_point_22 (by decide) (fun c2 => ?_) (fun c2 => ?_)
      · replace h := ite_f c2 h
        refine J_aload_0 dX8_point_27 ?_
        refine J_iload_1 dX8_point_28 ?_
        refine K_callVV (As := [.int x1]) (rest := []) dX8_point_29 vl_X8_154 jlt_117 jsh_117 _ rfl rfl h rfl rfl (Nat.le_of_ble_eq_true rfl) (fun M4 h => ?_)
        refine J_aload_0 dX8_point_32 ?_
        refine K_callVV (As := []) (rest := []) dX8_point_33 vl_X8_194 jlt_117 jsh_117 _ rfl rfl h rfl rfl (Nat.le_of_ble_eq_true rfl) (fun M5 h => ?_)
        refine J_aload_0 dX8_point_36 ?_
        refine J_getR 118 dX8_point_37 fl_X8_9 jlt_117 jsh_117 (by decide) jrf_8_1 jmr_117_1 ?_
        refine J_bipush (10 : Int32) dX8_point_40 (by decide) ?_
        refine J_iload_2 dX8_point_42 ?_
        refine J_iadd dX8_point_43 ?_
        obtain ⟨g3, h⟩ := h
        refine K_iald (((10 : Int32) + x2).toNatClampNeg) rfl dX8_point_44 jlt_118 jsh_118 g3 ?_
        refine J_istore_4 dX8_point_45 rfl ?_
        refine J_aload_0 dX8_point_47 ?_
        refine J_iload_1 dX8_point_48 ?_
        refine J_iload_4 dX8_point_49 ?_
        refine K_callVI (As := [.int x1, .int (M5 118 (((10 : Int32) + x2).toNatClampNeg))]) (rest := []) dX8_point_51 vl_X8_191 jlt_117 jsh_117 _ rfl rfl h rfl rfl (Nat.le_of_ble_eq_true rfl) (fun r6 M6 h => ?_)
        refine J_if_eq (t := 60) dX8_point_54 (by decide) (fun c4 => ?_) (fun c4 => ?_)
        · replace h := ite_t c4 h
          refine J_iconst (0 : Int32) dX8_point_60 (by decide) ?_
          refine J_istore_5 dX8_point_61 rfl ?_
          exact h
        · replace h := ite_f c4 h
          refine J_bipush (8 : Int32) dX8_point_57 (by decide) ?_
          exact K_iret dX8_point_59 rfl h
      · replace h := ite_t c2 h
        refine J_iconst (-1 : Int32) dX8_point_25 (by decide) ?_
        exact K_iret dX8_point_26 rfl h
theorem bX8_point_63 {G : jGT} {d : Nat} {x1 : Int32} {x2 : Int32} {x3 : Int32} {x4 : Int32} {x5 : Int32} {M : jM} {post : Int32 → jM → Prop} (h : (if (8 : Int32) ≤ x5 then post (-5 : Int32) M else (if ((x4 >>> (x5 &&& 31)) &&& (1 : Int32)) = x3 then CI G d mX8_isForIt [.ref 117, .int x1, .int (x4 ^^^ ((1 : Int32) <<< (x5 &&& 31)))] M (fun r1 M1 => (if r1 = 0 then kX8_point_63 G d x1 x2 x3 x4 (x5 + (1 : Int32)) M1 post else post x5 M1)) else kX8_point_63 G d x1 x2 x3 x4 (x5 + (1 : Int32)) M post))) : kX8_point_63 G d  x1 x2 x3 x4 x5 M post := by
  unfold kX8_point_63
  refine J_iload_5 dX8_point_63 ?_
  refine J_bipush (8 : Int32) dX8_point_65 (by decide) ?_
  refine J_icmp_ge (t := 105) dX8_point_67 (by decide) (fun c0 => ?_) (fun c0 => ?_)
  · replace h := ite_t c0 h
    refine J_bipush (-5 : Int32) dX8_point_105 (by decide) ?_
    exact K_iret dX8_point_107 rfl h
  · replace h := ite_f c0 h
    refine J_iload_4 dX8_point_70 ?_
    refine J_iload_5 dX8_point_72 ?_
    refine J_ishr dX8_point_74 ?_
    refine J_iconst (1 : Int32) dX8_point_75 (by decide) ?_
    refine J_iand dX8_point_76 ?_
    refine J_iload_3 dX8_point_77 ?_
    refine J_icmp_ne (t := 99) dX8_point_78 (by decide) (fun c1 => ?_) (fun c1 => ?_)
    · replace h := ite_f c1 h
      refine J_iinc_5 (1 : Int32) dX8_point_99 (by decide) rfl ?_
      refine J_goto (t := 63) dX8_point_102 (by decide) ?_
      exact h
    · replace h := ite_t c1 h
      refine J_aload_0 dX8_point_81 ?_
      refine J_iload_1 dX8_point_82 ?_
      refine J_iload_4 dX8_point_83 ?_
      refine J_iconst (1 : Int32) dX8_point_85 (by decide) ?_
      refine J_iload_5 dX8_point_86 ?_
      refine J_ishl dX8_point_88 ?_
      refine J_ixor dX8_point_89 ?_
      refine K_callVI (As := [.int x1, .int (x4 ^^^ ((1 : Int32) <<< (x5 &&& 31)))]) (rest := []) dX8_point_90 vl_X8_191 jlt_117 jsh_117 _ rfl rfl h rfl rfl (Nat.le_of_ble_eq_true rfl) (fun r1 M1 h => ?_)
      refine J_if_eq (t := 99) dX8_point_93 (by decide) (fun c2 => ?_) (fun c2 => ?_)
      · replace h := ite_t c2 h
        refine J_iinc_5 (1 : Int32) dX8_point_99 (by decide) rfl ?_
        refine J_goto (t := 63) dX8_point_102 (by decide) ?_
        exact h
      · replace h := ite_f c2 h
        refine J_iload_5 dX8_point_96 ?_
        exact K_iret dX8_point_98 rfl h
theorem eX8_point {G : jGT} {d : Nat} {x1 : Int32} {x2 : Int32} {x3 : Int32} {M : jM} {post : Int32 → jM → Prop} (h : kX8_point_0 G d  x1 x2 x3 M post) : CI G (d + 1) mX8_point [.ref 117, .int x1, .int x2, .int x3] M post := Con_of_J ok_X8_point 2 rfl rfl h
def kX8_rivals_0 (G : jGT) (d : Nat)  (x1 : Int32) (x2 : Int32) (x3 : Int32) (x4 : Int32) (x5 : Int32) (M : jM) (post : Int32 → jM → Prop) : Prop := J G (d + 1) mX8_rivals 0 [some (.ref 117), some (.int x1), some (.int x2), some (.int x3), some (.int x4), some (.int x5), none, none, none, none, none, none, none] [] jN jSH M jMR 0 0 0 0 (jQi post)
def kX8_rivals_10 (G : jGT) (d : Nat)  (x1 : Int32) (x2 : Int32) (x3 : Int32) (x4 : Int32) (x5 : Int32) (M : jM) (post : Int32 → jM → Prop) : Prop := J G (d + 1) mX8_rivals 10 [some (.ref 117), some (.int x1), some (.int x2), some (.int x3), some (.int x4), some (.int x5), none, none, none, none, none, none, none] [] jN jSH M jMR 0 0 0 0 (jQi post)
def kX8_rivals_36 (G : jGT) (d : Nat)  (x1 : Int32) (x2 : Int32) (x3 : Int32) (x4 : Int32) (x5 : Int32) (s0 : Int32) (M : jM) (post : Int32 → jM → Prop) : Prop := J G (d + 1) mX8_rivals 36 [some (.ref 117), some (.int x1), some (.int x2), some (.int x3), some (.int x4), some (.int x5), none, none, none, none, none, none, none] [.int s0] jN jSH M jMR 0 0 0 0 (jQi post)
def kX8_rivals_48 (G : jGT) (d : Nat)  (x1 : Int32) (x2 : Int32) (x3 : Int32) (x4 : Int32) (x5 : Int32) (x6 : Int32) (s0 : Int32) (M : jM) (post : Int32 → jM → Prop) : Prop := J G (d + 1) mX8_rivals 48 [some (.ref 117), some (.int x1), some (.int x2), some (.int x3), some (.int x4), some (.int x5), some (.int x6), none, none, none, none, none, none] [.int s0] jN jSH M jMR 0 0 0 0 (jQi post)
def kX8_rivals_59 (G : jGT) (d : Nat)  (x1 : Int32) (x2 : Int32) (x3 : Int32) (x4 : Int32) (x5 : Int32) (x6 : Int32) (x7 : Int32) (x8 : Int32) (x9 : Int32) (x10 : Int32) (M : jM) (post : Int32 → jM → Prop) : Prop := J G (d + 1) mX8_rivals 59 [some (.ref 117), some (.int x1), some (.int x2), some (.int x3), some (.int x4), some (.int x5), some (.int x6), some (.int x7), some (.int x8), some (.int x9), some (.int x10), none, none] [] jN jSH M jMR 0 0 0 0 (jQi post)
def kX8_rivals_117 (G : jGT) (d : Nat)  (x1 : Int32) (x2 : Int32) (x3 : Int32) (x4 : Int32) (x5 : Int32) (x6 : Int32) (x7 : Int32) (x8 : Int32) (x9 : Int32) (x10 : Int32) (x11 : Int32) (s1 : Int32) (s2 : Int32) (M : jM) (post : Int32 → jM → Prop) : Prop := J G (d + 1) mX8_rivals 117 [some (.ref 117), some (.int x1), some (.int x2), some (.int x3), some (.int x4), some (.int x5), some (.int x6), some (.int x7), some (.int x8), some (.int x9), some (.int x10), some (.int x11), none] [.int s2, .int s1, .ref 117] jN jSH M jMR 0 0 0 0 (jQi post)
def kX8_rivals_134 (G : jGT) (d : Nat)  (x1 : Int32) (x2 : Int32) (x3 : Int32) (x4 : Int32) (x5 : Int32) (x6 : Int32) (x7 : Int32) (x8 : Int32) (x9 : Int32) (x10 : Int32) (x11 : Int32) (s1 : Int32) (s2 : Int32) (s3 : Int32) (M : jM) (post : Int32 → jM → Prop) : Prop := J G (d + 1) mX8_rivals 134 [some (.ref 117), some (.int x1), some (.int x2), some (.int x3), some (.int x4), some (.int x5), some (.int x6), some (.int x7), some (.int x8), some (.int x9), some (.int x10), some (.int x11), none] [.int s3, .int s2, .int s1, .ref 117] jN jSH M jMR 0 0 0 0 (jQi post)
def kX8_rivals_144 (G : jGT) (d : Nat)  (x1 : Int32) (x2 : Int32) (x3 : Int32) (x4 : Int32) (x5 : Int32) (x6 : Int32) (x7 : Int32) (x8 : Int32) (x9 : Int32) (x10 : Int32) (x11 : Int32) (s1 : Int32) (s2 : Int32) (s3 : Int32) (s4 : Int32) (M : jM) (post : Int32 → jM → Prop) : Prop := J G (d + 1) mX8_rivals 144 [some (.ref 117), some (.int x1), some (.int x2), some (.int x3), some (.int x4), some (.int x5), some (.int x6), some (.int x7), some (.int x8), some (.int x9), some (.int x10), some (.int x11), none] [.int s4, .int s3, .int s2, .int s1, .ref 117] jN jSH M jMR 0 0 0 0 (jQi post)
def kX8_rivals_200 (G : jGT) (d : Nat)  (x1 : Int32) (x2 : Int32) (x3 : Int32) (x4 : Int32) (x5 : Int32) (x6 : Int32) (x7 : Int32) (x8 : Int32) (x9 : Int32) (x10 : Int32) (x11 : Int32) (x12 : Int32) (s0 : Int32) (s1 : Int32) (M : jM) (post : Int32 → jM → Prop) : Prop := J G (d + 1) mX8_rivals 200 [some (.ref 117), some (.int x1), some (.int x2), some (.int x3), some (.int x4), some (.int x5), some (.int x6), some (.int x7), some (.int x8), some (.int x9), some (.int x10), some (.int x11), some (.int x12)] [.int s1, .int s0] jN jSH M jMR 0 0 0 0 (jQi post)
def kX8_rivals_230 (G : jGT) (d : Nat)  (x1 : Int32) (x2 : Int32) (x3 : Int32) (x4 : Int32) (x5 : Int32) (x6 : Int32) (x7 : Int32) (x8 : Int32) (x9 : Int32) (x10 : Int32) (x11 : Int32) (x12 : Int32) (M : jM) (post : Int32 → jM → Prop) : Prop := J G (d + 1) mX8_rivals 230 [some (.ref 117), some (.int x1), some (.int x2), some (.int x3), some (.int x4), some (.int x5), some (.int x6), some (.int x7), some (.int x8), some (.int x9), some (.int x10), some (.int x11), some (.int x12)] [] jN jSH M jMR 0 0 0 0 (jQi post)
def kX8_rivals_253 (G : jGT) (d : Nat)  (x1 : Int32) (x2 : Int32) (x3 : Int32) (x4 : Int32) (x5 : Int32) (x6 : Int32) (x7 : Int32) (x8 : Int32) (x9 : Int32) (x10 : Int32) (x11 : Int32) (x12 : Int32) (M : jM) (post : Int32 → jM → Prop) : Prop := J G (d + 1) mX8_rivals 253 [some (.ref 117), some (.int x1), some (.int x2), some (.int x3), some (.int x4), some (.int x5), some (.int x6), some (.int x7), some (.int x8), some (.int x9), some (.int x10), some (.int x11), some (.int x12)] [.ref 117] jN jSH M jMR 0 0 0 0 (jQi post)
def kX8_rivals_257 (G : jGT) (d : Nat)  (x1 : Int32) (x2 : Int32) (x3 : Int32) (x4 : Int32) (x5 : Int32) (x6 : Int32) (x7 : Int32) (x8 : Int32) (x9 : Int32) (x10 : Int32) (x11 : Int32) (x12 : Int32) (s1 : Int32) (M : jM) (post : Int32 → jM → Prop) : Prop := J G (d + 1) mX8_rivals 257 [some (.ref 117), some (.int x1), some (.int x2), some (.int x3), some (.int x4), some (.int x5), some (.int x6), some (.int x7), some (.int x8), some (.int x9), some (.int x10), some (.int x11), some (.int x12)] [.int s1, .ref 117] jN jSH M jMR 0 0 0 0 (jQi post)
def kX8_rivals_260 (G : jGT) (d : Nat)  (x1 : Int32) (x2 : Int32) (x3 : Int32) (x4 : Int32) (x5 : Int32) (x6 : Int32) (x7 : Int32) (x8 : Int32) (x9 : Int32) (x10 : Int32) (M : jM) (post : Int32 → jM → Prop) : Prop := J G (d + 1) mX8_rivals 260 [some (.ref 117), some (.int x1), some (.int x2), some (.int x3), some (.int x4), some (.int x5), some (.int x6), some (.int x7), some (.int x8), some (.int x9), some (.int x10), none, none] [] jN jSH M jMR 0 0 0 0 (jQi post)
theorem bX8_rivals_0 {G : jGT} {d : Nat} {x1 : Int32} {x2 : Int32} {x3 : Int32} {x4 : Int32} {x5 : Int32} {M : jM} {post : Int32 → jM → Prop} (h : (if x2 = 0 then (if x3 = 0 then post (0 : Int32) M else kX8_rivals_10 G d x1 x2 x3 x4 x5 M post) else kX8_rivals_10 G d x1 x2 x3 x4 x5 M post)) : kX8_rivals_0 G d  x1 x2 x3 x4 x5 M post := by
  unfold kX8_rivals_0
  refine J_iload_2 dX8_rivals_0 ?_
  refine J_if_ne (t := 10) dX8_rivals_1 (by decide) (fun c0 => ?_) (fun c0 => ?_)
  · replace h := ite_f c0 h
    exact h
  · replace h := ite_t c0 h
    refine J_iload_3 dX8_rivals_4 ?_
    refine J_if_ne (t := 10) dX8_rivals_5 (by decide) (fun c1 => ?_) (fun c1 => ?_)
    · replace h := ite_f c1 h
      exact h
    · replace h := ite_t c1 h
      refine J_iconst (0 : Int32) dX8_rivals_8 (by decide) ?_
      exact K_iret dX8_rivals_9 rfl h
theorem bX8_rivals_10 {G : jGT} {d : Nat} {x1 : Int32} {x2 : Int32} {x3 : Int32} {x4 : Int32} {x5 : Int32} {M : jM} {post : Int32 → jM → Prop} (h : (if x4 = 0 then (if x3 = 0 then kX8_rivals_36 G d x1 x2 x3 x4 x5 (1 : Int32) M post else kX8_rivals_36 G d x1 x2 x3 x4 x5 (0 : Int32) M post) else (if x2 = 0 then kX8_rivals_36 G d x1 x2 x3 x4 x5 (0 : Int32) M post else kX8_rivals_36 G d x1 x2 x3 x4 x5 (1 : Int32) M post))) : kX8_rivals_10 G d  x1 x2 x3 x4 x5 M post := by
  unfold kX8_rivals_10
  refine J_iload_4 dX8_rivals_10 ?_
  refine J_if_eq (t := 27) dX8_rivals_12 (by decide) (fun c0 => ?_) (fun c0 => ?_)
  · replace h := ite_t c0 h
    refine J_iload_3 dX8_rivals_27 ?_
    refine J_if_ne (t := 35) dX8_rivals_28 (by decide) (fun c1 => ?_) (fun c1 => ?_)
    · replace h := ite_f c1 h
      refine J_iconst (0 : Int32) dX8_rivals_35 (by decide) ?_
      exact h
    · replace h := ite_t c1 h
      refine J_iconst (1 : Int32) dX8_rivals_31 (by decide) ?_
      refine J_goto (t := 36) dX8_rivals_32 (by decide) ?_
      exact h
  · replace h := ite_f c0 h
    refine J_iload_2 dX8_rivals_15 ?_
    refine J_if_eq (t := 23) dX8_rivals_16 (by decide) (fun c1 => ?_) (fun c1 => ?_)
    · replace h := ite_t c1 h
      refine J_iconst (0 : Int32) dX8_rivals_23 (by decide) ?_
      refine J_goto (t := 36) dX8_rivals_24 (by decide) ?_
      exact h
    · replace h := ite_f c1 h
      refine J_iconst (1 : Int32) dX8_rivals_19 (by decide) ?_
      refine J_goto (t := 36) dX8_rivals_20 (by decide) ?_
      exact h
theorem bX8_rivals_36 {G : jGT} {d : Nat} {x1 : Int32} {x2 : Int32} {x3 : Int32} {x4 : Int32} {x5 : Int32} {s0 : Int32} {M : jM} {post : Int32 → jM → Prop} (h : (if s0 = 0 then kX8_rivals_48 G d x1 x2 x3 x4 x5 s0 x3 M post else kX8_rivals_48 G d x1 x2 x3 x4 x5 s0 x2 M post)) : kX8_rivals_36 G d  x1 x2 x3 x4 x5 s0 M post := by
  unfold kX8_rivals_36
  refine J_istore_6 dX8_rivals_36 rfl ?_
  refine J_iload_6 dX8_rivals_38 ?_
  refine J_if_eq (t := 47) dX8_rivals_40 (by decide) (fun c0 => ?_) (fun c0 => ?_)
  · replace h := ite_t c0 h
    refine J_iload_3 dX8_rivals_47 ?_
    exact h
  · replace h := ite_f c0 h
    refine J_iload_2 dX8_rivals_43 ?_
    refine J_goto (t := 48) dX8_rivals_44 (by decide) ?_
    exact h
theorem bX8_rivals_48 {G : jGT} {d : Nat} {x1 : Int32} {x2 : Int32} {x3 : Int32} {x4 : Int32} {x5 : Int32} {x6 : Int32} {s0 : Int32} {M : jM} {post : Int32 → jM → Prop} (h : kX8_rivals_59 G d x1 x2 x3 x4 x5 x6 s0 (0 : Int32) (0 : Int32) (0 : Int32) M post) : kX8_rivals_48 G d  x1 x2 x3 x4 x5 x6 s0 M post := by
  unfold kX8_rivals_48
  refine J_istore_7 dX8_rivals_48 rfl ?_
  refine J_iconst (0 : Int32) dX8_rivals_50 (by decide) ?_
  refine J_istore_8 dX8_rivals_51 rfl ?_
  refine J_iconst (0 : Int32) dX8_rivals_53 (by decide) ?_
  refine J_istore_9 dX8_rivals_54 rfl ?_
  refine J_iconst (0 : Int32) dX8_rivals_56 (by decide) ?_
  refine J_istore_10 dX8_rivals_57 rfl ?_
  exact h
theorem bX8_rivals_59 {G : jGT} {d : Nat} {x1 : Int32} {x2 : Int32} {x3 : Int32} {x4 : Int32} {x5 : Int32} {x6 : Int32} {x7 : Int32} {x8 : Int32} {x9 : Int32} {x10 : Int32} {M : jM} {post : Int32 → jM → Prop} (h : (if (M 118 0) ≤ x10 then post x8 M else (if ((x7 >>> (x10 &&& 31)) &&& (1 : Int32)) = (1 : Int32) then (vp_in ((10 : Int32) + x10) 916 ∧ CI G d mX8_hears [.ref 117, .int x1, .int (M 118 (((10 : Int32) + x10).toNatClampNeg))] M (fun r1 M1 => (if x6 = 0 then kX8_rivals_117 G d x1 x2 x3 x4 x5 x6 x7 x8 x9 x10 r1 x1 x2 M1 post else kX8_rivals_117 G d x1 x2 x3 x4 x5 x6 x7 x8 x9 x10 r1 x1 (x2 &&& (((1 : Int32) <<< (x10 &&& 31)) ^^^ (-1 : Int32))) M1 post))) else kX8_rivals_260 G d x1 x2 x3 x4 x5 x6 x7 x8 x9 x10 M post))) : kX8_rivals_59 G d  x1 x2 x3 x4 x5 x6 x7 x8 x9 x10 M post := by
  unfold kX8_rivals_59
  refine J_iload_10 dX8_rivals_59 ?_
  refine J_aload_0 dX8_rivals_61 ?_
  refine J_getR 118 dX8_rivals_62 fl_X8_9 jlt_117 jsh_117 (by decide) jrf_8_1 jmr_117_1 ?_
  refine J_iconst (0 : Int32) dX8_rivals_65 (by decide) ?_
  refine K_iald 0 rfl dX8_rivals_66 jlt_118 jsh_118 (vp_lit (by decide)) ?_
  refine J_icmp_ge (t := 266) dX8_rivals_67 (by decide) (fun c0 => ?_) (fun c0 => ?_)
  · replace h := ite_t c0 h
    refine J_iload_8 dX8_rivals_266 ?_
    exact K_iret dX8_rivals_268 rfl h
  · replace h := ite_f c0 h
    refine J_iload_7 dX8_rivals_70 ?_
    refine J_iload_10 dX8_rivals_72 ?_
    refine J_ishr dX8_rivals_74 ?_
    refine J_iconst (1 : Int32) dX8_rivals_75 (by decide) ?_
    refine J_iand dX8_rivals_76 ?_
    refine J_iconst (1 : Int32) dX8_rivals_77 (by decide) ?_
    refine J_icmp_ne (t := 260) dX8_rivals_78 (by decide) (fun c1 => ?_) (fun c1 => ?_)
    · replace h := ite_f c1 h
      exact h
    · replace h := ite_t c1 h
      refine J_aload_0 dX8_rivals_81 ?_
      refine J_iload_1 dX8_rivals_82 ?_
      refine J_aload_0 dX8_rivals_83 ?_
      refine J_getR 118 dX8_rivals_84 fl_X8_9 jlt_117 jsh_117 (by decide) jrf_8_1 jmr_117_1 ?_
      refine J_bipush (10 : Int32) dX8_rivals_87 (by decide) ?_
      refine J_iload_10 dX8_rivals_89 ?_
      refine J_iadd dX8_rivals_91 ?_
      obtain ⟨g2, h⟩ := h
      refine K_iald (((10 : Int32) + x10).toNatClampNeg) rfl dX8_rivals_92 jlt_118 jsh_118 g2 ?_
      refine K_callVI (As := [.int x1, .int (M 118 (((10 : Int32) + x10).toNatClampNeg))]) (rest := []) dX8_rivals_93 vl_X8_204 jlt_117 jsh_117 _ rfl rfl h rfl rfl (Nat.le_of_ble_eq_true rfl) (fun r1 M1 h => ?_)
      refine J_istore_11 dX8_rivals_96 rfl ?_
      refine J_aload_0 dX8_rivals_98 ?_
      refine J_iload_1 dX8_rivals_99 ?_
      refine J_iload_6 dX8_rivals_100 ?_
      refine J_if_eq (t := 116) dX8_rivals_102 (by decide) (fun c3 => ?_) (fun c3 => ?_)
      · replace h := ite_t c3 h
        refine J_iload_2 dX8_rivals_116 ?_
        exact h
      · replace h := ite_f c3 h
        refine J_iload_2 dX8_rivals_105 ?_
        refine J_iconst (1 : Int32) dX8_rivals_106 (by decide) ?_
        refine J_iload_10 dX8_rivals_107 ?_
        refine J_ishl dX8_rivals_109 ?_
        refine J_iconst (-1 : Int32) dX8_rivals_110 (by decide) ?_
        refine J_ixor dX8_rivals_111 ?_
        refine J_iand dX8_rivals_112 ?_
        refine J_goto (t := 117) dX8_rivals_113 (by decide) ?_
        exact h
theorem bX8_rivals_117 {G : jGT} {d : Nat} {x1 : Int32} {x2 : Int32} {x3 : Int32} {x4 : Int32} {x5 : Int32} {x6 : Int32} {x7 : Int32} {x8 : Int32} {x9 : Int32} {x10 : Int32} {x11 : Int32} {s1 : Int32} {s2 : Int32} {M : jM} {post : Int32 → jM → Prop} (h : (if x6 = 0 then kX8_rivals_134 G d x1 x2 x3 x4 x5 x6 x7 x8 x9 x10 x11 s1 s2 (x3 &&& (((1 : Int32) <<< (x10 &&& 31)) ^^^ (-1 : Int32))) M post else kX8_rivals_134 G d x1 x2 x3 x4 x5 x6 x7 x8 x9 x10 x11 s1 s2 x3 M post)) : kX8_rivals_117 G d  x1 x2 x3 x4 x5 x6 x7 x8 x9 x10 x11 s1 s2 M post := by
  unfold kX8_rivals_117
  refine J_iload_6 dX8_rivals_117 ?_
  refine J_if_eq (t := 126) dX8_rivals_119 (by decide) (fun c0 => ?_) (fun c0 => ?_)
  · replace h := ite_t c0 h
    refine J_iload_3 dX8_rivals_126 ?_
    refine J_iconst (1 : Int32) dX8_rivals_127 (by decide) ?_
    refine J_iload_10 dX8_rivals_128 ?_
    refine J_ishl dX8_rivals_130 ?_
    refine J_iconst (-1 : Int32) dX8_rivals_131 (by decide) ?_
    refine J_ixor dX8_rivals_132 ?_
    refine J_iand dX8_rivals_133 ?_
    exact h
  · replace h := ite_f c0 h
    refine J_iload_3 dX8_rivals_122 ?_
    refine J_goto (t := 134) dX8_rivals_123 (by decide) ?_
    exact h
theorem bX8_rivals_134 {G : jGT} {d : Nat} {x1 : Int32} {x2 : Int32} {x3 : Int32} {x4 : Int32} {x5 : Int32} {x6 : Int32} {x7 : Int32} {x8 : Int32} {x9 : Int32} {x10 : Int32} {x11 : Int32} {s1 : Int32} {s2 : Int32} {s3 : Int32} {M : jM} {post : Int32 → jM → Prop} (h : (if x6 = 0 then kX8_rivals_144 G d x1 x2 x3 x4 x5 x6 x7 x8 x9 x10 x11 s1 s2 s3 (1 : Int32) M post else kX8_rivals_144 G d x1 x2 x3 x4 x5 x6 x7 x8 x9 x10 x11 s1 s2 s3 (0 : Int32) M post)) : kX8_rivals_134 G d  x1 x2 x3 x4 x5 x6 x7 x8 x9 x10 x11 s1 s2 s3 M post := by
  unfold kX8_rivals_134
  refine J_iload_6 dX8_rivals_134 ?_
  refine J_if_ne (t := 143) dX8_rivals_136 (by decide) (fun c0 => ?_) (fun c0 => ?_)
  · replace h := ite_f c0 h
    refine J_iconst (0 : Int32) dX8_rivals_143 (by decide) ?_
    exact h
  · replace h := ite_t c0 h
    refine J_iconst (1 : Int32) dX8_rivals_139 (by decide) ?_
    refine J_goto (t := 144) dX8_rivals_140 (by decide) ?_
    exact h
theorem bX8_rivals_144 {G : jGT} {d : Nat} {x1 : Int32} {x2 : Int32} {x3 : Int32} {x4 : Int32} {x5 : Int32} {x6 : Int32} {x7 : Int32} {x8 : Int32} {x9 : Int32} {x10 : Int32} {x11 : Int32} {s1 : Int32} {s2 : Int32} {s3 : Int32} {s4 : Int32} {M : jM} {post : Int32 → jM → Prop} (h : CI G d mX8_rivals [.ref 117, .int s1, .int s2, .int s3, .int s4, .int (0 : Int32)] M (fun r1 M1 => (if x11 = 0 then kX8_rivals_200 G d x1 x2 x3 x4 x5 x6 x7 x8 x9 x10 x11 r1 r1 (0 : Int32) (jup M1 117 18 ((M1 117 18) - (1 : Int32))) post else (if x6 = 0 then (vp_in ((18 : Int32) + x10) 916 ∧ kX8_rivals_200 G d x1 x2 x3 x4 x5 x6 x7 x8 x9 x10 x11 r1 r1 (-(M1 118 (((18 : Int32) + x10).toNatClampNeg))) (jup M1 117 18 ((M1 117 18) - (1 : Int32))) post) else (vp_in ((18 : Int32) + x10) 916 ∧ kX8_rivals_200 G d x1 x2 x3 x4 x5 x6 x7 x8 x9 x10 x11 r1 r1 (M1 118 (((18 : Int32) + x10).toNatClampNeg)) (jup M1 117 18 ((M1 117 18) - (1 : Int32))) post))))) : kX8_rivals_144 G d  x1 x2 x3 x4 x5 x6 x7 x8 x9 x10 x11 s1 s2 s3 s4 M post := by
  unfold kX8_rivals_144
  refine J_iconst (0 : Int32) dX8_rivals_144 (by decide) ?_
  refine K_callVI (As := [.int s1, .int s2, .int s3, .int s4, .int (0 : Int32)]) (rest := []) dX8_rivals_145 vl_X8_218 jlt_117 jsh_117 _ rfl rfl h rfl rfl (Nat.le_of_ble_eq_true rfl) (fun r1 M1 h => ?_)
  refine J_istore_12 dX8_rivals_148 rfl ?_
  refine J_aload_0 dX8_rivals_150 ?_
  refine J_dup dX8_rivals_151 rfl ?_
  refine J_getI dX8_rivals_152 fl_X8_161 jlt_117 jsh_117 (by decide) jrf_8_18 ?_
  refine J_iconst (1 : Int32) dX8_rivals_155 (by decide) ?_
  refine J_isub dX8_rivals_156 ?_
  refine J_putI false dX8_rivals_157 pl_X8_161 jlt_117 jsh_117 (by decide) jrf_8_18 (fun q => absurd q (by decide)) ?_
  refine J_iload_12 dX8_rivals_160 ?_
  refine J_iload_11 dX8_rivals_162 ?_
  refine J_if_eq (t := 199) dX8_rivals_164 (by decide) (fun c0 => ?_) (fun c0 => ?_)
  · replace h := ite_t c0 h
    refine J_iconst (0 : Int32) dX8_rivals_199 (by decide) ?_
    exact h
  · replace h := ite_f c0 h
    refine J_iload_6 dX8_rivals_167 ?_
    refine J_if_eq (t := 185) dX8_rivals_169 (by decide) (fun c1 => ?_) (fun c1 => ?_)
    · replace h := ite_t c1 h
      refine J_aload_0 dX8_rivals_185 ?_
      refine J_getR 118 dX8_rivals_186 fl_X8_9 jlt_117 jsh_117 (by decide) jrf_8_1 jmr_117_1 ?_
      refine J_bipush (18 : Int32) dX8_rivals_189 (by decide) ?_
      refine J_iload_10 dX8_rivals_191 ?_
      refine J_iadd dX8_rivals_193 ?_
      obtain ⟨g2, h⟩ := h
      refine K_iald (((18 : Int32) + x10).toNatClampNeg) rfl dX8_rivals_194 jlt_118 jsh_118 g2 ?_
      refine J_ineg dX8_rivals_195 ?_
      refine J_goto (t := 200) dX8_rivals_196 (by decide) ?_
      exact h
    · replace h := ite_f c1 h
      refine J_aload_0 dX8_rivals_172 ?_
      refine J_getR 118 dX8_rivals_173 fl_X8_9 jlt_117 jsh_117 (by decide) jrf_8_1 jmr_117_1 ?_
      refine J_bipush (18 : Int32) dX8_rivals_176 (by decide) ?_
      refine J_iload_10 dX8_rivals_178 ?_
      refine J_iadd dX8_rivals_180 ?_
      obtain ⟨g2, h⟩ := h
      refine K_iald (((18 : Int32) + x10).toNatClampNeg) rfl dX8_rivals_181 jlt_118 jsh_118 g2 ?_
      refine J_goto (t := 200) dX8_rivals_182 (by decide) ?_
      exact h
theorem bX8_rivals_200 {G : jGT} {d : Nat} {x1 : Int32} {x2 : Int32} {x3 : Int32} {x4 : Int32} {x5 : Int32} {x6 : Int32} {x7 : Int32} {x8 : Int32} {x9 : Int32} {x10 : Int32} {x11 : Int32} {x12 : Int32} {s0 : Int32} {s1 : Int32} {M : jM} {post : Int32 → jM → Prop} (h : (if x9 = 0 then kX8_rivals_230 G d x1 x2 x3 x4 x5 x6 x7 x8 x9 x10 x11 (s0 + s1) M post else (if x6 = 0 then (if x8 ≤ (s0 + s1) then kX8_rivals_260 G d x1 x2 x3 x4 x5 x6 x7 x8 x9 x10 M post else kX8_rivals_230 G d x1 x2 x3 x4 x5 x6 x7 x8 x9 x10 x11 (s0 + s1) M post) else (if (s0 + s1) ≤ x8 then kX8_rivals_260 G d x1 x2 x3 x4 x5 x6 x7 x8 x9 x10 M post else kX8_rivals_230 G d x1 x2 x3 x4 x5 x6 x7 x8 x9 x10 x11 (s0 + s1) M post)))) : kX8_rivals_200 G d  x1 x2 x3 x4 x5 x6 x7 x8 x9 x10 x11 x12 s0 s1 M post := by
  unfold kX8_rivals_200
  refine J_iadd dX8_rivals_200 ?_
  refine J_istore_12 dX8_rivals_201 rfl ?_
  refine J_iload_9 dX8_rivals_203 ?_
  refine J_if_eq (t := 230) dX8_rivals_205 (by decide) (fun c0 => ?_) (fun c0 => ?_)
  · replace h := ite_t c0 h
    exact h
  · replace h := ite_f c0 h
    refine J_iload_6 dX8_rivals_208 ?_
    refine J_if_eq (t := 223) dX8_rivals_210 (by decide) (fun c1 => ?_) (fun c1 => ?_)
    · replace h := ite_t c1 h
      refine J_iload_12 dX8_rivals_223 ?_
      refine J_iload_8 dX8_rivals_225 ?_
      refine J_icmp_ge (t := 260) dX8_rivals_227 (by decide) (fun c2 => ?_) (fun c2 => ?_)
      · replace h := ite_t c2 h
        exact J_weak (lv' := [some (.ref 117), some (.int x1), some (.int x2), some (.int x3), some (.int x4), some (.int x5), some (.int x6), some (.int x7), some (.int x8), some (.int x9), some (.int x10), none, none]) (And.intro rfl (And.intro rfl (And.intro rfl (And.intro rfl (And.intro rfl (And.intro rfl (And.intro rfl (And.intro rfl (And.intro rfl (And.intro rfl (And.intro rfl trivial))))))))))) h
      · replace h := ite_f c2 h
        exact h
    · replace h := ite_f c1 h
      refine J_iload_12 dX8_rivals_213 ?_
      refine J_iload_8 dX8_rivals_215 ?_
      refine J_icmp_le (t := 260) dX8_rivals_217 (by decide) (fun c2 => ?_) (fun c2 => ?_)
      · replace h := ite_t c2 h
        exact J_weak (lv' := [some (.ref 117), some (.int x1), some (.int x2), some (.int x3), some (.int x4), some (.int x5), some (.int x6), some (.int x7), some (.int x8), some (.int x9), some (.int x10), none, none]) (And.intro rfl (And.intro rfl (And.intro rfl (And.intro rfl (And.intro rfl (And.intro rfl (And.intro rfl (And.intro rfl (And.intro rfl (And.intro rfl (And.intro rfl trivial))))))))))) h
      · replace h := ite_f c2 h
        refine J_goto (t := 230) dX8_rivals_220 (by decide) ?_
        exact h
theorem bX8_rivals_230 {G : jGT} {d : Nat} {x1 : Int32} {x2 : Int32} {x3 : Int32} {x4 : Int32} {x5 : Int32} {x6 : Int32} {x7 : Int32} {x8 : Int32} {x9 : Int32} {x10 : Int32} {x11 : Int32} {x12 : Int32} {M : jM} {post : Int32 → jM → Prop} (h : (if x5 = 0 then kX8_rivals_253 G d x1 x2 x3 x4 x5 x6 x7 x12 (1 : Int32) x10 x11 x12 M post else (if x6 = 0 then kX8_rivals_253 G d x1 x2 x3 x4 x5 x6 x7 x12 (1 : Int32) x10 x11 x12 M post else kX8_rivals_257 G d x1 x2 x3 x4 x5 x6 x7 x12 (1 : Int32) x10 x11 x12 x10 M post))) : kX8_rivals_230 G d  x1 x2 x3 x4 x5 x6 x7 x8 x9 x10 x11 x12 M post := by
  unfold kX8_rivals_230
  refine J_iload_12 dX8_rivals_230 ?_
  refine J_istore_8 dX8_rivals_232 rfl ?_
  refine J_iconst (1 : Int32) dX8_rivals_234 (by decide) ?_
  refine J_istore_9 dX8_rivals_235 rfl ?_
  refine J_aload_0 dX8_rivals_237 ?_
  refine J_iload_5 dX8_rivals_238 ?_
  refine J_if_eq (t := 253) dX8_rivals_240 (by decide) (fun c0 => ?_) (fun c0 => ?_)
  · replace h := ite_t c0 h
    exact h
  · replace h := ite_f c0 h
    refine J_iload_6 dX8_rivals_243 ?_
    refine J_if_eq (t := 253) dX8_rivals_245 (by decide) (fun c1 => ?_) (fun c1 => ?_)
    · replace h := ite_t c1 h
      exact h
    · replace h := ite_f c1 h
      refine J_iload_10 dX8_rivals_248 ?_
      refine J_goto (t := 257) dX8_rivals_250 (by decide) ?_
      exact h
theorem bX8_rivals_253 {G : jGT} {d : Nat} {x1 : Int32} {x2 : Int32} {x3 : Int32} {x4 : Int32} {x5 : Int32} {x6 : Int32} {x7 : Int32} {x8 : Int32} {x9 : Int32} {x10 : Int32} {x11 : Int32} {x12 : Int32} {M : jM} {post : Int32 → jM → Prop} (h : kX8_rivals_257 G d x1 x2 x3 x4 x5 x6 x7 x8 x9 x10 x11 x12 (M 117 25) M post) : kX8_rivals_253 G d  x1 x2 x3 x4 x5 x6 x7 x8 x9 x10 x11 x12 M post := by
  unfold kX8_rivals_253
  refine J_aload_0 dX8_rivals_253 ?_
  refine J_getI dX8_rivals_254 fl_X8_222 jlt_117 jsh_117 (by decide) jrf_8_25 ?_
  exact h
theorem bX8_rivals_257 {G : jGT} {d : Nat} {x1 : Int32} {x2 : Int32} {x3 : Int32} {x4 : Int32} {x5 : Int32} {x6 : Int32} {x7 : Int32} {x8 : Int32} {x9 : Int32} {x10 : Int32} {x11 : Int32} {x12 : Int32} {s1 : Int32} {M : jM} {post : Int32 → jM → Prop} (h : kX8_rivals_260 G d x1 x2 x3 x4 x5 x6 x7 x8 x9 x10 (jup M 117 25 s1) post) : kX8_rivals_257 G d  x1 x2 x3 x4 x5 x6 x7 x8 x9 x10 x11 x12 s1 M post := by
  unfold kX8_rivals_257
  refine J_putI false dX8_rivals_257 pl_X8_222 jlt_117 jsh_117 (by decide) jrf_8_25 (fun q => absurd q (by decide)) ?_
  exact J_weak (lv' := [some (.ref 117), some (.int x1), some (.int x2), some (.int x3), some (.int x4), some (.int x5), some (.int x6), some (.int x7), some (.int x8), some (.int x9), some (.int x10), none, none]) (And.intro rfl (And.intro rfl (And.intro rfl (And.intro rfl (And.intro rfl (And.intro rfl (And.intro rfl (And.intro rfl (And.intro rfl (And.intro rfl (And.intro rfl trivial))))))))))) h
theorem bX8_rivals_260 {G : jGT} {d : Nat} {x1 : Int32} {x2 : Int32} {x3 : Int32} {x4 : Int32} {x5 : Int32} {x6 : Int32} {x7 : Int32} {x8 : Int32} {x9 : Int32} {x10 : Int32} {M : jM} {post : Int32 → jM → Prop} (h : kX8_rivals_59 G d x1 x2 x3 x4 x5 x6 x7 x8 x9 (x10 + (1 : Int32)) M post) : kX8_rivals_260 G d  x1 x2 x3 x4 x5 x6 x7 x8 x9 x10 M post := by
  unfold kX8_rivals_260
  refine J_iinc_10 (1 : Int32) dX8_rivals_260 (by decide) rfl ?_
  refine J_goto (t := 59) dX8_rivals_263 (by decide) ?_
  exact h
theorem eX8_rivals {G : jGT} {d : Nat} {x1 : Int32} {x2 : Int32} {x3 : Int32} {x4 : Int32} {x5 : Int32} {M : jM} {post : Int32 → jM → Prop} (h : kX8_rivals_0 G d  x1 x2 x3 x4 x5 M post) : CI G (d + 1) mX8_rivals [.ref 117, .int x1, .int x2, .int x3, .int x4, .int x5] M post := Con_of_J ok_X8_rivals 7 rfl rfl h
def kX8_rival_0 (G : jGT) (d : Nat)  (x1 : Int32) (x2 : Int32) (x3 : Int32) (x4 : Int32) (M : jM) (post : Int32 → jM → Prop) : Prop := J G (d + 1) mX8_rival 0 [some (.ref 117), some (.int x1), some (.int x2), some (.int x3), some (.int x4), none] [] jN jSH M jMR 0 0 0 0 (jQi post)
theorem bX8_rival_0 {G : jGT} {d : Nat} {x1 : Int32} {x2 : Int32} {x3 : Int32} {x4 : Int32} {M : jM} {post : Int32 → jM → Prop} (h : CI G d mX8_isJudge [.ref 117, .int x1] M (fun r1 M1 => (if r1 = 0 then post (-100001 : Int32) M1 else CI G d mX8_in [.int x4, .int (0 : Int32), .int (1 : Int32)] M1 (fun r2 M2 => (if r2 = 0 then post (-100001 : Int32) M2 else CI G d mX8_isSet [.ref 117, .int x2] M2 (fun r3 M3 => (if r3 = 0 then post (-100002 : Int32) M3 else CI G d mX8_isSet [.ref 117, .int x3] M3 (fun r4 M4 => (if r4 = 0 then post (-100002 : Int32) M4 else (if (x2 &&& x3) = 0 then CI G d mX8_count1 [.int (x2 ||| x3)] M4 (fun r5 M5 => (if r5 ≤ (6 : Int32) then CV G d mX8_looksFor [.ref 117, .int x1] M5 (fun M6 => CV G d mX8_opens [.ref 117] M6 (fun M7 => CI G d mX8_rivals [.ref 117, .int x1, .int x2, .int x3, .int (1 : Int32), .int (1 : Int32)] (jup M7 117 25 (-5 : Int32)) (fun r8 M8 => (if x4 = 0 then post r8 M8 else post (M8 117 25) M8)))) else post (-100002 : Int32) M5)) else post (-100002 : Int32) M4)))))))))) : kX8_rival_0 G d  x1 x2 x3 x4 M post := by
  unfold kX8_rival_0
  refine J_aload_0 dX8_rival_0 ?_
  refine J_iload_1 dX8_rival_1 ?_
  refine K_callVI (As := [.int x1]) (rest := []) dX8_rival_2 vl_X8_137 jlt_117 jsh_117 _ rfl rfl h rfl rfl (Nat.le_of_ble_eq_true rfl) (fun r1 M1 h => ?_)
  refine J_if_eq (t := 18) dX8_rival_5 (by decide) (fun c0 => ?_) (fun c0 => ?_)
  · replace h := ite_t c0 h
    refine J_ldc (-100001 : Int32) dX8_rival_18 w_1113 ?_
    exact K_iret dX8_rival_20 rfl h
  · replace h := ite_f c0 h
    refine J_iload_4 dX8_rival_8 ?_
    refine J_iconst (0 : Int32) dX8_rival_10 (by decide) ?_
    refine J_iconst (1 : Int32) dX8_rival_11 (by decide) ?_
    refine K_callSI (rest := []) dX8_rival_12 sl_X8_53 h rfl rfl (Nat.le_of_ble_eq_true rfl) (fun r2 M2 h => ?_)
    refine J_if_ne (t := 21) dX8_rival_15 (by decide) (fun c1 => ?_) (fun c1 => ?_)
    · replace h := ite_f c1 h
      refine J_aload_0 dX8_rival_21 ?_
      refine J_iload_2 dX8_rival_22 ?_
      refine K_callVI (As := [.int x2]) (rest := []) dX8_rival_23 vl_X8_211 jlt_117 jsh_117 _ rfl rfl h rfl rfl (Nat.le_of_ble_eq_true rfl) (fun r3 M3 h => ?_)
      refine J_if_eq (t := 54) dX8_rival_26 (by decide) (fun c2 => ?_) (fun c2 => ?_)
      · replace h := ite_t c2 h
        refine J_ldc (-100002 : Int32) dX8_rival_54 w_1181 ?_
        exact K_iret dX8_rival_56 rfl h
      · replace h := ite_f c2 h
        refine J_aload_0 dX8_rival_29 ?_
        refine J_iload_3 dX8_rival_30 ?_
        refine K_callVI (As := [.int x3]) (rest := []) dX8_rival_31 vl_X8_211 jlt_117 jsh_117 _ rfl rfl h rfl rfl (Nat.le_of_ble_eq_true rfl) (fun r4 M4 h => ?_)
        refine J_if_eq (t := 54) dX8_rival_34 (by decide) (fun c3 => ?_) (fun c3 => ?_)
        · replace h := ite_t c3 h
          refine J_ldc (-100002 : Int32) dX8_rival_54 w_1181 ?_
          exact K_iret dX8_rival_56 rfl h
        · replace h := ite_f c3 h
          refine J_iload_2 dX8_rival_37 ?_
          refine J_iload_3 dX8_rival_38 ?_
          refine J_iand dX8_rival_39 ?_
          refine J_if_ne (t := 54) dX8_rival_40 (by decide) (fun c4 => ?_) (fun c4 => ?_)
          · replace h := ite_f c4 h
            refine J_ldc (-100002 : Int32) dX8_rival_54 w_1181 ?_
            exact K_iret dX8_rival_56 rfl h
          · replace h := ite_t c4 h
            refine J_iload_2 dX8_rival_43 ?_
            refine J_iload_3 dX8_rival_44 ?_
            refine J_ior dX8_rival_45 ?_
            refine K_callSI (rest := []) dX8_rival_46 sl_X8_178 h rfl rfl (Nat.le_of_ble_eq_true rfl) (fun r5 M5 h => ?_)
            refine J_bipush (6 : Int32) dX8_rival_49 (by decide) ?_
            refine J_icmp_le (t := 57) dX8_rival_51 (by decide) (fun c5 => ?_) (fun c5 => ?_)
            · replace h := ite_t c5 h
              refine J_aload_0 dX8_rival_57 ?_
              refine J_iload_1 dX8_rival_58 ?_
              refine K_callVV (As := [.int x1]) (rest := []) dX8_rival_59 vl_X8_154 jlt_117 jsh_117 _ rfl rfl h rfl rfl (Nat.le_of_ble_eq_true rfl) (fun M6 h => ?_)
              refine J_aload_0 dX8_rival_62 ?_
              refine K_callVV (As := []) (rest := []) dX8_rival_63 vl_X8_194 jlt_117 jsh_117 _ rfl rfl h rfl rfl (Nat.le_of_ble_eq_true rfl) (fun M7 h => ?_)
              refine J_aload_0 dX8_rival_66 ?_
              refine J_bipush (-5 : Int32) dX8_rival_67 (by decide) ?_
              refine J_putI false dX8_rival_69 pl_X8_222 jlt_117 jsh_117 (by decide) jrf_8_25 (fun q => absurd q (by decide)) ?_
              refine J_aload_0 dX8_rival_72 ?_
              refine J_iload_1 dX8_rival_73 ?_
              refine J_iload_2 dX8_rival_74 ?_
              refine J_iload_3 dX8_rival_75 ?_
              refine J_iconst (1 : Int32) dX8_rival_76 (by decide) ?_
              refine J_iconst (1 : Int32) dX8_rival_77 (by decide) ?_
              refine K_callVI (As := [.int x1, .int x2, .int x3, .int (1 : Int32), .int (1 : Int32)]) (rest := []) dX8_rival_78 vl_X8_218 jlt_117 jsh_117 _ rfl rfl h rfl rfl (Nat.le_of_ble_eq_true rfl) (fun r8 M8 h => ?_)
              refine J_istore_5 dX8_rival_81 rfl ?_
              refine J_iload_4 dX8_rival_83 ?_
              refine J_if_ne (t := 93) dX8_rival_85 (by decide) (fun c6 => ?_) (fun c6 => ?_)
              · replace h := ite_f c6 h
                refine J_aload_0 dX8_rival_93 ?_
                refine J_getI dX8_rival_94 fl_X8_222 jlt_117 jsh_117 (by decide) jrf_8_25 ?_
                exact K_iret dX8_rival_97 rfl h
              · replace h := ite_t c6 h
                refine J_iload_5 dX8_rival_88 ?_
                refine J_goto (t := 97) dX8_rival_90 (by decide) ?_
                exact K_iret dX8_rival_97 rfl h
            · replace h := ite_f c5 h
              refine J_ldc (-100002 : Int32) dX8_rival_54 w_1181 ?_
              exact K_iret dX8_rival_56 rfl h
    · replace h := ite_t c1 h
      refine J_ldc (-100001 : Int32) dX8_rival_18 w_1113 ?_
      exact K_iret dX8_rival_20 rfl h
theorem eX8_rival {G : jGT} {d : Nat} {x1 : Int32} {x2 : Int32} {x3 : Int32} {x4 : Int32} {M : jM} {post : Int32 → jM → Prop} (h : kX8_rival_0 G d  x1 x2 x3 x4 M post) : CI G (d + 1) mX8_rival [.ref 117, .int x1, .int x2, .int x3, .int x4] M post := Con_of_J ok_X8_rival 1 rfl rfl h
def kX8_again_0 (G : jGT) (d : Nat)  (x1 : Int32) (x2 : Int32) (x3 : Int32) (M : jM) (post : Int32 → jM → Prop) : Prop := J G (d + 1) mX8_again 0 [some (.ref 117), some (.int x1), some (.int x2), some (.int x3), none, none] [] jN jSH M jMR 0 0 0 0 (jQi post)
def kX8_again_46 (G : jGT) (d : Nat)  (x1 : Int32) (x2 : Int32) (x3 : Int32) (x4 : Int32) (x5 : Int32) (M : jM) (post : Int32 → jM → Prop) : Prop := J G (d + 1) mX8_again 46 [some (.ref 117), some (.int x1), some (.int x2), some (.int x3), some (.int x4), some (.int x5)] [] jN jSH M jMR 0 0 0 0 (jQi post)
theorem bX8_again_0 {G : jGT} {d : Nat} {x1 : Int32} {x2 : Int32} {x3 : Int32} {M : jM} {post : Int32 → jM → Prop} (h : CI G d mX8_isJudge [.ref 117, .int x1] M (fun r1 M1 => (if r1 = 0 then post (-1 : Int32) M1 else CI G d mX8_isSuit [.ref 117, .int x2] M1 (fun r2 M2 => (if r2 = 0 then post (-1 : Int32) M2 else CI G d mX8_in [.int x3, .int (0 : Int32), .int (60 : Int32)] M2 (fun r3 M3 => (if r3 = 0 then post (-2 : Int32) M3 else CV G d mX8_looksFor [.ref 117, .int x1] M3 (fun M4 => CV G d mX8_opens [.ref 117] M4 (fun M5 => kX8_again_46 G d x1 x2 x3 (0 : Int32) (0 : Int32) M5 post))))))))) : kX8_again_0 G d  x1 x2 x3 M post := by
  unfold kX8_again_0
  refine J_aload_0 dX8_again_0 ?_
  refine J_iload_1 dX8_again_1 ?_
  refine K_callVI (As := [.int x1]) (rest := []) dX8_again_2 vl_X8_137 jlt_117 jsh_117 _ rfl rfl h rfl rfl (Nat.le_of_ble_eq_true rfl) (fun r1 M1 h => ?_)
  refine J_if_eq (t := 16) dX8_again_5 (by decide) (fun c0 => ?_) (fun c0 => ?_)
  · replace h := ite_t c0 h
    refine J_iconst (-1 : Int32) dX8_again_16 (by decide) ?_
    exact K_iret dX8_again_17 rfl h
  · replace h := ite_f c0 h
    refine J_aload_0 dX8_again_8 ?_
    refine J_iload_2 dX8_again_9 ?_
    refine K_callVI (As := [.int x2]) (rest := []) dX8_again_10 vl_X8_133 jlt_117 jsh_117 _ rfl rfl h rfl rfl (Nat.le_of_ble_eq_true rfl) (fun r2 M2 h => ?_)
    refine J_if_ne (t := 18) dX8_again_13 (by decide) (fun c1 => ?_) (fun c1 => ?_)
    · replace h := ite_f c1 h
      refine J_iload_3 dX8_again_18 ?_
      refine J_iconst (0 : Int32) dX8_again_19 (by decide) ?_
      refine J_bipush (60 : Int32) dX8_again_20 (by decide) ?_
      refine K_callSI (rest := []) dX8_again_22 sl_X8_53 h rfl rfl (Nat.le_of_ble_eq_true rfl) (fun r3 M3 h => ?_)
      refine J_if_ne (t := 31) dX8_again_25 (by decide) (fun c2 => ?_) (fun c2 => ?_)
      · replace h := ite_f c2 h
        refine J_aload_0 dX8_again_31 ?_
        refine J_iload_1 dX8_again_32 ?_
        refine K_callVV (As := [.int x1]) (rest := []) dX8_again_33 vl_X8_154 jlt_117 jsh_117 _ rfl rfl h rfl rfl (Nat.le_of_ble_eq_true rfl) (fun M4 h => ?_)
        refine J_aload_0 dX8_again_36 ?_
        refine K_callVV (As := []) (rest := []) dX8_again_37 vl_X8_194 jlt_117 jsh_117 _ rfl rfl h rfl rfl (Nat.le_of_ble_eq_true rfl) (fun M5 h => ?_)
        refine J_iconst (0 : Int32) dX8_again_40 (by decide) ?_
        refine J_istore_4 dX8_again_41 rfl ?_
        refine J_iconst (0 : Int32) dX8_again_43 (by decide) ?_
        refine J_istore_5 dX8_again_44 rfl ?_
        exact h
      · replace h := ite_t c2 h
        refine J_bipush (-2 : Int32) dX8_again_28 (by decide) ?_
        exact K_iret dX8_again_30 rfl h
    · replace h := ite_t c1 h
      refine J_iconst (-1 : Int32) dX8_again_16 (by decide) ?_
      exact K_iret dX8_again_17 rfl h
theorem bX8_again_46 {G : jGT} {d : Nat} {x1 : Int32} {x2 : Int32} {x3 : Int32} {x4 : Int32} {x5 : Int32} {M : jM} {post : Int32 → jM → Prop} (h : (if x3 ≤ x5 then post x4 M else (vp_in ((10 : Int32) + x2) 916 ∧ CI G d mX8_hears [.ref 117, .int x1, .int (M 118 (((10 : Int32) + x2).toNatClampNeg))] M (fun r1 M1 => (if r1 = 0 then kX8_again_46 G d x1 x2 x3 (x4 + (0 : Int32)) (x5 + (1 : Int32)) M1 post else kX8_again_46 G d x1 x2 x3 (x4 + (1 : Int32)) (x5 + (1 : Int32)) M1 post))))) : kX8_again_46 G d  x1 x2 x3 x4 x5 M post := by
  unfold kX8_again_46
  refine J_iload_5 dX8_again_46 ?_
  refine J_iload_3 dX8_again_48 ?_
  refine J_icmp_ge (t := 85) dX8_again_49 (by decide) (fun c0 => ?_) (fun c0 => ?_)
  · replace h := ite_t c0 h
    refine J_iload_4 dX8_again_85 ?_
    exact K_iret dX8_again_87 rfl h
  · replace h := ite_f c0 h
    refine J_iload_4 dX8_again_52 ?_
    refine J_aload_0 dX8_again_54 ?_
    refine J_iload_1 dX8_again_55 ?_
    refine J_aload_0 dX8_again_56 ?_
    refine J_getR 118 dX8_again_57 fl_X8_9 jlt_117 jsh_117 (by decide) jrf_8_1 jmr_117_1 ?_
    refine J_bipush (10 : Int32) dX8_again_60 (by decide) ?_
    refine J_iload_2 dX8_again_62 ?_
    refine J_iadd dX8_again_63 ?_
    obtain ⟨g1, h⟩ := h
    refine K_iald (((10 : Int32) + x2).toNatClampNeg) rfl dX8_again_64 jlt_118 jsh_118 g1 ?_
    refine K_callVI (As := [.int x1, .int (M 118 (((10 : Int32) + x2).toNatClampNeg))]) (rest := [.int x4]) dX8_again_65 vl_X8_204 jlt_117 jsh_117 _ rfl rfl h rfl rfl (Nat.le_of_ble_eq_true rfl) (fun r1 M1 h => ?_)
    refine J_if_eq (t := 75) dX8_again_68 (by decide) (fun c2 => ?_) (fun c2 => ?_)
    · replace h := ite_t c2 h
      refine J_iconst (0 : Int32) dX8_again_75 (by decide) ?_
      refine J_iadd dX8_again_76 ?_
      refine J_istore_4 dX8_again_77 rfl ?_
      refine J_iinc_5 (1 : Int32) dX8_again_79 (by decide) rfl ?_
      refine J_goto (t := 46) dX8_again_82 (by decide) ?_
      exact h
    · replace h := ite_f c2 h
      refine J_iconst (1 : Int32) dX8_again_71 (by decide) ?_
      refine J_goto (t := 76) dX8_again_72 (by decide) ?_
      refine J_iadd dX8_again_76 ?_
      refine J_istore_4 dX8_again_77 rfl ?_
      refine J_iinc_5 (1 : Int32) dX8_again_79 (by decide) rfl ?_
      refine J_goto (t := 46) dX8_again_82 (by decide) ?_
      exact h
theorem eX8_again {G : jGT} {d : Nat} {x1 : Int32} {x2 : Int32} {x3 : Int32} {M : jM} {post : Int32 → jM → Prop} (h : kX8_again_0 G d  x1 x2 x3 M post) : CI G (d + 1) mX8_again [.ref 117, .int x1, .int x2, .int x3] M post := Con_of_J ok_X8_again 2 rfl rfl h
def kX8_swing_0 (G : jGT) (d : Nat)  (x1 : Int32) (x2 : Int32) (M : jM) (post : Int32 → jM → Prop) : Prop := J G (d + 1) mX8_swing 0 [some (.ref 117), some (.int x1), some (.int x2), none, none] [] jN jSH M jMR 0 0 0 0 (jQi post)
def kX8_swing_45 (G : jGT) (d : Nat)  (x1 : Int32) (x2 : Int32) (x3 : Int32) (x4 : Int32) (M : jM) (post : Int32 → jM → Prop) : Prop := J G (d + 1) mX8_swing 45 [some (.ref 117), some (.int x1), some (.int x2), some (.int x3), some (.int x4)] [] jN jSH M jMR 0 0 0 0 (jQi post)
theorem bX8_swing_0 {G : jGT} {d : Nat} {x1 : Int32} {x2 : Int32} {M : jM} {post : Int32 → jM → Prop} (h : CI G d mX8_isJudge [.ref 117, .int x1] M (fun r1 M1 => (if r1 = 0 then post (-1 : Int32) M1 else CI G d mX8_isSuit [.ref 117, .int x2] M1 (fun r2 M2 => (if r2 = 0 then post (-1 : Int32) M2 else CV G d mX8_looksFor [.ref 117, .int x1] M2 (fun M3 => CV G d mX8_opens [.ref 117] M3 (fun M4 => (vp_in ((10 : Int32) + x2) 916 ∧ CI G d mX8_hears [.ref 117, .int x1, .int (M4 118 (((10 : Int32) + x2).toNatClampNeg))] M4 (fun r5 M5 => kX8_swing_45 G d x1 x2 r5 (1 : Int32) M5 post))))))))) : kX8_swing_0 G d  x1 x2 M post := by
  unfold kX8_swing_0
  refine J_aload_0 dX8_swing_0 ?_
  refine J_iload_1 dX8_swing_1 ?_
  refine K_callVI (As := [.int x1]) (rest := []) dX8_swing_2 vl_X8_137 jlt_117 jsh_117 _ rfl rfl h rfl rfl (Nat.le_of_ble_eq_true rfl) (fun r1 M1 h => ?_)
  refine J_if_eq (t := 16) dX8_swing_5 (by decide) (fun c0 => ?_) (fun c0 => ?_)
  · replace h := ite_t c0 h
    refine J_iconst (-1 : Int32) dX8_swing_16 (by decide) ?_
    exact K_iret dX8_swing_17 rfl h
  · replace h := ite_f c0 h
    refine J_aload_0 dX8_swing_8 ?_
    refine J_iload_2 dX8_swing_9 ?_
    refine K_callVI (As := [.int x2]) (rest := []) dX8_swing_10 vl_X8_133 jlt_117 jsh_117 _ rfl rfl h rfl rfl (Nat.le_of_ble_eq_true rfl) (fun r2 M2 h => ?_)
    refine J_if_ne (t := 18) dX8_swing_13 (by decide) (fun c1 => ?_) (fun c1 => ?_)
    · replace h := ite_f c1 h
      refine J_aload_0 dX8_swing_18 ?_
      refine J_iload_1 dX8_swing_19 ?_
      refine K_callVV (As := [.int x1]) (rest := []) dX8_swing_20 vl_X8_154 jlt_117 jsh_117 _ rfl rfl h rfl rfl (Nat.le_of_ble_eq_true rfl) (fun M3 h => ?_)
      refine J_aload_0 dX8_swing_23 ?_
      refine K_callVV (As := []) (rest := []) dX8_swing_24 vl_X8_194 jlt_117 jsh_117 _ rfl rfl h rfl rfl (Nat.le_of_ble_eq_true rfl) (fun M4 h => ?_)
      refine J_aload_0 dX8_swing_27 ?_
      refine J_iload_1 dX8_swing_28 ?_
      refine J_aload_0 dX8_swing_29 ?_
      refine J_getR 118 dX8_swing_30 fl_X8_9 jlt_117 jsh_117 (by decide) jrf_8_1 jmr_117_1 ?_
      refine J_bipush (10 : Int32) dX8_swing_33 (by decide) ?_
      refine J_iload_2 dX8_swing_35 ?_
      refine J_iadd dX8_swing_36 ?_
      obtain ⟨g2, h⟩ := h
      refine K_iald (((10 : Int32) + x2).toNatClampNeg) rfl dX8_swing_37 jlt_118 jsh_118 g2 ?_
      refine K_callVI (As := [.int x1, .int (M4 118 (((10 : Int32) + x2).toNatClampNeg))]) (rest := []) dX8_swing_38 vl_X8_204 jlt_117 jsh_117 _ rfl rfl h rfl rfl (Nat.le_of_ble_eq_true rfl) (fun r5 M5 h => ?_)
      refine J_istore_3 dX8_swing_41 rfl ?_
      refine J_iconst (1 : Int32) dX8_swing_42 (by decide) ?_
      refine J_istore_4 dX8_swing_43 rfl ?_
      exact h
    · replace h := ite_t c1 h
      refine J_iconst (-1 : Int32) dX8_swing_16 (by decide) ?_
      exact K_iret dX8_swing_17 rfl h
theorem bX8_swing_45 {G : jGT} {d : Nat} {x1 : Int32} {x2 : Int32} {x3 : Int32} {x4 : Int32} {M : jM} {post : Int32 → jM → Prop} (h : (if (60 : Int32) < x4 then post (-5 : Int32) M else (vp_in ((10 : Int32) + x2) 916 ∧ CI G d mX8_hears [.ref 117, .int x1, .int (M 118 (((10 : Int32) + x2).toNatClampNeg))] M (fun r1 M1 => (if r1 = x3 then kX8_swing_45 G d x1 x2 x3 (x4 + (1 : Int32)) M1 post else post x4 M1))))) : kX8_swing_45 G d  x1 x2 x3 x4 M post := by
  unfold kX8_swing_45
  refine J_iload_4 dX8_swing_45 ?_
  refine J_bipush (60 : Int32) dX8_swing_47 (by decide) ?_
  refine J_icmp_gt (t := 79) dX8_swing_49 (by decide) (fun c0 => ?_) (fun c0 => ?_)
  · replace h := ite_t c0 h
    refine J_bipush (-5 : Int32) dX8_swing_79 (by decide) ?_
    exact K_iret dX8_swing_81 rfl h
  · replace h := ite_f c0 h
    refine J_aload_0 dX8_swing_52 ?_
    refine J_iload_1 dX8_swing_53 ?_
    refine J_aload_0 dX8_swing_54 ?_
    refine J_getR 118 dX8_swing_55 fl_X8_9 jlt_117 jsh_117 (by decide) jrf_8_1 jmr_117_1 ?_
    refine J_bipush (10 : Int32) dX8_swing_58 (by decide) ?_
    refine J_iload_2 dX8_swing_60 ?_
    refine J_iadd dX8_swing_61 ?_
    obtain ⟨g1, h⟩ := h
    refine K_iald (((10 : Int32) + x2).toNatClampNeg) rfl dX8_swing_62 jlt_118 jsh_118 g1 ?_
    refine K_callVI (As := [.int x1, .int (M 118 (((10 : Int32) + x2).toNatClampNeg))]) (rest := []) dX8_swing_63 vl_X8_204 jlt_117 jsh_117 _ rfl rfl h rfl rfl (Nat.le_of_ble_eq_true rfl) (fun r1 M1 h => ?_)
    refine J_iload_3 dX8_swing_66 ?_
    refine J_icmp_eq (t := 73) dX8_swing_67 (by decide) (fun c2 => ?_) (fun c2 => ?_)
    · replace h := ite_t c2 h
      refine J_iinc_4 (1 : Int32) dX8_swing_73 (by decide) rfl ?_
      refine J_goto (t := 45) dX8_swing_76 (by decide) ?_
      exact h
    · replace h := ite_f c2 h
      refine J_iload_4 dX8_swing_70 ?_
      exact K_iret dX8_swing_72 rfl h
theorem eX8_swing {G : jGT} {d : Nat} {x1 : Int32} {x2 : Int32} {M : jM} {post : Int32 → jM → Prop} (h : kX8_swing_0 G d  x1 x2 M post) : CI G (d + 1) mX8_swing [.ref 117, .int x1, .int x2] M post := Con_of_J ok_X8_swing 2 rfl rfl h
def kX8_firstUnlawful_0 (G : jGT) (d : Nat)  (x1 : Int32) (x2 : Int32) (M : jM) (post : Int32 → jM → Prop) : Prop := J G (d + 1) mX8_firstUnlawful 0 [some (.ref 117), some (.int x1), some (.int x2), none, none, none] [] jN jSH M jMR 0 0 0 0 (jQi post)
def kX8_firstUnlawful_7 (G : jGT) (d : Nat)  (x1 : Int32) (x2 : Int32) (x3 : Int32) (M : jM) (post : Int32 → jM → Prop) : Prop := J G (d + 1) mX8_firstUnlawful 7 [some (.ref 117), some (.int x1), some (.int x2), some (.int x3), none, none] [] jN jSH M jMR 0 0 0 0 (jQi post)
theorem bX8_firstUnlawful_0 {G : jGT} {d : Nat} {x1 : Int32} {x2 : Int32} {M : jM} {post : Int32 → jM → Prop} (h : kX8_firstUnlawful_7 G d x1 x2 (0 : Int32) (jup M 117 18 (0 : Int32)) post) : kX8_firstUnlawful_0 G d  x1 x2 M post := by
  unfold kX8_firstUnlawful_0
  refine J_aload_0 dX8_firstUnlawful_0 ?_
  refine J_iconst (0 : Int32) dX8_firstUnlawful_1 (by decide) ?_
  refine J_putI false dX8_firstUnlawful_2 pl_X8_161 jlt_117 jsh_117 (by decide) jrf_8_18 (fun q => absurd q (by decide)) ?_
  refine J_iconst (0 : Int32) dX8_firstUnlawful_5 (by decide) ?_
  refine J_istore_3 dX8_firstUnlawful_6 rfl ?_
  exact h
theorem bX8_firstUnlawful_7 {G : jGT} {d : Nat} {x1 : Int32} {x2 : Int32} {x3 : Int32} {M : jM} {post : Int32 → jM → Prop} (h : (if (M 118 3) ≤ x3 then post (-5 : Int32) M else (vp_in ((50 : Int32) + x3) 916 ∧ (vp_in ((10 : Int32) + (M 118 (((50 : Int32) + x3).toNatClampNeg))) 916 ∧ (vp_in ((74 : Int32) + x3) 916 ∧ (if (M 118 (((74 : Int32) + x3).toNatClampNeg)) = (1 : Int32) then (if x3 = x2 then CI G d mX8_isForIt [.ref 117, .int x1, .int (M 118 (((10 : Int32) + (M 118 (((50 : Int32) + x3).toNatClampNeg))).toNatClampNeg))] M (fun r7 M7 => (if r7 = (0 : Int32) then CV G d mX8_writes [.ref 117, .int (M 118 (((10 : Int32) + (M 118 (((50 : Int32) + x3).toNatClampNeg))).toNatClampNeg)), .int (0 : Int32)] M7 (fun M8 => kX8_firstUnlawful_7 G d x1 x2 (x3 + (1 : Int32)) M8 post) else post x3 M7)) else CI G d mX8_isForIt [.ref 117, .int x1, .int (M 118 (((10 : Int32) + (M 118 (((50 : Int32) + x3).toNatClampNeg))).toNatClampNeg))] M (fun r5 M5 => (if r5 = (1 : Int32) then CV G d mX8_writes [.ref 117, .int (M 118 (((10 : Int32) + (M 118 (((50 : Int32) + x3).toNatClampNeg))).toNatClampNeg)), .int (1 : Int32)] M5 (fun M6 => kX8_firstUnlawful_7 G d x1 x2 (x3 + (1 : Int32)) M6 post) else post x3 M5))) else (if x3 = x2 then CI G d mX8_isForIt [.ref 117, .int x1, .int (M 118 (((10 : Int32) + (M 118 (((50 : Int32) + x3).toNatClampNeg))).toNatClampNeg))] M (fun r3 M3 => (if r3 = (1 : Int32) then CV G d mX8_writes [.ref 117, .int (M 118 (((10 : Int32) + (M 118 (((50 : Int32) + x3).toNatClampNeg))).toNatClampNeg)), .int (1 : Int32)] M3 (fun M4 => kX8_firstUnlawful_7 G d x1 x2 (x3 + (1 : Int32)) M4 post) else post x3 M3)) else CI G d mX8_isForIt [.ref 117, .int x1, .int (M 118 (((10 : Int32) + (M 118 (((50 : Int32) + x3).toNatClampNeg))).toNatClampNeg))] M (fun r1 M1 => (if r1 = (0 : Int32) then CV G d mX8_writes [.ref 117, .int (M 118 (((10 : Int32) + (M 118 (((50 : Int32) + x3).toNatClampNeg))).toNatClampNeg)), .int (0 : Int32)] M1 (fun M2 => kX8_firstUnlawful_7 G d x1 x2 (x3 + (1 : Int32)) M2 post) else post x3 M1))))))))) : kX8_firstUnlawful_7 G d  x1 x2 x3 M post := by
  unfold kX8_firstUnlawful_7
  refine J_iload_3 dX8_firstUnlawful_7 ?_
  refine J_aload_0 dX8_firstUnlawful_8 ?_
  refine J_getR 118 dX8_firstUnlawful_9 fl_X8_9 jlt_117 jsh_117 (by decide) jrf_8_1 jmr_117_1 ?_
  refine J_iconst (3 : Int32) dX8_firstUnlawful_12 (by decide) ?_
  refine K_iald 3 rfl dX8_firstUnlawful_13 jlt_118 jsh_118 (vp_lit (by decide)) ?_
  refine J_icmp_ge (t := 102) dX8_firstUnlawful_14 (by decide) (fun c0 => ?_) (fun c0 => ?_)
  · replace h := ite_t c0 h
    refine J_bipush (-5 : Int32) dX8_firstUnlawful_102 (by decide) ?_
    exact K_iret dX8_firstUnlawful_104 rfl h
  · replace h := ite_f c0 h
    refine J_aload_0 dX8_firstUnlawful_17 ?_
    refine J_getR 118 dX8_firstUnlawful_18 fl_X8_9 jlt_117 jsh_117 (by decide) jrf_8_1 jmr_117_1 ?_
    refine J_bipush (10 : Int32) dX8_firstUnlawful_21 (by decide) ?_
    refine J_aload_0 dX8_firstUnlawful_23 ?_
    refine J_getR 118 dX8_firstUnlawful_24 fl_X8_9 jlt_117 jsh_117 (by decide) jrf_8_1 jmr_117_1 ?_
    refine J_bipush (50 : Int32) dX8_firstUnlawful_27 (by decide) ?_
    refine J_iload_3 dX8_firstUnlawful_29 ?_
    refine J_iadd dX8_firstUnlawful_30 ?_
    obtain ⟨g1, h⟩ := h
    refine K_iald (((50 : Int32) + x3).toNatClampNeg) rfl dX8_firstUnlawful_31 jlt_118 jsh_118 g1 ?_
    refine J_iadd dX8_firstUnlawful_32 ?_
    obtain ⟨g2, h⟩ := h
    refine K_iald (((10 : Int32) + (M 118 (((50 : Int32) + x3).toNatClampNeg))).toNatClampNeg) rfl dX8_firstUnlawful_33 jlt_118 jsh_118 g2 ?_
    refine J_istore_4 dX8_firstUnlawful_34 rfl ?_
    refine J_aload_0 dX8_firstUnlawful_36 ?_
    refine J_getR 118 dX8_firstUnlawful_37 fl_X8_9 jlt_117 jsh_117 (by decide) jrf_8_1 jmr_117_1 ?_
    refine J_bipush (74 : Int32) dX8_firstUnlawful_40 (by decide) ?_
    refine J_iload_3 dX8_firstUnlawful_42 ?_
    refine J_iadd dX8_firstUnlawful_43 ?_
    obtain ⟨g3, h⟩ := h
    refine K_iald (((74 : Int32) + x3).toNatClampNeg) rfl dX8_firstUnlawful_44 jlt_118 jsh_118 g3 ?_
    refine J_iconst (1 : Int32) dX8_firstUnlawful_45 (by decide) ?_
    refine J_icmp_ne (t := 53) dX8_firstUnlawful_46 (by decide) (fun c4 => ?_) (fun c4 => ?_)
    · replace h := ite_f c4 h
      refine J_iconst (0 : Int32) dX8_firstUnlawful_53 (by decide) ?_
      refine J_iload_3 dX8_firstUnlawful_54 ?_
      refine J_iload_2 dX8_firstUnlawful_55 ?_
      refine J_icmp_ne (t := 63) dX8_firstUnlawful_56 (by decide) (fun c5 => ?_) (fun c5 => ?_)
      · replace h := ite_f c5 h
        refine J_iconst (0 : Int32) dX8_firstUnlawful_63 (by decide) ?_
        refine J_icmp_eq (t := 71) dX8_firstUnlawful_64 (by decide) (fun c6 => ?_) (fun c6 => absurd c6 (by decide))
        refine J_iconst (0 : Int32) dX8_firstUnlawful_71 (by decide) ?_
        refine J_istore_5 dX8_firstUnlawful_72 rfl ?_
        refine J_aload_0 dX8_firstUnlawful_74 ?_
        refine J_iload_1 dX8_firstUnlawful_75 ?_
        refine J_iload_4 dX8_firstUnlawful_76 ?_
        refine K_callVI (As := [.int x1, .int (M 118 (((10 : Int32) + (M 118 (((50 : Int32) + x3).toNatClampNeg))).toNatClampNeg))]) (rest := []) dX8_firstUnlawful_78 vl_X8_191 jlt_117 jsh_117 _ rfl rfl h rfl rfl (Nat.le_of_ble_eq_true rfl) (fun r1 M1 h => ?_)
        refine J_iload_5 dX8_firstUnlawful_81 ?_
        refine J_icmp_eq (t := 88) dX8_firstUnlawful_83 (by decide) (fun c7 => ?_) (fun c7 => ?_)
        · replace h := ite_t c7 h
          refine J_aload_0 dX8_firstUnlawful_88 ?_
          refine J_iload_4 dX8_firstUnlawful_89 ?_
          refine J_iload_5 dX8_firstUnlawful_91 ?_
          refine K_callVV (As := [.int (M 118 (((10 : Int32) + (M 118 (((50 : Int32) + x3).toNatClampNeg))).toNatClampNeg)), .int (0 : Int32)]) (rest := []) dX8_firstUnlawful_93 vl_X8_164 jlt_117 jsh_117 _ rfl rfl h rfl rfl (Nat.le_of_ble_eq_true rfl) (fun M2 h => ?_)
          refine J_iinc_3 (1 : Int32) dX8_firstUnlawful_96 (by decide) rfl ?_
          refine J_goto (t := 7) dX8_firstUnlawful_99 (by decide) ?_
          exact J_weak (lv' := [some (.ref 117), some (.int x1), some (.int x2), some (.int (x3 + (1 : Int32))), none, none]) (And.intro rfl (And.intro rfl (And.intro rfl (And.intro rfl trivial)))) h
        · replace h := ite_f c7 h
          refine J_iload_3 dX8_firstUnlawful_86 ?_
          exact K_iret dX8_firstUnlawful_87 rfl h
      · replace h := ite_t c5 h
        refine J_iconst (1 : Int32) dX8_firstUnlawful_59 (by decide) ?_
        refine J_goto (t := 64) dX8_firstUnlawful_60 (by decide) ?_
        refine J_icmp_eq (t := 71) dX8_firstUnlawful_64 (by decide) (fun c6 => absurd c6 (by decide)) (fun c6 => ?_)
        refine J_iconst (1 : Int32) dX8_firstUnlawful_67 (by decide) ?_
        refine J_goto (t := 72) dX8_firstUnlawful_68 (by decide) ?_
        refine J_istore_5 dX8_firstUnlawful_72 rfl ?_
        refine J_aload_0 dX8_firstUnlawful_74 ?_
        refine J_iload_1 dX8_firstUnlawful_75 ?_
        refine J_iload_4 dX8_firstUnlawful_76 ?_
        refine K_callVI (As := [.int x1, .int (M 118 (((10 : Int32) + (M 118 (((50 : Int32) + x3).toNatClampNeg))).toNatClampNeg))]) (rest := []) dX8_firstUnlawful_78 vl_X8_191 jlt_117 jsh_117 _ rfl rfl h rfl rfl (Nat.le_of_ble_eq_true rfl) (fun r3 M3 h => ?_)
        refine J_iload_5 dX8_firstUnlawful_81 ?_
        refine J_icmp_eq (t := 88) dX8_firstUnlawful_83 (by decide) (fun c7 => ?_) (fun c7 => ?_)
        · replace h := ite_t c7 h
          refine J_aload_0 dX8_firstUnlawful_88 ?_
          refine J_iload_4 dX8_firstUnlawful_89 ?_
          refine J_iload_5 dX8_firstUnlawful_91 ?_
          refine K_callVV (As := [.int (M 118 (((10 : Int32) + (M 118 (((50 : Int32) + x3).toNatClampNeg))).toNatClampNeg)), .int (1 : Int32)]) (rest := []) dX8_firstUnlawful_93 vl_X8_164 jlt_117 jsh_117 _ rfl rfl h rfl rfl (Nat.le_of_ble_eq_true rfl) (fun M4 h => ?_)
          refine J_iinc_3 (1 : Int32) dX8_firstUnlawful_96 (by decide) rfl ?_
          refine J_goto (t := 7) dX8_firstUnlawful_99 (by decide) ?_
          exact J_weak (lv' := [some (.ref 117), some (.int x1), some (.int x2), some (.int (x3 + (1 : Int32))), none, none]) (And.intro rfl (And.intro rfl (And.intro rfl (And.intro rfl trivial)))) h
        · replace h := ite_f c7 h
          refine J_iload_3 dX8_firstUnlawful_86 ?_
          exact K_iret dX8_firstUnlawful_87 rfl h
    · replace h := ite_t c4 h
      refine J_iconst (1 : Int32) dX8_firstUnlawful_49 (by decide) ?_
      refine J_goto (t := 54) dX8_firstUnlawful_50 (by decide) ?_
      refine J_iload_3 dX8_firstUnlawful_54 ?_
      refine J_iload_2 dX8_firstUnlawful_55 ?_
      refine J_icmp_ne (t := 63) dX8_firstUnlawful_56 (by decide) (fun c5 => ?_) (fun c5 => ?_)
      · replace h := ite_f c5 h
        refine J_iconst (0 : Int32) dX8_firstUnlawful_63 (by decide) ?_
        refine J_icmp_eq (t := 71) dX8_firstUnlawful_64 (by decide) (fun c6 => absurd c6 (by decide)) (fun c6 => ?_)
        refine J_iconst (1 : Int32) dX8_firstUnlawful_67 (by decide) ?_
        refine J_goto (t := 72) dX8_firstUnlawful_68 (by decide) ?_
        refine J_istore_5 dX8_firstUnlawful_72 rfl ?_
        refine J_aload_0 dX8_firstUnlawful_74 ?_
        refine J_iload_1 dX8_firstUnlawful_75 ?_
        refine J_iload_4 dX8_firstUnlawful_76 ?_
        refine K_callVI (As := [.int x1, .int (M 118 (((10 : Int32) + (M 118 (((50 : Int32) + x3).toNatClampNeg))).toNatClampNeg))]) (rest := []) dX8_firstUnlawful_78 vl_X8_191 jlt_117 jsh_117 _ rfl rfl h rfl rfl (Nat.le_of_ble_eq_true rfl) (fun r5 M5 h => ?_)
        refine J_iload_5 dX8_firstUnlawful_81 ?_
        refine J_icmp_eq (t := 88) dX8_firstUnlawful_83 (by decide) (fun c7 => ?_) (fun c7 => ?_)
        · replace h := ite_t c7 h
          refine J_aload_0 dX8_firstUnlawful_88 ?_
          refine J_iload_4 dX8_firstUnlawful_89 ?_
          refine J_iload_5 dX8_firstUnlawful_91 ?_
          refine K_callVV (As := [.int (M 118 (((10 : Int32) + (M 118 (((50 : Int32) + x3).toNatClampNeg))).toNatClampNeg)), .int (1 : Int32)]) (rest := []) dX8_firstUnlawful_93 vl_X8_164 jlt_117 jsh_117 _ rfl rfl h rfl rfl (Nat.le_of_ble_eq_true rfl) (fun M6 h => ?_)
          refine J_iinc_3 (1 : Int32) dX8_firstUnlawful_96 (by decide) rfl ?_
          refine J_goto (t := 7) dX8_firstUnlawful_99 (by decide) ?_
          exact J_weak (lv' := [some (.ref 117), some (.int x1), some (.int x2), some (.int (x3 + (1 : Int32))), none, none]) (And.intro rfl (And.intro rfl (And.intro rfl (And.intro rfl trivial)))) h
        · replace h := ite_f c7 h
          refine J_iload_3 dX8_firstUnlawful_86 ?_
          exact K_iret dX8_firstUnlawful_87 rfl h
      · replace h := ite_t c5 h
        refine J_iconst (1 : Int32) dX8_firstUnlawful_59 (by decide) ?_
        refine J_goto (t := 64) dX8_firstUnlawful_60 (by decide) ?_
        refine J_icmp_eq (t := 71) dX8_firstUnlawful_64 (by decide) (fun c6 => ?_) (fun c6 => absurd c6 (by decide))
        refine J_iconst (0 : Int32) dX8_firstUnlawful_71 (by decide) ?_
        refine J_istore_5 dX8_firstUnlawful_72 rfl ?_
        refine J_aload_0 dX8_firstUnlawful_74 ?_
        refine J_iload_1 dX8_firstUnlawful_75 ?_
        refine J_iload_4 dX8_firstUnlawful_76 ?_
        refine K_callVI (As := [.int x1, .int (M 118 (((10 : Int32) + (M 118 (((50 : Int32) + x3).toNatClampNeg))).toNatClampNeg))]) (rest := []) dX8_firstUnlawful_78 vl_X8_191 jlt_117 jsh_117 _ rfl rfl h rfl rfl (Nat.le_of_ble_eq_true rfl) (fun r7 M7 h => ?_)
        refine J_iload_5 dX8_firstUnlawful_81 ?_
        refine J_icmp_eq (t := 88) dX8_firstUnlawful_83 (by decide) (fun c7 => ?_) (fun c7 => ?_)
        · replace h := ite_t c7 h
          refine J_aload_0 dX8_firstUnlawful_88 ?_
          refine J_iload_4 dX8_firstUnlawful_89 ?_
          refine J_iload_5 dX8_firstUnlawful_91 ?_
          refine K_callVV (As := [.int (M 118 (((10 : Int32) + (M 118 (((50 : Int32) + x3).toNatClampNeg))).toNatClampNeg)), .int (0 : Int32)]) (rest := []) dX8_firstUnlawful_93 vl_X8_164 jlt_117 jsh_117 _ rfl rfl h rfl rfl (Nat.le_of_ble_eq_true rfl) (fun M8 h => ?_)
          refine J_iinc_3 (1 : Int32) dX8_firstUnlawful_96 (by decide) rfl ?_
          refine J_goto (t := 7) dX8_firstUnlawful_99 (by decide) ?_
          exact J_weak (lv' := [some (.ref 117), some (.int x1), some (.int x2), some (.int (x3 + (1 : Int32))), none, none]) (And.intro rfl (And.intro rfl (And.intro rfl (And.intro rfl trivial)))) h
        · replace h := ite_f c7 h
          refine J_iload_3 dX8_firstUnlawful_86 ?_
          exact K_iret dX8_firstUnlawful_87 rfl h
theorem eX8_firstUnlawful {G : jGT} {d : Nat} {x1 : Int32} {x2 : Int32} {M : jM} {post : Int32 → jM → Prop} (h : kX8_firstUnlawful_0 G d  x1 x2 M post) : CI G (d + 1) mX8_firstUnlawful [.ref 117, .int x1, .int x2] M post := Con_of_J ok_X8_firstUnlawful 3 rfl rfl h
def kX8_unlawful_0 (G : jGT) (d : Nat)  (x1 : Int32) (M : jM) (post : Int32 → jM → Prop) : Prop := J G (d + 1) mX8_unlawful 0 [some (.ref 117), some (.int x1)] [] jN jSH M jMR 0 0 0 0 (jQi post)
theorem bX8_unlawful_0 {G : jGT} {d : Nat} {x1 : Int32} {M : jM} {post : Int32 → jM → Prop} (h : CI G d mX8_isJudge [.ref 117, .int x1] M (fun r1 M1 => (if r1 = 0 then post (-1 : Int32) M1 else CV G d mX8_looksFor [.ref 117, .int x1] M1 (fun M2 => CI G d mX8_firstUnlawful [.ref 117, .int x1, .int (-1 : Int32)] M2 (fun r3 M3 => post r3 M3))))) : kX8_unlawful_0 G d  x1 M post := by
  unfold kX8_unlawful_0
  refine J_aload_0 dX8_unlawful_0 ?_
  refine J_iload_1 dX8_unlawful_1 ?_
  refine K_callVI (As := [.int x1]) (rest := []) dX8_unlawful_2 vl_X8_137 jlt_117 jsh_117 _ rfl rfl h rfl rfl (Nat.le_of_ble_eq_true rfl) (fun r1 M1 h => ?_)
  refine J_if_ne (t := 10) dX8_unlawful_5 (by decide) (fun c0 => ?_) (fun c0 => ?_)
  · replace h := ite_f c0 h
    refine J_aload_0 dX8_unlawful_10 ?_
    refine J_iload_1 dX8_unlawful_11 ?_
    refine K_callVV (As := [.int x1]) (rest := []) dX8_unlawful_12 vl_X8_154 jlt_117 jsh_117 _ rfl rfl h rfl rfl (Nat.le_of_ble_eq_true rfl) (fun M2 h => ?_)
    refine J_aload_0 dX8_unlawful_15 ?_
    refine J_iload_1 dX8_unlawful_16 ?_
    refine J_iconst (-1 : Int32) dX8_unlawful_17 (by decide) ?_
    refine K_callVI (As := [.int x1, .int (-1 : Int32)]) (rest := []) dX8_unlawful_18 vl_X8_225 jlt_117 jsh_117 _ rfl rfl h rfl rfl (Nat.le_of_ble_eq_true rfl) (fun r3 M3 h => ?_)
    exact K_iret dX8_unlawful_21 rfl h
  · replace h := ite_t c0 h
    refine J_iconst (-1 : Int32) dX8_unlawful_8 (by decide) ?_
    exact K_iret dX8_unlawful_9 rfl h
theorem eX8_unlawful {G : jGT} {d : Nat} {x1 : Int32} {M : jM} {post : Int32 → jM → Prop} (h : kX8_unlawful_0 G d  x1 M post) : CI G (d + 1) mX8_unlawful [.ref 117, .int x1] M post := Con_of_J ok_X8_unlawful 0 rfl rfl h
def kX8_wrong_0 (G : jGT) (d : Nat)  (x1 : Int32) (M : jM) (post : Int32 → jM → Prop) : Prop := J G (d + 1) mX8_wrong 0 [some (.ref 117), some (.int x1), none, none] [] jN jSH M jMR 0 0 0 0 (jQi post)
def kX8_wrong_19 (G : jGT) (d : Nat)  (x1 : Int32) (x2 : Int32) (x3 : Int32) (M : jM) (post : Int32 → jM → Prop) : Prop := J G (d + 1) mX8_wrong 19 [some (.ref 117), some (.int x1), some (.int x2), some (.int x3)] [] jN jSH M jMR 0 0 0 0 (jQi post)
theorem bX8_wrong_0 {G : jGT} {d : Nat} {x1 : Int32} {M : jM} {post : Int32 → jM → Prop} (h : CI G d mX8_isJudge [.ref 117, .int x1] M (fun r1 M1 => (if r1 = 0 then post (-1 : Int32) M1 else CV G d mX8_looksFor [.ref 117, .int x1] M1 (fun M2 => kX8_wrong_19 G d x1 (0 : Int32) (0 : Int32) M2 post)))) : kX8_wrong_0 G d  x1 M post := by
  unfold kX8_wrong_0
  refine J_aload_0 dX8_wrong_0 ?_
  refine J_iload_1 dX8_wrong_1 ?_
  refine K_callVI (As := [.int x1]) (rest := []) dX8_wrong_2 vl_X8_137 jlt_117 jsh_117 _ rfl rfl h rfl rfl (Nat.le_of_ble_eq_true rfl) (fun r1 M1 h => ?_)
  refine J_if_ne (t := 10) dX8_wrong_5 (by decide) (fun c0 => ?_) (fun c0 => ?_)
  · replace h := ite_f c0 h
    refine J_aload_0 dX8_wrong_10 ?_
    refine J_iload_1 dX8_wrong_11 ?_
    refine K_callVV (As := [.int x1]) (rest := []) dX8_wrong_12 vl_X8_154 jlt_117 jsh_117 _ rfl rfl h rfl rfl (Nat.le_of_ble_eq_true rfl) (fun M2 h => ?_)
    refine J_iconst (0 : Int32) dX8_wrong_15 (by decide) ?_
    refine J_istore_2 dX8_wrong_16 rfl ?_
    refine J_iconst (0 : Int32) dX8_wrong_17 (by decide) ?_
    refine J_istore_3 dX8_wrong_18 rfl ?_
    exact h
  · replace h := ite_t c0 h
    refine J_iconst (-1 : Int32) dX8_wrong_8 (by decide) ?_
    exact K_iret dX8_wrong_9 rfl h
theorem bX8_wrong_19 {G : jGT} {d : Nat} {x1 : Int32} {x2 : Int32} {x3 : Int32} {M : jM} {post : Int32 → jM → Prop} (h : (if (M 118 3) ≤ x3 then post x2 M else CI G d mX8_firstUnlawful [.ref 117, .int x1, .int x3] M (fun r1 M1 => (if r1 = (-5 : Int32) then kX8_wrong_19 G d x1 (x2 ||| ((1 : Int32) <<< (x3 &&& 31))) (x3 + (1 : Int32)) M1 post else kX8_wrong_19 G d x1 (x2 ||| (0 : Int32)) (x3 + (1 : Int32)) M1 post)))) : kX8_wrong_19 G d  x1 x2 x3 M post := by
  unfold kX8_wrong_19
  refine J_iload_3 dX8_wrong_19 ?_
  refine J_aload_0 dX8_wrong_20 ?_
  refine J_getR 118 dX8_wrong_21 fl_X8_9 jlt_117 jsh_117 (by decide) jrf_8_1 jmr_117_1 ?_
  refine J_iconst (3 : Int32) dX8_wrong_24 (by decide) ?_
  refine K_iald 3 rfl dX8_wrong_25 jlt_118 jsh_118 (vp_lit (by decide)) ?_
  refine J_icmp_ge (t := 56) dX8_wrong_26 (by decide) (fun c0 => ?_) (fun c0 => ?_)
  · replace h := ite_t c0 h
    refine J_iload_2 dX8_wrong_56 ?_
    exact K_iret dX8_wrong_57 rfl h
  · replace h := ite_f c0 h
    refine J_iload_2 dX8_wrong_29 ?_
    refine J_aload_0 dX8_wrong_30 ?_
    refine J_iload_1 dX8_wrong_31 ?_
    refine J_iload_3 dX8_wrong_32 ?_
    refine K_callVI (As := [.int x1, .int x3]) (rest := [.int x2]) dX8_wrong_33 vl_X8_225 jlt_117 jsh_117 _ rfl rfl h rfl rfl (Nat.le_of_ble_eq_true rfl) (fun r1 M1 h => ?_)
    refine J_bipush (-5 : Int32) dX8_wrong_36 (by decide) ?_
    refine J_icmp_ne (t := 47) dX8_wrong_38 (by decide) (fun c1 => ?_) (fun c1 => ?_)
    · replace h := ite_f c1 h
      refine J_iconst (0 : Int32) dX8_wrong_47 (by decide) ?_
      refine J_ior dX8_wrong_48 ?_
      refine J_istore_2 dX8_wrong_49 rfl ?_
      refine J_iinc_3 (1 : Int32) dX8_wrong_50 (by decide) rfl ?_
      refine J_goto (t := 19) dX8_wrong_53 (by decide) ?_
      exact h
    · replace h := ite_t c1 h
      refine J_iconst (1 : Int32) dX8_wrong_41 (by decide) ?_
      refine J_iload_3 dX8_wrong_42 ?_
      refine J_ishl dX8_wrong_43 ?_
      refine J_goto (t := 48) dX8_wrong_44 (by decide) ?_
      refine J_ior dX8_wrong_48 ?_
      refine J_istore_2 dX8_wrong_49 rfl ?_
      refine J_iinc_3 (1 : Int32) dX8_wrong_50 (by decide) rfl ?_
      refine J_goto (t := 19) dX8_wrong_53 (by decide) ?_
      exact h
theorem eX8_wrong {G : jGT} {d : Nat} {x1 : Int32} {M : jM} {post : Int32 → jM → Prop} (h : kX8_wrong_0 G d  x1 M post) : CI G (d + 1) mX8_wrong [.ref 117, .int x1] M post := Con_of_J ok_X8_wrong 2 rfl rfl h
def kX8_bars_0 (G : jGT) (d : Nat)  (x1 : Int32) (x2 : Int32) (M : jM) (post : Int32 → jM → Prop) : Prop := J G (d + 1) mX8_bars 0 [some (.ref 117), some (.int x1), some (.int x2), none, none, none, none, none, none] [] jN jSH M jMR 0 0 0 0 (jQi post)
def kX8_bars_48 (G : jGT) (d : Nat)  (x1 : Int32) (x2 : Int32) (x3 : Int32) (x4 : Int32) (x5 : Int32) (x6 : Int32) (x7 : Int32) (M : jM) (post : Int32 → jM → Prop) : Prop := J G (d + 1) mX8_bars 48 [some (.ref 117), some (.int x1), some (.int x2), some (.int x3), some (.int x4), some (.int x5), some (.int x6), some (.int x7), none] [] jN jSH M jMR 0 0 0 0 (jQi post)
theorem bX8_bars_0 {G : jGT} {d : Nat} {x1 : Int32} {x2 : Int32} {M : jM} {post : Int32 → jM → Prop} (h : CI G d mX8_isJudge [.ref 117, .int x1] M (fun r1 M1 => (if r1 = 0 then post (-1 : Int32) M1 else CI G d mX8_in [.int x2, .int (0 : Int32), .int (2 : Int32)] M1 (fun r2 M2 => (if r2 = 0 then post (-1 : Int32) M2 else CV G d mX8_looksFor [.ref 117, .int x1] M2 (fun M3 => CI G d mX8_barNow [.ref 117] M3 (fun r4 M4 => kX8_bars_48 G d x1 x2 ((M3 117 15) - r4) (0 : Int32) (-5 : Int32) (-5 : Int32) (0 : Int32) M4 post))))))) : kX8_bars_0 G d  x1 x2 M post := by
  unfold kX8_bars_0
  refine J_aload_0 dX8_bars_0 ?_
  refine J_iload_1 dX8_bars_1 ?_
  refine K_callVI (As := [.int x1]) (rest := []) dX8_bars_2 vl_X8_137 jlt_117 jsh_117 _ rfl rfl h rfl rfl (Nat.le_of_ble_eq_true rfl) (fun r1 M1 h => ?_)
  refine J_if_eq (t := 17) dX8_bars_5 (by decide) (fun c0 => ?_) (fun c0 => ?_)
  · replace h := ite_t c0 h
    refine J_iconst (-1 : Int32) dX8_bars_17 (by decide) ?_
    exact K_iret dX8_bars_18 rfl h
  · replace h := ite_f c0 h
    refine J_iload_2 dX8_bars_8 ?_
    refine J_iconst (0 : Int32) dX8_bars_9 (by decide) ?_
    refine J_iconst (2 : Int32) dX8_bars_10 (by decide) ?_
    refine K_callSI (rest := []) dX8_bars_11 sl_X8_53 h rfl rfl (Nat.le_of_ble_eq_true rfl) (fun r2 M2 h => ?_)
    refine J_if_ne (t := 19) dX8_bars_14 (by decide) (fun c1 => ?_) (fun c1 => ?_)
    · replace h := ite_f c1 h
      refine J_aload_0 dX8_bars_19 ?_
      refine J_iload_1 dX8_bars_20 ?_
      refine K_callVV (As := [.int x1]) (rest := []) dX8_bars_21 vl_X8_154 jlt_117 jsh_117 _ rfl rfl h rfl rfl (Nat.le_of_ble_eq_true rfl) (fun M3 h => ?_)
      refine J_aload_0 dX8_bars_24 ?_
      refine J_getI dX8_bars_25 fl_X8_150 jlt_117 jsh_117 (by decide) jrf_8_15 ?_
      refine J_aload_0 dX8_bars_28 ?_
      refine K_callVI (As := []) (rest := [.int (M3 117 15)]) dX8_bars_29 vl_X8_130 jlt_117 jsh_117 _ rfl rfl h rfl rfl (Nat.le_of_ble_eq_true rfl) (fun r4 M4 h => ?_)
      refine J_isub dX8_bars_32 ?_
      refine J_istore_3 dX8_bars_33 rfl ?_
      refine J_iconst (0 : Int32) dX8_bars_34 (by decide) ?_
      refine J_istore_4 dX8_bars_35 rfl ?_
      refine J_bipush (-5 : Int32) dX8_bars_37 (by decide) ?_
      refine J_istore_5 dX8_bars_39 rfl ?_
      refine J_bipush (-5 : Int32) dX8_bars_41 (by decide) ?_
      refine J_istore_6 dX8_bars_43 rfl ?_
      refine J_iconst (0 : Int32) dX8_bars_45 (by decide) ?_
      refine J_istore_7 dX8_bars_46 rfl ?_
      exact h
    · replace h := ite_t c1 h
      refine J_iconst (-1 : Int32) dX8_bars_17 (by decide) ?_
      exact K_iret dX8_bars_18 rfl h
theorem bX8_bars_48 {G : jGT} {d : Nat} {x1 : Int32} {x2 : Int32} {x3 : Int32} {x4 : Int32} {x5 : Int32} {x6 : Int32} {x7 : Int32} {M : jM} {post : Int32 → jM → Prop} (h : (if (40 : Int32) < x7 then (if x2 = 0 then post x4 M else (if x2 = (1 : Int32) then post x5 M else post x6 M)) else CI G d mX8_firstUnlawful [.ref 117, .int x1, .int (-1 : Int32)] (jup M 117 15 (x7 + x3)) (fun r1 M1 => (if r1 = (-5 : Int32) then (if x5 = (-5 : Int32) then kX8_bars_48 G d x1 x2 x3 (x4 + (1 : Int32)) x7 x7 (x7 + (1 : Int32)) M1 post else kX8_bars_48 G d x1 x2 x3 (x4 + (1 : Int32)) x5 x7 (x7 + (1 : Int32)) M1 post) else kX8_bars_48 G d x1 x2 x3 (x4 + (0 : Int32)) x5 x6 (x7 + (1 : Int32)) M1 post)))) : kX8_bars_48 G d  x1 x2 x3 x4 x5 x6 x7 M post := by
  unfold kX8_bars_48
  refine J_iload_7 dX8_bars_48 ?_
  refine J_bipush (40 : Int32) dX8_bars_50 (by decide) ?_
  refine J_icmp_gt (t := 137) dX8_bars_52 (by decide) (fun c0 => ?_) (fun c0 => ?_)
  · replace h := ite_t c0 h
    refine J_iload_2 dX8_bars_137 ?_
    refine J_if_ne (t := 146) dX8_bars_138 (by decide) (fun c1 => ?_) (fun c1 => ?_)
    · replace h := ite_f c1 h
      refine J_iload_2 dX8_bars_146 ?_
      refine J_iconst (1 : Int32) dX8_bars_147 (by decide) ?_
      refine J_icmp_ne (t := 156) dX8_bars_148 (by decide) (fun c2 => ?_) (fun c2 => ?_)
      · replace h := ite_f c2 h
        refine J_iload_6 dX8_bars_156 ?_
        exact K_iret dX8_bars_158 rfl h
      · replace h := ite_t c2 h
        refine J_iload_5 dX8_bars_151 ?_
        refine J_goto (t := 158) dX8_bars_153 (by decide) ?_
        exact K_iret dX8_bars_158 rfl h
    · replace h := ite_t c1 h
      refine J_iload_4 dX8_bars_141 ?_
      refine J_goto (t := 158) dX8_bars_143 (by decide) ?_
      exact K_iret dX8_bars_158 rfl h
  · replace h := ite_f c0 h
    refine J_aload_0 dX8_bars_55 ?_
    refine J_iload_7 dX8_bars_56 ?_
    refine J_iload_3 dX8_bars_58 ?_
    refine J_iadd dX8_bars_59 ?_
    refine J_putI false dX8_bars_60 pl_X8_150 jlt_117 jsh_117 (by decide) jrf_8_15 (fun q => absurd q (by decide)) ?_
    refine J_aload_0 dX8_bars_63 ?_
    refine J_iload_1 dX8_bars_64 ?_
    refine J_iconst (-1 : Int32) dX8_bars_65 (by decide) ?_
    refine K_callVI (As := [.int x1, .int (-1 : Int32)]) (rest := []) dX8_bars_66 vl_X8_225 jlt_117 jsh_117 _ rfl rfl h rfl rfl (Nat.le_of_ble_eq_true rfl) (fun r1 M1 h => ?_)
    refine J_bipush (-5 : Int32) dX8_bars_69 (by decide) ?_
    refine J_icmp_ne (t := 78) dX8_bars_71 (by decide) (fun c1 => ?_) (fun c1 => ?_)
    · replace h := ite_f c1 h
      refine J_iconst (0 : Int32) dX8_bars_78 (by decide) ?_
      refine J_istore_8 dX8_bars_79 rfl ?_
      refine J_iload_4 dX8_bars_81 ?_
      refine J_iload_8 dX8_bars_83 ?_
      refine J_if_eq (t := 92) dX8_bars_85 (by decide) (fun c2 => ?_) (fun c2 => absurd c2 (by decide))
      refine J_iconst (0 : Int32) dX8_bars_92 (by decide) ?_
      refine J_iadd dX8_bars_93 ?_
      refine J_istore_4 dX8_bars_94 rfl ?_
      refine J_iload_8 dX8_bars_96 ?_
      refine J_if_eq (t := 113) dX8_bars_98 (by decide) (fun c3 => ?_) (fun c3 => absurd c3 (by decide))
      refine J_iload_5 dX8_bars_113 ?_
      refine J_istore_5 dX8_bars_115 rfl ?_
      refine J_iload_8 dX8_bars_117 ?_
      refine J_if_eq (t := 127) dX8_bars_119 (by decide) (fun c4 => ?_) (fun c4 => absurd c4 (by decide))
      refine J_iload_6 dX8_bars_127 ?_
      refine J_istore_6 dX8_bars_129 rfl ?_
      refine J_iinc_7 (1 : Int32) dX8_bars_131 (by decide) rfl ?_
      refine J_goto (t := 48) dX8_bars_134 (by decide) ?_
      exact J_weak (lv' := [some (.ref 117), some (.int x1), some (.int x2), some (.int x3), some (.int (x4 + (0 : Int32))), some (.int x5), some (.int x6), some (.int (x7 + (1 : Int32))), none]) (And.intro rfl (And.intro rfl (And.intro rfl (And.intro rfl (And.intro rfl (And.intro rfl (And.intro rfl (And.intro rfl trivial)))))))) h
    · replace h := ite_t c1 h
      refine J_iconst (1 : Int32) dX8_bars_74 (by decide) ?_
      refine J_goto (t := 79) dX8_bars_75 (by decide) ?_
      refine J_istore_8 dX8_bars_79 rfl ?_
      refine J_iload_4 dX8_bars_81 ?_
      refine J_iload_8 dX8_bars_83 ?_
      refine J_if_eq (t := 92) dX8_bars_85 (by decide) (fun c2 => absurd c2 (by decide)) (fun c2 => ?_)
      refine J_iconst (1 : Int32) dX8_bars_88 (by decide) ?_
      refine J_goto (t := 93) dX8_bars_89 (by decide) ?_
      refine J_iadd dX8_bars_93 ?_
      refine J_istore_4 dX8_bars_94 rfl ?_
      refine J_iload_8 dX8_bars_96 ?_
      refine J_if_eq (t := 113) dX8_bars_98 (by decide) (fun c3 => absurd c3 (by decide)) (fun c3 => ?_)
      refine J_iload_5 dX8_bars_101 ?_
      refine J_bipush (-5 : Int32) dX8_bars_103 (by decide) ?_
      refine J_icmp_ne (t := 113) dX8_bars_105 (by decide) (fun c4 => ?_) (fun c4 => ?_)
      · replace h := ite_f c4 h
        refine J_iload_5 dX8_bars_113 ?_
        refine J_istore_5 dX8_bars_115 rfl ?_
        refine J_iload_8 dX8_bars_117 ?_
        refine J_if_eq (t := 127) dX8_bars_119 (by decide) (fun c5 => absurd c5 (by decide)) (fun c5 => ?_)
        refine J_iload_7 dX8_bars_122 ?_
        refine J_goto (t := 129) dX8_bars_124 (by decide) ?_
        refine J_istore_6 dX8_bars_129 rfl ?_
        refine J_iinc_7 (1 : Int32) dX8_bars_131 (by decide) rfl ?_
        refine J_goto (t := 48) dX8_bars_134 (by decide) ?_
        exact J_weak (lv' := [some (.ref 117), some (.int x1), some (.int x2), some (.int x3), some (.int (x4 + (1 : Int32))), some (.int x5), some (.int x7), some (.int (x7 + (1 : Int32))), none]) (And.intro rfl (And.intro rfl (And.intro rfl (And.intro rfl (And.intro rfl (And.intro rfl (And.intro rfl (And.intro rfl trivial)))))))) h
      · replace h := ite_t c4 h
        refine J_iload_7 dX8_bars_108 ?_
        refine J_goto (t := 115) dX8_bars_110 (by decide) ?_
        refine J_istore_5 dX8_bars_115 rfl ?_
        refine J_iload_8 dX8_bars_117 ?_
        refine J_if_eq (t := 127) dX8_bars_119 (by decide) (fun c5 => absurd c5 (by decide)) (fun c5 => ?_)
        refine J_iload_7 dX8_bars_122 ?_
        refine J_goto (t := 129) dX8_bars_124 (by decide) ?_
        refine J_istore_6 dX8_bars_129 rfl ?_
        refine J_iinc_7 (1 : Int32) dX8_bars_131 (by decide) rfl ?_
        refine J_goto (t := 48) dX8_bars_134 (by decide) ?_
        exact J_weak (lv' := [some (.ref 117), some (.int x1), some (.int x2), some (.int x3), some (.int (x4 + (1 : Int32))), some (.int x7), some (.int x7), some (.int (x7 + (1 : Int32))), none]) (And.intro rfl (And.intro rfl (And.intro rfl (And.intro rfl (And.intro rfl (And.intro rfl (And.intro rfl (And.intro rfl trivial)))))))) h
theorem eX8_bars {G : jGT} {d : Nat} {x1 : Int32} {x2 : Int32} {M : jM} {post : Int32 → jM → Prop} (h : kX8_bars_0 G d  x1 x2 M post) : CI G (d + 1) mX8_bars [.ref 117, .int x1, .int x2] M post := Con_of_J ok_X8_bars 6 rfl rfl h
def kX8_queue_0 (G : jGT) (d : Nat)  (x1 : Int32) (M : jM) (post : Int32 → jM → Prop) : Prop := J G (d + 1) mX8_queue 0 [some (.ref 117), some (.int x1)] [] jN jSH M jMR 0 0 0 0 (jQi post)
theorem bX8_queue_0 {G : jGT} {d : Nat} {x1 : Int32} {M : jM} {post : Int32 → jM → Prop} (h : (if x1 = (-1 : Int32) then post (0 : Int32) (jup M 118 4 (0 : Int32)) else CI G d mX8_isSuit [.ref 117, .int x1] M (fun r1 M1 => (if r1 = 0 then post (-1 : Int32) M1 else (if (M1 118 4) = (8 : Int32) then post (-4 : Int32) M1 else (vp_in ((98 : Int32) + (M1 118 4)) 916 ∧ post (((jup M1 118 (((98 : Int32) + (M1 118 4)).toNatClampNeg) x1) 118 4) + (1 : Int32)) (jup (jup M1 118 (((98 : Int32) + (M1 118 4)).toNatClampNeg) x1) 118 4 (((jup M1 118 (((98 : Int32) + (M1 118 4)).toNatClampNeg) x1) 118 4) + (1 : Int32))))))))) : kX8_queue_0 G d  x1 M post := by
  unfold kX8_queue_0
  refine J_iload_1 dX8_queue_0 ?_
  refine J_iconst (-1 : Int32) dX8_queue_1 (by decide) ?_
  refine J_icmp_ne (t := 14) dX8_queue_2 (by decide) (fun c0 => ?_) (fun c0 => ?_)
  · replace h := ite_f c0 h
    refine J_aload_0 dX8_queue_14 ?_
    refine J_iload_1 dX8_queue_15 ?_
    refine K_callVI (As := [.int x1]) (rest := []) dX8_queue_16 vl_X8_133 jlt_117 jsh_117 _ rfl rfl h rfl rfl (Nat.le_of_ble_eq_true rfl) (fun r1 M1 h => ?_)
    refine J_if_ne (t := 24) dX8_queue_19 (by decide) (fun c1 => ?_) (fun c1 => ?_)
    · replace h := ite_f c1 h
      refine J_aload_0 dX8_queue_24 ?_
      refine J_getR 118 dX8_queue_25 fl_X8_9 jlt_117 jsh_117 (by decide) jrf_8_1 jmr_117_1 ?_
      refine J_iconst (4 : Int32) dX8_queue_28 (by decide) ?_
      refine K_iald 4 rfl dX8_queue_29 jlt_118 jsh_118 (vp_lit (by decide)) ?_
      refine J_bipush (8 : Int32) dX8_queue_30 (by decide) ?_
      refine J_icmp_ne (t := 38) dX8_queue_32 (by decide) (fun c2 => ?_) (fun c2 => ?_)
      · replace h := ite_f c2 h
        refine J_aload_0 dX8_queue_38 ?_
        refine J_getR 118 dX8_queue_39 fl_X8_9 jlt_117 jsh_117 (by decide) jrf_8_1 jmr_117_1 ?_
        refine J_bipush (98 : Int32) dX8_queue_42 (by decide) ?_
        refine J_aload_0 dX8_queue_44 ?_
        refine J_getR 118 dX8_queue_45 fl_X8_9 jlt_117 jsh_117 (by decide) jrf_8_1 jmr_117_1 ?_
        refine J_iconst (4 : Int32) dX8_queue_48 (by decide) ?_
        refine K_iald 4 rfl dX8_queue_49 jlt_118 jsh_118 (vp_lit (by decide)) ?_
        refine J_iadd dX8_queue_50 ?_
        refine J_iload_1 dX8_queue_51 ?_
        obtain ⟨g3, h⟩ := h
        refine K_iast (((98 : Int32) + (M1 118 4)).toNatClampNeg) rfl dX8_queue_52 jlt_118 jsh_118 g3 ?_
        refine J_aload_0 dX8_queue_53 ?_
        refine J_getR 118 dX8_queue_54 fl_X8_9 jlt_117 jsh_117 (by decide) jrf_8_1 jmr_117_1 ?_
        refine J_iconst (4 : Int32) dX8_queue_57 (by decide) ?_
        refine J_dup2 dX8_queue_58 rfl rfl ?_
        refine K_iald 4 rfl dX8_queue_59 jlt_118 jsh_118 (vp_lit (by decide)) ?_
        refine J_iconst (1 : Int32) dX8_queue_60 (by decide) ?_
        refine J_iadd dX8_queue_61 ?_
        refine K_iast 4 rfl dX8_queue_62 jlt_118 jsh_118 (vp_lit (by decide)) ?_
        refine J_aload_0 dX8_queue_63 ?_
        refine J_getR 118 dX8_queue_64 fl_X8_9 jlt_117 jsh_117 (by decide) jrf_8_1 jmr_117_1 ?_
        refine J_iconst (4 : Int32) dX8_queue_67 (by decide) ?_
        refine K_iald 4 rfl dX8_queue_68 jlt_118 jsh_118 (vp_lit (by decide)) ?_
        exact K_iret dX8_queue_69 rfl h
      · replace h := ite_t c2 h
        refine J_bipush (-4 : Int32) dX8_queue_35 (by decide) ?_
        exact K_iret dX8_queue_37 rfl h
    · replace h := ite_t c1 h
      refine J_iconst (-1 : Int32) dX8_queue_22 (by decide) ?_
      exact K_iret dX8_queue_23 rfl h
  · replace h := ite_t c0 h
    refine J_aload_0 dX8_queue_5 ?_
    refine J_getR 118 dX8_queue_6 fl_X8_9 jlt_117 jsh_117 (by decide) jrf_8_1 jmr_117_1 ?_
    refine J_iconst (4 : Int32) dX8_queue_9 (by decide) ?_
    refine J_iconst (0 : Int32) dX8_queue_10 (by decide) ?_
    refine K_iast 4 rfl dX8_queue_11 jlt_118 jsh_118 (vp_lit (by decide)) ?_
    refine J_iconst (0 : Int32) dX8_queue_12 (by decide) ?_
    exact K_iret dX8_queue_13 rfl h
theorem eX8_queue {G : jGT} {d : Nat} {x1 : Int32} {M : jM} {post : Int32 → jM → Prop} (h : kX8_queue_0 G d  x1 M post) : CI G (d + 1) mX8_queue [.ref 117, .int x1] M post := Con_of_J ok_X8_queue 0 rfl rfl h
def kX8_falls_0 (G : jGT) (d : Nat)  (x1 : Int32) (x2 : Int32) (x3 : Int32) (x4 : Int32) (M : jM) (post : Int64 → jM → Prop) : Prop := J G (d + 1) mX8_falls 0 [some (.ref 117), some (.int x1), some (.int x2), some (.int x3), some (.int x4), none, none, none, none, none, none] [] jN jSH M jMR 0 0 0 0 (jQl post)
def kX8_falls_46 (G : jGT) (d : Nat)  (x1 : Int32) (x2 : Int32) (x3 : Int32) (x4 : Int32) (x5 : Int32) (x6 : Int32) (y7 : Int64) (x9 : Int32) (M : jM) (post : Int64 → jM → Prop) : Prop := J G (d + 1) mX8_falls 46 [some (.ref 117), some (.int x1), some (.int x2), some (.int x3), some (.int x4), some (.int x5), some (.int x6), some (.long y7), none, some (.int x9), none] [] jN jSH M jMR 0 0 0 0 (jQl post)
def kX8_falls_65 (G : jGT) (d : Nat)  (x1 : Int32) (x2 : Int32) (x3 : Int32) (x4 : Int32) (x5 : Int32) (x6 : Int32) (y7 : Int64) (x9 : Int32) (M : jM) (post : Int64 → jM → Prop) : Prop := J G (d + 1) mX8_falls 65 [some (.ref 117), some (.int x1), some (.int x2), some (.int x3), some (.int x4), some (.int x5), some (.int x6), some (.long y7), none, some (.int x9), none] [] jN jSH M jMR 0 0 0 0 (jQl post)
def kX8_falls_78 (G : jGT) (d : Nat)  (x1 : Int32) (x2 : Int32) (x3 : Int32) (x4 : Int32) (x5 : Int32) (x6 : Int32) (y7 : Int64) (x9 : Int32) (s0 : Int32) (M : jM) (post : Int64 → jM → Prop) : Prop := J G (d + 1) mX8_falls 78 [some (.ref 117), some (.int x1), some (.int x2), some (.int x3), some (.int x4), some (.int x5), some (.int x6), some (.long y7), none, some (.int x9), none] [.int s0] jN jSH M jMR 0 0 0 0 (jQl post)
def kX8_falls_102 (G : jGT) (d : Nat)  (x1 : Int32) (x2 : Int32) (x3 : Int32) (x4 : Int32) (x5 : Int32) (x6 : Int32) (y7 : Int64) (x9 : Int32) (x10 : Int32) (s1 : Int32) (s2 : Int32) (M : jM) (post : Int64 → jM → Prop) : Prop := J G (d + 1) mX8_falls 102 [some (.ref 117), some (.int x1), some (.int x2), some (.int x3), some (.int x4), some (.int x5), some (.int x6), some (.long y7), none, some (.int x9), some (.int x10)] [.int s2, .int s1, .ref 117] jN jSH M jMR 0 0 0 0 (jQl post)
def kX8_falls_180 (G : jGT) (d : Nat)  (x1 : Int32) (x2 : Int32) (x3 : Int32) (x4 : Int32) (x5 : Int32) (x6 : Int32) (y7 : Int64) (x9 : Int32) (x10 : Int32) (t0 : Int64) (t1 : Int64) (M : jM) (post : Int64 → jM → Prop) : Prop := J G (d + 1) mX8_falls 180 [some (.ref 117), some (.int x1), some (.int x2), some (.int x3), some (.int x4), some (.int x5), some (.int x6), some (.long y7), none, some (.int x9), some (.int x10)] [.long t1, .long t0] jN jSH M jMR 0 0 0 0 (jQl post)
def kX8_falls_183 (G : jGT) (d : Nat)  (x1 : Int32) (x2 : Int32) (x3 : Int32) (x4 : Int32) (x5 : Int32) (x6 : Int32) (y7 : Int64) (x9 : Int32) (M : jM) (post : Int64 → jM → Prop) : Prop := J G (d + 1) mX8_falls 183 [some (.ref 117), some (.int x1), some (.int x2), some (.int x3), some (.int x4), some (.int x5), some (.int x6), some (.long y7), none, some (.int x9), none] [] jN jSH M jMR 0 0 0 0 (jQl post)
theorem bX8_falls_0 {G : jGT} {d : Nat} {x1 : Int32} {x2 : Int32} {x3 : Int32} {x4 : Int32} {M : jM} {post : Int64 → jM → Prop} (h : (if x2 = (M 118 4) then post (0 : Int64) M else (vp_in ((98 : Int32) + x2) 916 ∧ (vp_in ((10 : Int32) + (M 118 (((98 : Int32) + x2).toNatClampNeg))) 916 ∧ CI G d mX8_decidesBy [.ref 117, .int x1, .int (M 118 (((10 : Int32) + (M 118 (((98 : Int32) + x2).toNatClampNeg))).toNatClampNeg))] M (fun r1 M1 => kX8_falls_46 G d x1 x2 x3 x4 (M 118 (((98 : Int32) + x2).toNatClampNeg)) r1 (0 : Int64) (0 : Int32) M1 post))))) : kX8_falls_0 G d  x1 x2 x3 x4 M post := by
  unfold kX8_falls_0
  refine J_iload_2 dX8_falls_0 ?_
  refine J_aload_0 dX8_falls_1 ?_
  refine J_getR 118 dX8_falls_2 fl_X8_9 jlt_117 jsh_117 (by decide) jrf_8_1 jmr_117_1 ?_
  refine J_iconst (4 : Int32) dX8_falls_5 (by decide) ?_
  refine K_iald 4 rfl dX8_falls_6 jlt_118 jsh_118 (vp_lit (by decide)) ?_
  refine J_icmp_ne (t := 12) dX8_falls_7 (by decide) (fun c0 => ?_) (fun c0 => ?_)
  · replace h := ite_f c0 h
    refine J_aload_0 dX8_falls_12 ?_
    refine J_getR 118 dX8_falls_13 fl_X8_9 jlt_117 jsh_117 (by decide) jrf_8_1 jmr_117_1 ?_
    refine J_bipush (98 : Int32) dX8_falls_16 (by decide) ?_
    refine J_iload_2 dX8_falls_18 ?_
    refine J_iadd dX8_falls_19 ?_
    obtain ⟨g1, h⟩ := h
    refine K_iald (((98 : Int32) + x2).toNatClampNeg) rfl dX8_falls_20 jlt_118 jsh_118 g1 ?_
    refine J_istore_5 dX8_falls_21 rfl ?_
    refine J_aload_0 dX8_falls_23 ?_
    refine J_iload_1 dX8_falls_24 ?_
    refine J_aload_0 dX8_falls_25 ?_
    refine J_getR 118 dX8_falls_26 fl_X8_9 jlt_117 jsh_117 (by decide) jrf_8_1 jmr_117_1 ?_
    refine J_bipush (10 : Int32) dX8_falls_29 (by decide) ?_
    refine J_iload_5 dX8_falls_31 ?_
    refine J_iadd dX8_falls_33 ?_
    obtain ⟨g2, h⟩ := h
    refine K_iald (((10 : Int32) + (M 118 (((98 : Int32) + x2).toNatClampNeg))).toNatClampNeg) rfl dX8_falls_34 jlt_118 jsh_118 g2 ?_
    refine K_callVI (As := [.int x1, .int (M 118 (((10 : Int32) + (M 118 (((98 : Int32) + x2).toNatClampNeg))).toNatClampNeg))]) (rest := []) dX8_falls_35 vl_X8_188 jlt_117 jsh_117 _ rfl rfl h rfl rfl (Nat.le_of_ble_eq_true rfl) (fun r1 M1 h => ?_)
    refine J_istore_6 dX8_falls_38 rfl ?_
    refine J_lconst (0 : Int64) dX8_falls_40 (by decide) ?_
    refine J_lstore_7 dX8_falls_41 rfl ?_
    refine J_iconst (0 : Int32) dX8_falls_43 (by decide) ?_
    refine J_istore_9 dX8_falls_44 rfl ?_
    exact h
  · replace h := ite_t c0 h
    refine J_lconst (0 : Int64) dX8_falls_10 (by decide) ?_
    exact K_lret dX8_falls_11 rfl h
theorem bX8_falls_46 {G : jGT} {d : Nat} {x1 : Int32} {x2 : Int32} {x3 : Int32} {x4 : Int32} {x5 : Int32} {x6 : Int32} {y7 : Int64} {x9 : Int32} {M : jM} {post : Int64 → jM → Prop} (h : (if (2 : Int32) ≤ x9 then post y7 M else (if x6 = (2 : Int32) then kX8_falls_65 G d x1 x2 x3 x4 x5 x6 y7 x9 M post else (if x6 = x9 then kX8_falls_65 G d x1 x2 x3 x4 x5 x6 y7 x9 M post else kX8_falls_183 G d x1 x2 x3 x4 x5 x6 y7 x9 M post)))) : kX8_falls_46 G d  x1 x2 x3 x4 x5 x6 y7 x9 M post := by
  unfold kX8_falls_46
  refine J_iload_9 dX8_falls_46 ?_
  refine J_iconst (2 : Int32) dX8_falls_48 (by decide) ?_
  refine J_icmp_ge (t := 189) dX8_falls_49 (by decide) (fun c0 => ?_) (fun c0 => ?_)
  · replace h := ite_t c0 h
    refine J_lload_7 dX8_falls_189 ?_
    exact K_lret dX8_falls_191 rfl h
  · replace h := ite_f c0 h
    refine J_iload_6 dX8_falls_52 ?_
    refine J_iconst (2 : Int32) dX8_falls_54 (by decide) ?_
    refine J_icmp_eq (t := 65) dX8_falls_55 (by decide) (fun c1 => ?_) (fun c1 => ?_)
    · replace h := ite_t c1 h
      exact h
    · replace h := ite_f c1 h
      refine J_iload_6 dX8_falls_58 ?_
      refine J_iload_9 dX8_falls_60 ?_
      refine J_icmp_ne (t := 183) dX8_falls_62 (by decide) (fun c2 => ?_) (fun c2 => ?_)
      · replace h := ite_f c2 h
        exact h
      · replace h := ite_t c2 h
        exact h
theorem bX8_falls_65 {G : jGT} {d : Nat} {x1 : Int32} {x2 : Int32} {x3 : Int32} {x4 : Int32} {x5 : Int32} {x6 : Int32} {y7 : Int64} {x9 : Int32} {M : jM} {post : Int64 → jM → Prop} (h : (if x6 = (2 : Int32) then kX8_falls_78 G d x1 x2 x3 x4 x5 x6 y7 x9 (x3 / (2 : Int32)) M post else kX8_falls_78 G d x1 x2 x3 x4 x5 x6 y7 x9 x3 M post)) : kX8_falls_65 G d  x1 x2 x3 x4 x5 x6 y7 x9 M post := by
  unfold kX8_falls_65
  refine J_iload_6 dX8_falls_65 ?_
  refine J_iconst (2 : Int32) dX8_falls_67 (by decide) ?_
  refine J_icmp_ne (t := 77) dX8_falls_68 (by decide) (fun c0 => ?_) (fun c0 => ?_)
  · replace h := ite_f c0 h
    refine J_iload_3 dX8_falls_77 ?_
    exact h
  · replace h := ite_t c0 h
    refine J_iload_3 dX8_falls_71 ?_
    refine J_iconst (2 : Int32) dX8_falls_72 (by decide) ?_
    refine J_idiv dX8_falls_73 (by decide) ?_
    refine J_goto (t := 78) dX8_falls_74 (by decide) ?_
    exact h
theorem bX8_falls_78 {G : jGT} {d : Nat} {x1 : Int32} {x2 : Int32} {x3 : Int32} {x4 : Int32} {x5 : Int32} {x6 : Int32} {y7 : Int64} {x9 : Int32} {s0 : Int32} {M : jM} {post : Int64 → jM → Prop} (h : (vp_in ((10 : Int32) + x5) 916 ∧ (if x9 = (1 : Int32) then kX8_falls_102 G d x1 x2 x3 x4 x5 x6 y7 x9 s0 (M 118 (((10 : Int32) + x5).toNatClampNeg)) (1 : Int32) M post else kX8_falls_102 G d x1 x2 x3 x4 x5 x6 y7 x9 s0 (M 118 (((10 : Int32) + x5).toNatClampNeg)) (0 : Int32) M post))) : kX8_falls_78 G d  x1 x2 x3 x4 x5 x6 y7 x9 s0 M post := by
  unfold kX8_falls_78
  refine J_istore_10 dX8_falls_78 rfl ?_
  refine J_aload_0 dX8_falls_80 ?_
  refine J_aload_0 dX8_falls_81 ?_
  refine J_getR 118 dX8_falls_82 fl_X8_9 jlt_117 jsh_117 (by decide) jrf_8_1 jmr_117_1 ?_
  refine J_bipush (10 : Int32) dX8_falls_85 (by decide) ?_
  refine J_iload_5 dX8_falls_87 ?_
  refine J_iadd dX8_falls_89 ?_
  obtain ⟨g0, h⟩ := h
  refine K_iald (((10 : Int32) + x5).toNatClampNeg) rfl dX8_falls_90 jlt_118 jsh_118 g0 ?_
  refine J_iload_9 dX8_falls_91 ?_
  refine J_iconst (1 : Int32) dX8_falls_93 (by decide) ?_
  refine J_icmp_ne (t := 101) dX8_falls_94 (by decide) (fun c1 => ?_) (fun c1 => ?_)
  · replace h := ite_f c1 h
    refine J_iconst (0 : Int32) dX8_falls_101 (by decide) ?_
    exact h
  · replace h := ite_t c1 h
    refine J_iconst (1 : Int32) dX8_falls_97 (by decide) ?_
    refine J_goto (t := 102) dX8_falls_98 (by decide) ?_
    exact h
theorem bX8_falls_102 {G : jGT} {d : Nat} {x1 : Int32} {x2 : Int32} {x3 : Int32} {x4 : Int32} {x5 : Int32} {x6 : Int32} {y7 : Int64} {x9 : Int32} {x10 : Int32} {s1 : Int32} {s2 : Int32} {M : jM} {post : Int64 → jM → Prop} (h : CV G d mX8_writes [.ref 117, .int s1, .int s2] M (fun M1 => CL G d mX8_falls [.ref 117, .int x1, .int (x2 + (1 : Int32)), .int x10, .int x4] M1 (fun r2 M2 => (if x9 = 0 then kX8_falls_180 G d x1 x2 x3 x4 x5 x6 (y7 + r2) x9 x10 (y7 + r2) (0 : Int64) (jup M2 117 18 ((M2 117 18) - (1 : Int32))) post else (if x4 = (-1 : Int32) then (vp_in ((18 : Int32) + x5) 916 ∧ kX8_falls_180 G d x1 x2 x3 x4 x5 x6 (y7 + r2) x9 x10 (y7 + r2) (x10.toInt64 * ((M2 118 (((18 : Int32) + x5).toNatClampNeg)).toInt64)) (jup M2 117 18 ((M2 117 18) - (1 : Int32))) post) else (if x4 = x2 then kX8_falls_180 G d x1 x2 x3 x4 x5 x6 (y7 + r2) x9 x10 (y7 + r2) x10.toInt64 (jup M2 117 18 ((M2 117 18) - (1 : Int32))) post else kX8_falls_180 G d x1 x2 x3 x4 x5 x6 (y7 + r2) x9 x10 (y7 + r2) (0 : Int64) (jup M2 117 18 ((M2 117 18) - (1 : Int32))) post)))))) : kX8_falls_102 G d  x1 x2 x3 x4 x5 x6 y7 x9 x10 s1 s2 M post := by
  unfold kX8_falls_102
  refine K_callVV (As := [.int s1, .int s2]) (rest := []) dX8_falls_102 vl_X8_164 jlt_117 jsh_117 _ rfl rfl h rfl rfl (Nat.le_of_ble_eq_true rfl) (fun M1 h => ?_)
  refine J_lload_7 dX8_falls_105 ?_
  refine J_aload_0 dX8_falls_107 ?_
  refine J_iload_1 dX8_falls_108 ?_
  refine J_iload_2 dX8_falls_109 ?_
  refine J_iconst (1 : Int32) dX8_falls_110 (by decide) ?_
  refine J_iadd dX8_falls_111 ?_
  refine J_iload_10 dX8_falls_112 ?_
  refine J_iload_4 dX8_falls_114 ?_
  refine K_callVL (As := [.int x1, .int (x2 + (1 : Int32)), .int x10, .int x4]) (rest := [.long y7]) dX8_falls_116 vl_X8_228 jlt_117 jsh_117 _ rfl rfl h rfl rfl (Nat.le_of_ble_eq_true rfl) (fun r2 M2 h => ?_)
  refine J_ladd dX8_falls_119 ?_
  refine J_lstore_7 dX8_falls_120 rfl ?_
  refine J_aload_0 dX8_falls_122 ?_
  refine J_dup dX8_falls_123 rfl ?_
  refine J_getI dX8_falls_124 fl_X8_161 jlt_117 jsh_117 (by decide) jrf_8_18 ?_
  refine J_iconst (1 : Int32) dX8_falls_127 (by decide) ?_
  refine J_isub dX8_falls_128 ?_
  refine J_putI false dX8_falls_129 pl_X8_161 jlt_117 jsh_117 (by decide) jrf_8_18 (fun q => absurd q (by decide)) ?_
  refine J_lload_7 dX8_falls_132 ?_
  refine J_iload_9 dX8_falls_134 ?_
  refine J_if_ne (t := 143) dX8_falls_136 (by decide) (fun c0 => ?_) (fun c0 => ?_)
  · replace h := ite_f c0 h
    refine J_iload_4 dX8_falls_143 ?_
    refine J_iconst (-1 : Int32) dX8_falls_145 (by decide) ?_
    refine J_icmp_ne (t := 167) dX8_falls_146 (by decide) (fun c1 => ?_) (fun c1 => ?_)
    · replace h := ite_f c1 h
      refine J_iload_4 dX8_falls_167 ?_
      refine J_iload_2 dX8_falls_169 ?_
      refine J_icmp_ne (t := 179) dX8_falls_170 (by decide) (fun c2 => ?_) (fun c2 => ?_)
      · replace h := ite_f c2 h
        refine J_lconst (0 : Int64) dX8_falls_179 (by decide) ?_
        exact h
      · replace h := ite_t c2 h
        refine J_iload_10 dX8_falls_173 ?_
        refine J_i2l dX8_falls_175 ?_
        refine J_goto (t := 180) dX8_falls_176 (by decide) ?_
        exact h
    · replace h := ite_t c1 h
      refine J_iload_10 dX8_falls_149 ?_
      refine J_i2l dX8_falls_151 ?_
      refine J_aload_0 dX8_falls_152 ?_
      refine J_getR 118 dX8_falls_153 fl_X8_9 jlt_117 jsh_117 (by decide) jrf_8_1 jmr_117_1 ?_
      refine J_bipush (18 : Int32) dX8_falls_156 (by decide) ?_
      refine J_iload_5 dX8_falls_158 ?_
      refine J_iadd dX8_falls_160 ?_
      obtain ⟨g2, h⟩ := h
      refine K_iald (((18 : Int32) + x5).toNatClampNeg) rfl dX8_falls_161 jlt_118 jsh_118 g2 ?_
      refine J_i2l dX8_falls_162 ?_
      refine J_lmul dX8_falls_163 ?_
      refine J_goto (t := 180) dX8_falls_164 (by decide) ?_
      exact h
  · replace h := ite_t c0 h
    refine J_lconst (0 : Int64) dX8_falls_139 (by decide) ?_
    refine J_goto (t := 180) dX8_falls_140 (by decide) ?_
    exact h
theorem bX8_falls_180 {G : jGT} {d : Nat} {x1 : Int32} {x2 : Int32} {x3 : Int32} {x4 : Int32} {x5 : Int32} {x6 : Int32} {y7 : Int64} {x9 : Int32} {x10 : Int32} {t0 : Int64} {t1 : Int64} {M : jM} {post : Int64 → jM → Prop} (h : kX8_falls_183 G d x1 x2 x3 x4 x5 x6 (t0 + t1) x9 M post) : kX8_falls_180 G d  x1 x2 x3 x4 x5 x6 y7 x9 x10 t0 t1 M post := by
  unfold kX8_falls_180
  refine J_ladd dX8_falls_180 ?_
  refine J_lstore_7 dX8_falls_181 rfl ?_
  exact J_weak (lv' := [some (.ref 117), some (.int x1), some (.int x2), some (.int x3), some (.int x4), some (.int x5), some (.int x6), some (.long (t0 + t1)), none, some (.int x9), none]) (And.intro rfl (And.intro rfl (And.intro rfl (And.intro rfl (And.intro rfl (And.intro rfl (And.intro rfl (And.intro rfl (And.intro rfl trivial))))))))) h
theorem bX8_falls_183 {G : jGT} {d : Nat} {x1 : Int32} {x2 : Int32} {x3 : Int32} {x4 : Int32} {x5 : Int32} {x6 : Int32} {y7 : Int64} {x9 : Int32} {M : jM} {post : Int64 → jM → Prop} (h : kX8_falls_46 G d x1 x2 x3 x4 x5 x6 y7 (x9 + (1 : Int32)) M post) : kX8_falls_183 G d  x1 x2 x3 x4 x5 x6 y7 x9 M post := by
  unfold kX8_falls_183
  refine J_iinc_9 (1 : Int32) dX8_falls_183 (by decide) rfl ?_
  refine J_goto (t := 46) dX8_falls_186 (by decide) ?_
  exact h
theorem eX8_falls {G : jGT} {d : Nat} {x1 : Int32} {x2 : Int32} {x3 : Int32} {x4 : Int32} {M : jM} {post : Int64 → jM → Prop} (h : kX8_falls_0 G d  x1 x2 x3 x4 M post) : CL G (d + 1) mX8_falls [.ref 117, .int x1, .int x2, .int x3, .int x4] M post := Con_of_J ok_X8_falls 6 rfl rfl h
def kX8_lowest_0 (G : jGT) (d : Nat)  (y0 : Int64) (y2 : Int64) (x4 : Int32) (M : jM) (post : Int64 → jM → Prop) : Prop := J G d mX8_lowest 0 [some (.long y0), none, some (.long y2), none, some (.int x4), none, none, none, none, none, none] [] jN jSH M jMR 0 0 0 0 (jQl post)
def kX8_lowest_6 (G : jGT) (d : Nat)  (y0 : Int64) (y2 : Int64) (x4 : Int32) (y5 : Int64) (y7 : Int64) (M : jM) (post : Int64 → jM → Prop) : Prop := J G d mX8_lowest 6 [some (.long y0), none, some (.long y2), none, some (.int x4), some (.long y5), none, some (.long y7), none, none, none] [] jN jSH M jMR 0 0 0 0 (jQl post)
theorem bX8_lowest_0 {G : jGT} {d : Nat} {y0 : Int64} {y2 : Int64} {x4 : Int32} {M : jM} {post : Int64 → jM → Prop} (h : kX8_lowest_6 G d y0 y2 x4 y0 y2 M post) : kX8_lowest_0 G d  y0 y2 x4 M post := by
  unfold kX8_lowest_0
  refine J_lload_0 dX8_lowest_0 ?_
  refine J_lstore_5 dX8_lowest_1 rfl ?_
  refine J_lload_2 dX8_lowest_3 ?_
  refine J_lstore_7 dX8_lowest_4 rfl ?_
  exact h
theorem bX8_lowest_6 {G : jGT} {d : Nat} {y0 : Int64} {y2 : Int64} {x4 : Int32} {y5 : Int64} {y7 : Int64} {M : jM} {post : Int64 → jM → Prop} (h : (if (lg_cmp y7 (0 : Int64)) = 0 then (if x4 = 0 then ((¬ y5 = 0) ∧ post (y0 / y5) M) else ((¬ y5 = 0) ∧ post (y2 / y5) M)) else ((¬ y7 = 0) ∧ kX8_lowest_6 G d y0 y2 x4 y7 (y5 - y5 / y7 * y7) M post))) : kX8_lowest_6 G d  y0 y2 x4 y5 y7 M post := by
  unfold kX8_lowest_6
  refine J_lload_7 dX8_lowest_6 ?_
  refine J_lconst (0 : Int64) dX8_lowest_8 (by decide) ?_
  refine J_lcmp dX8_lowest_9 ?_
  refine J_if_eq (t := 31) dX8_lowest_10 (by decide) (fun c0 => ?_) (fun c0 => ?_)
  · replace h := ite_t c0 h
    refine J_iload_4 dX8_lowest_31 ?_
    refine J_if_ne (t := 40) dX8_lowest_33 (by decide) (fun c1 => ?_) (fun c1 => ?_)
    · replace h := ite_f c1 h
      refine J_lload_2 dX8_lowest_40 ?_
      refine J_lload_5 dX8_lowest_41 ?_
      obtain ⟨g2, h⟩ := h
      refine J_ldiv dX8_lowest_43 g2 ?_
      exact K_lret dX8_lowest_44 rfl h
    · replace h := ite_t c1 h
      refine J_lload_0 dX8_lowest_36 ?_
      refine J_goto (t := 41) dX8_lowest_37 (by decide) ?_
      refine J_lload_5 dX8_lowest_41 ?_
      obtain ⟨g2, h⟩ := h
      refine J_ldiv dX8_lowest_43 g2 ?_
      exact K_lret dX8_lowest_44 rfl h
  · replace h := ite_f c0 h
    refine J_lload_5 dX8_lowest_13 ?_
    refine J_lload_7 dX8_lowest_15 ?_
    obtain ⟨g1, h⟩ := h
    refine J_lrem dX8_lowest_17 g1 ?_
    refine J_lstore_9 dX8_lowest_18 rfl ?_
    refine J_lload_7 dX8_lowest_20 ?_
    refine J_lstore_5 dX8_lowest_22 rfl ?_
    refine J_lload_9 dX8_lowest_24 ?_
    refine J_lstore_7 dX8_lowest_26 rfl ?_
    refine J_goto (t := 6) dX8_lowest_28 (by decide) ?_
    exact J_weak (lv' := [some (.long y0), none, some (.long y2), none, some (.int x4), some (.long y7), none, some (.long (y5 - y5 / y7 * y7)), none, none, none]) (And.intro rfl (And.intro rfl (And.intro rfl (And.intro rfl (And.intro rfl trivial))))) h
theorem eX8_lowest {G : jGT} {d : Nat} {y0 : Int64} {y2 : Int64} {x4 : Int32} {M : jM} {post : Int64 → jM → Prop} (h : kX8_lowest_0 G d  y0 y2 x4 M post) : CL G d mX8_lowest [.long y0, .long y2, .int x4] M post := Con_of_J ok_X8_lowest 6 rfl rfl h
def kX8_odds_0 (G : jGT) (d : Nat)  (x1 : Int32) (x2 : Int32) (x3 : Int32) (M : jM) (post : Int64 → jM → Prop) : Prop := J G (d + 1) mX8_odds 0 [some (.ref 117), some (.int x1), some (.int x2), some (.int x3)] [] jN jSH M jMR 0 0 0 0 (jQl post)
theorem bX8_odds_0 {G : jGT} {d : Nat} {x1 : Int32} {x2 : Int32} {x3 : Int32} {M : jM} {post : Int64 → jM → Prop} (h : CI G d mX8_isJudge [.ref 117, .int x1] M (fun r1 M1 => (if r1 = 0 then post (-9223372036854775808 : Int64) M1 else CI G d mX8_in [.int x2, .int (0 : Int32), .int ((M1 118 4) - (1 : Int32))] M1 (fun r2 M2 => (if r2 = 0 then post (-9223372036854775808 : Int64) M2 else CI G d mX8_in [.int x3, .int (0 : Int32), .int (1 : Int32)] M2 (fun r3 M3 => (if r3 = 0 then post (-9223372036854775808 : Int64) M3 else CV G d mX8_looksFor [.ref 117, .int x1] M3 (fun M4 => CV G d mX8_opens [.ref 117] M4 (fun M5 => CL G d mX8_falls [.ref 117, .int x1, .int (0 : Int32), .int (256 : Int32), .int x2] M5 (fun r6 M6 => CL G d mX8_lowest [.long r6, .long (256 : Int64), .int x3] M6 (fun r7 M7 => post r7 M7))))))))))) : kX8_odds_0 G d  x1 x2 x3 M post := by
  unfold kX8_odds_0
  refine J_aload_0 dX8_odds_0 ?_
  refine J_iload_1 dX8_odds_1 ?_
  refine K_callVI (As := [.int x1]) (rest := []) dX8_odds_2 vl_X8_137 jlt_117 jsh_117 _ rfl rfl h rfl rfl (Nat.le_of_ble_eq_true rfl) (fun r1 M1 h => ?_)
  refine J_if_eq (t := 33) dX8_odds_5 (by decide) (fun c0 => ?_) (fun c0 => ?_)
  · replace h := ite_t c0 h
    refine J_ldc2 (-9223372036854775808 : Int64) dX8_odds_33 w_1242 ?_
    exact K_lret dX8_odds_36 rfl h
  · replace h := ite_f c0 h
    refine J_iload_2 dX8_odds_8 ?_
    refine J_iconst (0 : Int32) dX8_odds_9 (by decide) ?_
    refine J_aload_0 dX8_odds_10 ?_
    refine J_getR 118 dX8_odds_11 fl_X8_9 jlt_117 jsh_117 (by decide) jrf_8_1 jmr_117_1 ?_
    refine J_iconst (4 : Int32) dX8_odds_14 (by decide) ?_
    refine K_iald 4 rfl dX8_odds_15 jlt_118 jsh_118 (vp_lit (by decide)) ?_
    refine J_iconst (1 : Int32) dX8_odds_16 (by decide) ?_
    refine J_isub dX8_odds_17 ?_
    refine K_callSI (rest := []) dX8_odds_18 sl_X8_53 h rfl rfl (Nat.le_of_ble_eq_true rfl) (fun r2 M2 h => ?_)
    refine J_if_eq (t := 33) dX8_odds_21 (by decide) (fun c1 => ?_) (fun c1 => ?_)
    · replace h := ite_t c1 h
      refine J_ldc2 (-9223372036854775808 : Int64) dX8_odds_33 w_1242 ?_
      exact K_lret dX8_odds_36 rfl h
    · replace h := ite_f c1 h
      refine J_iload_3 dX8_odds_24 ?_
      refine J_iconst (0 : Int32) dX8_odds_25 (by decide) ?_
      refine J_iconst (1 : Int32) dX8_odds_26 (by decide) ?_
      refine K_callSI (rest := []) dX8_odds_27 sl_X8_53 h rfl rfl (Nat.le_of_ble_eq_true rfl) (fun r3 M3 h => ?_)
      refine J_if_ne (t := 37) dX8_odds_30 (by decide) (fun c2 => ?_) (fun c2 => ?_)
      · replace h := ite_f c2 h
        refine J_aload_0 dX8_odds_37 ?_
        refine J_iload_1 dX8_odds_38 ?_
        refine K_callVV (As := [.int x1]) (rest := []) dX8_odds_39 vl_X8_154 jlt_117 jsh_117 _ rfl rfl h rfl rfl (Nat.le_of_ble_eq_true rfl) (fun M4 h => ?_)
        refine J_aload_0 dX8_odds_42 ?_
        refine K_callVV (As := []) (rest := []) dX8_odds_43 vl_X8_194 jlt_117 jsh_117 _ rfl rfl h rfl rfl (Nat.le_of_ble_eq_true rfl) (fun M5 h => ?_)
        refine J_aload_0 dX8_odds_46 ?_
        refine J_iload_1 dX8_odds_47 ?_
        refine J_iconst (0 : Int32) dX8_odds_48 (by decide) ?_
        refine J_sipush (256 : Int32) dX8_odds_49 (by decide) ?_
        refine J_iload_2 dX8_odds_52 ?_
        refine K_callVL (As := [.int x1, .int (0 : Int32), .int (256 : Int32), .int x2]) (rest := []) dX8_odds_53 vl_X8_228 jlt_117 jsh_117 _ rfl rfl h rfl rfl (Nat.le_of_ble_eq_true rfl) (fun r6 M6 h => ?_)
        refine J_ldc2 (256 : Int64) dX8_odds_56 w_1247 ?_
        refine J_iload_3 dX8_odds_59 ?_
        refine K_callSL (rest := []) dX8_odds_60 sl_X8_236 h rfl rfl (Nat.le_of_ble_eq_true rfl) (fun r7 M7 h => ?_)
        exact K_lret dX8_odds_63 rfl h
      · replace h := ite_t c2 h
        refine J_ldc2 (-9223372036854775808 : Int64) dX8_odds_33 w_1242 ?_
        exact K_lret dX8_odds_36 rfl h
theorem eX8_odds {G : jGT} {d : Nat} {x1 : Int32} {x2 : Int32} {x3 : Int32} {M : jM} {post : Int64 → jM → Prop} (h : kX8_odds_0 G d  x1 x2 x3 M post) : CL G (d + 1) mX8_odds [.ref 117, .int x1, .int x2, .int x3] M post := Con_of_J ok_X8_odds 0 rfl rfl h
def kX8_expects_0 (G : jGT) (d : Nat)  (x1 : Int32) (x2 : Int32) (M : jM) (post : Int64 → jM → Prop) : Prop := J G (d + 1) mX8_expects 0 [some (.ref 117), some (.int x1), some (.int x2)] [] jN jSH M jMR 0 0 0 0 (jQl post)
theorem bX8_expects_0 {G : jGT} {d : Nat} {x1 : Int32} {x2 : Int32} {M : jM} {post : Int64 → jM → Prop} (h : CI G d mX8_isJudge [.ref 117, .int x1] M (fun r1 M1 => (if r1 = 0 then post (-9223372036854775808 : Int64) M1 else CI G d mX8_in [.int x2, .int (0 : Int32), .int (1 : Int32)] M1 (fun r2 M2 => (if r2 = 0 then post (-9223372036854775808 : Int64) M2 else CV G d mX8_looksFor [.ref 117, .int x1] M2 (fun M3 => CV G d mX8_opens [.ref 117] M3 (fun M4 => CL G d mX8_falls [.ref 117, .int x1, .int (0 : Int32), .int (256 : Int32), .int (-1 : Int32)] M4 (fun r5 M5 => CL G d mX8_lowest [.long r5, .long (256 : Int64), .int x2] M5 (fun r6 M6 => post r6 M6))))))))) : kX8_expects_0 G d  x1 x2 M post := by
  unfold kX8_expects_0
  refine J_aload_0 dX8_expects_0 ?_
  refine J_iload_1 dX8_expects_1 ?_
  refine K_callVI (As := [.int x1]) (rest := []) dX8_expects_2 vl_X8_137 jlt_117 jsh_117 _ rfl rfl h rfl rfl (Nat.le_of_ble_eq_true rfl) (fun r1 M1 h => ?_)
  refine J_if_eq (t := 17) dX8_expects_5 (by decide) (fun c0 => ?_) (fun c0 => ?_)
  · replace h := ite_t c0 h
    refine J_ldc2 (-9223372036854775808 : Int64) dX8_expects_17 w_1242 ?_
    exact K_lret dX8_expects_20 rfl h
  · replace h := ite_f c0 h
    refine J_iload_2 dX8_expects_8 ?_
    refine J_iconst (0 : Int32) dX8_expects_9 (by decide) ?_
    refine J_iconst (1 : Int32) dX8_expects_10 (by decide) ?_
    refine K_callSI (rest := []) dX8_expects_11 sl_X8_53 h rfl rfl (Nat.le_of_ble_eq_true rfl) (fun r2 M2 h => ?_)
    refine J_if_ne (t := 21) dX8_expects_14 (by decide) (fun c1 => ?_) (fun c1 => ?_)
    · replace h := ite_f c1 h
      refine J_aload_0 dX8_expects_21 ?_
      refine J_iload_1 dX8_expects_22 ?_
      refine K_callVV (As := [.int x1]) (rest := []) dX8_expects_23 vl_X8_154 jlt_117 jsh_117 _ rfl rfl h rfl rfl (Nat.le_of_ble_eq_true rfl) (fun M3 h => ?_)
      refine J_aload_0 dX8_expects_26 ?_
      refine K_callVV (As := []) (rest := []) dX8_expects_27 vl_X8_194 jlt_117 jsh_117 _ rfl rfl h rfl rfl (Nat.le_of_ble_eq_true rfl) (fun M4 h => ?_)
      refine J_aload_0 dX8_expects_30 ?_
      refine J_iload_1 dX8_expects_31 ?_
      refine J_iconst (0 : Int32) dX8_expects_32 (by decide) ?_
      refine J_sipush (256 : Int32) dX8_expects_33 (by decide) ?_
      refine J_iconst (-1 : Int32) dX8_expects_36 (by decide) ?_
      refine K_callVL (As := [.int x1, .int (0 : Int32), .int (256 : Int32), .int (-1 : Int32)]) (rest := []) dX8_expects_37 vl_X8_228 jlt_117 jsh_117 _ rfl rfl h rfl rfl (Nat.le_of_ble_eq_true rfl) (fun r5 M5 h => ?_)
      refine J_ldc2 (256 : Int64) dX8_expects_40 w_1247 ?_
      refine J_iload_2 dX8_expects_43 ?_
      refine K_callSL (rest := []) dX8_expects_44 sl_X8_236 h rfl rfl (Nat.le_of_ble_eq_true rfl) (fun r6 M6 h => ?_)
      exact K_lret dX8_expects_47 rfl h
    · replace h := ite_t c1 h
      refine J_ldc2 (-9223372036854775808 : Int64) dX8_expects_17 w_1242 ?_
      exact K_lret dX8_expects_20 rfl h
theorem eX8_expects {G : jGT} {d : Nat} {x1 : Int32} {x2 : Int32} {M : jM} {post : Int64 → jM → Prop} (h : kX8_expects_0 G d  x1 x2 M post) : CL G (d + 1) mX8_expects [.ref 117, .int x1, .int x2] M post := Con_of_J ok_X8_expects 0 rfl rfl h
def kX8_ranBody_0 (G : jGT) (d : Nat)  (x1 : Int32) (M : jM) (post : jM → Prop) : Prop := J G d mX8_ranBody 0 [some (.ref 117), some (.int x1)] [] jN jSH M jMR 0 0 0 0 (jQv post)
theorem bX8_ranBody_0 {G : jGT} {d : Nat} {x1 : Int32} {M : jM} {post : jM → Prop} (h : (if (20 : Int32) ≤ (M 117 27) then post (jup M 117 27 ((M 117 27) + (1 : Int32))) else (vp_in (M 117 27) 20 ∧ post (jup (jup M 129 ((M 117 27).toNatClampNeg) x1) 117 27 ((M 117 27) + (1 : Int32)))))) : kX8_ranBody_0 G d  x1 M post := by
  unfold kX8_ranBody_0
  refine J_aload_0 dX8_ranBody_0 ?_
  refine J_getI dX8_ranBody_1 fl_X8_240 jlt_117 jsh_117 (by decide) jrf_8_27 ?_
  refine J_bipush (20 : Int32) dX8_ranBody_4 (by decide) ?_
  refine J_icmp_ge (t := 19) dX8_ranBody_6 (by decide) (fun c0 => ?_) (fun c0 => ?_)
  · replace h := ite_t c0 h
    refine J_aload_0 dX8_ranBody_19 ?_
    refine J_dup dX8_ranBody_20 rfl ?_
    refine J_getI dX8_ranBody_21 fl_X8_240 jlt_117 jsh_117 (by decide) jrf_8_27 ?_
    refine J_iconst (1 : Int32) dX8_ranBody_24 (by decide) ?_
    refine J_iadd dX8_ranBody_25 ?_
    refine J_putI false dX8_ranBody_26 pl_X8_240 jlt_117 jsh_117 (by decide) jrf_8_27 (fun q => absurd q (by decide)) ?_
    exact K_ret dX8_ranBody_29 rfl h
  · replace h := ite_f c0 h
    refine J_aload_0 dX8_ranBody_9 ?_
    refine J_getR 129 dX8_ranBody_10 fl_X8_46 jlt_117 jsh_117 (by decide) jrf_8_26 jmr_117_26 ?_
    refine J_aload_0 dX8_ranBody_13 ?_
    refine J_getI dX8_ranBody_14 fl_X8_240 jlt_117 jsh_117 (by decide) jrf_8_27 ?_
    refine J_iload_1 dX8_ranBody_17 ?_
    obtain ⟨g1, h⟩ := h
    refine K_iast ((M 117 27).toNatClampNeg) rfl dX8_ranBody_18 jlt_129 jsh_129 g1 ?_
    refine J_aload_0 dX8_ranBody_19 ?_
    refine J_dup dX8_ranBody_20 rfl ?_
    refine J_getI dX8_ranBody_21 fl_X8_240 jlt_117 jsh_117 (by decide) jrf_8_27 ?_
    refine J_iconst (1 : Int32) dX8_ranBody_24 (by decide) ?_
    refine J_iadd dX8_ranBody_25 ?_
    refine J_putI false dX8_ranBody_26 pl_X8_240 jlt_117 jsh_117 (by decide) jrf_8_27 (fun q => absurd q (by decide)) ?_
    exact K_ret dX8_ranBody_29 rfl h
theorem eX8_ranBody {G : jGT} {d : Nat} {x1 : Int32} {M : jM} {post : jM → Prop} (h : kX8_ranBody_0 G d  x1 M post) : CV G d mX8_ranBody [.ref 117, .int x1] M post := Con_of_J ok_X8_ranBody 0 rfl rfl h
def kX8_isUnder_0 (G : jGT) (d : Nat)  (x0 : Int32) (x1 : Int32) (M : jM) (post : Int32 → jM → Prop) : Prop := J G d mX8_isUnder 0 [some (.int x0), some (.int x1)] [] jN jSH M jMR 0 0 0 0 (jQi post)
theorem bX8_isUnder_0 {G : jGT} {d : Nat} {x0 : Int32} {x1 : Int32} {M : jM} {post : Int32 → jM → Prop} (h : (if x1 = 0 then post (1 : Int32) M else (if x1 = x0 then post (1 : Int32) M else (if x1 ≤ 0 then post (0 : Int32) M else (if (4 : Int32) ≤ x1 then post (0 : Int32) M else (if x0 = (x1 + (3 : Int32)) then post (1 : Int32) M else post (0 : Int32) M)))))) : kX8_isUnder_0 G d  x0 x1 M post := by
  unfold kX8_isUnder_0
  refine J_iload_1 dX8_isUnder_0 ?_
  refine J_if_eq (t := 25) dX8_isUnder_1 (by decide) (fun c0 => ?_) (fun c0 => ?_)
  · replace h := ite_t c0 h
    refine J_iconst (1 : Int32) dX8_isUnder_25 (by decide) ?_
    refine J_goto (t := 30) dX8_isUnder_26 (by decide) ?_
    exact K_zret dX8_isUnder_30 rfl (by decide +kernel) h
  · replace h := ite_f c0 h
    refine J_iload_1 dX8_isUnder_4 ?_
    refine J_iload_0 dX8_isUnder_5 ?_
    refine J_icmp_eq (t := 25) dX8_isUnder_6 (by decide) (fun c1 => ?_) (fun c1 => ?_)
    · replace h := ite_t c1 h
      refine J_iconst (1 : Int32) dX8_isUnder_25 (by decide) ?_
      refine J_goto (t := 30) dX8_isUnder_26 (by decide) ?_
      exact K_zret dX8_isUnder_30 rfl (by decide +kernel) h
    · replace h := ite_f c1 h
      refine J_iload_1 dX8_isUnder_9 ?_
      refine J_if_le (t := 29) dX8_isUnder_10 (by decide) (fun c2 => ?_) (fun c2 => ?_)
      · replace h := ite_t c2 h
        refine J_iconst (0 : Int32) dX8_isUnder_29 (by decide) ?_
        exact K_zret dX8_isUnder_30 rfl (by decide +kernel) h
      · replace h := ite_f c2 h
        refine J_iload_1 dX8_isUnder_13 ?_
        refine J_iconst (4 : Int32) dX8_isUnder_14 (by decide) ?_
        refine J_icmp_ge (t := 29) dX8_isUnder_15 (by decide) (fun c3 => ?_) (fun c3 => ?_)
        · replace h := ite_t c3 h
          refine J_iconst (0 : Int32) dX8_isUnder_29 (by decide) ?_
          exact K_zret dX8_isUnder_30 rfl (by decide +kernel) h
        · replace h := ite_f c3 h
          refine J_iload_0 dX8_isUnder_18 ?_
          refine J_iload_1 dX8_isUnder_19 ?_
          refine J_iconst (3 : Int32) dX8_isUnder_20 (by decide) ?_
          refine J_iadd dX8_isUnder_21 ?_
          refine J_icmp_ne (t := 29) dX8_isUnder_22 (by decide) (fun c4 => ?_) (fun c4 => ?_)
          · replace h := ite_f c4 h
            refine J_iconst (0 : Int32) dX8_isUnder_29 (by decide) ?_
            exact K_zret dX8_isUnder_30 rfl (by decide +kernel) h
          · replace h := ite_t c4 h
            refine J_iconst (1 : Int32) dX8_isUnder_25 (by decide) ?_
            refine J_goto (t := 30) dX8_isUnder_26 (by decide) ?_
            exact K_zret dX8_isUnder_30 rfl (by decide +kernel) h
theorem eX8_isUnder {G : jGT} {d : Nat} {x0 : Int32} {x1 : Int32} {M : jM} {post : Int32 → jM → Prop} (h : kX8_isUnder_0 G d  x0 x1 M post) : CI G d mX8_isUnder [.int x0, .int x1] M post := Con_of_J ok_X8_isUnder 0 rfl rfl h
def kX8_plainHears_0 (G : jGT) (d : Nat)  (x1 : Int32) (M : jM) (post : Int32 → jM → Prop) : Prop := J G (d + 1) mX8_plainHears 0 [some (.ref 117), some (.int x1)] [] jN jSH M jMR 0 0 0 0 (jQi post)
theorem bX8_plainHears_0 {G : jGT} {d : Nat} {x1 : Int32} {M : jM} {post : Int32 → jM → Prop} (h : CV G d mX8_ranBody [.ref 117, .int (1 : Int32)] M (fun M1 => post (x1 + (M1 117 29)) M1)) : kX8_plainHears_0 G d  x1 M post := by
  unfold kX8_plainHears_0
  refine J_aload_0 dX8_plainHears_0 ?_
  refine J_iconst (1 : Int32) dX8_plainHears_1 (by decide) ?_
  refine K_callVV (As := [.int (1 : Int32)]) (rest := []) dX8_plainHears_2 vl_X8_243 jlt_117 jsh_117 _ rfl rfl h rfl rfl (Nat.le_of_ble_eq_true rfl) (fun M1 h => ?_)
  refine J_iload_1 dX8_plainHears_5 ?_
  refine J_aload_0 dX8_plainHears_6 ?_
  refine J_getI dX8_plainHears_7 fl_X8_246 jlt_117 jsh_117 (by decide) jrf_8_29 ?_
  refine J_iadd dX8_plainHears_10 ?_
  exact K_iret dX8_plainHears_11 rfl h
theorem eX8_plainHears {G : jGT} {d : Nat} {x1 : Int32} {M : jM} {post : Int32 → jM → Prop} (h : kX8_plainHears_0 G d  x1 M post) : CI G (d + 1) mX8_plainHears [.ref 117, .int x1] M post := Con_of_J ok_X8_plainHears 0 rfl rfl h
def kX8_hearsActs_0 (G : jGT) (d : Nat)  (x1 : Int32) (M : jM) (post : Int32 → jM → Prop) : Prop := J G (d + 1) mX8_hearsActs 0 [some (.ref 117), some (.int x1)] [] jN jSH M jMR 0 0 0 0 (jQi post)
theorem bX8_hearsActs_0 {G : jGT} {d : Nat} {x1 : Int32} {M : jM} {post : Int32 → jM → Prop} (h : CI G d mX8_isUnder [.int (M 117 28), .int (1 : Int32)] M (fun r1 M1 => (if r1 = 0 then (if (M1 117 28) = (5 : Int32) then CV G d mX8_ranBody [.ref 117, .int (51 : Int32)] M1 (fun M3 => CI G d mX8_plainHears [.ref 117, .int x1] M3 (fun r4 M4 => post (r4 ^^^ (M4 117 29)) M4)) else CI G d mX8_plainHears [.ref 117, .int x1] M1 (fun r2 M2 => post r2 M2)) else CV G d mX8_ranBody [.ref 117, .int (11 : Int32)] M1 (fun M5 => CI G d mX8_plainHears [.ref 117, .int (x1 * (3 : Int32))] M5 (fun r6 M6 => post r6 M6))))) : kX8_hearsActs_0 G d  x1 M post := by
  unfold kX8_hearsActs_0
  refine J_aload_0 dX8_hearsActs_0 ?_
  refine J_getI dX8_hearsActs_1 fl_X8_249 jlt_117 jsh_117 (by decide) jrf_8_28 ?_
  refine J_iconst (1 : Int32) dX8_hearsActs_4 (by decide) ?_
  refine K_callSI (rest := []) dX8_hearsActs_5 sl_X8_252 h rfl rfl (Nat.le_of_ble_eq_true rfl) (fun r1 M1 h => ?_)
  refine J_if_eq (t := 25) dX8_hearsActs_8 (by decide) (fun c0 => ?_) (fun c0 => ?_)
  · replace h := ite_t c0 h
    refine J_aload_0 dX8_hearsActs_25 ?_
    refine J_getI dX8_hearsActs_26 fl_X8_249 jlt_117 jsh_117 (by decide) jrf_8_28 ?_
    refine J_iconst (5 : Int32) dX8_hearsActs_29 (by decide) ?_
    refine J_icmp_ne (t := 50) dX8_hearsActs_30 (by decide) (fun c1 => ?_) (fun c1 => ?_)
    · replace h := ite_f c1 h
      refine J_aload_0 dX8_hearsActs_50 ?_
      refine J_iload_1 dX8_hearsActs_51 ?_
      refine K_callVI (As := [.int x1]) (rest := []) dX8_hearsActs_52 vl_X8_255 jlt_117 jsh_117 _ rfl rfl h rfl rfl (Nat.le_of_ble_eq_true rfl) (fun r2 M2 h => ?_)
      exact K_iret dX8_hearsActs_55 rfl h
    · replace h := ite_t c1 h
      refine J_aload_0 dX8_hearsActs_33 ?_
      refine J_bipush (51 : Int32) dX8_hearsActs_34 (by decide) ?_
      refine K_callVV (As := [.int (51 : Int32)]) (rest := []) dX8_hearsActs_36 vl_X8_243 jlt_117 jsh_117 _ rfl rfl h rfl rfl (Nat.le_of_ble_eq_true rfl) (fun M3 h => ?_)
      refine J_aload_0 dX8_hearsActs_39 ?_
      refine J_iload_1 dX8_hearsActs_40 ?_
      refine K_callVI (As := [.int x1]) (rest := []) dX8_hearsActs_41 vl_X8_255 jlt_117 jsh_117 _ rfl rfl h rfl rfl (Nat.le_of_ble_eq_true rfl) (fun r4 M4 h => ?_)
      refine J_aload_0 dX8_hearsActs_44 ?_
      refine J_getI dX8_hearsActs_45 fl_X8_246 jlt_117 jsh_117 (by decide) jrf_8_29 ?_
      refine J_ixor dX8_hearsActs_48 ?_
      exact K_iret dX8_hearsActs_49 rfl h
  · replace h := ite_f c0 h
    refine J_aload_0 dX8_hearsActs_11 ?_
    refine J_bipush (11 : Int32) dX8_hearsActs_12 (by decide) ?_
    refine K_callVV (As := [.int (11 : Int32)]) (rest := []) dX8_hearsActs_14 vl_X8_243 jlt_117 jsh_117 _ rfl rfl h rfl rfl (Nat.le_of_ble_eq_true rfl) (fun M5 h => ?_)
    refine J_aload_0 dX8_hearsActs_17 ?_
    refine J_iload_1 dX8_hearsActs_18 ?_
    refine J_iconst (3 : Int32) dX8_hearsActs_19 (by decide) ?_
    refine J_imul dX8_hearsActs_20 ?_
    refine K_callVI (As := [.int (x1 * (3 : Int32))]) (rest := []) dX8_hearsActs_21 vl_X8_255 jlt_117 jsh_117 _ rfl rfl h rfl rfl (Nat.le_of_ble_eq_true rfl) (fun r6 M6 h => ?_)
    exact K_iret dX8_hearsActs_24 rfl h
theorem eX8_hearsActs {G : jGT} {d : Nat} {x1 : Int32} {M : jM} {post : Int32 → jM → Prop} (h : kX8_hearsActs_0 G d  x1 M post) : CI G (d + 1) mX8_hearsActs [.ref 117, .int x1] M post := Con_of_J ok_X8_hearsActs 0 rfl rfl h
def kX8_plainWeighs_0 (G : jGT) (d : Nat)  (x1 : Int32) (M : jM) (post : Int32 → jM → Prop) : Prop := J G (d + 1) mX8_plainWeighs 0 [some (.ref 117), some (.int x1)] [] jN jSH M jMR 0 0 0 0 (jQi post)
theorem bX8_plainWeighs_0 {G : jGT} {d : Nat} {x1 : Int32} {M : jM} {post : Int32 → jM → Prop} (h : CV G d mX8_ranBody [.ref 117, .int (2 : Int32)] M (fun M1 => CI G d mX8_hearsActs [.ref 117, .int x1] M1 (fun r2 M2 => post (r2 - (M2 117 30)) M2))) : kX8_plainWeighs_0 G d  x1 M post := by
  unfold kX8_plainWeighs_0
  refine J_aload_0 dX8_plainWeighs_0 ?_
  refine J_iconst (2 : Int32) dX8_plainWeighs_1 (by decide) ?_
  refine K_callVV (As := [.int (2 : Int32)]) (rest := []) dX8_plainWeighs_2 vl_X8_243 jlt_117 jsh_117 _ rfl rfl h rfl rfl (Nat.le_of_ble_eq_true rfl) (fun M1 h => ?_)
  refine J_aload_0 dX8_plainWeighs_5 ?_
  refine J_iload_1 dX8_plainWeighs_6 ?_
  refine K_callVI (As := [.int x1]) (rest := []) dX8_plainWeighs_7 vl_X8_258 jlt_117 jsh_117 _ rfl rfl h rfl rfl (Nat.le_of_ble_eq_true rfl) (fun r2 M2 h => ?_)
  refine J_aload_0 dX8_plainWeighs_10 ?_
  refine J_getI dX8_plainWeighs_11 fl_X8_261 jlt_117 jsh_117 (by decide) jrf_8_30 ?_
  refine J_isub dX8_plainWeighs_14 ?_
  exact K_iret dX8_plainWeighs_15 rfl h
theorem eX8_plainWeighs {G : jGT} {d : Nat} {x1 : Int32} {M : jM} {post : Int32 → jM → Prop} (h : kX8_plainWeighs_0 G d  x1 M post) : CI G (d + 1) mX8_plainWeighs [.ref 117, .int x1] M post := Con_of_J ok_X8_plainWeighs 0 rfl rfl h
def kX8_weighsActs_0 (G : jGT) (d : Nat)  (x1 : Int32) (M : jM) (post : Int32 → jM → Prop) : Prop := J G (d + 1) mX8_weighsActs 0 [some (.ref 117), some (.int x1)] [] jN jSH M jMR 0 0 0 0 (jQi post)
theorem bX8_weighsActs_0 {G : jGT} {d : Nat} {x1 : Int32} {M : jM} {post : Int32 → jM → Prop} (h : CI G d mX8_isUnder [.int (M 117 28), .int (2 : Int32)] M (fun r1 M1 => (if r1 = 0 then (if (M1 117 28) = (6 : Int32) then CV G d mX8_ranBody [.ref 117, .int (61 : Int32)] M1 (fun M3 => CI G d mX8_plainWeighs [.ref 117, .int x1] M3 (fun r4 M4 => post (r4 + (M4 117 30)) M4)) else CI G d mX8_plainWeighs [.ref 117, .int x1] M1 (fun r2 M2 => post r2 M2)) else CV G d mX8_ranBody [.ref 117, .int (21 : Int32)] M1 (fun M5 => CI G d mX8_plainWeighs [.ref 117, .int x1] M5 (fun r6 M6 => post (-r6) M6))))) : kX8_weighsActs_0 G d  x1 M post := by
  unfold kX8_weighsActs_0
  refine J_aload_0 dX8_weighsActs_0 ?_
  refine J_getI dX8_weighsActs_1 fl_X8_249 jlt_117 jsh_117 (by decide) jrf_8_28 ?_
  refine J_iconst (2 : Int32) dX8_weighsActs_4 (by decide) ?_
  refine K_callSI (rest := []) dX8_weighsActs_5 sl_X8_252 h rfl rfl (Nat.le_of_ble_eq_true rfl) (fun r1 M1 h => ?_)
  refine J_if_eq (t := 24) dX8_weighsActs_8 (by decide) (fun c0 => ?_) (fun c0 => ?_)
  · replace h := ite_t c0 h
    refine J_aload_0 dX8_weighsActs_24 ?_
    refine J_getI dX8_weighsActs_25 fl_X8_249 jlt_117 jsh_117 (by decide) jrf_8_28 ?_
    refine J_bipush (6 : Int32) dX8_weighsActs_28 (by decide) ?_
    refine J_icmp_ne (t := 50) dX8_weighsActs_30 (by decide) (fun c1 => ?_) (fun c1 => ?_)
    · replace h := ite_f c1 h
      refine J_aload_0 dX8_weighsActs_50 ?_
      refine J_iload_1 dX8_weighsActs_51 ?_
      refine K_callVI (As := [.int x1]) (rest := []) dX8_weighsActs_52 vl_X8_264 jlt_117 jsh_117 _ rfl rfl h rfl rfl (Nat.le_of_ble_eq_true rfl) (fun r2 M2 h => ?_)
      exact K_iret dX8_weighsActs_55 rfl h
    · replace h := ite_t c1 h
      refine J_aload_0 dX8_weighsActs_33 ?_
      refine J_bipush (61 : Int32) dX8_weighsActs_34 (by decide) ?_
      refine K_callVV (As := [.int (61 : Int32)]) (rest := []) dX8_weighsActs_36 vl_X8_243 jlt_117 jsh_117 _ rfl rfl h rfl rfl (Nat.le_of_ble_eq_true rfl) (fun M3 h => ?_)
      refine J_aload_0 dX8_weighsActs_39 ?_
      refine J_iload_1 dX8_weighsActs_40 ?_
      refine K_callVI (As := [.int x1]) (rest := []) dX8_weighsActs_41 vl_X8_264 jlt_117 jsh_117 _ rfl rfl h rfl rfl (Nat.le_of_ble_eq_true rfl) (fun r4 M4 h => ?_)
      refine J_aload_0 dX8_weighsActs_44 ?_
      refine J_getI dX8_weighsActs_45 fl_X8_261 jlt_117 jsh_117 (by decide) jrf_8_30 ?_
      refine J_iadd dX8_weighsActs_48 ?_
      exact K_iret dX8_weighsActs_49 rfl h
  · replace h := ite_f c0 h
    refine J_aload_0 dX8_weighsActs_11 ?_
    refine J_bipush (21 : Int32) dX8_weighsActs_12 (by decide) ?_
    refine K_callVV (As := [.int (21 : Int32)]) (rest := []) dX8_weighsActs_14 vl_X8_243 jlt_117 jsh_117 _ rfl rfl h rfl rfl (Nat.le_of_ble_eq_true rfl) (fun M5 h => ?_)
    refine J_aload_0 dX8_weighsActs_17 ?_
    refine J_iload_1 dX8_weighsActs_18 ?_
    refine K_callVI (As := [.int x1]) (rest := []) dX8_weighsActs_19 vl_X8_264 jlt_117 jsh_117 _ rfl rfl h rfl rfl (Nat.le_of_ble_eq_true rfl) (fun r6 M6 h => ?_)
    refine J_ineg dX8_weighsActs_22 ?_
    exact K_iret dX8_weighsActs_23 rfl h
theorem eX8_weighsActs {G : jGT} {d : Nat} {x1 : Int32} {M : jM} {post : Int32 → jM → Prop} (h : kX8_weighsActs_0 G d  x1 M post) : CI G (d + 1) mX8_weighsActs [.ref 117, .int x1] M post := Con_of_J ok_X8_weighsActs 0 rfl rfl h
def kX8_plainSays_0 (G : jGT) (d : Nat)  (x1 : Int32) (M : jM) (post : Int32 → jM → Prop) : Prop := J G (d + 1) mX8_plainSays 0 [some (.ref 117), some (.int x1)] [] jN jSH M jMR 0 0 0 0 (jQi post)
theorem bX8_plainSays_0 {G : jGT} {d : Nat} {x1 : Int32} {M : jM} {post : Int32 → jM → Prop} (h : CV G d mX8_ranBody [.ref 117, .int (3 : Int32)] M (fun M1 => CI G d mX8_weighsActs [.ref 117, .int x1] M1 (fun r2 M2 => post (r2 * (2 : Int32)) M2))) : kX8_plainSays_0 G d  x1 M post := by
  unfold kX8_plainSays_0
  refine J_aload_0 dX8_plainSays_0 ?_
  refine J_iconst (3 : Int32) dX8_plainSays_1 (by decide) ?_
  refine K_callVV (As := [.int (3 : Int32)]) (rest := []) dX8_plainSays_2 vl_X8_243 jlt_117 jsh_117 _ rfl rfl h rfl rfl (Nat.le_of_ble_eq_true rfl) (fun M1 h => ?_)
  refine J_aload_0 dX8_plainSays_5 ?_
  refine J_iload_1 dX8_plainSays_6 ?_
  refine K_callVI (As := [.int x1]) (rest := []) dX8_plainSays_7 vl_X8_267 jlt_117 jsh_117 _ rfl rfl h rfl rfl (Nat.le_of_ble_eq_true rfl) (fun r2 M2 h => ?_)
  refine J_iconst (2 : Int32) dX8_plainSays_10 (by decide) ?_
  refine J_imul dX8_plainSays_11 ?_
  exact K_iret dX8_plainSays_12 rfl h
theorem eX8_plainSays {G : jGT} {d : Nat} {x1 : Int32} {M : jM} {post : Int32 → jM → Prop} (h : kX8_plainSays_0 G d  x1 M post) : CI G (d + 1) mX8_plainSays [.ref 117, .int x1] M post := Con_of_J ok_X8_plainSays 0 rfl rfl h
def kX8_saysActs_0 (G : jGT) (d : Nat)  (x1 : Int32) (M : jM) (post : Int32 → jM → Prop) : Prop := J G (d + 1) mX8_saysActs 0 [some (.ref 117), some (.int x1), none] [] jN jSH M jMR 0 0 0 0 (jQi post)
theorem bX8_saysActs_0 {G : jGT} {d : Nat} {x1 : Int32} {M : jM} {post : Int32 → jM → Prop} (h : CI G d mX8_isUnder [.int (M 117 28), .int (3 : Int32)] M (fun r1 M1 => (if r1 = 0 then (if (M1 117 28) = (4 : Int32) then CV G d mX8_ranBody [.ref 117, .int (41 : Int32)] M1 (fun M3 => CI G d mX8_plainSays [.ref 117, .int (x1 - (1 : Int32))] M3 (fun r4 M4 => CI G d mX8_hearsActs [.ref 117, .int (2 : Int32)] M4 (fun r5 M5 => post (r4 + r5) M5))) else CI G d mX8_plainSays [.ref 117, .int x1] M1 (fun r2 M2 => post r2 M2)) else CV G d mX8_ranBody [.ref 117, .int (31 : Int32)] M1 (fun M6 => CI G d mX8_plainSays [.ref 117, .int x1] M6 (fun r7 M7 => post (r7 ^^^ (7 : Int32)) M7))))) : kX8_saysActs_0 G d  x1 M post := by
  unfold kX8_saysActs_0
  refine J_aload_0 dX8_saysActs_0 ?_
  refine J_getI dX8_saysActs_1 fl_X8_249 jlt_117 jsh_117 (by decide) jrf_8_28 ?_
  refine J_iconst (3 : Int32) dX8_saysActs_4 (by decide) ?_
  refine K_callSI (rest := []) dX8_saysActs_5 sl_X8_252 h rfl rfl (Nat.le_of_ble_eq_true rfl) (fun r1 M1 h => ?_)
  refine J_if_eq (t := 26) dX8_saysActs_8 (by decide) (fun c0 => ?_) (fun c0 => ?_)
  · replace h := ite_t c0 h
    refine J_aload_0 dX8_saysActs_26 ?_
    refine J_getI dX8_saysActs_27 fl_X8_249 jlt_117 jsh_117 (by decide) jrf_8_28 ?_
    refine J_iconst (4 : Int32) dX8_saysActs_30 (by decide) ?_
    refine J_icmp_ne (t := 56) dX8_saysActs_31 (by decide) (fun c1 => ?_) (fun c1 => ?_)
    · replace h := ite_f c1 h
      refine J_aload_0 dX8_saysActs_56 ?_
      refine J_iload_1 dX8_saysActs_57 ?_
      refine K_callVI (As := [.int x1]) (rest := []) dX8_saysActs_58 vl_X8_270 jlt_117 jsh_117 _ rfl rfl h rfl rfl (Nat.le_of_ble_eq_true rfl) (fun r2 M2 h => ?_)
      exact K_iret dX8_saysActs_61 rfl h
    · replace h := ite_t c1 h
      refine J_aload_0 dX8_saysActs_34 ?_
      refine J_bipush (41 : Int32) dX8_saysActs_35 (by decide) ?_
      refine K_callVV (As := [.int (41 : Int32)]) (rest := []) dX8_saysActs_37 vl_X8_243 jlt_117 jsh_117 _ rfl rfl h rfl rfl (Nat.le_of_ble_eq_true rfl) (fun M3 h => ?_)
      refine J_aload_0 dX8_saysActs_40 ?_
      refine J_iload_1 dX8_saysActs_41 ?_
      refine J_iconst (1 : Int32) dX8_saysActs_42 (by decide) ?_
      refine J_isub dX8_saysActs_43 ?_
      refine K_callVI (As := [.int (x1 - (1 : Int32))]) (rest := []) dX8_saysActs_44 vl_X8_270 jlt_117 jsh_117 _ rfl rfl h rfl rfl (Nat.le_of_ble_eq_true rfl) (fun r4 M4 h => ?_)
      refine J_istore_2 dX8_saysActs_47 rfl ?_
      refine J_iload_2 dX8_saysActs_48 ?_
      refine J_aload_0 dX8_saysActs_49 ?_
      refine J_iconst (2 : Int32) dX8_saysActs_50 (by decide) ?_
      refine K_callVI (As := [.int (2 : Int32)]) (rest := [.int r4]) dX8_saysActs_51 vl_X8_258 jlt_117 jsh_117 _ rfl rfl h rfl rfl (Nat.le_of_ble_eq_true rfl) (fun r5 M5 h => ?_)
      refine J_iadd dX8_saysActs_54 ?_
      exact K_iret dX8_saysActs_55 rfl h
  · replace h := ite_f c0 h
    refine J_aload_0 dX8_saysActs_11 ?_
    refine J_bipush (31 : Int32) dX8_saysActs_12 (by decide) ?_
    refine K_callVV (As := [.int (31 : Int32)]) (rest := []) dX8_saysActs_14 vl_X8_243 jlt_117 jsh_117 _ rfl rfl h rfl rfl (Nat.le_of_ble_eq_true rfl) (fun M6 h => ?_)
    refine J_aload_0 dX8_saysActs_17 ?_
    refine J_iload_1 dX8_saysActs_18 ?_
    refine K_callVI (As := [.int x1]) (rest := []) dX8_saysActs_19 vl_X8_270 jlt_117 jsh_117 _ rfl rfl h rfl rfl (Nat.le_of_ble_eq_true rfl) (fun r7 M7 h => ?_)
    refine J_bipush (7 : Int32) dX8_saysActs_22 (by decide) ?_
    refine J_ixor dX8_saysActs_24 ?_
    exact K_iret dX8_saysActs_25 rfl h
theorem eX8_saysActs {G : jGT} {d : Nat} {x1 : Int32} {M : jM} {post : Int32 → jM → Prop} (h : kX8_saysActs_0 G d  x1 M post) : CI G (d + 1) mX8_saysActs [.ref 117, .int x1] M post := Con_of_J ok_X8_saysActs 1 rfl rfl h
def kX8_act_0 (G : jGT) (d : Nat)  (x1 : Int32) (x2 : Int32) (x3 : Int32) (M : jM) (post : Int32 → jM → Prop) : Prop := J G (d + 1) mX8_act 0 [some (.ref 117), some (.int x1), some (.int x2), some (.int x3)] [] jN jSH M jMR 0 0 0 0 (jQi post)
theorem bX8_act_0 {G : jGT} {d : Nat} {x1 : Int32} {x2 : Int32} {x3 : Int32} {M : jM} {post : Int32 → jM → Prop} (h : CI G d mX8_isJudge [.ref 117, .int x1] (jup M 117 27 (0 : Int32)) (fun r1 M1 => (if r1 = 0 then post (0 : Int32) M1 else CI G d mX8_in [.int x2, .int (0 : Int32), .int (2 : Int32)] M1 (fun r2 M2 => (if r2 = 0 then post (0 : Int32) M2 else (vp_in ((26 : Int32) + x1) 916 ∧ (vp_in ((30 : Int32) + x1) 916 ∧ (if x2 = 0 then CI G d mX8_hearsActs [.ref 117, .int x3] (jup (jup (jup M2 117 28 (M2 118 (((26 : Int32) + x1).toNatClampNeg))) 117 29 x1) 117 30 (M2 118 (((30 : Int32) + x1).toNatClampNeg))) (fun r5 M5 => post r5 M5) else (if x2 = (1 : Int32) then CI G d mX8_weighsActs [.ref 117, .int x3] (jup (jup (jup M2 117 28 (M2 118 (((26 : Int32) + x1).toNatClampNeg))) 117 29 x1) 117 30 (M2 118 (((30 : Int32) + x1).toNatClampNeg))) (fun r4 M4 => post r4 M4) else CI G d mX8_saysActs [.ref 117, .int x3] (jup (jup (jup M2 117 28 (M2 118 (((26 : Int32) + x1).toNatClampNeg))) 117 29 x1) 117 30 (M2 118 (((30 : Int32) + x1).toNatClampNeg))) (fun r3 M3 => post r3 M3)))))))))) : kX8_act_0 G d  x1 x2 x3 M post := by
  unfold kX8_act_0
  refine J_aload_0 dX8_act_0 ?_
  refine J_iconst (0 : Int32) dX8_act_1 (by decide) ?_
  refine J_putI false dX8_act_2 pl_X8_240 jlt_117 jsh_117 (by decide) jrf_8_27 (fun q => absurd q (by decide)) ?_
  refine J_aload_0 dX8_act_5 ?_
  refine J_iload_1 dX8_act_6 ?_
  refine K_callVI (As := [.int x1]) (rest := []) dX8_act_7 vl_X8_137 jlt_117 jsh_117 _ rfl rfl h rfl rfl (Nat.le_of_ble_eq_true rfl) (fun r1 M1 h => ?_)
  refine J_if_eq (t := 22) dX8_act_10 (by decide) (fun c0 => ?_) (fun c0 => ?_)
  · replace h := ite_t c0 h
    refine J_iconst (0 : Int32) dX8_act_22 (by decide) ?_
    exact K_iret dX8_act_23 rfl h
  · replace h := ite_f c0 h
    refine J_iload_2 dX8_act_13 ?_
    refine J_iconst (0 : Int32) dX8_act_14 (by decide) ?_
    refine J_iconst (2 : Int32) dX8_act_15 (by decide) ?_
    refine K_callSI (rest := []) dX8_act_16 sl_X8_53 h rfl rfl (Nat.le_of_ble_eq_true rfl) (fun r2 M2 h => ?_)
    refine J_if_ne (t := 24) dX8_act_19 (by decide) (fun c1 => ?_) (fun c1 => ?_)
    · replace h := ite_f c1 h
      refine J_aload_0 dX8_act_24 ?_
      refine J_aload_0 dX8_act_25 ?_
      refine J_getR 118 dX8_act_26 fl_X8_9 jlt_117 jsh_117 (by decide) jrf_8_1 jmr_117_1 ?_
      refine J_bipush (26 : Int32) dX8_act_29 (by decide) ?_
      refine J_iload_1 dX8_act_31 ?_
      refine J_iadd dX8_act_32 ?_
      obtain ⟨g2, h⟩ := h
      refine K_iald (((26 : Int32) + x1).toNatClampNeg) rfl dX8_act_33 jlt_118 jsh_118 g2 ?_
      refine J_putI false dX8_act_34 pl_X8_249 jlt_117 jsh_117 (by decide) jrf_8_28 (fun q => absurd q (by decide)) ?_
      refine J_aload_0 dX8_act_37 ?_
      refine J_iload_1 dX8_act_38 ?_
      refine J_putI false dX8_act_39 pl_X8_246 jlt_117 jsh_117 (by decide) jrf_8_29 (fun q => absurd q (by decide)) ?_
      refine J_aload_0 dX8_act_42 ?_
      refine J_aload_0 dX8_act_43 ?_
      refine J_getR 118 dX8_act_44 fl_X8_9 jlt_117 jsh_117 (by decide) jrf_8_1 jmr_117_1 ?_
      refine J_bipush (30 : Int32) dX8_act_47 (by decide) ?_
      refine J_iload_1 dX8_act_49 ?_
      refine J_iadd dX8_act_50 ?_
      obtain ⟨g3, h⟩ := h
      refine K_iald (((30 : Int32) + x1).toNatClampNeg) rfl dX8_act_51 jlt_118 jsh_118 g3 ?_
      refine J_putI false dX8_act_52 pl_X8_261 jlt_117 jsh_117 (by decide) jrf_8_30 (fun q => absurd q (by decide)) ?_
      refine J_iload_2 dX8_act_55 ?_
      refine J_if_ne (t := 67) dX8_act_56 (by decide) (fun c4 => ?_) (fun c4 => ?_)
      · replace h := ite_f c4 h
        refine J_iload_2 dX8_act_67 ?_
        refine J_iconst (1 : Int32) dX8_act_68 (by decide) ?_
        refine J_icmp_ne (t := 80) dX8_act_69 (by decide) (fun c5 => ?_) (fun c5 => ?_)
        · replace h := ite_f c5 h
          refine J_aload_0 dX8_act_80 ?_
          refine J_iload_3 dX8_act_81 ?_
          refine K_callVI (As := [.int x3]) (rest := []) dX8_act_82 vl_X8_273 jlt_117 jsh_117 _ rfl rfl h rfl rfl (Nat.le_of_ble_eq_true rfl) (fun r3 M3 h => ?_)
          exact K_iret dX8_act_85 rfl h
        · replace h := ite_t c5 h
          refine J_aload_0 dX8_act_72 ?_
          refine J_iload_3 dX8_act_73 ?_
          refine K_callVI (As := [.int x3]) (rest := []) dX8_act_74 vl_X8_267 jlt_117 jsh_117 _ rfl rfl h rfl rfl (Nat.le_of_ble_eq_true rfl) (fun r4 M4 h => ?_)
          refine J_goto (t := 85) dX8_act_77 (by decide) ?_
          exact K_iret dX8_act_85 rfl h
      · replace h := ite_t c4 h
        refine J_aload_0 dX8_act_59 ?_
        refine J_iload_3 dX8_act_60 ?_
        refine K_callVI (As := [.int x3]) (rest := []) dX8_act_61 vl_X8_258 jlt_117 jsh_117 _ rfl rfl h rfl rfl (Nat.le_of_ble_eq_true rfl) (fun r5 M5 h => ?_)
        refine J_goto (t := 85) dX8_act_64 (by decide) ?_
        exact K_iret dX8_act_85 rfl h
    · replace h := ite_t c1 h
      refine J_iconst (0 : Int32) dX8_act_22 (by decide) ?_
      exact K_iret dX8_act_23 rfl h
theorem eX8_act {G : jGT} {d : Nat} {x1 : Int32} {x2 : Int32} {x3 : Int32} {M : jM} {post : Int32 → jM → Prop} (h : kX8_act_0 G d  x1 x2 x3 M post) : CI G (d + 1) mX8_act [.ref 117, .int x1, .int x2, .int x3] M post := Con_of_J ok_X8_act 0 rfl rfl h
def kX8_trace_0 (G : jGT) (d : Nat)  (x1 : Int32) (M : jM) (post : Int32 → jM → Prop) : Prop := J G (d + 1) mX8_trace 0 [some (.ref 117), some (.int x1)] [] jN jSH M jMR 0 0 0 0 (jQi post)
theorem bX8_trace_0 {G : jGT} {d : Nat} {x1 : Int32} {M : jM} {post : Int32 → jM → Prop} (h : (if (20 : Int32) ≤ (M 117 27) then CI G d mX8_in [.int x1, .int (0 : Int32), .int ((20 : Int32) - (1 : Int32))] M (fun r1 M1 => (if r1 = 0 then post (-1 : Int32) M1 else (vp_in x1 20 ∧ post (M1 129 x1.toNatClampNeg) M1))) else CI G d mX8_in [.int x1, .int (0 : Int32), .int ((M 117 27) - (1 : Int32))] M (fun r2 M2 => (if r2 = 0 then post (-1 : Int32) M2 else (vp_in x1 20 ∧ post (M2 129 x1.toNatClampNeg) M2))))) : kX8_trace_0 G d  x1 M post := by
  unfold kX8_trace_0
  refine J_iload_1 dX8_trace_0 ?_
  refine J_iconst (0 : Int32) dX8_trace_1 (by decide) ?_
  refine J_aload_0 dX8_trace_2 ?_
  refine J_getI dX8_trace_3 fl_X8_240 jlt_117 jsh_117 (by decide) jrf_8_27 ?_
  refine J_bipush (20 : Int32) dX8_trace_6 (by decide) ?_
  refine J_icmp_ge (t := 18) dX8_trace_8 (by decide) (fun c0 => ?_) (fun c0 => ?_)
  · replace h := ite_t c0 h
    refine J_bipush (20 : Int32) dX8_trace_18 (by decide) ?_
    refine J_iconst (1 : Int32) dX8_trace_20 (by decide) ?_
    refine J_isub dX8_trace_21 ?_
    refine K_callSI (rest := []) dX8_trace_22 sl_X8_53 h rfl rfl (Nat.le_of_ble_eq_true rfl) (fun r1 M1 h => ?_)
    refine J_if_eq (t := 37) dX8_trace_25 (by decide) (fun c1 => ?_) (fun c1 => ?_)
    · replace h := ite_t c1 h
      refine J_iconst (-1 : Int32) dX8_trace_37 (by decide) ?_
      exact K_iret dX8_trace_38 rfl h
    · replace h := ite_f c1 h
      refine J_aload_0 dX8_trace_28 ?_
      refine J_getR 129 dX8_trace_29 fl_X8_46 jlt_117 jsh_117 (by decide) jrf_8_26 jmr_117_26 ?_
      refine J_iload_1 dX8_trace_32 ?_
      obtain ⟨g2, h⟩ := h
      refine K_iald x1.toNatClampNeg rfl dX8_trace_33 jlt_129 jsh_129 g2 ?_
      refine J_goto (t := 38) dX8_trace_34 (by decide) ?_
      exact K_iret dX8_trace_38 rfl h
  · replace h := ite_f c0 h
    refine J_aload_0 dX8_trace_11 ?_
    refine J_getI dX8_trace_12 fl_X8_240 jlt_117 jsh_117 (by decide) jrf_8_27 ?_
    refine J_goto (t := 20) dX8_trace_15 (by decide) ?_
    refine J_iconst (1 : Int32) dX8_trace_20 (by decide) ?_
    refine J_isub dX8_trace_21 ?_
    refine K_callSI (rest := []) dX8_trace_22 sl_X8_53 h rfl rfl (Nat.le_of_ble_eq_true rfl) (fun r2 M2 h => ?_)
    refine J_if_eq (t := 37) dX8_trace_25 (by decide) (fun c1 => ?_) (fun c1 => ?_)
    · replace h := ite_t c1 h
      refine J_iconst (-1 : Int32) dX8_trace_37 (by decide) ?_
      exact K_iret dX8_trace_38 rfl h
    · replace h := ite_f c1 h
      refine J_aload_0 dX8_trace_28 ?_
      refine J_getR 129 dX8_trace_29 fl_X8_46 jlt_117 jsh_117 (by decide) jrf_8_26 jmr_117_26 ?_
      refine J_iload_1 dX8_trace_32 ?_
      obtain ⟨g2, h⟩ := h
      refine K_iald x1.toNatClampNeg rfl dX8_trace_33 jlt_129 jsh_129 g2 ?_
      refine J_goto (t := 38) dX8_trace_34 (by decide) ?_
      exact K_iret dX8_trace_38 rfl h
theorem eX8_trace {G : jGT} {d : Nat} {x1 : Int32} {M : jM} {post : Int32 → jM → Prop} (h : kX8_trace_0 G d  x1 M post) : CI G (d + 1) mX8_trace [.ref 117, .int x1] M post := Con_of_J ok_X8_trace 0 rfl rfl h
def kX8_as_0 (G : jGT) (d : Nat)  (x1 : Int32) (x2 : Int32) (M : jM) (post : Int32 → jM → Prop) : Prop := J G (d + 1) mX8_as 0 [some (.ref 117), some (.int x1), some (.int x2)] [] jN jSH M jMR 0 0 0 0 (jQi post)
theorem bX8_as_0 {G : jGT} {d : Nat} {x1 : Int32} {x2 : Int32} {M : jM} {post : Int32 → jM → Prop} (h : CI G d mX8_isJudge [.ref 117, .int x1] M (fun r1 M1 => (if r1 = 0 then post (-1 : Int32) M1 else CI G d mX8_in [.int x2, .int (0 : Int32), .int (6 : Int32)] M1 (fun r2 M2 => (if r2 = 0 then post (-1 : Int32) M2 else (vp_in ((26 : Int32) + x1) 916 ∧ CI G d mX8_isUnder [.int (M2 118 (((26 : Int32) + x1).toNatClampNeg)), .int x2] M2 (fun r3 M3 => (if r3 = 0 then post (-6 : Int32) M3 else (vp_in ((30 : Int32) + x1) 916 ∧ post (M3 118 (((30 : Int32) + x1).toNatClampNeg)) M3))))))))) : kX8_as_0 G d  x1 x2 M post := by
  unfold kX8_as_0
  refine J_aload_0 dX8_as_0 ?_
  refine J_iload_1 dX8_as_1 ?_
  refine K_callVI (As := [.int x1]) (rest := []) dX8_as_2 vl_X8_137 jlt_117 jsh_117 _ rfl rfl h rfl rfl (Nat.le_of_ble_eq_true rfl) (fun r1 M1 h => ?_)
  refine J_if_eq (t := 18) dX8_as_5 (by decide) (fun c0 => ?_) (fun c0 => ?_)
  · replace h := ite_t c0 h
    refine J_iconst (-1 : Int32) dX8_as_18 (by decide) ?_
    exact K_iret dX8_as_19 rfl h
  · replace h := ite_f c0 h
    refine J_iload_2 dX8_as_8 ?_
    refine J_iconst (0 : Int32) dX8_as_9 (by decide) ?_
    refine J_bipush (6 : Int32) dX8_as_10 (by decide) ?_
    refine K_callSI (rest := []) dX8_as_12 sl_X8_53 h rfl rfl (Nat.le_of_ble_eq_true rfl) (fun r2 M2 h => ?_)
    refine J_if_ne (t := 20) dX8_as_15 (by decide) (fun c1 => ?_) (fun c1 => ?_)
    · replace h := ite_f c1 h
      refine J_aload_0 dX8_as_20 ?_
      refine J_getR 118 dX8_as_21 fl_X8_9 jlt_117 jsh_117 (by decide) jrf_8_1 jmr_117_1 ?_
      refine J_bipush (26 : Int32) dX8_as_24 (by decide) ?_
      refine J_iload_1 dX8_as_26 ?_
      refine J_iadd dX8_as_27 ?_
      obtain ⟨g2, h⟩ := h
      refine K_iald (((26 : Int32) + x1).toNatClampNeg) rfl dX8_as_28 jlt_118 jsh_118 g2 ?_
      refine J_iload_2 dX8_as_29 ?_
      refine K_callSI (rest := []) dX8_as_30 sl_X8_252 h rfl rfl (Nat.le_of_ble_eq_true rfl) (fun r3 M3 h => ?_)
      refine J_if_eq (t := 48) dX8_as_33 (by decide) (fun c3 => ?_) (fun c3 => ?_)
      · replace h := ite_t c3 h
        refine J_bipush (-6 : Int32) dX8_as_48 (by decide) ?_
        exact K_iret dX8_as_50 rfl h
      · replace h := ite_f c3 h
        refine J_aload_0 dX8_as_36 ?_
        refine J_getR 118 dX8_as_37 fl_X8_9 jlt_117 jsh_117 (by decide) jrf_8_1 jmr_117_1 ?_
        refine J_bipush (30 : Int32) dX8_as_40 (by decide) ?_
        refine J_iload_1 dX8_as_42 ?_
        refine J_iadd dX8_as_43 ?_
        obtain ⟨g4, h⟩ := h
        refine K_iald (((30 : Int32) + x1).toNatClampNeg) rfl dX8_as_44 jlt_118 jsh_118 g4 ?_
        refine J_goto (t := 50) dX8_as_45 (by decide) ?_
        exact K_iret dX8_as_50 rfl h
    · replace h := ite_t c1 h
      refine J_iconst (-1 : Int32) dX8_as_18 (by decide) ?_
      exact K_iret dX8_as_19 rfl h
theorem eX8_as {G : jGT} {d : Nat} {x1 : Int32} {x2 : Int32} {M : jM} {post : Int32 → jM → Prop} (h : kX8_as_0 G d  x1 x2 M post) : CI G (d + 1) mX8_as [.ref 117, .int x1, .int x2] M post := Con_of_J ok_X8_as 0 rfl rfl h
def kX8_image_0 (G : jGT) (d : Nat)   (M : jM) (post : Int32 → jM → Prop) : Prop := J G d mX8_image 0 [some (.ref 117), none] [] jN jSH M jMR 0 0 0 0 (jQi post)
def kX8_image_2 (G : jGT) (d : Nat)  (x1 : Int32) (M : jM) (post : Int32 → jM → Prop) : Prop := J G d mX8_image 2 [some (.ref 117), some (.int x1)] [] jN jSH M jMR 0 0 0 0 (jQi post)
theorem bX8_image_0 {G : jGT} {d : Nat}  {M : jM} {post : Int32 → jM → Prop} (h : kX8_image_2 G d (0 : Int32) M post) : kX8_image_0 G d   M post := by
  unfold kX8_image_0
  refine J_iconst (0 : Int32) dX8_image_0 (by decide) ?_
  refine J_istore_1 dX8_image_1 rfl ?_
  exact h
theorem bX8_image_2 {G : jGT} {d : Nat} {x1 : Int32} {M : jM} {post : Int32 → jM → Prop} (h : (if (916 : Int32) ≤ x1 then post (M 118 0) (jup M 117 3 (1 : Int32)) else (vp_in x1 916 ∧ (vp_in x1 916 ∧ kX8_image_2 G d (x1 + (1 : Int32)) (jup M 119 x1.toNatClampNeg (M 118 x1.toNatClampNeg)) post)))) : kX8_image_2 G d  x1 M post := by
  unfold kX8_image_2
  refine J_iload_1 dX8_image_2 ?_
  refine J_sipush (916 : Int32) dX8_image_3 (by decide) ?_
  refine J_icmp_ge (t := 27) dX8_image_6 (by decide) (fun c0 => ?_) (fun c0 => ?_)
  · replace h := ite_t c0 h
    refine J_aload_0 dX8_image_27 ?_
    refine J_iconst (1 : Int32) dX8_image_28 (by decide) ?_
    refine J_putI true dX8_image_29 pl_X8_276 jlt_117 jsh_117 (by decide) jrf_8_3 (fun _ => by decide) ?_
    refine J_aload_0 dX8_image_32 ?_
    refine J_getR 118 dX8_image_33 fl_X8_9 jlt_117 jsh_117 (by decide) jrf_8_1 jmr_117_1 ?_
    refine J_iconst (0 : Int32) dX8_image_36 (by decide) ?_
    refine K_iald 0 rfl dX8_image_37 jlt_118 jsh_118 (vp_lit (by decide)) ?_
    exact K_iret dX8_image_38 rfl h
  · replace h := ite_f c0 h
    refine J_aload_0 dX8_image_9 ?_
    refine J_getR 119 dX8_image_10 fl_X8_15 jlt_117 jsh_117 (by decide) jrf_8_2 jmr_117_2 ?_
    refine J_iload_1 dX8_image_13 ?_
    refine J_aload_0 dX8_image_14 ?_
    refine J_getR 118 dX8_image_15 fl_X8_9 jlt_117 jsh_117 (by decide) jrf_8_1 jmr_117_1 ?_
    refine J_iload_1 dX8_image_18 ?_
    obtain ⟨g1, h⟩ := h
    refine K_iald x1.toNatClampNeg rfl dX8_image_19 jlt_118 jsh_118 g1 ?_
    obtain ⟨g2, h⟩ := h
    refine K_iast x1.toNatClampNeg rfl dX8_image_20 jlt_119 jsh_119 g2 ?_
    refine J_iinc_1 (1 : Int32) dX8_image_21 (by decide) rfl ?_
    refine J_goto (t := 2) dX8_image_24 (by decide) ?_
    exact h
theorem eX8_image {G : jGT} {d : Nat}  {M : jM} {post : Int32 → jM → Prop} (h : kX8_image_0 G d   M post) : CI G d mX8_image [.ref 117] M post := Con_of_J ok_X8_image 1 rfl rfl h
def kX8_undo_0 (G : jGT) (d : Nat)   (M : jM) (post : Int32 → jM → Prop) : Prop := J G d mX8_undo 0 [some (.ref 117), none] [] jN jSH M jMR 0 0 0 0 (jQi post)
def kX8_undo_12 (G : jGT) (d : Nat)  (x1 : Int32) (M : jM) (post : Int32 → jM → Prop) : Prop := J G d mX8_undo 12 [some (.ref 117), some (.int x1)] [] jN jSH M jMR 0 0 0 0 (jQi post)
theorem bX8_undo_0 {G : jGT} {d : Nat}  {M : jM} {post : Int32 → jM → Prop} (h : (if (M 117 3) = 0 then post (-3 : Int32) M else kX8_undo_12 G d (0 : Int32) M post)) : kX8_undo_0 G d   M post := by
  unfold kX8_undo_0
  refine J_aload_0 dX8_undo_0 ?_
  refine J_getI dX8_undo_1 fl_X8_276 jlt_117 jsh_117 (by decide) jrf_8_3 ?_
  refine J_if_ne (t := 10) dX8_undo_4 (by decide) (fun c0 => ?_) (fun c0 => ?_)
  · replace h := ite_f c0 h
    refine J_iconst (0 : Int32) dX8_undo_10 (by decide) ?_
    refine J_istore_1 dX8_undo_11 rfl ?_
    exact h
  · replace h := ite_t c0 h
    refine J_bipush (-3 : Int32) dX8_undo_7 (by decide) ?_
    exact K_iret dX8_undo_9 rfl h
theorem bX8_undo_12 {G : jGT} {d : Nat} {x1 : Int32} {M : jM} {post : Int32 → jM → Prop} (h : (if (916 : Int32) ≤ x1 then post (M 118 0) M else (vp_in x1 916 ∧ (vp_in x1 916 ∧ kX8_undo_12 G d (x1 + (1 : Int32)) (jup M 118 x1.toNatClampNeg (M 119 x1.toNatClampNeg)) post)))) : kX8_undo_12 G d  x1 M post := by
  unfold kX8_undo_12
  refine J_iload_1 dX8_undo_12 ?_
  refine J_sipush (916 : Int32) dX8_undo_13 (by decide) ?_
  refine J_icmp_ge (t := 37) dX8_undo_16 (by decide) (fun c0 => ?_) (fun c0 => ?_)
  · replace h := ite_t c0 h
    refine J_aload_0 dX8_undo_37 ?_
    refine J_getR 118 dX8_undo_38 fl_X8_9 jlt_117 jsh_117 (by decide) jrf_8_1 jmr_117_1 ?_
    refine J_iconst (0 : Int32) dX8_undo_41 (by decide) ?_
    refine K_iald 0 rfl dX8_undo_42 jlt_118 jsh_118 (vp_lit (by decide)) ?_
    exact K_iret dX8_undo_43 rfl h
  · replace h := ite_f c0 h
    refine J_aload_0 dX8_undo_19 ?_
    refine J_getR 118 dX8_undo_20 fl_X8_9 jlt_117 jsh_117 (by decide) jrf_8_1 jmr_117_1 ?_
    refine J_iload_1 dX8_undo_23 ?_
    refine J_aload_0 dX8_undo_24 ?_
    refine J_getR 119 dX8_undo_25 fl_X8_15 jlt_117 jsh_117 (by decide) jrf_8_2 jmr_117_2 ?_
    refine J_iload_1 dX8_undo_28 ?_
    obtain ⟨g1, h⟩ := h
    refine K_iald x1.toNatClampNeg rfl dX8_undo_29 jlt_119 jsh_119 g1 ?_
    obtain ⟨g2, h⟩ := h
    refine K_iast x1.toNatClampNeg rfl dX8_undo_30 jlt_118 jsh_118 g2 ?_
    refine J_iinc_1 (1 : Int32) dX8_undo_31 (by decide) rfl ?_
    refine J_goto (t := 12) dX8_undo_34 (by decide) ?_
    exact h
theorem eX8_undo {G : jGT} {d : Nat}  {M : jM} {post : Int32 → jM → Prop} (h : kX8_undo_0 G d   M post) : CI G d mX8_undo [.ref 117] M post := Con_of_J ok_X8_undo 1 rfl rfl h
def kX8_count_0 (G : jGT) (d : Nat)  (x1 : Int32) (M : jM) (post : Int32 → jM → Prop) : Prop := J G d mX8_count 0 [some (.ref 117), some (.int x1)] [] jN jSH M jMR 0 0 0 0 (jQi post)
theorem bX8_count_0 {G : jGT} {d : Nat} {x1 : Int32} {M : jM} {post : Int32 → jM → Prop} (h : (if x1 = (0 : Int32) then post (M 118 0) M else (if x1 = (1 : Int32) then post (M 118 1) M else (if x1 = (2 : Int32) then post (M 118 2) M else (if x1 = (3 : Int32) then post (M 118 3) M else (if x1 = (4 : Int32) then post (M 118 4) M else (if x1 = (5 : Int32) then post (M 118 5) M else (if x1 = (6 : Int32) then post (M 117 27) M else post (-1 : Int32) M)))))))) : kX8_count_0 G d  x1 M post := by
  unfold kX8_count_0
  refine J_iload_1 dX8_count_0 ?_
  by_cases c0 : x1 = (0 : Int32)
  · replace h := ite_t c0 h
    refine J_tswC (off := 43) (t := 44) dX8_count_1 c0 (by decide) ?_
    refine J_aload_0 dX8_count_44 ?_
    refine J_getR 118 dX8_count_45 fl_X8_9 jlt_117 jsh_117 (by decide) jrf_8_1 jmr_117_1 ?_
    refine J_iconst (0 : Int32) dX8_count_48 (by decide) ?_
    refine K_iald 0 rfl dX8_count_49 jlt_118 jsh_118 (vp_lit (by decide)) ?_
    exact K_iret dX8_count_50 rfl h
  replace h := ite_f c0 h
  by_cases c1 : x1 = (1 : Int32)
  · replace h := ite_t c1 h
    refine J_tswC (off := 50) (t := 51) dX8_count_1 c1 (by decide) ?_
    refine J_aload_0 dX8_count_51 ?_
    refine J_getR 118 dX8_count_52 fl_X8_9 jlt_117 jsh_117 (by decide) jrf_8_1 jmr_117_1 ?_
    refine J_iconst (1 : Int32) dX8_count_55 (by decide) ?_
    refine K_iald 1 rfl dX8_count_56 jlt_118 jsh_118 (vp_lit (by decide)) ?_
    exact K_iret dX8_count_57 rfl h
  replace h := ite_f c1 h
  by_cases c2 : x1 = (2 : Int32)
  · replace h := ite_t c2 h
    refine J_tswC (off := 57) (t := 58) dX8_count_1 c2 (by decide) ?_
    refine J_aload_0 dX8_count_58 ?_
    refine J_getR 118 dX8_count_59 fl_X8_9 jlt_117 jsh_117 (by decide) jrf_8_1 jmr_117_1 ?_
    refine J_iconst (2 : Int32) dX8_count_62 (by decide) ?_
    refine K_iald 2 rfl dX8_count_63 jlt_118 jsh_118 (vp_lit (by decide)) ?_
    exact K_iret dX8_count_64 rfl h
  replace h := ite_f c2 h
  by_cases c3 : x1 = (3 : Int32)
  · replace h := ite_t c3 h
    refine J_tswC (off := 64) (t := 65) dX8_count_1 c3 (by decide) ?_
    refine J_aload_0 dX8_count_65 ?_
    refine J_getR 118 dX8_count_66 fl_X8_9 jlt_117 jsh_117 (by decide) jrf_8_1 jmr_117_1 ?_
    refine J_iconst (3 : Int32) dX8_count_69 (by decide) ?_
    refine K_iald 3 rfl dX8_count_70 jlt_118 jsh_118 (vp_lit (by decide)) ?_
    exact K_iret dX8_count_71 rfl h
  replace h := ite_f c3 h
  by_cases c4 : x1 = (4 : Int32)
  · replace h := ite_t c4 h
    refine J_tswC (off := 71) (t := 72) dX8_count_1 c4 (by decide) ?_
    refine J_aload_0 dX8_count_72 ?_
    refine J_getR 118 dX8_count_73 fl_X8_9 jlt_117 jsh_117 (by decide) jrf_8_1 jmr_117_1 ?_
    refine J_iconst (4 : Int32) dX8_count_76 (by decide) ?_
    refine K_iald 4 rfl dX8_count_77 jlt_118 jsh_118 (vp_lit (by decide)) ?_
    exact K_iret dX8_count_78 rfl h
  replace h := ite_f c4 h
  by_cases c5 : x1 = (5 : Int32)
  · replace h := ite_t c5 h
    refine J_tswC (off := 78) (t := 79) dX8_count_1 c5 (by decide) ?_
    refine J_aload_0 dX8_count_79 ?_
    refine J_getR 118 dX8_count_80 fl_X8_9 jlt_117 jsh_117 (by decide) jrf_8_1 jmr_117_1 ?_
    refine J_iconst (5 : Int32) dX8_count_83 (by decide) ?_
    refine K_iald 5 rfl dX8_count_84 jlt_118 jsh_118 (vp_lit (by decide)) ?_
    exact K_iret dX8_count_85 rfl h
  replace h := ite_f c5 h
  by_cases c6 : x1 = (6 : Int32)
  · replace h := ite_t c6 h
    refine J_tswC (off := 85) (t := 86) dX8_count_1 c6 (by decide) ?_
    refine J_aload_0 dX8_count_86 ?_
    refine J_getI dX8_count_87 fl_X8_240 jlt_117 jsh_117 (by decide) jrf_8_27 ?_
    exact K_iret dX8_count_90 rfl h
  replace h := ite_f c6 h
  refine J_tswD (t := 91) dX8_count_1 (j_outr (offs := #[43, 50, 57, 64, 71, 78, 85]) [(0 : Int32), (1 : Int32), (2 : Int32), (3 : Int32), (4 : Int32), (5 : Int32), (6 : Int32)] (by decide) (by decide) (by decide) (by decide) (by simp only [List.forall_mem_cons, List.not_mem_nil, false_implies, implies_true, and_true]; exact ⟨c0, c1, c2, c3, c4, c5, c6⟩)) (by decide) ?_
  refine J_iconst (-1 : Int32) dX8_count_91 (by decide) ?_
  exact K_iret dX8_count_92 rfl h
theorem eX8_count {G : jGT} {d : Nat} {x1 : Int32} {M : jM} {post : Int32 → jM → Prop} (h : kX8_count_0 G d  x1 M post) : CI G d mX8_count [.ref 117, .int x1] M post := Con_of_J ok_X8_count 0 rfl rfl h
