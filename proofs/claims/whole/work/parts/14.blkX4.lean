def kX4_prepareSuits_0 (G : jGT) (d : Nat)   (M : jM) (post : jM → Prop) : Prop := J G (d + 1) mX4_prepareSuits 0 [some (.ref 35), some (.ref 1), none] [] jN jSH M jMR 0 0 0 0 (jQv post)
def kX4_prepareSuits_2 (G : jGT) (d : Nat)  (x2 : Int32) (M : jM) (post : jM → Prop) : Prop := J G (d + 1) mX4_prepareSuits 2 [some (.ref 35), some (.ref 1), some (.int x2)] [] jN jSH M jMR 0 0 0 0 (jQv post)
theorem bX4_prepareSuits_0 {G : jGT} {d : Nat}  {M : jM} {post : jM → Prop} (h : kX4_prepareSuits_2 G d (0 : Int32) M post) : kX4_prepareSuits_0 G d   M post := by
  unfold kX4_prepareSuits_0
  refine J_iconst (0 : Int32) dX4_prepareSuits_0 (by decide) ?_
  refine J_istore_2 dX4_prepareSuits_1 rfl ?_
  exact h
theorem bX4_prepareSuits_2 {G : jGT} {d : Nat} {x2 : Int32} {M : jM} {post : jM → Prop} (h : (if (8 : Int32) ≤ x2 then post M else (vp_in x2 64 ∧ CI G d mX2_pointsOf [.ref 1, .int x2] M (fun r1 M1 => CV G d mX6_begin [.ref (40 + x2.toNatClampNeg), .int r1] M1 (fun M2 => (vp_in x2 64 ∧ CV G d mX5_follow [.ref 27, .ref (40 + x2.toNatClampNeg), .int (M2 27 6)] M2 (fun M3 => CI G d mX2_worthOf [.ref 1, .int x2] M3 (fun r4 M4 => (vp_in x2 8 ∧ kX4_prepareSuits_2 G d (x2 + (1 : Int32)) (jup M4 37 x2.toNatClampNeg r4) post))))))))) : kX4_prepareSuits_2 G d  x2 M post := by
  unfold kX4_prepareSuits_2
  refine J_iload_2 dX4_prepareSuits_2 ?_
  refine J_bipush (8 : Int32) dX4_prepareSuits_3 (by decide) ?_
  refine J_icmp_ge (t := 59) dX4_prepareSuits_5 (by decide) (fun c0 => ?_) (fun c0 => ?_)
  · replace h := ite_t c0 h
    exact K_ret dX4_prepareSuits_59 rfl h
  · replace h := ite_f c0 h
    refine J_aload_0 dX4_prepareSuits_8 ?_
    refine J_getR 36 dX4_prepareSuits_9 fl_X4_11 jlt_35 jsh_35 (by decide) jrf_4_1 jmr_35_1 ?_
    refine J_iload_2 dX4_prepareSuits_12 ?_
    obtain ⟨g1, h⟩ := h
    refine J_aald (40 + x2.toNatClampNeg) dX4_prepareSuits_13 jlt_36 jsh_36 g1 (mr_36_all _ (vp_lt g1)) ?_
    refine J_aload_1 dX4_prepareSuits_14 ?_
    refine J_iload_2 dX4_prepareSuits_15 ?_
    refine K_callVI (As := [.int x2]) (rest := [.ref (40 + x2.toNatClampNeg)]) dX4_prepareSuits_16 vl_X4_39 jlt_1 jsh_1 _ rfl rfl h rfl rfl (Nat.le_of_ble_eq_true rfl) (fun r1 M1 h => ?_)
    refine K_callVV (As := [.int r1]) (rest := []) dX4_prepareSuits_19 vl_X4_45 (jT_lt (jT_40 g1)) (jT_sh (jT_40 g1)) _ rfl rfl h rfl rfl (Nat.le_of_ble_eq_true rfl) (fun M2 h => ?_)
    refine J_aload_0 dX4_prepareSuits_22 ?_
    refine J_getR 27 dX4_prepareSuits_23 fl_X4_34 jlt_35 jsh_35 (by decide) jrf_4_0 jmr_35_0 ?_
    refine J_aload_0 dX4_prepareSuits_26 ?_
    refine J_getR 36 dX4_prepareSuits_27 fl_X4_11 jlt_35 jsh_35 (by decide) jrf_4_1 jmr_35_1 ?_
    refine J_iload_2 dX4_prepareSuits_30 ?_
    obtain ⟨g2, h⟩ := h
    refine J_aald (40 + x2.toNatClampNeg) dX4_prepareSuits_31 jlt_36 jsh_36 g2 (mr_36_all _ (vp_lt g2)) ?_
    refine J_aload_0 dX4_prepareSuits_32 ?_
    refine J_getR 27 dX4_prepareSuits_33 fl_X4_34 jlt_35 jsh_35 (by decide) jrf_4_0 jmr_35_0 ?_
    refine J_getI dX4_prepareSuits_36 fl_X4_49 jlt_27 jsh_27 (by decide) jrf_5_6 ?_
    refine K_callVV (As := [.ref (40 + x2.toNatClampNeg), .int (M2 27 6)]) (rest := []) dX4_prepareSuits_39 vl_X4_54 jlt_27 jsh_27 _ rfl rfl h rfl rfl (Nat.le_of_ble_eq_true rfl) (fun M3 h => ?_)
    refine J_aload_0 dX4_prepareSuits_42 ?_
    refine J_getR 37 dX4_prepareSuits_43 fl_X4_17 jlt_35 jsh_35 (by decide) jrf_4_2 jmr_35_2 ?_
    refine J_iload_2 dX4_prepareSuits_46 ?_
    refine J_aload_1 dX4_prepareSuits_47 ?_
    refine J_iload_2 dX4_prepareSuits_48 ?_
    refine K_callVI (As := [.int x2]) (rest := [.int x2, .ref 37]) dX4_prepareSuits_49 vl_X4_58 jlt_1 jsh_1 _ rfl rfl h rfl rfl (Nat.le_of_ble_eq_true rfl) (fun r4 M4 h => ?_)
    obtain ⟨g3, h⟩ := h
    refine K_iast x2.toNatClampNeg rfl dX4_prepareSuits_52 jlt_37 jsh_37 g3 ?_
    refine J_iinc_2 (1 : Int32) dX4_prepareSuits_53 (by decide) rfl ?_
    refine J_goto (t := 2) dX4_prepareSuits_56 (by decide) ?_
    exact h
theorem eX4_prepareSuits {G : jGT} {d : Nat}  {M : jM} {post : jM → Prop} (h : kX4_prepareSuits_0 G d   M post) : CV G (d + 1) mX4_prepareSuits [.ref 35, .ref 1] M post := Con_of_J ok_X4_prepareSuits 1 rfl rfl h
def kX4_order_0 (G : jGT) (d : Nat)  (x2 : Int32) (M : jM) (post : jM → Prop) : Prop := J G (d + 1) mX4_order 0 [some (.ref 35), some (.ref 1), some (.int x2)] [] jN jSH M jMR 0 0 0 0 (jQv post)
theorem bX4_order_0 {G : jGT} {d : Nat} {x2 : Int32} {M : jM} {post : jM → Prop} (h : CV G d mX4_prepareSuits [.ref 35, .ref 1] M (fun M1 => CV G d mX4_bring [.ref 35, .int x2, .int (0 : Int32), .int (0 : Int32)] (jup M1 35 5 (-1 : Int32)) (fun M2 => post M2))) : kX4_order_0 G d  x2 M post := by
  unfold kX4_order_0
  refine J_aload_0 dX4_order_0 ?_
  refine J_aload_1 dX4_order_1 ?_
  refine K_callVV (As := [.ref 1]) (rest := []) dX4_order_2 vl_X4_61 jlt_35 jsh_35 _ rfl rfl h rfl rfl (Nat.le_of_ble_eq_true rfl) (fun M1 h => ?_)
  refine J_aload_0 dX4_order_5 ?_
  refine J_iconst (-1 : Int32) dX4_order_6 (by decide) ?_
  refine J_putI false dX4_order_7 pl_X4_27 jlt_35 jsh_35 (by decide) jrf_4_5 (fun q => absurd q (by decide)) ?_
  refine J_aload_0 dX4_order_10 ?_
  refine J_iload_2 dX4_order_11 ?_
  refine J_iconst (0 : Int32) dX4_order_12 (by decide) ?_
  refine J_iconst (0 : Int32) dX4_order_13 (by decide) ?_
  refine K_callVV (As := [.int x2, .int (0 : Int32), .int (0 : Int32)]) (rest := []) dX4_order_14 vl_X4_65 jlt_35 jsh_35 _ rfl rfl h rfl rfl (Nat.le_of_ble_eq_true rfl) (fun M2 h => ?_)
  exact K_ret dX4_order_17 rfl h
theorem eX4_order {G : jGT} {d : Nat} {x2 : Int32} {M : jM} {post : jM → Prop} (h : kX4_order_0 G d  x2 M post) : CV G (d + 1) mX4_order [.ref 35, .ref 1, .int x2] M post := Con_of_J ok_X4_order 0 rfl rfl h
def kX4_bring_0 (G : jGT) (d : Nat)  (x1 : Int32) (x2 : Int32) (x3 : Int32) (M : jM) (post : jM → Prop) : Prop := J G (d + 2) mX4_bring 0 [some (.ref 35), some (.int x1), some (.int x2), some (.int x3), none, none] [] jN jSH M jMR 0 0 0 0 (jQv post)
def kX4_bring_42 (G : jGT) (d : Nat)  (x1 : Int32) (x2 : Int32) (x3 : Int32) (x4 : Int32) (M : jM) (post : jM → Prop) : Prop := J G (d + 2) mX4_bring 42 [some (.ref 35), some (.int x1), some (.int x2), some (.int x3), some (.int x4), none] [] jN jSH M jMR 0 0 0 0 (jQv post)
theorem bX4_bring_0 {G : jGT} {d : Nat} {x1 : Int32} {x2 : Int32} {x3 : Int32} {M : jM} {post : jM → Prop} (h : (if x1 = 0 then (if x3 ≤ (M 35 5) then post M else post (jcp (jup M 35 5 x3) 39 38 6)) else (if x2 < (6 : Int32) then kX4_bring_42 G d x1 x2 x3 (0 : Int32) M post else (if x3 ≤ (M 35 5) then post M else post (jcp (jup M 35 5 x3) 39 38 6))))) : kX4_bring_0 G d  x1 x2 x3 M post := by
  unfold kX4_bring_0
  refine J_iload_1 dX4_bring_0 ?_
  refine J_if_eq (t := 10) dX4_bring_1 (by decide) (fun c0 => ?_) (fun c0 => ?_)
  · replace h := ite_t c0 h
    refine J_iload_3 dX4_bring_10 ?_
    refine J_aload_0 dX4_bring_11 ?_
    refine J_getI dX4_bring_12 fl_X4_27 jlt_35 jsh_35 (by decide) jrf_4_5 ?_
    refine J_icmp_le (t := 38) dX4_bring_15 (by decide) (fun c1 => ?_) (fun c1 => ?_)
    · replace h := ite_t c1 h
      exact K_ret dX4_bring_38 rfl h
    · replace h := ite_f c1 h
      refine J_aload_0 dX4_bring_18 ?_
      refine J_iload_3 dX4_bring_19 ?_
      refine J_putI false dX4_bring_20 pl_X4_27 jlt_35 jsh_35 (by decide) jrf_4_5 (fun q => absurd q (by decide)) ?_
      refine J_aload_0 dX4_bring_23 ?_
      refine J_getR 38 dX4_bring_24 fl_X4_21 jlt_35 jsh_35 (by decide) jrf_4_3 jmr_35_3 ?_
      refine J_iconst (0 : Int32) dX4_bring_27 (by decide) ?_
      refine J_aload_0 dX4_bring_28 ?_
      refine J_getR 39 dX4_bring_29 fl_X4_24 jlt_35 jsh_35 (by decide) jrf_4_4 jmr_35_4 ?_
      refine J_iconst (0 : Int32) dX4_bring_32 (by decide) ?_
      refine J_bipush (6 : Int32) dX4_bring_33 (by decide) ?_
      refine K_copy (t := 0) (n := 6) rfl dX4_bring_35 w_728 jlt_38 jsh_38 jlt_39 jsh_39 (by decide) (by decide) (by decide) (by decide) (by omega) (fun q => absurd q (by decide)) (by decide) ?_
      exact K_ret dX4_bring_38 rfl h
  · replace h := ite_f c0 h
    refine J_iload_2 dX4_bring_4 ?_
    refine J_bipush (6 : Int32) dX4_bring_5 (by decide) ?_
    refine J_icmp_lt (t := 39) dX4_bring_7 (by decide) (fun c1 => ?_) (fun c1 => ?_)
    · replace h := ite_t c1 h
      refine J_iconst (0 : Int32) dX4_bring_39 (by decide) ?_
      refine J_istore_4 dX4_bring_40 rfl ?_
      exact h
    · replace h := ite_f c1 h
      refine J_iload_3 dX4_bring_10 ?_
      refine J_aload_0 dX4_bring_11 ?_
      refine J_getI dX4_bring_12 fl_X4_27 jlt_35 jsh_35 (by decide) jrf_4_5 ?_
      refine J_icmp_le (t := 38) dX4_bring_15 (by decide) (fun c2 => ?_) (fun c2 => ?_)
      · replace h := ite_t c2 h
        exact K_ret dX4_bring_38 rfl h
      · replace h := ite_f c2 h
        refine J_aload_0 dX4_bring_18 ?_
        refine J_iload_3 dX4_bring_19 ?_
        refine J_putI false dX4_bring_20 pl_X4_27 jlt_35 jsh_35 (by decide) jrf_4_5 (fun q => absurd q (by decide)) ?_
        refine J_aload_0 dX4_bring_23 ?_
        refine J_getR 38 dX4_bring_24 fl_X4_21 jlt_35 jsh_35 (by decide) jrf_4_3 jmr_35_3 ?_
        refine J_iconst (0 : Int32) dX4_bring_27 (by decide) ?_
        refine J_aload_0 dX4_bring_28 ?_
        refine J_getR 39 dX4_bring_29 fl_X4_24 jlt_35 jsh_35 (by decide) jrf_4_4 jmr_35_4 ?_
        refine J_iconst (0 : Int32) dX4_bring_32 (by decide) ?_
        refine J_bipush (6 : Int32) dX4_bring_33 (by decide) ?_
        refine K_copy (t := 0) (n := 6) rfl dX4_bring_35 w_728 jlt_38 jsh_38 jlt_39 jsh_39 (by decide) (by decide) (by decide) (by decide) (by omega) (fun q => absurd q (by decide)) (by decide) ?_
        exact K_ret dX4_bring_38 rfl h
theorem bX4_bring_42 {G : jGT} {d : Nat} {x1 : Int32} {x2 : Int32} {x3 : Int32} {x4 : Int32} {M : jM} {post : jM → Prop} (h : (if (8 : Int32) ≤ x4 then post M else (if ((x1 >>> (x4 &&& 31)) &&& (1 : Int32)) = (1 : Int32) then (vp_in x4 64 ∧ CI G (d + 1) mX5_winsNow [.ref 27, .ref (40 + x4.toNatClampNeg)] M (fun r1 M1 => (vp_in x2 6 ∧ (vp_in x4 64 ∧ CV G (d + 1) mX5_push [.ref 27, .int ((jup M1 38 x2.toNatClampNeg x4) (40 + x4.toNatClampNeg) 0), .int r1] (jup M1 38 x2.toNatClampNeg x4) (fun M2 => (if r1 = 0 then CV G (d + 1) mX4_bring [.ref 35, .int (x1 ^^^ ((1 : Int32) <<< (x4 &&& 31))), .int (x2 + (1 : Int32)), .int (x3 + (0 : Int32))] M2 (fun M3 => CV G (d + 1) mX5_pop [.ref 27] M3 (fun M4 => kX4_bring_42 G d x1 x2 x3 (x4 + (1 : Int32)) M4 post)) else (vp_in x4 8 ∧ CV G (d + 1) mX4_bring [.ref 35, .int (x1 ^^^ ((1 : Int32) <<< (x4 &&& 31))), .int (x2 + (1 : Int32)), .int (x3 + (M2 37 x4.toNatClampNeg))] M2 (fun M5 => CV G (d + 1) mX5_pop [.ref 27] M5 (fun M6 => kX4_bring_42 G d x1 x2 x3 (x4 + (1 : Int32)) M6 post))))))))) else kX4_bring_42 G d x1 x2 x3 (x4 + (1 : Int32)) M post))) : kX4_bring_42 G d  x1 x2 x3 x4 M post := by
  unfold kX4_bring_42
  refine J_iload_4 dX4_bring_42 ?_
  refine J_bipush (8 : Int32) dX4_bring_44 (by decide) ?_
  refine J_icmp_ge (t := 146) dX4_bring_46 (by decide) (fun c0 => ?_) (fun c0 => ?_)
  · replace h := ite_t c0 h
    exact K_ret dX4_bring_146 rfl h
  · replace h := ite_f c0 h
    refine J_iload_1 dX4_bring_49 ?_
    refine J_iload_4 dX4_bring_50 ?_
    refine J_ishr dX4_bring_52 ?_
    refine J_iconst (1 : Int32) dX4_bring_53 (by decide) ?_
    refine J_iand dX4_bring_54 ?_
    refine J_iconst (1 : Int32) dX4_bring_55 (by decide) ?_
    refine J_icmp_ne (t := 140) dX4_bring_56 (by decide) (fun c1 => ?_) (fun c1 => ?_)
    · replace h := ite_f c1 h
      refine J_iinc_4 (1 : Int32) dX4_bring_140 (by decide) rfl ?_
      refine J_goto (t := 42) dX4_bring_143 (by decide) ?_
      exact h
    · replace h := ite_t c1 h
      refine J_aload_0 dX4_bring_59 ?_
      refine J_getR 27 dX4_bring_60 fl_X4_34 jlt_35 jsh_35 (by decide) jrf_4_0 jmr_35_0 ?_
      refine J_aload_0 dX4_bring_63 ?_
      refine J_getR 36 dX4_bring_64 fl_X4_11 jlt_35 jsh_35 (by decide) jrf_4_1 jmr_35_1 ?_
      refine J_iload_4 dX4_bring_67 ?_
      obtain ⟨g2, h⟩ := h
      refine J_aald (40 + x4.toNatClampNeg) dX4_bring_69 jlt_36 jsh_36 g2 (mr_36_all _ (vp_lt g2)) ?_
      refine K_callVI (As := [.ref (40 + x4.toNatClampNeg)]) (rest := []) dX4_bring_70 vl_X4_75 jlt_27 jsh_27 _ rfl rfl h rfl rfl (Nat.le_of_ble_eq_true rfl) (fun r1 M1 h => ?_)
      refine J_istore_5 dX4_bring_73 rfl ?_
      refine J_aload_0 dX4_bring_75 ?_
      refine J_getR 38 dX4_bring_76 fl_X4_21 jlt_35 jsh_35 (by decide) jrf_4_3 jmr_35_3 ?_
      refine J_iload_2 dX4_bring_79 ?_
      refine J_iload_4 dX4_bring_80 ?_
      obtain ⟨g3, h⟩ := h
      refine K_iast x2.toNatClampNeg rfl dX4_bring_82 jlt_38 jsh_38 g3 ?_
      refine J_aload_0 dX4_bring_83 ?_
      refine J_getR 27 dX4_bring_84 fl_X4_34 jlt_35 jsh_35 (by decide) jrf_4_0 jmr_35_0 ?_
      refine J_aload_0 dX4_bring_87 ?_
      refine J_getR 36 dX4_bring_88 fl_X4_11 jlt_35 jsh_35 (by decide) jrf_4_1 jmr_35_1 ?_
      refine J_iload_4 dX4_bring_91 ?_
      obtain ⟨g4, h⟩ := h
      refine J_aald (40 + x4.toNatClampNeg) dX4_bring_93 jlt_36 jsh_36 g4 (mr_36_all _ (vp_lt g4)) ?_
      refine J_getI dX4_bring_94 fl_X4_79 (jT_lt (jT_40 g4)) (jT_sh (jT_40 g4)) (by decide) jrf_6_0 ?_
      refine J_iload_5 dX4_bring_97 ?_
      refine K_callVV (As := [.int ((jup M1 38 x2.toNatClampNeg x4) (40 + x4.toNatClampNeg) 0), .int r1]) (rest := []) dX4_bring_99 vl_X4_82 jlt_27 jsh_27 _ rfl rfl h rfl rfl (Nat.le_of_ble_eq_true rfl) (fun M2 h => ?_)
      refine J_aload_0 dX4_bring_102 ?_
      refine J_iload_1 dX4_bring_103 ?_
      refine J_iconst (1 : Int32) dX4_bring_104 (by decide) ?_
      refine J_iload_4 dX4_bring_105 ?_
      refine J_ishl dX4_bring_107 ?_
      refine J_ixor dX4_bring_108 ?_
      refine J_iload_2 dX4_bring_109 ?_
      refine J_iconst (1 : Int32) dX4_bring_110 (by decide) ?_
      refine J_iadd dX4_bring_111 ?_
      refine J_iload_3 dX4_bring_112 ?_
      refine J_iload_5 dX4_bring_113 ?_
      refine J_if_eq (t := 128) dX4_bring_115 (by decide) (fun c5 => ?_) (fun c5 => ?_)
      · replace h := ite_t c5 h
        refine J_iconst (0 : Int32) dX4_bring_128 (by decide) ?_
        refine J_iadd dX4_bring_129 ?_
        refine K_callVV (As := [.int (x1 ^^^ ((1 : Int32) <<< (x4 &&& 31))), .int (x2 + (1 : Int32)), .int (x3 + (0 : Int32))]) (rest := []) dX4_bring_130 vl_X4_65 jlt_35 jsh_35 _ rfl rfl h rfl rfl (Nat.le_of_ble_eq_true rfl) (fun M3 h => ?_)
        refine J_aload_0 dX4_bring_133 ?_
        refine J_getR 27 dX4_bring_134 fl_X4_34 jlt_35 jsh_35 (by decide) jrf_4_0 jmr_35_0 ?_
        refine K_callVV (As := []) (rest := []) dX4_bring_137 vl_X4_86 jlt_27 jsh_27 _ rfl rfl h rfl rfl (Nat.le_of_ble_eq_true rfl) (fun M4 h => ?_)
        refine J_iinc_4 (1 : Int32) dX4_bring_140 (by decide) rfl ?_
        refine J_goto (t := 42) dX4_bring_143 (by decide) ?_
        exact J_weak (lv' := [some (.ref 35), some (.int x1), some (.int x2), some (.int x3), some (.int (x4 + (1 : Int32))), none]) (And.intro rfl (And.intro rfl (And.intro rfl (And.intro rfl (And.intro rfl trivial))))) h
      · replace h := ite_f c5 h
        refine J_aload_0 dX4_bring_118 ?_
        refine J_getR 37 dX4_bring_119 fl_X4_17 jlt_35 jsh_35 (by decide) jrf_4_2 jmr_35_2 ?_
        refine J_iload_4 dX4_bring_122 ?_
        obtain ⟨g6, h⟩ := h
        refine K_iald x4.toNatClampNeg rfl dX4_bring_124 jlt_37 jsh_37 g6 ?_
        refine J_goto (t := 129) dX4_bring_125 (by decide) ?_
        refine J_iadd dX4_bring_129 ?_
        refine K_callVV (As := [.int (x1 ^^^ ((1 : Int32) <<< (x4 &&& 31))), .int (x2 + (1 : Int32)), .int (x3 + (M2 37 x4.toNatClampNeg))]) (rest := []) dX4_bring_130 vl_X4_65 jlt_35 jsh_35 _ rfl rfl h rfl rfl (Nat.le_of_ble_eq_true rfl) (fun M5 h => ?_)
        refine J_aload_0 dX4_bring_133 ?_
        refine J_getR 27 dX4_bring_134 fl_X4_34 jlt_35 jsh_35 (by decide) jrf_4_0 jmr_35_0 ?_
        refine K_callVV (As := []) (rest := []) dX4_bring_137 vl_X4_86 jlt_27 jsh_27 _ rfl rfl h rfl rfl (Nat.le_of_ble_eq_true rfl) (fun M6 h => ?_)
        refine J_iinc_4 (1 : Int32) dX4_bring_140 (by decide) rfl ?_
        refine J_goto (t := 42) dX4_bring_143 (by decide) ?_
        exact J_weak (lv' := [some (.ref 35), some (.int x1), some (.int x2), some (.int x3), some (.int (x4 + (1 : Int32))), none]) (And.intro rfl (And.intro rfl (And.intro rfl (And.intro rfl (And.intro rfl trivial))))) h
theorem eX4_bring {G : jGT} {d : Nat} {x1 : Int32} {x2 : Int32} {x3 : Int32} {M : jM} {post : jM → Prop} (h : kX4_bring_0 G d  x1 x2 x3 M post) : CV G (d + 2) mX4_bring [.ref 35, .int x1, .int x2, .int x3] M post := Con_of_J ok_X4_bring 2 rfl rfl h
def kX4_against_0 (G : jGT) (d : Nat)  (x2 : Int32) (x3 : Int32) (M : jM) (post : Int32 → jM → Prop) : Prop := J G (d + 1) mX4_against 0 [some (.ref 35), some (.ref 1), some (.int x2), some (.int x3)] [] jN jSH M jMR 0 0 0 0 (jQi post)
theorem bX4_against_0 {G : jGT} {d : Nat} {x2 : Int32} {x3 : Int32} {M : jM} {post : Int32 → jM → Prop} (h : CV G d mX4_prepareSuits [.ref 35, .ref 1] M (fun M1 => CI G d mX4_turns [.ref 35, .int x2, .int x3, .int (1 : Int32), .int (0 : Int32)] (jup M1 35 6 (-5 : Int32)) (fun r2 M2 => post r2 M2))) : kX4_against_0 G d  x2 x3 M post := by
  unfold kX4_against_0
  refine J_aload_0 dX4_against_0 ?_
  refine J_aload_1 dX4_against_1 ?_
  refine K_callVV (As := [.ref 1]) (rest := []) dX4_against_2 vl_X4_61 jlt_35 jsh_35 _ rfl rfl h rfl rfl (Nat.le_of_ble_eq_true rfl) (fun M1 h => ?_)
  refine J_aload_0 dX4_against_5 ?_
  refine J_bipush (-5 : Int32) dX4_against_6 (by decide) ?_
  refine J_putI false dX4_against_8 pl_X4_31 jlt_35 jsh_35 (by decide) jrf_4_6 (fun q => absurd q (by decide)) ?_
  refine J_aload_0 dX4_against_11 ?_
  refine J_iload_2 dX4_against_12 ?_
  refine J_iload_3 dX4_against_13 ?_
  refine J_iconst (1 : Int32) dX4_against_14 (by decide) ?_
  refine J_iconst (0 : Int32) dX4_against_15 (by decide) ?_
  refine K_callVI (As := [.int x2, .int x3, .int (1 : Int32), .int (0 : Int32)]) (rest := []) dX4_against_16 vl_X4_89 jlt_35 jsh_35 _ rfl rfl h rfl rfl (Nat.le_of_ble_eq_true rfl) (fun r2 M2 h => ?_)
  exact K_iret dX4_against_19 rfl h
theorem eX4_against {G : jGT} {d : Nat} {x2 : Int32} {x3 : Int32} {M : jM} {post : Int32 → jM → Prop} (h : kX4_against_0 G d  x2 x3 M post) : CI G (d + 1) mX4_against [.ref 35, .ref 1, .int x2, .int x3] M post := Con_of_J ok_X4_against 0 rfl rfl h
def kX4_turns_0 (G : jGT) (d : Nat)  (x1 : Int32) (x2 : Int32) (x3 : Int32) (x4 : Int32) (M : jM) (post : Int32 → jM → Prop) : Prop := J G (d + 1) mX4_turns 0 [some (.ref 35), some (.int x1), some (.int x2), some (.int x3), some (.int x4), none, none, none, none, none, none, none, none, none, none] [] jN jSH M jMR 0 0 0 0 (jQi post)
def kX4_turns_13 (G : jGT) (d : Nat)  (x1 : Int32) (x2 : Int32) (x3 : Int32) (x4 : Int32) (M : jM) (post : Int32 → jM → Prop) : Prop := J G (d + 1) mX4_turns 13 [some (.ref 35), some (.int x1), some (.int x2), some (.int x3), some (.int x4), none, none, none, none, none, none, none, none, none, none] [] jN jSH M jMR 0 0 0 0 (jQi post)
def kX4_turns_40 (G : jGT) (d : Nat)  (x1 : Int32) (x2 : Int32) (x3 : Int32) (x4 : Int32) (s0 : Int32) (M : jM) (post : Int32 → jM → Prop) : Prop := J G (d + 1) mX4_turns 40 [some (.ref 35), some (.int x1), some (.int x2), some (.int x3), some (.int x4), none, none, none, none, none, none, none, none, none, none] [.int s0] jN jSH M jMR 0 0 0 0 (jQi post)
def kX4_turns_52 (G : jGT) (d : Nat)  (x1 : Int32) (x2 : Int32) (x3 : Int32) (x4 : Int32) (x5 : Int32) (s0 : Int32) (M : jM) (post : Int32 → jM → Prop) : Prop := J G (d + 1) mX4_turns 52 [some (.ref 35), some (.int x1), some (.int x2), some (.int x3), some (.int x4), some (.int x5), none, none, none, none, none, none, none, none, none] [.int s0] jN jSH M jMR 0 0 0 0 (jQi post)
def kX4_turns_63 (G : jGT) (d : Nat)  (x1 : Int32) (x2 : Int32) (x3 : Int32) (x4 : Int32) (x5 : Int32) (x6 : Int32) (x7 : Int32) (x8 : Int32) (x9 : Int32) (M : jM) (post : Int32 → jM → Prop) : Prop := J G (d + 1) mX4_turns 63 [some (.ref 35), some (.int x1), some (.int x2), some (.int x3), some (.int x4), some (.int x5), some (.int x6), some (.int x7), some (.int x8), some (.int x9), none, none, none, none, none] [] jN jSH M jMR 0 0 0 0 (jQi post)
def kX4_turns_119 (G : jGT) (d : Nat)  (x1 : Int32) (x2 : Int32) (x3 : Int32) (x4 : Int32) (x5 : Int32) (x6 : Int32) (x7 : Int32) (x8 : Int32) (x9 : Int32) (x10 : Int32) (x11 : Int32) (s0 : Int32) (M : jM) (post : Int32 → jM → Prop) : Prop := J G (d + 1) mX4_turns 119 [some (.ref 35), some (.int x1), some (.int x2), some (.int x3), some (.int x4), some (.int x5), some (.int x6), some (.int x7), some (.int x8), some (.int x9), some (.int x10), some (.int x11), none, none, none] [.int s0] jN jSH M jMR 0 0 0 0 (jQi post)
def kX4_turns_154 (G : jGT) (d : Nat)  (x1 : Int32) (x2 : Int32) (x3 : Int32) (x4 : Int32) (x5 : Int32) (x6 : Int32) (x7 : Int32) (x8 : Int32) (x9 : Int32) (x10 : Int32) (x11 : Int32) (x12 : Int32) (s1 : Int32) (M : jM) (post : Int32 → jM → Prop) : Prop := J G (d + 1) mX4_turns 154 [some (.ref 35), some (.int x1), some (.int x2), some (.int x3), some (.int x4), some (.int x5), some (.int x6), some (.int x7), some (.int x8), some (.int x9), some (.int x10), some (.int x11), some (.int x12), none, none] [.int s1, .ref 35] jN jSH M jMR 0 0 0 0 (jQi post)
def kX4_turns_167 (G : jGT) (d : Nat)  (x1 : Int32) (x2 : Int32) (x3 : Int32) (x4 : Int32) (x5 : Int32) (x6 : Int32) (x7 : Int32) (x8 : Int32) (x9 : Int32) (x10 : Int32) (x11 : Int32) (x12 : Int32) (s1 : Int32) (s2 : Int32) (M : jM) (post : Int32 → jM → Prop) : Prop := J G (d + 1) mX4_turns 167 [some (.ref 35), some (.int x1), some (.int x2), some (.int x3), some (.int x4), some (.int x5), some (.int x6), some (.int x7), some (.int x8), some (.int x9), some (.int x10), some (.int x11), some (.int x12), none, none] [.int s2, .int s1, .ref 35] jN jSH M jMR 0 0 0 0 (jQi post)
def kX4_turns_177 (G : jGT) (d : Nat)  (x1 : Int32) (x2 : Int32) (x3 : Int32) (x4 : Int32) (x5 : Int32) (x6 : Int32) (x7 : Int32) (x8 : Int32) (x9 : Int32) (x10 : Int32) (x11 : Int32) (x12 : Int32) (s1 : Int32) (s2 : Int32) (s3 : Int32) (M : jM) (post : Int32 → jM → Prop) : Prop := J G (d + 1) mX4_turns 177 [some (.ref 35), some (.int x1), some (.int x2), some (.int x3), some (.int x4), some (.int x5), some (.int x6), some (.int x7), some (.int x8), some (.int x9), some (.int x10), some (.int x11), some (.int x12), none, none] [.int s3, .int s2, .int s1, .ref 35] jN jSH M jMR 0 0 0 0 (jQi post)
def kX4_turns_211 (G : jGT) (d : Nat)  (x1 : Int32) (x2 : Int32) (x3 : Int32) (x4 : Int32) (x5 : Int32) (x6 : Int32) (x7 : Int32) (x8 : Int32) (x9 : Int32) (x10 : Int32) (x11 : Int32) (x12 : Int32) (x13 : Int32) (s0 : Int32) (M : jM) (post : Int32 → jM → Prop) : Prop := J G (d + 1) mX4_turns 211 [some (.ref 35), some (.int x1), some (.int x2), some (.int x3), some (.int x4), some (.int x5), some (.int x6), some (.int x7), some (.int x8), some (.int x9), some (.int x10), some (.int x11), some (.int x12), some (.int x13), none] [.int s0] jN jSH M jMR 0 0 0 0 (jQi post)
def kX4_turns_240 (G : jGT) (d : Nat)  (x1 : Int32) (x2 : Int32) (x3 : Int32) (x4 : Int32) (x5 : Int32) (x6 : Int32) (x7 : Int32) (x8 : Int32) (x9 : Int32) (x10 : Int32) (x11 : Int32) (x12 : Int32) (x13 : Int32) (x14 : Int32) (M : jM) (post : Int32 → jM → Prop) : Prop := J G (d + 1) mX4_turns 240 [some (.ref 35), some (.int x1), some (.int x2), some (.int x3), some (.int x4), some (.int x5), some (.int x6), some (.int x7), some (.int x8), some (.int x9), some (.int x10), some (.int x11), some (.int x12), some (.int x13), some (.int x14)] [] jN jSH M jMR 0 0 0 0 (jQi post)
def kX4_turns_248 (G : jGT) (d : Nat)  (x1 : Int32) (x2 : Int32) (x3 : Int32) (x4 : Int32) (x5 : Int32) (x6 : Int32) (x7 : Int32) (x8 : Int32) (x9 : Int32) (M : jM) (post : Int32 → jM → Prop) : Prop := J G (d + 1) mX4_turns 248 [some (.ref 35), some (.int x1), some (.int x2), some (.int x3), some (.int x4), some (.int x5), some (.int x6), some (.int x7), some (.int x8), some (.int x9), none, none, none, none, none] [] jN jSH M jMR 0 0 0 0 (jQi post)
def kX4_turns_270 (G : jGT) (d : Nat)  (x1 : Int32) (x2 : Int32) (x3 : Int32) (x4 : Int32) (x5 : Int32) (x6 : Int32) (x7 : Int32) (x8 : Int32) (x9 : Int32) (M : jM) (post : Int32 → jM → Prop) : Prop := J G (d + 1) mX4_turns 270 [some (.ref 35), some (.int x1), some (.int x2), some (.int x3), some (.int x4), some (.int x5), some (.int x6), some (.int x7), some (.int x8), some (.int x9), none, none, none, none, none] [] jN jSH M jMR 0 0 0 0 (jQi post)
theorem bX4_turns_0 {G : jGT} {d : Nat} {x1 : Int32} {x2 : Int32} {x3 : Int32} {x4 : Int32} {M : jM} {post : Int32 → jM → Prop} (h : (if (x1 ||| x2) = 0 then kX4_turns_13 G d x1 x2 x3 x4 M post else (if x4 < (6 : Int32) then (if x3 = 0 then (if x2 = 0 then kX4_turns_40 G d x1 x2 x3 x4 (1 : Int32) M post else kX4_turns_40 G d x1 x2 x3 x4 (0 : Int32) M post) else (if x1 = 0 then kX4_turns_40 G d x1 x2 x3 x4 (0 : Int32) M post else kX4_turns_40 G d x1 x2 x3 x4 (1 : Int32) M post)) else kX4_turns_13 G d x1 x2 x3 x4 M post))) : kX4_turns_0 G d  x1 x2 x3 x4 M post := by
  unfold kX4_turns_0
  refine J_iload_1 dX4_turns_0 ?_
  refine J_iload_2 dX4_turns_1 ?_
  refine J_ior dX4_turns_2 ?_
  refine J_if_eq (t := 13) dX4_turns_3 (by decide) (fun c0 => ?_) (fun c0 => ?_)
  · replace h := ite_t c0 h
    exact h
  · replace h := ite_f c0 h
    refine J_iload_4 dX4_turns_6 ?_
    refine J_bipush (6 : Int32) dX4_turns_8 (by decide) ?_
    refine J_icmp_lt (t := 15) dX4_turns_10 (by decide) (fun c1 => ?_) (fun c1 => ?_)
    · replace h := ite_t c1 h
      refine J_iload_3 dX4_turns_15 ?_
      refine J_if_eq (t := 31) dX4_turns_16 (by decide) (fun c2 => ?_) (fun c2 => ?_)
      · replace h := ite_t c2 h
        refine J_iload_2 dX4_turns_31 ?_
        refine J_if_ne (t := 39) dX4_turns_32 (by decide) (fun c3 => ?_) (fun c3 => ?_)
        · replace h := ite_f c3 h
          refine J_iconst (0 : Int32) dX4_turns_39 (by decide) ?_
          exact h
        · replace h := ite_t c3 h
          refine J_iconst (1 : Int32) dX4_turns_35 (by decide) ?_
          refine J_goto (t := 40) dX4_turns_36 (by decide) ?_
          exact h
      · replace h := ite_f c2 h
        refine J_iload_1 dX4_turns_19 ?_
        refine J_if_eq (t := 27) dX4_turns_20 (by decide) (fun c3 => ?_) (fun c3 => ?_)
        · replace h := ite_t c3 h
          refine J_iconst (0 : Int32) dX4_turns_27 (by decide) ?_
          refine J_goto (t := 40) dX4_turns_28 (by decide) ?_
          exact h
        · replace h := ite_f c3 h
          refine J_iconst (1 : Int32) dX4_turns_23 (by decide) ?_
          refine J_goto (t := 40) dX4_turns_24 (by decide) ?_
          exact h
    · replace h := ite_f c1 h
      exact h
theorem bX4_turns_13 {G : jGT} {d : Nat} {x1 : Int32} {x2 : Int32} {x3 : Int32} {x4 : Int32} {M : jM} {post : Int32 → jM → Prop} (h : post (0 : Int32) M) : kX4_turns_13 G d  x1 x2 x3 x4 M post := by
  unfold kX4_turns_13
  refine J_iconst (0 : Int32) dX4_turns_13 (by decide) ?_
  exact K_iret dX4_turns_14 rfl h
theorem bX4_turns_40 {G : jGT} {d : Nat} {x1 : Int32} {x2 : Int32} {x3 : Int32} {x4 : Int32} {s0 : Int32} {M : jM} {post : Int32 → jM → Prop} (h : (if s0 = 0 then kX4_turns_52 G d x1 x2 x3 x4 s0 x2 M post else kX4_turns_52 G d x1 x2 x3 x4 s0 x1 M post)) : kX4_turns_40 G d  x1 x2 x3 x4 s0 M post := by
  unfold kX4_turns_40
  refine J_istore_5 dX4_turns_40 rfl ?_
  refine J_iload_5 dX4_turns_42 ?_
  refine J_if_eq (t := 51) dX4_turns_44 (by decide) (fun c0 => ?_) (fun c0 => ?_)
  · replace h := ite_t c0 h
    refine J_iload_2 dX4_turns_51 ?_
    exact h
  · replace h := ite_f c0 h
    refine J_iload_1 dX4_turns_47 ?_
    refine J_goto (t := 52) dX4_turns_48 (by decide) ?_
    exact h
theorem bX4_turns_52 {G : jGT} {d : Nat} {x1 : Int32} {x2 : Int32} {x3 : Int32} {x4 : Int32} {x5 : Int32} {s0 : Int32} {M : jM} {post : Int32 → jM → Prop} (h : kX4_turns_63 G d x1 x2 x3 x4 x5 s0 (-1 : Int32) (0 : Int32) (0 : Int32) M post) : kX4_turns_52 G d  x1 x2 x3 x4 x5 s0 M post := by
  unfold kX4_turns_52
  refine J_istore_6 dX4_turns_52 rfl ?_
  refine J_iconst (-1 : Int32) dX4_turns_54 (by decide) ?_
  refine J_istore_7 dX4_turns_55 rfl ?_
  refine J_iconst (0 : Int32) dX4_turns_57 (by decide) ?_
  refine J_istore_8 dX4_turns_58 rfl ?_
  refine J_iconst (0 : Int32) dX4_turns_60 (by decide) ?_
  refine J_istore_9 dX4_turns_61 rfl ?_
  exact h
theorem bX4_turns_63 {G : jGT} {d : Nat} {x1 : Int32} {x2 : Int32} {x3 : Int32} {x4 : Int32} {x5 : Int32} {x6 : Int32} {x7 : Int32} {x8 : Int32} {x9 : Int32} {M : jM} {post : Int32 → jM → Prop} (h : (if (8 : Int32) ≤ x9 then (if x4 = 0 then (if x5 = 0 then kX4_turns_270 G d x1 x2 x3 x4 x5 x6 x7 x8 x9 M post else kX4_turns_270 G d x1 x2 x3 x4 x5 x6 x7 x8 x9 (jup M 35 6 x7) post) else kX4_turns_270 G d x1 x2 x3 x4 x5 x6 x7 x8 x9 M post) else (if ((x6 >>> (x9 &&& 31)) &&& (1 : Int32)) = (1 : Int32) then (vp_in x9 64 ∧ CI G d mX5_winsNow [.ref 27, .ref (40 + x9.toNatClampNeg)] M (fun r1 M1 => (if r1 = 0 then kX4_turns_119 G d x1 x2 x3 x4 x5 x6 x7 x8 x9 ((1 : Int32) <<< (x9 &&& 31)) r1 (0 : Int32) M1 post else (vp_in x9 8 ∧ kX4_turns_119 G d x1 x2 x3 x4 x5 x6 x7 x8 x9 ((1 : Int32) <<< (x9 &&& 31)) r1 (M1 37 x9.toNatClampNeg) M1 post)))) else kX4_turns_248 G d x1 x2 x3 x4 x5 x6 x7 x8 x9 M post))) : kX4_turns_63 G d  x1 x2 x3 x4 x5 x6 x7 x8 x9 M post := by
  unfold kX4_turns_63
  refine J_iload_9 dX4_turns_63 ?_
  refine J_bipush (8 : Int32) dX4_turns_65 (by decide) ?_
  refine J_icmp_ge (t := 254) dX4_turns_67 (by decide) (fun c0 => ?_) (fun c0 => ?_)
  · replace h := ite_t c0 h
    refine J_iload_4 dX4_turns_254 ?_
    refine J_if_ne (t := 270) dX4_turns_256 (by decide) (fun c1 => ?_) (fun c1 => ?_)
    · replace h := ite_f c1 h
      exact h
    · replace h := ite_t c1 h
      refine J_iload_5 dX4_turns_259 ?_
      refine J_if_eq (t := 270) dX4_turns_261 (by decide) (fun c2 => ?_) (fun c2 => ?_)
      · replace h := ite_t c2 h
        exact h
      · replace h := ite_f c2 h
        refine J_aload_0 dX4_turns_264 ?_
        refine J_iload_7 dX4_turns_265 ?_
        refine J_putI false dX4_turns_267 pl_X4_31 jlt_35 jsh_35 (by decide) jrf_4_6 (fun q => absurd q (by decide)) ?_
        exact h
  · replace h := ite_f c0 h
    refine J_iload_6 dX4_turns_70 ?_
    refine J_iload_9 dX4_turns_72 ?_
    refine J_ishr dX4_turns_74 ?_
    refine J_iconst (1 : Int32) dX4_turns_75 (by decide) ?_
    refine J_iand dX4_turns_76 ?_
    refine J_iconst (1 : Int32) dX4_turns_77 (by decide) ?_
    refine J_icmp_ne (t := 248) dX4_turns_78 (by decide) (fun c1 => ?_) (fun c1 => ?_)
    · replace h := ite_f c1 h
      exact h
    · replace h := ite_t c1 h
      refine J_iconst (1 : Int32) dX4_turns_81 (by decide) ?_
      refine J_iload_9 dX4_turns_82 ?_
      refine J_ishl dX4_turns_84 ?_
      refine J_istore_10 dX4_turns_85 rfl ?_
      refine J_aload_0 dX4_turns_87 ?_
      refine J_getR 27 dX4_turns_88 fl_X4_34 jlt_35 jsh_35 (by decide) jrf_4_0 jmr_35_0 ?_
      refine J_aload_0 dX4_turns_91 ?_
      refine J_getR 36 dX4_turns_92 fl_X4_11 jlt_35 jsh_35 (by decide) jrf_4_1 jmr_35_1 ?_
      refine J_iload_9 dX4_turns_95 ?_
      obtain ⟨g2, h⟩ := h
      refine J_aald (40 + x9.toNatClampNeg) dX4_turns_97 jlt_36 jsh_36 g2 (mr_36_all _ (vp_lt g2)) ?_
      refine K_callVI (As := [.ref (40 + x9.toNatClampNeg)]) (rest := []) dX4_turns_98 vl_X4_75 jlt_27 jsh_27 _ rfl rfl h rfl rfl (Nat.le_of_ble_eq_true rfl) (fun r1 M1 h => ?_)
      refine J_istore_11 dX4_turns_101 rfl ?_
      refine J_iload_11 dX4_turns_103 ?_
      refine J_if_eq (t := 118) dX4_turns_105 (by decide) (fun c3 => ?_) (fun c3 => ?_)
      · replace h := ite_t c3 h
        refine J_iconst (0 : Int32) dX4_turns_118 (by decide) ?_
        exact h
      · replace h := ite_f c3 h
        refine J_aload_0 dX4_turns_108 ?_
        refine J_getR 37 dX4_turns_109 fl_X4_17 jlt_35 jsh_35 (by decide) jrf_4_2 jmr_35_2 ?_
        refine J_iload_9 dX4_turns_112 ?_
        obtain ⟨g4, h⟩ := h
        refine K_iald x9.toNatClampNeg rfl dX4_turns_114 jlt_37 jsh_37 g4 ?_
        refine J_goto (t := 119) dX4_turns_115 (by decide) ?_
        exact h
theorem bX4_turns_119 {G : jGT} {d : Nat} {x1 : Int32} {x2 : Int32} {x3 : Int32} {x4 : Int32} {x5 : Int32} {x6 : Int32} {x7 : Int32} {x8 : Int32} {x9 : Int32} {x10 : Int32} {x11 : Int32} {s0 : Int32} {M : jM} {post : Int32 → jM → Prop} (h : (vp_in x9 64 ∧ CV G d mX5_push [.ref 27, .int (M (40 + x9.toNatClampNeg) 0), .int x11] M (fun M1 => (if x5 = 0 then kX4_turns_154 G d x1 x2 x3 x4 x5 x6 x7 x8 x9 x10 x11 s0 x1 M1 post else kX4_turns_154 G d x1 x2 x3 x4 x5 x6 x7 x8 x9 x10 x11 s0 (x1 ^^^ x10) M1 post)))) : kX4_turns_119 G d  x1 x2 x3 x4 x5 x6 x7 x8 x9 x10 x11 s0 M post := by
  unfold kX4_turns_119
  refine J_istore_12 dX4_turns_119 rfl ?_
  refine J_aload_0 dX4_turns_121 ?_
  refine J_getR 27 dX4_turns_122 fl_X4_34 jlt_35 jsh_35 (by decide) jrf_4_0 jmr_35_0 ?_
  refine J_aload_0 dX4_turns_125 ?_
  refine J_getR 36 dX4_turns_126 fl_X4_11 jlt_35 jsh_35 (by decide) jrf_4_1 jmr_35_1 ?_
  refine J_iload_9 dX4_turns_129 ?_
  obtain ⟨g0, h⟩ := h
  refine J_aald (40 + x9.toNatClampNeg) dX4_turns_131 jlt_36 jsh_36 g0 (mr_36_all _ (vp_lt g0)) ?_
  refine J_getI dX4_turns_132 fl_X4_79 (jT_lt (jT_40 g0)) (jT_sh (jT_40 g0)) (by decide) jrf_6_0 ?_
  refine J_iload_11 dX4_turns_135 ?_
  refine K_callVV (As := [.int (M (40 + x9.toNatClampNeg) 0), .int x11]) (rest := []) dX4_turns_137 vl_X4_82 jlt_27 jsh_27 _ rfl rfl h rfl rfl (Nat.le_of_ble_eq_true rfl) (fun M1 h => ?_)
  refine J_aload_0 dX4_turns_140 ?_
  refine J_iload_5 dX4_turns_141 ?_
  refine J_if_eq (t := 153) dX4_turns_143 (by decide) (fun c1 => ?_) (fun c1 => ?_)
  · replace h := ite_t c1 h
    refine J_iload_1 dX4_turns_153 ?_
    exact h
  · replace h := ite_f c1 h
    refine J_iload_1 dX4_turns_146 ?_
    refine J_iload_10 dX4_turns_147 ?_
    refine J_ixor dX4_turns_149 ?_
    refine J_goto (t := 154) dX4_turns_150 (by decide) ?_
    exact h
theorem bX4_turns_154 {G : jGT} {d : Nat} {x1 : Int32} {x2 : Int32} {x3 : Int32} {x4 : Int32} {x5 : Int32} {x6 : Int32} {x7 : Int32} {x8 : Int32} {x9 : Int32} {x10 : Int32} {x11 : Int32} {x12 : Int32} {s1 : Int32} {M : jM} {post : Int32 → jM → Prop} (h : (if x5 = 0 then kX4_turns_167 G d x1 x2 x3 x4 x5 x6 x7 x8 x9 x10 x11 x12 s1 (x2 ^^^ x10) M post else kX4_turns_167 G d x1 x2 x3 x4 x5 x6 x7 x8 x9 x10 x11 x12 s1 x2 M post)) : kX4_turns_154 G d  x1 x2 x3 x4 x5 x6 x7 x8 x9 x10 x11 x12 s1 M post := by
  unfold kX4_turns_154
  refine J_iload_5 dX4_turns_154 ?_
  refine J_if_eq (t := 163) dX4_turns_156 (by decide) (fun c0 => ?_) (fun c0 => ?_)
  · replace h := ite_t c0 h
    refine J_iload_2 dX4_turns_163 ?_
    refine J_iload_10 dX4_turns_164 ?_
    refine J_ixor dX4_turns_166 ?_
    exact h
  · replace h := ite_f c0 h
    refine J_iload_2 dX4_turns_159 ?_
    refine J_goto (t := 167) dX4_turns_160 (by decide) ?_
    exact h
theorem bX4_turns_167 {G : jGT} {d : Nat} {x1 : Int32} {x2 : Int32} {x3 : Int32} {x4 : Int32} {x5 : Int32} {x6 : Int32} {x7 : Int32} {x8 : Int32} {x9 : Int32} {x10 : Int32} {x11 : Int32} {x12 : Int32} {s1 : Int32} {s2 : Int32} {M : jM} {post : Int32 → jM → Prop} (h : (if x5 = 0 then kX4_turns_177 G d x1 x2 x3 x4 x5 x6 x7 x8 x9 x10 x11 x12 s1 s2 (1 : Int32) M post else kX4_turns_177 G d x1 x2 x3 x4 x5 x6 x7 x8 x9 x10 x11 x12 s1 s2 (0 : Int32) M post)) : kX4_turns_167 G d  x1 x2 x3 x4 x5 x6 x7 x8 x9 x10 x11 x12 s1 s2 M post := by
  unfold kX4_turns_167
  refine J_iload_5 dX4_turns_167 ?_
  refine J_if_ne (t := 176) dX4_turns_169 (by decide) (fun c0 => ?_) (fun c0 => ?_)
  · replace h := ite_f c0 h
    refine J_iconst (0 : Int32) dX4_turns_176 (by decide) ?_
    exact h
  · replace h := ite_t c0 h
    refine J_iconst (1 : Int32) dX4_turns_172 (by decide) ?_
    refine J_goto (t := 177) dX4_turns_173 (by decide) ?_
    exact h
theorem bX4_turns_177 {G : jGT} {d : Nat} {x1 : Int32} {x2 : Int32} {x3 : Int32} {x4 : Int32} {x5 : Int32} {x6 : Int32} {x7 : Int32} {x8 : Int32} {x9 : Int32} {x10 : Int32} {x11 : Int32} {x12 : Int32} {s1 : Int32} {s2 : Int32} {s3 : Int32} {M : jM} {post : Int32 → jM → Prop} (h : CI G d mX4_turns [.ref 35, .int s1, .int s2, .int s3, .int (x4 + (1 : Int32))] M (fun r1 M1 => CV G d mX5_pop [.ref 27] M1 (fun M2 => (if x5 = 0 then kX4_turns_211 G d x1 x2 x3 x4 x5 x6 x7 x8 x9 x10 x11 x12 r1 (r1 - x12) M2 post else kX4_turns_211 G d x1 x2 x3 x4 x5 x6 x7 x8 x9 x10 x11 x12 r1 (r1 + x12) M2 post)))) : kX4_turns_177 G d  x1 x2 x3 x4 x5 x6 x7 x8 x9 x10 x11 x12 s1 s2 s3 M post := by
  unfold kX4_turns_177
  refine J_iload_4 dX4_turns_177 ?_
  refine J_iconst (1 : Int32) dX4_turns_179 (by decide) ?_
  refine J_iadd dX4_turns_180 ?_
  refine K_callVI (As := [.int s1, .int s2, .int s3, .int (x4 + (1 : Int32))]) (rest := []) dX4_turns_181 vl_X4_89 jlt_35 jsh_35 _ rfl rfl h rfl rfl (Nat.le_of_ble_eq_true rfl) (fun r1 M1 h => ?_)
  refine J_istore_13 dX4_turns_184 rfl ?_
  refine J_aload_0 dX4_turns_186 ?_
  refine J_getR 27 dX4_turns_187 fl_X4_34 jlt_35 jsh_35 (by decide) jrf_4_0 jmr_35_0 ?_
  refine K_callVV (As := []) (rest := []) dX4_turns_190 vl_X4_86 jlt_27 jsh_27 _ rfl rfl h rfl rfl (Nat.le_of_ble_eq_true rfl) (fun M2 h => ?_)
  refine J_iload_5 dX4_turns_193 ?_
  refine J_if_eq (t := 206) dX4_turns_195 (by decide) (fun c0 => ?_) (fun c0 => ?_)
  · replace h := ite_t c0 h
    refine J_iload_13 dX4_turns_206 ?_
    refine J_iload_12 dX4_turns_208 ?_
    refine J_isub dX4_turns_210 ?_
    exact h
  · replace h := ite_f c0 h
    refine J_iload_13 dX4_turns_198 ?_
    refine J_iload_12 dX4_turns_200 ?_
    refine J_iadd dX4_turns_202 ?_
    refine J_goto (t := 211) dX4_turns_203 (by decide) ?_
    exact h
theorem bX4_turns_211 {G : jGT} {d : Nat} {x1 : Int32} {x2 : Int32} {x3 : Int32} {x4 : Int32} {x5 : Int32} {x6 : Int32} {x7 : Int32} {x8 : Int32} {x9 : Int32} {x10 : Int32} {x11 : Int32} {x12 : Int32} {x13 : Int32} {s0 : Int32} {M : jM} {post : Int32 → jM → Prop} (h : (if x7 < 0 then kX4_turns_240 G d x1 x2 x3 x4 x5 x6 x7 x8 x9 x10 x11 x12 x13 s0 M post else (if x5 = 0 then (if x8 ≤ s0 then kX4_turns_248 G d x1 x2 x3 x4 x5 x6 x7 x8 x9 M post else kX4_turns_240 G d x1 x2 x3 x4 x5 x6 x7 x8 x9 x10 x11 x12 x13 s0 M post) else (if s0 ≤ x8 then kX4_turns_248 G d x1 x2 x3 x4 x5 x6 x7 x8 x9 M post else kX4_turns_240 G d x1 x2 x3 x4 x5 x6 x7 x8 x9 x10 x11 x12 x13 s0 M post)))) : kX4_turns_211 G d  x1 x2 x3 x4 x5 x6 x7 x8 x9 x10 x11 x12 x13 s0 M post := by
  unfold kX4_turns_211
  refine J_istore_14 dX4_turns_211 rfl ?_
  refine J_iload_7 dX4_turns_213 ?_
  refine J_if_lt (t := 240) dX4_turns_215 (by decide) (fun c0 => ?_) (fun c0 => ?_)
  · replace h := ite_t c0 h
    exact h
  · replace h := ite_f c0 h
    refine J_iload_5 dX4_turns_218 ?_
    refine J_if_eq (t := 233) dX4_turns_220 (by decide) (fun c1 => ?_) (fun c1 => ?_)
    · replace h := ite_t c1 h
      refine J_iload_14 dX4_turns_233 ?_
      refine J_iload_8 dX4_turns_235 ?_
      refine J_icmp_ge (t := 248) dX4_turns_237 (by decide) (fun c2 => ?_) (fun c2 => ?_)
      · replace h := ite_t c2 h
        exact J_weak (lv' := [some (.ref 35), some (.int x1), some (.int x2), some (.int x3), some (.int x4), some (.int x5), some (.int x6), some (.int x7), some (.int x8), some (.int x9), none, none, none, none, none]) (And.intro rfl (And.intro rfl (And.intro rfl (And.intro rfl (And.intro rfl (And.intro rfl (And.intro rfl (And.intro rfl (And.intro rfl (And.intro rfl trivial)))))))))) h
      · replace h := ite_f c2 h
        exact h
    · replace h := ite_f c1 h
      refine J_iload_14 dX4_turns_223 ?_
      refine J_iload_8 dX4_turns_225 ?_
      refine J_icmp_le (t := 248) dX4_turns_227 (by decide) (fun c2 => ?_) (fun c2 => ?_)
      · replace h := ite_t c2 h
        exact J_weak (lv' := [some (.ref 35), some (.int x1), some (.int x2), some (.int x3), some (.int x4), some (.int x5), some (.int x6), some (.int x7), some (.int x8), some (.int x9), none, none, none, none, none]) (And.intro rfl (And.intro rfl (And.intro rfl (And.intro rfl (And.intro rfl (And.intro rfl (And.intro rfl (And.intro rfl (And.intro rfl (And.intro rfl trivial)))))))))) h
      · replace h := ite_f c2 h
        refine J_goto (t := 240) dX4_turns_230 (by decide) ?_
        exact h
theorem bX4_turns_240 {G : jGT} {d : Nat} {x1 : Int32} {x2 : Int32} {x3 : Int32} {x4 : Int32} {x5 : Int32} {x6 : Int32} {x7 : Int32} {x8 : Int32} {x9 : Int32} {x10 : Int32} {x11 : Int32} {x12 : Int32} {x13 : Int32} {x14 : Int32} {M : jM} {post : Int32 → jM → Prop} (h : kX4_turns_248 G d x1 x2 x3 x4 x5 x6 x9 x14 x9 M post) : kX4_turns_240 G d  x1 x2 x3 x4 x5 x6 x7 x8 x9 x10 x11 x12 x13 x14 M post := by
  unfold kX4_turns_240
  refine J_iload_9 dX4_turns_240 ?_
  refine J_istore_7 dX4_turns_242 rfl ?_
  refine J_iload_14 dX4_turns_244 ?_
  refine J_istore_8 dX4_turns_246 rfl ?_
  exact J_weak (lv' := [some (.ref 35), some (.int x1), some (.int x2), some (.int x3), some (.int x4), some (.int x5), some (.int x6), some (.int x9), some (.int x14), some (.int x9), none, none, none, none, none]) (And.intro rfl (And.intro rfl (And.intro rfl (And.intro rfl (And.intro rfl (And.intro rfl (And.intro rfl (And.intro rfl (And.intro rfl (And.intro rfl trivial)))))))))) h
theorem bX4_turns_248 {G : jGT} {d : Nat} {x1 : Int32} {x2 : Int32} {x3 : Int32} {x4 : Int32} {x5 : Int32} {x6 : Int32} {x7 : Int32} {x8 : Int32} {x9 : Int32} {M : jM} {post : Int32 → jM → Prop} (h : kX4_turns_63 G d x1 x2 x3 x4 x5 x6 x7 x8 (x9 + (1 : Int32)) M post) : kX4_turns_248 G d  x1 x2 x3 x4 x5 x6 x7 x8 x9 M post := by
  unfold kX4_turns_248
  refine J_iinc_9 (1 : Int32) dX4_turns_248 (by decide) rfl ?_
  refine J_goto (t := 63) dX4_turns_251 (by decide) ?_
  exact h
theorem bX4_turns_270 {G : jGT} {d : Nat} {x1 : Int32} {x2 : Int32} {x3 : Int32} {x4 : Int32} {x5 : Int32} {x6 : Int32} {x7 : Int32} {x8 : Int32} {x9 : Int32} {M : jM} {post : Int32 → jM → Prop} (h : post x8 M) : kX4_turns_270 G d  x1 x2 x3 x4 x5 x6 x7 x8 x9 M post := by
  unfold kX4_turns_270
  refine J_iload_8 dX4_turns_270 ?_
  exact K_iret dX4_turns_272 rfl h
theorem eX4_turns {G : jGT} {d : Nat} {x1 : Int32} {x2 : Int32} {x3 : Int32} {x4 : Int32} {M : jM} {post : Int32 → jM → Prop} (h : kX4_turns_0 G d  x1 x2 x3 x4 M post) : CI G (d + 1) mX4_turns [.ref 35, .int x1, .int x2, .int x3, .int x4] M post := Con_of_J ok_X4_turns 10 rfl rfl h
def kX4_shamsAhead_0 (G : jGT) (d : Nat)  (x1 : Int32) (M : jM) (post : Int32 → jM → Prop) : Prop := J G (d + 1) mX4_shamsAhead 0 [some (.ref 35), some (.int x1), none, none] [] jN jSH M jMR 0 0 0 0 (jQi post)
def kX4_shamsAhead_15 (G : jGT) (d : Nat)  (x1 : Int32) (x2 : Int32) (M : jM) (post : Int32 → jM → Prop) : Prop := J G (d + 1) mX4_shamsAhead 15 [some (.ref 35), some (.int x1), some (.int x2), none] [] jN jSH M jMR 0 0 0 0 (jQi post)
def kX4_shamsAhead_59 (G : jGT) (d : Nat)  (x1 : Int32) (x2 : Int32) (M : jM) (post : Int32 → jM → Prop) : Prop := J G (d + 1) mX4_shamsAhead 59 [some (.ref 35), some (.int x1), some (.int x2), none] [] jN jSH M jMR 0 0 0 0 (jQi post)
def kX4_shamsAhead_90 (G : jGT) (d : Nat)  (x1 : Int32) (x2 : Int32) (M : jM) (post : Int32 → jM → Prop) : Prop := J G (d + 1) mX4_shamsAhead 90 [some (.ref 35), some (.int x1), some (.int x2), none] [] jN jSH M jMR 0 0 0 0 (jQi post)
def kX4_shamsAhead_119 (G : jGT) (d : Nat)  (x1 : Int32) (x2 : Int32) (x3 : Int32) (M : jM) (post : Int32 → jM → Prop) : Prop := J G (d + 1) mX4_shamsAhead 119 [some (.ref 35), some (.int x1), some (.int x2), some (.int x3)] [] jN jSH M jMR 0 0 0 0 (jQi post)
theorem bX4_shamsAhead_0 {G : jGT} {d : Nat} {x1 : Int32} {M : jM} {post : Int32 → jM → Prop} (h : CI G d mX5_wins [.ref 27, .int x1] M (fun r1 M1 => (if r1 = 0 then kX4_shamsAhead_15 G d x1 (0 : Int32) M1 post else post (0 : Int32) M1))) : kX4_shamsAhead_0 G d  x1 M post := by
  unfold kX4_shamsAhead_0
  refine J_aload_0 dX4_shamsAhead_0 ?_
  refine J_getR 27 dX4_shamsAhead_1 fl_X4_34 jlt_35 jsh_35 (by decide) jrf_4_0 jmr_35_0 ?_
  refine J_iload_1 dX4_shamsAhead_4 ?_
  refine K_callVI (As := [.int x1]) (rest := []) dX4_shamsAhead_5 vl_X4_93 jlt_27 jsh_27 _ rfl rfl h rfl rfl (Nat.le_of_ble_eq_true rfl) (fun r1 M1 h => ?_)
  refine J_if_eq (t := 13) dX4_shamsAhead_8 (by decide) (fun c0 => ?_) (fun c0 => ?_)
  · replace h := ite_t c0 h
    refine J_iconst (0 : Int32) dX4_shamsAhead_13 (by decide) ?_
    refine J_istore_2 dX4_shamsAhead_14 rfl ?_
    exact h
  · replace h := ite_f c0 h
    refine J_iconst (0 : Int32) dX4_shamsAhead_11 (by decide) ?_
    exact K_iret dX4_shamsAhead_12 rfl h
theorem bX4_shamsAhead_15 {G : jGT} {d : Nat} {x1 : Int32} {x2 : Int32} {M : jM} {post : Int32 → jM → Prop} (h : (if (64 : Int32) ≤ x2 then kX4_shamsAhead_59 G d x1 (0 : Int32) M post else (vp_in x2 64 ∧ CV G d mX6_begin [.ref (40 + x2.toNatClampNeg), .int x2] M (fun M1 => (vp_in x2 64 ∧ CV G d mX5_follow [.ref 27, .ref (40 + x2.toNatClampNeg), .int (M1 27 6)] M1 (fun M2 => kX4_shamsAhead_15 G d x1 (x2 + (1 : Int32)) M2 post)))))) : kX4_shamsAhead_15 G d  x1 x2 M post := by
  unfold kX4_shamsAhead_15
  refine J_iload_2 dX4_shamsAhead_15 ?_
  refine J_bipush (64 : Int32) dX4_shamsAhead_16 (by decide) ?_
  refine J_icmp_ge (t := 57) dX4_shamsAhead_18 (by decide) (fun c0 => ?_) (fun c0 => ?_)
  · replace h := ite_t c0 h
    refine J_iconst (0 : Int32) dX4_shamsAhead_57 (by decide) ?_
    refine J_istore_2 dX4_shamsAhead_58 rfl ?_
    exact h
  · replace h := ite_f c0 h
    refine J_aload_0 dX4_shamsAhead_21 ?_
    refine J_getR 36 dX4_shamsAhead_22 fl_X4_11 jlt_35 jsh_35 (by decide) jrf_4_1 jmr_35_1 ?_
    refine J_iload_2 dX4_shamsAhead_25 ?_
    obtain ⟨g1, h⟩ := h
    refine J_aald (40 + x2.toNatClampNeg) dX4_shamsAhead_26 jlt_36 jsh_36 g1 (mr_36_all _ (vp_lt g1)) ?_
    refine J_iload_2 dX4_shamsAhead_27 ?_
    refine K_callVV (As := [.int x2]) (rest := []) dX4_shamsAhead_28 vl_X4_45 (jT_lt (jT_40 g1)) (jT_sh (jT_40 g1)) _ rfl rfl h rfl rfl (Nat.le_of_ble_eq_true rfl) (fun M1 h => ?_)
    refine J_aload_0 dX4_shamsAhead_31 ?_
    refine J_getR 27 dX4_shamsAhead_32 fl_X4_34 jlt_35 jsh_35 (by decide) jrf_4_0 jmr_35_0 ?_
    refine J_aload_0 dX4_shamsAhead_35 ?_
    refine J_getR 36 dX4_shamsAhead_36 fl_X4_11 jlt_35 jsh_35 (by decide) jrf_4_1 jmr_35_1 ?_
    refine J_iload_2 dX4_shamsAhead_39 ?_
    obtain ⟨g2, h⟩ := h
    refine J_aald (40 + x2.toNatClampNeg) dX4_shamsAhead_40 jlt_36 jsh_36 g2 (mr_36_all _ (vp_lt g2)) ?_
    refine J_aload_0 dX4_shamsAhead_41 ?_
    refine J_getR 27 dX4_shamsAhead_42 fl_X4_34 jlt_35 jsh_35 (by decide) jrf_4_0 jmr_35_0 ?_
    refine J_getI dX4_shamsAhead_45 fl_X4_49 jlt_27 jsh_27 (by decide) jrf_5_6 ?_
    refine K_callVV (As := [.ref (40 + x2.toNatClampNeg), .int (M1 27 6)]) (rest := []) dX4_shamsAhead_48 vl_X4_54 jlt_27 jsh_27 _ rfl rfl h rfl rfl (Nat.le_of_ble_eq_true rfl) (fun M2 h => ?_)
    refine J_iinc_2 (1 : Int32) dX4_shamsAhead_51 (by decide) rfl ?_
    refine J_goto (t := 15) dX4_shamsAhead_54 (by decide) ?_
    exact h
theorem bX4_shamsAhead_59 {G : jGT} {d : Nat} {x1 : Int32} {x2 : Int32} {M : jM} {post : Int32 → jM → Prop} (h : (if (64 : Int32) ≤ x2 then kX4_shamsAhead_90 G d x1 (0 : Int32) M post else CI G d mX4_winsBehind [.ref 35, .int x2] M (fun r1 M1 => (if r1 = 0 then kX4_shamsAhead_59 G d x1 (x2 + (1 : Int32)) M1 post else post (1 : Int32) (jup M1 39 0 x2))))) : kX4_shamsAhead_59 G d  x1 x2 M post := by
  unfold kX4_shamsAhead_59
  refine J_iload_2 dX4_shamsAhead_59 ?_
  refine J_bipush (64 : Int32) dX4_shamsAhead_60 (by decide) ?_
  refine J_icmp_ge (t := 88) dX4_shamsAhead_62 (by decide) (fun c0 => ?_) (fun c0 => ?_)
  · replace h := ite_t c0 h
    refine J_iconst (0 : Int32) dX4_shamsAhead_88 (by decide) ?_
    refine J_istore_2 dX4_shamsAhead_89 rfl ?_
    exact h
  · replace h := ite_f c0 h
    refine J_aload_0 dX4_shamsAhead_65 ?_
    refine J_iload_2 dX4_shamsAhead_66 ?_
    refine K_callVI (As := [.int x2]) (rest := []) dX4_shamsAhead_67 vl_X4_97 jlt_35 jsh_35 _ rfl rfl h rfl rfl (Nat.le_of_ble_eq_true rfl) (fun r1 M1 h => ?_)
    refine J_if_eq (t := 82) dX4_shamsAhead_70 (by decide) (fun c1 => ?_) (fun c1 => ?_)
    · replace h := ite_t c1 h
      refine J_iinc_2 (1 : Int32) dX4_shamsAhead_82 (by decide) rfl ?_
      refine J_goto (t := 59) dX4_shamsAhead_85 (by decide) ?_
      exact h
    · replace h := ite_f c1 h
      refine J_aload_0 dX4_shamsAhead_73 ?_
      refine J_getR 39 dX4_shamsAhead_74 fl_X4_24 jlt_35 jsh_35 (by decide) jrf_4_4 jmr_35_4 ?_
      refine J_iconst (0 : Int32) dX4_shamsAhead_77 (by decide) ?_
      refine J_iload_2 dX4_shamsAhead_78 ?_
      refine K_iast 0 rfl dX4_shamsAhead_79 jlt_39 jsh_39 (vp_lit (by decide)) ?_
      refine J_iconst (1 : Int32) dX4_shamsAhead_80 (by decide) ?_
      exact K_iret dX4_shamsAhead_81 rfl h
theorem bX4_shamsAhead_90 {G : jGT} {d : Nat} {x1 : Int32} {x2 : Int32} {M : jM} {post : Int32 → jM → Prop} (h : (if (64 : Int32) ≤ x2 then post (-5 : Int32) M else (vp_in x2 64 ∧ CI G d mX5_winsNow [.ref 27, .ref (40 + x2.toNatClampNeg)] M (fun r1 M1 => CV G d mX5_push [.ref 27, .int x2, .int r1] M1 (fun M2 => kX4_shamsAhead_119 G d x1 x2 (0 : Int32) M2 post))))) : kX4_shamsAhead_90 G d  x1 x2 M post := by
  unfold kX4_shamsAhead_90
  refine J_iload_2 dX4_shamsAhead_90 ?_
  refine J_bipush (64 : Int32) dX4_shamsAhead_91 (by decide) ?_
  refine J_icmp_ge (t := 168) dX4_shamsAhead_93 (by decide) (fun c0 => ?_) (fun c0 => ?_)
  · replace h := ite_t c0 h
    refine J_bipush (-5 : Int32) dX4_shamsAhead_168 (by decide) ?_
    exact K_iret dX4_shamsAhead_170 rfl h
  · replace h := ite_f c0 h
    refine J_aload_0 dX4_shamsAhead_96 ?_
    refine J_getR 27 dX4_shamsAhead_97 fl_X4_34 jlt_35 jsh_35 (by decide) jrf_4_0 jmr_35_0 ?_
    refine J_iload_2 dX4_shamsAhead_100 ?_
    refine J_aload_0 dX4_shamsAhead_101 ?_
    refine J_getR 27 dX4_shamsAhead_102 fl_X4_34 jlt_35 jsh_35 (by decide) jrf_4_0 jmr_35_0 ?_
    refine J_aload_0 dX4_shamsAhead_105 ?_
    refine J_getR 36 dX4_shamsAhead_106 fl_X4_11 jlt_35 jsh_35 (by decide) jrf_4_1 jmr_35_1 ?_
    refine J_iload_2 dX4_shamsAhead_109 ?_
    obtain ⟨g1, h⟩ := h
    refine J_aald (40 + x2.toNatClampNeg) dX4_shamsAhead_110 jlt_36 jsh_36 g1 (mr_36_all _ (vp_lt g1)) ?_
    refine K_callVI (As := [.ref (40 + x2.toNatClampNeg)]) (rest := [.int x2, .ref 27]) dX4_shamsAhead_111 vl_X4_75 jlt_27 jsh_27 _ rfl rfl h rfl rfl (Nat.le_of_ble_eq_true rfl) (fun r1 M1 h => ?_)
    refine K_callVV (As := [.int x2, .int r1]) (rest := []) dX4_shamsAhead_114 vl_X4_82 jlt_27 jsh_27 _ rfl rfl h rfl rfl (Nat.le_of_ble_eq_true rfl) (fun M2 h => ?_)
    refine J_iconst (0 : Int32) dX4_shamsAhead_117 (by decide) ?_
    refine J_istore_3 dX4_shamsAhead_118 rfl ?_
    exact h
theorem bX4_shamsAhead_119 {G : jGT} {d : Nat} {x1 : Int32} {x2 : Int32} {x3 : Int32} {M : jM} {post : Int32 → jM → Prop} (h : (if (64 : Int32) ≤ x3 then CV G d mX5_pop [.ref 27] M (fun M1 => kX4_shamsAhead_90 G d x1 (x2 + (1 : Int32)) M1 post) else CI G d mX4_winsBehind [.ref 35, .int x3] M (fun r2 M2 => (if r2 = 0 then kX4_shamsAhead_119 G d x1 x2 (x3 + (1 : Int32)) M2 post else post (2 : Int32) (jup (jup M2 39 0 x2) 39 1 x3))))) : kX4_shamsAhead_119 G d  x1 x2 x3 M post := by
  unfold kX4_shamsAhead_119
  refine J_iload_3 dX4_shamsAhead_119 ?_
  refine J_bipush (64 : Int32) dX4_shamsAhead_120 (by decide) ?_
  refine J_icmp_ge (t := 155) dX4_shamsAhead_122 (by decide) (fun c0 => ?_) (fun c0 => ?_)
  · replace h := ite_t c0 h
    refine J_aload_0 dX4_shamsAhead_155 ?_
    refine J_getR 27 dX4_shamsAhead_156 fl_X4_34 jlt_35 jsh_35 (by decide) jrf_4_0 jmr_35_0 ?_
    refine K_callVV (As := []) (rest := []) dX4_shamsAhead_159 vl_X4_86 jlt_27 jsh_27 _ rfl rfl h rfl rfl (Nat.le_of_ble_eq_true rfl) (fun M1 h => ?_)
    refine J_iinc_2 (1 : Int32) dX4_shamsAhead_162 (by decide) rfl ?_
    refine J_goto (t := 90) dX4_shamsAhead_165 (by decide) ?_
    exact J_weak (lv' := [some (.ref 35), some (.int x1), some (.int (x2 + (1 : Int32))), none]) (And.intro rfl (And.intro rfl (And.intro rfl trivial))) h
  · replace h := ite_f c0 h
    refine J_aload_0 dX4_shamsAhead_125 ?_
    refine J_iload_3 dX4_shamsAhead_126 ?_
    refine K_callVI (As := [.int x3]) (rest := []) dX4_shamsAhead_127 vl_X4_97 jlt_35 jsh_35 _ rfl rfl h rfl rfl (Nat.le_of_ble_eq_true rfl) (fun r2 M2 h => ?_)
    refine J_if_eq (t := 149) dX4_shamsAhead_130 (by decide) (fun c1 => ?_) (fun c1 => ?_)
    · replace h := ite_t c1 h
      refine J_iinc_3 (1 : Int32) dX4_shamsAhead_149 (by decide) rfl ?_
      refine J_goto (t := 119) dX4_shamsAhead_152 (by decide) ?_
      exact h
    · replace h := ite_f c1 h
      refine J_aload_0 dX4_shamsAhead_133 ?_
      refine J_getR 39 dX4_shamsAhead_134 fl_X4_24 jlt_35 jsh_35 (by decide) jrf_4_4 jmr_35_4 ?_
      refine J_iconst (0 : Int32) dX4_shamsAhead_137 (by decide) ?_
      refine J_iload_2 dX4_shamsAhead_138 ?_
      refine K_iast 0 rfl dX4_shamsAhead_139 jlt_39 jsh_39 (vp_lit (by decide)) ?_
      refine J_aload_0 dX4_shamsAhead_140 ?_
      refine J_getR 39 dX4_shamsAhead_141 fl_X4_24 jlt_35 jsh_35 (by decide) jrf_4_4 jmr_35_4 ?_
      refine J_iconst (1 : Int32) dX4_shamsAhead_144 (by decide) ?_
      refine J_iload_3 dX4_shamsAhead_145 ?_
      refine K_iast 1 rfl dX4_shamsAhead_146 jlt_39 jsh_39 (vp_lit (by decide)) ?_
      refine J_iconst (2 : Int32) dX4_shamsAhead_147 (by decide) ?_
      exact K_iret dX4_shamsAhead_148 rfl h
theorem eX4_shamsAhead {G : jGT} {d : Nat} {x1 : Int32} {M : jM} {post : Int32 → jM → Prop} (h : kX4_shamsAhead_0 G d  x1 M post) : CI G (d + 1) mX4_shamsAhead [.ref 35, .int x1] M post := Con_of_J ok_X4_shamsAhead 2 rfl rfl h
def kX4_winsBehind_0 (G : jGT) (d : Nat)  (x1 : Int32) (M : jM) (post : Int32 → jM → Prop) : Prop := J G (d + 1) mX4_winsBehind 0 [some (.ref 35), some (.int x1), none] [] jN jSH M jMR 0 0 0 0 (jQi post)
theorem bX4_winsBehind_0 {G : jGT} {d : Nat} {x1 : Int32} {M : jM} {post : Int32 → jM → Prop} (h : (if x1 < 0 then post (0 : Int32) M else (if x1 < (64 : Int32) then (vp_in x1 64 ∧ CI G d mX5_winsNow [.ref 27, .ref (40 + x1.toNatClampNeg)] M (fun r1 M1 => CV G d mX5_push [.ref 27, .int x1, .int r1] M1 (fun M2 => CI G d mX5_winsNow [.ref 27, .ref 33] M2 (fun r3 M3 => CV G d mX5_pop [.ref 27] M3 (fun M4 => ((r3 = 0 ∨ r3 = 1) ∧ post r3 M4)))))) else post (0 : Int32) M))) : kX4_winsBehind_0 G d  x1 M post := by
  unfold kX4_winsBehind_0
  refine J_iload_1 dX4_winsBehind_0 ?_
  refine J_if_lt (t := 10) dX4_winsBehind_1 (by decide) (fun c0 => ?_) (fun c0 => ?_)
  · replace h := ite_t c0 h
    refine J_iconst (0 : Int32) dX4_winsBehind_10 (by decide) ?_
    exact K_zret dX4_winsBehind_11 rfl (by decide +kernel) h
  · replace h := ite_f c0 h
    refine J_iload_1 dX4_winsBehind_4 ?_
    refine J_bipush (64 : Int32) dX4_winsBehind_5 (by decide) ?_
    refine J_icmp_lt (t := 12) dX4_winsBehind_7 (by decide) (fun c1 => ?_) (fun c1 => ?_)
    · replace h := ite_t c1 h
      refine J_aload_0 dX4_winsBehind_12 ?_
      refine J_getR 27 dX4_winsBehind_13 fl_X4_34 jlt_35 jsh_35 (by decide) jrf_4_0 jmr_35_0 ?_
      refine J_iload_1 dX4_winsBehind_16 ?_
      refine J_aload_0 dX4_winsBehind_17 ?_
      refine J_getR 27 dX4_winsBehind_18 fl_X4_34 jlt_35 jsh_35 (by decide) jrf_4_0 jmr_35_0 ?_
      refine J_aload_0 dX4_winsBehind_21 ?_
      refine J_getR 36 dX4_winsBehind_22 fl_X4_11 jlt_35 jsh_35 (by decide) jrf_4_1 jmr_35_1 ?_
      refine J_iload_1 dX4_winsBehind_25 ?_
      obtain ⟨g2, h⟩ := h
      refine J_aald (40 + x1.toNatClampNeg) dX4_winsBehind_26 jlt_36 jsh_36 g2 (mr_36_all _ (vp_lt g2)) ?_
      refine K_callVI (As := [.ref (40 + x1.toNatClampNeg)]) (rest := [.int x1, .ref 27]) dX4_winsBehind_27 vl_X4_75 jlt_27 jsh_27 _ rfl rfl h rfl rfl (Nat.le_of_ble_eq_true rfl) (fun r1 M1 h => ?_)
      refine K_callVV (As := [.int x1, .int r1]) (rest := []) dX4_winsBehind_30 vl_X4_82 jlt_27 jsh_27 _ rfl rfl h rfl rfl (Nat.le_of_ble_eq_true rfl) (fun M2 h => ?_)
      refine J_aload_0 dX4_winsBehind_33 ?_
      refine J_getR 27 dX4_winsBehind_34 fl_X4_34 jlt_35 jsh_35 (by decide) jrf_4_0 jmr_35_0 ?_
      refine J_aload_0 dX4_winsBehind_37 ?_
      refine J_getR 27 dX4_winsBehind_38 fl_X4_34 jlt_35 jsh_35 (by decide) jrf_4_0 jmr_35_0 ?_
      refine J_getR 33 dX4_winsBehind_41 fl_X4_100 jlt_27 jsh_27 (by decide) jrf_5_9 jmr_27_9 ?_
      refine K_callVI (As := [.ref 33]) (rest := []) dX4_winsBehind_44 vl_X4_75 jlt_27 jsh_27 _ rfl rfl h rfl rfl (Nat.le_of_ble_eq_true rfl) (fun r3 M3 h => ?_)
      refine J_istore_2 dX4_winsBehind_47 rfl ?_
      refine J_aload_0 dX4_winsBehind_48 ?_
      refine J_getR 27 dX4_winsBehind_49 fl_X4_34 jlt_35 jsh_35 (by decide) jrf_4_0 jmr_35_0 ?_
      refine K_callVV (As := []) (rest := []) dX4_winsBehind_52 vl_X4_86 jlt_27 jsh_27 _ rfl rfl h rfl rfl (Nat.le_of_ble_eq_true rfl) (fun M4 h => ?_)
      refine J_iload_2 dX4_winsBehind_55 ?_
      exact K_zret dX4_winsBehind_56 rfl (nz h.1) h.2
    · replace h := ite_f c1 h
      refine J_iconst (0 : Int32) dX4_winsBehind_10 (by decide) ?_
      exact K_zret dX4_winsBehind_11 rfl (by decide +kernel) h
theorem eX4_winsBehind {G : jGT} {d : Nat} {x1 : Int32} {M : jM} {post : Int32 → jM → Prop} (h : kX4_winsBehind_0 G d  x1 M post) : CI G (d + 1) mX4_winsBehind [.ref 35, .int x1] M post := Con_of_J ok_X4_winsBehind 1 rfl rfl h
