def kX0_fall_0 (G : jGT) (d : Nat)   (M : jM) (post : jM → Prop) : Prop := J G (d + 1) mX0_fall 0 [some (.ref 104), some (.ref 1), none, none] [] jN jSH M jMR 0 0 0 0 (jQv post)
def kX0_fall_12 (G : jGT) (d : Nat)  (x2 : Int32) (x3 : Int32) (M : jM) (post : jM → Prop) : Prop := J G (d + 1) mX0_fall 12 [some (.ref 104), some (.ref 1), some (.int x2), some (.int x3)] [] jN jSH M jMR 0 0 0 0 (jQv post)
theorem bX0_fall_0 {G : jGT} {d : Nat}  {M : jM} {post : jM → Prop} (h : kX0_fall_12 G d (if (8 : Int32) < M 1 10 then (8 : Int32) else M 1 10) (0 : Int32) M post) : kX0_fall_0 G d   M post := by
  unfold kX0_fall_0
  refine J_aload_1 dX0_fall_0 ?_
  refine J_getI dX0_fall_1 fl_X0_26 jlt_1 jsh_1 (by decide) jrf_2_10 ?_
  refine J_bipush (8 : Int32) dX0_fall_4 (by decide) ?_
  refine J_mmin dX0_fall_6 w_828 (by omega) (by decide) ?_
  refine J_istore_2 dX0_fall_9 rfl ?_
  refine J_iconst (0 : Int32) dX0_fall_10 (by decide) ?_
  refine J_istore_3 dX0_fall_11 rfl ?_
  exact h
theorem bX0_fall_12 {G : jGT} {d : Nat} {x2 : Int32} {x3 : Int32} {M : jM} {post : jM → Prop} (h : (if x2 ≤ x3 then CV G d mX0_come [.ref 104, .int (0 : Int32), .int x2, .int (256 : Int32)] M (fun M1 => post M1) else (vp_in x3 8 ∧ (vp_in x3 8 ∧ (vp_in x3 8 ∧ CI G d mX2_pointsOf [.ref 1, .int (M 8 x3.toNatClampNeg)] (jup M 106 x3.toNatClampNeg (0 : Int32)) (fun r2 M2 => CV G d mX6_begin [.ref (107 + x3.toNatClampNeg), .int r2] M2 (fun M3 => (vp_in x3 8 ∧ CV G d mX5_follow [.ref 27, .ref (107 + x3.toNatClampNeg), .int (M3 27 6)] M3 (fun M4 => kX0_fall_12 G d x2 (x3 + (1 : Int32)) M4 post))))))))) : kX0_fall_12 G d  x2 x3 M post := by
  unfold kX0_fall_12
  refine J_iload_3 dX0_fall_12 ?_
  refine J_iload_2 dX0_fall_13 ?_
  refine J_icmp_ge (t := 69) dX0_fall_14 (by decide) (fun c0 => ?_) (fun c0 => ?_)
  · replace h := ite_t c0 h
    refine J_aload_0 dX0_fall_69 ?_
    refine J_iconst (0 : Int32) dX0_fall_70 (by decide) ?_
    refine J_iload_2 dX0_fall_71 ?_
    refine J_sipush (256 : Int32) dX0_fall_72 (by decide) ?_
    refine K_callVV (As := [.int (0 : Int32), .int x2, .int (256 : Int32)]) (rest := []) dX0_fall_75 vl_X0_58 jlt_104 jsh_104 _ rfl rfl h rfl rfl (Nat.le_of_ble_eq_true rfl) (fun M1 h => ?_)
    exact K_ret dX0_fall_78 rfl h
  · replace h := ite_f c0 h
    refine J_aload_0 dX0_fall_17 ?_
    refine J_getR 106 dX0_fall_18 fl_X0_17 jlt_104 jsh_104 (by decide) jrf_0_2 jmr_104_2 ?_
    refine J_iload_3 dX0_fall_21 ?_
    refine J_iconst (0 : Int32) dX0_fall_22 (by decide) ?_
    obtain ⟨g1, h⟩ := h
    refine K_iast x3.toNatClampNeg rfl dX0_fall_23 jlt_106 jsh_106 g1 ?_
    refine J_aload_0 dX0_fall_24 ?_
    refine J_getR 105 dX0_fall_25 fl_X0_11 jlt_104 jsh_104 (by decide) jrf_0_1 jmr_104_1 ?_
    refine J_iload_3 dX0_fall_28 ?_
    obtain ⟨g2, h⟩ := h
    refine J_aald (107 + x3.toNatClampNeg) dX0_fall_29 jlt_105 jsh_105 g2 (mr_105_all _ (vp_lt g2)) ?_
    refine J_aload_1 dX0_fall_30 ?_
    refine J_aload_1 dX0_fall_31 ?_
    refine J_getR 8 dX0_fall_32 fl_X0_38 jlt_1 jsh_1 (by decide) jrf_2_11 jmr_1_11 ?_
    refine J_iload_3 dX0_fall_35 ?_
    obtain ⟨g3, h⟩ := h
    refine K_iald x3.toNatClampNeg rfl dX0_fall_36 jlt_8 jsh_8 g3 ?_
    refine K_callVI (As := [.int (M 8 x3.toNatClampNeg)]) (rest := [.ref (107 + x3.toNatClampNeg)]) dX0_fall_37 vl_X0_41 jlt_1 jsh_1 _ rfl rfl h rfl rfl (Nat.le_of_ble_eq_true rfl) (fun r2 M2 h => ?_)
    refine K_callVV (As := [.int r2]) (rest := []) dX0_fall_40 vl_X0_45 (jT_lt (jT_107 g2)) (jT_sh (jT_107 g2)) _ rfl rfl h rfl rfl (Nat.le_of_ble_eq_true rfl) (fun M3 h => ?_)
    refine J_aload_0 dX0_fall_43 ?_
    refine J_getR 27 dX0_fall_44 fl_X0_21 jlt_104 jsh_104 (by decide) jrf_0_0 jmr_104_0 ?_
    refine J_aload_0 dX0_fall_47 ?_
    refine J_getR 105 dX0_fall_48 fl_X0_11 jlt_104 jsh_104 (by decide) jrf_0_1 jmr_104_1 ?_
    refine J_iload_3 dX0_fall_51 ?_
    obtain ⟨g4, h⟩ := h
    refine J_aald (107 + x3.toNatClampNeg) dX0_fall_52 jlt_105 jsh_105 g4 (mr_105_all _ (vp_lt g4)) ?_
    refine J_aload_0 dX0_fall_53 ?_
    refine J_getR 27 dX0_fall_54 fl_X0_21 jlt_104 jsh_104 (by decide) jrf_0_0 jmr_104_0 ?_
    refine J_getI dX0_fall_57 fl_X0_49 jlt_27 jsh_27 (by decide) jrf_5_6 ?_
    refine K_callVV (As := [.ref (107 + x3.toNatClampNeg), .int (M3 27 6)]) (rest := []) dX0_fall_60 vl_X0_54 jlt_27 jsh_27 _ rfl rfl h rfl rfl (Nat.le_of_ble_eq_true rfl) (fun M4 h => ?_)
    refine J_iinc_3 (1 : Int32) dX0_fall_63 (by decide) rfl ?_
    refine J_goto (t := 12) dX0_fall_66 (by decide) ?_
    exact h
theorem eX0_fall {G : jGT} {d : Nat}  {M : jM} {post : jM → Prop} (h : kX0_fall_0 G d   M post) : CV G (d + 1) mX0_fall [.ref 104, .ref 1] M post := Con_of_J ok_X0_fall 2 rfl rfl h
def kX0_come_0 (G : jGT) (d : Nat)  (x1 : Int32) (x2 : Int32) (x3 : Int32) (M : jM) (post : jM → Prop) : Prop := J G (d + 1) mX0_come 0 [some (.ref 104), some (.int x1), some (.int x2), some (.int x3), none] [] jN jSH M jMR 0 0 0 0 (jQv post)
theorem bX0_come_0 {G : jGT} {d : Nat} {x1 : Int32} {x2 : Int32} {x3 : Int32} {M : jM} {post : jM → Prop} (h : (if x1 < 0 then post M else (if x2 ≤ x1 then post M else (if x1 < (8 : Int32) then (vp_in x1 8 ∧ CR G d mX5_now [.ref 27, .ref (107 + x1.toNatClampNeg)] M (fun r1 M1 => (jT r1 ∧ CI G d mX5_isOpen [.ref 27, .ref r1] M1 (fun r2 M2 => (if r2 = 0 then CI G d mX5_isFor [.ref 27, .ref r1] M2 (fun r3 M3 => CV G d mX0_settle [.ref 104, .int x1, .int x2, .int x3, .int r3] M3 (fun M4 => post M4)) else CV G d mX0_settle [.ref 104, .int x1, .int x2, .int (x3 / (2 : Int32)), .int (1 : Int32)] M2 (fun M5 => CV G d mX0_settle [.ref 104, .int x1, .int x2, .int (x3 / (2 : Int32)), .int (0 : Int32)] M5 (fun M6 => post M6))))))) else post M)))) : kX0_come_0 G d  x1 x2 x3 M post := by
  unfold kX0_come_0
  refine J_iload_1 dX0_come_0 ?_
  refine J_if_lt (t := 15) dX0_come_1 (by decide) (fun c0 => ?_) (fun c0 => ?_)
  · replace h := ite_t c0 h
    exact K_ret dX0_come_15 rfl h
  · replace h := ite_f c0 h
    refine J_iload_1 dX0_come_4 ?_
    refine J_iload_2 dX0_come_5 ?_
    refine J_icmp_ge (t := 15) dX0_come_6 (by decide) (fun c1 => ?_) (fun c1 => ?_)
    · replace h := ite_t c1 h
      exact K_ret dX0_come_15 rfl h
    · replace h := ite_f c1 h
      refine J_iload_1 dX0_come_9 ?_
      refine J_bipush (8 : Int32) dX0_come_10 (by decide) ?_
      refine J_icmp_lt (t := 16) dX0_come_12 (by decide) (fun c2 => ?_) (fun c2 => ?_)
      · replace h := ite_t c2 h
        refine J_aload_0 dX0_come_16 ?_
        refine J_getR 27 dX0_come_17 fl_X0_21 jlt_104 jsh_104 (by decide) jrf_0_0 jmr_104_0 ?_
        refine J_aload_0 dX0_come_20 ?_
        refine J_getR 105 dX0_come_21 fl_X0_11 jlt_104 jsh_104 (by decide) jrf_0_1 jmr_104_1 ?_
        refine J_iload_1 dX0_come_24 ?_
        obtain ⟨g3, h⟩ := h
        refine J_aald (107 + x1.toNatClampNeg) dX0_come_25 jlt_105 jsh_105 g3 (mr_105_all _ (vp_lt g3)) ?_
        refine K_callVR (As := [.ref (107 + x1.toNatClampNeg)]) (rest := []) dX0_come_26 vl_X0_62 jlt_27 jsh_27 _ rfl rfl h rfl rfl (Nat.le_of_ble_eq_true rfl) (fun r1 M1 h => ?_)
        obtain ⟨hr1, h⟩ := h
        refine J_astore_4 dX0_come_29 rfl ?_
        refine J_aload_0 dX0_come_31 ?_
        refine J_getR 27 dX0_come_32 fl_X0_21 jlt_104 jsh_104 (by decide) jrf_0_0 jmr_104_0 ?_
        refine J_aload_4 dX0_come_35 ?_
        refine K_callVI (As := [.ref r1]) (rest := []) dX0_come_37 vl_X0_66 jlt_27 jsh_27 _ rfl rfl h rfl rfl (Nat.le_of_ble_eq_true rfl) (fun r2 M2 h => ?_)
        refine J_if_eq (t := 66) dX0_come_40 (by decide) (fun c4 => ?_) (fun c4 => ?_)
        · replace h := ite_t c4 h
          refine J_aload_0 dX0_come_66 ?_
          refine J_iload_1 dX0_come_67 ?_
          refine J_iload_2 dX0_come_68 ?_
          refine J_iload_3 dX0_come_69 ?_
          refine J_aload_0 dX0_come_70 ?_
          refine J_getR 27 dX0_come_71 fl_X0_21 jlt_104 jsh_104 (by decide) jrf_0_0 jmr_104_0 ?_
          refine J_aload_4 dX0_come_74 ?_
          refine K_callVI (As := [.ref r1]) (rest := [.int x3, .int x2, .int x1, .ref 104]) dX0_come_76 vl_X0_74 jlt_27 jsh_27 _ rfl rfl h rfl rfl (Nat.le_of_ble_eq_true rfl) (fun r3 M3 h => ?_)
          refine K_callVV (As := [.int x1, .int x2, .int x3, .int r3]) (rest := []) dX0_come_79 vl_X0_70 jlt_104 jsh_104 _ rfl rfl h rfl rfl (Nat.le_of_ble_eq_true rfl) (fun M4 h => ?_)
          exact K_ret dX0_come_82 rfl h
        · replace h := ite_f c4 h
          refine J_aload_0 dX0_come_43 ?_
          refine J_iload_1 dX0_come_44 ?_
          refine J_iload_2 dX0_come_45 ?_
          refine J_iload_3 dX0_come_46 ?_
          refine J_iconst (2 : Int32) dX0_come_47 (by decide) ?_
          refine J_idiv dX0_come_48 (by decide) ?_
          refine J_iconst (1 : Int32) dX0_come_49 (by decide) ?_
          refine K_callVV (As := [.int x1, .int x2, .int (x3 / (2 : Int32)), .int (1 : Int32)]) (rest := []) dX0_come_50 vl_X0_70 jlt_104 jsh_104 _ rfl rfl h rfl rfl (Nat.le_of_ble_eq_true rfl) (fun M5 h => ?_)
          refine J_aload_0 dX0_come_53 ?_
          refine J_iload_1 dX0_come_54 ?_
          refine J_iload_2 dX0_come_55 ?_
          refine J_iload_3 dX0_come_56 ?_
          refine J_iconst (2 : Int32) dX0_come_57 (by decide) ?_
          refine J_idiv dX0_come_58 (by decide) ?_
          refine J_iconst (0 : Int32) dX0_come_59 (by decide) ?_
          refine K_callVV (As := [.int x1, .int x2, .int (x3 / (2 : Int32)), .int (0 : Int32)]) (rest := []) dX0_come_60 vl_X0_70 jlt_104 jsh_104 _ rfl rfl h rfl rfl (Nat.le_of_ble_eq_true rfl) (fun M6 h => ?_)
          refine J_goto (t := 82) dX0_come_63 (by decide) ?_
          exact K_ret dX0_come_82 rfl h
      · replace h := ite_f c2 h
        exact K_ret dX0_come_15 rfl h
theorem eX0_come {G : jGT} {d : Nat} {x1 : Int32} {x2 : Int32} {x3 : Int32} {M : jM} {post : jM → Prop} (h : kX0_come_0 G d  x1 x2 x3 M post) : CV G (d + 1) mX0_come [.ref 104, .int x1, .int x2, .int x3] M post := Con_of_J ok_X0_come 1 rfl rfl h
def kX0_settle_0 (G : jGT) (d : Nat)  (x1 : Int32) (x2 : Int32) (x3 : Int32) (x4 : Int32) (M : jM) (post : jM → Prop) : Prop := J G (d + 1) mX0_settle 0 [some (.ref 104), some (.int x1), some (.int x2), some (.int x3), some (.int x4)] [] jN jSH M jMR 0 0 0 0 (jQv post)
theorem bX0_settle_0 {G : jGT} {d : Nat} {x1 : Int32} {x2 : Int32} {x3 : Int32} {x4 : Int32} {M : jM} {post : jM → Prop} (h : (if x4 = 0 then (vp_in x1 8 ∧ CV G d mX5_push [.ref 27, .int (M (107 + x1.toNatClampNeg) 0), .int x4] M (fun M1 => CV G d mX0_come [.ref 104, .int (x1 + (1 : Int32)), .int x2, .int x3] M1 (fun M2 => CV G d mX5_pop [.ref 27] M2 (fun M3 => post M3)))) else (vp_in x1 8 ∧ (vp_in x1 8 ∧ (vp_in x1 8 ∧ CV G d mX5_push [.ref 27, .int ((jup M 106 x1.toNatClampNeg ((M 106 x1.toNatClampNeg) + x3)) (107 + x1.toNatClampNeg) 0), .int x4] (jup M 106 x1.toNatClampNeg ((M 106 x1.toNatClampNeg) + x3)) (fun M4 => CV G d mX0_come [.ref 104, .int (x1 + (1 : Int32)), .int x2, .int x3] M4 (fun M5 => CV G d mX5_pop [.ref 27] M5 (fun M6 => post M6)))))))) : kX0_settle_0 G d  x1 x2 x3 x4 M post := by
  unfold kX0_settle_0
  refine J_iload_4 dX0_settle_0 ?_
  refine J_if_eq (t := 15) dX0_settle_2 (by decide) (fun c0 => ?_) (fun c0 => ?_)
  · replace h := ite_t c0 h
    refine J_aload_0 dX0_settle_15 ?_
    refine J_getR 27 dX0_settle_16 fl_X0_21 jlt_104 jsh_104 (by decide) jrf_0_0 jmr_104_0 ?_
    refine J_aload_0 dX0_settle_19 ?_
    refine J_getR 105 dX0_settle_20 fl_X0_11 jlt_104 jsh_104 (by decide) jrf_0_1 jmr_104_1 ?_
    refine J_iload_1 dX0_settle_23 ?_
    obtain ⟨g1, h⟩ := h
    refine J_aald (107 + x1.toNatClampNeg) dX0_settle_24 jlt_105 jsh_105 g1 (mr_105_all _ (vp_lt g1)) ?_
    refine J_getI dX0_settle_25 fl_X0_77 (jT_lt (jT_107 g1)) (jT_sh (jT_107 g1)) (by decide) jrf_6_0 ?_
    refine J_iload_4 dX0_settle_28 ?_
    refine K_callVV (As := [.int (M (107 + x1.toNatClampNeg) 0), .int x4]) (rest := []) dX0_settle_30 vl_X0_80 jlt_27 jsh_27 _ rfl rfl h rfl rfl (Nat.le_of_ble_eq_true rfl) (fun M1 h => ?_)
    refine J_aload_0 dX0_settle_33 ?_
    refine J_iload_1 dX0_settle_34 ?_
    refine J_iconst (1 : Int32) dX0_settle_35 (by decide) ?_
    refine J_iadd dX0_settle_36 ?_
    refine J_iload_2 dX0_settle_37 ?_
    refine J_iload_3 dX0_settle_38 ?_
    refine K_callVV (As := [.int (x1 + (1 : Int32)), .int x2, .int x3]) (rest := []) dX0_settle_39 vl_X0_58 jlt_104 jsh_104 _ rfl rfl h rfl rfl (Nat.le_of_ble_eq_true rfl) (fun M2 h => ?_)
    refine J_aload_0 dX0_settle_42 ?_
    refine J_getR 27 dX0_settle_43 fl_X0_21 jlt_104 jsh_104 (by decide) jrf_0_0 jmr_104_0 ?_
    refine K_callVV (As := []) (rest := []) dX0_settle_46 vl_X0_84 jlt_27 jsh_27 _ rfl rfl h rfl rfl (Nat.le_of_ble_eq_true rfl) (fun M3 h => ?_)
    exact K_ret dX0_settle_49 rfl h
  · replace h := ite_f c0 h
    refine J_aload_0 dX0_settle_5 ?_
    refine J_getR 106 dX0_settle_6 fl_X0_17 jlt_104 jsh_104 (by decide) jrf_0_2 jmr_104_2 ?_
    refine J_iload_1 dX0_settle_9 ?_
    refine J_dup2 dX0_settle_10 rfl rfl ?_
    obtain ⟨g1, h⟩ := h
    refine K_iald x1.toNatClampNeg rfl dX0_settle_11 jlt_106 jsh_106 g1 ?_
    refine J_iload_3 dX0_settle_12 ?_
    refine J_iadd dX0_settle_13 ?_
    obtain ⟨g2, h⟩ := h
    refine K_iast x1.toNatClampNeg rfl dX0_settle_14 jlt_106 jsh_106 g2 ?_
    refine J_aload_0 dX0_settle_15 ?_
    refine J_getR 27 dX0_settle_16 fl_X0_21 jlt_104 jsh_104 (by decide) jrf_0_0 jmr_104_0 ?_
    refine J_aload_0 dX0_settle_19 ?_
    refine J_getR 105 dX0_settle_20 fl_X0_11 jlt_104 jsh_104 (by decide) jrf_0_1 jmr_104_1 ?_
    refine J_iload_1 dX0_settle_23 ?_
    obtain ⟨g3, h⟩ := h
    refine J_aald (107 + x1.toNatClampNeg) dX0_settle_24 jlt_105 jsh_105 g3 (mr_105_all _ (vp_lt g3)) ?_
    refine J_getI dX0_settle_25 fl_X0_77 (jT_lt (jT_107 g3)) (jT_sh (jT_107 g3)) (by decide) jrf_6_0 ?_
    refine J_iload_4 dX0_settle_28 ?_
    refine K_callVV (As := [.int ((jup M 106 x1.toNatClampNeg ((M 106 x1.toNatClampNeg) + x3)) (107 + x1.toNatClampNeg) 0), .int x4]) (rest := []) dX0_settle_30 vl_X0_80 jlt_27 jsh_27 _ rfl rfl h rfl rfl (Nat.le_of_ble_eq_true rfl) (fun M4 h => ?_)
    refine J_aload_0 dX0_settle_33 ?_
    refine J_iload_1 dX0_settle_34 ?_
    refine J_iconst (1 : Int32) dX0_settle_35 (by decide) ?_
    refine J_iadd dX0_settle_36 ?_
    refine J_iload_2 dX0_settle_37 ?_
    refine J_iload_3 dX0_settle_38 ?_
    refine K_callVV (As := [.int (x1 + (1 : Int32)), .int x2, .int x3]) (rest := []) dX0_settle_39 vl_X0_58 jlt_104 jsh_104 _ rfl rfl h rfl rfl (Nat.le_of_ble_eq_true rfl) (fun M5 h => ?_)
    refine J_aload_0 dX0_settle_42 ?_
    refine J_getR 27 dX0_settle_43 fl_X0_21 jlt_104 jsh_104 (by decide) jrf_0_0 jmr_104_0 ?_
    refine K_callVV (As := []) (rest := []) dX0_settle_46 vl_X0_84 jlt_27 jsh_27 _ rfl rfl h rfl rfl (Nat.le_of_ble_eq_true rfl) (fun M6 h => ?_)
    exact K_ret dX0_settle_49 rfl h
theorem eX0_settle {G : jGT} {d : Nat} {x1 : Int32} {x2 : Int32} {x3 : Int32} {x4 : Int32} {M : jM} {post : jM → Prop} (h : kX0_settle_0 G d  x1 x2 x3 x4 M post) : CV G (d + 1) mX0_settle [.ref 104, .int x1, .int x2, .int x3, .int x4] M post := Con_of_J ok_X0_settle 0 rfl rfl h
def kX0_part_0 (G : jGT) (d : Nat)  (x0 : Int32) (x1 : Int32) (M : jM) (post : Int64 → jM → Prop) : Prop := J G d mX0_part 0 [some (.int x0), some (.int x1), none, none, none] [] jN jSH M jMR 0 0 0 0 (jQl post)
def kX0_part_9 (G : jGT) (d : Nat)  (x0 : Int32) (x1 : Int32) (x2 : Int32) (x3 : Int32) (x4 : Int32) (M : jM) (post : Int64 → jM → Prop) : Prop := J G d mX0_part 9 [some (.int x0), some (.int x1), some (.int x2), some (.int x3), some (.int x4)] [] jN jSH M jMR 0 0 0 0 (jQl post)
theorem bX0_part_0 {G : jGT} {d : Nat} {x0 : Int32} {x1 : Int32} {M : jM} {post : Int64 → jM → Prop} (h : kX0_part_9 G d x0 x1 x0 (256 : Int32) (0 : Int32) M post) : kX0_part_0 G d  x0 x1 M post := by
  unfold kX0_part_0
  refine J_iload_0 dX0_part_0 ?_
  refine J_istore_2 dX0_part_1 rfl ?_
  refine J_sipush (256 : Int32) dX0_part_2 (by decide) ?_
  refine J_istore_3 dX0_part_5 rfl ?_
  refine J_iconst (0 : Int32) dX0_part_6 (by decide) ?_
  refine J_istore_4 dX0_part_7 rfl ?_
  exact h
theorem bX0_part_9 {G : jGT} {d : Nat} {x0 : Int32} {x1 : Int32} {x2 : Int32} {x3 : Int32} {x4 : Int32} {M : jM} {post : Int64 → jM → Prop} (h : (if (8 : Int32) ≤ x4 then (if x1 = 0 then post x2.toInt64 M else post x3.toInt64 M) else (if (x2 &&& (1 : Int32)) = 0 then kX0_part_9 G d x0 x1 (x2 >>> ((1 : Int32) &&& 31)) (x3 >>> ((1 : Int32) &&& 31)) (x4 + (1 : Int32)) M post else (if x1 = 0 then post x2.toInt64 M else post x3.toInt64 M)))) : kX0_part_9 G d  x0 x1 x2 x3 x4 M post := by
  unfold kX0_part_9
  refine J_iload_4 dX0_part_9 ?_
  refine J_bipush (8 : Int32) dX0_part_11 (by decide) ?_
  refine J_icmp_ge (t := 36) dX0_part_13 (by decide) (fun c0 => ?_) (fun c0 => ?_)
  · replace h := ite_t c0 h
    refine J_iload_1 dX0_part_36 ?_
    refine J_if_ne (t := 45) dX0_part_37 (by decide) (fun c1 => ?_) (fun c1 => ?_)
    · replace h := ite_f c1 h
      refine J_iload_3 dX0_part_45 ?_
      refine J_i2l dX0_part_46 ?_
      exact K_lret dX0_part_47 rfl h
    · replace h := ite_t c1 h
      refine J_iload_2 dX0_part_40 ?_
      refine J_i2l dX0_part_41 ?_
      refine J_goto (t := 47) dX0_part_42 (by decide) ?_
      exact K_lret dX0_part_47 rfl h
  · replace h := ite_f c0 h
    refine J_iload_2 dX0_part_16 ?_
    refine J_iconst (1 : Int32) dX0_part_17 (by decide) ?_
    refine J_iand dX0_part_18 ?_
    refine J_if_ne (t := 36) dX0_part_19 (by decide) (fun c1 => ?_) (fun c1 => ?_)
    · replace h := ite_f c1 h
      refine J_iload_1 dX0_part_36 ?_
      refine J_if_ne (t := 45) dX0_part_37 (by decide) (fun c2 => ?_) (fun c2 => ?_)
      · replace h := ite_f c2 h
        refine J_iload_3 dX0_part_45 ?_
        refine J_i2l dX0_part_46 ?_
        exact K_lret dX0_part_47 rfl h
      · replace h := ite_t c2 h
        refine J_iload_2 dX0_part_40 ?_
        refine J_i2l dX0_part_41 ?_
        refine J_goto (t := 47) dX0_part_42 (by decide) ?_
        exact K_lret dX0_part_47 rfl h
    · replace h := ite_t c1 h
      refine J_iload_2 dX0_part_22 ?_
      refine J_iconst (1 : Int32) dX0_part_23 (by decide) ?_
      refine J_ishr dX0_part_24 ?_
      refine J_istore_2 dX0_part_25 rfl ?_
      refine J_iload_3 dX0_part_26 ?_
      refine J_iconst (1 : Int32) dX0_part_27 (by decide) ?_
      refine J_ishr dX0_part_28 ?_
      refine J_istore_3 dX0_part_29 rfl ?_
      refine J_iinc_4 (1 : Int32) dX0_part_30 (by decide) rfl ?_
      refine J_goto (t := 9) dX0_part_33 (by decide) ?_
      exact h
theorem eX0_part {G : jGT} {d : Nat} {x0 : Int32} {x1 : Int32} {M : jM} {post : Int64 → jM → Prop} (h : kX0_part_0 G d  x0 x1 M post) : CL G d mX0_part [.int x0, .int x1] M post := Con_of_J ok_X0_part 3 rfl rfl h
