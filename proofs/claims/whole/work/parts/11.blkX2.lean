def kX2_hasSuit_0 (G : jGT) (d : Nat)  (x1 : Int32) (M : jM) (post : Int32 → jM → Prop) : Prop := J G d mX2_hasSuit 0 [some (.ref 1), some (.int x1)] [] jN jSH M jMR 0 0 0 0 (jQi post)
theorem bX2_hasSuit_0 {G : jGT} {d : Nat} {x1 : Int32} {M : jM} {post : Int32 → jM → Prop} (h : (if x1 < 0 then post (0 : Int32) M else (if (M 1 1) ≤ x1 then post (0 : Int32) M else (if (8 : Int32) ≤ x1 then post (0 : Int32) M else post (1 : Int32) M)))) : kX2_hasSuit_0 G d  x1 M post := by
  unfold kX2_hasSuit_0
  refine J_iload_1 dX2_hasSuit_0 ?_
  refine J_if_lt (t := 22) dX2_hasSuit_1 (by decide) (fun c0 => ?_) (fun c0 => ?_)
  · replace h := ite_t c0 h
    refine J_iconst (0 : Int32) dX2_hasSuit_22 (by decide) ?_
    exact K_zret dX2_hasSuit_23 rfl (by decide +kernel) h
  · replace h := ite_f c0 h
    refine J_iload_1 dX2_hasSuit_4 ?_
    refine J_aload_0 dX2_hasSuit_5 ?_
    refine J_getI dX2_hasSuit_6 fl_X2_15 jlt_1 jsh_1 (by decide) jrf_2_1 ?_
    refine J_icmp_ge (t := 22) dX2_hasSuit_9 (by decide) (fun c1 => ?_) (fun c1 => ?_)
    · replace h := ite_t c1 h
      refine J_iconst (0 : Int32) dX2_hasSuit_22 (by decide) ?_
      exact K_zret dX2_hasSuit_23 rfl (by decide +kernel) h
    · replace h := ite_f c1 h
      refine J_iload_1 dX2_hasSuit_12 ?_
      refine J_bipush (8 : Int32) dX2_hasSuit_13 (by decide) ?_
      refine J_icmp_ge (t := 22) dX2_hasSuit_15 (by decide) (fun c2 => ?_) (fun c2 => ?_)
      · replace h := ite_t c2 h
        refine J_iconst (0 : Int32) dX2_hasSuit_22 (by decide) ?_
        exact K_zret dX2_hasSuit_23 rfl (by decide +kernel) h
      · replace h := ite_f c2 h
        refine J_iconst (1 : Int32) dX2_hasSuit_18 (by decide) ?_
        refine J_goto (t := 23) dX2_hasSuit_19 (by decide) ?_
        exact K_zret dX2_hasSuit_23 rfl (by decide +kernel) h
theorem eX2_hasSuit {G : jGT} {d : Nat} {x1 : Int32} {M : jM} {post : Int32 → jM → Prop} (h : kX2_hasSuit_0 G d  x1 M post) : CI G d mX2_hasSuit [.ref 1, .int x1] M post := Con_of_J ok_X2_hasSuit 0 rfl rfl h
def kX2_hasSuits_0 (G : jGT) (d : Nat)  (x1 : Int32) (M : jM) (post : Int32 → jM → Prop) : Prop := J G d mX2_hasSuits 0 [some (.ref 1), some (.int x1)] [] jN jSH M jMR 0 0 0 0 (jQi post)
theorem bX2_hasSuits_0 {G : jGT} {d : Nat} {x1 : Int32} {M : jM} {post : Int32 → jM → Prop} (h : (if x1 < 0 then post (0 : Int32) M else (if ((1 : Int32) <<< ((M 1 1) &&& 31)) ≤ x1 then post (0 : Int32) M else post (1 : Int32) M))) : kX2_hasSuits_0 G d  x1 M post := by
  unfold kX2_hasSuits_0
  refine J_iload_1 dX2_hasSuits_0 ?_
  refine J_if_lt (t := 18) dX2_hasSuits_1 (by decide) (fun c0 => ?_) (fun c0 => ?_)
  · replace h := ite_t c0 h
    refine J_iconst (0 : Int32) dX2_hasSuits_18 (by decide) ?_
    exact K_zret dX2_hasSuits_19 rfl (by decide +kernel) h
  · replace h := ite_f c0 h
    refine J_iload_1 dX2_hasSuits_4 ?_
    refine J_iconst (1 : Int32) dX2_hasSuits_5 (by decide) ?_
    refine J_aload_0 dX2_hasSuits_6 ?_
    refine J_getI dX2_hasSuits_7 fl_X2_15 jlt_1 jsh_1 (by decide) jrf_2_1 ?_
    refine J_ishl dX2_hasSuits_10 ?_
    refine J_icmp_ge (t := 18) dX2_hasSuits_11 (by decide) (fun c1 => ?_) (fun c1 => ?_)
    · replace h := ite_t c1 h
      refine J_iconst (0 : Int32) dX2_hasSuits_18 (by decide) ?_
      exact K_zret dX2_hasSuits_19 rfl (by decide +kernel) h
    · replace h := ite_f c1 h
      refine J_iconst (1 : Int32) dX2_hasSuits_14 (by decide) ?_
      refine J_goto (t := 19) dX2_hasSuits_15 (by decide) ?_
      exact K_zret dX2_hasSuits_19 rfl (by decide +kernel) h
theorem eX2_hasSuits {G : jGT} {d : Nat} {x1 : Int32} {M : jM} {post : Int32 → jM → Prop} (h : kX2_hasSuits_0 G d  x1 M post) : CI G d mX2_hasSuits [.ref 1, .int x1] M post := Con_of_J ok_X2_hasSuits 0 rfl rfl h
def kX2_hasJudge_0 (G : jGT) (d : Nat)  (x1 : Int32) (M : jM) (post : Int32 → jM → Prop) : Prop := J G d mX2_hasJudge 0 [some (.ref 1), some (.int x1)] [] jN jSH M jMR 0 0 0 0 (jQi post)
theorem bX2_hasJudge_0 {G : jGT} {d : Nat} {x1 : Int32} {M : jM} {post : Int32 → jM → Prop} (h : (if x1 < 0 then post (0 : Int32) M else (if (M 1 4) ≤ x1 then post (0 : Int32) M else (if (4 : Int32) ≤ x1 then post (0 : Int32) M else post (1 : Int32) M)))) : kX2_hasJudge_0 G d  x1 M post := by
  unfold kX2_hasJudge_0
  refine J_iload_1 dX2_hasJudge_0 ?_
  refine J_if_lt (t := 21) dX2_hasJudge_1 (by decide) (fun c0 => ?_) (fun c0 => ?_)
  · replace h := ite_t c0 h
    refine J_iconst (0 : Int32) dX2_hasJudge_21 (by decide) ?_
    exact K_zret dX2_hasJudge_22 rfl (by decide +kernel) h
  · replace h := ite_f c0 h
    refine J_iload_1 dX2_hasJudge_4 ?_
    refine J_aload_0 dX2_hasJudge_5 ?_
    refine J_getI dX2_hasJudge_6 fl_X2_25 jlt_1 jsh_1 (by decide) jrf_2_4 ?_
    refine J_icmp_ge (t := 21) dX2_hasJudge_9 (by decide) (fun c1 => ?_) (fun c1 => ?_)
    · replace h := ite_t c1 h
      refine J_iconst (0 : Int32) dX2_hasJudge_21 (by decide) ?_
      exact K_zret dX2_hasJudge_22 rfl (by decide +kernel) h
    · replace h := ite_f c1 h
      refine J_iload_1 dX2_hasJudge_12 ?_
      refine J_iconst (4 : Int32) dX2_hasJudge_13 (by decide) ?_
      refine J_icmp_ge (t := 21) dX2_hasJudge_14 (by decide) (fun c2 => ?_) (fun c2 => ?_)
      · replace h := ite_t c2 h
        refine J_iconst (0 : Int32) dX2_hasJudge_21 (by decide) ?_
        exact K_zret dX2_hasJudge_22 rfl (by decide +kernel) h
      · replace h := ite_f c2 h
        refine J_iconst (1 : Int32) dX2_hasJudge_17 (by decide) ?_
        refine J_goto (t := 22) dX2_hasJudge_18 (by decide) ?_
        exact K_zret dX2_hasJudge_22 rfl (by decide +kernel) h
theorem eX2_hasJudge {G : jGT} {d : Nat} {x1 : Int32} {M : jM} {post : Int32 → jM → Prop} (h : kX2_hasJudge_0 G d  x1 M post) : CI G d mX2_hasJudge [.ref 1, .int x1] M post := Con_of_J ok_X2_hasJudge 0 rfl rfl h
def kX2_pointsOf_0 (G : jGT) (d : Nat)  (x1 : Int32) (M : jM) (post : Int32 → jM → Prop) : Prop := J G (d + 1) mX2_pointsOf 0 [some (.ref 1), some (.int x1)] [] jN jSH M jMR 0 0 0 0 (jQi post)
theorem bX2_pointsOf_0 {G : jGT} {d : Nat} {x1 : Int32} {M : jM} {post : Int32 → jM → Prop} (h : CI G d mX2_hasSuit [.ref 1, .int x1] M (fun r1 M1 => (if r1 = 0 then post (0 : Int32) M1 else (vp_in x1 8 ∧ post (M1 2 x1.toNatClampNeg) M1)))) : kX2_pointsOf_0 G d  x1 M post := by
  unfold kX2_pointsOf_0
  refine J_aload_0 dX2_pointsOf_0 ?_
  refine J_iload_1 dX2_pointsOf_1 ?_
  refine K_callVI (As := [.int x1]) (rest := []) dX2_pointsOf_2 vl_X2_65 jlt_1 jsh_1 _ rfl rfl h rfl rfl (Nat.le_of_ble_eq_true rfl) (fun r1 M1 h => ?_)
  refine J_if_eq (t := 17) dX2_pointsOf_5 (by decide) (fun c0 => ?_) (fun c0 => ?_)
  · replace h := ite_t c0 h
    refine J_iconst (0 : Int32) dX2_pointsOf_17 (by decide) ?_
    exact K_iret dX2_pointsOf_18 rfl h
  · replace h := ite_f c0 h
    refine J_aload_0 dX2_pointsOf_8 ?_
    refine J_getR 2 dX2_pointsOf_9 fl_X2_18 jlt_1 jsh_1 (by decide) jrf_2_2 jmr_1_2 ?_
    refine J_iload_1 dX2_pointsOf_12 ?_
    obtain ⟨g1, h⟩ := h
    refine K_iald x1.toNatClampNeg rfl dX2_pointsOf_13 jlt_2 jsh_2 g1 ?_
    refine J_goto (t := 18) dX2_pointsOf_14 (by decide) ?_
    exact K_iret dX2_pointsOf_18 rfl h
theorem eX2_pointsOf {G : jGT} {d : Nat} {x1 : Int32} {M : jM} {post : Int32 → jM → Prop} (h : kX2_pointsOf_0 G d  x1 M post) : CI G (d + 1) mX2_pointsOf [.ref 1, .int x1] M post := Con_of_J ok_X2_pointsOf 0 rfl rfl h
def kX2_worthOf_0 (G : jGT) (d : Nat)  (x1 : Int32) (M : jM) (post : Int32 → jM → Prop) : Prop := J G (d + 1) mX2_worthOf 0 [some (.ref 1), some (.int x1)] [] jN jSH M jMR 0 0 0 0 (jQi post)
theorem bX2_worthOf_0 {G : jGT} {d : Nat} {x1 : Int32} {M : jM} {post : Int32 → jM → Prop} (h : CI G d mX2_hasSuit [.ref 1, .int x1] M (fun r1 M1 => (if r1 = 0 then post (0 : Int32) M1 else (vp_in x1 8 ∧ post (M1 3 x1.toNatClampNeg) M1)))) : kX2_worthOf_0 G d  x1 M post := by
  unfold kX2_worthOf_0
  refine J_aload_0 dX2_worthOf_0 ?_
  refine J_iload_1 dX2_worthOf_1 ?_
  refine K_callVI (As := [.int x1]) (rest := []) dX2_worthOf_2 vl_X2_65 jlt_1 jsh_1 _ rfl rfl h rfl rfl (Nat.le_of_ble_eq_true rfl) (fun r1 M1 h => ?_)
  refine J_if_eq (t := 17) dX2_worthOf_5 (by decide) (fun c0 => ?_) (fun c0 => ?_)
  · replace h := ite_t c0 h
    refine J_iconst (0 : Int32) dX2_worthOf_17 (by decide) ?_
    exact K_iret dX2_worthOf_18 rfl h
  · replace h := ite_f c0 h
    refine J_aload_0 dX2_worthOf_8 ?_
    refine J_getR 3 dX2_worthOf_9 fl_X2_22 jlt_1 jsh_1 (by decide) jrf_2_3 jmr_1_3 ?_
    refine J_iload_1 dX2_worthOf_12 ?_
    obtain ⟨g1, h⟩ := h
    refine K_iald x1.toNatClampNeg rfl dX2_worthOf_13 jlt_3 jsh_3 g1 ?_
    refine J_goto (t := 18) dX2_worthOf_14 (by decide) ?_
    exact K_iret dX2_worthOf_18 rfl h
theorem eX2_worthOf {G : jGT} {d : Nat} {x1 : Int32} {M : jM} {post : Int32 → jM → Prop} (h : kX2_worthOf_0 G d  x1 M post) : CI G (d + 1) mX2_worthOf [.ref 1, .int x1] M post := Con_of_J ok_X2_worthOf 0 rfl rfl h
def kX2_kindOf_0 (G : jGT) (d : Nat)  (x1 : Int32) (M : jM) (post : Int32 → jM → Prop) : Prop := J G (d + 1) mX2_kindOf 0 [some (.ref 1), some (.int x1)] [] jN jSH M jMR 0 0 0 0 (jQi post)
theorem bX2_kindOf_0 {G : jGT} {d : Nat} {x1 : Int32} {M : jM} {post : Int32 → jM → Prop} (h : CI G d mX2_hasJudge [.ref 1, .int x1] M (fun r1 M1 => (if r1 = 0 then post (0 : Int32) M1 else (vp_in x1 4 ∧ post (M1 4 x1.toNatClampNeg) M1)))) : kX2_kindOf_0 G d  x1 M post := by
  unfold kX2_kindOf_0
  refine J_aload_0 dX2_kindOf_0 ?_
  refine J_iload_1 dX2_kindOf_1 ?_
  refine K_callVI (As := [.int x1]) (rest := []) dX2_kindOf_2 vl_X2_69 jlt_1 jsh_1 _ rfl rfl h rfl rfl (Nat.le_of_ble_eq_true rfl) (fun r1 M1 h => ?_)
  refine J_if_eq (t := 17) dX2_kindOf_5 (by decide) (fun c0 => ?_) (fun c0 => ?_)
  · replace h := ite_t c0 h
    refine J_iconst (0 : Int32) dX2_kindOf_17 (by decide) ?_
    exact K_iret dX2_kindOf_18 rfl h
  · replace h := ite_f c0 h
    refine J_aload_0 dX2_kindOf_8 ?_
    refine J_getR 4 dX2_kindOf_9 fl_X2_28 jlt_1 jsh_1 (by decide) jrf_2_5 jmr_1_5 ?_
    refine J_iload_1 dX2_kindOf_12 ?_
    obtain ⟨g1, h⟩ := h
    refine K_iald x1.toNatClampNeg rfl dX2_kindOf_13 jlt_4 jsh_4 g1 ?_
    refine J_goto (t := 18) dX2_kindOf_14 (by decide) ?_
    exact K_iret dX2_kindOf_18 rfl h
theorem eX2_kindOf {G : jGT} {d : Nat} {x1 : Int32} {M : jM} {post : Int32 → jM → Prop} (h : kX2_kindOf_0 G d  x1 M post) : CI G (d + 1) mX2_kindOf [.ref 1, .int x1] M post := Con_of_J ok_X2_kindOf 0 rfl rfl h
def kX2_numberOf_0 (G : jGT) (d : Nat)  (x1 : Int32) (M : jM) (post : Int32 → jM → Prop) : Prop := J G (d + 1) mX2_numberOf 0 [some (.ref 1), some (.int x1)] [] jN jSH M jMR 0 0 0 0 (jQi post)
theorem bX2_numberOf_0 {G : jGT} {d : Nat} {x1 : Int32} {M : jM} {post : Int32 → jM → Prop} (h : CI G d mX2_hasJudge [.ref 1, .int x1] M (fun r1 M1 => (if r1 = 0 then post (0 : Int32) M1 else (vp_in x1 4 ∧ post (M1 5 x1.toNatClampNeg) M1)))) : kX2_numberOf_0 G d  x1 M post := by
  unfold kX2_numberOf_0
  refine J_aload_0 dX2_numberOf_0 ?_
  refine J_iload_1 dX2_numberOf_1 ?_
  refine K_callVI (As := [.int x1]) (rest := []) dX2_numberOf_2 vl_X2_69 jlt_1 jsh_1 _ rfl rfl h rfl rfl (Nat.le_of_ble_eq_true rfl) (fun r1 M1 h => ?_)
  refine J_if_eq (t := 17) dX2_numberOf_5 (by decide) (fun c0 => ?_) (fun c0 => ?_)
  · replace h := ite_t c0 h
    refine J_iconst (0 : Int32) dX2_numberOf_17 (by decide) ?_
    exact K_iret dX2_numberOf_18 rfl h
  · replace h := ite_f c0 h
    refine J_aload_0 dX2_numberOf_8 ?_
    refine J_getR 5 dX2_numberOf_9 fl_X2_31 jlt_1 jsh_1 (by decide) jrf_2_6 jmr_1_6 ?_
    refine J_iload_1 dX2_numberOf_12 ?_
    obtain ⟨g1, h⟩ := h
    refine K_iald x1.toNatClampNeg rfl dX2_numberOf_13 jlt_5 jsh_5 g1 ?_
    refine J_goto (t := 18) dX2_numberOf_14 (by decide) ?_
    exact K_iret dX2_numberOf_18 rfl h
theorem eX2_numberOf {G : jGT} {d : Nat} {x1 : Int32} {M : jM} {post : Int32 → jM → Prop} (h : kX2_numberOf_0 G d  x1 M post) : CI G (d + 1) mX2_numberOf [.ref 1, .int x1] M post := Con_of_J ok_X2_numberOf 0 rfl rfl h
def kX2_write_0 (G : jGT) (d : Nat)  (x1 : Int32) (x2 : Int32) (M : jM) (post : jM → Prop) : Prop := J G d mX2_write 0 [some (.ref 1), some (.int x1), some (.int x2)] [] jN jSH M jMR 0 0 0 0 (jQv post)
theorem bX2_write_0 {G : jGT} {d : Nat} {x1 : Int32} {x2 : Int32} {M : jM} {post : jM → Prop} (h : (if (M 1 8) < 0 then post M else (if (24 : Int32) ≤ (M 1 8) then post M else (if x2 = 0 then (vp_in (M 1 8) 24 ∧ post (jup (jup M 7 ((M 1 8).toNatClampNeg) (((2 : Int32) * x1) + (0 : Int32))) 1 8 ((M 1 8) + (1 : Int32)))) else (vp_in (M 1 8) 24 ∧ post (jup (jup M 7 ((M 1 8).toNatClampNeg) (((2 : Int32) * x1) + (1 : Int32))) 1 8 ((M 1 8) + (1 : Int32)))))))) : kX2_write_0 G d  x1 x2 M post := by
  unfold kX2_write_0
  refine J_aload_0 dX2_write_0 ?_
  refine J_getI dX2_write_1 fl_X2_37 jlt_1 jsh_1 (by decide) jrf_2_8 ?_
  refine J_if_lt (t := 48) dX2_write_4 (by decide) (fun c0 => ?_) (fun c0 => ?_)
  · replace h := ite_t c0 h
    exact K_ret dX2_write_48 rfl h
  · replace h := ite_f c0 h
    refine J_aload_0 dX2_write_7 ?_
    refine J_getI dX2_write_8 fl_X2_37 jlt_1 jsh_1 (by decide) jrf_2_8 ?_
    refine J_bipush (24 : Int32) dX2_write_11 (by decide) ?_
    refine J_icmp_ge (t := 48) dX2_write_13 (by decide) (fun c1 => ?_) (fun c1 => ?_)
    · replace h := ite_t c1 h
      exact K_ret dX2_write_48 rfl h
    · replace h := ite_f c1 h
      refine J_aload_0 dX2_write_16 ?_
      refine J_getR 7 dX2_write_17 fl_X2_40 jlt_1 jsh_1 (by decide) jrf_2_9 jmr_1_9 ?_
      refine J_aload_0 dX2_write_20 ?_
      refine J_getI dX2_write_21 fl_X2_37 jlt_1 jsh_1 (by decide) jrf_2_8 ?_
      refine J_iconst (2 : Int32) dX2_write_24 (by decide) ?_
      refine J_iload_1 dX2_write_25 ?_
      refine J_imul dX2_write_26 ?_
      refine J_iload_2 dX2_write_27 ?_
      refine J_if_eq (t := 35) dX2_write_28 (by decide) (fun c2 => ?_) (fun c2 => ?_)
      · replace h := ite_t c2 h
        refine J_iconst (0 : Int32) dX2_write_35 (by decide) ?_
        refine J_iadd dX2_write_36 ?_
        obtain ⟨g3, h⟩ := h
        refine K_iast ((M 1 8).toNatClampNeg) rfl dX2_write_37 jlt_7 jsh_7 g3 ?_
        refine J_aload_0 dX2_write_38 ?_
        refine J_dup dX2_write_39 rfl ?_
        refine J_getI dX2_write_40 fl_X2_37 jlt_1 jsh_1 (by decide) jrf_2_8 ?_
        refine J_iconst (1 : Int32) dX2_write_43 (by decide) ?_
        refine J_iadd dX2_write_44 ?_
        refine J_putI false dX2_write_45 pl_X2_37 jlt_1 jsh_1 (by decide) jrf_2_8 (fun q => absurd q (by decide)) ?_
        exact K_ret dX2_write_48 rfl h
      · replace h := ite_f c2 h
        refine J_iconst (1 : Int32) dX2_write_31 (by decide) ?_
        refine J_goto (t := 36) dX2_write_32 (by decide) ?_
        refine J_iadd dX2_write_36 ?_
        obtain ⟨g3, h⟩ := h
        refine K_iast ((M 1 8).toNatClampNeg) rfl dX2_write_37 jlt_7 jsh_7 g3 ?_
        refine J_aload_0 dX2_write_38 ?_
        refine J_dup dX2_write_39 rfl ?_
        refine J_getI dX2_write_40 fl_X2_37 jlt_1 jsh_1 (by decide) jrf_2_8 ?_
        refine J_iconst (1 : Int32) dX2_write_43 (by decide) ?_
        refine J_iadd dX2_write_44 ?_
        refine J_putI false dX2_write_45 pl_X2_37 jlt_1 jsh_1 (by decide) jrf_2_8 (fun q => absurd q (by decide)) ?_
        exact K_ret dX2_write_48 rfl h
theorem eX2_write {G : jGT} {d : Nat} {x1 : Int32} {x2 : Int32} {M : jM} {post : jM → Prop} (h : kX2_write_0 G d  x1 x2 M post) : CV G d mX2_write [.ref 1, .int x1, .int x2] M post := Con_of_J ok_X2_write 0 rfl rfl h
def kX2_becomeK_0 (G : jGT) (d : Nat)   (M : jM) (post : jM → Prop) : Prop := J G (d + 2) mX2_become 0 [some (.ref 11), some (.ref 1)] [] jN jSH M jMR 0 0 0 0 (jQv post)
theorem bX2_becomeK_0 {G : jGT} {d : Nat}  {M : jM} {post : jM → Prop} (h : ((∀ j, j < 100 → fits .byte (.int ((jcp (jcp (jcp (jcp (jcp (jcp (jcp (jup (jup (jup (jup (jup (jup (jup (jup M 11 0 (M 1 0)) 11 1 (M 1 1)) 11 4 (M 1 4)) 11 8 (M 1 8)) 11 10 (M 1 10)) 11 12 (M 1 12)) 11 14 (M 1 14)) 11 15 (M 1 15)) 12 2 8) 13 3 8) 14 4 4) 15 5 4) 16 6 16) 17 7 24) 18 8 8) 9 j)) = true) ∧ ((∀ j, j < 100 → fits .byte (.int ((jcp (jcp (jcp (jcp (jcp (jcp (jcp (jcp (jup (jup (jup (jup (jup (jup (jup (jup M 11 0 (M 1 0)) 11 1 (M 1 1)) 11 4 (M 1 4)) 11 8 (M 1 8)) 11 10 (M 1 10)) 11 12 (M 1 12)) 11 14 (M 1 14)) 11 15 (M 1 15)) 12 2 8) 13 3 8) 14 4 4) 15 5 4) 16 6 16) 17 7 24) 18 8 8) 19 9 100) 10 j)) = true) ∧ post (jcp (jcp (jcp (jcp (jcp (jcp (jcp (jcp (jcp (jup (jup (jup (jup (jup (jup (jup (jup M 11 0 (M 1 0)) 11 1 (M 1 1)) 11 4 (M 1 4)) 11 8 (M 1 8)) 11 10 (M 1 10)) 11 12 (M 1 12)) 11 14 (M 1 14)) 11 15 (M 1 15)) 12 2 8) 13 3 8) 14 4 4) 15 5 4) 16 6 16) 17 7 24) 18 8 8) 19 9 100) 20 10 100)))) : kX2_becomeK_0 G d   M post := by
  unfold kX2_becomeK_0
  refine J_aload_0 dX2_become_0 ?_
  refine J_aload_1 dX2_become_1 ?_
  refine J_getI dX2_become_2 fl_X2_9 jlt_1 jsh_1 (by decide) jrf_2_0 ?_
  refine J_putI false dX2_become_5 pl_X2_9 jlt_11 jsh_11 (by decide) jrf_2_0 (fun q => absurd q (by decide)) ?_
  refine J_aload_0 dX2_become_8 ?_
  refine J_aload_1 dX2_become_9 ?_
  refine J_getI dX2_become_10 fl_X2_15 jlt_1 jsh_1 (by decide) jrf_2_1 ?_
  refine J_putI false dX2_become_13 pl_X2_15 jlt_11 jsh_11 (by decide) jrf_2_1 (fun q => absurd q (by decide)) ?_
  refine J_aload_0 dX2_become_16 ?_
  refine J_aload_1 dX2_become_17 ?_
  refine J_getI dX2_become_18 fl_X2_25 jlt_1 jsh_1 (by decide) jrf_2_4 ?_
  refine J_putI false dX2_become_21 pl_X2_25 jlt_11 jsh_11 (by decide) jrf_2_4 (fun q => absurd q (by decide)) ?_
  refine J_aload_0 dX2_become_24 ?_
  refine J_aload_1 dX2_become_25 ?_
  refine J_getI dX2_become_26 fl_X2_37 jlt_1 jsh_1 (by decide) jrf_2_8 ?_
  refine J_putI false dX2_become_29 pl_X2_37 jlt_11 jsh_11 (by decide) jrf_2_8 (fun q => absurd q (by decide)) ?_
  refine J_aload_0 dX2_become_32 ?_
  refine J_aload_1 dX2_become_33 ?_
  refine J_getI dX2_become_34 fl_X2_43 jlt_1 jsh_1 (by decide) jrf_2_10 ?_
  refine J_putI false dX2_become_37 pl_X2_43 jlt_11 jsh_11 (by decide) jrf_2_10 (fun q => absurd q (by decide)) ?_
  refine J_aload_0 dX2_become_40 ?_
  refine J_aload_1 dX2_become_41 ?_
  refine J_getI dX2_become_42 fl_X2_49 jlt_1 jsh_1 (by decide) jrf_2_12 ?_
  refine J_putI false dX2_become_45 pl_X2_49 jlt_11 jsh_11 (by decide) jrf_2_12 (fun q => absurd q (by decide)) ?_
  refine J_aload_0 dX2_become_48 ?_
  refine J_aload_1 dX2_become_49 ?_
  refine J_getI dX2_become_50 fl_X2_56 jlt_1 jsh_1 (by decide) jrf_2_14 ?_
  refine J_putI false dX2_become_53 pl_X2_56 jlt_11 jsh_11 (by decide) jrf_2_14 (fun q => absurd q (by decide)) ?_
  refine J_aload_0 dX2_become_56 ?_
  refine J_aload_1 dX2_become_57 ?_
  refine J_getI dX2_become_58 fl_X2_59 jlt_1 jsh_1 (by decide) jrf_2_15 ?_
  refine J_putI false dX2_become_61 pl_X2_59 jlt_11 jsh_11 (by decide) jrf_2_15 (fun q => absurd q (by decide)) ?_
  refine J_aload_1 dX2_become_64 ?_
  refine J_getR 2 dX2_become_65 fl_X2_18 jlt_1 jsh_1 (by decide) jrf_2_2 jmr_1_2 ?_
  refine J_iconst (0 : Int32) dX2_become_68 (by decide) ?_
  refine J_aload_0 dX2_become_69 ?_
  refine J_getR 12 dX2_become_70 fl_X2_18 jlt_11 jsh_11 (by decide) jrf_2_2 jmr_11_2 ?_
  refine J_iconst (0 : Int32) dX2_become_73 (by decide) ?_
  refine J_bipush (8 : Int32) dX2_become_74 (by decide) ?_
  refine K_copy (t := 0) (n := 8) rfl dX2_become_76 w_895 jlt_2 jsh_2 jlt_12 jsh_12 (by decide) (by decide) (by decide) (by decide) (by omega) (fun q => absurd q (by decide)) (by decide) ?_
  refine J_aload_1 dX2_become_79 ?_
  refine J_getR 3 dX2_become_80 fl_X2_22 jlt_1 jsh_1 (by decide) jrf_2_3 jmr_1_3 ?_
  refine J_iconst (0 : Int32) dX2_become_83 (by decide) ?_
  refine J_aload_0 dX2_become_84 ?_
  refine J_getR 13 dX2_become_85 fl_X2_22 jlt_11 jsh_11 (by decide) jrf_2_3 jmr_11_3 ?_
  refine J_iconst (0 : Int32) dX2_become_88 (by decide) ?_
  refine J_bipush (8 : Int32) dX2_become_89 (by decide) ?_
  refine K_copy (t := 0) (n := 8) rfl dX2_become_91 w_895 jlt_3 jsh_3 jlt_13 jsh_13 (by decide) (by decide) (by decide) (by decide) (by omega) (fun q => absurd q (by decide)) (by decide) ?_
  refine J_aload_1 dX2_become_94 ?_
  refine J_getR 4 dX2_become_95 fl_X2_28 jlt_1 jsh_1 (by decide) jrf_2_5 jmr_1_5 ?_
  refine J_iconst (0 : Int32) dX2_become_98 (by decide) ?_
  refine J_aload_0 dX2_become_99 ?_
  refine J_getR 14 dX2_become_100 fl_X2_28 jlt_11 jsh_11 (by decide) jrf_2_5 jmr_11_5 ?_
  refine J_iconst (0 : Int32) dX2_become_103 (by decide) ?_
  refine J_iconst (4 : Int32) dX2_become_104 (by decide) ?_
  refine K_copy (t := 0) (n := 4) rfl dX2_become_105 w_895 jlt_4 jsh_4 jlt_14 jsh_14 (by decide) (by decide) (by decide) (by decide) (by omega) (fun q => absurd q (by decide)) (by decide) ?_
  refine J_aload_1 dX2_become_108 ?_
  refine J_getR 5 dX2_become_109 fl_X2_31 jlt_1 jsh_1 (by decide) jrf_2_6 jmr_1_6 ?_
  refine J_iconst (0 : Int32) dX2_become_112 (by decide) ?_
  refine J_aload_0 dX2_become_113 ?_
  refine J_getR 15 dX2_become_114 fl_X2_31 jlt_11 jsh_11 (by decide) jrf_2_6 jmr_11_6 ?_
  refine J_iconst (0 : Int32) dX2_become_117 (by decide) ?_
  refine J_iconst (4 : Int32) dX2_become_118 (by decide) ?_
  refine K_copy (t := 0) (n := 4) rfl dX2_become_119 w_895 jlt_5 jsh_5 jlt_15 jsh_15 (by decide) (by decide) (by decide) (by decide) (by omega) (fun q => absurd q (by decide)) (by decide) ?_
  refine J_aload_1 dX2_become_122 ?_
  refine J_getR 6 dX2_become_123 fl_X2_34 jlt_1 jsh_1 (by decide) jrf_2_7 jmr_1_7 ?_
  refine J_iconst (0 : Int32) dX2_become_126 (by decide) ?_
  refine J_aload_0 dX2_become_127 ?_
  refine J_getR 16 dX2_become_128 fl_X2_34 jlt_11 jsh_11 (by decide) jrf_2_7 jmr_11_7 ?_
  refine J_iconst (0 : Int32) dX2_become_131 (by decide) ?_
  refine J_bipush (16 : Int32) dX2_become_132 (by decide) ?_
  refine K_copy (t := 0) (n := 16) rfl dX2_become_134 w_895 jlt_6 jsh_6 jlt_16 jsh_16 (by decide) (by decide) (by decide) (by decide) (by omega) (fun q => absurd q (by decide)) (by decide) ?_
  refine J_aload_1 dX2_become_137 ?_
  refine J_getR 7 dX2_become_138 fl_X2_40 jlt_1 jsh_1 (by decide) jrf_2_9 jmr_1_9 ?_
  refine J_iconst (0 : Int32) dX2_become_141 (by decide) ?_
  refine J_aload_0 dX2_become_142 ?_
  refine J_getR 17 dX2_become_143 fl_X2_40 jlt_11 jsh_11 (by decide) jrf_2_9 jmr_11_9 ?_
  refine J_iconst (0 : Int32) dX2_become_146 (by decide) ?_
  refine J_bipush (24 : Int32) dX2_become_147 (by decide) ?_
  refine K_copy (t := 0) (n := 24) rfl dX2_become_149 w_895 jlt_7 jsh_7 jlt_17 jsh_17 (by decide) (by decide) (by decide) (by decide) (by omega) (fun q => absurd q (by decide)) (by decide) ?_
  refine J_aload_1 dX2_become_152 ?_
  refine J_getR 8 dX2_become_153 fl_X2_46 jlt_1 jsh_1 (by decide) jrf_2_11 jmr_1_11 ?_
  refine J_iconst (0 : Int32) dX2_become_156 (by decide) ?_
  refine J_aload_0 dX2_become_157 ?_
  refine J_getR 18 dX2_become_158 fl_X2_46 jlt_11 jsh_11 (by decide) jrf_2_11 jmr_11_11 ?_
  refine J_iconst (0 : Int32) dX2_become_161 (by decide) ?_
  refine J_bipush (8 : Int32) dX2_become_162 (by decide) ?_
  refine K_copy (t := 0) (n := 8) rfl dX2_become_164 w_895 jlt_8 jsh_8 jlt_18 jsh_18 (by decide) (by decide) (by decide) (by decide) (by omega) (fun q => absurd q (by decide)) (by decide) ?_
  refine J_aload_1 dX2_become_167 ?_
  refine J_getR 9 dX2_become_168 fl_X2_52 jlt_1 jsh_1 (by decide) jrf_2_13 jmr_1_13 ?_
  refine J_iconst (0 : Int32) dX2_become_171 (by decide) ?_
  refine J_aload_0 dX2_become_172 ?_
  refine J_getR 19 dX2_become_173 fl_X2_52 jlt_11 jsh_11 (by decide) jrf_2_13 jmr_11_13 ?_
  refine J_iconst (0 : Int32) dX2_become_176 (by decide) ?_
  refine J_bipush (100 : Int32) dX2_become_177 (by decide) ?_
  obtain ⟨g0, h⟩ := h
  refine K_copy (t := 1) (n := 100) rfl dX2_become_179 w_895 jlt_9 jsh_9 jlt_19 jsh_19 (by decide) (by decide) (by decide) (by decide) (by omega) (fun _ => g0) (by decide) ?_
  refine J_aload_1 dX2_become_182 ?_
  refine J_getR 10 dX2_become_183 fl_X2_62 jlt_1 jsh_1 (by decide) jrf_2_16 jmr_1_16 ?_
  refine J_iconst (0 : Int32) dX2_become_186 (by decide) ?_
  refine J_aload_0 dX2_become_187 ?_
  refine J_getR 20 dX2_become_188 fl_X2_62 jlt_11 jsh_11 (by decide) jrf_2_16 jmr_11_16 ?_
  refine J_iconst (0 : Int32) dX2_become_191 (by decide) ?_
  refine J_bipush (100 : Int32) dX2_become_192 (by decide) ?_
  obtain ⟨g1, h⟩ := h
  refine K_copy (t := 1) (n := 100) rfl dX2_become_194 w_895 jlt_10 jsh_10 jlt_20 jsh_20 (by decide) (by decide) (by decide) (by decide) (by omega) (fun _ => g1) (by decide) ?_
  exact K_ret dX2_become_197 rfl h
theorem eX2_becomeK {G : jGT} {d : Nat}  {M : jM} {post : jM → Prop} (h : kX2_becomeK_0 G d   M post) : CV G (d + 2) mX2_become [.ref 11, .ref 1] M post := Con_of_J ok_X2_become 0 rfl rfl h
def kX2_becomeH_0 (G : jGT) (d : Nat)   (M : jM) (post : jM → Prop) : Prop := J G (d + 2) mX2_become 0 [some (.ref 1), some (.ref 11)] [] jN jSH M jMR 0 0 0 0 (jQv post)
theorem bX2_becomeH_0 {G : jGT} {d : Nat}  {M : jM} {post : jM → Prop} (h : ((∀ j, j < 100 → fits .byte (.int ((jcp (jcp (jcp (jcp (jcp (jcp (jcp (jup (jup (jup (jup (jup (jup (jup (jup M 1 0 (M 11 0)) 1 1 (M 11 1)) 1 4 (M 11 4)) 1 8 (M 11 8)) 1 10 (M 11 10)) 1 12 (M 11 12)) 1 14 (M 11 14)) 1 15 (M 11 15)) 2 12 8) 3 13 8) 4 14 4) 5 15 4) 6 16 16) 7 17 24) 8 18 8) 19 j)) = true) ∧ ((∀ j, j < 100 → fits .byte (.int ((jcp (jcp (jcp (jcp (jcp (jcp (jcp (jcp (jup (jup (jup (jup (jup (jup (jup (jup M 1 0 (M 11 0)) 1 1 (M 11 1)) 1 4 (M 11 4)) 1 8 (M 11 8)) 1 10 (M 11 10)) 1 12 (M 11 12)) 1 14 (M 11 14)) 1 15 (M 11 15)) 2 12 8) 3 13 8) 4 14 4) 5 15 4) 6 16 16) 7 17 24) 8 18 8) 9 19 100) 20 j)) = true) ∧ post (jcp (jcp (jcp (jcp (jcp (jcp (jcp (jcp (jcp (jup (jup (jup (jup (jup (jup (jup (jup M 1 0 (M 11 0)) 1 1 (M 11 1)) 1 4 (M 11 4)) 1 8 (M 11 8)) 1 10 (M 11 10)) 1 12 (M 11 12)) 1 14 (M 11 14)) 1 15 (M 11 15)) 2 12 8) 3 13 8) 4 14 4) 5 15 4) 6 16 16) 7 17 24) 8 18 8) 9 19 100) 10 20 100)))) : kX2_becomeH_0 G d   M post := by
  unfold kX2_becomeH_0
  refine J_aload_0 dX2_become_0 ?_
  refine J_aload_1 dX2_become_1 ?_
  refine J_getI dX2_become_2 fl_X2_9 jlt_11 jsh_11 (by decide) jrf_2_0 ?_
  refine J_putI false dX2_become_5 pl_X2_9 jlt_1 jsh_1 (by decide) jrf_2_0 (fun q => absurd q (by decide)) ?_
  refine J_aload_0 dX2_become_8 ?_
  refine J_aload_1 dX2_become_9 ?_
  refine J_getI dX2_become_10 fl_X2_15 jlt_11 jsh_11 (by decide) jrf_2_1 ?_
  refine J_putI false dX2_become_13 pl_X2_15 jlt_1 jsh_1 (by decide) jrf_2_1 (fun q => absurd q (by decide)) ?_
  refine J_aload_0 dX2_become_16 ?_
  refine J_aload_1 dX2_become_17 ?_
  refine J_getI dX2_become_18 fl_X2_25 jlt_11 jsh_11 (by decide) jrf_2_4 ?_
  refine J_putI false dX2_become_21 pl_X2_25 jlt_1 jsh_1 (by decide) jrf_2_4 (fun q => absurd q (by decide)) ?_
  refine J_aload_0 dX2_become_24 ?_
  refine J_aload_1 dX2_become_25 ?_
  refine J_getI dX2_become_26 fl_X2_37 jlt_11 jsh_11 (by decide) jrf_2_8 ?_
  refine J_putI false dX2_become_29 pl_X2_37 jlt_1 jsh_1 (by decide) jrf_2_8 (fun q => absurd q (by decide)) ?_
  refine J_aload_0 dX2_become_32 ?_
  refine J_aload_1 dX2_become_33 ?_
  refine J_getI dX2_become_34 fl_X2_43 jlt_11 jsh_11 (by decide) jrf_2_10 ?_
  refine J_putI false dX2_become_37 pl_X2_43 jlt_1 jsh_1 (by decide) jrf_2_10 (fun q => absurd q (by decide)) ?_
  refine J_aload_0 dX2_become_40 ?_
  refine J_aload_1 dX2_become_41 ?_
  refine J_getI dX2_become_42 fl_X2_49 jlt_11 jsh_11 (by decide) jrf_2_12 ?_
  refine J_putI false dX2_become_45 pl_X2_49 jlt_1 jsh_1 (by decide) jrf_2_12 (fun q => absurd q (by decide)) ?_
  refine J_aload_0 dX2_become_48 ?_
  refine J_aload_1 dX2_become_49 ?_
  refine J_getI dX2_become_50 fl_X2_56 jlt_11 jsh_11 (by decide) jrf_2_14 ?_
  refine J_putI false dX2_become_53 pl_X2_56 jlt_1 jsh_1 (by decide) jrf_2_14 (fun q => absurd q (by decide)) ?_
  refine J_aload_0 dX2_become_56 ?_
  refine J_aload_1 dX2_become_57 ?_
  refine J_getI dX2_become_58 fl_X2_59 jlt_11 jsh_11 (by decide) jrf_2_15 ?_
  refine J_putI false dX2_become_61 pl_X2_59 jlt_1 jsh_1 (by decide) jrf_2_15 (fun q => absurd q (by decide)) ?_
  refine J_aload_1 dX2_become_64 ?_
  refine J_getR 12 dX2_become_65 fl_X2_18 jlt_11 jsh_11 (by decide) jrf_2_2 jmr_11_2 ?_
  refine J_iconst (0 : Int32) dX2_become_68 (by decide) ?_
  refine J_aload_0 dX2_become_69 ?_
  refine J_getR 2 dX2_become_70 fl_X2_18 jlt_1 jsh_1 (by decide) jrf_2_2 jmr_1_2 ?_
  refine J_iconst (0 : Int32) dX2_become_73 (by decide) ?_
  refine J_bipush (8 : Int32) dX2_become_74 (by decide) ?_
  refine K_copy (t := 0) (n := 8) rfl dX2_become_76 w_895 jlt_12 jsh_12 jlt_2 jsh_2 (by decide) (by decide) (by decide) (by decide) (by omega) (fun q => absurd q (by decide)) (by decide) ?_
  refine J_aload_1 dX2_become_79 ?_
  refine J_getR 13 dX2_become_80 fl_X2_22 jlt_11 jsh_11 (by decide) jrf_2_3 jmr_11_3 ?_
  refine J_iconst (0 : Int32) dX2_become_83 (by decide) ?_
  refine J_aload_0 dX2_become_84 ?_
  refine J_getR 3 dX2_become_85 fl_X2_22 jlt_1 jsh_1 (by decide) jrf_2_3 jmr_1_3 ?_
  refine J_iconst (0 : Int32) dX2_become_88 (by decide) ?_
  refine J_bipush (8 : Int32) dX2_become_89 (by decide) ?_
  refine K_copy (t := 0) (n := 8) rfl dX2_become_91 w_895 jlt_13 jsh_13 jlt_3 jsh_3 (by decide) (by decide) (by decide) (by decide) (by omega) (fun q => absurd q (by decide)) (by decide) ?_
  refine J_aload_1 dX2_become_94 ?_
  refine J_getR 14 dX2_become_95 fl_X2_28 jlt_11 jsh_11 (by decide) jrf_2_5 jmr_11_5 ?_
  refine J_iconst (0 : Int32) dX2_become_98 (by decide) ?_
  refine J_aload_0 dX2_become_99 ?_
  refine J_getR 4 dX2_become_100 fl_X2_28 jlt_1 jsh_1 (by decide) jrf_2_5 jmr_1_5 ?_
  refine J_iconst (0 : Int32) dX2_become_103 (by decide) ?_
  refine J_iconst (4 : Int32) dX2_become_104 (by decide) ?_
  refine K_copy (t := 0) (n := 4) rfl dX2_become_105 w_895 jlt_14 jsh_14 jlt_4 jsh_4 (by decide) (by decide) (by decide) (by decide) (by omega) (fun q => absurd q (by decide)) (by decide) ?_
  refine J_aload_1 dX2_become_108 ?_
  refine J_getR 15 dX2_become_109 fl_X2_31 jlt_11 jsh_11 (by decide) jrf_2_6 jmr_11_6 ?_
  refine J_iconst (0 : Int32) dX2_become_112 (by decide) ?_
  refine J_aload_0 dX2_become_113 ?_
  refine J_getR 5 dX2_become_114 fl_X2_31 jlt_1 jsh_1 (by decide) jrf_2_6 jmr_1_6 ?_
  refine J_iconst (0 : Int32) dX2_become_117 (by decide) ?_
  refine J_iconst (4 : Int32) dX2_become_118 (by decide) ?_
  refine K_copy (t := 0) (n := 4) rfl dX2_become_119 w_895 jlt_15 jsh_15 jlt_5 jsh_5 (by decide) (by decide) (by decide) (by decide) (by omega) (fun q => absurd q (by decide)) (by decide) ?_
  refine J_aload_1 dX2_become_122 ?_
  refine J_getR 16 dX2_become_123 fl_X2_34 jlt_11 jsh_11 (by decide) jrf_2_7 jmr_11_7 ?_
  refine J_iconst (0 : Int32) dX2_become_126 (by decide) ?_
  refine J_aload_0 dX2_become_127 ?_
  refine J_getR 6 dX2_become_128 fl_X2_34 jlt_1 jsh_1 (by decide) jrf_2_7 jmr_1_7 ?_
  refine J_iconst (0 : Int32) dX2_become_131 (by decide) ?_
  refine J_bipush (16 : Int32) dX2_become_132 (by decide) ?_
  refine K_copy (t := 0) (n := 16) rfl dX2_become_134 w_895 jlt_16 jsh_16 jlt_6 jsh_6 (by decide) (by decide) (by decide) (by decide) (by omega) (fun q => absurd q (by decide)) (by decide) ?_
  refine J_aload_1 dX2_become_137 ?_
  refine J_getR 17 dX2_become_138 fl_X2_40 jlt_11 jsh_11 (by decide) jrf_2_9 jmr_11_9 ?_
  refine J_iconst (0 : Int32) dX2_become_141 (by decide) ?_
  refine J_aload_0 dX2_become_142 ?_
  refine J_getR 7 dX2_become_143 fl_X2_40 jlt_1 jsh_1 (by decide) jrf_2_9 jmr_1_9 ?_
  refine J_iconst (0 : Int32) dX2_become_146 (by decide) ?_
  refine J_bipush (24 : Int32) dX2_become_147 (by decide) ?_
  refine K_copy (t := 0) (n := 24) rfl dX2_become_149 w_895 jlt_17 jsh_17 jlt_7 jsh_7 (by decide) (by decide) (by decide) (by decide) (by omega) (fun q => absurd q (by decide)) (by decide) ?_
  refine J_aload_1 dX2_become_152 ?_
  refine J_getR 18 dX2_become_153 fl_X2_46 jlt_11 jsh_11 (by decide) jrf_2_11 jmr_11_11 ?_
  refine J_iconst (0 : Int32) dX2_become_156 (by decide) ?_
  refine J_aload_0 dX2_become_157 ?_
  refine J_getR 8 dX2_become_158 fl_X2_46 jlt_1 jsh_1 (by decide) jrf_2_11 jmr_1_11 ?_
  refine J_iconst (0 : Int32) dX2_become_161 (by decide) ?_
  refine J_bipush (8 : Int32) dX2_become_162 (by decide) ?_
  refine K_copy (t := 0) (n := 8) rfl dX2_become_164 w_895 jlt_18 jsh_18 jlt_8 jsh_8 (by decide) (by decide) (by decide) (by decide) (by omega) (fun q => absurd q (by decide)) (by decide) ?_
  refine J_aload_1 dX2_become_167 ?_
  refine J_getR 19 dX2_become_168 fl_X2_52 jlt_11 jsh_11 (by decide) jrf_2_13 jmr_11_13 ?_
  refine J_iconst (0 : Int32) dX2_become_171 (by decide) ?_
  refine J_aload_0 dX2_become_172 ?_
  refine J_getR 9 dX2_become_173 fl_X2_52 jlt_1 jsh_1 (by decide) jrf_2_13 jmr_1_13 ?_
  refine J_iconst (0 : Int32) dX2_become_176 (by decide) ?_
  refine J_bipush (100 : Int32) dX2_become_177 (by decide) ?_
  obtain ⟨g0, h⟩ := h
  refine K_copy (t := 1) (n := 100) rfl dX2_become_179 w_895 jlt_19 jsh_19 jlt_9 jsh_9 (by decide) (by decide) (by decide) (by decide) (by omega) (fun _ => g0) (by decide) ?_
  refine J_aload_1 dX2_become_182 ?_
  refine J_getR 20 dX2_become_183 fl_X2_62 jlt_11 jsh_11 (by decide) jrf_2_16 jmr_11_16 ?_
  refine J_iconst (0 : Int32) dX2_become_186 (by decide) ?_
  refine J_aload_0 dX2_become_187 ?_
  refine J_getR 10 dX2_become_188 fl_X2_62 jlt_1 jsh_1 (by decide) jrf_2_16 jmr_1_16 ?_
  refine J_iconst (0 : Int32) dX2_become_191 (by decide) ?_
  refine J_bipush (100 : Int32) dX2_become_192 (by decide) ?_
  obtain ⟨g1, h⟩ := h
  refine K_copy (t := 1) (n := 100) rfl dX2_become_194 w_895 jlt_20 jsh_20 jlt_10 jsh_10 (by decide) (by decide) (by decide) (by decide) (by omega) (fun _ => g1) (by decide) ?_
  exact K_ret dX2_become_197 rfl h
theorem eX2_becomeH {G : jGT} {d : Nat}  {M : jM} {post : jM → Prop} (h : kX2_becomeH_0 G d   M post) : CV G (d + 2) mX2_become [.ref 1, .ref 11] M post := Con_of_J ok_X2_become 0 rfl rfl h
