def kX7_rival_0 (G : jGT) (d : Nat)  (x1 : Int32) (x2 : Int32) (x3 : Int32) (x4 : Int32) (M : jM) (post : Int32 → jM → Prop) : Prop := J G (d + 1) mX7_rival 0 [some (.ref 0), some (.int x1), some (.int x2), some (.int x3), some (.int x4), none] [] jN jSH M jMR 0 0 0 0 (jQi post)
theorem bX7_rival_0 {G : jGT} {d : Nat} {x1 : Int32} {x2 : Int32} {x3 : Int32} {x4 : Int32} {M : jM} {post : Int32 → jM → Prop} (h : CI G d mX2_hasJudge [.ref 1, .int x1] M (fun r1 M1 => (if r1 = 0 then post (-100001 : Int32) M1 else (if x4 < 0 then post (-100001 : Int32) M1 else (if x4 ≤ (1 : Int32) then CI G d mX2_hasSuits [.ref 1, .int x2] M1 (fun r2 M2 => (if r2 = 0 then post (-100002 : Int32) M2 else CI G d mX2_hasSuits [.ref 1, .int x3] M2 (fun r3 M3 => (if r3 = 0 then post (-100002 : Int32) M3 else (if (x2 &&& x3) = 0 then CI G d mJ6_bitCount_0f7a4 [.int (x2 ||| x3)] M3 (fun r4 M4 => (if r4 ≤ (6 : Int32) then CV G d mX7_openFor [.ref 0, .int x1] M4 (fun M5 => CI G d mX4_against [.ref 35, .ref 1, .int x2, .int x3] M5 (fun r6 M6 => (if x4 = 0 then post r6 M6 else post (M6 35 6) M6))) else post (-100002 : Int32) M4)) else post (-100002 : Int32) M3))))) else post (-100001 : Int32) M1))))) : kX7_rival_0 G d  x1 x2 x3 x4 M post := by
  unfold kX7_rival_0
  refine J_aload_0 dX7_rival_0 ?_
  refine J_getR 1 dX7_rival_1 fl_X7_14 jlt_0 jsh_0 (by decide) jrf_7_0 jmr_0_0 ?_
  refine J_iload_1 dX7_rival_4 ?_
  refine K_callVI (As := [.int x1]) (rest := []) dX7_rival_5 vl_X7_115 jlt_1 jsh_1 _ rfl rfl h rfl rfl (Nat.le_of_ble_eq_true rfl) (fun r1 M1 h => ?_)
  refine J_if_eq (t := 22) dX7_rival_8 (by decide) (fun c0 => ?_) (fun c0 => ?_)
  · replace h := ite_t c0 h
    refine J_ldc (-100001 : Int32) dX7_rival_22 w_624 ?_
    exact K_iret dX7_rival_24 rfl h
  · replace h := ite_f c0 h
    refine J_iload_4 dX7_rival_11 ?_
    refine J_if_lt (t := 22) dX7_rival_13 (by decide) (fun c1 => ?_) (fun c1 => ?_)
    · replace h := ite_t c1 h
      refine J_ldc (-100001 : Int32) dX7_rival_22 w_624 ?_
      exact K_iret dX7_rival_24 rfl h
    · replace h := ite_f c1 h
      refine J_iload_4 dX7_rival_16 ?_
      refine J_iconst (1 : Int32) dX7_rival_18 (by decide) ?_
      refine J_icmp_le (t := 25) dX7_rival_19 (by decide) (fun c2 => ?_) (fun c2 => ?_)
      · replace h := ite_t c2 h
        refine J_aload_0 dX7_rival_25 ?_
        refine J_getR 1 dX7_rival_26 fl_X7_14 jlt_0 jsh_0 (by decide) jrf_7_0 jmr_0_0 ?_
        refine J_iload_2 dX7_rival_29 ?_
        refine K_callVI (As := [.int x2]) (rest := []) dX7_rival_30 vl_X7_186 jlt_1 jsh_1 _ rfl rfl h rfl rfl (Nat.le_of_ble_eq_true rfl) (fun r2 M2 h => ?_)
        refine J_if_eq (t := 64) dX7_rival_33 (by decide) (fun c3 => ?_) (fun c3 => ?_)
        · replace h := ite_t c3 h
          refine J_ldc (-100002 : Int32) dX7_rival_64 w_711 ?_
          exact K_iret dX7_rival_66 rfl h
        · replace h := ite_f c3 h
          refine J_aload_0 dX7_rival_36 ?_
          refine J_getR 1 dX7_rival_37 fl_X7_14 jlt_0 jsh_0 (by decide) jrf_7_0 jmr_0_0 ?_
          refine J_iload_3 dX7_rival_40 ?_
          refine K_callVI (As := [.int x3]) (rest := []) dX7_rival_41 vl_X7_186 jlt_1 jsh_1 _ rfl rfl h rfl rfl (Nat.le_of_ble_eq_true rfl) (fun r3 M3 h => ?_)
          refine J_if_eq (t := 64) dX7_rival_44 (by decide) (fun c4 => ?_) (fun c4 => ?_)
          · replace h := ite_t c4 h
            refine J_ldc (-100002 : Int32) dX7_rival_64 w_711 ?_
            exact K_iret dX7_rival_66 rfl h
          · replace h := ite_f c4 h
            refine J_iload_2 dX7_rival_47 ?_
            refine J_iload_3 dX7_rival_48 ?_
            refine J_iand dX7_rival_49 ?_
            refine J_if_ne (t := 64) dX7_rival_50 (by decide) (fun c5 => ?_) (fun c5 => ?_)
            · replace h := ite_f c5 h
              refine J_ldc (-100002 : Int32) dX7_rival_64 w_711 ?_
              exact K_iret dX7_rival_66 rfl h
            · replace h := ite_t c5 h
              refine J_iload_2 dX7_rival_53 ?_
              refine J_iload_3 dX7_rival_54 ?_
              refine J_ior dX7_rival_55 ?_
              refine K_callSI (rest := []) dX7_rival_56 sl_X7_189 h rfl rfl (Nat.le_of_ble_eq_true rfl) (fun r4 M4 h => ?_)
              refine J_bipush (6 : Int32) dX7_rival_59 (by decide) ?_
              refine J_icmp_le (t := 67) dX7_rival_61 (by decide) (fun c6 => ?_) (fun c6 => ?_)
              · replace h := ite_t c6 h
                refine J_aload_0 dX7_rival_67 ?_
                refine J_iload_1 dX7_rival_68 ?_
                refine K_callVV (As := [.int x1]) (rest := []) dX7_rival_69 vl_X7_124 jlt_0 jsh_0 _ rfl rfl h rfl rfl (Nat.le_of_ble_eq_true rfl) (fun M5 h => ?_)
                refine J_aload_0 dX7_rival_72 ?_
                refine J_getR 35 dX7_rival_73 fl_X7_44 jlt_0 jsh_0 (by decide) jrf_7_5 jmr_0_5 ?_
                refine J_aload_0 dX7_rival_76 ?_
                refine J_getR 1 dX7_rival_77 fl_X7_14 jlt_0 jsh_0 (by decide) jrf_7_0 jmr_0_0 ?_
                refine J_iload_2 dX7_rival_80 ?_
                refine J_iload_3 dX7_rival_81 ?_
                refine K_callVI (As := [.ref 1, .int x2, .int x3]) (rest := []) dX7_rival_82 vl_X7_208 jlt_35 jsh_35 _ rfl rfl h rfl rfl (Nat.le_of_ble_eq_true rfl) (fun r6 M6 h => ?_)
                refine J_istore_5 dX7_rival_85 rfl ?_
                refine J_iload_4 dX7_rival_87 ?_
                refine J_if_ne (t := 97) dX7_rival_89 (by decide) (fun c7 => ?_) (fun c7 => ?_)
                · replace h := ite_f c7 h
                  refine J_aload_0 dX7_rival_97 ?_
                  refine J_getR 35 dX7_rival_98 fl_X7_44 jlt_0 jsh_0 (by decide) jrf_7_5 jmr_0_5 ?_
                  refine J_getI dX7_rival_101 fl_X7_212 jlt_35 jsh_35 (by decide) jrf_4_6 ?_
                  exact K_iret dX7_rival_104 rfl h
                · replace h := ite_t c7 h
                  refine J_iload_5 dX7_rival_92 ?_
                  refine J_goto (t := 104) dX7_rival_94 (by decide) ?_
                  exact K_iret dX7_rival_104 rfl h
              · replace h := ite_f c6 h
                refine J_ldc (-100002 : Int32) dX7_rival_64 w_711 ?_
                exact K_iret dX7_rival_66 rfl h
      · replace h := ite_f c2 h
        refine J_ldc (-100001 : Int32) dX7_rival_22 w_624 ?_
        exact K_iret dX7_rival_24 rfl h
theorem eX7_rival {G : jGT} {d : Nat} {x1 : Int32} {x2 : Int32} {x3 : Int32} {x4 : Int32} {M : jM} {post : Int32 → jM → Prop} (h : kX7_rival_0 G d  x1 x2 x3 x4 M post) : CI G (d + 1) mX7_rival [.ref 0, .int x1, .int x2, .int x3, .int x4] M post := Con_of_J ok_X7_rival 1 rfl rfl h
def kX7_again_0 (G : jGT) (d : Nat)  (x1 : Int32) (x2 : Int32) (x3 : Int32) (M : jM) (post : Int32 → jM → Prop) : Prop := J G (d + 1) mX7_again 0 [some (.ref 0), some (.int x1), some (.int x2), some (.int x3)] [] jN jSH M jMR 0 0 0 0 (jQi post)
theorem bX7_again_0 {G : jGT} {d : Nat} {x1 : Int32} {x2 : Int32} {x3 : Int32} {M : jM} {post : Int32 → jM → Prop} (h : CI G d mX2_hasJudge [.ref 1, .int x1] M (fun r1 M1 => (if r1 = 0 then post (-1 : Int32) M1 else CI G d mX2_hasSuit [.ref 1, .int x2] M1 (fun r2 M2 => (if r2 = 0 then post (-1 : Int32) M2 else (if x3 < 0 then post (-2 : Int32) M2 else (if x3 ≤ (60 : Int32) then CV G d mX7_openFor [.ref 0, .int x1] M2 (fun M3 => CI G d mX2_pointsOf [.ref 1, .int x2] M3 (fun r4 M4 => CI G d mX5_timesWon [.ref 27, .int r4, .int x3] M4 (fun r5 M5 => post r5 M5))) else post (-2 : Int32) M2))))))) : kX7_again_0 G d  x1 x2 x3 M post := by
  unfold kX7_again_0
  refine J_aload_0 dX7_again_0 ?_
  refine J_getR 1 dX7_again_1 fl_X7_14 jlt_0 jsh_0 (by decide) jrf_7_0 jmr_0_0 ?_
  refine J_iload_1 dX7_again_4 ?_
  refine K_callVI (As := [.int x1]) (rest := []) dX7_again_5 vl_X7_115 jlt_1 jsh_1 _ rfl rfl h rfl rfl (Nat.le_of_ble_eq_true rfl) (fun r1 M1 h => ?_)
  refine J_if_eq (t := 22) dX7_again_8 (by decide) (fun c0 => ?_) (fun c0 => ?_)
  · replace h := ite_t c0 h
    refine J_iconst (-1 : Int32) dX7_again_22 (by decide) ?_
    exact K_iret dX7_again_23 rfl h
  · replace h := ite_f c0 h
    refine J_aload_0 dX7_again_11 ?_
    refine J_getR 1 dX7_again_12 fl_X7_14 jlt_0 jsh_0 (by decide) jrf_7_0 jmr_0_0 ?_
    refine J_iload_2 dX7_again_15 ?_
    refine K_callVI (As := [.int x2]) (rest := []) dX7_again_16 vl_X7_95 jlt_1 jsh_1 _ rfl rfl h rfl rfl (Nat.le_of_ble_eq_true rfl) (fun r2 M2 h => ?_)
    refine J_if_ne (t := 24) dX7_again_19 (by decide) (fun c1 => ?_) (fun c1 => ?_)
    · replace h := ite_f c1 h
      refine J_iload_3 dX7_again_24 ?_
      refine J_if_lt (t := 34) dX7_again_25 (by decide) (fun c2 => ?_) (fun c2 => ?_)
      · replace h := ite_t c2 h
        refine J_bipush (-2 : Int32) dX7_again_34 (by decide) ?_
        exact K_iret dX7_again_36 rfl h
      · replace h := ite_f c2 h
        refine J_iload_3 dX7_again_28 ?_
        refine J_bipush (60 : Int32) dX7_again_29 (by decide) ?_
        refine J_icmp_le (t := 37) dX7_again_31 (by decide) (fun c3 => ?_) (fun c3 => ?_)
        · replace h := ite_t c3 h
          refine J_aload_0 dX7_again_37 ?_
          refine J_iload_1 dX7_again_38 ?_
          refine K_callVV (As := [.int x1]) (rest := []) dX7_again_39 vl_X7_124 jlt_0 jsh_0 _ rfl rfl h rfl rfl (Nat.le_of_ble_eq_true rfl) (fun M3 h => ?_)
          refine J_aload_0 dX7_again_42 ?_
          refine J_getR 27 dX7_again_43 fl_X7_35 jlt_0 jsh_0 (by decide) jrf_7_4 jmr_0_4 ?_
          refine J_aload_0 dX7_again_46 ?_
          refine J_getR 1 dX7_again_47 fl_X7_14 jlt_0 jsh_0 (by decide) jrf_7_0 jmr_0_0 ?_
          refine J_iload_2 dX7_again_50 ?_
          refine K_callVI (As := [.int x2]) (rest := [.ref 27]) dX7_again_51 vl_X7_99 jlt_1 jsh_1 _ rfl rfl h rfl rfl (Nat.le_of_ble_eq_true rfl) (fun r4 M4 h => ?_)
          refine J_iload_3 dX7_again_54 ?_
          refine K_callVI (As := [.int r4, .int x3]) (rest := []) dX7_again_55 vl_X7_215 jlt_27 jsh_27 _ rfl rfl h rfl rfl (Nat.le_of_ble_eq_true rfl) (fun r5 M5 h => ?_)
          exact K_iret dX7_again_58 rfl h
        · replace h := ite_f c3 h
          refine J_bipush (-2 : Int32) dX7_again_34 (by decide) ?_
          exact K_iret dX7_again_36 rfl h
    · replace h := ite_t c1 h
      refine J_iconst (-1 : Int32) dX7_again_22 (by decide) ?_
      exact K_iret dX7_again_23 rfl h
theorem eX7_again {G : jGT} {d : Nat} {x1 : Int32} {x2 : Int32} {x3 : Int32} {M : jM} {post : Int32 → jM → Prop} (h : kX7_again_0 G d  x1 x2 x3 M post) : CI G (d + 1) mX7_again [.ref 0, .int x1, .int x2, .int x3] M post := Con_of_J ok_X7_again 0 rfl rfl h
def kX7_swing_0 (G : jGT) (d : Nat)  (x1 : Int32) (x2 : Int32) (M : jM) (post : Int32 → jM → Prop) : Prop := J G (d + 1) mX7_swing 0 [some (.ref 0), some (.int x1), some (.int x2)] [] jN jSH M jMR 0 0 0 0 (jQi post)
theorem bX7_swing_0 {G : jGT} {d : Nat} {x1 : Int32} {x2 : Int32} {M : jM} {post : Int32 → jM → Prop} (h : CI G d mX2_hasJudge [.ref 1, .int x1] M (fun r1 M1 => (if r1 = 0 then post (-1 : Int32) M1 else CI G d mX2_hasSuit [.ref 1, .int x2] M1 (fun r2 M2 => (if r2 = 0 then post (-1 : Int32) M2 else CV G d mX7_openFor [.ref 0, .int x1] M2 (fun M3 => CI G d mX2_pointsOf [.ref 1, .int x2] M3 (fun r4 M4 => CI G d mX5_firstTurn [.ref 27, .int r4] M4 (fun r5 M5 => post r5 M5)))))))) : kX7_swing_0 G d  x1 x2 M post := by
  unfold kX7_swing_0
  refine J_aload_0 dX7_swing_0 ?_
  refine J_getR 1 dX7_swing_1 fl_X7_14 jlt_0 jsh_0 (by decide) jrf_7_0 jmr_0_0 ?_
  refine J_iload_1 dX7_swing_4 ?_
  refine K_callVI (As := [.int x1]) (rest := []) dX7_swing_5 vl_X7_115 jlt_1 jsh_1 _ rfl rfl h rfl rfl (Nat.le_of_ble_eq_true rfl) (fun r1 M1 h => ?_)
  refine J_if_eq (t := 22) dX7_swing_8 (by decide) (fun c0 => ?_) (fun c0 => ?_)
  · replace h := ite_t c0 h
    refine J_iconst (-1 : Int32) dX7_swing_22 (by decide) ?_
    exact K_iret dX7_swing_23 rfl h
  · replace h := ite_f c0 h
    refine J_aload_0 dX7_swing_11 ?_
    refine J_getR 1 dX7_swing_12 fl_X7_14 jlt_0 jsh_0 (by decide) jrf_7_0 jmr_0_0 ?_
    refine J_iload_2 dX7_swing_15 ?_
    refine K_callVI (As := [.int x2]) (rest := []) dX7_swing_16 vl_X7_95 jlt_1 jsh_1 _ rfl rfl h rfl rfl (Nat.le_of_ble_eq_true rfl) (fun r2 M2 h => ?_)
    refine J_if_ne (t := 24) dX7_swing_19 (by decide) (fun c1 => ?_) (fun c1 => ?_)
    · replace h := ite_f c1 h
      refine J_aload_0 dX7_swing_24 ?_
      refine J_iload_1 dX7_swing_25 ?_
      refine K_callVV (As := [.int x1]) (rest := []) dX7_swing_26 vl_X7_124 jlt_0 jsh_0 _ rfl rfl h rfl rfl (Nat.le_of_ble_eq_true rfl) (fun M3 h => ?_)
      refine J_aload_0 dX7_swing_29 ?_
      refine J_getR 27 dX7_swing_30 fl_X7_35 jlt_0 jsh_0 (by decide) jrf_7_4 jmr_0_4 ?_
      refine J_aload_0 dX7_swing_33 ?_
      refine J_getR 1 dX7_swing_34 fl_X7_14 jlt_0 jsh_0 (by decide) jrf_7_0 jmr_0_0 ?_
      refine J_iload_2 dX7_swing_37 ?_
      refine K_callVI (As := [.int x2]) (rest := [.ref 27]) dX7_swing_38 vl_X7_99 jlt_1 jsh_1 _ rfl rfl h rfl rfl (Nat.le_of_ble_eq_true rfl) (fun r4 M4 h => ?_)
      refine K_callVI (As := [.int r4]) (rest := []) dX7_swing_41 vl_X7_218 jlt_27 jsh_27 _ rfl rfl h rfl rfl (Nat.le_of_ble_eq_true rfl) (fun r5 M5 h => ?_)
      exact K_iret dX7_swing_44 rfl h
    · replace h := ite_t c1 h
      refine J_iconst (-1 : Int32) dX7_swing_22 (by decide) ?_
      exact K_iret dX7_swing_23 rfl h
theorem eX7_swing {G : jGT} {d : Nat} {x1 : Int32} {x2 : Int32} {M : jM} {post : Int32 → jM → Prop} (h : kX7_swing_0 G d  x1 x2 M post) : CI G (d + 1) mX7_swing [.ref 0, .int x1, .int x2] M post := Con_of_J ok_X7_swing 0 rfl rfl h
def kX7_unlawful_0 (G : jGT) (d : Nat)  (x1 : Int32) (M : jM) (post : Int32 → jM → Prop) : Prop := J G (d + 1) mX7_unlawful 0 [some (.ref 0), some (.int x1)] [] jN jSH M jMR 0 0 0 0 (jQi post)
theorem bX7_unlawful_0 {G : jGT} {d : Nat} {x1 : Int32} {M : jM} {post : Int32 → jM → Prop} (h : CI G d mX2_hasJudge [.ref 1, .int x1] M (fun r1 M1 => (if r1 = 0 then post (-1 : Int32) M1 else CV G d mX7_openFor [.ref 0, .int x1] M1 (fun M2 => CI G d mX5_firstUnlawful [.ref 27] M2 (fun r3 M3 => post r3 M3))))) : kX7_unlawful_0 G d  x1 M post := by
  unfold kX7_unlawful_0
  refine J_aload_0 dX7_unlawful_0 ?_
  refine J_getR 1 dX7_unlawful_1 fl_X7_14 jlt_0 jsh_0 (by decide) jrf_7_0 jmr_0_0 ?_
  refine J_iload_1 dX7_unlawful_4 ?_
  refine K_callVI (As := [.int x1]) (rest := []) dX7_unlawful_5 vl_X7_115 jlt_1 jsh_1 _ rfl rfl h rfl rfl (Nat.le_of_ble_eq_true rfl) (fun r1 M1 h => ?_)
  refine J_if_ne (t := 13) dX7_unlawful_8 (by decide) (fun c0 => ?_) (fun c0 => ?_)
  · replace h := ite_f c0 h
    refine J_aload_0 dX7_unlawful_13 ?_
    refine J_iload_1 dX7_unlawful_14 ?_
    refine K_callVV (As := [.int x1]) (rest := []) dX7_unlawful_15 vl_X7_124 jlt_0 jsh_0 _ rfl rfl h rfl rfl (Nat.le_of_ble_eq_true rfl) (fun M2 h => ?_)
    refine J_aload_0 dX7_unlawful_18 ?_
    refine J_getR 27 dX7_unlawful_19 fl_X7_35 jlt_0 jsh_0 (by decide) jrf_7_4 jmr_0_4 ?_
    refine K_callVI (As := []) (rest := []) dX7_unlawful_22 vl_X7_221 jlt_27 jsh_27 _ rfl rfl h rfl rfl (Nat.le_of_ble_eq_true rfl) (fun r3 M3 h => ?_)
    exact K_iret dX7_unlawful_25 rfl h
  · replace h := ite_t c0 h
    refine J_iconst (-1 : Int32) dX7_unlawful_11 (by decide) ?_
    exact K_iret dX7_unlawful_12 rfl h
theorem eX7_unlawful {G : jGT} {d : Nat} {x1 : Int32} {M : jM} {post : Int32 → jM → Prop} (h : kX7_unlawful_0 G d  x1 M post) : CI G (d + 1) mX7_unlawful [.ref 0, .int x1] M post := Con_of_J ok_X7_unlawful 0 rfl rfl h
def kX7_wrong_0 (G : jGT) (d : Nat)  (x1 : Int32) (M : jM) (post : Int32 → jM → Prop) : Prop := J G (d + 1) mX7_wrong 0 [some (.ref 0), some (.int x1), none, none] [] jN jSH M jMR 0 0 0 0 (jQi post)
def kX7_wrong_22 (G : jGT) (d : Nat)  (x1 : Int32) (x2 : Int32) (x3 : Int32) (M : jM) (post : Int32 → jM → Prop) : Prop := J G (d + 1) mX7_wrong 22 [some (.ref 0), some (.int x1), some (.int x2), some (.int x3)] [] jN jSH M jMR 0 0 0 0 (jQi post)
theorem bX7_wrong_0 {G : jGT} {d : Nat} {x1 : Int32} {M : jM} {post : Int32 → jM → Prop} (h : CI G d mX2_hasJudge [.ref 1, .int x1] M (fun r1 M1 => (if r1 = 0 then post (-1 : Int32) M1 else CV G d mX7_openFor [.ref 0, .int x1] M1 (fun M2 => kX7_wrong_22 G d x1 (0 : Int32) (0 : Int32) M2 post)))) : kX7_wrong_0 G d  x1 M post := by
  unfold kX7_wrong_0
  refine J_aload_0 dX7_wrong_0 ?_
  refine J_getR 1 dX7_wrong_1 fl_X7_14 jlt_0 jsh_0 (by decide) jrf_7_0 jmr_0_0 ?_
  refine J_iload_1 dX7_wrong_4 ?_
  refine K_callVI (As := [.int x1]) (rest := []) dX7_wrong_5 vl_X7_115 jlt_1 jsh_1 _ rfl rfl h rfl rfl (Nat.le_of_ble_eq_true rfl) (fun r1 M1 h => ?_)
  refine J_if_ne (t := 13) dX7_wrong_8 (by decide) (fun c0 => ?_) (fun c0 => ?_)
  · replace h := ite_f c0 h
    refine J_aload_0 dX7_wrong_13 ?_
    refine J_iload_1 dX7_wrong_14 ?_
    refine K_callVV (As := [.int x1]) (rest := []) dX7_wrong_15 vl_X7_124 jlt_0 jsh_0 _ rfl rfl h rfl rfl (Nat.le_of_ble_eq_true rfl) (fun M2 h => ?_)
    refine J_iconst (0 : Int32) dX7_wrong_18 (by decide) ?_
    refine J_istore_2 dX7_wrong_19 rfl ?_
    refine J_iconst (0 : Int32) dX7_wrong_20 (by decide) ?_
    refine J_istore_3 dX7_wrong_21 rfl ?_
    exact h
  · replace h := ite_t c0 h
    refine J_iconst (-1 : Int32) dX7_wrong_11 (by decide) ?_
    exact K_iret dX7_wrong_12 rfl h
theorem bX7_wrong_22 {G : jGT} {d : Nat} {x1 : Int32} {x2 : Int32} {x3 : Int32} {M : jM} {post : Int32 → jM → Prop} (h : (if (M 1 8) ≤ x3 then post x2 M else (if (24 : Int32) ≤ x3 then post x2 M else CV G d mX5_turn [.ref 27, .int x3] M (fun M1 => CI G d mX5_firstUnlawful [.ref 27] M1 (fun r2 M2 => (if r2 = (-5 : Int32) then CV G d mX5_turn [.ref 27, .int x3] M2 (fun M4 => kX7_wrong_22 G d x1 (x2 ||| ((1 : Int32) <<< (x3 &&& 31))) (x3 + (1 : Int32)) M4 post) else CV G d mX5_turn [.ref 27, .int x3] M2 (fun M3 => kX7_wrong_22 G d x1 x2 (x3 + (1 : Int32)) M3 post))))))) : kX7_wrong_22 G d  x1 x2 x3 M post := by
  unfold kX7_wrong_22
  refine J_iload_3 dX7_wrong_22 ?_
  refine J_aload_0 dX7_wrong_23 ?_
  refine J_getR 1 dX7_wrong_24 fl_X7_14 jlt_0 jsh_0 (by decide) jrf_7_0 jmr_0_0 ?_
  refine J_getI dX7_wrong_27 fl_X7_173 jlt_1 jsh_1 (by decide) jrf_2_8 ?_
  refine J_icmp_ge (t := 79) dX7_wrong_30 (by decide) (fun c0 => ?_) (fun c0 => ?_)
  · replace h := ite_t c0 h
    refine J_iload_2 dX7_wrong_79 ?_
    exact K_iret dX7_wrong_80 rfl h
  · replace h := ite_f c0 h
    refine J_iload_3 dX7_wrong_33 ?_
    refine J_bipush (24 : Int32) dX7_wrong_34 (by decide) ?_
    refine J_icmp_ge (t := 79) dX7_wrong_36 (by decide) (fun c1 => ?_) (fun c1 => ?_)
    · replace h := ite_t c1 h
      refine J_iload_2 dX7_wrong_79 ?_
      exact K_iret dX7_wrong_80 rfl h
    · replace h := ite_f c1 h
      refine J_aload_0 dX7_wrong_39 ?_
      refine J_getR 27 dX7_wrong_40 fl_X7_35 jlt_0 jsh_0 (by decide) jrf_7_4 jmr_0_4 ?_
      refine J_iload_3 dX7_wrong_43 ?_
      refine K_callVV (As := [.int x3]) (rest := []) dX7_wrong_44 vl_X7_224 jlt_27 jsh_27 _ rfl rfl h rfl rfl (Nat.le_of_ble_eq_true rfl) (fun M1 h => ?_)
      refine J_aload_0 dX7_wrong_47 ?_
      refine J_getR 27 dX7_wrong_48 fl_X7_35 jlt_0 jsh_0 (by decide) jrf_7_4 jmr_0_4 ?_
      refine K_callVI (As := []) (rest := []) dX7_wrong_51 vl_X7_221 jlt_27 jsh_27 _ rfl rfl h rfl rfl (Nat.le_of_ble_eq_true rfl) (fun r2 M2 h => ?_)
      refine J_bipush (-5 : Int32) dX7_wrong_54 (by decide) ?_
      refine J_icmp_ne (t := 65) dX7_wrong_56 (by decide) (fun c2 => ?_) (fun c2 => ?_)
      · replace h := ite_f c2 h
        refine J_aload_0 dX7_wrong_65 ?_
        refine J_getR 27 dX7_wrong_66 fl_X7_35 jlt_0 jsh_0 (by decide) jrf_7_4 jmr_0_4 ?_
        refine J_iload_3 dX7_wrong_69 ?_
        refine K_callVV (As := [.int x3]) (rest := []) dX7_wrong_70 vl_X7_224 jlt_27 jsh_27 _ rfl rfl h rfl rfl (Nat.le_of_ble_eq_true rfl) (fun M3 h => ?_)
        refine J_iinc_3 (1 : Int32) dX7_wrong_73 (by decide) rfl ?_
        refine J_goto (t := 22) dX7_wrong_76 (by decide) ?_
        exact h
      · replace h := ite_t c2 h
        refine J_iload_2 dX7_wrong_59 ?_
        refine J_iconst (1 : Int32) dX7_wrong_60 (by decide) ?_
        refine J_iload_3 dX7_wrong_61 ?_
        refine J_ishl dX7_wrong_62 ?_
        refine J_ior dX7_wrong_63 ?_
        refine J_istore_2 dX7_wrong_64 rfl ?_
        refine J_aload_0 dX7_wrong_65 ?_
        refine J_getR 27 dX7_wrong_66 fl_X7_35 jlt_0 jsh_0 (by decide) jrf_7_4 jmr_0_4 ?_
        refine J_iload_3 dX7_wrong_69 ?_
        refine K_callVV (As := [.int x3]) (rest := []) dX7_wrong_70 vl_X7_224 jlt_27 jsh_27 _ rfl rfl h rfl rfl (Nat.le_of_ble_eq_true rfl) (fun M4 h => ?_)
        refine J_iinc_3 (1 : Int32) dX7_wrong_73 (by decide) rfl ?_
        refine J_goto (t := 22) dX7_wrong_76 (by decide) ?_
        exact h
theorem eX7_wrong {G : jGT} {d : Nat} {x1 : Int32} {M : jM} {post : Int32 → jM → Prop} (h : kX7_wrong_0 G d  x1 M post) : CI G (d + 1) mX7_wrong [.ref 0, .int x1] M post := Con_of_J ok_X7_wrong 2 rfl rfl h
def kX7_bars_0 (G : jGT) (d : Nat)  (x1 : Int32) (x2 : Int32) (M : jM) (post : Int32 → jM → Prop) : Prop := J G (d + 1) mX7_bars 0 [some (.ref 0), some (.int x1), some (.int x2), none, none, none, none] [] jN jSH M jMR 0 0 0 0 (jQi post)
def kX7_bars_40 (G : jGT) (d : Nat)  (x1 : Int32) (x2 : Int32) (x3 : Int32) (x4 : Int32) (x5 : Int32) (x6 : Int32) (M : jM) (post : Int32 → jM → Prop) : Prop := J G (d + 1) mX7_bars 40 [some (.ref 0), some (.int x1), some (.int x2), some (.int x3), some (.int x4), some (.int x5), some (.int x6)] [] jN jSH M jMR 0 0 0 0 (jQi post)
theorem bX7_bars_0 {G : jGT} {d : Nat} {x1 : Int32} {x2 : Int32} {M : jM} {post : Int32 → jM → Prop} (h : CI G d mX2_hasJudge [.ref 1, .int x1] M (fun r1 M1 => (if r1 = 0 then post (-1 : Int32) M1 else (if x2 < 0 then post (-1 : Int32) M1 else (if x2 ≤ (2 : Int32) then CV G d mX7_openFor [.ref 0, .int x1] M1 (fun M2 => kX7_bars_40 G d x1 x2 (0 : Int32) (-5 : Int32) (-5 : Int32) (0 : Int32) M2 post) else post (-1 : Int32) M1))))) : kX7_bars_0 G d  x1 x2 M post := by
  unfold kX7_bars_0
  refine J_aload_0 dX7_bars_0 ?_
  refine J_getR 1 dX7_bars_1 fl_X7_14 jlt_0 jsh_0 (by decide) jrf_7_0 jmr_0_0 ?_
  refine J_iload_1 dX7_bars_4 ?_
  refine K_callVI (As := [.int x1]) (rest := []) dX7_bars_5 vl_X7_115 jlt_1 jsh_1 _ rfl rfl h rfl rfl (Nat.le_of_ble_eq_true rfl) (fun r1 M1 h => ?_)
  refine J_if_eq (t := 20) dX7_bars_8 (by decide) (fun c0 => ?_) (fun c0 => ?_)
  · replace h := ite_t c0 h
    refine J_iconst (-1 : Int32) dX7_bars_20 (by decide) ?_
    exact K_iret dX7_bars_21 rfl h
  · replace h := ite_f c0 h
    refine J_iload_2 dX7_bars_11 ?_
    refine J_if_lt (t := 20) dX7_bars_12 (by decide) (fun c1 => ?_) (fun c1 => ?_)
    · replace h := ite_t c1 h
      refine J_iconst (-1 : Int32) dX7_bars_20 (by decide) ?_
      exact K_iret dX7_bars_21 rfl h
    · replace h := ite_f c1 h
      refine J_iload_2 dX7_bars_15 ?_
      refine J_iconst (2 : Int32) dX7_bars_16 (by decide) ?_
      refine J_icmp_le (t := 22) dX7_bars_17 (by decide) (fun c2 => ?_) (fun c2 => ?_)
      · replace h := ite_t c2 h
        refine J_aload_0 dX7_bars_22 ?_
        refine J_iload_1 dX7_bars_23 ?_
        refine K_callVV (As := [.int x1]) (rest := []) dX7_bars_24 vl_X7_124 jlt_0 jsh_0 _ rfl rfl h rfl rfl (Nat.le_of_ble_eq_true rfl) (fun M2 h => ?_)
        refine J_iconst (0 : Int32) dX7_bars_27 (by decide) ?_
        refine J_istore_3 dX7_bars_28 rfl ?_
        refine J_bipush (-5 : Int32) dX7_bars_29 (by decide) ?_
        refine J_istore_4 dX7_bars_31 rfl ?_
        refine J_bipush (-5 : Int32) dX7_bars_33 (by decide) ?_
        refine J_istore_5 dX7_bars_35 rfl ?_
        refine J_iconst (0 : Int32) dX7_bars_37 (by decide) ?_
        refine J_istore_6 dX7_bars_38 rfl ?_
        exact h
      · replace h := ite_f c2 h
        refine J_iconst (-1 : Int32) dX7_bars_20 (by decide) ?_
        exact K_iret dX7_bars_21 rfl h
theorem bX7_bars_40 {G : jGT} {d : Nat} {x1 : Int32} {x2 : Int32} {x3 : Int32} {x4 : Int32} {x5 : Int32} {x6 : Int32} {M : jM} {post : Int32 → jM → Prop} (h : (if (40 : Int32) < x6 then (if x2 = 0 then post x3 M else (if x2 = (1 : Int32) then post x4 M else post x5 M)) else CV G d mX5_setBar [.ref 27, .int x6] M (fun M1 => CI G d mX5_firstUnlawful [.ref 27] M1 (fun r2 M2 => (if r2 = (-5 : Int32) then (if (x3 + (1 : Int32)) = (1 : Int32) then kX7_bars_40 G d x1 x2 (x3 + (1 : Int32)) x6 x6 (x6 + (1 : Int32)) M2 post else kX7_bars_40 G d x1 x2 (x3 + (1 : Int32)) x4 x6 (x6 + (1 : Int32)) M2 post) else kX7_bars_40 G d x1 x2 x3 x4 x5 (x6 + (1 : Int32)) M2 post))))) : kX7_bars_40 G d  x1 x2 x3 x4 x5 x6 M post := by
  unfold kX7_bars_40
  refine J_iload_6 dX7_bars_40 ?_
  refine J_bipush (40 : Int32) dX7_bars_42 (by decide) ?_
  refine J_icmp_gt (t := 95) dX7_bars_44 (by decide) (fun c0 => ?_) (fun c0 => ?_)
  · replace h := ite_t c0 h
    refine J_iload_2 dX7_bars_95 ?_
    refine J_if_ne (t := 101) dX7_bars_96 (by decide) (fun c1 => ?_) (fun c1 => ?_)
    · replace h := ite_f c1 h
      refine J_iload_2 dX7_bars_101 ?_
      refine J_iconst (1 : Int32) dX7_bars_102 (by decide) ?_
      refine J_icmp_ne (t := 111) dX7_bars_103 (by decide) (fun c2 => ?_) (fun c2 => ?_)
      · replace h := ite_f c2 h
        refine J_iload_5 dX7_bars_111 ?_
        exact K_iret dX7_bars_113 rfl h
      · replace h := ite_t c2 h
        refine J_iload_4 dX7_bars_106 ?_
        refine J_goto (t := 113) dX7_bars_108 (by decide) ?_
        exact K_iret dX7_bars_113 rfl h
    · replace h := ite_t c1 h
      refine J_iload_3 dX7_bars_99 ?_
      exact K_iret dX7_bars_100 rfl h
  · replace h := ite_f c0 h
    refine J_aload_0 dX7_bars_47 ?_
    refine J_getR 27 dX7_bars_48 fl_X7_35 jlt_0 jsh_0 (by decide) jrf_7_4 jmr_0_4 ?_
    refine J_iload_6 dX7_bars_51 ?_
    refine K_callVV (As := [.int x6]) (rest := []) dX7_bars_53 vl_X7_227 jlt_27 jsh_27 _ rfl rfl h rfl rfl (Nat.le_of_ble_eq_true rfl) (fun M1 h => ?_)
    refine J_aload_0 dX7_bars_56 ?_
    refine J_getR 27 dX7_bars_57 fl_X7_35 jlt_0 jsh_0 (by decide) jrf_7_4 jmr_0_4 ?_
    refine K_callVI (As := []) (rest := []) dX7_bars_60 vl_X7_221 jlt_27 jsh_27 _ rfl rfl h rfl rfl (Nat.le_of_ble_eq_true rfl) (fun r2 M2 h => ?_)
    refine J_bipush (-5 : Int32) dX7_bars_63 (by decide) ?_
    refine J_icmp_ne (t := 89) dX7_bars_65 (by decide) (fun c1 => ?_) (fun c1 => ?_)
    · replace h := ite_f c1 h
      refine J_iinc_6 (1 : Int32) dX7_bars_89 (by decide) rfl ?_
      refine J_goto (t := 40) dX7_bars_92 (by decide) ?_
      exact h
    · replace h := ite_t c1 h
      refine J_iinc_3 (1 : Int32) dX7_bars_68 (by decide) rfl ?_
      refine J_iload_3 dX7_bars_71 ?_
      refine J_iconst (1 : Int32) dX7_bars_72 (by decide) ?_
      refine J_icmp_ne (t := 81) dX7_bars_73 (by decide) (fun c2 => ?_) (fun c2 => ?_)
      · replace h := ite_f c2 h
        refine J_iload_4 dX7_bars_81 ?_
        refine J_istore_4 dX7_bars_83 rfl ?_
        refine J_iload_6 dX7_bars_85 ?_
        refine J_istore_5 dX7_bars_87 rfl ?_
        refine J_iinc_6 (1 : Int32) dX7_bars_89 (by decide) rfl ?_
        refine J_goto (t := 40) dX7_bars_92 (by decide) ?_
        exact h
      · replace h := ite_t c2 h
        refine J_iload_6 dX7_bars_76 ?_
        refine J_goto (t := 83) dX7_bars_78 (by decide) ?_
        refine J_istore_4 dX7_bars_83 rfl ?_
        refine J_iload_6 dX7_bars_85 ?_
        refine J_istore_5 dX7_bars_87 rfl ?_
        refine J_iinc_6 (1 : Int32) dX7_bars_89 (by decide) rfl ?_
        refine J_goto (t := 40) dX7_bars_92 (by decide) ?_
        exact h
theorem eX7_bars {G : jGT} {d : Nat} {x1 : Int32} {x2 : Int32} {M : jM} {post : Int32 → jM → Prop} (h : kX7_bars_0 G d  x1 x2 M post) : CI G (d + 1) mX7_bars [.ref 0, .int x1, .int x2] M post := Con_of_J ok_X7_bars 4 rfl rfl h
def kX7_queue_0 (G : jGT) (d : Nat)  (x1 : Int32) (M : jM) (post : Int32 → jM → Prop) : Prop := J G (d + 1) mX7_queue 0 [some (.ref 0), some (.int x1)] [] jN jSH M jMR 0 0 0 0 (jQi post)
theorem bX7_queue_0 {G : jGT} {d : Nat} {x1 : Int32} {M : jM} {post : Int32 → jM → Prop} (h : (if x1 = (-1 : Int32) then post (0 : Int32) (jup M 1 10 (0 : Int32)) else CI G d mX2_hasSuit [.ref 1, .int x1] M (fun r1 M1 => (if r1 = 0 then post (-1 : Int32) M1 else (if (M1 1 10) < 0 then post (-4 : Int32) M1 else (if (M1 1 10) < (8 : Int32) then (vp_in (M1 1 10) 8 ∧ post ((M1 1 10) + (1 : Int32)) (jup (jup M1 8 ((M1 1 10).toNatClampNeg) x1) 1 10 ((M1 1 10) + (1 : Int32)))) else post (-4 : Int32) M1)))))) : kX7_queue_0 G d  x1 M post := by
  unfold kX7_queue_0
  refine J_iload_1 dX7_queue_0 ?_
  refine J_iconst (-1 : Int32) dX7_queue_1 (by decide) ?_
  refine J_icmp_ne (t := 15) dX7_queue_2 (by decide) (fun c0 => ?_) (fun c0 => ?_)
  · replace h := ite_f c0 h
    refine J_aload_0 dX7_queue_15 ?_
    refine J_getR 1 dX7_queue_16 fl_X7_14 jlt_0 jsh_0 (by decide) jrf_7_0 jmr_0_0 ?_
    refine J_iload_1 dX7_queue_19 ?_
    refine K_callVI (As := [.int x1]) (rest := []) dX7_queue_20 vl_X7_95 jlt_1 jsh_1 _ rfl rfl h rfl rfl (Nat.le_of_ble_eq_true rfl) (fun r1 M1 h => ?_)
    refine J_if_ne (t := 28) dX7_queue_23 (by decide) (fun c1 => ?_) (fun c1 => ?_)
    · replace h := ite_f c1 h
      refine J_aload_0 dX7_queue_28 ?_
      refine J_getR 1 dX7_queue_29 fl_X7_14 jlt_0 jsh_0 (by decide) jrf_7_0 jmr_0_0 ?_
      refine J_getI dX7_queue_32 fl_X7_230 jlt_1 jsh_1 (by decide) jrf_2_10 ?_
      refine J_if_lt (t := 50) dX7_queue_35 (by decide) (fun c2 => ?_) (fun c2 => ?_)
      · replace h := ite_t c2 h
        refine J_bipush (-4 : Int32) dX7_queue_50 (by decide) ?_
        exact K_iret dX7_queue_52 rfl h
      · replace h := ite_f c2 h
        refine J_aload_0 dX7_queue_38 ?_
        refine J_getR 1 dX7_queue_39 fl_X7_14 jlt_0 jsh_0 (by decide) jrf_7_0 jmr_0_0 ?_
        refine J_getI dX7_queue_42 fl_X7_230 jlt_1 jsh_1 (by decide) jrf_2_10 ?_
        refine J_bipush (8 : Int32) dX7_queue_45 (by decide) ?_
        refine J_icmp_lt (t := 53) dX7_queue_47 (by decide) (fun c3 => ?_) (fun c3 => ?_)
        · replace h := ite_t c3 h
          refine J_aload_0 dX7_queue_53 ?_
          refine J_getR 1 dX7_queue_54 fl_X7_14 jlt_0 jsh_0 (by decide) jrf_7_0 jmr_0_0 ?_
          refine J_getR 8 dX7_queue_57 fl_X7_233 jlt_1 jsh_1 (by decide) jrf_2_11 jmr_1_11 ?_
          refine J_aload_0 dX7_queue_60 ?_
          refine J_getR 1 dX7_queue_61 fl_X7_14 jlt_0 jsh_0 (by decide) jrf_7_0 jmr_0_0 ?_
          refine J_getI dX7_queue_64 fl_X7_230 jlt_1 jsh_1 (by decide) jrf_2_10 ?_
          refine J_iload_1 dX7_queue_67 ?_
          obtain ⟨g4, h⟩ := h
          refine K_iast ((M1 1 10).toNatClampNeg) rfl dX7_queue_68 jlt_8 jsh_8 g4 ?_
          refine J_aload_0 dX7_queue_69 ?_
          refine J_getR 1 dX7_queue_70 fl_X7_14 jlt_0 jsh_0 (by decide) jrf_7_0 jmr_0_0 ?_
          refine J_dup dX7_queue_73 rfl ?_
          refine J_getI dX7_queue_74 fl_X7_230 jlt_1 jsh_1 (by decide) jrf_2_10 ?_
          refine J_iconst (1 : Int32) dX7_queue_77 (by decide) ?_
          refine J_iadd dX7_queue_78 ?_
          refine J_putI false dX7_queue_79 pl_X7_230 jlt_1 jsh_1 (by decide) jrf_2_10 (fun q => absurd q (by decide)) ?_
          refine J_aload_0 dX7_queue_82 ?_
          refine J_getR 1 dX7_queue_83 fl_X7_14 jlt_0 jsh_0 (by decide) jrf_7_0 jmr_0_0 ?_
          refine J_getI dX7_queue_86 fl_X7_230 jlt_1 jsh_1 (by decide) jrf_2_10 ?_
          exact K_iret dX7_queue_89 rfl h
        · replace h := ite_f c3 h
          refine J_bipush (-4 : Int32) dX7_queue_50 (by decide) ?_
          exact K_iret dX7_queue_52 rfl h
    · replace h := ite_t c1 h
      refine J_iconst (-1 : Int32) dX7_queue_26 (by decide) ?_
      exact K_iret dX7_queue_27 rfl h
  · replace h := ite_t c0 h
    refine J_aload_0 dX7_queue_5 ?_
    refine J_getR 1 dX7_queue_6 fl_X7_14 jlt_0 jsh_0 (by decide) jrf_7_0 jmr_0_0 ?_
    refine J_iconst (0 : Int32) dX7_queue_9 (by decide) ?_
    refine J_putI false dX7_queue_10 pl_X7_230 jlt_1 jsh_1 (by decide) jrf_2_10 (fun q => absurd q (by decide)) ?_
    refine J_iconst (0 : Int32) dX7_queue_13 (by decide) ?_
    exact K_iret dX7_queue_14 rfl h
theorem eX7_queue {G : jGT} {d : Nat} {x1 : Int32} {M : jM} {post : Int32 → jM → Prop} (h : kX7_queue_0 G d  x1 M post) : CI G (d + 1) mX7_queue [.ref 0, .int x1] M post := Con_of_J ok_X7_queue 0 rfl rfl h
def kX7_odds_0 (G : jGT) (d : Nat)  (x1 : Int32) (x2 : Int32) (x3 : Int32) (M : jM) (post : Int64 → jM → Prop) : Prop := J G (d + 1) mX7_odds 0 [some (.ref 0), some (.int x1), some (.int x2), some (.int x3)] [] jN jSH M jMR 0 0 0 0 (jQl post)
theorem bX7_odds_0 {G : jGT} {d : Nat} {x1 : Int32} {x2 : Int32} {x3 : Int32} {M : jM} {post : Int64 → jM → Prop} (h : CI G d mX2_hasJudge [.ref 1, .int x1] M (fun r1 M1 => (if r1 = 0 then post (-9223372036854775808 : Int64) M1 else (if x2 < 0 then post (-9223372036854775808 : Int64) M1 else (if (M1 1 10) ≤ x2 then post (-9223372036854775808 : Int64) M1 else (if (8 : Int32) ≤ x2 then post (-9223372036854775808 : Int64) M1 else (if x3 < 0 then post (-9223372036854775808 : Int64) M1 else (if x3 ≤ (1 : Int32) then CV G d mX7_openFor [.ref 0, .int x1] M1 (fun M2 => CV G d mX0_fall [.ref 104, .ref 1] M2 (fun M3 => (vp_in x2 8 ∧ CL G d mX0_part [.int (M3 106 x2.toNatClampNeg), .int x3] M3 (fun r4 M4 => post r4 M4)))) else post (-9223372036854775808 : Int64) M1)))))))) : kX7_odds_0 G d  x1 x2 x3 M post := by
  unfold kX7_odds_0
  refine J_aload_0 dX7_odds_0 ?_
  refine J_getR 1 dX7_odds_1 fl_X7_14 jlt_0 jsh_0 (by decide) jrf_7_0 jmr_0_0 ?_
  refine J_iload_1 dX7_odds_4 ?_
  refine K_callVI (As := [.int x1]) (rest := []) dX7_odds_5 vl_X7_115 jlt_1 jsh_1 _ rfl rfl h rfl rfl (Nat.le_of_ble_eq_true rfl) (fun r1 M1 h => ?_)
  refine J_if_eq (t := 41) dX7_odds_8 (by decide) (fun c0 => ?_) (fun c0 => ?_)
  · replace h := ite_t c0 h
    refine J_ldc2 (-9223372036854775808 : Int64) dX7_odds_41 w_823 ?_
    exact K_lret dX7_odds_44 rfl h
  · replace h := ite_f c0 h
    refine J_iload_2 dX7_odds_11 ?_
    refine J_if_lt (t := 41) dX7_odds_12 (by decide) (fun c1 => ?_) (fun c1 => ?_)
    · replace h := ite_t c1 h
      refine J_ldc2 (-9223372036854775808 : Int64) dX7_odds_41 w_823 ?_
      exact K_lret dX7_odds_44 rfl h
    · replace h := ite_f c1 h
      refine J_iload_2 dX7_odds_15 ?_
      refine J_aload_0 dX7_odds_16 ?_
      refine J_getR 1 dX7_odds_17 fl_X7_14 jlt_0 jsh_0 (by decide) jrf_7_0 jmr_0_0 ?_
      refine J_getI dX7_odds_20 fl_X7_230 jlt_1 jsh_1 (by decide) jrf_2_10 ?_
      refine J_icmp_ge (t := 41) dX7_odds_23 (by decide) (fun c2 => ?_) (fun c2 => ?_)
      · replace h := ite_t c2 h
        refine J_ldc2 (-9223372036854775808 : Int64) dX7_odds_41 w_823 ?_
        exact K_lret dX7_odds_44 rfl h
      · replace h := ite_f c2 h
        refine J_iload_2 dX7_odds_26 ?_
        refine J_bipush (8 : Int32) dX7_odds_27 (by decide) ?_
        refine J_icmp_ge (t := 41) dX7_odds_29 (by decide) (fun c3 => ?_) (fun c3 => ?_)
        · replace h := ite_t c3 h
          refine J_ldc2 (-9223372036854775808 : Int64) dX7_odds_41 w_823 ?_
          exact K_lret dX7_odds_44 rfl h
        · replace h := ite_f c3 h
          refine J_iload_3 dX7_odds_32 ?_
          refine J_if_lt (t := 41) dX7_odds_33 (by decide) (fun c4 => ?_) (fun c4 => ?_)
          · replace h := ite_t c4 h
            refine J_ldc2 (-9223372036854775808 : Int64) dX7_odds_41 w_823 ?_
            exact K_lret dX7_odds_44 rfl h
          · replace h := ite_f c4 h
            refine J_iload_3 dX7_odds_36 ?_
            refine J_iconst (1 : Int32) dX7_odds_37 (by decide) ?_
            refine J_icmp_le (t := 45) dX7_odds_38 (by decide) (fun c5 => ?_) (fun c5 => ?_)
            · replace h := ite_t c5 h
              refine J_aload_0 dX7_odds_45 ?_
              refine J_iload_1 dX7_odds_46 ?_
              refine K_callVV (As := [.int x1]) (rest := []) dX7_odds_47 vl_X7_124 jlt_0 jsh_0 _ rfl rfl h rfl rfl (Nat.le_of_ble_eq_true rfl) (fun M2 h => ?_)
              refine J_aload_0 dX7_odds_50 ?_
              refine J_getR 104 dX7_odds_51 fl_X7_51 jlt_0 jsh_0 (by decide) jrf_7_6 jmr_0_6 ?_
              refine J_aload_0 dX7_odds_54 ?_
              refine J_getR 1 dX7_odds_55 fl_X7_14 jlt_0 jsh_0 (by decide) jrf_7_0 jmr_0_0 ?_
              refine K_callVV (As := [.ref 1]) (rest := []) dX7_odds_58 vl_X7_238 jlt_104 jsh_104 _ rfl rfl h rfl rfl (Nat.le_of_ble_eq_true rfl) (fun M3 h => ?_)
              refine J_aload_0 dX7_odds_61 ?_
              refine J_getR 104 dX7_odds_62 fl_X7_51 jlt_0 jsh_0 (by decide) jrf_7_6 jmr_0_6 ?_
              refine J_getR 106 dX7_odds_65 fl_X7_242 jlt_104 jsh_104 (by decide) jrf_0_2 jmr_104_2 ?_
              refine J_iload_2 dX7_odds_68 ?_
              obtain ⟨g6, h⟩ := h
              refine K_iald x2.toNatClampNeg rfl dX7_odds_69 jlt_106 jsh_106 g6 ?_
              refine J_iload_3 dX7_odds_70 ?_
              refine K_callSL (rest := []) dX7_odds_71 sl_X7_245 h rfl rfl (Nat.le_of_ble_eq_true rfl) (fun r4 M4 h => ?_)
              exact K_lret dX7_odds_74 rfl h
            · replace h := ite_f c5 h
              refine J_ldc2 (-9223372036854775808 : Int64) dX7_odds_41 w_823 ?_
              exact K_lret dX7_odds_44 rfl h
theorem eX7_odds {G : jGT} {d : Nat} {x1 : Int32} {x2 : Int32} {x3 : Int32} {M : jM} {post : Int64 → jM → Prop} (h : kX7_odds_0 G d  x1 x2 x3 M post) : CL G (d + 1) mX7_odds [.ref 0, .int x1, .int x2, .int x3] M post := Con_of_J ok_X7_odds 0 rfl rfl h
def kX7_expects_0 (G : jGT) (d : Nat)  (x1 : Int32) (x2 : Int32) (M : jM) (post : Int64 → jM → Prop) : Prop := J G (d + 1) mX7_expects 0 [some (.ref 0), some (.int x1), some (.int x2), none, none] [] jN jSH M jMR 0 0 0 0 (jQl post)
def kX7_expects_45 (G : jGT) (d : Nat)  (x1 : Int32) (x2 : Int32) (x3 : Int32) (x4 : Int32) (M : jM) (post : Int64 → jM → Prop) : Prop := J G (d + 1) mX7_expects 45 [some (.ref 0), some (.int x1), some (.int x2), some (.int x3), some (.int x4)] [] jN jSH M jMR 0 0 0 0 (jQl post)
theorem bX7_expects_0 {G : jGT} {d : Nat} {x1 : Int32} {x2 : Int32} {M : jM} {post : Int64 → jM → Prop} (h : CI G d mX2_hasJudge [.ref 1, .int x1] M (fun r1 M1 => (if r1 = 0 then post (-9223372036854775808 : Int64) M1 else (if x2 < 0 then post (-9223372036854775808 : Int64) M1 else (if x2 ≤ (1 : Int32) then CV G d mX7_openFor [.ref 0, .int x1] M1 (fun M2 => CV G d mX0_fall [.ref 104, .ref 1] M2 (fun M3 => kX7_expects_45 G d x1 x2 (0 : Int32) (0 : Int32) M3 post)) else post (-9223372036854775808 : Int64) M1))))) : kX7_expects_0 G d  x1 x2 M post := by
  unfold kX7_expects_0
  refine J_aload_0 dX7_expects_0 ?_
  refine J_getR 1 dX7_expects_1 fl_X7_14 jlt_0 jsh_0 (by decide) jrf_7_0 jmr_0_0 ?_
  refine J_iload_1 dX7_expects_4 ?_
  refine K_callVI (As := [.int x1]) (rest := []) dX7_expects_5 vl_X7_115 jlt_1 jsh_1 _ rfl rfl h rfl rfl (Nat.le_of_ble_eq_true rfl) (fun r1 M1 h => ?_)
  refine J_if_eq (t := 20) dX7_expects_8 (by decide) (fun c0 => ?_) (fun c0 => ?_)
  · replace h := ite_t c0 h
    refine J_ldc2 (-9223372036854775808 : Int64) dX7_expects_20 w_823 ?_
    exact K_lret dX7_expects_23 rfl h
  · replace h := ite_f c0 h
    refine J_iload_2 dX7_expects_11 ?_
    refine J_if_lt (t := 20) dX7_expects_12 (by decide) (fun c1 => ?_) (fun c1 => ?_)
    · replace h := ite_t c1 h
      refine J_ldc2 (-9223372036854775808 : Int64) dX7_expects_20 w_823 ?_
      exact K_lret dX7_expects_23 rfl h
    · replace h := ite_f c1 h
      refine J_iload_2 dX7_expects_15 ?_
      refine J_iconst (1 : Int32) dX7_expects_16 (by decide) ?_
      refine J_icmp_le (t := 24) dX7_expects_17 (by decide) (fun c2 => ?_) (fun c2 => ?_)
      · replace h := ite_t c2 h
        refine J_aload_0 dX7_expects_24 ?_
        refine J_iload_1 dX7_expects_25 ?_
        refine K_callVV (As := [.int x1]) (rest := []) dX7_expects_26 vl_X7_124 jlt_0 jsh_0 _ rfl rfl h rfl rfl (Nat.le_of_ble_eq_true rfl) (fun M2 h => ?_)
        refine J_aload_0 dX7_expects_29 ?_
        refine J_getR 104 dX7_expects_30 fl_X7_51 jlt_0 jsh_0 (by decide) jrf_7_6 jmr_0_6 ?_
        refine J_aload_0 dX7_expects_33 ?_
        refine J_getR 1 dX7_expects_34 fl_X7_14 jlt_0 jsh_0 (by decide) jrf_7_0 jmr_0_0 ?_
        refine K_callVV (As := [.ref 1]) (rest := []) dX7_expects_37 vl_X7_238 jlt_104 jsh_104 _ rfl rfl h rfl rfl (Nat.le_of_ble_eq_true rfl) (fun M3 h => ?_)
        refine J_iconst (0 : Int32) dX7_expects_40 (by decide) ?_
        refine J_istore_3 dX7_expects_41 rfl ?_
        refine J_iconst (0 : Int32) dX7_expects_42 (by decide) ?_
        refine J_istore_4 dX7_expects_43 rfl ?_
        exact h
      · replace h := ite_f c2 h
        refine J_ldc2 (-9223372036854775808 : Int64) dX7_expects_20 w_823 ?_
        exact K_lret dX7_expects_23 rfl h
theorem bX7_expects_45 {G : jGT} {d : Nat} {x1 : Int32} {x2 : Int32} {x3 : Int32} {x4 : Int32} {M : jM} {post : Int64 → jM → Prop} (h : (if (M 1 10) ≤ x4 then CL G d mX0_part [.int x3, .int x2] M (fun r1 M1 => post r1 M1) else (if (8 : Int32) ≤ x4 then CL G d mX0_part [.int x3, .int x2] M (fun r2 M2 => post r2 M2) else (vp_in x4 8 ∧ (vp_in x4 8 ∧ CI G d mX2_worthOf [.ref 1, .int (M 8 x4.toNatClampNeg)] M (fun r3 M3 => kX7_expects_45 G d x1 x2 (x3 + ((M 106 x4.toNatClampNeg) * r3)) (x4 + (1 : Int32)) M3 post)))))) : kX7_expects_45 G d  x1 x2 x3 x4 M post := by
  unfold kX7_expects_45
  refine J_iload_4 dX7_expects_45 ?_
  refine J_aload_0 dX7_expects_47 ?_
  refine J_getR 1 dX7_expects_48 fl_X7_14 jlt_0 jsh_0 (by decide) jrf_7_0 jmr_0_0 ?_
  refine J_getI dX7_expects_51 fl_X7_230 jlt_1 jsh_1 (by decide) jrf_2_10 ?_
  refine J_icmp_ge (t := 101) dX7_expects_54 (by decide) (fun c0 => ?_) (fun c0 => ?_)
  · replace h := ite_t c0 h
    refine J_iload_3 dX7_expects_101 ?_
    refine J_iload_2 dX7_expects_102 ?_
    refine K_callSL (rest := []) dX7_expects_103 sl_X7_245 h rfl rfl (Nat.le_of_ble_eq_true rfl) (fun r1 M1 h => ?_)
    exact K_lret dX7_expects_106 rfl h
  · replace h := ite_f c0 h
    refine J_iload_4 dX7_expects_57 ?_
    refine J_bipush (8 : Int32) dX7_expects_59 (by decide) ?_
    refine J_icmp_ge (t := 101) dX7_expects_61 (by decide) (fun c1 => ?_) (fun c1 => ?_)
    · replace h := ite_t c1 h
      refine J_iload_3 dX7_expects_101 ?_
      refine J_iload_2 dX7_expects_102 ?_
      refine K_callSL (rest := []) dX7_expects_103 sl_X7_245 h rfl rfl (Nat.le_of_ble_eq_true rfl) (fun r2 M2 h => ?_)
      exact K_lret dX7_expects_106 rfl h
    · replace h := ite_f c1 h
      refine J_iload_3 dX7_expects_64 ?_
      refine J_aload_0 dX7_expects_65 ?_
      refine J_getR 104 dX7_expects_66 fl_X7_51 jlt_0 jsh_0 (by decide) jrf_7_6 jmr_0_6 ?_
      refine J_getR 106 dX7_expects_69 fl_X7_242 jlt_104 jsh_104 (by decide) jrf_0_2 jmr_104_2 ?_
      refine J_iload_4 dX7_expects_72 ?_
      obtain ⟨g2, h⟩ := h
      refine K_iald x4.toNatClampNeg rfl dX7_expects_74 jlt_106 jsh_106 g2 ?_
      refine J_aload_0 dX7_expects_75 ?_
      refine J_getR 1 dX7_expects_76 fl_X7_14 jlt_0 jsh_0 (by decide) jrf_7_0 jmr_0_0 ?_
      refine J_aload_0 dX7_expects_79 ?_
      refine J_getR 1 dX7_expects_80 fl_X7_14 jlt_0 jsh_0 (by decide) jrf_7_0 jmr_0_0 ?_
      refine J_getR 8 dX7_expects_83 fl_X7_233 jlt_1 jsh_1 (by decide) jrf_2_11 jmr_1_11 ?_
      refine J_iload_4 dX7_expects_86 ?_
      obtain ⟨g3, h⟩ := h
      refine K_iald x4.toNatClampNeg rfl dX7_expects_88 jlt_8 jsh_8 g3 ?_
      refine K_callVI (As := [.int (M 8 x4.toNatClampNeg)]) (rest := [.int (M 106 x4.toNatClampNeg), .int x3]) dX7_expects_89 vl_X7_103 jlt_1 jsh_1 _ rfl rfl h rfl rfl (Nat.le_of_ble_eq_true rfl) (fun r3 M3 h => ?_)
      refine J_imul dX7_expects_92 ?_
      refine J_iadd dX7_expects_93 ?_
      refine J_istore_3 dX7_expects_94 rfl ?_
      refine J_iinc_4 (1 : Int32) dX7_expects_95 (by decide) rfl ?_
      refine J_goto (t := 45) dX7_expects_98 (by decide) ?_
      exact h
theorem eX7_expects {G : jGT} {d : Nat} {x1 : Int32} {x2 : Int32} {M : jM} {post : Int64 → jM → Prop} (h : kX7_expects_0 G d  x1 x2 M post) : CL G (d + 1) mX7_expects [.ref 0, .int x1, .int x2] M post := Con_of_J ok_X7_expects 2 rfl rfl h
def kX7_act_0 (G : jGT) (d : Nat)  (x1 : Int32) (x2 : Int32) (x3 : Int32) (M : jM) (post : Int32 → jM → Prop) : Prop := J G (d + 1) mX7_act 0 [some (.ref 0), some (.int x1), some (.int x2), some (.int x3)] [] jN jSH M jMR 0 0 0 0 (jQi post)
theorem bX7_act_0 {G : jGT} {d : Nat} {x1 : Int32} {x2 : Int32} {x3 : Int32} {M : jM} {post : Int32 → jM → Prop} (h : CI G d mX2_hasJudge [.ref 1, .int x1] M (fun r1 M1 => (if r1 = 0 then post (0 : Int32) (jup M1 115 1 (0 : Int32)) else (if x2 < 0 then post (0 : Int32) (jup M1 115 1 (0 : Int32)) else (if x2 < (3 : Int32) then CI G d mX2_kindOf [.ref 1, .int x1] M1 (fun r2 M2 => CI G d mX2_numberOf [.ref 1, .int x1] M2 (fun r3 M3 => CI G d mX1_perform [.ref 115, .int x1, .int r2, .int r3, .int x2, .int x3] M3 (fun r4 M4 => post r4 M4))) else post (0 : Int32) (jup M1 115 1 (0 : Int32))))))) : kX7_act_0 G d  x1 x2 x3 M post := by
  unfold kX7_act_0
  refine J_aload_0 dX7_act_0 ?_
  refine J_getR 1 dX7_act_1 fl_X7_14 jlt_0 jsh_0 (by decide) jrf_7_0 jmr_0_0 ?_
  refine J_iload_1 dX7_act_4 ?_
  refine K_callVI (As := [.int x1]) (rest := []) dX7_act_5 vl_X7_115 jlt_1 jsh_1 _ rfl rfl h rfl rfl (Nat.le_of_ble_eq_true rfl) (fun r1 M1 h => ?_)
  refine J_if_eq (t := 20) dX7_act_8 (by decide) (fun c0 => ?_) (fun c0 => ?_)
  · replace h := ite_t c0 h
    refine J_aload_0 dX7_act_20 ?_
    refine J_getR 115 dX7_act_21 fl_X7_58 jlt_0 jsh_0 (by decide) jrf_7_7 jmr_0_7 ?_
    refine J_iconst (0 : Int32) dX7_act_24 (by decide) ?_
    refine J_putI false dX7_act_25 pl_X7_249 jlt_115 jsh_115 (by decide) jrf_1_1 (fun q => absurd q (by decide)) ?_
    refine J_iconst (0 : Int32) dX7_act_28 (by decide) ?_
    exact K_iret dX7_act_29 rfl h
  · replace h := ite_f c0 h
    refine J_iload_2 dX7_act_11 ?_
    refine J_if_lt (t := 20) dX7_act_12 (by decide) (fun c1 => ?_) (fun c1 => ?_)
    · replace h := ite_t c1 h
      refine J_aload_0 dX7_act_20 ?_
      refine J_getR 115 dX7_act_21 fl_X7_58 jlt_0 jsh_0 (by decide) jrf_7_7 jmr_0_7 ?_
      refine J_iconst (0 : Int32) dX7_act_24 (by decide) ?_
      refine J_putI false dX7_act_25 pl_X7_249 jlt_115 jsh_115 (by decide) jrf_1_1 (fun q => absurd q (by decide)) ?_
      refine J_iconst (0 : Int32) dX7_act_28 (by decide) ?_
      exact K_iret dX7_act_29 rfl h
    · replace h := ite_f c1 h
      refine J_iload_2 dX7_act_15 ?_
      refine J_iconst (3 : Int32) dX7_act_16 (by decide) ?_
      refine J_icmp_lt (t := 30) dX7_act_17 (by decide) (fun c2 => ?_) (fun c2 => ?_)
      · replace h := ite_t c2 h
        refine J_aload_0 dX7_act_30 ?_
        refine J_getR 115 dX7_act_31 fl_X7_58 jlt_0 jsh_0 (by decide) jrf_7_7 jmr_0_7 ?_
        refine J_iload_1 dX7_act_34 ?_
        refine J_aload_0 dX7_act_35 ?_
        refine J_getR 1 dX7_act_36 fl_X7_14 jlt_0 jsh_0 (by decide) jrf_7_0 jmr_0_0 ?_
        refine J_iload_1 dX7_act_39 ?_
        refine K_callVI (As := [.int x1]) (rest := [.int x1, .ref 115]) dX7_act_40 vl_X7_118 jlt_1 jsh_1 _ rfl rfl h rfl rfl (Nat.le_of_ble_eq_true rfl) (fun r2 M2 h => ?_)
        refine J_aload_0 dX7_act_43 ?_
        refine J_getR 1 dX7_act_44 fl_X7_14 jlt_0 jsh_0 (by decide) jrf_7_0 jmr_0_0 ?_
        refine J_iload_1 dX7_act_47 ?_
        refine K_callVI (As := [.int x1]) (rest := [.int r2, .int x1, .ref 115]) dX7_act_48 vl_X7_121 jlt_1 jsh_1 _ rfl rfl h rfl rfl (Nat.le_of_ble_eq_true rfl) (fun r3 M3 h => ?_)
        refine J_iload_2 dX7_act_51 ?_
        refine J_iload_3 dX7_act_52 ?_
        refine K_callVI (As := [.int x1, .int r2, .int r3, .int x2, .int x3]) (rest := []) dX7_act_53 vl_X7_252 jlt_115 jsh_115 _ rfl rfl h rfl rfl (Nat.le_of_ble_eq_true rfl) (fun r4 M4 h => ?_)
        exact K_iret dX7_act_56 rfl h
      · replace h := ite_f c2 h
        refine J_aload_0 dX7_act_20 ?_
        refine J_getR 115 dX7_act_21 fl_X7_58 jlt_0 jsh_0 (by decide) jrf_7_7 jmr_0_7 ?_
        refine J_iconst (0 : Int32) dX7_act_24 (by decide) ?_
        refine J_putI false dX7_act_25 pl_X7_249 jlt_115 jsh_115 (by decide) jrf_1_1 (fun q => absurd q (by decide)) ?_
        refine J_iconst (0 : Int32) dX7_act_28 (by decide) ?_
        exact K_iret dX7_act_29 rfl h
theorem eX7_act {G : jGT} {d : Nat} {x1 : Int32} {x2 : Int32} {x3 : Int32} {M : jM} {post : Int32 → jM → Prop} (h : kX7_act_0 G d  x1 x2 x3 M post) : CI G (d + 1) mX7_act [.ref 0, .int x1, .int x2, .int x3] M post := Con_of_J ok_X7_act 0 rfl rfl h
def kX7_trace_0 (G : jGT) (d : Nat)  (x1 : Int32) (M : jM) (post : Int32 → jM → Prop) : Prop := J G d mX7_trace 0 [some (.ref 0), some (.int x1)] [] jN jSH M jMR 0 0 0 0 (jQi post)
theorem bX7_trace_0 {G : jGT} {d : Nat} {x1 : Int32} {M : jM} {post : Int32 → jM → Prop} (h : (if x1 < 0 then post (-1 : Int32) M else (if (M 115 1) ≤ x1 then post (-1 : Int32) M else (if x1 < (20 : Int32) then (vp_in x1 20 ∧ post (M 116 x1.toNatClampNeg) M) else post (-1 : Int32) M)))) : kX7_trace_0 G d  x1 M post := by
  unfold kX7_trace_0
  refine J_iload_1 dX7_trace_0 ?_
  refine J_if_lt (t := 21) dX7_trace_1 (by decide) (fun c0 => ?_) (fun c0 => ?_)
  · replace h := ite_t c0 h
    refine J_iconst (-1 : Int32) dX7_trace_21 (by decide) ?_
    exact K_iret dX7_trace_22 rfl h
  · replace h := ite_f c0 h
    refine J_iload_1 dX7_trace_4 ?_
    refine J_aload_0 dX7_trace_5 ?_
    refine J_getR 115 dX7_trace_6 fl_X7_58 jlt_0 jsh_0 (by decide) jrf_7_7 jmr_0_7 ?_
    refine J_getI dX7_trace_9 fl_X7_249 jlt_115 jsh_115 (by decide) jrf_1_1 ?_
    refine J_icmp_ge (t := 21) dX7_trace_12 (by decide) (fun c1 => ?_) (fun c1 => ?_)
    · replace h := ite_t c1 h
      refine J_iconst (-1 : Int32) dX7_trace_21 (by decide) ?_
      exact K_iret dX7_trace_22 rfl h
    · replace h := ite_f c1 h
      refine J_iload_1 dX7_trace_15 ?_
      refine J_bipush (20 : Int32) dX7_trace_16 (by decide) ?_
      refine J_icmp_lt (t := 23) dX7_trace_18 (by decide) (fun c2 => ?_) (fun c2 => ?_)
      · replace h := ite_t c2 h
        refine J_aload_0 dX7_trace_23 ?_
        refine J_getR 115 dX7_trace_24 fl_X7_58 jlt_0 jsh_0 (by decide) jrf_7_7 jmr_0_7 ?_
        refine J_getR 116 dX7_trace_27 fl_X7_256 jlt_115 jsh_115 (by decide) jrf_1_0 jmr_115_0 ?_
        refine J_iload_1 dX7_trace_30 ?_
        obtain ⟨g3, h⟩ := h
        refine K_iald x1.toNatClampNeg rfl dX7_trace_31 jlt_116 jsh_116 g3 ?_
        exact K_iret dX7_trace_32 rfl h
      · replace h := ite_f c2 h
        refine J_iconst (-1 : Int32) dX7_trace_21 (by decide) ?_
        exact K_iret dX7_trace_22 rfl h
theorem eX7_trace {G : jGT} {d : Nat} {x1 : Int32} {M : jM} {post : Int32 → jM → Prop} (h : kX7_trace_0 G d  x1 M post) : CI G d mX7_trace [.ref 0, .int x1] M post := Con_of_J ok_X7_trace 0 rfl rfl h
def kX7_as_0 (G : jGT) (d : Nat)  (x1 : Int32) (x2 : Int32) (M : jM) (post : Int32 → jM → Prop) : Prop := J G (d + 1) mX7_as 0 [some (.ref 0), some (.int x1), some (.int x2), none, none] [] jN jSH M jMR 0 0 0 0 (jQi post)
def kX7_as_35 (G : jGT) (d : Nat)  (x1 : Int32) (x2 : Int32) (x3 : Int32) (x4 : Int32) (M : jM) (post : Int32 → jM → Prop) : Prop := J G (d + 1) mX7_as 35 [some (.ref 0), some (.int x1), some (.int x2), some (.int x3), some (.int x4)] [] jN jSH M jMR 0 0 0 0 (jQi post)
theorem bX7_as_0 {G : jGT} {d : Nat} {x1 : Int32} {x2 : Int32} {M : jM} {post : Int32 → jM → Prop} (h : CI G d mX2_hasJudge [.ref 1, .int x1] M (fun r1 M1 => (if r1 = 0 then post (-1 : Int32) M1 else (if x2 < 0 then post (-1 : Int32) M1 else (if x2 < (7 : Int32) then CI G d mX2_kindOf [.ref 1, .int x1] M1 (fun r2 M2 => kX7_as_35 G d x1 x2 r2 (0 : Int32) M2 post) else post (-1 : Int32) M1))))) : kX7_as_0 G d  x1 x2 M post := by
  unfold kX7_as_0
  refine J_aload_0 dX7_as_0 ?_
  refine J_getR 1 dX7_as_1 fl_X7_14 jlt_0 jsh_0 (by decide) jrf_7_0 jmr_0_0 ?_
  refine J_iload_1 dX7_as_4 ?_
  refine K_callVI (As := [.int x1]) (rest := []) dX7_as_5 vl_X7_115 jlt_1 jsh_1 _ rfl rfl h rfl rfl (Nat.le_of_ble_eq_true rfl) (fun r1 M1 h => ?_)
  refine J_if_eq (t := 21) dX7_as_8 (by decide) (fun c0 => ?_) (fun c0 => ?_)
  · replace h := ite_t c0 h
    refine J_iconst (-1 : Int32) dX7_as_21 (by decide) ?_
    exact K_iret dX7_as_22 rfl h
  · replace h := ite_f c0 h
    refine J_iload_2 dX7_as_11 ?_
    refine J_if_lt (t := 21) dX7_as_12 (by decide) (fun c1 => ?_) (fun c1 => ?_)
    · replace h := ite_t c1 h
      refine J_iconst (-1 : Int32) dX7_as_21 (by decide) ?_
      exact K_iret dX7_as_22 rfl h
    · replace h := ite_f c1 h
      refine J_iload_2 dX7_as_15 ?_
      refine J_bipush (7 : Int32) dX7_as_16 (by decide) ?_
      refine J_icmp_lt (t := 23) dX7_as_18 (by decide) (fun c2 => ?_) (fun c2 => ?_)
      · replace h := ite_t c2 h
        refine J_aload_0 dX7_as_23 ?_
        refine J_getR 1 dX7_as_24 fl_X7_14 jlt_0 jsh_0 (by decide) jrf_7_0 jmr_0_0 ?_
        refine J_iload_1 dX7_as_27 ?_
        refine K_callVI (As := [.int x1]) (rest := []) dX7_as_28 vl_X7_118 jlt_1 jsh_1 _ rfl rfl h rfl rfl (Nat.le_of_ble_eq_true rfl) (fun r2 M2 h => ?_)
        refine J_istore_3 dX7_as_31 rfl ?_
        refine J_iconst (0 : Int32) dX7_as_32 (by decide) ?_
        refine J_istore_4 dX7_as_33 rfl ?_
        exact h
      · replace h := ite_f c2 h
        refine J_iconst (-1 : Int32) dX7_as_21 (by decide) ?_
        exact K_iret dX7_as_22 rfl h
theorem bX7_as_35 {G : jGT} {d : Nat} {x1 : Int32} {x2 : Int32} {x3 : Int32} {x4 : Int32} {M : jM} {post : Int32 → jM → Prop} (h : (if (7 : Int32) ≤ x4 then post (-6 : Int32) M else (if x3 < 0 then post (-6 : Int32) M else (if (7 : Int32) ≤ x3 then post (-6 : Int32) M else (if x3 = x2 then CI G d mX2_numberOf [.ref 1, .int x1] M (fun r1 M1 => post r1 M1) else (vp_in x3 7 ∧ kX7_as_35 G d x1 x2 (jABOVE x3.toNatClampNeg) (x4 + (1 : Int32)) M post)))))) : kX7_as_35 G d  x1 x2 x3 x4 M post := by
  unfold kX7_as_35
  refine J_iload_4 dX7_as_35 ?_
  refine J_bipush (7 : Int32) dX7_as_37 (by decide) ?_
  refine J_icmp_ge (t := 78) dX7_as_39 (by decide) (fun c0 => ?_) (fun c0 => ?_)
  · replace h := ite_t c0 h
    refine J_bipush (-6 : Int32) dX7_as_78 (by decide) ?_
    exact K_iret dX7_as_80 rfl h
  · replace h := ite_f c0 h
    refine J_iload_3 dX7_as_42 ?_
    refine J_if_lt (t := 78) dX7_as_43 (by decide) (fun c1 => ?_) (fun c1 => ?_)
    · replace h := ite_t c1 h
      refine J_bipush (-6 : Int32) dX7_as_78 (by decide) ?_
      exact K_iret dX7_as_80 rfl h
    · replace h := ite_f c1 h
      refine J_iload_3 dX7_as_46 ?_
      refine J_bipush (7 : Int32) dX7_as_47 (by decide) ?_
      refine J_icmp_ge (t := 78) dX7_as_49 (by decide) (fun c2 => ?_) (fun c2 => ?_)
      · replace h := ite_t c2 h
        refine J_bipush (-6 : Int32) dX7_as_78 (by decide) ?_
        exact K_iret dX7_as_80 rfl h
      · replace h := ite_f c2 h
        refine J_iload_3 dX7_as_52 ?_
        refine J_iload_2 dX7_as_53 ?_
        refine J_icmp_ne (t := 66) dX7_as_54 (by decide) (fun c3 => ?_) (fun c3 => ?_)
        · replace h := ite_f c3 h
          refine J_getsA dX7_as_66 w_886 ?_
          refine J_iload_3 dX7_as_69 ?_
          obtain ⟨g4, h⟩ := h
          refine K_ialdO x3.toNatClampNeg rfl dX7_as_70 rfl g4 ?_
          refine J_istore_3 dX7_as_71 rfl ?_
          refine J_iinc_4 (1 : Int32) dX7_as_72 (by decide) rfl ?_
          refine J_goto (t := 35) dX7_as_75 (by decide) ?_
          exact h
        · replace h := ite_t c3 h
          refine J_aload_0 dX7_as_57 ?_
          refine J_getR 1 dX7_as_58 fl_X7_14 jlt_0 jsh_0 (by decide) jrf_7_0 jmr_0_0 ?_
          refine J_iload_1 dX7_as_61 ?_
          refine K_callVI (As := [.int x1]) (rest := []) dX7_as_62 vl_X7_121 jlt_1 jsh_1 _ rfl rfl h rfl rfl (Nat.le_of_ble_eq_true rfl) (fun r1 M1 h => ?_)
          exact K_iret dX7_as_65 rfl h
theorem eX7_as {G : jGT} {d : Nat} {x1 : Int32} {x2 : Int32} {M : jM} {post : Int32 → jM → Prop} (h : kX7_as_0 G d  x1 x2 M post) : CI G (d + 1) mX7_as [.ref 0, .int x1, .int x2] M post := Con_of_J ok_X7_as 2 rfl rfl h
def kX7_image_0 (G : jGT) (d : Nat)   (M : jM) (post : Int32 → jM → Prop) : Prop := J G (d + 1) mX7_image 0 [some (.ref 0)] [] jN jSH M jMR 0 0 0 0 (jQi post)
theorem bX7_image_0 {G : jGT} {d : Nat}  {M : jM} {post : Int32 → jM → Prop} (h : CV G d mX2_become [.ref 11, .ref 1] M (fun M1 => post (M1 1 1) (jup M1 0 2 (1 : Int32)))) : kX7_image_0 G d   M post := by
  unfold kX7_image_0
  refine J_aload_0 dX7_image_0 ?_
  refine J_getR 11 dX7_image_1 fl_X7_18 jlt_0 jsh_0 (by decide) jrf_7_1 jmr_0_1 ?_
  refine J_aload_0 dX7_image_4 ?_
  refine J_getR 1 dX7_image_5 fl_X7_14 jlt_0 jsh_0 (by decide) jrf_7_0 jmr_0_0 ?_
  refine K_callVV (As := [.ref 1]) (rest := []) dX7_image_8 vl_X7_262 jlt_11 jsh_11 _ rfl rfl h rfl rfl (Nat.le_of_ble_eq_true rfl) (fun M1 h => ?_)
  refine J_aload_0 dX7_image_11 ?_
  refine J_iconst (1 : Int32) dX7_image_12 (by decide) ?_
  refine J_putI true dX7_image_13 pl_X7_21 jlt_0 jsh_0 (by decide) jrf_7_2 (fun _ => by decide) ?_
  refine J_aload_0 dX7_image_16 ?_
  refine J_getR 1 dX7_image_17 fl_X7_14 jlt_0 jsh_0 (by decide) jrf_7_0 jmr_0_0 ?_
  refine J_getI dX7_image_20 fl_X7_85 jlt_1 jsh_1 (by decide) jrf_2_1 ?_
  exact K_iret dX7_image_23 rfl h
theorem eX7_image {G : jGT} {d : Nat}  {M : jM} {post : Int32 → jM → Prop} (h : kX7_image_0 G d   M post) : CI G (d + 1) mX7_image [.ref 0] M post := Con_of_J ok_X7_image 0 rfl rfl h
def kX7_undo_0 (G : jGT) (d : Nat)   (M : jM) (post : Int32 → jM → Prop) : Prop := J G (d + 1) mX7_undo 0 [some (.ref 0)] [] jN jSH M jMR 0 0 0 0 (jQi post)
theorem bX7_undo_0 {G : jGT} {d : Nat}  {M : jM} {post : Int32 → jM → Prop} (h : (if (M 0 2) = 0 then post (-3 : Int32) M else CV G d mX2_become [.ref 1, .ref 11] M (fun M1 => post (M1 1 1) M1))) : kX7_undo_0 G d   M post := by
  unfold kX7_undo_0
  refine J_aload_0 dX7_undo_0 ?_
  refine J_getI dX7_undo_1 fl_X7_21 jlt_0 jsh_0 (by decide) jrf_7_2 ?_
  refine J_if_ne (t := 10) dX7_undo_4 (by decide) (fun c0 => ?_) (fun c0 => ?_)
  · replace h := ite_f c0 h
    refine J_aload_0 dX7_undo_10 ?_
    refine J_getR 1 dX7_undo_11 fl_X7_14 jlt_0 jsh_0 (by decide) jrf_7_0 jmr_0_0 ?_
    refine J_aload_0 dX7_undo_14 ?_
    refine J_getR 11 dX7_undo_15 fl_X7_18 jlt_0 jsh_0 (by decide) jrf_7_1 jmr_0_1 ?_
    refine K_callVV (As := [.ref 11]) (rest := []) dX7_undo_18 vl_X7_262 jlt_1 jsh_1 _ rfl rfl h rfl rfl (Nat.le_of_ble_eq_true rfl) (fun M1 h => ?_)
    refine J_aload_0 dX7_undo_21 ?_
    refine J_getR 1 dX7_undo_22 fl_X7_14 jlt_0 jsh_0 (by decide) jrf_7_0 jmr_0_0 ?_
    refine J_getI dX7_undo_25 fl_X7_85 jlt_1 jsh_1 (by decide) jrf_2_1 ?_
    exact K_iret dX7_undo_28 rfl h
  · replace h := ite_t c0 h
    refine J_bipush (-3 : Int32) dX7_undo_7 (by decide) ?_
    exact K_iret dX7_undo_9 rfl h
theorem eX7_undo {G : jGT} {d : Nat}  {M : jM} {post : Int32 → jM → Prop} (h : kX7_undo_0 G d   M post) : CI G (d + 1) mX7_undo [.ref 0] M post := Con_of_J ok_X7_undo 0 rfl rfl h
def kX7_count_0 (G : jGT) (d : Nat)  (x1 : Int32) (M : jM) (post : Int32 → jM → Prop) : Prop := J G d mX7_count 0 [some (.ref 0), some (.int x1)] [] jN jSH M jMR 0 0 0 0 (jQi post)
theorem bX7_count_0 {G : jGT} {d : Nat} {x1 : Int32} {M : jM} {post : Int32 → jM → Prop} (h : (if x1 = (0 : Int32) then post (M 1 1) M else (if x1 = (1 : Int32) then post (M 1 4) M else (if x1 = (2 : Int32) then post (M 1 14) M else (if x1 = (3 : Int32) then post (M 1 8) M else (if x1 = (4 : Int32) then post (M 1 10) M else (if x1 = (5 : Int32) then post (M 1 12) M else (if x1 = (6 : Int32) then post (M 115 1) M else post (-1 : Int32) M)))))))) : kX7_count_0 G d  x1 M post := by
  unfold kX7_count_0
  refine J_iload_1 dX7_count_0 ?_
  by_cases c0 : x1 = (0 : Int32)
  · replace h := ite_t c0 h
    refine J_tswC (off := 43) (t := 44) dX7_count_1 c0 (by decide) ?_
    refine J_aload_0 dX7_count_44 ?_
    refine J_getR 1 dX7_count_45 fl_X7_14 jlt_0 jsh_0 (by decide) jrf_7_0 jmr_0_0 ?_
    refine J_getI dX7_count_48 fl_X7_85 jlt_1 jsh_1 (by decide) jrf_2_1 ?_
    exact K_iret dX7_count_51 rfl h
  replace h := ite_f c0 h
  by_cases c1 : x1 = (1 : Int32)
  · replace h := ite_t c1 h
    refine J_tswC (off := 51) (t := 52) dX7_count_1 c1 (by decide) ?_
    refine J_aload_0 dX7_count_52 ?_
    refine J_getR 1 dX7_count_53 fl_X7_14 jlt_0 jsh_0 (by decide) jrf_7_0 jmr_0_0 ?_
    refine J_getI dX7_count_56 fl_X7_106 jlt_1 jsh_1 (by decide) jrf_2_4 ?_
    exact K_iret dX7_count_59 rfl h
  replace h := ite_f c1 h
  by_cases c2 : x1 = (2 : Int32)
  · replace h := ite_t c2 h
    refine J_tswC (off := 59) (t := 60) dX7_count_1 c2 (by decide) ?_
    refine J_aload_0 dX7_count_60 ?_
    refine J_getR 1 dX7_count_61 fl_X7_14 jlt_0 jsh_0 (by decide) jrf_7_0 jmr_0_0 ?_
    refine J_getI dX7_count_64 fl_X7_70 jlt_1 jsh_1 (by decide) jrf_2_14 ?_
    exact K_iret dX7_count_67 rfl h
  replace h := ite_f c2 h
  by_cases c3 : x1 = (3 : Int32)
  · replace h := ite_t c3 h
    refine J_tswC (off := 67) (t := 68) dX7_count_1 c3 (by decide) ?_
    refine J_aload_0 dX7_count_68 ?_
    refine J_getR 1 dX7_count_69 fl_X7_14 jlt_0 jsh_0 (by decide) jrf_7_0 jmr_0_0 ?_
    refine J_getI dX7_count_72 fl_X7_173 jlt_1 jsh_1 (by decide) jrf_2_8 ?_
    exact K_iret dX7_count_75 rfl h
  replace h := ite_f c3 h
  by_cases c4 : x1 = (4 : Int32)
  · replace h := ite_t c4 h
    refine J_tswC (off := 75) (t := 76) dX7_count_1 c4 (by decide) ?_
    refine J_aload_0 dX7_count_76 ?_
    refine J_getR 1 dX7_count_77 fl_X7_14 jlt_0 jsh_0 (by decide) jrf_7_0 jmr_0_0 ?_
    refine J_getI dX7_count_80 fl_X7_230 jlt_1 jsh_1 (by decide) jrf_2_10 ?_
    exact K_iret dX7_count_83 rfl h
  replace h := ite_f c4 h
  by_cases c5 : x1 = (5 : Int32)
  · replace h := ite_t c5 h
    refine J_tswC (off := 83) (t := 84) dX7_count_1 c5 (by decide) ?_
    refine J_aload_0 dX7_count_84 ?_
    refine J_getR 1 dX7_count_85 fl_X7_14 jlt_0 jsh_0 (by decide) jrf_7_0 jmr_0_0 ?_
    refine J_getI dX7_count_88 fl_X7_62 jlt_1 jsh_1 (by decide) jrf_2_12 ?_
    exact K_iret dX7_count_91 rfl h
  replace h := ite_f c5 h
  by_cases c6 : x1 = (6 : Int32)
  · replace h := ite_t c6 h
    refine J_tswC (off := 91) (t := 92) dX7_count_1 c6 (by decide) ?_
    refine J_aload_0 dX7_count_92 ?_
    refine J_getR 115 dX7_count_93 fl_X7_58 jlt_0 jsh_0 (by decide) jrf_7_7 jmr_0_7 ?_
    refine J_getI dX7_count_96 fl_X7_249 jlt_115 jsh_115 (by decide) jrf_1_1 ?_
    exact K_iret dX7_count_99 rfl h
  replace h := ite_f c6 h
  refine J_tswD (t := 100) dX7_count_1 (j_outr (offs := #[43, 51, 59, 67, 75, 83, 91]) [(0 : Int32), (1 : Int32), (2 : Int32), (3 : Int32), (4 : Int32), (5 : Int32), (6 : Int32)] (by decide) (by decide) (by decide) (by decide) (by simp only [List.forall_mem_cons, List.not_mem_nil, false_implies, implies_true, and_true]; exact ⟨c0, c1, c2, c3, c4, c5, c6⟩)) (by decide) ?_
  refine J_iconst (-1 : Int32) dX7_count_100 (by decide) ?_
  exact K_iret dX7_count_101 rfl h
theorem eX7_count {G : jGT} {d : Nat} {x1 : Int32} {M : jM} {post : Int32 → jM → Prop} (h : kX7_count_0 G d  x1 M post) : CI G d mX7_count [.ref 0, .int x1] M post := Con_of_J ok_X7_count 0 rfl rfl h
def kX7_openFor_0 (G : jGT) (d : Nat)  (x1 : Int32) (M : jM) (post : jM → Prop) : Prop := J G (d + 1) mX7_openFor 0 [some (.ref 0), some (.int x1)] [] jN jSH M jMR 0 0 0 0 (jQv post)
theorem bX7_openFor_0 {G : jGT} {d : Nat} {x1 : Int32} {M : jM} {post : jM → Prop} (h : CI G d mX2_kindOf [.ref 1, .int x1] M (fun r1 M1 => CI G d mX2_numberOf [.ref 1, .int x1] M1 (fun r2 M2 => CI G d mX3_learn [.ref 21, .ref 10, .int (M 1 15), .int r1, .int r2, .int (M2 1 0)] M2 (fun r3 M3 => CV G d mX5_open [.ref 27, .ref 1, .ref 21, .int x1] M3 (fun M4 => post M4))))) : kX7_openFor_0 G d  x1 M post := by
  unfold kX7_openFor_0
  refine J_aload_0 dX7_openFor_0 ?_
  refine J_getR 21 dX7_openFor_1 fl_X7_28 jlt_0 jsh_0 (by decide) jrf_7_3 jmr_0_3 ?_
  refine J_aload_0 dX7_openFor_4 ?_
  refine J_getR 1 dX7_openFor_5 fl_X7_14 jlt_0 jsh_0 (by decide) jrf_7_0 jmr_0_0 ?_
  refine J_getR 10 dX7_openFor_8 fl_X7_77 jlt_1 jsh_1 (by decide) jrf_2_16 jmr_1_16 ?_
  refine J_aload_0 dX7_openFor_11 ?_
  refine J_getR 1 dX7_openFor_12 fl_X7_14 jlt_0 jsh_0 (by decide) jrf_7_0 jmr_0_0 ?_
  refine J_getI dX7_openFor_15 fl_X7_79 jlt_1 jsh_1 (by decide) jrf_2_15 ?_
  refine J_aload_0 dX7_openFor_18 ?_
  refine J_getR 1 dX7_openFor_19 fl_X7_14 jlt_0 jsh_0 (by decide) jrf_7_0 jmr_0_0 ?_
  refine J_iload_1 dX7_openFor_22 ?_
  refine K_callVI (As := [.int x1]) (rest := [.int (M 1 15), .ref 10, .ref 21]) dX7_openFor_23 vl_X7_118 jlt_1 jsh_1 _ rfl rfl h rfl rfl (Nat.le_of_ble_eq_true rfl) (fun r1 M1 h => ?_)
  refine J_aload_0 dX7_openFor_26 ?_
  refine J_getR 1 dX7_openFor_27 fl_X7_14 jlt_0 jsh_0 (by decide) jrf_7_0 jmr_0_0 ?_
  refine J_iload_1 dX7_openFor_30 ?_
  refine K_callVI (As := [.int x1]) (rest := [.int r1, .int (M 1 15), .ref 10, .ref 21]) dX7_openFor_31 vl_X7_121 jlt_1 jsh_1 _ rfl rfl h rfl rfl (Nat.le_of_ble_eq_true rfl) (fun r2 M2 h => ?_)
  refine J_aload_0 dX7_openFor_34 ?_
  refine J_getR 1 dX7_openFor_35 fl_X7_14 jlt_0 jsh_0 (by decide) jrf_7_0 jmr_0_0 ?_
  refine J_getI dX7_openFor_38 fl_X7_82 jlt_1 jsh_1 (by decide) jrf_2_0 ?_
  refine K_callVI (As := [.ref 10, .int (M 1 15), .int r1, .int r2, .int (M2 1 0)]) (rest := []) dX7_openFor_41 vl_X7_73 jlt_21 jsh_21 _ rfl rfl h rfl rfl (Nat.le_of_ble_eq_true rfl) (fun r3 M3 h => ?_)
  refine J_pop dX7_openFor_44 rfl ?_
  refine J_aload_0 dX7_openFor_45 ?_
  refine J_getR 27 dX7_openFor_46 fl_X7_35 jlt_0 jsh_0 (by decide) jrf_7_4 jmr_0_4 ?_
  refine J_aload_0 dX7_openFor_49 ?_
  refine J_getR 1 dX7_openFor_50 fl_X7_14 jlt_0 jsh_0 (by decide) jrf_7_0 jmr_0_0 ?_
  refine J_aload_0 dX7_openFor_53 ?_
  refine J_getR 21 dX7_openFor_54 fl_X7_28 jlt_0 jsh_0 (by decide) jrf_7_3 jmr_0_3 ?_
  refine J_iload_1 dX7_openFor_57 ?_
  refine K_callVV (As := [.ref 1, .ref 21, .int x1]) (rest := []) dX7_openFor_58 vl_X7_265 jlt_27 jsh_27 _ rfl rfl h rfl rfl (Nat.le_of_ble_eq_true rfl) (fun M4 h => ?_)
  exact K_ret dX7_openFor_61 rfl h
theorem eX7_openFor {G : jGT} {d : Nat} {x1 : Int32} {M : jM} {post : jM → Prop} (h : kX7_openFor_0 G d  x1 M post) : CV G (d + 1) mX7_openFor [.ref 0, .int x1] M post := Con_of_J ok_X7_openFor 0 rfl rfl h
