theorem i_X7_0 {G : jGT} {d : Nat} {M : jM} {r : jR} (hz : iZ 0 M r) : Con G (d + 3) mX7_init [.ref 0] 1 jSH M r 116 2054 (iP 0 117 M r (fun M' => M' 0 2 = 0 ∧ (∀ k, 1 ≤ k → k < 21 → M' k = fun _ => 0) ∧ M' 115 1 = 0)) := by
  refine Con_of_J ok_X7_init 0 rfl rfl ?_
  refine J_aload_0 dX7_init_0 ?_
  refine J_objInit dX7_init_1 w_84 (by omega) (Nat.le_of_ble_eq_true rfl) ?_
  refine J_aload_0 dX7_init_4 ?_
  refine J_new (ci := 2) (N := 17) dX7_init_5 (RX2, TX2, 17) rfl rfl w_87 w_88 w_64 (by omega) (by omega) (by decide) (dfOk_use df_2) (by first | exact (hz 1 (by omega)).1 | (simp (disch := omega) only [jup_ne]; exact (hz 1 (by omega)).1)) (by first | exact (hz 1 (by omega)).2 | (simp (disch := omega) only [jrup_ne]; exact (hz 1 (by omega)).2)) ?_
  rw [jSH_upd (by decide +kernel : jSH 1 = (2, 17))]
  refine J_dup dX7_init_8 rfl ?_
  refine J_callI (d' := 1) (As := []) (rest := [.ref 1, .ref 0]) (mc' := 9) (ms' := 272) dX7_init_9 il_X7_13 (i_X2_1 (d := 0) (fun k hk => ⟨by first | exact (hz k (by omega)).1 | (simp (disch := omega) only [jup_ne]; exact (hz k (by omega)).1), by first | exact (hz k (by omega)).2 | (simp (disch := omega) only [jrup_ne]; exact (hz k (by omega)).2)⟩)) rfl rfl (by omega) (Nat.le_of_ble_eq_true rfl) (by omega) (by omega) (fun v n' sh' M1 r1 hp => ?_)
  obtain ⟨rfl, rfl, rfl, z1, o1, f1, g1⟩ := hp
  refine J_putF dX7_init_12 rl_X7_14 rfl (by decide) (by decide +kernel : jSH 0 = (7, 8)) (by decide) (by decide +kernel) ?_
  refine J_aload_0 dX7_init_15 ?_
  refine J_new (ci := 2) (N := 17) dX7_init_16 (RX2, TX2, 17) rfl rfl w_87 w_88 w_64 (by omega) (by omega) (by decide) (dfOk_use df_2) (by first | exact (z1 11 (by omega)).1 | (simp (disch := omega) only [jup_ne]; exact (z1 11 (by omega)).1)) (by first | exact (z1 11 (by omega)).2 | (simp (disch := omega) only [jrup_ne]; exact (z1 11 (by omega)).2)) ?_
  rw [jSH_upd (by decide +kernel : jSH 11 = (2, 17))]
  refine J_dup dX7_init_19 rfl ?_
  refine J_callI (d' := 1) (As := []) (rest := [.ref 11, .ref 0]) (mc' := 9) (ms' := 272) dX7_init_20 il_X7_13 (i_X2_11 (d := 0) (fun k hk => ⟨by first | exact (z1 k (by omega)).1 | (simp (disch := omega) only [jup_ne]; exact (z1 k (by omega)).1), by first | exact (z1 k (by omega)).2 | (simp (disch := omega) only [jrup_ne]; exact (z1 k (by omega)).2)⟩)) rfl rfl (by omega) (Nat.le_of_ble_eq_true rfl) (by omega) (by omega) (fun v n' sh' M2 r2 hp => ?_)
  obtain ⟨rfl, rfl, rfl, z2, o2, f2, g2⟩ := hp
  refine J_putF dX7_init_23 rl_X7_18 rfl (by decide) (by decide +kernel : jSH 0 = (7, 8)) (by decide) (by decide +kernel) ?_
  refine J_aload_0 dX7_init_26 ?_
  refine J_iconst (0 : Int32) dX7_init_27 (by decide) ?_
  refine J_putI true dX7_init_28 pl_X7_21 (by decide) (by decide +kernel : jSH 0 = (7, 8)) (by decide) (by decide +kernel) (fun _ => Or.inl rfl) ?_
  refine J_aload_0 dX7_init_31 ?_
  refine J_new (ci := 3) (N := 19) dX7_init_32 (RX3, TX3, 19) rfl rfl w_169 w_170 w_65 (by omega) (by omega) (by decide) (dfOk_use df_3) (by first | exact (z2 21 (by omega)).1 | (simp (disch := omega) only [jup_ne]; exact (z2 21 (by omega)).1)) (by first | exact (z2 21 (by omega)).2 | (simp (disch := omega) only [jrup_ne]; exact (z2 21 (by omega)).2)) ?_
  rw [jSH_upd (by decide +kernel : jSH 21 = (3, 19))]
  refine J_dup dX7_init_35 rfl ?_
  refine J_callI (d' := 1) (As := []) (rest := [.ref 21, .ref 0]) (mc' := 5) (ms' := 33) dX7_init_36 il_X7_27 (i_X3_21 (d := 0) (fun k hk => ⟨by first | exact (z2 k (by omega)).1 | (simp (disch := omega) only [jup_ne]; exact (z2 k (by omega)).1), by first | exact (z2 k (by omega)).2 | (simp (disch := omega) only [jrup_ne]; exact (z2 k (by omega)).2)⟩)) rfl rfl (by omega) (Nat.le_of_ble_eq_true rfl) (by omega) (by omega) (fun v n' sh' M3 r3 hp => ?_)
  obtain ⟨rfl, rfl, rfl, z3, o3, f3, g3⟩ := hp
  refine J_putF dX7_init_39 rl_X7_28 rfl (by decide) (by decide +kernel : jSH 0 = (7, 8)) (by decide) (by decide +kernel) ?_
  refine J_aload_0 dX7_init_42 ?_
  refine J_new (ci := 5) (N := 11) dX7_init_43 (RX5, TX5, 11) rfl rfl w_239 w_240 w_66 (by omega) (by omega) (by decide) (dfOk_use df_5) (by first | exact (z3 27 (by omega)).1 | (simp (disch := omega) only [jup_ne]; exact (z3 27 (by omega)).1)) (by first | exact (z3 27 (by omega)).2 | (simp (disch := omega) only [jrup_ne]; exact (z3 27 (by omega)).2)) ?_
  rw [jSH_upd (by decide +kernel : jSH 27 = (5, 11))]
  refine J_dup dX7_init_46 rfl ?_
  refine J_callI (d' := 2) (As := []) (rest := [.ref 27, .ref 0]) (mc' := 7) (ms' := 702) dX7_init_47 il_X7_34 (i_X5_27 (d := 0) (fun k hk => ⟨by first | exact (z3 k (by omega)).1 | (simp (disch := omega) only [jup_ne]; exact (z3 k (by omega)).1), by first | exact (z3 k (by omega)).2 | (simp (disch := omega) only [jrup_ne]; exact (z3 k (by omega)).2)⟩)) rfl rfl (by omega) (Nat.le_of_ble_eq_true rfl) (by omega) (by omega) (fun v n' sh' M4 r4 hp => ?_)
  obtain ⟨rfl, rfl, rfl, z4, o4, f4, g4⟩ := hp
  refine J_putF dX7_init_50 rl_X7_35 rfl (by decide) (by decide +kernel : jSH 0 = (7, 8)) (by decide) (by decide +kernel) ?_
  refine J_aload_0 dX7_init_53 ?_
  refine J_new (ci := 4) (N := 7) dX7_init_54 (RX4, TX4, 7) rfl rfl w_325 w_326 w_68 (by omega) (by omega) (by decide) (dfOk_use df_4) (by first | exact (z4 35 (by omega)).1 | (simp (disch := omega) only [jup_ne]; exact (z4 35 (by omega)).1)) (by first | exact (z4 35 (by omega)).2 | (simp (disch := omega) only [jrup_ne]; exact (z4 35 (by omega)).2)) ?_
  rw [jSH_upd (by decide +kernel : jSH 35 = (4, 7))]
  refine J_dup dX7_init_57 rfl ?_
  refine J_aload_0 dX7_init_58 ?_
  refine J_getR 27 dX7_init_59 fl_X7_35 (by decide) (by decide +kernel : jSH 0 = (7, 8)) (by decide) (by decide +kernel) (by simp (disch := omega) only [jrup_ss, jrup_sn, jrup_n, jrup_ne, (o1 0 (by omega)).2, (o2 0 (by omega)).2, (o3 0 (by omega)).2, (o4 0 (by omega)).2]) ?_
  refine J_callI (d' := 2) (As := [.ref 27]) (rest := [.ref 35, .ref 0]) (mc' := 68) (ms' := 596) dX7_init_62 il_X7_41 (i_X4_35 (d := 0) (fun k hk => ⟨by first | exact (z4 k (by omega)).1 | (simp (disch := omega) only [jup_ne]; exact (z4 k (by omega)).1), by first | exact (z4 k (by omega)).2 | (simp (disch := omega) only [jrup_ne]; exact (z4 k (by omega)).2)⟩)) rfl rfl (by omega) (Nat.le_of_ble_eq_true rfl) (by omega) (by omega) (fun v n' sh' M5 r5 hp => ?_)
  obtain ⟨rfl, rfl, rfl, z5, o5, f5, g5⟩ := hp
  refine J_putF dX7_init_65 rl_X7_44 rfl (by decide) (by decide +kernel : jSH 0 = (7, 8)) (by decide) (by decide +kernel) ?_
  refine J_aload_0 dX7_init_68 ?_
  refine J_new (ci := 0) (N := 3) dX7_init_69 (RX0, TX0, 3) rfl rfl w_359 w_360 w_69 (by omega) (by omega) (by decide) (dfOk_use df_0) (by first | exact (z5 104 (by omega)).1 | (simp (disch := omega) only [jup_ne]; exact (z5 104 (by omega)).1)) (by first | exact (z5 104 (by omega)).2 | (simp (disch := omega) only [jrup_ne]; exact (z5 104 (by omega)).2)) ?_
  rw [jSH_upd (by decide +kernel : jSH 104 = (0, 3))]
  refine J_dup dX7_init_72 rfl ?_
  refine J_aload_0 dX7_init_73 ?_
  refine J_getR 27 dX7_init_74 fl_X7_35 (by decide) (by decide +kernel : jSH 0 = (7, 8)) (by decide) (by decide +kernel) (by simp (disch := omega) only [jrup_ss, jrup_sn, jrup_n, jrup_ne, (o1 0 (by omega)).2, (o2 0 (by omega)).2, (o3 0 (by omega)).2, (o4 0 (by omega)).2, (o5 0 (by omega)).2]) ?_
  refine J_callI (d' := 2) (As := [.ref 27]) (rest := [.ref 104, .ref 0]) (mc' := 10) (ms' := 80) dX7_init_77 il_X7_50 (i_X0_104 (d := 0) (fun k hk => ⟨by first | exact (z5 k (by omega)).1 | (simp (disch := omega) only [jup_ne]; exact (z5 k (by omega)).1), by first | exact (z5 k (by omega)).2 | (simp (disch := omega) only [jrup_ne]; exact (z5 k (by omega)).2)⟩)) rfl rfl (by omega) (Nat.le_of_ble_eq_true rfl) (by omega) (by omega) (fun v n' sh' M6 r6 hp => ?_)
  obtain ⟨rfl, rfl, rfl, z6, o6, f6, g6⟩ := hp
  refine J_putF dX7_init_80 rl_X7_51 rfl (by decide) (by decide +kernel : jSH 0 = (7, 8)) (by decide) (by decide +kernel) ?_
  refine J_aload_0 dX7_init_83 ?_
  refine J_new (ci := 1) (N := 5) dX7_init_84 (RX1, TX1, 5) rfl rfl w_378 w_379 w_70 (by omega) (by omega) (by decide) (dfOk_use df_1) (by first | exact (z6 115 (by omega)).1 | (simp (disch := omega) only [jup_ne]; exact (z6 115 (by omega)).1)) (by first | exact (z6 115 (by omega)).2 | (simp (disch := omega) only [jrup_ne]; exact (z6 115 (by omega)).2)) ?_
  rw [jSH_upd (by decide +kernel : jSH 115 = (1, 5))]
  refine J_dup dX7_init_87 rfl ?_
  refine J_callI (d' := 1) (As := []) (rest := [.ref 115, .ref 0]) (mc' := 1) (ms' := 20) dX7_init_88 il_X7_57 (i_X1_115 (d := 0) (fun k hk => ⟨by first | exact (z6 k (by omega)).1 | (simp (disch := omega) only [jup_ne]; exact (z6 k (by omega)).1), by first | exact (z6 k (by omega)).2 | (simp (disch := omega) only [jrup_ne]; exact (z6 k (by omega)).2)⟩)) rfl rfl (by omega) (Nat.le_of_ble_eq_true rfl) (by omega) (by omega) (fun v n' sh' M7 r7 hp => ?_)
  obtain ⟨rfl, rfl, rfl, z7, o7, f7, g7⟩ := hp
  refine J_putF dX7_init_91 rl_X7_58 rfl (by decide) (by decide +kernel : jSH 0 = (7, 8)) (by decide) (by decide +kernel) ?_
  refine J_ret dX7_init_94 rfl ?_
  have hr0 : r 0 = fun _ => none := (hz 0 (by omega)).2
  have hM0 : M 0 = fun _ => 0 := (hz 0 (by omega)).1
  refine ⟨rfl, rfl, rfl, fun k hk => ⟨(z7 k hk).1, ?_⟩, fun k hk => by omega, fun k h1 h2 => ?_, ?_, fun k h1 h2 => ?_, ?_⟩
  · rw [jrup_ne (by omega)]; exact (z7 k hk).2
  · rcases (show k = 0 ∨ (1 ≤ k ∧ k < 11) ∨ (11 ≤ k ∧ k < 21) ∨ (21 ≤ k ∧ k < 27) ∨ (27 ≤ k ∧ k < 35) ∨ (35 ≤ k ∧ k < 104) ∨ (104 ≤ k ∧ k < 115) ∨ (115 ≤ k ∧ k < 117) by omega) with rfl | h | h | h | h | h | h | h
    · refine jMR_row (N := 8) (by omega) (by decide +kernel) (fun j hj => ?_) (fun j hj => ?_)
      · rcases (show j = 0 ∨ j = 1 ∨ j = 2 ∨ j = 3 ∨ j = 4 ∨ j = 5 ∨ j = 6 ∨ j = 7 by omega) with rfl | rfl | rfl | rfl | rfl | rfl | rfl | rfl <;> simp (disch := omega) only [jrup_ss, jrup_sn, (o7 0 (by omega)).2, (o6 0 (by omega)).2, (o5 0 (by omega)).2, (o4 0 (by omega)).2, (o3 0 (by omega)).2, (o2 0 (by omega)).2, (o1 0 (by omega)).2, hr0] <;> decide +kernel
      · simp (disch := omega) only [jrup_ss, jrup_sn, (o7 0 (by omega)).2, (o6 0 (by omega)).2, (o5 0 (by omega)).2, (o4 0 (by omega)).2, (o3 0 (by omega)).2, (o2 0 (by omega)).2, (o1 0 (by omega)).2, hr0]
    · simp (disch := omega) only [jrup_ne, (o7 k (by omega)).2, (o6 k (by omega)).2, (o5 k (by omega)).2, (o4 k (by omega)).2, (o3 k (by omega)).2, (o2 k (by omega)).2]
      exact f1 k (by omega) (by omega)
    · simp (disch := omega) only [jrup_ne, (o7 k (by omega)).2, (o6 k (by omega)).2, (o5 k (by omega)).2, (o4 k (by omega)).2, (o3 k (by omega)).2]
      exact f2 k (by omega) (by omega)
    · simp (disch := omega) only [jrup_ne, (o7 k (by omega)).2, (o6 k (by omega)).2, (o5 k (by omega)).2, (o4 k (by omega)).2]
      exact f3 k (by omega) (by omega)
    · simp (disch := omega) only [jrup_ne, (o7 k (by omega)).2, (o6 k (by omega)).2, (o5 k (by omega)).2]
      exact f4 k (by omega) (by omega)
    · simp (disch := omega) only [jrup_ne, (o7 k (by omega)).2, (o6 k (by omega)).2]
      exact f5 k (by omega) (by omega)
    · simp (disch := omega) only [jrup_ne, (o7 k (by omega)).2]
      exact f6 k (by omega) (by omega)
    · simp (disch := omega) only [jrup_ne]
      exact f7 k (by omega) (by omega)
  · simp (disch := omega) only [(o7 0 (by omega)).1, (o6 0 (by omega)).1, (o5 0 (by omega)).1, (o4 0 (by omega)).1, (o3 0 (by omega)).1, (o2 0 (by omega)).1, (o1 0 (by omega)).1, jup_ss]
  · by_cases h : k < 11
    · simp (disch := omega) only [jup_ne, (o7 k (by omega)).1, (o6 k (by omega)).1, (o5 k (by omega)).1, (o4 k (by omega)).1, (o3 k (by omega)).1, (o2 k (by omega)).1]
      exact g1 k (by omega) (by omega)
    · simp (disch := omega) only [jup_ne, (o7 k (by omega)).1, (o6 k (by omega)).1, (o5 k (by omega)).1, (o4 k (by omega)).1, (o3 k (by omega)).1]
      exact g2 k (by omega) (by omega)
  · exact g7
