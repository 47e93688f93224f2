theorem i_X6 {G : jGT} {d b n : Nat} {M : jM} {r : jR} {P : jP} (hb : b < n) (hs : jSH b = (6, 8)) (h : ∀ M', (∀ k, k ≠ b → M' k = M k) → P none n jSH M' r) : Con G (d + 1) mX6_init [.ref b] n jSH M r 0 0 P := by
  refine Con_of_J ok_X6_init 0 rfl rfl ?_
  refine J_aload_0 dX6_init_0 ?_
  refine J_objInit dX6_init_1 w_250 (by omega) (Nat.le_of_ble_eq_true rfl) ?_
  refine J_aload_0 dX6_init_4 ?_
  refine J_iconst (0 : Int32) dX6_init_5 (by decide) ?_
  refine J_putI false dX6_init_6 pl_X6_7 hb hs (by decide) (by decide +kernel) (fun q => absurd q (by decide)) ?_
  refine J_aload_0 dX6_init_9 ?_
  refine J_iconst (0 : Int32) dX6_init_10 (by decide) ?_
  refine J_putI false dX6_init_11 pl_X6_13 hb hs (by decide) (by decide +kernel) (fun q => absurd q (by decide)) ?_
  refine J_aload_0 dX6_init_14 ?_
  refine J_iconst (-1 : Int32) dX6_init_15 (by decide) ?_
  refine J_putI false dX6_init_16 pl_X6_16 hb hs (by decide) (by decide +kernel) (fun q => absurd q (by decide)) ?_
  refine J_aload_0 dX6_init_19 ?_
  refine J_iconst (-1 : Int32) dX6_init_20 (by decide) ?_
  refine J_putI false dX6_init_21 pl_X6_19 hb hs (by decide) (by decide +kernel) (fun q => absurd q (by decide)) ?_
  refine J_aload_0 dX6_init_24 ?_
  refine J_iconst (-1 : Int32) dX6_init_25 (by decide) ?_
  refine J_putI false dX6_init_26 pl_X6_22 hb hs (by decide) (by decide +kernel) (fun q => absurd q (by decide)) ?_
  refine J_aload_0 dX6_init_29 ?_
  refine J_iconst (0 : Int32) dX6_init_30 (by decide) ?_
  refine J_putI false dX6_init_31 pl_X6_25 hb hs (by decide) (by decide +kernel) (fun q => absurd q (by decide)) ?_
  refine J_aload_0 dX6_init_34 ?_
  refine J_iconst (0 : Int32) dX6_init_35 (by decide) ?_
  refine J_putI false dX6_init_36 pl_X6_28 hb hs (by decide) (by decide +kernel) (fun q => absurd q (by decide)) ?_
  refine J_aload_0 dX6_init_39 ?_
  refine J_iconst (0 : Int32) dX6_init_40 (by decide) ?_
  refine J_putI false dX6_init_41 pl_X6_31 hb hs (by decide) (by decide +kernel) (fun q => absurd q (by decide)) ?_
  refine J_ret dX6_init_44 rfl ?_
  exact h _ fun k hk => by simp (disch := omega) only [jup_ne]
def jX6 (b n : Nat) (M : jM) (r : jR) : jP := fun v n' sh' M' r' => v = none ∧ n' = n ∧ sh' = jSH ∧ (∀ k, k ≠ b → M' k = M k) ∧ r' = r
theorem i_X6c {G : jGT} {d b n : Nat} {M : jM} {r : jR} (hb : b < n) (hs : jSH b = (6, 8)) : Con G (d + 1) mX6_init [.ref b] n jSH M r 0 0 (jX6 b n M r) := i_X6 hb hs fun M' h => ⟨rfl, rfl, rfl, h, rfl⟩
theorem i_X2_1 {G : jGT} {d : Nat} {M : jM} {r : jR} (hz : iZ 1 M r) : Con G (d + 1) mX2_init [.ref 1] 2 jSH M r 9 272 (iP 1 11 M r (fun M' => ∀ k, 1 ≤ k → k < 11 → M' k = fun _ => 0)) := by
  refine Con_of_J ok_X2_init 0 rfl rfl ?_
  refine J_aload_0 dX2_init_0 ?_
  refine J_objInit dX2_init_1 w_92 (by omega) (Nat.le_of_ble_eq_true rfl) ?_
  refine J_aload_0 dX2_init_4 ?_
  refine J_iconst (0 : Int32) dX2_init_5 (by decide) ?_
  refine J_putI false dX2_init_6 pl_X2_9 (by decide) (by decide +kernel : jSH 1 = (2, 17)) (by decide) (by decide +kernel) (fun q => absurd q (by decide)) ?_
  refine J_aload_0 dX2_init_9 ?_
  refine J_iconst (0 : Int32) dX2_init_10 (by decide) ?_
  refine J_putI false dX2_init_11 pl_X2_15 (by decide) (by decide +kernel : jSH 1 = (2, 17)) (by decide) (by decide +kernel) (fun q => absurd q (by decide)) ?_
  refine J_aload_0 dX2_init_14 ?_
  refine J_bipush (8 : Int32) dX2_init_15 (by decide) ?_
  refine J_newa (t := 0) (N := 8) dX2_init_17 (by decide) rfl w_167 (by decide) (by decide) (by decide) (by omega) (by omega) (by decide) (by first | exact (hz 2 (by omega)).1 | (simp (disch := omega) only [jup_ne]; exact (hz 2 (by omega)).1)) ?_
  rw [jSH_upd (by decide +kernel : jSH 2 = (100 + 0, 8))]
  refine J_putF dX2_init_19 rl_X2_18 rfl (by decide) (by decide +kernel : jSH 1 = (2, 17)) (by decide) (by decide +kernel) ?_
  refine J_aload_0 dX2_init_22 ?_
  refine J_bipush (8 : Int32) dX2_init_23 (by decide) ?_
  refine J_newa (t := 0) (N := 8) dX2_init_25 (by decide) rfl w_167 (by decide) (by decide) (by decide) (by omega) (by omega) (by decide) (by first | exact (hz 3 (by omega)).1 | (simp (disch := omega) only [jup_ne]; exact (hz 3 (by omega)).1)) ?_
  rw [jSH_upd (by decide +kernel : jSH 3 = (100 + 0, 8))]
  refine J_putF dX2_init_27 rl_X2_22 rfl (by decide) (by decide +kernel : jSH 1 = (2, 17)) (by decide) (by decide +kernel) ?_
  refine J_aload_0 dX2_init_30 ?_
  refine J_iconst (0 : Int32) dX2_init_31 (by decide) ?_
  refine J_putI false dX2_init_32 pl_X2_25 (by decide) (by decide +kernel : jSH 1 = (2, 17)) (by decide) (by decide +kernel) (fun q => absurd q (by decide)) ?_
  refine J_aload_0 dX2_init_35 ?_
  refine J_iconst (4 : Int32) dX2_init_36 (by decide) ?_
  refine J_newa (t := 0) (N := 4) dX2_init_37 (by decide) rfl w_167 (by decide) (by decide) (by decide) (by omega) (by omega) (by decide) (by first | exact (hz 4 (by omega)).1 | (simp (disch := omega) only [jup_ne]; exact (hz 4 (by omega)).1)) ?_
  rw [jSH_upd (by decide +kernel : jSH 4 = (100 + 0, 4))]
  refine J_putF dX2_init_39 rl_X2_28 rfl (by decide) (by decide +kernel : jSH 1 = (2, 17)) (by decide) (by decide +kernel) ?_
  refine J_aload_0 dX2_init_42 ?_
  refine J_iconst (4 : Int32) dX2_init_43 (by decide) ?_
  refine J_newa (t := 0) (N := 4) dX2_init_44 (by decide) rfl w_167 (by decide) (by decide) (by decide) (by omega) (by omega) (by decide) (by first | exact (hz 5 (by omega)).1 | (simp (disch := omega) only [jup_ne]; exact (hz 5 (by omega)).1)) ?_
  rw [jSH_upd (by decide +kernel : jSH 5 = (100 + 0, 4))]
  refine J_putF dX2_init_46 rl_X2_31 rfl (by decide) (by decide +kernel : jSH 1 = (2, 17)) (by decide) (by decide +kernel) ?_
  refine J_aload_0 dX2_init_49 ?_
  refine J_bipush (16 : Int32) dX2_init_50 (by decide) ?_
  refine J_newa (t := 0) (N := 16) dX2_init_52 (by decide) rfl w_167 (by decide) (by decide) (by decide) (by omega) (by omega) (by decide) (by first | exact (hz 6 (by omega)).1 | (simp (disch := omega) only [jup_ne]; exact (hz 6 (by omega)).1)) ?_
  rw [jSH_upd (by decide +kernel : jSH 6 = (100 + 0, 16))]
  refine J_putF dX2_init_54 rl_X2_34 rfl (by decide) (by decide +kernel : jSH 1 = (2, 17)) (by decide) (by decide +kernel) ?_
  refine J_aload_0 dX2_init_57 ?_
  refine J_iconst (0 : Int32) dX2_init_58 (by decide) ?_
  refine J_putI false dX2_init_59 pl_X2_37 (by decide) (by decide +kernel : jSH 1 = (2, 17)) (by decide) (by decide +kernel) (fun q => absurd q (by decide)) ?_
  refine J_aload_0 dX2_init_62 ?_
  refine J_bipush (24 : Int32) dX2_init_63 (by decide) ?_
  refine J_newa (t := 0) (N := 24) dX2_init_65 (by decide) rfl w_167 (by decide) (by decide) (by decide) (by omega) (by omega) (by decide) (by first | exact (hz 7 (by omega)).1 | (simp (disch := omega) only [jup_ne]; exact (hz 7 (by omega)).1)) ?_
  rw [jSH_upd (by decide +kernel : jSH 7 = (100 + 0, 24))]
  refine J_putF dX2_init_67 rl_X2_40 rfl (by decide) (by decide +kernel : jSH 1 = (2, 17)) (by decide) (by decide +kernel) ?_
  refine J_aload_0 dX2_init_70 ?_
  refine J_iconst (0 : Int32) dX2_init_71 (by decide) ?_
  refine J_putI false dX2_init_72 pl_X2_43 (by decide) (by decide +kernel : jSH 1 = (2, 17)) (by decide) (by decide +kernel) (fun q => absurd q (by decide)) ?_
  refine J_aload_0 dX2_init_75 ?_
  refine J_bipush (8 : Int32) dX2_init_76 (by decide) ?_
  refine J_newa (t := 0) (N := 8) dX2_init_78 (by decide) rfl w_167 (by decide) (by decide) (by decide) (by omega) (by omega) (by decide) (by first | exact (hz 8 (by omega)).1 | (simp (disch := omega) only [jup_ne]; exact (hz 8 (by omega)).1)) ?_
  rw [jSH_upd (by decide +kernel : jSH 8 = (100 + 0, 8))]
  refine J_putF dX2_init_80 rl_X2_46 rfl (by decide) (by decide +kernel : jSH 1 = (2, 17)) (by decide) (by decide +kernel) ?_
  refine J_aload_0 dX2_init_83 ?_
  refine J_iconst (0 : Int32) dX2_init_84 (by decide) ?_
  refine J_putI false dX2_init_85 pl_X2_49 (by decide) (by decide +kernel : jSH 1 = (2, 17)) (by decide) (by decide +kernel) (fun q => absurd q (by decide)) ?_
  refine J_aload_0 dX2_init_88 ?_
  refine J_bipush (100 : Int32) dX2_init_89 (by decide) ?_
  refine J_newa (t := 1) (N := 100) dX2_init_91 (by decide) rfl w_168 (by decide) (by decide) (by decide) (by omega) (by omega) (by decide) (by first | exact (hz 9 (by omega)).1 | (simp (disch := omega) only [jup_ne]; exact (hz 9 (by omega)).1)) ?_
  rw [jSH_upd (by decide +kernel : jSH 9 = (100 + 1, 100))]
  refine J_putF dX2_init_93 rl_X2_52 rfl (by decide) (by decide +kernel : jSH 1 = (2, 17)) (by decide) (by decide +kernel) ?_
  refine J_aload_0 dX2_init_96 ?_
  refine J_iconst (0 : Int32) dX2_init_97 (by decide) ?_
  refine J_putI false dX2_init_98 pl_X2_56 (by decide) (by decide +kernel : jSH 1 = (2, 17)) (by decide) (by decide +kernel) (fun q => absurd q (by decide)) ?_
  refine J_aload_0 dX2_init_101 ?_
  refine J_iconst (0 : Int32) dX2_init_102 (by decide) ?_
  refine J_putI false dX2_init_103 pl_X2_59 (by decide) (by decide +kernel : jSH 1 = (2, 17)) (by decide) (by decide +kernel) (fun q => absurd q (by decide)) ?_
  refine J_aload_0 dX2_init_106 ?_
  refine J_bipush (100 : Int32) dX2_init_107 (by decide) ?_
  refine J_newa (t := 1) (N := 100) dX2_init_109 (by decide) rfl w_168 (by decide) (by decide) (by decide) (by omega) (by omega) (by decide) (by first | exact (hz 10 (by omega)).1 | (simp (disch := omega) only [jup_ne]; exact (hz 10 (by omega)).1)) ?_
  rw [jSH_upd (by decide +kernel : jSH 10 = (100 + 1, 100))]
  refine J_putF dX2_init_111 rl_X2_62 rfl (by decide) (by decide +kernel : jSH 1 = (2, 17)) (by decide) (by decide +kernel) ?_
  refine J_ret dX2_init_114 rfl ?_
  refine ⟨rfl, rfl, rfl, fun k hk => ⟨?_, ?_⟩, fun k hk => ⟨?_, ?_⟩, fun k h1 h2 => ?_, ?_⟩
  · first | exact (hz k (by omega)).1 | (simp (disch := omega) only [jup_ne]; exact (hz k (by omega)).1)
  · first | exact (hz k (by omega)).2 | (simp (disch := omega) only [jrup_ne]; exact (hz k (by omega)).2)
  · first | rfl | simp (disch := omega) only [jup_ne]
  · first | rfl | simp (disch := omega) only [jrup_ne]
  · rcases (show k = 1 ∨ k = 2 ∨ k = 3 ∨ k = 4 ∨ k = 5 ∨ k = 6 ∨ k = 7 ∨ k = 8 ∨ k = 9 ∨ k = 10 by omega) with rfl | rfl | rfl | rfl | rfl | rfl | rfl | rfl | rfl | rfl
    · have hr1 : r 1 = fun _ => none := (hz 1 (by omega)).2
      refine jMR_row (N := 17) (by omega) (by decide +kernel) (fun j hj => ?_) (fun j hj => ?_)
      · rcases (show j = 0 ∨ j = 1 ∨ j = 2 ∨ j = 3 ∨ j = 4 ∨ j = 5 ∨ j = 6 ∨ j = 7 ∨ j = 8 ∨ j = 9 ∨ j = 10 ∨ j = 11 ∨ j = 12 ∨ j = 13 ∨ j = 14 ∨ j = 15 ∨ j = 16 by omega) with rfl | rfl | rfl | rfl | rfl | rfl | rfl | rfl | rfl | rfl | rfl | rfl | rfl | rfl | rfl | rfl | rfl <;> simp (disch := omega) only [jrup_ss, jrup_sn, jrup_n, jrup_ne, hr1] <;> decide +kernel
      · simp (disch := omega) only [jrup_ss, jrup_sn, jrup_n, jrup_ne, hr1]
    · have hr2 : r 2 = fun _ => none := (hz 2 (by omega)).2
      rw [jMR_emp (k := 2) rfl]
      first | exact hr2 | (simp (disch := omega) only [jrup_ne]; exact hr2) | simp (disch := omega) only [jrup_ne, hr2]
    · have hr3 : r 3 = fun _ => none := (hz 3 (by omega)).2
      rw [jMR_emp (k := 3) rfl]
      first | exact hr3 | (simp (disch := omega) only [jrup_ne]; exact hr3) | simp (disch := omega) only [jrup_ne, hr3]
    · have hr4 : r 4 = fun _ => none := (hz 4 (by omega)).2
      rw [jMR_emp (k := 4) rfl]
      first | exact hr4 | (simp (disch := omega) only [jrup_ne]; exact hr4) | simp (disch := omega) only [jrup_ne, hr4]
    · have hr5 : r 5 = fun _ => none := (hz 5 (by omega)).2
      rw [jMR_emp (k := 5) rfl]
      first | exact hr5 | (simp (disch := omega) only [jrup_ne]; exact hr5) | simp (disch := omega) only [jrup_ne, hr5]
    · have hr6 : r 6 = fun _ => none := (hz 6 (by omega)).2
      rw [jMR_emp (k := 6) rfl]
      first | exact hr6 | (simp (disch := omega) only [jrup_ne]; exact hr6) | simp (disch := omega) only [jrup_ne, hr6]
    · have hr7 : r 7 = fun _ => none := (hz 7 (by omega)).2
      rw [jMR_emp (k := 7) rfl]
      first | exact hr7 | (simp (disch := omega) only [jrup_ne]; exact hr7) | simp (disch := omega) only [jrup_ne, hr7]
    · have hr8 : r 8 = fun _ => none := (hz 8 (by omega)).2
      rw [jMR_emp (k := 8) rfl]
      first | exact hr8 | (simp (disch := omega) only [jrup_ne]; exact hr8) | simp (disch := omega) only [jrup_ne, hr8]
    · have hr9 : r 9 = fun _ => none := (hz 9 (by omega)).2
      rw [jMR_emp (k := 9) rfl]
      first | exact hr9 | (simp (disch := omega) only [jrup_ne]; exact hr9) | simp (disch := omega) only [jrup_ne, hr9]
    · have hr10 : r 10 = fun _ => none := (hz 10 (by omega)).2
      rw [jMR_emp (k := 10) rfl]
      first | exact hr10 | (simp (disch := omega) only [jrup_ne]; exact hr10) | simp (disch := omega) only [jrup_ne, hr10]
  · intro k h1 h2
    by_cases e : k = 1
    · subst e
      repeat (refine jup_zero ?_)
      exact (hz 1 (by omega)).1
    · simp (disch := omega) only [jup_ne]
      exact (hz k (by omega)).1
theorem i_X2_11 {G : jGT} {d : Nat} {M : jM} {r : jR} (hz : iZ 11 M r) : Con G (d + 1) mX2_init [.ref 11] 12 jSH M r 9 272 (iP 11 21 M r (fun M' => ∀ k, 11 ≤ k → k < 21 → M' k = fun _ => 0)) := by
  refine Con_of_J ok_X2_init 0 rfl rfl ?_
  refine J_aload_0 dX2_init_0 ?_
  refine J_objInit dX2_init_1 w_92 (by omega) (Nat.le_of_ble_eq_true rfl) ?_
  refine J_aload_0 dX2_init_4 ?_
  refine J_iconst (0 : Int32) dX2_init_5 (by decide) ?_
  refine J_putI false dX2_init_6 pl_X2_9 (by decide) (by decide +kernel : jSH 11 = (2, 17)) (by decide) (by decide +kernel) (fun q => absurd q (by decide)) ?_
  refine J_aload_0 dX2_init_9 ?_
  refine J_iconst (0 : Int32) dX2_init_10 (by decide) ?_
  refine J_putI false dX2_init_11 pl_X2_15 (by decide) (by decide +kernel : jSH 11 = (2, 17)) (by decide) (by decide +kernel) (fun q => absurd q (by decide)) ?_
  refine J_aload_0 dX2_init_14 ?_
  refine J_bipush (8 : Int32) dX2_init_15 (by decide) ?_
  refine J_newa (t := 0) (N := 8) dX2_init_17 (by decide) rfl w_167 (by decide) (by decide) (by decide) (by omega) (by omega) (by decide) (by first | exact (hz 12 (by omega)).1 | (simp (disch := omega) only [jup_ne]; exact (hz 12 (by omega)).1)) ?_
  rw [jSH_upd (by decide +kernel : jSH 12 = (100 + 0, 8))]
  refine J_putF dX2_init_19 rl_X2_18 rfl (by decide) (by decide +kernel : jSH 11 = (2, 17)) (by decide) (by decide +kernel) ?_
  refine J_aload_0 dX2_init_22 ?_
  refine J_bipush (8 : Int32) dX2_init_23 (by decide) ?_
  refine J_newa (t := 0) (N := 8) dX2_init_25 (by decide) rfl w_167 (by decide) (by decide) (by decide) (by omega) (by omega) (by decide) (by first | exact (hz 13 (by omega)).1 | (simp (disch := omega) only [jup_ne]; exact (hz 13 (by omega)).1)) ?_
  rw [jSH_upd (by decide +kernel : jSH 13 = (100 + 0, 8))]
  refine J_putF dX2_init_27 rl_X2_22 rfl (by decide) (by decide +kernel : jSH 11 = (2, 17)) (by decide) (by decide +kernel) ?_
  refine J_aload_0 dX2_init_30 ?_
  refine J_iconst (0 : Int32) dX2_init_31 (by decide) ?_
  refine J_putI false dX2_init_32 pl_X2_25 (by decide) (by decide +kernel : jSH 11 = (2, 17)) (by decide) (by decide +kernel) (fun q => absurd q (by decide)) ?_
  refine J_aload_0 dX2_init_35 ?_
  refine J_iconst (4 : Int32) dX2_init_36 (by decide) ?_
  refine J_newa (t := 0) (N := 4) dX2_init_37 (by decide) rfl w_167 (by decide) (by decide) (by decide) (by omega) (by omega) (by decide) (by first | exact (hz 14 (by omega)).1 | (simp (disch := omega) only [jup_ne]; exact (hz 14 (by omega)).1)) ?_
  rw [jSH_upd (by decide +kernel : jSH 14 = (100 + 0, 4))]
  refine J_putF dX2_init_39 rl_X2_28 rfl (by decide) (by decide +kernel : jSH 11 = (2, 17)) (by decide) (by decide +kernel) ?_
  refine J_aload_0 dX2_init_42 ?_
  refine J_iconst (4 : Int32) dX2_init_43 (by decide) ?_
  refine J_newa (t := 0) (N := 4) dX2_init_44 (by decide) rfl w_167 (by decide) (by decide) (by decide) (by omega) (by omega) (by decide) (by first | exact (hz 15 (by omega)).1 | (simp (disch := omega) only [jup_ne]; exact (hz 15 (by omega)).1)) ?_
  rw [jSH_upd (by decide +kernel : jSH 15 = (100 + 0, 4))]
  refine J_putF dX2_init_46 rl_X2_31 rfl (by decide) (by decide +kernel : jSH 11 = (2, 17)) (by decide) (by decide +kernel) ?_
  refine J_aload_0 dX2_init_49 ?_
  refine J_bipush (16 : Int32) dX2_init_50 (by decide) ?_
  refine J_newa (t := 0) (N := 16) dX2_init_52 (by decide) rfl w_167 (by decide) (by decide) (by decide) (by omega) (by omega) (by decide) (by first | exact (hz 16 (by omega)).1 | (simp (disch := omega) only [jup_ne]; exact (hz 16 (by omega)).1)) ?_
  rw [jSH_upd (by decide +kernel : jSH 16 = (100 + 0, 16))]
  refine J_putF dX2_init_54 rl_X2_34 rfl (by decide) (by decide +kernel : jSH 11 = (2, 17)) (by decide) (by decide +kernel) ?_
  refine J_aload_0 dX2_init_57 ?_
  refine J_iconst (0 : Int32) dX2_init_58 (by decide) ?_
  refine J_putI false dX2_init_59 pl_X2_37 (by decide) (by decide +kernel : jSH 11 = (2, 17)) (by decide) (by decide +kernel) (fun q => absurd q (by decide)) ?_
  refine J_aload_0 dX2_init_62 ?_
  refine J_bipush (24 : Int32) dX2_init_63 (by decide) ?_
  refine J_newa (t := 0) (N := 24) dX2_init_65 (by decide) rfl w_167 (by decide) (by decide) (by decide) (by omega) (by omega) (by decide) (by first | exact (hz 17 (by omega)).1 | (simp (disch := omega) only [jup_ne]; exact (hz 17 (by omega)).1)) ?_
  rw [jSH_upd (by decide +kernel : jSH 17 = (100 + 0, 24))]
  refine J_putF dX2_init_67 rl_X2_40 rfl (by decide) (by decide +kernel : jSH 11 = (2, 17)) (by decide) (by decide +kernel) ?_
  refine J_aload_0 dX2_init_70 ?_
  refine J_iconst (0 : Int32) dX2_init_71 (by decide) ?_
  refine J_putI false dX2_init_72 pl_X2_43 (by decide) (by decide +kernel : jSH 11 = (2, 17)) (by decide) (by decide +kernel) (fun q => absurd q (by decide)) ?_
  refine J_aload_0 dX2_init_75 ?_
  refine J_bipush (8 : Int32) dX2_init_76 (by decide) ?_
  refine J_newa (t := 0) (N := 8) dX2_init_78 (by decide) rfl w_167 (by decide) (by decide) (by decide) (by omega) (by omega) (by decide) (by first | exact (hz 18 (by omega)).1 | (simp (disch := omega) only [jup_ne]; exact (hz 18 (by omega)).1)) ?_
  rw [jSH_upd (by decide +kernel : jSH 18 = (100 + 0, 8))]
  refine J_putF dX2_init_80 rl_X2_46 rfl (by decide) (by decide +kernel : jSH 11 = (2, 17)) (by decide) (by decide +kernel) ?_
  refine J_aload_0 dX2_init_83 ?_
  refine J_iconst (0 : Int32) dX2_init_84 (by decide) ?_
  refine J_putI false dX2_init_85 pl_X2_49 (by decide) (by decide +kernel : jSH 11 = (2, 17)) (by decide) (by decide +kernel) (fun q => absurd q (by decide)) ?_
  refine J_aload_0 dX2_init_88 ?_
  refine J_bipush (100 : Int32) dX2_init_89 (by decide) ?_
  refine J_newa (t := 1) (N := 100) dX2_init_91 (by decide) rfl w_168 (by decide) (by decide) (by decide) (by omega) (by omega) (by decide) (by first | exact (hz 19 (by omega)).1 | (simp (disch := omega) only [jup_ne]; exact (hz 19 (by omega)).1)) ?_
  rw [jSH_upd (by decide +kernel : jSH 19 = (100 + 1, 100))]
  refine J_putF dX2_init_93 rl_X2_52 rfl (by decide) (by decide +kernel : jSH 11 = (2, 17)) (by decide) (by decide +kernel) ?_
  refine J_aload_0 dX2_init_96 ?_
  refine J_iconst (0 : Int32) dX2_init_97 (by decide) ?_
  refine J_putI false dX2_init_98 pl_X2_56 (by decide) (by decide +kernel : jSH 11 = (2, 17)) (by decide) (by decide +kernel) (fun q => absurd q (by decide)) ?_
  refine J_aload_0 dX2_init_101 ?_
  refine J_iconst (0 : Int32) dX2_init_102 (by decide) ?_
  refine J_putI false dX2_init_103 pl_X2_59 (by decide) (by decide +kernel : jSH 11 = (2, 17)) (by decide) (by decide +kernel) (fun q => absurd q (by decide)) ?_
  refine J_aload_0 dX2_init_106 ?_
  refine J_bipush (100 : Int32) dX2_init_107 (by decide) ?_
  refine J_newa (t := 1) (N := 100) dX2_init_109 (by decide) rfl w_168 (by decide) (by decide) (by decide) (by omega) (by omega) (by decide) (by first | exact (hz 20 (by omega)).1 | (simp (disch := omega) only [jup_ne]; exact (hz 20 (by omega)).1)) ?_
  rw [jSH_upd (by decide +kernel : jSH 20 = (100 + 1, 100))]
  refine J_putF dX2_init_111 rl_X2_62 rfl (by decide) (by decide +kernel : jSH 11 = (2, 17)) (by decide) (by decide +kernel) ?_
  refine J_ret dX2_init_114 rfl ?_
  refine ⟨rfl, rfl, rfl, fun k hk => ⟨?_, ?_⟩, fun k hk => ⟨?_, ?_⟩, fun k h1 h2 => ?_, ?_⟩
  · first | exact (hz k (by omega)).1 | (simp (disch := omega) only [jup_ne]; exact (hz k (by omega)).1)
  · first | exact (hz k (by omega)).2 | (simp (disch := omega) only [jrup_ne]; exact (hz k (by omega)).2)
  · first | rfl | simp (disch := omega) only [jup_ne]
  · first | rfl | simp (disch := omega) only [jrup_ne]
  · rcases (show k = 11 ∨ k = 12 ∨ k = 13 ∨ k = 14 ∨ k = 15 ∨ k = 16 ∨ k = 17 ∨ k = 18 ∨ k = 19 ∨ k = 20 by omega) with rfl | rfl | rfl | rfl | rfl | rfl | rfl | rfl | rfl | rfl
    · have hr11 : r 11 = fun _ => none := (hz 11 (by omega)).2
      refine jMR_row (N := 17) (by omega) (by decide +kernel) (fun j hj => ?_) (fun j hj => ?_)
      · rcases (show j = 0 ∨ j = 1 ∨ j = 2 ∨ j = 3 ∨ j = 4 ∨ j = 5 ∨ j = 6 ∨ j = 7 ∨ j = 8 ∨ j = 9 ∨ j = 10 ∨ j = 11 ∨ j = 12 ∨ j = 13 ∨ j = 14 ∨ j = 15 ∨ j = 16 by omega) with rfl | rfl | rfl | rfl | rfl | rfl | rfl | rfl | rfl | rfl | rfl | rfl | rfl | rfl | rfl | rfl | rfl <;> simp (disch := omega) only [jrup_ss, jrup_sn, jrup_n, jrup_ne, hr11] <;> decide +kernel
      · simp (disch := omega) only [jrup_ss, jrup_sn, jrup_n, jrup_ne, hr11]
    · have hr12 : r 12 = fun _ => none := (hz 12 (by omega)).2
      rw [jMR_emp (k := 12) rfl]
      first | exact hr12 | (simp (disch := omega) only [jrup_ne]; exact hr12) | simp (disch := omega) only [jrup_ne, hr12]
    · have hr13 : r 13 = fun _ => none := (hz 13 (by omega)).2
      rw [jMR_emp (k := 13) rfl]
      first | exact hr13 | (simp (disch := omega) only [jrup_ne]; exact hr13) | simp (disch := omega) only [jrup_ne, hr13]
    · have hr14 : r 14 = fun _ => none := (hz 14 (by omega)).2
      rw [jMR_emp (k := 14) rfl]
      first | exact hr14 | (simp (disch := omega) only [jrup_ne]; exact hr14) | simp (disch := omega) only [jrup_ne, hr14]
    · have hr15 : r 15 = fun _ => none := (hz 15 (by omega)).2
      rw [jMR_emp (k := 15) rfl]
      first | exact hr15 | (simp (disch := omega) only [jrup_ne]; exact hr15) | simp (disch := omega) only [jrup_ne, hr15]
    · have hr16 : r 16 = fun _ => none := (hz 16 (by omega)).2
      rw [jMR_emp (k := 16) rfl]
      first | exact hr16 | (simp (disch := omega) only [jrup_ne]; exact hr16) | simp (disch := omega) only [jrup_ne, hr16]
    · have hr17 : r 17 = fun _ => none := (hz 17 (by omega)).2
      rw [jMR_emp (k := 17) rfl]
      first | exact hr17 | (simp (disch := omega) only [jrup_ne]; exact hr17) | simp (disch := omega) only [jrup_ne, hr17]
    · have hr18 : r 18 = fun _ => none := (hz 18 (by omega)).2
      rw [jMR_emp (k := 18) rfl]
      first | exact hr18 | (simp (disch := omega) only [jrup_ne]; exact hr18) | simp (disch := omega) only [jrup_ne, hr18]
    · have hr19 : r 19 = fun _ => none := (hz 19 (by omega)).2
      rw [jMR_emp (k := 19) rfl]
      first | exact hr19 | (simp (disch := omega) only [jrup_ne]; exact hr19) | simp (disch := omega) only [jrup_ne, hr19]
    · have hr20 : r 20 = fun _ => none := (hz 20 (by omega)).2
      rw [jMR_emp (k := 20) rfl]
      first | exact hr20 | (simp (disch := omega) only [jrup_ne]; exact hr20) | simp (disch := omega) only [jrup_ne, hr20]
  · intro k h1 h2
    by_cases e : k = 11
    · subst e
      repeat (refine jup_zero ?_)
      exact (hz 11 (by omega)).1
    · simp (disch := omega) only [jup_ne]
      exact (hz k (by omega)).1
theorem i_X3_21 {G : jGT} {d : Nat} {M : jM} {r : jR} (hz : iZ 21 M r) : Con G (d + 1) mX3_init [.ref 21] 22 jSH M r 5 33 (iP 21 27 M r (fun _ => True)) := by
  refine Con_of_J ok_X3_init 0 rfl rfl ?_
  refine J_aload_0 dX3_init_0 ?_
  refine J_objInit dX3_init_1 w_174 (by omega) (Nat.le_of_ble_eq_true rfl) ?_
  refine J_aload_0 dX3_init_4 ?_
  refine J_bipush (8 : Int32) dX3_init_5 (by decide) ?_
  refine J_newa (t := 0) (N := 8) dX3_init_7 (by decide) rfl w_167 (by decide) (by decide) (by decide) (by omega) (by omega) (by decide) (by first | exact (hz 22 (by omega)).1 | (simp (disch := omega) only [jup_ne]; exact (hz 22 (by omega)).1)) ?_
  rw [jSH_upd (by decide +kernel : jSH 22 = (100 + 0, 8))]
  refine J_putF dX3_init_9 rl_X3_9 rfl (by decide) (by decide +kernel : jSH 21 = (3, 19)) (by decide) (by decide +kernel) ?_
  refine J_aload_0 dX3_init_12 ?_
  refine J_bipush (8 : Int32) dX3_init_13 (by decide) ?_
  refine J_newa (t := 0) (N := 8) dX3_init_15 (by decide) rfl w_167 (by decide) (by decide) (by decide) (by omega) (by omega) (by decide) (by first | exact (hz 23 (by omega)).1 | (simp (disch := omega) only [jup_ne]; exact (hz 23 (by omega)).1)) ?_
  rw [jSH_upd (by decide +kernel : jSH 23 = (100 + 0, 8))]
  refine J_putF dX3_init_17 rl_X3_15 rfl (by decide) (by decide +kernel : jSH 21 = (3, 19)) (by decide) (by decide +kernel) ?_
  refine J_aload_0 dX3_init_20 ?_
  refine J_iconst (2 : Int32) dX3_init_21 (by decide) ?_
  refine J_putI false dX3_init_22 pl_X3_18 (by decide) (by decide +kernel : jSH 21 = (3, 19)) (by decide) (by decide +kernel) (fun q => absurd q (by decide)) ?_
  refine J_aload_0 dX3_init_25 ?_
  refine J_iconst (0 : Int32) dX3_init_26 (by decide) ?_
  refine J_putI false dX3_init_27 pl_X3_22 (by decide) (by decide +kernel : jSH 21 = (3, 19)) (by decide) (by decide +kernel) (fun q => absurd q (by decide)) ?_
  refine J_aload_0 dX3_init_30 ?_
  refine J_iconst (0 : Int32) dX3_init_31 (by decide) ?_
  refine J_putI false dX3_init_32 pl_X3_25 (by decide) (by decide +kernel : jSH 21 = (3, 19)) (by decide) (by decide +kernel) (fun q => absurd q (by decide)) ?_
  refine J_aload_0 dX3_init_35 ?_
  refine J_iconst (0 : Int32) dX3_init_36 (by decide) ?_
  refine J_putI false dX3_init_37 pl_X3_28 (by decide) (by decide +kernel : jSH 21 = (3, 19)) (by decide) (by decide +kernel) (fun q => absurd q (by decide)) ?_
  refine J_aload_0 dX3_init_40 ?_
  refine J_iconst (0 : Int32) dX3_init_41 (by decide) ?_
  refine J_putI false dX3_init_42 pl_X3_31 (by decide) (by decide +kernel : jSH 21 = (3, 19)) (by decide) (by decide +kernel) (fun q => absurd q (by decide)) ?_
  refine J_aload_0 dX3_init_45 ?_
  refine J_iconst (0 : Int32) dX3_init_46 (by decide) ?_
  refine J_putI false dX3_init_47 pl_X3_34 (by decide) (by decide +kernel : jSH 21 = (3, 19)) (by decide) (by decide +kernel) (fun q => absurd q (by decide)) ?_
  refine J_aload_0 dX3_init_50 ?_
  refine J_iconst (0 : Int32) dX3_init_51 (by decide) ?_
  refine J_putI false dX3_init_52 pl_X3_37 (by decide) (by decide +kernel : jSH 21 = (3, 19)) (by decide) (by decide +kernel) (fun q => absurd q (by decide)) ?_
  refine J_aload_0 dX3_init_55 ?_
  refine J_iconst (0 : Int32) dX3_init_56 (by decide) ?_
  refine J_putI false dX3_init_57 pl_X3_40 (by decide) (by decide +kernel : jSH 21 = (3, 19)) (by decide) (by decide +kernel) (fun q => absurd q (by decide)) ?_
  refine J_aload_0 dX3_init_60 ?_
  refine J_iconst (0 : Int32) dX3_init_61 (by decide) ?_
  refine J_putI false dX3_init_62 pl_X3_43 (by decide) (by decide +kernel : jSH 21 = (3, 19)) (by decide) (by decide +kernel) (fun q => absurd q (by decide)) ?_
  refine J_aload_0 dX3_init_65 ?_
  refine J_iconst (0 : Int32) dX3_init_66 (by decide) ?_
  refine J_putI false dX3_init_67 pl_X3_46 (by decide) (by decide +kernel : jSH 21 = (3, 19)) (by decide) (by decide +kernel) (fun q => absurd q (by decide)) ?_
  refine J_aload_0 dX3_init_70 ?_
  refine J_iconst (0 : Int32) dX3_init_71 (by decide) ?_
  refine J_putI false dX3_init_72 pl_X3_49 (by decide) (by decide +kernel : jSH 21 = (3, 19)) (by decide) (by decide +kernel) (fun q => absurd q (by decide)) ?_
  refine J_aload_0 dX3_init_75 ?_
  refine J_iconst (0 : Int32) dX3_init_76 (by decide) ?_
  refine J_putI false dX3_init_77 pl_X3_52 (by decide) (by decide +kernel : jSH 21 = (3, 19)) (by decide) (by decide +kernel) (fun q => absurd q (by decide)) ?_
  refine J_aload_0 dX3_init_80 ?_
  refine J_iconst (0 : Int32) dX3_init_81 (by decide) ?_
  refine J_putI false dX3_init_82 pl_X3_55 (by decide) (by decide +kernel : jSH 21 = (3, 19)) (by decide) (by decide +kernel) (fun q => absurd q (by decide)) ?_
  refine J_aload_0 dX3_init_85 ?_
  refine J_iconst (0 : Int32) dX3_init_86 (by decide) ?_
  refine J_putI false dX3_init_87 pl_X3_58 (by decide) (by decide +kernel : jSH 21 = (3, 19)) (by decide) (by decide +kernel) (fun q => absurd q (by decide)) ?_
  refine J_aload_0 dX3_init_90 ?_
  refine J_iconst (5 : Int32) dX3_init_91 (by decide) ?_
  refine J_newa (t := 0) (N := 5) dX3_init_92 (by decide) rfl w_167 (by decide) (by decide) (by decide) (by omega) (by omega) (by decide) (by first | exact (hz 24 (by omega)).1 | (simp (disch := omega) only [jup_ne]; exact (hz 24 (by omega)).1)) ?_
  rw [jSH_upd (by decide +kernel : jSH 24 = (100 + 0, 5))]
  refine J_putF dX3_init_94 rl_X3_61 rfl (by decide) (by decide +kernel : jSH 21 = (3, 19)) (by decide) (by decide +kernel) ?_
  refine J_aload_0 dX3_init_97 ?_
  refine J_bipush (6 : Int32) dX3_init_98 (by decide) ?_
  refine J_newa (t := 0) (N := 6) dX3_init_100 (by decide) rfl w_167 (by decide) (by decide) (by decide) (by omega) (by omega) (by decide) (by first | exact (hz 25 (by omega)).1 | (simp (disch := omega) only [jup_ne]; exact (hz 25 (by omega)).1)) ?_
  rw [jSH_upd (by decide +kernel : jSH 25 = (100 + 0, 6))]
  refine J_putF dX3_init_102 rl_X3_64 rfl (by decide) (by decide +kernel : jSH 21 = (3, 19)) (by decide) (by decide +kernel) ?_
  refine J_aload_0 dX3_init_105 ?_
  refine J_bipush (6 : Int32) dX3_init_106 (by decide) ?_
  refine J_newa (t := 0) (N := 6) dX3_init_108 (by decide) rfl w_167 (by decide) (by decide) (by decide) (by omega) (by omega) (by decide) (by first | exact (hz 26 (by omega)).1 | (simp (disch := omega) only [jup_ne]; exact (hz 26 (by omega)).1)) ?_
  rw [jSH_upd (by decide +kernel : jSH 26 = (100 + 0, 6))]
  refine J_putF dX3_init_110 rl_X3_67 rfl (by decide) (by decide +kernel : jSH 21 = (3, 19)) (by decide) (by decide +kernel) ?_
  refine J_ret dX3_init_113 rfl ?_
  refine ⟨rfl, rfl, rfl, fun k hk => ⟨?_, ?_⟩, fun k hk => ⟨?_, ?_⟩, fun k h1 h2 => ?_, ?_⟩
  · first | exact (hz k (by omega)).1 | (simp (disch := omega) only [jup_ne]; exact (hz k (by omega)).1)
  · first | exact (hz k (by omega)).2 | (simp (disch := omega) only [jrup_ne]; exact (hz k (by omega)).2)
  · first | rfl | simp (disch := omega) only [jup_ne]
  · first | rfl | simp (disch := omega) only [jrup_ne]
  · rcases (show k = 21 ∨ k = 22 ∨ k = 23 ∨ k = 24 ∨ k = 25 ∨ k = 26 by omega) with rfl | rfl | rfl | rfl | rfl | rfl
    · have hr21 : r 21 = fun _ => none := (hz 21 (by omega)).2
      refine jMR_row (N := 19) (by omega) (by decide +kernel) (fun j hj => ?_) (fun j hj => ?_)
      · rcases (show j = 0 ∨ j = 1 ∨ j = 2 ∨ j = 3 ∨ j = 4 ∨ j = 5 ∨ j = 6 ∨ j = 7 ∨ j = 8 ∨ j = 9 ∨ j = 10 ∨ j = 11 ∨ j = 12 ∨ j = 13 ∨ j = 14 ∨ j = 15 ∨ j = 16 ∨ j = 17 ∨ j = 18 by omega) with rfl | rfl | rfl | rfl | rfl | rfl | rfl | rfl | rfl | rfl | rfl | rfl | rfl | rfl | rfl | rfl | rfl | rfl | rfl <;> simp (disch := omega) only [jrup_ss, jrup_sn, jrup_n, jrup_ne, hr21] <;> decide +kernel
      · simp (disch := omega) only [jrup_ss, jrup_sn, jrup_n, jrup_ne, hr21]
    · have hr22 : r 22 = fun _ => none := (hz 22 (by omega)).2
      rw [jMR_emp (k := 22) rfl]
      first | exact hr22 | (simp (disch := omega) only [jrup_ne]; exact hr22) | simp (disch := omega) only [jrup_ne, hr22]
    · have hr23 : r 23 = fun _ => none := (hz 23 (by omega)).2
      rw [jMR_emp (k := 23) rfl]
      first | exact hr23 | (simp (disch := omega) only [jrup_ne]; exact hr23) | simp (disch := omega) only [jrup_ne, hr23]
    · have hr24 : r 24 = fun _ => none := (hz 24 (by omega)).2
      rw [jMR_emp (k := 24) rfl]
      first | exact hr24 | (simp (disch := omega) only [jrup_ne]; exact hr24) | simp (disch := omega) only [jrup_ne, hr24]
    · have hr25 : r 25 = fun _ => none := (hz 25 (by omega)).2
      rw [jMR_emp (k := 25) rfl]
      first | exact hr25 | (simp (disch := omega) only [jrup_ne]; exact hr25) | simp (disch := omega) only [jrup_ne, hr25]
    · have hr26 : r 26 = fun _ => none := (hz 26 (by omega)).2
      rw [jMR_emp (k := 26) rfl]
      first | exact hr26 | (simp (disch := omega) only [jrup_ne]; exact hr26) | simp (disch := omega) only [jrup_ne, hr26]
  · trivial
theorem i_X5_27 {G : jGT} {d : Nat} {M : jM} {r : jR} (hz : iZ 27 M r) : Con G (d + 2) mX5_init [.ref 27] 28 jSH M r 7 702 (iP 27 35 M r (fun _ => True)) := by
  refine Con_of_J ok_X5_init 0 rfl rfl ?_
  refine J_aload_0 dX5_init_0 ?_
  refine J_objInit dX5_init_1 w_244 (by omega) (Nat.le_of_ble_eq_true rfl) ?_
  refine J_aload_0 dX5_init_4 ?_
  refine J_iconst (0 : Int32) dX5_init_5 (by decide) ?_
  refine J_putI false dX5_init_6 pl_X5_9 (by decide) (by decide +kernel : jSH 27 = (5, 11)) (by decide) (by decide +kernel) (fun q => absurd q (by decide)) ?_
  refine J_aload_0 dX5_init_9 ?_
  refine J_iconst (0 : Int32) dX5_init_10 (by decide) ?_
  refine J_putI false dX5_init_11 pl_X5_15 (by decide) (by decide +kernel : jSH 27 = (5, 11)) (by decide) (by decide +kernel) (fun q => absurd q (by decide)) ?_
  refine J_aload_0 dX5_init_14 ?_
  refine J_iconst (0 : Int32) dX5_init_15 (by decide) ?_
  refine J_putI false dX5_init_16 pl_X5_18 (by decide) (by decide +kernel : jSH 27 = (5, 11)) (by decide) (by decide +kernel) (fun q => absurd q (by decide)) ?_
  refine J_aload_0 dX5_init_19 ?_
  refine J_iconst (4 : Int32) dX5_init_20 (by decide) ?_
  refine J_newa (t := 0) (N := 4) dX5_init_21 (by decide) rfl w_167 (by decide) (by decide) (by decide) (by omega) (by omega) (by decide) (by first | exact (hz 28 (by omega)).1 | (simp (disch := omega) only [jup_ne]; exact (hz 28 (by omega)).1)) ?_
  rw [jSH_upd (by decide +kernel : jSH 28 = (100 + 0, 4))]
  refine J_putF dX5_init_23 rl_X5_21 rfl (by decide) (by decide +kernel : jSH 27 = (5, 11)) (by decide) (by decide +kernel) ?_
  refine J_aload_0 dX5_init_26 ?_
  refine J_sipush (256 : Int32) dX5_init_27 (by decide) ?_
  refine J_newa (t := 0) (N := 256) dX5_init_30 (by decide) rfl w_167 (by decide) (by decide) (by decide) (by omega) (by omega) (by decide) (by first | exact (hz 29 (by omega)).1 | (simp (disch := omega) only [jup_ne]; exact (hz 29 (by omega)).1)) ?_
  rw [jSH_upd (by decide +kernel : jSH 29 = (100 + 0, 256))]
  refine J_putF dX5_init_32 rl_X5_25 rfl (by decide) (by decide +kernel : jSH 27 = (5, 11)) (by decide) (by decide +kernel) ?_
  refine J_aload_0 dX5_init_35 ?_
  refine J_sipush (256 : Int32) dX5_init_36 (by decide) ?_
  refine J_newa (t := 0) (N := 256) dX5_init_39 (by decide) rfl w_167 (by decide) (by decide) (by decide) (by omega) (by omega) (by decide) (by first | exact (hz 30 (by omega)).1 | (simp (disch := omega) only [jup_ne]; exact (hz 30 (by omega)).1)) ?_
  rw [jSH_upd (by decide +kernel : jSH 30 = (100 + 0, 256))]
  refine J_putF dX5_init_41 rl_X5_28 rfl (by decide) (by decide +kernel : jSH 27 = (5, 11)) (by decide) (by decide +kernel) ?_
  refine J_aload_0 dX5_init_44 ?_
  refine J_iconst (0 : Int32) dX5_init_45 (by decide) ?_
  refine J_putI false dX5_init_46 pl_X5_31 (by decide) (by decide +kernel : jSH 27 = (5, 11)) (by decide) (by decide +kernel) (fun q => absurd q (by decide)) ?_
  refine J_aload_0 dX5_init_49 ?_
  refine J_bipush (85 : Int32) dX5_init_50 (by decide) ?_
  refine J_newa (t := 0) (N := 85) dX5_init_52 (by decide) rfl w_167 (by decide) (by decide) (by decide) (by omega) (by omega) (by decide) (by first | exact (hz 31 (by omega)).1 | (simp (disch := omega) only [jup_ne]; exact (hz 31 (by omega)).1)) ?_
  rw [jSH_upd (by decide +kernel : jSH 31 = (100 + 0, 85))]
  refine J_putF dX5_init_54 rl_X5_34 rfl (by decide) (by decide +kernel : jSH 27 = (5, 11)) (by decide) (by decide +kernel) ?_
  refine J_aload_0 dX5_init_57 ?_
  refine J_bipush (85 : Int32) dX5_init_58 (by decide) ?_
  refine J_newa (t := 2) (N := 85) dX5_init_60 (by decide) rfl w_285 (by decide) (by decide) (by decide) (by omega) (by omega) (by decide) (by first | exact (hz 32 (by omega)).1 | (simp (disch := omega) only [jup_ne]; exact (hz 32 (by omega)).1)) ?_
  rw [jSH_upd (by decide +kernel : jSH 32 = (100 + 2, 85))]
  refine J_putF dX5_init_62 rl_X5_37 rfl (by decide) (by decide +kernel : jSH 27 = (5, 11)) (by decide) (by decide +kernel) ?_
  refine J_aload_0 dX5_init_65 ?_
  refine J_new (ci := 6) (N := 8) dX5_init_66 (RX6, TX6, 8) rfl rfl w_245 w_246 w_67 (by omega) (by omega) (by decide) (dfOk_use df_6) (by first | exact (hz 33 (by omega)).1 | (simp (disch := omega) only [jup_ne]; exact (hz 33 (by omega)).1)) (by first | exact (hz 33 (by omega)).2 | (simp (disch := omega) only [jrup_ne]; exact (hz 33 (by omega)).2)) ?_
  rw [jSH_upd (by decide +kernel : jSH 33 = (6, 8))]
  refine J_dup dX5_init_69 rfl ?_
  refine J_callI (d' := 1) (As := []) (rest := [.ref 33, .ref 27]) (mc' := 0) (ms' := 0) dX5_init_70 il_X5_43 (i_X6c (d := 0) (b := 33) (n := 34) (by decide) (by decide +kernel)) rfl rfl (by omega) (Nat.le_of_ble_eq_true rfl) (by omega) (by omega) (fun v n' sh' M1 r1 hp => ?_)
  obtain ⟨rfl, rfl, rfl, o1, q1⟩ := hp
  have z1 : iZ 34 M1 r1 := fun k hk => ⟨by rw [o1 k (by omega)]; first | exact (hz k (by omega)).1 | (simp (disch := omega) only [jup_ne]; exact (hz k (by omega)).1), by rw [q1]; first | exact (hz k (by omega)).2 | (simp (disch := omega) only [jrup_ne]; exact (hz k (by omega)).2)⟩
  refine J_putF dX5_init_73 rl_X5_44 rfl (by decide) (by decide +kernel : jSH 27 = (5, 11)) (by decide) (by decide +kernel) ?_
  refine J_aload_0 dX5_init_76 ?_
  refine J_new (ci := 6) (N := 8) dX5_init_77 (RX6, TX6, 8) rfl rfl w_245 w_246 w_67 (by omega) (by omega) (by decide) (dfOk_use df_6) (by first | exact (z1 34 (by omega)).1 | (simp (disch := omega) only [jup_ne]; exact (z1 34 (by omega)).1)) (by first | exact (z1 34 (by omega)).2 | (simp (disch := omega) only [jrup_ne]; exact (z1 34 (by omega)).2)) ?_
  rw [jSH_upd (by decide +kernel : jSH 34 = (6, 8))]
  refine J_dup dX5_init_80 rfl ?_
  refine J_callI (d' := 1) (As := []) (rest := [.ref 34, .ref 27]) (mc' := 0) (ms' := 0) dX5_init_81 il_X5_43 (i_X6c (d := 0) (b := 34) (n := 35) (by decide) (by decide +kernel)) rfl rfl (by omega) (Nat.le_of_ble_eq_true rfl) (by omega) (by omega) (fun v n' sh' M2 r2 hp => ?_)
  obtain ⟨rfl, rfl, rfl, o2, q2⟩ := hp
  have z2 : iZ 35 M2 r2 := fun k hk => ⟨by rw [o2 k (by omega)]; first | exact (z1 k (by omega)).1 | (simp (disch := omega) only [jup_ne]; exact (z1 k (by omega)).1), by rw [q2]; first | exact (z1 k (by omega)).2 | (simp (disch := omega) only [jrup_ne]; exact (z1 k (by omega)).2)⟩
  refine J_putF dX5_init_84 rl_X5_48 rfl (by decide) (by decide +kernel : jSH 27 = (5, 11)) (by decide) (by decide +kernel) ?_
  refine J_ret dX5_init_87 rfl ?_
  refine ⟨rfl, rfl, rfl, fun k hk => ⟨?_, ?_⟩, fun k hk => ⟨?_, ?_⟩, fun k h1 h2 => ?_, ?_⟩
  · first | exact (z2 k (by omega)).1 | (simp (disch := omega) only [jup_ne]; exact (z2 k (by omega)).1)
  · first | exact (z2 k (by omega)).2 | (simp (disch := omega) only [jrup_ne]; exact (z2 k (by omega)).2)
  · first | rfl | simp (disch := omega) only [jup_ne, o1 k (by omega), o2 k (by omega)]
  · first | rfl | simp (disch := omega) only [jrup_ne, q1, q2]
  · rcases (show k = 27 ∨ k = 28 ∨ k = 29 ∨ k = 30 ∨ k = 31 ∨ k = 32 ∨ k = 33 ∨ k = 34 by omega) with rfl | rfl | rfl | rfl | rfl | rfl | rfl | rfl
    · have hr27 : r 27 = fun _ => none := (hz 27 (by omega)).2
      refine jMR_row (N := 11) (by omega) (by decide +kernel) (fun j hj => ?_) (fun j hj => ?_)
      · rcases (show j = 0 ∨ j = 1 ∨ j = 2 ∨ j = 3 ∨ j = 4 ∨ j = 5 ∨ j = 6 ∨ j = 7 ∨ j = 8 ∨ j = 9 ∨ j = 10 by omega) with rfl | rfl | rfl | rfl | rfl | rfl | rfl | rfl | rfl | rfl | rfl <;> simp (disch := omega) only [jrup_ss, jrup_sn, jrup_n, jrup_ne, q1, q2, hr27] <;> decide +kernel
      · simp (disch := omega) only [jrup_ss, jrup_sn, jrup_n, jrup_ne, q1, q2, hr27]
    · have hr28 : r 28 = fun _ => none := (hz 28 (by omega)).2
      rw [jMR_emp (k := 28) rfl]
      first | exact hr28 | (simp (disch := omega) only [jrup_ne, q1, q2]; exact hr28) | simp (disch := omega) only [jrup_ne, q1, q2, hr28]
    · have hr29 : r 29 = fun _ => none := (hz 29 (by omega)).2
      rw [jMR_emp (k := 29) rfl]
      first | exact hr29 | (simp (disch := omega) only [jrup_ne, q1, q2]; exact hr29) | simp (disch := omega) only [jrup_ne, q1, q2, hr29]
    · have hr30 : r 30 = fun _ => none := (hz 30 (by omega)).2
      rw [jMR_emp (k := 30) rfl]
      first | exact hr30 | (simp (disch := omega) only [jrup_ne, q1, q2]; exact hr30) | simp (disch := omega) only [jrup_ne, q1, q2, hr30]
    · have hr31 : r 31 = fun _ => none := (hz 31 (by omega)).2
      rw [jMR_emp (k := 31) rfl]
      first | exact hr31 | (simp (disch := omega) only [jrup_ne, q1, q2]; exact hr31) | simp (disch := omega) only [jrup_ne, q1, q2, hr31]
    · have hr32 : r 32 = fun _ => none := (hz 32 (by omega)).2
      rw [jMR_emp (k := 32) rfl]
      first | exact hr32 | (simp (disch := omega) only [jrup_ne, q1, q2]; exact hr32) | simp (disch := omega) only [jrup_ne, q1, q2, hr32]
    · have hr33 : r 33 = fun _ => none := (hz 33 (by omega)).2
      rw [jMR_emp (k := 33) rfl]
      first | exact hr33 | (simp (disch := omega) only [jrup_ne, q1, q2]; exact hr33) | simp (disch := omega) only [jrup_ne, q1, q2, hr33]
    · have hr34 : r 34 = fun _ => none := (hz 34 (by omega)).2
      rw [jMR_emp (k := 34) rfl]
      first | exact hr34 | (simp (disch := omega) only [jrup_ne, q1, q2]; exact hr34) | simp (disch := omega) only [jrup_ne, q1, q2, hr34]
  · trivial
theorem i_X1_115 {G : jGT} {d : Nat} {M : jM} {r : jR} (hz : iZ 115 M r) : Con G (d + 1) mX1_init [.ref 115] 116 jSH M r 1 20 (iP 115 117 M r (fun M' => M' 115 1 = 0)) := by
  refine Con_of_J ok_X1_init 0 rfl rfl ?_
  refine J_aload_0 dX1_init_0 ?_
  refine J_objInit dX1_init_1 w_383 (by omega) (Nat.le_of_ble_eq_true rfl) ?_
  refine J_aload_0 dX1_init_4 ?_
  refine J_bipush (20 : Int32) dX1_init_5 (by decide) ?_
  refine J_newa (t := 0) (N := 20) dX1_init_7 (by decide) rfl w_167 (by decide) (by decide) (by decide) (by omega) (by omega) (by decide) (by first | exact (hz 116 (by omega)).1 | (simp (disch := omega) only [jup_ne]; exact (hz 116 (by omega)).1)) ?_
  rw [jSH_upd (by decide +kernel : jSH 116 = (100 + 0, 20))]
  refine J_putF dX1_init_9 rl_X1_9 rfl (by decide) (by decide +kernel : jSH 115 = (1, 5)) (by decide) (by decide +kernel) ?_
  refine J_aload_0 dX1_init_12 ?_
  refine J_iconst (0 : Int32) dX1_init_13 (by decide) ?_
  refine J_putI false dX1_init_14 pl_X1_15 (by decide) (by decide +kernel : jSH 115 = (1, 5)) (by decide) (by decide +kernel) (fun q => absurd q (by decide)) ?_
  refine J_aload_0 dX1_init_17 ?_
  refine J_iconst (0 : Int32) dX1_init_18 (by decide) ?_
  refine J_putI false dX1_init_19 pl_X1_19 (by decide) (by decide +kernel : jSH 115 = (1, 5)) (by decide) (by decide +kernel) (fun q => absurd q (by decide)) ?_
  refine J_aload_0 dX1_init_22 ?_
  refine J_iconst (0 : Int32) dX1_init_23 (by decide) ?_
  refine J_putI false dX1_init_24 pl_X1_22 (by decide) (by decide +kernel : jSH 115 = (1, 5)) (by decide) (by decide +kernel) (fun q => absurd q (by decide)) ?_
  refine J_aload_0 dX1_init_27 ?_
  refine J_iconst (0 : Int32) dX1_init_28 (by decide) ?_
  refine J_putI false dX1_init_29 pl_X1_25 (by decide) (by decide +kernel : jSH 115 = (1, 5)) (by decide) (by decide +kernel) (fun q => absurd q (by decide)) ?_
  refine J_ret dX1_init_32 rfl ?_
  refine ⟨rfl, rfl, rfl, fun k hk => ⟨?_, ?_⟩, fun k hk => ⟨?_, ?_⟩, fun k h1 h2 => ?_, ?_⟩
  · first | exact (hz k (by omega)).1 | (simp (disch := omega) only [jup_ne]; exact (hz k (by omega)).1)
  · first | exact (hz k (by omega)).2 | (simp (disch := omega) only [jrup_ne]; exact (hz k (by omega)).2)
  · first | rfl | simp (disch := omega) only [jup_ne]
  · first | rfl | simp (disch := omega) only [jrup_ne]
  · rcases (show k = 115 ∨ k = 116 by omega) with rfl | rfl
    · have hr115 : r 115 = fun _ => none := (hz 115 (by omega)).2
      refine jMR_row (N := 5) (by omega) (by decide +kernel) (fun j hj => ?_) (fun j hj => ?_)
      · rcases (show j = 0 ∨ j = 1 ∨ j = 2 ∨ j = 3 ∨ j = 4 by omega) with rfl | rfl | rfl | rfl | rfl <;> simp (disch := omega) only [jrup_ss, jrup_sn, jrup_n, jrup_ne, hr115] <;> decide +kernel
      · simp (disch := omega) only [jrup_ss, jrup_sn, jrup_n, jrup_ne, hr115]
    · have hr116 : r 116 = fun _ => none := (hz 116 (by omega)).2
      rw [jMR_emp (k := 116) rfl]
      first | exact hr116 | (simp (disch := omega) only [jrup_ne]; exact hr116) | simp (disch := omega) only [jrup_ne, hr116]
  · simp (disch := omega) only [jup_ss, jup_sn]
theorem i_X8_117 {G : jGT} {d : Nat} {M : jM} {r : jR} (hz : iZ 117 M r) : Con G (d + 1) mX8_init [.ref 117] 118 jSH M r 12 2646 (iP 117 130 M r (fun M' => M' 117 3 = 0 ∧ M' 117 27 = 0 ∧ M' 118 6 = -1 ∧ ∀ j, j ≠ 6 → M' 118 j = 0)) := by
  refine Con_of_J ok_X8_init 0 rfl rfl ?_
  refine J_aload_0 dX8_init_0 ?_
  refine J_objInit dX8_init_1 w_909 (by omega) (Nat.le_of_ble_eq_true rfl) ?_
  refine J_aload_0 dX8_init_4 ?_
  refine J_sipush (916 : Int32) dX8_init_5 (by decide) ?_
  refine J_newa (t := 0) (N := 916) dX8_init_8 (by decide) rfl w_167 (by decide) (by decide) (by decide) (by omega) (by omega) (by decide) (by first | exact (hz 118 (by omega)).1 | (simp (disch := omega) only [jup_ne]; exact (hz 118 (by omega)).1)) ?_
  rw [jSH_upd (by decide +kernel : jSH 118 = (100 + 0, 916))]
  refine J_putF dX8_init_10 rl_X8_9 rfl (by decide) (by decide +kernel : jSH 117 = (8, 31)) (by decide) (by decide +kernel) ?_
  refine J_aload_0 dX8_init_13 ?_
  refine J_sipush (916 : Int32) dX8_init_14 (by decide) ?_
  refine J_newa (t := 0) (N := 916) dX8_init_17 (by decide) rfl w_167 (by decide) (by decide) (by decide) (by omega) (by omega) (by decide) (by first | exact (hz 119 (by omega)).1 | (simp (disch := omega) only [jup_ne]; exact (hz 119 (by omega)).1)) ?_
  rw [jSH_upd (by decide +kernel : jSH 119 = (100 + 0, 916))]
  refine J_putF dX8_init_19 rl_X8_15 rfl (by decide) (by decide +kernel : jSH 117 = (8, 31)) (by decide) (by decide +kernel) ?_
  refine J_aload_0 dX8_init_22 ?_
  refine J_iconst (4 : Int32) dX8_init_23 (by decide) ?_
  refine J_newa (t := 0) (N := 4) dX8_init_24 (by decide) rfl w_167 (by decide) (by decide) (by decide) (by omega) (by omega) (by decide) (by first | exact (hz 120 (by omega)).1 | (simp (disch := omega) only [jup_ne]; exact (hz 120 (by omega)).1)) ?_
  rw [jSH_upd (by decide +kernel : jSH 120 = (100 + 0, 4))]
  refine J_putF dX8_init_26 rl_X8_18 rfl (by decide) (by decide +kernel : jSH 117 = (8, 31)) (by decide) (by decide +kernel) ?_
  refine J_aload_0 dX8_init_29 ?_
  refine J_bipush (64 : Int32) dX8_init_30 (by decide) ?_
  refine J_newa (t := 2) (N := 64) dX8_init_32 (by decide) rfl w_285 (by decide) (by decide) (by decide) (by omega) (by omega) (by decide) (by first | exact (hz 121 (by omega)).1 | (simp (disch := omega) only [jup_ne]; exact (hz 121 (by omega)).1)) ?_
  rw [jSH_upd (by decide +kernel : jSH 121 = (100 + 2, 64))]
  refine J_putF dX8_init_34 rl_X8_21 rfl (by decide) (by decide +kernel : jSH 117 = (8, 31)) (by decide) (by decide +kernel) ?_
  refine J_aload_0 dX8_init_37 ?_
  refine J_sipush (256 : Int32) dX8_init_38 (by decide) ?_
  refine J_newa (t := 0) (N := 256) dX8_init_41 (by decide) rfl w_167 (by decide) (by decide) (by decide) (by omega) (by omega) (by decide) (by first | exact (hz 122 (by omega)).1 | (simp (disch := omega) only [jup_ne]; exact (hz 122 (by omega)).1)) ?_
  rw [jSH_upd (by decide +kernel : jSH 122 = (100 + 0, 256))]
  refine J_putF dX8_init_43 rl_X8_25 rfl (by decide) (by decide +kernel : jSH 117 = (8, 31)) (by decide) (by decide +kernel) ?_
  refine J_aload_0 dX8_init_46 ?_
  refine J_sipush (256 : Int32) dX8_init_47 (by decide) ?_
  refine J_newa (t := 0) (N := 256) dX8_init_50 (by decide) rfl w_167 (by decide) (by decide) (by decide) (by omega) (by omega) (by decide) (by first | exact (hz 123 (by omega)).1 | (simp (disch := omega) only [jup_ne]; exact (hz 123 (by omega)).1)) ?_
  rw [jSH_upd (by decide +kernel : jSH 123 = (100 + 0, 256))]
  refine J_putF dX8_init_52 rl_X8_28 rfl (by decide) (by decide +kernel : jSH 117 = (8, 31)) (by decide) (by decide +kernel) ?_
  refine J_aload_0 dX8_init_55 ?_
  refine J_bipush (100 : Int32) dX8_init_56 (by decide) ?_
  refine J_newa (t := 0) (N := 100) dX8_init_58 (by decide) rfl w_167 (by decide) (by decide) (by decide) (by omega) (by omega) (by decide) (by first | exact (hz 124 (by omega)).1 | (simp (disch := omega) only [jup_ne]; exact (hz 124 (by omega)).1)) ?_
  rw [jSH_upd (by decide +kernel : jSH 124 = (100 + 0, 100))]
  refine J_putF dX8_init_60 rl_X8_31 rfl (by decide) (by decide +kernel : jSH 117 = (8, 31)) (by decide) (by decide +kernel) ?_
  refine J_aload_0 dX8_init_63 ?_
  refine J_bipush (100 : Int32) dX8_init_64 (by decide) ?_
  refine J_newa (t := 2) (N := 100) dX8_init_66 (by decide) rfl w_285 (by decide) (by decide) (by decide) (by omega) (by omega) (by decide) (by first | exact (hz 125 (by omega)).1 | (simp (disch := omega) only [jup_ne]; exact (hz 125 (by omega)).1)) ?_
  rw [jSH_upd (by decide +kernel : jSH 125 = (100 + 2, 100))]
  refine J_putF dX8_init_68 rl_X8_34 rfl (by decide) (by decide +kernel : jSH 117 = (8, 31)) (by decide) (by decide +kernel) ?_
  refine J_aload_0 dX8_init_71 ?_
  refine J_bipush (6 : Int32) dX8_init_72 (by decide) ?_
  refine J_newa (t := 0) (N := 6) dX8_init_74 (by decide) rfl w_167 (by decide) (by decide) (by decide) (by omega) (by omega) (by decide) (by first | exact (hz 126 (by omega)).1 | (simp (disch := omega) only [jup_ne]; exact (hz 126 (by omega)).1)) ?_
  rw [jSH_upd (by decide +kernel : jSH 126 = (100 + 0, 6))]
  refine J_putF dX8_init_76 rl_X8_37 rfl (by decide) (by decide +kernel : jSH 117 = (8, 31)) (by decide) (by decide +kernel) ?_
  refine J_aload_0 dX8_init_79 ?_
  refine J_bipush (6 : Int32) dX8_init_80 (by decide) ?_
  refine J_newa (t := 0) (N := 6) dX8_init_82 (by decide) rfl w_167 (by decide) (by decide) (by decide) (by omega) (by omega) (by decide) (by first | exact (hz 127 (by omega)).1 | (simp (disch := omega) only [jup_ne]; exact (hz 127 (by omega)).1)) ?_
  rw [jSH_upd (by decide +kernel : jSH 127 = (100 + 0, 6))]
  refine J_putF dX8_init_84 rl_X8_40 rfl (by decide) (by decide +kernel : jSH 117 = (8, 31)) (by decide) (by decide +kernel) ?_
  refine J_aload_0 dX8_init_87 ?_
  refine J_iconst (2 : Int32) dX8_init_88 (by decide) ?_
  refine J_newa (t := 0) (N := 2) dX8_init_89 (by decide) rfl w_167 (by decide) (by decide) (by decide) (by omega) (by omega) (by decide) (by first | exact (hz 128 (by omega)).1 | (simp (disch := omega) only [jup_ne]; exact (hz 128 (by omega)).1)) ?_
  rw [jSH_upd (by decide +kernel : jSH 128 = (100 + 0, 2))]
  refine J_putF dX8_init_91 rl_X8_43 rfl (by decide) (by decide +kernel : jSH 117 = (8, 31)) (by decide) (by decide +kernel) ?_
  refine J_aload_0 dX8_init_94 ?_
  refine J_bipush (20 : Int32) dX8_init_95 (by decide) ?_
  refine J_newa (t := 0) (N := 20) dX8_init_97 (by decide) rfl w_167 (by decide) (by decide) (by decide) (by omega) (by omega) (by decide) (by first | exact (hz 129 (by omega)).1 | (simp (disch := omega) only [jup_ne]; exact (hz 129 (by omega)).1)) ?_
  rw [jSH_upd (by decide +kernel : jSH 129 = (100 + 0, 20))]
  refine J_putF dX8_init_99 rl_X8_46 rfl (by decide) (by decide +kernel : jSH 117 = (8, 31)) (by decide) (by decide +kernel) ?_
  refine J_aload_0 dX8_init_102 ?_
  refine J_getR 118 dX8_init_103 fl_X8_9 (by decide) (by decide +kernel : jSH 117 = (8, 31)) (by decide) (by decide +kernel) (by simp (disch := omega) only [jrup_ss, jrup_sn, jrup_n, jrup_ne]) ?_
  refine J_bipush (6 : Int32) dX8_init_106 (by decide) ?_
  refine J_iconst (-1 : Int32) dX8_init_108 (by decide) ?_
  refine J_iast (N := 916) dX8_init_109 (by decide) (by decide +kernel : jSH 118 = (100, 916)) (by exact vp_in_nI (n := 6) (by omega) (by omega)) ?_
  refine J_ret dX8_init_110 rfl ?_
  refine ⟨rfl, rfl, rfl, fun k hk => ⟨?_, ?_⟩, fun k hk => ⟨?_, ?_⟩, fun k h1 h2 => ?_, ?_⟩
  · first | exact (hz k (by omega)).1 | (simp (disch := omega) only [jup_ne]; exact (hz k (by omega)).1)
  · first | exact (hz k (by omega)).2 | (simp (disch := omega) only [jrup_ne]; exact (hz k (by omega)).2)
  · first | rfl | simp (disch := omega) only [jup_ne]
  · first | rfl | simp (disch := omega) only [jrup_ne]
  · rcases (show k = 117 ∨ k = 118 ∨ k = 119 ∨ k = 120 ∨ k = 121 ∨ k = 122 ∨ k = 123 ∨ k = 124 ∨ k = 125 ∨ k = 126 ∨ k = 127 ∨ k = 128 ∨ k = 129 by omega) with rfl | rfl | rfl | rfl | rfl | rfl | rfl | rfl | rfl | rfl | rfl | rfl | rfl
    · have hr117 : r 117 = fun _ => none := (hz 117 (by omega)).2
      refine jMR_row (N := 31) (by omega) (by decide +kernel) (fun j hj => ?_) (fun j hj => ?_)
      · rcases (show j = 0 ∨ j = 1 ∨ j = 2 ∨ j = 3 ∨ j = 4 ∨ j = 5 ∨ j = 6 ∨ j = 7 ∨ j = 8 ∨ j = 9 ∨ j = 10 ∨ j = 11 ∨ j = 12 ∨ j = 13 ∨ j = 14 ∨ j = 15 ∨ j = 16 ∨ j = 17 ∨ j = 18 ∨ j = 19 ∨ j = 20 ∨ j = 21 ∨ j = 22 ∨ j = 23 ∨ j = 24 ∨ j = 25 ∨ j = 26 ∨ j = 27 ∨ j = 28 ∨ j = 29 ∨ j = 30 by omega) with rfl | rfl | rfl | rfl | rfl | rfl | rfl | rfl | rfl | rfl | rfl | rfl | rfl | rfl | rfl | rfl | rfl | rfl | rfl | rfl | rfl | rfl | rfl | rfl | rfl | rfl | rfl | rfl | rfl | rfl | rfl <;> simp (disch := omega) only [jrup_ss, jrup_sn, jrup_n, jrup_ne, hr117] <;> decide +kernel
      · simp (disch := omega) only [jrup_ss, jrup_sn, jrup_n, jrup_ne, hr117]
    · have hr118 : r 118 = fun _ => none := (hz 118 (by omega)).2
      rw [jMR_emp (k := 118) rfl]
      first | exact hr118 | (simp (disch := omega) only [jrup_ne]; exact hr118) | simp (disch := omega) only [jrup_ne, hr118]
    · have hr119 : r 119 = fun _ => none := (hz 119 (by omega)).2
      rw [jMR_emp (k := 119) rfl]
      first | exact hr119 | (simp (disch := omega) only [jrup_ne]; exact hr119) | simp (disch := omega) only [jrup_ne, hr119]
    · have hr120 : r 120 = fun _ => none := (hz 120 (by omega)).2
      rw [jMR_emp (k := 120) rfl]
      first | exact hr120 | (simp (disch := omega) only [jrup_ne]; exact hr120) | simp (disch := omega) only [jrup_ne, hr120]
    · have hr121 : r 121 = fun _ => none := (hz 121 (by omega)).2
      rw [jMR_emp (k := 121) rfl]
      first | exact hr121 | (simp (disch := omega) only [jrup_ne]; exact hr121) | simp (disch := omega) only [jrup_ne, hr121]
    · have hr122 : r 122 = fun _ => none := (hz 122 (by omega)).2
      rw [jMR_emp (k := 122) rfl]
      first | exact hr122 | (simp (disch := omega) only [jrup_ne]; exact hr122) | simp (disch := omega) only [jrup_ne, hr122]
    · have hr123 : r 123 = fun _ => none := (hz 123 (by omega)).2
      rw [jMR_emp (k := 123) rfl]
      first | exact hr123 | (simp (disch := omega) only [jrup_ne]; exact hr123) | simp (disch := omega) only [jrup_ne, hr123]
    · have hr124 : r 124 = fun _ => none := (hz 124 (by omega)).2
      rw [jMR_emp (k := 124) rfl]
      first | exact hr124 | (simp (disch := omega) only [jrup_ne]; exact hr124) | simp (disch := omega) only [jrup_ne, hr124]
    · have hr125 : r 125 = fun _ => none := (hz 125 (by omega)).2
      rw [jMR_emp (k := 125) rfl]
      first | exact hr125 | (simp (disch := omega) only [jrup_ne]; exact hr125) | simp (disch := omega) only [jrup_ne, hr125]
    · have hr126 : r 126 = fun _ => none := (hz 126 (by omega)).2
      rw [jMR_emp (k := 126) rfl]
      first | exact hr126 | (simp (disch := omega) only [jrup_ne]; exact hr126) | simp (disch := omega) only [jrup_ne, hr126]
    · have hr127 : r 127 = fun _ => none := (hz 127 (by omega)).2
      rw [jMR_emp (k := 127) rfl]
      first | exact hr127 | (simp (disch := omega) only [jrup_ne]; exact hr127) | simp (disch := omega) only [jrup_ne, hr127]
    · have hr128 : r 128 = fun _ => none := (hz 128 (by omega)).2
      rw [jMR_emp (k := 128) rfl]
      first | exact hr128 | (simp (disch := omega) only [jrup_ne]; exact hr128) | simp (disch := omega) only [jrup_ne, hr128]
    · have hr129 : r 129 = fun _ => none := (hz 129 (by omega)).2
      rw [jMR_emp (k := 129) rfl]
      first | exact hr129 | (simp (disch := omega) only [jrup_ne]; exact hr129) | simp (disch := omega) only [jrup_ne, hr129]
  · refine ⟨?_, ?_, ?_, fun j hj => ?_⟩
    · rw [jup_ne (by omega), (hz 117 (by omega)).1]
    · rw [jup_ne (by omega), (hz 117 (by omega)).1]
    · exact jup_ss
    · rw [jup_sn (by exact hj), (hz 118 (by omega)).1]
