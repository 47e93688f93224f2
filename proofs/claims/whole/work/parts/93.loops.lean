theorem l_X4 {G : jGT} {d mc ms : Nat} {M : jM} {r : jR} {P : jP} (hr : r 35 1 = some 36) (h : ∀ M' r', iZ 104 M' r' → (∀ k, k < 40 → M' k = M k) → (∀ k, k < 40 → k ≠ 36 → r' k = r k) → r' 36 = jMR 36 → (∀ k, 40 ≤ k → k < 104 → r' k = fun _ => none) → P none 104 jSH M' r') : ∀ (q i : Nat) (M1 : jM) (r1 : jR) (c1 s1 : Nat), i + q = 64 → iZ (40 + i) M1 r1 → (∀ k, k < 40 → M1 k = M k) → (∀ k, k < 40 → k ≠ 36 → r1 k = r k) → (r1 36 = fun j => if j < i then some (40 + j) else none) → (∀ k, 40 ≤ k → k < 40 + i → r1 k = fun _ => none) → c1 + q ≤ mc → s1 + 8 * q ≤ ms → J G (d + 2) mX4_init 55 [some (.ref 35), some (.ref 27), some (.int (nI i))] [] (40 + i) jSH M1 r1 c1 s1 mc ms P := by
  intro q
  induction q with
  | zero =>
    intro i M1 r1 c1 s1 hi hz i1 i2 i3 i4 hc hs
    obtain rfl : i = 64 := by omega
    refine J_iload_2 dX4_init_55 ?_
    refine J_bipush (64 : Int32) dX4_init_56 (by decide) ?_
    refine J_icmp_ge (t := 80) dX4_init_58 (by decide) (fun _ => ?_) (fun e => absurd (by decide) e)
    refine J_ret dX4_init_80 rfl (h M1 r1 hz i1 i2 ?_ i4)
    refine jMR_row (N := 64) (by omega) (by decide +kernel) (fun j hj => ?_) (fun j hj => ?_)
    · rw [i3]
      dsimp only
      rw [if_pos hj, mr_36_all j hj]
    · rw [i3]
      dsimp only
      rw [if_neg (by omega)]
  | succ q ih =>
    intro i M1 r1 c1 s1 hi hz i1 i2 i3 i4 hc hs
    have hT : jSH (40 + i) = (6, 8) := jT_sh (by unfold jT; omega)
    refine J_iload_2 dX4_init_55 ?_
    refine J_bipush (64 : Int32) dX4_init_56 (by decide) ?_
    refine J_icmp_ge (t := 80) dX4_init_58 (by decide) (fun e => absurd e (by rw [show (64 : Int32) = nI 64 from rfl, nI_leI (by omega) (by omega)]; omega)) (fun _ => ?_)
    refine J_aload_0 dX4_init_61 ?_
    refine J_getR 36 dX4_init_62 fl_X4_11 (by omega) (by decide +kernel : jSH 35 = (4, 7)) (by decide) (by decide +kernel) (by rw [i2 35 (by omega) (by omega)]; exact hr) ?_
    refine J_iload_2 dX4_init_65 ?_
    refine J_new (ci := 6) (N := 8) dX4_init_66 (RX6, TX6, 8) rfl rfl w_331 w_246 w_67 (by omega) (by omega) (by omega) (dfOk_use df_6) (hz _ (Nat.le_refl _)).1 (hz _ (Nat.le_refl _)).2 ?_
    rw [jSH_upd hT]
    refine J_dup dX4_init_69 rfl ?_
    refine J_callI (d' := 1) (As := []) (rest := [.ref (40 + i), .int (nI i), .ref 36]) (mc' := 0) (ms' := 0) dX4_init_70 il_X4_38 (i_X6c (d := 0) (b := 40 + i) (n := 40 + i + 1) (by omega) hT) rfl rfl (by omega) (Nat.le_of_ble_eq_true rfl) (by omega) (by omega) (fun v n' sh' M2 r2 hp => ?_)
    obtain ⟨rfl, rfl, rfl, o1, rfl⟩ := hp
    refine J_aast (N := 64) (x := 40 + i) dX4_init_73 (by omega) (by decide +kernel : jSH 36 = (103, 64)) (vp_in_nI (by omega) (by omega)) (by omega) hT ?_
    rw [nI_clamp (by omega)]
    refine J_iinc_2 1 dX4_init_74 (by decide) rfl ?_
    refine J_goto (t := 55) dX4_init_77 (by decide) ?_
    rw [nI_1]
    refine ih (i + 1) M2 (jrup r2 36 i (some (40 + i))) _ _ (by omega) (fun k hk => ⟨?_, ?_⟩) (fun k hk => ?_) (fun k hk hk2 => ?_) ?_ (fun k hk hk2 => ?_) (by omega) (by omega)
    · rw [o1 k (by omega)]; exact (hz k (by omega)).1
    · rw [jrup_ne (by omega)]; exact (hz k (by omega)).2
    · rw [o1 k (by omega)]; exact i1 k hk
    · rw [jrup_ne hk2]; exact i2 k hk hk2
    · funext j
      by_cases e : j = i
      · subst e; rw [jrup_ss, if_pos (by omega)]
      · rw [jrup_sn e, i3]
        dsimp only
        by_cases e2 : j < i
        · rw [if_pos e2, if_pos (by omega)]
        · rw [if_neg e2, if_neg (by omega)]
    · rw [jrup_ne (by omega)]
      by_cases e : k = 40 + i
      · subst e; exact (hz _ (Nat.le_refl _)).2
      · exact i4 k hk (by omega)
theorem i_X4_35 {G : jGT} {d : Nat} {M : jM} {r : jR} (hz : iZ 35 M r) : Con G (d + 2) mX4_init [.ref 35, .ref 27] 36 jSH M r 68 596 (iP 35 104 M r (fun _ => True)) := by
  refine Con_of_J ok_X4_init 1 rfl rfl ?_
  refine J_aload_0 dX4_init_0 ?_
  refine J_objInit dX4_init_1 w_330 (by omega) (Nat.le_of_ble_eq_true rfl) ?_
  refine J_aload_0 dX4_init_4 ?_
  refine J_bipush (64 : Int32) dX4_init_5 (by decide) ?_
  refine J_newq (N := 64) dX4_init_7 w_331 (by decide) (by decide) (by decide) (by omega) (by omega) (by decide) (by first | exact (hz 36 (by omega)).2 | (simp (disch := omega) only [jrup_ne]; exact (hz 36 (by omega)).2)) ?_
  rw [jSH_upd (by decide +kernel : jSH 36 = (103, 64))]
  refine J_putF dX4_init_10 rl_X4_11 rfl (by decide) (by decide +kernel : jSH 35 = (4, 7)) (by decide) (by decide +kernel) ?_
  refine J_aload_0 dX4_init_13 ?_
  refine J_bipush (8 : Int32) dX4_init_14 (by decide) ?_
  refine J_newa (t := 0) (N := 8) dX4_init_16 (by decide) rfl w_167 (by decide) (by decide) (by decide) (by omega) (by omega) (by decide) (by first | exact (hz 37 (by omega)).1 | (simp (disch := omega) only [jup_ne]; exact (hz 37 (by omega)).1)) ?_
  rw [jSH_upd (by decide +kernel : jSH 37 = (100 + 0, 8))]
  refine J_putF dX4_init_18 rl_X4_17 rfl (by decide) (by decide +kernel : jSH 35 = (4, 7)) (by decide) (by decide +kernel) ?_
  refine J_aload_0 dX4_init_21 ?_
  refine J_bipush (6 : Int32) dX4_init_22 (by decide) ?_
  refine J_newa (t := 0) (N := 6) dX4_init_24 (by decide) rfl w_167 (by decide) (by decide) (by decide) (by omega) (by omega) (by decide) (by first | exact (hz 38 (by omega)).1 | (simp (disch := omega) only [jup_ne]; exact (hz 38 (by omega)).1)) ?_
  rw [jSH_upd (by decide +kernel : jSH 38 = (100 + 0, 6))]
  refine J_putF dX4_init_26 rl_X4_21 rfl (by decide) (by decide +kernel : jSH 35 = (4, 7)) (by decide) (by decide +kernel) ?_
  refine J_aload_0 dX4_init_29 ?_
  refine J_bipush (6 : Int32) dX4_init_30 (by decide) ?_
  refine J_newa (t := 0) (N := 6) dX4_init_32 (by decide) rfl w_167 (by decide) (by decide) (by decide) (by omega) (by omega) (by decide) (by first | exact (hz 39 (by omega)).1 | (simp (disch := omega) only [jup_ne]; exact (hz 39 (by omega)).1)) ?_
  rw [jSH_upd (by decide +kernel : jSH 39 = (100 + 0, 6))]
  refine J_putF dX4_init_34 rl_X4_24 rfl (by decide) (by decide +kernel : jSH 35 = (4, 7)) (by decide) (by decide +kernel) ?_
  refine J_aload_0 dX4_init_37 ?_
  refine J_iconst (0 : Int32) dX4_init_38 (by decide) ?_
  refine J_putI false dX4_init_39 pl_X4_27 (by decide) (by decide +kernel : jSH 35 = (4, 7)) (by decide) (by decide +kernel) (fun q => absurd q (by decide)) ?_
  refine J_aload_0 dX4_init_42 ?_
  refine J_bipush (-5 : Int32) dX4_init_43 (by decide) ?_
  refine J_putI false dX4_init_45 pl_X4_31 (by decide) (by decide +kernel : jSH 35 = (4, 7)) (by decide) (by decide +kernel) (fun q => absurd q (by decide)) ?_
  refine J_aload_0 dX4_init_48 ?_
  refine J_aload_1 dX4_init_49 ?_
  refine J_putF dX4_init_50 rl_X4_34 rfl (by decide) (by decide +kernel : jSH 35 = (4, 7)) (by decide) (by decide +kernel) ?_
  refine J_iconst (0 : Int32) dX4_init_53 (by decide) ?_
  refine J_istore_2 dX4_init_54 rfl ?_
  have hr0 : r 35 = fun _ => none := (hz 35 (by omega)).2
  refine l_X4 (d := d) (by simp (disch := omega) only [jrup_ss, jrup_sn, jrup_n, jrup_ne]) (fun M' r' k1 k2 k3 k4 k5 => ?_) 64 0 _ _ _ _ (by omega) (fun k hk => ⟨?_, ?_⟩) (fun _ _ => rfl) (fun _ _ _ => rfl) ?_ (fun k hk hk2 => by omega) (by omega) (by omega)
  · refine ⟨rfl, rfl, rfl, k1, fun k hk => ⟨?_, ?_⟩, fun k h1 h2 => ?_, trivial⟩
    · first | exact k2 k (by omega) | (rw [k2 k (by omega)]; simp (disch := omega) only [jup_ne])
    · rw [k3 k (by omega) (by omega)]; simp (disch := omega) only [jrup_ne]
    · by_cases e : 40 ≤ k
      · have e0 : ∀ k, k < 130 → 40 ≤ k → k < 104 → jMRl.getD k [] = [] := by decide +kernel
        rw [k5 k e h2, jMR_emp (e0 k (by omega) e h2)]
      · rcases (show k = 35 ∨ k = 36 ∨ k = 37 ∨ k = 38 ∨ k = 39 by omega) with rfl | rfl | rfl | rfl | rfl
        · rw [k3 35 (by omega) (by omega)]
          refine jMR_row (N := 7) (by omega) (by decide +kernel) (fun j hj => ?_) (fun j hj => ?_)
          · rcases (show j = 0 ∨ j = 1 ∨ j = 2 ∨ j = 3 ∨ j = 4 ∨ j = 5 ∨ j = 6 by omega) with rfl | rfl | rfl | rfl | rfl | rfl | rfl <;> simp (disch := omega) only [jrup_ss, jrup_sn, jrup_n, jrup_ne, hr0] <;> decide +kernel
          · simp (disch := omega) only [jrup_ss, jrup_sn, jrup_n, jrup_ne, hr0]
        · exact k4
        · rw [k3 37 (by omega) (by omega), jMR_emp (k := 37) rfl]
          simp (disch := omega) only [jrup_ne]
          exact (hz 37 (by omega)).2
        · rw [k3 38 (by omega) (by omega), jMR_emp (k := 38) rfl]
          simp (disch := omega) only [jrup_ne]
          exact (hz 38 (by omega)).2
        · rw [k3 39 (by omega) (by omega), jMR_emp (k := 39) rfl]
          simp (disch := omega) only [jrup_ne]
          exact (hz 39 (by omega)).2
  · first | exact (hz k (by omega)).1 | (simp (disch := omega) only [jup_ne]; exact (hz k (by omega)).1)
  · simp (disch := omega) only [jrup_ne]; exact (hz k (by omega)).2
  · simp (disch := omega) only [jrup_ne]
    rw [(hz 36 (by omega)).2]
    funext j
    rw [if_neg (by omega)]
theorem l_X0 {G : jGT} {d mc ms : Nat} {M : jM} {r : jR} {P : jP} (hr : r 104 1 = some 105) (h : ∀ M' r', iZ 115 M' r' → (∀ k, k < 107 → M' k = M k) → (∀ k, k < 107 → k ≠ 105 → r' k = r k) → r' 105 = jMR 105 → (∀ k, 107 ≤ k → k < 115 → r' k = fun _ => none) → P none 115 jSH M' r') : ∀ (q i : Nat) (M1 : jM) (r1 : jR) (c1 s1 : Nat), i + q = 8 → iZ (107 + i) M1 r1 → (∀ k, k < 107 → M1 k = M k) → (∀ k, k < 107 → k ≠ 105 → r1 k = r k) → (r1 105 = fun j => if j < i then some (107 + j) else none) → (∀ k, 107 ≤ k → k < 107 + i → r1 k = fun _ => none) → c1 + q ≤ mc → s1 + 8 * q ≤ ms → J G (d + 2) mX0_init 28 [some (.ref 104), some (.ref 27), some (.int (nI i))] [] (107 + i) jSH M1 r1 c1 s1 mc ms P := by
  intro q
  induction q with
  | zero =>
    intro i M1 r1 c1 s1 hi hz i1 i2 i3 i4 hc hs
    obtain rfl : i = 8 := by omega
    refine J_iload_2 dX0_init_28 ?_
    refine J_bipush (8 : Int32) dX0_init_29 (by decide) ?_
    refine J_icmp_ge (t := 53) dX0_init_31 (by decide) (fun _ => ?_) (fun e => absurd (by decide) e)
    refine J_ret dX0_init_53 rfl (h M1 r1 hz i1 i2 ?_ i4)
    refine jMR_row (N := 8) (by omega) (by decide +kernel) (fun j hj => ?_) (fun j hj => ?_)
    · rw [i3]
      dsimp only
      rw [if_pos hj, mr_105_all j hj]
    · rw [i3]
      dsimp only
      rw [if_neg (by omega)]
  | succ q ih =>
    intro i M1 r1 c1 s1 hi hz i1 i2 i3 i4 hc hs
    have hT : jSH (107 + i) = (6, 8) := jT_sh (by unfold jT; omega)
    refine J_iload_2 dX0_init_28 ?_
    refine J_bipush (8 : Int32) dX0_init_29 (by decide) ?_
    refine J_icmp_ge (t := 53) dX0_init_31 (by decide) (fun e => absurd e (by rw [show (8 : Int32) = nI 8 from rfl, nI_leI (by omega) (by omega)]; omega)) (fun _ => ?_)
    refine J_aload_0 dX0_init_34 ?_
    refine J_getR 105 dX0_init_35 fl_X0_11 (by omega) (by decide +kernel : jSH 104 = (0, 3)) (by decide) (by decide +kernel) (by rw [i2 104 (by omega) (by omega)]; exact hr) ?_
    refine J_iload_2 dX0_init_38 ?_
    refine J_new (ci := 6) (N := 8) dX0_init_39 (RX6, TX6, 8) rfl rfl w_365 w_246 w_67 (by omega) (by omega) (by omega) (dfOk_use df_6) (hz _ (Nat.le_refl _)).1 (hz _ (Nat.le_refl _)).2 ?_
    rw [jSH_upd hT]
    refine J_dup dX0_init_42 rfl ?_
    refine J_callI (d' := 1) (As := []) (rest := [.ref (107 + i), .int (nI i), .ref 105]) (mc' := 0) (ms' := 0) dX0_init_43 il_X0_25 (i_X6c (d := 0) (b := 107 + i) (n := 107 + i + 1) (by omega) hT) rfl rfl (by omega) (Nat.le_of_ble_eq_true rfl) (by omega) (by omega) (fun v n' sh' M2 r2 hp => ?_)
    obtain ⟨rfl, rfl, rfl, o1, rfl⟩ := hp
    refine J_aast (N := 8) (x := 107 + i) dX0_init_46 (by omega) (by decide +kernel : jSH 105 = (103, 8)) (vp_in_nI (by omega) (by omega)) (by omega) hT ?_
    rw [nI_clamp (by omega)]
    refine J_iinc_2 1 dX0_init_47 (by decide) rfl ?_
    refine J_goto (t := 28) dX0_init_50 (by decide) ?_
    rw [nI_1]
    refine ih (i + 1) M2 (jrup r2 105 i (some (107 + i))) _ _ (by omega) (fun k hk => ⟨?_, ?_⟩) (fun k hk => ?_) (fun k hk hk2 => ?_) ?_ (fun k hk hk2 => ?_) (by omega) (by omega)
    · rw [o1 k (by omega)]; exact (hz k (by omega)).1
    · rw [jrup_ne (by omega)]; exact (hz k (by omega)).2
    · rw [o1 k (by omega)]; exact i1 k hk
    · rw [jrup_ne hk2]; exact i2 k hk hk2
    · funext j
      by_cases e : j = i
      · subst e; rw [jrup_ss, if_pos (by omega)]
      · rw [jrup_sn e, i3]
        dsimp only
        by_cases e2 : j < i
        · rw [if_pos e2, if_pos (by omega)]
        · rw [if_neg e2, if_neg (by omega)]
    · rw [jrup_ne (by omega)]
      by_cases e : k = 107 + i
      · subst e; exact (hz _ (Nat.le_refl _)).2
      · exact i4 k hk (by omega)
theorem i_X0_104 {G : jGT} {d : Nat} {M : jM} {r : jR} (hz : iZ 104 M r) : Con G (d + 2) mX0_init [.ref 104, .ref 27] 105 jSH M r 10 80 (iP 104 115 M r (fun _ => True)) := by
  refine Con_of_J ok_X0_init 1 rfl rfl ?_
  refine J_aload_0 dX0_init_0 ?_
  refine J_objInit dX0_init_1 w_364 (by omega) (Nat.le_of_ble_eq_true rfl) ?_
  refine J_aload_0 dX0_init_4 ?_
  refine J_bipush (8 : Int32) dX0_init_5 (by decide) ?_
  refine J_newq (N := 8) dX0_init_7 w_365 (by decide) (by decide) (by decide) (by omega) (by omega) (by decide) (by first | exact (hz 105 (by omega)).2 | (simp (disch := omega) only [jrup_ne]; exact (hz 105 (by omega)).2)) ?_
  rw [jSH_upd (by decide +kernel : jSH 105 = (103, 8))]
  refine J_putF dX0_init_10 rl_X0_11 rfl (by decide) (by decide +kernel : jSH 104 = (0, 3)) (by decide) (by decide +kernel) ?_
  refine J_aload_0 dX0_init_13 ?_
  refine J_bipush (8 : Int32) dX0_init_14 (by decide) ?_
  refine J_newa (t := 0) (N := 8) dX0_init_16 (by decide) rfl w_167 (by decide) (by decide) (by decide) (by omega) (by omega) (by decide) (by first | exact (hz 106 (by omega)).1 | (simp (disch := omega) only [jup_ne]; exact (hz 106 (by omega)).1)) ?_
  rw [jSH_upd (by decide +kernel : jSH 106 = (100 + 0, 8))]
  refine J_putF dX0_init_18 rl_X0_17 rfl (by decide) (by decide +kernel : jSH 104 = (0, 3)) (by decide) (by decide +kernel) ?_
  refine J_aload_0 dX0_init_21 ?_
  refine J_aload_1 dX0_init_22 ?_
  refine J_putF dX0_init_23 rl_X0_21 rfl (by decide) (by decide +kernel : jSH 104 = (0, 3)) (by decide) (by decide +kernel) ?_
  refine J_iconst (0 : Int32) dX0_init_26 (by decide) ?_
  refine J_istore_2 dX0_init_27 rfl ?_
  have hr0 : r 104 = fun _ => none := (hz 104 (by omega)).2
  refine l_X0 (d := d) (by simp (disch := omega) only [jrup_ss, jrup_sn, jrup_n, jrup_ne]) (fun M' r' k1 k2 k3 k4 k5 => ?_) 8 0 _ _ _ _ (by omega) (fun k hk => ⟨?_, ?_⟩) (fun _ _ => rfl) (fun _ _ _ => rfl) ?_ (fun k hk hk2 => by omega) (by omega) (by omega)
  · refine ⟨rfl, rfl, rfl, k1, fun k hk => ⟨?_, ?_⟩, fun k h1 h2 => ?_, trivial⟩
    · first | exact k2 k (by omega) | (rw [k2 k (by omega)]; simp (disch := omega) only [jup_ne])
    · rw [k3 k (by omega) (by omega)]; simp (disch := omega) only [jrup_ne]
    · by_cases e : 107 ≤ k
      · have e0 : ∀ k, k < 130 → 107 ≤ k → k < 115 → jMRl.getD k [] = [] := by decide +kernel
        rw [k5 k e h2, jMR_emp (e0 k (by omega) e h2)]
      · rcases (show k = 104 ∨ k = 105 ∨ k = 106 by omega) with rfl | rfl | rfl
        · rw [k3 104 (by omega) (by omega)]
          refine jMR_row (N := 3) (by omega) (by decide +kernel) (fun j hj => ?_) (fun j hj => ?_)
          · rcases (show j = 0 ∨ j = 1 ∨ j = 2 by omega) with rfl | rfl | rfl <;> simp (disch := omega) only [jrup_ss, jrup_sn, jrup_n, jrup_ne, hr0] <;> decide +kernel
          · simp (disch := omega) only [jrup_ss, jrup_sn, jrup_n, jrup_ne, hr0]
        · exact k4
        · rw [k3 106 (by omega) (by omega), jMR_emp (k := 106) rfl]
          simp (disch := omega) only [jrup_ne]
          exact (hz 106 (by omega)).2
  · first | exact (hz k (by omega)).1 | (simp (disch := omega) only [jup_ne]; exact (hz k (by omega)).1)
  · simp (disch := omega) only [jrup_ne]; exact (hz k (by omega)).2
  · simp (disch := omega) only [jrup_ne]
    rw [(hz 105 (by omega)).2]
    funext j
    rw [if_neg (by omega)]
