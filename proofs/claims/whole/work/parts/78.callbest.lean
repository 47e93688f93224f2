theorem jlast_ix (z : Int32) : z < -1 ∨ (¬ z < -1 ∧ z = -1) ∨ (¬ z < -1 ∧ z ≠ -1 ∧ ∃ k : Nat, k < 6 ∧ z = nI k) ∨ (¬ z < -1 ∧ ¬ z < 6) := by
  by_cases h1 : z < -1
  · exact Or.inl h1
  by_cases h2 : z = -1
  · exact Or.inr (Or.inl ⟨h1, h2⟩)
  by_cases h3 : z < 6
  · refine Or.inr (Or.inr (Or.inl ⟨h1, h2, z.toInt.toNat, ?_, ?_⟩))
    all_goals
      have h2' : z.toInt ≠ -1 := fun e => h2 (Int32.toInt_inj.mp (by rw [e]; decide))
      rw [Int32.lt_iff_toInt_lt, show (-1 : Int32).toInt = -1 from by decide] at h1
      rw [Int32.lt_iff_toInt_lt, show (6 : Int32).toInt = 6 from by decide] at h3
    · omega
    · rw [← Int32.toInt_inj, nI_toInt (by omega)]; omega
  · exact Or.inr (Or.inr (Or.inr ⟨h1, h3⟩))
section CB
variable {G : jGT} {d : Nat} {M : jM} {P : Int32 → Int32 → jM → Prop}
theorem call_best (hR : Rel M) (x y z : Int32) (k : ∀ r M', Rel M' → P r r M') : CI G (d + 50) mX7_best [.ref 0, .int x, .int y, .int z] M (fun r1 M1 => CI G (d + 50) mX8_best [.ref 117, .int x, .int y, .int z] M1 (P r1)) := by
  obtain ⟨nS, nJ, nE, nQ, nT, nD, nC, nL, hS, hJ, hE, hQ, hT, hB, hD, hL⟩ := id hR.1
  have s8 := hS.2.2.1
  have j4 := hJ.2.2.1
  have t3 := hE.2.2.1
  refine eX7_best (bX7_best_0 ?_)
  rcases jix x (n := nJ) (by omega) with hx | ⟨j, hj, rfl⟩
  · exact t_hasJudge_n hJ.1 j4 hx (ite_ti rfl (eX8_best (bX8_best_0 (t_isJudge_n hJ.2.1 (by omega) hx (ite_ti rfl (k _ M hR))))))
  refine t_hasJudge_y hJ.1 j4 hj (ite_fi (by decide) ?_)
  have no : z < -1 ∨ 5 < z → CI G (d + 50) mX8_best [.ref 117, .int (nI j), .int y, .int z] M (P (-100001)) := fun hz => eX8_best (bX8_best_0 (t_isJudge_y (n := nJ) hJ.2.1 (by omega) hj (ite_fi (by decide) (t_in_n hz (ite_ti rfl (k _ M hR))))))
  have c56 : ∀ {z : Int32}, ¬ z < 6 → 5 < z := fun {z} h => by rw [Int32.lt_iff_toInt_lt, show (6 : Int32).toInt = 6 from by decide] at h; rw [Int32.lt_iff_toInt_lt, show (5 : Int32).toInt = 5 from by decide]; omega
  have go : ¬ z < -1 → z < 6 → (z = -1 ∨ (z ≠ -1 ∧ ∃ k : Nat, k < 6 ∧ z = nI k)) → CI G (d + 49) mX2_hasSuits [.ref 1, .int y] M (fun r2 M2 => (if r2 = 0 then CI G (d + 50) mX8_best [.ref 117, .int (nI j), .int y, .int z] M2 (P (-100002)) else CI G (d + 49) mJ6_bitCount_0f7a4 [.int y] M2 (fun r3 M3 => (if r3 ≤ 6 then CV G (d + 49) mX7_openFor [.ref 0, .int (nI j)] M3 (fun M4 => CV G (d + 49) mX4_order [.ref 35, .ref 1, .int y] M4 (fun M5 => (if z = (-1) then CI G (d + 50) mX8_best [.ref 117, .int (nI j), .int y, .int z] M5 (P (M5 35 5)) else CI G (d + 49) mJ6_bitCount_0f7a4 [.int y] M5 (fun r6 M6 => (if r6 ≤ z then CI G (d + 50) mX8_best [.ref 117, .int (nI j), .int y, .int z] M6 (P (-5)) else (vp_in z 6 ∧ CI G (d + 50) mX8_best [.ref 117, .int (nI j), .int y, .int z] M6 (P (M6 39 z.toNatClampNeg)))))))) else CI G (d + 50) mX8_best [.ref 117, .int (nI j), .int y, .int z] M3 (P (-100002)))))) := by
    intro z1 z2 z3
    have z4 : ¬ 5 < z := by rw [Int32.lt_iff_toInt_lt, show (6 : Int32).toInt = 6 from by decide] at z2; rw [Int32.lt_iff_toInt_lt, show (5 : Int32).toInt = 5 from by decide]; omega
    -- the model, up to the set
    have m0 : ∀ {M1 : jM} {Q : Int32 → jM → Prop}, M1 118 = M 118 → CI G (d + 49) mX8_isSet [.ref 117, .int y] M1 (fun r3 M3 => (if r3 = 0 then Q (-100002) M3 else CI G (d + 49) mX8_count1 [.int y] M3 (fun r4 M4 => (if r4 ≤ 6 then CV G (d + 49) mX8_looksFor [.ref 117, .int (nI j)] M4 (fun M5 => CV G (d + 49) mX8_opens [.ref 117] M5 (fun M6 => CV G (d + 49) mX8_ordersFrom [.ref 117, .int (nI j), .int y, .int 0, .int 0] (jup M6 117 23 (-1)) (fun M7 => (if z = (-1) then Q (M7 117 23) M7 else (vp_in z 6 ∧ Q (M7 127 z.toNatClampNeg) M7))))) else Q (-100002) M4)))) → CI G (d + 50) mX8_best [.ref 117, .int (nI j), .int y, .int z] M1 Q := by
      intro M1 Q e h
      exact eX8_best (bX8_best_0 (t_isJudge_y (n := nJ) (by rw [e]; exact hJ.2.1) (by omega) hj (ite_fi (by decide) (t_in_y z1 z4 (ite_fi (by decide) h)))))
    rcases set_ix y (n := nS) (by omega) with hy | ⟨m, hm, hm2, rfl⟩
    · exact t_hasSuits_n hS.1 s8 hy (ite_ti rfl (m0 rfl (t_isSet_n hS.2.1 s8 hy (ite_ti rfl (k _ M hR)))))
    refine t_hasSuits_y hS.1 s8 hm (ite_fi (by decide) (c_bitCount hm2 (ite_i (fun q => ?_) (fun q => ?_))))
    · have q' := q
      rw [show (6 : Int32) = nI 6 from rfl, nI_leI (by have := bitCount_ok m hm2; omega) (by omega)] at q
      obtain ⟨kd, v, dy, row, hJD⟩ := JD_of hJ hD hj
      obtain ⟨L, hBL⟩ := BL_of hS hE
      obtain ⟨a, hLC⟩ := LC_of hL
      obtain ⟨bP, bW, hPW⟩ := PW_of hS
      have hlen : L.length ≤ 24 := by have := hBL.2.2.1; omega
      have hb := hPW.2.2.2.2.2
      refine c_openFor hJD hBL hLC (fun M1 o1 o2 o3 => ?_)
      have hPW1 : PW M1 nS bP bW := hPW.congr (o3 1 (by omega)) (o3 2 (by omega)) (o3 3 (by omega)) (o3 118 (by omega))
      refine eX4_order (bX4_order_0 (c_prep (d := d + 44) hPW1 o1 o2 (fun M2 p1 p2 p3 p4 => ?_)))
      have I : bInv (jup M2 35 5 (-1)) (venv kd v dy row a) bP bW L L := bInv.congr (M := M2) ⟨p2, p3, p1, Ext.refl L⟩ (fun b hb => by (simp (disch := omega) only [jup_ne]))
      obtain ⟨⟨most, br⟩, hres⟩ := bGo_some (V := venv kd v dy row a) (P := bP) (W := bW) (pop8 m) L m 0 0 (fun _ => 0) none hm2 rfl
      have B := c_bring (G := G) (V := venv kd v dy row a) (L0 := L) (P := bP) (W := bW) (n := pop8 m) hb q (pop8 m) (d + 42 - pop8 m) L m 0 0 (fun _ => 0) none (jup M2 35 5 (-1)) (fun M5 => (if z = (-1) then CI G (d + 50) mX8_best [.ref 117, .int (nI j), .int (nI m), .int z] M5 (P (M5 35 5)) else CI G (d + 49) mJ6_bitCount_0f7a4 [.int (nI m)] M5 (fun r6 M6 => (if r6 ≤ z then CI G (d + 50) mX8_best [.ref 117, .int (nI j), .int (nI m), .int z] M6 (P (-5)) else (vp_in z 6 ∧ CI G (d + 50) mX8_best [.ref 117, .int (nI j), .int (nI m), .int z] M6 (P (M6 39 z.toNatClampNeg))))))) (by omega) hm2 rfl (by omega) (by omega) I (by show (jup M2 35 5 (-1)) 35 5 = -1; (simp (disch := omega) only [jup_ss, jup_sn, jup_n, jup_ne])) (fun k hk => by omega)
      rw [show d + 42 - pop8 m + pop8 m + 6 = d + 48 by omega] at B
      refine B (fun M3 i1 i2 i3 i4 => ?_)
      rw [hres] at i2
      obtain ⟨r1, r2, r3⟩ := i2
      have fr : ∀ b, b < 21 ∨ 104 ≤ b → M3 b = M b := fun b hb => by
        rw [i4 b (by omega), jup_ne (by omega), p4 b (by omega), o3 b (by omega)]
      have e118 : M3 118 = M 118 := fr 118 (by omega)
      -- the model
      have model : ∀ R : Int32, (z = -1 → R = nI most) → (∀ k, k < 6 → z = nI k → R = if k < pop8 m then nI (br k) else -5) → CI G (d + 50) mX8_best [.ref 117, .int (nI j), .int (nI m), .int z] M3 (P R) := by
        intro R hR1 hR2
        refine m0 e118 (t_isSet_y (by rw [e118]; exact hS.2.1) s8 hm (ite_fi (by decide) (c_count1 hm2 (ite_ti q' ?_))))
        refine c_mlooks (a := a) (by rw [e118]; exact hLC.1) (by rw [e118]; exact hJD.m) (fun M4 q1 q2 => ?_)
        have e4 : M4 118 = M 118 := (q2.1 118 (by omega) (by omega) (by omega) (by omega) (by omega)).trans e118
        refine c_opens (n := nE) (L := L) (by rw [e4]; exact hBL.m) (fun M5 s1 s2 s3 => ?_)
        have e5 : (jup M5 117 23 (-1)) 118 = M 118 := by (simp (disch := omega) only [jup_ne]); exact (s2 118 (by omega) (by omega) (by omega)).trans e4
        have dm : DM (jup M5 117 23 (-1)) (venv kd v dy row a) j := q1.congr (by (simp (disch := omega) only [jup_ne]); exact s2 122 (by omega) (by omega) (by omega)) (by (simp (disch := omega) only [jup_ne]); exact s2 123 (by omega) (by omega) (by omega)) (by (simp (disch := omega) only [jup_ne]); exact s2 118 (by omega) (by omega) (by omega)) (by (simp (disch := omega) only [jup_ss, jup_sn, jup_n, jup_ne]); exact s3 15 (by omega))
        have B := c_orders (G := G) (V := venv kd v dy row a) (P := bP) (W := bW) (nS := nS) (j := j) (n := pop8 m) q (pop8 m) (d + 42 - pop8 m) L m 0 0 (fun _ => 0) none (jup M5 117 23 (-1)) (fun M7 => (if z = (-1) then P R (M7 117 23) M7 else (vp_in z 6 ∧ P R (M7 127 z.toNatClampNeg) M7))) (by omega) hm2 hm rfl (by omega) (by omega) (hPW.pm.congr e5) dm (s1.congr (by (simp (disch := omega) only [jup_ne])) (by (simp (disch := omega) only [jup_ne])) (by (simp (disch := omega) only [jup_ss, jup_sn, jup_n, jup_ne]))) (by show (jup M5 117 23 (-1)) 117 23 = -1; (simp (disch := omega) only [jup_ss, jup_sn, jup_n, jup_ne])) (fun k hk => by omega)
        rw [show d + 42 - pop8 m + pop8 m + 7 = d + 49 by omega] at B
        refine B (fun M6 l1 l2 l3 l4 => ?_)
        rw [hres] at l2
        obtain ⟨u1, u2, u3, u4⟩ := l2
        have hR6 : Rel M6 := by
          have f : ∀ b, b ≠ 117 → (b < 21 ∨ 127 < b ∨ b = 115 ∨ b = 116 ∨ b = 118 ∨ b = 119) → M6 b = M b := fun b h1 h2 => (l4.1 b h1 (by omega)).trans ((by rw [jup_ne (by omega)] : (jup M5 117 23 (-1)) b = M5 b).trans ((s2 b h1 (by omega) (by omega)).trans ((q2.1 b h1 (by omega) (by omega) (by omega) (by omega)).trans (fr b (by omega)))))
          have g : ∀ i, i ≠ 11 → i ≠ 12 → i ≠ 15 → i ≠ 18 → i ≠ 19 → i ≠ 20 → i ≠ 23 → i ≠ 25 → M6 117 i = M 117 i := fun i h1 h2 h3 h4 h5 h6 h7 h8 => by rw [l4.2 i h4 h5 h6 h7 h8, jup_sn h7, s3 i h4, q2.2 i h1 h2 h3, fr 117 (by omega)]
          exact hR.keep ⟨fun b hb => f b (by omega) (by omega), f 115 (by omega) (by omega), f 116 (by omega) (by omega), f 118 (by omega) (by omega), f 119 (by omega) (by omega), g 3 (by omega) (by omega) (by omega) (by omega) (by omega) (by omega) (by omega) (by omega), g 27 (by omega) (by omega) (by omega) (by omega) (by omega) (by omega) (by omega) (by omega), f 129 (by omega) (by omega)⟩
        refine ite_i (fun w => ?_) (fun w => ?_)
        · rw [u1, hR1 w]; exact k _ M6 hR6
        · rcases z3 with z3 | ⟨-, i, i6, rfl⟩
          · exact absurd z3 w
          · rw [nI_clamp (by omega), hR2 i i6 rfl]
            refine ⟨vp_in_nI (by omega) (by omega), ?_⟩
            by_cases hi : i < pop8 m
            · rw [if_pos hi, u3 i hi]; exact k _ M6 hR6
            · rw [if_neg hi, u4 i (by omega) i6]; exact k _ M6 hR6
      refine ite_i (fun w => ?_) (fun w => ?_)
      · rw [r1]
        exact model _ (fun _ => rfl) (fun i _ e => absurd (e.symm.trans w) (fun e' => nI_pos (by omega : i < 2 ^ 31) (by rw [e']; decide)))
      · rcases z3 with z3 | ⟨-, i, i6, rfl⟩
        · exact absurd z3 w
        · refine c_bitCount hm2 ?_
          rw [nI_clamp (by omega)]
          have inj : ∀ i', i' < 6 → nI i = nI i' → i = i' := fun i' h1 h2 => by rw [nI_eq (by omega) (by omega)] at h2; exact h2
          refine ite_i (fun u => ?_) (fun u => ⟨vp_in_nI (by omega) (by omega), ?_⟩) <;> rw [nI_leI (by omega) (by omega)] at u
          · exact model _ (fun e => absurd e w) (fun i' h1 h2 => by rw [if_neg (by have := inj i' h1 h2; omega)])
          · rw [r3 i (by omega)]
            exact model _ (fun e => absurd e w) (fun i' h1 h2 => by have := inj i' h1 h2; subst this; rw [if_pos (by omega)])
    · exact m0 rfl (t_isSet_y hS.2.1 s8 hm (ite_fi (by decide) (c_count1 hm2 (ite_fi q (k _ M hR)))))
  rcases jlast_ix z with h | ⟨h1, h2⟩ | ⟨h1, h2, i, i6, h3⟩ | ⟨h1, h2⟩
  · exact ite_ti h (no (Or.inl h))
  · exact ite_fi h1 (ite_ti (by rw [h2]; decide) (go h1 (by rw [h2]; decide) (Or.inl h2)))
  · have : z < 6 := by rw [h3, show (6 : Int32) = nI 6 from rfl, nI_ltI (by omega) (by omega)]; exact i6
    exact ite_fi h1 (ite_ti this (go h1 this (Or.inr ⟨h2, i, i6, h3⟩)))
  · exact ite_fi h1 (ite_fi h2 (no (Or.inr (c56 h2))))
end CB
