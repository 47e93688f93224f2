theorem jz_ix (z : Int32) : z < 0 ∨ (¬ z < 0 ∧ ¬ z ≤ 1) ∨ (¬ z < 0 ∧ z ≤ 1 ∧ ∃ b : Bool, z = jz b) := by
  by_cases h1 : z < 0
  · exact Or.inl h1
  by_cases h2 : z ≤ 1
  · refine Or.inr (Or.inr ⟨h1, h2, ?_⟩)
    rcases jix z (n := 2) (by omega) with hz | ⟨w, hw, rfl⟩
    · rcases hz with hz | hz
      · exact absurd hz h1
      · exfalso
        rw [Int32.le_iff_toInt_le] at hz h2
        rw [show (nI 2).toInt = 2 from by decide] at hz
        rw [show (1 : Int32).toInt = 1 from by decide] at h2
        omega
    · rcases (show w = 0 ∨ w = 1 by omega) with rfl | rfl
      · exact ⟨false, rfl⟩
      · exact ⟨true, rfl⟩
  · exact Or.inr (Or.inl ⟨h1, h2⟩)
theorem n1_lt {z : Int32} (h : ¬ z ≤ 1) : 1 < z := by rw [Int32.lt_iff_toInt_lt]; rw [Int32.le_iff_toInt_le] at h; omega
theorem l1_nlt {z : Int32} (h : z ≤ 1) : ¬ 1 < z := by rw [Int32.lt_iff_toInt_lt]; rw [Int32.le_iff_toInt_le] at h; omega
section CR2
variable {G : jGT} {d : Nat} {M : jM} {P : Int32 → Int32 → jM → Prop}
theorem call_rival (hR : Rel M) (x y y' z : Int32) (k : ∀ r M', Rel M' → P r r M') : CI G (d + 50) mX7_rival [.ref 0, .int x, .int y, .int y', .int z] M (fun r1 M1 => CI G (d + 50) mX8_rival [.ref 117, .int x, .int y, .int y', .int z] M1 (P r1)) := by
  obtain ⟨nS, nJ, nE, nQ, nT, nD, nC, nL, hS, hJ, hE, hQ, hT, hB, hD, hL⟩ := id hR.1
  have s8 := hS.2.2.1
  have j4 := hJ.2.2.1
  have t3 := hE.2.2.1
  refine eX7_rival (bX7_rival_0 ?_)
  rcases jix x (n := nJ) (by omega) with hx | ⟨j, hj, rfl⟩
  · exact t_hasJudge_n hJ.1 j4 hx (ite_ti rfl (eX8_rival (bX8_rival_0 (t_isJudge_n hJ.2.1 (by omega) hx (ite_ti rfl (k _ M hR))))))
  refine t_hasJudge_y hJ.1 j4 hj (ite_fi (by decide) ?_)
  have no : z < 0 ∨ 1 < z → CI G (d + 50) mX8_rival [.ref 117, .int (nI j), .int y, .int y', .int z] M (P (-100001)) := fun hz => eX8_rival (bX8_rival_0 (t_isJudge_y (n := nJ) hJ.2.1 (by omega) hj (ite_fi (by decide) (t_in_n hz (ite_ti rfl (k _ M hR))))))
  rcases jz_ix z with h | ⟨h1, h2⟩ | ⟨h1, h2, zb, rfl⟩
  · exact ite_ti h (no (Or.inl h))
  · exact ite_fi h1 (ite_fi h2 (no (Or.inr (n1_lt h2))))
  refine ite_fi h1 (ite_ti h2 ?_)
  have m0 : ∀ {M1 : jM} {Q : Int32 → jM → Prop}, M1 118 = M 118 → CI G (d + 49) mX8_isSet [.ref 117, .int y] M1 (fun r3 M3 => (if r3 = 0 then Q (-100002) M3 else CI G (d + 49) mX8_isSet [.ref 117, .int y'] M3 (fun r4 M4 => (if r4 = 0 then Q (-100002) M4 else (if (y &&& y') = 0 then CI G (d + 49) mX8_count1 [.int (y ||| y')] M4 (fun r5 M5 => (if r5 ≤ 6 then CV G (d + 49) mX8_looksFor [.ref 117, .int (nI j)] M5 (fun M6 => CV G (d + 49) mX8_opens [.ref 117] M6 (fun M7 => CI G (d + 49) mX8_rivals [.ref 117, .int (nI j), .int y, .int y', .int 1, .int 1] (jup M7 117 25 (-5)) (fun r8 M8 => (if (jz zb) = 0 then Q r8 M8 else Q (M8 117 25) M8)))) else Q (-100002) M5)) else Q (-100002) M4))))) → CI G (d + 50) mX8_rival [.ref 117, .int (nI j), .int y, .int y', .int (jz zb)] M1 Q := by
    intro M1 Q e h
    exact eX8_rival (bX8_rival_0 (t_isJudge_y (n := nJ) (by rw [e]; exact hJ.2.1) (by omega) hj (ite_fi (by decide) (t_in_y h1 (l1_nlt h2) (ite_fi (by decide) h)))))
  rcases set_ix y (n := nS) (by omega) with hy | ⟨o, ho, ho2, rfl⟩
  · exact t_hasSuits_n hS.1 s8 hy (ite_ti rfl (m0 rfl (t_isSet_n hS.2.1 s8 hy (ite_ti rfl (k _ M hR)))))
  refine t_hasSuits_y hS.1 s8 ho (ite_fi (by decide) ?_)
  rcases set_ix y' (n := nS) (by omega) with hy | ⟨t, ht, ht2, rfl⟩
  · exact t_hasSuits_n hS.1 s8 hy (ite_ti rfl (m0 rfl (t_isSet_y hS.2.1 s8 ho (ite_fi (by decide) (t_isSet_n hS.2.1 s8 hy (ite_ti rfl (k _ M hR)))))))
  refine t_hasSuits_y hS.1 s8 ht (ite_fi (by decide) ?_)
  have mm : ∀ {M1 : jM} {Q : Int32 → jM → Prop}, M1 118 = M 118 → (if (nI o &&& nI t) = 0 then CI G (d + 49) mX8_count1 [.int (nI o ||| nI t)] M1 (fun r5 M5 => (if r5 ≤ 6 then CV G (d + 49) mX8_looksFor [.ref 117, .int (nI j)] M5 (fun M6 => CV G (d + 49) mX8_opens [.ref 117] M6 (fun M7 => CI G (d + 49) mX8_rivals [.ref 117, .int (nI j), .int (nI o), .int (nI t), .int 1, .int 1] (jup M7 117 25 (-5)) (fun r8 M8 => (if (jz zb) = 0 then Q r8 M8 else Q (M8 117 25) M8)))) else Q (-100002) M5)) else Q (-100002) M1) → CI G (d + 50) mX8_rival [.ref 117, .int (nI j), .int (nI o), .int (nI t), .int (jz zb)] M1 Q := fun e h =>
    m0 e (t_isSet_y (by rw [e]; exact hS.2.1) s8 ho (ite_fi (by decide) (t_isSet_y (by rw [e]; exact hS.2.1) s8 ht (ite_fi (by decide) h))))
  refine ite_i (fun q => ?_) (fun q => mm rfl (ite_fi q (k _ M hR)))
  have q' := q
  have or8 := or_lt8 ho2 ht2
  have and8 : o &&& t < 256 := Nat.lt_of_le_of_lt Nat.and_le_left ho2
  rw [nI_and (by omega) (by omega), show (0 : Int32) = nI 0 from rfl, nI_eq (by omega) (by omega)] at q
  rw [nI_or (by omega) (by omega)] at mm ⊢
  refine c_bitCount or8 (ite_i (fun p => ?_) (fun p => mm rfl (ite_ti q' (c_count1 or8 (ite_fi p (k _ M hR))))))
  have p' := p
  have po := pop_or o ho2 t ht2 q
  rw [show (6 : Int32) = nI 6 from rfl, nI_leI (by have := bitCount_ok _ or8; omega) (by omega)] at p
  obtain ⟨kd, v, dy, row, hJD⟩ := JD_of hJ hD hj
  obtain ⟨L, hBL⟩ := BL_of hS hE
  obtain ⟨a, hLC⟩ := LC_of hL
  obtain ⟨bP, bW, hPW⟩ := PW_of hS
  have hlen : L.length ≤ 24 := by have := hBL.2.2.1; omega
  have hb := hPW.2.2.2.2.2
  refine c_openFor hJD hBL hLC (fun M1 o1 o2 o3 => ?_)
  have hPW1 : PW M1 nS bP bW := hPW.congr (o3 1 (by omega)) (o3 2 (by omega)) (o3 3 (by omega)) (o3 118 (by omega))
  refine eX4_against (bX4_against_0 (c_prep (d := d + 44) hPW1 o1 o2 (fun M2 p1 p2 p3 p4 => ?_)))
  have I : bInv (jup M2 35 6 (-5)) (venv kd v dy row a) bP bW L L := bInv.congr (M := M2) ⟨p2, p3, p1, Ext.refl L⟩ (fun b hb => by (simp (disch := omega) only [jup_ne]))
  generalize hr : pop8 o + pop8 t = r at po
  generalize hx : rGo (venv kd v dy row a) bP bW r L o t true = X
  -- the first of ours, in both
  have who : rUs true o t = true → rWho (-1) X = rWho (-5) X ∧ r ≠ 0 := by
    intro e
    have o0 : o ≠ 0 := by unfold rUs at e; simpa using e
    have r0 : r ≠ 0 := fun z => o0 ((pop_0 o ho2).mp (by omega))
    obtain ⟨r', rfl⟩ : ∃ r', r = r' + 1 := ⟨r - 1, by omega⟩
    obtain ⟨i, i1, i2⟩ := bit_ex o ho2 o0
    have : ∃ y, X = some y := by
      rw [← hx, rGo, if_pos e]
      exact bLoop_some' (fun s x => rStep_some _ _ s x) 8 0 none (Or.inr ⟨i, by omega, by omega, i2⟩)
    obtain ⟨y, rfl⟩ := this
    exact ⟨rfl, r0⟩
  have B := c_turns (G := G) (V := venv kd v dy row a) (L0 := L) (P := bP) (W := bW) hb r (d + 44 - r) L o t 0 true (jup M2 35 6 (-5)) (fun r2 M6 => if (jz zb) = 0 then CI G (d + 50) mX8_rival [.ref 117, .int (nI j), .int (nI o), .int (nI t), .int (jz zb)] M6 (P r2) else CI G (d + 50) mX8_rival [.ref 117, .int (nI j), .int (nI o), .int (nI t), .int (jz zb)] M6 (P (M6 35 6))) (by omega) ho2 ht2 hr (by omega) I
  rw [hx, show d + 44 - r + r + 4 = d + 48 by omega] at B
  refine B (fun M3 i1 _ i3 i4 => ?_)
  have i3 := i3 rfl
  have i3' : M3 35 6 = if rUs true o t = true then rWho (-5) X else -5 := by
    rw [i3]
    by_cases e : rUs true o t = true
    · rw [if_pos ⟨e, (who e).2⟩, if_pos e, (who e).1]
    · rw [if_neg (fun q => e q.1), if_neg e]; (simp (disch := omega) only [jup_ss, jup_sn, jup_n, jup_ne])
  have fr : ∀ b, b < 21 ∨ 104 ≤ b → M3 b = M b := fun b hb => by
    rw [i4 b (by omega), jup_ne (by omega), p4 b (by omega), o3 b (by omega)]
  have e118 : M3 118 = M 118 := fr 118 (by omega)
  have model : ∀ R : Int32, (R = if (jz zb) = 0 then rVal X else if rUs true o t = true then rWho (-5) X else -5) → CI G (d + 50) mX8_rival [.ref 117, .int (nI j), .int (nI o), .int (nI t), .int (jz zb)] M3 (P R) := by
    intro R hR1
    refine mm e118 (ite_ti q' (c_count1 or8 (ite_ti p' ?_)))
    refine c_mlooks (a := a) (by rw [e118]; exact hLC.1) (by rw [e118]; exact hJD.m) (fun M4 q1 q2 => ?_)
    have e4 : M4 118 = M 118 := (q2.1 118 (by omega) (by omega) (by omega) (by omega) (by omega)).trans e118
    refine c_opens (n := nE) (L := L) (by rw [e4]; exact hBL.m) (fun M5 s1 s2 s3 => ?_)
    have e5 : (jup M5 117 25 (-5)) 118 = M 118 := by (simp (disch := omega) only [jup_ne]); exact (s2 118 (by omega) (by omega) (by omega)).trans e4
    have dm : DM (jup M5 117 25 (-5)) (venv kd v dy row a) j := q1.congr (by (simp (disch := omega) only [jup_ne]); exact s2 122 (by omega) (by omega) (by omega)) (by (simp (disch := omega) only [jup_ne]); exact s2 123 (by omega) (by omega) (by omega)) (by (simp (disch := omega) only [jup_ne]); exact s2 118 (by omega) (by omega) (by omega)) (by (simp (disch := omega) only [jup_ss, jup_sn, jup_n, jup_ne]); exact s3 15 (by omega))
    have B := c_rivals (G := G) (V := venv kd v dy row a) (P := bP) (W := bW) (nS := nS) (j := j) r (d + 42 - r) L o t true true (jup M5 117 25 (-5)) (fun r8 M8 => if (jz zb) = 0 then P R r8 M8 else P R (M8 117 25) M8) ho2 ht2 ho ht hr (by omega) (hPW.pm.congr e5) dm (s1.congr (by (simp (disch := omega) only [jup_ne])) (by (simp (disch := omega) only [jup_ne])) (by (simp (disch := omega) only [jup_ss, jup_sn, jup_n, jup_ne]))) (fun _ => by (simp (disch := omega) only [jup_ss, jup_sn, jup_n, jup_ne]))
    rw [hx, show d + 42 - r + r + 7 = d + 49 by omega] at B
    refine B (fun M6 l1 l4 l2 l3 => ?_)
    have hR6 : Rel M6 := by
      have f : ∀ b, b ≠ 117 → (b < 21 ∨ 127 < b ∨ b = 115 ∨ b = 116 ∨ b = 118 ∨ b = 119) → M6 b = M b := fun b h1 h2 => (l4.1 b h1 (by omega)).trans ((by rw [jup_ne (by omega)] : (jup M5 117 25 (-5)) b = M5 b).trans ((s2 b h1 (by omega) (by omega)).trans ((q2.1 b h1 (by omega) (by omega) (by omega) (by omega)).trans (fr b (by omega)))))
      have g : ∀ i, i ≠ 11 → i ≠ 12 → i ≠ 15 → i ≠ 18 → i ≠ 19 → i ≠ 20 → i ≠ 23 → i ≠ 25 → M6 117 i = M 117 i := fun i h1 h2 h3 h4 h5 h6 h7 h8 => by rw [l4.2 i h4 h5 h6 h7 h8, jup_sn h8, s3 i h4, q2.2 i h1 h2 h3, fr 117 (by omega)]
      exact hR.keep ⟨fun b hb => f b (by omega) (by omega), f 115 (by omega) (by omega), f 116 (by omega) (by omega), f 118 (by omega) (by omega), f 119 (by omega) (by omega), g 3 (by omega) (by omega) (by omega) (by omega) (by omega) (by omega) (by omega) (by omega), g 27 (by omega) (by omega) (by omega) (by omega) (by omega) (by omega) (by omega) (by omega), f 129 (by omega) (by omega)⟩
    refine ite_i (fun w => ?_) (fun w => ?_)
    · rw [hR1, if_pos w]; exact k _ M6 hR6
    · rw [hR1, if_neg w]
      by_cases e : rUs true o t = true
      · rw [if_pos e, l3 ⟨rfl, e⟩]; exact k _ M6 hR6
      · rw [if_neg e, l2 (fun q => e q.2), show (jup M5 117 25 (-5)) 117 25 = -5 by (simp (disch := omega) only [jup_ss, jup_sn, jup_n, jup_ne])]; exact k _ M6 hR6
  refine ite_i (fun w => model _ ?_) (fun w => model _ ?_)
  · rw [if_pos w]
  · rw [if_neg w]; exact i3'
end CR2
