theorem keep6 {M M1 M4 M5 M6 : jM} (fr : ∀ b, b < 21 ∨ 114 < b → M1 b = M b) (q2 : Lf M1 M4) (s2 : ∀ b, b ≠ 117 → b ≠ 124 → b ≠ 125 → M5 b = M4 b) (s3 : ∀ i, i ≠ 18 → M5 117 i = M4 117 i) (l4 : Ms M5 M6) : Keep M M6 := by
  have f : ∀ b, b ≠ 117 → (b < 21 ∨ 128 < b ∨ b = 115 ∨ b = 116 ∨ b = 118 ∨ b = 119) → M6 b = M b := fun b h1 h2 => (l4.1 b h1 (by omega)).trans ((s2 b h1 (by omega) (by omega)).trans ((q2.1 b h1 (by omega) (by omega) (by omega) (by omega)).trans (fr b (by omega))))
  have g : ∀ i, i ≠ 11 → i ≠ 12 → i ≠ 15 → i ≠ 18 → i ≠ 19 → i ≠ 20 → M6 117 i = M 117 i := fun i h1 h2 h3 h4 h5 h6 => by rw [l4.2 i h4 h5 h6, s3 i h4, q2.2 i h1 h2 h3, fr 117 (by omega)]
  exact ⟨fun b hb => f b (by omega) (by omega), f 115 (by omega) (by omega), f 116 (by omega) (by omega), f 118 (by omega) (by omega), f 119 (by omega) (by omega), g 3 (by omega) (by omega) (by omega) (by omega) (by omega) (by omega), g 27 (by omega) (by omega) (by omega) (by omega) (by omega) (by omega), f 129 (by omega) (by omega)⟩
section CO2
variable {G : jGT} {d : Nat} {M : jM} {P : Int64 → Int64 → jM → Prop}
theorem c_expL {V : jEv} {x1 : Int32} {b : Bool} {nS n : Nat} {S Q W : Nat → Nat} {L : List (Nat × Nat)} {M : jM} {post : Int64 → jM → Prop} (hQ : QW M nS n S Q W) (hc : ∀ i, i < n → M 106 i = nI (fG V Q n 0 L 256 i)) (h : post (lN (lowP b (sm (fun i => fG V Q n 0 L 256 i * W i) n))) M) : ∀ (r k : Nat), k + r = n → kX7_expects_45 G (d + 1) x1 (jz b) (nI (sm (fun i => fG V Q n 0 L 256 i * W i) k)) (nI k) M post := by
  obtain ⟨w1, w2, w3, w4, w5, w6, w7⟩ := hQ
  have big : ∀ k, k ≤ n → sm (fun i => fG V Q n 0 L 256 i * W i) k < 2 ^ 30 := fun k hk => by
    have := sm_le (f := fun i => fG V Q n 0 L 256 i * W i) (B := 256 * 100) (fun i => Nat.mul_le_mul (fG_le n 0 L 256 i) (by have := (w7 i).2; omega)) k
    have : k * (256 * 100) ≤ 8 * (256 * 100) := Nat.mul_le_mul_right _ (by omega)
    omega
  intro r
  induction r with
  | zero =>
    intro k hk
    obtain rfl : k = n := by omega
    exact bX7_expects_45 (ite_ti (by rw [w4, nI_leI (by omega) (by omega)]; omega) (c_part (big k (Nat.le_refl _)) h))
  | succ r ih =>
    intro k hk
    obtain ⟨u1, u2, u3, u4, u5, u6, u7⟩ := w6 k (by omega)
    refine bX7_expects_45 (ite_fi (by rw [w4, nI_leI (by omega) (by omega)]; omega) (ite_fi (by rw [show (8 : Int32) = nI 8 from rfl, nI_leI (by omega) (by omega)]; omega) ⟨vp_in_nI (by omega) (by omega), vp_in_nI (by omega) (by omega), ?_⟩))
    rw [nI_clamp (by omega), u2]
    refine t_worthOf w3 w1 u1 ?_
    rw [hc k (by omega), u5, pk_mul, nI_add, nI_1]
    exact ih (k + 1) (by omega)
theorem call_expects (hR : Rel M) (x z : Int32) (k : ∀ r M', Rel M' → P r r M') : CL G (d + 50) mX7_expects [.ref 0, .int x, .int z] M (fun r1 M1 => CL G (d + 50) mX8_expects [.ref 117, .int x, .int z] M1 (P r1)) := by
  obtain ⟨nS, nJ, nE, nQ, nT, nD, nC, nL, hS, hJ, hE, hQ, hT, hB, hD, hL⟩ := id hR.1
  have s8 := hS.2.2.1
  have j4 := hJ.2.2.1
  have t3 := hE.2.2.1
  refine eX7_expects (bX7_expects_0 ?_)
  rcases jix x (n := nJ) (by omega) with hx | ⟨j, hj, rfl⟩
  · exact t_hasJudge_n hJ.1 j4 hx (ite_ti rfl (eX8_expects (bX8_expects_0 (t_isJudge_n hJ.2.1 (by omega) hx (ite_ti rfl (k _ M hR))))))
  refine t_hasJudge_y hJ.1 j4 hj (ite_fi (by decide) ?_)
  have no : z < 0 ∨ 1 < z → CL G (d + 50) mX8_expects [.ref 117, .int (nI j), .int z] M (P (-9223372036854775808 : Int64)) := fun hz => eX8_expects (bX8_expects_0 (t_isJudge_y (n := nJ) hJ.2.1 (by omega) hj (ite_fi (by decide) (t_in_n hz (ite_ti rfl (k _ M hR))))))
  rcases jz_ix z with h | ⟨h1, h2⟩ | ⟨h1, h2, zb, rfl⟩
  · exact ite_ti h (no (Or.inl h))
  · exact ite_fi h1 (ite_fi h2 (no (Or.inr (n1_lt h2))))
  refine ite_fi h1 (ite_ti h2 ?_)
  obtain ⟨kd, v, dy, row, hJD⟩ := JD_of hJ hD hj
  obtain ⟨L, hBL⟩ := BL_of hS hE
  obtain ⟨a, hLC⟩ := LC_of hL
  obtain ⟨S, Q, W, hQW⟩ := QW_of hS hQ
  have hlen : L.length ≤ 24 := by have := hBL.2.2.1; omega
  have n8 := hQW.2.1
  refine c_openFor hJD hBL hLC (fun M1 o1 o2 o3 => ?_)
  have hQW1 : QW M1 nS nQ S Q W := hQW.congr (o3 1 (by omega)) (o3 2 (by omega)) (o3 3 (by omega)) (o3 8 (by omega)) (o3 118 (by omega))
  have B := c_fall (G := G) (d := d + 44 - 2 * nQ) (M := M1) (V := venv kd v dy row a) hlen hQW1 o1 o2 (post := fun M3 => kX7_expects_45 G (d + 49) (nI j) (jz zb) 0 0 M3 (fun r1 M1 => CL G (d + 50) mX8_expects [.ref 117, .int (nI j), .int (jz zb)] M1 (P r1)))
  rw [show d + 44 - 2 * nQ + 2 * nQ + 5 = d + 49 by omega] at B
  refine B (fun M2 c2 f2 => ?_)
  have fr : ∀ b, b < 21 ∨ 114 < b → M2 b = M b := fun b hb => (f2 b (by omega)).trans (o3 b (by omega))
  have e118 : M2 118 = M 118 := fr 118 (by omega)
  refine c_expL (V := venv kd v dy row a) (L := L) (hQW.congr (fr 1 (by omega)) (fr 2 (by omega)) (fr 3 (by omega)) (fr 8 (by omega)) e118) c2 ?_ nQ 0 (by omega)
  refine eX8_expects (bX8_expects_0 (t_isJudge_y (n := nJ) (by rw [e118]; exact hJ.2.1) (by omega) hj (ite_fi (by decide) (t_in_y h1 (l1_nlt h2) (ite_fi (by decide) ?_)))))
  refine c_mlooks (a := a) (by rw [e118]; exact hLC.1) (by rw [e118]; exact hJD.m) (fun M4 q1 q2 => ?_)
  have e4 : M4 118 = M 118 := (q2.1 118 (by omega) (by omega) (by omega) (by omega) (by omega)).trans e118
  refine c_opens (n := nE) (L := L) (by rw [e4]; exact hBL.m) (fun M5 s1 s2 s3 => ?_)
  have e5 : M5 118 = M 118 := (s2 118 (by omega) (by omega) (by omega)).trans e4
  have dm : DM M5 (venv kd v dy row a) j := q1.congr (s2 122 (by omega) (by omega) (by omega)) (s2 123 (by omega) (by omega) (by omega)) (s2 118 (by omega) (by omega) (by omega)) (s3 15 (by omega))
  have B := c_falls (G := G) (V := venv kd v dy row a) (j := j) (n := nQ) (S := S) (Q := Q) (W := W) (w := W) (x4 := -1) (Or.inl ⟨rfl, fun _ => rfl⟩) nQ (d + 44 - nQ) 0 256 L M5 (fun r5 M5' => CL G (d + 49) mX8_lowest [.long r5, .long (256 : Int64), .int (jz zb)] M5' (fun r6 M6 => P (lN (lowP zb (sm (fun i => fG (venv kd v dy row a) Q nQ 0 L 256 i * W i) nQ))) r6 M6)) (by omega) (by omega) (by omega) (hQW.qm.congr e5) dm s1
  rw [show d + 44 - nQ + nQ + 5 = d + 49 by omega] at B
  refine B (fun M6 _ l4 => ?_)
  rw [mG_sm (n := nQ) nQ 0 L 256 (by omega)]
  refine c_lowest (d := d + 48) ?_ (k _ M6 (hR.keep (keep6 fr q2 s2 s3 l4)))
  have := sm_le (f := fun i => fG (venv kd v dy row a) Q nQ 0 L 256 i * W i) (B := 256 * 100) (fun i => Nat.mul_le_mul (fG_le nQ 0 L 256 i) (by have := (hQW.2.2.2.2.2.2 i).2; omega)) nQ
  have : nQ * (256 * 100) ≤ 8 * (256 * 100) := Nat.mul_le_mul_right _ (by omega)
  omega
theorem call_odds (hR : Rel M) (x y z : Int32) (k : ∀ r M', Rel M' → P r r M') : CL G (d + 50) mX7_odds [.ref 0, .int x, .int y, .int z] M (fun r1 M1 => CL G (d + 50) mX8_odds [.ref 117, .int x, .int y, .int z] M1 (P r1)) := by
  obtain ⟨nS, nJ, nE, nQ, nT, nD, nC, nL, hS, hJ, hE, hQ, hT, hB, hD, hL⟩ := id hR.1
  have s8 := hS.2.2.1
  have j4 := hJ.2.2.1
  have t3 := hE.2.2.1
  have q10 : M 1 10 = nI nQ := hQ.1
  have q4 : M 118 4 = nI nQ := hQ.2.1
  have n8 := hQ.2.2.1
  refine eX7_odds (bX7_odds_0 ?_)
  rcases jix x (n := nJ) (by omega) with hx | ⟨j, hj, rfl⟩
  · exact t_hasJudge_n hJ.1 j4 hx (ite_ti rfl (eX8_odds (bX8_odds_0 (t_isJudge_n hJ.2.1 (by omega) hx (ite_ti rfl (k _ M hR))))))
  refine t_hasJudge_y hJ.1 j4 hj (ite_fi (by decide) ?_)
  rw [q10]
  rcases jix y (n := nQ) (by omega) with hy | ⟨w, hw, rfl⟩
  · have no : CL G (d + 50) mX8_odds [.ref 117, .int (nI j), .int y, .int z] M (P (-9223372036854775808 : Int64)) := by
      refine eX8_odds (bX8_odds_0 (t_isJudge_y (n := nJ) hJ.2.1 (by omega) hj (ite_fi (by decide) ?_)))
      rw [q4]
      exact t_inM_n hy (by omega) (ite_ti rfl (k _ M hR))
    by_cases h : y < 0
    · exact ite_ti h no
    · rcases hy with hy | hy
      · exact absurd hy h
      · exact ite_fi h (ite_ti hy no)
  refine ite_fi (nI_pos (by omega)) (ite_fi (by rw [nI_leI (by omega) (by omega)]; omega) (ite_fi (by rw [show (8 : Int32) = nI 8 from rfl, nI_leI (by omega) (by omega)]; omega) ?_))
  have no : z < 0 ∨ 1 < z → CL G (d + 50) mX8_odds [.ref 117, .int (nI j), .int (nI w), .int z] M (P (-9223372036854775808 : Int64)) := fun hz => by
    refine eX8_odds (bX8_odds_0 (t_isJudge_y (n := nJ) hJ.2.1 (by omega) hj (ite_fi (by decide) ?_)))
    rw [q4]
    exact t_inM_y hw (by omega) (ite_fi (by decide) (t_in_n hz (ite_ti rfl (k _ M hR))))
  rcases jz_ix z with h | ⟨h1, h2⟩ | ⟨h1, h2, zb, rfl⟩
  · exact ite_ti h (no (Or.inl h))
  · exact ite_fi h1 (ite_fi h2 (no (Or.inr (n1_lt h2))))
  refine ite_fi h1 (ite_ti h2 ?_)
  obtain ⟨kd, v, dy, row, hJD⟩ := JD_of hJ hD hj
  obtain ⟨L, hBL⟩ := BL_of hS hE
  obtain ⟨a, hLC⟩ := LC_of hL
  obtain ⟨S, Q, W, hQW⟩ := QW_of hS hQ
  have hlen : L.length ≤ 24 := by have := hBL.2.2.1; omega
  refine c_openFor hJD hBL hLC (fun M1 o1 o2 o3 => ?_)
  have hQW1 : QW M1 nS nQ S Q W := hQW.congr (o3 1 (by omega)) (o3 2 (by omega)) (o3 3 (by omega)) (o3 8 (by omega)) (o3 118 (by omega))
  have B := c_fall (G := G) (d := d + 44 - 2 * nQ) (M := M1) (V := venv kd v dy row a) hlen hQW1 o1 o2 (post := fun M3 => vp_in (nI w) 8 ∧ CL G (d + 49) mX0_part [.int (M3 106 (nI w).toNatClampNeg), .int (jz zb)] M3 (fun r4 M4 => CL G (d + 50) mX8_odds [.ref 117, .int (nI j), .int (nI w), .int (jz zb)] M4 (P r4)))
  rw [show d + 44 - 2 * nQ + 2 * nQ + 5 = d + 49 by omega] at B
  refine B (fun M2 c2 f2 => ⟨vp_in_nI (by omega) (by omega), ?_⟩)
  rw [nI_clamp (by omega), c2 w hw]
  have fr : ∀ b, b < 21 ∨ 114 < b → M2 b = M b := fun b hb => (f2 b (by omega)).trans (o3 b (by omega))
  have e118 : M2 118 = M 118 := fr 118 (by omega)
  have f256 := fG_le (V := venv kd v dy row a) (Q := Q) nQ 0 L 256 w
  refine c_part (d := d + 48) (by omega) ?_
  refine eX8_odds (bX8_odds_0 (t_isJudge_y (n := nJ) (by rw [e118]; exact hJ.2.1) (by omega) hj (ite_fi (by decide) ?_)))
  rw [e118, q4]
  refine t_inM_y hw (by omega) (ite_fi (by decide) (t_in_y h1 (l1_nlt h2) (ite_fi (by decide) ?_)))
  refine c_mlooks (a := a) (by rw [e118]; exact hLC.1) (by rw [e118]; exact hJD.m) (fun M4 q1 q2 => ?_)
  have e4 : M4 118 = M 118 := (q2.1 118 (by omega) (by omega) (by omega) (by omega) (by omega)).trans e118
  refine c_opens (n := nE) (L := L) (by rw [e4]; exact hBL.m) (fun M5 s1 s2 s3 => ?_)
  have e5 : M5 118 = M 118 := (s2 118 (by omega) (by omega) (by omega)).trans e4
  have dm : DM M5 (venv kd v dy row a) j := q1.congr (s2 122 (by omega) (by omega) (by omega)) (s2 123 (by omega) (by omega) (by omega)) (s2 118 (by omega) (by omega) (by omega)) (s3 15 (by omega))
  have B := c_falls (G := G) (V := venv kd v dy row a) (j := j) (n := nQ) (S := S) (Q := Q) (W := W) (w := fun k => if k = w then 1 else 0) (x4 := nI w) (Or.inr ⟨w, hw, rfl, fun _ => rfl⟩) nQ (d + 44 - nQ) 0 256 L M5 (fun r5 M5' => CL G (d + 49) mX8_lowest [.long r5, .long (256 : Int64), .int (jz zb)] M5' (fun r6 M6 => P (lN (lowP zb (fG (venv kd v dy row a) Q nQ 0 L 256 w))) r6 M6)) (by omega) (by omega) (by omega) (hQW.qm.congr e5) dm s1
  rw [show d + 44 - nQ + nQ + 5 = d + 49 by omega] at B
  refine B (fun M6 _ l4 => ?_)
  have es : mG (venv kd v dy row a) Q (fun k => if k = w then 1 else 0) nQ 0 L 256 = fG (venv kd v dy row a) Q nQ 0 L 256 w := by
    rw [mG_sm (n := nQ) nQ 0 L 256 (by omega), sm_congr (g := fun i => if i = w then fG (venv kd v dy row a) Q nQ 0 L 256 i else 0) nQ (fun i _ => ?_), sm_one, if_pos hw]
    split
    · rw [Nat.mul_one]
    · rw [Nat.mul_zero]
  rw [es]
  exact c_lowest (d := d + 48) (by omega) (k _ M6 (hR.keep (keep6 fr q2 s2 s3 l4)))
end CO2
