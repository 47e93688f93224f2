theorem JD_of {M : jM} {nJ nD j : Nat} (hJ : RJu nJ (M 1) (fun i => M (2 + i)) (M 118)) (hD : RDa nD (M 1) (M 118)) (hj : j < nJ) : ∃ kd v dy row, JD M j kd v dy row := by
  obtain ⟨h1, h2, h3, h4, h5⟩ := hJ
  obtain ⟨d1, d2, d3⟩ := hD
  obtain ⟨kd, v, a1, a2, a3, a4, a5, a6⟩ := h4 j hj
  refine ⟨kd, v, nD, fun x => (M 6 (4 * j + x)).toNatClampNeg, ⟨by omega, a4, a6, d2, a1, a2, by omega⟩, a3, a5, d1, ⟨nJ, h1, h3, hj⟩, fun x hx => ?_⟩
  obtain ⟨m, m1, m2, m3, -⟩ := h5 (4 * j + x) (by omega)
  have m2 : M 6 (4 * j + x) = nI m := m2
  dsimp only
  rw [m2, nI_clamp (by omega)]
  refine ⟨rfl, m1, ?_⟩
  rw [Nat.add_assoc]
  exact m3 (by omega)
theorem vw_eq (V : jEv) (own : Nat) (T : jTl) : vw V own T = vwho V T := by
  unfold vw
  by_cases q : vtell V own ≠ 0
  · rw [if_pos q]
    have e : V.1 = 6 := by
      unfold vtell at q
      split at q
      · assumption
      · omega
    unfold vwho
    rw [e]
    by_cases z : T.2.2.2.2.1 + T.2.2.2.2.2 = 0
    · rw [if_pos z]
    · rw [if_neg z]; rfl
  · rw [if_neg q]
section C3
variable {G : jGT} {d : Nat} {M : jM} {P : Int32 → Int32 → jM → Prop}
theorem c_mlooks {j kd v dy : Nat} {row : Nat → Nat} {a : jA4} {Q : jM → Prop} (hL : LW (M 118) a) (hJ : JDm (M 118) j kd v dy row) (h : ∀ M', DM M' (venv kd v dy row a) j → Lf M M' → Q M') : CV G (d + 1) mX8_looksFor [.ref 117, .int (nI j)] M Q := by
  obtain ⟨hj, k7⟩ := hJ
  refine c_looksFor hL hj (fun M1 t1 t2 t3 => ?_)
  have e118 : M1 118 = M 118 := t3.1 118 (by omega) (by omega) (by omega) (by omega) (by omega)
  obtain ⟨j0, j1, j2, j3, j4, j5, j6⟩ := hj
  exact h M1 ⟨t1, t2, j0, by rw [e118]; exact j1, by rw [e118]; exact j2, fun x hx => ⟨by rw [e118]; exact (k7 x hx).2, (k7 x hx).1⟩, j4, j5⟩ t3
theorem call_score (hR : Rel M) (x y z : Int32) (k : ∀ r M', Rel M' → P r r M') : CI G (d + 50) mX7_score [.ref 0, .int x, .int y, .int z] M (fun r1 M1 => CI G (d + 50) mX8_score [.ref 117, .int x, .int y, .int z] M1 (P r1)) := by
  obtain ⟨nS, nJ, nE, nQ, nT, nD, nC, nL, hS, hJ, hE, hQ, hT, hB, hD, hL⟩ := id hR.1
  have s8 := hS.2.2.1
  have j4 := hJ.2.2.1
  refine eX7_score (bX7_score_0 ?_)
  rcases jix x (n := nJ) (by omega) with hx | ⟨j, hj, rfl⟩
  · exact t_hasJudge_n hJ.1 j4 hx (ite_ti rfl (eX8_score (bX8_score_0 (t_isJudge_n hJ.2.1 (by omega) hx (ite_ti rfl (k _ M hR))))))
  refine t_hasJudge_y hJ.1 j4 hj (ite_fi (by decide) ?_)
  rcases jix y (n := nS) (by omega) with hy | ⟨t, ht, rfl⟩
  · exact t_hasSuit_n hS.1 s8 hy (ite_ti rfl (eX8_score (bX8_score_0 (t_isJudge_y hJ.2.1 (by omega) hj (ite_fi (by decide) (t_isSuit_n hS.2.1 s8 hy (ite_ti rfl (k _ M hR))))))))
  refine t_hasSuit_y hS.1 s8 ht (ite_fi (by decide) ?_)
  rcases jix z (n := nS) (by omega) with hz | ⟨u, hu, rfl⟩
  · exact t_hasSuit_n hS.1 s8 hz (ite_ti rfl (eX8_score (bX8_score_0 (t_isJudge_y hJ.2.1 (by omega) hj (ite_fi (by decide) (t_isSuit_y hS.2.1 s8 ht (ite_fi (by decide) (t_isSuit_n hS.2.1 s8 hz (ite_ti rfl (k _ M hR))))))))))
  refine t_hasSuit_y hS.1 s8 hu (ite_fi (by decide) ?_)
  obtain ⟨kd, v, dy, row, hJD⟩ := JD_of hJ hD hj
  obtain ⟨L, hBL⟩ := BL_of hS hE
  obtain ⟨a, hLC⟩ := LC_of hL
  obtain ⟨p, w, p1, -, p3, p4, -⟩ := hS.2.2.2 t ht
  obtain ⟨p', w', p1', -, p3', p4', -⟩ := hS.2.2.2 u hu
  have p3 : M 2 t = nI p := p3
  have p3' : M 2 u = nI p' := p3'
  refine c_openFor hJD hBL hLC (fun M1 o1 o2 o3 => ?_)
  have e1 : M1 1 = M 1 := o3 1 (by omega)
  have e2 : M1 2 = M 2 := o3 2 (by omega)
  have e118 : M1 118 = M 118 := o3 118 (by omega)
  refine t_pointsOf (by rw [e1]; exact hS.1) s8 ht (t_pointsOf (by rw [e1]; exact hS.1) s8 hu ?_)
  rw [e2, p3, p3']
  refine c_alike o1 p1 p1' ?_
  refine eX8_score (bX8_score_0 (t_isJudge_y (n := nJ) (by rw [e118]; exact hJ.2.1) (by omega) hj (ite_fi (by decide) (t_isSuit_y (n := nS) (by rw [e118]; exact hS.2.1) s8 ht (ite_fi (by decide) (t_isSuit_y (n := nS) (by rw [e118]; exact hS.2.1) s8 hu (ite_fi (by decide) ?_)))))))
  refine c_mlooks (a := a) (by rw [e118]; exact hLC.1) (by rw [e118]; exact hJD.m) (fun M2 q1 q2 => ?_)
  have e118' : M2 118 = M 118 := (q2.1 118 (by omega) (by omega) (by omega) (by omega) (by omega)).trans e118
  rw [show (10 : Int32) = nI 10 from rfl, nI_add, nI_add, nI_clamp (by omega), nI_clamp (by omega), e118', p4, p4']
  refine ⟨vp_in_nI (by omega) (by omega), vp_in_nI (by omega) (by omega), c_mscore q1 p1 p1' (k _ M2 (hR.keep ?_))⟩
  have f : ∀ b, b ≠ 117 → (b < 21 ∨ 125 < b ∨ b = 115 ∨ b = 116 ∨ b = 118 ∨ b = 119) → M2 b = M b := fun b h1 h2 => (q2.1 b (by omega) (by omega) (by omega) (by omega) (by omega)).trans (o3 b (by omega))
  have g : ∀ i, i ≠ 11 → i ≠ 12 → i ≠ 15 → M2 117 i = M 117 i := fun i h1 h2 h3 => by rw [q2.2 i h1 h2 h3, o3 117 (by omega)]
  exact ⟨fun b hb => f b (by omega) (by omega), f 115 (by omega) (by omega), f 116 (by omega) (by omega), f 118 (by omega) (by omega), f 119 (by omega) (by omega), g 3 (by omega) (by omega) (by omega), g 27 (by omega) (by omega) (by omega), f 129 (by omega) (by omega)⟩
theorem call_decides (hR : Rel M) (x y z : Int32) (k : ∀ r M', Rel M' → P r r M') : CI G (d + 50) mX7_decides [.ref 0, .int x, .int y, .int z] M (fun r1 M1 => CI G (d + 50) mX8_decides [.ref 117, .int x, .int y, .int z] M1 (P r1)) := by
  obtain ⟨nS, nJ, nE, nQ, nT, nD, nC, nL, hS, hJ, hE, hQ, hT, hB, hD, hL⟩ := id hR.1
  have s8 := hS.2.2.1
  have j4 := hJ.2.2.1
  refine eX7_decides (bX7_decides_0 ?_)
  rcases jix x (n := nJ) (by omega) with hx | ⟨j, hj, rfl⟩
  · exact t_hasJudge_n hJ.1 j4 hx (ite_ti rfl (eX8_decides (bX8_decides_0 (t_isJudge_n hJ.2.1 (by omega) hx (ite_ti rfl (k _ M hR))))))
  refine t_hasJudge_y hJ.1 j4 hj (ite_fi (by decide) ?_)
  rcases jix y (n := nS) (by omega) with hy | ⟨t, ht, rfl⟩
  · exact t_hasSuit_n hS.1 s8 hy (ite_ti rfl (eX8_decides (bX8_decides_0 (t_isJudge_y hJ.2.1 (by omega) hj (ite_fi (by decide) (t_isSuit_n hS.2.1 s8 hy (ite_ti rfl (k _ M hR))))))))
  refine t_hasSuit_y hS.1 s8 ht (ite_fi (by decide) ?_)
  rcases jix z (n := 3) (by omega) with hz | ⟨q, hq, rfl⟩
  · have fin : CI G (d + 50) mX8_decides [.ref 117, .int (nI j), .int (nI t), .int z] M (P (-1)) :=
      eX8_decides (bX8_decides_0 (t_isJudge_y hJ.2.1 (by omega) hj (ite_fi (by decide) (t_isSuit_y hS.2.1 s8 ht (ite_fi (by decide) (t_inN_n (n := 2) hz (by omega) (ite_ti rfl (k _ M hR))))))))
    exact jno_ii (n := 2) hz (by omega) fin
  refine ite_fi (nI_pos (by omega)) (ite_ti (by rw [show (2 : Int32) = nI 2 from rfl, nI_leI (by omega) (by omega)]; omega) ?_)
  obtain ⟨kd, v, dy, row, hJD⟩ := JD_of hJ hD hj
  obtain ⟨L, hBL⟩ := BL_of hS hE
  obtain ⟨a, hLC⟩ := LC_of hL
  obtain ⟨p, w, p1, -, p3, p4, -⟩ := hS.2.2.2 t ht
  have p3 : M 2 t = nI p := p3
  refine c_openFor hJD hBL hLC (fun M1 o1 o2 o3 => ?_)
  have e1 : M1 1 = M 1 := o3 1 (by omega)
  have e2 : M1 2 = M 2 := o3 2 (by omega)
  refine t_pointsOf (by rw [e1]; exact hS.1) s8 ht ?_
  rw [e2, p3]
  refine c_begin (t := 33) (by unfold jT; omega) (fun M2 b1 b2 => ?_)
  have hS2 : SE M2 (venv kd v dy row a) := o1.congr (fun k hk => by rw [b2 27 (by omega)]) (fun b h1 h2 => b2 b (by omega))
  have hL2 : SLi M2 L := o2.congr (by rw [b2 27 (by omega)]) (b2 31 (by omega)) (b2 32 (by omega))
  rw [hL2.1]
  refine c_follow (t := 33) (own := p) (seen := 0) (u := L.length) (by unfold jT; omega) p1 (by omega) (Nat.le_refl _) hS2 hL2 b1 (fun M3 f1 f2 => ?_)
  have hS3 : SE M3 (venv kd v dy row a) := hS2.congr (fun k hk => by rw [f2 27 (by omega)]) (fun b h1 h2 => f2 b (by omega))
  have hL3 : SLi M3 L := hL2.congr (by rw [f2 27 (by omega)]) (f2 31 (by omega)) (f2 32 (by omega))
  have hok := tlN_ok (V := venv kd v dy row a) (own := p) (L := L) L.length
  have h85 := hL3.2.1
  have fr : ∀ b, b < 21 ∨ 33 < b → M3 b = M b := fun b hb => (f2 b (by omega)).trans ((b2 b (by omega)).trans (o3 b (by omega)))
  have e118 : M3 118 = M 118 := fr 118 (by omega)
  -- the model
  have model : ∀ r, ((q = 0 ∧ r = jz (vD (venv kd v dy row a) p L)) ∨ (q = 1 ∧ r = vwho (venv kd v dy row a) (tlN (venv kd v dy row a) p L L.length)) ∨ (q = 2 ∧ r = nI ((tlN (venv kd v dy row a) p L L.length).2.2.2.2.1 + (tlN (venv kd v dy row a) p L L.length).2.2.2.2.2))) →
      CI G (d + 50) mX8_decides [.ref 117, .int (nI j), .int (nI t), .int (nI q)] M3 (P r) := by
    intro r hr
    refine eX8_decides (bX8_decides_0 (t_isJudge_y (n := nJ) (by rw [e118]; exact hJ.2.1) (by omega) hj (ite_fi (by decide) (t_isSuit_y (n := nS) (by rw [e118]; exact hS.2.1) s8 ht (ite_fi (by decide) (t_inN_y (n := 2) (by omega) (by omega) (ite_fi (by decide) ?_)))))))
    refine c_mopen (a := a) (L := L) (n := nE) (by rw [e118]; exact hLC.1) (by rw [e118]; exact hJD.m) (by rw [e118]; exact hBL.m) (fun M4 q1 q2 q3 q4 => ?_)
    have e118' : M4 118 = M 118 := (q3 118 (by omega) (by omega)).trans e118
    rw [show (10 : Int32) = nI 10 from rfl, nI_add, nI_clamp (by omega), e118', p4]
    refine ⟨vp_in_nI (by omega) (by omega), c_isForIt q1 q2 p1 (fun M5 s1 s2 s3 => ?_)⟩
    have fin : ∀ r', r' = r → P r r' M5 := by
      rintro r' rfl
      refine k r' M5 (hR.keep ?_)
      have f : ∀ b, b ≠ 117 → (b < 21 ∨ 125 < b ∨ b = 115 ∨ b = 116 ∨ b = 118 ∨ b = 119) → M5 b = M b := fun b h1 h2 => (s3.1 b h1).trans ((q3 b h1 (by omega)).trans (fr b (by omega)))
      have g : ∀ i, i ≠ 11 → i ≠ 12 → i ≠ 15 → i ≠ 18 → i ≠ 19 → i ≠ 20 → M5 117 i = M 117 i := fun i h1 h2 h3 h4 h5 h6 => by rw [s3.2 i h5 h6, q4 i h1 h2 h3 h4, fr 117 (by omega)]
      exact ⟨fun b hb => f b (by omega) (by omega), f 115 (by omega) (by omega), f 116 (by omega) (by omega), f 118 (by omega) (by omega), f 119 (by omega) (by omega), g 3 (by omega) (by omega) (by omega) (by omega) (by omega) (by omega), g 27 (by omega) (by omega) (by omega) (by omega) (by omega) (by omega), f 129 (by omega) (by omega)⟩
    rcases hr with ⟨rfl, hr⟩ | ⟨rfl, hr⟩ | ⟨rfl, hr⟩
    · refine ite_ti rfl ?_
      rw [hr] at fin
      cases hb : vD (venv kd v dy row a) p L with
      | true => rw [hb] at fin hr; rw [hr]; exact ite_fi (by decide) (fin 1 rfl)
      | false => rw [hb] at fin hr; rw [hr]; exact ite_ti rfl (fin 0 rfl)
    · refine ite_fi (by decide) (ite_ti rfl (fin _ ?_))
      rw [s2, vw_eq, hr]
    · exact ite_fi (by decide) (ite_fi (by decide) (fin _ (by rw [s1, hr])))
  obtain rfl | rfl | rfl : q = 0 ∨ q = 1 ∨ q = 2 := by omega
  · refine ite_ti rfl (c_isFor (t := 33) (k := L.length) (by unfold jT; omega) p1 (Nat.le_refl _) hS3 hL3 f1 ?_)
    have m := model (jz (vD (venv kd v dy row a) p L)) (Or.inl ⟨rfl, rfl⟩)
    unfold vD at m
    generalize vdec (venv kd v dy row a) p L (tlN (venv kd v dy row a) p L L.length) = b at m
    cases b with
    | true => exact ite_fi (by decide) m
    | false => exact ite_ti rfl m
  · refine ite_fi (by decide) (ite_ti rfl (c_decidedBy (t := 33) (by unfold jT; omega) hS3 f1 (by have := hok.2.2.2.2.2.2.1; omega) (model _ (Or.inr (Or.inl ⟨rfl, rfl⟩)))))
  · exact ite_fi (by decide) (ite_fi (by decide) (c_likes (t := 33) (by unfold jT; omega) f1 (model _ (Or.inr (Or.inr ⟨rfl, rfl⟩)))))
end C3
