section C4
variable {G : jGT} {d : Nat} {M : jM} {P : Int32 → Int32 → jM → Prop}
theorem call_hear (hR : Rel M) (x y : Int32) (k : ∀ r M', Rel M' → P r r M') : CI G (d + 50) mX7_hear [.ref 0, .int x, .int y] M (fun r1 M1 => CI G (d + 50) mX8_hear [.ref 117, .int x, .int y] M1 (P r1)) := by
  obtain ⟨nS, nJ, nE, nQ, nT, nD, nC, nL, hS, hJ, hE, hQ, hT, hB, hD, hL⟩ := id hR.1
  have s8 := hS.2.2.1
  have j4 := hJ.2.2.1
  have s2 : M 118 0 = nI nS := hS.2.1
  have t1 : M 1 8 = nI nE := hE.1
  have t2 : M 118 3 = nI nE := hE.2.1
  have t3 := hE.2.2.1
  refine eX7_hear (bX7_hear_0 ?_)
  rcases jix x (n := nJ) (by omega) with hx | ⟨j, hj, rfl⟩
  · exact t_hasJudge_n hJ.1 j4 hx (ite_ti rfl (eX8_hear (bX8_hear_0 (t_isJudge_n hJ.2.1 (by omega) hx (ite_ti rfl (k _ M hR))))))
  refine t_hasJudge_y hJ.1 j4 hj (ite_fi (by decide) ?_)
  rcases jix y (n := nS) (by omega) with hy | ⟨t, ht, rfl⟩
  · exact t_hasSuit_n hS.1 s8 hy (ite_ti rfl (eX8_hear (bX8_hear_0 (t_isJudge_y hJ.2.1 (by omega) hj (ite_fi (by decide) (t_isSuit_n hS.2.1 s8 hy (ite_ti rfl (k _ M hR))))))))
  refine t_hasSuit_y hS.1 s8 ht (ite_fi (by decide) ?_)
  rw [t1]
  by_cases h24 : nE < 24
  · refine ite_ti (by rw [show (24 : Int32) = nI 24 from rfl, nI_ltI (by omega) (by omega)]; exact h24) ?_
    obtain ⟨kd, v, dy, row, hJD⟩ := JD_of hJ hD hj
    obtain ⟨L, hBL⟩ := BL_of hS hE
    obtain ⟨a, hLC⟩ := LC_of hL
    obtain ⟨p, w, p1, -, p3, p4, -⟩ := hS.2.2.2 t ht
    have p3 : M 2 t = nI p := p3
    refine c_openFor hJD hBL hLC (fun M1 o1 o2 o3 => ?_)
    refine t_pointsOf (by rw [o3 1 (by omega)]; exact hS.1) s8 ht ?_
    rw [o3 2 (by omega), p3]
    refine c_wins p1 o1 o2 (fun M2 w1 w2 => ?_)
    have fr : ∀ b, b < 21 ∨ 34 < b → M2 b = M b := fun b hb => (w2 b (by omega)).trans (o3 b (by omega))
    have hR2 : Rel M2 := hR.keep ⟨fun b hb => fr b (by omega), fr 115 (by omega), fr 116 (by omega), fr 118 (by omega), fr 119 (by omega), by rw [fr 117 (by omega)], by rw [fr 117 (by omega)], fr 129 (by omega)⟩
    generalize hb : vD (venv kd v dy row a) p L = b
    have hf : b.toNat < 2 := by cases b <;> decide
    rw [← nI_toNat]
    refine t_write (nE := nE) (by rw [fr 1 (by omega)]; exact t1) h24 (by omega) hf ?_
    have model : CI G (d + 50) mX8_hear [.ref 117, .int (nI j), .int (nI t)] (jup (jup M2 7 nE (nI (2 * t + b.toNat))) 1 8 (nI (nE + 1))) (P (nI b.toNat)) := by
      refine eX8_hear (bX8_hear_0 ?_)
      have e118 : (jup (jup M2 7 nE (nI (2 * t + b.toNat))) 1 8 (nI (nE + 1))) 118 = M 118 := by (simp (disch := omega) only [jup_ne]); exact fr 118 (by omega)
      refine t_isJudge_y (n := nJ) (by rw [e118]; exact hJ.2.1) (by omega) hj (ite_fi (by decide) (t_isSuit_y (n := nS) (by rw [e118]; exact hS.2.1) s8 ht (ite_fi (by decide) (ite_fi (by rw [e118, t2, show (24 : Int32) = nI 24 from rfl, nI_eq (by omega) (by omega)]; omega) ?_))))
      refine c_mopen (a := a) (L := L) (n := nE) (by rw [e118]; exact hLC.1) (by rw [e118]; exact hJD.m) (by rw [e118]; exact hBL.m) (fun M4 q1 q2 q3 q4 => ?_)
      have e118' : M4 118 = M 118 := (q3 118 (by omega) (by omega)).trans e118
      rw [show (10 : Int32) = nI 10 from rfl, nI_add, nI_clamp (by omega), e118', p4]
      refine ⟨vp_in_nI (by omega) (by omega), c_isForIt q1 q2 p1 (fun M5 s1 s2 s3 => ?_)⟩
      rw [hb, ← nI_toNat]
      have e5 : M5 118 = M 118 := (s3.1 118 (by omega)).trans e118'
      refine t_enters (nE := nE) (by rw [e5]; exact t2) h24 hf ?_
      have hR5 : Rel (jup (jup (jup M5 118 (50 + nE) (nI t)) 118 (74 + nE) (nI b.toNat)) 118 3 (nI (nE + 1))) := by
        have F : Fr 2 M2 (jup (jup (jup (jup (jup M2 7 nE (nI (2 * t + b.toNat))) 1 8 (nI (nE + 1))) 118 (50 + nE) (nI t)) 118 (74 + nE) (nI b.toNat)) 118 3 (nI (nE + 1))) := (((((Fr.refl 2 M2).upA (by omega) rfl).up1 rfl).upS (owS_2 (by omega) (by omega))).upS (owS_2 (by omega) (by omega))).upS rfl
        have HN2 : Rel (jup (jup (jup (jup (jup M2 7 nE (nI (2 * t + b.toNat))) 1 8 (nI (nE + 1))) 118 (50 + nE) (nI t)) 118 (74 + nE) (nI b.toNat)) 118 3 (nI (nE + 1))) := by
          have c1 : ∀ i, i ≤ 10 → M2 i = M i := fun i hi => fr i (by omega)
          have E1 : M2 1 = M 1 := c1 1 (by omega)
          have E2 : (fun i => M2 (2 + i)) 0 = (fun i => M (2 + i)) 0 := c1 2 (by omega)
          have E118 : M2 118 = M 118 := fr 118 (by omega)
          have hS' : RS nS (M2 1) (fun i => M2 (2 + i)) (M2 118) := hS.congr (by rw [E1]) (by rw [E118]) (fun k hk => ⟨congrFun (c1 2 (by omega)) k, congrFun (c1 3 (by omega)) k, by rw [E118], by rw [E118]⟩)
          have hJ' : RJu nJ (M2 1) (fun i => M2 (2 + i)) (M2 118) := hJ.congr (by rw [E1]) (by rw [E118]) (fun k hk => ⟨congrFun (c1 4 (by omega)) k, congrFun (c1 5 (by omega)) k, by rw [E118], by rw [E118]⟩) (fun k hk => ⟨congrFun (c1 6 (by omega)) k, by rw [E118]⟩)
          have hQ' : RQu nS nQ (M2 1) (fun i => M2 (2 + i)) (M2 118) := hQ.congr (by rw [E1]) (by rw [E118]) (fun k hk => ⟨congrFun (c1 8 (by omega)) k, by rw [E118]⟩)
          have hT' : RTa nT (M2 1) (fun i => M2 (2 + i)) (M2 118) := hT.congr (by rw [E1]) (by rw [E118]) (fun k hk => ⟨congrFun (c1 9 (by omega)) k, by rw [E118]⟩)
          have hB' : RBy (fun i => M2 (2 + i)) := hB.congr fun k hk => ⟨congrFun (c1 9 (by omega)) k, congrFun (c1 10 (by omega)) k⟩
          have hD' : RDa nD (M2 1) (M2 118) := hD.congr (by rw [E1]) (by rw [E118])
          have hL' : RLa nC nL (M2 1) (fun i => M2 (2 + i)) (M2 118) := hL.congr (by rw [E1]) (by rw [E118]) (by rw [E1]) (by rw [E118]) (fun k hk => congrFun (c1 10 (by omega)) k) (fun k _ _ => by rw [E118])
          refine hR2.hn ⟨nS, nJ, nE + 1, nQ, nT, nD, nC, nL, hS'.fr F (by decide), hJ'.fr F (by decide), ⟨by (simp (disch := omega) only [jup_ss, jup_sn, jup_n, jup_ne]), by (simp (disch := omega) only [jup_ss, jup_sn, jup_n, jup_ne]), by omega, ?_⟩, hQ'.fr F (by decide), hT'.fr F (by decide), hB'.fr F (by decide), hD'.fr F (by decide), hL'.fr F (by decide)⟩ (fun a ha => by (simp (disch := omega) only [jup_ne]))
          intro l hl
          by_cases e : l = nE
          · subst e
            exact ⟨t, b.toNat, ht, hf, by (simp (disch := omega) only [jup_ss, jup_sn, jup_n, jup_ne]), by (simp (disch := omega) only [jup_ss, jup_sn, jup_n, jup_ne]), by (simp (disch := omega) only [jup_ss, jup_sn, jup_n, jup_ne])⟩
          · obtain ⟨a, b, h0, h1, h2, h3, h4⟩ := hE.2.2.2 l (by omega)
            have h2 : M 7 l = nI (2 * a + b) := h2
            exact ⟨a, b, h0, h1, by (simp (disch := omega) only [jup_ss, jup_sn, jup_n, jup_ne]); rw [c1 7 (by omega)]; exact h2, by (simp (disch := omega) only [jup_ss, jup_sn, jup_n, jup_ne]); rw [E118]; exact h3, by (simp (disch := omega) only [jup_ss, jup_sn, jup_n, jup_ne]); rw [E118]; exact h4⟩
        refine HN2.keep ?_
        have f : ∀ c, c ≠ 117 → c ≠ 118 → (c < 120 ∨ 125 < c) → M5 c = (jup (jup M2 7 nE (nI (2 * t + b.toNat))) 1 8 (nI (nE + 1))) c := fun c h1 h3 h2 => (s3.1 c h1).trans (q3 c h1 (by omega))
        have g : ∀ i, i ≠ 11 → i ≠ 12 → i ≠ 15 → i ≠ 18 → i ≠ 19 → i ≠ 20 → M5 117 i = (jup (jup M2 7 nE (nI (2 * t + b.toNat))) 1 8 (nI (nE + 1))) 117 i := fun i h1 h2 h3 h4 h5 h6 => (s3.2 i h5 h6).trans (q4 i h1 h2 h3 h4)
        refine ⟨fun c hc => ?_, ?_, ?_, ?_, ?_, ?_, ?_, ?_⟩
        · simp (disch := omega) only [jup_ne (k := 118)]; exact f c (by omega) (by omega) (by omega)
        · simp (disch := omega) only [jup_ne (k := 118)]; exact f 115 (by omega) (by omega) (by omega)
        · simp (disch := omega) only [jup_ne (k := 118)]; exact f 116 (by omega) (by omega) (by omega)
        · funext z
          simp only [jup]
          rw [e5]
          simp [fr 118 (by omega)]
        · simp (disch := omega) only [jup_ne (k := 118)]; exact f 119 (by omega) (by omega) (by omega)
        · simp (disch := omega) only [jup_n (k := 118)]; exact g 3 (by omega) (by omega) (by omega) (by omega) (by omega) (by omega)
        · simp (disch := omega) only [jup_n (k := 118)]; exact g 27 (by omega) (by omega) (by omega) (by omega) (by omega) (by omega)
        · simp (disch := omega) only [jup_ne (k := 118)]; exact f 129 (by omega) (by omega) (by omega)
      have fin := k (nI b.toNat) _ hR5
      cases b with
      | true => exact ite_fi (by decide) fin
      | false => exact ite_ti rfl fin
    cases b with
    | true => exact ite_fi (by decide) model
    | false => exact ite_ti rfl model
  · have e : nE = 24 := by omega
    subst e
    exact ite_fi (by decide) (eX8_hear (bX8_hear_0 (t_isJudge_y hJ.2.1 (by omega) hj (ite_fi (by decide) (t_isSuit_y hS.2.1 s8 ht (ite_fi (by decide) (ite_ti t2 (k _ M hR))))))))
end C4
