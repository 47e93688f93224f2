section SC2
variable {G : jGT} {d : Nat} {M : jM} {P : Int32 → Int32 → jM → Prop}
theorem call_suit (hR : Rel M) (x y : Int32) (k : ∀ r M', Rel M' → P r r M') : CI G (d + 50) mX7_suit [.ref 0, .int x, .int y] M (fun r1 M1 => CI G (d + 50) mX8_suit [.ref 117, .int x, .int y] M1 (P r1)) := by
  obtain ⟨nS, nJ, nE, nQ, nT, nD, nC, nL, hS, hJ, hE, hQ, hT, hB, hD, hL⟩ := id hR.1
  refine eX7_suit (bX7_suit_0 ?_)
  have t1 : M 1 1 = nI nS := hS.1
  have t2 : M 118 0 = nI nS := hS.2.1
  have t3 := hS.2.2.1
  rcases jix x (n := 256) (by omega) with hx | ⟨i, hi, rfl⟩
  · refine jno_i (n := 256) hx ?_
    exact eX8_suit (bX8_suit_0 (t_inN_n (n := 255) hx (by omega) (ite_ti rfl (k _ _ hR))))
  · rcases jix y (n := 100) (by omega) with hy | ⟨j, hj, rfl⟩
    · simp (disch := omega) only [jlit, nI_ltE, nI_leE, nI_eqE, vp_inT, nI_add, pk_mul, nI_subE, nI_clamp, if_pos, if_neg, true_and, and_true]
      refine jno_ii (n := 99) hy (by omega) ?_
      exact eX8_suit (bX8_suit_0 (t_inN_y (n := 255) (by omega) (by omega) (ite_fi (by decide) (t_inN_n (n := 99) hy (by omega) (ite_ti rfl (k _ _ hR))))))
    · simp (disch := omega) only [t1, jlit, nI_ltE, nI_leE, nI_eqE, vp_inT, nI_add, pk_mul, nI_subE, nI_clamp, if_pos, if_neg, true_and, and_true]
      by_cases h : nS < 8
      · simp (disch := omega) only [jlit, nI_ltE, nI_leE, nI_eqE, vp_inT, nI_add, pk_mul, nI_subE, nI_clamp, if_pos, if_neg, true_and, and_true]
        refine eX8_suit (bX8_suit_0 (t_inN_y (n := 255) (by omega) (by omega) (ite_fi (by decide) (t_inN_y (n := 99) (by omega) (by omega) (ite_fi (by decide) ?_)))))
        have e5 : (jup (jup (jup M 2 nS (nI i)) 3 nS (nI j)) 1 1 (nI (nS + 1))) 118 0 = nI nS := by (simp (disch := omega) only [jup_ss, jup_sn, jup_n, jup_ne]); exact t2
        rw [e5]
        simp (disch := omega) only [jlit, nI_ltE, nI_leE, nI_eqE, vp_inT, nI_add, pk_mul, nI_subE, nI_clamp, if_pos, if_neg, true_and, and_true]
        have e6 : (jup (jup (jup (jup (jup M 2 nS (nI i)) 3 nS (nI j)) 1 1 (nI (nS + 1))) 118 (10 + nS) (nI i)) 118 (18 + nS) (nI j)) 118 0 = nI nS := by (simp (disch := omega) only [jup_ss, jup_sn, jup_n, jup_ne]); exact t2
        rw [e6]
        simp (disch := omega) only [jlit, nI_ltE, nI_leE, nI_eqE, vp_inT, nI_add, pk_mul, nI_subE, nI_clamp, if_pos, if_neg, true_and, and_true]
        have F : Fr 0 M (jup (jup (jup (jup (jup (jup M 2 nS (nI i)) 3 nS (nI j)) 1 1 (nI (nS + 1))) 118 (10 + nS) (nI i)) 118 (18 + nS) (nI j)) 118 0 (nI (nS + 1))) := ((((((Fr.refl 0 M).upA (by omega) rfl).upA (by omega) rfl).up1 rfl).upS (owS_0 (by omega) (by omega))).upS (owS_0 (by omega) (by omega))).upS rfl
        rw [show nS + 1 - 1 = nS by omega]
        refine k _ _ (hR.hn ⟨nS + 1, nJ, nE, nQ, nT, nD, nC, nL, ⟨by (simp (disch := omega) only [jup_ss, jup_sn, jup_n, jup_ne]), by (simp (disch := omega) only [jup_ss, jup_sn, jup_n, jup_ne]), by omega, ?_⟩, hJ.fr F (by decide), ?_, ?_, hT.fr F (by decide), hB.fr F (by decide), hD.fr F (by decide), hL.fr F (by decide)⟩ (fun a ha => by (simp (disch := omega) only [jup_ne])))
        · intro l hl
          by_cases e : l = nS
          · subst e
            exact ⟨i, j, hi, hj, by (simp (disch := omega) only [jup_ss, jup_sn, jup_n, jup_ne]), by (simp (disch := omega) only [jup_ss, jup_sn, jup_n, jup_ne]), by (simp (disch := omega) only [jup_ss, jup_sn, jup_n, jup_ne]), by (simp (disch := omega) only [jup_ss, jup_sn, jup_n, jup_ne])⟩
          · obtain ⟨p, w, h0, h1, h2, h3, h4, h5⟩ := hS.2.2.2 l (by omega)
            exact ⟨p, w, h0, h1, by (simp (disch := omega) only [jup_ss, jup_sn, jup_n, jup_ne]); exact h2, by (simp (disch := omega) only [jup_ss, jup_sn, jup_n, jup_ne]); exact h3, by (simp (disch := omega) only [jup_ss, jup_sn, jup_n, jup_ne]); exact h4, by (simp (disch := omega) only [jup_ss, jup_sn, jup_n, jup_ne]); exact h5⟩
        · have h9 := hE.fr F (by decide)
          exact ⟨h9.1, h9.2.1, h9.2.2.1, fun l hl => by
            obtain ⟨t, f, a1, a2⟩ := h9.2.2.2 l hl
            exact ⟨t, f, by omega, a2⟩⟩
        · have h9 := hQ.fr F (by decide)
          exact ⟨h9.1, h9.2.1, h9.2.2.1, fun l hl => by
            obtain ⟨t, a1, a2⟩ := h9.2.2.2 l hl
            exact ⟨t, by omega, a2⟩⟩
      · have e : nS = 8 := by omega
        subst e
        simp (disch := omega) only [jlit, nI_ltE, nI_leE, nI_eqE, vp_inT, nI_add, pk_mul, nI_subE, nI_clamp, if_pos, if_neg, true_and, and_true]
        exact eX8_suit (bX8_suit_0 (t_inN_y (n := 255) (by omega) (by omega) (ite_fi (by decide) (t_inN_y (n := 99) (by omega) (by omega) (ite_fi (by decide) (ite_ti t2 (k _ _ hR)))))))
theorem call_of (hR : Rel M) (x y : Int32) (k : ∀ r M', Rel M' → P r r M') : CI G (d + 50) mX7_of [.ref 0, .int x, .int y] M (fun r1 M1 => CI G (d + 50) mX8_of [.ref 117, .int x, .int y] M1 (P r1)) := by
  obtain ⟨nS, nJ, nE, nQ, nT, nD, nC, nL, hS, hJ, hE, hQ, hT, hB, hD, hL⟩ := id hR.1
  refine eX7_of (bX7_of_0 ?_)
  have t1 : M 1 1 = nI nS := hS.1
  have t2 : M 118 0 = nI nS := hS.2.1
  have t3 := hS.2.2.1
  rcases jix x (n := nS) (by omega) with hx | ⟨i, hi, rfl⟩
  · exact t_hasSuit_n t1 t3 hx (ite_ti rfl (eX8_of (bX8_of_0 (t_isSuit_n t2 t3 hx (ite_ti rfl (k _ _ hR))))))
  · refine t_hasSuit_y t1 t3 hi (ite_fi (by decide) ?_)
    obtain ⟨p, w, h0, h1, h2, h3, h4, h5⟩ := hS.2.2.2 i hi
    rcases jix y (n := 2) (by omega) with hy | ⟨j, hj, rfl⟩
    · refine jno_ii (n := 1) hy (by omega) ?_
      exact eX8_of (bX8_of_0 (t_isSuit_y t2 t3 hi (ite_fi (by decide) (t_inN_n (n := 1) hy (by omega) (ite_ti rfl (k _ _ hR))))))
    · simp (disch := omega) only [jlit, nI_ltE, nI_leE, nI_eqE, vp_inT, nI_add, pk_mul, nI_subE, nI_clamp, if_pos, if_neg, true_and, and_true]
      by_cases hj0 : j = 0
      · subst hj0
        simp (disch := omega) only [jlit, nI_ltE, nI_leE, nI_eqE, vp_inT, nI_add, pk_mul, nI_subE, nI_clamp, if_pos, if_neg, true_and, and_true]
        refine t_pointsOf t1 t3 hi ?_
        refine eX8_of (bX8_of_0 (t_isSuit_y t2 t3 hi (ite_fi (by decide) (t_inN_y (n := 1) (by omega) (by omega) (ite_fi (by decide) ?_)))))
        simp (disch := omega) only [jlit, nI_ltE, nI_leE, nI_eqE, vp_inT, nI_add, pk_mul, nI_subE, nI_clamp, if_pos, if_neg, true_and, and_true]
        rw [show 10 + 8 * 0 + i = 10 + i by omega, h3, show M 2 i = nI p from h2]
        exact k _ _ hR
      · have : j = 1 := by omega
        subst this
        simp (disch := omega) only [jlit, nI_ltE, nI_leE, nI_eqE, vp_inT, nI_add, pk_mul, nI_subE, nI_clamp, if_pos, if_neg, true_and, and_true]
        refine t_worthOf t1 t3 hi ?_
        refine eX8_of (bX8_of_0 (t_isSuit_y t2 t3 hi (ite_fi (by decide) (t_inN_y (n := 1) (by omega) (by omega) (ite_fi (by decide) ?_)))))
        simp (disch := omega) only [jlit, nI_ltE, nI_leE, nI_eqE, vp_inT, nI_add, pk_mul, nI_subE, nI_clamp, if_pos, if_neg, true_and, and_true]
        rw [show 10 + 8 * 1 + i = 18 + i by omega, h5, show M 3 i = nI w from h4]
        exact k _ _ hR
theorem call_judge (hR : Rel M) (x y : Int32) (k : ∀ r M', Rel M' → P r r M') : CI G (d + 50) mX7_judge [.ref 0, .int x, .int y] M (fun r1 M1 => CI G (d + 50) mX8_judge [.ref 117, .int x, .int y] M1 (P r1)) := by
  obtain ⟨nS, nJ, nE, nQ, nT, nD, nC, nL, hS, hJ, hE, hQ, hT, hB, hD, hL⟩ := id hR.1
  refine eX7_judge (bX7_judge_0 ?_)
  have t1 : M 1 4 = nI nJ := hJ.1
  have t2 : M 118 1 = nI nJ := hJ.2.1
  have t3 := hJ.2.2.1
  rcases jix x (n := 7) (by omega) with hx | ⟨i, hi, rfl⟩
  · refine jno_iii (n := 7) hx ?_
    exact eX8_judge (bX8_judge_0 (t_inN_n (n := 6) hx (by omega) (ite_ti rfl (k _ _ hR))))
  · rcases jix y (n := 10) (by omega) with hy | ⟨j, hj, rfl⟩
    · simp (disch := omega) only [jlit, nI_ltE, nI_leE, nI_eqE, vp_inT, nI_add, pk_mul, nI_subE, nI_clamp, if_pos, if_neg, true_and, and_true]
      refine jno_ii (n := 9) hy (by omega) ?_
      exact eX8_judge (bX8_judge_0 (t_inN_y (n := 6) (by omega) (by omega) (ite_fi (by decide) (t_inN_n (n := 9) hy (by omega) (ite_ti rfl (k _ _ hR))))))
    · simp (disch := omega) only [t1, jlit, nI_ltE, nI_leE, nI_eqE, vp_inT, nI_add, pk_mul, nI_subE, nI_clamp, if_pos, if_neg, true_and, and_true]
      by_cases h : nJ < 4
      · simp (disch := omega) only [jlit, nI_ltE, nI_leE, nI_eqE, vp_inT, nI_add, pk_mul, nI_subE, nI_clamp, if_pos, if_neg, true_and, and_true]
        refine eX8_judge (bX8_judge_0 (t_inN_y (n := 6) (by omega) (by omega) (ite_fi (by decide) (t_inN_y (n := 9) (by omega) (by omega) (ite_fi (by decide) ?_)))))
        have e5 : (jup (jup (jup M 4 nJ (nI i)) 5 nJ (nI j)) 1 4 (nI (nJ + 1))) 118 1 = nI nJ := by (simp (disch := omega) only [jup_ss, jup_sn, jup_n, jup_ne]); exact t2
        rw [e5]
        simp (disch := omega) only [jlit, nI_ltE, nI_leE, nI_eqE, vp_inT, nI_add, pk_mul, nI_subE, nI_clamp, if_pos, if_neg, true_and, and_true]
        refine bX8_judge_68 (ite_fi (by decide) ?_)
        simp (disch := omega) only [jlit, nI_ltE, nI_leE, nI_eqE, vp_inT, nI_add, pk_mul, nI_subE, nI_clamp, if_pos, if_neg, true_and, and_true]
        refine bX8_judge_68 ?_
        simp (disch := omega) only [jlit, nI_ltE, nI_leE, nI_eqE, vp_inT, nI_add, pk_mul, nI_subE, nI_clamp, if_pos, if_neg, true_and, and_true]
        refine bX8_judge_68 ?_
        simp (disch := omega) only [jlit, nI_ltE, nI_leE, nI_eqE, vp_inT, nI_add, pk_mul, nI_subE, nI_clamp, if_pos, if_neg, true_and, and_true]
        refine bX8_judge_68 ?_
        simp (disch := omega) only [jlit, nI_ltE, nI_leE, nI_eqE, vp_inT, nI_add, pk_mul, nI_subE, nI_clamp, if_pos, if_neg, true_and, and_true]
        refine bX8_judge_68 ?_
        simp (disch := omega) only [jlit, nI_ltE, nI_leE, nI_eqE, vp_inT, nI_add, pk_mul, nI_subE, nI_clamp, if_pos, if_neg, true_and, and_true]
        generalize hM' : jup (jup (jup (jup (jup (jup (jup (jup (jup M 4 nJ (nI i)) 5 nJ (nI j)) 1 4 (nI (nJ + 1))) 118 (26 + nJ) (nI i)) 118 (30 + nJ) (nI j)) 118 (34 + 4 * nJ + 0) (nI 0)) 118 (34 + 4 * nJ + (0 + 1)) (nI 0)) 118 (34 + 4 * nJ + (0 + 1 + 1)) (nI 0)) 118 (34 + 4 * nJ + (0 + 1 + 1 + 1)) (nI 0) = M'
        have e6 : M' 118 1 = nI nJ := by rw [← hM']; (simp (disch := omega) only [jup_ss, jup_sn, jup_n, jup_ne]); exact t2
        rw [e6]
        simp (disch := omega) only [jlit, nI_ltE, nI_leE, nI_eqE, vp_inT, nI_add, pk_mul, nI_subE, nI_clamp, if_pos, if_neg, true_and, and_true]
        have F : Fr 1 M (jup M' 118 1 (nI (nJ + 1))) := by
          rw [← hM']
          exact ((((((((((Fr.refl 1 M).upA (by omega) rfl).upA (by omega) rfl).up1 rfl).upS (owS_1 (by omega) (by omega))).upS (owS_1 (by omega) (by omega))).upS (owS_1 (by omega) (by omega))).upS (owS_1 (by omega) (by omega))).upS (owS_1 (by omega) (by omega))).upS (owS_1 (by omega) (by omega))).upS rfl
        rw [show nJ + 1 - 1 = nJ by omega]
        refine k _ _ (hR.hn ⟨nS, nJ + 1, nE, nQ, nT, nD, nC, nL, hS.fr F (by decide), ⟨by (simp (disch := omega) only [jup_ss, jup_sn, jup_n, jup_ne]); rw [← hM']; (simp (disch := omega) only [jup_ss, jup_sn, jup_n, jup_ne]), by (simp (disch := omega) only [jup_ss, jup_sn, jup_n, jup_ne]), by omega, ?_, ?_⟩, hE.fr F (by decide), hQ.fr F (by decide), hT.fr F (by decide), hB.fr F (by decide), hD.fr F (by decide), hL.fr F (by decide)⟩ (fun a ha => by (simp (disch := omega) only [jup_ne]); rw [← hM']; (simp (disch := omega) only [jup_ne])))
        · intro l hl
          by_cases e : l = nJ
          · subst e
            exact ⟨i, j, hi, hj, by (simp (disch := omega) only [jup_ss, jup_sn, jup_n, jup_ne]); rw [← hM']; (simp (disch := omega) only [jup_ss, jup_sn, jup_n, jup_ne]), by (simp (disch := omega) only [jup_ss, jup_sn, jup_n, jup_ne]); rw [← hM']; (simp (disch := omega) only [jup_ss, jup_sn, jup_n, jup_ne]), by (simp (disch := omega) only [jup_ss, jup_sn, jup_n, jup_ne]); rw [← hM']; (simp (disch := omega) only [jup_ss, jup_sn, jup_n, jup_ne]), by (simp (disch := omega) only [jup_ss, jup_sn, jup_n, jup_ne]); rw [← hM']; (simp (disch := omega) only [jup_ss, jup_sn, jup_n, jup_ne])⟩
          · obtain ⟨p, w, h0, h1, h2, h3, h4, h5⟩ := hJ.2.2.2.1 l (by omega)
            exact ⟨p, w, h0, h1, by (simp (disch := omega) only [jup_ss, jup_sn, jup_n, jup_ne]); rw [← hM']; (simp (disch := omega) only [jup_ss, jup_sn, jup_n, jup_ne]); exact h2, by (simp (disch := omega) only [jup_ss, jup_sn, jup_n, jup_ne]); rw [← hM']; (simp (disch := omega) only [jup_ss, jup_sn, jup_n, jup_ne]); exact h3, by (simp (disch := omega) only [jup_ss, jup_sn, jup_n, jup_ne]); rw [← hM']; (simp (disch := omega) only [jup_ss, jup_sn, jup_n, jup_ne]); exact h4, by (simp (disch := omega) only [jup_ss, jup_sn, jup_n, jup_ne]); rw [← hM']; (simp (disch := omega) only [jup_ss, jup_sn, jup_n, jup_ne]); exact h5⟩
        · intro l hl
          obtain ⟨m, h0, h1, h2, h3⟩ := hJ.2.2.2.2 l hl
          refine ⟨m, h0, by (simp (disch := omega) only [jup_ss, jup_sn, jup_n, jup_ne]); rw [← hM']; (simp (disch := omega) only [jup_ss, jup_sn, jup_n, jup_ne]); exact h1, fun h4 => ?_, fun h4 => h3 (by omega)⟩
          (simp (disch := omega) only [jup_ss, jup_sn, jup_n, jup_ne])
          rw [← hM']
          by_cases e : l < 4 * nJ
          · (simp (disch := omega) only [jup_ss, jup_sn, jup_n, jup_ne])
            exact h2 e
          · have hm : m = 0 := h3 (by omega)
            subst hm
            rcases (show l = 4 * nJ ∨ l = 4 * nJ + 1 ∨ l = 4 * nJ + 2 ∨ l = 4 * nJ + 3 by omega) with e | e | e | e
            · subst e; rw [show 34 + 4 * nJ = 34 + 4 * nJ + 0 by omega]; (simp (disch := omega) only [jup_ss, jup_sn, jup_n, jup_ne])
            · subst e; rw [show 34 + (4 * nJ + 1) = 34 + 4 * nJ + (0 + 1) by omega]; (simp (disch := omega) only [jup_ss, jup_sn, jup_n, jup_ne])
            · subst e; rw [show 34 + (4 * nJ + 2) = 34 + 4 * nJ + (0 + 1 + 1) by omega]; (simp (disch := omega) only [jup_ss, jup_sn, jup_n, jup_ne])
            · subst e; rw [show 34 + (4 * nJ + 3) = 34 + 4 * nJ + (0 + 1 + 1 + 1) by omega]; (simp (disch := omega) only [jup_ss, jup_sn, jup_n, jup_ne])
      · have e : nJ = 4 := by omega
        subst e
        simp (disch := omega) only [jlit, nI_ltE, nI_leE, nI_eqE, vp_inT, nI_add, pk_mul, nI_subE, nI_clamp, if_pos, if_neg, true_and, and_true]
        exact eX8_judge (bX8_judge_0 (t_inN_y (n := 6) (by omega) (by omega) (ite_fi (by decide) (t_inN_y (n := 9) (by omega) (by omega) (ite_fi (by decide) (ite_ti t2 (k _ _ hR)))))))
theorem call_row (hR : Rel M) (x y z : Int32) (k : ∀ r M', Rel M' → P r r M') : CI G (d + 50) mX7_row [.ref 0, .int x, .int y, .int z] M (fun r1 M1 => CI G (d + 50) mX8_row [.ref 117, .int x, .int y, .int z] M1 (P r1)) := by
  obtain ⟨nS, nJ, nE, nQ, nT, nD, nC, nL, hS, hJ, hE, hQ, hT, hB, hD, hL⟩ := id hR.1
  refine eX7_row (bX7_row_0 ?_)
  have t1 : M 1 4 = nI nJ := hJ.1
  have t2 : M 118 1 = nI nJ := hJ.2.1
  have t3 := hJ.2.2.1
  rcases jix x (n := nJ) (by omega) with hx | ⟨i, hi, rfl⟩
  · exact t_hasJudge_n t1 t3 hx (ite_ti rfl (eX8_row (bX8_row_0 (t_isJudge_n t2 (by omega) hx (ite_ti rfl (k _ _ hR))))))
  · refine t_hasJudge_y t1 t3 hi (ite_fi (by decide) ?_)
    rcases jix y (n := 4) (by omega) with hy | ⟨j, hj, rfl⟩
    · refine jno_iii (n := 4) hy ?_
      exact eX8_row (bX8_row_0 (t_isJudge_y t2 (by omega) hi (ite_fi (by decide) (t_inN_n (n := 3) hy (by omega) (ite_ti rfl (k _ _ hR))))))
    · rcases jix z (n := 3) (by omega) with hz | ⟨l, hl, rfl⟩
      · simp (disch := omega) only [jlit, nI_ltE, nI_leE, nI_eqE, vp_inT, nI_add, pk_mul, nI_subE, nI_clamp, if_pos, if_neg, true_and, and_true]
        refine jno_ii (n := 2) hz (by omega) ?_
        exact eX8_row (bX8_row_0 (t_isJudge_y t2 (by omega) hi (ite_fi (by decide) (t_inN_y (n := 3) (by omega) (by omega) (ite_fi (by decide) (t_inN_n (n := 2) hz (by omega) (ite_ti rfl (k _ _ hR))))))))
      · simp (disch := omega) only [jlit, nI_ltE, nI_leE, nI_eqE, vp_inT, nI_add, pk_mul, nI_subE, nI_clamp, if_pos, if_neg, true_and, and_true]
        refine t_kindOf t1 t3 hi ?_
        obtain ⟨kd, v, h0, h1, h2, h3, h4, h5⟩ := hJ.2.2.2.1 i hi
        rw [show M 4 i = nI kd from h2]
        by_cases hkd : kd = 6
        · subst hkd
          simp (disch := omega) only [jlit, nI_ltE, nI_leE, nI_eqE, vp_inT, nI_add, pk_mul, nI_subE, nI_clamp, if_pos, if_neg, true_and, and_true]
          obtain ⟨m, g0, g1, g2, g3⟩ := hJ.2.2.2.2 (i * 4 + j) (by omega)
          have g2 := g2 (by omega)
          refine eX8_row (bX8_row_0 (t_isJudge_y (by (simp (disch := omega) only [jup_ss, jup_sn, jup_n, jup_ne]); exact t2) (by omega) hi (ite_fi (by decide) (t_inN_y (n := 3) (by omega) (by omega) (ite_fi (by decide) (t_inN_y (n := 2) (by omega) (by omega) (ite_fi (by decide) ?_)))))))
          simp (disch := omega) only [jlit, nI_ltE, nI_leE, nI_eqE, vp_inT, nI_add, pk_mul, nI_subE, nI_clamp, if_pos, if_neg, true_and, and_true]
          have e5 : (jup M 6 (i * 4 + j) (nI l)) 118 (26 + i) = nI 6 := by (simp (disch := omega) only [jup_ss, jup_sn, jup_n, jup_ne]); exact h3
          rw [e5]
          simp (disch := omega) only [jlit, nI_ltE, nI_leE, nI_eqE, vp_inT, nI_add, pk_mul, nI_subE, nI_clamp, if_pos, if_neg, true_and, and_true]
          have e6 : (jup M 6 (i * 4 + j) (nI l)) 118 (34 + 4 * i + j) = nI m := by (simp (disch := omega) only [jup_ss, jup_sn, jup_n, jup_ne]); rw [← g2]; congr 1; omega
          rw [e6, show M 6 (i * 4 + j) = nI m from g1]
          have F : Fr 1 M (jup (jup M 6 (i * 4 + j) (nI l)) 118 (34 + 4 * i + j) (nI l)) := ((Fr.refl 1 M).upA (by omega) rfl).upS (owS_1 (by omega) (by omega))
          refine k _ _ (hR.hn ⟨nS, nJ, nE, nQ, nT, nD, nC, nL, hS.fr F (by decide), ⟨by (simp (disch := omega) only [jup_ss, jup_sn, jup_n, jup_ne]); exact t1, by (simp (disch := omega) only [jup_ss, jup_sn, jup_n, jup_ne]); exact t2, t3, ?_, ?_⟩, hE.fr F (by decide), hQ.fr F (by decide), hT.fr F (by decide), hB.fr F (by decide), hD.fr F (by decide), hL.fr F (by decide)⟩ (fun a ha => by (simp (disch := omega) only [jup_ne])))
          · intro q hq
            obtain ⟨a0, a1, b0, b1, b2, b3, b4, b5⟩ := hJ.2.2.2.1 q hq
            exact ⟨a0, a1, b0, b1, by (simp (disch := omega) only [jup_ss, jup_sn, jup_n, jup_ne]); exact b2, by (simp (disch := omega) only [jup_ss, jup_sn, jup_n, jup_ne]); exact b3, by (simp (disch := omega) only [jup_ss, jup_sn, jup_n, jup_ne]); exact b4, by (simp (disch := omega) only [jup_ss, jup_sn, jup_n, jup_ne]); exact b5⟩
          · intro q hq
            by_cases e : q = i * 4 + j
            · subst e
              exact ⟨l, by omega, by (simp (disch := omega) only [jup_ss, jup_sn, jup_n, jup_ne]), fun _ => by rw [show 34 + (i * 4 + j) = 34 + 4 * i + j by omega]; (simp (disch := omega) only [jup_ss, jup_sn, jup_n, jup_ne]), fun h => by omega⟩
            · obtain ⟨m', b0, b1, b2, b3⟩ := hJ.2.2.2.2 q hq
              exact ⟨m', b0, by (simp (disch := omega) only [jup_ss, jup_sn, jup_n, jup_ne]); exact b1, fun h => by (simp (disch := omega) only [jup_ss, jup_sn, jup_n, jup_ne]); exact b2 h, b3⟩
        · simp (disch := omega) only [jlit, nI_ltE, nI_leE, nI_eqE, vp_inT, nI_add, pk_mul, nI_subE, nI_clamp, if_pos, if_neg, true_and, and_true]
          refine eX8_row (bX8_row_0 (t_isJudge_y t2 (by omega) hi (ite_fi (by decide) (t_inN_y (n := 3) (by omega) (by omega) (ite_fi (by decide) (t_inN_y (n := 2) (by omega) (by omega) (ite_fi (by decide) ?_)))))))
          simp (disch := omega) only [h3, jlit, nI_ltE, nI_leE, nI_eqE, vp_inT, nI_add, pk_mul, nI_subE, nI_clamp, if_pos, if_neg, true_and, and_true]
          exact k _ _ hR
end SC2
