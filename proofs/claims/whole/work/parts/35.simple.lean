section SC
variable {G : jGT} {d : Nat} {M : jM} {P : Int32 → Int32 → jM → Prop}
theorem call_feed (hR : Rel M) (x : Int32) (k : ∀ r M', Rel M' → P r r M') : CI G (d + 50) mX7_feed [.ref 0, .int x] M (fun r1 M1 => CI G (d + 50) mX8_feed [.ref 117, .int x] M1 (P r1)) := by
  obtain ⟨nS, nJ, nE, nQ, nT, nD, nC, nL, hS, hJ, hE, hQ, hT, hB, hD, hL⟩ := id hR.1
  refine eX7_feed (bX7_feed_0 ?_)
  have t1 : M 1 12 = nI nT := hT.1
  have t2 : M 118 5 = nI nT := hT.2.1
  have t3 := hT.2.2.1
  rcases jix x (n := 128) (by omega) with hx | ⟨j, hj, rfl⟩
  · refine jno_ii (n := 127) hx (by omega) ?_
    exact eX8_feed (bX8_feed_0 (t_inN_n (n := 127) hx (by omega) (ite_ti rfl (k _ _ hR))))
  · simp (disch := omega) only [t1, jlit, nI_ltE, nI_leE, nI_eqE, vp_inT, nI_add, nI_subE, nI_clamp, if_pos, if_neg, true_and, and_true]
    by_cases h : nT < 100
    · simp (disch := omega) only [t1, byte_nar hj, jlit, nI_ltE, nI_leE, nI_eqE, vp_inT, nI_add, nI_subE, nI_clamp, if_pos, if_neg, true_and, and_true]
      refine eX8_feed (bX8_feed_0 (t_inN_y (n := 127) (by omega) (by omega) (ite_fi (by decide) ?_)))
      have e5 : (jup (jup M 9 nT (nI j)) 1 12 (nI (nT + 1))) 118 = M 118 := by (simp (disch := omega) only [jup_ss, jup_sn, jup_n, jup_ne])
      rw [e5, t2]
      simp (disch := omega) only [jlit, nI_ltE, nI_leE, nI_eqE, vp_inT, nI_add, nI_subE, nI_clamp, if_pos, if_neg, true_and, and_true]
      have e6 : (jup (jup (jup M 9 nT (nI j)) 1 12 (nI (nT + 1))) 118 (106 + nT) (nI j)) 118 5 = nI nT := by (simp (disch := omega) only [jup_ss, jup_sn, jup_n, jup_ne]); exact t2
      rw [e6]
      simp (disch := omega) only [jlit, nI_ltE, nI_leE, nI_eqE, vp_inT, nI_add, nI_subE, nI_clamp, if_pos, if_neg, true_and, and_true]
      have F : Fr 4 M (jup (jup (jup (jup M 9 nT (nI j)) 1 12 (nI (nT + 1))) 118 (106 + nT) (nI j)) 118 5 (nI (nT + 1))) := ((((Fr.refl 4 M).upA (by omega) rfl).up1 rfl).upS (owS_4 (by omega) (by omega))).upS rfl
      refine k _ _ (hR.hn ⟨nS, nJ, nE, nQ, nT + 1, nD, nC, nL, hS.fr F (by decide), hJ.fr F (by decide), hE.fr F (by decide), hQ.fr F (by decide), ⟨by (simp (disch := omega) only [jup_ss, jup_sn, jup_n, jup_ne]), by (simp (disch := omega) only [jup_ss, jup_sn, jup_n, jup_ne]), by omega, ?_⟩, ?_, hD.fr F (by decide), hL.fr F (by decide)⟩ (fun a ha => by (simp (disch := omega) only [jup_ne])))
      · intro i hi
        by_cases e : i = nT
        · subst e
          exact ⟨j, hj, by (simp (disch := omega) only [jup_ss, jup_sn, jup_n, jup_ne]), by (simp (disch := omega) only [jup_ss, jup_sn, jup_n, jup_ne])⟩
        · obtain ⟨b, h1, h2, h3⟩ := hT.2.2.2 i (by omega)
          exact ⟨b, h1, by (simp (disch := omega) only [jup_ss, jup_sn, jup_n, jup_ne]); exact h2, by (simp (disch := omega) only [jup_ss, jup_sn, jup_n, jup_ne]); exact h3⟩
      · intro i hi
        have h0 := hB i hi
        refine ⟨?_, ?_⟩
        · by_cases e : i = nT
          · subst e
            (simp (disch := omega) only [jup_ss, jup_sn, jup_n, jup_ne])
            exact jbyte_nI j hj
          · (simp (disch := omega) only [jup_ss, jup_sn, jup_n, jup_ne])
            exact h0.1
        · (simp (disch := omega) only [jup_ss, jup_sn, jup_n, jup_ne])
          exact h0.2
    · have e : nT = 100 := by omega
      subst e
      simp (disch := omega) only [jlit, nI_ltE, nI_leE, nI_eqE, vp_inT, nI_add, nI_subE, nI_clamp, if_pos, if_neg, true_and, and_true]
      exact eX8_feed (bX8_feed_0 (t_inN_y (n := 127) (by omega) (by omega) (ite_fi (by decide) (ite_ti t2 (k _ _ hR)))))
theorem call_day (hR : Rel M) (x : Int32) (k : ∀ r M', Rel M' → P r r M') : CI G (d + 50) mX7_day [.ref 0, .int x] M (fun r1 M1 => CI G (d + 50) mX8_day [.ref 117, .int x] M1 (P r1)) := by
  obtain ⟨nS, nJ, nE, nQ, nT, nD, nC, nL, hS, hJ, hE, hQ, hT, hB, hD, hL⟩ := id hR.1
  refine eX7_day (bX7_day_0 ?_)
  have t1 : M 1 0 = nI nD := hD.1
  have t2 : M 118 7 = nI nD := hD.2.1
  rcases jix x (n := 10) (by omega) with hx | ⟨j, hj, rfl⟩
  · refine jno_ii (n := 9) hx (by omega) ?_
    exact eX8_day (bX8_day_0 (t_inN_n (n := 9) hx (by omega) (ite_ti rfl (k _ _ hR))))
  · simp (disch := omega) only [t1, jlit, nI_ltE, nI_leE, nI_eqE, vp_inT, nI_add, nI_subE, nI_clamp, if_pos, if_neg, true_and, and_true]
    refine eX8_day (bX8_day_0 (t_inN_y (n := 9) (by omega) (by omega) (ite_fi (by decide) ?_)))
    have e5 : (jup M 1 0 (nI j)) 118 7 = nI nD := by (simp (disch := omega) only [jup_ss, jup_sn, jup_n, jup_ne]); exact t2
    rw [e5]
    have F : Fr 5 M (jup (jup M 1 0 (nI j)) 118 7 (nI j)) := ((Fr.refl 5 M).up1 rfl).upS rfl
    exact k _ _ (hR.hn ⟨nS, nJ, nE, nQ, nT, j, nC, nL, hS.fr F (by decide), hJ.fr F (by decide), hE.fr F (by decide), hQ.fr F (by decide), hT.fr F (by decide), hB.fr F (by decide), ⟨by (simp (disch := omega) only [jup_ss, jup_sn, jup_n, jup_ne]), by (simp (disch := omega) only [jup_ss, jup_sn, jup_n, jup_ne]), by omega⟩, hL.fr F (by decide)⟩ (fun a ha => by (simp (disch := omega) only [jup_ne])))
end SC
