theorem jcp_ne {M : jM} {k' k n a : Nat} (h : a ≠ k') : jcp M k' k n a = M a := by funext b; simp [jcp, h]
theorem jcp_n {M : jM} {k' k n a b : Nat} (h : a ≠ k') : jcp M k' k n a b = M a b := by simp [jcp, h]
theorem jcp_in {M : jM} {k' k n b : Nat} (h : b < n) : jcp M k' k n k' b = M k b := by simp [jcp, h]
theorem HR.congr {sc sc' s s' : Nat → Int32} {ar ar' : Nat → Nat → Int32} (h : HR sc ar s) (hs : ∀ k, k < 916 → s' k = s k) (h1 : ∀ k, ow1 k ≠ 9 → sc' k = sc k)
    (h0 : ∀ k, k < 8 → ar' 0 k = ar 0 k ∧ ar' 1 k = ar 1 k ∧ ar' 6 k = ar 6 k) (h2 : ∀ k, k < 4 → ar' 2 k = ar 2 k ∧ ar' 3 k = ar 3 k) (h4 : ∀ k, k < 16 → ar' 4 k = ar 4 k) (h5 : ∀ k, k < 24 → ar' 5 k = ar 5 k) (h7 : ∀ k, k < 100 → ar' 7 k = ar 7 k ∧ ar' 8 k = ar 8 k) : HR sc' ar' s' := by
  obtain ⟨nS, nJ, nE, nQ, nT, nD, nC, nL, hS, hJ, hE, hQ, hT, hB, hD, hL⟩ := h
  exact ⟨nS, nJ, nE, nQ, nT, nD, nC, nL, hS.congr (h1 1 (by decide)) (hs _ (by omega)) (fun k hk => ⟨(h0 k hk).1, (h0 k hk).2.1, hs _ (by omega), hs _ (by omega)⟩),
    hJ.congr (h1 4 (by decide)) (hs _ (by omega)) (fun k hk => ⟨(h2 k hk).1, (h2 k hk).2, hs _ (by omega), hs _ (by omega)⟩) (fun k hk => ⟨h4 k hk, hs _ (by omega)⟩),
    hE.congr (h1 8 (by decide)) (hs _ (by omega)) (fun k hk => ⟨h5 k hk, hs _ (by omega), hs _ (by omega)⟩),
    hQ.congr (h1 10 (by decide)) (hs _ (by omega)) (fun k hk => ⟨(h0 k hk).2.2, hs _ (by omega)⟩),
    hT.congr (h1 12 (by decide)) (hs _ (by omega)) (fun k hk => ⟨(h7 k hk).1, hs _ (by omega)⟩), hB.congr h7, hD.congr (h1 0 (by decide)) (hs _ (by omega)),
    hL.congr (h1 14 (by decide)) (hs _ (by omega)) (h1 15 (by decide)) (hs _ (by omega)) (fun k hk => (h7 k hk).2) (fun k _ hk => hs k hk)⟩
section SC3
variable {G : jGT} {d : Nat} {M : jM} {P : Int32 → Int32 → jM → Prop}
theorem t_write {nE j f : Nat} {post : jM → Prop} (hE : M 1 8 = nI nE) (h24 : nE < 24) (hj : j < 8) (hf : f < 2) (hp : post (jup (jup M 7 nE (nI (2 * j + f))) 1 8 (nI (nE + 1)))) : CV G d mX2_write [.ref 1, .int (nI j), .int (nI f)] M post := by
  refine eX2_write (bX2_write_0 ?_)
  simp (disch := omega) only [hE, jlit, nI_ltE, nI_leE, nI_eqE, vp_inT, nI_add, pk_mul, nI_subE, nI_clamp, if_pos, if_neg, true_and, and_true]
  by_cases h : f = 0
  · subst h
    simp (disch := omega) only [jlit, nI_ltE, nI_leE, nI_eqE, vp_inT, nI_add, pk_mul, nI_subE, nI_clamp, if_pos, if_neg, true_and, and_true]
    exact hp
  · have : f = 1 := by omega
    subst this
    simp (disch := omega) only [jlit, nI_ltE, nI_leE, nI_eqE, vp_inT, nI_add, pk_mul, nI_subE, nI_clamp, if_pos, if_neg, true_and, and_true]
    exact hp
theorem t_enters {nE j f : Nat} {post : Int32 → jM → Prop} (hE : M 118 3 = nI nE) (h24 : nE < 24) (hf : f < 2) (hp : post (nI (nE + 1)) (jup (jup (jup M 118 (50 + nE) (nI j)) 118 (74 + nE) (nI f)) 118 3 (nI (nE + 1)))) : CI G d mX8_enters [.ref 117, .int (nI j), .int (nI f)] M post := by
  refine eX8_enters (bX8_enters_0 ?_)
  rw [hE]
  simp (disch := omega) only [jlit, nI_ltE, nI_leE, nI_eqE, vp_inT, nI_add, pk_mul, nI_subE, nI_clamp, if_pos, if_neg, true_and, and_true]
  have e1 : (jup M 118 (50 + nE) (nI j)) 118 3 = nI nE := by (simp (disch := omega) only [jup_ss, jup_sn, jup_n, jup_ne]); exact hE
  rw [e1]
  simp (disch := omega) only [jlit, nI_ltE, nI_leE, nI_eqE, vp_inT, nI_add, pk_mul, nI_subE, nI_clamp, if_pos, if_neg, true_and, and_true]
  have e2 : ∀ x : Int32, (jup (jup M 118 (50 + nE) (nI j)) 118 (74 + nE) x) 118 3 = nI nE := fun x => by (simp (disch := omega) only [jup_ss, jup_sn, jup_n, jup_ne]); exact hE
  rw [e2, e2]
  by_cases h : f = 0
  · subst h
    simp (disch := omega) only [jlit, nI_ltE, nI_leE, nI_eqE, vp_inT, nI_add, pk_mul, nI_subE, nI_clamp, if_pos, if_neg, true_and, and_true]
    exact hp
  · have : f = 1 := by omega
    subst this
    simp (disch := omega) only [jlit, nI_ltE, nI_leE, nI_eqE, vp_inT, nI_add, pk_mul, nI_subE, nI_clamp, if_pos, if_neg, true_and, and_true]
    exact hp
theorem call_enter (hR : Rel M) (x : Int32) {f : Nat} (hf : f < 2) (k : ∀ r M', Rel M' → P r r M') : CI G (d + 50) mX7_enter [.ref 0, .int x, .int (nI f)] M (fun r1 M1 => CI G (d + 50) mX8_enter [.ref 117, .int x, .int (nI f)] M1 (P r1)) := by
  obtain ⟨nS, nJ, nE, nQ, nT, nD, nC, nL, hS, hJ, hE, hQ, hT, hB, hD, hL⟩ := id hR.1
  refine eX7_enter (bX7_enter_0 ?_)
  have s1 : M 1 1 = nI nS := hS.1
  have s2 : M 118 0 = nI nS := hS.2.1
  have s3 := hS.2.2.1
  have t1 : M 1 8 = nI nE := hE.1
  have t2 : M 118 3 = nI nE := hE.2.1
  have t3 := hE.2.2.1
  by_cases hx1 : x = -1
  · refine ite_ti hx1 (eX8_enter (bX8_enter_0 (ite_ti hx1 ?_)))
    have F : Fr 2 M (jup (jup M 1 8 0) 118 3 0) := ((Fr.refl 2 M).up1 rfl).upS rfl
    exact k _ _ (hR.hn ⟨nS, nJ, 0, nQ, nT, nD, nC, nL, hS.fr F (by decide), hJ.fr F (by decide), ⟨by (simp (disch := omega) only [jup_ss, jup_sn, jup_n, jup_ne]); rfl, by (simp (disch := omega) only [jup_ss, jup_sn, jup_n, jup_ne]); rfl, by omega, fun i hi => by omega⟩, hQ.fr F (by decide), hT.fr F (by decide), hB.fr F (by decide), hD.fr F (by decide), hL.fr F (by decide)⟩ (fun a ha => by (simp (disch := omega) only [jup_ne])))
  · refine ite_fi hx1 ?_
    rcases jix x (n := nS) (by omega) with hx | ⟨i, hi, rfl⟩
    · exact t_hasSuit_n s1 s3 hx (ite_ti rfl (eX8_enter (bX8_enter_0 (ite_fi hx1 (t_isSuit_n s2 s3 hx (ite_ti rfl (k _ _ hR)))))))
    · refine t_hasSuit_y s1 s3 hi (ite_fi (by decide) ?_)
      by_cases h : nE < 24
      · simp (disch := omega) only [t1, jlit, nI_ltE, nI_leE, nI_eqE, vp_inT, nI_add, pk_mul, nI_subE, nI_clamp, if_pos, if_neg, true_and, and_true]
        refine t_write t1 h (by omega) hf ?_
        refine eX8_enter (bX8_enter_0 (ite_fi hx1 (t_isSuit_y (by (simp (disch := omega) only [jup_ss, jup_sn, jup_n, jup_ne]); exact s2) s3 hi (ite_fi (by decide) ?_))))
        have e2 : (jup (jup M 7 nE (nI (2 * i + f))) 1 8 (nI (nE + 1))) 118 3 = nI nE := by (simp (disch := omega) only [jup_ss, jup_sn, jup_n, jup_ne]); exact t2
        rw [e2]
        simp (disch := omega) only [jlit, nI_ltE, nI_leE, nI_eqE, vp_inT, nI_add, pk_mul, nI_subE, nI_clamp, if_pos, if_neg, true_and, and_true]
        refine t_enters e2 h hf ?_
        have F : Fr 2 M (jup (jup (jup (jup (jup M 7 nE (nI (2 * i + f))) 1 8 (nI (nE + 1))) 118 (50 + nE) (nI i)) 118 (74 + nE) (nI f)) 118 3 (nI (nE + 1))) := (((((Fr.refl 2 M).upA (by omega) rfl).up1 rfl).upS (owS_2 (by omega) (by omega))).upS (owS_2 (by omega) (by omega))).upS rfl
        have e3 : (jup (jup M 7 nE (nI (2 * i + f))) 1 8 (nI (nE + 1))) 1 8 = nI (nE + 1) := by (simp (disch := omega) only [jup_ss, jup_sn, jup_n, jup_ne])
        rw [e3]
        refine k _ _ (hR.hn ⟨nS, nJ, nE + 1, nQ, nT, nD, nC, nL, hS.fr F (by decide), hJ.fr F (by decide), ⟨by (simp (disch := omega) only [jup_ss, jup_sn, jup_n, jup_ne]), by (simp (disch := omega) only [jup_ss, jup_sn, jup_n, jup_ne]), by omega, ?_⟩, hQ.fr F (by decide), hT.fr F (by decide), hB.fr F (by decide), hD.fr F (by decide), hL.fr F (by decide)⟩ (fun a ha => by (simp (disch := omega) only [jup_ne])))
        intro l hl
        by_cases e : l = nE
        · subst e
          exact ⟨i, f, hi, hf, by (simp (disch := omega) only [jup_ss, jup_sn, jup_n, jup_ne]), by (simp (disch := omega) only [jup_ss, jup_sn, jup_n, jup_ne]), by (simp (disch := omega) only [jup_ss, jup_sn, jup_n, jup_ne])⟩
        · obtain ⟨a, b, h0, h1, h2, h3, h4⟩ := hE.2.2.2 l (by omega)
          exact ⟨a, b, h0, h1, by (simp (disch := omega) only [jup_ss, jup_sn, jup_n, jup_ne]); exact h2, by (simp (disch := omega) only [jup_ss, jup_sn, jup_n, jup_ne]); exact h3, by (simp (disch := omega) only [jup_ss, jup_sn, jup_n, jup_ne]); exact h4⟩
      · have e : nE = 24 := by omega
        subst e
        simp (disch := omega) only [t1, jlit, nI_ltE, nI_leE, nI_eqE, vp_inT, nI_add, pk_mul, nI_subE, nI_clamp, if_pos, if_neg, true_and, and_true]
        exact eX8_enter (bX8_enter_0 (ite_fi hx1 (t_isSuit_y s2 s3 hi (ite_fi (by decide) (ite_ti t2 (k _ _ hR))))))
theorem call_entry (hR : Rel M) (x : Int32) (k : ∀ r M', Rel M' → P r r M') : CI G (d + 50) mX7_entry [.ref 0, .int x] M (fun r1 M1 => CI G (d + 50) mX8_entry [.ref 117, .int x] M1 (P r1)) := by
  obtain ⟨nS, nJ, nE, nQ, nT, nD, nC, nL, hS, hJ, hE, hQ, hT, hB, hD, hL⟩ := id hR.1
  refine eX7_entry (bX7_entry_0 ?_)
  have t1 : M 1 8 = nI nE := hE.1
  have t2 : M 118 3 = nI nE := hE.2.1
  have t3 := hE.2.2.1
  rcases jix x (n := nE) (by omega) with hx | ⟨i, hi, rfl⟩
  · rw [t1]
    refine jno_i hx ?_
    refine eX8_entry (bX8_entry_0 ?_)
    rw [t2]
    exact t_inM_n hx (by omega) (ite_ti rfl (k _ _ hR))
  · simp (disch := omega) only [t1, jlit, nI_ltE, nI_leE, nI_eqE, vp_inT, nI_add, pk_mul, nI_subE, nI_clamp, if_pos, if_neg, true_and, and_true]
    refine eX8_entry (bX8_entry_0 ?_)
    rw [t2]
    refine t_inM_y hi (by omega) (ite_fi (by decide) ?_)
    obtain ⟨a, b, h0, h1, h2, h3, h4⟩ := hE.2.2.2 i hi
    simp (disch := omega) only [h3, h4, jlit, nI_ltE, nI_leE, nI_eqE, vp_inT, nI_add, pk_mul, nI_subE, nI_clamp, if_pos, if_neg, true_and, and_true]
    rw [show M 7 i = nI (2 * a + b) from h2]
    exact k _ _ hR
theorem call_queue (hR : Rel M) (x : Int32) (k : ∀ r M', Rel M' → P r r M') : CI G (d + 50) mX7_queue [.ref 0, .int x] M (fun r1 M1 => CI G (d + 50) mX8_queue [.ref 117, .int x] M1 (P r1)) := by
  obtain ⟨nS, nJ, nE, nQ, nT, nD, nC, nL, hS, hJ, hE, hQ, hT, hB, hD, hL⟩ := id hR.1
  refine eX7_queue (bX7_queue_0 ?_)
  have s1 : M 1 1 = nI nS := hS.1
  have s2 : M 118 0 = nI nS := hS.2.1
  have s3 := hS.2.2.1
  have t1 : M 1 10 = nI nQ := hQ.1
  have t2 : M 118 4 = nI nQ := hQ.2.1
  have t3 := hQ.2.2.1
  by_cases hx1 : x = -1
  · refine ite_ti hx1 (eX8_queue (bX8_queue_0 (ite_ti hx1 ?_)))
    have F : Fr 3 M (jup (jup M 1 10 0) 118 4 0) := ((Fr.refl 3 M).up1 rfl).upS rfl
    exact k _ _ (hR.hn ⟨nS, nJ, nE, 0, nT, nD, nC, nL, hS.fr F (by decide), hJ.fr F (by decide), hE.fr F (by decide), ⟨by (simp (disch := omega) only [jup_ss, jup_sn, jup_n, jup_ne]); rfl, by (simp (disch := omega) only [jup_ss, jup_sn, jup_n, jup_ne]); rfl, by omega, fun i hi => by omega⟩, hT.fr F (by decide), hB.fr F (by decide), hD.fr F (by decide), hL.fr F (by decide)⟩ (fun a ha => by (simp (disch := omega) only [jup_ne])))
  · refine ite_fi hx1 ?_
    rcases jix x (n := nS) (by omega) with hx | ⟨i, hi, rfl⟩
    · exact t_hasSuit_n s1 s3 hx (ite_ti rfl (eX8_queue (bX8_queue_0 (ite_fi hx1 (t_isSuit_n s2 s3 hx (ite_ti rfl (k _ _ hR)))))))
    · refine t_hasSuit_y s1 s3 hi (ite_fi (by decide) ?_)
      by_cases h : nQ < 8
      · simp (disch := omega) only [t1, jlit, nI_ltE, nI_leE, nI_eqE, vp_inT, nI_add, pk_mul, nI_subE, nI_clamp, if_pos, if_neg, true_and, and_true]
        refine eX8_queue (bX8_queue_0 (ite_fi hx1 (t_isSuit_y (by (simp (disch := omega) only [jup_ss, jup_sn, jup_n, jup_ne]); exact s2) s3 hi (ite_fi (by decide) ?_))))
        have e2 : (jup (jup M 8 nQ (nI i)) 1 10 (nI (nQ + 1))) 118 4 = nI nQ := by (simp (disch := omega) only [jup_ss, jup_sn, jup_n, jup_ne]); exact t2
        rw [e2]
        simp (disch := omega) only [jlit, nI_ltE, nI_leE, nI_eqE, vp_inT, nI_add, pk_mul, nI_subE, nI_clamp, if_pos, if_neg, true_and, and_true]
        have e3 : (jup (jup (jup M 8 nQ (nI i)) 1 10 (nI (nQ + 1))) 118 (98 + nQ) (nI i)) 118 4 = nI nQ := by (simp (disch := omega) only [jup_ss, jup_sn, jup_n, jup_ne]); exact t2
        rw [e3]
        simp (disch := omega) only [jlit, nI_ltE, nI_leE, nI_eqE, vp_inT, nI_add, pk_mul, nI_subE, nI_clamp, if_pos, if_neg, true_and, and_true]
        have F : Fr 3 M (jup (jup (jup (jup M 8 nQ (nI i)) 1 10 (nI (nQ + 1))) 118 (98 + nQ) (nI i)) 118 4 (nI (nQ + 1))) := ((((Fr.refl 3 M).upA (by omega) rfl).up1 rfl).upS (owS_3 (by omega) (by omega))).upS rfl
        refine k _ _ (hR.hn ⟨nS, nJ, nE, nQ + 1, nT, nD, nC, nL, hS.fr F (by decide), hJ.fr F (by decide), hE.fr F (by decide), ⟨by (simp (disch := omega) only [jup_ss, jup_sn, jup_n, jup_ne]), by (simp (disch := omega) only [jup_ss, jup_sn, jup_n, jup_ne]), by omega, ?_⟩, hT.fr F (by decide), hB.fr F (by decide), hD.fr F (by decide), hL.fr F (by decide)⟩ (fun a ha => by (simp (disch := omega) only [jup_ne])))
        intro l hl
        by_cases e : l = nQ
        · subst e
          exact ⟨i, hi, by (simp (disch := omega) only [jup_ss, jup_sn, jup_n, jup_ne]), by (simp (disch := omega) only [jup_ss, jup_sn, jup_n, jup_ne])⟩
        · obtain ⟨a, h0, h1, h2⟩ := hQ.2.2.2 l (by omega)
          exact ⟨a, h0, by (simp (disch := omega) only [jup_ss, jup_sn, jup_n, jup_ne]); exact h1, by (simp (disch := omega) only [jup_ss, jup_sn, jup_n, jup_ne]); exact h2⟩
      · have e : nQ = 8 := by omega
        subst e
        simp (disch := omega) only [t1, jlit, nI_ltE, nI_leE, nI_eqE, vp_inT, nI_add, pk_mul, nI_subE, nI_clamp, if_pos, if_neg, true_and, and_true]
        exact eX8_queue (bX8_queue_0 (ite_fi hx1 (t_isSuit_y s2 s3 hi (ite_fi (by decide) (ite_ti t2 (k _ _ hR))))))
theorem call_count (hR : Rel M) (x : Int32) (k : ∀ r M', Rel M' → P r r M') : CI G (d + 50) mX7_count [.ref 0, .int x] M (fun r1 M1 => CI G (d + 50) mX8_count [.ref 117, .int x] M1 (P r1)) := by
  obtain ⟨nS, nJ, nE, nQ, nT, nD, nC, nL, hS, hJ, hE, hQ, hT, hB, hD, hL⟩ := id hR.1
  obtain ⟨nR, hR20, hr1, hr2, hr3⟩ := hR.2.2
  refine eX7_count (bX7_count_0 ?_)
  rw [show M 1 1 = M 118 0 from hS.1.trans hS.2.1.symm, show M 1 4 = M 118 1 from hJ.1.trans hJ.2.1.symm, show M 1 14 = M 118 2 from hL.1.trans hL.2.1.symm, show M 1 8 = M 118 3 from hE.1.trans hE.2.1.symm, show M 1 10 = M 118 4 from hQ.1.trans hQ.2.1.symm, show M 1 12 = M 118 5 from hT.1.trans hT.2.1.symm, show M 115 1 = M 117 27 from hr1.trans hr2.symm]
  refine ite_i (fun h => eX8_count (bX8_count_0 (ite_ti h (k _ _ hR)))) (fun h0 => ?_)
  refine ite_i (fun h => eX8_count (bX8_count_0 (ite_fi h0 (ite_ti h (k _ _ hR))))) (fun h1 => ?_)
  refine ite_i (fun h => eX8_count (bX8_count_0 (ite_fi h0 (ite_fi h1 (ite_ti h (k _ _ hR)))))) (fun h2 => ?_)
  refine ite_i (fun h => eX8_count (bX8_count_0 (ite_fi h0 (ite_fi h1 (ite_fi h2 (ite_ti h (k _ _ hR))))))) (fun h3 => ?_)
  refine ite_i (fun h => eX8_count (bX8_count_0 (ite_fi h0 (ite_fi h1 (ite_fi h2 (ite_fi h3 (ite_ti h (k _ _ hR)))))))) (fun h4 => ?_)
  refine ite_i (fun h => eX8_count (bX8_count_0 (ite_fi h0 (ite_fi h1 (ite_fi h2 (ite_fi h3 (ite_fi h4 (ite_ti h (k _ _ hR))))))))) (fun h5 => ?_)
  refine ite_i (fun h => eX8_count (bX8_count_0 (ite_fi h0 (ite_fi h1 (ite_fi h2 (ite_fi h3 (ite_fi h4 (ite_fi h5 (ite_ti h (k _ _ hR)))))))))) (fun h6 => ?_)
  exact eX8_count (bX8_count_0 (ite_fi h0 (ite_fi h1 (ite_fi h2 (ite_fi h3 (ite_fi h4 (ite_fi h5 (ite_fi h6 (k _ _ hR)))))))))
theorem call_trace (hR : Rel M) (x : Int32) (k : ∀ r M', Rel M' → P r r M') : CI G (d + 50) mX7_trace [.ref 0, .int x] M (fun r1 M1 => CI G (d + 50) mX8_trace [.ref 117, .int x] M1 (P r1)) := by
  obtain ⟨n, hn, h1, h2, h3⟩ := hR.2.2
  refine eX7_trace (bX7_trace_0 ?_)
  rcases jix x (n := n) (by omega) with hx | ⟨i, hi, rfl⟩
  · rw [h1]
    refine jno_i hx ?_
    refine eX8_trace (bX8_trace_0 ?_)
    rw [h2]
    by_cases h20 : n = 20
    · subst h20
      exact ite_ti (by decide) (t_inM_n (n := 20) hx (by omega) (ite_ti rfl (k _ _ hR)))
    · simp (disch := omega) only [jlit, nI_ltE, nI_leE, nI_eqE, vp_inT, nI_add, pk_mul, nI_subE, nI_clamp, if_pos, if_neg, true_and, and_true]
      exact t_inM_n hx (by omega) (ite_ti rfl (k _ _ hR))
  · simp (disch := omega) only [h1, jlit, nI_ltE, nI_leE, nI_eqE, vp_inT, nI_add, pk_mul, nI_subE, nI_clamp, if_pos, if_neg, true_and, and_true]
    refine eX8_trace (bX8_trace_0 ?_)
    rw [h2, h3 i hi]
    by_cases h20 : n = 20
    · subst h20
      refine ite_ti (by decide) (t_inM_y (n := 20) hi (by omega) (ite_fi (by decide) ?_))
      simp (disch := omega) only [jlit, nI_ltE, nI_leE, nI_eqE, vp_inT, nI_add, pk_mul, nI_subE, nI_clamp, if_pos, if_neg, true_and, and_true]
      exact k _ _ hR
    · refine ite_fi (by rw [show (20 : Int32) = nI 20 from rfl, nI_leE (by omega) (by omega)]; omega) ?_
      refine t_inM_y hi (by omega) (ite_fi (by decide) ?_)
      simp (disch := omega) only [jlit, nI_ltE, nI_leE, nI_eqE, vp_inT, nI_add, pk_mul, nI_subE, nI_clamp, if_pos, if_neg, true_and, and_true]
      exact k _ _ hR
end SC3
