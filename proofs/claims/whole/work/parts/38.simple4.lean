theorem jcp_end {M : jM} {k' k n b : Nat} (h : n ≤ b) : jcp M k' k n k' b = M k' b := by simp [jcp, Nat.not_lt.mpr h]
theorem jcp_step (M : jM) {k' k n : Nat} (h : k ≠ k') : jup (jcp M k' k n) k' n (jcp M k' k n k n) = jcp M k' k (n + 1) := by
  funext a b
  by_cases ha : a = k'
  · subst ha
    by_cases hb : b = n
    · subst hb
      rw [jup_ss, jcp_n h, jcp_in (by omega)]
    · rw [jup_sn hb]
      by_cases hb2 : b < n
      · rw [jcp_in hb2, jcp_in (by omega)]
      · rw [jcp_end (by omega), jcp_end (by omega)]
  · rw [jup_n ha, jcp_n ha, jcp_n ha]
theorem jcp_zero (M : jM) {k' k : Nat} : jcp M k' k 0 = M := by funext a b; simp only [jcp, Nat.not_lt_zero, if_false]; split <;> rename_i h <;> simp [h]
section SC4
variable {G : jGT} {d : Nat} {M : jM} {P : Int32 → Int32 → jM → Prop}
def jund (kd j : Nat) : Prop := j = 0 ∨ j = kd ∨ (0 < j ∧ j < 4 ∧ kd = j + 3)
theorem t_asStep {i j c c' s nJ : Nat} {post : Int32 → jM → Prop} (hc : c < 7) (hs : s < 7) (hj : j < 7) (hcj : ¬ c = j) (hA : jABOVE c = nI c') (h : kX7_as_35 G d (nI i) (nI j) (nI c') (nI (s + 1)) M post) : kX7_as_35 G d (nI i) (nI j) (nI c) (nI s) M post := by
  refine bX7_as_35 ?_
  simp (disch := omega) only [hA, jlit, nI_ltE, nI_leE, nI_eqE, vp_inT, nI_add, pk_mul, nI_subE, nI_clamp, if_pos, if_neg, true_and, and_true]
  exact h
theorem t_asEnd {i j s : Nat} {post : Int32 → jM → Prop} (hs : s < 7) (hp : post (-6) M) : kX7_as_35 G d (nI i) (nI j) (-1) (nI s) M post := by
  refine bX7_as_35 ?_
  rw [if_neg (show ¬ (7 : Int32) ≤ nI s by rw [show (7 : Int32) = nI 7 from rfl, nI_leE (by omega) (by omega)]; omega)]
  exact ite_ti (by decide) hp
theorem t_asHit {i j c s nJ : Nat} {post : Int32 → jM → Prop} (h1 : M 1 4 = nI nJ) (h2 : nJ ≤ 4) (hi : i < nJ) (hc : c < 7) (hs : s < 7) (hcj : c = j) (hp : post (M 5 i) M) : kX7_as_35 G (d + 1) (nI i) (nI j) (nI c) (nI s) M post := by
  subst hcj
  refine bX7_as_35 ?_
  simp (disch := omega) only [jlit, nI_ltE, nI_leE, nI_eqE, vp_inT, nI_add, pk_mul, nI_subE, nI_clamp, if_pos, if_neg, true_and, and_true]
  exact t_numberOf h1 h2 hi hp
theorem t_asLast {i j s : Nat} {post : Int32 → jM → Prop} (hs : s < 6) (hj : j < 7) (hcj : ¬ 0 = j) (hp : post (-6) M) : kX7_as_35 G d (nI i) (nI j) (nI 0) (nI s) M post := by
  refine bX7_as_35 ?_
  simp (disch := omega) only [jlit, nI_ltE, nI_leE, nI_eqE, vp_inT, nI_add, pk_mul, nI_subE, nI_clamp, if_pos, if_neg, true_and, and_true]
  rw [show jABOVE 0 = -1 from rfl]
  exact t_asEnd (by omega) hp
theorem t_as {i j kd nJ : Nat} {post : Int32 → jM → Prop} (h1 : M 1 4 = nI nJ) (h2 : nJ ≤ 4) (hi : i < nJ) (hj : j < 7) (hkd : kd < 7) (hy : jund kd j → post (M 5 i) M) (hn : ¬ jund kd j → post (-6) M) : kX7_as_35 G (d + 1) (nI i) (nI j) (nI kd) (nI 0) M post := by
  by_cases e : kd = j
  · exact t_asHit h1 h2 hi hkd (by omega) e (hy (Or.inr (Or.inl e.symm)))
  · have low : ∀ s, s < 6 → jund kd 0 → (¬ 0 = j → ¬ jund kd j) → kX7_as_35 G (d + 1) (nI i) (nI j) (nI 0) (nI s) M post := by
      intro s hs hu hnu
      by_cases e0 : 0 = j
      · exact t_asHit h1 h2 hi (by omega) (by omega) e0 (hy (e0 ▸ hu))
      · exact t_asLast hs hj e0 (hn (hnu e0))
    have hu0 : jund kd 0 := Or.inl rfl
    by_cases k0 : kd = 0
    · subst k0
      exact t_asLast (by omega) hj e (hn (by unfold jund; omega))
    · by_cases k3 : kd < 4
      · refine t_asStep (c' := 0) (nJ := 0) hkd (by omega) hj e ?_ (low _ (by omega) hu0 (fun h => by unfold jund; omega))
        rcases (show kd = 1 ∨ kd = 2 ∨ kd = 3 by omega) with rfl | rfl | rfl <;> rfl
      · refine t_asStep (c' := kd - 3) (nJ := 0) hkd (by omega) hj e ?_ ?_
        · rcases (show kd = 4 ∨ kd = 5 ∨ kd = 6 by omega) with rfl | rfl | rfl <;> rfl
        · by_cases e2 : kd - 3 = j
          · exact t_asHit h1 h2 hi (by omega) (by omega) e2 (hy (by unfold jund; omega))
          · refine t_asStep (c' := 0) (nJ := 0) (by omega) (by omega) hj e2 ?_ (low _ (by omega) hu0 (fun h => by unfold jund; omega))
            rcases (show kd = 4 ∨ kd = 5 ∨ kd = 6 by omega) with rfl | rfl | rfl <;> rfl
theorem t_isUnder_y {j kd : Nat} {post : Int32 → jM → Prop} (hj : j < 7) (hkd : kd < 7) (h : jund kd j) (hp : post 1 M) : CI G d mX8_isUnder [.int (nI kd), .int (nI j)] M post := by
  refine eX8_isUnder (bX8_isUnder_0 ?_)
  unfold jund at h
  by_cases a : j = 0
  · simp (disch := omega) only [jlit, nI_ltE, nI_leE, nI_eqE, vp_inT, nI_add, pk_mul, nI_subE, nI_clamp, if_pos, if_neg, true_and, and_true]; exact hp
  · by_cases b : j = kd
    · simp (disch := omega) only [jlit, nI_ltE, nI_leE, nI_eqE, vp_inT, nI_add, pk_mul, nI_subE, nI_clamp, if_pos, if_neg, true_and, and_true]; exact hp
    · simp (disch := omega) only [jlit, nI_ltE, nI_leE, nI_eqE, vp_inT, nI_add, pk_mul, nI_subE, nI_clamp, if_pos, if_neg, true_and, and_true]; exact hp
theorem t_isUnder_n {j kd : Nat} {post : Int32 → jM → Prop} (hj : j < 7) (hkd : kd < 7) (h : ¬ jund kd j) (hp : post 0 M) : CI G d mX8_isUnder [.int (nI kd), .int (nI j)] M post := by
  refine eX8_isUnder (bX8_isUnder_0 ?_)
  unfold jund at h
  by_cases a : 4 ≤ j
  · simp (disch := omega) only [jlit, nI_ltE, nI_leE, nI_eqE, vp_inT, nI_add, pk_mul, nI_subE, nI_clamp, if_pos, if_neg, true_and, and_true]; exact hp
  · simp (disch := omega) only [jlit, nI_ltE, nI_leE, nI_eqE, vp_inT, nI_add, pk_mul, nI_subE, nI_clamp, if_pos, if_neg, true_and, and_true]; exact hp
theorem call_as (hR : Rel M) (x y : Int32) (k : ∀ r M', Rel M' → P r r M') : CI G (d + 50) mX7_as [.ref 0, .int x, .int y] M (fun r1 M1 => CI G (d + 50) mX8_as [.ref 117, .int x, .int y] M1 (P r1)) := by
  obtain ⟨nS, nJ, nE, nQ, nT, nD, nC, nL, hS, hJ, hE, hQ, hT, hB, hD, hL⟩ := id hR.1
  refine eX7_as (bX7_as_0 ?_)
  have t1 : M 1 4 = nI nJ := hJ.1
  have t2 : M 118 1 = nI nJ := hJ.2.1
  have t3 := hJ.2.2.1
  rcases jix x (n := nJ) (by omega) with hx | ⟨i, hi, rfl⟩
  · exact t_hasJudge_n t1 t3 hx (ite_ti rfl (eX8_as (bX8_as_0 (t_isJudge_n t2 (by omega) hx (ite_ti rfl (k _ _ hR))))))
  · refine t_hasJudge_y t1 t3 hi (ite_fi (by decide) ?_)
    rcases jix y (n := 7) (by omega) with hy | ⟨j, hj, rfl⟩
    · refine jno_iii (n := 7) hy ?_
      exact eX8_as (bX8_as_0 (t_isJudge_y t2 (by omega) hi (ite_fi (by decide) (t_inN_n (n := 6) hy (by omega) (ite_ti rfl (k _ _ hR))))))
    · simp (disch := omega) only [jlit, nI_ltE, nI_leE, nI_eqE, vp_inT, nI_add, pk_mul, nI_subE, nI_clamp, if_pos, if_neg, true_and, and_true]
      refine t_kindOf t1 t3 hi ?_
      obtain ⟨kd, v, h0, h1, h2, h3, h4, h5⟩ := hJ.2.2.2.1 i hi
      rw [show M 4 i = nI kd from h2]
      refine t_as t1 t3 hi hj h0 (fun hu => ?_) (fun hu => ?_)
      · refine eX8_as (bX8_as_0 (t_isJudge_y t2 (by omega) hi (ite_fi (by decide) (t_inN_y (n := 6) (by omega) (by omega) (ite_fi (by decide) ?_)))))
        simp (disch := omega) only [h3, jlit, nI_ltE, nI_leE, nI_eqE, vp_inT, nI_add, pk_mul, nI_subE, nI_clamp, if_pos, if_neg, true_and, and_true]
        refine t_isUnder_y hj h0 hu (ite_fi (by decide) ?_)
        simp (disch := omega) only [h5, jlit, nI_ltE, nI_leE, nI_eqE, vp_inT, nI_add, pk_mul, nI_subE, nI_clamp, if_pos, if_neg, true_and, and_true]
        rw [show M 5 i = nI v from h4]
        exact k _ _ hR
      · refine eX8_as (bX8_as_0 (t_isJudge_y t2 (by omega) hi (ite_fi (by decide) (t_inN_y (n := 6) (by omega) (by omega) (ite_fi (by decide) ?_)))))
        simp (disch := omega) only [h3, jlit, nI_ltE, nI_leE, nI_eqE, vp_inT, nI_add, pk_mul, nI_subE, nI_clamp, if_pos, if_neg, true_and, and_true]
        exact t_isUnder_n hj h0 hu (ite_ti rfl (k _ _ hR))
theorem t_image {post : Int32 → jM → Prop} (hp : post (M 118 0) (jup (jcp M 119 118 916) 117 3 1)) : CI G d mX8_image [.ref 117] M post := by
  refine eX8_image (bX8_image_0 ?_)
  have key : ∀ n i, i + n = 916 → kX8_image_2 G d (nI i) (jcp M 119 118 i) post := by
    intro n
    induction n with
    | zero =>
      intro i hi
      have : i = 916 := by omega
      subst this
      refine bX8_image_2 (ite_ti (by decide) ?_)
      rw [jcp_n (by omega)]
      exact hp
    | succ n ih =>
      intro i hi
      refine bX8_image_2 ?_
      simp (disch := omega) only [jlit, nI_ltE, nI_leE, nI_eqE, vp_inT, nI_add, pk_mul, nI_subE, nI_clamp, if_pos, if_neg, true_and, and_true]
      have h := ih (i + 1) (by omega)
      rw [← jcp_step M (by omega)] at h
      exact h
  have h := key 916 0 (by omega)
  rw [jcp_zero] at h
  exact h
theorem t_undo {post : Int32 → jM → Prop} (h0 : M 117 3 = 1) (hp : post (M 119 0) (jcp M 118 119 916)) : CI G d mX8_undo [.ref 117] M post := by
  refine eX8_undo (bX8_undo_0 (ite_fi (by rw [h0]; decide) ?_))
  have key : ∀ n i, i + n = 916 → kX8_undo_12 G d (nI i) (jcp M 118 119 i) post := by
    intro n
    induction n with
    | zero =>
      intro i hi
      have : i = 916 := by omega
      subst this
      refine bX8_undo_12 (ite_ti (by decide) ?_)
      rw [jcp_in (by omega)]
      exact hp
    | succ n ih =>
      intro i hi
      refine bX8_undo_12 ?_
      simp (disch := omega) only [jlit, nI_ltE, nI_leE, nI_eqE, vp_inT, nI_add, pk_mul, nI_subE, nI_clamp, if_pos, if_neg, true_and, and_true]
      have h := ih (i + 1) (by omega)
      rw [← jcp_step M (by omega)] at h
      exact h
  have h := key 916 0 (by omega)
  rw [jcp_zero] at h
  exact h
def jbecK (M : jM) : jM := jcp (jcp (jcp (jcp (jcp (jcp (jcp (jcp (jcp (jup (jup (jup (jup (jup (jup (jup (jup M 11 0 (M 1 0)) 11 1 (M 1 1)) 11 4 (M 1 4)) 11 8 (M 1 8)) 11 10 (M 1 10)) 11 12 (M 1 12)) 11 14 (M 1 14)) 11 15 (M 1 15)) 12 2 8) 13 3 8) 14 4 4) 15 5 4) 16 6 16) 17 7 24) 18 8 8) 19 9 100) 20 10 100
def jbecH (M : jM) : jM := jcp (jcp (jcp (jcp (jcp (jcp (jcp (jcp (jcp (jup (jup (jup (jup (jup (jup (jup (jup M 1 0 (M 11 0)) 1 1 (M 11 1)) 1 4 (M 11 4)) 1 8 (M 11 8)) 1 10 (M 11 10)) 1 12 (M 11 12)) 1 14 (M 11 14)) 1 15 (M 11 15)) 2 12 8) 3 13 8) 4 14 4) 5 15 4) 6 16 16) 7 17 24) 8 18 8) 9 19 100) 10 20 100
theorem t_becomeK {post : jM → Prop} (hb : ∀ k, k < 100 → jbyte (M 9 k) ∧ jbyte (M 10 k)) (hp : post (jbecK M)) : CV G (d + 2) mX2_become [.ref 11, .ref 1] M post := by
  refine eX2_becomeK (bX2_becomeK_0 ⟨fun j hj => ?_, fun j hj => ?_, hp⟩)
  · simp only [jcp_n (show (9 : Nat) ≠ 18 by decide), jcp_n (show (9 : Nat) ≠ 17 by decide), jcp_n (show (9 : Nat) ≠ 16 by decide), jcp_n (show (9 : Nat) ≠ 15 by decide), jcp_n (show (9 : Nat) ≠ 14 by decide), jcp_n (show (9 : Nat) ≠ 13 by decide), jcp_n (show (9 : Nat) ≠ 12 by decide), jup_n (show (9 : Nat) ≠ 11 by decide)]
    exact (hb j hj).1
  · simp only [jcp_n (show (10 : Nat) ≠ 19 by decide), jcp_n (show (10 : Nat) ≠ 18 by decide), jcp_n (show (10 : Nat) ≠ 17 by decide), jcp_n (show (10 : Nat) ≠ 16 by decide), jcp_n (show (10 : Nat) ≠ 15 by decide), jcp_n (show (10 : Nat) ≠ 14 by decide), jcp_n (show (10 : Nat) ≠ 13 by decide), jcp_n (show (10 : Nat) ≠ 12 by decide), jup_n (show (10 : Nat) ≠ 11 by decide)]
    exact (hb j hj).2
theorem t_becomeH {post : jM → Prop} (hb : ∀ k, k < 100 → jbyte (M 19 k) ∧ jbyte (M 20 k)) (hp : post (jbecH M)) : CV G (d + 2) mX2_become [.ref 1, .ref 11] M post := by
  refine eX2_becomeH (bX2_becomeH_0 ⟨fun j hj => ?_, fun j hj => ?_, hp⟩)
  · simp only [jcp_n (show (19 : Nat) ≠ 8 by decide), jcp_n (show (19 : Nat) ≠ 7 by decide), jcp_n (show (19 : Nat) ≠ 6 by decide), jcp_n (show (19 : Nat) ≠ 5 by decide), jcp_n (show (19 : Nat) ≠ 4 by decide), jcp_n (show (19 : Nat) ≠ 3 by decide), jcp_n (show (19 : Nat) ≠ 2 by decide), jup_n (show (19 : Nat) ≠ 1 by decide)]
    exact (hb j hj).1
  · simp only [jcp_n (show (20 : Nat) ≠ 9 by decide), jcp_n (show (20 : Nat) ≠ 8 by decide), jcp_n (show (20 : Nat) ≠ 7 by decide), jcp_n (show (20 : Nat) ≠ 6 by decide), jcp_n (show (20 : Nat) ≠ 5 by decide), jcp_n (show (20 : Nat) ≠ 4 by decide), jcp_n (show (20 : Nat) ≠ 3 by decide), jcp_n (show (20 : Nat) ≠ 2 by decide), jup_n (show (20 : Nat) ≠ 1 by decide)]
    exact (hb j hj).2
theorem jbecK_o (M : jM) {a : Nat} (h : a < 11 ∨ 20 < a) : jbecK M a = M a := by
  unfold jbecK
  simp (disch := omega) only [jcp_ne, jup_ne]
theorem jbecH_o (M : jM) {a : Nat} (h : a < 1 ∨ 10 < a) : jbecH M a = M a := by
  unfold jbecH
  simp (disch := omega) only [jcp_ne, jup_ne]
theorem ow1_in {k : Nat} (h : ow1 k ≠ 9) : k = 0 ∨ k = 1 ∨ k = 4 ∨ k = 8 ∨ k = 10 ∨ k = 12 ∨ k = 14 ∨ k = 15 := by
  by_cases hk : k < 16
  · have : ∀ k, k < 16 → ow1 k ≠ 9 → (k = 0 ∨ k = 1 ∨ k = 4 ∨ k = 8 ∨ k = 10 ∨ k = 12 ∨ k = 14 ∨ k = 15) := by decide
    exact this k hk h
  · exfalso
    apply h
    unfold ow1
    rw [List.getD_eq_getElem?_getD, List.getElem?_eq_none (by simp; omega)]
    rfl
theorem jbecK_1 (M : jM) {k : Nat} (h : ow1 k ≠ 9) : jbecK M 11 k = M 1 k := by
  unfold jbecK
  rcases ow1_in h with rfl | rfl | rfl | rfl | rfl | rfl | rfl | rfl <;> simp (disch := omega) only [jcp_n, jup_ss, jup_sn, jup_n]
theorem jbecH_1 (M : jM) {k : Nat} (h : ow1 k ≠ 9) : jbecH M 1 k = M 11 k := by
  unfold jbecH
  rcases ow1_in h with rfl | rfl | rfl | rfl | rfl | rfl | rfl | rfl <;> simp (disch := omega) only [jcp_n, jup_ss, jup_sn, jup_n]
theorem call_image (hR : Rel M) (k : ∀ r M', Rel M' → P r r M') : CI G (d + 50) mX7_image [.ref 0] M (fun r1 M1 => CI G (d + 50) mX8_image [.ref 117] M1 (P r1)) := by
  obtain ⟨nS, nJ, nE, nQ, nT, nD, nC, nL, hS, hJ, hE, hQ, hT, hB, hD, hL⟩ := id hR.1
  refine eX7_image (bX7_image_0 (t_becomeK hB (t_image ?_)))
  have e1 : jbecK M 1 1 = nI nS := by rw [jbecK_o M (by omega)]; exact hS.1
  have e2 : (jup (jbecK M) 0 2 1) 118 0 = nI nS := by rw [jup_n (by omega), jbecK_o M (by omega)]; exact hS.2.1
  rw [e1, e2]
  generalize hM' : jup (jcp (jup (jbecK M) 0 2 1) 119 118 916) 117 3 1 = M'
  have o : ∀ a, (1 ≤ a ∧ a ≤ 10) ∨ (a = 115 ∨ a = 116 ∨ a = 118 ∨ a = 129) → M' a = M a := fun a ha => by
    rw [← hM', jup_ne (by omega), jcp_ne (by omega), jup_ne (by omega), jbecK_o M (by omega)]
  have q : ∀ a b, 11 ≤ a → a ≤ 20 → M' a b = jbecK M a b := fun a b h1 h2 => by
    rw [← hM', jup_n (by omega), jcp_n (by omega), jup_n (by omega)]
  refine k _ _ ⟨?_, Or.inr ⟨by rw [← hM']; (simp (disch := omega) only [jup_ss, jup_sn, jup_n, jup_ne]); rw [jcp_n (by omega)]; (simp (disch := omega) only [jup_ss, jup_sn, jup_n, jup_ne]), by rw [← hM']; (simp (disch := omega) only [jup_ss, jup_sn, jup_n, jup_ne]), ?_⟩, ?_⟩
  · unfold HN
    rw [o 1 (by omega), o 118 (by omega)]
    exact HR.congr hR.1 (fun _ _ => rfl) (fun _ _ => rfl) (fun k hk => ⟨congrFun (o 2 (by omega)) k, congrFun (o 3 (by omega)) k, congrFun (o 8 (by omega)) k⟩) (fun k hk => ⟨congrFun (o 4 (by omega)) k, congrFun (o 5 (by omega)) k⟩) (fun k hk => congrFun (o 6 (by omega)) k) (fun k hk => congrFun (o 7 (by omega)) k) (fun k hk => ⟨congrFun (o 9 (by omega)) k, congrFun (o 10 (by omega)) k⟩)
  · unfold HK
    refine HR.congr hR.1 (fun k hk => ?_) (fun k hk => ?_) (fun k hk => ?_) (fun k hk => ?_) (fun k hk => ?_) (fun k hk => ?_) (fun k hk => ?_)
    · rw [← hM', jup_n (by omega), jcp_in hk, jup_n (by omega), jbecK_o M (by omega)]
    · rw [q 11 k (by omega) (by omega), jbecK_1 M hk]
    · show M' 12 k = M 2 k ∧ M' 13 k = M 3 k ∧ M' 18 k = M 8 k
      rw [q 12 k (by omega) (by omega), q 13 k (by omega) (by omega), q 18 k (by omega) (by omega)]
      unfold jbecK
      refine ⟨?_, ?_, ?_⟩ <;> simp (disch := omega) only [jcp_in, jcp_n, jup_n]
    · show M' 14 k = M 4 k ∧ M' 15 k = M 5 k
      rw [q 14 k (by omega) (by omega), q 15 k (by omega) (by omega)]
      unfold jbecK
      refine ⟨?_, ?_⟩ <;> simp (disch := omega) only [jcp_in, jcp_n, jup_n]
    · show M' 16 k = M 6 k
      rw [q 16 k (by omega) (by omega)]
      unfold jbecK
      simp (disch := omega) only [jcp_in, jcp_n, jup_n]
    · show M' 17 k = M 7 k
      rw [q 17 k (by omega) (by omega)]
      unfold jbecK
      simp (disch := omega) only [jcp_in, jcp_n, jup_n]
    · show M' 19 k = M 9 k ∧ M' 20 k = M 10 k
      rw [q 19 k (by omega) (by omega), q 20 k (by omega) (by omega)]
      unfold jbecK
      refine ⟨?_, ?_⟩ <;> simp (disch := omega) only [jcp_in, jcp_n, jup_n]
  · obtain ⟨n, hn, h1, h2, h3⟩ := hR.2.2
    refine ⟨n, hn, by rw [o 115 (by omega)]; exact h1, ?_, fun k hk => by rw [o 116 (by omega), o 129 (by omega)]; exact h3 k hk⟩
    rw [← hM', jup_sn (by omega), jcp_n (by omega), jup_n (by omega), jbecK_o M (by omega)]
    exact h2
theorem call_undo (hR : Rel M) (k : ∀ r M', Rel M' → P r r M') : CI G (d + 50) mX7_undo [.ref 0] M (fun r1 M1 => CI G (d + 50) mX8_undo [.ref 117] M1 (P r1)) := by
  refine eX7_undo (bX7_undo_0 ?_)
  rcases hR.2.1 with ⟨h1, h2, -⟩ | ⟨h1, h2, hK⟩
  · exact ite_ti h1 (eX8_undo (bX8_undo_0 (ite_ti h2 (k _ _ hR))))
  · obtain ⟨nS, nJ, nE, nQ, nT, nD, nC, nL, hS, hJ, hE, hQ, hT, hB, hD, hL⟩ := id hK
    refine ite_fi (by rw [h1]; decide) (t_becomeH hB (t_undo (by rw [jbecH_o M (by omega)]; exact h2) ?_))
    rw [jbecH_1 M (by decide), jbecH_o M (by omega), show M 11 1 = nI nS from hS.1, show M 119 0 = nI nS from hS.2.1]
    generalize hM' : jcp (jbecH M) 118 119 916 = M'
    have o : ∀ a, a = 0 ∨ (11 ≤ a ∧ a ≠ 118) → M' a = M a := fun a ha => by
      rw [← hM', jcp_ne (by omega), jbecH_o M (by omega)]
    have q : ∀ a b, 1 ≤ a → a ≤ 10 → M' a b = jbecH M a b := fun a b h1 h2 => by
      rw [← hM', jcp_n (by omega)]
    refine k _ _ ⟨?_, Or.inr ⟨by rw [o 0 (by omega)]; exact h1, by rw [o 117 (by omega)]; exact h2, hK.congr (fun a h1 h2 => o a (by omega)) (o 119 (by omega))⟩, ?_⟩
    · refine HR.congr hK (fun k hk => ?_) (fun k hk => ?_) (fun k hk => ?_) (fun k hk => ?_) (fun k hk => ?_) (fun k hk => ?_) (fun k hk => ?_)
      · rw [← hM', jcp_in hk, jbecH_o M (by omega)]
      · rw [q 1 k (by omega) (by omega), jbecH_1 M hk]
      · show M' 2 k = M 12 k ∧ M' 3 k = M 13 k ∧ M' 8 k = M 18 k
        rw [q 2 k (by omega) (by omega), q 3 k (by omega) (by omega), q 8 k (by omega) (by omega)]
        unfold jbecH
        refine ⟨?_, ?_, ?_⟩ <;> simp (disch := omega) only [jcp_in, jcp_n, jup_n]
      · show M' 4 k = M 14 k ∧ M' 5 k = M 15 k
        rw [q 4 k (by omega) (by omega), q 5 k (by omega) (by omega)]
        unfold jbecH
        refine ⟨?_, ?_⟩ <;> simp (disch := omega) only [jcp_in, jcp_n, jup_n]
      · show M' 6 k = M 16 k
        rw [q 6 k (by omega) (by omega)]
        unfold jbecH
        simp (disch := omega) only [jcp_in, jcp_n, jup_n]
      · show M' 7 k = M 17 k
        rw [q 7 k (by omega) (by omega)]
        unfold jbecH
        simp (disch := omega) only [jcp_in, jcp_n, jup_n]
      · show M' 9 k = M 19 k ∧ M' 10 k = M 20 k
        rw [q 9 k (by omega) (by omega), q 10 k (by omega) (by omega)]
        unfold jbecH
        refine ⟨?_, ?_⟩ <;> simp (disch := omega) only [jcp_in, jcp_n, jup_n]
    · obtain ⟨n, hn, h1, h2, h3⟩ := hR.2.2
      exact ⟨n, hn, by rw [o 115 (by omega)]; exact h1, by rw [o 117 (by omega)]; exact h2, fun k hk => by rw [o 116 (by omega), o 129 (by omega)]; exact h3 k hk⟩
end SC4
