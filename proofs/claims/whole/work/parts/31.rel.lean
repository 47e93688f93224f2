theorem jno_i {x : Int32} {n : Nat} (h : jno x n) {A B : Prop} (hA : A) : if x < 0 then A else if nI n ≤ x then A else B := by
  by_cases h0 : x < 0
  · rw [if_pos h0]; exact hA
  · rw [if_neg h0, if_pos (h.resolve_left h0)]; exact hA
theorem jno_iii {x : Int32} {n : Nat} (h : jno x n) {A B : Prop} (hA : A) : if x < 0 then A else if x < nI n then B else A := by
  by_cases h0 : x < 0
  · rw [if_pos h0]; exact hA
  · rw [if_neg h0, if_neg (Int32.not_lt.mpr (h.resolve_left h0))]; exact hA
theorem jno_ii {x : Int32} {n : Nat} (h : jno x (n + 1)) (hn : n + 1 < 2 ^ 31) {A B : Prop} (hA : A) : if x < 0 then A else if x ≤ nI n then B else A := by
  by_cases h0 : x < 0
  · rw [if_pos h0]; exact hA
  · rw [if_neg h0, if_neg ?_]
    · exact hA
    · have h1 := h.resolve_left h0
      rw [Int32.le_iff_toInt_le, nI_toInt (by omega)] at h1 ⊢
      omega
section TT
variable {G : jGT} {d : Nat} {M : jM} {post : Int32 → jM → Prop}
theorem t_in_y {x lo hi : Int32} (h1 : ¬ x < lo) (h2 : ¬ hi < x) (hp : post 1 M) : CI G d mX8_in [.int x, .int lo, .int hi] M post :=
  eX8_in (bX8_in_0 (ite_fi h1 (ite_fi h2 hp)))
theorem t_in_n {x lo hi : Int32} (h : x < lo ∨ hi < x) (hp : post 0 M) : CI G d mX8_in [.int x, .int lo, .int hi] M post := by
  refine eX8_in (bX8_in_0 ?_)
  by_cases h1 : x < lo
  · exact ite_ti h1 hp
  · exact ite_fi h1 (ite_ti (h.resolve_left h1) hp)
/-- in(x, 0, n) -/
theorem t_inN_y {j n : Nat} (hj : j < n + 1) (hn : n + 1 < 2 ^ 31) (hp : post 1 M) : CI G d mX8_in [.int (nI j), .int 0, .int (nI n)] M post :=
  t_in_y (by rw [show (0 : Int32) = nI 0 from rfl, nI_ltE (by omega) (by omega)]; omega) (by rw [nI_ltE (by omega) (by omega)]; omega) hp
theorem t_inN_n {x : Int32} {n : Nat} (hx : jno x (n + 1)) (hn : n + 1 < 2 ^ 31) (hp : post 0 M) : CI G d mX8_in [.int x, .int 0, .int (nI n)] M post :=
  t_in_n (hx.imp id fun h => by rw [Int32.lt_iff_toInt_lt, nI_toInt (by omega)]; rw [Int32.le_iff_toInt_le, nI_toInt (by omega)] at h; omega) hp
theorem nI_m1 {n : Nat} (hn : n < 2 ^ 31) : (nI n - 1).toInt = (n : Int) - 1 := by
  cases n with
  | zero => rfl
  | succ n => rw [nI_pred, nI_toInt (by omega)]; omega
/-- in(x, 0, n - 1) -/
theorem t_inM_y {j n : Nat} (hj : j < n) (hn : n < 2 ^ 31) (hp : post 1 M) : CI G d mX8_in [.int (nI j), .int 0, .int (nI n - 1)] M post :=
  t_in_y (by rw [show (0 : Int32) = nI 0 from rfl, nI_ltE (by omega) (by omega)]; omega) (by rw [Int32.lt_iff_toInt_lt, nI_m1 hn, nI_toInt (by omega)]; omega) hp
theorem t_inM_n {x : Int32} {n : Nat} (hx : jno x n) (hn : n < 2 ^ 31) (hp : post 0 M) : CI G d mX8_in [.int x, .int 0, .int (nI n - 1)] M post :=
  t_in_n (hx.imp id fun h => by rw [Int32.lt_iff_toInt_lt, nI_m1 hn]; rw [Int32.le_iff_toInt_le, nI_toInt (by omega)] at h; omega) hp
theorem t_isSuit_y {n j : Nat} (hS : M 118 0 = nI n) (hn : n ≤ 8) (hj : j < n) (hp : post 1 M) : CI G (d + 1) mX8_isSuit [.ref 117, .int (nI j)] M post := by
  refine eX8_isSuit (bX8_isSuit_0 ?_)
  rw [hS]
  exact t_inM_y hj (by omega) ⟨Or.inr rfl, hp⟩
theorem t_isSuit_n {n : Nat} {x : Int32} (hS : M 118 0 = nI n) (hn : n ≤ 8) (hx : jno x n) (hp : post 0 M) : CI G (d + 1) mX8_isSuit [.ref 117, .int x] M post := by
  refine eX8_isSuit (bX8_isSuit_0 ?_)
  rw [hS]
  exact t_inM_n hx (by omega) ⟨Or.inl rfl, hp⟩
theorem t_isJudge_y {n j : Nat} (hS : M 118 1 = nI n) (hn : n ≤ 8) (hj : j < n) (hp : post 1 M) : CI G (d + 1) mX8_isJudge [.ref 117, .int (nI j)] M post := by
  refine eX8_isJudge (bX8_isJudge_0 ?_)
  rw [hS]
  exact t_inM_y hj (by omega) ⟨Or.inr rfl, hp⟩
theorem t_isJudge_n {n : Nat} {x : Int32} (hS : M 118 1 = nI n) (hn : n ≤ 8) (hx : jno x n) (hp : post 0 M) : CI G (d + 1) mX8_isJudge [.ref 117, .int x] M post := by
  refine eX8_isJudge (bX8_isJudge_0 ?_)
  rw [hS]
  exact t_inM_n hx (by omega) ⟨Or.inl rfl, hp⟩
theorem t_hasJudge_y {nS j : Nat} (hS : M 1 4 = nI nS) (h8 : nS ≤ 4) (hj : j < nS) (hp : post 1 M) : CI G d mX2_hasJudge [.ref 1, .int (nI j)] M post := by
  refine eX2_hasJudge (bX2_hasJudge_0 ?_)
  simp (disch := omega) only [hS, jlit, nI_ltE, nI_leE, nI_eqE, vp_inT, nI_add, nI_subE, nI_clamp, if_pos, if_neg, true_and, and_true]
  exact hp
theorem t_hasJudge_n {nS : Nat} {x : Int32} (hS : M 1 4 = nI nS) (h8 : nS ≤ 4) (hx : jno x nS) (hp : post 0 M) : CI G d mX2_hasJudge [.ref 1, .int x] M post := by
  refine eX2_hasJudge (bX2_hasJudge_0 ?_)
  rw [hS]
  exact jno_i hx hp
theorem t_pointsOf {nS j : Nat} (hS : M 1 1 = nI nS) (h8 : nS ≤ 8) (hj : j < nS) (hp : post (M 2 j) M) : CI G (d + 1) mX2_pointsOf [.ref 1, .int (nI j)] M post := by
  refine eX2_pointsOf (bX2_pointsOf_0 (t_hasSuit_y hS h8 hj ?_))
  simp (disch := omega) only [jlit, nI_ltE, nI_leE, nI_eqE, vp_inT, nI_add, nI_subE, nI_clamp, if_pos, if_neg, true_and, and_true]
  exact hp
theorem t_worthOf {nS j : Nat} (hS : M 1 1 = nI nS) (h8 : nS ≤ 8) (hj : j < nS) (hp : post (M 3 j) M) : CI G (d + 1) mX2_worthOf [.ref 1, .int (nI j)] M post := by
  refine eX2_worthOf (bX2_worthOf_0 (t_hasSuit_y hS h8 hj ?_))
  simp (disch := omega) only [jlit, nI_ltE, nI_leE, nI_eqE, vp_inT, nI_add, nI_subE, nI_clamp, if_pos, if_neg, true_and, and_true]
  exact hp
/-- beyond the suits: 0 -/
theorem t_pointsOf_n {nS : Nat} {x : Int32} (hS : M 1 1 = nI nS) (h8 : nS ≤ 8) (hx : jno x nS) (hp : post 0 M) : CI G (d + 1) mX2_pointsOf [.ref 1, .int x] M post :=
  eX2_pointsOf (bX2_pointsOf_0 (t_hasSuit_n hS h8 hx (ite_ti rfl hp)))
theorem t_worthOf_n {nS : Nat} {x : Int32} (hS : M 1 1 = nI nS) (h8 : nS ≤ 8) (hx : jno x nS) (hp : post 0 M) : CI G (d + 1) mX2_worthOf [.ref 1, .int x] M post :=
  eX2_worthOf (bX2_worthOf_0 (t_hasSuit_n hS h8 hx (ite_ti rfl hp)))
theorem t_kindOf {nS j : Nat} (hS : M 1 4 = nI nS) (h8 : nS ≤ 4) (hj : j < nS) (hp : post (M 4 j) M) : CI G (d + 1) mX2_kindOf [.ref 1, .int (nI j)] M post := by
  refine eX2_kindOf (bX2_kindOf_0 (t_hasJudge_y hS h8 hj ?_))
  simp (disch := omega) only [jlit, nI_ltE, nI_leE, nI_eqE, vp_inT, nI_add, nI_subE, nI_clamp, if_pos, if_neg, true_and, and_true]
  exact hp
theorem t_numberOf {nS j : Nat} (hS : M 1 4 = nI nS) (h8 : nS ≤ 4) (hj : j < nS) (hp : post (M 5 j) M) : CI G (d + 1) mX2_numberOf [.ref 1, .int (nI j)] M post := by
  refine eX2_numberOf (bX2_numberOf_0 (t_hasJudge_y hS h8 hj ?_))
  simp (disch := omega) only [jlit, nI_ltE, nI_leE, nI_eqE, vp_inT, nI_add, nI_subE, nI_clamp, if_pos, if_neg, true_and, and_true]
  exact hp
end TT
