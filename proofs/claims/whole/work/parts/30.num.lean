theorem jlit (n : Nat) : (OfNat.ofNat n : Int32) = nI (OfNat.ofNat n) := rfl
def jno (x : Int32) (n : Nat) : Prop := x < 0 ∨ nI n ≤ x
theorem jix (x : Int32) {n : Nat} (hn : n < 2 ^ 31) : jno x n ∨ ∃ j : Nat, j < n ∧ x = nI j := by
  rcases pk_ix x hn with h | h | h
  · exact Or.inl (Or.inl h)
  · exact Or.inl (Or.inr h)
  · exact Or.inr h
theorem nI_ltE {a b : Nat} (ha : a < 2 ^ 31) (hb : b < 2 ^ 31) : (nI a < nI b) = (a < b) := propext (nI_ltI ha hb)
theorem nI_leE {a b : Nat} (ha : a < 2 ^ 31) (hb : b < 2 ^ 31) : (nI a ≤ nI b) = (a ≤ b) := propext (nI_leI ha hb)
theorem nI_eqE {a b : Nat} (ha : a < 2 ^ 31) (hb : b < 2 ^ 31) : (nI a = nI b) = (a = b) := propext (nI_eq ha hb)
theorem vp_inT {n N : Nat} (h : n < N) (hn : n < 2 ^ 31) : vp_in (nI n) N = True := by
  apply eq_true
  rw [vp_in_iff, nI_toInt hn]
  omega
theorem nI_subE {a b : Nat} (h : b ≤ a) : nI a - nI b = nI (a - b) := pk_sub h
theorem jno_le {x : Int32} {n m : Nat} (h : jno x n) (hx : ¬ x < 0) (hm : m ≤ n) (hn : n < 2 ^ 31) : nI m ≤ x := by
  rcases h with h | h
  · exact absurd h hx
  · rw [Int32.le_iff_toInt_le, nI_toInt (by omega)] at h ⊢
    omega
theorem t_hasSuit_y {G : jGT} {d : Nat} {M : jM} {nS j : Nat} {post : Int32 → jM → Prop} (hS : M 1 1 = nI nS) (h8 : nS ≤ 8) (hj : j < nS) (hp : post 1 M) : CI G d mX2_hasSuit [.ref 1, .int (nI j)] M post := by
  refine eX2_hasSuit (bX2_hasSuit_0 ?_)
  simp (disch := omega) only [hS, jlit, nI_ltE, nI_leE, nI_eqE, vp_inT, nI_add, nI_subE, nI_clamp, if_pos, if_neg, true_and, and_true]
  exact hp
theorem t_hasSuit_n {G : jGT} {d : Nat} {M : jM} {nS : Nat} {x : Int32} {post : Int32 → jM → Prop} (hS : M 1 1 = nI nS) (h8 : nS ≤ 8) (hx : jno x nS) (hp : post 0 M) : CI G d mX2_hasSuit [.ref 1, .int x] M post := by
  refine eX2_hasSuit (bX2_hasSuit_0 ?_)
  rw [hS]
  by_cases h0 : x < 0
  · simp [h0, hp]
  · have := jno_le hx h0 (Nat.le_refl nS) (by omega)
    simp [h0, this, hp]
