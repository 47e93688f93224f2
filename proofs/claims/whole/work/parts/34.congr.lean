theorem RS.congr {n : Nat} {sc sc' s s' : Nat → Int32} {ar ar' : Nat → Nat → Int32} (h : RS n sc ar s) (e1 : sc' 1 = sc 1) (e2 : s' 0 = s 0) (e3 : ∀ k, k < 8 → ar' 0 k = ar 0 k ∧ ar' 1 k = ar 1 k ∧ s' (10 + k) = s (10 + k) ∧ s' (18 + k) = s (18 + k)) : RS n sc' ar' s' := by
  obtain ⟨h1, h2, h3, h4⟩ := h
  refine ⟨e1.trans h1, e2.trans h2, h3, fun k hk => ?_⟩
  obtain ⟨a, b, c, d⟩ := e3 k (by omega)
  rw [a, b, c, d]
  exact h4 k hk
theorem RJu.congr {n : Nat} {sc sc' s s' : Nat → Int32} {ar ar' : Nat → Nat → Int32} (h : RJu n sc ar s) (e1 : sc' 4 = sc 4) (e2 : s' 1 = s 1) (e3 : ∀ k, k < 4 → ar' 2 k = ar 2 k ∧ ar' 3 k = ar 3 k ∧ s' (26 + k) = s (26 + k) ∧ s' (30 + k) = s (30 + k)) (e4 : ∀ k, k < 16 → ar' 4 k = ar 4 k ∧ s' (34 + k) = s (34 + k)) : RJu n sc' ar' s' := by
  obtain ⟨h1, h2, h3, h4, h5⟩ := h
  refine ⟨e1.trans h1, e2.trans h2, h3, fun k hk => ?_, fun k hk => ?_⟩
  · obtain ⟨a, b, c, d⟩ := e3 k (by omega)
    rw [a, b, c, d]
    exact h4 k hk
  · obtain ⟨a, b⟩ := e4 k hk
    rw [a, b]
    exact h5 k hk
theorem REn.congr {n m : Nat} {sc sc' s s' : Nat → Int32} {ar ar' : Nat → Nat → Int32} (h : REn n m sc ar s) (e1 : sc' 8 = sc 8) (e2 : s' 3 = s 3) (e3 : ∀ k, k < 24 → ar' 5 k = ar 5 k ∧ s' (50 + k) = s (50 + k) ∧ s' (74 + k) = s (74 + k)) : REn n m sc' ar' s' := by
  obtain ⟨h1, h2, h3, h4⟩ := h
  refine ⟨e1.trans h1, e2.trans h2, h3, fun k hk => ?_⟩
  obtain ⟨a, b, c⟩ := e3 k (by omega)
  rw [a, b, c]
  exact h4 k hk
theorem RQu.congr {n m : Nat} {sc sc' s s' : Nat → Int32} {ar ar' : Nat → Nat → Int32} (h : RQu n m sc ar s) (e1 : sc' 10 = sc 10) (e2 : s' 4 = s 4) (e3 : ∀ k, k < 8 → ar' 6 k = ar 6 k ∧ s' (98 + k) = s (98 + k)) : RQu n m sc' ar' s' := by
  obtain ⟨h1, h2, h3, h4⟩ := h
  refine ⟨e1.trans h1, e2.trans h2, h3, fun k hk => ?_⟩
  obtain ⟨a, b⟩ := e3 k (by omega)
  rw [a, b]
  exact h4 k hk
theorem RTa.congr {m : Nat} {sc sc' s s' : Nat → Int32} {ar ar' : Nat → Nat → Int32} (h : RTa m sc ar s) (e1 : sc' 12 = sc 12) (e2 : s' 5 = s 5) (e3 : ∀ k, k < 100 → ar' 7 k = ar 7 k ∧ s' (106 + k) = s (106 + k)) : RTa m sc' ar' s' := by
  obtain ⟨h1, h2, h3, h4⟩ := h
  refine ⟨e1.trans h1, e2.trans h2, h3, fun k hk => ?_⟩
  obtain ⟨a, b⟩ := e3 k (by omega)
  rw [a, b]
  exact h4 k hk
theorem RBy.congr {ar ar' : Nat → Nat → Int32} (h : RBy ar) (e : ∀ k, k < 100 → ar' 7 k = ar 7 k ∧ ar' 8 k = ar 8 k) : RBy ar' := fun k hk => by
  obtain ⟨a, b⟩ := e k hk
  rw [a, b]
  exact h k hk
theorem RDa.congr {m : Nat} {sc sc' s s' : Nat → Int32} (h : RDa m sc s) (e1 : sc' 0 = sc 0) (e2 : s' 7 = s 7) : RDa m sc' s' := ⟨e1.trans h.1, e2.trans h.2.1, h.2.2⟩
theorem RLa.congr {n m : Nat} {sc sc' s s' : Nat → Int32} {ar ar' : Nat → Nat → Int32} (h : RLa n m sc ar s) (e1 : sc' 14 = sc 14) (e2 : s' 2 = s 2) (e3 : sc' 15 = sc 15) (e4 : s' 6 = s 6) (e5 : ∀ k, k < 100 → ar' 8 k = ar 8 k) (e6 : ∀ k, 206 ≤ k → k < 916 → s' k = s k) : RLa n m sc' ar' s' := by
  obtain ⟨h1, h2, h3, h4, h5, h6, h7⟩ := h
  refine ⟨e1.trans h1, e2.trans h2, h3, e3.trans h4, h5, fun k hk => by rw [e5 k (by omega)]; exact h6 k hk, ?_⟩
  rcases h7 with ⟨h7, h8⟩ | ⟨c, l, a, g1, g2, g3, g4, g5, g6, g7, g8⟩
  · exact Or.inl ⟨e4.trans h7, h8⟩
  · refine Or.inr ⟨c, l, a, g1, e4.trans g2, (e6 _ (by omega) (by omega)).trans g3, g4, ?_, g6, fun i hi => ?_, (e6 _ (by omega) (by omega)).trans g8⟩
    · rw [qH_congr fun k hk => e5 k (by omega)]
      exact g5
    · rw [e6 _ (by omega) (by omega)]
      exact g7 i hi
theorem HK.congr {M M' : jM} (h : HK M) (k1 : ∀ a, 11 ≤ a → a ≤ 20 → M' a = M a) (k5 : M' 119 = M 119) : HK M' := by
  unfold HK at *
  rw [k1 11 (by omega) (by omega), k5]
  obtain ⟨nS, nJ, nE, nQ, nT, nD, nC, nL, h1, h2, h3, h4, h5, h6, h7, h8⟩ := h
  refine ⟨nS, nJ, nE, nQ, nT, nD, nC, nL, ?_⟩
  unfold RS RJu REn RQu RTa RBy RLa at *
  simp only [k1 (12 + 0) (by omega) (by omega), k1 (12 + 1) (by omega) (by omega), k1 (12 + 2) (by omega) (by omega), k1 (12 + 3) (by omega) (by omega), k1 (12 + 4) (by omega) (by omega), k1 (12 + 5) (by omega) (by omega), k1 (12 + 6) (by omega) (by omega), k1 (12 + 7) (by omega) (by omega), k1 (12 + 8) (by omega) (by omega)]
  exact ⟨h1, h2, h3, h4, h5, h6, h7, h8⟩
theorem Rel.hn {M M' : jM} (h : Rel M) (hn : HN M') (hu : ∀ a, (a = 0 ∨ (11 ≤ a ∧ a ≤ 20) ∨ (115 ≤ a ∧ a ≠ 118)) → M' a = M a) : Rel M' := by
  refine ⟨hn, ?_, ?_⟩
  · rw [hu 0 (by omega), hu 117 (by omega), hu 19 (by omega), hu 20 (by omega)]
    rcases h.2.1 with h1 | h1
    · exact Or.inl h1
    · exact Or.inr ⟨h1.1, h1.2.1, h1.2.2.congr (fun a h1 h2 => hu a (by omega)) (hu 119 (by omega))⟩
  · obtain ⟨n, hn, h1, h2, h3⟩ := h.2.2
    exact ⟨n, hn, by rw [hu 115 (by omega)]; exact h1, by rw [hu 117 (by omega)]; exact h2, fun k hk => by rw [hu 116 (by omega), hu 129 (by omega)]; exact h3 k hk⟩
theorem byte_small {j : Nat} (h : j < 128) : (nI j).toInt8.toInt32 = nI j := lg_i2b_small (by rw [nI_toInt (by omega)]; omega) (by rw [nI_toInt (by omega)]; omega)
theorem byte_nar {j : Nat} (h : j < 128) : vp_nar .byte (nI j).toInt8.toInt32 = nI j := by rw [vp_nar_byte, byte_small h, byte_small h]
theorem jbyte_nI : ∀ j : Nat, j < 128 → jbyte (nI j) := by unfold jbyte; decide +kernel
