theorem RS.congr {n : Nat} {sc sc' s s' : Nat → Int32} {ar ar' : Nat → Nat → Int32} (h : RS n sc ar s) (e1 : sc' 1 = sc 1) (e2 : s' 0 = s 0) (e3 : ∀ k, k < 8 → ar' 0 k = ar 0 k ∧ ar' 1 k = ar 1 k ∧ s' (10 + k) = s (10 + k) ∧ s' (18 + k) = s (18 + k)) : RS n sc' ar' s' := by
  obtain ⟨h1, h2, h3, h4⟩ := h
  refine ⟨e1.trans h1, e2.trans h2, h3, fun k hk => ?_⟩
  obtain ⟨a, b, c, d⟩ := e3 k (by omega)
  rw [a, b, c, d]
  exact h4 k hk
theorem RJu.congr {n : Nat} {sc sc' s s' : Nat → Int32} {ar ar' : Nat → Nat → Int32} (h : RJu n sc ar s) (e1 : sc' 4 = sc 4) (e2 : s' 1 = s 1) (e3 : ∀ k, k < 4 → ar' 2 k = ar 2 k ∧ ar' 3 k = ar 3 k ∧ s' (26 + k) = s (26 + k) ∧ s' (30 + k) = s (30 + k)) (e4 : ∀ k, k < 16 → ar' 4 k = ar 4 k ∧ s' (34 + k) = s (34 + k)) : RJu n sc' ar' s' := by
  obtain ⟨h1, h2, h3, h4, h5⟩ := h
  refine ⟨e1.trans h1, e2.trans h2, h3, fun k hk => ?_, fun k hk => ?_⟩
  · obtain ⟨a, b, c, d⟩ := e3 k (by omega)
    rw [a, b, c, d]
    exact h4 k hk
  · obtain ⟨a, b⟩ := e4 k hk
    rw [a, b]
    exact h5 k hk
theorem REn.congr {n m : Nat} {sc sc' s s' : Nat → Int32} {ar ar' : Nat → Nat → Int32} (h : REn n m sc ar s) (e1 : sc' 8 = sc 8) (e2 : s' 3 = s 3) (e3 : ∀ k, k < 24 → ar' 5 k = ar 5 k ∧ s' (50 + k) = s (50 + k) ∧ s' (74 + k) = s (74 + k)) : REn n m sc' ar' s' := by
  obtain ⟨h1, h2, h3, h4⟩ := h
  refine ⟨e1.trans h1, e2.trans h2, h3, fun k hk => ?_⟩
  obtain ⟨a, b, c⟩ := e3 k (by omega)
  rw [a, b, c]
  exact h4 k hk
theorem RQu.congr {n m : Nat} {sc sc' s s' : Nat → Int32} {ar ar' : Nat → Nat → Int32} (h : RQu n m sc ar s) (e1 : sc' 10 = sc 10) (e2 : s' 4 = s 4) (e3 : ∀ k, k < 8 → ar' 6 k = ar 6 k ∧ s' (98 + k) = s (98 + k)) : RQu n m sc' ar' s' := by
  obtain ⟨h1, h2, h3, h4⟩ := h
  refine ⟨e1.trans h1, e2.trans h2, h3, fun k hk => ?_⟩
  obtain ⟨a, b⟩ := e3 k (by omega)
  rw [a, b]
  exact h4 k hk
theorem RTa.congr {m : Nat} {sc sc' s s' : Nat → Int32} {ar ar' : Nat → Nat → Int32} (h : RTa m sc ar s) (e1 : sc' 12 = sc 12) (e2 : s' 5 = s 5) (e3 : ∀ k, k < 100 → ar' 7 k = ar 7 k ∧ s' (106 + k) = s (106 + k)) : RTa m sc' ar' s' := by
  obtain ⟨h1, h2, h3, h4⟩ := h
  refine ⟨e1.trans h1, e2.trans h2, h3, fun k hk => ?_⟩
  obtain ⟨a, b⟩ := e3 k (by omega)
  rw [a, b]
  exact h4 k hk
theorem RBy.congr {ar ar' : Nat → Nat → Int32} (h : RBy ar) (e : ∀ k, k < 100 → ar' 7 k = ar 7 k ∧ ar' 8 k = ar 8 k) : RBy ar' := fun k hk => by
  obtain ⟨a, b⟩ := e k hk
  rw [a, b]
  exact h k hk
theorem RDa.congr {m : Nat} {sc sc' s s' : Nat → Int32} (h : RDa m sc s) (e1 : sc' 0 = sc 0) (e2 : s' 7 = s 7) : RDa m sc' s' := ⟨e1.trans h.1, e2.trans h.2.1, h.2.2⟩
theorem RLa.congr {n m : Nat} {sc sc' s s' : Nat → Int32} {ar ar' : Nat → Nat → Int32} (h : RLa n m sc ar s) (e1 : sc' 14 = sc 14) (e2 : s' 2 = s 2) (e3 : sc' 15 = sc 15) (e4 : s' 6 = s 6) (e5 : ∀ k, k < 100 → ar' 8 k = ar 8 k) (e6 : ∀ k, 206 ≤ k → k < 916 → s' k = s k) : RLa n m sc' ar' s' := by
  obtain ⟨h1, h2, h3, h4, h5, h6, h7⟩ := h
  refine ⟨e1.trans h1, e2.trans h2, h3, e3.trans h4, h5, fun k hk => by rw [e5 k (by omega)]; exact h6 k hk, ?_⟩
  rcases h7 with ⟨h7, h8⟩ | ⟨c, l, a, g1, g2, g3, g4, g5, g6, g7, g8⟩
  · exact Or.inl ⟨e4.trans h7, h8⟩
  · refine Or.inr ⟨c, l, a, g1, e4.trans g2, (e6 _ (by omega) (by omega)).trans g3, g4, ?_, g6, fun i hi => ?_, (e6 _ (by omega) (by omega)).trans g8⟩
    · rw [qH_congr fun k hk => e5 k (by omega)]
      exact g5
    · rw [e6 _ (by omega) (by omega)]
      exact g7 i hi
theorem HK.congr {M M' : jM} (h : HK M) (k1 : ∀ a, 11 ≤ a → a ≤ 20 → M' a = M a) (k5 : M' 119 = M 119) : HK M' := by
  unfold HK at *
  rw [k1 11 (by omega) (by omega), k5]
  obtain ⟨nS, nJ, nE, nQ, nT, nD, nC, nL, h1, h2, h3, h4, h5, h6, h7, h8⟩ := h
  refine ⟨nS, nJ, nE, nQ, nT, nD, nC, nL, ?_⟩
  unfold RS RJu REn RQu RTa RBy RLa at *
  simp only [k1 (12 + 0) (by omega) (by omega), k1 (12 + 1) (by omega) (by omega), k1 (12 + 2) (by omega) (by omega), k1 (12 + 3) (by omega) (by omega), k1 (12 + 4) (by omega) (by omega), k1 (12 + 5) (by omega) (by omega), k1 (12 + 6) (by omega) (by omega), k1 (12 + 7) (by omega) (by omega), k1 (12 + 8) (by omega) (by omega)]
  exact ⟨h1, h2, h3, h4, h5, h6, h7, h8⟩
theorem Rel.hn {M M' : jM} (h : Rel M) (hn : HN M') (hu : ∀ a, (a = 0 ∨ (11 ≤ a ∧ a ≤ 20) ∨ (115 ≤ a ∧ a ≠ 118)) → M' a = M a) : Rel M' := by
  refine ⟨hn, ?_, ?_⟩
  · rw [hu 0 (by omega), hu 117 (by omega), hu 19 (by omega), hu 20 (by omega)]
    rcases h.2.1 with h1 | h1
    · exact Or.inl h1
    · exact Or.inr ⟨h1.1, h1.2.1, h1.2.2.congr (fun a h1 h2 => hu a (by omega)) (hu 119 (by omega))⟩
  · obtain ⟨n, hn, h1, h2, h3⟩ := h.2.2
    exact ⟨n, hn, by rw [hu 115 (by omega)]; exact h1, by rw [hu 117 (by omega)]; exact h2, fun k hk => by rw [hu 116 (by omega), hu 129 (by omega)]; exact h3 k hk⟩
theorem byte_small {j : Nat} (h : j < 128) : (nI j).toInt8.toInt32 = nI j := lg_i2b_small (by rw [nI_toInt (by omega)]; omega) (by rw [nI_toInt (by omega)]; omega)
theorem byte_nar {j : Nat} (h : j < 128) : vp_nar .byte (nI j).toInt8.toInt32 = nI j := by rw [vp_nar_byte, byte_small h, byte_small h]
theorem jbyte_nI : ∀ j : Nat, j < 128 → jbyte (nI j) := by unfold jbyte; decide +kernel
theorem jup_ss {M : jM} {k j : Nat} {x : Int32} : jup M k j x k j = x := by simp [jup]
theorem jup_sn {M : jM} {k j b : Nat} {x : Int32} (h : b ≠ j) : jup M k j x k b = M k b := by simp [jup, h]
theorem jup_n {M : jM} {k j a b : Nat} {x : Int32} (h : a ≠ k) : jup M k j x a b = M a b := by simp [jup, h]
/-- whose a slot is: 0 suits 1 judges 2 entries 3 queue 4 tape 5 day 6 law -/
def ow1 (k : Nat) : Nat := ([5, 0, 9, 9, 1, 9, 9, 9, 2, 9, 3, 9, 4, 9, 6, 6] : List Nat).getD k 9
def owA (a : Nat) : Nat := ([9, 9, 0, 0, 1, 1, 1, 2, 3, 4, 6] : List Nat).getD a 9
def owS (k : Nat) : Nat := if k < 8 then ([0, 1, 6, 2, 3, 4, 6, 5] : List Nat).getD k 9 else if k < 10 then 9 else if k < 26 then 0 else if k < 50 then 1 else if k < 98 then 2 else if k < 106 then 3 else if k < 206 then 4 else 6
def Fr (i : Nat) (M M' : jM) : Prop := (∀ k, ow1 k ≠ i → M' 1 k = M 1 k) ∧ (∀ a, 2 ≤ a → a ≤ 10 → owA a ≠ i → M' a = M a) ∧ ∀ k, owS k ≠ i → M' 118 k = M 118 k
theorem Fr.refl (i : Nat) (M : jM) : Fr i M M := ⟨fun _ _ => rfl, fun _ _ _ _ => rfl, fun _ _ => rfl⟩
theorem Fr.up1 {i j : Nat} {M M1 : jM} {x : Int32} (h : Fr i M M1) (ho : ow1 j = i) : Fr i M (jup M1 1 j x) :=
  ⟨fun k hk => by rw [jup_sn (fun e => hk (by rw [e]; exact ho))]; exact h.1 k hk, fun a h1 h2 h3 => by rw [jup_ne (by omega)]; exact h.2.1 a h1 h2 h3, fun k hk => by rw [jup_n (by omega)]; exact h.2.2 k hk⟩
theorem Fr.upS {i j : Nat} {M M1 : jM} {x : Int32} (h : Fr i M M1) (ho : owS j = i) : Fr i M (jup M1 118 j x) :=
  ⟨fun k hk => by rw [jup_n (by omega)]; exact h.1 k hk, fun a h1 h2 h3 => by rw [jup_ne (by omega)]; exact h.2.1 a h1 h2 h3, fun k hk => by rw [jup_sn (fun e => hk (by rw [e]; exact ho))]; exact h.2.2 k hk⟩
theorem Fr.upA {i a0 j : Nat} {M M1 : jM} {x : Int32} (h : Fr i M M1) (h2 : 2 ≤ a0 ∧ a0 ≤ 10) (ho : owA a0 = i) : Fr i M (jup M1 a0 j x) :=
  ⟨fun k hk => by rw [jup_n (by omega)]; exact h.1 k hk, fun a h1 h2 h3 => by rw [jup_ne (fun e => h3 (by rw [e]; exact ho))]; exact h.2.1 a h1 h2 h3, fun k hk => by rw [jup_n (by omega)]; exact h.2.2 k hk⟩
theorem RS.fr {n i : Nat} {M M' : jM} (h : RS n (M 1) (fun i => M (2 + i)) (M 118)) (F : Fr i M M') (hi : 0 ≠ i) : RS n (M' 1) (fun i => M' (2 + i)) (M' 118) :=
  h.congr (F.1 1 hi) (F.2.2 0 hi) fun k hk => ⟨congrFun (F.2.1 2 (by omega) (by omega) hi) k, congrFun (F.2.1 3 (by omega) (by omega) hi) k, F.2.2 _ (by rw [show owS (10 + k) = 0 by unfold owS; rw [if_neg (by omega), if_neg (by omega), if_pos (by omega)]]; exact hi), F.2.2 _ (by rw [show owS (18 + k) = 0 by unfold owS; rw [if_neg (by omega), if_neg (by omega), if_pos (by omega)]]; exact hi)⟩
theorem owS_1 {k : Nat} (h : 26 ≤ k) (h2 : k < 50) : owS k = 1 := by unfold owS; rw [if_neg (by omega), if_neg (by omega), if_neg (by omega), if_pos (by omega)]
theorem owS_2 {k : Nat} (h : 50 ≤ k) (h2 : k < 98) : owS k = 2 := by unfold owS; rw [if_neg (by omega), if_neg (by omega), if_neg (by omega), if_neg (by omega), if_pos (by omega)]
theorem owS_3 {k : Nat} (h : 98 ≤ k) (h2 : k < 106) : owS k = 3 := by unfold owS; rw [if_neg (by omega), if_neg (by omega), if_neg (by omega), if_neg (by omega), if_neg (by omega), if_pos (by omega)]
theorem owS_4 {k : Nat} (h : 106 ≤ k) (h2 : k < 206) : owS k = 4 := by unfold owS; rw [if_neg (by omega), if_neg (by omega), if_neg (by omega), if_neg (by omega), if_neg (by omega), if_neg (by omega), if_pos (by omega)]
theorem owS_6 {k : Nat} (h : 206 ≤ k) : owS k = 6 := by unfold owS; rw [if_neg (by omega), if_neg (by omega), if_neg (by omega), if_neg (by omega), if_neg (by omega), if_neg (by omega), if_neg (by omega)]
theorem owS_0 {k : Nat} (h : 10 ≤ k) (h2 : k < 26) : owS k = 0 := by unfold owS; rw [if_neg (by omega), if_neg (by omega), if_pos (by omega)]
theorem RJu.fr {n i : Nat} {M M' : jM} (h : RJu n (M 1) (fun i => M (2 + i)) (M 118)) (F : Fr i M M') (hi : 1 ≠ i) : RJu n (M' 1) (fun i => M' (2 + i)) (M' 118) :=
  h.congr (F.1 4 hi) (F.2.2 1 hi) (fun k hk => ⟨congrFun (F.2.1 4 (by omega) (by omega) hi) k, congrFun (F.2.1 5 (by omega) (by omega) hi) k, F.2.2 _ (by rw [owS_1 (by omega) (by omega)]; exact hi), F.2.2 _ (by rw [owS_1 (by omega) (by omega)]; exact hi)⟩) (fun k hk => ⟨congrFun (F.2.1 6 (by omega) (by omega) hi) k, F.2.2 _ (by rw [owS_1 (by omega) (by omega)]; exact hi)⟩)
theorem REn.fr {n m i : Nat} {M M' : jM} (h : REn n m (M 1) (fun i => M (2 + i)) (M 118)) (F : Fr i M M') (hi : 2 ≠ i) : REn n m (M' 1) (fun i => M' (2 + i)) (M' 118) :=
  h.congr (F.1 8 hi) (F.2.2 3 hi) (fun k hk => ⟨congrFun (F.2.1 7 (by omega) (by omega) hi) k, F.2.2 _ (by rw [owS_2 (by omega) (by omega)]; exact hi), F.2.2 _ (by rw [owS_2 (by omega) (by omega)]; exact hi)⟩)
theorem RQu.fr {n m i : Nat} {M M' : jM} (h : RQu n m (M 1) (fun i => M (2 + i)) (M 118)) (F : Fr i M M') (hi : 3 ≠ i) : RQu n m (M' 1) (fun i => M' (2 + i)) (M' 118) :=
  h.congr (F.1 10 hi) (F.2.2 4 hi) (fun k hk => ⟨congrFun (F.2.1 8 (by omega) (by omega) hi) k, F.2.2 _ (by rw [owS_3 (by omega) (by omega)]; exact hi)⟩)
theorem RTa.fr {m i : Nat} {M M' : jM} (h : RTa m (M 1) (fun i => M (2 + i)) (M 118)) (F : Fr i M M') (hi : 4 ≠ i) : RTa m (M' 1) (fun i => M' (2 + i)) (M' 118) :=
  h.congr (F.1 12 hi) (F.2.2 5 hi) (fun k hk => ⟨congrFun (F.2.1 9 (by omega) (by omega) hi) k, F.2.2 _ (by rw [owS_4 (by omega) (by omega)]; exact hi)⟩)
theorem RBy.fr {i : Nat} {M M' : jM} (h : RBy (fun i => M (2 + i))) (F : Fr i M M') (hi : 4 ≠ i ∧ 6 ≠ i) : RBy (fun i => M' (2 + i)) :=
  h.congr fun k hk => ⟨congrFun (F.2.1 9 (by omega) (by omega) hi.1) k, congrFun (F.2.1 10 (by omega) (by omega) hi.2) k⟩
theorem RDa.fr {m i : Nat} {M M' : jM} (h : RDa m (M 1) (M 118)) (F : Fr i M M') (hi : 5 ≠ i) : RDa m (M' 1) (M' 118) := h.congr (F.1 0 hi) (F.2.2 7 hi)
theorem RLa.fr {m n i : Nat} {M M' : jM} (h : RLa m n (M 1) (fun i => M (2 + i)) (M 118)) (F : Fr i M M') (hi : 6 ≠ i) : RLa m n (M' 1) (fun i => M' (2 + i)) (M' 118) :=
  h.congr (F.1 14 hi) (F.2.2 2 hi) (F.1 15 hi) (F.2.2 6 hi) (fun k hk => congrFun (F.2.1 10 (by omega) (by omega) hi) k) (fun k hk _ => F.2.2 k (by rw [owS_6 hk]; exact hi))
