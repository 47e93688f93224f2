def RS (nS : Nat) (sc : Nat → Int32) (ar : Nat → Nat → Int32) (s : Nat → Int32) : Prop := sc 1 = nI nS ∧ s 0 = nI nS ∧ nS ≤ 8 ∧ ∀ k, k < nS → ∃ p w : Nat, p < 256 ∧ w < 100 ∧ ar 0 k = nI p ∧ s (10 + k) = nI p ∧ ar 1 k = nI w ∧ s (18 + k) = nI w
def RJu (nJ : Nat) (sc : Nat → Int32) (ar : Nat → Nat → Int32) (s : Nat → Int32) : Prop := sc 4 = nI nJ ∧ s 1 = nI nJ ∧ nJ ≤ 4 ∧ (∀ k, k < nJ → ∃ kd v : Nat, kd < 7 ∧ v < 10 ∧ ar 2 k = nI kd ∧ s (26 + k) = nI kd ∧ ar 3 k = nI v ∧ s (30 + k) = nI v) ∧ ∀ k, k < 16 → ∃ m : Nat, m ≤ 2 ∧ ar 4 k = nI m ∧ (k < 4 * nJ → s (34 + k) = nI m) ∧ (4 * nJ ≤ k → m = 0)
def REn (nS nE : Nat) (sc : Nat → Int32) (ar : Nat → Nat → Int32) (s : Nat → Int32) : Prop := sc 8 = nI nE ∧ s 3 = nI nE ∧ nE ≤ 24 ∧ ∀ k, k < nE → ∃ t f : Nat, t < nS ∧ f < 2 ∧ ar 5 k = nI (2 * t + f) ∧ s (50 + k) = nI t ∧ s (74 + k) = nI f
def RQu (nS nQ : Nat) (sc : Nat → Int32) (ar : Nat → Nat → Int32) (s : Nat → Int32) : Prop := sc 10 = nI nQ ∧ s 4 = nI nQ ∧ nQ ≤ 8 ∧ ∀ k, k < nQ → ∃ t : Nat, t < nS ∧ ar 6 k = nI t ∧ s (98 + k) = nI t
def RTa (nT : Nat) (sc : Nat → Int32) (ar : Nat → Nat → Int32) (s : Nat → Int32) : Prop := sc 12 = nI nT ∧ s 5 = nI nT ∧ nT ≤ 100 ∧ ∀ k, k < nT → ∃ b : Nat, b < 128 ∧ ar 7 k = nI b ∧ s (106 + k) = nI b
def jbyte (x : Int32) : Prop := fits .byte (.int x) = true
def RBy (ar : Nat → Nat → Int32) : Prop := ∀ k, k < 100 → jbyte (ar 7 k) ∧ jbyte (ar 8 k)
def RDa (nD : Nat) (sc s : Nat → Int32) : Prop := sc 0 = nI nD ∧ s 7 = nI nD ∧ nD ≤ 9
def RLa (nC nL : Nat) (sc : Nat → Int32) (ar : Nat → Nat → Int32) (s : Nat → Int32) : Prop := sc 14 = nI nC ∧ s 2 = nI nC ∧ nC ≤ 5 ∧ sc 15 = nI nL ∧ nL ≤ 100 ∧ (∀ k, k < nL → ∃ b : Nat, b < 128 ∧ ar 8 k = nI b) ∧
  ((s 6 = -1 ∧ nL = 0) ∨ ∃ (c m : Nat) (a : jA4), c < nC ∧ s 6 = nI c ∧ s (211 + c) = nI m ∧ m ≤ 100 ∧ qCourt (qH (ar 8) nL) nL = .inr a ∧ a.1.length = m ∧ (∀ i, i < m → ∃ q, a.1[i]? = some q ∧ s (216 + 140 * c + i) = enc q) ∧ s (206 + c) = nI a.2.2.2)
/-- the hall and the model's numbers -/
def HR (sc : Nat → Int32) (ar : Nat → Nat → Int32) (s : Nat → Int32) : Prop := ∃ nS nJ nE nQ nT nD nC nL : Nat, RS nS sc ar s ∧ RJu nJ sc ar s ∧ REn nS nE sc ar s ∧ RQu nS nQ sc ar s ∧ RTa nT sc ar s ∧ RBy ar ∧ RDa nD sc s ∧ RLa nC nL sc ar s
def HN (M : jM) : Prop := HR (M 1) (fun i => M (2 + i)) (M 118)
def HK (M : jM) : Prop := HR (M 11) (fun i => M (12 + i)) (M 119)
def DRn (M : jM) : Prop := ∃ n : Nat, n ≤ 20 ∧ M 115 1 = nI n ∧ M 117 27 = nI n ∧ ∀ k, k < n → M 116 k = M 129 k
def Rel (M : jM) : Prop := HN M ∧ ((M 0 2 = 0 ∧ M 117 3 = 0 ∧ ∀ k, k < 100 → jbyte (M 19 k) ∧ jbyte (M 20 k)) ∨ (M 0 2 = 1 ∧ M 117 3 = 1 ∧ HK M)) ∧ DRn M
/-- nothing of the state has changed -/
def Keep (M M' : jM) : Prop := (∀ a, a ≤ 20 → M' a = M a) ∧ M' 115 = M 115 ∧ M' 116 = M 116 ∧ M' 118 = M 118 ∧ M' 119 = M 119 ∧ M' 117 3 = M 117 3 ∧ M' 117 27 = M 117 27 ∧ M' 129 = M 129
theorem Keep.refl (M : jM) : Keep M M := ⟨fun _ _ => rfl, rfl, rfl, rfl, rfl, rfl, rfl, rfl⟩
theorem Keep.trans {M M' M'' : jM} (h : Keep M M') (h' : Keep M' M'') : Keep M M'' :=
  ⟨fun a ha => (h'.1 a ha).trans (h.1 a ha), h'.2.1.trans h.2.1, h'.2.2.1.trans h.2.2.1, h'.2.2.2.1.trans h.2.2.2.1, h'.2.2.2.2.1.trans h.2.2.2.2.1, h'.2.2.2.2.2.1.trans h.2.2.2.2.2.1, h'.2.2.2.2.2.2.1.trans h.2.2.2.2.2.2.1, h'.2.2.2.2.2.2.2.trans h.2.2.2.2.2.2.2⟩
theorem Rel.keep {M M' : jM} (h : Rel M) (k : Keep M M') : Rel M' := by
  obtain ⟨k1, k2, k3, k4, k5, k6, k7, k8⟩ := k
  have e1 : HN M' = HN M := by
    unfold HN
    rw [k1 1 (by omega), k4]
    have : (fun i => M' (2 + i)) = (fun i => M' (2 + i)) := rfl
    apply propext
    constructor
    · intro h
      obtain ⟨nS, nJ, nE, nQ, nT, nD, nC, nL, h1, h2, h3, h4, h5, h6, h7, h8⟩ := h
      unfold RS RJu REn RQu RTa RBy RLa at *
      simp only [k1 (2 + 0) (by omega), k1 (2 + 1) (by omega), k1 (2 + 2) (by omega), k1 (2 + 3) (by omega), k1 (2 + 4) (by omega), k1 (2 + 5) (by omega), k1 (2 + 6) (by omega), k1 (2 + 7) (by omega), k1 (2 + 8) (by omega)] at h1 h2 h3 h4 h5 h6 h7 h8
      exact ⟨nS, nJ, nE, nQ, nT, nD, nC, nL, h1, h2, h3, h4, h5, h6, h7, h8⟩
    · intro h
      obtain ⟨nS, nJ, nE, nQ, nT, nD, nC, nL, h1, h2, h3, h4, h5, h6, h7, h8⟩ := h
      refine ⟨nS, nJ, nE, nQ, nT, nD, nC, nL, ?_⟩
      unfold RS RJu REn RQu RTa RBy RLa at *
      simp only [k1 (2 + 0) (by omega), k1 (2 + 1) (by omega), k1 (2 + 2) (by omega), k1 (2 + 3) (by omega), k1 (2 + 4) (by omega), k1 (2 + 5) (by omega), k1 (2 + 6) (by omega), k1 (2 + 7) (by omega), k1 (2 + 8) (by omega)]
      exact ⟨h1, h2, h3, h4, h5, h6, h7, h8⟩
  have e2 : HK M → HK M' := by
    intro h
    unfold HK at *
    rw [k1 11 (by omega), k5]
    obtain ⟨nS, nJ, nE, nQ, nT, nD, nC, nL, h1, h2, h3, h4, h5, h6, h7, h8⟩ := h
    refine ⟨nS, nJ, nE, nQ, nT, nD, nC, nL, ?_⟩
    unfold RS RJu REn RQu RTa RBy RLa at *
    simp only [k1 (12 + 0) (by omega), k1 (12 + 1) (by omega), k1 (12 + 2) (by omega), k1 (12 + 3) (by omega), k1 (12 + 4) (by omega), k1 (12 + 5) (by omega), k1 (12 + 6) (by omega), k1 (12 + 7) (by omega), k1 (12 + 8) (by omega)]
    exact ⟨h1, h2, h3, h4, h5, h6, h7, h8⟩
  refine ⟨e1.symm ▸ h.1, ?_, ?_⟩
  · rw [k1 0 (by omega), k6, k1 19 (by omega), k1 20 (by omega)]
    rcases h.2.1 with h1 | h1
    · exact Or.inl h1
    · exact Or.inr ⟨h1.1, h1.2.1, e2 h1.2.2⟩
  · obtain ⟨n, hn, h1, h2, h3⟩ := h.2.2
    exact ⟨n, hn, by rw [k2]; exact h1, by rw [k7]; exact h2, fun k hk => by rw [k3, k8]; exact h3 k hk⟩
