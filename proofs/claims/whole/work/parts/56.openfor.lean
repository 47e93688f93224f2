/-- the law in force, on both sides -/
def LC (M : jM) (a : jA4) : Prop := LW (M 118) a ∧ ∃ nL, M 1 15 = nI nL ∧ nL ≤ 100 ∧ (∀ k, k < nL → ∃ b : Nat, b < 128 ∧ M 10 k = nI b) ∧ ((nL = 0 ∧ a = qStart) ∨ (nL ≠ 0 ∧ qCourt (qH (M 10) nL) nL = .inr a))
theorem LC_of {M : jM} {nC nL : Nat} (h : RLa nC nL (M 1) (fun i => M (2 + i)) (M 118)) : ∃ a, LC M a := by
  obtain ⟨h1, h2, h3, h4, h5, h6, h7⟩ := h
  rcases h7 with ⟨h7, h8⟩ | ⟨c, m, a, g1, g2, g3, g4, g5, g6, g7, g8⟩
  · exact ⟨qStart, ⟨fun _ _ _ _ => rfl, Gd_0, by decide, Or.inl ⟨h7, rfl⟩⟩, nL, h4, h5, h6, Or.inl ⟨h8, rfl⟩⟩
  · obtain ⟨o1, o2, o3, o4⟩ := qCourt_ok (qH_end _ _) g5
    refine ⟨a, ⟨o4, o3, by omega, Or.inr ⟨c, m, by omega, g2, g3, g4, g6, g7, g8⟩⟩, nL, h4, h5, h6, Or.inr ⟨?_, g5⟩⟩
    intro z
    subst z
    have : qCourt (qH (M 10) 0) 0 = .inl 0 := by
      unfold qCourt
      rw [qClauses, show qClause (qH (M 10) 0) 0 0 = .inl 0 from by
        unfold qClause
        rw [show qH (M 10) 0 0 = 128 from qH_end _ _ 0 (Nat.le_refl _)]
        rfl]
    have g5 : qCourt (qH (M 10) 0) 0 = .inr a := g5
    rw [this] at g5
    cases g5
theorem LC.congr {M M' : jM} {a : jA4} (h : LC M a) (e1 : M' 1 = M 1) (e2 : M' 10 = M 10) (e3 : M' 118 = M 118) : LC M' a := by
  unfold LC at *
  rw [e1, e2, e3]
  exact h
section OF
variable {G : jGT} {d : Nat} {M : jM} {L : List (Nat × Nat)} {j nS n kd v dy : Nat} {row : Nat → Nat} {a : jA4} {post : jM → Prop}
theorem c_openFor (hJ : JD M j kd v dy row) (hB : BL M nS n L) (hL : LC M a) (h : ∀ M', SE M' (venv kd v dy row a) → SLi M' L → (∀ b, b < 21 ∨ 32 < b → M' b = M b) → post M') : CV G (d + 11) mX7_openFor [.ref 0, .int (nI j)] M post := by
  have hJ' := hJ
  obtain ⟨⟨j0, j1, j2, j3, j4, j5, j6⟩, k1, k2, k3, ⟨nJ, k4, k5, k6⟩, k7⟩ := hJ'
  obtain ⟨-, nL, l1, l2, l3, l4⟩ := hL
  refine eX7_openFor (bX7_openFor_0 (t_kindOf k4 k5 k6 (t_numberOf k4 k5 k6 ?_)))
  rw [l1, k1, k2, k3]
  have fin : ∀ M1 : jM, frL M M1 → (∀ p, p < 8 → M1 22 p = a.2.1 kd v dy p ∧ M1 23 p = a.2.2.1 kd v dy p) → M1 21 2 = nI a.2.2.2 → CV G (d + 10) mX5_open [.ref 27, .ref 1, .ref 21, .int (nI j)] M1 (fun M4 => post M4) := by
    intro M1 f1 f2 f3
    refine c_open (d := d + 8) (hJ.congr (f1 1 (by omega)) (f1 4 (by omega)) (f1 5 (by omega)) (f1 6 (by omega)) (f1 118 (by omega))) (hB.congr (f1 1 (by omega)) (f1 2 (by omega)) (f1 7 (by omega)) (f1 118 (by omega))) f2 f3 (fun M' g1 g2 g3 => h M' g1 g2 (fun b hb => (g3 b (by omega)).trans (f1 b (by omega))))
  refine c_learnL l2 l3 (by omega) (by omega) (by omega) (fun n0 e' q => ?_) (fun n0 a' q M' f1 f2 f3 => ?_) (fun n0 M' f1 f2 f3 => ?_)
  · rcases l4 with ⟨z, _⟩ | ⟨_, z⟩
    · exact absurd z n0
    · rw [z] at q; cases q
  · rcases l4 with ⟨z, _⟩ | ⟨_, z⟩
    · exact absurd z n0
    · rw [z] at q; cases q
      exact fin M' f1 f2 f3
  · rcases l4 with ⟨_, z⟩ | ⟨z, _⟩
    · subst z
      exact fin M' f1 f2 f3
    · exact absurd n0 z
end OF
