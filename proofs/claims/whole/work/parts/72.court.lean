section QR
variable {h : Nat → Nat} {n : Nat}
def Er' (n : Nat) (f : Nat → jE) : Prop := ∀ i e, i ≤ n → f i = .inl e → e ≤ n
theorem qTest_err (hh : ∀ i, n ≤ i → h i = 128) : Er' n (qTest h) := by
  intro i e hi q
  unfold qTest at q
  cases e1 : qWhich (h i) with
  | none => rw [e1] at q; cases q; exact hi
  | some w =>
    rw [e1] at q
    have := (qWhich_lt e1).2
    have h1 : i < n := Nat.not_le.mp fun z => by have := hh i z; omega
    dsimp only at q
    cases e2 : qHow (h (i + 1)) with
    | none => rw [e2] at q; cases q; exact h1
    | some o =>
      rw [e2] at q
      have := (qHow_lt e2).2
      have h2 : i + 1 < n := Nat.not_le.mp fun z => by have := hh (i + 1) z; omega
      dsimp only at q
      cases e3 : qNum h (i + 2) with
      | inl a => rw [e3] at q; cases q; have := (qNum_err hh (i := i + 2) (by omega) e3).1; omega
      | inr a => rw [e3] at q; cases q
theorem qLoop_err (hh : ∀ i, n ≤ i → h i = 128) {f : Nat → jE} {ch code : Nat} {op : Bool → Bool → Bool} (hc : ch < 128) (hf : ∀ i x, f i = .inr x → Ok n i x) (he : Er' n f) : ∀ (k : Nat) (x : Nat × List jSt × jB) (e : Nat), x.1 ≤ n → qLoop h f ch code op k x = .inl e → e ≤ n := by
  intro k
  induction k with
  | zero => intro x e hx q; rw [qLoop] at q; cases q
  | succ k ih =>
    intro x e hx q
    obtain ⟨i, S, B⟩ := x
    rw [qLoop] at q
    by_cases z : h i = ch
    · rw [if_pos z] at q
      have h1 : i < n := Nat.not_le.mp fun w => by have := hh i w; omega
      cases e3 : f (i + 1) with
      | inl a => rw [e3] at q; cases q; exact he (i + 1) e h1 e3
      | inr y =>
        obtain ⟨j, S', B'⟩ := y
        rw [e3] at q
        dsimp only at q
        exact ih (j, S ++ S' ++ [.inr code], fun kd v dy p => op (B kd v dy p) (B' kd v dy p)) e (hf _ _ e3).2.1 q
    · rw [if_neg z] at q; cases q
theorem qEvery_err (hh : ∀ i, n ≤ i → h i = 128) {f : Nat → jE} (hf : ∀ i x, f i = .inr x → Ok n i x) (he : Er' n f) : Er' n (qEvery h n f) := by
  intro i e hi q
  unfold qEvery at q
  cases e3 : f i with
  | inl a => rw [e3] at q; cases q; exact he i e hi e3
  | inr y => rw [e3] at q; exact qLoop_err hh (by omega) hf he n y e (hf _ _ e3).2.1 q
theorem qSome_err (hh : ∀ i, n ≤ i → h i = 128) {f : Nat → jE} (hf : ∀ i x, f i = .inr x → Ok n i x) (he : Er' n f) : Er' n (qSome h n f) := by
  intro i e hi q
  unfold qSome at q
  cases e3 : qEvery h n f i with
  | inl a => rw [e3] at q; cases q; exact qEvery_err hh hf he i e hi e3
  | inr y => rw [e3] at q; exact qLoop_err hh (by omega) (fun i x q => qEvery_ok hf q) (qEvery_err hh hf he) n y e (qEvery_ok hf e3).2.1 q
theorem qFac_err (hh : ∀ i, n ≤ i → h i = 128) : ∀ r, Er' n (qFac h n r) := by
  intro r
  induction r with
  | zero =>
    intro i e hi q
    rw [qFac] at q
    by_cases z : h i = 33 ∨ h i = 40
    · rw [if_pos z] at q; cases q; exact hi
    · rw [if_neg z] at q; exact qTest_err hh i e hi q
  | succ r ih =>
    intro i e hi q
    rw [qFac] at q
    by_cases z : h i = 33
    · rw [if_pos z] at q
      have h1 : i < n := Nat.not_le.mp fun w => by have := hh i w; omega
      cases e3 : qFac h n r (i + 1) with
      | inl a => rw [e3] at q; cases q; exact ih (i + 1) e h1 e3
      | inr y => rw [e3] at q; cases q
    · rw [if_neg z] at q
      by_cases z' : h i = 40
      · rw [if_pos z'] at q
        have h1 : i < n := Nat.not_le.mp fun w => by have := hh i w; omega
        cases e3 : qSome h n (qFac h n r) (i + 1) with
        | inl a => rw [e3] at q; cases q; exact qSome_err hh (fun i x q => qFac_ok hh r i x q) ih (i + 1) e h1 e3
        | inr y =>
          obtain ⟨j, S, B⟩ := y
          rw [e3] at q
          dsimp only at q
          by_cases w : h j = 41
          · rw [if_pos w] at q; cases q
          · rw [if_neg w] at q; cases q; exact (qSome_ok (fun i x q => qFac_ok hh r i x q) e3).2.1
      · rw [if_neg z'] at q; exact qTest_err hh i e hi q
theorem qE_err (hh : ∀ i, n ≤ i → h i = 128) : Er' n (qE h n) := qSome_err hh (fun i x q => qFac_ok hh 5 i x q) (qFac_err hh 5)
theorem qWord_err (hh : ∀ i, n ≤ i → h i = 128) : ∀ (l : List Nat) (i e : Nat), (∀ c ∈ l, c < 128) → i ≤ n → qWord h l i = .inl e → e ≤ n := by
  intro l
  induction l with
  | nil => intro i e _ _ q; rw [qWord] at q; cases q
  | cons c l ih =>
    intro i e hc hi q
    rw [qWord] at q
    by_cases z : h i = c
    · rw [if_pos z] at q
      have := hc c (by simp)
      have h1 : i < n := Nat.not_le.mp fun w => by have := hh i w; omega
      exact ih (i + 1) e (fun c hc' => hc c (by simp [hc'])) h1 q
    · rw [if_neg z] at q; cases q; exact hi
theorem qMuch_err (hh : ∀ i, n ≤ i → h i = 128) {word : List Nat} {base i e : Nat} (hc : ∀ c ∈ word, c < 128) (hi : i ≤ n) (q : qMuch h n word base i = .inl e) : e ≤ n := by
  unfold qMuch at q
  cases e1 : qWord h word i with
  | inl a => rw [e1] at q; cases q; exact qWord_err hh word i e hc hi e1
  | inr i1 =>
    rw [e1] at q
    dsimp only at q
    have w1 := (qWord_ok hh word i i1 hc hi e1).2
    cases e2 : qNum h i1 with
    | inl a => rw [e2] at q; cases q; have := (qNum_err hh w1 e2).1; omega
    | inr y =>
      obtain ⟨i2, v⟩ := y
      have w2 := (qNum_ok hh e2).2.1
      rw [e2] at q
      dsimp only at q
      by_cases z : h i2 = 32
      · rw [if_pos z] at q
        have h1 : i2 < n := Nat.not_le.mp fun w => by have := hh i2 w; omega
        cases e3 : qE h n (i2 + 1) with
        | inl a => rw [e3] at q; cases q; exact qE_err hh (i2 + 1) e h1 e3
        | inr y => rw [e3] at q; cases q
      · rw [if_neg z] at q; cases q; exact w2
theorem qClause_err (hh : ∀ i, n ≤ i → h i = 128) {i e : Nat} (hi : i ≤ n) (q : qClause h n i = .inl e) : e ≤ n := by
  unfold qClause at q
  by_cases z : h i = 119
  · rw [if_pos z] at q
    cases e1 : qMuch h n qWeigh 10 i with
    | inl a => rw [e1] at q; cases q; exact qMuch_err hh (by decide) hi e1
    | inr y => rw [e1] at q; cases q
  · rw [if_neg z] at q
    by_cases z : h i = 99
    · rw [if_pos z] at q
      cases e1 : qMuch h n qClash 200 i with
      | inl a => rw [e1] at q; cases q; exact qMuch_err hh (by decide) hi e1
      | inr y => rw [e1] at q; cases q
    · rw [if_neg z] at q
      by_cases z : h i = 98
      · rw [if_pos z] at q
        cases e1 : qWord h qBar i with
        | inl a => rw [e1] at q; cases q; exact qWord_err hh qBar i e (by decide) hi e1
        | inr i1 =>
          rw [e1] at q
          dsimp only at q
          have w1 := (qWord_ok hh qBar i i1 (by decide) hi e1).2
          cases e2 : qNum h i1 with
          | inl a => rw [e2] at q; cases q; have := (qNum_err hh w1 e2).1; omega
          | inr y => rw [e2] at q; cases q
      · rw [if_neg z] at q; cases q; exact hi
theorem qClauses_err (hh : ∀ i, n ≤ i → h i = 128) : ∀ (k i : Nat) (a : jA4) (e : Nat), i ≤ n → qClauses h n k i a = .inl e → e ≤ n := by
  intro k
  induction k with
  | zero =>
    intro i a e hi q
    rw [qClauses] at q
    cases e1 : qClause h n i with
    | inl b => rw [e1] at q; cases q; exact qClause_err hh hi e1
    | inr y =>
      obtain ⟨j, S, W, C, b⟩ := y
      rw [e1] at q
      dsimp only at q
      have := (qClause_ok hh hi e1).2.1
      by_cases z : j = n
      · rw [if_pos z] at q; cases q
      · rw [if_neg z] at q; cases q; exact this
  | succ k ih =>
    intro i a e hi q
    rw [qClauses] at q
    cases e1 : qClause h n i with
    | inl b => rw [e1] at q; cases q; exact qClause_err hh hi e1
    | inr y =>
      obtain ⟨j, S, W, C, b⟩ := y
      rw [e1] at q
      dsimp only at q
      have := (qClause_ok hh hi e1).2.1
      by_cases z : h j = 59
      · rw [if_pos z] at q
        have h1 : j < n := Nat.not_le.mp fun w => by have := hh j w; omega
        exact ih (j + 1) _ e h1 q
      · rw [if_neg z] at q
        by_cases z : j = n
        · rw [if_pos z] at q; cases q
        · rw [if_neg z] at q; cases q; exact this
theorem qCourt_err (hh : ∀ i, n ≤ i → h i = 128) {e : Nat} (q : qCourt h n = .inl e) : e ≤ n := qClauses_err hh 9 0 qStart e (by omega) q
end QR
/-- what the model's reading has done, seen from before -/
def Cf (c : Nat) (M M' : jM) : Prop := (∀ b, b ≠ 117 → b ≠ 118 → M' b = M b) ∧ (∀ i, i < 4 ∨ 8 < i → M' 117 i = M 117 i) ∧ M' 118 5 = 0 ∧ ∀ i, i ≠ 5 → i ≠ 206 + c → i ≠ 211 + c → (i < 216 + 140 * c ∨ 216 + 140 * c + 140 ≤ i) → M' 118 i = M 118 i
section CO
variable {G : jGT} {d : Nat} {M : jM} {nC nT : Nat} {h : Nat → Nat}
theorem c_mcourt {post : Int32 → jM → Prop} (h2 : M 118 2 = nI nC) (hC : nC ≤ 5) (h5 : M 118 5 = nI nT) (hT : nT ≤ 100) (ht : ∀ k, k < nT → M 118 (106 + k) = nI (h k) ∧ h k < 128) (hh : ∀ i, nT ≤ i → h i = 128) (kF : nC = 5 → post (-4) M) (k0 : nC < 5 → ∀ e, qCourt h nT = .inl e → ∀ M', Cf nC M M' → post (-10 - nI e) M')
    (k1 : nC < 5 → ∀ a, qCourt h nT = .inr a → ∀ M', Cf nC M M' → M' 118 (211 + nC) = nI a.1.length → (∀ k q, a.1[k]? = some q → M' 118 (216 + 140 * nC + k) = enc q) → M' 118 (206 + nC) = nI a.2.2.2 → post (nI nC) (jup (jup M' 118 2 (nI (nC + 1))) 118 6 (nI nC))) : CI G (d + 29) mX8_court [.ref 117] M post := by
  refine eX8_court (bX8_court_0 ?_)
  rw [h2, show (5 : Int32) = nI 5 from rfl]
  refine ite_i (fun q => ?_) (fun q => ?_) <;> rw [nI_eq (by omega) (by omega)] at q
  · exact kF q
  have c5 : nC < 5 := by omega
  rw [show (206 : Int32) = nI 206 from rfl, show (211 : Int32) = nI 211 from rfl, nI_add, nI_add, nI_clamp (by omega), nI_clamp (by omega), h5]
  refine ⟨vp_in_nI (by omega) (by omega), vp_in_nI (by omega) (by omega), ?_⟩
  generalize hM0 : jup (jup (jup (jup (jup (jup (jup (jup M 117 4 (nI nC)) 117 6 (nI nT)) 118 5 0) 118 (206 + nC) 2) 118 (211 + nC) 0) 117 5 0) 117 7 0) 117 8 0 = M0
  have f1 : ∀ b, b ≠ 117 → b ≠ 118 → M0 b = M b := fun b b1 b2 => by rw [← hM0]; (simp (disch := omega) only [jup_ne])
  have f2 : ∀ i, i < 4 ∨ 8 < i → M0 117 i = M 117 i := fun i hi => by rw [← hM0]; (simp (disch := omega) only [jup_ss, jup_sn, jup_n, jup_ne])
  have f3 : M0 118 5 = 0 := by rw [← hM0]; (simp (disch := omega) only [jup_ss, jup_sn, jup_n, jup_ne])
  have f4 : ∀ i, i ≠ 5 → i ≠ 206 + nC → i ≠ 211 + nC → M0 118 i = M 118 i := fun i i1 i2 i3 => by rw [← hM0]; (simp (disch := omega) only [jup_ss, jup_sn, jup_n, jup_ne])
  have cf : ∀ M', Pf nC M0 M' → Cf nC M M' := fun M' g => ⟨fun b b1 b2 => (g.1 b b1 b2).trans (f1 b b1 b2), fun i hi => (g.2.1 i (by omega) (by omega) (by omega)).trans (f2 i hi), (g.2.2 5 (by omega) (by omega) (by omega)).trans f3, fun i i1 i2 i3 i4 => (g.2.2 i i2 i3 i4).trans (f4 i i1 i2 i3)⟩
  have C : Pc M0 nC nT h := ⟨hT, c5, by rw [← hM0]; (simp (disch := omega) only [jup_ss, jup_sn, jup_n, jup_ne]), by rw [← hM0]; (simp (disch := omega) only [jup_ss, jup_sn, jup_n, jup_ne]), fun k hk => by rw [f4 (106 + k) (by omega) (by omega) (by omega)]; exact ht k hk, hh⟩
  refine t_mclauses C (R := qCourt h nT) (fun e q' M' g => k0 c5 e q' M' (cf M' g)) (fun a q' M' g => ?_) 9 0 1 qStart M0 (by omega) rfl ⟨⟨fun _ _ _ => rfl, fun _ _ _ _ => rfl, fun _ _ _ _ => rfl⟩, by rw [← hM0]; (simp (disch := omega) only [jup_ss, jup_sn, jup_n, jup_ne]); rfl, by omega, by rw [← hM0]; (simp (disch := omega) only [jup_ss, jup_sn, jup_n, jup_ne]), by rw [← hM0]; (simp (disch := omega) only [jup_ss, jup_sn, jup_n, jup_ne]); rfl, by rw [← hM0]; (simp (disch := omega) only [jup_ss, jup_sn, jup_n, jup_ne]); rfl, fun k q hk => by simp [qStart] at hk, by rw [← hM0]; (simp (disch := omega) only [jup_ss, jup_sn, jup_n, jup_ne]); rfl⟩ (by simp [qStart])
  obtain ⟨g1, g2, g3, g4, g5, g6, g7, g8⟩ := g
  have e : M' 118 2 = nI nC := (g1.2.2 2 (by omega) (by omega) (by omega)).trans ((f4 2 (by omega) (by omega) (by omega)).trans h2)
  rw [e, show nI nC + 1 = nI (nC + 1) from nI_1 _]
  exact k1 c5 a q' M' (cf M' g1) g6 g7 g8
theorem c_copy {x2 : Int32} {M0 : jM} {n : Nat} {post : Int32 → jM → Prop} (hn : n ≤ 100) (ht : ∀ k, k < n → ∃ b : Nat, b < 128 ∧ M0 9 k = nI b) (hp : ∀ M', (∀ b, b ≠ 10 → b ≠ 1 → M' b = M0 b) → (∀ k, k ≠ 14 → k ≠ 15 → M' 1 k = M0 1 k) → M' 1 15 = nI n → M' 1 14 = M0 1 14 + 1 → (∀ k, k < n → M' 10 k = M0 9 k) → (∀ k, n ≤ k → M' 10 k = M0 10 k) → post (((M0 1 14) + 1) - 1) M') :
    ∀ (r k : Nat) (M : jM), k + r = n → (∀ b, b ≠ 10 → M b = M0 b) → (∀ j, j < k → M 10 j = M0 9 j) → (∀ j, k ≤ j → M 10 j = M0 10 j) → kX7_court_60 G d (nI n) x2 (nI k) M post := by
  intro r
  induction r with
  | zero =>
    intro k M hk f1 f2 f3
    obtain rfl : k = n := by omega
    refine bX7_court_60 (ite_ti (Int32.le_refl _) ?_)
    rw [f1 1 (by omega)]
    exact hp _ (fun b b1 b2 => by (simp (disch := omega) only [jup_ne]); exact f1 b b1) (fun i i1 i2 => by (simp (disch := omega) only [jup_ss, jup_sn, jup_n, jup_ne]); rw [f1 1 (by omega)]) (by (simp (disch := omega) only [jup_ss, jup_sn, jup_n, jup_ne])) (by (simp (disch := omega) only [jup_ss, jup_sn, jup_n, jup_ne])) (fun i hi => by (simp (disch := omega) only [jup_ne]); exact f2 i hi) (fun i hi => by (simp (disch := omega) only [jup_ne]); exact f3 i hi)
  | succ r ih =>
    intro k M hk f1 f2 f3
    obtain ⟨b, b1, b2⟩ := ht k (by omega)
    refine bX7_court_60 (ite_fi (by rw [nI_leI (by omega) (by omega)]; omega) (ite_fi (by rw [show (100 : Int32) = nI 100 from rfl, nI_leI (by omega) (by omega)]; omega) ⟨vp_in_nI (by omega) (by omega), vp_in_nI (by omega) (by omega), ?_⟩))
    rw [nI_clamp (by omega), f1 9 (by omega), b2, vp_nar_byte, byte_small b1, nI_1]
    refine ih (k + 1) _ (by omega) (fun b hb => by (simp (disch := omega) only [jup_ne]); exact f1 b hb) (fun j hj => ?_) (fun j hj => by (simp (disch := omega) only [jup_ss, jup_sn, jup_n, jup_ne]); exact f3 j (by omega))
    by_cases e : j = k
    · subst e; (simp (disch := omega) only [jup_ss, jup_sn, jup_n, jup_ne]); exact b2.symm
    · (simp (disch := omega) only [jup_ss, jup_sn, jup_n, jup_ne]); exact f2 j (by omega)
end CO
section C7
variable {G : jGT} {d : Nat} {M : jM} {P : Int32 → Int32 → jM → Prop}
theorem call_court (hR : Rel M) (k : ∀ r M', Rel M' → P r r M') : CI G (d + 50) mX7_court [.ref 0] M (fun r1 M1 => CI G (d + 50) mX8_court [.ref 117] M1 (P r1)) := by
  obtain ⟨nS, nJ, nE, nQ, nT, nD, nC, nL, hS, hJ, hE, hQ, hT, hB, hD, hL⟩ := id hR.1
  have s8 := hS.2.2.1
  obtain ⟨l1, l2, l3, l4, l5, l6, l7⟩ := id hL
  obtain ⟨t1, t2, t3, t4⟩ := id hT
  have ht9 : ∀ k, k < nT → ∃ b : Nat, b < 128 ∧ M 9 k = nI b := fun k hk => by obtain ⟨b, b1, b2, b3⟩ := t4 k hk; exact ⟨b, b1, b2⟩
  have ht : ∀ k, k < nT → M 118 (106 + k) = nI (qH (M 9) nT k) ∧ qH (M 9) nT k < 128 := fun k hk => by
    obtain ⟨b, b1, b2, b3⟩ := t4 k hk
    have b2 : M 9 k = nI b := b2
    unfold qH
    rw [if_pos hk, b2, nI_clamp (by omega)]
    exact ⟨b3, b1⟩
  -- what is left of the hall, without the law
  have hall : ∀ M3 : jM, (∀ k, k ≠ 12 → k ≠ 14 → k ≠ 15 → M3 1 k = M 1 k) → M3 1 12 = 0 → (∀ a, 2 ≤ a → a ≤ 9 → M3 a = M a) → (∀ i, i < 206 → i ≠ 2 → i ≠ 5 → i ≠ 6 → M3 118 i = M 118 i) → M3 118 5 = 0 →
      RS nS (M3 1) (fun i => M3 (2 + i)) (M3 118) ∧ RJu nJ (M3 1) (fun i => M3 (2 + i)) (M3 118) ∧ REn nS nE (M3 1) (fun i => M3 (2 + i)) (M3 118) ∧ RQu nS nQ (M3 1) (fun i => M3 (2 + i)) (M3 118) ∧ RTa 0 (M3 1) (fun i => M3 (2 + i)) (M3 118) ∧ RDa nD (M3 1) (M3 118) := by
    intro M3 e1 e2 eA eS e5
    refine ⟨hS.congr (e1 1 (by omega) (by omega) (by omega)) (eS 0 (by omega) (by omega) (by omega) (by omega)) (fun k hk => ⟨congrFun (eA 2 (by omega) (by omega)) k, congrFun (eA 3 (by omega) (by omega)) k, eS _ (by omega) (by omega) (by omega) (by omega), eS _ (by omega) (by omega) (by omega) (by omega)⟩), hJ.congr (e1 4 (by omega) (by omega) (by omega)) (eS 1 (by omega) (by omega) (by omega) (by omega)) (fun k hk => ⟨congrFun (eA 4 (by omega) (by omega)) k, congrFun (eA 5 (by omega) (by omega)) k, eS _ (by omega) (by omega) (by omega) (by omega), eS _ (by omega) (by omega) (by omega) (by omega)⟩) (fun k hk => ⟨congrFun (eA 6 (by omega) (by omega)) k, eS _ (by omega) (by omega) (by omega) (by omega)⟩), hE.congr (e1 8 (by omega) (by omega) (by omega)) (eS 3 (by omega) (by omega) (by omega) (by omega)) (fun k hk => ⟨congrFun (eA 7 (by omega) (by omega)) k, eS _ (by omega) (by omega) (by omega) (by omega), eS _ (by omega) (by omega) (by omega) (by omega)⟩), hQ.congr (e1 10 (by omega) (by omega) (by omega)) (eS 4 (by omega) (by omega) (by omega) (by omega)) (fun k hk => ⟨congrFun (eA 8 (by omega) (by omega)) k, eS _ (by omega) (by omega) (by omega) (by omega)⟩), ⟨e2, e5, by omega, fun k hk => by omega⟩, hD.congr (e1 0 (by omega) (by omega) (by omega)) (eS 7 (by omega) (by omega) (by omega) (by omega))⟩
  refine eX7_court (bX7_court_0 ?_)
  rw [l1, t1]
  by_cases c5 : nC = 5
  · refine ite_fi (by rw [show (5 : Int32) = nI 5 from rfl, nI_ltI (by omega) (by omega)]; omega) ?_
    exact c_mcourt (d := d + 21) (h := qH (M 9) nT) l2 l3 t2 t3 ht (qH_end _ _) (fun _ => k _ M hR) (fun q => by omega) (fun q => by omega)
  refine ite_ti (by rw [show (5 : Int32) = nI 5 from rfl, nI_ltI (by omega) (by omega)]; omega) ?_
  have c5' : nC < 5 := by omega
  generalize hMx : jup M 1 12 0 = Mx
  have x1 : ∀ b, b ≠ 1 → Mx b = M b := fun b hb => by rw [← hMx]; (simp (disch := omega) only [jup_ne])
  have x2 : ∀ k, k ≠ 12 → Mx 1 k = M 1 k := fun k hk => by rw [← hMx]; (simp (disch := omega) only [jup_ss, jup_sn, jup_n, jup_ne])
  have x3 : Mx 1 12 = 0 := by rw [← hMx]; (simp (disch := omega) only [jup_ss, jup_sn, jup_n, jup_ne])
  -- the class's fault, and then the model's
  have fault : ∀ e, qCourt (qH (M 9) nT) nT = .inl e → ∀ M2, frL Mx M2 → CI G (d + 50) mX8_court [.ref 117] M2 (P (-10 - nI e)) := by
    intro e he M2 f2
    have e118 : M2 118 = M 118 := (f2 118 (by omega)).trans (x1 118 (by omega))
    refine c_mcourt (d := d + 21) (h := qH (M 9) nT) (by rw [e118]; exact l2) l3 (by rw [e118]; exact t2) t3 (by rw [e118]; exact ht) (qH_end _ _) (fun q => absurd q c5) (fun _ e' q M3 g => ?_) (fun _ a q => by rw [he] at q; cases q)
    rw [he] at q
    cases q
    obtain ⟨g1, g2, g3, g4⟩ := g
    have old : ∀ b, b ≠ 1 → b ≠ 117 → b ≠ 118 → (b < 21 ∨ 26 < b) → M3 b = M b := fun b b1 b2 b3 b4 => (g1 b b2 b3).trans ((f2 b b4).trans (x1 b b1))
    have one : ∀ i, M3 1 i = Mx 1 i := fun i => by rw [g1 1 (by omega) (by omega), f2 1 (by omega)]
    have ss : ∀ i, i ≠ 5 → i ≠ 206 + nC → i ≠ 211 + nC → (i < 216 + 140 * nC ∨ 216 + 140 * nC + 140 ≤ i) → M3 118 i = M 118 i := fun i i1 i2 i3 i4 => (g4 i i1 i2 i3 i4).trans (by rw [e118])
    obtain ⟨r1, r2, r3, r4, r5, r6⟩ := hall M3 (fun k k1 _ _ => (one k).trans (x2 k k1)) ((one 12).trans x3) (fun a a1 a2 => old a (by omega) (by omega) (by omega) (by omega)) (fun i i1 i2 i3 i4 => ss i i3 (by omega) (by omega) (by omega)) g3
    have e10 : M3 10 = M 10 := old 10 (by omega) (by omega) (by omega) (by omega)
    refine k _ M3 (hR.hn2 ⟨nS, nJ, nE, nQ, 0, nD, nC, nL, r1, r2, r3, r4, r5, hB.congr (fun k hk => ⟨congrFun (old 9 (by omega) (by omega) (by omega) (by omega)) k, congrFun e10 k⟩), r6, ?_⟩ (fun a ha => old a (by omega) (by omega) (by omega) (by omega)) ?_ ?_)
    · refine ⟨(one 14).trans ((x2 14 (by omega)).trans l1), (ss 2 (by omega) (by omega) (by omega) (by omega)).trans l2, l3, (one 15).trans ((x2 15 (by omega)).trans l4), l5, fun k hk => ?_, ?_⟩
      · rw [show (fun i => M3 (2 + i)) 8 = M 10 from e10]; exact l6 k hk
      · rw [show (fun i => M3 (2 + i)) 8 = M 10 from e10, ss 6 (by omega) (by omega) (by omega) (by omega)]
        rcases l7 with h7 | ⟨c, m, a, q1, q2, q3, q4, q5, q6, q7, q8⟩
        · exact Or.inl h7
        · exact Or.inr ⟨c, m, a, q1, q2, by rw [ss _ (by omega) (by omega) (by omega) (by omega)]; exact q3, q4, q5, q6, fun i hi => by rw [ss _ (by omega) (by omega) (by omega) (by omega)]; exact q7 i hi, by rw [ss _ (by omega) (by omega) (by omega) (by omega)]; exact q8⟩
    · rw [g2 3 (by omega), f2 117 (by omega), x1 117 (by omega)]
    · rw [g2 27 (by omega), f2 117 (by omega), x1 117 (by omega)]
  have e9 : Mx 9 = M 9 := x1 9 (by omega)
  refine c_learnT (d := d + 39) (n := nT) (kd := 0) (v := 0) (dy := 0) t3 (by rw [e9]; exact ht9) (by omega) (by omega) (by omega) (fun n0 e q M2 f2 => ?_) (fun n0 a q M2 f2 f3 f4 => ?_) (fun n0 M2 f2 f3 f4 => ?_)
  · rw [e9] at q
    exact ite_fi (nI_pos (by have := qCourt_err (qH_end _ _) q; omega)) (fault e q M2 f2)
  · rw [e9] at q
    refine ite_ti (by decide) ?_
    have o14 : M2 1 14 = nI nC := by rw [f2 1 (by omega), x2 14 (by omega)]; exact l1
    refine c_copy (M0 := M2) (n := nT) t3 (by rw [f2 9 (by omega), e9]; exact ht9) (fun M4 y1 y2 y3 y4 y5 y6 => ?_) nT 0 M2 (by omega) (fun _ _ => rfl) (fun j hj => by omega) (fun _ _ => rfl)
    rw [o14, Int32.add_sub_cancel]
    have e118 : M4 118 = M 118 := (y1 118 (by omega) (by omega)).trans ((f2 118 (by omega)).trans (x1 118 (by omega)))
    refine c_mcourt (d := d + 21) (h := qH (M 9) nT) (by rw [e118]; exact l2) l3 (by rw [e118]; exact t2) t3 (by rw [e118]; exact ht) (qH_end _ _) (fun q => absurd q c5) (fun _ e' q' => by rw [q] at q'; cases q') (fun _ a' q' M5 g w1 w2 w3 => ?_)
    rw [q] at q'
    cases q'
    obtain ⟨g1, g2, g3, g4⟩ := g
    generalize hM6 : jup (jup M5 118 2 (nI (nC + 1))) 118 6 (nI nC) = M6
    have z1 : ∀ b, b ≠ 118 → M6 b = M5 b := fun b hb => by rw [← hM6]; (simp (disch := omega) only [jup_ne])
    have z2 : ∀ i, i ≠ 2 → i ≠ 6 → M6 118 i = M5 118 i := fun i i1 i2 => by rw [← hM6]; (simp (disch := omega) only [jup_ss, jup_sn, jup_n, jup_ne])
    have z3 : M6 118 2 = nI (nC + 1) := by rw [← hM6]; (simp (disch := omega) only [jup_ss, jup_sn, jup_n, jup_ne])
    have z4 : M6 118 6 = nI nC := by rw [← hM6]; (simp (disch := omega) only [jup_ss, jup_sn, jup_n, jup_ne])
    have old : ∀ b, b ≠ 1 → b ≠ 10 → b ≠ 117 → b ≠ 118 → (b < 21 ∨ 26 < b) → M6 b = M b := fun b b1 b2 b3 b4 b5 => (z1 b b4).trans ((g1 b b3 b4).trans ((y1 b b2 b1).trans ((f2 b b5).trans (x1 b b1))))
    have one : ∀ i, M6 1 i = M4 1 i := fun i => by rw [z1 1 (by omega), g1 1 (by omega) (by omega)]
    have one2 : ∀ i, i ≠ 14 → i ≠ 15 → M6 1 i = Mx 1 i := fun i i1 i2 => by rw [one, y2 i i1 i2, f2 1 (by omega)]
    have ss : ∀ i, i < 206 → i ≠ 2 → i ≠ 5 → i ≠ 6 → M6 118 i = M 118 i := fun i i1 i2 i3 i4 => (z2 i i2 i4).trans ((g4 i i3 (by omega) (by omega) (by omega)).trans (by rw [e118]))
    obtain ⟨r1, r2, r3, r4, r5, r6⟩ := hall M6 (fun k k1 k2 k3 => (one2 k k2 k3).trans (x2 k k1)) ((one2 12 (by omega) (by omega)).trans x3) (fun a a1 a2 => old a (by omega) (by omega) (by omega) (by omega) (by omega)) (fun i i1 i2 i3 i4 => ss i i1 i2 i3 i4) ((z2 5 (by omega) (by omega)).trans g3)
    have e10 : M6 10 = M4 10 := by rw [z1 10 (by omega), g1 10 (by omega) (by omega)]
    have eq9 : ∀ k, k < nT → M4 10 k = M 9 k := fun k hk => by rw [y5 k hk, f2 9 (by omega), e9]
    refine k _ M6 (hR.hn2 ⟨nS, nJ, nE, nQ, 0, nD, nC + 1, nT, r1, r2, r3, r4, r5, ?_, r6, ?_⟩ (fun a ha => old a (by omega) (by omega) (by omega) (by omega) (by omega)) ?_ ?_)
    · intro k hk
      refine ⟨?_, ?_⟩
      · rw [show (fun i => M6 (2 + i)) 7 = M 9 from old 9 (by omega) (by omega) (by omega) (by omega) (by omega)]; exact (hB k hk).1
      · rw [show (fun i => M6 (2 + i)) 8 = M4 10 from e10]
        by_cases e : k < nT
        · rw [eq9 k e]; exact (hB k hk).1
        · rw [y6 k (by omega), f2 10 (by omega), x1 10 (by omega)]; exact (hB k hk).2
    · have len : a.1.length ≤ nT := (qCourt_ok (qH_end _ _) q).1
      refine ⟨by rw [one, y4, o14]; exact nI_1 _, z3, by omega, by rw [one]; exact y3, t3, fun k hk => ?_, Or.inr ⟨nC, a.1.length, a, by omega, z4, (z2 _ (by omega) (by omega)).trans w1, by omega, ?_, rfl, fun i hi => ⟨a.1[i], List.getElem?_eq_getElem hi, (z2 _ (by omega) (by omega)).trans (w2 i _ (List.getElem?_eq_getElem hi))⟩, (z2 _ (by omega) (by omega)).trans w3⟩⟩
      · rw [show (fun i => M6 (2 + i)) 8 = M4 10 from e10, eq9 k hk]; exact ht9 k hk
      · rw [show (fun i => M6 (2 + i)) 8 = M4 10 from e10, qH_congr eq9]; exact q
    · rw [z1 117 (by omega), g2 3 (by omega), y1 117 (by omega) (by omega), f2 117 (by omega), x1 117 (by omega)]
    · rw [z1 117 (by omega), g2 27 (by omega), y1 117 (by omega) (by omega), f2 117 (by omega), x1 117 (by omega)]
  · subst n0
    refine ite_fi (by decide) (fault 0 ?_ M2 f2)
    have : qH (M 9) 0 0 = 128 := qH_end _ _ 0 (Nat.le_refl _)
    unfold qCourt
    rw [qClauses]
    unfold qClause
    rw [this]
    rfl
end C7
