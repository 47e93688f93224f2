theorem Rel.hn2 {M M' : jM} (h : Rel M) (hn : HN M') (hu : ∀ a, (a = 0 ∨ (11 ≤ a ∧ a ≤ 20) ∨ (115 ≤ a ∧ a ≠ 117 ∧ a ≠ 118)) → M' a = M a) (u3 : M' 117 3 = M 117 3) (u27 : M' 117 27 = M 117 27) : Rel M' := by
  refine ⟨hn, ?_, ?_⟩
  · rw [hu 0 (by omega), u3, hu 19 (by omega), hu 20 (by omega)]
    rcases h.2.1 with h1 | h1
    · exact Or.inl h1
    · exact Or.inr ⟨h1.1, h1.2.1, h1.2.2.congr (fun a h1 h2 => hu a (by omega)) (hu 119 (by omega))⟩
  · obtain ⟨n, hn, h1, h2, h3⟩ := h.2.2
    exact ⟨n, hn, by rw [hu 115 (by omega)]; exact h1, by rw [u27]; exact h2, fun k hk => by rw [hu 116 (by omega), hu 129 (by omega)]; exact h3 k hk⟩
/-- what a clause leaves -/
def Pk (M0 : jM) (act n : Nat) (x : jK) (S : List jSt) (b : Nat) (M : jM) : Prop := match x with
  | .inl e => Pw M0 act n M e
  | .inr (j, S', _, _, bb) => Pm M0 act n M 0 j (S ++ S') (bb.getD b)
def Pq (M0 : jM) (act n : Nat) (x : Nat ⊕ (Nat × List jSt × jWt)) (S : List jSt) (b : Nat) (M : jM) : Prop := match x with
  | .inl e => Pw M0 act n M e
  | .inr (j, S', _) => Pm M0 act n M 0 j (S ++ S') b
section PQ
variable {G : jGT} {d : Nat} {M0 : jM} {act n b : Nat} {h : Nat → Nat}
theorem t_muchW (C : Pc M0 act n h) {i : Nat} {S : List jSt} {M : jM} {post : jM → Prop} (H : Pm M0 act n M 0 i S b) (hl : S.length ≤ i) (k : ∀ M', Pq M0 act n (qMuch h n qWeigh 10 i) S b M' → post M') : CV G (d + 27) mX8_much [.ref 117, .int (-10), .ref 3000] M post := by
  have hn := C.1
  have hh := C.2.2.2.2.2
  unfold qMuch at k
  refine eX8_muchW (bX8_muchW_0 (t_spellsW (d := d + 18) C H (fun i1 e1 M1 H1 => ?_) (fun e e1 M1 H1 => ?_)))
  · rw [e1] at k
    dsimp only at k
    have w1 := qWord_ok hh qWeigh i i1 (by decide) H.2.2.1 e1
    refine t_figures (d := d + 25) C H1 (fun i2 v e2 M2 H2 => ?_) (fun e e2 M2 H2 => ?_)
    · rw [e2] at k
      dsimp only at k
      have w2 := qNum_ok hh e2
      refine t_must (d := d + 25) (c := 32) C H2 (by omega) (fun q M3 H3 => ?_) (fun q M3 H3 => ?_)
      · rw [if_pos q] at k
        refine t_mE (d := d) C (i2 + 1) S M3 _ H3 (by omega) (fun M4 H4 => ?_)
        cases e3 : qE h n (i2 + 1) with
        | inl e =>
          rw [e3] at H4 k
          exact w_emits H4 (fun M5 H5 => k M5 H5)
        | inr z =>
          obtain ⟨j, S', B⟩ := z
          rw [e3] at H4 k
          obtain ⟨o1, o2, o3, o4, o5⟩ := qE_ok hh e3
          dsimp only at o1 o2 o3
          refine t_emits (q := .inr (10 + v)) C H4 (by rw [List.length_append]; omega) ?_ (fun M5 H5 => k M5 ?_)
          · show (-10 : Int32) - nI v = -nI (10 + v)
            rw [show nI (10 + v) = nI 10 + nI v from (nI_add _ _).symm, Int32.neg_add]
            rfl
          · rw [List.append_assoc] at H5; exact H5
      · rw [if_neg q] at k
        exact w_some (d := d + 23) H3 (fun M4 H4 => w_emits H4 (fun M5 H5 => k M5 H5))
    · rw [e2] at k
      exact w_must (d := d + 25) H2 (fun M3 H3 => w_some (d := d + 23) H3 (fun M4 H4 => w_emits H4 (fun M5 H5 => k M5 H5)))
  · rw [e1] at k
    exact w_figures (d := d + 25) H1 (fun M2 H2 => w_must (d := d + 25) H2 (fun M3 H3 => w_some (d := d + 23) H3 (fun M4 H4 => w_emits H4 (fun M5 H5 => k M5 H5))))
theorem t_muchC (C : Pc M0 act n h) {i : Nat} {S : List jSt} {M : jM} {post : jM → Prop} (H : Pm M0 act n M 0 i S b) (hl : S.length ≤ i) (k : ∀ M', Pq M0 act n (qMuch h n qClash 200 i) S b M' → post M') : CV G (d + 27) mX8_much [.ref 117, .int (-200), .ref 3001] M post := by
  have hn := C.1
  have hh := C.2.2.2.2.2
  unfold qMuch at k
  refine eX8_muchC (bX8_muchC_0 (t_spellsC (d := d + 18) C H (fun i1 e1 M1 H1 => ?_) (fun e e1 M1 H1 => ?_)))
  · rw [e1] at k
    dsimp only at k
    have w1 := qWord_ok hh qClash i i1 (by decide) H.2.2.1 e1
    refine t_figures (d := d + 25) C H1 (fun i2 v e2 M2 H2 => ?_) (fun e e2 M2 H2 => ?_)
    · rw [e2] at k
      dsimp only at k
      have w2 := qNum_ok hh e2
      refine t_must (d := d + 25) (c := 32) C H2 (by omega) (fun q M3 H3 => ?_) (fun q M3 H3 => ?_)
      · rw [if_pos q] at k
        refine t_mE (d := d) C (i2 + 1) S M3 _ H3 (by omega) (fun M4 H4 => ?_)
        cases e3 : qE h n (i2 + 1) with
        | inl e =>
          rw [e3] at H4 k
          exact w_emits H4 (fun M5 H5 => k M5 H5)
        | inr z =>
          obtain ⟨j, S', B⟩ := z
          rw [e3] at H4 k
          obtain ⟨o1, o2, o3, o4, o5⟩ := qE_ok hh e3
          dsimp only at o1 o2 o3
          refine t_emits (q := .inr (200 + v)) C H4 (by rw [List.length_append]; omega) ?_ (fun M5 H5 => k M5 ?_)
          · show (-200 : Int32) - nI v = -nI (200 + v)
            rw [show nI (200 + v) = nI 200 + nI v from (nI_add _ _).symm, Int32.neg_add]
            rfl
          · rw [List.append_assoc] at H5; exact H5
      · rw [if_neg q] at k
        exact w_some (d := d + 23) H3 (fun M4 H4 => w_emits H4 (fun M5 H5 => k M5 H5))
    · rw [e2] at k
      exact w_must (d := d + 25) H2 (fun M3 H3 => w_some (d := d + 23) H3 (fun M4 H4 => w_emits H4 (fun M5 H5 => k M5 H5)))
  · rw [e1] at k
    exact w_figures (d := d + 25) H1 (fun M2 H2 => w_must (d := d + 25) H2 (fun M3 H3 => w_some (d := d + 23) H3 (fun M4 H4 => w_emits H4 (fun M5 H5 => k M5 H5))))
theorem t_mclause (C : Pc M0 act n h) {i : Nat} {S : List jSt} {M : jM} {post : jM → Prop} (H : Pm M0 act n M 0 i S b) (hl : S.length ≤ i) (k : ∀ M', Pk M0 act n (qClause h n i) S b M' → post M') : CV G (d + 28) mX8_clauseHere [.ref 117] M post := by
  have hn := C.1
  have hh := C.2.2.2.2.2
  unfold qClause at k
  have E98 : hv h n i = 98 ↔ h i = 98 := hv_eq C (c := 98) (by omega)
  have E99 : hv h n i = 99 ↔ h i = 99 := hv_eq C (c := 99) (by omega)
  have E119 : hv h n i = 119 ↔ h i = 119 := hv_eq C (c := 119) (by omega)
  refine eX8_clauseHere (bX8_clauseHere_0 (t_here C H.1 H.2.1 H.2.2.1 (ite_i (fun q => ?_) (fun q => ite_i (fun p => ?_) (fun p => ite_i (fun r => ?_) (fun r => ?_))))))
  · rw [E98] at q
    rw [if_neg (by omega), if_neg (by omega), if_pos q] at k
    refine t_spellsB (d := d + 19) C H (fun i1 e1 M1 H1 => ?_) (fun e e1 M1 H1 => ?_)
    · rw [e1] at k
      dsimp only at k
      refine t_figures (d := d + 26) C H1 (fun i2 v e2 M2 H2 => ?_) (fun e e2 M2 H2 => ?_)
      · rw [e2] at k
        dsimp only at k
        refine ite_ti H2.2.2.2.1 ?_
        rw [H2.1.2.1 4 (by omega) (by omega) (by omega), C.2.2.2.1, show (206 : Int32) = nI 206 from rfl, nI_add, nI_clamp (by have := C.2.1; omega)]
        refine ⟨vp_in_nI (by have := C.2.1; omega) (by omega), k _ ?_⟩
        obtain ⟨h1, h2, h3, h4, h5, h6, h7, h8⟩ := H2
        have ha := C.2.1
        show Pm M0 act n _ 0 i2 (S ++ []) v
        rw [List.append_nil]
        obtain ⟨f1, f2, f3⟩ := h1
        exact ⟨⟨fun b b1 b2 => by (simp (disch := omega) only [jup_ne]); exact f1 b b1 b2, fun i i1 i2 i3 => by (simp (disch := omega) only [jup_ss, jup_sn, jup_n, jup_ne]); exact f2 i i1 i2 i3, fun i i1 i2 i3 => by rw [jup_sn (by omega)]; exact f3 i i1 i2 i3⟩, by (simp (disch := omega) only [jup_ss, jup_sn, jup_n, jup_ne]); exact h2, h3, by (simp (disch := omega) only [jup_ss, jup_sn, jup_n, jup_ne]); exact h4, by (simp (disch := omega) only [jup_ss, jup_sn, jup_n, jup_ne]); exact h5, by (simp (disch := omega) only [jup_ss, jup_sn, jup_n, jup_ne]); exact h6, fun k q hk => by rw [jup_sn (by omega)]; exact h7 k q hk, by (simp (disch := omega) only [jup_ss, jup_sn, jup_n, jup_ne])⟩
      · rw [e2] at k
        exact ite_fi (by rw [H2.2.2.2]; decide) (k _ H2)
    · rw [e1] at k
      exact w_figures (d := d + 26) H1 (fun M2 H2 => ite_fi (by rw [H2.2.2.2]; decide) (k _ H2))
  · rw [E99] at p
    rw [if_neg (by omega), if_pos p] at k
    refine t_muchC (d := d) C H hl (fun M' H' => k M' ?_)
    cases e : qMuch h n qClash 200 i with
    | inl e => rw [e] at H'; exact H'
    | inr x => obtain ⟨j, S', W⟩ := x; rw [e] at H'; exact H'
  · rw [E119] at r
    rw [if_pos r] at k
    refine t_muchW (d := d) C H hl (fun M' H' => k M' ?_)
    cases e : qMuch h n qWeigh 10 i with
    | inl e => rw [e] at H'; exact H'
    | inr x => obtain ⟨j, S', W⟩ := x; rw [e] at H'; exact H'
  · rw [E98] at q
    rw [E99] at p
    rw [E119] at r
    rw [if_neg r, if_neg p, if_neg q] at k
    exact k _ (H.w rfl)
theorem t_mclauses (C : Pc M0 act n h) {post : Int32 → jM → Prop} {R : Nat ⊕ jA4} (k0 : ∀ e, R = .inl e → ∀ M', Pf act M0 M' → post (-10 - nI e) M') (k1 : ∀ a, R = .inr a → ∀ M', Pm M0 act n M' 0 n a.1 a.2.2.2 → post (nI act) (jup (jup M' 118 2 ((M' 118 2) + 1)) 118 6 (nI act))) :
    ∀ (k i x : Nat) (a : jA4) (M : jM), x + k = 10 → qClauses h n k i a = R → Pm M0 act n M 0 i a.1 a.2.2.2 → a.1.length ≤ i → CV G (d + 28) mX8_clauseHere [.ref 117] M (fun M1 => kX8_court_89 G (d + 28) (nI x) M1 post) := by
  have hn := C.1
  have hh := C.2.2.2.2.2
  have wr : ∀ e, R = .inl e → ∀ (x1 : Int32) (M' : jM), Pw M0 act n M' e → kX8_court_89 G (d + 28) x1 M' post := by
    intro e he x1 M' H'
    have n0 : ¬ M' 117 7 = 0 := by rw [H'.2.2.2]; decide
    refine bX8_court_89 (ite_fi n0 (ite_fi n0 ?_))
    rw [H'.2.1]
    exact k0 e he M' H'.1
  have fin : ∀ (j : Nat) (a : jA4) (M' : jM), (if j = n then .inr a else .inl j) = R → Pm M0 act n M' 0 j a.1 a.2.2.2 → (if (M' 117 7) = 0 then (if (M' 117 5) = (M' 117 6) then post (M' 117 4) (jup (jup M' 118 2 ((M' 118 2) + 1)) 118 6 (M' 117 4)) else post ((-10) - (M' 117 5)) M') else post ((-10) - (M' 117 5)) M') := by
    intro j a M' hR H'
    refine ite_ti H'.2.2.2.1 ?_
    rw [H'.2.1, H'.1.2.1 6 (by omega) (by omega) (by omega), C.2.2.1, H'.1.2.1 4 (by omega) (by omega) (by omega), C.2.2.2.1]
    have := H'.2.2.1
    refine ite_i (fun q => ?_) (fun q => ?_) <;> rw [nI_eq (by omega) (by omega)] at q
    · subst q
      rw [if_pos rfl] at hR
      exact k1 a hR.symm M' H'
    · rw [if_neg q] at hR
      exact k0 j hR.symm M' H'.1
  intro k
  induction k with
  | zero =>
    intro i x a M hx hq H hl
    refine t_mclause C H hl (fun M1 H1 => ?_)
    rw [qClauses] at hq
    cases e : qClause h n i with
    | inl e' => rw [e] at H1 hq; exact wr e' hq.symm _ M1 H1
    | inr y =>
      obtain ⟨j, S, W, C', bb⟩ := y
      rw [e] at H1 hq
      refine bX8_court_89 (ite_ti H1.2.2.2.1 (ite_ti (by rw [show (10 : Int32) = nI 10 from rfl, nI_leI (by omega) (by omega)]; omega) (fin j (qAdd a S W C' bb) M1 hq H1)))
  | succ k ih =>
    intro i x a M hx hq H hl
    refine t_mclause C H hl (fun M1 H1 => ?_)
    rw [qClauses] at hq
    cases e : qClause h n i with
    | inl e' => rw [e] at H1 hq; exact wr e' hq.symm _ M1 H1
    | inr y =>
      obtain ⟨j, S, W, C', bb⟩ := y
      rw [e] at H1 hq
      obtain ⟨o1, o2, o3, -, -⟩ := qClause_ok hh H.2.2.1 e
      have H1' : Pm M0 act n M1 0 j (qAdd a S W C' bb).1 (qAdd a S W C' bb).2.2.2 := H1
      refine bX8_court_89 (ite_ti H1.2.2.2.1 (ite_fi (by rw [show (10 : Int32) = nI 10 from rfl, nI_leI (by omega) (by omega)]; omega) (t_here C H1.1 H1.2.1 H1.2.2.1 (ite_i (fun q => ?_) (fun q => ?_))))) <;> rw [show (59 : Int32) = nI 59 from rfl, hv_eq C (by omega)] at q
      · dsimp only at hq
        rw [if_pos q] at hq
        have hj : j < n := Nat.not_le.mp fun z => by have := hh j z; omega
        rw [H1.2.1, nI_1, nI_1]
        exact ih (j + 1) (x + 1) _ _ (by omega) hq (H1'.go rfl (by omega)) (by show (a.1 ++ S).length ≤ j + 1; rw [List.length_append]; omega)
      · dsimp only at hq
        rw [if_neg q] at hq
        exact fin j _ M1 hq H1'
end PQ
