/-- B's points below k -/
def Mp (x : Int32) (k : Nat) (B : Nat → Bool) : Prop := Mk x (fun p => decide (p < k) && B p)
theorem Mp_set {x : Int32} {k : Nat} {B : Nat → Bool} (h : Mp x k B) (hk : k < 8) (hB : B k = true) : Mp (x ||| ((1 : Int32) <<< (nI k &&& 31))) (k + 1) B := by
  obtain ⟨m, h1, rfl, h2⟩ := h
  have hp := (pow_8 hk).1
  refine ⟨m ||| 2 ^ k, Nat.or_lt_two_pow (n := 8) h1 (by omega), by rw [shl_n k hk, nI_or (by omega) (by omega)], fun p hp => ?_⟩
  rw [Nat.testBit_or, h2 p hp, Nat.testBit_two_pow]
  by_cases e : k = p
  · subst e; simp [hB]
  · by_cases e2 : p < k
    · simp [e, e2, show p < k + 1 by omega]
    · simp [e, e2, show ¬ p < k + 1 by omega]
theorem Mp_skip {x : Int32} {k : Nat} {B : Nat → Bool} (h : Mp x k B) (hB : B k = false) : Mp x (k + 1) B := by
  refine Mk.congr h fun p hp => ?_
  by_cases e : k = p
  · subst e; simp [hB]
  · by_cases e2 : p < k
    · simp [e2, show p < k + 1 by omega]
    · simp [e2, show ¬ p < k + 1 by omega]
/-- the word of a verb, and its number among the strings -/
def wdN (verb : Nat) : Nat := if verb = 119 then 0 else if verb = 99 then 1 else 2
def wd (verb : Nat) : List Nat := if verb = 119 then qWeigh else if verb = 99 then qClash else qBar
theorem wd_len {verb : Nat} : (wd verb).length = jSlen.getD (wdN verb) 0 := by
  unfold wd wdN
  split
  · rfl
  · split <;> rfl
theorem wd_at {verb i : Nat} (h : i < (wd verb).length) : (jSbyt.getD (wdN verb) []).getD i 0 = nI ((wd verb).getD i 0) := by
  have k0 : ∀ i, i < 6 → (jSbyt.getD 0 []).getD i 0 = nI (qWeigh.getD i 0) := by decide +kernel
  have k1 : ∀ i, i < 6 → (jSbyt.getD 1 []).getD i 0 = nI (qClash.getD i 0) := by decide +kernel
  have k2 : ∀ i, i < 4 → (jSbyt.getD 2 []).getD i 0 = nI (qBar.getD i 0) := by decide +kernel
  unfold wd wdN at *
  by_cases e : verb = 119
  · rw [if_pos e] at h ⊢; rw [if_pos e]; exact k0 i h
  · rw [if_neg e] at h ⊢; rw [if_neg e]
    by_cases e2 : verb = 99
    · rw [if_pos e2] at h ⊢; rw [if_pos e2]; exact k1 i h
    · rw [if_neg e2] at h ⊢; rw [if_neg e2]; exact k2 i h
theorem wd_c : ∀ verb i, i < (wd verb).length → (wd verb).getD i 0 < 128 := by
  have k0 : ∀ i, i < 6 → qWeigh.getD i 0 < 128 := by decide
  have k1 : ∀ i, i < 6 → qClash.getD i 0 < 128 := by decide
  have k2 : ∀ i, i < 4 → qBar.getD i 0 < 128 := by decide
  intro verb i h
  unfold wd at *
  by_cases e : verb = 119
  · rw [if_pos e] at h ⊢; exact k0 i h
  · rw [if_neg e] at h ⊢
    by_cases e2 : verb = 99
    · rw [if_pos e2] at h ⊢; exact k1 i h
    · rw [if_neg e2] at h ⊢; exact k2 i h
section GO2
variable {G : jGT} {d : Nat} {M0 M : jM} {kd v dy : Nat} {e : jLE} {verb times : Nat} {s : jSk} {c : Nat} {post : Int32 → jM → Prop}
theorem c_endsTest {of hw w o a : Nat} (hC : Com M0 M kd v dy e verb times s) (hof : qWhich of = some w) (hho : qHow hw = some o) (h13 : M 21 13 = nI of) (h14 : M 21 14 = nI hw) (h10 : M 21 10 = nI a) (ha : a < 1000) (h1 : kd < 1000) (h2 : v < 1000) (h3 : dy < 1000) (hc : c < 129)
    (hB : Bh M0 kd v dy e verb times (endF s.1 s.2.1 s.2.2 (fun p => qCmp o (qSel w kd v dy p) a)) c post) : CI G (d + 8) mX3_endsTest [.ref 21, .int (nI c)] M post := by
  obtain ⟨g1, g2, g3, g4, g5, g6, g7⟩ := hC.1
  refine eX3_endsTest (bX3_endsTest_0 ?_)
  have loop : ∀ (r k : Nat) (x : Int32), k + r = 8 → Mp x k (fun p => qCmp o (qSel w kd v dy p) a) → kX3_endsTest_4 G (d + 7) (nI c) x (nI k) M post := by
    intro r
    induction r with
    | zero =>
      intro k x hk hx
      obtain rfl : k = 8 := by omega
      refine bX3_endsTest_4 (ite_ti (by decide) ?_)
      refine c_endFactor (cx := s.1) (t := s.2.1) (f := s.2.2) (B := fun p => qCmp o (qSel w kd v dy p) a) hC.2.2.2.2.2 (Mk.congr hx (fun p hp => by simp [hp])) (fun M1 a1 a2 a3 => ?_)
      refine c_behind (e := e) (verb := verb) (times := times) (hC.keep (M' := jup M1 21 6 6) (a1.congr (by (simp (disch := omega) only [jup_ss, jup_sn, jup_n, jup_ne])) (by (simp (disch := omega) only [jup_ne])) (by (simp (disch := omega) only [jup_ne])) (by (simp (disch := omega) only [jup_ne]))) (fun b b1 b2 b3 b4 => by (simp (disch := omega) only [jup_ne]); exact a2 b b1 b4) (fun i i1 i2 i3 i4 i5 i6 => by (simp (disch := omega) only [jup_ss, jup_sn, jup_n, jup_ne]); exact a3 i i6)) (by (simp (disch := omega) only [jup_ss, jup_sn, jup_n, jup_ne])) hc (hB.mono (fun M h => ⟨Or.inl rfl, h⟩) (fun M h => ⟨Or.inr rfl, h⟩))
    | succ r ih =>
      intro k x hk hx
      refine bX3_endsTest_4 (ite_fi (by rw [show (8 : Int32) = nI 8 from rfl, nI_leI (by omega) (by omega)]; omega) ?_)
      rw [h13, h14, h10, g2, g3, g4, nI_1]
      have sk : qCmp o (qSel w kd v dy k) a = false → kX3_endsTest_4 G (d + 7) (nI c) x (nI (k + 1)) M post := fun q => ih (k + 1) x (by omega) (Mp_skip hx q)
      have st : qCmp o (qSel w kd v dy k) a = true → kX3_endsTest_4 G (d + 7) (nI c) (x ||| ((1 : Int32) <<< (nI k &&& 31))) (nI (k + 1)) M post := fun q => ih (k + 1) _ (by omega) (Mp_set hx (by omega) q)
      have lt : ∀ z, z < 1000 → qSel w kd v dy k = z → o = 0 → (if nI a ≤ nI z then kX3_endsTest_4 G (d + 7) (nI c) x (nI (k + 1)) M post else kX3_endsTest_4 G (d + 7) (nI c) (x ||| ((1 : Int32) <<< (nI k &&& 31))) (nI (k + 1)) M post) := by
        intro z hz e1 e2
        rw [e1, e2] at sk st
        refine ite_i (fun q => sk ?_) (fun q => st ?_) <;> rw [nI_leI (by omega) (by omega)] at q
        · exact decide_eq_false (by omega)
        · exact decide_eq_true (by omega)
      have eq : ∀ z, z < 1000 → qSel w kd v dy k = z → o = 1 → (if nI z = nI a then kX3_endsTest_4 G (d + 7) (nI c) (x ||| ((1 : Int32) <<< (nI k &&& 31))) (nI (k + 1)) M post else kX3_endsTest_4 G (d + 7) (nI c) x (nI (k + 1)) M post) := by
        intro z hz e1 e2
        rw [e1, e2] at sk st
        refine ite_i (fun q => st ?_) (fun q => sk ?_) <;> rw [nI_eq (by omega) (by omega)] at q
        · exact decide_eq_true q
        · exact decide_eq_false q
      have gt : ∀ z, z < 1000 → qSel w kd v dy k = z → o = 2 → (if nI z ≤ nI a then kX3_endsTest_4 G (d + 7) (nI c) x (nI (k + 1)) M post else kX3_endsTest_4 G (d + 7) (nI c) (x ||| ((1 : Int32) <<< (nI k &&& 31))) (nI (k + 1)) M post) := by
        intro z hz e1 e2
        rw [e1, e2] at sk st
        refine ite_i (fun q => sk ?_) (fun q => st ?_) <;> rw [nI_leI (by omega) (by omega)] at q
        · exact decide_eq_false (by omega)
        · exact decide_eq_true (by omega)
      have how : (hw = 60 ∧ o = 0) ∨ (hw = 61 ∧ o = 1) ∨ (hw = 62 ∧ o = 2) := by
        unfold qHow at hho
        split at hho
        · cases hho; omega
        · split at hho
          · cases hho; omega
          · split at hho
            · cases hho; omega
            · cases hho
      have three : ∀ z, z < 1000 → qSel w kd v dy k = z → (if nI hw = 60 then (if nI a ≤ nI z then kX3_endsTest_4 G (d + 7) (nI c) x (nI (k + 1)) M post else kX3_endsTest_4 G (d + 7) (nI c) (x ||| ((1 : Int32) <<< (nI k &&& 31))) (nI (k + 1)) M post) else if nI hw = 61 then (if nI z = nI a then kX3_endsTest_4 G (d + 7) (nI c) (x ||| ((1 : Int32) <<< (nI k &&& 31))) (nI (k + 1)) M post else kX3_endsTest_4 G (d + 7) (nI c) x (nI (k + 1)) M post) else (if nI z ≤ nI a then kX3_endsTest_4 G (d + 7) (nI c) x (nI (k + 1)) M post else kX3_endsTest_4 G (d + 7) (nI c) (x ||| ((1 : Int32) <<< (nI k &&& 31))) (nI (k + 1)) M post)) := by
        intro z hz e1
        rcases how with ⟨rfl, q⟩ | ⟨rfl, q⟩ | ⟨rfl, q⟩
        · exact ite_ti rfl (lt z hz e1 q)
        · exact ite_fi (by decide) (ite_ti rfl (eq z hz e1 q))
        · exact ite_fi (by decide) (ite_fi (by decide) (gt z hz e1 q))
      unfold qWhich at hof
      split at hof
      · rename_i q; subst q; cases hof
        exact ite_ti rfl (three k (by omega) rfl)
      · split at hof
        · rename_i q; subst q; cases hof
          exact ite_fi (by decide) (ite_ti rfl (three kd h1 rfl))
        · split at hof
          · rename_i q; subst q; cases hof
            exact ite_fi (by decide) (ite_fi (by decide) (ite_ti rfl (three v h2 rfl)))
          · split at hof
            · rename_i q; subst q; cases hof
              exact ite_fi (by decide) (ite_fi (by decide) (ite_fi (by decide) (three dy h3 rfl)))
            · cases hof
  exact loop 8 0 0 (by omega) (Mk.congr Mk_0 (fun p hp => by simp))
/-- VALUE -/
theorem on5 {of hw w o a dg : Nat} (hC : Com M0 M kd v dy e verb times s) (h6 : M 21 6 = 5) (hof : qWhich of = some w) (hho : qHow hw = some o) (h13 : M 21 13 = nI of) (h14 : M 21 14 = nI hw) (h10 : M 21 10 = nI a) (h11 : M 21 11 = nI dg) (ha : a < 1000) (hd : dg < 10) (h1 : kd < 1000) (h2 : v < 1000) (h3 : dy < 1000) (hc : c < 129)
    (kA : Ac a dg c → ∀ M', Com M0 M' kd v dy e verb times s → M' 21 6 = 5 → M' 21 13 = nI of → M' 21 14 = nI hw → M' 21 10 = nI (10 * a + (c - 48)) → M' 21 11 = nI (dg + 1) → post 1 M')
    (kZ : ¬ Ac a dg c → dg = 0 → post 0 M)
    (kB : ¬ Ac a dg c → 0 < dg → Bh M0 kd v dy e verb times (endF s.1 s.2.1 s.2.2 (fun p => qCmp o (qSel w kd v dy p) a)) c post) : CI G (d + 9) mX3_goesOn [.ref 21, .int (nI c)] M post := by
  refine eX3_goesOn (bX3_goesOn_0 ?_)
  rw [h6]
  refine ite_fi (by decide) (ite_fi (by decide) (ite_fi (by decide) (ite_fi (by decide) (ite_fi (by decide) (ite_ti rfl (c_digit h10 h11 ha hd hc (fun q => ite_fi (by decide) ?_) (fun q => ite_ti rfl ?_)))))))
  · exact kA q _ (hC.keep (hC.2.2.2.2.2.congr (by (simp (disch := omega) only [jup_ss, jup_sn, jup_n, jup_ne])) (by (simp (disch := omega) only [jup_ne])) (by (simp (disch := omega) only [jup_ne])) (by (simp (disch := omega) only [jup_ne]))) (fun b b1 b2 b3 b4 => by (simp (disch := omega) only [jup_ne])) (fun i i1 i2 i3 i4 i5 i6 => by (simp (disch := omega) only [jup_ss, jup_sn, jup_n, jup_ne]))) (by (simp (disch := omega) only [jup_ss, jup_sn, jup_n, jup_ne]); exact h6) (by (simp (disch := omega) only [jup_ss, jup_sn, jup_n, jup_ne]); exact h13) (by (simp (disch := omega) only [jup_ss, jup_sn, jup_n, jup_ne]); exact h14) (by (simp (disch := omega) only [jup_ss, jup_sn, jup_n, jup_ne])) (by (simp (disch := omega) only [jup_ss, jup_sn, jup_n, jup_ne]))
  · rw [h11, show (0 : Int32) = nI 0 from rfl]
    refine ite_i (fun z => ?_) (fun z => ?_) <;> rw [nI_leI (by omega) (by omega)] at z
    · exact kZ q (by omega)
    · exact c_endsTest (d := d) hC hof hho h13 h14 h10 ha h1 h2 h3 hc ((kB q (by omega)).mono (fun M h => ite_ti rfl h) (fun M h => ite_fi (by decide) h))
/-- CLAUSE -/
theorem on0 (hE : LE M0 M kd v dy e) (h6 : M 21 6 = 0) (hc : c < 129)
    (k1 : c = 119 ∨ c = 99 ∨ c = 98 → ∀ M', LE M0 M' kd v dy e → M' 21 7 = nI c → M' 21 8 = nI 1 → M' 21 6 = 1 → post 1 M')
    (k0 : ¬ (c = 119 ∨ c = 99 ∨ c = 98) → ∀ M', (∀ b, b ≠ 21 → M' b = M b) → M' 21 2 = M 21 2 → post 0 M') : CI G (d + 9) mX3_goesOn [.ref 21, .int (nI c)] M post := by
  have E : ∀ k : Nat, k < 129 → (nI c = nI k ↔ c = k) := fun k hk => nI_eq (by omega) (by omega)
  refine eX3_goesOn (bX3_goesOn_0 (ite_ti h6 (eX3_beginsClause (bX3_beginsClause_0 ?_))))
  rw [show (119 : Int32) = nI 119 from rfl, show (99 : Int32) = nI 99 from rfl, show (98 : Int32) = nI 98 from rfl]
  have y : c = 119 ∨ c = 99 ∨ c = 98 → ((1 : Int32) = 0 ∨ (1 : Int32) = 1) ∧ post 1 (jup (jup (jup M 21 7 (nI c)) 21 8 1) 21 6 1) := fun q =>
    ⟨Or.inr rfl, k1 q _ (hE.congr (fun b b1 b2 b3 b4 => by (simp (disch := omega) only [jup_ne])) (fun i i1 i2 i3 i4 => by (simp (disch := omega) only [jup_ss, jup_sn, jup_n, jup_ne]))) (by (simp (disch := omega) only [jup_ss, jup_sn, jup_n, jup_ne])) (by (simp (disch := omega) only [jup_ss, jup_sn, jup_n, jup_ne]); rfl) (by (simp (disch := omega) only [jup_ss, jup_sn, jup_n, jup_ne]))⟩
  refine ite_i (fun q => y ?_) (fun q1 => ite_i (fun q => y ?_) (fun q2 => ite_i (fun q => y ?_) (fun q3 => ?_)))
  · rw [E _ (by omega)] at q; exact Or.inl q
  · rw [E _ (by omega)] at q; exact Or.inr (Or.inl q)
  · rw [E _ (by omega)] at q; exact Or.inr (Or.inr q)
  · rw [E _ (by omega)] at q1 q2 q3
    exact ⟨Or.inl rfl, k0 (by omega) _ (fun b hb => by (simp (disch := omega) only [jup_ne])) (by (simp (disch := omega) only [jup_ss, jup_sn, jup_n, jup_ne]))⟩
/-- WORD -/
theorem on1 {l : Nat} (hE : LE M0 M kd v dy e) (h6 : M 21 6 = 1) (hv : verb = 119 ∨ verb = 99 ∨ verb = 98) (h7 : M 21 7 = nI verb) (h8 : M 21 8 = nI l) (hl : l < (wd verb).length) (hc : c < 129)
    (k1 : c = (wd verb).getD l 0 → l + 1 < (wd verb).length → ∀ M', LE M0 M' kd v dy e → M' 21 7 = nI verb → M' 21 8 = nI (l + 1) → M' 21 6 = 1 → post 1 M')
    (k2 : c = (wd verb).getD l 0 → l + 1 = (wd verb).length → ∀ M', LE M0 M' kd v dy e → M' 21 7 = nI verb → M' 21 10 = nI 0 → M' 21 11 = nI 0 → M' 21 6 = 2 → post 1 M')
    (k0 : ¬ c = (wd verb).getD l 0 → post 0 M) : CI G (d + 9) mX3_goesOn [.ref 21, .int (nI c)] M post := by
  have h10 : (wd verb).length ≤ 6 := by unfold wd; split; (· decide); split <;> decide
  refine eX3_goesOn (bX3_goesOn_0 ?_)
  rw [h6]
  refine ite_fi (by decide) (ite_ti rfl (eX3_goesOnWord (bX3_goesOnWord_0 ?_)))
  rw [h8]
  have ht : wdN verb < 5 := by unfold wdN; split; (· omega); split <;> omega
  have gen : if nI l < 0 then ((0 : Int32) = 0 ∨ (0 : Int32) = 1) ∧ post 0 M else CI G (d + 7) mJ0_length_8abf5 [.ref (3000 + wdN verb)] M (fun r9 M9 => (if r9 ≤ nI l then ((0 : Int32) = 0 ∨ (0 : Int32) = 1) ∧ post 0 M9 else CI G (d + 7) mJ0_charAt_5068e [.ref (3000 + wdN verb), .int (M9 21 8)] M9 (fun r10 M10 => (if r10 = nI c then CI G (d + 7) mJ0_length_8abf5 [.ref (3000 + wdN verb)] (jup M10 21 8 ((M10 21 8) + 1)) (fun r11 M11 => (if ((M10 21 8) + 1) = r11 then CV G (d + 7) mX3_beginNumber [.ref 21, .int 2] M11 (fun M12 => ((1 : Int32) = 0 ∨ (1 : Int32) = 1) ∧ post 1 M12) else ((1 : Int32) = 0 ∨ (1 : Int32) = 1) ∧ post 1 M11)) else ((0 : Int32) = 0 ∨ (0 : Int32) = 1) ∧ post 0 M10)))) := by
    refine ite_fi (nI_pos (by omega)) (c_slen ht ?_)
    rw [← wd_len]
    refine ite_fi (by rw [nI_leI (by omega) (by omega)]; omega) ?_
    rw [h8]
    refine c_schar ht (by rw [← wd_len]; exact hl) ?_
    rw [wd_at hl]
    have hcc := wd_c verb l hl
    refine ite_i (fun q => c_slen ht ?_) (fun q => ⟨Or.inl rfl, k0 (fun z => q (by rw [z]))⟩)
    rw [nI_eq (by omega) (by omega)] at q
    rw [h8, nI_1, ← wd_len]
    refine ite_i (fun z => ?_) (fun z => ?_) <;> rw [nI_eq (by omega) (by omega)] at z
    · refine eX3_beginNumber (bX3_beginNumber_0 ⟨Or.inr rfl, k2 q.symm z _ (hE.congr (fun b b1 b2 b3 b4 => by (simp (disch := omega) only [jup_ne])) (fun i i1 i2 i3 i4 => by (simp (disch := omega) only [jup_ss, jup_sn, jup_n, jup_ne]))) (by (simp (disch := omega) only [jup_ss, jup_sn, jup_n, jup_ne]); exact h7) (by (simp (disch := omega) only [jup_ss, jup_sn, jup_n, jup_ne]); rfl) (by (simp (disch := omega) only [jup_ss, jup_sn, jup_n, jup_ne]); rfl) (by (simp (disch := omega) only [jup_ss, jup_sn, jup_n, jup_ne]))⟩)
    · exact ⟨Or.inr rfl, k1 q.symm (by omega) _ (hE.congr (fun b b1 b2 b3 b4 => by (simp (disch := omega) only [jup_ne])) (fun i i1 i2 i3 i4 => by (simp (disch := omega) only [jup_ss, jup_sn, jup_n, jup_ne]))) (by (simp (disch := omega) only [jup_ss, jup_sn, jup_n, jup_ne]); exact h7) (by (simp (disch := omega) only [jup_ss, jup_sn, jup_n, jup_ne])) (by (simp (disch := omega) only [jup_ss, jup_sn, jup_n, jup_ne]); exact h6)⟩
  rw [h7]
  rcases hv with rfl | rfl | rfl
  · exact ite_ti rfl gen
  · exact ite_fi (by decide) (ite_ti rfl gen)
  · exact ite_fi (by decide) (ite_fi (by decide) gen)
/-- AMOUNT -/
theorem on2 {a dg : Nat} (hE : LE M0 M kd v dy e) (h6 : M 21 6 = 2) (hv : verb = 119 ∨ verb = 99 ∨ verb = 98) (h7 : M 21 7 = nI verb) (h10 : M 21 10 = nI a) (h11 : M 21 11 = nI dg) (ha : a < 1000) (hd : dg < 10) (hc : c < 129)
    (kA : Ac a dg c → ∀ M', LE M0 M' kd v dy e → M' 21 6 = 2 → M' 21 7 = nI verb → M' 21 10 = nI (10 * a + (c - 48)) → M' 21 11 = nI (dg + 1) → post 1 M')
    (kZ : ¬ Ac a dg c → dg = 0 → post 0 M)
    (kB : ¬ Ac a dg c → 0 < dg → verb = 98 → c = 59 → ∀ M', LE M0 M' kd v dy (e.1, e.2.1, a, e.2.2.2 + 1) → M' 21 6 = 0 → post 1 M')
    (kW : ¬ Ac a dg c → 0 < dg → verb ≠ 98 → c = 32 → a < 100 → ∀ M', Com M0 M' kd v dy e verb a ([], fun _ => false, fun _ => true) → M' 21 6 = 3 → post 1 M')
    (k0 : ¬ Ac a dg c → 0 < dg → ¬ (verb = 98 ∧ c = 59) → ¬ (verb ≠ 98 ∧ c = 32) → ∀ M', (∀ b, b < 21 ∨ 26 < b → M' b = M0 b) → post 0 M') (ha2 : 0 < dg → a < 100) : CI G (d + 9) mX3_goesOn [.ref 21, .int (nI c)] M post := by
  have E : ∀ k : Nat, k < 129 → (nI c = nI k ↔ c = k) := fun k hk => nI_eq (by omega) (by omega)
  refine eX3_goesOn (bX3_goesOn_0 ?_)
  rw [h6]
  refine ite_fi (by decide) (ite_fi (by decide) (ite_ti rfl (c_digit h10 h11 ha hd hc (fun q => ite_fi (by decide) ?_) (fun q => ite_ti rfl ?_))))
  · exact kA q _ (hE.congr (fun b b1 b2 b3 b4 => by (simp (disch := omega) only [jup_ne])) (fun i i1 i2 i3 i4 => by (simp (disch := omega) only [jup_ss, jup_sn, jup_n, jup_ne]))) (by (simp (disch := omega) only [jup_ss, jup_sn, jup_n, jup_ne]); exact h6) (by (simp (disch := omega) only [jup_ss, jup_sn, jup_n, jup_ne]); exact h7) (by (simp (disch := omega) only [jup_ss, jup_sn, jup_n, jup_ne])) (by (simp (disch := omega) only [jup_ss, jup_sn, jup_n, jup_ne]))
  · rw [h11, show (0 : Int32) = nI 0 from rfl]
    refine ite_i (fun z => ?_) (fun z => ?_) <;> rw [nI_leI (by omega) (by omega)] at z
    · exact kZ q (by omega)
    · refine eX3_endsAmount (bX3_endsAmount_0 ?_)
      obtain ⟨g1, g2, g3, g4, g5, g6, g7⟩ := hE
      rw [h7, h10, g6, show (98 : Int32) = nI 98 from rfl, show (59 : Int32) = nI 59 from rfl, show (32 : Int32) = nI 32 from rfl]
      refine ite_i (fun y => ?_) (fun y => ?_) <;> rw [nI_eq (by omega) (by omega)] at y
      · refine ite_i (fun y2 => ite_fi (by decide) ?_) (fun y2 => ite_ti rfl ?_) <;> rw [E _ (by omega)] at y2
        · refine kB q (by omega) y y2 _ ⟨fun b hb => by simp (disch := omega) only [jup_ne]; exact g1 b hb, by (simp (disch := omega) only [jup_ss, jup_sn, jup_n, jup_ne]); exact g2, by (simp (disch := omega) only [jup_ss, jup_sn, jup_n, jup_ne]); exact g3, by (simp (disch := omega) only [jup_ss, jup_sn, jup_n, jup_ne]); exact g4, by (simp (disch := omega) only [jup_ss, jup_sn, jup_n, jup_ne]), by (simp (disch := omega) only [jup_ss, jup_sn, jup_n, jup_ne]); exact nI_1 _, fun p hp => ?_⟩ (by (simp (disch := omega) only [jup_ss, jup_sn, jup_n, jup_ne]))
          simp (disch := omega) only [jup_n]
          exact g7 p hp
        · exact k0 q (by omega) (fun w => y2 w.2) (fun w => w.1 y) _ (fun b hb => by simp (disch := omega) only [jup_ne]; exact g1 b hb)
      · refine ite_i (fun y2 => ite_fi (by decide) ?_) (fun y2 => ite_ti rfl ?_) <;> rw [E _ (by omega)] at y2
        · refine kW q (by omega) y y2 (ha2 (by omega)) _ ⟨⟨fun b hb => by simp (disch := omega) only [jup_ne]; exact g1 b hb, by (simp (disch := omega) only [jup_ss, jup_sn, jup_n, jup_ne]); exact g2, by (simp (disch := omega) only [jup_ss, jup_sn, jup_n, jup_ne]); exact g3, by (simp (disch := omega) only [jup_ss, jup_sn, jup_n, jup_ne]); exact g4, by (simp (disch := omega) only [jup_ss, jup_sn, jup_n, jup_ne]); exact g5, by (simp (disch := omega) only [jup_ss, jup_sn, jup_n, jup_ne]); exact g6, fun p hp => ?_⟩, by (simp (disch := omega) only [jup_ss, jup_sn, jup_n, jup_ne]); exact h7, by (simp (disch := omega) only [jup_ss, jup_sn, jup_n, jup_ne]), ha2 (by omega), by omega, by (simp (disch := omega) only [jup_ss, jup_sn, jup_n, jup_ne]); rfl, by simp, trivial, by dsimp only; (simp (disch := omega) only [jup_ss, jup_sn, jup_n, jup_ne]); exact Mk_0, by dsimp only; (simp (disch := omega) only [jup_ss, jup_sn, jup_n, jup_ne]); exact Mk_255⟩ (by (simp (disch := omega) only [jup_ss, jup_sn, jup_n, jup_ne]))
          simp (disch := omega) only [jup_n]
          exact g7 p hp
        · exact k0 q (by omega) (fun w => y w.1) (fun w => y2 w.2) _ (fun b hb => by simp (disch := omega) only [jup_ne]; exact g1 b hb)
end GO2
