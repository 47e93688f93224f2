/-- just a ; ends the clause here -/
def RdC (G : jGT) (d : Nat) (M0 M : jM) (kd v dy : Nat) (e : jLE) (c : Nat) : Prop := ∀ post : Int32 → jM → Prop, (c = 59 → ∀ M', LE M0 M' kd v dy e → M' 21 6 = 0 → post 1 M') → (c ≠ 59 → ∀ M', frL M0 M' → post 0 M') → CI G (d + 9) mX3_goesOn [.ref 21, .int (nI c)] M post
section LN2
variable {G : jGT} {d : Nat} {M0 : jM} {kd v dy n : Nat} {h : Nat → Nat} {K : Nat → jM → Prop} {Er : Nat → jM → Prop} {Fin : jM → Prop} {e : jLE} {verb : Nat}
theorem t_word (L : Lp G d M0 n h K Er Fin) (he : e.2.2.2 < 10) (hv : verb = 119 ∨ verb = 99 ∨ verb = 98) : ∀ (m l i : Nat) (M : jM), l + m + 1 = (wd verb).length → i ≤ n → LE M0 M kd v dy e → M 21 6 = 1 → M 21 7 = nI verb → M 21 8 = nI l →
    (∀ e', qWord h ((wd verb).drop l) i = .inl e' → ∀ M', frL M0 M' → Er e' M') → (∀ j, qWord h ((wd verb).drop l) i = .inr j → ∀ M', j ≤ n → LE M0 M' kd v dy e → M' 21 6 = 2 → M' 21 7 = nI verb → M' 21 10 = nI 0 → M' 21 11 = nI 0 → K j M') → K i M := by
  intro m
  induction m with
  | zero =>
    intro l i M hl hi hE h6 h7 h8 k0 k1
    have hl2 : l < (wd verb).length := by omega
    have ed : (wd verb).drop l = [(wd verb).getD l 0] := by
      rw [List.drop_eq_getElem_cons hl2, List.drop_eq_nil_of_le (by omega), List.getD_eq_getElem?_getD, List.getElem?_eq_getElem hl2]; rfl
    rw [ed, qWord] at k0 k1
    refine L.2.2 i M hi hE.1 (on1 hE h6 hv h7 h8 hl2 (L.sg_lt i) (fun _ q => by omega) (fun q _ M' g1 g2 g3 g4 g5 => ?_) (fun q => ite_ti rfl ?_))
    · rcases sg_or L.1 hi with ⟨hi1, hs⟩ | ⟨_, hs, _⟩
      · rw [hs] at q
        rw [if_pos q] at k1
        exact nxt hi1 g1 he (k1 (i + 1) rfl M' (by omega) g1 g5 g2 g3 g4)
      · have hc : ∀ verb l, l < (wd verb).length → (wd verb).getD l 0 ≠ 59 := by
          have a0 : ∀ i, i < 6 → qWeigh.getD i 0 ≠ 59 := by decide
          have a1 : ∀ i, i < 6 → qClash.getD i 0 ≠ 59 := by decide
          have a2 : ∀ i, i < 4 → qBar.getD i 0 ≠ 59 := by decide
          intro verb l hl
          unfold wd at *
          by_cases e : verb = 119
          · rw [if_pos e] at hl ⊢; exact a0 l hl
          · rw [if_neg e] at hl ⊢
            by_cases e2 : verb = 99
            · rw [if_pos e2] at hl ⊢; exact a1 l hl
            · rw [if_neg e2] at hl ⊢; exact a2 l hl
        exact absurd (hs.symm.trans q).symm (hc verb l hl2)
    · have q' : ¬ h i = (wd verb).getD l 0 := by
        rcases sg_or L.1 hi with ⟨_, hs⟩ | ⟨_, _, hs⟩
        · rw [← hs]; exact q
        · have := wd_c verb l hl2; omega
      rw [if_neg q'] at k0
      exact k0 i rfl M hE.1
  | succ m ih =>
    intro l i M hl hi hE h6 h7 h8 k0 k1
    have hl2 : l < (wd verb).length := by omega
    have ed : (wd verb).drop l = (wd verb).getD l 0 :: (wd verb).drop (l + 1) := by
      rw [List.drop_eq_getElem_cons hl2, List.getD_eq_getElem?_getD, List.getElem?_eq_getElem hl2]; rfl
    rw [ed, qWord] at k0 k1
    refine L.2.2 i M hi hE.1 (on1 hE h6 hv h7 h8 hl2 (L.sg_lt i) (fun q _ M' g1 g2 g3 g4 => ?_) (fun _ q => by omega) (fun q => ite_ti rfl ?_))
    · rcases sg_or L.1 hi with ⟨hi1, hs⟩ | ⟨_, hs, _⟩
      · rw [hs] at q
        rw [if_pos q] at k0 k1
        exact nxt hi1 g1 he (ih (l + 1) (i + 1) M' (by omega) (by omega) g1 g4 g2 g3 k0 k1)
      · have hc : ∀ verb l, l < (wd verb).length → (wd verb).getD l 0 ≠ 59 := by
          have a0 : ∀ i, i < 6 → qWeigh.getD i 0 ≠ 59 := by decide
          have a1 : ∀ i, i < 6 → qClash.getD i 0 ≠ 59 := by decide
          have a2 : ∀ i, i < 4 → qBar.getD i 0 ≠ 59 := by decide
          intro verb l hl
          unfold wd at *
          by_cases e : verb = 119
          · rw [if_pos e] at hl ⊢; exact a0 l hl
          · rw [if_neg e] at hl ⊢
            by_cases e2 : verb = 99
            · rw [if_pos e2] at hl ⊢; exact a1 l hl
            · rw [if_neg e2] at hl ⊢; exact a2 l hl
        exact absurd (hs.symm.trans q).symm (hc verb l hl2)
    · have q' : ¬ h i = (wd verb).getD l 0 := by
        rcases sg_or L.1 hi with ⟨_, hs⟩ | ⟨_, _, hs⟩
        · rw [← hs]; exact q
        · have := wd_c verb l hl2; omega
      rw [if_neg q'] at k0
      exact k0 i rfl M hE.1
theorem t_amt {i : Nat} {M : jM} (L : Lp G d M0 n h K Er Fin) (he : e.2.2.2 < 10) (hv : verb = 119 ∨ verb = 99 ∨ verb = 98) (hi : i ≤ n) (hE : LE M0 M kd v dy e) (h6 : M 21 6 = 2) (h7 : M 21 7 = nI verb) (h10 : M 21 10 = nI 0) (h11 : M 21 11 = nI 0)
    (k0 : ∀ e', qNum h i = .inl e' → ∀ M', frL M0 M' → Er e' M')
    (k1 : ∀ j a, qNum h i = .inr (j, a) → j ≤ n → a < 100 → ∀ M' dg, LE M0 M' kd v dy e → M' 21 6 = 2 → M' 21 7 = nI verb → M' 21 10 = nI a → M' 21 11 = nI dg → 0 < dg → dg < 10 → ¬ Ac a dg (sg h n j) → K j M') : K i M := by
  refine L.2.2 i M hi hE.1 ?_
  have D : ∀ c, qDig c = true ↔ 48 ≤ c ∧ c ≤ 57 := fun c => by unfold qDig; simp
  refine on2 hE h6 hv h7 h10 h11 (by omega) (by omega) (L.sg_lt i) (fun q M1 g1 g2 g3 g5 g6 => ?_) (fun q _ => ite_ti rfl (k0 i ?_ M hE.1)) (fun _ q => by omega) (fun _ q => by omega) (fun _ q => by omega) (fun q => by omega)
  · rcases sg_or L.1 hi with ⟨hi1, hs⟩ | ⟨_, hs, _⟩
    · rw [hs] at q g5
      refine nxt hi1 g1 he ?_
      have hd1 : qDig (h i) = true := (D _).mpr ⟨q.1, q.2.1⟩
      have d1 := (D _).mp hd1
      by_cases h2 : h i ≠ 48 ∧ qDig (h (i + 1)) = true
      · have r : qNum h i = .inr (i + 2, 10 * (h i - 48) + (h (i + 1) - 48)) := by unfold qNum; rw [if_pos hd1, if_pos h2]
        have d2 := (D _).mp h2.2
        rcases sg_or L.1 (i := i + 1) (by omega) with ⟨hi2, hs2⟩ | ⟨_, _, hs2⟩
        · have ac : Ac (10 * 0 + (h i - 48)) (0 + 1) (sg h n (i + 1)) := by rw [hs2]; unfold Ac; omega
          refine L.2.2 (i + 1) M1 (by omega) g1.1 ?_
          refine on2 g1 g2 hv g3 g5 g6 (by omega) (by omega) (L.sg_lt _) (fun q' M2 f1 f2 f3 f5 f6 => ?_) (fun q' _ => by omega) (fun q' => absurd ac q') (fun q' => absurd ac q') (fun q' => absurd ac q') (fun _ => by omega)
          rw [hs2] at f5
          refine nxt hi2 f1 he (k1 _ _ r (by omega) (by omega) M2 2 f1 f2 f3 ?_ f6 (by omega) (by omega) (fun z => by unfold Ac at z; omega))
          rw [f5]; congr 1; omega
        · omega
      · have r : qNum h i = .inr (i + 1, h i - 48) := by unfold qNum; rw [if_pos hd1, if_neg h2]
        refine k1 _ _ r (by omega) (by omega) M1 1 g1 g2 g3 ?_ g6 (by omega) (by omega) (fun z => h2 ⟨?_, ?_⟩)
        · rw [g5]; congr 1; omega
        · unfold Ac at z; omega
        · rcases sg_or L.1 (i := i + 1) (by omega) with ⟨_, hs2⟩ | ⟨_, hs2, _⟩
          · rw [hs2] at z; exact (D _).mpr ⟨z.1, z.2.1⟩
          · rw [hs2] at z; unfold Ac at z; omega
    · rw [hs] at q; unfold Ac at q; omega
  · unfold qNum
    rw [if_neg]
    intro z
    have z := (D _).mp z
    rcases sg_or L.1 hi with ⟨_, hs⟩ | ⟨_, _, hs⟩
    · exact q (by rw [hs]; unfold Ac; omega)
    · omega
/-- what a clause adds -/
def addE (e : jLE) (kd v dy : Nat) (W C : jWt) (b : Option Nat) : jLE := (fun p => e.1 p + W kd v dy p, fun p => e.2.1 p + C kd v dy p, b.getD e.2.2.1, e.2.2.2 + 1)
theorem LE.cong {M : jM} {e e' : jLE} (hE : LE M0 M kd v dy e) (e1 : ∀ p, p < 8 → e'.1 p = e.1 p ∧ e'.2.1 p = e.2.1 p) (e2 : e'.2.2 = e.2.2) : LE M0 M kd v dy e' := by
  obtain ⟨h1, h2, h3, h4, h5, h6, h7⟩ := hE
  exact ⟨h1, h2, h3, h4, by rw [e2]; exact h5, by rw [e2]; exact h6, fun p hp => by rw [(e1 p hp).1, (e1 p hp).2]; exact h7 p hp⟩
/-- behind the verb's word: amount and expression -/
theorem t_much {i : Nat} {M : jM} (L : Lp G d M0 n h K Er Fin) (hkd : kd < 1000) (hvv : v < 1000) (hdy : dy < 1000) (he : e.2.2.2 < 10) (hv : verb = 119 ∨ verb = 99) (base : Nat) (hi : i < n) (hE : LE M0 M kd v dy e) (h6 : M 21 6 = 1) (h7 : M 21 7 = nI verb) (h8 : M 21 8 = nI 1) (hvi : h i = verb)
    (k0 : ∀ e', qMuch h n (wd verb) base i = .inl e' → ∀ M', frL M0 M' → Er e' M')
    (k1 : ∀ j S W, qMuch h n (wd verb) base i = .inr (j, S, W) → ∀ M', frL M0 M' → RdC G d M0 M' kd v dy (if verb = 119 then addE e kd v dy W (fun _ _ _ _ => 0) none else addE e kd v dy (fun _ _ _ _ => 0) W none) (sg h n j) → K j M') : K (i + 1) M := by
  have hlen : 1 + 4 + 1 = (wd verb).length := by rcases hv with rfl | rfl <;> rfl
  have hw : qWord h (wd verb) i = qWord h ((wd verb).drop 1) (i + 1) := by
    rcases hv with rfl | rfl
    · show qWord h (119 :: (wd 119).drop 1) i = _
      rw [qWord, if_pos hvi]
    · show qWord h (99 :: (wd 99).drop 1) i = _
      rw [qWord, if_pos hvi]
  have hv3 : verb = 119 ∨ verb = 99 ∨ verb = 98 := by omega
  unfold qMuch at k0 k1
  refine t_word L he hv3 4 1 (i + 1) M hlen (by omega) hE h6 h7 h8 (fun e' q => k0 e' (by rw [hw, q])) (fun j1 q M1 g0 g1 g2 g3 g4 g5 => ?_)
  rw [hw, q] at k0 k1
  dsimp only at k0 k1
  refine t_amt L he hv3 g0 g1 g2 g3 g4 g5 (fun e' q => k0 e' (by rw [q])) (fun j2 a q2 f0 fa M2 dg f1 f2 f3 f4 f5 f6 f7 f8 => ?_)
  rw [q2] at k0 k1
  dsimp only at k0 k1
  refine L.2.2 j2 M2 f0 f1.1 ?_
  refine on2 f1 f2 hv3 f3 f4 f5 (by omega) (by omega) (L.sg_lt _) (fun z => absurd z f8) (fun _ z => by omega) (fun _ _ z => by omega) (fun _ _ _ z _ M3 p1 p2 => ?_) (fun _ _ _ z M3 p1 => ite_ti rfl (k0 j2 ?_ M3 p1)) (fun _ => fa)
  · rcases sg_or L.1 f0 with ⟨hj, hs⟩ | ⟨_, hs, _⟩
    · rw [hs] at z
      rw [if_pos z] at k0 k1
      refine nxt hj p1.1 he ?_
      refine t_some L he (t_fac L hkd hvv hdy he 5) (fun i x => qFac_ok L.1 5 i x) (cx := []) (fun fr cx' q => by cases q) rfl (by omega) p1 p2 (fun e' q => k0 e' (by unfold qE; rw [q])) (fun j S B q q38 q124 M4 T F r1 r2 r3 => ?_)
      have ok := (qSome_ok (fun i x => qFac_ok L.1 5 i x) q).2.1
      dsimp only at ok
      have q : qE h n (j2 + 1) = .inr (j, S, B) := q
      rw [q] at k1
      refine k1 j _ _ rfl M4 r1 ?_
      have key : sg h n j ≠ 38 ∧ sg h n j ≠ 124 := by
        rcases sg_or L.1 ok with ⟨_, hsj⟩ | ⟨_, hsj, _⟩
        · rw [hsj]; exact ⟨q38, q124⟩
        · rw [hsj]; omega
      intro post c1 c0
      refine r3 post ⟨fun q => absurd q key.1, fun q => absurd q key.2, fun _ _ _ y => absurd y (by simp), fun y _ M5 s1 s2 => c1 y M5 ?_ s2, fun y M5 s1 => c0 (fun z => y (Or.inr (Or.inr (Or.inr ⟨z, rfl⟩)))) M5 s1⟩
      have rB : ∀ p, jor ([], T, F) p = B kd v dy p := fun p => congrFun r2 p
      by_cases hq : verb = 119
      · rw [if_pos hq]
        refine s1.cong (fun p hp => ?_) rfl
        unfold grown addE; dsimp only
        rw [if_pos hq, if_pos hq, rB p]
        exact ⟨rfl, rfl⟩
      · rw [if_neg hq]
        refine s1.cong (fun p hp => ?_) rfl
        unfold grown addE; dsimp only
        rw [if_neg hq, if_neg hq, rB p]
        exact ⟨rfl, rfl⟩
    · omega
  · rw [if_neg]
    intro y
    rcases sg_or L.1 f0 with ⟨hj, hs⟩ | ⟨_, _, hs⟩
    · exact z ⟨by omega, by rw [hs]; exact y⟩
    · omega
theorem t_clause {i : Nat} {M : jM} (L : Lp G d M0 n h K Er Fin) (hkd : kd < 1000) (hvv : v < 1000) (hdy : dy < 1000) (he : e.2.2.2 < 10) (hi : i ≤ n) (hE : LE M0 M kd v dy e) (h6 : M 21 6 = 0)
    (k0 : ∀ e', qClause h n i = .inl e' → ∀ M', frL M0 M' → Er e' M')
    (k1 : ∀ j S W C b, qClause h n i = .inr (j, S, W, C, b) → j ≤ n → ∀ M', frL M0 M' → RdC G d M0 M' kd v dy (addE e kd v dy W C b) (sg h n j) → K j M') : K i M := by
  refine L.2.2 i M hi hE.1 (on0 hE h6 (L.sg_lt i) (fun q M' g1 g2 g3 g4 => ?_) (fun q M' g1 _ => ite_ti rfl (k0 i ?_ M' (fun b hb => (g1 b (by omega)).trans (hE.1 b hb)))))
  · rcases sg_or L.1 hi with ⟨hi1, hs⟩ | ⟨_, hs, _⟩
    · rw [hs] at q g2
      refine nxt hi1 g1 he ?_
      have okj : ∀ j S W C b, qClause h n i = .inr (j, S, W, C, b) → j ≤ n := fun j S W C b z => (qClause_ok L.1 hi z).2.1
      unfold qClause at k0 k1 okj
      by_cases q1 : h i = 119
      · rw [if_pos q1] at k0 k1 okj
        refine t_much (verb := 119) L hkd hvv hdy he (Or.inl rfl) 10 hi1 g1 g4 (by rw [g2, q1]) (by rw [g3]) q1 (fun e' z => k0 e' (by rw [show qWeigh = wd 119 from rfl, z])) (fun j S W z M2 f1 f2 => ?_)
        rw [show qWeigh = wd 119 from rfl, z] at k1 okj
        exact k1 j _ _ _ _ rfl (okj _ _ _ _ _ rfl) M2 f1 f2
      · rw [if_neg q1] at k0 k1 okj
        by_cases q2 : h i = 99
        · rw [if_pos q2] at k0 k1 okj
          refine t_much (verb := 99) L hkd hvv hdy he (Or.inr rfl) 200 hi1 g1 g4 (by rw [g2, q2]) (by rw [g3]) q2 (fun e' z => k0 e' (by rw [show qClash = wd 99 from rfl, z])) (fun j S W z M2 f1 f2 => ?_)
          rw [show qClash = wd 99 from rfl, z] at k1 okj
          exact k1 j _ _ _ _ rfl (okj _ _ _ _ _ rfl) M2 f1 f2
        · have q3 : h i = 98 := by omega
          rw [if_neg q2, if_pos q3] at k0 k1 okj
          have hw : qWord h qBar i = qWord h ((wd 98).drop 1) (i + 1) := by
            show qWord h (98 :: (wd 98).drop 1) i = _
            rw [qWord, if_pos q3]
          refine t_word (verb := 98) L he (by omega) 2 1 (i + 1) M' rfl (by omega) g1 g4 (by rw [g2, q3]) g3 (fun e' z => k0 e' (by rw [hw, z])) (fun j1 z M1 r0 r1 r2 r3 r4 r5 => ?_)
          rw [hw, z] at k0 k1 okj
          dsimp only at k0 k1 okj
          refine t_amt (verb := 98) L he (by omega) r0 r1 r2 r3 r4 r5 (fun e' z => k0 e' (by rw [z])) (fun j2 a z2 f0 fa M2 dg f1 f2 f3 f4 f5 f6 f7 f8 => ?_)
          rw [z2] at k1
          refine k1 j2 _ _ _ _ rfl f0 M2 f1.1 ?_
          intro post c1 c0
          refine on2 f1 f2 (by omega) f3 f4 f5 (by omega) (by omega) (L.sg_lt _) (fun z => absurd z f8) (fun _ z => by omega) (fun _ _ _ y M3 p1 p2 => c1 y M3 (p1.cong (fun p hp => ?_) rfl) p2) (fun _ _ z => absurd rfl z) (fun _ _ y _ M3 p1 => c0 (fun w => y ⟨rfl, w⟩) M3 p1) (fun _ => fa)
          unfold addE; dsimp only
          rw [Int32.add_zero, Int32.add_zero]
          exact ⟨rfl, rfl⟩
    · omega
  · have q' : ¬ (h i = 119 ∨ h i = 99 ∨ h i = 98) := by
      rcases sg_or L.1 hi with ⟨_, hs⟩ | ⟨_, _, hs⟩
      · rw [← hs]; exact q
      · omega
    unfold qClause
    rw [if_neg (by omega), if_neg (by omega), if_neg (by omega)]
theorem t_clauses (L : Lp G d M0 n h K Er Fin) (hkd : kd < 1000) (hvv : v < 1000) (hdy : dy < 1000) : ∀ (k i : Nat) (M : jM) (e : jLE) (a : jA4), e.2.2.2 + k = 9 → i ≤ n → LE M0 M kd v dy e → M 21 6 = 0 → (∀ p, p < 8 → e.1 p = a.2.1 kd v dy p ∧ e.2.1 p = a.2.2.1 kd v dy p) → e.2.2.1 = a.2.2.2 →
    (∀ e', qClauses h n k i a = .inl e' → ∀ M', frL M0 M' → Er e' M') → (∀ b, qClauses h n k i a = .inr b → ∀ M' e', LE M0 M' kd v dy e' → (∀ p, p < 8 → e'.1 p = b.2.1 kd v dy p ∧ e'.2.1 p = b.2.2.1 kd v dy p) → e'.2.2.1 = b.2.2.2 → Fin M') → K i M := by
  have stp : ∀ (e : jLE) (a : jA4) (S : List jSt) (W C : jWt) (b : Option Nat), (∀ p, p < 8 → e.1 p = a.2.1 kd v dy p ∧ e.2.1 p = a.2.2.1 kd v dy p) → e.2.2.1 = a.2.2.2 →
      (∀ p, p < 8 → (addE e kd v dy W C b).1 p = (qAdd a S W C b).2.1 kd v dy p ∧ (addE e kd v dy W C b).2.1 p = (qAdd a S W C b).2.2.1 kd v dy p) ∧ (addE e kd v dy W C b).2.2.1 = (qAdd a S W C b).2.2.2 := by
    intro e a S W C b h1 h2
    refine ⟨fun p hp => ?_, ?_⟩
    · unfold addE qAdd; dsimp only
      rw [(h1 p hp).1, (h1 p hp).2]
      exact ⟨rfl, rfl⟩
    · unfold addE qAdd; dsimp only
      rw [h2]
  intro k
  induction k with
  | zero =>
    intro i M e a hk hi hE h6 ha hb k0 k1
    rw [qClauses] at k0 k1
    refine t_clause L hkd hvv hdy (by omega) hi hE h6 (fun e' q => k0 e' (by rw [q])) (fun j S W C b q hj M1 f1 f2 => ?_)
    rw [q] at k0 k1
    dsimp only at k0 k1
    obtain ⟨s1, s2⟩ := stp e a S W C b ha hb
    refine L.2.2 j M1 hj f1 (f2 _ (fun y M2 g1 g2 => ?_) (fun y M2 g1 => ite_ti rfl ?_))
    · refine ite_fi (by decide) ?_
      rcases sg_or L.1 hj with ⟨hj1, hs⟩ | ⟨hj1, _, _⟩
      · rw [if_pos hj1]
        rw [if_neg (by omega)] at k0
        exact ite_ti (by rw [g1.2.2.2.2.2.1]; unfold addE; dsimp only; rw [show e.2.2.2 = 9 by omega]; rfl) (k0 j rfl M2 g1.1)
      · rw [if_neg (by omega)]
        rw [if_pos hj1] at k1
        exact k1 _ rfl M2 _ g1 s1 s2
    · rcases sg_or L.1 hj with ⟨hj1, hs⟩ | ⟨_, hs, _⟩
      · rw [if_neg (by omega)] at k0
        exact k0 j rfl M2 g1
      · exact absurd hs y
  | succ k ih =>
    intro i M e a hk hi hE h6 ha hb k0 k1
    rw [qClauses] at k0 k1
    refine t_clause L hkd hvv hdy (by omega) hi hE h6 (fun e' q => k0 e' (by rw [q])) (fun j S W C b q hj M1 f1 f2 => ?_)
    rw [q] at k0 k1
    dsimp only at k0 k1
    obtain ⟨s1, s2⟩ := stp e a S W C b ha hb
    refine L.2.2 j M1 hj f1 (f2 _ (fun y M2 g1 g2 => ?_) (fun y M2 g1 => ite_ti rfl ?_))
    · rcases sg_or L.1 hj with ⟨hj1, hs⟩ | ⟨hj1, _, hs⟩
      · rw [hs] at y
        rw [if_pos y] at k0 k1
        refine nxt hj1 g1 (by unfold addE; dsimp only; omega) (ih (j + 1) M2 _ _ (by unfold addE; dsimp only; omega) (by omega) g1 g2 s1 s2 k0 k1)
      · refine ite_fi (by decide) ?_
        rw [if_neg (by omega)]
        rw [if_neg (by omega), if_pos hj1] at k1
        exact k1 _ rfl M2 _ g1 s1 s2
    · rcases sg_or L.1 hj with ⟨hj1, hs⟩ | ⟨_, hs, _⟩
      · rw [if_neg (by rw [← hs]; exact y), if_neg (by omega)] at k0
        exact k0 j rfl M2 g1
      · exact absurd hs y
end LN2
