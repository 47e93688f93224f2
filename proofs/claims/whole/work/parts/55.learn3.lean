section LR
variable {G : jGT} {d : Nat}
theorem c_learnL {M : jM} {n kd v dy : Nat} {post : Int32 → jM → Prop} (hn : n ≤ 100) (ht : ∀ k, k < n → ∃ b : Nat, b < 128 ∧ M 10 k = nI b) (hkd : kd < 1000) (hvv : v < 1000) (hdy : dy < 1000)
    (k0 : n ≠ 0 → ∀ e', qCourt (qH (M 10) n) n = .inl e' → ∀ M', frL M M' → post (nI e') M')
    (k1 : n ≠ 0 → ∀ a, qCourt (qH (M 10) n) n = .inr a → ∀ M', frL M M' → (∀ p, p < 8 → M' 22 p = a.2.1 kd v dy p ∧ M' 23 p = a.2.2.1 kd v dy p) → M' 21 2 = nI a.2.2.2 → post (-1) M')
    (kE : n = 0 → ∀ M', frL M M' → (∀ p, p < 8 → M' 22 p = 1 ∧ M' 23 p = 0) → M' 21 2 = 2 → post 0 M') :
    CI G (d + 10) mX3_learn [.ref 21, .ref 10, .int (nI n), .int (nI kd), .int (nI v), .int (nI dy)] M post := by
  refine eX3_learnL (bX3_learnL_0 ?_)
  have hh : ∀ i, i < n → M 10 i = nI (qH (M 10) n i) ∧ qH (M 10) n i < 128 := fun i hi => by
    obtain ⟨b, h1, h2⟩ := ht i hi
    unfold qH
    rw [if_pos hi, h2, nI_clamp (by omega)]
    exact ⟨rfl, h1⟩
  have main : ∀ M1 : jM, LE M M1 kd v dy (fun _ => 1, fun _ => 0, 2, 0) → M1 21 6 = 0 → kX3_learnL_79 G (d + 9) (nI n) (nI kd) (nI v) (nI dy) (nI n) 0 M1 post := by
    intro M1 hE h6
    by_cases n0 : n = 0
    · subst n0
      refine bX3_learnL_79 (ite_ti (Int32.le_refl _) ?_)
      refine on0 (c := 59) hE h6 (by omega) (fun q => by omega) (fun _ M' g1 g2 => ite_ti rfl ?_)
      refine kE rfl M' (fun b hb => (g1 b (by omega)).trans (hE.1 b hb)) (fun p hp => ?_) (by rw [g2, hE.2.2.2.2.1]; rfl)
      rw [g1 22 (by omega), g1 23 (by omega)]
      exact hE.2.2.2.2.2.2 p hp
    · have L : Lp G d M n (qH (M 10) n) (fun i M' => kX3_learnL_79 G (d + 9) (nI n) (nI kd) (nI v) (nI dy) (nI n) (nI i) M' post) (fun i M' => post (nI i) M') (fun M' => post (-1) M') := by
        refine ⟨qH_end _ _, fun i => ?_, fun i M2 hi hM hc => ?_⟩
        · by_cases hi : i < n
          · have := (hh i hi).2; omega
          · rw [qH_end _ _ i (by omega)]; omega
        · refine bX3_learnL_79 ?_
          by_cases hin : i < n
          · refine ite_fi (by rw [nI_leI (by omega) (by omega)]; omega) ⟨vp_in_nI (by omega) (by omega), ?_⟩
            rw [nI_clamp (by omega), hM 10 (by omega), (hh i hin).1, nI_1]
            simp only [if_pos hin] at hc
            have e : sg (qH (M 10) n) n i = qH (M 10) n i := if_pos hin
            rw [e] at hc
            exact hc
          · refine ite_ti (by rw [nI_leI (by omega) (by omega)]; omega) ?_
            simp only [if_neg hin] at hc
            have e : sg (qH (M 10) n) n i = 59 := if_neg hin
            rw [e] at hc
            obtain rfl : i = n := by omega
            exact hc
      refine t_clauses L hkd hvv hdy 9 0 M1 (fun _ => 1, fun _ => 0, 2, 0) qStart rfl (by omega) hE h6 (fun p hp => ⟨rfl, rfl⟩) rfl (fun e' q M' g1 => k0 n0 e' q M' g1) (fun b q M' e' g1 g2 g3 => k1 n0 b q M' g1.1 (fun p hp => ?_) ?_)
      · rw [(g1.2.2.2.2.2.2 p hp).1, (g1.2.2.2.2.2.2 p hp).2]; exact g2 p hp
      · rw [g1.2.2.2.2.1, g3]
  have loop : ∀ (r x : Nat) (M1 : jM), x + r = 8 → (∀ b, b < 21 ∨ 26 < b → M1 b = M b) → (∀ p, p < x → M1 22 p = 1 ∧ M1 23 p = 0) → kX3_learnL_3 G (d + 9) (nI n) (nI kd) (nI v) (nI dy) (nI x) M1 post := by
    intro r
    induction r with
    | zero =>
      intro x M1 hx f1 f2
      obtain rfl : x = 8 := by omega
      refine bX3_learnL_3 (ite_ti (by decide) ?_)
      have e1 : (if (100 : Int32) < nI n then (100 : Int32) else nI n) = nI n := if_neg (by rw [show (100 : Int32) = nI 100 from rfl, nI_ltI (by omega) (by omega)]; omega)
      have e2 : (if (0 : Int32) < nI n then nI n else (0 : Int32)) = nI n := by
        by_cases n0 : n = 0
        · subst n0; rfl
        · rw [if_pos (by rw [show (0 : Int32) = nI 0 from rfl, nI_ltI (by omega) (by omega)]; omega)]
      rw [e1, e2]
      refine main _ ⟨fun b hb => by simp (disch := omega) only [jup_ne]; exact f1 b hb, by (simp (disch := omega) only [jup_ss, jup_sn, jup_n, jup_ne]), by (simp (disch := omega) only [jup_ss, jup_sn, jup_n, jup_ne]), by (simp (disch := omega) only [jup_ss, jup_sn, jup_n, jup_ne]), by (simp (disch := omega) only [jup_ss, jup_sn, jup_n, jup_ne]); rfl, by (simp (disch := omega) only [jup_ss, jup_sn, jup_n, jup_ne]); rfl, fun p hp => ?_⟩ (by (simp (disch := omega) only [jup_ss, jup_sn, jup_n, jup_ne]))
      simp (disch := omega) only [jup_n]
      exact f2 p hp
    | succ r ih =>
      intro x M1 hx f1 f2
      refine bX3_learnL_3 (ite_fi (by rw [show (8 : Int32) = nI 8 from rfl, nI_leI (by omega) (by omega)]; omega) ⟨vp_in_nI (by omega) (by omega), vp_in_nI (by omega) (by omega), ?_⟩)
      rw [nI_clamp (by omega), nI_1]
      refine ih (x + 1) _ (by omega) (fun b hb => by simp (disch := omega) only [jup_ne]; exact f1 b hb) (fun p hp => ?_)
      by_cases e : p = x
      · subst e
        exact ⟨by (simp (disch := omega) only [jup_ss, jup_sn, jup_n, jup_ne]), by (simp (disch := omega) only [jup_ss, jup_sn, jup_n, jup_ne])⟩
      · have := f2 p (by omega)
        simp (disch := omega) only [jup_n, jup_sn]
        exact this
  exact loop 8 0 M (by omega) (fun _ _ => rfl) (fun p hp => by omega)
theorem c_learnT {M : jM} {n kd v dy : Nat} {post : Int32 → jM → Prop} (hn : n ≤ 100) (ht : ∀ k, k < n → ∃ b : Nat, b < 128 ∧ M 9 k = nI b) (hkd : kd < 1000) (hvv : v < 1000) (hdy : dy < 1000)
    (k0 : n ≠ 0 → ∀ e', qCourt (qH (M 9) n) n = .inl e' → ∀ M', frL M M' → post (nI e') M')
    (k1 : n ≠ 0 → ∀ a, qCourt (qH (M 9) n) n = .inr a → ∀ M', frL M M' → (∀ p, p < 8 → M' 22 p = a.2.1 kd v dy p ∧ M' 23 p = a.2.2.1 kd v dy p) → M' 21 2 = nI a.2.2.2 → post (-1) M')
    (kE : n = 0 → ∀ M', frL M M' → (∀ p, p < 8 → M' 22 p = 1 ∧ M' 23 p = 0) → M' 21 2 = 2 → post 0 M') :
    CI G (d + 10) mX3_learn [.ref 21, .ref 9, .int (nI n), .int (nI kd), .int (nI v), .int (nI dy)] M post := by
  refine eX3_learnT (bX3_learnT_0 ?_)
  have hh : ∀ i, i < n → M 9 i = nI (qH (M 9) n i) ∧ qH (M 9) n i < 128 := fun i hi => by
    obtain ⟨b, h1, h2⟩ := ht i hi
    unfold qH
    rw [if_pos hi, h2, nI_clamp (by omega)]
    exact ⟨rfl, h1⟩
  have main : ∀ M1 : jM, LE M M1 kd v dy (fun _ => 1, fun _ => 0, 2, 0) → M1 21 6 = 0 → kX3_learnT_79 G (d + 9) (nI n) (nI kd) (nI v) (nI dy) (nI n) 0 M1 post := by
    intro M1 hE h6
    by_cases n0 : n = 0
    · subst n0
      refine bX3_learnT_79 (ite_ti (Int32.le_refl _) ?_)
      refine on0 (c := 59) hE h6 (by omega) (fun q => by omega) (fun _ M' g1 g2 => ite_ti rfl ?_)
      refine kE rfl M' (fun b hb => (g1 b (by omega)).trans (hE.1 b hb)) (fun p hp => ?_) (by rw [g2, hE.2.2.2.2.1]; rfl)
      rw [g1 22 (by omega), g1 23 (by omega)]
      exact hE.2.2.2.2.2.2 p hp
    · have L : Lp G d M n (qH (M 9) n) (fun i M' => kX3_learnT_79 G (d + 9) (nI n) (nI kd) (nI v) (nI dy) (nI n) (nI i) M' post) (fun i M' => post (nI i) M') (fun M' => post (-1) M') := by
        refine ⟨qH_end _ _, fun i => ?_, fun i M2 hi hM hc => ?_⟩
        · by_cases hi : i < n
          · have := (hh i hi).2; omega
          · rw [qH_end _ _ i (by omega)]; omega
        · refine bX3_learnT_79 ?_
          by_cases hin : i < n
          · refine ite_fi (by rw [nI_leI (by omega) (by omega)]; omega) ⟨vp_in_nI (by omega) (by omega), ?_⟩
            rw [nI_clamp (by omega), hM 9 (by omega), (hh i hin).1, nI_1]
            simp only [if_pos hin] at hc
            have e : sg (qH (M 9) n) n i = qH (M 9) n i := if_pos hin
            rw [e] at hc
            exact hc
          · refine ite_ti (by rw [nI_leI (by omega) (by omega)]; omega) ?_
            simp only [if_neg hin] at hc
            have e : sg (qH (M 9) n) n i = 59 := if_neg hin
            rw [e] at hc
            obtain rfl : i = n := by omega
            exact hc
      refine t_clauses L hkd hvv hdy 9 0 M1 (fun _ => 1, fun _ => 0, 2, 0) qStart rfl (by omega) hE h6 (fun p hp => ⟨rfl, rfl⟩) rfl (fun e' q M' g1 => k0 n0 e' q M' g1) (fun b q M' e' g1 g2 g3 => k1 n0 b q M' g1.1 (fun p hp => ?_) ?_)
      · rw [(g1.2.2.2.2.2.2 p hp).1, (g1.2.2.2.2.2.2 p hp).2]; exact g2 p hp
      · rw [g1.2.2.2.2.1, g3]
  have loop : ∀ (r x : Nat) (M1 : jM), x + r = 8 → (∀ b, b < 21 ∨ 26 < b → M1 b = M b) → (∀ p, p < x → M1 22 p = 1 ∧ M1 23 p = 0) → kX3_learnT_3 G (d + 9) (nI n) (nI kd) (nI v) (nI dy) (nI x) M1 post := by
    intro r
    induction r with
    | zero =>
      intro x M1 hx f1 f2
      obtain rfl : x = 8 := by omega
      refine bX3_learnT_3 (ite_ti (by decide) ?_)
      have e1 : (if (100 : Int32) < nI n then (100 : Int32) else nI n) = nI n := if_neg (by rw [show (100 : Int32) = nI 100 from rfl, nI_ltI (by omega) (by omega)]; omega)
      have e2 : (if (0 : Int32) < nI n then nI n else (0 : Int32)) = nI n := by
        by_cases n0 : n = 0
        · subst n0; rfl
        · rw [if_pos (by rw [show (0 : Int32) = nI 0 from rfl, nI_ltI (by omega) (by omega)]; omega)]
      rw [e1, e2]
      refine main _ ⟨fun b hb => by simp (disch := omega) only [jup_ne]; exact f1 b hb, by (simp (disch := omega) only [jup_ss, jup_sn, jup_n, jup_ne]), by (simp (disch := omega) only [jup_ss, jup_sn, jup_n, jup_ne]), by (simp (disch := omega) only [jup_ss, jup_sn, jup_n, jup_ne]), by (simp (disch := omega) only [jup_ss, jup_sn, jup_n, jup_ne]); rfl, by (simp (disch := omega) only [jup_ss, jup_sn, jup_n, jup_ne]); rfl, fun p hp => ?_⟩ (by (simp (disch := omega) only [jup_ss, jup_sn, jup_n, jup_ne]))
      simp (disch := omega) only [jup_n]
      exact f2 p hp
    | succ r ih =>
      intro x M1 hx f1 f2
      refine bX3_learnT_3 (ite_fi (by rw [show (8 : Int32) = nI 8 from rfl, nI_leI (by omega) (by omega)]; omega) ⟨vp_in_nI (by omega) (by omega), vp_in_nI (by omega) (by omega), ?_⟩)
      rw [nI_clamp (by omega), nI_1]
      refine ih (x + 1) _ (by omega) (fun b hb => by simp (disch := omega) only [jup_ne]; exact f1 b hb) (fun p hp => ?_)
      by_cases e : p = x
      · subst e
        exact ⟨by (simp (disch := omega) only [jup_ss, jup_sn, jup_n, jup_ne]), by (simp (disch := omega) only [jup_ss, jup_sn, jup_n, jup_ne])⟩
      · have := f2 p (by omega)
        simp (disch := omega) only [jup_n, jup_sn]
        exact this
  exact loop 8 0 M (by omega) (fun _ _ => rfl) (fun p hp => by omega)
end LR
