def jor (s : jSk) : Nat → Bool := fun p => s.2.1 p || s.2.2 p
/-- what a sign behind a factor does -/
def Bh (M0 : jM) (kd v dy : Nat) (e : jLE) (verb times : Nat) (s : jSk) (c : Nat) (post : Int32 → jM → Prop) : Prop :=
  (c = 38 → ∀ M', Com M0 M' kd v dy e verb times s → M' 21 6 = 3 → post 1 M') ∧
  (c = 124 → ∀ M', Com M0 M' kd v dy e verb times (s.1, jor s, fun _ => true) → M' 21 6 = 3 → post 1 M') ∧
  (c = 41 → ∀ fr cx, s.1 = fr :: cx → ∀ M', Com M0 M' kd v dy e verb times (endF cx fr.2.1 fr.2.2 (jor s)) → M' 21 6 = 6 → post 1 M') ∧
  (c = 59 → s.1 = [] → ∀ M', LE M0 M' kd v dy (grown e verb times (jor s)) → M' 21 6 = 0 → post 1 M') ∧
  (¬ (c = 38 ∨ c = 124 ∨ (c = 41 ∧ s.1 ≠ []) ∨ (c = 59 ∧ s.1 = [])) → ∀ M', (∀ b, b < 21 ∨ 26 < b → M' b = M0 b) → post 0 M')
theorem Bh.mono {M0 : jM} {kd v dy : Nat} {e : jLE} {verb times : Nat} {s : jSk} {c : Nat} {post post' : Int32 → jM → Prop} (h : Bh M0 kd v dy e verb times s c post) (h0 : ∀ M, post 0 M → post' 0 M) (h1 : ∀ M, post 1 M → post' 1 M) : Bh M0 kd v dy e verb times s c post' :=
  ⟨fun q M' a b => h1 _ (h.1 q M' a b), fun q M' a b => h1 _ (h.2.1 q M' a b), fun q fr cx z M' a b => h1 _ (h.2.2.1 q fr cx z M' a b), fun q z M' a b => h1 _ (h.2.2.2.1 q z M' a b), fun q M' a => h0 _ (h.2.2.2.2 q M' a)⟩
theorem Com.keep {M0 M M' : jM} {kd v dy : Nat} {e : jLE} {verb times : Nat} {s s' : jSk} (h : Com M0 M kd v dy e verb times s) (hs : Sx M' s') (e1 : ∀ b, b ≠ 21 → b ≠ 24 → b ≠ 25 → b ≠ 26 → M' b = M b) (e2 : ∀ i, i ≠ 6 → i ≠ 10 → i ≠ 11 → i ≠ 13 → i ≠ 14 → i ≠ 15 → M' 21 i = M 21 i) : Com M0 M' kd v dy e verb times s' :=
  ⟨h.1.congr e1 (fun i h1 h2 h3 h4 => e2 i h2 (by omega) (by omega) (by omega) (by omega) (by omega)), (e2 7 (by omega) (by omega) (by omega) (by omega) (by omega) (by omega)).trans h.2.1, (e2 12 (by omega) (by omega) (by omega) (by omega) (by omega) (by omega)).trans h.2.2.1, h.2.2.2.1, h.2.2.2.2.1, hs⟩
section BH
variable {G : jGT} {d : Nat} {M0 M : jM} {kd v dy : Nat} {e : jLE} {verb times : Nat} {s : jSk} {c : Nat}
theorem c_behind {post : Int32 → jM → Prop} (hC : Com M0 M kd v dy e verb times s) (h6 : M 21 6 = 6) (hc : c < 129) (hB : Bh M0 kd v dy e verb times s c post) : CI G (d + 1) mX3_goesBehind [.ref 21, .int (nI c)] M post := by
  have hC' := hC
  obtain ⟨hE, hv, ht, ht1, hvb, hS⟩ := hC'
  have hS' := hS
  obtain ⟨s1, s2, s3, s4, s5⟩ := hS'
  obtain ⟨b1, b2, b3, b4, b5⟩ := hB
  have fr0 : ∀ M' : jM, (∀ b, b < 21 ∨ 26 < b → M' b = M b) → ∀ b, b < 21 ∨ 26 < b → M' b = M0 b := fun M' h b hb => (h b hb).trans (hE.1 b hb)
  have E : ∀ k : Nat, k < 129 → (nI c = nI k ↔ c = k) := fun k hk => nI_eq (by omega) (by omega)
  refine eX3_goesBehind (bX3_goesBehind_0 ?_)
  rw [s1, nI_clamp (by omega)]
  refine ite_fi (nI_pos (by omega)) (ite_ti (by rw [show (5 : Int32) = nI 5 from rfl, nI_leI (by omega) (by omega)]; omega) ?_)
  rw [show (38 : Int32) = nI 38 from rfl, show (124 : Int32) = nI 124 from rfl, show (41 : Int32) = nI 41 from rfl, show (59 : Int32) = nI 59 from rfl]
  refine ite_i (fun q => ?_) (fun q38 => ?_)
  · rw [E 38 (by omega)] at q
    exact b1 q _ (hC.keep (hS.congr (by (simp (disch := omega) only [jup_ss, jup_sn, jup_n, jup_ne])) (by (simp (disch := omega) only [jup_ne])) (by (simp (disch := omega) only [jup_ne])) (by (simp (disch := omega) only [jup_ne]))) (fun b h1 h2 h3 h4 => by (simp (disch := omega) only [jup_ne])) (fun i h1 h2 h3 h4 h5 h6 => by (simp (disch := omega) only [jup_ss, jup_sn, jup_n, jup_ne]))) (by (simp (disch := omega) only [jup_ss, jup_sn, jup_n, jup_ne]))
  · rw [E 38 (by omega)] at q38
    have w6 : vp_in (nI s.1.length) 6 := vp_in_nI (by omega) (by omega)
    refine ⟨w6, w6, w6, w6, ?_⟩
    have hor := Mk_or s4 s5
    have hS1 : ∀ {M' : jM}, M' 21 15 = nI s.1.length → M' 24 = M 24 → (∀ k, k ≠ s.1.length → M' 25 k = M 25 k) → (∀ k, k ≠ s.1.length → M' 26 k = M 26 k) → M' 25 s.1.length = (M 25 s.1.length ||| M 26 s.1.length) → M' 26 s.1.length = 255 → Sx M' (s.1, jor s, fun _ => true) := by
      intro M' e1 e2 e3 e4 e5 e6
      refine ⟨e1, s2, s3.congr fun k hk => ⟨by rw [e2], e3 k (by omega), e4 k (by omega)⟩, ?_, ?_⟩
      · dsimp only; rw [e5]; exact hor
      · dsimp only; rw [e6]; exact Mk_255
    refine ite_i (fun q => ?_) (fun q124 => ⟨w6, ?_⟩)
    · rw [E 124 (by omega)] at q
      exact b2 q _ (hC.keep (hS1 (by (simp (disch := omega) only [jup_ss, jup_sn, jup_n, jup_ne]); exact s1) (by (simp (disch := omega) only [jup_ne])) (fun k hk => by (simp (disch := omega) only [jup_ss, jup_sn, jup_n, jup_ne])) (fun k hk => by (simp (disch := omega) only [jup_ss, jup_sn, jup_n, jup_ne])) (by (simp (disch := omega) only [jup_ss, jup_sn, jup_n, jup_ne])) (by (simp (disch := omega) only [jup_ss, jup_sn, jup_n, jup_ne]))) (fun b h1 h2 h3 h4 => by (simp (disch := omega) only [jup_ne])) (fun i h1 h2 h3 h4 h5 h6 => by (simp (disch := omega) only [jup_ss, jup_sn, jup_n, jup_ne]))) (by (simp (disch := omega) only [jup_ss, jup_sn, jup_n, jup_ne]))
    · rw [E 124 (by omega)] at q124
      have frB : ∀ x y : Int32, ∀ b, b < 21 ∨ 26 < b → (jup (jup M 25 s.1.length x) 26 s.1.length y) b = M0 b := fun x y => fr0 _ (fun b hb => by (simp (disch := omega) only [jup_ne]))
      have semi : (if nI c = nI 59 then (if nI s.1.length = 0 then (if (M 21 7) = 119 then CV G d mX3_grow [.ref 21, .ref 22, .int ((jup M 25 s.1.length ((M 25 s.1.length) ||| (M 26 s.1.length))) 25 s.1.length)] (jup (jup M 25 s.1.length ((M 25 s.1.length) ||| (M 26 s.1.length))) 26 s.1.length 255) (fun M4 => post 1 (jup (jup M4 21 9 ((M4 21 9) + 1)) 21 6 0)) else CV G d mX3_grow [.ref 21, .ref 23, .int ((jup M 25 s.1.length ((M 25 s.1.length) ||| (M 26 s.1.length))) 25 s.1.length)] (jup (jup M 25 s.1.length ((M 25 s.1.length) ||| (M 26 s.1.length))) 26 s.1.length 255) (fun M3 => post 1 (jup (jup M3 21 9 ((M3 21 9) + 1)) 21 6 0))) else post 0 (jup (jup M 25 s.1.length ((M 25 s.1.length) ||| (M 26 s.1.length))) 26 s.1.length 255)) else post 0 (jup (jup M 25 s.1.length ((M 25 s.1.length) ||| (M 26 s.1.length))) 26 s.1.length 255)) ∨ (c = 41 ∧ s.1 ≠ []) := by
        by_cases q41 : c = 41 ∧ s.1 ≠ []
        · exact Or.inr q41
        · left
          refine ite_i (fun q => ?_) (fun q59 => ?_)
          · rw [E 59 (by omega)] at q
            refine ite_i (fun z => ?_) (fun z => ?_)
            · rw [show (0 : Int32) = nI 0 from rfl, nI_eq (by omega) (by omega)] at z
              have z : s.1 = [] := List.length_eq_zero_iff.mp z
              rw [jup_ss, hv]
              obtain ⟨g1, g2, g3, g4, g5, g6, g7⟩ := hE
              have fin : ∀ M4 : jM, (∀ b, b < 21 ∨ 26 < b → M4 b = M b) → (M4 21 = M 21) → (∀ p, p < 8 → M4 22 p = (grown e verb times (jor s)).1 p ∧ M4 23 p = (grown e verb times (jor s)).2.1 p) → post 1 (jup (jup M4 21 9 ((M4 21 9) + 1)) 21 6 0) := by
                intro M4 a1 a2 a3
                refine b4 q z _ ⟨fun b hb => by simp (disch := omega) only [jup_ne]; rw [a1 b hb]; exact g1 b hb, by (simp (disch := omega) only [jup_ss, jup_sn, jup_n, jup_ne]); rw [a2]; exact g2, by (simp (disch := omega) only [jup_ss, jup_sn, jup_n, jup_ne]); rw [a2]; exact g3, by (simp (disch := omega) only [jup_ss, jup_sn, jup_n, jup_ne]); rw [a2]; exact g4, by (simp (disch := omega) only [jup_ss, jup_sn, jup_n, jup_ne]); rw [a2]; exact g5, by (simp (disch := omega) only [jup_ss, jup_sn, jup_n, jup_ne]); rw [a2, g6]; exact nI_1 _, fun p hp => ?_⟩ (by (simp (disch := omega) only [jup_ss, jup_sn, jup_n, jup_ne]))
                simp (disch := omega) only [jup_n]
                exact a3 p hp
              refine ite_i (fun w => ?_) (fun w => ?_)
              · rw [show (119 : Int32) = nI 119 from rfl, nI_eq (by omega) (by omega)] at w
                refine c_growW (B := jor s) (times := times) hor (by (simp (disch := omega) only [jup_ss, jup_sn, jup_n, jup_ne]); exact ht) (fun M4 a1 a2 => fin M4 (fun b hb => by rw [a2 b (by omega)]; (simp (disch := omega) only [jup_ne])) (by rw [a2 21 (by omega)]; (simp (disch := omega) only [jup_ne])) (fun p hp => ?_))
                rw [a1 p hp, a2 23 (by omega)]
                simp (disch := omega) only [jup_n]
                rw [(g7 p hp).1, (g7 p hp).2]
                unfold grown; dsimp only
                rw [if_pos w, if_pos w, Int32.add_zero]
                exact ⟨rfl, rfl⟩
              · rw [show (119 : Int32) = nI 119 from rfl, nI_eq (by omega) (by omega)] at w
                refine c_growC (B := jor s) (times := times) hor (by (simp (disch := omega) only [jup_ss, jup_sn, jup_n, jup_ne]); exact ht) (fun M4 a1 a2 => fin M4 (fun b hb => by rw [a2 b (by omega)]; (simp (disch := omega) only [jup_ne])) (by rw [a2 21 (by omega)]; (simp (disch := omega) only [jup_ne])) (fun p hp => ?_))
                rw [a1 p hp, a2 22 (by omega)]
                simp (disch := omega) only [jup_n]
                rw [(g7 p hp).1, (g7 p hp).2]
                unfold grown; dsimp only
                rw [if_neg w, if_neg w, Int32.add_zero]
                exact ⟨rfl, rfl⟩
            · rw [show (0 : Int32) = nI 0 from rfl, nI_eq (by omega) (by omega)] at z
              exact b5 (fun y => by rcases y with y | y | y | ⟨y, y'⟩
                                    · omega
                                    · omega
                                    · exact q41 y
                                    · exact z (by rw [y']; rfl)) _ (frB _ _)
          · rw [E 59 (by omega)] at q59
            exact b5 (fun y => by rcases y with y | y | y | ⟨y, y'⟩
                                  · omega
                                  · omega
                                  · exact q41 y
                                  · exact q59 y) _ (frB _ _)
      refine ite_i (fun q41 => ite_i (fun z => ?_) (fun z => ?_)) (fun q41 => ?_)
      · rw [show (0 : Int32) = nI 0 from rfl, nI_leI (by omega) (by omega)] at z
        exact semi.resolve_right (fun y => y.2 (List.length_eq_zero_iff.mp (by omega)))
      · rw [E 41 (by omega)] at q41
        rw [show (0 : Int32) = nI 0 from rfl, nI_leI (by omega) (by omega)] at z
        rw [jup_ss]
        obtain ⟨cx0, t, f⟩ := s
        dsimp only at z s1 s2 s3 s4 s5 ⊢
        cases cx0 with
        | nil => exact absurd (Nat.le_refl 0) z
        | cons fr cx =>
          obtain ⟨c1, c2, c3, c4, c5⟩ := s3
          rw [List.length_cons] at s1 s2 ⊢
          rw [nI_pred]
          refine c_endFactor (cx := cx) (t := fr.2.1) (f := fr.2.2) (B := jor (fr :: cx, t, f)) ⟨by (simp (disch := omega) only [jup_ss, jup_sn, jup_n, jup_ne]), by dsimp only; omega, c5.congr fun i hi => ⟨by (simp (disch := omega) only [jup_ss, jup_sn, jup_n, jup_ne]), by (simp (disch := omega) only [jup_ss, jup_sn, jup_n, jup_ne]), by (simp (disch := omega) only [jup_ss, jup_sn, jup_n, jup_ne])⟩, by (simp (disch := omega) only [jup_ss, jup_sn, jup_n, jup_ne]); exact c3, by (simp (disch := omega) only [jup_ss, jup_sn, jup_n, jup_ne]); exact c4⟩ hor (fun M' a1 a2 a3 => ?_)
          refine b3 q41 fr cx rfl M' (hC.keep a1 (fun b h1 h2 h3 h4 => by rw [a2 b h1 h4]; (simp (disch := omega) only [jup_ne])) (fun i h1 h2 h3 h4 h5 h6 => by rw [a3 i h6]; (simp (disch := omega) only [jup_ss, jup_sn, jup_n, jup_ne]))) (by rw [a3 6 (by omega)]; (simp (disch := omega) only [jup_ss, jup_sn, jup_n, jup_ne]); exact h6)
      · rw [E 41 (by omega)] at q41
        exact semi.resolve_right (fun y => q41 y.1)
end BH
