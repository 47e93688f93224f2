/-- whether one more digit is taken -/
def Ac (a dg c : Nat) : Prop := 48 ≤ c ∧ c ≤ 57 ∧ dg ≤ 1 ∧ ¬ (dg = 1 ∧ a = 0)
/-- the sign is taken as goesBehind takes it -/
def Rd (G : jGT) (d : Nat) (M0 M : jM) (kd v dy : Nat) (e : jLE) (verb times : Nat) (s : jSk) (c : Nat) : Prop := ∀ post : Int32 → jM → Prop, Bh M0 kd v dy e verb times s c post → CI G (d + 9) mX3_goesOn [.ref 21, .int (nI c)] M post
section GO
variable {G : jGT} {d : Nat} {M0 M : jM} {kd v dy : Nat} {e : jLE} {verb times : Nat} {s : jSk} {c : Nat} {post : Int32 → jM → Prop}
theorem on6 (hC : Com M0 M kd v dy e verb times s) (h6 : M 21 6 = 6) (hc : c < 129) : Rd G d M0 M kd v dy e verb times s c := by
  intro post hB
  refine eX3_goesOn (bX3_goesOn_0 ?_)
  rw [h6]
  exact ite_fi (by decide) (ite_fi (by decide) (ite_fi (by decide) (ite_fi (by decide) (ite_fi (by decide) (ite_fi (by decide) (c_behind hC h6 hc (hB.mono (fun M h => ⟨Or.inl rfl, h⟩) (fun M h => ⟨Or.inr rfl, h⟩))))))))
theorem c_digit {a dg : Nat} (h10 : M 21 10 = nI a) (h11 : M 21 11 = nI dg) (ha : a < 1000) (hd : dg < 10) (hc : c < 129) (h1 : Ac a dg c → post 1 (jup (jup M 21 10 (nI (10 * a + (c - 48)))) 21 11 (nI (dg + 1)))) (h0 : ¬ Ac a dg c → post 0 M) : CI G d mX3_isDigit [.ref 21, .int (nI c)] M post := by
  refine eX3_isDigit (bX3_isDigit_0 ?_)
  rw [h10, h11, show (48 : Int32) = nI 48 from rfl, show (57 : Int32) = nI 57 from rfl, show (1 : Int32) = nI 1 from rfl, show (0 : Int32) = nI 0 from rfl, show (10 : Int32) = nI 10 from rfl]
  have up : 48 ≤ c → nI a * nI 10 + nI c - nI 48 = nI (10 * a + (c - 48)) := fun h => by rw [pk_mul, nI_add, nI_subE (by omega)]; congr 1; omega
  refine ite_i (fun q => h0 ?_) (fun q1 => ite_i (fun q => h0 ?_) (fun q2 => ite_i (fun q => h0 ?_) (fun q3 => ite_i (fun q4 => ite_i (fun q => h0 ?_) (fun q5 => ?_)) (fun q4 => ?_))))
  · rw [nI_ltI (by omega) (by omega)] at q; unfold Ac; omega
  · rw [nI_ltI (by omega) (by omega)] at q; unfold Ac; omega
  · rw [nI_ltI (by omega) (by omega)] at q; unfold Ac; omega
  · rw [nI_eq (by omega) (by omega)] at q q4; unfold Ac; omega
  · rw [nI_eq (by omega) (by omega)] at q5 q4
    rw [nI_ltI (by omega) (by omega)] at q1 q2 q3
    rw [up (by omega), nI_add]
    exact h1 (by unfold Ac; omega)
  · rw [nI_eq (by omega) (by omega)] at q4
    rw [nI_ltI (by omega) (by omega)] at q1 q2 q3
    rw [up (by omega), nI_add]
    exact h1 (by unfold Ac; omega)
/-- FACTOR -/
theorem on3 (hC : Com M0 M kd v dy e verb times s) (h6 : M 21 6 = 3) (hc : c < 129)
    (k1 : c = 33 ∨ c = 40 → s.1.length < 5 → ∀ M', Com M0 M' kd v dy e verb times ((c, s.2) :: s.1, fun _ => false, fun _ => true) → M' 21 6 = 3 → post 1 M')
    (k2 : ∀ w, qWhich c = some w → ∀ M', Com M0 M' kd v dy e verb times s → M' 21 6 = 4 → M' 21 13 = nI c → post 1 M')
    (k0 : ¬ ((c = 33 ∨ c = 40) ∧ s.1.length < 5) → qWhich c = none → ∀ M', (∀ b, b < 21 ∨ 26 < b → M' b = M0 b) → post 0 M') : CI G (d + 9) mX3_goesOn [.ref 21, .int (nI c)] M post := by
  obtain ⟨s1, s2, s3, s4, s5⟩ := hC.2.2.2.2.2
  have E : ∀ k : Nat, k < 129 → (nI c = nI k ↔ c = k) := fun k hk => nI_eq (by omega) (by omega)
  refine eX3_goesOn (bX3_goesOn_0 ?_)
  rw [h6]
  refine ite_fi (by decide) (ite_fi (by decide) (ite_fi (by decide) (ite_ti rfl (eX3_beginsFactor (bX3_beginsFactor_0 ?_)))))
  rw [s1, show (33 : Int32) = nI 33 from rfl, show (40 : Int32) = nI 40 from rfl, show (112 : Int32) = nI 112 from rfl, show (107 : Int32) = nI 107 from rfl, show (118 : Int32) = nI 118 from rfl, show (100 : Int32) = nI 100 from rfl]
  have opn : ∀ P : Prop, (c = 33 ∨ c = 40) → (if nI s.1.length < 0 then ((0 : Int32) = 0 ∨ (0 : Int32) = 1) ∧ post 0 M else if nI s.1.length < 5 then vp_in (nI s.1.length) 5 ∧ vp_in (nI s.1.length + 1) 6 ∧ vp_in (nI s.1.length + 1) 6 ∧ ((1 : Int32) = 0 ∨ (1 : Int32) = 1) ∧ post 1 (jup (jup (jup (jup M 24 ((nI s.1.length).toNatClampNeg) (nI c)) 21 15 (nI s.1.length + 1)) 25 ((nI s.1.length + 1).toNatClampNeg) 0) 26 ((nI s.1.length + 1).toNatClampNeg) 255) else ((0 : Int32) = 0 ∨ (0 : Int32) = 1) ∧ post 0 M) := by
    intro _ hq
    refine ite_fi (nI_pos (by omega)) (ite_i (fun q => ?_) (fun q => ⟨Or.inl rfl, ?_⟩))
    · rw [show (5 : Int32) = nI 5 from rfl, nI_ltI (by omega) (by omega)] at q
      rw [nI_1, nI_clamp (by omega), nI_clamp (by omega)]
      refine ⟨vp_in_nI (by omega) (by omega), vp_in_nI (by omega) (by omega), vp_in_nI (by omega) (by omega), Or.inr rfl, k1 hq q _ (hC.keep ⟨by (simp (disch := omega) only [jup_ss, jup_sn, jup_n, jup_ne]); rfl, by simp; omega, ⟨by (simp (disch := omega) only [jup_ss, jup_sn, jup_n, jup_ne]), by dsimp only; omega, by simp (disch := omega) only [jup_n, jup_sn]; exact s4, by simp (disch := omega) only [jup_n, jup_sn]; exact s5, s3.congr fun i hi => ⟨by (simp (disch := omega) only [jup_ss, jup_sn, jup_n, jup_ne]), by (simp (disch := omega) only [jup_ss, jup_sn, jup_n, jup_ne]), by (simp (disch := omega) only [jup_ss, jup_sn, jup_n, jup_ne])⟩⟩, by dsimp only; rw [List.length_cons]; (simp (disch := omega) only [jup_ss, jup_sn, jup_n, jup_ne]); exact Mk_0, by dsimp only; rw [List.length_cons]; (simp (disch := omega) only [jup_ss, jup_sn, jup_n, jup_ne]); exact Mk_255⟩ (fun b h1 h2 h3 h4 => by (simp (disch := omega) only [jup_ne])) (fun i h1 h2 h3 h4 h5 h6 => by (simp (disch := omega) only [jup_ss, jup_sn, jup_n, jup_ne]))) (by (simp (disch := omega) only [jup_ss, jup_sn, jup_n, jup_ne]); exact h6)⟩
    · rw [show (5 : Int32) = nI 5 from rfl, nI_ltI (by omega) (by omega)] at q
      exact k0 (fun y => q y.2) (by rcases hq with rfl | rfl <;> rfl) M hC.1.1
  have let1 : ∀ w, qWhich c = some w → ((1 : Int32) = 0 ∨ (1 : Int32) = 1) ∧ post 1 (jup (jup M 21 13 (nI c)) 21 6 4) := fun w hw =>
    ⟨Or.inr rfl, k2 w hw _ (hC.keep (hC.2.2.2.2.2.congr (by (simp (disch := omega) only [jup_ss, jup_sn, jup_n, jup_ne])) (by (simp (disch := omega) only [jup_ne])) (by (simp (disch := omega) only [jup_ne])) (by (simp (disch := omega) only [jup_ne]))) (fun b h1 h2 h3 h4 => by (simp (disch := omega) only [jup_ne])) (fun i h1 h2 h3 h4 h5 h6 => by (simp (disch := omega) only [jup_ss, jup_sn, jup_n, jup_ne]))) (by (simp (disch := omega) only [jup_ss, jup_sn, jup_n, jup_ne])) (by (simp (disch := omega) only [jup_ss, jup_sn, jup_n, jup_ne]))⟩
  refine ite_i (fun q => ?_) (fun q33 => ite_i (fun q => ?_) (fun q40 => ite_i (fun q => ?_) (fun q1 => ite_i (fun q => ?_) (fun q2 => ite_i (fun q => ?_) (fun q3 => ite_i (fun q => ?_) (fun q4 => ?_))))))
  · rw [E _ (by omega)] at q; exact opn True (Or.inl q)
  · rw [E _ (by omega)] at q; exact opn True (Or.inr q)
  · rw [E _ (by omega)] at q; exact let1 0 (by rw [q]; rfl)
  · rw [E _ (by omega)] at q; exact let1 1 (by rw [q]; rfl)
  · rw [E _ (by omega)] at q; exact let1 2 (by rw [q]; rfl)
  · rw [E _ (by omega)] at q; exact let1 3 (by rw [q]; rfl)
  · rw [E _ (by omega)] at q33 q40 q1 q2 q3 q4
    exact ⟨Or.inl rfl, k0 (fun y => y.1.elim q33 q40) (by unfold qWhich; rw [if_neg q1, if_neg q2, if_neg q3, if_neg q4]) _ (fun b hb => by simp (disch := omega) only [jup_ne]; exact hC.1.1 b hb)⟩
/-- HOW -/
theorem on4 {of : Nat} (hC : Com M0 M kd v dy e verb times s) (h6 : M 21 6 = 4) (h13 : M 21 13 = nI of) (hc : c < 129)
    (k1 : ∀ o, qHow c = some o → ∀ M', Com M0 M' kd v dy e verb times s → M' 21 6 = 5 → M' 21 13 = nI of → M' 21 14 = nI c → M' 21 10 = nI 0 → M' 21 11 = nI 0 → post 1 M')
    (k0 : qHow c = none → ∀ M', (∀ b, b < 21 ∨ 26 < b → M' b = M0 b) → post 0 M') : CI G (d + 9) mX3_goesOn [.ref 21, .int (nI c)] M post := by
  have E : ∀ k : Nat, k < 129 → (nI c = nI k ↔ c = k) := fun k hk => nI_eq (by omega) (by omega)
  refine eX3_goesOn (bX3_goesOn_0 ?_)
  rw [h6]
  refine ite_fi (by decide) (ite_fi (by decide) (ite_fi (by decide) (ite_fi (by decide) (ite_ti rfl (eX3_compares (bX3_compares_0 (eX3_beginNumber (bX3_beginNumber_0 ?_))))))))
  rw [show (60 : Int32) = nI 60 from rfl, show (61 : Int32) = nI 61 from rfl, show (62 : Int32) = nI 62 from rfl]
  have y1 : ∀ o, qHow c = some o → ((1 : Int32) = 0 ∨ (1 : Int32) = 1) ∧ post 1 (jup (jup (jup (jup M 21 14 (nI c)) 21 10 0) 21 11 0) 21 6 5) := fun o ho =>
    ⟨Or.inr rfl, k1 o ho _ (hC.keep (hC.2.2.2.2.2.congr (by (simp (disch := omega) only [jup_ss, jup_sn, jup_n, jup_ne])) (by (simp (disch := omega) only [jup_ne])) (by (simp (disch := omega) only [jup_ne])) (by (simp (disch := omega) only [jup_ne]))) (fun b h1 h2 h3 h4 => by (simp (disch := omega) only [jup_ne])) (fun i h1 h2 h3 h4 h5 h6 => by (simp (disch := omega) only [jup_ss, jup_sn, jup_n, jup_ne]))) (by (simp (disch := omega) only [jup_ss, jup_sn, jup_n, jup_ne])) (by (simp (disch := omega) only [jup_ss, jup_sn, jup_n, jup_ne]); exact h13) (by (simp (disch := omega) only [jup_ss, jup_sn, jup_n, jup_ne])) (by (simp (disch := omega) only [jup_ss, jup_sn, jup_n, jup_ne]); rfl) (by (simp (disch := omega) only [jup_ss, jup_sn, jup_n, jup_ne]); rfl)⟩
  refine ite_i (fun q => ?_) (fun q1 => ite_i (fun q => ?_) (fun q2 => ite_i (fun q => ?_) (fun q3 => ?_)))
  · rw [E _ (by omega)] at q; exact y1 0 (by rw [q]; rfl)
  · rw [E _ (by omega)] at q; exact y1 1 (by rw [q]; rfl)
  · rw [E _ (by omega)] at q; exact y1 2 (by rw [q]; rfl)
  · rw [E _ (by omega)] at q1 q2 q3
    exact ⟨Or.inl rfl, k0 (by unfold qHow; rw [if_neg q1, if_neg q2, if_neg q3]) _ (fun b hb => by simp (disch := omega) only [jup_ne]; exact hC.1.1 b hb)⟩
end GO
