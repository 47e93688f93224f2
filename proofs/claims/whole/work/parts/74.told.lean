section OF2
variable {G : jGT} {d : Nat} {M : jM} {L : List (Nat × Nat)} {j nS n kd v dy : Nat} {row : Nat → Nat} {a : jA4} {post : jM → Prop}
theorem c_openFor2 (hJ : JD M j kd v dy row) (hB : BL M nS n L) (hL : LC M a) (h : ∀ M', SE M' (venv kd v dy row a) → SLi M' L → (∀ b, b < 21 ∨ 32 < b → M' b = M b) → (∀ p, p < 8 → M' 22 p = a.2.1 kd v dy p ∧ M' 23 p = a.2.2.1 kd v dy p) → post M') : CV G (d + 11) mX7_openFor [.ref 0, .int (nI j)] M post := by
  have hJ' := hJ
  obtain ⟨⟨j0, j1, j2, j3, j4, j5, j6⟩, k1, k2, k3, ⟨nJ, k4, k5, k6⟩, k7⟩ := hJ'
  obtain ⟨-, nL, l1, l2, l3, l4⟩ := hL
  refine eX7_openFor (bX7_openFor_0 (t_kindOf k4 k5 k6 (t_numberOf k4 k5 k6 ?_)))
  rw [l1, k1, k2, k3]
  have fin : ∀ M1 : jM, frL M M1 → (∀ p, p < 8 → M1 22 p = a.2.1 kd v dy p ∧ M1 23 p = a.2.2.1 kd v dy p) → M1 21 2 = nI a.2.2.2 → CV G (d + 10) mX5_open [.ref 27, .ref 1, .ref 21, .int (nI j)] M1 (fun M4 => post M4) := by
    intro M1 f1 f2 f3
    refine c_open (d := d + 8) (hJ.congr (f1 1 (by omega)) (f1 4 (by omega)) (f1 5 (by omega)) (f1 6 (by omega)) (f1 118 (by omega))) (hB.congr (f1 1 (by omega)) (f1 2 (by omega)) (f1 7 (by omega)) (f1 118 (by omega))) f2 f3 (fun M' g1 g2 g3 => h M' g1 g2 (fun b hb => (g3 b (by omega)).trans (f1 b (by omega))) (fun p hp => ⟨by rw [g3 22 (by omega)]; exact (f2 p hp).1, by rw [g3 23 (by omega)]; exact (f2 p hp).2⟩))
  refine c_learnL l2 l3 (by omega) (by omega) (by omega) (fun n0 e' q => ?_) (fun n0 a' q M' f1 f2 f3 => ?_) (fun n0 M' f1 f2 f3 => ?_)
  · rcases l4 with ⟨z, _⟩ | ⟨_, z⟩
    · exact absurd z n0
    · rw [z] at q; cases q
  · rcases l4 with ⟨z, _⟩ | ⟨_, z⟩
    · exact absurd z n0
    · rw [z] at q; cases q
      exact fin M' f1 f2 f3
  · rcases l4 with ⟨_, z⟩ | ⟨z, _⟩
    · subst z
      exact fin M' f1 f2 f3
    · exact absurd n0 z
end OF2
theorem mod10_ok : ∀ p : Nat, p < 28 → nI p - nI p / 10 * 10 = nI (p % 10) := by decide +kernel
section C9
variable {G : jGT} {d : Nat} {M : jM} {P : Int32 → Int32 → jM → Prop}
theorem call_told (hR : Rel M) (x : Int32) (k : ∀ r M', Rel M' → P r r M') : CI G (d + 50) mX7_told [.ref 0, .int x] M (fun r1 M1 => CI G (d + 50) mX8_told [.ref 117, .int x] M1 (P r1)) := by
  obtain ⟨nS, nJ, nE, nQ, nT, nD, nC, nL, hS, hJ, hE, hQ, hT, hB, hD, hL⟩ := id hR.1
  refine eX7_told (bX7_told_0 (ite_i (fun q => ?_) (fun q => ite_i (fun p => ?_) (fun p => ?_))))
  · refine eX8_told (bX8_told_0 (ite_ti q ?_))
    rw [hD.1, hD.2.1]
    exact k _ M hR
  · obtain ⟨a, hLC⟩ := LC_of hL
    obtain ⟨hw, nL', l1, l2, l3, l4⟩ := id hLC
    have d9 := hD.2.2
    have fin : ∀ M1 : jM, frL M M1 → M1 21 2 = nI a.2.2.2 → CI G (d + 50) mX8_told [.ref 117, .int x] M1 (P (M1 21 2)) := by
      intro M1 f e
      refine eX8_told (bX8_told_0 (ite_fi q (ite_ti p ?_)))
      rw [e]
      have f117 : ∀ i, M1 117 i = M 117 i := fun i => by rw [f 117 (by omega)]
      exact c_barNow (s := M 118) (a := a) (by rw [f 118 (by omega)]; exact hw) (k _ M1 (hR.keep ⟨fun b hb => f b (by omega), f 115 (by omega), f 116 (by omega), f 118 (by omega), f 119 (by omega), f117 3, f117 27, f 129 (by omega)⟩))
    rw [l1, hD.1]
    refine c_learnL (d := d + 39) (kd := 0) (v := 0) (dy := nD) l2 l3 (by omega) (by omega) (by omega) (fun n0 e' q => ?_) (fun n0 a' q M' f1 f2 f3 => ?_) (fun n0 M' f1 f2 f3 => ?_)
    · rcases l4 with ⟨z, _⟩ | ⟨_, z⟩
      · exact absurd z n0
      · rw [z] at q; cases q
    · rcases l4 with ⟨z, _⟩ | ⟨_, z⟩
      · exact absurd z n0
      · rw [z] at q; cases q
        exact fin M' f1 f3
    · rcases l4 with ⟨_, z⟩ | ⟨z, _⟩
      · subst z
        exact fin M' f1 f3
      · exact absurd n0 z
  · exact eX8_told (bX8_told_0 (ite_fi q (ite_fi p (k _ M hR))))
theorem call_at (hR : Rel M) (x y : Int32) (k : ∀ r M', Rel M' → P r r M') : CI G (d + 50) mX7_at [.ref 0, .int x, .int y] M (fun r1 M1 => CI G (d + 50) mX8_at [.ref 117, .int x, .int y] M1 (P r1)) := by
  obtain ⟨nS, nJ, nE, nQ, nT, nD, nC, nL, hS, hJ, hE, hQ, hT, hB, hD, hL⟩ := id hR.1
  have j4 := hJ.2.2.1
  refine eX7_at (bX7_at_0 ?_)
  rcases jix x (n := nJ) (by omega) with hx | ⟨j, hj, rfl⟩
  · exact t_hasJudge_n hJ.1 j4 hx (ite_ti rfl (eX8_at (bX8_at_0 (t_isJudge_n hJ.2.1 (by omega) hx (ite_ti rfl (k _ M hR))))))
  refine t_hasJudge_y hJ.1 j4 hj (ite_fi (by decide) ?_)
  obtain ⟨kd, v, dy, row, hJD⟩ := JD_of hJ hD hj
  obtain ⟨⟨m0, m1, m2, m3, m4, m5, m6⟩, k1, k2, k3, ⟨nJ', k4, k5, k6⟩, k7⟩ := id hJD
  obtain ⟨L, hBL⟩ := BL_of hS hE
  obtain ⟨a, hLC⟩ := LC_of hL
  have nin : ∀ {M : jM} {lo hi : Int32} {p : Int32 → jM → Prop}, (¬ y < lo → ¬ hi < y → False) → p 0 M → CI G (d + 49) mX8_in [.int y, .int lo, .int hi] M p := by
    intro M lo hi p h hp
    refine t_in_n ?_ hp
    by_cases a : y < lo
    · exact Or.inl a
    · by_cases b : hi < y
      · exact Or.inr b
      · exact absurd (h a b) id
  have none : (¬ y < 0 → ¬ 1 < y → False) → (¬ y < 10 → ¬ 17 < y → False) → (¬ y < 20 → ¬ 27 < y → False) → CI G (d + 50) mX8_at [.ref 117, .int (nI j), .int y] M (P (-1)) := fun a b c =>
    eX8_at (bX8_at_0 (t_isJudge_y (n := nJ) hJ.2.1 (by omega) hj (ite_fi (by decide) (nin a (ite_ti rfl (nin b (ite_ti rfl (nin c (ite_ti rfl (k _ M hR))))))))))
  have val : ∀ (p : Nat) (M1 : jM) (hi : Bool), y = nI (if hi then 20 + p else 10 + p) → p < 8 → (∀ b, b < 21 ∨ 32 < b → M1 b = M b) → CI G (d + 50) mX8_at [.ref 117, .int (nI j), .int y] M1 (P (if hi then a.2.2.1 kd v dy p else a.2.1 kd v dy p)) := by
    intro p M1 hi hy hp fr
    have e118 : M1 118 = M 118 := fr 118 (by omega)
    have y28 : (if hi then 20 + p else 10 + p) < 28 := by split <;> omega
    have ymod : y - y / 10 * 10 = nI p := by
      rw [hy, mod10_ok _ y28]
      congr 1
      split <;> omega
    have looks : ∀ {post : Int32 → jM → Prop}, (∀ M2, (∀ b, b ≠ 117 → b ≠ 120 → b ≠ 121 → M2 b = M1 b) → (∀ i, i ≠ 11 → i ≠ 12 → M2 117 i = M1 117 i) → post (if hi then a.2.2.1 kd v dy p else a.2.1 kd v dy p) M2) → (if (2 : Int32) ≤ y then CV G (d + 49) mX8_looks [.ref 117, .int (nI j), .int (y - y / 10 * 10)] M1 (fun M7 => (if (20 : Int32) ≤ y then post (M7 117 12) M7 else post (M7 117 11) M7)) else (vp_in ((26 + (4 * y)) + nI j) 916 ∧ post (M1 118 (((26 + (4 * y)) + nI j).toNatClampNeg)) M1)) := by
      intro post hp'
      refine ite_ti (by rw [hy, show (2 : Int32) = nI 2 from rfl, nI_leI (by omega) (by omega)]; split <;> omega) ?_
      rw [ymod]
      refine c_looks (a := a) (kd := kd) (v := v) (dy := dy) (by rw [e118]; exact hLC.1) (by rw [e118]; exact hJD.1) hp (fun M2 g1 g2 g3 g4 => ?_)
      have := hp' M2 g3 g4
      cases hi
      · refine ite_fi (by rw [hy, show (20 : Int32) = nI 20 from rfl, nI_leI (by omega) (by omega)]; show ¬ 20 ≤ 10 + p; omega) ?_
        rw [g1]; exact this
      · refine ite_ti (by rw [hy, show (20 : Int32) = nI 20 from rfl, nI_leI (by omega) (by omega)]; show 20 ≤ 20 + p; omega) ?_
        rw [g2]; exact this
    have fin : ∀ M2 : jM, (∀ b, b ≠ 117 → b ≠ 120 → b ≠ 121 → M2 b = M1 b) → (∀ i, i ≠ 11 → i ≠ 12 → M2 117 i = M1 117 i) → P (if hi then a.2.2.1 kd v dy p else a.2.1 kd v dy p) (if hi then a.2.2.1 kd v dy p else a.2.1 kd v dy p) M2 := by
      intro M2 g1 g2
      have f : ∀ b, b ≠ 117 → (b < 21 ∨ 125 < b ∨ b = 115 ∨ b = 116 ∨ b = 118 ∨ b = 119) → M2 b = M b := fun b h1 h2 => (g1 b h1 (by omega) (by omega)).trans (fr b (by omega))
      have g : ∀ i, i ≠ 11 → i ≠ 12 → M2 117 i = M 117 i := fun i h1 h2 => by rw [g2 i h1 h2, fr 117 (by omega)]
      exact k _ M2 (hR.keep ⟨fun b hb => f b (by omega) (by omega), f 115 (by omega) (by omega), f 116 (by omega) (by omega), f 118 (by omega) (by omega), f 119 (by omega) (by omega), g 3 (by omega) (by omega), g 27 (by omega) (by omega), f 129 (by omega) (by omega)⟩)
    refine eX8_at (bX8_at_0 (t_isJudge_y (n := nJ) (by rw [e118]; exact hJ.2.1) (by omega) hj (ite_fi (by decide) (nin (fun _ b => b ?_) (ite_ti rfl ?_)))))
    · rw [hy, show (1 : Int32) = nI 1 from rfl, nI_ltI (by omega) (by omega)]; split <;> omega
    cases hi
    · have hy : y = nI (10 + p) := hy
      refine t_in_y (by rw [hy, show (10 : Int32) = nI 10 from rfl, nI_ltI (by omega) (by omega)]; omega) (by rw [hy, show (17 : Int32) = nI 17 from rfl, nI_ltI (by omega) (by omega)]; omega) (ite_fi (by decide) (looks fin))
    · have hy : y = nI (20 + p) := hy
      refine nin (fun _ b => b (by rw [hy, show (17 : Int32) = nI 17 from rfl, nI_ltI (by omega) (by omega)]; omega)) (ite_ti rfl ?_)
      refine t_in_y (by rw [hy, show (20 : Int32) = nI 20 from rfl, nI_ltI (by omega) (by omega)]; omega) (by rw [hy, show (27 : Int32) = nI 27 from rfl, nI_ltI (by omega) (by omega)]; omega) (ite_fi (by decide) (looks fin))
  have kind : ∀ (w r : Nat), y = nI w → w < 2 → M 118 (26 + 4 * w + j) = nI r → CI G (d + 50) mX8_at [.ref 117, .int (nI j), .int y] M (P (nI r)) := by
    intro w r hy hw hr
    refine eX8_at (bX8_at_0 (t_isJudge_y (n := nJ) hJ.2.1 (by omega) hj (ite_fi (by decide) (t_in_y (by rw [hy, show (0 : Int32) = nI 0 from rfl, nI_ltI (by omega) (by omega)]; omega) (by rw [hy, show (1 : Int32) = nI 1 from rfl, nI_ltI (by omega) (by omega)]; omega) (ite_fi (by decide) (ite_fi (by rw [hy, show (2 : Int32) = nI 2 from rfl, nI_leI (by omega) (by omega)]; omega) ?_))))))
    rw [hy, show (26 : Int32) = nI 26 from rfl, show (4 : Int32) = nI 4 from rfl, pk_mul, nI_add, nI_add, nI_clamp (by omega), hr]
    exact ⟨vp_in_nI (by omega) (by omega), k _ M hR⟩
  refine ite_i (fun q => ?_) (fun q => ite_i (fun p => ?_) (fun p => ?_))
  · refine t_kindOf k4 k5 k6 ?_
    rw [k1]
    exact kind 0 kd q (by omega) m1
  · refine t_numberOf k4 k5 k6 ?_
    rw [k2]
    exact kind 1 v p (by omega) m2
  have out01 : ¬ y < 0 → ¬ 1 < y → False := by
    intro a b
    rcases jix y (n := 2) (by omega) with hz | ⟨w, hw, rfl⟩
    · rcases hz with hz | hz
      · exact a hz
      · rw [Int32.le_iff_toInt_le] at hz
        rw [Int32.lt_iff_toInt_lt] at b
        rw [show (nI 2).toInt = 2 from by decide] at hz
        rw [show (1 : Int32).toInt = 1 from by decide] at b
        omega
    · rcases (show w = 0 ∨ w = 1 by omega) with rfl | rfl
      · exact q rfl
      · exact p rfl
  have cmp : ∀ a b : Int32, a < b ↔ a.toInt < b.toInt := fun a b => Int32.lt_iff_toInt_lt
  have cmp2 : ∀ a b : Int32, a ≤ b ↔ a.toInt ≤ b.toInt := fun a b => Int32.le_iff_toInt_le
  have lits : (10 : Int32).toInt = 10 ∧ (20 : Int32).toInt = 20 ∧ (17 : Int32).toInt = 17 ∧ (27 : Int32).toInt = 27 ∧ (18 : Int32).toInt = 18 ∧ (28 : Int32).toInt = 28 := by decide
  obtain ⟨i10, i20, i17, i27, i18, i28⟩ := lits
  have nat : ∀ lo n : Nat, lo < 100 → n < 100 → (lo : Int) ≤ y.toInt → y.toInt < lo + n → ∃ p, p < n ∧ y = nI (lo + p) := by
    intro lo n h1 h2 h3 h4
    refine ⟨(y.toInt - lo).toNat, by omega, ?_⟩
    rw [← Int32.toInt_inj, nI_toInt (by omega)]
    omega
  have hi : (y < 10 ∨ 18 ≤ y) → (if y < 20 then CI G (d + 50) mX8_at [.ref 117, .int (nI j), .int y] M (P (-1)) else if 28 ≤ y then CI G (d + 50) mX8_at [.ref 117, .int (nI j), .int y] M (P (-1)) else CV G (d + 49) mX7_openFor [.ref 0, .int (nI j)] M (fun M2 => vp_in (y - 20) 8 ∧ CI G (d + 50) mX8_at [.ref 117, .int (nI j), .int y] M2 (P (M2 23 (y - 20).toNatClampNeg)))) := by
    intro h10
    rw [cmp, cmp2, i10, i18] at h10
    refine ite_i (fun r => ?_) (fun r => ite_i (fun s => ?_) (fun s => ?_))
    · rw [cmp, i20] at r
      exact none out01 (fun a b => by rw [cmp, i10] at a; rw [cmp, i17] at b; omega) (fun a b => by rw [cmp, i20] at a; omega)
    · rw [cmp2, i28] at s
      exact none out01 (fun a b => by rw [cmp, i10] at a; rw [cmp, i17] at b; omega) (fun a b => by rw [cmp, i27] at b; omega)
    · rw [cmp, i20] at r
      rw [cmp2, i28] at s
      obtain ⟨p, hp, hy⟩ := nat 20 8 (by omega) (by omega) (by omega) (by omega)
      refine c_openFor2 (d := d + 38) hJD hBL hLC (fun M1 o1 o2 o3 o4 => ?_)
      have e : y - 20 = nI p := by rw [hy, show (20 : Int32) = nI 20 from rfl, nI_subE (by omega)]; congr 1; omega
      rw [e, nI_clamp (by omega), (o4 p hp).2]
      exact ⟨vp_in_nI (by omega) (by omega), val p M1 true hy hp o3⟩
  refine ite_i (fun r => hi (Or.inl r)) (fun r => ite_i (fun s => hi (Or.inr s)) (fun s => ?_))
  rw [cmp, i10] at r
  rw [cmp2, i18] at s
  obtain ⟨p, hp, hy⟩ := nat 10 8 (by omega) (by omega) (by omega) (by omega)
  refine c_openFor2 (d := d + 38) hJD hBL hLC (fun M1 o1 o2 o3 o4 => ?_)
  have e : y - 10 = nI p := by rw [hy, show (10 : Int32) = nI 10 from rfl, nI_subE (by omega)]; congr 1; omega
  rw [e, nI_clamp (by omega), (o4 p hp).1]
  exact ⟨vp_in_nI (by omega) (by omega), val p M1 false hy hp o3⟩
end C9
