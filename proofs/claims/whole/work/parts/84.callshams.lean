/-- what the model's search for shams may change -/
def Ms (M0 M : jM) : Prop := (∀ b, b ≠ 117 → (b < 124 ∨ 128 < b) → M b = M0 b) ∧ ∀ i, i ≠ 18 → i ≠ 19 → i ≠ 20 → M 117 i = M0 117 i
theorem Ms.refl (M : jM) : Ms M M := ⟨fun _ _ _ => rfl, fun _ _ _ _ => rfl⟩
theorem Ms.trans {M M' M'' : jM} (h : Ms M M') (h' : Ms M' M'') : Ms M M'' := ⟨fun b h1 h2 => (h'.1 b h1 h2).trans (h.1 b h1 h2), fun i h1 h2 h3 => (h'.2 i h1 h2 h3).trans (h.2 i h1 h2 h3)⟩
section MH
variable {G : jGT} {d : Nat} {V : jEv} {L : List (Nat × Nat)} {own j : Nat}
theorem DM.ms {M M' : jM} (h : DM M V j) (k : Ms M M') : DM M' V j := h.congr (k.1 122 (by omega) (by omega)) (k.1 123 (by omega) (by omega)) (k.1 118 (by omega) (by omega)) (k.2 15 (by omega) (by omega) (by omega))
theorem Df.ms {M M' : jM} (k : Df M M') : Ms M M' := ⟨fun b h1 _ => k.1 b h1, fun i _ h2 h3 => k.2 i h2 h3⟩
/-- a sham heard, the suit asked, the sham forgotten -/
theorem c_behindM {M : jM} {a : Nat} {post : Int32 → jM → Prop} (ha : a < 64) (ho : own < 256) (hl : L.length < 90) (hD : DM M V j) (hL : DL M L) (h : ∀ M2, DL (jup M2 117 18 ((M2 117 18) - 1)) L → Ms M (jup M2 117 18 ((M2 117 18) - 1)) → post (jz (vD V own (vE V a L))) M2) : CI G (d + 6) mX8_hears [.ref 117, .int (nI j), .int (nI a)] M (fun _ M1 => CI G (d + 6) mX8_isForIt [.ref 117, .int (nI j), .int (nI own)] M1 post) := by
  refine c_hears hD hL (by omega) (by omega) (fun M1 g1 g2 g3 => ?_)
  have F1 : Ms M M1 := ⟨fun b h1 h2 => g2 b h1 (by omega) (by omega), fun i h1 h2 h3 => g3 i h1 h2 h3⟩
  refine c_isForIt (d := d + 1) (hD.ms F1) g1 ho (fun M2 k1 k2 k3 => ?_)
  have e18 : (M2 117 18) - 1 = nI L.length := by
    rw [(g1.df k3).1]
    unfold vE
    rw [List.length_append, List.length_singleton]
    exact pk_sub (a := L.length + 1) (b := 1) (by omega)
  have h := h M2
  rw [e18] at h
  refine h (DL_pop (g1.df k3) (by (simp (disch := omega) only [jup_ss, jup_sn, jup_n, jup_ne])) (by (simp (disch := omega) only [jup_ne])) (by (simp (disch := omega) only [jup_ne]))) (F1.trans (k3.ms.trans ⟨fun b b1 b2 => by (simp (disch := omega) only [jup_ne]), fun i i1 _ _ => by (simp (disch := omega) only [jup_ss, jup_sn, jup_n, jup_ne])⟩))
theorem c_ms13 {M0 : jM} {post : Int32 → jM → Prop} (ho : own < 256) (hl : L.length < 79) (hD : DM M0 V j)
    (hy : ∀ a, sh1 V L own 64 0 = some a → ∀ M', Ms M0 M' → M' 128 0 = nI a → post 1 M')
    (hn : sh1 V L own 64 0 = none → ∀ M', DL M' L → Ms M0 M' → kX8_looksForShams_66 G (d + 6) (nI j) (nI own) 0 M' post) :
    ∀ (r a : Nat) (M : jM), a + r = 64 → sh1 V L own r a = sh1 V L own 64 0 → DL M L → Ms M0 M → kX8_looksForShams_13 G (d + 6) (nI j) (nI own) (nI a) M post := by
  intro r
  induction r with
  | zero =>
    intro a M ha he hL hf
    obtain rfl : a = 64 := by omega
    rw [sh1] at he
    exact bX8_looksForShams_13 (ite_ti (by decide) (hn he.symm M hL hf))
  | succ r ih =>
    intro a M ha he hL hf
    rw [sh1] at he
    refine bX8_looksForShams_13 (ite_fi (by rw [show (64 : Int32) = nI 64 from rfl, nI_leI (by omega) (by omega)]; omega) (c_behindM (by omega) ho (by omega) (hD.ms hf) hL (fun M2 g1 g2 => ?_)))
    rw [nI_1]
    refine ite_i (fun q => ?_) (fun q => ?_) <;> rw [jz_ff] at q
    · rw [if_neg (by rw [q]; decide)] at he
      exact ih (a + 1) _ (by omega) he g1 (hf.trans g2)
    · rw [if_pos (by simpa using q)] at he
      exact hy a he.symm _ ((hf.trans g2).trans ⟨fun b b1 b2 => by (simp (disch := omega) only [jup_ne]), fun i _ _ _ => by (simp (disch := omega) only [jup_ss, jup_sn, jup_n, jup_ne])⟩) (by (simp (disch := omega) only [jup_ss, jup_sn, jup_n, jup_ne]))
theorem c_ms82 {M0 : jM} {a1 : Nat} {post : Int32 → jM → Prop} (ha1 : a1 < 64) (ho : own < 256) (hl : L.length < 79) (hD : DM M0 V j)
    (hy : ∀ b, sh1 V (vE V a1 L) own 64 0 = some b → ∀ M', Ms M0 M' → M' 128 0 = nI a1 → M' 128 1 = nI b → post 2 M')
    (hn : sh1 V (vE V a1 L) own 64 0 = none → ∀ M', DL M' L → Ms M0 M' → kX8_looksForShams_66 G (d + 6) (nI j) (nI own) (nI (a1 + 1)) M' post) :
    ∀ (r b : Nat) (M : jM), b + r = 64 → sh1 V (vE V a1 L) own r b = sh1 V (vE V a1 L) own 64 0 → DL M (vE V a1 L) → Ms M0 M → kX8_looksForShams_82 G (d + 6) (nI j) (nI own) (nI a1) (nI b) M post := by
  have hl2 : (vE V a1 L).length = L.length + 1 := by unfold vE; rw [List.length_append, List.length_singleton]
  intro r
  induction r with
  | zero =>
    intro b M hb he hL hf
    obtain rfl : b = 64 := by omega
    rw [sh1] at he
    have e18 : (M 117 18) - 1 = nI L.length := by
      rw [hL.1, hl2]
      exact pk_sub (a := L.length + 1) (b := 1) (by omega)
    refine bX8_looksForShams_82 (ite_ti (by decide) ?_)
    rw [nI_1, e18]
    exact hn he.symm _ (DL_pop hL (by (simp (disch := omega) only [jup_ss, jup_sn, jup_n, jup_ne])) (by (simp (disch := omega) only [jup_ne])) (by (simp (disch := omega) only [jup_ne]))) (hf.trans ⟨fun b b1 b2 => by (simp (disch := omega) only [jup_ne]), fun i i1 _ _ => by (simp (disch := omega) only [jup_ss, jup_sn, jup_n, jup_ne])⟩)
  | succ r ih =>
    intro b M hb he hL hf
    rw [sh1] at he
    refine bX8_looksForShams_82 (ite_fi (by rw [show (64 : Int32) = nI 64 from rfl, nI_leI (by omega) (by omega)]; omega) (c_behindM (by omega) ho (by omega) (hD.ms hf) hL (fun M2 g1 g2 => ?_)))
    rw [nI_1]
    refine ite_i (fun q => ?_) (fun q => ?_) <;> rw [jz_ff] at q
    · rw [if_neg (by rw [q]; decide)] at he
      exact ih (b + 1) _ (by omega) he g1 (hf.trans g2)
    · rw [if_pos (by simpa using q)] at he
      exact hy b he.symm _ ((hf.trans g2).trans ⟨fun b b1 b2 => by (simp (disch := omega) only [jup_ne]), fun i _ _ _ => by (simp (disch := omega) only [jup_ss, jup_sn, jup_n, jup_ne])⟩) (by (simp (disch := omega) only [jup_ss, jup_sn, jup_n, jup_ne])) (by (simp (disch := omega) only [jup_ss, jup_sn, jup_n, jup_ne]))
theorem c_ms66 {M0 : jM} {post : Int32 → jM → Prop} (ho : own < 256) (hl : L.length < 79) (hD : DM M0 V j)
    (hy : ∀ a b, sh2 V L own 64 0 = some (a, b) → ∀ M', Ms M0 M' → M' 128 0 = nI a → M' 128 1 = nI b → post 2 M')
    (hn : sh2 V L own 64 0 = none → ∀ M', Ms M0 M' → post (-5) M') :
    ∀ (r a : Nat) (M : jM), a + r = 64 → sh2 V L own r a = sh2 V L own 64 0 → DL M L → Ms M0 M → kX8_looksForShams_66 G (d + 6) (nI j) (nI own) (nI a) M post := by
  intro r
  induction r with
  | zero =>
    intro a M ha he hL hf
    obtain rfl : a = 64 := by omega
    rw [sh2] at he
    exact bX8_looksForShams_66 (ite_ti (by decide) (hn he.symm M hf))
  | succ r ih =>
    intro a M ha he hL hf
    rw [sh2] at he
    refine bX8_looksForShams_66 (ite_fi (by rw [show (64 : Int32) = nI 64 from rfl, nI_leI (by omega) (by omega)]; omega) ?_)
    refine c_hears (d := d) (hD.ms hf) hL (by omega) (by omega) (fun M1 g1 g2 g3 => ?_)
    have F1 : Ms M0 M1 := hf.trans ⟨fun b h1 h2 => g2 b h1 (by omega) (by omega), fun i h1 h2 h3 => g3 i h1 h2 h3⟩
    refine c_ms82 (M0 := M0) (by omega) ho hl hD (fun b hb M3 h1 h2 h3 => ?_) (fun hb M3 I3 h1 => ?_) 64 0 M1 rfl rfl g1 F1
    · rw [hb] at he
      exact hy a b he.symm M3 h1 h2 h3
    · rw [hb] at he
      exact ih (a + 1) M3 (by omega) he I3 h1
theorem c_mshams {M : jM} {post : Int32 → jM → Prop} (ho : own < 256) (hl : L.length < 79) (hD : DM M V j) (hL : DL M L)
    (h : ∀ M', Ms M M' → (1 ≤ (shR V L own).1 → M' 128 0 = nI (shR V L own).2.1) → (2 ≤ (shR V L own).1 → M' 128 1 = nI (shR V L own).2.2) → post (shR V L own).1 M') : CI G (d + 7) mX8_looksForShams [.ref 117, .int (nI j), .int (nI own)] M post := by
  unfold shR at h
  refine eX8_looksForShams (bX8_looksForShams_0 (c_isForIt (d := d + 1) hD hL ho (fun M1 _ _ s1 => ?_)))
  refine ite_i (fun q => ?_) (fun q => ?_) <;> rw [jz_ff] at q
  · rw [if_neg (by rw [q]; decide)] at h
    refine c_ms13 (M0 := M1) ho hl (hD.df s1) (fun a e M3 h1 h2 => ?_) (fun e M3 I3 h1 => ?_) 64 0 M1 rfl rfl (hL.df s1) (Ms.refl M1)
    · rw [e] at h
      dsimp only at h
      exact h M3 (s1.ms.trans h1) (fun _ => h2) (fun z => absurd z (by decide))
    · rw [e] at h
      refine c_ms66 (M0 := M3) ho hl ((hD.df s1).ms h1) (fun a b e2 M4 k1 k2 k3 => ?_) (fun e2 M4 k1 => ?_) 64 0 M3 rfl rfl I3 (Ms.refl M3)
      · rw [e2] at h
        exact h M4 ((s1.ms.trans h1).trans k1) (fun _ => k2) (fun _ => k3)
      · rw [e2] at h
        exact h M4 ((s1.ms.trans h1).trans k1) (fun z => absurd z (by decide)) (fun z => absurd z (by decide))
  · rw [if_pos (by simpa using q)] at h
    exact h M1 s1.ms (fun z => absurd z (by decide)) (fun z => absurd z (by decide))
end MH
theorem jz1_ix (z : Int32) : z < -1 ∨ (¬ z < -1 ∧ ¬ z ≤ 1) ∨ (¬ z < -1 ∧ z ≤ 1 ∧ (z = -1 ∨ (z ≠ -1 ∧ (z = 0 ∨ z = 1)))) := by
  by_cases h1 : z < -1
  · exact Or.inl h1
  by_cases h2 : z ≤ 1
  · refine Or.inr (Or.inr ⟨h1, h2, ?_⟩)
    by_cases h3 : z = -1
    · exact Or.inl h3
    · refine Or.inr ⟨h3, ?_⟩
      rw [Int32.lt_iff_toInt_lt, show (-1 : Int32).toInt = -1 from by decide] at h1
      rw [Int32.le_iff_toInt_le, show (1 : Int32).toInt = 1 from by decide] at h2
      have h3' : z.toInt ≠ -1 := fun e => h3 (Int32.toInt_inj.mp (by rw [e]; decide))
      rcases (show z.toInt = 0 ∨ z.toInt = 1 by omega) with e | e
      · exact Or.inl (Int32.toInt_inj.mp (by rw [e]; decide))
      · exact Or.inr (Int32.toInt_inj.mp (by rw [e]; decide))
  · exact Or.inr (Or.inl ⟨h1, h2⟩)
theorem shR_ix (V : jEv) (L : List (Nat × Nat)) (own : Nat) : (shR V L own).1 = 0 ∨ (shR V L own).1 = 1 ∨ (shR V L own).1 = 2 ∨ (shR V L own).1 = -5 := by
  unfold shR
  split
  · exact Or.inl rfl
  · split
    · exact Or.inr (Or.inl rfl)
    · split
      · exact Or.inr (Or.inr (Or.inl rfl))
      · exact Or.inr (Or.inr (Or.inr rfl))
section CS
variable {G : jGT} {d : Nat} {M : jM} {P : Int32 → Int32 → jM → Prop}
theorem call_shams (hR : Rel M) (x y z : Int32) (k : ∀ r M', Rel M' → P r r M') : CI G (d + 50) mX7_shams [.ref 0, .int x, .int y, .int z] M (fun r1 M1 => CI G (d + 50) mX8_shams [.ref 117, .int x, .int y, .int z] M1 (P r1)) := by
  obtain ⟨nS, nJ, nE, nQ, nT, nD, nC, nL, hS, hJ, hE, hQ, hT, hB, hD, hL⟩ := id hR.1
  have s8 := hS.2.2.1
  have j4 := hJ.2.2.1
  have t3 := hE.2.2.1
  refine eX7_shams (bX7_shams_0 ?_)
  rcases jix x (n := nJ) (by omega) with hx | ⟨j, hj, rfl⟩
  · exact t_hasJudge_n hJ.1 j4 hx (ite_ti rfl (eX8_shams (bX8_shams_0 (t_isJudge_n hJ.2.1 (by omega) hx (ite_ti rfl (k _ M hR))))))
  refine t_hasJudge_y hJ.1 j4 hj (ite_fi (by decide) ?_)
  rcases jix y (n := nS) (by omega) with hy | ⟨t, ht, rfl⟩
  · exact t_hasSuit_n hS.1 s8 hy (ite_ti rfl (eX8_shams (bX8_shams_0 (t_isJudge_y hJ.2.1 (by omega) hj (ite_fi (by decide) (t_isSuit_n hS.2.1 s8 hy (ite_ti rfl (k _ M hR))))))))
  refine t_hasSuit_y hS.1 s8 ht (ite_fi (by decide) ?_)
  have no : z < -1 ∨ 1 < z → CI G (d + 50) mX8_shams [.ref 117, .int (nI j), .int (nI t), .int z] M (P (-1)) := fun hz => eX8_shams (bX8_shams_0 (t_isJudge_y (n := nJ) hJ.2.1 (by omega) hj (ite_fi (by decide) (t_isSuit_y hS.2.1 s8 ht (ite_fi (by decide) (t_in_n hz (ite_ti rfl (k _ M hR))))))))
  rcases jz1_ix z with h | ⟨h1, h2⟩ | ⟨h1, h2, h3⟩
  · exact ite_ti h (no (Or.inl h))
  · exact ite_fi h1 (ite_fi h2 (no (Or.inr (n1_lt h2))))
  refine ite_fi h1 (ite_ti h2 ?_)
  obtain ⟨kd, v, dy, row, hJD⟩ := JD_of hJ hD hj
  obtain ⟨L, hBL⟩ := BL_of hS hE
  obtain ⟨a, hLC⟩ := LC_of hL
  have hlen : L.length ≤ 24 := by have := hBL.2.2.1; omega
  obtain ⟨own, w, p1, -, p3, p4, -⟩ := hS.2.2.2 t ht
  have p3 : M 2 t = nI own := p3
  have p4 : M 118 (10 + t) = nI own := p4
  refine c_openFor hJD hBL hLC (fun M1 o1 o2 o3 => ?_)
  refine t_pointsOf (by rw [o3 1 (by omega)]; exact hS.1) s8 ht ?_
  rw [o3 2 (by omega), p3]
  generalize hV : venv kd v dy row a = V at o1
  have ix := shR_ix V L own
  refine c_shamsAhead (d := d + 44) p1 (by omega) o1 o2 (fun M2 f2 c1 c2 => ?_)
  have fr : ∀ b, b < 21 ∨ 104 ≤ b → M2 b = M b := fun b hb => (f2 b (by omega)).trans (o3 b (by omega))
  have e118 : M2 118 = M 118 := fr 118 (by omega)
  generalize hQ' : shR V L own = Q at ix c1 c2
  have model : ∀ R : Int32, (z = -1 → R = Q.1) → (z ≠ -1 → Q.1 ≤ z → R = -5) → (z = 0 → ¬ Q.1 ≤ z → R = nI Q.2.1) → (z = 1 → ¬ Q.1 ≤ z → R = nI Q.2.2) → CI G (d + 50) mX8_shams [.ref 117, .int (nI j), .int (nI t), .int z] M2 (P R) := by
    intro R r1 r2 r3 r4
    refine eX8_shams (bX8_shams_0 (t_isJudge_y (n := nJ) (by rw [e118]; exact hJ.2.1) (by omega) hj (ite_fi (by decide) (t_isSuit_y (by rw [e118]; exact hS.2.1) s8 ht (ite_fi (by decide) (t_in_y h1 (l1_nlt h2) (ite_fi (by decide) ?_)))))))
    refine c_mlooks (a := a) (by rw [e118]; exact hLC.1) (by rw [e118]; exact hJD.m) (fun M4 q1 q2 => ?_)
    rw [hV] at q1
    have e4 : M4 118 = M 118 := (q2.1 118 (by omega) (by omega) (by omega) (by omega) (by omega)).trans e118
    refine c_opens (n := nE) (L := L) (by rw [e4]; exact hBL.m) (fun M5 s1 s2 s3 => ?_)
    have e5 : M5 118 = M 118 := (s2 118 (by omega) (by omega) (by omega)).trans e4
    rw [e5, show (10 : Int32) = nI 10 from rfl, nI_add, nI_clamp (by omega), p4]
    have dm : DM M5 V j := q1.congr (s2 122 (by omega) (by omega) (by omega)) (s2 123 (by omega) (by omega) (by omega)) (s2 118 (by omega) (by omega) (by omega)) (s3 15 (by omega))
    refine ⟨vp_in_nI (by omega) (by omega), c_mshams (d := d + 42) p1 (by omega) dm s1 (fun M6 l4 m1 m2 => ?_)⟩
    rw [hQ'] at m1 m2 ⊢
    have hR6 : Rel M6 := by
      have f : ∀ b, b ≠ 117 → (b < 21 ∨ 128 < b ∨ b = 115 ∨ b = 116 ∨ b = 118 ∨ b = 119) → M6 b = M b := fun b h1 h2 => (l4.1 b h1 (by omega)).trans ((s2 b h1 (by omega) (by omega)).trans ((q2.1 b h1 (by omega) (by omega) (by omega) (by omega)).trans (fr b (by omega))))
      have g : ∀ i, i ≠ 11 → i ≠ 12 → i ≠ 15 → i ≠ 18 → i ≠ 19 → i ≠ 20 → M6 117 i = M 117 i := fun i h1 h2 h3 h4 h5 h6 => by rw [l4.2 i h4 h5 h6, s3 i h4, q2.2 i h1 h2 h3, fr 117 (by omega)]
      exact hR.keep ⟨fun b hb => f b (by omega) (by omega), f 115 (by omega) (by omega), f 116 (by omega) (by omega), f 118 (by omega) (by omega), f 119 (by omega) (by omega), g 3 (by omega) (by omega) (by omega) (by omega) (by omega) (by omega), g 27 (by omega) (by omega) (by omega) (by omega) (by omega) (by omega), f 129 (by omega) (by omega)⟩
    refine ite_i (fun u => ?_) (fun u => ite_i (fun q => ?_) (fun q => ?_))
    · rw [r1 u]; exact k _ M6 hR6
    · rw [r2 u q]; exact k _ M6 hR6
    · rcases h3 with h3 | ⟨-, h3 | h3⟩
      · exact absurd h3 u
      · rw [r3 h3 q]
        subst h3
        refine ⟨(show vp_in (nI 0) 2 from vp_in_nI (by omega) (by omega)), ?_⟩
        rw [show (0 : Int32).toNatClampNeg = 0 from by decide, m1 (by rcases ix with e | e | e | e <;> rw [e] at q ⊢ <;> first | decide | exact absurd (by decide) q)]
        exact k _ M6 hR6
      · rw [r4 h3 q]
        subst h3
        refine ⟨(show vp_in (nI 1) 2 from vp_in_nI (by omega) (by omega)), ?_⟩
        rw [show (1 : Int32).toNatClampNeg = 1 from by decide, m2 (by rcases ix with e | e | e | e <;> rw [e] at q ⊢ <;> first | decide | exact absurd (by decide) q)]
        exact k _ M6 hR6
  refine ite_i (fun u => model _ (fun _ => rfl) (fun e => absurd u e) (fun e => absurd (e.symm.trans u) (by decide)) (fun e => absurd (e.symm.trans u) (by decide))) (fun u => ite_i (fun q => model _ (fun e => absurd e u) (fun _ _ => rfl) (fun _ e => absurd q e) (fun _ e => absurd q e)) (fun q => ?_))
  rcases h3 with h3 | ⟨-, h3 | h3⟩
  · exact absurd h3 u
  · have m1 := c1 (by subst h3; rcases ix with e | e | e | e <;> rw [e] at q ⊢ <;> first | decide | exact absurd (by decide) q)
    subst h3
    refine ⟨(show vp_in (nI 0) 6 from vp_in_nI (by omega) (by omega)), ?_⟩
    rw [show (0 : Int32).toNatClampNeg = 0 from by decide, m1]
    exact model _ (fun e => absurd e u) (fun _ e => absurd e q) (fun _ _ => rfl) (fun e => absurd e (by decide))
  · have m2 := c2 (by subst h3; rcases ix with e | e | e | e <;> rw [e] at q ⊢ <;> first | decide | exact absurd (by decide) q)
    subst h3
    refine ⟨(show vp_in (nI 1) 6 from vp_in_nI (by omega) (by omega)), ?_⟩
    rw [show (1 : Int32).toNatClampNeg = 1 from by decide, m2]
    exact model _ (fun e => absurd e u) (fun _ e => absurd e q) (fun e => absurd e (by decide)) (fun _ _ => rfl)
end CS
