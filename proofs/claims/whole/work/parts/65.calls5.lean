theorem Tn_refl (L : List (Nat × Nat)) (h : L.length < 2 ^ 31 - 1) : Tn (-1) L L := ⟨rfl, fun k hk => ⟨rfl, fun e => absurd (e ▸ nI_pos (by omega : k < 2 ^ 31)) (by decide), fun _ => rfl⟩⟩
section C5
variable {G : jGT} {d : Nat} {M : jM} {P : Int32 → Int32 → jM → Prop}
theorem call_unlawful (hR : Rel M) (x : Int32) (k : ∀ r M', Rel M' → P r r M') : CI G (d + 50) mX7_unlawful [.ref 0, .int x] M (fun r1 M1 => CI G (d + 50) mX8_unlawful [.ref 117, .int x] M1 (P r1)) := by
  obtain ⟨nS, nJ, nE, nQ, nT, nD, nC, nL, hS, hJ, hE, hQ, hT, hB, hD, hL⟩ := id hR.1
  have s8 := hS.2.2.1
  have j4 := hJ.2.2.1
  have t3 := hE.2.2.1
  refine eX7_unlawful (bX7_unlawful_0 ?_)
  rcases jix x (n := nJ) (by omega) with hx | ⟨j, hj, rfl⟩
  · exact t_hasJudge_n hJ.1 j4 hx (ite_ti rfl (eX8_unlawful (bX8_unlawful_0 (t_isJudge_n hJ.2.1 (by omega) hx (ite_ti rfl (k _ M hR))))))
  refine t_hasJudge_y hJ.1 j4 hj (ite_fi (by decide) ?_)
  obtain ⟨kd, v, dy, row, hJD⟩ := JD_of hJ hD hj
  obtain ⟨L, hBL⟩ := BL_of hS hE
  obtain ⟨a, hLC⟩ := LC_of hL
  have hlen : L.length ≤ 24 := by have := hBL.2.2.1; omega
  refine c_openFor hJD hBL hLC (fun M1 o1 o2 o3 => ?_)
  refine c_firstUnlawful o1 o2 (fun M2 w2 => ?_)
  have fr : ∀ b, b < 21 ∨ 33 < b → M2 b = M b := fun b hb => (w2 b (by omega)).trans (o3 b (by omega))
  have e118 : M2 118 = M 118 := fr 118 (by omega)
  refine eX8_unlawful (bX8_unlawful_0 (t_isJudge_y (n := nJ) (by rw [e118]; exact hJ.2.1) (by omega) hj (ite_fi (by decide) ?_)))
  refine c_mlooks (a := a) (by rw [e118]; exact hLC.1) (by rw [e118]; exact hJD.m) (fun M3 q1 q2 => ?_)
  have e3 : M3 118 = M 118 := (q2.1 118 (by omega) (by omega) (by omega) (by omega) (by omega)).trans e118
  refine c_mfirstUnlawful (n := nE) (L := L) (L' := L) (V := venv kd v dy row a) (by rw [e3]; exact hBL.m) (Tn_refl L (by omega)) q1 (fun M4 s1 s2 => k _ M4 (hR.keep ?_))
  have f : ∀ b, b ≠ 117 → (b < 21 ∨ 125 < b ∨ b = 115 ∨ b = 116 ∨ b = 118 ∨ b = 119) → M4 b = M b := fun b h1 h2 => (s1 b h1 (by omega) (by omega)).trans ((q2.1 b h1 (by omega) (by omega) (by omega) (by omega)).trans (fr b (by omega)))
  have g : ∀ i, i ≠ 11 → i ≠ 12 → i ≠ 15 → i ≠ 18 → i ≠ 19 → i ≠ 20 → M4 117 i = M 117 i := fun i h1 h2 h3 h4 h5 h6 => by rw [s2 i h4 h5 h6, q2.2 i h1 h2 h3, fr 117 (by omega)]
  exact ⟨fun b hb => f b (by omega) (by omega), f 115 (by omega) (by omega), f 116 (by omega) (by omega), f 118 (by omega) (by omega), f 119 (by omega) (by omega), g 3 (by omega) (by omega) (by omega) (by omega) (by omega) (by omega), g 27 (by omega) (by omega) (by omega) (by omega) (by omega) (by omega), f 129 (by omega) (by omega)⟩
end C5
