section AG
variable {G : jGT} {d : Nat} {M : jM} {P : Int32 → Int32 → jM → Prop}
theorem c_againLoop {V : jEv} {L : List (Nat × Nat)} {own j t n : Nat} {M0 : jM} {post : Int32 → jM → Prop} (ho : own < 256) (ht : t < 8) (hp : M0 118 (10 + t) = nI own) (hn : L.length + n ≤ 99) (h : ∀ M', (∀ b, b ≠ 117 → b ≠ 124 → b ≠ 125 → M' b = M0 b) → (∀ i, i ≠ 18 → i ≠ 19 → i ≠ 20 → M' 117 i = M0 117 i) → post (nI (itC V own L n)) M') :
    ∀ (r k : Nat) (M : jM), k + r = n → DM M V j → DL M (itE V own L k) → (∀ b, b ≠ 117 → b ≠ 124 → b ≠ 125 → M b = M0 b) → (∀ i, i ≠ 18 → i ≠ 19 → i ≠ 20 → M 117 i = M0 117 i) → kX8_again_46 G (d + 6) (nI j) (nI t) (nI n) (nI (itC V own L k)) (nI k) M post := by
  intro r
  induction r with
  | zero =>
    intro k M hk hD hL f1 f2
    obtain rfl : k = n := by omega
    exact bX8_again_46 (ite_ti (Int32.le_refl _) (h M f1 f2))
  | succ r ih =>
    intro k M hk hD hL f1 f2
    have hlen := itE_len V own L k
    refine bX8_again_46 (ite_fi (by rw [nI_leI (by omega) (by omega)]; omega) ?_)
    rw [show (10 : Int32) = nI 10 from rfl, nI_add, nI_clamp (by omega), f1 118 (by omega) (by omega) (by omega), hp]
    refine ⟨vp_in_nI (by omega) (by omega), c_hears hD hL (by omega) ho (fun M1 g1 g2 g3 => ?_)⟩
    rw [nI_1]
    have go : ∀ x : Int32, x = nI (itC V own L (k + 1)) → kX8_again_46 G (d + 6) (nI j) (nI t) (nI n) x (nI (k + 1)) M1 post := by
      intro x hx
      subst hx
      exact ih (k + 1) M1 (by omega) (hD.congr (g2 122 (by omega) (by omega) (by omega)) (g2 123 (by omega) (by omega) (by omega)) (g2 118 (by omega) (by omega) (by omega)) (g3 15 (by omega) (by omega) (by omega))) g1 (fun b b1 b2 b3 => (g2 b b1 b2 b3).trans (f1 b b1 b2 b3)) (fun i i1 i2 i3 => (g3 i i1 i2 i3).trans (f2 i i1 i2 i3))
    have e : itC V own L (k + 1) = itC V own L k + (vD V own (itE V own L k)).toNat := rfl
    cases hb : vD V own (itE V own L k) with
    | true => rw [hb] at e; exact ite_fi (by decide) (go _ (by rw [e]; first | rfl | exact nI_1 _))
    | false => rw [hb] at e; exact ite_ti rfl (go _ (by rw [e]; first | rfl | exact nI_add _ 0))
theorem call_again (hR : Rel M) (x y z : Int32) (k : ∀ r M', Rel M' → P r r M') : CI G (d + 50) mX7_again [.ref 0, .int x, .int y, .int z] M (fun r1 M1 => CI G (d + 50) mX8_again [.ref 117, .int x, .int y, .int z] M1 (P r1)) := by
  obtain ⟨nS, nJ, nE, nQ, nT, nD, nC, nL, hS, hJ, hE, hQ, hT, hB, hD, hL⟩ := id hR.1
  have s8 := hS.2.2.1
  have j4 := hJ.2.2.1
  have t3 := hE.2.2.1
  refine eX7_again (bX7_again_0 ?_)
  rcases jix x (n := nJ) (by omega) with hx | ⟨j, hj, rfl⟩
  · exact t_hasJudge_n hJ.1 j4 hx (ite_ti rfl (eX8_again (bX8_again_0 (t_isJudge_n hJ.2.1 (by omega) hx (ite_ti rfl (k _ M hR))))))
  refine t_hasJudge_y hJ.1 j4 hj (ite_fi (by decide) ?_)
  rcases jix y (n := nS) (by omega) with hy | ⟨t, ht, rfl⟩
  · exact t_hasSuit_n hS.1 s8 hy (ite_ti rfl (eX8_again (bX8_again_0 (t_isJudge_y hJ.2.1 (by omega) hj (ite_fi (by decide) (t_isSuit_n hS.2.1 s8 hy (ite_ti rfl (k _ M hR))))))))
  refine t_hasSuit_y hS.1 s8 ht (ite_fi (by decide) ?_)
  rcases jix z (n := 61) (by omega) with hz | ⟨q, hq, rfl⟩
  · have fin : CI G (d + 50) mX8_again [.ref 117, .int (nI j), .int (nI t), .int z] M (P (-2)) :=
      eX8_again (bX8_again_0 (t_isJudge_y hJ.2.1 (by omega) hj (ite_fi (by decide) (t_isSuit_y hS.2.1 s8 ht (ite_fi (by decide) (t_inN_n (n := 60) hz (by omega) (ite_ti rfl (k _ M hR))))))))
    exact jno_ii (n := 60) hz (by omega) fin
  refine ite_fi (nI_pos (by omega)) (ite_ti (by rw [show (60 : Int32) = nI 60 from rfl, nI_leI (by omega) (by omega)]; omega) ?_)
  obtain ⟨kd, v, dy, row, hJD⟩ := JD_of hJ hD hj
  obtain ⟨L, hBL⟩ := BL_of hS hE
  obtain ⟨a, hLC⟩ := LC_of hL
  have hlen : L.length ≤ 24 := by have := hBL.2.2.1; omega
  obtain ⟨p, w, p1, -, p3, p4, -⟩ := hS.2.2.2 t ht
  have p3 : M 2 t = nI p := p3
  refine c_openFor hJD hBL hLC (fun M1 o1 o2 o3 => ?_)
  refine t_pointsOf (by rw [o3 1 (by omega)]; exact hS.1) s8 ht ?_
  rw [o3 2 (by omega), p3]
  refine c_timesWon p1 (by omega) o1 o2 (fun M2 w2 => ?_)
  have fr : ∀ b, b < 21 ∨ 33 < b → M2 b = M b := fun b hb => (w2 b (by omega)).trans (o3 b (by omega))
  have e118 : M2 118 = M 118 := fr 118 (by omega)
  refine eX8_again (bX8_again_0 (t_isJudge_y (n := nJ) (by rw [e118]; exact hJ.2.1) (by omega) hj (ite_fi (by decide) (t_isSuit_y (n := nS) (by rw [e118]; exact hS.2.1) s8 ht (ite_fi (by decide) (t_inN_y (n := 60) (by omega) (by omega) (ite_fi (by decide) ?_)))))))
  refine c_mopen (a := a) (L := L) (n := nE) (by rw [e118]; exact hLC.1) (by rw [e118]; exact hJD.m) (by rw [e118]; exact hBL.m) (fun M4 q1 q2 q3 q4 => ?_)
  refine c_againLoop (V := venv kd v dy row a) (L := L) (own := p) (M0 := M4) (d := d + 43) p1 (by omega) (by rw [q3 118 (by omega) (by omega), e118]; exact p4) (by omega) (fun M5 s1 s2 => k _ M5 (hR.keep ?_)) q 0 M4 (by omega) q1 q2 (fun _ _ _ _ => rfl) (fun _ _ _ _ => rfl)
  have f : ∀ b, b ≠ 117 → (b < 21 ∨ 125 < b ∨ b = 115 ∨ b = 116 ∨ b = 118 ∨ b = 119) → M5 b = M b := fun b h1 h2 => (s1 b h1 (by omega) (by omega)).trans ((q3 b h1 (by omega)).trans (fr b (by omega)))
  have g : ∀ i, i ≠ 11 → i ≠ 12 → i ≠ 15 → i ≠ 18 → i ≠ 19 → i ≠ 20 → M5 117 i = M 117 i := fun i h1 h2 h3 h4 h5 h6 => by rw [s2 i h4 h5 h6, q4 i h1 h2 h3 h4, fr 117 (by omega)]
  exact ⟨fun b hb => f b (by omega) (by omega), f 115 (by omega) (by omega), f 116 (by omega) (by omega), f 118 (by omega) (by omega), f 119 (by omega) (by omega), g 3 (by omega) (by omega) (by omega) (by omega) (by omega) (by omega), g 27 (by omega) (by omega) (by omega) (by omega) (by omega) (by omega), f 129 (by omega) (by omega)⟩
end AG
