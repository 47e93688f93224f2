section SW2
variable {G : jGT} {d : Nat} {M : jM} {P : Int32 → Int32 → jM → Prop}
theorem c_swingLoop {V : jEv} {L : List (Nat × Nat)} {own j t : Nat} {M0 : jM} {post : Int32 → jM → Prop} (ho : own < 256) (ht : t < 8) (hp : M0 118 (10 + t) = nI own) (hn : L.length ≤ 24) :
    ∀ (r m : Nat) (M : jM), m + 1 + r = 61 → DM M V j → DL M (itE V own L (m + 1)) → (∀ b, b ≠ 117 → b ≠ 124 → b ≠ 125 → M b = M0 b) → (∀ i, i ≠ 18 → i ≠ 19 → i ≠ 20 → M 117 i = M0 117 i) → (∀ M', (∀ b, b ≠ 117 → b ≠ 124 → b ≠ 125 → M' b = M0 b) → (∀ i, i ≠ 18 → i ≠ 19 → i ≠ 20 → M' 117 i = M0 117 i) → post (swR V own L r (m + 1)) M') → kX8_swing_45 G (d + 6) (nI j) (nI t) (jz (vD V own L)) (nI (m + 1)) M post := by
  intro r
  induction r with
  | zero =>
    intro m M hm hD hL f1 f2 h
    obtain rfl : m = 60 := by omega
    exact bX8_swing_45 (ite_ti (by decide) (h M f1 f2))
  | succ r ih =>
    intro m M hm hD hL f1 f2 h
    have hlen := itE_len V own L (m + 1)
    refine bX8_swing_45 (ite_fi (by rw [show (60 : Int32) = nI 60 from rfl, nI_ltI (by omega) (by omega)]; omega) ?_)
    rw [show (10 : Int32) = nI 10 from rfl, nI_add, nI_clamp (by omega), f1 118 (by omega) (by omega) (by omega), hp]
    refine ⟨vp_in_nI (by omega) (by omega), c_hears hD hL (by omega) ho (fun M1 g1 g2 g3 => ?_)⟩
    rw [nI_1]
    have F1 : ∀ b, b ≠ 117 → b ≠ 124 → b ≠ 125 → M1 b = M0 b := fun b b1 b2 b3 => (g2 b b1 b2 b3).trans (f1 b b1 b2 b3)
    have F2 : ∀ i, i ≠ 18 → i ≠ 19 → i ≠ 20 → M1 117 i = M0 117 i := fun i i1 i2 i3 => (g3 i i1 i2 i3).trans (f2 i i1 i2 i3)
    rw [swR] at h
    refine ite_i (fun q => ?_) (fun q => ?_) <;> rw [jz_eq] at q
    · rw [if_pos q] at h
      exact ih (m + 1) M1 (by omega) (hD.congr (g2 122 (by omega) (by omega) (by omega)) (g2 123 (by omega) (by omega) (by omega)) (g2 118 (by omega) (by omega) (by omega)) (g3 15 (by omega) (by omega) (by omega))) g1 F1 F2 h
    · rw [if_neg q] at h
      exact h M1 F1 F2
theorem call_swing (hR : Rel M) (x y : Int32) (k : ∀ r M', Rel M' → P r r M') : CI G (d + 50) mX7_swing [.ref 0, .int x, .int y] M (fun r1 M1 => CI G (d + 50) mX8_swing [.ref 117, .int x, .int y] M1 (P r1)) := by
  obtain ⟨nS, nJ, nE, nQ, nT, nD, nC, nL, hS, hJ, hE, hQ, hT, hB, hD, hL⟩ := id hR.1
  have s8 := hS.2.2.1
  have j4 := hJ.2.2.1
  have t3 := hE.2.2.1
  refine eX7_swing (bX7_swing_0 ?_)
  rcases jix x (n := nJ) (by omega) with hx | ⟨j, hj, rfl⟩
  · exact t_hasJudge_n hJ.1 j4 hx (ite_ti rfl (eX8_swing (bX8_swing_0 (t_isJudge_n hJ.2.1 (by omega) hx (ite_ti rfl (k _ M hR))))))
  refine t_hasJudge_y hJ.1 j4 hj (ite_fi (by decide) ?_)
  rcases jix y (n := nS) (by omega) with hy | ⟨t, ht, rfl⟩
  · exact t_hasSuit_n hS.1 s8 hy (ite_ti rfl (eX8_swing (bX8_swing_0 (t_isJudge_y hJ.2.1 (by omega) hj (ite_fi (by decide) (t_isSuit_n hS.2.1 s8 hy (ite_ti rfl (k _ M hR))))))))
  refine t_hasSuit_y hS.1 s8 ht (ite_fi (by decide) ?_)
  obtain ⟨kd, v, dy, row, hJD⟩ := JD_of hJ hD hj
  obtain ⟨L, hBL⟩ := BL_of hS hE
  obtain ⟨a, hLC⟩ := LC_of hL
  have hlen : L.length ≤ 24 := by have := hBL.2.2.1; omega
  obtain ⟨p, w, p1, -, p3, p4, -⟩ := hS.2.2.2 t ht
  have p3 : M 2 t = nI p := p3
  refine c_openFor hJD hBL hLC (fun M1 o1 o2 o3 => ?_)
  refine t_pointsOf (by rw [o3 1 (by omega)]; exact hS.1) s8 ht ?_
  rw [o3 2 (by omega), p3]
  refine eX5_firstTurn (bX5_firstTurn_0 (c_wins p1 o1 o2 (fun M2 w1 w2 => ?_)))
  have hS2 : SE M2 (venv kd v dy row a) := o1.congr (fun k hk => by rw [w2 27 (by omega)]) (fun b h1 h2 => w2 b (by omega))
  have hL2 : SLi M2 L := o2.congr (by rw [w2 27 (by omega)]) (w2 31 (by omega)) (w2 32 (by omega))
  refine c_firstTurnLoop (d := d + 46) (V := venv kd v dy row a) (L := L) (own := p) (M0 := M2) p1 hlen 60 0 M2 (by omega) rfl hS2 hL2 w1 (fun _ _ => rfl) (fun M3 w3 => ?_)
  have fr : ∀ b, b < 21 ∨ 33 < b → M3 b = M b := fun b hb => (w3 b (by omega)).trans ((w2 b (by omega)).trans (o3 b (by omega)))
  have e118 : M3 118 = M 118 := fr 118 (by omega)
  refine eX8_swing (bX8_swing_0 (t_isJudge_y (n := nJ) (by rw [e118]; exact hJ.2.1) (by omega) hj (ite_fi (by decide) (t_isSuit_y (n := nS) (by rw [e118]; exact hS.2.1) s8 ht (ite_fi (by decide) ?_)))))
  refine c_mopen (a := a) (L := L) (n := nE) (by rw [e118]; exact hLC.1) (by rw [e118]; exact hJD.m) (by rw [e118]; exact hBL.m) (fun M4 q1 q2 q3 q4 => ?_)
  have e4 : M4 118 (10 + t) = nI p := by rw [q3 118 (by omega) (by omega), e118]; exact p4
  rw [show (10 : Int32) = nI 10 from rfl, nI_add, nI_clamp (by omega), e4]
  refine ⟨vp_in_nI (by omega) (by omega), c_hears (d := d + 43) q1 q2 (by omega) p1 (fun M5 s0 s1 s2 => ?_)⟩
  refine c_swingLoop (d := d + 43) (V := venv kd v dy row a) (L := L) (own := p) (M0 := M5) p1 (by omega) (by rw [s1 118 (by omega) (by omega) (by omega)]; exact e4) hlen 60 0 M5 (by omega) (q1.congr (s1 122 (by omega) (by omega) (by omega)) (s1 123 (by omega) (by omega) (by omega)) (s1 118 (by omega) (by omega) (by omega)) (s2 15 (by omega) (by omega) (by omega))) s0 (fun _ _ _ _ => rfl) (fun _ _ _ _ => rfl) (fun M6 r1 r2 => k _ M6 (hR.keep ?_))
  have f : ∀ b, b ≠ 117 → (b < 21 ∨ 125 < b ∨ b = 115 ∨ b = 116 ∨ b = 118 ∨ b = 119) → M6 b = M b := fun b h1 h2 => (r1 b h1 (by omega) (by omega)).trans ((s1 b h1 (by omega) (by omega)).trans ((q3 b h1 (by omega)).trans (fr b (by omega))))
  have g : ∀ i, i ≠ 11 → i ≠ 12 → i ≠ 15 → i ≠ 18 → i ≠ 19 → i ≠ 20 → M6 117 i = M 117 i := fun i h1 h2 h3 h4 h5 h6 => by rw [r2 i h4 h5 h6, s2 i h4 h5 h6, q4 i h1 h2 h3 h4, fr 117 (by omega)]
  exact ⟨fun b hb => f b (by omega) (by omega), f 115 (by omega) (by omega), f 116 (by omega) (by omega), f 118 (by omega) (by omega), f 119 (by omega) (by omega), g 3 (by omega) (by omega) (by omega) (by omega) (by omega) (by omega), g 27 (by omega) (by omega) (by omega) (by omega) (by omega) (by omega), f 129 (by omega) (by omega)⟩
end SW2
