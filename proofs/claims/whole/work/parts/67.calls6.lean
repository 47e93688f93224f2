section C6
variable {G : jGT} {d : Nat} {M : jM} {P : Int32 → Int32 → jM → Prop}
theorem call_wrong (hR : Rel M) (x : Int32) (k : ∀ r M', Rel M' → P r r M') : CI G (d + 50) mX7_wrong [.ref 0, .int x] M (fun r1 M1 => CI G (d + 50) mX8_wrong [.ref 117, .int x] M1 (P r1)) := by
  obtain ⟨nS, nJ, nE, nQ, nT, nD, nC, nL, hS, hJ, hE, hQ, hT, hB, hD, hL⟩ := id hR.1
  have s8 := hS.2.2.1
  have j4 := hJ.2.2.1
  have t3 := hE.2.2.1
  refine eX7_wrong (bX7_wrong_0 ?_)
  rcases jix x (n := nJ) (by omega) with hx | ⟨j, hj, rfl⟩
  · exact t_hasJudge_n hJ.1 j4 hx (ite_ti rfl (eX8_wrong (bX8_wrong_0 (t_isJudge_n hJ.2.1 (by omega) hx (ite_ti rfl (k _ M hR))))))
  refine t_hasJudge_y hJ.1 j4 hj (ite_fi (by decide) ?_)
  obtain ⟨kd, v, dy, row, hJD⟩ := JD_of hJ hD hj
  obtain ⟨L, hBL⟩ := BL_of hS hE
  obtain ⟨a, hLC⟩ := LC_of hL
  obtain ⟨bb1, bb2, bb3, bb4, bb5, bb6, bb7⟩ := id hBL
  refine c_openFor hJD hBL hLC (fun M1 o1 o2 o3 => ?_)
  refine c_wrongLoop (d := d + 38) (M0 := M1) (L := L) (V := venv kd v dy row a) (by rw [o3 1 (by omega), bb5, bb3]) (by omega) (fun M2 w2 => ?_) L.length 0 0 M1 (by omega) rfl o1 o2 (fun _ _ => rfl)
  have fr : ∀ b, b < 21 ∨ 33 < b → M2 b = M b := fun b hb => (w2 b (by omega)).trans (o3 b (by omega))
  have e118 : M2 118 = M 118 := fr 118 (by omega)
  refine eX8_wrong (bX8_wrong_0 (t_isJudge_y (n := nJ) (by rw [e118]; exact hJ.2.1) (by omega) hj (ite_fi (by decide) ?_)))
  refine c_mlooks (a := a) (by rw [e118]; exact hLC.1) (by rw [e118]; exact hJD.m) (fun M3 q1 q2 => ?_)
  have e3 : M3 118 = M 118 := (q2.1 118 (by omega) (by omega) (by omega) (by omega) (by omega)).trans e118
  rw [bb3]
  refine c_mwrongLoop (d := d + 43) (M0 := M3) (n := nE) (L := L) (V := venv kd v dy row a) (by rw [e3]; exact hBL.m) (fun M4 s1 s2 => k _ M4 (hR.keep ?_)) nE 0 0 M3 (by omega) rfl q1 (fun _ _ _ _ => rfl) (fun _ _ _ _ => rfl)
  have f : ∀ b, b ≠ 117 → (b < 21 ∨ 125 < b ∨ b = 115 ∨ b = 116 ∨ b = 118 ∨ b = 119) → M4 b = M b := fun b h1 h2 => (s1 b h1 (by omega) (by omega)).trans ((q2.1 b h1 (by omega) (by omega) (by omega) (by omega)).trans (fr b (by omega)))
  have g : ∀ i, i ≠ 11 → i ≠ 12 → i ≠ 15 → i ≠ 18 → i ≠ 19 → i ≠ 20 → M4 117 i = M 117 i := fun i h1 h2 h3 h4 h5 h6 => by rw [s2 i h4 h5 h6, q2.2 i h1 h2 h3, fr 117 (by omega)]
  exact ⟨fun b hb => f b (by omega) (by omega), f 115 (by omega) (by omega), f 116 (by omega) (by omega), f 118 (by omega) (by omega), f 119 (by omega) (by omega), g 3 (by omega) (by omega) (by omega) (by omega) (by omega) (by omega), g 27 (by omega) (by omega) (by omega) (by omega) (by omega) (by omega), f 129 (by omega) (by omega)⟩
theorem c_barNow {s : Nat → Int32} {a : jA4} {post : Int32 → jM → Prop} (hL : LW (M 118) a) (h : post (nI a.2.2.2) M) : CI G d mX8_barNow [.ref 117] M post := by
  obtain ⟨l1, l2, l3, l4⟩ := hL
  refine eX8_barNow (bX8_barNow_0 ?_)
  rcases l4 with ⟨g1, rfl⟩ | ⟨c, m, g1, g2, g3, g4, g5, g6, g7⟩
  · exact ite_ti g1 h
  · rw [g2, show (206 : Int32) = nI 206 from rfl, nI_add, nI_clamp (by omega), g7]
    exact ite_fi (by rw [show (-1 : Int32) = -nI 1 from rfl]; intro e; have := congrArg Int32.toInt e; rw [nI_toInt (by omega), ng_toInt (by omega)] at this; omega) ⟨vp_in_nI (by omega) (by omega), h⟩
theorem call_bars (hR : Rel M) (x y : Int32) (k : ∀ r M', Rel M' → P r r M') : CI G (d + 50) mX7_bars [.ref 0, .int x, .int y] M (fun r1 M1 => CI G (d + 50) mX8_bars [.ref 117, .int x, .int y] M1 (P r1)) := by
  obtain ⟨nS, nJ, nE, nQ, nT, nD, nC, nL, hS, hJ, hE, hQ, hT, hB, hD, hL⟩ := id hR.1
  have s8 := hS.2.2.1
  have j4 := hJ.2.2.1
  have t3 := hE.2.2.1
  refine eX7_bars (bX7_bars_0 ?_)
  rcases jix x (n := nJ) (by omega) with hx | ⟨j, hj, rfl⟩
  · exact t_hasJudge_n hJ.1 j4 hx (ite_ti rfl (eX8_bars (bX8_bars_0 (t_isJudge_n hJ.2.1 (by omega) hx (ite_ti rfl (k _ M hR))))))
  refine t_hasJudge_y hJ.1 j4 hj (ite_fi (by decide) ?_)
  have no : y < 0 ∨ 2 < y → CI G (d + 50) mX8_bars [.ref 117, .int (nI j), .int y] M (P (-1)) := fun hy => eX8_bars (bX8_bars_0 (t_isJudge_y (n := nJ) hJ.2.1 (by omega) hj (ite_fi (by decide) (t_in_n hy (ite_ti rfl (k _ M hR))))))
  refine ite_i (fun q => no (Or.inl q)) (fun q => ite_i (fun p => ?_) (fun p => no (Or.inr (by rw [Int32.lt_iff_toInt_lt]; rw [Int32.le_iff_toInt_le] at p; omega))))
  obtain ⟨kd, v, dy, row, hJD⟩ := JD_of hJ hD hj
  obtain ⟨L, hBL⟩ := BL_of hS hE
  obtain ⟨a, hLC⟩ := LC_of hL
  obtain ⟨bb1, bb2, bb3, bb4, bb5, bb6, bb7⟩ := id hBL
  refine c_openFor hJD hBL hLC (fun M1 o1 o2 o3 => ?_)
  refine c_barsLoop (d := d + 38) (M0 := M1) (L := L) (V := venv kd v dy row a) (z0 := brR (venv kd v dy row a) L 41 0 0 (-5) (-5)) (fun M2 w2 => ?_) 41 0 0 (-5) (-5) (venv kd v dy row a).2.2.2.2.2 M1 (by omega) (by omega) rfl o1 o2 (fun _ _ => rfl)
  have fr : ∀ b, b < 21 ∨ 33 < b → M2 b = M b := fun b hb => (w2 b (by omega)).trans (o3 b (by omega))
  have e118 : M2 118 = M 118 := fr 118 (by omega)
  refine eX8_bars (bX8_bars_0 (t_isJudge_y (n := nJ) (by rw [e118]; exact hJ.2.1) (by omega) hj (ite_fi (by decide) (t_in_y q (by rw [Int32.lt_iff_toInt_lt]; rw [Int32.le_iff_toInt_le] at p; omega) (ite_fi (by decide) ?_)))))
  refine c_mlooks (a := a) (by rw [e118]; exact hLC.1) (by rw [e118]; exact hJD.m) (fun M3 q1 q2 => ?_)
  have e3 : M3 118 = M 118 := (q2.1 118 (by omega) (by omega) (by omega) (by omega) (by omega)).trans e118
  refine c_barNow (a := a) (s := M 118) (by rw [e3]; exact hLC.1) ?_
  have ebo : (M3 117 15) - nI a.2.2.2 = bo (venv kd v dy row a) := by
    rw [q1.2.1]
    show nI (a.2.2.2 + if kd = 5 then v else 0) - nI a.2.2.2 = if kd = 5 then nI v else 0
    have e : nI (a.2.2.2 + if kd = 5 then v else 0) = nI a.2.2.2 + nI (if kd = 5 then v else 0) := by rw [nI_add]
    rw [e, Int32.add_comm, Int32.add_sub_cancel]
    split <;> rfl
  rw [ebo]
  refine c_mbarsLoop (d := d + 43) (M0 := M3) (n := nE) (L := L) (V := venv kd v dy row a) (by rw [e3]; exact hBL.m) (fun M4 s1 s2 => k _ M4 (hR.keep ?_)) 41 0 0 (-5) (-5) (venv kd v dy row a).2.2.2.2.2 M3 (by omega) (by omega) (by simp) rfl q1 (fun _ _ _ _ => rfl) (fun _ _ _ _ _ => rfl)
  have f : ∀ b, b ≠ 117 → (b < 21 ∨ 125 < b ∨ b = 115 ∨ b = 116 ∨ b = 118 ∨ b = 119) → M4 b = M b := fun b h1 h2 => (s1 b h1 (by omega) (by omega)).trans ((q2.1 b h1 (by omega) (by omega) (by omega) (by omega)).trans (fr b (by omega)))
  have g : ∀ i, i ≠ 11 → i ≠ 12 → i ≠ 15 → i ≠ 18 → i ≠ 19 → i ≠ 20 → M4 117 i = M 117 i := fun i h1 h2 h3 h4 h5 h6 => by rw [s2 i h3 h4 h5 h6, q2.2 i h1 h2 h3, fr 117 (by omega)]
  exact ⟨fun b hb => f b (by omega) (by omega), f 115 (by omega) (by omega), f 116 (by omega) (by omega), f 118 (by omega) (by omega), f 119 (by omega) (by omega), g 3 (by omega) (by omega) (by omega) (by omega) (by omega) (by omega), g 27 (by omega) (by omega) (by omega) (by omega) (by omega) (by omega), f 129 (by omega) (by omega)⟩
end C6
