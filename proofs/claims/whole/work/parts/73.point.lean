theorem xor_ok : ∀ m : Nat, m < 256 → ∀ p, p < 8 → nI m ^^^ ((1 : Int32) <<< (nI p &&& 31)) = nI (m ^^^ 2 ^ p) ∧ m ^^^ 2 ^ p < 256 := by decide +kernel
/-- the first point that, taken or given, wins -/
def prR (V : jEv) (L : List (Nat × Nat)) (own : Nat) (z : Bool) : Nat → Nat → Int32
  | 0, _ => -5
  | r + 1, k => if own.testBit k = z then (if vD V (own ^^^ 2 ^ k) L = true then nI k else prR V L own z r (k + 1)) else prR V L own z r (k + 1)
theorem jz_ff (b : Bool) : jz b = 0 ↔ b = false := by cases b <;> decide
section PT
variable {G : jGT} {d : Nat} {V : jEv} {L : List (Nat × Nat)} {own j : Nat} {z : Bool}
theorem c_pointLoop {x1 x2 : Int32} {M0 : jM} {post : Int32 → jM → Prop} {R : Int32} (ho : own < 256) (h : ∀ M', (∀ b, b ≠ 33 → M' b = M0 b) → post R M') : ∀ (r k : Nat) (M : jM), k + r = 8 → prR V L own z r k = R → SE M V → SLi M L → (∀ b, b ≠ 33 → M b = M0 b) → kX7_point_66 G (d + 3) x1 x2 (jz z) (nI own) (nI k) M post := by
  intro r
  induction r with
  | zero =>
    intro k M hk hr hS hL hf
    obtain rfl : k = 8 := by omega
    rw [prR] at hr
    refine bX7_point_66 (ite_ti (by decide) ?_)
    rw [hr]; exact h M hf
  | succ r ih =>
    intro k M hk hr hS hL hf
    obtain ⟨x1', x2'⟩ := xor_ok own ho k (by omega)
    rw [prR] at hr
    refine bX7_point_66 (ite_fi (by rw [show (8 : Int32) = nI 8 from rfl, nI_leI (by omega) (by omega)]; omega) ?_)
    rw [bit_ok own ho k (by omega), x1', nI_1]
    have next : (prR V L own z r (k + 1) = R) → ∀ M', SE M' V → SLi M' L → (∀ b, b ≠ 33 → M' b = M0 b) → kX7_point_66 G (d + 3) x1 x2 (jz z) (nI own) (nI (k + 1)) M' post := fun e M' s1 s2 s3 => ih (k + 1) M' (by omega) e s1 s2 s3
    have try1 : own.testBit k = z → CI G (d + 3) mX5_wins [.ref 27, .int (nI (own ^^^ 2 ^ k))] M (fun r2 M2 => (if r2 = 0 then kX7_point_66 G (d + 3) x1 x2 (jz z) (nI own) (nI (k + 1)) M2 post else post (nI k) M2)) := by
      intro q
      rw [if_pos q] at hr
      refine c_wins x2' hS hL (fun M1 t1 t2 => ?_)
      have F : ∀ b, b ≠ 33 → M1 b = M0 b := fun b hb => (t2 b hb).trans (hf b hb)
      refine ite_i (fun p => ?_) (fun p => ?_) <;> rw [jz_ff] at p
      · rw [if_neg (by rw [p]; decide)] at hr
        exact next hr M1 (hS.congr (fun k hk => by rw [t2 27 (by omega)]) (fun b h1 h2 => t2 b (by omega))) (hL.congr (by rw [t2 27 (by omega)]) (t2 31 (by omega)) (t2 32 (by omega))) F
      · rw [if_pos (by simpa using p)] at hr
        rw [hr]; exact h M1 F
    refine ite_i (fun q => ite_i (fun p => try1 ?_) (fun p => ?_)) (fun q => ite_i (fun p => ?_) (fun p => try1 ?_)) <;> rw [show (1 : Int32) = jz true from rfl, jz_eq] at q p
    · rw [q, p]
    · exact next (by rw [if_neg (fun e => p (by rw [← e, q]))] at hr; exact hr) M hS hL hf
    · exact next (by rw [if_neg (fun e => q (by rw [e, p]))] at hr; exact hr) M hS hL hf
    · cases hb : own.testBit k <;> cases z <;> simp_all
theorem c_mpointLoop {x2 : Int32} {M0 : jM} {post : Int32 → jM → Prop} {R : Int32} (ho : own < 256) (h : ∀ M', Df M0 M' → post R M') : ∀ (r k : Nat) (M : jM), k + r = 8 → prR V L own z r k = R → DM M V j → DL M L → Df M0 M → kX8_point_63 G (d + 5) (nI j) x2 (jz z) (nI own) (nI k) M post := by
  intro r
  induction r with
  | zero =>
    intro k M hk hr hS hL hf
    obtain rfl : k = 8 := by omega
    rw [prR] at hr
    refine bX8_point_63 (ite_ti (by decide) ?_)
    rw [hr]; exact h M hf
  | succ r ih =>
    intro k M hk hr hS hL hf
    obtain ⟨x1', x2'⟩ := xor_ok own ho k (by omega)
    rw [prR] at hr
    refine bX8_point_63 (ite_fi (by rw [show (8 : Int32) = nI 8 from rfl, nI_leI (by omega) (by omega)]; omega) ?_)
    rw [bit_ok own ho k (by omega), x1', nI_1]
    refine ite_i (fun q => ?_) (fun q => ?_) <;> rw [jz_eq] at q
    · rw [if_pos q] at hr
      refine c_isForIt hS hL x2' (fun M1 _ _ s3 => ?_)
      refine ite_i (fun p => ?_) (fun p => ?_) <;> rw [jz_ff] at p
      · rw [if_neg (by rw [p]; decide)] at hr
        exact ih (k + 1) M1 (by omega) hr (hS.df s3) (hL.df s3) (hf.trans s3)
      · rw [if_pos (by simpa using p)] at hr
        rw [hr]; exact h M1 (hf.trans s3)
    · rw [if_neg q] at hr
      exact ih (k + 1) M (by omega) hr hS hL hf
end PT
section C8
variable {G : jGT} {d : Nat} {M : jM} {P : Int32 → Int32 → jM → Prop}
theorem call_point (hR : Rel M) (x y z : Int32) (k : ∀ r M', Rel M' → P r r M') : CI G (d + 50) mX7_point [.ref 0, .int x, .int y, .int z] M (fun r1 M1 => CI G (d + 50) mX8_point [.ref 117, .int x, .int y, .int z] M1 (P r1)) := by
  obtain ⟨nS, nJ, nE, nQ, nT, nD, nC, nL, hS, hJ, hE, hQ, hT, hB, hD, hL⟩ := id hR.1
  have s8 := hS.2.2.1
  have j4 := hJ.2.2.1
  have t3 := hE.2.2.1
  refine eX7_point (bX7_point_0 ?_)
  rcases jix x (n := nJ) (by omega) with hx | ⟨j, hj, rfl⟩
  · exact t_hasJudge_n hJ.1 j4 hx (ite_ti rfl (eX8_point (bX8_point_0 (t_isJudge_n hJ.2.1 (by omega) hx (ite_ti rfl (k _ M hR))))))
  refine t_hasJudge_y hJ.1 j4 hj (ite_fi (by decide) ?_)
  rcases jix y (n := nS) (by omega) with hy | ⟨t, ht, rfl⟩
  · exact t_hasSuit_n hS.1 s8 hy (ite_ti rfl (eX8_point (bX8_point_0 (t_isJudge_y hJ.2.1 (by omega) hj (ite_fi (by decide) (t_isSuit_n hS.2.1 s8 hy (ite_ti rfl (k _ M hR))))))))
  refine t_hasSuit_y hS.1 s8 ht (ite_fi (by decide) ?_)
  have no : z < 0 ∨ 1 < z → CI G (d + 50) mX8_point [.ref 117, .int (nI j), .int (nI t), .int z] M (P (-1)) := fun hy => eX8_point (bX8_point_0 (t_isJudge_y (n := nJ) hJ.2.1 (by omega) hj (ite_fi (by decide) (t_isSuit_y hS.2.1 s8 ht (ite_fi (by decide) (t_in_n hy (ite_ti rfl (k _ M hR))))))))
  refine ite_i (fun q => no (Or.inl q)) (fun q => ite_i (fun p => ?_) (fun p => no (Or.inr (by rw [Int32.lt_iff_toInt_lt]; rw [Int32.le_iff_toInt_le] at p; omega))))
  have p' : ¬ 1 < z := by rw [Int32.lt_iff_toInt_lt]; rw [Int32.le_iff_toInt_le] at p; omega
  obtain ⟨zb, rfl⟩ : ∃ zb : Bool, z = jz zb := by
    rcases jix z (n := 2) (by omega) with hz | ⟨w, hw, rfl⟩
    · rcases hz with hz | hz
      · exact absurd hz q
      · exfalso
        rw [Int32.le_iff_toInt_le] at hz p
        rw [show (nI 2).toInt = 2 from by decide] at hz
        rw [show (1 : Int32).toInt = 1 from by decide] at p
        omega
    · rcases (show w = 0 ∨ w = 1 by omega) with rfl | rfl
      · exact ⟨false, rfl⟩
      · exact ⟨true, rfl⟩
  obtain ⟨kd, v, dy, row, hJD⟩ := JD_of hJ hD hj
  obtain ⟨L, hBL⟩ := BL_of hS hE
  obtain ⟨a, hLC⟩ := LC_of hL
  have hlen : L.length ≤ 24 := by have := hBL.2.2.1; omega
  obtain ⟨own, w, p1, -, p3, p4, -⟩ := hS.2.2.2 t ht
  have p3 : M 2 t = nI own := p3
  refine c_openFor hJD hBL hLC (fun M1 o1 o2 o3 => ?_)
  refine t_pointsOf (by rw [o3 1 (by omega)]; exact hS.1) s8 ht ?_
  rw [o3 2 (by omega), p3]
  refine c_wins (d := d + 46) p1 o1 o2 (fun M2 _ w2 => ?_)
  -- the model, from any such state
  have model : ∀ M3 : jM, (∀ b, b < 21 ∨ 33 < b → M3 b = M b) → ∀ R, (if vD (venv kd v dy row a) own L = true then 8 else prR (venv kd v dy row a) L own zb 8 0) = R → CI G (d + 50) mX8_point [.ref 117, .int (nI j), .int (nI t), .int (jz zb)] M3 (P R) := by
    intro M3 fr R hRR
    have e118 : M3 118 = M 118 := fr 118 (by omega)
    refine eX8_point (bX8_point_0 (t_isJudge_y (n := nJ) (by rw [e118]; exact hJ.2.1) (by omega) hj (ite_fi (by decide) (t_isSuit_y (by rw [e118]; exact hS.2.1) s8 ht (ite_fi (by decide) (t_in_y q p' (ite_fi (by decide) ?_)))))))
    refine c_mlooks (a := a) (by rw [e118]; exact hLC.1) (by rw [e118]; exact hJD.m) (fun M4 q1 q2 => ?_)
    have e4 : M4 118 = M 118 := (q2.1 118 (by omega) (by omega) (by omega) (by omega) (by omega)).trans e118
    refine c_opens (n := nE) (L := L) (by rw [e4]; exact hBL.m) (fun M5 s1 s2 s3 => ?_)
    have e5 : M5 118 = M 118 := (s2 118 (by omega) (by omega) (by omega)).trans e4
    have p4 : M 118 (10 + t) = nI own := p4
    rw [e5, show (10 : Int32) = nI 10 from rfl, nI_add, nI_clamp (by omega), p4]
    have dm : DM M5 (venv kd v dy row a) j := q1.congr (s2 122 (by omega) (by omega) (by omega)) (s2 123 (by omega) (by omega) (by omega)) (s2 118 (by omega) (by omega) (by omega)) (s3 15 (by omega))
    refine ⟨vp_in_nI (by omega) (by omega), c_isForIt (d := d + 44) dm s1 p1 (fun M6 _ _ s6 => ?_)⟩
    have done : ∀ M7, Df M5 M7 → P R R M7 := by
      intro M7 s7
      refine k _ M7 (hR.keep ?_)
      have f : ∀ b, b ≠ 117 → (b < 21 ∨ 125 < b ∨ b = 115 ∨ b = 116 ∨ b = 118 ∨ b = 119) → M7 b = M b := fun b h1 h2 => (s7.1 b h1).trans ((s2 b h1 (by omega) (by omega)).trans ((q2.1 b h1 (by omega) (by omega) (by omega) (by omega)).trans (fr b (by omega))))
      have g : ∀ i, i ≠ 11 → i ≠ 12 → i ≠ 15 → i ≠ 18 → i ≠ 19 → i ≠ 20 → M7 117 i = M 117 i := fun i h1 h2 h3 h4 h5 h6 => by rw [s7.2 i h5 h6, s3 i h4, q2.2 i h1 h2 h3, fr 117 (by omega)]
      exact ⟨fun b hb => f b (by omega) (by omega), f 115 (by omega) (by omega), f 116 (by omega) (by omega), f 118 (by omega) (by omega), f 119 (by omega) (by omega), g 3 (by omega) (by omega) (by omega) (by omega) (by omega) (by omega), g 27 (by omega) (by omega) (by omega) (by omega) (by omega) (by omega), f 129 (by omega) (by omega)⟩
    refine ite_i (fun c => ?_) (fun c => ?_) <;> rw [jz_ff] at c
    · rw [if_neg (by rw [c]; decide)] at hRR
      exact c_mpointLoop (d := d + 44) (M0 := M5) (V := venv kd v dy row a) (L := L) p1 done 8 0 M6 rfl hRR (dm.df s6) (s1.df s6) s6
    · rw [if_pos (by simpa using c)] at hRR
      rw [hRR]; exact done M6 s6
  have fr2 : ∀ b, b < 21 ∨ 33 < b → M2 b = M b := fun b hb => (w2 b (by omega)).trans (o3 b (by omega))
  refine ite_i (fun c => ?_) (fun c => ?_) <;> rw [jz_ff] at c
  · refine c_pointLoop (d := d + 46) (M0 := M2) (V := venv kd v dy row a) (L := L) (R := prR (venv kd v dy row a) L own zb 8 0) p1 (fun M3 f3 => model M3 (fun b hb => (f3 b (by omega)).trans (fr2 b hb)) _ (by rw [if_neg (by rw [c]; decide)])) 8 0 M2 rfl rfl (o1.congr (fun k hk => by rw [w2 27 (by omega)]) (fun b h1 h2 => w2 b (by omega))) (o2.congr (by rw [w2 27 (by omega)]) (w2 31 (by omega)) (w2 32 (by omega))) (fun _ _ => rfl)
  · exact model M2 fr2 _ (if_pos (by simpa using c))
end C8
