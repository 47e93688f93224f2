/-- a judge's world under a law -/
def venv (kd v dy : Nat) (row : Nat → Nat) (a : jA4) : jEv := (kd, v, row, fun k => wS (a.2.1 kd v dy) 8 k, fun k => wS (a.2.2.1 kd v dy) 8 k, nI (a.2.2.2 + if kd = 5 then v else 0))
/-- the book, on both sides -/
def BL (M : jM) (nS n : Nat) (L : List (Nat × Nat)) : Prop := M 1 1 = nI nS ∧ nS ≤ 8 ∧ L.length = n ∧ n ≤ 24 ∧ M 1 8 = nI n ∧ M 118 3 = nI n ∧ ∀ k, k < n → ∃ t, t < nS ∧ (lk L k).1 < 256 ∧ (lk L k).2 < 2 ∧ M 7 k = nI (2 * t + (lk L k).2) ∧ M 2 t = nI (lk L k).1 ∧ M 118 (50 + k) = nI t ∧ M 118 (74 + k) = nI (lk L k).2 ∧ M 118 (10 + t) = nI (lk L k).1
theorem BL.congr {M M' : jM} {nS n : Nat} {L : List (Nat × Nat)} (h : BL M nS n L) (e1 : M' 1 = M 1) (e2 : M' 2 = M 2) (e3 : M' 7 = M 7) (e4 : M' 118 = M 118) : BL M' nS n L := by
  unfold BL at *
  rw [e1, e2, e3, e4]
  exact h
theorem BL_of {M : jM} {nS n : Nat} (hS : RS nS (M 1) (fun i => M (2 + i)) (M 118)) (hE : REn nS n (M 1) (fun i => M (2 + i)) (M 118)) : ∃ L, BL M nS n L := by
  refine ⟨(List.range n).map fun k => ((M 118 (10 + (M 118 (50 + k)).toNatClampNeg)).toNatClampNeg, (M 118 (74 + k)).toNatClampNeg), hS.1, hS.2.2.1, by simp, hE.2.2.1, hE.1, hE.2.1, fun k hk => ?_⟩
  obtain ⟨t, f, g1, g2, g3, g4, g5⟩ := hE.2.2.2 k hk
  obtain ⟨p, w, k1, k2, k3, k4, -⟩ := hS.2.2.2 t g1
  have h8 := hS.2.2.1
  have e : lk ((List.range n).map fun k => ((M 118 (10 + (M 118 (50 + k)).toNatClampNeg)).toNatClampNeg, (M 118 (74 + k)).toNatClampNeg)) k = (p, f) := by
    unfold lk
    rw [List.getD_eq_getElem?_getD, List.getElem?_map, List.getElem?_range hk]
    simp only [Option.map_some, Option.getD_some]
    rw [g4, g5, nI_clamp (by omega), nI_clamp (by omega), k4, nI_clamp (by omega)]
  rw [e]
  exact ⟨t, g1, k1, g2, g3, k3, g4, g5, k4⟩
/-- the model's half of it -/
def BLm (s : Nat → Int32) (n : Nat) (L : List (Nat × Nat)) : Prop := L.length = n ∧ n ≤ 24 ∧ s 3 = nI n ∧ ∀ k, k < n → ∃ t, t < 8 ∧ (lk L k).1 < 256 ∧ (lk L k).2 < 2 ∧ s (50 + k) = nI t ∧ s (74 + k) = nI (lk L k).2 ∧ s (10 + t) = nI (lk L k).1
theorem BL.m {M : jM} {nS n : Nat} {L : List (Nat × Nat)} (h : BL M nS n L) : BLm (M 118) n L := by
  obtain ⟨b1, b2, b3, b4, b5, b6, b7⟩ := h
  refine ⟨b3, b4, b6, fun k hk => ?_⟩
  obtain ⟨t, g1, g2, g3, g4, g5, g6, g7, g8⟩ := b7 k hk
  exact ⟨t, by omega, g2, g3, g6, g7, g8⟩
theorem lk_take {L : List (Nat × Nat)} {k i : Nat} (h : i < k) : lk (L.take k) i = lk L i := by
  unfold lk
  rw [List.getD_eq_getElem?_getD, List.getD_eq_getElem?_getD, List.getElem?_take, if_pos h]
theorem take_lk {L : List (Nat × Nat)} {k : Nat} (h : k < L.length) : L.take (k + 1) = L.take k ++ [lk L k] := by
  rw [List.take_succ]
  congr 1
  unfold lk
  rw [List.getD_eq_getElem?_getD, List.getElem?_eq_getElem h]
  rfl
theorem entry_ok : ∀ t, t < 8 → ∀ f, f < 2 → nI (2 * t + f) >>> ((1 : Int32) &&& 31) = nI t ∧ nI (2 * t + f) &&& 1 = nI f := by decide +kernel
/-- a judge, as the model holds it, with the row -/
def JDm (s : Nat → Int32) (j kd v dy : Nat) (row : Nat → Nat) : Prop := MJ s j kd v dy ∧ ∀ x, x < 4 → row x ≤ 2 ∧ s (34 + 4 * j + x) = nI (row x)
/-- a judge, on both sides -/
def JD (M : jM) (j kd v dy : Nat) (row : Nat → Nat) : Prop := MJ (M 118) j kd v dy ∧ M 4 j = nI kd ∧ M 5 j = nI v ∧ M 1 0 = nI dy ∧ (∃ nJ, M 1 4 = nI nJ ∧ nJ ≤ 4 ∧ j < nJ) ∧ ∀ x, x < 4 → M 6 (4 * j + x) = nI (row x) ∧ row x ≤ 2 ∧ M 118 (34 + 4 * j + x) = nI (row x)
theorem JD.m {M : jM} {j kd v dy : Nat} {row : Nat → Nat} (h : JD M j kd v dy row) : JDm (M 118) j kd v dy row := ⟨h.1, fun x hx => (h.2.2.2.2.2 x hx).2⟩
theorem JD.congr {M M' : jM} {j kd v dy : Nat} {row : Nat → Nat} (h : JD M j kd v dy row) (e1 : M' 1 = M 1) (e2 : M' 4 = M 4) (e3 : M' 5 = M 5) (e5 : M' 6 = M 6) (e4 : M' 118 = M 118) : JD M' j kd v dy row := by
  unfold JD at *
  rw [e1, e2, e3, e4, e5]
  exact h
section OP
variable {G : jGT} {d : Nat} {M : jM} {L : List (Nat × Nat)} {j nS n kd v dy : Nat} {row : Nat → Nat} {a : jA4} {post : jM → Prop}
theorem c_opensLoop (h : ∀ M', DL M' L → (∀ b, b ≠ 117 → b ≠ 124 → b ≠ 125 → M' b = M b) → (∀ i, i ≠ 18 → M' 117 i = M 117 i) → post M') :
    ∀ (r k : Nat) (M1 : jM), k + r = n → BLm (M1 118) n L → DL M1 (L.take k) → (∀ b, b ≠ 117 → b ≠ 124 → b ≠ 125 → M1 b = M b) → (∀ i, i ≠ 18 → M1 117 i = M 117 i) → kX8_opens_7 G d (nI k) M1 post := by
  intro r
  induction r with
  | zero =>
    intro k M1 hk hB hD f1 f2
    have hl := hB.1
    obtain rfl : k = L.length := by omega
    rw [List.take_length] at hD
    refine bX8_opens_7 (ite_ti ?_ (h M1 hD f1 f2))
    rw [hB.2.2.1, hl, ← hk]; exact Int32.le_refl _
  | succ r ih =>
    intro k M1 hk hB hD f1 f2
    have hB' := hB
    obtain ⟨b3, b4, b6, b7⟩ := hB'
    obtain ⟨t, g1, g2, g3, g6, g7, g8⟩ := b7 k (by omega)
    have hlen : (L.take k).length = k := by rw [List.length_take]; omega
    refine bX8_opens_7 (ite_fi (by rw [b6, nI_leI (by omega) (by omega)]; omega) ?_)
    rw [show (50 : Int32) = nI 50 from rfl, show (10 : Int32) = nI 10 from rfl, show (74 : Int32) = nI 74 from rfl, nI_add, nI_add, nI_clamp (by omega), nI_clamp (by omega), g6, g7, nI_add, nI_clamp (by omega), g8, nI_1]
    refine ⟨vp_in_nI (by omega) (by omega), vp_in_nI (by omega) (by omega), vp_in_nI (by omega) (by omega), ?_⟩
    have go : ∀ f, (lk L k).2 = f → f < 2 → CV G d mX8_writes [.ref 117, .int (nI (lk L k).1), .int (nI f)] M1 (fun M2 => kX8_opens_7 G d (nI (k + 1)) M2 post) := by
      intro f e hf
      refine c_writes hD (by omega) g2 hf (fun M2 w1 w2 w3 => ?_)
      refine ih (k + 1) M2 (by omega) (by rw [w2 118 (by omega) (by omega) (by omega)]; exact hB) ?_ (fun b q1 q2 q3 => (w2 b q1 q2 q3).trans (f1 b q1 q2 q3)) (fun i q => (w3 i q).trans (f2 i q))
      rw [take_lk (by omega), show lk L k = ((lk L k).1, f) by rw [← e]]
      exact w1
    refine ite_i (fun q => ?_) (fun q => ?_)
    · rw [show (1 : Int32) = nI 1 from rfl, nI_eq (by omega) (by omega)] at q
      exact go 1 q (by omega)
    · rw [show (1 : Int32) = nI 1 from rfl, nI_eq (by omega) (by omega)] at q
      exact go 0 (by omega) (by omega)
theorem c_opens (hB : BLm (M 118) n L) (h : ∀ M', DL M' L → (∀ b, b ≠ 117 → b ≠ 124 → b ≠ 125 → M' b = M b) → (∀ i, i ≠ 18 → M' 117 i = M 117 i) → post M') : CV G (d + 1) mX8_opens [.ref 117] M post := by
  refine eX8_opens (bX8_opens_0 (c_opensLoop (M := M) (n := n) h n 0 _ (by omega) (by (simp (disch := omega) only [jup_ss, jup_sn, jup_n, jup_ne]); exact hB) ⟨by (simp (disch := omega) only [jup_ss, jup_sn, jup_n, jup_ne]); rfl, by simp, fun k hk => by simp at hk, fun k hk => by simp at hk⟩ (fun b h1 h2 h3 => by (simp (disch := omega) only [jup_ne])) (fun i hi => by (simp (disch := omega) only [jup_ss, jup_sn, jup_n, jup_ne]))))
theorem c_open109 (h : ∀ M', SLi M' L → (∀ b, b ≠ 27 → b ≠ 31 → b ≠ 32 → M' b = M b) → (∀ i, i ≠ 6 → M' 27 i = M 27 i) → post M') {x3 : Int32} :
    ∀ (r k : Nat) (M1 : jM), k + r = n → BL M1 nS n L → SLi M1 (L.take k) → (∀ b, b ≠ 27 → b ≠ 31 → b ≠ 32 → M1 b = M b) → (∀ i, i ≠ 6 → M1 27 i = M 27 i) → kX5_open_109 G (d + 1) x3 (nI k) M1 post := by
  intro r
  induction r with
  | zero =>
    intro k M1 hk hB hD f1 f2
    have hl := hB.2.2.1
    obtain rfl : k = L.length := by omega
    rw [List.take_length] at hD
    refine bX5_open_109 (ite_ti ?_ (h M1 hD f1 f2))
    rw [hB.2.2.2.2.1, hl, ← hk]; exact Int32.le_refl _
  | succ r ih =>
    intro k M1 hk hB hD f1 f2
    have hB' := hB
    obtain ⟨b1, b2, b3, b4, b5, b6, b7⟩ := hB'
    obtain ⟨t, g1, g2, g3, g4, g5, g6, g7, g8⟩ := b7 k (by omega)
    have hlen : (L.take k).length = k := by rw [List.length_take]; omega
    obtain ⟨e1, e2⟩ := entry_ok t (by omega) (lk L k).2 g3
    refine bX5_open_109 (ite_fi (by rw [b5, nI_leI (by omega) (by omega)]; omega) (ite_fi (by rw [show (24 : Int32) = nI 24 from rfl, nI_leI (by omega) (by omega)]; omega) ?_))
    rw [nI_clamp (by omega), g4, e1]
    refine ⟨vp_in_nI (by omega) (by omega), t_pointsOf b1 b2 g1 ⟨vp_in_nI (by omega) (by omega), ?_⟩⟩
    rw [g4, e2, g5, nI_1]
    have go : ∀ f, (lk L k).2 = f → f < 2 → CV G (d + 1) mX5_push [.ref 27, .int (nI (lk L k).1), .int (nI f)] M1 (fun M2 => kX5_open_109 G (d + 1) x3 (nI (k + 1)) M2 post) := by
      intro f e hf
      refine c_push hD (by omega) g2 hf (fun M2 w1 w2 w3 => ?_)
      refine ih (k + 1) M2 (by omega) (hB.congr (w2 1 (by omega) (by omega) (by omega)) (w2 2 (by omega) (by omega) (by omega)) (w2 7 (by omega) (by omega) (by omega)) (w2 118 (by omega) (by omega) (by omega))) ?_ (fun b q1 q2 q3 => (w2 b q1 q2 q3).trans (f1 b q1 q2 q3)) (fun i q => (w3 i q).trans (f2 i q))
      rw [take_lk (by omega), show lk L k = ((lk L k).1, f) by rw [← e]]
      exact w1
    refine ite_i (fun q => ?_) (fun q => ?_)
    · rw [show (1 : Int32) = nI 1 from rfl, nI_eq (by omega) (by omega)] at q
      exact go 1 q (by omega)
    · rw [show (1 : Int32) = nI 1 from rfl, nI_eq (by omega) (by omega)] at q
      exact go 0 (by omega) (by omega)
/-- the class's sitting is opened, from the weights, clashes and bar learnt -/
theorem c_open (hJ : JD M j kd v dy row) (hB : BL M nS n L) (hw : ∀ p, p < 8 → M 22 p = a.2.1 kd v dy p ∧ M 23 p = a.2.2.1 kd v dy p) (hb : M 21 2 = nI a.2.2.2)
    (h : ∀ M', SE M' (venv kd v dy row a) → SLi M' L → (∀ b, b < 27 ∨ 32 < b → M' b = M b) → post M') : CV G (d + 2) mX5_open [.ref 27, .ref 1, .ref 21, .int (nI j)] M post := by
  obtain ⟨⟨j0, j1, j2, j3, j4, j5, j6⟩, k1, k2, k3, ⟨nJ, k4, k5, k6⟩, k7⟩ := hJ
  refine eX5_open (bX5_open_0 (t_kindOf k4 k5 k6 ?_))
  refine t_numberOf (by (simp (disch := omega) only [jup_ss, jup_sn, jup_n, jup_ne]); exact k4) k5 k6 ?_
  have r4 : ∀ (r x : Nat) (M1 : jM), x + r = 4 → (∀ y, y < x → M1 28 y = nI (row y)) → (∀ b, b ≠ 27 → b ≠ 28 → M1 b = M b) → M1 27 0 = nI kd → M1 27 1 = nI v → kX5_open_21 G (d + 1) (nI j) (nI x) M1 post := by
    intro r
    induction r with
    | zero =>
      intro x M1 hx hr hf h0 h1
      obtain rfl : x = 4 := by omega
      refine bX5_open_21 (ite_ti (by decide) ?_)
      refine c_addUpW (f := a.2.1 kd v dy) (fun k hk => by rw [hf 22 (by omega) (by omega)]; exact (hw k hk).1) (fun M2 a1 a2 => ?_)
      refine c_addUpC (f := a.2.2.1 kd v dy) (fun k hk => by rw [a2 23 (by omega), hf 23 (by omega) (by omega)]; exact (hw k hk).2) (fun M3 a3 a4 => ?_)
      rw [a4 21 (by omega), a2 21 (by omega), hf 21 (by omega) (by omega), hb]
      have e0 : M3 27 0 = nI kd := by rw [a4 27 (by omega), a2 27 (by omega)]; exact h0
      have e1 : M3 27 1 = nI v := by rw [a4 27 (by omega), a2 27 (by omega)]; exact h1
      have e2 : ∀ y, y < 4 → M3 28 y = nI (row y) := fun y hy => by rw [a4 28 (by omega), a2 28 (by omega)]; exact hr y hy
      have e3 : ∀ y, y < 256 → M3 29 y = wS (a.2.1 kd v dy) 8 y := fun y hy => by rw [a4 29 (by omega)]; exact a1 y hy
      have fr : ∀ b, b < 27 ∨ 32 < b → M3 b = M b := fun b hb => by rw [a4 b (by omega), a2 b (by omega), hf b (by omega) (by omega)]
      have fin : ∀ M4 : jM, M4 27 2 = nI (a.2.2.2 + if kd = 5 then v else 0) → (∀ b, b ≠ 27 → M4 b = M3 b) → (∀ i, i ≠ 2 → M4 27 i = M3 27 i) → kX5_open_109 G (d + 1) (nI j) 0 (jup M4 27 6 0) post := by
        intro M4 q1 q2 q3
        refine c_open109 (M := jup M4 27 6 0) (n := n) (nS := nS) (L := L) (fun M5 s1 s2 s3 => ?_) n 0 _ (by omega) (hB.congr (by (simp (disch := omega) only [jup_ne]); exact (q2 1 (by omega)).trans (fr 1 (by omega))) (by (simp (disch := omega) only [jup_ne]); exact (q2 2 (by omega)).trans (fr 2 (by omega))) (by (simp (disch := omega) only [jup_ne]); exact (q2 7 (by omega)).trans (fr 7 (by omega))) (by (simp (disch := omega) only [jup_ne]); exact (q2 118 (by omega)).trans (fr 118 (by omega)))) ⟨by (simp (disch := omega) only [jup_ss, jup_sn, jup_n, jup_ne]); rfl, by simp, fun k hk => by simp at hk, fun k hk => by simp at hk⟩ (fun _ _ _ _ => rfl) (fun _ _ => rfl)
        refine h M5 ⟨?_, ?_, ?_, fun k hk => ?_, fun k hk => ?_, j4, j5⟩ s1 (fun b hb => ?_)
        · rw [s3 0 (by omega)]; (simp (disch := omega) only [jup_ss, jup_sn, jup_n, jup_ne]); rw [q3 0 (by omega)]; exact e0
        · rw [s3 1 (by omega)]; (simp (disch := omega) only [jup_ss, jup_sn, jup_n, jup_ne]); rw [q3 1 (by omega)]; exact e1
        · rw [s3 2 (by omega)]; (simp (disch := omega) only [jup_ss, jup_sn, jup_n, jup_ne]); exact q1
        · refine ⟨?_, (k7 k hk).2.1⟩
          rw [s2 28 (by omega) (by omega) (by omega)]; (simp (disch := omega) only [jup_ne]); rw [q2 28 (by omega)]; exact e2 k hk
        · rw [s2 29 (by omega) (by omega) (by omega), s2 30 (by omega) (by omega) (by omega)]; (simp (disch := omega) only [jup_ne]); rw [q2 29 (by omega), q2 30 (by omega)]; exact ⟨e3 k hk, a3 k hk⟩
        · rw [s2 b (by omega) (by omega) (by omega)]
          simp (disch := omega) only [jup_ne]
          rw [q2 b (by omega)]; exact fr b hb
      refine eX5_setBar (bX5_setBar_0 ?_)
      rw [e0, e1, nI_add]
      refine ite_i (fun q => ?_) (fun q => ?_)
      · rw [show (5 : Int32) = nI 5 from rfl, nI_eq (by omega) (by omega)] at q
        exact fin _ (by (simp (disch := omega) only [jup_ss, jup_sn, jup_n, jup_ne]); rw [if_pos q]) (fun b hb => by (simp (disch := omega) only [jup_ne])) (fun i hi => by (simp (disch := omega) only [jup_ss, jup_sn, jup_n, jup_ne]))
      · rw [show (5 : Int32) = nI 5 from rfl, nI_eq (by omega) (by omega)] at q
        exact fin _ (by (simp (disch := omega) only [jup_ss, jup_sn, jup_n, jup_ne]); rw [if_neg q]; rfl) (fun b hb => by (simp (disch := omega) only [jup_ne])) (fun i hi => by (simp (disch := omega) only [jup_ss, jup_sn, jup_n, jup_ne]))
    | succ r ih =>
      intro x M1 hx hr hf h0 h1
      refine bX5_open_21 (ite_fi (by rw [show (4 : Int32) = nI 4 from rfl, nI_leI (by omega) (by omega)]; omega) ?_)
      rw [show (4 : Int32) = nI 4 from rfl, pk_mul, nI_add, nI_clamp (by omega), nI_clamp (by omega), nI_1]
      refine ite_fi (nI_pos (by omega)) (ite_fi (by rw [show (16 : Int32) = nI 16 from rfl, nI_leI (by omega) (by omega)]; omega) ⟨vp_in_nI (by omega) (by omega), vp_in_nI (by omega) (by omega), ?_⟩)
      rw [hf 6 (by omega) (by omega), show j * 4 + x = 4 * j + x by omega, (k7 x (by omega)).1]
      refine ih (x + 1) _ (by omega) (fun y hy => ?_) (fun b q1 q2 => by (simp (disch := omega) only [jup_ne]); exact hf b q1 q2) (by (simp (disch := omega) only [jup_ss, jup_sn, jup_n, jup_ne]); exact h0) (by (simp (disch := omega) only [jup_ss, jup_sn, jup_n, jup_ne]); exact h1)
      by_cases e : y = x
      · subst e; (simp (disch := omega) only [jup_ss, jup_sn, jup_n, jup_ne])
      · simp (disch := omega) only [jup_sn]; exact hr y (by omega)
  exact r4 4 0 _ (by omega) (fun y hy => by omega) (fun b q1 q2 => by (simp (disch := omega) only [jup_ne])) (by (simp (disch := omega) only [jup_ss, jup_sn, jup_n, jup_ne]); exact k1) (by (simp (disch := omega) only [jup_ss, jup_sn, jup_n, jup_ne]); exact k2)
/-- the model's: it looks, then opens -/
theorem c_mopen {P : jM → Prop} (hL : LW (M 118) a) (hJ : JDm (M 118) j kd v dy row) (hB : BLm (M 118) n L) (h : ∀ M', DM M' (venv kd v dy row a) j → DL M' L → (∀ b, b ≠ 117 → (b < 120 ∨ 125 < b) → M' b = M b) → (∀ i, i ≠ 11 → i ≠ 12 → i ≠ 15 → i ≠ 18 → M' 117 i = M 117 i) → P M') : CV G (d + 1) mX8_looksFor [.ref 117, .int (nI j)] M (fun M1 => CV G (d + 1) mX8_opens [.ref 117] M1 P) := by
  obtain ⟨hj, k7⟩ := hJ
  refine c_looksFor hL hj (fun M1 t1 t2 t3 => ?_)
  refine c_opens (n := n) (L := L) (by rw [t3.1 118 (by omega) (by omega) (by omega) (by omega) (by omega)]; exact hB) (fun M2 o1 o2 o3 => ?_)
  have e118 : M2 118 = M 118 := (o2 118 (by omega) (by omega) (by omega)).trans (t3.1 118 (by omega) (by omega) (by omega) (by omega) (by omega))
  obtain ⟨j0, j1, j2, j3, j4, j5, j6⟩ := hj
  refine h M2 ⟨fun k hk => ?_, ?_, j0, by rw [e118]; exact j1, by rw [e118]; exact j2, fun x hx => ⟨by rw [e118]; exact (k7 x hx).2, (k7 x hx).1⟩, j4, j5⟩ o1 (fun b h1 h2 => (o2 b h1 (by omega) (by omega)).trans (t3.1 b h1 (by omega) (by omega) (by omega) (by omega))) (fun i h1 h2 h3 h4 => (o3 i h4).trans (t3.2 i h1 h2 h3))
  · rw [o2 122 (by omega) (by omega) (by omega), o2 123 (by omega) (by omega) (by omega)]; exact t1 k hk
  · rw [o3 15 (by omega)]; exact t2
end OP
