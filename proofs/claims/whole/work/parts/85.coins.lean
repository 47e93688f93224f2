/-- what one outcome adds to the chance of the i-th of the queue -/
def hG (f : List (Nat × Nat) → Nat → Nat → Nat) (q k : Nat) (L : List (Nat × Nat)) (b : Bool) (l i : Nat) : Nat := (if b = true ∧ i = k then l else 0) + f (L ++ [(q, b.toNat)]) l i
def fG (V : jEv) (Q : Nat → Nat) : Nat → Nat → List (Nat × Nat) → Nat → Nat → Nat
  | 0, _, _, _, _ => 0
  | r + 1, k, L, l, i => if vopen V (Q k) (tlN V (Q k) L L.length) = true then hG (fG V Q r (k + 1)) (Q k) k L true (l / 2) i + hG (fG V Q r (k + 1)) (Q k) k L false (l / 2) i else hG (fG V Q r (k + 1)) (Q k) k L (vD V (Q k) L) l i
theorem fG_lo {V : jEv} {Q : Nat → Nat} : ∀ (r k : Nat) (L : List (Nat × Nat)) (l i : Nat), i < k → fG V Q r k L l i = 0 := by
  intro r
  induction r with
  | zero => intro k L l i _; rfl
  | succ r ih =>
    intro k L l i h
    rw [fG]
    have e : ∀ b l, hG (fG V Q r (k + 1)) (Q k) k L b l i = 0 := fun b l => by
      unfold hG
      rw [ih (k + 1) _ l i (by omega), if_neg (by omega)]
    split
    · rw [e, e]
    · rw [e]
theorem fG_le {V : jEv} {Q : Nat → Nat} : ∀ (r k : Nat) (L : List (Nat × Nat)) (l i : Nat), fG V Q r k L l i ≤ l := by
  intro r
  induction r with
  | zero => intro k L l i; exact Nat.zero_le _
  | succ r ih =>
    intro k L l i
    rw [fG]
    have e : ∀ b l, hG (fG V Q r (k + 1)) (Q k) k L b l i ≤ l := fun b l => by
      unfold hG
      by_cases q : b = true ∧ i = k
      · rw [if_pos q, fG_lo r (k + 1) _ l i (by omega)]; omega
      · rw [if_neg q]; have := ih (k + 1) (L ++ [(Q k, b.toNat)]) l i; omega
    split
    · have := e true (l / 2); have := e false (l / 2); omega
    · exact e _ l
def cTl (M : jM) (V : jEv) (Q : Nat → Nat) (L0 : List (Nat × Nat)) (n : Nat) : Prop := ∀ k, k < n → TLy M (107 + k) (Q k) L0.length (tlN V (Q k) L0 L0.length)
def cInv (M : jM) (V : jEv) (Q : Nat → Nat) (n : Nat) (L0 L : List (Nat × Nat)) : Prop := SE M V ∧ SLi M L ∧ cTl M V Q L0 n ∧ Ext L0 L
theorem cInv.congr {M M' : jM} {V : jEv} {Q : Nat → Nat} {n : Nat} {L0 L : List (Nat × Nat)} (h : cInv M V Q n L0 L) (hn : n ≤ 8) (h1 : ∀ b, (27 ≤ b ∧ b < 33) ∨ (107 ≤ b ∧ b < 115) → M' b = M b) : cInv M' V Q n L0 L := by
  obtain ⟨a, b, c, e⟩ := h
  exact ⟨a.congr (fun k hk => by rw [h1 27 (by omega)]) (fun b h2 h3 => h1 b (by omega)), b.congr (by rw [h1 27 (by omega)]) (h1 31 (by omega)) (h1 32 (by omega)), fun i hi => (c i hi).congr (h1 _ (by omega)), e⟩
theorem half_ok : ∀ l : Nat, l < 257 → nI l / 2 = nI (l / 2) := by decide +kernel
section CN
variable {G : jGT} {V : jEv} {L0 : List (Nat × Nat)} {Q : Nat → Nat} {n : Nat}
theorem c_come (hn : n ≤ 8) (hQ : ∀ k, Q k < 256) : ∀ (r : Nat) (d : Nat) (k l : Nat) (L : List (Nat × Nat)) (c : Nat → Nat) (M : jM) (post : jM → Prop), k + r = n → L.length + r ≤ 80 → l < 257 → cInv M V Q n L0 L → (∀ i, i < n → M 106 i = nI (c i)) →
    (∀ M', cInv M' V Q n L0 L → (∀ i, i < n → M' 106 i = nI (c i + fG V Q r k L l i)) → (∀ b, b < 27 ∨ 28 ≤ b ∧ b < 31 ∨ b = 33 ∨ 34 < b ∧ b ≠ 106 → M' b = M b) → post M') → CV G (d + 2 * r + 4) mX0_come [.ref 104, .int (nI k), .int (nI n), .int (nI l)] M post := by
  intro r
  induction r with
  | zero =>
    intro d k l L c M post hk hl hl2 hI hc h
    exact eX0_come (bX0_come_0 (ite_fi (nI_pos (by omega)) (ite_ti (by rw [nI_leI (by omega) (by omega)]; omega) (h M hI hc (fun _ _ => rfl)))))
  | succ r ih =>
    intro d k l L c M post hk hl hl2 hI hc h
    -- a settling
    have settle : ∀ (b : Bool) (l' : Nat) (c' : Nat → Nat) (M1 : jM) (post1 : jM → Prop), l' < 257 → cInv M1 V Q n L0 L → (∀ i, i < n → M1 106 i = nI (c' i)) → (∀ M', cInv M' V Q n L0 L → (∀ i, i < n → M' 106 i = nI (c' i + hG (fG V Q r (k + 1)) (Q k) k L b l' i)) → (∀ b, b < 27 ∨ 28 ≤ b ∧ b < 31 ∨ b = 33 ∨ 34 < b ∧ b ≠ 106 → M' b = M1 b) → post1 M') → CV G (d + 2 * r + 5) mX0_settle [.ref 104, .int (nI k), .int (nI n), .int (nI l'), .int (jz b)] M1 post1 := by
      intro b l' c' M1 post1 g1 g2 g3 g4
      -- behind the count
      have go : ∀ M2 : jM, cInv M2 V Q n L0 L → (∀ i, i < n → M2 106 i = nI (c' i + if b = true ∧ i = k then l' else 0)) → (∀ b, b < 27 ∨ 28 ≤ b ∧ b < 31 ∨ b = 33 ∨ 34 < b ∧ b ≠ 106 → M2 b = M1 b) → CV G (d + 2 * r + 4) mX5_push [.ref 27, .int (M2 (107 + k) 0), .int (jz b)] M2 (fun M4 => CV G (d + 2 * r + 4) mX0_come [.ref 104, .int (nI k + 1), .int (nI n), .int (nI l')] M4 (fun M5 => CV G (d + 2 * r + 4) mX5_pop [.ref 27] M5 (fun M6 => post1 M6))) := by
        intro M2 i1 i2 i3
        obtain ⟨a1, a2, a3, a4⟩ := id i1
        rw [(a3 k (by omega)).1, ← nI_toNat, nI_1]
        refine c_push a2 (by omega) (hQ k) (by cases b <;> decide) (fun M3 s1 s2 s3 => ?_)
        have I3 : cInv M3 V Q n L0 (L ++ [(Q k, b.toNat)]) := ⟨a1.congr (fun k hk => s3 k (by omega)) (fun b h1 h2 => s2 b (by omega) (by omega) (by omega)), s1, fun i hi => (a3 i hi).congr (s2 _ (by omega) (by omega) (by omega)), a4.app⟩
        refine ih d (k + 1) l' (L ++ [(Q k, b.toNat)]) _ M3 _ (by omega) (by rw [List.length_append, List.length_singleton]; omega) g1 I3 (fun i hi => by rw [s2 106 (by omega) (by omega) (by omega)]; exact i2 i hi) (fun M4 k1 k2 k3 => ?_)
        obtain ⟨e1, e2, e3, e4⟩ := k1
        refine c_pop (d := d + 2 * r + 3) e2 (fun M5 v1 v2 v3 => g4 M5 ⟨e1.congr (fun k hk => v3 k (by omega)) (fun b h1 h2 => v2 b (by omega)), v1, fun i hi => (e3 i hi).congr (v2 _ (by omega)), a4⟩ (fun i hi => ?_) (fun b hb => ?_))
        · rw [v2 106 (by omega), k2 i hi]
          unfold hG
          rw [Nat.add_assoc]
        · rw [v2 b (by omega), k3 b hb, s2 b (by omega) (by omega) (by omega)]; exact i3 b hb
      refine eX0_settle (bX0_settle_0 ?_)
      rw [nI_clamp (by omega)]
      refine ite_i (fun q => ⟨vp_in_nI (by omega) (by omega), go M1 g2 (fun i hi => ?_) (fun _ _ => rfl)⟩) (fun q => ⟨vp_in_nI (by omega) (by omega), vp_in_nI (by omega) (by omega), vp_in_nI (by omega) (by omega), go _ (g2.congr hn fun b hb => by rw [jup_ne (by omega)]) (fun i hi => ?_) (fun b hb => by rw [jup_ne (by omega)])⟩) <;> rw [jz_ff] at q
      · rw [if_neg (by rw [q]; simp), Nat.add_zero]; exact g3 i hi
      · have q' : b = true := by simpa using q
        by_cases e : i = k
        · subst e
          rw [if_pos ⟨q', rfl⟩, jup_ss, g3 i hi, nI_add]
        · rw [if_neg (fun z => e z.2), Nat.add_zero, jup_sn e]; exact g3 i hi
    obtain ⟨j1, j2, j3, j4⟩ := id hI
    rw [show d + 2 * (r + 1) + 4 = d + 2 * r + 5 + 1 by omega]
    refine eX0_come (bX0_come_0 (ite_fi (nI_pos (by omega)) (ite_fi (by rw [nI_leI (by omega) (by omega)]; omega) (ite_ti (by rw [show (8 : Int32) = nI 8 from rfl, nI_ltI (by omega) (by omega)]; omega) ⟨vp_in_nI (by omega) (by omega), ?_⟩))))
    rw [nI_clamp (by omega)]
    refine c_now (d := d + 2 * r + 3) (own := Q k) (seen := L0.length) (by unfold jT; omega) (by omega) (hQ k) j4.1 j1 j2 (by rw [tlN_cong L0.length j4.2]; exact j3 k (by omega)) (fun M1 t1 t2 => ⟨jT_34, ?_⟩)
    have I1 : cInv M1 V Q n L0 L := hI.congr hn fun b hb => t2 b (by omega)
    have c1 : ∀ i, i < n → M1 106 i = nI (c i) := fun i hi => by rw [t2 106 (by omega)]; exact hc i hi
    obtain ⟨-, -, -, -, -, -, hok, -⟩ := tlN_ok (V := V) (own := Q k) (L := L) L.length
    refine c_isOpen (d := d + 2 * r + 3) jT_34 (hQ k) I1.1 t1 (by omega) ?_
    refine ite_i (fun q => ?_) (fun q => ?_) <;> rw [jz_ff] at q
    · have e : ∀ i, fG V Q (r + 1) k L l i = hG (fG V Q r (k + 1)) (Q k) k L (vD V (Q k) L) l i := fun i => by rw [fG, if_neg (by rw [q]; decide)]
      refine c_isFor (d := d + 2 * r + 3) jT_34 (hQ k) (Nat.le_refl _) I1.1 I1.2.1 t1 ?_
      refine settle (vD V (Q k) L) l c M1 _ hl2 I1 c1 (fun M2 g1 g2 g3 => h M2 g1 (fun i hi => by rw [e i]; exact g2 i hi) (fun b hb => (g3 b hb).trans (t2 b (by omega))))
    · have e : ∀ i, fG V Q (r + 1) k L l i = hG (fG V Q r (k + 1)) (Q k) k L true (l / 2) i + hG (fG V Q r (k + 1)) (Q k) k L false (l / 2) i := fun i => by rw [fG, if_pos (by simpa using q)]
      rw [half_ok l hl2]
      refine settle true (l / 2) c M1 _ (by omega) I1 c1 (fun M2 g1 g2 g3 => ?_)
      refine settle false (l / 2) _ M2 _ (by omega) g1 g2 (fun M3 k1 k2 k3 => h M3 k1 (fun i hi => by rw [k2 i hi, e i, Nat.add_assoc]) (fun b hb => (k3 b hb).trans ((g3 b hb).trans (t2 b (by omega)))))
/-- the queue's suits -/
def QW (M : jM) (nS n : Nat) (S Q W : Nat → Nat) : Prop := nS ≤ 8 ∧ n ≤ 8 ∧ M 1 1 = nI nS ∧ M 1 10 = nI n ∧ M 118 4 = nI n ∧ (∀ k, k < n → S k < nS ∧ M 8 k = nI (S k) ∧ M 118 (98 + k) = nI (S k) ∧ M 2 (S k) = nI (Q k) ∧ M 3 (S k) = nI (W k) ∧ M 118 (10 + S k) = nI (Q k) ∧ M 118 (18 + S k) = nI (W k)) ∧ ∀ k, Q k < 256 ∧ W k < 100
theorem QW_of {M : jM} {nS nQ : Nat} (hS : RS nS (M 1) (fun i => M (2 + i)) (M 118)) (hQ : RQu nS nQ (M 1) (fun i => M (2 + i)) (M 118)) : ∃ S Q W, QW M nS nQ S Q W := by
  obtain ⟨P, W, p1, p2, p3, p4, p5, p6⟩ := PW_of hS
  obtain ⟨q1, q2, q3, q4⟩ := hQ
  refine ⟨fun k => (M 8 k).toNatClampNeg, fun k => P (M 8 k).toNatClampNeg, fun k => W (M 8 k).toNatClampNeg, p1, q3, p2, q1, q2, fun k hk => ?_, fun k => p6 _⟩
  obtain ⟨t, t1, t2, t3⟩ := q4 k hk
  have t2 : M 8 k = nI t := t2
  dsimp only
  rw [t2, nI_clamp (by omega)]
  obtain ⟨a, b, e, f⟩ := p4 t t1
  exact ⟨t1, rfl, t3, a, b, e, f⟩
theorem QW.congr {M M' : jM} {nS n : Nat} {S Q W : Nat → Nat} (h : QW M nS n S Q W) (e1 : M' 1 = M 1) (e2 : M' 2 = M 2) (e3 : M' 3 = M 3) (e5 : M' 8 = M 8) (e4 : M' 118 = M 118) : QW M' nS n S Q W := by
  unfold QW at *
  rw [e1, e2, e3, e4, e5]
  exact h
theorem c_fallL {S W : Nat → Nat} {nS d : Nat} {L : List (Nat × Nat)} {M0 : jM} {post : jM → Prop} (hn : n ≤ 8) (hl : L.length ≤ 24) (h : ∀ M', cInv M' V Q n L L → (∀ i, i < n → M' 106 i = nI (fG V Q n 0 L 256 i)) → (∀ b, b < 27 ∨ 34 < b ∧ b < 106 ∨ 114 < b → M' b = M0 b) → post M') : ∀ (r k : Nat) (M : jM), k + r = n → QW M nS n S Q W → cTl M V Q L k → SE M V → SLi M L → (∀ i, i < k → M 106 i = nI 0) → (∀ b, b < 27 ∨ 34 < b ∧ b < 106 ∨ 114 < b → M b = M0 b) → kX0_fall_12 G (d + 2 * n + 4) (nI n) (nI k) M post := by
  intro r
  induction r with
  | zero =>
    intro k M hk hQW hT hS hL hc hf
    obtain rfl : k = n := by omega
    refine bX0_fall_12 (ite_ti (by rw [nI_leI (by omega) (by omega)]; omega) ?_)
    refine c_come (V := V) (L0 := L) (Q := Q) (n := k) hn (fun k => (hQW.2.2.2.2.2.2 k).1) k d 0 256 L (fun _ => 0) M _ (by omega) (by omega) (by omega) ⟨hS, hL, hT, Ext.refl L⟩ hc (fun M' g1 g2 g3 => h M' g1 (fun i hi => by rw [g2 i hi, Nat.zero_add]) (fun b hb => (g3 b (by omega)).trans (hf b hb)))
  | succ r ih =>
    intro k M hk hQW hT hS hL hc hf
    obtain ⟨w1, w2, w3, w4, w5, w6, w7⟩ := id hQW
    obtain ⟨u1, u2, u3, u4, u5, u6, u7⟩ := w6 k (by omega)
    have q1 := (w7 k).1
    refine bX0_fall_12 (ite_fi (by rw [nI_leI (by omega) (by omega)]; omega) ⟨vp_in_nI (by omega) (by omega), vp_in_nI (by omega) (by omega), vp_in_nI (by omega) (by omega), ?_⟩)
    rw [nI_clamp (by omega), u2]
    refine t_pointsOf (d := d + 2 * n + 3) (nS := nS) (by (simp (disch := omega) only [jup_ne]); exact w3) w1 u1 ?_
    rw [show (jup M 106 k 0) 2 (S k) = nI (Q k) by (simp (disch := omega) only [jup_ne]); exact u4]
    have j1 : jT (107 + k) := by unfold jT; omega
    refine c_begin j1 (fun M1 b1 b2 => ⟨vp_in_nI (by omega) (by omega), ?_⟩)
    have hS1 : SE M1 V := hS.congr (fun i hi => by rw [b2 27 (by omega)]; (simp (disch := omega) only [jup_ne])) (fun b h1 h2 => by rw [b2 b (by omega)]; (simp (disch := omega) only [jup_ne]))
    have hL1 : SLi M1 L := hL.congr (by rw [b2 27 (by omega)]; (simp (disch := omega) only [jup_ne])) (by rw [b2 31 (by omega)]; (simp (disch := omega) only [jup_ne])) (by rw [b2 32 (by omega)]; (simp (disch := omega) only [jup_ne]))
    rw [hL1.1, nI_1]
    refine c_follow (d := d + 2 * n + 3) j1 q1 (Nat.zero_le _) (Nat.le_refl _) hS1 hL1 b1 (fun M2 f1 f2 => ?_)
    have same : ∀ b, b ≠ 107 + k → b ≠ 106 → M2 b = M b := fun b hb h6 => (f2 b hb).trans ((b2 b hb).trans (by rw [jup_ne h6]))
    refine ih (k + 1) M2 (by omega) (hQW.congr (same 1 (by omega) (by omega)) (same 2 (by omega) (by omega)) (same 3 (by omega) (by omega)) (same 8 (by omega) (by omega)) (same 118 (by omega) (by omega))) (fun i hi => ?_) (hS1.congr (fun i hi => by rw [f2 27 (by omega)]) (fun b h1 h2 => f2 b (by omega))) (hL1.congr (by rw [f2 27 (by omega)]) (f2 31 (by omega)) (f2 32 (by omega))) (fun i hi => ?_) (fun b hb => (same b (by omega) (by omega)).trans (hf b hb))
    · by_cases e : i = k
      · subst e; exact f1
      · exact (hT i (by omega)).congr (same _ (by omega) (by omega))
    · rw [f2 106 (by omega), b2 106 (by omega)]
      by_cases e : i = k
      · subst e; rw [jup_ss]; rfl
      · rw [jup_sn e]; exact hc i (by omega)
theorem c_fall {S W : Nat → Nat} {nS d : Nat} {L : List (Nat × Nat)} {M : jM} {post : jM → Prop} (hl : L.length ≤ 24) (hQW : QW M nS n S Q W) (hS : SE M V) (hL : SLi M L) (h : ∀ M', (∀ i, i < n → M' 106 i = nI (fG V Q n 0 L 256 i)) → (∀ b, b < 27 ∨ 34 < b ∧ b < 106 ∨ 114 < b → M' b = M b) → post M') : CV G (d + 2 * n + 5) mX0_fall [.ref 104, .ref 1] M post := by
  have hn := hQW.2.1
  refine eX0_fall (bX0_fall_0 ?_)
  rw [hQW.2.2.2.1, if_neg (by rw [show (8 : Int32) = nI 8 from rfl, nI_ltI (by omega) (by omega)]; omega)]
  exact c_fallL hn hl (fun M' _ g2 g3 => h M' g2 g3) n 0 M (by omega) hQW (fun i hi => by omega) hS hL (fun i hi => by omega) (fun _ _ => rfl)
end CN
