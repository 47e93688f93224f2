def mH (f : List (Nat × Nat) → Nat → Nat) (q : Nat) (L : List (Nat × Nat)) (b : Bool) (l w : Nat) : Nat := f (L ++ [(q, b.toNat)]) l + if b = true then l * w else 0
/-- the model's sum, from the k-th of the queue on -/
def mG (V : jEv) (Q w : Nat → Nat) : Nat → Nat → List (Nat × Nat) → Nat → Nat
  | 0, _, _, _ => 0
  | r + 1, k, L, l => if vopen V (Q k) (tlN V (Q k) L L.length) = true then mH (mG V Q w r (k + 1)) (Q k) L false (l / 2) (w k) + mH (mG V Q w r (k + 1)) (Q k) L true (l / 2) (w k) else mH (mG V Q w r (k + 1)) (Q k) L (vD V (Q k) L) l (w k)
theorem mG_sm {V : jEv} {Q w : Nat → Nat} {n : Nat} : ∀ (r k : Nat) (L : List (Nat × Nat)) (l : Nat), k + r = n → mG V Q w r k L l = sm (fun i => fG V Q r k L l i * w i) n := by
  intro r
  induction r with
  | zero =>
    intro k L l _
    rw [mG]
    rw [sm_congr (g := fun _ => 0) n (fun i _ => by show fG V Q 0 k L l i * w i = 0; rw [fG, Nat.zero_mul]), sm_0]
  | succ r ih =>
    intro k L l hk
    have one : ∀ b l, sm (fun i => hG (fG V Q r (k + 1)) (Q k) k L b l i * w i) n = mH (mG V Q w r (k + 1)) (Q k) L b l (w k) := by
      intro b l
      unfold hG mH
      rw [ih (k + 1) _ l (by omega)]
      rw [sm_congr (g := fun i => (if i = k then (if b = true then l * w i else 0) else 0) + fG V Q r (k + 1) (L ++ [(Q k, b.toNat)]) l i * w i) n (fun i _ => ?_), sm_add, sm_one (f := fun i => if b = true then l * w i else 0), if_pos (by omega), Nat.add_comm]
      rw [Nat.add_mul]
      congr 1
      cases b
      · simp
      · by_cases e : i = k
        · subst e; simp
        · simp [e]
    rw [mG]
    by_cases q : vopen V (Q k) (tlN V (Q k) L L.length) = true
    · rw [if_pos q, ← one, ← one, ← sm_add]
      refine sm_congr n (fun i _ => ?_)
      rw [fG, if_pos q, Nat.add_mul, Nat.add_comm]
    · rw [if_neg q, ← one]
      refine sm_congr n (fun i _ => ?_)
      rw [fG, if_neg q]
theorem vr_2 {V : jEv} {own : Nat} {L : List (Nat × Nat)} {T : jTl} : vr V own L T = 2 ↔ vopen V own T = true := by
  unfold vr vopen
  by_cases h1 : vtell V own ≠ 0
  · rw [if_pos h1]
    split <;> simp [h1]
  · rw [if_neg h1]
    by_cases h2 : T.2.2.2.2.1 + T.2.2.2.2.2 = 0
    · rw [if_pos h2]
      simp only [decide_eq_true h2, Bool.and_true, decide_eq_true_eq, true_iff]
      exact Decidable.not_not.mp h1
    · rw [if_neg h2]
      have : (vby V L T).toNat < 2 := by cases vby V L T <;> decide
      constructor
      · intro e; omega
      · intro e; rw [decide_eq_false h2, Bool.and_false] at e; cases e
theorem vr_D {V : jEv} {own : Nat} {L : List (Nat × Nat)} {T : jTl} (h : ¬ vopen V own T = true) : vr V own L T = (vdec V own L T).toNat := by
  unfold vr vdec
  unfold vopen at h
  by_cases h1 : vtell V own ≠ 0
  · rw [if_pos h1, if_pos h1]
    by_cases h2 : vtell V own = 1
    · rw [if_pos h2, decide_eq_true h2]; rfl
    · rw [if_neg h2, decide_eq_false h2]; rfl
  · rw [if_neg h1, if_neg h1]
    by_cases h2 : T.2.2.2.2.1 + T.2.2.2.2.2 = 0
    · exfalso
      refine h ?_
      rw [decide_eq_true h2, decide_eq_true (Decidable.not_not.mp h1)]
      rfl
    · rw [if_neg h2, if_neg h2]
section FL
variable {G : jGT} {V : jEv} {j n : Nat} {S Q W w : Nat → Nat}
/-- the model's queue -/
def QM (M : jM) (n : Nat) (S Q W : Nat → Nat) : Prop := n ≤ 8 ∧ M 118 4 = nI n ∧ (∀ k, k < n → S k < 8 ∧ M 118 (98 + k) = nI (S k) ∧ M 118 (10 + S k) = nI (Q k) ∧ M 118 (18 + S k) = nI (W k)) ∧ ∀ k, Q k < 256 ∧ W k < 100
theorem QW.qm {M : jM} {nS : Nat} (h : QW M nS n S Q W) : QM M n S Q W := ⟨h.2.1, h.2.2.2.2.1, fun k hk => by obtain ⟨u1, u2, u3, u4, u5, u6, u7⟩ := h.2.2.2.2.2.1 k hk; exact ⟨by have := h.1; omega, u3, u6, u7⟩, h.2.2.2.2.2.2⟩
theorem QM.congr {M M' : jM} (h : QM M n S Q W) (e : M' 118 = M 118) : QM M' n S Q W := by unfold QM at *; rw [e]; exact h
/-- what is counted: all by their worths, or one -/
def cnt (x4 : Int32) (n : Nat) (W w : Nat → Nat) : Prop := (x4 = -1 ∧ ∀ k, w k = W k) ∨ ∃ i, i < n ∧ x4 = nI i ∧ ∀ k, w k = if k = i then 1 else 0
theorem c_falls {x4 : Int32} (hx4 : cnt x4 n W w) : ∀ (r d k l : Nat) (L : List (Nat × Nat)) (M : jM) (post : Int64 → jM → Prop), k + r = n → L.length + r ≤ 80 → l < 257 → QM M n S Q W → DM M V j → DL M L → (∀ M', DL M' L → Ms M M' → post (lN (mG V Q w r k L l)) M') → CL G (d + r + 5) mX8_falls [.ref 117, .int (nI j), .int (nI k), .int (nI l), .int x4] M post := by
  intro r
  induction r with
  | zero =>
    intro d k l L M post hk hl hl2 hQ hD hL h
    exact eX8_falls (bX8_falls_0 (ite_ti (by rw [hQ.2.1, nI_eq (by have := hQ.1; omega) (by have := hQ.1; omega)]; omega) (h M hL (Ms.refl M))))
  | succ r ih =>
    intro d k l L M post hk hl hl2 hQ hD hL h
    obtain ⟨Q1, Q2, Q3, Q4⟩ := id hQ
    obtain ⟨u1, u2, u3, u4⟩ := Q3 k (by omega)
    obtain ⟨v1, v2⟩ := Q4 k
    rw [show d + (r + 1) + 5 = d + r + 5 + 1 by omega]
    refine eX8_falls (bX8_falls_0 (ite_fi (by rw [Q2, nI_eq (by omega) (by omega)]; omega) ?_))
    rw [show (98 : Int32) = nI 98 from rfl, show (10 : Int32) = nI 10 from rfl, nI_add, nI_clamp (by omega), u2, nI_add, nI_clamp (by omega), u3]
    refine ⟨vp_in_nI (by omega) (by omega), vp_in_nI (by omega) (by omega), ?_⟩
    refine c_decidesBy (d := d + r + 1) hD hL v1 (fun M1 _ _ s1 => ?_)
    -- one outcome taken
    have take : ∀ (x6 : Int32) (b : Bool) (l' y : Nat) (M2 : jM), (if x6 = 2 then l / 2 else l) = l' → DL M2 L → Ms M M2 → (∀ M3, DL M3 L → Ms M M3 → kX8_falls_46 G (d + r + 5) (nI j) (nI k) (nI l) x4 (nI (S k)) x6 (lN (y + mH (mG V Q w r (k + 1)) (Q k) L b l' (w k))) (nI (b.toNat + 1)) M3 post) → kX8_falls_65 G (d + r + 5) (nI j) (nI k) (nI l) x4 (nI (S k)) x6 (lN y) (nI b.toNat) M2 post := by
      intro x6 b l' y M2 hl' hL2 hM2 hh
      have l257 : l' < 257 := by rw [← hl']; split <;> omega
      have e118 : M2 118 = M 118 := hM2.1 118 (by omega) (by omega)
      have go : kX8_falls_78 G (d + r + 5) (nI j) (nI k) (nI l) x4 (nI (S k)) x6 (lN y) (nI b.toNat) (nI l') M2 post := by
        have wr : kX8_falls_102 G (d + r + 5) (nI j) (nI k) (nI l) x4 (nI (S k)) x6 (lN y) (nI b.toNat) (nI l') (nI (Q k)) (nI b.toNat) M2 post := by
          refine bX8_falls_102 (c_writes hL2 (by omega) v1 (by cases b <;> decide) (fun M3 w1 w2 w3 => ?_))
          have F3 : Ms M M3 := hM2.trans ⟨fun b b1 b2 => w2 b b1 (by omega) (by omega), fun i i1 _ _ => w3 i i1⟩
          rw [nI_1]
          refine ih d (k + 1) l' _ M3 _ (by omega) (by rw [List.length_append, List.length_singleton]; omega) l257 (hQ.congr (F3.1 118 (by omega) (by omega))) (hD.ms F3) w1 (fun M4 k1 k2 => ?_)
          have e18 : (M4 117 18) - 1 = nI L.length := by
            rw [k1.1, List.length_append, List.length_singleton]
            exact pk_sub (a := L.length + 1) (b := 1) (by omega)
          rw [e18, lN_add]
          have F4 : Ms M M4 := F3.trans k2
          have F5 : Ms M (jup M4 117 18 (nI L.length)) := F4.trans ⟨fun b b1 b2 => by (simp (disch := omega) only [jup_ne]), fun i i1 _ _ => by (simp (disch := omega) only [jup_ss, jup_sn, jup_n, jup_ne])⟩
          have D5 : DL (jup M4 117 18 (nI L.length)) L := DL_pop k1 (by (simp (disch := omega) only [jup_ss, jup_sn, jup_n, jup_ne])) (by (simp (disch := omega) only [jup_ne])) (by (simp (disch := omega) only [jup_ne]))
          have done : ∀ (z : Nat) (t1 : Int64), t1 = lN z → z = (if b = true then l' * w k else 0) → kX8_falls_180 G (d + r + 5) (nI j) (nI k) (nI l) x4 (nI (S k)) x6 (lN (y + mG V Q w r (k + 1) (L ++ [(Q k, b.toNat)]) l')) (nI b.toNat) (nI l') (lN (y + mG V Q w r (k + 1) (L ++ [(Q k, b.toNat)]) l')) t1 (jup M4 117 18 (nI L.length)) post := by
            intro z t1 h1 h2
            subst h1
            refine bX8_falls_180 (bX8_falls_183 ?_)
            rw [lN_add, nI_1, h2, show y + mG V Q w r (k + 1) (L ++ [(Q k, b.toNat)]) l' + (if b = true then l' * w k else 0) = y + mH (mG V Q w r (k + 1)) (Q k) L b l' (w k) from Nat.add_assoc _ _ _]
            exact hh _ D5 F5
          refine ite_i (fun q => ?_) (fun q => ite_i (fun p => ?_) (fun p => ite_i (fun u => ?_) (fun u => ?_)))
          · exact done 0 0 rfl (by cases b
                                   · rfl
                                   · exact absurd q (by decide))
          · have hb : b = true := by cases b
                                     · exact absurd rfl q
                                     · rfl
            rw [show (18 : Int32) = nI 18 from rfl, nI_add, nI_clamp (by omega), F4.1 118 (by omega) (by omega), u4, nI_l (by omega), nI_l (by omega), lN_mul]
            refine ⟨vp_in_nI (by omega) (by omega), done (l' * W k) _ rfl ?_⟩
            rw [if_pos hb]
            rcases hx4 with ⟨a1, a2⟩ | ⟨i, a1, a2, a3⟩
            · rw [a2]
            · exact absurd (a2.symm.trans p) (fun e' => nI_pos (by omega : i < 2 ^ 31) (by rw [e']; decide))
          · have hb : b = true := by cases b
                                     · exact absurd rfl q
                                     · rfl
            refine done l' _ (nI_l (by omega)) ?_
            rw [if_pos hb]
            rcases hx4 with ⟨a1, a2⟩ | ⟨i, a1, a2, a3⟩
            · exact absurd a1 p
            · rw [a2, nI_eq (by omega) (by omega)] at u
              rw [a3, if_pos u.symm, Nat.mul_one]
          · refine done 0 0 rfl ?_
            rcases hx4 with ⟨a1, a2⟩ | ⟨i, a1, a2, a3⟩
            · exact absurd a1 p
            · rw [a2, nI_eq (by omega) (by omega)] at u
              have w0 : w k = 0 := by rw [a3, if_neg (fun e => u e.symm)]
              rw [w0, Nat.mul_zero]
              split <;> rfl
        refine bX8_falls_78 ?_
        rw [show (10 : Int32) = nI 10 from rfl, nI_add, nI_clamp (by omega), e118, u3]
        refine ⟨vp_in_nI (by omega) (by omega), ?_⟩
        cases b
        · exact ite_fi (by decide) wr
        · exact ite_ti rfl wr
      refine bX8_falls_65 (ite_i (fun q => ?_) (fun q => ?_))
      · rw [if_pos q] at hl'
        rw [half_ok l hl2, hl']; exact go
      · rw [if_neg q] at hl'
        subst hl'
        exact go
    have zero : lN 0 = (0 : Int64) := rfl
    have exit : ∀ (x6 : Int32) (y : Nat) (M3 : jM), DL M3 L → Ms M M3 → y = mG V Q w (r + 1) k L l → kX8_falls_46 G (d + r + 5) (nI j) (nI k) (nI l) x4 (nI (S k)) x6 (lN y) (nI 2) M3 post := fun x6 y M3 h1 h2 h3 => bX8_falls_46 (ite_ti (by decide) (by rw [h3]; exact h M3 h1 h2))
    have hD1 := hL.df s1
    by_cases q : vopen V (Q k) (tlN V (Q k) L L.length) = true
    · rw [vr_2.mpr q]
      refine bX8_falls_46 (ite_fi (by decide) (ite_ti rfl ?_))
      refine take (nI 2) false (l / 2) 0 M1 (if_pos rfl) hD1 s1.ms (fun M3 g1 g2 => ?_)
      refine bX8_falls_46 (ite_fi (by decide) (ite_ti rfl ?_))
      refine take (nI 2) true (l / 2) _ M3 (if_pos rfl) g1 g2 (fun M5 k1 k2 => exit _ _ M5 k1 k2 ?_)
      rw [mG, if_pos q, Nat.zero_add]
    · rw [vr_D q]
      have eD : vdec V (Q k) L (tlN V (Q k) L L.length) = vD V (Q k) L := rfl
      rw [eD]
      generalize hb : vD V (Q k) L = b
      cases b
      · refine bX8_falls_46 (ite_fi (by decide) (ite_fi (by decide) (ite_ti rfl ?_)))
        refine take (nI 0) false l 0 M1 (if_neg (by decide)) hD1 s1.ms (fun M3 g1 g2 => ?_)
        refine bX8_falls_46 (ite_fi (by decide) (ite_fi (by decide) (ite_fi (by decide) (bX8_falls_183 ?_))))
        refine exit _ _ M3 g1 g2 ?_
        rw [mG, if_neg q, hb, Nat.zero_add]
      · refine bX8_falls_46 (ite_fi (by decide) (ite_fi (by decide) (ite_fi (by decide) (bX8_falls_183 ?_))))
        refine bX8_falls_46 (ite_fi (by decide) (ite_fi (by decide) (ite_ti rfl ?_)))
        refine take (nI 1) true l 0 M1 (if_neg (by decide)) hD1 s1.ms (fun M3 g1 g2 => exit _ _ M3 g1 g2 ?_)
        rw [mG, if_neg q, hb, Nat.zero_add]
end FL
