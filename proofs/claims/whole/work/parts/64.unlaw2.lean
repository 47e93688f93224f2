/-- L, with the entry x2 turned -/
def Tn (x2 : Int32) (L L' : List (Nat × Nat)) : Prop := L'.length = L.length ∧ ∀ k, k < L.length → (lk L' k).1 = (lk L k).1 ∧ (nI k = x2 → (lk L' k).2 = 1 - (lk L k).2) ∧ (¬ nI k = x2 → (lk L' k).2 = (lk L k).2)
section FM
variable {G : jGT} {d : Nat} {V : jEv} {L L' : List (Nat × Nat)} {j n : Nat}
theorem c_mfUloop {x2 : Int32} {M0 : jM} {post : Int32 → jM → Prop} (hB : BLm (M0 118) n L) (hT : Tn x2 L L') (h : ∀ M', (∀ b, b ≠ 117 → b ≠ 124 → b ≠ 125 → M' b = M0 b) → (∀ i, i ≠ 18 → i ≠ 19 → i ≠ 20 → M' 117 i = M0 117 i) → post (fU V L' L'.length 0) M') :
    ∀ (r k : Nat) (M : jM), k + r = n → fU V L' L'.length 0 = fU V L' r k → DM M V j → DL M (L'.take k) → (∀ b, b ≠ 117 → b ≠ 124 → b ≠ 125 → M b = M0 b) → (∀ i, i ≠ 18 → i ≠ 19 → i ≠ 20 → M 117 i = M0 117 i) → kX8_firstUnlawful_7 G (d + 5) (nI j) x2 (nI k) M post := by
  obtain ⟨b1, b2, b3, b4⟩ := hB
  obtain ⟨t1, t2⟩ := hT
  intro r
  induction r with
  | zero =>
    intro k M hk hu hD hL f1 f2
    obtain rfl : k = n := by omega
    refine bX8_firstUnlawful_7 (ite_ti (by rw [f1 118 (by omega) (by omega) (by omega), b3]; exact Int32.le_refl _) ?_)
    have := h M f1 f2
    rw [hu] at this; exact this
  | succ r ih =>
    intro k M hk hu hD hL f1 f2
    obtain ⟨t, g1, g2, g3, g4, g5, g6⟩ := b4 k (by omega)
    obtain ⟨u1, u2, u3⟩ := t2 k (by omega)
    have hlen : (L'.take k).length = k := by rw [List.length_take]; omega
    have e118 : M 118 = M0 118 := f1 118 (by omega) (by omega) (by omega)
    refine bX8_firstUnlawful_7 (ite_fi (by rw [e118, b3, nI_leI (by omega) (by omega)]; omega) ?_)
    rw [e118, show (50 : Int32) = nI 50 from rfl, show (10 : Int32) = nI 10 from rfl, show (74 : Int32) = nI 74 from rfl, nI_add, nI_add, nI_clamp (by omega), nI_clamp (by omega), g4, g5, nI_add, nI_clamp (by omega), g6, nI_1]
    refine ⟨vp_in_nI (by omega) (by omega), vp_in_nI (by omega) (by omega), vp_in_nI (by omega) (by omega), ?_⟩
    rw [fU, u1] at hu
    have hb2 : ∀ b : Bool, b.toNat < 2 := fun b => by cases b <;> decide
    -- both ways of asking
    have ask : ∀ f : Nat, (lk L' k).2 = f → f < 2 → CI G (d + 5) mX8_isForIt [.ref 117, .int (nI j), .int (nI (lk L k).1)] M (fun r1 M1 => (if r1 = nI f then CV G (d + 5) mX8_writes [.ref 117, .int (nI (lk L k).1), .int (nI f)] M1 (fun M2 => kX8_firstUnlawful_7 G (d + 5) (nI j) x2 (nI (k + 1)) M2 post) else post (nI k) M1)) := by
      intro f hf hf2
      refine c_isForIt hD hL g2 (fun M1 _ _ s3 => ?_)
      have F1 : ∀ b, b ≠ 117 → b ≠ 124 → b ≠ 125 → M1 b = M0 b := fun b h1 h2 h3 => (s3.1 b h1).trans (f1 b h1 h2 h3)
      have F2 : ∀ i, i ≠ 18 → i ≠ 19 → i ≠ 20 → M1 117 i = M0 117 i := fun i h1 h2 h3 => (s3.2 i h2 h3).trans (f2 i h1 h2 h3)
      have := hb2 (vD V (lk L k).1 (L'.take k))
      rw [hf] at hu
      rw [← nI_toNat]
      refine ite_i (fun q => ?_) (fun q => ?_) <;> rw [nI_eq (by omega) (by omega)] at q
      · rw [if_pos q] at hu
        refine c_writes (hL.df s3) (by omega) g2 hf2 (fun M2 w1 w2 w3 => ?_)
        refine ih (k + 1) M2 (by omega) hu ((hD.df s3).congr (w2 122 (by omega) (by omega) (by omega)) (w2 123 (by omega) (by omega) (by omega)) (w2 118 (by omega) (by omega) (by omega)) (w3 15 (by omega))) ?_ (fun b h1 h2 h3 => (w2 b h1 h2 h3).trans (F1 b h1 h2 h3)) (fun i h1 h2 h3 => (w3 i h1).trans (F2 i h1 h2 h3))
        rw [take_lk (by omega), show lk L' k = ((lk L k).1, f) by rw [← u1, ← hf]]
        exact w1
      · rw [if_neg q] at hu
        have := h M1 F1 F2
        rw [hu] at this; exact this
    refine ite_i (fun q => ite_i (fun z => ?_) (fun z => ?_)) (fun q => ite_i (fun z => ?_) (fun z => ?_)) <;> rw [show (1 : Int32) = nI 1 from rfl, nI_eq (by omega) (by omega)] at q
    · exact ask 0 (by rw [u2 z, q]) (by omega)
    · exact ask 1 (by rw [u3 z, q]) (by omega)
    · exact ask 1 (by rw [u2 z]; omega) (by omega)
    · exact ask 0 (by rw [u3 z]; omega) (by omega)
theorem c_mfirstUnlawful {x2 : Int32} {M : jM} {post : Int32 → jM → Prop} (hB : BLm (M 118) n L) (hT : Tn x2 L L') (hD : DM M V j) (h : ∀ M', (∀ b, b ≠ 117 → b ≠ 124 → b ≠ 125 → M' b = M b) → (∀ i, i ≠ 18 → i ≠ 19 → i ≠ 20 → M' 117 i = M 117 i) → post (fU V L' L'.length 0) M') : CI G (d + 6) mX8_firstUnlawful [.ref 117, .int (nI j), .int x2] M post := by
  refine eX8_firstUnlawful (bX8_firstUnlawful_0 (c_mfUloop (M0 := jup M 117 18 0) (n := n) (L := L) (L' := L') (V := V) (by (simp (disch := omega) only [jup_ne]); exact hB) hT (fun M' g1 g2 => h M' (fun b h1 h2 h3 => by rw [g1 b h1 h2 h3]; (simp (disch := omega) only [jup_ne])) (fun i h1 h2 h3 => by rw [g2 i h1 h2 h3]; (simp (disch := omega) only [jup_ss, jup_sn, jup_n, jup_ne]))) n 0 _ (by omega) (by rw [hT.1, hB.1]) (hD.congr (by (simp (disch := omega) only [jup_ne])) (by (simp (disch := omega) only [jup_ne])) (by (simp (disch := omega) only [jup_ne])) (by (simp (disch := omega) only [jup_ss, jup_sn, jup_n, jup_ne]))) ⟨by (simp (disch := omega) only [jup_ss, jup_sn, jup_n, jup_ne]); rfl, by simp, fun k hk => by simp at hk, fun k hk => by simp at hk⟩ (fun _ _ _ _ => rfl) (fun _ _ _ _ => rfl)))
end FM
