theorem tlN_cong {V : jEv} {own : Nat} {L L' : List (Nat × Nat)} : ∀ k, (∀ i, i < k → lk L' i = lk L i) → tlN V own L' k = tlN V own L k := by
  intro k
  induction k with
  | zero => intro _; rfl
  | succ k ih => intro h; rw [tlN, tlN, ih (fun i hi => h i (by omega)), h k (by omega)]
theorem vdec_cong {V : jEv} {own : Nat} {L L' : List (Nat × Nat)} {k : Nat} (h : ∀ i, i < k → lk L' i = lk L i) : vdec V own L' (tlN V own L' k) = vdec V own L (tlN V own L k) := by
  rw [tlN_cong k h]
  obtain ⟨h1, h2, h3, h4, h5, h6, h7, -⟩ := tlN_ok (V := V) (own := own) (L := L) k
  generalize tlN V own L k = T at *
  unfold vdec
  split
  · rfl
  · split
    · rfl
    · rename_i hz
      have n1 : vnot L' T.1 = vnot L T.1 := by
        have : T.1 ≠ 0 := fun z => hz (h4.mp z)
        unfold vnot; rw [h _ (by omega)]
      have n2 : vnot L' T.2.1 = vnot L T.2.1 := by
        have : T.2.1 ≠ 0 := fun z => hz (h5.mp z)
        unfold vnot; rw [h _ (by omega)]
      have n3 : vnot L' T.2.2.1 = vnot L T.2.2.1 := by
        have : T.2.2.1 ≠ 0 := fun z => hz (h6.mp z)
        unfold vnot; rw [h _ (by omega)]
      unfold vby vmost
      rw [n1, n2, n3]
theorem vdec_take {V : jEv} {own : Nat} {L : List (Nat × Nat)} {k : Nat} (hk : k ≤ L.length) : vdec V own L (tlN V own L k) = vD V own (L.take k) := by
  unfold vD
  rw [List.length_take, Nat.min_eq_left hk]
  exact (vdec_cong fun i hi => lk_take hi).symm
/-- the first entry that is decided otherwise than it says -/
def fU (V : jEv) (L : List (Nat × Nat)) : Nat → Nat → Int32
  | 0, _ => -5
  | r + 1, k => if (vD V (lk L k).1 (L.take k)).toNat = (lk L k).2 then fU V L r (k + 1) else nI k
section FU
variable {G : jGT} {d : Nat} {V : jEv} {L : List (Nat × Nat)} {j : Nat}
theorem c_fUloop {M0 : jM} {post : Int32 → jM → Prop} (h : ∀ M', (∀ b, b ≠ 33 → M' b = M0 b) → post (fU V L L.length 0) M') : ∀ (r k : Nat) (M : jM), k + r = L.length → fU V L L.length 0 = fU V L r k → SE M V → SLi M L → (∀ b, b ≠ 33 → M b = M0 b) → kX5_firstUnlawful_2 G (d + 2) (nI k) M post := by
  intro r
  induction r with
  | zero =>
    intro k M hk hu hS hL hf
    obtain rfl : k = L.length := by omega
    refine bX5_firstUnlawful_2 (ite_ti (by rw [hL.1]; exact Int32.le_refl _) ?_)
    have := h M hf
    rw [hu] at this; exact this
  | succ r ih =>
    intro k M hk hu hS hL hf
    have h85 := hL.2.1
    obtain ⟨l1, l2⟩ := hL.2.2.2 k (by omega)
    obtain ⟨l3, l4⟩ := hL.2.2.1 k (by omega)
    refine bX5_firstUnlawful_2 (ite_fi (by rw [hL.1, nI_leI (by omega) (by omega)]; omega) (ite_fi (by rw [show (85 : Int32) = nI 85 from rfl, nI_leI (by omega) (by omega)]; omega) ⟨vp_in_nI (by omega) (by omega), ?_⟩))
    rw [nI_clamp (by omega), l1]
    refine c_begin (t := 33) (by unfold jT; omega) (fun M1 b1 b2 => ?_)
    have hS1 : SE M1 V := hS.congr (fun k hk => by rw [b2 27 (by omega)]) (fun b h1 h2 => b2 b (by omega))
    have hL1 : SLi M1 L := hL.congr (by rw [b2 27 (by omega)]) (b2 31 (by omega)) (b2 32 (by omega))
    refine c_follow (t := 33) (own := (lk L k).1) (seen := 0) (by unfold jT; omega) l3 (by omega) (by omega) hS1 hL1 b1 (fun M2 f1 f2 => ?_)
    have hS2 : SE M2 V := hS1.congr (fun k hk => by rw [f2 27 (by omega)]) (fun b h1 h2 => f2 b (by omega))
    have hL2 : SLi M2 L := hL1.congr (by rw [f2 27 (by omega)]) (f2 31 (by omega)) (f2 32 (by omega))
    have fr : ∀ b, b ≠ 33 → M2 b = M0 b := fun b hb => (f2 b hb).trans ((b2 b hb).trans (hf b hb))
    refine c_isFor (t := 33) (k := k) (by unfold jT; omega) l3 (by omega) hS2 hL2 f1 ⟨vp_in_nI (by omega) (by omega), ?_⟩
    rw [vdec_take (by omega), ← nI_toNat, (hL2.2.2.2 k (by omega)).2, nI_1]
    have hb : (vD V (lk L k).1 (L.take k)).toNat < 2 := by cases vD V (lk L k).1 (L.take k) <;> decide
    rw [fU] at hu
    refine ite_i (fun q => ?_) (fun q => ?_) <;> rw [nI_eq (by omega) (by omega)] at q
    · rw [if_pos q] at hu
      exact ih (k + 1) M2 (by omega) hu hS2 hL2 fr
    · rw [if_neg q] at hu
      have := h M2 fr
      rw [hu] at this; exact this
theorem c_firstUnlawful {M : jM} {post : Int32 → jM → Prop} (hS : SE M V) (hL : SLi M L) (h : ∀ M', (∀ b, b ≠ 33 → M' b = M b) → post (fU V L L.length 0) M') : CI G (d + 3) mX5_firstUnlawful [.ref 27] M post :=
  eX5_firstUnlawful (bX5_firstUnlawful_0 (c_fUloop h L.length 0 M (by omega) rfl hS hL (fun _ _ => rfl)))
end FU
