theorem pop_ok : ∀ m : Nat, m < 256 → ∀ s, s < 8 → m.testBit s = true → pop8 (m ^^^ 2 ^ s) + 1 = pop8 m ∧ m ^^^ 2 ^ s < 256 ∧ nI m &&& (((1 : Int32) <<< (nI s &&& 31)) ^^^ (-1)) = nI (m ^^^ 2 ^ s) := by decide +kernel
theorem pop_0 : ∀ m : Nat, m < 256 → (pop8 m = 0 ↔ m = 0) := by decide +kernel
theorem bit_hi : ∀ m : Nat, m < 256 → ∀ n, n < 9 → m < 2 ^ n → ∀ s, s < 8 → n ≤ s → m.testBit s = false := by decide +kernel
/-- the suits' points and worths -/
def PW (M : jM) (nS : Nat) (P W : Nat → Nat) : Prop := nS ≤ 8 ∧ M 1 1 = nI nS ∧ M 118 0 = nI nS ∧ (∀ s, s < nS → M 2 s = nI (P s) ∧ M 3 s = nI (W s) ∧ M 118 (10 + s) = nI (P s) ∧ M 118 (18 + s) = nI (W s)) ∧ (∀ s, nS ≤ s → P s = 0 ∧ W s = 0) ∧ ∀ s, P s < 256 ∧ W s < 100
theorem PW_of {M : jM} {nS : Nat} (hS : RS nS (M 1) (fun i => M (2 + i)) (M 118)) : ∃ P W, PW M nS P W := by
  obtain ⟨h1, h2, h3, h4⟩ := hS
  refine ⟨fun s => if s < nS then (M 2 s).toNatClampNeg else 0, fun s => if s < nS then (M 3 s).toNatClampNeg else 0, h3, h1, h2, fun s hs => ?_, fun s hs => ⟨if_neg (by omega), if_neg (by omega)⟩, fun s => ?_⟩
  · obtain ⟨p, w, p1, w1, a1, a2, a3, a4⟩ := h4 s hs
    have a1 : M 2 s = nI p := a1
    have a3 : M 3 s = nI w := a3
    dsimp only
    rw [if_pos hs, if_pos hs, a1, a3, nI_clamp (by omega), nI_clamp (by omega)]
    exact ⟨rfl, rfl, a2, a4⟩
  · by_cases hs : s < nS
    · obtain ⟨p, w, p1, w1, a1, a2, a3, a4⟩ := h4 s hs
      have a1 : M 2 s = nI p := a1
      have a3 : M 3 s = nI w := a3
      dsimp only
      rw [if_pos hs, if_pos hs, a1, a3, nI_clamp (by omega), nI_clamp (by omega)]
      exact ⟨p1, w1⟩
    · dsimp only
      rw [if_neg hs, if_neg hs]
      omega
theorem PW.congr {M M' : jM} {nS : Nat} {P W : Nat → Nat} (h : PW M nS P W) (e1 : M' 1 = M 1) (e2 : M' 2 = M 2) (e3 : M' 3 = M 3) (e4 : M' 118 = M 118) : PW M' nS P W := by
  unfold PW at *
  rw [e1, e2, e3, e4]
  exact h
/-- the suits' tallies have heard L0 -/
def PT (M : jM) (V : jEv) (P W : Nat → Nat) (L0 : List (Nat × Nat)) (n : Nat) : Prop := ∀ s, s < n → TLy M (40 + s) (P s) L0.length (tlN V (P s) L0 L0.length) ∧ M 37 s = nI (W s)
theorem PT.congr {M M' : jM} {V : jEv} {P W : Nat → Nat} {L0 : List (Nat × Nat)} {n : Nat} (h : PT M V P W L0 n) (hn : n ≤ 64) (e1 : ∀ s, s < n → M' (40 + s) = M (40 + s)) (e2 : M' 37 = M 37) : PT M' V P W L0 n := fun s hs => ⟨(h s hs).1.congr (e1 s hs), by rw [e2]; exact (h s hs).2⟩
/-- L goes on from L0 -/
def Ext (L0 L : List (Nat × Nat)) : Prop := L0.length ≤ L.length ∧ ∀ i, i < L0.length → lk L i = lk L0 i
theorem Ext.refl (L : List (Nat × Nat)) : Ext L L := ⟨Nat.le_refl _, fun _ _ => rfl⟩
theorem Ext.app {L0 L : List (Nat × Nat)} {e : Nat × Nat} (h : Ext L0 L) : Ext L0 (L ++ [e]) := ⟨by rw [List.length_append]; have := h.1; omega, fun i hi => by rw [lk_app (by have := h.1; omega)]; exact h.2 i hi⟩
section PR
variable {G : jGT} {d : Nat} {V : jEv} {L L0 : List (Nat × Nat)} {P W : Nat → Nat} {nS : Nat}
theorem c_prepL {M0 : jM} {post : jM → Prop} (h : ∀ M', PT M' V P W L 8 → SE M' V → SLi M' L → (∀ b, b < 33 ∨ 33 < b ∧ b < 37 ∨ 37 < b ∧ b < 40 ∨ 104 ≤ b → M' b = M0 b) → post M') : ∀ (r k : Nat) (M : jM), k + r = 8 → PW M nS P W → PT M V P W L k → SE M V → SLi M L → (∀ b, b < 33 ∨ 33 < b ∧ b < 37 ∨ 37 < b ∧ b < 40 ∨ 104 ≤ b → M b = M0 b) → kX4_prepareSuits_2 G (d + 3) (nI k) M post := by
  intro r
  induction r with
  | zero =>
    intro k M hk hP hT hS hL hf
    obtain rfl : k = 8 := by omega
    exact bX4_prepareSuits_2 (ite_ti (by decide) (h M hT hS hL hf))
  | succ r ih =>
    intro k M hk hP hT hS hL hf
    obtain ⟨p1, p2, p3, p4, p5, p6⟩ := id hP
    obtain ⟨q1, q2⟩ := p6 k
    have pts : ∀ {Q : Int32 → jM → Prop}, Q (nI (P k)) M → CI G (d + 3) mX2_pointsOf [.ref 1, .int (nI k)] M Q := by
      intro Q hQ
      by_cases hk' : k < nS
      · exact t_pointsOf (d := d + 2) p2 p1 hk' (by rw [(p4 k hk').1]; exact hQ)
      · exact t_pointsOf_n (d := d + 2) p2 p1 (Or.inr (by rw [nI_leI (by omega) (by omega)]; omega)) (by rw [(p5 k (by omega)).1] at hQ; exact hQ)
    refine bX4_prepareSuits_2 (ite_fi (by rw [show (8 : Int32) = nI 8 from rfl, nI_leI (by omega) (by omega)]; omega) ⟨vp_in_nI (by omega) (by omega), pts ?_⟩)
    rw [nI_clamp (by omega)]
    have j40 : jT (40 + k) := by unfold jT; omega
    refine c_begin j40 (fun M1 b1 b2 => ⟨vp_in_nI (by omega) (by omega), ?_⟩)
    have hS1 : SE M1 V := hS.congr (fun i hi => by rw [b2 27 (by omega)]) (fun b h1 h2 => b2 b (by omega))
    have hL1 : SLi M1 L := hL.congr (by rw [b2 27 (by omega)]) (b2 31 (by omega)) (b2 32 (by omega))
    rw [hL1.1]
    refine c_follow (d := d + 2) j40 q1 (Nat.zero_le _) (Nat.le_refl _) hS1 hL1 b1 (fun M2 f1 f2 => ?_)
    have hS2 : SE M2 V := hS1.congr (fun i hi => by rw [f2 27 (by omega)]) (fun b h1 h2 => f2 b (by omega))
    have hL2 : SLi M2 L := hL1.congr (by rw [f2 27 (by omega)]) (f2 31 (by omega)) (f2 32 (by omega))
    have same : ∀ b, b ≠ 40 + k → M2 b = M b := fun b hb => (f2 b hb).trans (b2 b hb)
    have fin : ∀ w : Int32, w = nI (W k) → kX4_prepareSuits_2 G (d + 3) (nI (k + 1)) (jup M2 37 k w) post := by
      intro w hw
      refine ih (k + 1) _ (by omega) (hP.congr (by (simp (disch := omega) only [jup_ne]); exact same 1 (by omega)) (by (simp (disch := omega) only [jup_ne]); exact same 2 (by omega)) (by (simp (disch := omega) only [jup_ne]); exact same 3 (by omega)) (by (simp (disch := omega) only [jup_ne]); exact same 118 (by omega))) (fun s hs => ?_) (hS2.congr (fun i hi => by (simp (disch := omega) only [jup_ss, jup_sn, jup_n, jup_ne])) (fun b h1 h2 => by (simp (disch := omega) only [jup_ne]))) (hL2.congr (by (simp (disch := omega) only [jup_ss, jup_sn, jup_n, jup_ne])) (by (simp (disch := omega) only [jup_ne])) (by (simp (disch := omega) only [jup_ne]))) (fun b hb => by (simp (disch := omega) only [jup_ne]); rw [same b (by omega)]; exact hf b hb)
      by_cases e : s = k
      · subst e
        exact ⟨f1.congr (by (simp (disch := omega) only [jup_ne])), by (simp (disch := omega) only [jup_ss, jup_sn, jup_n, jup_ne]); exact hw⟩
      · have := hT s (by omega)
        exact ⟨this.1.congr (by (simp (disch := omega) only [jup_ne]); exact same _ (by omega)), by (simp (disch := omega) only [jup_ss, jup_sn, jup_n, jup_ne]); rw [same 37 (by omega)]; exact this.2⟩
    rw [nI_1]
    by_cases hk' : k < nS
    · refine t_worthOf (d := d + 2) (by rw [same 1 (by omega)]; exact p2) p1 hk' ?_
      rw [same 3 (by omega)]
      exact ⟨vp_in_nI (by omega) (by omega), fin _ (p4 k hk').2.1⟩
    · refine t_worthOf_n (d := d + 2) (by rw [same 1 (by omega)]; exact p2) p1 (Or.inr (by rw [nI_leI (by omega) (by omega)]; omega)) ?_
      exact ⟨vp_in_nI (by omega) (by omega), fin _ (by rw [(p5 k (by omega)).2]; rfl)⟩
theorem c_prep {M : jM} {post : jM → Prop} (hP : PW M nS P W) (hS : SE M V) (hL : SLi M L) (h : ∀ M', PT M' V P W L 8 → SE M' V → SLi M' L → (∀ b, b < 33 ∨ 33 < b ∧ b < 37 ∨ 37 < b ∧ b < 40 ∨ 104 ≤ b → M' b = M b) → post M') : CV G (d + 4) mX4_prepareSuits [.ref 35, .ref 1] M post :=
  eX4_prepareSuits (bX4_prepareSuits_0 (c_prepL h 8 0 M rfl hP (fun s hs => by omega) hS hL (fun _ _ => rfl)))
/-- a suit heard now, by its tally -/
theorem c_winsPT {M : jM} {s : Nat} {post : Int32 → jM → Prop} (hs : s < 8) (hP : P s < 256) (hT : PT M V P W L0 8) (hx : Ext L0 L) (hS : SE M V) (hL : SLi M L) (h : ∀ M', (∀ a, a ≠ 34 → M' a = M a) → post (jz (vD V (P s) L)) M') : CI G (d + 3) mX5_winsNow [.ref 27, .ref (40 + s)] M post := by
  refine c_winsNow (seen := L0.length) (own := P s) (by unfold jT; omega) (by omega) hP hx.1 hS hL ?_ h
  rw [tlN_cong L0.length hx.2]
  exact (hT s hs).1
end PR
