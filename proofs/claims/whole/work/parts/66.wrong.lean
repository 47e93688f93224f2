/-- L with the entry k turned -/
def Lt (L : List (Nat × Nat)) (k : Nat) : List (Nat × Nat) := L.set k ((lk L k).1, 1 - (lk L k).2)
theorem Lt_len {L : List (Nat × Nat)} {k : Nat} : (Lt L k).length = L.length := by simp [Lt]
theorem lk_Lt {L : List (Nat × Nat)} {k i : Nat} (hk : k < L.length) : lk (Lt L k) i = if i = k then ((lk L k).1, 1 - (lk L k).2) else lk L i := by
  unfold Lt
  generalize ((lk L k).1, 1 - (lk L k).2) = z
  unfold lk
  rw [List.getD_eq_getElem?_getD, List.getElem?_set]
  by_cases e : i = k
  · subst e; simp [hk]
  · rw [if_neg (fun h => e h.symm), if_neg e, List.getD_eq_getElem?_getD]
theorem SLi.lk {M : jM} {L L' : List (Nat × Nat)} (h : SLi M L) (e : L'.length = L.length) (f : ∀ i, i < L.length → lk L' i = lk L i) : SLi M L' := by
  obtain ⟨h1, h2, h3, h4⟩ := h
  refine ⟨by rw [e]; exact h1, by rw [e]; exact h2, fun k hk => ?_, fun k hk => ?_⟩
  · rw [e] at hk; rw [f k hk]; exact h3 k hk
  · rw [e] at hk; rw [f k hk]; exact h4 k hk
theorem Tn_Lt {L : List (Nat × Nat)} {k : Nat} (hk : k < L.length) (hL : L.length < 2 ^ 31) : Tn (nI k) L (Lt L k) := by
  refine ⟨Lt_len, fun i hi => ?_⟩
  rw [lk_Lt hk, nI_eq (by omega) (by omega)]
  by_cases e : i = k
  · subst e; rw [if_pos rfl]; exact ⟨rfl, fun _ => rfl, fun h => absurd rfl h⟩
  · rw [if_neg e]; exact ⟨rfl, fun h => absurd h e, fun _ => rfl⟩
/-- L, with another bar -/
def wb (V : jEv) (b : Int32) : jEv := (V.1, V.2.1, V.2.2.1, V.2.2.2.1, V.2.2.2.2.1, b)
def bo (V : jEv) : Int32 := if V.1 = 5 then nI V.2.1 else 0
/-- which one alone may be wrong -/
def wrR (V : jEv) (L : List (Nat × Nat)) : Nat → Nat → Int32 → Int32
  | 0, _, m => m
  | r + 1, k, m => wrR V L r (k + 1) (if fU V (Lt L k) (Lt L k).length 0 = -5 then m ||| (1 <<< (nI k &&& 31)) else m)
def brR (V : jEv) (L : List (Nat × Nat)) : Nat → Nat → Nat → Int32 → Int32 → Nat × Int32 × Int32
  | 0, _, c, a, b => (c, a, b)
  | r + 1, n, c, a, b => if fU (wb V (nI n + bo V)) L L.length 0 = -5 then brR V L r (n + 1) (c + 1) (if c = 0 then nI n else a) (nI n) else brR V L r (n + 1) c a b
section WR
variable {G : jGT} {d : Nat} {V : jEv} {L : List (Nat × Nat)} {M : jM} {j n : Nat}
theorem c_turn {k : Nat} {post : jM → Prop} (hL : SLi M L) (hk : k < L.length) (h : ∀ M', SLi M' (Lt L k) → (∀ b, b ≠ 32 → M' b = M b) → post M') : CV G d mX5_turn [.ref 27, .int (nI k)] M post := by
  obtain ⟨h1, h2, h3, h4⟩ := hL
  obtain ⟨l1, l2⟩ := h4 k hk
  obtain ⟨l3, l4⟩ := h3 k hk
  have fin : ∀ f, f < 2 → f = 1 - (lk L k).2 → post (jup M 32 k (nI f)) := by
    intro f f2 hf
    refine h _ ⟨by rw [Lt_len]; (simp (disch := omega) only [jup_ss, jup_sn, jup_n, jup_ne]); exact h1, by rw [Lt_len]; exact h2, fun i hi => ?_, fun i hi => ?_⟩ (fun b hb => by (simp (disch := omega) only [jup_ne]))
    · rw [Lt_len] at hi
      rw [lk_Lt hk]
      split
      · exact ⟨l3, by show 1 - (lk L k).2 < 2; omega⟩
      · exact h3 i hi
    · rw [Lt_len] at hi
      rw [lk_Lt hk]
      split
      · rename_i e; subst e; exact ⟨by (simp (disch := omega) only [jup_ss, jup_sn, jup_n, jup_ne]); exact l1, by (simp (disch := omega) only [jup_ss, jup_sn, jup_n, jup_ne]); rw [hf]⟩
      · rename_i e; exact ⟨by (simp (disch := omega) only [jup_ss, jup_sn, jup_n, jup_ne]); exact (h4 i hi).1, by (simp (disch := omega) only [jup_ss, jup_sn, jup_n, jup_ne]); exact (h4 i hi).2⟩
  refine eX5_turn (bX5_turn_0 (ite_fi (nI_pos (by omega)) (ite_fi (by rw [h1, nI_leI (by omega) (by omega)]; omega) (ite_fi (by rw [show (85 : Int32) = nI 85 from rfl, nI_leI (by omega) (by omega)]; omega) ⟨vp_in_nI (by omega) (by omega), ?_⟩))))
  rw [nI_clamp (by omega), l2]
  refine ite_i (fun q => ⟨vp_in_nI (by omega) (by omega), ?_⟩) (fun q => ⟨vp_in_nI (by omega) (by omega), ?_⟩) <;> rw [show (0 : Int32) = nI 0 from rfl, nI_eq (by omega) (by omega)] at q
  · rw [show vp_nar .boolean 1 = nI 1 from by decide +kernel]; exact fin 1 (by omega) (by omega)
  · rw [show vp_nar .boolean 0 = nI 0 from by decide +kernel]; exact fin 0 (by omega) (by omega)
theorem c_wrongLoop {x1 : Int32} {M0 : jM} {post : Int32 → jM → Prop} (h8 : M0 1 8 = nI L.length) (h24 : L.length ≤ 24) {m0 : Int32} (h : ∀ M', (∀ b, b < 21 ∨ 33 < b → M' b = M0 b) → post m0 M') : ∀ (r k : Nat) (m : Int32) (M : jM), k + r = L.length → wrR V L r k m = m0 → SE M V → SLi M L → (∀ b, b < 21 ∨ 33 < b → M b = M0 b) → kX7_wrong_22 G (d + 11) x1 m (nI k) M post := by
  intro r
  induction r with
  | zero =>
    intro k m M hk hm hS hL hf
    obtain rfl : m = m0 := hm
    exact bX7_wrong_22 (ite_ti (by rw [hf 1 (by omega), h8, nI_leI (by omega) (by omega)]; omega) (h M hf))
  | succ r ih =>
    intro k m M hk hm hS hL hf
    refine bX7_wrong_22 (ite_fi (by rw [hf 1 (by omega), h8, nI_leI (by omega) (by omega)]; omega) (ite_fi (by rw [show (24 : Int32) = nI 24 from rfl, nI_leI (by omega) (by omega)]; omega) ?_))
    refine c_turn hL (by omega) (fun M1 t1 t2 => ?_)
    have hS1 : SE M1 V := hS.congr (fun k hk => by rw [t2 27 (by omega)]) (fun b h1 h2 => t2 b (by omega))
    refine c_firstUnlawful (d := d + 8) hS1 t1 (fun M2 w2 => ?_)
    have hS2 : SE M2 V := hS1.congr (fun k hk => by rw [w2 27 (by omega)]) (fun b h1 h2 => w2 b (by omega))
    have hL2 : SLi M2 (Lt L k) := t1.congr (by rw [w2 27 (by omega)]) (w2 31 (by omega)) (w2 32 (by omega))
    rw [wrR] at hm
    have back : ∀ (m' : Int32), (if fU V (Lt L k) (Lt L k).length 0 = -5 then m ||| (1 <<< (nI k &&& 31)) else m) = m' → CV G (d + 11) mX5_turn [.ref 27, .int (nI k)] M2 (fun M4 => kX7_wrong_22 G (d + 11) x1 m' (nI k + 1) M4 post) := by
      intro m' e
      rw [e] at hm
      refine c_turn hL2 (by rw [Lt_len]; omega) (fun M4 u1 u2 => ?_)
      rw [nI_1]
      refine ih (k + 1) m' M4 (by omega) hm (hS2.congr (fun k hk => by rw [u2 27 (by omega)]) (fun b h1 h2 => u2 b (by omega))) (u1.lk (by rw [Lt_len, Lt_len]) (fun i hi => ?_)) (fun b hb => (u2 b (by omega)).trans ((w2 b (by omega)).trans ((t2 b (by omega)).trans (hf b hb))))
      rw [lk_Lt (by rw [Lt_len]; omega), lk_Lt (by omega), lk_Lt (by omega), if_pos rfl]
      split
      · rename_i e; subst e
        have := (hL.2.2.1 i (by omega)).2
        exact Prod.ext rfl (by show (lk L i).2 = 1 - (1 - (lk L i).2); omega)
      · rfl
    refine ite_i (fun q => back _ (if_pos q)) (fun q => back _ (if_neg q))
theorem c_mwrongLoop {M0 : jM} {post : Int32 → jM → Prop} (hB : BLm (M0 118) n L) {m0 : Int32} (h : ∀ M', (∀ b, b ≠ 117 → b ≠ 124 → b ≠ 125 → M' b = M0 b) → (∀ i, i ≠ 18 → i ≠ 19 → i ≠ 20 → M' 117 i = M0 117 i) → post m0 M') : ∀ (r k : Nat) (m : Int32) (M : jM), k + r = n → wrR V L r k m = m0 → DM M V j → (∀ b, b ≠ 117 → b ≠ 124 → b ≠ 125 → M b = M0 b) → (∀ i, i ≠ 18 → i ≠ 19 → i ≠ 20 → M 117 i = M0 117 i) → kX8_wrong_19 G (d + 6) (nI j) m (nI k) M post := by
  have hB' := hB
  obtain ⟨b1, b2, b3, b4⟩ := hB'
  intro r
  induction r with
  | zero =>
    intro k m M hk hm hD f1 f2
    obtain rfl : m = m0 := hm
    exact bX8_wrong_19 (ite_ti (by rw [f1 118 (by omega) (by omega) (by omega), b3, nI_leI (by omega) (by omega)]; omega) (h M f1 f2))
  | succ r ih =>
    intro k m M hk hm hD f1 f2
    have e118 : M 118 = M0 118 := f1 118 (by omega) (by omega) (by omega)
    refine bX8_wrong_19 (ite_fi (by rw [e118, b3, nI_leI (by omega) (by omega)]; omega) ?_)
    refine c_mfirstUnlawful (n := n) (L := L) (L' := Lt L k) (by rw [e118]; exact hB) (Tn_Lt (by omega) (by omega)) hD (fun M1 g1 g2 => ?_)
    have hD1 : DM M1 V j := hD.congr (g1 122 (by omega) (by omega) (by omega)) (g1 123 (by omega) (by omega) (by omega)) (g1 118 (by omega) (by omega) (by omega)) (g2 15 (by omega) (by omega) (by omega))
    have F1 : ∀ b, b ≠ 117 → b ≠ 124 → b ≠ 125 → M1 b = M0 b := fun b h1 h2 h3 => (g1 b h1 h2 h3).trans (f1 b h1 h2 h3)
    have F2 : ∀ i, i ≠ 18 → i ≠ 19 → i ≠ 20 → M1 117 i = M0 117 i := fun i h1 h2 h3 => (g2 i h1 h2 h3).trans (f2 i h1 h2 h3)
    rw [wrR] at hm
    rw [nI_1]
    refine ite_i (fun q => ?_) (fun q => ?_)
    · rw [if_pos q] at hm; exact ih (k + 1) _ M1 (by omega) hm hD1 F1 F2
    · rw [if_neg q] at hm
      rw [show m ||| 0 = m from Int32.or_zero]
      exact ih (k + 1) _ M1 (by omega) hm hD1 F1 F2
theorem wb_self (V : jEv) : wb V V.2.2.2.2.2 = V := rfl
theorem c_setBar {x1 b : Int32} {post : jM → Prop} (hS : SE M (wb V b)) (hL : SLi M L) (h : ∀ M', SE M' (wb V (x1 + bo V)) → SLi M' L → (∀ b, b ≠ 27 → M' b = M b) → post M') : CV G d mX5_setBar [.ref 27, .int x1] M post := by
  obtain ⟨s0, s1, s2, s3, s4, s5, s6⟩ := hS
  have s0 : M 27 0 = nI V.1 := s0
  have s1 : M 27 1 = nI V.2.1 := s1
  have s5 : V.1 < 7 := s5
  have fin : ∀ z, z = x1 + bo V → post (jup M 27 2 z) := by
    intro z hz
    exact h _ ⟨by (simp (disch := omega) only [jup_ss, jup_sn, jup_n, jup_ne]); exact s0, by (simp (disch := omega) only [jup_ss, jup_sn, jup_n, jup_ne]); exact s1, by (simp (disch := omega) only [jup_ss, jup_sn, jup_n, jup_ne]); exact hz, fun k hk => by (simp (disch := omega) only [jup_ss, jup_sn, jup_n, jup_ne]); exact s3 k hk, fun k hk => by (simp (disch := omega) only [jup_ss, jup_sn, jup_n, jup_ne]); exact s4 k hk, s5, s6⟩ (hL.congr (by (simp (disch := omega) only [jup_ss, jup_sn, jup_n, jup_ne])) (by (simp (disch := omega) only [jup_ne])) (by (simp (disch := omega) only [jup_ne]))) (fun b hb => by (simp (disch := omega) only [jup_ne]))
  refine eX5_setBar (bX5_setBar_0 ?_)
  rw [s0, s1]
  refine ite_i (fun q => fin _ ?_) (fun q => fin _ ?_) <;> rw [show (5 : Int32) = nI 5 from rfl, nI_eq (by omega) (by omega)] at q
  · rw [bo, if_pos q]
  · rw [bo, if_neg q, Int32.add_zero]
theorem nI_m5 {n : Nat} (h : n < 2 ^ 31) : nI n ≠ -5 := by
  intro e
  exact nI_pos h (by rw [e]; decide)
def pick (x2 : Int32) (z : Nat × Int32 × Int32) : Int32 := if x2 = 0 then nI z.1 else if x2 = 1 then z.2.1 else z.2.2
theorem c_barsLoop {x1 x2 : Int32} {M0 : jM} {post : Int32 → jM → Prop} {z0 : Nat × Int32 × Int32} (h : ∀ M', (∀ b, b < 21 ∨ 33 < b → M' b = M0 b) → post (pick x2 z0) M') : ∀ (r k c : Nat) (a b g : Int32) (M : jM), k + r = 41 → c ≤ k → brR V L r k c a b = z0 → SE M (wb V g) → SLi M L → (∀ b, b < 21 ∨ 33 < b → M b = M0 b) → kX7_bars_40 G (d + 11) x1 x2 (nI c) a b (nI k) M post := by
  intro r
  induction r with
  | zero =>
    intro k c a b g M hk hc hm hS hL hf
    have := h M hf
    rw [← hm, brR, pick] at this
    refine bX7_bars_40 (ite_ti (by rw [show (40 : Int32) = nI 40 from rfl, nI_ltI (by omega) (by omega)]; omega) (ite_i (fun q => ?_) (fun q => ite_i (fun p => ?_) (fun p => ?_))))
    · rw [if_pos q] at this; exact this
    · rw [if_neg q, if_pos p] at this; exact this
    · rw [if_neg q, if_neg p] at this; exact this
  | succ r ih =>
    intro k c a b g M hk hc hm hS hL hf
    refine bX7_bars_40 (ite_fi (by rw [show (40 : Int32) = nI 40 from rfl, nI_ltI (by omega) (by omega)]; omega) ?_)
    refine c_setBar hS hL (fun M1 t1 t2 t3 => ?_)
    refine c_firstUnlawful (d := d + 8) t1 t2 (fun M2 w2 => ?_)
    have hS2 : SE M2 (wb V (nI k + bo V)) := t1.congr (fun k hk => by rw [w2 27 (by omega)]) (fun b h1 h2 => w2 b (by omega))
    have hL2 : SLi M2 L := t2.congr (by rw [w2 27 (by omega)]) (w2 31 (by omega)) (w2 32 (by omega))
    have F : ∀ b, b < 21 ∨ 33 < b → M2 b = M0 b := fun b hb => (w2 b (by omega)).trans ((t3 b (by omega)).trans (hf b hb))
    rw [brR] at hm
    rw [nI_1, nI_1]
    refine ite_i (fun q => ite_i (fun p => ?_) (fun p => ?_)) (fun q => ?_)
    · rw [if_pos q] at hm
      rw [show (1 : Int32) = nI 1 from rfl, nI_eq (by omega) (by omega)] at p
      rw [if_pos (by omega)] at hm
      exact ih (k + 1) (c + 1) _ _ _ M2 (by omega) (by omega) hm hS2 hL2 F
    · rw [if_pos q] at hm
      rw [show (1 : Int32) = nI 1 from rfl, nI_eq (by omega) (by omega)] at p
      rw [if_neg (by omega)] at hm
      exact ih (k + 1) (c + 1) _ _ _ M2 (by omega) (by omega) hm hS2 hL2 F
    · rw [if_neg q] at hm
      exact ih (k + 1) c _ _ _ M2 (by omega) (by omega) hm hS2 hL2 F
theorem c_mbarsLoop {x2 : Int32} {M0 : jM} {post : Int32 → jM → Prop} {z0 : Nat × Int32 × Int32} (hB : BLm (M0 118) n L) (h : ∀ M', (∀ b, b ≠ 117 → b ≠ 124 → b ≠ 125 → M' b = M0 b) → (∀ i, i ≠ 15 → i ≠ 18 → i ≠ 19 → i ≠ 20 → M' 117 i = M0 117 i) → post (pick x2 z0) M') : ∀ (r k c : Nat) (a b g : Int32) (M : jM), k + r = 41 → c ≤ k → (a = -5 ↔ c = 0) → brR V L r k c a b = z0 → DM M (wb V g) j → (∀ b, b ≠ 117 → b ≠ 124 → b ≠ 125 → M b = M0 b) → (∀ i, i ≠ 15 → i ≠ 18 → i ≠ 19 → i ≠ 20 → M 117 i = M0 117 i) → kX8_bars_48 G (d + 6) (nI j) x2 (bo V) (nI c) a b (nI k) M post := by
  have hB' := hB
  obtain ⟨b1, b2, b3, b4⟩ := hB'
  intro r
  induction r with
  | zero =>
    intro k c a b g M hk hc hac hm hD f1 f2
    have := h M f1 f2
    rw [← hm, brR, pick] at this
    refine bX8_bars_48 (ite_ti (by rw [show (40 : Int32) = nI 40 from rfl, nI_ltI (by omega) (by omega)]; omega) (ite_i (fun q => ?_) (fun q => ite_i (fun p => ?_) (fun p => ?_))))
    · rw [if_pos q] at this; exact this
    · rw [if_neg q, if_pos p] at this; exact this
    · rw [if_neg q, if_neg p] at this; exact this
  | succ r ih =>
    intro k c a b g M hk hc hac hm hD f1 f2
    refine bX8_bars_48 (ite_fi (by rw [show (40 : Int32) = nI 40 from rfl, nI_ltI (by omega) (by omega)]; omega) ?_)
    have hD0 : DM (jup M 117 15 (nI k + bo V)) (wb V (nI k + bo V)) j := by
      obtain ⟨d1, d2, d3, d4, d5, d6, d7⟩ := hD
      exact ⟨fun k hk => by (simp (disch := omega) only [jup_ss, jup_sn, jup_n, jup_ne]); exact d1 k hk, by (simp (disch := omega) only [jup_ss, jup_sn, jup_n, jup_ne]); rfl, d3, by (simp (disch := omega) only [jup_ss, jup_sn, jup_n, jup_ne]); exact d4, by (simp (disch := omega) only [jup_ss, jup_sn, jup_n, jup_ne]); exact d5, fun x hx => by (simp (disch := omega) only [jup_ss, jup_sn, jup_n, jup_ne]); exact d6 x hx, d7⟩
    refine c_mfirstUnlawful (n := n) (L := L) (L' := L) (by (simp (disch := omega) only [jup_ne]); rw [f1 118 (by omega) (by omega) (by omega)]; exact hB) (Tn_refl L (by omega)) hD0 (fun M1 g1 g2 => ?_)
    have hD1 : DM M1 (wb V (nI k + bo V)) j := hD0.congr (g1 122 (by omega) (by omega) (by omega)) (g1 123 (by omega) (by omega) (by omega)) (g1 118 (by omega) (by omega) (by omega)) (g2 15 (by omega) (by omega) (by omega))
    have F1 : ∀ b, b ≠ 117 → b ≠ 124 → b ≠ 125 → M1 b = M0 b := fun b h1 h2 h3 => (g1 b h1 h2 h3).trans (by (simp (disch := omega) only [jup_ne]); exact f1 b h1 h2 h3)
    have F2 : ∀ i, i ≠ 15 → i ≠ 18 → i ≠ 19 → i ≠ 20 → M1 117 i = M0 117 i := fun i h0 h1 h2 h3 => (g2 i h1 h2 h3).trans (by (simp (disch := omega) only [jup_ss, jup_sn, jup_n, jup_ne]); exact f2 i h0 h1 h2 h3)
    rw [brR] at hm
    rw [nI_1, nI_1, Int32.add_zero]
    have nk := nI_m5 (show k < 2 ^ 31 by omega)
    refine ite_i (fun q => ite_i (fun p => ?_) (fun p => ?_)) (fun q => ?_)
    · rw [if_pos q, if_pos (hac.mp p)] at hm
      exact ih (k + 1) (c + 1) _ _ _ M1 (by omega) (by omega) ⟨fun e => absurd e nk, fun e => by omega⟩ hm hD1 F1 F2
    · rw [if_pos q, if_neg (fun e => p (hac.mpr e))] at hm
      exact ih (k + 1) (c + 1) _ _ _ M1 (by omega) (by omega) ⟨fun e => absurd e p, fun e => by omega⟩ hm hD1 F1 F2
    · rw [if_neg q] at hm
      exact ih (k + 1) c _ _ _ M1 (by omega) (by omega) hac hm hD1 F1 F2
end WR
