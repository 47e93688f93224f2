theorem shl_9 : ∀ n : Nat, n < 9 → (1 : Int32) <<< (nI n &&& 31) = nI (2 ^ n) ∧ 2 ^ n ≤ 256 := by decide +kernel
theorem shr_0 : ∀ m : Nat, m < 256 → ∀ n, n < 9 → m < 2 ^ n → nI m >>> (nI n &&& 31) = 0 := by decide +kernel
theorem smod_ok : ∀ n : Nat, n < 9 → ((nI n &&& 31).toBitVec.smod 32).toNat = n := by decide +kernel
theorem shr_ne {x : Int32} {n : Nat} (hn : n < 9) (hx : ((2 ^ n : Nat) : Int) ≤ x.toInt) : ¬ x >>> (nI n &&& 31) = 0 := by
  intro e
  have e1 := congrArg Int32.toBitVec e
  rw [Int32.toBitVec_shiftRight] at e1
  have e2 := congrArg BitVec.toInt e1
  rw [BitVec.toInt_sshiftRight', smod_ok n hn, Int.shiftRight_eq_div_pow] at e2
  have e3 : x.toBitVec.toInt = x.toInt := rfl
  rw [e3, show ((0 : Int32).toBitVec).toInt = 0 from rfl] at e2
  have hp : (0 : Int) < ((2 ^ n : Nat) : Int) := by exact_mod_cast Nat.two_pow_pos n
  have := Int.ediv_mul_le x.toInt (b := ((2 ^ n : Nat) : Int)) (by omega)
  have h1 : 1 ≤ x.toInt / ((2 ^ n : Nat) : Int) := Int.le_ediv_of_mul_le hp (by omega)
  omega
section SE2
variable {G : jGT} {d : Nat} {M : jM}
/-- a set of suits, or none -/
def jset (x : Int32) (n : Nat) : Prop := jno x (2 ^ n)
theorem set_ix (x : Int32) {n : Nat} (hn : n < 9) : jset x n ∨ ∃ m : Nat, m < 2 ^ n ∧ m < 256 ∧ x = nI m := by
  have := (shl_9 n hn).2
  rcases jix x (n := 2 ^ n) (by omega) with h | ⟨m, h1, h2⟩
  · exact Or.inl h
  · exact Or.inr ⟨m, h1, by omega, h2⟩
theorem t_hasSuits_n {x : Int32} {n : Nat} {post : Int32 → jM → Prop} (hS : M 1 1 = nI n) (hn : n ≤ 8) (hx : jset x n) (h : post 0 M) : CI G d mX2_hasSuits [.ref 1, .int x] M post := by
  refine eX2_hasSuits (bX2_hasSuits_0 ?_)
  rw [hS, (shl_9 n (by omega)).1]
  rcases hx with hx | hx
  · exact ite_ti hx h
  · by_cases z : x < 0
    · exact ite_ti z h
    · exact ite_fi z (ite_ti hx h)
theorem t_hasSuits_y {m n : Nat} {post : Int32 → jM → Prop} (hS : M 1 1 = nI n) (hn : n ≤ 8) (hx : m < 2 ^ n) (h : post 1 M) : CI G d mX2_hasSuits [.ref 1, .int (nI m)] M post := by
  obtain ⟨s1, s2⟩ := shl_9 n (by omega)
  refine eX2_hasSuits (bX2_hasSuits_0 ?_)
  rw [hS, s1]
  exact ite_fi (nI_pos (by omega)) (ite_fi (by rw [nI_leI (by omega) (by omega)]; omega) h)
theorem t_isSet_n {x : Int32} {n : Nat} {post : Int32 → jM → Prop} (hS : M 118 0 = nI n) (hn : n ≤ 8) (hx : jset x n) (h : post 0 M) : CI G d mX8_isSet [.ref 117, .int x] M post := by
  refine eX8_isSet (bX8_isSet_0 ?_)
  rw [hS]
  by_cases z : x < 0
  · exact ite_ti z h
  · refine ite_fi z (ite_fi ?_ h)
    rcases hx with hx | hx
    · exact absurd hx z
    · refine shr_ne (by omega) ?_
      have := (shl_9 n (by omega)).2
      rw [Int32.le_iff_toInt_le, nI_toInt (by omega)] at hx
      exact hx
theorem t_isSet_y {m n : Nat} {post : Int32 → jM → Prop} (hS : M 118 0 = nI n) (hn : n ≤ 8) (hx : m < 2 ^ n) (h : post 1 M) : CI G d mX8_isSet [.ref 117, .int (nI m)] M post := by
  obtain ⟨s1, s2⟩ := shl_9 n (by omega)
  refine eX8_isSet (bX8_isSet_0 ?_)
  rw [hS, shr_0 m (by omega) n (by omega) hx]
  exact ite_fi (nI_pos (by omega)) (ite_ti rfl h)
end SE2
section OR
variable {G : jGT} {V : jEv} {P W : Nat → Nat} {n nS j : Nat}
/-- what the model's search may change -/
def Mf (M0 M : jM) : Prop := (∀ b, b ≠ 117 → (b < 124 ∨ 127 < b) → M b = M0 b) ∧ ∀ i, i ≠ 18 → i ≠ 19 → i ≠ 20 → i ≠ 23 → i ≠ 25 → M 117 i = M0 117 i
theorem Mf.refl (M : jM) : Mf M M := ⟨fun _ _ _ => rfl, fun _ _ _ _ _ _ => rfl⟩
theorem Mf.trans {M M' M'' : jM} (h : Mf M M') (h' : Mf M' M'') : Mf M M'' := ⟨fun b h1 h2 => (h'.1 b h1 h2).trans (h.1 b h1 h2), fun i h1 h2 h3 h4 h5 => (h'.2 i h1 h2 h3 h4 h5).trans (h.2 i h1 h2 h3 h4 h5)⟩
theorem DM.mf {M M' : jM} (h : DM M V j) (k : Mf M M') : DM M' V j := h.congr (k.1 122 (by omega) (by omega)) (k.1 123 (by omega) (by omega)) (k.1 118 (by omega) (by omega)) (k.2 15 (by omega) (by omega) (by omega) (by omega) (by omega))
/-- the model's suits -/
def PM (M : jM) (nS : Nat) (P W : Nat → Nat) : Prop := nS ≤ 8 ∧ M 118 0 = nI nS ∧ (∀ s, s < nS → M 118 (10 + s) = nI (P s) ∧ M 118 (18 + s) = nI (W s)) ∧ ∀ s, P s < 256 ∧ W s < 100
theorem PW.pm {M : jM} (h : PW M nS P W) : PM M nS P W := ⟨h.1, h.2.2.1, fun s hs => (h.2.2.2.1 s hs).2.2, h.2.2.2.2.2⟩
theorem PM.congr {M M' : jM} (h : PM M nS P W) (e : M' 118 = M 118) : PM M' nS P W := by unfold PM at *; rw [e]; exact h
theorem bM.congr {M M' : jM} {n : Nat} {x : jBs} (h : bM M n x) (e1 : M' 117 23 = M 117 23) (e2 : M' 127 = M 127) : bM M' n x := by
  unfold bM at *
  rw [e1, e2]
  exact h
theorem c_o63_0 {d : Nat} {x1 x3 x4 : Int32} {M : jM} {post : jM → Prop} (hP : PM M nS P W) (h : post M) : ∀ (q s : Nat), s + q = nS → kX8_ordersFrom_63 G d x1 0 x3 x4 (nI s) M post := by
  obtain ⟨p1, p2, p3, p4⟩ := hP
  intro q
  induction q with
  | zero => intro s hs; exact bX8_ordersFrom_63 (ite_ti (by rw [p2, nI_leI (by omega) (by omega)]; omega) h)
  | succ q ih =>
    intro s hs
    have := bit_ok 0 (by omega) s (by omega)
    rw [show nI 0 = (0 : Int32) from rfl] at this
    refine bX8_ordersFrom_63 (ite_fi (by rw [p2, nI_leI (by omega) (by omega)]; omega) ?_)
    rw [this, nI_1]
    refine ite_fi (by rw [Nat.zero_testBit]; decide) (ih (s + 1) (by omega))
theorem c_o22 {d : Nat} {x1 x2 x4 : Int32} {tr : Nat → Nat} {M0 : jM} {post : jM → Prop} (hn : n ≤ 6) (ht : ∀ k, k < n → M0 126 k = nI (tr k)) (h : ∀ M', (∀ b, b ≠ 127 → M' b = M0 b) → (∀ k, k < 6 → M' 127 k = if k < n then nI (tr k) else -5) → kX8_ordersFrom_63 G d x1 x2 (nI n) x4 0 M' post) : ∀ (q s : Nat) (M : jM), s + q = 6 → (∀ b, b ≠ 127 → M b = M0 b) → (∀ k, k < s → M 127 k = if k < n then nI (tr k) else -5) → kX8_ordersFrom_22 G d x1 x2 (nI n) x4 (nI s) M post := by
  intro q
  induction q with
  | zero => intro s M hs f1 f2; obtain rfl : s = 6 := by omega
            exact bX8_ordersFrom_22 (ite_ti (by decide) (h M f1 f2))
  | succ q ih =>
    intro s M hs f1 f2
    refine bX8_ordersFrom_22 (ite_fi (by rw [show (6 : Int32) = nI 6 from rfl, nI_leI (by omega) (by omega)]; omega) ?_)
    rw [nI_1, nI_clamp (by omega)]
    have st : ∀ z : Int32, (z = if s < n then nI (tr s) else -5) → kX8_ordersFrom_22 G d x1 x2 (nI n) x4 (nI (s + 1)) (jup M 127 s z) post := fun z hz => ih (s + 1) _ (by omega) (fun b hb => by (simp (disch := omega) only [jup_ne]); exact f1 b hb) (fun k hk => by
      by_cases e : k = s
      · subst e; rw [jup_ss]; exact hz
      · (simp (disch := omega) only [jup_ss, jup_sn, jup_n, jup_ne]); exact f2 k (by omega))
    refine ite_i (fun p => ?_) (fun p => ?_) <;> rw [nI_leI (by omega) (by omega)] at p
    · exact ⟨vp_in_nI (by omega) (by omega), st _ (by rw [if_neg (by omega)])⟩
    · exact ⟨vp_in_nI (by omega) (by omega), vp_in_nI (by omega) (by omega), st _ (by rw [if_pos (by omega), f1 126 (by omega)]; exact ht s (by omega))⟩
theorem c_mtake {d : Nat} {x1 x2 : Int32} {M : jM} {won : Nat} {tr : Nat → Nat} {x : jBs} {post : jM → Prop} (hn : n ≤ 6) (hw : won ≤ 1000) (hx : bM M n x) (ht : ∀ k, k < n → M 126 k = nI (tr k)) (hP : PM M nS P W) (h : ∀ M', bM M' n (bUp won tr x) → (∀ b, b ≠ 117 → b ≠ 127 → M' b = M b) → (∀ i, i ≠ 23 → M' 117 i = M 117 i) → post M') : if nI won ≤ (M 117 23) then kX8_ordersFrom_63 G d x1 0 (nI n) (nI won) 0 M post else kX8_ordersFrom_22 G d x1 0 (nI n) (nI won) 0 (jup M 117 23 (nI won)) post := by
  have new : (∀ M', bM M' n (some (won, tr)) → (∀ b, b ≠ 117 → b ≠ 127 → M' b = M b) → (∀ i, i ≠ 23 → M' 117 i = M 117 i) → post M') → kX8_ordersFrom_22 G d x1 0 (nI n) (nI won) 0 (jup M 117 23 (nI won)) post := by
    intro h
    refine c_o22 (M0 := jup M 117 23 (nI won)) (tr := tr) hn (fun k hk => by (simp (disch := omega) only [jup_ss, jup_sn, jup_n, jup_ne]); exact ht k hk) (fun M' g1 g2 => ?_) 6 0 _ rfl (fun _ _ => rfl) (fun k hk => by omega)
    have e118 : M' 118 = M 118 := (g1 118 (by omega)).trans (by (simp (disch := omega) only [jup_ne]))
    refine c_o63_0 (P := P) (W := W) (nS := nS) (hP.congr e118) (h M' ⟨by rw [g1 117 (by omega)]; (simp (disch := omega) only [jup_ss, jup_sn, jup_n, jup_ne]), hw, fun k hk => by rw [g2 k (by omega), if_pos hk], fun k k1 k2 => by rw [g2 k k2, if_neg (by omega)]⟩ (fun b b1 b2 => (g1 b b2).trans (by (simp (disch := omega) only [jup_ne]))) (fun i hi => by rw [g1 117 (by omega)]; (simp (disch := omega) only [jup_ss, jup_sn, jup_n, jup_ne]))) nS 0 (by omega)
  cases x with
  | none =>
    have hx : M 117 23 = -1 := hx
    rw [hx]
    exact ite_fi (nI_le_m1 (by omega)) (new h)
  | some y =>
    obtain ⟨m, row⟩ := y
    obtain ⟨h1, h2, h3⟩ := hx
    rw [h1]
    unfold bUp at h
    dsimp only at h
    refine ite_i (fun q => ?_) (fun q => ?_) <;> rw [nI_leI (by omega) (by omega)] at q
    · rw [if_pos q] at h
      exact c_o63_0 (P := P) (W := W) (nS := nS) hP (h M ⟨h1, h2, h3⟩ (fun _ _ _ => rfl) (fun _ _ => rfl)) nS 0 (by omega)
    · rw [if_neg q] at h
      exact new h
theorem c_orders (hn : n ≤ 6) : ∀ (r : Nat) (d : Nat) (L : List (Nat × Nat)) (left dp won : Nat) (tr : Nat → Nat) (x : jBs) (M : jM) (post : jM → Prop), dp + r = n → left < 256 → left < 2 ^ nS → pop8 left = r → L.length + r ≤ 80 → won ≤ 100 * dp → PM M nS P W → DM M V j → DL M L → bM M n x → (∀ k, k < dp → M 126 k = nI (tr k)) →
    (∀ M', DL M' L → bM M' n (bGo V P W r L left dp won tr x) → (∀ k, k < dp → M' 126 k = nI (tr k)) → Mf M M' → post M') → CV G (d + r + 7) mX8_ordersFrom [.ref 117, .int (nI j), .int (nI left), .int (nI dp), .int (nI won)] M post := by
  intro r
  induction r with
  | zero =>
    intro d L left dp won tr x M post hdp hl hl2 hp hlen hw hP hD hL hx ht h
    obtain rfl : left = 0 := (pop_0 left hl).mp hp
    obtain rfl : dp = n := by omega
    rw [bGo] at h
    have := c_mtake (G := G) (d := d + 6) (x1 := nI j) (x2 := 0) (nS := nS) (P := P) (W := W) hn (by omega) hx ht hP (post := post) (fun M' g1 g2 g3 => h M' (hL.congr (g2 124 (by omega) (by omega)) (g2 125 (by omega) (by omega)) (g3 18 (by omega))) g1 (fun k hk => by rw [g2 126 (by omega) (by omega)]; exact ht k hk) ⟨fun b b1 b2 => g2 b b1 (by omega), fun i i1 i2 i3 i4 _ => g3 i i4⟩)
    exact eX8_ordersFrom (bX8_ordersFrom_0 (ite_ti rfl this))
  | succ r ih =>
    intro d L left dp won tr x M post hdp hl hl2 hp hlen hw hP hD hL hx ht h
    have h0 : left ≠ 0 := fun z => by have := (pop_0 left hl).mpr z; omega
    obtain ⟨P1, P2, P3, P4⟩ := id hP
    rw [bGo] at h
    rw [show d + (r + 1) + 7 = d + r + 7 + 1 by omega]
    refine eX8_ordersFrom (bX8_ordersFrom_0 (ite_fi (by rw [show (0 : Int32) = nI 0 from rfl, nI_eq (by omega) (by omega)]; exact h0) ?_))
    generalize hf : (fun s y => bGo V P W r (vE V (P s) L) (left ^^^ 2 ^ s) (dp + 1) (won + if vD V (P s) L = true then W s else 0) (fun i => if i = dp then s else tr i) y) = f at h
    have loop : ∀ (q s : Nat) (y : jBs) (M1 : jM), s + q = 8 → s ≤ nS → DL M1 L → bM M1 n y → (∀ k, k < dp → M1 126 k = nI (tr k)) → Mf M M1 → bLoop f left q s y = bLoop f left 8 0 x → kX8_ordersFrom_63 G (d + r + 7) (nI j) (nI left) (nI dp) (nI won) (nI s) M1 post := by
      intro q
      induction q with
      | zero =>
        intro s y M1 hs hs2 i1 i2 i3 i4 i5
        refine bX8_ordersFrom_63 (ite_ti (by rw [i4.1 118 (by omega) (by omega), P2, nI_leI (by omega) (by omega)]; omega) (h M1 i1 ?_ i3 i4))
        rw [← i5, bLoop]
        exact i2
      | succ q ihq =>
        intro s y M1 hs hs2 i1 i2 i3 i4 i5
        have e118 : M1 118 = M 118 := i4.1 118 (by omega) (by omega)
        by_cases hsn : s = nS
        · refine bX8_ordersFrom_63 (ite_ti (by rw [e118, P2, nI_leI (by omega) (by omega)]; omega) (h M1 i1 ?_ i3 i4))
          rw [← i5, bLoop_none (q + 1) s y (fun i h1 h2 => bit_hi left hl nS (by omega) hl2 i (by omega) (by omega))]
          exact i2
        refine bX8_ordersFrom_63 (ite_fi (by rw [e118, P2, nI_leI (by omega) (by omega)]; omega) ?_)
        rw [bit_ok left hl s (by omega)]
        rw [bLoop] at i5
        refine ite_i (fun hb => ?_) (fun hb => ?_) <;> rw [show (1 : Int32) = jz true from rfl, jz_eq] at hb
        · rw [if_pos hb] at i5
          obtain ⟨p1, p2, p3⟩ := pop_ok left hl s (by omega) hb
          obtain ⟨q1, q2⟩ := P4 s
          have lt2 : left ^^^ 2 ^ s < 2 ^ nS := Nat.xor_lt_two_pow hl2 (Nat.pow_lt_pow_right (by omega) (by omega))
          rw [p3, nI_1, show (10 : Int32) = nI 10 from rfl, nI_add, nI_clamp (by omega), nI_clamp (by omega), e118, (P3 s (by omega)).1]
          refine ⟨vp_in_nI (by omega) (by omega), vp_in_nI (by omega) (by omega), ?_⟩
          have F1 : Mf M (jup M1 126 dp (nI s)) := i4.trans ⟨fun b b1 b2 => by (simp (disch := omega) only [jup_ne]), fun i _ _ _ _ _ => by (simp (disch := omega) only [jup_ss, jup_sn, jup_n, jup_ne])⟩
          refine c_hears (d := d + r + 1) (hD.mf F1) (i1.congr (by (simp (disch := omega) only [jup_ne])) (by (simp (disch := omega) only [jup_ne])) (by (simp (disch := omega) only [jup_ss, jup_sn, jup_n, jup_ne]))) (by omega) q1 (fun M2 g1 g2 g3 => ?_)
          have F2 : Mf M M2 := F1.trans ⟨fun b b1 b2 => g2 b b1 (by omega) (by omega), fun i i1 i2 i3 _ _ => g3 i i1 i2 i3⟩
          have y2 : bM M2 n y := by
            have a1 : M2 117 23 = M1 117 23 := (g3 23 (by omega) (by omega) (by omega)).trans (by (simp (disch := omega) only [jup_ss, jup_sn, jup_n, jup_ne]))
            have a2 : M2 127 = M1 127 := (g2 127 (by omega) (by omega) (by omega)).trans (by (simp (disch := omega) only [jup_ne]))
            unfold bM at *
            rw [a1, a2]
            exact i2
          have t2 : ∀ k, k < dp + 1 → M2 126 k = nI ((fun i => if i = dp then s else tr i) k) := by
            intro k hk
            rw [g2 126 (by omega) (by omega) (by omega)]
            dsimp only
            by_cases e : k = dp
            · subst e; rw [if_pos rfl]; (simp (disch := omega) only [jup_ss, jup_sn, jup_n, jup_ne])
            · rw [if_neg e]; (simp (disch := omega) only [jup_ss, jup_sn, jup_n, jup_ne]); exact i3 k (by omega)
          have next : ∀ w : Nat, w = (if vD V (P s) L = true then W s else 0) → CV G (d + r + 7) mX8_ordersFrom [.ref 117, .int (nI j), .int (nI (left ^^^ 2 ^ s)), .int (nI (dp + 1)), .int (nI won + nI w)] M2 (fun M3 => kX8_ordersFrom_63 G (d + r + 7) (nI j) (nI left) (nI dp) (nI won) (nI s + 1) (jup M3 117 18 ((M3 117 18) - 1)) post) := by
            intro w hw'
            have hw100 : w ≤ 100 := by rw [hw']; split <;> omega
            rw [nI_add]
            refine ih d (vE V (P s) L) (left ^^^ 2 ^ s) (dp + 1) (won + w) _ y M2 _ (by omega) p2 lt2 (by omega) (by unfold vE; rw [List.length_append, List.length_singleton]; omega) (by omega) (hP.congr (F2.1 118 (by omega) (by omega))) (hD.mf F2) g1 y2 t2 (fun M3 k1 k2 k3 k4 => ?_)
            rw [nI_1]
            have e18 : (M3 117 18) - 1 = nI L.length := by
              rw [k1.1]
              unfold vE
              rw [List.length_append, List.length_singleton]
              exact pk_sub (a := L.length + 1) (b := 1) (by omega)
            rw [e18]
            have b3 : bM M3 n (f s y) := by rw [← hf]; rw [hw'] at k2; exact k2
            refine ihq (s + 1) (f s y) _ (by omega) (by omega) (DL_pop k1 (by (simp (disch := omega) only [jup_ss, jup_sn, jup_n, jup_ne])) (by (simp (disch := omega) only [jup_ne])) (by (simp (disch := omega) only [jup_ne]))) (b3.congr (by (simp (disch := omega) only [jup_ss, jup_sn, jup_n, jup_ne])) (by (simp (disch := omega) only [jup_ne]))) (fun k hk => ?_) (F2.trans (k4.trans ⟨fun b b1 b2 => by (simp (disch := omega) only [jup_ne]), fun i i1 _ _ _ _ => by (simp (disch := omega) only [jup_ss, jup_sn, jup_n, jup_ne])⟩)) i5
            · (simp (disch := omega) only [jup_ss, jup_sn, jup_n, jup_ne])
              rw [k3 k (by omega), if_neg (by omega)]
          refine ite_i (fun hq => ?_) (fun hq => ?_) <;> rw [jz_ff] at hq
          · exact next 0 (by rw [if_neg (by rw [hq]; decide)])
          · rw [show (18 : Int32) = nI 18 from rfl, nI_add, nI_clamp (by omega), F2.1 118 (by omega) (by omega), (P3 s (by omega)).2]
            refine ⟨vp_in_nI (by omega) (by omega), ?_⟩
            exact next (W s) (by rw [if_pos (by simpa using hq)])
        · rw [if_neg hb] at i5
          rw [nI_1]
          exact ihq (s + 1) y M1 (by omega) (by omega) i1 i2 i3 i4 i5
    exact loop 8 0 x M rfl (by omega) hL hx ht (Mf.refl M) rfl
end OR
