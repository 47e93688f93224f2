abbrev jBs : Type := Option (Nat × (Nat → Nat))
def bUp (won : Nat) (tr : Nat → Nat) (x : jBs) : jBs := match x with
  | none => some (won, tr)
  | some (m, row) => if won ≤ m then some (m, row) else some (won, tr)
def bLoop {α : Type} (f : Nat → α → α) (left : Nat) : Nat → Nat → α → α
  | 0, _, x => x
  | q + 1, s, x => bLoop f left q (s + 1) (if left.testBit s = true then f s x else x)
/-- the orders in which what is left may be brought, the best so far -/
def bGo (V : jEv) (P W : Nat → Nat) : Nat → List (Nat × Nat) → Nat → Nat → Nat → (Nat → Nat) → jBs → jBs
  | 0, _, _, _, won, tr, x => bUp won tr x
  | r + 1, L, left, dp, won, tr, x => bLoop (fun s y => bGo V P W r (vE V (P s) L) (left ^^^ 2 ^ s) (dp + 1) (won + if vD V (P s) L = true then W s else 0) (fun i => if i = dp then s else tr i) y) left 8 0 x
theorem bLoop_none {α : Type} {f : Nat → α → α} {left : Nat} : ∀ (q s : Nat) (x : α), (∀ i, s ≤ i → i < s + q → left.testBit i = false) → bLoop f left q s x = x := by
  intro q
  induction q with
  | zero => intro s x _; rfl
  | succ q ih =>
    intro s x h
    rw [bLoop, if_neg (by rw [h s (by omega) (by omega)]; decide)]
    exact ih (s + 1) x fun i h1 h2 => h i (by omega) (by omega)
theorem bLoop_some {f : Nat → jBs → jBs} {left : Nat} (hf : ∀ s x, left.testBit s = true → ∃ y, f s x = some y) : ∀ (q s : Nat) (x : jBs), ((∃ y, x = some y) ∨ ∃ i, s ≤ i ∧ i < s + q ∧ left.testBit i = true) → ∃ y, bLoop f left q s x = some y := by
  intro q
  induction q with
  | zero =>
    intro s x h
    rcases h with h | ⟨i, h1, h2, -⟩
    · exact h
    · omega
  | succ q ih =>
    intro s x h
    rw [bLoop]
    refine ih (s + 1) _ ?_
    by_cases hb : left.testBit s = true
    · rw [if_pos hb]; exact Or.inl (hf s x hb)
    · rw [if_neg hb]
      rcases h with h | ⟨i, h1, h2, h3⟩
      · exact Or.inl h
      · refine Or.inr ⟨i, ?_, by omega, h3⟩
        by_cases e : i = s
        · subst e; exact absurd h3 hb
        · omega
theorem bit_ex : ∀ m : Nat, m < 256 → m ≠ 0 → ∃ i, i < 8 ∧ m.testBit i = true := by decide +kernel
theorem bGo_some {V : jEv} {P W : Nat → Nat} : ∀ (r : Nat) (L : List (Nat × Nat)) (left dp won : Nat) (tr : Nat → Nat) (x : jBs), left < 256 → pop8 left = r → ∃ y, bGo V P W r L left dp won tr x = some y := by
  intro r
  induction r with
  | zero =>
    intro L left dp won tr x _ _
    rw [bGo]
    cases x with
    | none => exact ⟨_, rfl⟩
    | some y =>
      unfold bUp
      dsimp only
      split
      · exact ⟨_, rfl⟩
      · exact ⟨_, rfl⟩
  | succ r ih =>
    intro L left dp won tr x h1 h2
    rw [bGo]
    have h0 : left ≠ 0 := fun z => by have := (pop_0 left h1).mpr z; omega
    obtain ⟨i, i1, i2⟩ := bit_ex left h1 h0
    refine bLoop_some (fun s y hb => ?_) 8 0 x (Or.inr ⟨i, by omega, by omega, i2⟩)
    have hs : s < 8 := Nat.not_le.mp fun z => by
      have : left < 2 ^ s := Nat.lt_of_lt_of_le h1 (by rw [show 256 = 2 ^ 8 from rfl]; exact Nat.pow_le_pow_right (by omega) z)
      rw [Nat.testBit_lt_two_pow this] at hb
      cases hb
    obtain ⟨p1, p2, -⟩ := pop_ok left h1 s hs hb
    exact ih _ _ _ _ _ _ p2 (by omega)
/-- the best so far, in the class and in the model -/
def bC (M : jM) (n : Nat) (x : jBs) : Prop := match x with
  | none => M 35 5 = -1
  | some (m, row) => M 35 5 = nI m ∧ m ≤ 1000 ∧ ∀ k, k < n → M 39 k = nI (row k)
def bM (M : jM) (n : Nat) (x : jBs) : Prop := match x with
  | none => M 117 23 = -1
  | some (m, row) => M 117 23 = nI m ∧ m ≤ 1000 ∧ (∀ k, k < n → M 127 k = nI (row k)) ∧ ∀ k, n ≤ k → k < 6 → M 127 k = -5
theorem bC.congr {M M' : jM} {n : Nat} {x : jBs} (h : bC M n x) (e1 : M' 35 5 = M 35 5) (e2 : M' 39 = M 39) : bC M' n x := by
  unfold bC at *
  rw [e1, e2]
  exact h
theorem nI_le_m1 {n : Nat} (h : n < 2 ^ 31) : ¬ nI n ≤ -1 := by
  rw [Int32.le_iff_toInt_le, nI_toInt h, show (-1 : Int32).toInt = -1 from by decide]; omega
section BR
variable {G : jGT} {V : jEv} {L0 : List (Nat × Nat)} {P W : Nat → Nat} {n : Nat}
theorem c_take {M : jM} {won : Nat} {tr : Nat → Nat} {x : jBs} {post : jM → Prop} (hn : n ≤ 6) (hw : won ≤ 1000) (hx : bC M n x) (ht : ∀ k, k < n → M 38 k = nI (tr k)) (h : ∀ M', bC M' n (bUp won tr x) → (∀ b, b ≠ 35 → b ≠ 39 → M' b = M b) → post M') : if nI won ≤ (M 35 5) then post M else post (jcp (jup M 35 5 (nI won)) 39 38 6) := by
  have new : bC (jcp (jup M 35 5 (nI won)) 39 38 6) n (some (won, tr)) := by
    refine ⟨?_, hw, fun k hk => ?_⟩
    · unfold jcp; rw [if_neg (by omega)]; (simp (disch := omega) only [jup_ss, jup_sn, jup_n, jup_ne])
    · unfold jcp; rw [if_pos rfl, if_pos (by omega)]; (simp (disch := omega) only [jup_ss, jup_sn, jup_n, jup_ne]); exact ht k hk
  have fr : ∀ b, b ≠ 35 → b ≠ 39 → (jcp (jup M 35 5 (nI won)) 39 38 6) b = M b := by
    intro b b1 b2
    funext i
    unfold jcp
    rw [if_neg b2]
    (simp (disch := omega) only [jup_ss, jup_sn, jup_n, jup_ne])
  cases x with
  | none =>
    have hx : M 35 5 = -1 := hx
    rw [hx]
    exact ite_fi (nI_le_m1 (by omega)) (h _ new fr)
  | some y =>
    obtain ⟨m, row⟩ := y
    obtain ⟨h1, h2, h3⟩ := hx
    rw [h1]
    unfold bUp at h
    dsimp only at h
    refine ite_i (fun q => ?_) (fun q => ?_) <;> rw [nI_leI (by omega) (by omega)] at q
    · rw [if_pos q] at h
      exact h M ⟨h1, h2, h3⟩ (fun _ _ _ => rfl)
    · rw [if_neg q] at h
      exact h _ new fr
def bInv (M : jM) (V : jEv) (P W : Nat → Nat) (L0 L : List (Nat × Nat)) : Prop := SE M V ∧ SLi M L ∧ PT M V P W L0 8 ∧ Ext L0 L
theorem bInv.congr {M M' : jM} {V : jEv} {P W : Nat → Nat} {L0 L : List (Nat × Nat)} (h : bInv M V P W L0 L) (h1 : ∀ b, (27 ≤ b ∧ b < 33) ∨ b = 37 ∨ (40 ≤ b ∧ b < 48) → M' b = M b) : bInv M' V P W L0 L := by
  obtain ⟨a, b, c, e⟩ := h
  exact ⟨a.congr (fun k hk => by rw [h1 27 (by omega)]) (fun b h2 h3 => h1 b (by omega)), b.congr (by rw [h1 27 (by omega)]) (h1 31 (by omega)) (h1 32 (by omega)), c.congr (by omega) (fun s hs => h1 _ (by omega)) (h1 37 (by omega)), e⟩
theorem c_bring (hP : ∀ s, P s < 256 ∧ W s < 100) (hn : n ≤ 6) : ∀ (r : Nat) (d : Nat) (L : List (Nat × Nat)) (left dp won : Nat) (tr : Nat → Nat) (x : jBs) (M : jM) (post : jM → Prop), dp + r = n → left < 256 → pop8 left = r → L.length + r ≤ 80 → won ≤ 100 * dp → bInv M V P W L0 L → bC M n x → (∀ k, k < dp → M 38 k = nI (tr k)) →
    (∀ M', bInv M' V P W L0 L → bC M' n (bGo V P W r L left dp won tr x) → (∀ k, k < dp → M' 38 k = nI (tr k)) → (∀ b, b < 27 ∨ b = 28 ∨ b = 29 ∨ b = 30 ∨ b = 33 ∨ 36 ≤ b ∧ b < 38 ∨ 39 < b → M' b = M b) → post M') → CV G (d + r + 6) mX4_bring [.ref 35, .int (nI left), .int (nI dp), .int (nI won)] M post := by
  intro r
  induction r with
  | zero =>
    intro d L left dp won tr x M post hdp hl hp hlen hw hI hx ht h
    obtain rfl : left = 0 := (pop_0 left hl).mp hp
    obtain rfl : dp = n := by omega
    rw [bGo] at h
    refine eX4_bring (bX4_bring_0 (ite_ti rfl (c_take hn (by omega) hx ht (fun M' g1 g2 => h M' (hI.congr fun b hb => g2 b (by omega) (by omega)) g1 (fun k hk => by rw [g2 38 (by omega) (by omega)]; exact ht k hk) (fun b hb => g2 b (by omega) (by omega))))))
  | succ r ih =>
    intro d L left dp won tr x M post hdp hl hp hlen hw hI hx ht h
    have h0 : left ≠ 0 := fun z => by have := (pop_0 left hl).mpr z; omega
    rw [bGo] at h
    rw [show d + (r + 1) + 6 = d + r + 5 + 2 by omega]
    refine eX4_bring (bX4_bring_0 (ite_fi (by rw [show (0 : Int32) = nI 0 from rfl, nI_eq (by omega) (by omega)]; exact h0) (ite_ti (by rw [show (6 : Int32) = nI 6 from rfl, nI_ltI (by omega) (by omega)]; omega) ?_)))
    -- the loop over the suits
    have loop : ∀ (q s : Nat) (y : jBs) (M1 : jM), s + q = 8 → bInv M1 V P W L0 L → bC M1 n y → (∀ k, k < dp → M1 38 k = nI (tr k)) → (∀ b, b < 27 ∨ b = 28 ∨ b = 29 ∨ b = 30 ∨ b = 33 ∨ 36 ≤ b ∧ b < 38 ∨ 39 < b → M1 b = M b) → bLoop (fun s y => bGo V P W r (vE V (P s) L) (left ^^^ 2 ^ s) (dp + 1) (won + if vD V (P s) L = true then W s else 0) (fun i => if i = dp then s else tr i) y) left q s y = bLoop (fun s y => bGo V P W r (vE V (P s) L) (left ^^^ 2 ^ s) (dp + 1) (won + if vD V (P s) L = true then W s else 0) (fun i => if i = dp then s else tr i) y) left 8 0 x → kX4_bring_42 G (d + r + 5) (nI left) (nI dp) (nI won) (nI s) M1 post := by
      intro q
      induction q with
      | zero =>
        intro s y M1 hs i1 i2 i3 i4 i5
        obtain rfl : s = 8 := by omega
        refine bX4_bring_42 (ite_ti (by decide) (h M1 i1 ?_ i3 i4))
        rw [← i5, bLoop]
        exact i2
      | succ q ihq =>
        intro s y M1 hs i1 i2 i3 i4 i5
        refine bX4_bring_42 (ite_fi (by rw [show (8 : Int32) = nI 8 from rfl, nI_leI (by omega) (by omega)]; omega) ?_)
        rw [bit_ok left hl s (by omega), nI_1]
        rw [bLoop] at i5
        refine ite_i (fun hb => ?_) (fun hb => ?_) <;> rw [show (1 : Int32) = jz true from rfl, jz_eq] at hb
        · rw [if_pos hb] at i5
          obtain ⟨p1, p2, -⟩ := pop_ok left hl s (by omega) hb
          obtain ⟨j1, j2, j3, j4⟩ := id i1
          obtain ⟨q1, q2⟩ := hP s
          refine ⟨vp_in_nI (by omega) (by omega), ?_⟩
          rw [nI_clamp (by omega)]
          refine c_winsPT (d := d + r + 3) (by omega) q1 j3 j4 j1 j2 (fun M2 w2 => ⟨vp_in_nI (by omega) (by omega), vp_in_nI (by omega) (by omega), ?_⟩)
          rw [nI_clamp (by omega)]
          have I2 : bInv (jup M2 38 dp (nI s)) V P W L0 L := i1.congr fun b hb => by rw [jup_ne (by omega)]; exact w2 b (by omega)
          have e40 : (jup M2 38 dp (nI s)) (40 + s) 0 = nI (P s) := (I2.2.2.1 s (by omega)).1.1
          rw [e40, ← nI_toNat]
          obtain ⟨k1, k2, k3, k4⟩ := id I2
          refine c_push k2 (by omega) q1 (by cases vD V (P s) L <;> decide) (fun M3 s1 s2 s3 => ?_)
          have I3 : bInv M3 V P W L0 (vE V (P s) L) := ⟨k1.congr (fun k hk => s3 k (by omega)) (fun b h1 h2 => s2 b (by omega) (by omega) (by omega)), s1, k3.congr (by omega) (fun i hi => s2 _ (by omega) (by omega) (by omega)) (s2 37 (by omega) (by omega) (by omega)), k4.app⟩
          have y3 : bC M3 n y := i2.congr (by rw [s2 35 (by omega) (by omega) (by omega)]; (simp (disch := omega) only [jup_ne]); rw [w2 35 (by omega)]) (by rw [s2 39 (by omega) (by omega) (by omega)]; (simp (disch := omega) only [jup_ne]); exact w2 39 (by omega))
          have t3 : ∀ k, k < dp + 1 → M3 38 k = nI ((fun i => if i = dp then s else tr i) k) := by
            intro k hk
            rw [s2 38 (by omega) (by omega) (by omega)]
            dsimp only
            by_cases e : k = dp
            · subst e; rw [if_pos rfl]; (simp (disch := omega) only [jup_ss, jup_sn, jup_n, jup_ne])
            · rw [if_neg e]; (simp (disch := omega) only [jup_ss, jup_sn, jup_n, jup_ne]); rw [w2 38 (by omega)]; exact i3 k (by omega)
          have next : ∀ w : Nat, w = (if vD V (P s) L = true then W s else 0) → CV G (d + r + 6) mX4_bring [.ref 35, .int (nI (left ^^^ 2 ^ s)), .int (nI (dp + 1)), .int (nI won + nI w)] M3 (fun M4 => CV G (d + r + 6) mX5_pop [.ref 27] M4 (fun M5 => kX4_bring_42 G (d + r + 5) (nI left) (nI dp) (nI won) (nI (s + 1)) M5 post)) := by
            intro w hw'
            have hw100 : w ≤ 100 := by rw [hw']; split <;> omega
            rw [nI_add]
            refine ih d (vE V (P s) L) (left ^^^ 2 ^ s) (dp + 1) (won + w) _ y M3 _ (by omega) p2 (by omega) (by unfold vE; rw [List.length_append, List.length_singleton]; omega) (by omega) I3 y3 t3 (fun M4 g1 g2 g3 g4 => ?_)
            obtain ⟨l1, l2, l3, l4⟩ := g1
            refine c_pop (d := d + r + 5) l2 (fun M5 v1 v2 v3 => ?_)
            refine ihq (s + 1) _ M5 (by omega) ⟨l1.congr (fun k hk => v3 k (by omega)) (fun b h1 h2 => v2 b (by omega)), v1, l3.congr (by omega) (fun i hi => v2 _ (by omega)) (v2 37 (by omega)), j4⟩ (g2.congr (by rw [v2 35 (by omega)]) (v2 39 (by omega))) (fun k hk => ?_) (fun b hb => ?_) ?_
            · rw [v2 38 (by omega), g3 k (by omega), if_neg (by omega)]
            · rw [v2 b (by omega), g4 b hb, s2 b (by omega) (by omega) (by omega), jup_ne (by omega), w2 b (by omega)]
              exact i4 b hb
            · rw [← i5, hw']
          have x1 := (xor_ok left hl s (by omega)).1
          rw [x1, nI_toNat, nI_1]
          refine ite_i (fun hf => ?_) (fun hf => ⟨vp_in_nI (by omega) (by omega), ?_⟩) <;> rw [jz_ff] at hf
          · exact next 0 (by rw [if_neg (by rw [hf]; decide)])
          · rw [(I3.2.2.1 s (by omega)).2]
            exact next (W s) (by rw [if_pos (by simpa using hf)])
        · rw [if_neg hb] at i5
          rw [nI_1]
          exact ihq (s + 1) y M1 (by omega) i1 i2 i3 i4 i5
    exact loop 8 0 x M rfl hI hx ht (fun _ _ => rfl) rfl
end BR
