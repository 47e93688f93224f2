theorem or_lt8 {a b : Nat} (ha : a < 256) (hb : b < 256) : a ||| b < 256 := Nat.or_lt_two_pow (n := 8) ha hb
theorem or_zero {a b : Nat} : a ||| b = 0 ↔ a = 0 ∧ b = 0 := Nat.or_eq_zero_iff
def rUs (nx : Bool) (o t : Nat) : Bool := if nx = true then decide (o ≠ 0) else decide (t = 0)
def rTake (us : Bool) (v m : Int32) : Bool := if us = true then decide (¬ v ≤ m) else decide (¬ m ≤ v)
abbrev jRv : Type := Option (Int32 × Nat)
def rVal (x : jRv) : Int32 := match x with
  | none => 0
  | some (m, _) => m
def rWho (z : Int32) (x : jRv) : Int32 := match x with
  | none => z
  | some (_, c) => nI c
def rStep (f : Nat → Int32) (us : Bool) (s : Nat) (x : jRv) : jRv := match x with
  | none => some (f s, s)
  | some (m, c) => if rTake us (f s) m = true then some (f s, s) else some (m, c)
def rWorth (V : jEv) (P W : Nat → Nat) (L : List (Nat × Nat)) (us : Bool) (s : Nat) : Int32 := if vD V (P s) L = true then (if us = true then nI (W s) else -nI (W s)) else 0
/-- who brings by turns, and what it comes to -/
def rGo (V : jEv) (P W : Nat → Nat) : Nat → List (Nat × Nat) → Nat → Nat → Bool → jRv
  | 0, _, _, _, _ => none
  | r + 1, L, o, t, nx => bLoop (rStep (fun s => rVal (rGo V P W r (vE V (P s) L) (if rUs nx o t = true then o ^^^ 2 ^ s else o) (if rUs nx o t = true then t else t ^^^ 2 ^ s) (!(rUs nx o t))) + rWorth V P W L (rUs nx o t) s) (rUs nx o t)) (if rUs nx o t = true then o else t) 8 0 none
theorem bLoop_some' {α : Type} {f : Nat → Option α → Option α} {left : Nat} (hf : ∀ s x, ∃ y, f s x = some y) : ∀ (q s : Nat) (x : Option α), ((∃ y, x = some y) ∨ ∃ i, s ≤ i ∧ i < s + q ∧ left.testBit i = true) → ∃ y, bLoop f left q s x = some y := by
  intro q
  induction q with
  | zero =>
    intro s x h
    rcases h with h | ⟨i, h1, h2, -⟩
    · exact h
    · omega
  | succ q ih =>
    intro s x h
    rw [bLoop]
    refine ih (s + 1) _ ?_
    by_cases hb : left.testBit s = true
    · rw [if_pos hb]; exact Or.inl (hf s x)
    · rw [if_neg hb]
      rcases h with h | ⟨i, h1, h2, h3⟩
      · exact Or.inl h
      · refine Or.inr ⟨i, ?_, by omega, h3⟩
        by_cases e : i = s
        · subst e; exact absurd h3 hb
        · omega
theorem rStep_some (f : Nat → Int32) (us : Bool) (s : Nat) (x : jRv) : ∃ y, rStep f us s x = some y := by
  cases x with
  | none => exact ⟨_, rfl⟩
  | some y =>
    unfold rStep
    dsimp only
    split
    · exact ⟨_, rfl⟩
    · exact ⟨_, rfl⟩
/-- the loop's numbers in the class, and in the model -/
def rC (x7 x8 : Int32) (x : jRv) : Prop := match x with
  | none => x7 = -1 ∧ x8 = 0
  | some (m, c) => x7 = nI c ∧ x8 = m ∧ c < 8
def rM (x8 x9 : Int32) (x : jRv) : Prop := match x with
  | none => x8 = 0 ∧ x9 = 0
  | some (m, _) => x8 = m ∧ x9 = 1
section RV
variable {G : jGT} {V : jEv} {L0 : List (Nat × Nat)} {P W : Nat → Nat} {nS j : Nat}
theorem t_us {d dp o t : Nat} {nx : Bool} {M : jM} {post : Int32 → jM → Prop} (ho : o < 256) (ht : t < 256) (hz : ¬ (o = 0 ∧ t = 0)) (hd : dp < 6) (h : kX4_turns_63 G d (nI o) (nI t) (jz nx) (nI dp) (jz (rUs nx o t)) (nI (if rUs nx o t = true then o else t)) (-1) 0 0 M post) : kX4_turns_0 G d (nI o) (nI t) (jz nx) (nI dp) M post := by
  have := or_lt8 ho ht
  have zo : (nI o : Int32) = 0 ↔ o = 0 := by rw [show (0 : Int32) = nI 0 from rfl, nI_eq (by omega) (by omega)]
  have zt : (nI t : Int32) = 0 ↔ t = 0 := by rw [show (0 : Int32) = nI 0 from rfl, nI_eq (by omega) (by omega)]
  refine bX4_turns_0 (ite_fi (by rw [nI_or (by omega) (by omega), show (0 : Int32) = nI 0 from rfl, nI_eq (by omega) (by omega), or_zero]; exact hz) (ite_ti (by rw [show (6 : Int32) = nI 6 from rfl, nI_ltI (by omega) (by omega)]; exact hd) ?_))
  unfold rUs at h
  cases nx
  · refine ite_ti rfl (ite_i (fun q => ?_) (fun q => ?_)) <;> rw [zt] at q
    · have e : (if (false = true) then decide (o ≠ 0) else decide (t = 0)) = true := by simp [q]
      rw [e] at h
      exact bX4_turns_40 (ite_fi (by decide) (bX4_turns_52 h))
    · have e : (if (false = true) then decide (o ≠ 0) else decide (t = 0)) = false := by simp [q]
      rw [e] at h
      exact bX4_turns_40 (ite_ti rfl (bX4_turns_52 h))
  · refine ite_fi (by decide) (ite_i (fun q => ?_) (fun q => ?_)) <;> rw [zo] at q
    · have e : (if (true = true) then decide (o ≠ 0) else decide (t = 0)) = false := by simp [q]
      rw [e] at h
      exact bX4_turns_40 (ite_ti rfl (bX4_turns_52 h))
    · have e : (if (true = true) then decide (o ≠ 0) else decide (t = 0)) = true := by simp [q]
      rw [e] at h
      exact bX4_turns_40 (ite_fi (by decide) (bX4_turns_52 h))
/-- which of two is taken, in the class -/
theorem t_take {d : Nat} {x1 x2 x3 x4 x6 x7 x8 x9 x10 x11 x12 x13 : Int32} {us : Bool} {s : Nat} {v : Int32} {f : Nat → Int32} {x : jRv} {M : jM} {post : Int32 → jM → Prop} (hs : s < 8) (h9 : x9 = nI s) (hv : f s = v) (hr : rC x7 x8 x) (h : ∀ y7 y8, rC y7 y8 (rStep f us s x) → kX4_turns_63 G d x1 x2 x3 x4 (jz us) x6 y7 y8 (nI (s + 1)) M post) : kX4_turns_211 G d x1 x2 x3 x4 (jz us) x6 x7 x8 x9 x10 x11 x12 x13 v M post := by
  subst h9
  have new : rStep f us s x = some (v, s) → kX4_turns_240 G d x1 x2 x3 x4 (jz us) x6 x7 x8 (nI s) x10 x11 x12 x13 v M post := fun e => bX4_turns_240 (bX4_turns_248 (by rw [nI_1]; exact h _ _ (by rw [e]; exact ⟨rfl, rfl, hs⟩)))
  cases x with
  | none =>
    obtain ⟨r1, r2⟩ := hr
    subst r1
    exact bX4_turns_211 (ite_ti (by decide) (new (by rw [← hv]; rfl)))
  | some y =>
    obtain ⟨m, c⟩ := y
    obtain ⟨r1, r2, r3⟩ := hr
    subst r1; subst r2
    have keep : ¬ rTake us v x8 = true → kX4_turns_248 G d x1 x2 x3 x4 (jz us) x6 (nI c) x8 (nI s) M post := fun e => bX4_turns_248 (by
      rw [nI_1]
      refine h _ _ ?_
      unfold rStep
      dsimp only
      rw [hv, if_neg e]
      exact ⟨rfl, rfl, r3⟩)
    have new' : rTake us v x8 = true → kX4_turns_240 G d x1 x2 x3 x4 (jz us) x6 (nI c) x8 (nI s) x10 x11 x12 x13 v M post := fun e => new (by
      unfold rStep
      dsimp only
      rw [hv, if_pos e])
    refine bX4_turns_211 (ite_fi (nI_pos (by omega)) ?_)
    cases us
    · refine ite_ti rfl (ite_i (fun q => keep ?_) (fun q => new' ?_))
      · unfold rTake; simpa using q
      · unfold rTake; simpa using q
    · refine ite_fi (by decide) (ite_i (fun q => keep ?_) (fun q => new' ?_))
      · unfold rTake; simpa using q
      · unfold rTake; simpa using q
theorem c_turns (hP : ∀ s, P s < 256 ∧ W s < 100) : ∀ (r : Nat) (d : Nat) (L : List (Nat × Nat)) (o t dp : Nat) (nx : Bool) (M : jM) (post : Int32 → jM → Prop), dp + r ≤ 6 → o < 256 → t < 256 → pop8 o + pop8 t = r → L.length + r ≤ 80 → bInv M V P W L0 L →
    (∀ M', bInv M' V P W L0 L → (dp ≠ 0 → M' 35 6 = M 35 6) → (dp = 0 → M' 35 6 = if rUs nx o t = true ∧ r ≠ 0 then rWho (-1) (rGo V P W r L o t nx) else M 35 6) → (∀ b, b < 27 ∨ b = 28 ∨ b = 29 ∨ b = 30 ∨ b = 33 ∨ 36 ≤ b → M' b = M b) → post (rVal (rGo V P W r L o t nx)) M') → CI G (d + r + 4) mX4_turns [.ref 35, .int (nI o), .int (nI t), .int (jz nx), .int (nI dp)] M post := by
  intro r
  induction r with
  | zero =>
    intro d L o t dp nx M post hdp ho ht hp hlen hI h
    obtain rfl : o = 0 := (pop_0 o ho).mp (by omega)
    obtain rfl : t = 0 := (pop_0 t ht).mp (by omega)
    exact eX4_turns (bX4_turns_0 (ite_ti (by decide) (bX4_turns_13 (h M hI (fun _ => rfl) (fun _ => by rw [if_neg (by simp)]) (fun _ _ => rfl)))))
  | succ r ih =>
    intro d L o t dp nx M post hdp ho ht hp hlen hI h
    have hz : ¬ (o = 0 ∧ t = 0) := fun z => by
      have h1 := (pop_0 o ho).mpr z.1
      have h2 := (pop_0 t ht).mpr z.2
      omega
    rw [rGo] at h
    rw [show d + (r + 1) + 4 = d + r + 4 + 1 by omega]
    refine eX4_turns (t_us ho ht hz (by omega) ?_)
    generalize hus : rUs nx o t = us at h ⊢
    generalize hset : (if us = true then o else t) = set at h ⊢
    have hset2 : set < 256 := by rw [← hset]; split <;> assumption
    generalize hf : (fun s => rVal (rGo V P W r (vE V (P s) L) (if us = true then o ^^^ 2 ^ s else o) (if us = true then t else t ^^^ 2 ^ s) (!us)) + rWorth V P W L us s) = f at h
    have loop : ∀ (q s : Nat) (x7 x8 : Int32) (x : jRv) (M1 : jM), s + q = 8 → rC x7 x8 x → bInv M1 V P W L0 L → M1 35 6 = M 35 6 → (∀ b, b < 27 ∨ b = 28 ∨ b = 29 ∨ b = 30 ∨ b = 33 ∨ 36 ≤ b → M1 b = M b) → bLoop (rStep f us) set q s x = bLoop (rStep f us) set 8 0 none → kX4_turns_63 G (d + r + 4) (nI o) (nI t) (jz nx) (nI dp) (jz us) (nI set) x7 x8 (nI s) M1 post := by
      intro q
      induction q with
      | zero =>
        intro s x7 x8 x M1 hs i1 i2 i3 i4 i5
        obtain rfl : s = 8 := by omega
        rw [bLoop] at i5
        rw [← i5] at h
        have e8 : x8 = rVal x := by cases x with
          | none => exact i1.2
          | some y => exact i1.2.1
        have e7 : x7 = rWho (-1) x := by cases x with
          | none => exact i1.1
          | some y => exact i1.1
        refine bX4_turns_63 (ite_ti (by decide) (ite_i (fun z => ite_i (fun u => ?_) (fun u => ?_)) (fun z => ?_))) <;> rw [show (0 : Int32) = nI 0 from rfl, nI_eq (by omega) (by omega)] at z
        · rw [jz_ff] at u
          subst u
          refine bX4_turns_270 ?_
          rw [e8]
          exact h M1 i2 (fun e => absurd z e) (fun _ => by rw [if_neg (by simp)]; exact i3) i4
        · rw [jz_ff] at u
          have u' : us = true := by simpa using u
          subst u'
          refine bX4_turns_270 ?_
          rw [e8]
          exact h _ (i2.congr fun b hb => by rw [jup_ne (by omega)]) (fun e => absurd z e) (fun _ => by rw [if_pos ⟨rfl, by omega⟩, ← e7]; (simp (disch := omega) only [jup_ss, jup_sn, jup_n, jup_ne])) (fun b hb => by rw [jup_ne (by omega)]; exact i4 b hb)
        · refine bX4_turns_270 ?_
          rw [e8]
          exact h M1 i2 (fun _ => i3) (fun e => absurd e z) i4
      | succ q ihq =>
        intro s x7 x8 x M1 hs i1 i2 i3 i4 i5
        refine bX4_turns_63 (ite_fi (by rw [show (8 : Int32) = nI 8 from rfl, nI_leI (by omega) (by omega)]; omega) ?_)
        rw [bit_ok set hset2 s (by omega)]
        rw [bLoop] at i5
        refine ite_i (fun hb => ?_) (fun hb => ?_) <;> rw [show (1 : Int32) = jz true from rfl, jz_eq] at hb
        · rw [if_pos hb] at i5
          obtain ⟨j1, j2, j3, j4⟩ := id i2
          obtain ⟨q1, q2⟩ := hP s
          refine ⟨vp_in_nI (by omega) (by omega), ?_⟩
          rw [nI_clamp (by omega)]
          refine c_winsPT (d := d + r + 1) (by omega) q1 j3 j4 j1 j2 (fun M2 w2 => ?_)
          have I2 : bInv M2 V P W L0 L := i2.congr fun b hb => w2 b (by omega)
          obtain ⟨k1, k2, k3, k4⟩ := id I2
          have x1 := (xor_ok o ho s (by omega)).1
          have x2 := (xor_ok t ht s (by omega)).1
          -- with the gain g
          have gain : ∀ (g : Int32), (g = if vD V (P s) L = true then nI (W s) else 0) → kX4_turns_119 G (d + r + 4) (nI o) (nI t) (jz nx) (nI dp) (jz us) (nI set) x7 x8 (nI s) (1 <<< (nI s &&& 31)) (jz (vD V (P s) L)) g M2 post := by
            intro g hg
            refine bX4_turns_119 ⟨vp_in_nI (by omega) (by omega), ?_⟩
            have e40 : M2 (40 + s) 0 = nI (P s) := (I2.2.2.1 s (by omega)).1.1
            rw [nI_clamp (by omega), e40]
            have pushed : ∀ Q : jM → Prop, (∀ M3, SLi M3 (vE V (P s) L) → (∀ a, a ≠ 27 → a ≠ 31 → a ≠ 32 → M3 a = M2 a) → (∀ k, k ≠ 6 → M3 27 k = M2 27 k) → Q M3) → CV G (d + r + 4) mX5_push [.ref 27, .int (nI (P s)), .int (jz (vD V (P s) L))] M2 Q := by
              intro Q hQ
              rw [← nI_toNat]
              exact c_push k2 (by omega) q1 (by cases vD V (P s) L <;> decide) hQ
            refine pushed _ (fun M3 s1 s2 s3 => ?_)
            have I3 : bInv M3 V P W L0 (vE V (P s) L) := ⟨k1.congr (fun k hk => s3 k (by omega)) (fun b h1 h2 => s2 b (by omega) (by omega) (by omega)), s1, k3.congr (by omega) (fun i hi => s2 _ (by omega) (by omega) (by omega)) (s2 37 (by omega) (by omega) (by omega)), k4.app⟩
            -- the recursion, of any sets
            have rcs : ∀ (o' t' : Nat) (nx' : Bool) (Q : Int32 → jM → Prop), o' < 256 → t' < 256 → pop8 o' + pop8 t' = r → (∀ M5, bInv M5 V P W L0 L → M5 35 6 = M 35 6 → (∀ b, b < 27 ∨ b = 28 ∨ b = 29 ∨ b = 30 ∨ b = 33 ∨ 36 ≤ b → M5 b = M b) → Q (rVal (rGo V P W r (vE V (P s) L) o' t' nx')) M5) → CI G (d + r + 4) mX4_turns [.ref 35, .int (nI o'), .int (nI t'), .int (jz nx'), .int (nI dp + 1)] M3 (fun r1 M4 => CV G (d + r + 4) mX5_pop [.ref 27] M4 (fun M5 => Q r1 M5)) := by
              intro o' t' nx' Q h1 h2 h3 h4
              rw [nI_1]
              refine ih d (vE V (P s) L) o' t' (dp + 1) nx' M3 _ (by omega) h1 h2 h3 (by unfold vE; rw [List.length_append, List.length_singleton]; omega) I3 (fun M4 g1 g2 _ g4 => ?_)
              obtain ⟨l1, l2, l3, l4⟩ := g1
              refine c_pop (d := d + r + 3) l2 (fun M5 v1 v2 v3 => h4 M5 ⟨l1.congr (fun k hk => v3 k (by omega)) (fun b h1 h2 => v2 b (by omega)), v1, l3.congr (by omega) (fun i hi => v2 _ (by omega)) (v2 37 (by omega)), j4⟩ ?_ (fun b hb => ?_))
              · rw [v2 35 (by omega), g2 (by omega), s2 35 (by omega) (by omega) (by omega), w2 35 (by omega)]; exact i3
              · rw [v2 b (by omega), g4 b hb, s2 b (by omega) (by omega) (by omega), w2 b (by omega)]; exact i4 b hb
            have done : ∀ (v : Int32) (x12 x13 : Int32) (M5 : jM), f s = v → bInv M5 V P W L0 L → M5 35 6 = M 35 6 → (∀ b, b < 27 ∨ b = 28 ∨ b = 29 ∨ b = 30 ∨ b = 33 ∨ 36 ≤ b → M5 b = M b) → kX4_turns_211 G (d + r + 4) (nI o) (nI t) (jz nx) (nI dp) (jz us) (nI set) x7 x8 (nI s) (1 <<< (nI s &&& 31)) (jz (vD V (P s) L)) x12 x13 v M5 post := by
              intro v x12 x13 M5 hv h1 h2 h3
              exact t_take (x := x) (f := f) (by omega) rfl hv i1 (fun y7 y8 hy => ihq (s + 1) y7 y8 _ M5 (by omega) hy h1 h2 h3 i5)
            cases us
            · have hset : t = set := hset
              subst hset
              obtain ⟨p1, p2, -⟩ := pop_ok t ht s (by omega) hb
              refine ite_ti rfl (bX4_turns_154 (ite_ti rfl (bX4_turns_167 (ite_ti rfl (bX4_turns_177 ?_)))))
              rw [x2]
              refine rcs o (t ^^^ 2 ^ s) true _ ho p2 (by omega) (fun M5 h1 h2 h3 => ite_ti rfl (done _ _ _ M5 ?_ h1 h2 h3))
              rw [← hf, hg]
              show rVal (rGo V P W r (vE V (P s) L) o (t ^^^ 2 ^ s) true) + rWorth V P W L false s = _
              unfold rWorth
              split
              · exact (Int32.sub_eq_add_neg _ _).symm
              · rw [Int32.sub_zero, Int32.add_zero]
            · have hset : o = set := hset
              subst hset
              obtain ⟨p1, p2, -⟩ := pop_ok o ho s (by omega) hb
              refine ite_fi (by decide) (bX4_turns_154 (ite_fi (by decide) (bX4_turns_167 (ite_fi (by decide) (bX4_turns_177 ?_)))))
              rw [x1]
              refine rcs (o ^^^ 2 ^ s) t false _ p2 ht (by omega) (fun M5 h1 h2 h3 => ite_fi (by decide) (done _ _ _ M5 ?_ h1 h2 h3))
              rw [← hf, hg]
              show rVal (rGo V P W r (vE V (P s) L) (o ^^^ 2 ^ s) t false) + rWorth V P W L true s = _
              unfold rWorth
              rfl
          refine ite_i (fun hq => gain 0 ?_) (fun hq => ⟨vp_in_nI (by omega) (by omega), gain _ ?_⟩) <;> rw [jz_ff] at hq
          · rw [if_neg (by rw [hq]; decide)]
          · rw [if_pos (by simpa using hq)]; exact (I2.2.2.1 s (by omega)).2
        · rw [if_neg hb] at i5
          refine bX4_turns_248 ?_
          rw [nI_1]
          exact ihq (s + 1) x7 x8 x M1 (by omega) i1 i2 i3 i4 i5
    exact loop 8 0 (-1) 0 none M rfl ⟨rfl, rfl⟩ hI rfl (fun _ _ => rfl) rfl
end RV
