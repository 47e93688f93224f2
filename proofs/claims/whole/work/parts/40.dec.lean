/-- one entry of the book as it is heard: points, and 1 for it or 0 -/
def lk (L : List (Nat × Nat)) (k : Nat) : Nat × Nat := L.getD k (0, 0)
/-- kind, v, row, weights, clashes, bar -/
abbrev jEv : Type := Nat × Nat × (Nat → Nat) × (Nat → Int32) × (Nat → Int32) × Int32
def vsc (V : jEv) (a b : Nat) : Int32 := V.2.2.2.1 (a &&& b) - V.2.2.2.2.1 (a ^^^ b)
/-- earliest + 1, latest + 1, nearest + 1, nearness, wins, losses -/
abbrev jTl : Type := Nat × Nat × Nat × Int32 × Nat × Nat
def tl0 : jTl := (0, 0, 0, 0, 0, 0)
def tlMeet (T : jTl) (k : Nat) (s : Int32) (f : Nat) : jTl :=
  (if T.1 = 0 then k + 1 else T.1, k + 1, if T.2.2.1 = 0 ∨ ¬ s < T.2.2.2.1 then k + 1 else T.2.2.1, if T.2.2.1 = 0 ∨ ¬ s < T.2.2.2.1 then s else T.2.2.2.1, if f = 0 then T.2.2.2.2.1 else T.2.2.2.2.1 + 1, if f = 0 then T.2.2.2.2.2 + 1 else T.2.2.2.2.2)
def tlAdd (V : jEv) (own : Nat) (T : jTl) (k : Nat) (e : Nat × Nat) : jTl := if vsc V own e.1 < V.2.2.2.2.2 then T else tlMeet T k (vsc V own e.1) e.2
def tlN (V : jEv) (own : Nat) (L : List (Nat × Nat)) : Nat → jTl
  | 0 => tl0
  | k + 1 => tlAdd V own (tlN V own L k) k (lk L k)
def im (n : Nat) : Int32 := nI n - 1
def jz (b : Bool) : Int32 := if b = true then 1 else 0
def pop8 (n : Nat) : Nat := (List.range 8).foldl (fun a i => a + (n >>> i) % 2) 0
def vtell (V : jEv) (own : Nat) : Nat := if V.1 = 6 then V.2.2.1 (pop8 own % 4) else 0
/-- otherwise than the entry with this number, less 1 -/
def vnot (L : List (Nat × Nat)) (x : Nat) : Bool := (lk L (x - 1)).2 == 0
def vmost (L : List (Nat × Nat)) (T : jTl) : Bool := if T.2.2.2.2.1 = T.2.2.2.2.2 then vnot L T.1 else decide (T.2.2.2.2.1 < T.2.2.2.2.2)
/-- for it, when some are like it -/
def vby (V : jEv) (L : List (Nat × Nat)) (T : jTl) : Bool :=
  if V.1 = 1 then vnot L T.2.1 else if V.1 = 2 ∨ V.1 = 5 then vnot L T.2.2.1 else if V.1 = 3 ∨ V.1 = 6 then vmost L T
  else if V.1 = 4 then (if 0 < T.2.2.2.2.1 ∧ 0 < T.2.2.2.2.2 then decide (4 < V.2.1) else vnot L T.2.1) else vnot L T.1
def vopen (V : jEv) (own : Nat) (T : jTl) : Bool := decide (vtell V own = 0) && decide (T.2.2.2.2.1 + T.2.2.2.2.2 = 0)
def vdec (V : jEv) (own : Nat) (L : List (Nat × Nat)) (T : jTl) : Bool :=
  if vtell V own ≠ 0 then decide (vtell V own = 1) else if T.2.2.2.2.1 + T.2.2.2.2.2 = 0 then decide (V.2.1 % 2 = 1) else vby V L T
def vwho (V : jEv) (T : jTl) : Int32 :=
  if T.2.2.2.2.1 + T.2.2.2.2.2 = 0 then -5 else if V.1 = 1 then im T.2.1 else if V.1 = 2 ∨ V.1 = 5 then im T.2.2.1 else if V.1 = 3 ∨ V.1 = 6 then -5
  else if V.1 = 4 then (if 0 < T.2.2.2.2.1 ∧ 0 < T.2.2.2.2.2 then -5 else im T.2.1) else im T.1
/-- decided behind the whole list -/
def vD (V : jEv) (own : Nat) (L : List (Nat × Nat)) : Bool := vdec V own L (tlN V own L L.length)
def vE (V : jEv) (own : Nat) (L : List (Nat × Nat)) : List (Nat × Nat) := L ++ [(own, (vD V own L).toNat)]
theorem lk_app {L : List (Nat × Nat)} {e : Nat × Nat} {k : Nat} (h : k < L.length) : lk (L ++ [e]) k = lk L k := by
  unfold lk; rw [List.getD_eq_getElem?_getD, List.getD_eq_getElem?_getD, List.getElem?_append_left h]
theorem lk_last {L : List (Nat × Nat)} {e : Nat × Nat} : lk (L ++ [e]) L.length = e := by
  unfold lk; rw [List.getD_eq_getElem?_getD, List.getElem?_append_right (Nat.le_refl _)]; simp
theorem tlN_app {V : jEv} {own : Nat} {L : List (Nat × Nat)} {e : Nat × Nat} : ∀ k, k ≤ L.length → tlN V own (L ++ [e]) k = tlN V own L k := by
  intro k
  induction k with
  | zero => intro _; rfl
  | succ k ih => intro h; rw [tlN, tlN, ih (by omega), lk_app (by omega)]
/-- what holds of a tally behind k entries -/
def tlOk (V : jEv) (own : Nat) (L : List (Nat × Nat)) (k : Nat) (T : jTl) : Prop :=
  T.1 ≤ k ∧ T.2.1 ≤ k ∧ T.2.2.1 ≤ k ∧ (T.1 = 0 ↔ T.2.2.2.2.1 + T.2.2.2.2.2 = 0) ∧ (T.2.1 = 0 ↔ T.2.2.2.2.1 + T.2.2.2.2.2 = 0) ∧ (T.2.2.1 = 0 ↔ T.2.2.2.2.1 + T.2.2.2.2.2 = 0) ∧ T.2.2.2.2.1 + T.2.2.2.2.2 ≤ k ∧ (T.2.2.1 ≠ 0 → T.2.2.2.1 = vsc V own (lk L (T.2.2.1 - 1)).1)
theorem tlN_ok {V : jEv} {own : Nat} {L : List (Nat × Nat)} : ∀ k, tlOk V own L k (tlN V own L k) := by
  intro k
  induction k with
  | zero => unfold tlOk; simp [tlN, tl0]
  | succ k ih =>
    rw [tlN]
    generalize tlN V own L k = T at ih ⊢
    obtain ⟨h1, h2, h3, h4, h5, h6, h7, h8⟩ := ih
    unfold tlAdd
    by_cases hs : vsc V own (lk L k).1 < V.2.2.2.2.2
    · rw [if_pos hs]
      exact ⟨by omega, by omega, by omega, h4, h5, h6, by omega, h8⟩
    · rw [if_neg hs]
      unfold tlOk tlMeet
      dsimp only
      refine ⟨by split <;> omega, by omega, by split <;> omega, ?_, ?_, ?_, by split <;> omega, ?_⟩
      · constructor
        · intro h; split at h <;> omega
        · intro h; split at h <;> omega
      · constructor
        · intro h; omega
        · intro h; split at h <;> omega
      · constructor
        · intro h; split at h <;> omega
        · intro h; split at h <;> omega
      · intro h
        by_cases hc : T.2.2.1 = 0 ∨ ¬ vsc V own (lk L k).1 < T.2.2.2.1
        · rw [if_pos hc, if_pos hc]; rfl
        · rw [if_neg hc, if_neg hc]
          exact h8 (fun e => hc (Or.inl e))
theorem nI_and {a b : Nat} (ha : a < 2 ^ 32) (hb : b < 2 ^ 32) : nI a &&& nI b = nI (a &&& b) := by
  apply Int32.toBitVec_inj.mp
  apply BitVec.eq_of_toNat_eq
  rw [Int32.toBitVec_and, BitVec.toNat_and, pk_tn ha, pk_tn hb, pk_tn (Nat.lt_of_le_of_lt Nat.and_le_left ha)]
theorem nI_xor {a b : Nat} (ha : a < 2 ^ 32) (hb : b < 2 ^ 32) : nI a ^^^ nI b = nI (a ^^^ b) := by
  apply Int32.toBitVec_inj.mp
  apply BitVec.eq_of_toNat_eq
  rw [Int32.toBitVec_xor, BitVec.toNat_xor, pk_tn ha, pk_tn hb, pk_tn (Nat.xor_lt_two_pow ha hb)]
theorem nI_or {a b : Nat} (ha : a < 2 ^ 32) (hb : b < 2 ^ 32) : nI a ||| nI b = nI (a ||| b) := by
  apply Int32.toBitVec_inj.mp
  apply BitVec.eq_of_toNat_eq
  rw [Int32.toBitVec_or, BitVec.toNat_or, pk_tn ha, pk_tn hb, pk_tn (Nat.or_lt_two_pow ha hb)]
theorem and_lt256 {a b : Nat} (ha : a < 256) : a &&& b < 256 := Nat.lt_of_le_of_lt Nat.and_le_left ha
theorem xor_lt256 {a b : Nat} (ha : a < 256) (hb : b < 256) : a ^^^ b < 256 := Nat.xor_lt_two_pow (n := 8) ha hb
theorem and255 {a : Nat} (h : a < 256) : a &&& 255 = a := by
  have : ∀ a, a < 256 → a &&& 255 = a := by decide +kernel
  exact this a h
theorem bitCount_ok : ∀ k : Nat, k < 256 → pop8 k ≤ 8 := by decide +kernel
theorem jz_t : jz true = 1 := rfl
theorem jz_f : jz false = 0 := rfl
theorem jz_01 (b : Bool) : jz b = 0 ∨ jz b = 1 := by cases b <;> simp [jz]
theorem im_succ (n : Nat) : im (n + 1) = nI n := nI_pred n
theorem im_zero : im 0 = -1 := rfl
