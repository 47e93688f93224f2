abbrev jEs : Type := List Bool × Int32 × Int32
def ev1 (kd v dy p : Nat) (q : jSt) (x : jEs) : Option jEs := match q with
  | .inl c => some (qCmp (c / 8 % 4) (qSel (c % 8) kd v dy p) (c / 32) :: x.1, x.2)
  | .inr k =>
    if k = 1 then (match x.1 with | b :: r => some ((!b) :: r, x.2) | [] => none)
    else if k = 2 then (match x.1 with | b2 :: b1 :: r => some ((b1 && b2) :: r, x.2) | _ => none)
    else if k = 3 then (match x.1 with | b2 :: b1 :: r => some ((b1 || b2) :: r, x.2) | _ => none)
    else if k < 10 then none
    else if k < 200 then (match x.1 with | [b] => some ([], x.2.1 + (if b = true then nI (k - 10) else 0), x.2.2) | _ => none)
    else (match x.1 with | [b] => some ([], x.2.1, x.2.2 + (if b = true then nI (k - 200) else 0)) | _ => none)
def evP (kd v dy p : Nat) : List jSt → jEs → Option jEs
  | [], x => some x
  | q :: S, x => match ev1 kd v dy p q x with
    | some y => evP kd v dy p S y
    | none => none
theorem evP_app {kd v dy p : Nat} : ∀ (S S' : List jSt) (x y : jEs), evP kd v dy p S x = some y → evP kd v dy p (S ++ S') x = evP kd v dy p S' y := by
  intro S
  induction S with
  | nil => intro S' x y h; cases h; rfl
  | cons q S ih =>
    intro S' x y h
    rw [List.cons_append, evP]
    rw [evP] at h
    cases hq : ev1 kd v dy p q x with
    | none => rw [hq] at h; cases h
    | some z => rw [hq] at h; exact ih S' z y h
/-- a step whose code is in range -/
def gd (q : jSt) : Prop := match q with
  | .inl c => c < 4096 ∧ c % 8 < 4
  | .inr k => k < 300
def Gd (S : List jSt) : Prop := ∀ q ∈ S, gd q
theorem Gd_app {S S' : List jSt} (h : Gd S) (h' : Gd S') : Gd (S ++ S') := fun q hq => (List.mem_append.mp hq).elim (h q) (h' q)
theorem Gd_0 : Gd [] := fun q hq => absurd hq (by simp)
theorem Gd_1 {q : jSt} (h : gd q) : Gd [q] := fun q' hq => by rw [List.mem_singleton.mp hq]; exact h
/-- a segment that pushes what it says -/
def Sg (S : List jSt) (B : jB) : Prop := Gd S ∧ ∀ (kd v dy p : Nat) (bs : List Bool) (w : Int32 × Int32), evP kd v dy p S (bs, w) = some (B kd v dy p :: bs, w)
def cp (S : List jSt) : Nat := (S.filter (fun q => q.isLeft)).length
theorem cp_app (S S' : List jSt) : cp (S ++ S') = cp S + cp S' := by unfold cp; rw [List.filter_append, List.length_append]
/-- what a parsed expression from i on obeys -/
def Ok (n i : Nat) (x : Nat × List jSt × jB) : Prop := i < x.1 ∧ x.1 ≤ n ∧ x.2.1.length + i ≤ x.1 ∧ 3 * cp x.2.1 + i ≤ x.1 ∧ Sg x.2.1 x.2.2
section QO
variable {h : Nat → Nat} {n : Nat}
theorem qNum_ok (hh : ∀ i, n ≤ i → h i = 128) {i j k : Nat} (e : qNum h i = .inr (j, k)) : i < j ∧ j ≤ n ∧ k < 100 := by
  unfold qNum at e
  by_cases h1 : qDig (h i) = true
  · rw [if_pos h1] at e
    have g1 : 48 ≤ h i ∧ h i ≤ 57 := by unfold qDig at h1; simpa using h1
    have hi : i < n := Nat.not_le.mp fun q => by rw [hh i q] at g1; omega
    by_cases h2 : h i ≠ 48 ∧ qDig (h (i + 1)) = true
    · rw [if_pos h2] at e
      have g2 : 48 ≤ h (i + 1) ∧ h (i + 1) ≤ 57 := by have := h2.2; unfold qDig at this; simpa using this
      have hi2 : i + 1 < n := Nat.not_le.mp fun q => by rw [hh (i + 1) q] at g2; omega
      cases e
      exact ⟨by omega, by omega, by omega⟩
    · rw [if_neg h2] at e
      cases e
      exact ⟨by omega, by omega, by omega⟩
  · rw [if_neg h1] at e; cases e
theorem qNum_err (hh : ∀ i, n ≤ i → h i = 128) {i f : Nat} (hi : i ≤ n) (e : qNum h i = .inl f) : f = i ∧ ¬ qDig (h i) = true := by
  unfold qNum at e
  by_cases h1 : qDig (h i) = true
  · rw [if_pos h1] at e
    split at e <;> cases e
  · rw [if_neg h1] at e; cases e; exact ⟨rfl, h1⟩
theorem qWhich_lt {c w : Nat} (e : qWhich c = some w) : w < 4 ∧ c < 128 := by
  unfold qWhich at e
  split at e
  · cases e; omega
  · split at e
    · cases e; omega
    · split at e
      · cases e; omega
      · split at e
        · cases e; omega
        · cases e
theorem qHow_lt {c w : Nat} (e : qHow c = some w) : w < 3 ∧ c < 128 := by
  unfold qHow at e
  split at e
  · cases e; omega
  · split at e
    · cases e; omega
    · split at e
      · cases e; omega
      · cases e
theorem qTest_ok (hh : ∀ i, n ≤ i → h i = 128) {i : Nat} {x : Nat × List jSt × jB} (e : qTest h i = .inr x) : Ok n i x := by
  unfold qTest at e
  cases hw : qWhich (h i) with
  | none => rw [hw] at e; cases e
  | some w =>
    rw [hw] at e
    dsimp only at e
    cases ho : qHow (h (i + 1)) with
    | none => rw [ho] at e; cases e
    | some o =>
      rw [ho] at e
      dsimp only at e
      cases hn : qNum h (i + 2) with
      | inl f => rw [hn] at e; cases e
      | inr y =>
        obtain ⟨j, k⟩ := y
        rw [hn] at e
        dsimp only at e
        cases e
        obtain ⟨a, b, c⟩ := qNum_ok hh hn
        have hw4 := (qWhich_lt hw).1
        have ho3 := (qHow_lt ho).1
        refine ⟨by dsimp only; omega, b, by simp; omega, by show 3 * 1 + i ≤ j; omega, ?_⟩
        refine ⟨Gd_1 ⟨by omega, by omega⟩, fun kd v dy p bs w' => ?_⟩
        show evP kd v dy p [.inl (w + 8 * o + 32 * k)] (bs, w') = _
        rw [evP, ev1]
        rw [show (w + 8 * o + 32 * k) / 8 % 4 = o by omega, show (w + 8 * o + 32 * k) % 8 = w by omega, show (w + 8 * o + 32 * k) / 32 = k by omega]
        rfl
theorem qLoop_ok {f : Nat → jE} {ch code : Nat} {op : Bool → Bool → Bool} (hf : ∀ i x, f i = .inr x → Ok n i x) (hc : (code = 2 ∧ op = fun a b => a && b) ∨ (code = 3 ∧ op = fun a b => a || b)) :
    ∀ (k : Nat) (i0 : Nat) (x y : Nat × List jSt × jB), Ok n i0 x → qLoop h f ch code op k x = .inr y → Ok n i0 y := by
  intro k
  induction k with
  | zero => intro i0 x y hx e; cases e; exact hx
  | succ k ih =>
    intro i0 x y hx e
    obtain ⟨i, S, B⟩ := x
    rw [qLoop] at e
    by_cases hi : h i = ch
    · rw [if_pos hi] at e
      cases hfi : f (i + 1) with
      | inl f => rw [hfi] at e; cases e
      | inr z =>
        obtain ⟨j, S', B'⟩ := z
        rw [hfi] at e
        dsimp only at e
        refine ih i0 _ y ?_ e
        have h2 := hf _ _ hfi
        obtain ⟨a1, a2, a3, a4, a5⟩ := hx
        obtain ⟨b1, b2, b3, b4, b5⟩ := h2
        dsimp only at a1 a2 a3 a4 a5 b1 b2 b3 b4 b5
        refine ⟨by dsimp only; omega, b2, by dsimp only; rw [List.length_append, List.length_append]; simp; omega, by dsimp only; rw [cp_app, cp_app]; simp [cp] at a4 b4 ⊢; omega, ?_⟩
        refine ⟨Gd_app (Gd_app a5.1 b5.1) (Gd_1 (by rcases hc with ⟨rfl, _⟩ | ⟨rfl, _⟩ <;> (show _ < 300; omega))), fun kd v dy p bs w => ?_⟩
        show evP kd v dy p (S ++ S' ++ [.inr code]) (bs, w) = _
        rw [evP_app (S ++ S') _ _ (B' kd v dy p :: B kd v dy p :: bs, w)]
        · rcases hc with ⟨rfl, rfl⟩ | ⟨rfl, rfl⟩ <;> rfl
        · rw [evP_app S _ _ (B kd v dy p :: bs, w) (a5.2 kd v dy p bs w)]
          exact b5.2 kd v dy p _ w
    · rw [if_neg hi] at e
      cases e; exact hx
theorem qEvery_ok {f : Nat → jE} (hf : ∀ i x, f i = .inr x → Ok n i x) {i : Nat} {x : Nat × List jSt × jB} (e : qEvery h n f i = .inr x) : Ok n i x := by
  unfold qEvery at e
  cases hfi : f i with
  | inl f => rw [hfi] at e; cases e
  | inr z => rw [hfi] at e; exact qLoop_ok hf (Or.inl ⟨rfl, rfl⟩) n i z x (hf _ _ hfi) e
theorem qSome_ok {f : Nat → jE} (hf : ∀ i x, f i = .inr x → Ok n i x) {i : Nat} {x : Nat × List jSt × jB} (e : qSome h n f i = .inr x) : Ok n i x := by
  unfold qSome at e
  cases hfi : qEvery h n f i with
  | inl f => rw [hfi] at e; cases e
  | inr z => rw [hfi] at e; exact qLoop_ok (fun i x => qEvery_ok hf) (Or.inr ⟨rfl, rfl⟩) n i z x (qEvery_ok hf hfi) e
theorem qFac_ok (hh : ∀ i, n ≤ i → h i = 128) : ∀ (r i : Nat) (x : Nat × List jSt × jB), qFac h n r i = .inr x → Ok n i x := by
  intro r
  induction r with
  | zero =>
    intro i x e
    rw [qFac] at e
    split at e
    · cases e
    · exact qTest_ok hh e
  | succ r ih =>
    intro i x e
    rw [qFac] at e
    split at e
    · cases hf : qFac h n r (i + 1) with
      | inl f => rw [hf] at e; cases e
      | inr z =>
        obtain ⟨j, S, B⟩ := z
        rw [hf] at e
        dsimp only at e
        cases e
        obtain ⟨b1, b2, b3, b4, b5⟩ := ih _ _ hf
        dsimp only at b1 b2 b3 b4 b5
        refine ⟨by dsimp only; omega, b2, by dsimp only; rw [List.length_append]; simp; omega, by dsimp only; rw [cp_app]; simp [cp] at b4 ⊢; omega, ?_⟩
        refine ⟨Gd_app b5.1 (Gd_1 (by show 1 < 300; omega)), fun kd v dy p bs w => ?_⟩
        show evP kd v dy p (S ++ [.inr 1]) (bs, w) = _
        rw [evP_app S _ _ (B kd v dy p :: bs, w) (b5.2 kd v dy p bs w)]
        rfl
    · split at e
      · rename_i h40
        cases hf : qSome h n (qFac h n r) (i + 1) with
        | inl f => rw [hf] at e; cases e
        | inr z =>
          obtain ⟨j, S, B⟩ := z
          rw [hf] at e
          dsimp only at e
          obtain ⟨b1, b2, b3, b4, b5⟩ := qSome_ok (fun i x => ih i x) hf
          dsimp only at b1 b2 b3 b4 b5
          split at e
          · rename_i h41
            cases e
            have hj : j < n := Nat.not_le.mp fun q => by rw [hh j q] at h41; omega
            exact ⟨by dsimp only; omega, by dsimp only; omega, by dsimp only; omega, by dsimp only; omega, b5⟩
          · cases e
      · exact qTest_ok hh e
theorem qE_ok (hh : ∀ i, n ≤ i → h i = 128) {i : Nat} {x : Nat × List jSt × jB} (e : qE h n i = .inr x) : Ok n i x := qSome_ok (fun i x => qFac_ok hh 5 i x) e
theorem qWord_ok (hh : ∀ i, n ≤ i → h i = 128) : ∀ (l : List Nat) (i j : Nat), (∀ c ∈ l, c < 128) → i ≤ n → qWord h l i = .inr j → j = i + l.length ∧ j ≤ n := by
  intro l
  induction l with
  | nil => intro i j _ hi e; cases e; exact ⟨rfl, hi⟩
  | cons c l ih =>
    intro i j hc hi e
    rw [qWord] at e
    split at e
    · rename_i hq
      have h0 := hc c List.mem_cons_self
      have hin : i < n := Nat.not_le.mp fun q => by rw [hh i q] at hq; omega
      obtain ⟨a, b⟩ := ih (i + 1) j (fun c h => hc c (List.mem_cons_of_mem _ h)) (by omega) e
      exact ⟨by rw [a, List.length_cons]; omega, b⟩
    · cases e
theorem qMuch_ok (hh : ∀ i, n ≤ i → h i = 128) {word : List Nat} {base i j : Nat} {S : List jSt} {W : jWt} (hc : ∀ c ∈ word, c < 128) (hi : i ≤ n) (e : qMuch h n word base i = .inr (j, S, W)) :
    i + word.length < j ∧ j ≤ n ∧ S.length + i ≤ j ∧ 3 * cp S + i ≤ j ∧ ∃ S0 B k, k < 100 ∧ S = S0 ++ [.inr (base + k)] ∧ Sg S0 B ∧ W = fun kd v dy p => if B kd v dy p = true then nI k else 0 := by
  unfold qMuch at e
  cases hw : qWord h word i with
  | inl f => rw [hw] at e; cases e
  | inr i1 =>
    rw [hw] at e
    dsimp only at e
    obtain ⟨a1, a2⟩ := qWord_ok hh word i i1 hc hi hw
    cases hn : qNum h i1 with
    | inl f => rw [hn] at e; cases e
    | inr y =>
      obtain ⟨i2, k⟩ := y
      rw [hn] at e
      dsimp only at e
      obtain ⟨c1, c2, c3⟩ := qNum_ok hh hn
      split at e
      · cases hE : qE h n (i2 + 1) with
        | inl f => rw [hE] at e; cases e
        | inr z =>
          obtain ⟨j', S0, B⟩ := z
          rw [hE] at e
          dsimp only at e
          obtain ⟨b1, b2, b3, b4, b5⟩ := qE_ok hh hE
          dsimp only at b1 b2 b3 b4 b5
          cases e
          refine ⟨by omega, b2, by rw [List.length_append]; simp; omega, by rw [cp_app]; simp [cp] at b4 ⊢; omega, S0, B, k, c3, rfl, b5, rfl⟩
      · cases e
/-- a clause: what its steps do to weight and clash -/
def Sk (S : List jSt) (W C : jWt) : Prop := Gd S ∧ ∀ (kd v dy p : Nat) (w c : Int32), evP kd v dy p S ([], w, c) = some ([], w + W kd v dy p, c + C kd v dy p)
theorem qClause_ok (hh : ∀ i, n ≤ i → h i = 128) {i j : Nat} {S : List jSt} {W C : jWt} {b : Option Nat} (hi : i ≤ n) (e : qClause h n i = .inr (j, S, W, C, b)) : i < j ∧ j ≤ n ∧ S.length + i ≤ j ∧ 3 * cp S + i ≤ j ∧ Sk S W C := by
  have much : ∀ (base : Nat) (S0 : List jSt) (B : jB) (k : Nat), k < 100 → Sg S0 B → ∀ (kd v dy p : Nat) (w c : Int32), (base = 10 → evP kd v dy p (S0 ++ [.inr (base + k)]) ([], w, c) = some ([], w + (if B kd v dy p = true then nI k else 0), c)) ∧ (base = 200 → evP kd v dy p (S0 ++ [.inr (base + k)]) ([], w, c) = some ([], w, c + (if B kd v dy p = true then nI k else 0))) := by
    intro base S0 B k hk hS kd v dy p w c
    constructor
    · rintro rfl
      rw [evP_app S0 _ _ ([B kd v dy p], w, c) (hS.2 kd v dy p [] (w, c))]
      simp only [evP, ev1]
      rw [if_neg (by omega), if_neg (by omega), if_neg (by omega), if_neg (by omega), if_pos (by omega), show 10 + k - 10 = k by omega]
    · rintro rfl
      rw [evP_app S0 _ _ ([B kd v dy p], w, c) (hS.2 kd v dy p [] (w, c))]
      simp only [evP, ev1]
      rw [if_neg (by omega), if_neg (by omega), if_neg (by omega), if_neg (by omega), if_neg (by omega), show 200 + k - 200 = k by omega]
  unfold qClause at e
  split at e
  · cases hm : qMuch h n qWeigh 10 i with
    | inl f => rw [hm] at e; cases e
    | inr z =>
      obtain ⟨j', S', W'⟩ := z
      rw [hm] at e
      dsimp only at e
      cases e
      obtain ⟨a1, a2, a3, a4, S0, B, k, a5, rfl, a6, rfl⟩ := qMuch_ok hh (by decide) hi hm
      refine ⟨by omega, a2, a3, a4, Gd_app a6.1 (Gd_1 (by show _ < 300; omega)), fun kd v dy p w c => ?_⟩
      rw [(much 10 S0 B k a5 a6 kd v dy p w c).1 rfl, Int32.add_zero]
  · split at e
    · cases hm : qMuch h n qClash 200 i with
      | inl f => rw [hm] at e; cases e
      | inr z =>
        obtain ⟨j', S', W'⟩ := z
        rw [hm] at e
        dsimp only at e
        cases e
        obtain ⟨a1, a2, a3, a4, S0, B, k, a5, rfl, a6, rfl⟩ := qMuch_ok hh (by decide) hi hm
        refine ⟨by omega, a2, a3, a4, Gd_app a6.1 (Gd_1 (by show _ < 300; omega)), fun kd v dy p w c => ?_⟩
        rw [(much 200 S0 B k a5 a6 kd v dy p w c).2 rfl, Int32.add_zero]
    · split at e
      · cases hw : qWord h qBar i with
        | inl f => rw [hw] at e; cases e
        | inr i1 =>
          rw [hw] at e
          dsimp only at e
          obtain ⟨a1, a2⟩ := qWord_ok hh qBar i i1 (by decide) hi hw
          cases hn : qNum h i1 with
          | inl f => rw [hn] at e; cases e
          | inr y =>
            obtain ⟨i2, k⟩ := y
            rw [hn] at e
            dsimp only at e
            obtain ⟨c1, c2, c3⟩ := qNum_ok hh hn
            cases e
            refine ⟨by omega, c2, by simp; omega, by simp [cp]; omega, Gd_0, fun kd v dy p w c => ?_⟩
            rw [Int32.add_zero, Int32.add_zero]; rfl
      · cases e
theorem qClauses_ok (hh : ∀ i, n ≤ i → h i = 128) : ∀ (k i : Nat) (a b : jA4), i ≤ n → a.1.length ≤ i → 3 * cp a.1 ≤ i → Gd a.1 → (∀ (kd v dy p : Nat), evP kd v dy p a.1 ([], 1, 0) = some ([], a.2.1 kd v dy p, a.2.2.1 kd v dy p)) → qClauses h n k i a = .inr b →
    b.1.length ≤ n ∧ 3 * cp b.1 ≤ n ∧ Gd b.1 ∧ ∀ (kd v dy p : Nat), evP kd v dy p b.1 ([], 1, 0) = some ([], b.2.1 kd v dy p, b.2.2.1 kd v dy p) := by
  have add : ∀ (i : Nat) (a : jA4) (j : Nat) (S : List jSt) (W C : jWt) (bb : Option Nat), i ≤ n → a.1.length ≤ i → 3 * cp a.1 ≤ i → Gd a.1 → (∀ (kd v dy p : Nat), evP kd v dy p a.1 ([], 1, 0) = some ([], a.2.1 kd v dy p, a.2.2.1 kd v dy p)) → qClause h n i = .inr (j, S, W, C, bb) →
      i < j ∧ j ≤ n ∧ (qAdd a S W C bb).1.length ≤ j ∧ 3 * cp (qAdd a S W C bb).1 ≤ j ∧ Gd (qAdd a S W C bb).1 ∧ ∀ (kd v dy p : Nat), evP kd v dy p (qAdd a S W C bb).1 ([], 1, 0) = some ([], (qAdd a S W C bb).2.1 kd v dy p, (qAdd a S W C bb).2.2.1 kd v dy p) := by
    intro i a j S W C bb hi h1 h2 h0 h3 e
    obtain ⟨b1, b2, b3, b4, b5⟩ := qClause_ok hh hi e
    refine ⟨b1, b2, ?_, ?_, Gd_app h0 b5.1, fun kd v dy p => ?_⟩
    · show (a.1 ++ S).length ≤ j; rw [List.length_append]; omega
    · show 3 * cp (a.1 ++ S) ≤ j; rw [cp_app]; omega
    · show evP kd v dy p (a.1 ++ S) ([], 1, 0) = _
      rw [evP_app a.1 S _ _ (h3 kd v dy p)]
      exact b5.2 kd v dy p _ _
  intro k
  induction k with
  | zero =>
    intro i a b hi h1 h2 h0 h3 e
    rw [qClauses] at e
    cases hc : qClause h n i with
    | inl f => rw [hc] at e; cases e
    | inr z =>
      obtain ⟨j, S, W, C, bb⟩ := z
      rw [hc] at e
      dsimp only at e
      obtain ⟨c1, c2, c3, c4, c0, c5⟩ := add i a j S W C bb hi h1 h2 h0 h3 hc
      split at e
      · rename_i hj
        cases e
        exact ⟨by omega, by omega, c0, c5⟩
      · cases e
  | succ k ih =>
    intro i a b hi h1 h2 h0 h3 e
    rw [qClauses] at e
    cases hc : qClause h n i with
    | inl f => rw [hc] at e; cases e
    | inr z =>
      obtain ⟨j, S, W, C, bb⟩ := z
      rw [hc] at e
      dsimp only at e
      obtain ⟨c1, c2, c3, c4, c0, c5⟩ := add i a j S W C bb hi h1 h2 h0 h3 hc
      split at e
      · rename_i hj
        have hjn : j < n := Nat.not_le.mp fun q => by rw [hh j q] at hj; omega
        exact ih (j + 1) _ b (by omega) (by omega) (by omega) c0 c5 e
      · split at e
        · rename_i hj
          cases e
          exact ⟨by omega, by omega, c0, c5⟩
        · cases e
theorem qCourt_ok (hh : ∀ i, n ≤ i → h i = 128) {b : jA4} (e : qCourt h n = .inr b) : b.1.length ≤ n ∧ 3 * cp b.1 ≤ n ∧ Gd b.1 ∧ ∀ (kd v dy p : Nat), evP kd v dy p b.1 ([], 1, 0) = some ([], b.2.1 kd v dy p, b.2.2.1 kd v dy p) :=
  qClauses_ok hh 9 0 qStart b (Nat.zero_le _) (Nat.le_refl _) (by decide) Gd_0 (fun _ _ _ _ => rfl) e
end QO
theorem qH_end (t : Nat → Int32) (n : Nat) : ∀ i, n ≤ i → qH t n i = 128 := fun i hi => by unfold qH; rw [if_neg (by omega)]
