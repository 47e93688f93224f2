/-- what an expression says: of a kind, v, a day, of a point -/
abbrev jB : Type := Nat → Nat → Nat → Nat → Bool
/-- a step: a test's code, or 1 not, 2 both, 3 either, 10 + n weigh, 200 + n clash -/
abbrev jSt : Type := Nat ⊕ Nat
def enc (q : jSt) : Int32 := match q with
  | .inl c => nI c
  | .inr k => -nI k
/-- a fault's place, or: the place behind, the steps, what it says -/
abbrev jE : Type := Nat ⊕ (Nat × List jSt × jB)
abbrev jWt : Type := Nat → Nat → Nat → Nat → Int32
def qDig (c : Nat) : Bool := decide (48 ≤ c) && decide (c ≤ 57)
def qNum (h : Nat → Nat) (i : Nat) : Nat ⊕ (Nat × Nat) :=
  if qDig (h i) = true then
    (if h i ≠ 48 ∧ qDig (h (i + 1)) = true then .inr (i + 2, 10 * (h i - 48) + (h (i + 1) - 48)) else .inr (i + 1, h i - 48))
  else .inl i
def qWhich (c : Nat) : Option Nat := if c = 112 then some 0 else if c = 107 then some 1 else if c = 118 then some 2 else if c = 100 then some 3 else none
def qHow (c : Nat) : Option Nat := if c = 60 then some 0 else if c = 61 then some 1 else if c = 62 then some 2 else none
def qSel (w kd v dy p : Nat) : Nat := if w = 0 then p else if w = 1 then kd else if w = 2 then v else dy
def qCmp (o a b : Nat) : Bool := if o = 0 then decide (a < b) else if o = 1 then decide (a = b) else decide (b < a)
def qTest (h : Nat → Nat) (i : Nat) : jE :=
  match qWhich (h i) with
  | none => .inl i
  | some w => match qHow (h (i + 1)) with
    | none => .inl (i + 1)
    | some o => match qNum h (i + 2) with
      | .inl e => .inl e
      | .inr (j, n) => .inr (j, [.inl (w + 8 * o + 32 * n)], fun kd v dy p => qCmp o (qSel w kd v dy p) n)
def qLoop (h : Nat → Nat) (f : Nat → jE) (ch : Nat) (code : Nat) (op : Bool → Bool → Bool) : Nat → Nat × List jSt × jB → jE
  | 0, x => .inr x
  | k + 1, (i, S, B) => if h i = ch then
      match f (i + 1) with
      | .inl e => .inl e
      | .inr (j, S', B') => qLoop h f ch code op k (j, S ++ S' ++ [.inr code], fun kd v dy p => op (B kd v dy p) (B' kd v dy p))
    else .inr (i, S, B)
def qEvery (h : Nat → Nat) (n : Nat) (f : Nat → jE) (i : Nat) : jE := match f i with
  | .inl e => .inl e
  | .inr x => qLoop h f 38 2 (fun a b => a && b) n x
def qSome (h : Nat → Nat) (n : Nat) (f : Nat → jE) (i : Nat) : jE := match qEvery h n f i with
  | .inl e => .inl e
  | .inr x => qLoop h (qEvery h n f) 124 3 (fun a b => a || b) n x
/-- a factor, r more of ! and ( may be opened -/
def qFac (h : Nat → Nat) (n : Nat) : Nat → Nat → jE
  | 0, i => if h i = 33 ∨ h i = 40 then .inl i else qTest h i
  | r + 1, i => if h i = 33 then
      (match qFac h n r (i + 1) with
      | .inl e => .inl e
      | .inr (j, S, B) => .inr (j, S ++ [.inr 1], fun kd v dy p => !(B kd v dy p)))
    else if h i = 40 then
      (match qSome h n (qFac h n r) (i + 1) with
      | .inl e => .inl e
      | .inr (j, S, B) => if h j = 41 then .inr (j + 1, S, B) else .inl j)
    else qTest h i
def qE (h : Nat → Nat) (n i : Nat) : jE := qSome h n (qFac h n 5) i
/-- the place of the first sign that is not the word's, or the word's end -/
def qWord (h : Nat → Nat) : List Nat → Nat → Nat ⊕ Nat
  | [], i => .inr i
  | c :: l, i => if h i = c then qWord h l (i + 1) else .inl i
/-- a clause: the place behind, its steps, weight, clash, bar -/
abbrev jK : Type := Nat ⊕ (Nat × List jSt × jWt × jWt × Option Nat)
def qMuch (h : Nat → Nat) (n : Nat) (word : List Nat) (base : Nat) (i : Nat) : Nat ⊕ (Nat × List jSt × jWt) :=
  match qWord h word i with
  | .inl e => .inl e
  | .inr i1 => match qNum h i1 with
    | .inl e => .inl e
    | .inr (i2, k) => if h i2 = 32 then
        (match qE h n (i2 + 1) with
        | .inl e => .inl e
        | .inr (j, S, B) => .inr (j, S ++ [.inr (base + k)], fun kd v dy p => if B kd v dy p = true then nI k else 0))
      else .inl i2
def qWeigh : List Nat := [119, 101, 105, 103, 104, 32]
def qClash : List Nat := [99, 108, 97, 115, 104, 32]
def qBar : List Nat := [98, 97, 114, 32]
def qClause (h : Nat → Nat) (n i : Nat) : jK :=
  if h i = 119 then (match qMuch h n qWeigh 10 i with
    | .inl e => .inl e
    | .inr (j, S, W) => .inr (j, S, W, fun _ _ _ _ => 0, none))
  else if h i = 99 then (match qMuch h n qClash 200 i with
    | .inl e => .inl e
    | .inr (j, S, W) => .inr (j, S, fun _ _ _ _ => 0, W, none))
  else if h i = 98 then (match qWord h qBar i with
    | .inl e => .inl e
    | .inr i1 => match qNum h i1 with
      | .inl e => .inl e
      | .inr (j, k) => .inr (j, [], fun _ _ _ _ => 0, fun _ _ _ _ => 0, some k))
  else .inl i
/-- what the clauses so far make: steps, weights, clashes, bar -/
abbrev jA4 : Type := List jSt × jWt × jWt × Nat
def qAdd (a : jA4) (S : List jSt) (W C : jWt) (b : Option Nat) : jA4 := (a.1 ++ S, fun kd v dy p => a.2.1 kd v dy p + W kd v dy p, fun kd v dy p => a.2.2.1 kd v dy p + C kd v dy p, b.getD a.2.2.2)
/-- from a clause's first sign on, k more clauses allowed behind this one -/
def qClauses (h : Nat → Nat) (n : Nat) : Nat → Nat → jA4 → Nat ⊕ jA4
  | 0, i, a => (match qClause h n i with
    | .inl e => .inl e
    | .inr (j, S, W, C, b) => if j = n then .inr (qAdd a S W C b) else .inl j)
  | k + 1, i, a => (match qClause h n i with
    | .inl e => .inl e
    | .inr (j, S, W, C, b) => if h j = 59 then qClauses h n k (j + 1) (qAdd a S W C b) else if j = n then .inr (qAdd a S W C b) else .inl j)
def qStart : jA4 := ([], fun _ _ _ _ => 1, fun _ _ _ _ => 0, 2)
def qCourt (h : Nat → Nat) (n : Nat) : Nat ⊕ jA4 := qClauses h n 9 0 qStart
/-- the tape as it is read: 128 behind its end -/
def qH (t : Nat → Int32) (n : Nat) : Nat → Nat := fun i => if i < n then (t i).toNatClampNeg else 128
theorem qH_congr {t t' : Nat → Int32} {n : Nat} (h : ∀ k, k < n → t' k = t k) : qH t' n = qH t n := by
  funext i
  unfold qH
  by_cases hi : i < n
  · rw [if_pos hi, if_pos hi, h i hi]
  · rw [if_neg hi, if_neg hi]
