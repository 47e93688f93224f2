theorem jSH_upd {n c N : Nat} (h : jSH n = (c, N)) : (fun a => if a = n then ((c, N) : Nat × Nat) else jSH a) = jSH := by
  funext a
  by_cases e : a = n
  · rw [if_pos e, e, h]
  · rw [if_neg e]
theorem jrup_ss {r : jR} {k j : Nat} {x : Option Nat} : jrup r k j x k j = x := by simp [jrup]
theorem jrup_sn {r : jR} {k j b : Nat} {x : Option Nat} (h : b ≠ j) : jrup r k j x k b = r k b := by simp [jrup, h]
theorem jrup_n {r : jR} {k j a b : Nat} {x : Option Nat} (h : a ≠ k) : jrup r k j x a b = r a b := by simp [jrup, h]
/-- nothing is there from b on -/
def iZ (b : Nat) (M : jM) (r : jR) : Prop := ∀ k, b ≤ k → M k = (fun _ => 0) ∧ r k = fun _ => none
theorem iZ.up {b b' : Nat} {M : jM} {r : jR} (h : iZ b M r) (hb : b ≤ b') : iZ b' M r := fun k hk => h k (by omega)
theorem jMR_emp {k : Nat} (h : jMRl.getD k [] = []) : jMR k = fun _ => none := by funext j; unfold jMR; rw [h]; rfl
theorem jMR_keys : ∀ k, k < 130 → ∀ p ∈ jMRl.getD k [], p.1 < (jSH k).2 := by decide +kernel
theorem lookup_none {l : List (Nat × Nat)} {j : Nat} (h : ∀ p ∈ l, p.1 ≠ j) : l.lookup j = none := by
  induction l with
  | nil => rfl
  | cons p l ih =>
    rw [List.lookup_cons]
    have : (j == p.1) = false := by simpa using fun e : j = p.1 => h p List.mem_cons_self e.symm
    rw [this]
    exact ih fun q hq => h q (List.mem_cons_of_mem _ hq)
theorem jMR_row {k N : Nat} {f : Nat → Option Nat} (hk : k < 130) (hN : (jSH k).2 = N) (h1 : ∀ j, j < N → f j = jMR k j) (h2 : ∀ j, N ≤ j → f j = none) : f = jMR k := by
  funext j
  by_cases hj : j < N
  · exact h1 j hj
  · rw [h2 j (by omega)]
    unfold jMR
    exact (lookup_none fun p hp e => by have := jMR_keys k hk p hp; omega).symm
theorem jup_zero {M : jM} {k j : Nat} (h : M k = fun _ => 0) : (jup M k j 0) k = fun _ => 0 := by
  funext b
  unfold jup
  rw [if_pos rfl, h]
  split <;> rfl
def iP (b b' : Nat) (M : jM) (r : jR) (Q : jM → Prop) : jP := fun v n sh M' r' => v = none ∧ n = b' ∧ sh = jSH ∧ iZ b' M' r' ∧ (∀ k, k < b → M' k = M k ∧ r' k = r k) ∧ (∀ k, b ≤ k → k < b' → r' k = jMR k) ∧ Q M'
def dfOk (T : u_T) (ci j : Nat) : Bool := match parseFieldDescriptor (T j).2.2.1 with
  | some ty => (match defaultValue ty with
    | .null => jref ci j
    | .int x => !(jref ci j) && x == 0
    | _ => false)
  | none => true
theorem dfOk_use {T : u_T} {ci N : Nat} (h : ∀ j, j < N → dfOk T ci j = true) : ∀ j, j < N → ∀ ty, parseFieldDescriptor (T j).2.2.1 = some ty → defaultValue ty = if jref ci j = true then .null else .int 0 := by
  intro j hj ty ht
  have := h j hj
  unfold dfOk at this
  rw [ht] at this
  dsimp only at this
  cases hd : defaultValue ty <;> rw [hd] at this <;> dsimp only at this
  all_goals first
    | (cases this; done)
    | (rw [if_pos this])
    | (rename_i x
       simp only [Bool.and_eq_true, Bool.not_eq_true', beq_iff_eq] at this
       rw [this.2, if_neg (by rw [this.1]; decide)])
theorem df_0 : ∀ j, j < 3 → dfOk TX0 0 j = true := by decide +kernel
theorem df_1 : ∀ j, j < 5 → dfOk TX1 1 j = true := by decide +kernel
theorem df_2 : ∀ j, j < 17 → dfOk TX2 2 j = true := by decide +kernel
theorem df_3 : ∀ j, j < 19 → dfOk TX3 3 j = true := by decide +kernel
theorem df_4 : ∀ j, j < 7 → dfOk TX4 4 j = true := by decide +kernel
theorem df_5 : ∀ j, j < 11 → dfOk TX5 5 j = true := by decide +kernel
theorem df_6 : ∀ j, j < 8 → dfOk TX6 6 j = true := by decide +kernel
theorem df_7 : ∀ j, j < 8 → dfOk TX7 7 j = true := by decide +kernel
theorem df_8 : ∀ j, j < 31 → dfOk TX8 8 j = true := by decide +kernel
