def sm (f : Nat → Nat) : Nat → Nat
  | 0 => 0
  | n + 1 => sm f n + f n
theorem sm_congr {f g : Nat → Nat} : ∀ n, (∀ i, i < n → f i = g i) → sm f n = sm g n := by
  intro n
  induction n with
  | zero => intro _; rfl
  | succ n ih => intro h; rw [sm, sm, ih (fun i hi => h i (by omega)), h n (by omega)]
theorem sm_add {f g : Nat → Nat} : ∀ n, sm (fun i => f i + g i) n = sm f n + sm g n := by
  intro n
  induction n with
  | zero => rfl
  | succ n ih => rw [sm, sm, sm, ih]; omega
theorem sm_0 : ∀ n, sm (fun _ => 0) n = 0 := by
  intro n
  induction n with
  | zero => rfl
  | succ n ih => rw [sm, ih]
theorem sm_one {f : Nat → Nat} {w : Nat} : ∀ n, sm (fun i => if i = w then f i else 0) n = if w < n then f w else 0 := by
  intro n
  induction n with
  | zero => rfl
  | succ n ih =>
    rw [sm, ih]
    by_cases e : n = w
    · subst e
      rw [if_neg (by omega), if_pos rfl, if_pos (by omega), Nat.zero_add]
    · rw [if_neg e, Nat.add_zero]
      by_cases h : w < n
      · rw [if_pos h, if_pos (by omega)]
      · rw [if_neg h, if_neg (by omega)]
theorem sm_le {f : Nat → Nat} {B : Nat} (h : ∀ i, f i ≤ B) : ∀ n, sm f n ≤ n * B := by
  intro n
  induction n with
  | zero => exact Nat.zero_le _
  | succ n ih => rw [sm, Nat.succ_mul]; have := h n; omega
theorem shr1 {n : Nat} (h : n < 2 ^ 31) : nI n >>> ((1 : Int32) &&& 31) = nI (n / 2) := by
  apply Int32.toInt_inj.mp
  rw [← show (nI n >>> ((1 : Int32) &&& 31)).toBitVec.toInt = (nI n >>> ((1 : Int32) &&& 31)).toInt from rfl, Int32.toBitVec_shiftRight, BitVec.toInt_sshiftRight', show (((1 : Int32) &&& 31).toBitVec.smod 32).toNat = 1 from by decide, show (nI n).toBitVec.toInt = (nI n).toInt from rfl, nI_toInt h, nI_toInt (by omega), Int.shiftRight_eq_div_pow]
  omega
theorem low_bit {n : Nat} (h : n < 2 ^ 31) : nI n &&& 1 = nI (n % 2) := by
  rw [show (1 : Int32) = nI 1 from rfl, nI_and (by omega) (by omega), Nat.and_one_is_mod]
theorem gcd_odd {s : Nat} (h : s % 2 = 1) (k : Nat) : Nat.gcd s (2 ^ k) = 1 := by
  have : Nat.Coprime s 2 := by
    show Nat.gcd s 2 = 1
    rw [Nat.gcd_comm, Nat.gcd_rec, h]
    rfl
  exact Nat.Coprime.pow_right k this
section LO
variable {G : jGT} {d : Nat} {M : jM}
theorem c_partL {x0 : Int32} {b : Bool} {post : Int64 → jM → Prop} {A B : Nat} (h : post (if b = true then lN B else lN A) M) : ∀ (k s i : Nat), i + k = 8 → s < 2 ^ 30 → s / Nat.gcd s (2 ^ k) = A → 2 ^ k / Nat.gcd s (2 ^ k) = B → kX0_part_9 G d x0 (jz b) (nI s) (nI (2 ^ k)) (nI i) M post := by
  intro k
  induction k with
  | zero =>
    intro s i hi hs hA hB
    obtain rfl : i = 8 := by omega
    have g1 : Nat.gcd s (2 ^ 0) = 1 := Nat.gcd_one_right s
    rw [g1, Nat.div_one] at hA hB
    subst hA; subst hB
    refine bX0_part_9 (ite_ti (by decide) (ite_i (fun q => ?_) (fun q => ?_))) <;> rw [jz_ff] at q
    · rw [if_neg (by rw [q]; decide)] at h; rw [nI_l (by omega)]; exact h
    · rw [if_pos (by simpa using q)] at h; rw [nI_l (by omega)]; exact h
  | succ k ih =>
    intro s i hi hs hA hB
    have p8 : 2 ^ (k + 1) ≤ 2 ^ 8 := Nat.pow_le_pow_right (by omega) (by omega)
    refine bX0_part_9 (ite_fi (by rw [show (8 : Int32) = nI 8 from rfl, nI_leI (by omega) (by omega)]; omega) ?_)
    rw [low_bit (by omega), shr1 (by omega), shr1 (by omega), nI_1]
    refine ite_i (fun q => ?_) (fun q => ite_i (fun p => ?_) (fun p => ?_)) <;> rw [show (0 : Int32) = nI 0 from rfl, nI_eq (by omega) (by omega)] at q
    · have e2 : 2 ^ (k + 1) / 2 = 2 ^ k := by rw [Nat.pow_succ]; omega
      rw [e2]
      obtain ⟨a, rfl⟩ : ∃ a, s = 2 * a := ⟨s / 2, by omega⟩
      have ep : 2 ^ (k + 1) = 2 * 2 ^ k := by rw [Nat.pow_succ]; omega
      rw [ep, Nat.gcd_mul_left] at hA hB
      rw [show 2 * a / 2 = a by omega]
      refine ih a (i + 1) (by omega) (by omega) ?_ ?_
      · rw [← hA]
        exact (Nat.mul_div_mul_left _ _ (by omega)).symm
      · rw [← hB]
        exact (Nat.mul_div_mul_left _ _ (by omega)).symm
    all_goals
      rw [jz_ff] at p
      rw [gcd_odd (by omega) (k + 1), Nat.div_one] at hA hB
      subst hA; subst hB
    · rw [if_neg (by rw [p]; decide)] at h; rw [nI_l (by omega)]; exact h
    · rw [if_pos (by simpa using p)] at h; rw [nI_l (by omega)]; exact h
/-- a part of s 256ths in lowest terms -/
def lowP (b : Bool) (s : Nat) : Nat := if b = true then 256 / Nat.gcd s 256 else s / Nat.gcd s 256
theorem c_part {b : Bool} {s : Nat} {post : Int64 → jM → Prop} (hs : s < 2 ^ 30) (h : post (lN (lowP b s)) M) : CL G (d + 1) mX0_part [.int (nI s), .int (jz b)] M post := by
  refine eX0_part (bX0_part_0 (c_partL (A := s / Nat.gcd s (2 ^ 8)) (B := 2 ^ 8 / Nat.gcd s (2 ^ 8)) ?_ 8 s 0 rfl hs rfl rfl))
  unfold lowP at h
  cases b <;> exact h
theorem c_lowL {x0 x2 : Int64} {b : Bool} {post : Int64 → jM → Prop} {g : Nat} (h : post (if b = true then x2 / lN g else x0 / lN g) M) : ∀ (y x : Nat), x < 2 ^ 40 → y < 2 ^ 40 → ¬ (x = 0 ∧ y = 0) → Nat.gcd x y = g → kX8_lowest_6 G d x0 x2 (jz b) (lN x) (lN y) M post := by
  intro y
  induction y using Nat.strongRecOn with
  | ind y ih =>
    intro x hx hy hn hg
    have z : lg_cmp (lN y) 0 = 0 ↔ y = 0 := by rw [lg_cmp_eq, show (0 : Int64) = lN 0 from rfl, pk_lEQ (by omega) (by omega)]
    refine bX8_lowest_6 (ite_i (fun q => ?_) (fun q => ⟨?_, ?_⟩)) <;> rw [z] at q
    · subst q
      rw [Nat.gcd_zero_right] at hg
      subst hg
      have n0 : ¬ lN x = 0 := by rw [show (0 : Int64) = lN 0 from rfl, pk_lEQ (by omega) (by omega)]; omega
      refine ite_i (fun p => ⟨n0, ?_⟩) (fun p => ⟨n0, ?_⟩) <;> rw [jz_ff] at p
      · rw [if_neg (by rw [p]; decide)] at h; exact h
      · rw [if_pos (by simpa using p)] at h; exact h
    · rw [show (0 : Int64) = lN 0 from rfl, pk_lEQ (by omega) (by omega)]; exact q
    · rw [pk_lRem (by omega) (by omega) (by omega)]
      have lt := Nat.mod_lt x (show 0 < y by omega)
      refine ih (x % y) lt y hy (by omega) (fun w => q w.1) ?_
      rw [← hg, Nat.gcd_comm x y, Nat.gcd_rec y x, Nat.gcd_comm]
theorem c_lowest {b : Bool} {s : Nat} {post : Int64 → jM → Prop} (hs : s < 2 ^ 30) (h : post (lN (lowP b s)) M) : CL G (d + 1) mX8_lowest [.long (lN s), .long 256, .int (jz b)] M post := by
  have gp : 0 < Nat.gcd s 256 := Nat.gcd_pos_of_pos_right s (by omega)
  have gl : Nat.gcd s 256 ≤ 256 := Nat.le_of_dvd (by omega) (Nat.gcd_dvd_right s 256)
  refine eX8_lowest (bX8_lowest_0 ?_)
  rw [show (256 : Int64) = lN 256 from rfl]
  refine c_lowL (g := Nat.gcd s 256) ?_ 256 s (by omega) (by omega) (by omega) rfl
  rw [pk_lDiv (by omega) gp (by omega), pk_lDiv (by omega) gp (by omega)]
  unfold lowP at h
  cases b <;> exact h
end LO
