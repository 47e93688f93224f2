/-- a set of points in a word -/
def Mk (x : Int32) (B : Nat → Bool) : Prop := ∃ m : Nat, m < 256 ∧ x = nI m ∧ ∀ p, p < 8 → m.testBit p = B p
theorem Mk_and {x y : Int32} {A B : Nat → Bool} (h : Mk x A) (h' : Mk y B) : Mk (x &&& y) (fun p => A p && B p) := by
  obtain ⟨m, h1, rfl, h2⟩ := h
  obtain ⟨m', h3, rfl, h4⟩ := h'
  exact ⟨m &&& m', and_lt256 h1, nI_and (by omega) (by omega), fun p hp => by rw [Nat.testBit_and, h2 p hp, h4 p hp]⟩
theorem Mk_or {x y : Int32} {A B : Nat → Bool} (h : Mk x A) (h' : Mk y B) : Mk (x ||| y) (fun p => A p || B p) := by
  obtain ⟨m, h1, rfl, h2⟩ := h
  obtain ⟨m', h3, rfl, h4⟩ := h'
  exact ⟨m ||| m', Nat.or_lt_two_pow (n := 8) h1 h3, nI_or (by omega) (by omega), fun p hp => by rw [Nat.testBit_or, h2 p hp, h4 p hp]⟩
theorem tb255 : ∀ p, p < 8 → Nat.testBit 255 p = true := by decide
theorem Mk_not {x : Int32} {A : Nat → Bool} (h : Mk x A) : Mk (x ^^^ 255) (fun p => !(A p)) := by
  obtain ⟨m, h1, rfl, h2⟩ := h
  exact ⟨m ^^^ 255, xor_lt256 h1 (by omega), nI_xor (b := 255) (by omega) (by omega), fun p hp => by rw [Nat.testBit_xor, h2 p hp, tb255 p hp]; show (A p ^^ true) = !(A p); cases A p <;> rfl⟩
theorem Mk_0 : Mk 0 (fun _ => false) := ⟨0, by omega, rfl, fun p _ => Nat.zero_testBit p⟩
theorem Mk_255 : Mk 255 (fun _ => true) := ⟨255, by omega, rfl, tb255⟩
theorem Mk.congr {x : Int32} {A B : Nat → Bool} (h : Mk x A) (e : ∀ p, p < 8 → A p = B p) : Mk x B := by
  obtain ⟨m, h1, h2, h3⟩ := h
  exact ⟨m, h1, h2, fun p hp => (h3 p hp).trans (e p hp)⟩
set_option maxRecDepth 100000 in
theorem bit_ok : ∀ m : Nat, m < 256 → ∀ p, p < 8 → ((nI m >>> (nI p &&& 31)) &&& 1) = jz (m.testBit p) := by decide +kernel
/-- what a text has made so far: weights, clashes, bar, clauses -/
abbrev jLE : Type := (Nat → Int32) × (Nat → Int32) × Nat × Nat
def LE (M0 M : jM) (kd v dy : Nat) (e : jLE) : Prop := (∀ b, b < 21 ∨ 26 < b → M b = M0 b) ∧ M 21 3 = nI kd ∧ M 21 4 = nI v ∧ M 21 5 = nI dy ∧ M 21 2 = nI e.2.2.1 ∧ M 21 9 = nI e.2.2.2 ∧ ∀ p, p < 8 → M 22 p = e.1 p ∧ M 23 p = e.2.1 p
/-- what is open: the sign, the terms, the factors -/
abbrev jFr : Type := Nat × (Nat → Bool) × (Nat → Bool)
abbrev jSk : Type := List jFr × (Nat → Bool) × (Nat → Bool)
def Cx (M : jM) : List jFr → Prop
  | [] => True
  | fr :: cx => M 24 cx.length = nI fr.1 ∧ fr.1 < 128 ∧ Mk (M 25 cx.length) fr.2.1 ∧ Mk (M 26 cx.length) fr.2.2 ∧ Cx M cx
def Sx (M : jM) (s : jSk) : Prop := M 21 15 = nI s.1.length ∧ s.1.length ≤ 5 ∧ Cx M s.1 ∧ Mk (M 25 s.1.length) s.2.1 ∧ Mk (M 26 s.1.length) s.2.2
theorem Cx.congr {M M' : jM} : ∀ {cx : List jFr}, Cx M cx → (∀ k, k < cx.length → M' 24 k = M 24 k ∧ M' 25 k = M 25 k ∧ M' 26 k = M 26 k) → Cx M' cx := by
  intro cx
  induction cx with
  | nil => intro _ _; trivial
  | cons fr cx ih =>
    intro h e
    obtain ⟨h1, h2, h3, h4, h5⟩ := h
    obtain ⟨e1, e2, e3⟩ := e cx.length (by simp)
    exact ⟨e1.trans h1, h2, by rw [e2]; exact h3, by rw [e3]; exact h4, ih h5 fun k hk => e k (by simp; omega)⟩
theorem Sx.congr {M M' : jM} {s : jSk} (h : Sx M s) (e1 : M' 21 15 = M 21 15) (e2 : M' 24 = M 24) (e3 : M' 25 = M 25) (e4 : M' 26 = M 26) : Sx M' s := by
  obtain ⟨h1, h2, h3, h4, h5⟩ := h
  exact ⟨e1.trans h1, h2, h3.congr fun k _ => ⟨by rw [e2], by rw [e3], by rw [e4]⟩, by rw [e3]; exact h4, by rw [e4]; exact h5⟩
/-- what a factor that holds for B leaves open -/
def endF : List jFr → (Nat → Bool) → (Nat → Bool) → (Nat → Bool) → jSk
  | [], t, f, B => ([], t, fun p => f p && B p)
  | fr :: cx, t, f, B => if fr.1 = 33 then endF cx fr.2.1 fr.2.2 (fun p => !(B p)) else (fr :: cx, t, fun p => f p && B p)
def Com (M0 M : jM) (kd v dy : Nat) (e : jLE) (verb times : Nat) (s : jSk) : Prop := LE M0 M kd v dy e ∧ M 21 7 = nI verb ∧ M 21 12 = nI times ∧ times < 100 ∧ (verb = 119 ∨ verb = 99) ∧ Sx M s
theorem LE.congr {M0 M M' : jM} {kd v dy : Nat} {e : jLE} (h : LE M0 M kd v dy e) (e1 : ∀ b, b ≠ 21 → b ≠ 24 → b ≠ 25 → b ≠ 26 → M' b = M b) (e2 : ∀ i, i < 10 → i ≠ 6 → i ≠ 7 → i ≠ 8 → M' 21 i = M 21 i) : LE M0 M' kd v dy e := by
  obtain ⟨h1, h2, h3, h4, h5, h6, h7⟩ := h
  refine ⟨fun b hb => (e1 b (by omega) (by omega) (by omega) (by omega)).trans (h1 b hb), (e2 3 (by omega) (by omega) (by omega) (by omega)).trans h2, (e2 4 (by omega) (by omega) (by omega) (by omega)).trans h3, (e2 5 (by omega) (by omega) (by omega) (by omega)).trans h4, (e2 2 (by omega) (by omega) (by omega) (by omega)).trans h5, (e2 9 (by omega) (by omega) (by omega) (by omega)).trans h6, fun p hp => ?_⟩
  rw [e1 22 (by omega) (by omega) (by omega) (by omega), e1 23 (by omega) (by omega) (by omega) (by omega)]
  exact h7 p hp
/-- a clause's end -/
def grown (e : jLE) (verb times : Nat) (B : Nat → Bool) : jLE := (fun p => e.1 p + (if verb = 119 then (if B p = true then nI times else 0) else 0), fun p => e.2.1 p + (if verb = 119 then 0 else (if B p = true then nI times else 0)), e.2.2.1, e.2.2.2 + 1)
section LA
variable {G : jGT} {d : Nat}
theorem c_endF4 {x1 : Int32} {post : jM → Prop} : ∀ (cx : List jFr) (t f B : Nat → Bool) (x : Int32) (k3 : Nat) (M : jM), cx.length + k3 ≤ 5 → Sx M (cx, t, f) → Mk x B → (∀ M', Sx M' (endF cx t f B) → (∀ b, b ≠ 21 → b ≠ 26 → M' b = M b) → (∀ i, i ≠ 15 → M' 21 i = M 21 i) → post M') → kX3_endFactor_4 G d x1 x (nI k3) M post := by
  have fin : ∀ (cx : List jFr) (t f B : Nat → Bool) (x : Int32) (M : jM), Sx M (cx, t, f) → Mk x B → (∀ M', Sx M' (cx, t, fun p => f p && B p) → (∀ b, b ≠ 21 → b ≠ 26 → M' b = M b) → (∀ i, i ≠ 15 → M' 21 i = M 21 i) → post M') → (if (M 21 15) < 0 then post M else (if 5 < (M 21 15) then post M else (vp_in (M 21 15) 6 ∧ (vp_in (M 21 15) 6 ∧ post (jup M 26 ((M 21 15).toNatClampNeg) ((M 26 ((M 21 15).toNatClampNeg)) &&& x)))))) := by
    intro cx t f B x M hS hx k
    obtain ⟨h1, h2, h3, h4, h5⟩ := hS
    dsimp only at h1 h2 h3 h4 h5
    rw [h1, if_neg (nI_pos (by omega)), show (5 : Int32) = nI 5 from rfl, if_neg (by rw [nI_ltI (by omega) (by omega)]; omega), nI_clamp (by omega)]
    refine ⟨vp_in_nI (by omega) (by omega), vp_in_nI (by omega) (by omega), k _ ⟨by (simp (disch := omega) only [jup_ss, jup_sn, jup_n, jup_ne]); exact h1, h2, h3.congr fun i hi => ⟨by (simp (disch := omega) only [jup_ss, jup_sn, jup_n, jup_ne]), by (simp (disch := omega) only [jup_ss, jup_sn, jup_n, jup_ne]), by (simp (disch := omega) only [jup_ss, jup_sn, jup_n, jup_ne])⟩, by (simp (disch := omega) only [jup_ss, jup_sn, jup_n, jup_ne]); exact h4, by (simp (disch := omega) only [jup_ss, jup_sn, jup_n, jup_ne]); exact Mk_and h5 hx⟩ (fun b hb hb' => by (simp (disch := omega) only [jup_ne])) (fun i hi => by (simp (disch := omega) only [jup_ss, jup_sn, jup_n, jup_ne]))⟩
  intro cx
  induction cx with
  | nil =>
    intro t f B x k3 M hk hS hx k
    have h1 : M 21 15 = 0 := hS.1
    have F := fin [] t f B x M hS hx k
    refine bX3_endFactor_4 (ite_i (fun _ => F) (fun _ => ite_ti (by rw [h1]; decide) F))
  | cons fr cx ih =>
    intro t f B x k3 M hk hS hx k
    have hS' := hS
    obtain ⟨h1, h2, h3, h4, h5⟩ := hS
    dsimp only at h1 h2 h3 h4 h5
    rw [List.length_cons] at h1 h2 h4 h5 hk
    obtain ⟨c1, c2, c3, c4, c5⟩ := h3
    refine bX3_endFactor_4 (ite_fi (by rw [show (5 : Int32) = nI 5 from rfl, nI_leI (by omega) (by omega)]; omega) (ite_fi (by rw [h1, show (0 : Int32) = nI 0 from rfl, nI_leI (by omega) (by omega)]; omega) (ite_fi (by rw [h1, show (5 : Int32) = nI 5 from rfl, nI_ltI (by omega) (by omega)]; omega) ⟨?_, ?_⟩)))
    · rw [h1, nI_pred]; exact vp_in_nI (by omega) (by omega)
    · have e24 : M 24 ((M 21 15 - 1).toNatClampNeg) = nI fr.1 := by rw [h1, nI_pred, nI_clamp (by omega)]; exact c1
      rw [e24]
      refine ite_i (fun q => ?_) (fun q => ?_)
      · rw [show (33 : Int32) = nI 33 from rfl, nI_eq (by omega) (by omega)] at q
        rw [h1, nI_pred, nI_1]
        rw [endF, if_pos q] at k
        refine ih fr.2.1 fr.2.2 (fun p => !(B p)) (x ^^^ 255) (k3 + 1) _ (by omega) ⟨by (simp (disch := omega) only [jup_ss, jup_sn, jup_n, jup_ne]), by dsimp only; omega, c5.congr fun i hi => ⟨by (simp (disch := omega) only [jup_ss, jup_sn, jup_n, jup_ne]), by (simp (disch := omega) only [jup_ss, jup_sn, jup_n, jup_ne]), by (simp (disch := omega) only [jup_ss, jup_sn, jup_n, jup_ne])⟩, by (simp (disch := omega) only [jup_ss, jup_sn, jup_n, jup_ne]); exact c3, by (simp (disch := omega) only [jup_ss, jup_sn, jup_n, jup_ne]); exact c4⟩ (Mk_not hx) (fun M' g1 g2 g3 => k M' g1 (fun b hb hb' => by rw [g2 b hb hb']; (simp (disch := omega) only [jup_ne])) (fun i hi => by rw [g3 i hi]; (simp (disch := omega) only [jup_ss, jup_sn, jup_n, jup_ne])))
      · rw [show (33 : Int32) = nI 33 from rfl, nI_eq (by omega) (by omega)] at q
        rw [endF, if_neg q] at k
        exact fin (fr :: cx) t f B x M hS' hx k
theorem c_endFactor {cx : List jFr} {t f B : Nat → Bool} {x : Int32} {M : jM} {post : jM → Prop} (hS : Sx M (cx, t, f)) (hx : Mk x B) (k : ∀ M', Sx M' (endF cx t f B) → (∀ b, b ≠ 21 → b ≠ 26 → M' b = M b) → (∀ i, i ≠ 15 → M' 21 i = M 21 i) → post M') : CV G d mX3_endFactor [.ref 21, .int x] M post :=
  eX3_endFactor (bX3_endFactor_0 (c_endF4 cx t f B x 0 M (by have := hS.2.1; dsimp only at this; omega) hS hx k))
theorem c_growW {x : Int32} {B : Nat → Bool} {times : Nat} {M : jM} {post : jM → Prop} (hx : Mk x B) (ht : M 21 12 = nI times) (k : ∀ M', (∀ p, p < 8 → M' 22 p = M 22 p + (if B p = true then nI times else 0)) → (∀ b, b ≠ 22 → M' b = M b) → post M') : CV G d mX3_grow [.ref 21, .ref 22, .int x] M post := by
  obtain ⟨m, h1, rfl, h2⟩ := hx
  have loop : ∀ (r n : Nat) (M1 : jM), n + r = 8 → (∀ p, p < n → M1 22 p = M 22 p + (if B p = true then nI times else 0)) → (∀ p, n ≤ p → M1 22 p = M 22 p) → (∀ b, b ≠ 22 → M1 b = M b) → kX3_growW_2 G d (nI m) (nI n) M1 post := by
    intro r
    induction r with
    | zero =>
      intro n M1 hn i1 i2 i3
      obtain rfl : n = 8 := by omega
      exact bX3_growW_2 (ite_ti (by decide) (k M1 i1 i3))
    | succ r ih =>
      intro n M1 hn i1 i2 i3
      have c8 : ¬ (8 : Int32) ≤ nI n := by rw [show (8 : Int32) = nI 8 from rfl, nI_leI (by omega) (by omega)]; omega
      refine bX3_growW_2 (ite_fi c8 (ite_fi c8 ⟨vp_in_nI (by omega) (by omega), vp_in_nI (by omega) (by omega), ?_⟩))
      rw [bit_ok m h1 n (by omega), h2 n (by omega), nI_clamp (by omega), nI_1, i3 21 (by omega), ht]
      refine ih (n + 1) _ (by omega) (fun p hp => ?_) (fun p hp => by (simp (disch := omega) only [jup_ss, jup_sn, jup_n, jup_ne]); exact i2 p (by omega)) (fun b hb => by (simp (disch := omega) only [jup_ne]); exact i3 b hb)
      by_cases e : p = n
      · subst e
        rw [jup_ss, i2 p (by omega)]
        congr 1
        cases B p <;> simp [jz]
      · simp (disch := omega) only [jup_sn]
        exact i1 p (by omega)
  exact eX3_growW (bX3_growW_0 (loop 8 0 M (by omega) (fun p hp => by omega) (fun p _ => rfl) (fun _ _ => rfl)))
theorem c_growC {x : Int32} {B : Nat → Bool} {times : Nat} {M : jM} {post : jM → Prop} (hx : Mk x B) (ht : M 21 12 = nI times) (k : ∀ M', (∀ p, p < 8 → M' 23 p = M 23 p + (if B p = true then nI times else 0)) → (∀ b, b ≠ 23 → M' b = M b) → post M') : CV G d mX3_grow [.ref 21, .ref 23, .int x] M post := by
  obtain ⟨m, h1, rfl, h2⟩ := hx
  have loop : ∀ (r n : Nat) (M1 : jM), n + r = 8 → (∀ p, p < n → M1 23 p = M 23 p + (if B p = true then nI times else 0)) → (∀ p, n ≤ p → M1 23 p = M 23 p) → (∀ b, b ≠ 23 → M1 b = M b) → kX3_growC_2 G d (nI m) (nI n) M1 post := by
    intro r
    induction r with
    | zero =>
      intro n M1 hn i1 i2 i3
      obtain rfl : n = 8 := by omega
      exact bX3_growC_2 (ite_ti (by decide) (k M1 i1 i3))
    | succ r ih =>
      intro n M1 hn i1 i2 i3
      have c8 : ¬ (8 : Int32) ≤ nI n := by rw [show (8 : Int32) = nI 8 from rfl, nI_leI (by omega) (by omega)]; omega
      refine bX3_growC_2 (ite_fi c8 (ite_fi c8 ⟨vp_in_nI (by omega) (by omega), vp_in_nI (by omega) (by omega), ?_⟩))
      rw [bit_ok m h1 n (by omega), h2 n (by omega), nI_clamp (by omega), nI_1, i3 21 (by omega), ht]
      refine ih (n + 1) _ (by omega) (fun p hp => ?_) (fun p hp => by (simp (disch := omega) only [jup_ss, jup_sn, jup_n, jup_ne]); exact i2 p (by omega)) (fun b hb => by (simp (disch := omega) only [jup_ne]); exact i3 b hb)
      by_cases e : p = n
      · subst e
        rw [jup_ss, i2 p (by omega)]
        congr 1
        cases B p <;> simp [jz]
      · simp (disch := omega) only [jup_sn]
        exact i1 p (by omega)
  exact eX3_growC (bX3_growC_0 (loop 8 0 M (by omega) (fun p hp => by omega) (fun p _ => rfl) (fun _ _ => rfl)))
end LA
