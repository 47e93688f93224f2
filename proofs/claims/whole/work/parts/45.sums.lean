/-- f's sum over the points of a set of the first n -/
def wS (f : Nat → Int32) : Nat → Nat → Int32
  | 0, _ => 0
  | n + 1, k => if 2 ^ n ≤ k then wS f n (k - 2 ^ n) + f n else wS f n k
theorem wS_lo {f : Nat → Int32} {n k : Nat} (h : k < 2 ^ n) : wS f (n + 1) k = wS f n k := by rw [wS, if_neg (by omega)]
theorem wS_hi {f : Nat → Int32} {n k : Nat} : wS f (n + 1) (k + 2 ^ n) = wS f n k + f n := by rw [wS, if_pos (by omega), Nat.add_sub_cancel]
theorem shl_n : ∀ n : Nat, n < 8 → (1 : Int32) <<< (nI n &&& 31) = nI (2 ^ n) := by decide +kernel
theorem pow_8 {n : Nat} (h : n < 8) : 2 ^ n ≤ 128 ∧ 2 ^ (n + 1) = 2 * 2 ^ n := ⟨Nat.pow_le_pow_right (n := 2) (i := n) (j := 7) (by omega) (by omega), by rw [Nat.pow_succ]; omega⟩
section AU
variable {G : jGT} {d : Nat} {f : Nat → Int32} {post : jM → Prop}
theorem c_addUpWIn {n : Nat} (hn : n < 8) : ∀ (r x : Nat) (M : jM), x + r = 2 ^ n → (∀ k, k < 8 → M 22 k = f k) → (∀ k, k < 2 ^ n + x → M 29 k = wS f (n + 1) k) →
    (∀ M', (∀ k, k < 2 ^ (n + 1) → M' 29 k = wS f (n + 1) k) → (∀ a, a ≠ 29 → M' a = M a) → kX5_addUpW_6 G d (nI (n + 1)) M' post) → kX5_addUpW_19 G d (nI n) (nI (2 ^ n)) (nI x) M post := by
  obtain ⟨p1, p2⟩ := pow_8 hn
  intro r
  induction r with
  | zero =>
    intro x M hx hf hi k
    refine bX5_addUpW_19 (ite_ti (by rw [nI_leI (by omega) (by omega)]; omega) ?_)
    rw [nI_1]
    exact k M (fun j hj => hi j (by omega)) (fun _ _ => rfl)
  | succ r ih =>
    intro x M hx hf hi k
    refine bX5_addUpW_19 (ite_fi (by rw [nI_leI (by omega) (by omega)]; omega) ?_)
    rw [nI_add, nI_clamp (by omega), nI_clamp (by omega), nI_clamp (by omega), nI_1]
    refine ⟨vp_in_nI (by omega) (by omega), vp_in_nI (by omega) (by omega), vp_in_nI (by omega) (by omega), ih (x + 1) _ (by omega) (fun j hj => by (simp (disch := omega) only [jup_ss, jup_sn, jup_n, jup_ne]); exact hf j hj) (fun j hj => ?_) (fun M' g1 g2 => k M' g1 (fun a ha => by rw [g2 a ha]; (simp (disch := omega) only [jup_ne])))⟩
    by_cases e : j = 2 ^ n + x
    · subst e
      rw [jup_ss, hi x (by omega), wS_lo (by omega), Nat.add_comm (2 ^ n) x, wS_hi, hf n hn]
    · rw [jup_sn e]
      exact hi j (by omega)
theorem c_addUpWOut : ∀ (r n : Nat) (M : jM), n + r = 8 → (∀ k, k < 8 → M 22 k = f k) → (∀ k, k < 2 ^ n → M 29 k = wS f n k) →
    (∀ M', (∀ k, k < 256 → M' 29 k = wS f 8 k) → (∀ a, a ≠ 29 → M' a = M a) → post M') → kX5_addUpW_6 G d (nI n) M post := by
  intro r
  induction r with
  | zero =>
    intro n M hn hf hi k
    obtain rfl : n = 8 := by omega
    exact bX5_addUpW_6 (ite_ti (by decide) (k M hi (fun _ _ => rfl)))
  | succ r ih =>
    intro n M hn hf hi k
    refine bX5_addUpW_6 (ite_fi (by rw [show (8 : Int32) = nI 8 from rfl, nI_leI (by omega) (by omega)]; omega) ?_)
    rw [shl_n n (by omega)]
    refine c_addUpWIn (by omega) (2 ^ n) 0 M (by omega) hf (fun j hj => by rw [wS_lo hj]; exact hi j hj) (fun M' g1 g2 => ih (n + 1) M' (by omega) (fun j hj => by rw [g2 22 (by omega)]; exact hf j hj) g1 (fun M2 g3 g4 => k M2 g3 (fun a ha => (g4 a ha).trans (g2 a ha))))
theorem c_addUpW {M : jM} (hf : ∀ k, k < 8 → M 22 k = f k) (k : ∀ M', (∀ k, k < 256 → M' 29 k = wS f 8 k) → (∀ a, a ≠ 29 → M' a = M a) → post M') : CV G d mX5_addUp [.ref 22, .ref 29] M post := by
  refine eX5_addUpW (bX5_addUpW_0 (c_addUpWOut 8 0 _ rfl (fun j hj => by (simp (disch := omega) only [jup_ss, jup_sn, jup_n, jup_ne]); exact hf j hj) (fun j hj => ?_) (fun M' g1 g2 => k M' g1 (fun a ha => by rw [g2 a ha]; (simp (disch := omega) only [jup_ne])))))
  obtain rfl : j = 0 := by simpa using hj
  rw [jup_ss]; rfl
theorem c_addUpCIn {n : Nat} (hn : n < 8) : ∀ (r x : Nat) (M : jM), x + r = 2 ^ n → (∀ k, k < 8 → M 23 k = f k) → (∀ k, k < 2 ^ n + x → M 30 k = wS f (n + 1) k) →
    (∀ M', (∀ k, k < 2 ^ (n + 1) → M' 30 k = wS f (n + 1) k) → (∀ a, a ≠ 30 → M' a = M a) → kX5_addUpC_6 G d (nI (n + 1)) M' post) → kX5_addUpC_19 G d (nI n) (nI (2 ^ n)) (nI x) M post := by
  obtain ⟨p1, p2⟩ := pow_8 hn
  intro r
  induction r with
  | zero =>
    intro x M hx hf hi k
    refine bX5_addUpC_19 (ite_ti (by rw [nI_leI (by omega) (by omega)]; omega) ?_)
    rw [nI_1]
    exact k M (fun j hj => hi j (by omega)) (fun _ _ => rfl)
  | succ r ih =>
    intro x M hx hf hi k
    refine bX5_addUpC_19 (ite_fi (by rw [nI_leI (by omega) (by omega)]; omega) ?_)
    rw [nI_add, nI_clamp (by omega), nI_clamp (by omega), nI_clamp (by omega), nI_1]
    refine ⟨vp_in_nI (by omega) (by omega), vp_in_nI (by omega) (by omega), vp_in_nI (by omega) (by omega), ih (x + 1) _ (by omega) (fun j hj => by (simp (disch := omega) only [jup_ss, jup_sn, jup_n, jup_ne]); exact hf j hj) (fun j hj => ?_) (fun M' g1 g2 => k M' g1 (fun a ha => by rw [g2 a ha]; (simp (disch := omega) only [jup_ne])))⟩
    by_cases e : j = 2 ^ n + x
    · subst e
      rw [jup_ss, hi x (by omega), wS_lo (by omega), Nat.add_comm (2 ^ n) x, wS_hi, hf n hn]
    · rw [jup_sn e]
      exact hi j (by omega)
theorem c_addUpCOut : ∀ (r n : Nat) (M : jM), n + r = 8 → (∀ k, k < 8 → M 23 k = f k) → (∀ k, k < 2 ^ n → M 30 k = wS f n k) →
    (∀ M', (∀ k, k < 256 → M' 30 k = wS f 8 k) → (∀ a, a ≠ 30 → M' a = M a) → post M') → kX5_addUpC_6 G d (nI n) M post := by
  intro r
  induction r with
  | zero =>
    intro n M hn hf hi k
    obtain rfl : n = 8 := by omega
    exact bX5_addUpC_6 (ite_ti (by decide) (k M hi (fun _ _ => rfl)))
  | succ r ih =>
    intro n M hn hf hi k
    refine bX5_addUpC_6 (ite_fi (by rw [show (8 : Int32) = nI 8 from rfl, nI_leI (by omega) (by omega)]; omega) ?_)
    rw [shl_n n (by omega)]
    refine c_addUpCIn (by omega) (2 ^ n) 0 M (by omega) hf (fun j hj => by rw [wS_lo hj]; exact hi j hj) (fun M' g1 g2 => ih (n + 1) M' (by omega) (fun j hj => by rw [g2 23 (by omega)]; exact hf j hj) g1 (fun M2 g3 g4 => k M2 g3 (fun a ha => (g4 a ha).trans (g2 a ha))))
theorem c_addUpC {M : jM} (hf : ∀ k, k < 8 → M 23 k = f k) (k : ∀ M', (∀ k, k < 256 → M' 30 k = wS f 8 k) → (∀ a, a ≠ 30 → M' a = M a) → post M') : CV G d mX5_addUp [.ref 23, .ref 30] M post := by
  refine eX5_addUpC (bX5_addUpC_0 (c_addUpCOut 8 0 _ rfl (fun j hj => by (simp (disch := omega) only [jup_ss, jup_sn, jup_n, jup_ne]); exact hf j hj) (fun j hj => ?_) (fun M' g1 g2 => k M' g1 (fun a ha => by rw [g2 a ha]; (simp (disch := omega) only [jup_ne])))))
  obtain rfl : j = 0 := by simpa using hj
  rw [jup_ss]; rfl
end AU
/-- the law in force, as the model holds it -/
def LW (s : Nat → Int32) (a : jA4) : Prop := (∀ kd v dy p : Nat, evP kd v dy p a.1 ([], 1, 0) = some ([], a.2.1 kd v dy p, a.2.2.1 kd v dy p)) ∧ Gd a.1 ∧ 3 * cp a.1 ≤ 100 ∧ ((s 6 = -1 ∧ a = qStart) ∨ ∃ c m : Nat, c < 5 ∧ s 6 = nI c ∧ s (211 + c) = nI m ∧ m ≤ 100 ∧ a.1.length = m ∧ (∀ i, i < m → ∃ q, a.1[i]? = some q ∧ s (216 + 140 * c + i) = enc q) ∧ s (206 + c) = nI a.2.2.2)
/-- a judge, as the model holds it -/
def MJ (s : Nat → Int32) (j kd v dy : Nat) : Prop := j < 4 ∧ s (26 + j) = nI kd ∧ s (30 + j) = nI v ∧ s 7 = nI dy ∧ kd < 7 ∧ v < 10 ∧ dy < 10
section LF
variable {G : jGT} {d : Nat} {M : jM} {a : jA4} {j kd v dy : Nat} {post : jM → Prop}
theorem c_looks {p : Nat} (hL : LW (M 118) a) (hJ : MJ (M 118) j kd v dy) (hp : p < 8) (k : ∀ M', M' 117 11 = a.2.1 kd v dy p → M' 117 12 = a.2.2.1 kd v dy p → (∀ b, b ≠ 117 → b ≠ 120 → b ≠ 121 → M' b = M b) → (∀ i, i ≠ 11 → i ≠ 12 → M' 117 i = M 117 i) → post M') : CV G d mX8_looks [.ref 117, .int (nI j), .int (nI p)] M post := by
  obtain ⟨j4, j1, j2, j3, k1, k2, k3⟩ := hJ
  obtain ⟨l1, l2, l3, l4⟩ := hL
  refine eX8_looks (bX8_looks_0 ?_)
  rw [show (26 : Int32) = nI 26 from rfl, show (30 : Int32) = nI 30 from rfl, nI_add, nI_add, nI_clamp (by omega), nI_clamp (by omega), j1, j2, j3]
  refine ⟨vp_in_nI (by omega) (by omega), vp_in_nI (by omega) (by omega), ?_⟩
  rcases l4 with ⟨g1, rfl⟩ | ⟨c, m, g1, g2, g3, g4, g5, g6, g7⟩
  · refine ite_ti g1 (bX8_looks_91 (bX8_looks_116 (ite_ti ?_ ?_)))
    · rw [Int32.add_zero]; exact Int32.le_refl _
    · exact k _ (by (simp (disch := omega) only [jup_ss, jup_sn, jup_n, jup_ne]); rfl) (by (simp (disch := omega) only [jup_ss, jup_sn, jup_n, jup_ne]); rfl) (fun b h1 h2 h3 => by (simp (disch := omega) only [jup_ne])) (fun i h1 h2 => by (simp (disch := omega) only [jup_ss, jup_sn, jup_n, jup_ne]))
  · rw [g2, show (211 : Int32) = nI 211 from rfl, nI_add, nI_clamp (by omega), g3]
    refine ite_fi (by rw [show (-1 : Int32) = -nI 1 from rfl]; intro e; have := congrArg Int32.toInt e; rw [nI_toInt (by omega), ng_toInt (by omega)] at this; omega) ⟨vp_in_nI (by omega) (by omega), bX8_looks_91 ?_⟩
    have e6 : (jup (jup (jup (jup (jup (jup M 120 0 (nI p)) 120 1 (nI kd)) 120 2 (nI v)) 120 3 (nI dy)) 117 11 1) 117 12 0) 118 6 = nI c := by (simp (disch := omega) only [jup_ss, jup_sn, jup_n, jup_ne]); exact g2
    rw [e6, show (216 : Int32) = nI 216 from rfl, show (140 : Int32) = nI 140 from rfl, pk_mul, nI_add]
    refine c_looksLoop (W := a.2.1 kd v dy p) (C := a.2.2.1 kd v dy p) (kd := kd) (v := v) (dy := dy) (p := p) (by omega) (by omega) (by omega) (by omega) (by omega) a.1 0 [] 1 0 _ (by omega) (fun i q hi => ?_) l2 (l1 kd v dy p) (by simp; omega) trivial (by (simp (disch := omega) only [jup_ss, jup_sn, jup_n, jup_ne])) (by (simp (disch := omega) only [jup_ss, jup_sn, jup_n, jup_ne])) ?_ (fun M' h1 h2 h3 h4 => k M' h1 h2 (fun b b1 b2 b3 => by rw [h3 b b1 b3]; (simp (disch := omega) only [jup_ne])) (fun i h1 h2 => by rw [h4 i h1 h2]; (simp (disch := omega) only [jup_ss, jup_sn, jup_n, jup_ne])))
    · have hil : i < m := by rw [← g5]; exact (List.getElem?_eq_some_iff.mp hi).1
      obtain ⟨q', e1, e2⟩ := g6 i hil
      rw [hi] at e1
      cases e1
      rw [Nat.zero_add]
      (simp (disch := omega) only [jup_ss, jup_sn, jup_n, jup_ne])
      exact e2
    · unfold ME
      refine ⟨?_, ?_, ?_, ?_⟩ <;> (simp (disch := omega) only [jup_ss, jup_sn, jup_n, jup_ne])
/-- what holds of the tables behind n points -/
def MT (M : jM) (f g : Nat → Int32) (n x : Nat) : Prop := ∀ k, k < x → M 122 k = wS f n k ∧ M 123 k = wS g n k
/-- the tables, what looks needs, and the bar have changed -/
def Lf (M M' : jM) : Prop := (∀ b, b ≠ 117 → b ≠ 120 → b ≠ 121 → b ≠ 122 → b ≠ 123 → M' b = M b) ∧ ∀ i, i ≠ 11 → i ≠ 12 → i ≠ 15 → M' 117 i = M 117 i
theorem Lf.refl (M : jM) : Lf M M := ⟨fun _ _ _ _ _ _ => rfl, fun _ _ _ _ => rfl⟩
theorem Lf.trans {M M' M'' : jM} (h : Lf M M') (h' : Lf M' M'') : Lf M M'' := ⟨fun b h1 h2 h3 h4 h5 => (h'.1 b h1 h2 h3 h4 h5).trans (h.1 b h1 h2 h3 h4 h5), fun i h1 h2 h3 => (h'.2 i h1 h2 h3).trans (h.2 i h1 h2 h3)⟩
theorem c_looksForIn {f g : Nat → Int32} {x1 : Int32} {n : Nat} (hn : n < 8) : ∀ (r x : Nat) (M : jM), x + r = 2 ^ n → M 117 11 = f n → M 117 12 = g n → MT M f g (n + 1) (2 ^ n + x) →
    (∀ M', MT M' f g (n + 1) (2 ^ (n + 1)) → Lf M M' → kX8_looksFor_16 G d x1 (nI (n + 1)) M' post) → kX8_looksFor_30 G d x1 (nI n) (nI x) M post := by
  obtain ⟨p1, p2⟩ := pow_8 hn
  intro r
  induction r with
  | zero =>
    intro x M hx hf hg hi k
    refine bX8_looksFor_30 ?_
    rw [shl_n n hn]
    refine ite_ti (by rw [nI_leI (by omega) (by omega)]; omega) ?_
    rw [nI_1]
    exact k M (fun j hj => hi j (by omega)) (Lf.refl M)
  | succ r ih =>
    intro x M hx hf hg hi k
    refine bX8_looksFor_30 ?_
    rw [shl_n n hn]
    refine ite_fi (by rw [nI_leI (by omega) (by omega)]; omega) ?_
    rw [nI_add, nI_clamp (by omega), nI_clamp (by omega), nI_1]
    refine ⟨vp_in_nI (by omega) (by omega), vp_in_nI (by omega) (by omega), vp_in_nI (by omega) (by omega), vp_in_nI (by omega) (by omega), ih (x + 1) _ (by omega) (by (simp (disch := omega) only [jup_ss, jup_sn, jup_n, jup_ne]); exact hf) (by (simp (disch := omega) only [jup_ss, jup_sn, jup_n, jup_ne]); exact hg) (fun j hj => ?_) (fun M' g1 g2 => k M' g1 (Lf.trans ⟨fun b h1 h2 h3 h4 h5 => by (simp (disch := omega) only [jup_ne]), fun i h1 h2 h3 => by (simp (disch := omega) only [jup_ss, jup_sn, jup_n, jup_ne])⟩ g2))⟩
    by_cases e : j = x + 2 ^ n
    · subst e
      refine ⟨?_, ?_⟩
      · (simp (disch := omega) only [jup_ss, jup_sn, jup_n, jup_ne])
        rw [(hi x (by omega)).1, wS_lo (by omega), wS_hi, hf]
      · (simp (disch := omega) only [jup_ss, jup_sn, jup_n, jup_ne])
        rw [(hi x (by omega)).2, wS_lo (by omega), wS_hi, hg]
    · simp (disch := omega) only [jup_n, jup_sn e]
      exact hi j (by omega)
theorem c_looksForOut : ∀ (r n : Nat) (M : jM), n + r = 8 → LW (M 118) a → MJ (M 118) j kd v dy → MT M (a.2.1 kd v dy) (a.2.2.1 kd v dy) n (2 ^ n) →
    (∀ M', MT M' (a.2.1 kd v dy) (a.2.2.1 kd v dy) 8 256 → M' 117 15 = nI (a.2.2.2 + if kd = 5 then v else 0) → Lf M M' → post M') → kX8_looksFor_16 G d (nI j) (nI n) M post := by
  intro r
  induction r with
  | zero =>
    intro n M hn hL hJ hi k
    obtain rfl : n = 8 := by omega
    obtain ⟨j4, j1, j2, j3, k1, k2, k3⟩ := hJ
    refine bX8_looksFor_16 (ite_ti (by decide) (eX8_barNow (bX8_barNow_0 ?_)))
    have fin : ∀ z : Int32, z = nI a.2.2.2 → (vp_in (26 + nI j) 916 ∧ (if (M 118 ((26 + nI j).toNatClampNeg)) = 5 then (vp_in (30 + nI j) 916 ∧ post (jup M 117 15 (z + (M 118 ((30 + nI j).toNatClampNeg))))) else post (jup M 117 15 (z + 0)))) := by
      intro z hz
      rw [hz, show (26 : Int32) = nI 26 from rfl, show (30 : Int32) = nI 30 from rfl, nI_add, nI_add, nI_clamp (by omega), nI_clamp (by omega), j1, j2]
      refine ⟨vp_in_nI (by omega) (by omega), ite_i (fun q => ⟨vp_in_nI (by omega) (by omega), ?_⟩) (fun q => ?_)⟩
      · rw [show (5 : Int32) = nI 5 from rfl, nI_eq (by omega) (by omega)] at q
        rw [nI_add]
        exact k _ (fun i hi' => by rw [jup_n (by omega), jup_n (by omega)]; exact hi i hi') (by rw [jup_ss, if_pos q]) ⟨fun b h1 h2 h3 h4 h5 => by (simp (disch := omega) only [jup_ne]), fun i h1 h2 h3 => by (simp (disch := omega) only [jup_ss, jup_sn, jup_n, jup_ne])⟩
      · rw [show (5 : Int32) = nI 5 from rfl, nI_eq (by omega) (by omega)] at q
        rw [Int32.add_zero]
        exact k _ (fun i hi' => by rw [jup_n (by omega), jup_n (by omega)]; exact hi i hi') (by rw [jup_ss, if_neg q]; rfl) ⟨fun b h1 h2 h3 h4 h5 => by (simp (disch := omega) only [jup_ne]), fun i h1 h2 h3 => by (simp (disch := omega) only [jup_ss, jup_sn, jup_n, jup_ne])⟩
    obtain ⟨l1, l2, l3, l4⟩ := hL
    rcases l4 with ⟨g1, rfl⟩ | ⟨c, m, g1, g2, g3, g4, g5, g6, g7⟩
    · exact ite_ti g1 (fin _ rfl)
    · rw [g2, show (206 : Int32) = nI 206 from rfl, nI_add, nI_clamp (by omega)]
      exact ite_fi (by rw [show (-1 : Int32) = -nI 1 from rfl]; intro e; have := congrArg Int32.toInt e; rw [nI_toInt (by omega), ng_toInt (by omega)] at this; omega) ⟨vp_in_nI (by omega) (by omega), fin _ g7⟩
  | succ r ih =>
    intro n M hn hL hJ hi k
    refine bX8_looksFor_16 (ite_fi (by rw [show (8 : Int32) = nI 8 from rfl, nI_leI (by omega) (by omega)]; omega) ?_)
    refine c_looks hL hJ (by omega) (fun M' h1 h2 h3 h4 => ?_)
    refine c_looksForIn (f := a.2.1 kd v dy) (g := a.2.2.1 kd v dy) (by omega) (2 ^ n) 0 M' (by omega) h1 h2 (fun i hi' => by rw [wS_lo hi', wS_lo hi', h3 122 (by omega) (by omega) (by omega), h3 123 (by omega) (by omega) (by omega)]; exact hi i hi') (fun M2 g1 g2 => ?_)
    have e : M2 118 = M 118 := (g2.1 118 (by omega) (by omega) (by omega) (by omega) (by omega)).trans (h3 118 (by omega) (by omega) (by omega))
    exact ih (n + 1) M2 (by omega) (by rw [e]; exact hL) (by rw [e]; exact hJ) g1 (fun M3 g3 g4 g5 => k M3 g3 g4 (Lf.trans (Lf.trans ⟨fun b h1 h2 h3' h4 h5 => h3 b h1 h2 h3', fun i h1 h2 _ => h4 i h1 h2⟩ g2) g5))
theorem c_looksFor (hL : LW (M 118) a) (hJ : MJ (M 118) j kd v dy) (k : ∀ M', MT M' (a.2.1 kd v dy) (a.2.2.1 kd v dy) 8 256 → M' 117 15 = nI (a.2.2.2 + if kd = 5 then v else 0) → Lf M M' → post M') : CV G (d + 1) mX8_looksFor [.ref 117, .int (nI j)] M post := by
  refine eX8_looksFor (bX8_looksFor_0 (c_looksForOut (a := a) (kd := kd) (v := v) (dy := dy) 8 0 _ rfl (by (simp (disch := omega) only [jup_ss, jup_sn, jup_n, jup_ne]); exact hL) (by (simp (disch := omega) only [jup_ss, jup_sn, jup_n, jup_ne]); exact hJ) (fun i hi => ?_) (fun M' g1 g2 g3 => k M' g1 g2 (Lf.trans ⟨fun b h1 h2 h3 h4 h5 => by (simp (disch := omega) only [jup_ne]), fun i h1 h2 h3 => by (simp (disch := omega) only [jup_ss, jup_sn, jup_n, jup_ne])⟩ g3))))
  obtain rfl : i = 0 := by simpa using hi
  (simp (disch := omega) only [jup_ss, jup_sn, jup_n, jup_ne])
  exact ⟨rfl, rfl⟩
end LF
