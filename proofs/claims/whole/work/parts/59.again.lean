/-- heard k times more -/
def itE (V : jEv) (own : Nat) (L : List (Nat × Nat)) : Nat → List (Nat × Nat)
  | 0 => L
  | k + 1 => vE V own (itE V own L k)
def itC (V : jEv) (own : Nat) (L : List (Nat × Nat)) : Nat → Nat
  | 0 => 0
  | k + 1 => itC V own L k + (vD V own (itE V own L k)).toNat
theorem itE_len (V : jEv) (own : Nat) (L : List (Nat × Nat)) : ∀ k, (itE V own L k).length = L.length + k := by
  intro k
  induction k with
  | zero => rfl
  | succ k ih => rw [itE, vE, List.length_append, ih]; rfl
section TW
variable {G : jGT} {d : Nat} {V : jEv} {L : List (Nat × Nat)} {own j : Nat}
theorem c_timesWonLoop {n : Nat} {post : Int32 → jM → Prop} (ho : own < 256) (hn : L.length + n ≤ 85) {M0 : jM} (h : ∀ M', (∀ b, b < 27 ∨ 33 < b → M' b = M0 b) → post (nI (itC V own L n)) M') : ∀ (r k s : Nat) (M : jM), k + r = n → SE M V → SLi M (itE V own L k) → s ≤ (itE V own L k).length → TLy M 33 own s (tlN V own (itE V own L k) s) → (∀ b, b < 27 ∨ 33 < b → M b = M0 b) → kX5_timesWon_13 G (d + 2) (nI own) (nI n) (nI (itC V own L k)) (nI k) M post := by
  have hc : ∀ k, itC V own L k ≤ k := by
    intro k
    induction k with
    | zero => exact Nat.le_refl _
    | succ k ih => rw [itC]; have : (vD V own (itE V own L k)).toNat ≤ 1 := by cases vD V own (itE V own L k) <;> decide
                   omega
  intro r
  induction r with
  | zero =>
    intro k s M hk hS hL hs hT hf
    obtain rfl : k = n := by omega
    exact bX5_timesWon_13 (ite_ti (Int32.le_refl _) (h M hf))
  | succ r ih =>
    intro k s M hk hS hL hs hT hf
    have hlen := itE_len V own L k
    refine bX5_timesWon_13 (ite_fi (by rw [nI_leI (by omega) (by omega)]; omega) ?_)
    rw [hL.1]
    refine c_follow (t := 33) (by unfold jT; omega) ho hs (Nat.le_refl _) hS hL hT (fun M1 f1 f2 => ?_)
    have hS1 : SE M1 V := hS.congr (fun k hk => by rw [f2 27 (by omega)]) (fun b h1 h2 => f2 b (by omega))
    have hL1 : SLi M1 (itE V own L k) := hL.congr (by rw [f2 27 (by omega)]) (f2 31 (by omega)) (f2 32 (by omega))
    refine c_isFor (t := 33) (k := (itE V own L k).length) (by unfold jT; omega) ho (Nat.le_refl _) hS1 hL1 f1 ?_
    rw [show vdec V own (itE V own L k) (tlN V own (itE V own L k) (itE V own L k).length) = vD V own (itE V own L k) from rfl, ← nI_toNat]
    have hlen2 := itE_len V own L (k + 1)
    have go : ∀ x : Int32, x = nI (itC V own L (k + 1)) → CV G (d + 2) mX5_push [.ref 27, .int (nI own), .int (nI (vD V own (itE V own L k)).toNat)] M1 (fun M3 => kX5_timesWon_13 G (d + 2) (nI own) (nI n) x (nI k + 1) M3 post) := by
      intro x hx
      subst hx
      refine c_push hL1 (by omega) ho (by cases vD V own (itE V own L k) <;> decide) (fun M3 g1 g2 g3 => ?_)
      rw [nI_1]
      refine ih (k + 1) (itE V own L k).length M3 (by omega) (hS1.congr (fun k hk => g3 k (by omega)) (fun b h1 h2 => g2 b (by omega) (by omega) (by omega))) g1 (by omega) ?_ (fun b hb => (g2 b (by omega) (by omega) (by omega)).trans ((f2 b (by omega)).trans (hf b hb)))
      rw [itE, vE, tlN_app _ (Nat.le_refl _)]
      exact f1.congr (g2 33 (by omega) (by omega) (by omega))
    have e : itC V own L (k + 1) = itC V own L k + (vD V own (itE V own L k)).toNat := rfl
    cases hb : vD V own (itE V own L k) with
    | true => rw [hb] at go e; exact ite_fi (by decide) (go _ (by rw [e]; first | rfl | exact nI_1 _))
    | false => rw [hb] at go e; exact ite_ti rfl (go _ (by rw [e]; first | rfl | exact nI_add _ 0))
theorem c_timesWon {n : Nat} {M : jM} {post : Int32 → jM → Prop} (ho : own < 256) (hn : L.length + n ≤ 85) (hS : SE M V) (hL : SLi M L) (h : ∀ M', (∀ b, b < 27 ∨ 33 < b → M' b = M b) → post (nI (itC V own L n)) M') : CI G (d + 3) mX5_timesWon [.ref 27, .int (nI own), .int (nI n)] M post := by
  refine eX5_timesWon (bX5_timesWon_0 (c_begin (t := 33) (by unfold jT; omega) (fun M1 b1 b2 => ?_)))
  exact c_timesWonLoop (M0 := M) ho hn h n 0 0 M1 (by omega) (hS.congr (fun k hk => by rw [b2 27 (by omega)]) (fun b h1 h2 => b2 b (by omega))) (hL.congr (by rw [b2 27 (by omega)]) (b2 31 (by omega)) (b2 32 (by omega))) (by omega) b1 (fun b hb => b2 b (by omega))
end TW
