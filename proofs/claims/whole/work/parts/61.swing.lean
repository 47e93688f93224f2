/-- the first hearing that goes otherwise -/
def swR (V : jEv) (own : Nat) (L : List (Nat × Nat)) : Nat → Nat → Int32
  | 0, _ => -5
  | r + 1, k => if vD V own (itE V own L k) = vD V own L then swR V own L r (k + 1) else nI k
theorem jz_eq (a b : Bool) : jz a = jz b ↔ a = b := by cases a <;> cases b <;> simp [jz]
section SW
variable {G : jGT} {d : Nat} {V : jEv} {L : List (Nat × Nat)} {own j : Nat}
theorem c_firstTurnLoop {post : Int32 → jM → Prop} (ho : own < 256) (hn : L.length ≤ 24) {M0 : jM} : ∀ (r m : Nat) (M : jM), m + 1 + r = 61 → vD V own (itE V own L m) = vD V own L → SE M V → SLi M (itE V own L m) → TLy M 33 own (itE V own L m).length (tlN V own (itE V own L m) (itE V own L m).length) → (∀ b, b < 27 ∨ 33 < b → M b = M0 b) → (∀ M', (∀ b, b < 27 ∨ 33 < b → M' b = M0 b) → post (swR V own L r (m + 1)) M') → kX5_firstTurn_8 G (d + 2) (nI own) (jz (vD V own L)) (nI (m + 1)) M post := by
  intro r
  induction r with
  | zero =>
    intro m M hm hD hS hL hT hf h
    obtain rfl : m = 60 := by omega
    exact bX5_firstTurn_8 (ite_ti (by decide) (h M hf))
  | succ r ih =>
    intro m M hm hD hS hL hT hf h
    have hlen := itE_len V own L m
    have hlen2 := itE_len V own L (m + 1)
    refine bX5_firstTurn_8 (ite_fi (by rw [show (60 : Int32) = nI 60 from rfl, nI_ltI (by omega) (by omega)]; omega) ?_)
    rw [← nI_toNat, ← hD]
    refine c_push hL (by omega) ho (by cases vD V own (itE V own L m) <;> decide) (fun M1 g1 g2 g3 => ?_)
    have g1 : SLi M1 (itE V own L (m + 1)) := g1
    have hS1 : SE M1 V := hS.congr (fun k hk => g3 k (by omega)) (fun b h1 h2 => g2 b (by omega) (by omega) (by omega))
    rw [g1.1]
    refine c_follow (t := 33) (own := own) (seen := (itE V own L m).length) (by unfold jT; omega) ho (by omega) (Nat.le_refl _) hS1 g1 ?_ (fun M2 f1 f2 => ?_)
    · rw [itE, vE, tlN_app _ (Nat.le_refl _)]
      exact hT.congr (g2 33 (by omega) (by omega) (by omega))
    have hS2 : SE M2 V := hS1.congr (fun k hk => by rw [f2 27 (by omega)]) (fun b h1 h2 => f2 b (by omega))
    have hL2 : SLi M2 (itE V own L (m + 1)) := g1.congr (by rw [f2 27 (by omega)]) (f2 31 (by omega)) (f2 32 (by omega))
    have fr : ∀ b, b < 27 ∨ 33 < b → M2 b = M0 b := fun b hb => (f2 b (by omega)).trans ((g2 b (by omega) (by omega) (by omega)).trans (hf b hb))
    refine c_isFor (t := 33) (k := (itE V own L (m + 1)).length) (by unfold jT; omega) ho (Nat.le_refl _) hS2 hL2 f1 ?_
    rw [show vdec V own (itE V own L (m + 1)) (tlN V own (itE V own L (m + 1)) (itE V own L (m + 1)).length) = vD V own (itE V own L (m + 1)) from rfl, nI_toNat, hD, nI_1]
    rw [swR] at h
    refine ite_i (fun q => ?_) (fun q => ?_) <;> rw [jz_eq] at q
    · rw [if_pos q] at h
      exact ih (m + 1) M2 (by omega) q hS2 hL2 f1 fr h
    · rw [if_neg q] at h
      exact h M2 fr
end SW
