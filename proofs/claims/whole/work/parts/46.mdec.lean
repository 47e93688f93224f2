theorem vsc_comm (V : jEv) (a b : Nat) : vsc V a b = vsc V b a := by unfold vsc; rw [Nat.and_comm, Nat.xor_comm]
/-- the model's tables and bar for the judge j -/
def DM (M : jM) (V : jEv) (j : Nat) : Prop := (∀ k, k < 256 → M 122 k = V.2.2.2.1 k ∧ M 123 k = V.2.2.2.2.1 k) ∧ M 117 15 = V.2.2.2.2.2 ∧ j < 4 ∧ M 118 (26 + j) = nI V.1 ∧ M 118 (30 + j) = nI V.2.1 ∧ (∀ x, x < 4 → M 118 (34 + 4 * j + x) = nI (V.2.2.1 x) ∧ V.2.2.1 x ≤ 2) ∧ V.1 < 7 ∧ V.2.1 < 10
/-- the model's list -/
def DL (M : jM) (L : List (Nat × Nat)) : Prop := M 117 18 = nI L.length ∧ L.length ≤ 100 ∧ Lok L ∧ ∀ k, k < L.length → M 124 k = nI (lk L k).1 ∧ M 125 k = nI (lk L k).2
theorem DM.congr {M M' : jM} {V : jEv} {j : Nat} (h : DM M V j) (e1 : M' 122 = M 122) (e2 : M' 123 = M 123) (e3 : M' 118 = M 118) (e4 : M' 117 15 = M 117 15) : DM M' V j := by
  unfold DM at *
  rw [e1, e2, e3, e4]
  exact h
theorem DL.congr {M M' : jM} {L : List (Nat × Nat)} (h : DL M L) (e1 : M' 124 = M 124) (e2 : M' 125 = M 125) (e4 : M' 117 18 = M 117 18) : DL M' L := by
  unfold DL at *
  rw [e1, e2, e4]
  exact h
theorem im_m1 {n : Nat} (h : n < 2 ^ 31) : im n = -1 ↔ n = 0 := by
  cases n with
  | zero => exact ⟨fun _ => rfl, fun _ => rfl⟩
  | succ n =>
    rw [im_succ]
    constructor
    · intro e
      exact absurd (e ▸ nI_pos (by omega : n < 2 ^ 31)) (by decide)
    · intro e; omega
def lsel (how : Nat) (T : jTl) : Nat := if how = 0 then T.1 else if how = 1 then T.2.1 else T.2.2.1
def jc1 (x : Int32) : Int32 := 0 + ((x >>> ((0 : Int32) &&& 31)) &&& 1) + ((x >>> ((0 + 1 : Int32) &&& 31)) &&& 1) + ((x >>> ((0 + 1 + 1 : Int32) &&& 31)) &&& 1) + ((x >>> ((0 + 1 + 1 + 1 : Int32) &&& 31)) &&& 1) + ((x >>> ((0 + 1 + 1 + 1 + 1 : Int32) &&& 31)) &&& 1) + ((x >>> ((0 + 1 + 1 + 1 + 1 + 1 : Int32) &&& 31)) &&& 1) + ((x >>> ((0 + 1 + 1 + 1 + 1 + 1 + 1 : Int32) &&& 31)) &&& 1) + ((x >>> ((0 + 1 + 1 + 1 + 1 + 1 + 1 + 1 : Int32) &&& 31)) &&& 1)
theorem jc1_ok : ∀ k : Nat, k < 256 → jc1 (nI k) = nI (pop8 k) := by decide +kernel
section MD
variable {G : jGT} {d : Nat} {M : jM} {V : jEv} {L : List (Nat × Nat)} {j own : Nat}
theorem c_count1 {k : Nat} {post : Int32 → jM → Prop} (hk : k < 256) (h : post (nI (pop8 k)) M) : CI G d mX8_count1 [.int (nI k)] M post := by
  rw [← jc1_ok k hk] at h
  exact eX8_count1 (bX8_count1_0 (bX8_count1_4 (ite_fi (by decide) (bX8_count1_4 (ite_fi (by decide) (bX8_count1_4 (ite_fi (by decide) (bX8_count1_4 (ite_fi (by decide) (bX8_count1_4 (ite_fi (by decide) (bX8_count1_4 (ite_fi (by decide) (bX8_count1_4 (ite_fi (by decide) (bX8_count1_4 (ite_fi (by decide) (bX8_count1_4 (ite_ti (by decide) h)))))))))))))))))))
theorem c_mscore {a b : Nat} {post : Int32 → jM → Prop} (hM : DM M V j) (ha : a < 256) (hb : b < 256) (h : post (vsc V a b) M) : CI G d mX8_scoreOf [.ref 117, .int (nI a), .int (nI b)] M post := by
  refine eX8_scoreOf (bX8_scoreOf_0 ?_)
  have h1 := and_lt256 (a := a) (b := b) ha
  have h2 := xor_lt256 ha hb
  rw [nI_and (by omega) (by omega), nI_xor (by omega) (by omega), nI_clamp (by omega), nI_clamp (by omega), (hM.1 _ h1).1, (hM.1 _ h2).2]
  exact ⟨vp_in_nI h1 (by omega), vp_in_nI h2 (by omega), h⟩
theorem c_isLike {k : Nat} {post : Int32 → jM → Prop} (hM : DM M V j) (hL : DL M L) (hk : k < L.length) (ho : own < 256) (h0 : vsc V own (lk L k).1 < V.2.2.2.2.2 → post 0 M) (h1 : ¬ vsc V own (lk L k).1 < V.2.2.2.2.2 → post 1 M) : CI G (d + 1) mX8_isLike [.ref 117, .int (nI k), .int (nI own)] M post := by
  refine eX8_isLike (bX8_isLike_0 ?_)
  have := hL.2.1
  rw [nI_clamp (by omega), (hL.2.2.2 k hk).1]
  refine ⟨vp_in_nI (by omega) (by omega), c_mscore hM (hL.2.2.1 k hk).1 ho ?_⟩
  rw [vsc_comm, hM.2.1]
  exact ite_i h0 h1
theorem c_likeOneLoop {how : Nat} {post : Int32 → jM → Prop} (hM : DM M V j) (hL : DL M L) (ho : own < 256) (hh : how ≤ 2) (h : post (im (lsel how (tlN V own L L.length))) M) : ∀ r k : Nat, k + r = L.length → kX8_likeOne_5 G (d + 1) (nI own) (nI how) (im (lsel how (tlN V own L k))) (nI k) M post := by
  have h100 := hL.2.1
  intro r
  induction r with
  | zero =>
    intro k hk
    obtain rfl : k = L.length := by omega
    exact bX8_likeOne_5 (ite_ti (by rw [hL.1]; exact Int32.le_refl _) h)
  | succ r ih =>
    intro k hk
    refine bX8_likeOne_5 (ite_fi (by rw [hL.1, nI_leI (by omega) (by omega)]; omega) ?_)
    have hn := ih (k + 1) (by omega)
    rw [tlN] at hn
    have hok := tlN_ok (V := V) (own := own) (L := L) k
    rw [nI_1]
    generalize tlN V own L k = T at hok hn ⊢
    obtain ⟨h1, h2, h3, h4, h5, h6, h7, h8⟩ := hok
    refine c_isLike hM hL (by omega) ho (fun hl => ite_ti rfl ?_) (fun hl => ite_fi (by decide) ?_)
    · rw [tlAdd, if_pos hl] at hn; exact hn
    · rw [tlAdd, if_neg hl] at hn
      have hz : lsel how T = 0 ↔ T.2.2.2.2.1 + T.2.2.2.2.2 = 0 := by
        unfold lsel
        by_cases q0 : how = 0
        · rw [if_pos q0]; exact h4
        · rw [if_neg q0]
          by_cases q1 : how = 1
          · rw [if_pos q1]; exact h5
          · rw [if_neg q1]; exact h6
      refine ite_i (fun hm => ?_) (fun hm => ?_)
      · rw [im_m1 (by unfold lsel; split <;> (try split) <;> omega), hz] at hm
        have e : lsel how (tlMeet T k (vsc V own (lk L k).1) (lk L k).2) = k + 1 := by
          unfold lsel tlMeet; dsimp only
          rw [if_pos (h4.mpr hm), if_pos (Or.inl (h6.mpr hm))]
          simp
        rw [e, im_succ] at hn
        exact hn
      · rw [im_m1 (by unfold lsel; split <;> (try split) <;> omega), hz] at hm
        rw [show (1 : Int32) = nI 1 from rfl, show (2 : Int32) = nI 2 from rfl]
        obtain rfl | rfl | rfl : how = 0 ∨ how = 1 ∨ how = 2 := by omega
        · rw [if_neg (by decide), if_neg (by decide)]
          have e : lsel 0 (tlMeet T k (vsc V own (lk L k).1) (lk L k).2) = lsel 0 T := by
            unfold lsel tlMeet; dsimp only
            rw [if_pos rfl, if_pos rfl, if_neg (fun q => hm (h4.mp q))]
          rw [e] at hn; exact hn
        · rw [if_pos rfl]
          have e : lsel 1 (tlMeet T k (vsc V own (lk L k).1) (lk L k).2) = k + 1 := rfl
          rw [e, im_succ] at hn; exact hn
        · rw [if_neg (by decide), if_pos rfl]
          have e2 : lsel 2 T = T.2.2.1 := rfl
          have h30 : T.2.2.1 ≠ 0 := fun q => hm (h6.mp q)
          obtain ⟨x, hx⟩ : ∃ x, T.2.2.1 = x + 1 := ⟨T.2.2.1 - 1, by omega⟩
          have h8 := h8 h30
          rw [hx, Nat.add_sub_cancel] at h8
          rw [e2, hx, im_succ, nI_clamp (by omega), nI_clamp (by omega), (hL.2.2.2 k (by omega)).1]
          refine ⟨vp_in_nI (by omega) (by omega), c_mscore hM (hL.2.2.1 k (by omega)).1 ho ⟨vp_in_nI (by omega) (by omega), ?_⟩⟩
          rw [(hL.2.2.2 x (by omega)).1]
          refine c_mscore hM (hL.2.2.1 x (by omega)).1 ho ?_
          rw [vsc_comm V _ own, vsc_comm V _ own, ← h8]
          have e3 : lsel 2 (tlMeet T k (vsc V own (lk L k).1) (lk L k).2) = if T.2.2.1 = 0 ∨ ¬ vsc V own (lk L k).1 < T.2.2.2.1 then k + 1 else T.2.2.1 := rfl
          rw [e3] at hn
          refine ite_i (fun q => ?_) (fun q => ?_)
          · rw [if_neg (fun z => z.elim h30 (fun z => z q)), hx, im_succ] at hn; exact hn
          · rw [if_pos (Or.inr q), im_succ] at hn; exact hn
theorem c_likeOne {how : Nat} {post : Int32 → jM → Prop} (hM : DM M V j) (hL : DL M L) (ho : own < 256) (hh : how ≤ 2) (h : post (im (lsel how (tlN V own L L.length))) M) : CI G (d + 2) mX8_likeOne [.ref 117, .int (nI own), .int (nI how)] M post := by
  refine eX8_likeOne (bX8_likeOne_0 ?_)
  have e := c_likeOneLoop (G := G) (d := d) hM hL ho hh h L.length 0 (by omega)
  have e0 : im (lsel how (tlN V own L 0)) = -1 := by
    unfold lsel tlN tl0
    simp [im_zero]
  rw [e0] at e
  exact e
end MD
