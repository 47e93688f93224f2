def SE (M : jM) (V : jEv) : Prop := M 27 0 = nI V.1 ∧ M 27 1 = nI V.2.1 ∧ M 27 2 = V.2.2.2.2.2 ∧ (∀ k, k < 4 → M 28 k = nI (V.2.2.1 k) ∧ V.2.2.1 k ≤ 2) ∧ (∀ k, k < 256 → M 29 k = V.2.2.2.1 k ∧ M 30 k = V.2.2.2.2.1 k) ∧ V.1 < 7 ∧ V.2.1 < 10
def Lok (L : List (Nat × Nat)) : Prop := ∀ k, k < L.length → (lk L k).1 < 256 ∧ (lk L k).2 < 2
def SLi (M : jM) (L : List (Nat × Nat)) : Prop := M 27 6 = nI L.length ∧ L.length ≤ 85 ∧ Lok L ∧ ∀ k, k < L.length → M 31 k = nI (lk L k).1 ∧ M 32 k = nI (lk L k).2
def TLy (M : jM) (t own seen : Nat) (T : jTl) : Prop := M t 0 = nI own ∧ M t 1 = nI seen ∧ M t 2 = im T.1 ∧ M t 3 = im T.2.1 ∧ M t 4 = im T.2.2.1 ∧ M t 5 = T.2.2.2.1 ∧ M t 6 = nI T.2.2.2.2.1 ∧ M t 7 = nI T.2.2.2.2.2
theorem SE.congr {M M' : jM} {V : jEv} (h : SE M V) (h1 : ∀ k, k < 3 → M' 27 k = M 27 k) (h2 : ∀ a, 28 ≤ a → a ≤ 30 → M' a = M a) : SE M' V := by
  obtain ⟨a, b, c, e, f, g⟩ := h
  refine ⟨(h1 0 (by omega)).trans a, (h1 1 (by omega)).trans b, (h1 2 (by omega)).trans c, fun k hk => ?_, fun k hk => ?_, g⟩
  · rw [h2 28 (by omega) (by omega)]; exact e k hk
  · rw [h2 29 (by omega) (by omega), h2 30 (by omega) (by omega)]; exact f k hk
theorem SLi.congr {M M' : jM} {L : List (Nat × Nat)} (h : SLi M L) (h1 : M' 27 6 = M 27 6) (h2 : M' 31 = M 31) (h3 : M' 32 = M 32) : SLi M' L :=
  ⟨h1.trans h.1, h.2.1, h.2.2.1, fun k hk => by rw [h2, h3]; exact h.2.2.2 k hk⟩
theorem TLy.congr {M M' : jM} {t own seen : Nat} {T : jTl} (h : TLy M t own seen T) (e : M' t = M t) : TLy M' t own seen T := by unfold TLy at *; rw [e]; exact h
theorem jT_ge {t : Nat} (h : jT t) : 33 ≤ t ∧ t < 115 ∧ t ≠ 35 ∧ t ≠ 36 ∧ t ≠ 37 ∧ t ≠ 38 ∧ t ≠ 39 ∧ t ≠ 104 ∧ t ≠ 105 ∧ t ≠ 106 := by unfold jT at h; omega
theorem Lok_app {L : List (Nat × Nat)} (h : Lok L) {p f : Nat} (hp : p < 256) (hf : f < 2) : Lok (L ++ [(p, f)]) := by
  intro k hk
  by_cases e : k < L.length
  · rw [lk_app e]; exact h k e
  · have : k = L.length := by rw [List.length_append] at hk; simp at hk; omega
    subst this
    rw [lk_last]; exact ⟨hp, hf⟩
section ST
variable {G : jGT} {d : Nat} {M : jM} {V : jEv} {L : List (Nat × Nat)}
theorem c_begin {t own : Nat} {post : jM → Prop} (ht : jT t) (h : ∀ M', TLy M' t own 0 tl0 → (∀ a, a ≠ t → M' a = M a) → post M') : CV G d mX6_begin [.ref t, .int (nI own)] M post := by
  refine eX6_begin (bX6_begin_0 ht (h _ ?_ (fun a ha => by (simp (disch := omega) only [jup_ne]))))
  unfold TLy
  refine ⟨?_, ?_, ?_, ?_, ?_, ?_, ?_, ?_⟩ <;> (simp (disch := omega) only [jup_ss, jup_sn, jup_n, jup_ne]) <;> rfl
theorem c_meet {t own seen k f : Nat} {s : Int32} {T : jTl} {post : jM → Prop} (ht : jT t) (hk : k < 100) (hf : f < 2) (hT : TLy M t own seen T) (hb1 : T.1 < 200) (hb3 : T.2.2.1 < 200) (h : ∀ M', TLy M' t own seen (tlMeet T k s f) → (∀ a, a ≠ t → M' a = M a) → post M') : CV G d mX6_meet [.ref t, .int (nI k), .int s, .int (nI f)] M post := by
  obtain ⟨h0, h1, h2, h3, h4, h5, h6, h7⟩ := hT
  refine eX6_meet (bX6_meet_0 ht ?_)
  have i1 : (0 : Int32) ≤ M t 2 ↔ ¬ T.1 = 0 := by
    rw [h2]
    cases hc : T.1 with
    | zero => rw [im_zero]; exact ⟨fun h => absurd h (by decide), fun h => absurd rfl h⟩
    | succ n => rw [im_succ, show (0 : Int32) = nI 0 from rfl, nI_leI (by omega) (by omega)]; omega
  have i3 : ∀ M1 : jM, M1 t 4 = M t 4 → ((M1 t 4 < 0) ↔ T.2.2.1 = 0) := by
    intro M1 e
    rw [e, h4]
    cases hc : T.2.2.1 with
    | zero => rw [im_zero]; exact ⟨fun h => rfl, fun h => by decide⟩
    | succ n => rw [im_succ]; exact ⟨fun h => absurd h (nI_pos (by omega)), fun h => by omega⟩
  have e4 : (jup M t 3 (nI k)) t 4 = M t 4 := by (simp (disch := omega) only [jup_ss, jup_sn, jup_n, jup_ne])
  have e4' : (jup (jup M t 2 (nI k)) t 3 (nI k)) t 4 = M t 4 := by (simp (disch := omega) only [jup_ss, jup_sn, jup_n, jup_ne])
  have e5 : (jup M t 3 (nI k)) t 5 = T.2.2.2.1 := by (simp (disch := omega) only [jup_ss, jup_sn, jup_n, jup_ne]); exact h5
  have e5' : (jup (jup M t 2 (nI k)) t 3 (nI k)) t 5 = T.2.2.2.1 := by (simp (disch := omega) only [jup_ss, jup_sn, jup_n, jup_ne]); exact h5
  have f0 : (nI f = 0) ↔ f = 0 := by rw [show (0 : Int32) = nI 0 from rfl, nI_eq (by omega) (by omega)]
  rw [e5, e5']
  have fin : ∀ M', M' t 0 = M t 0 → M' t 1 = M t 1 → M' t 2 = (if T.1 = 0 then nI k else M t 2) → M' t 3 = nI k → M' t 4 = (if T.2.2.1 = 0 ∨ ¬ s < T.2.2.2.1 then nI k else M t 4) → M' t 5 = (if T.2.2.1 = 0 ∨ ¬ s < T.2.2.2.1 then s else M t 5) → M' t 6 = (if f = 0 then M t 6 else M t 6 + 1) → M' t 7 = (if f = 0 then M t 7 + 1 else M t 7) → (∀ a, a ≠ t → M' a = M a) → post M' := by
    intro M' g0 g1 g2 g3 g4 g5 g6 g7 gf
    refine h M' ⟨g0.trans h0, g1.trans h1, ?_, ?_, ?_, ?_, ?_, ?_⟩ gf
    · rw [g2]; unfold tlMeet; dsimp only; split
      · exact (im_succ k).symm
      · exact h2
    · rw [g3]; exact (im_succ k).symm
    · rw [g4]; unfold tlMeet; dsimp only; split
      · exact (im_succ k).symm
      · exact h4
    · rw [g5]; unfold tlMeet; dsimp only; split
      · rfl
      · exact h5
    · rw [g6]; unfold tlMeet; dsimp only; split
      · exact h6
      · rw [h6]; exact nI_1 _
    · rw [g7]; unfold tlMeet; dsimp only; split
      · rw [h7]; exact nI_1 _
      · exact h7
  refine ite_i (fun a1 => ?_) (fun a1 => ?_)
  · have a1 : ¬ T.1 = 0 := i1.mp a1
    refine ite_i (fun a3 => ?_) (fun a3 => ite_i (fun a5 => ?_) (fun a5 => ?_))
    · have c4 : T.2.2.1 = 0 ∨ ¬ s < T.2.2.2.1 := Or.inl ((i3 _ e4).mp a3)
      refine ite_i (fun af => ?_) (fun af => ?_)
      · have af : f = 0 := f0.mp af
        exact fin _ (by (simp (disch := omega) only [jup_ss, jup_sn, jup_n, jup_ne])) (by (simp (disch := omega) only [jup_ss, jup_sn, jup_n, jup_ne])) (by (simp (disch := omega) only [jup_ss, jup_sn, jup_n, jup_ne]); rw [if_neg a1]) (by (simp (disch := omega) only [jup_ss, jup_sn, jup_n, jup_ne])) (by (simp (disch := omega) only [jup_ss, jup_sn, jup_n, jup_ne]); rw [if_pos c4]) (by (simp (disch := omega) only [jup_ss, jup_sn, jup_n, jup_ne]); rw [if_pos c4]) (by (simp (disch := omega) only [jup_ss, jup_sn, jup_n, jup_ne]); rw [if_pos af]) (by (simp (disch := omega) only [jup_ss, jup_sn, jup_n, jup_ne]); rw [if_pos af]) (fun a ha => by (simp (disch := omega) only [jup_ne]))
      · have af : ¬ f = 0 := fun q => af (f0.mpr q)
        exact fin _ (by (simp (disch := omega) only [jup_ss, jup_sn, jup_n, jup_ne])) (by (simp (disch := omega) only [jup_ss, jup_sn, jup_n, jup_ne])) (by (simp (disch := omega) only [jup_ss, jup_sn, jup_n, jup_ne]); rw [if_neg a1]) (by (simp (disch := omega) only [jup_ss, jup_sn, jup_n, jup_ne])) (by (simp (disch := omega) only [jup_ss, jup_sn, jup_n, jup_ne]); rw [if_pos c4]) (by (simp (disch := omega) only [jup_ss, jup_sn, jup_n, jup_ne]); rw [if_pos c4]) (by (simp (disch := omega) only [jup_ss, jup_sn, jup_n, jup_ne]); rw [if_neg af]) (by (simp (disch := omega) only [jup_ss, jup_sn, jup_n, jup_ne]); rw [if_neg af]) (fun a ha => by (simp (disch := omega) only [jup_ne]))
    · have c4 : ¬ (T.2.2.1 = 0 ∨ ¬ s < T.2.2.2.1) := fun q => q.elim (fun q => a3 ((i3 _ e4).mpr q)) (fun q => q a5)
      refine ite_i (fun af => ?_) (fun af => ?_)
      · have af : f = 0 := f0.mp af
        exact fin _ (by (simp (disch := omega) only [jup_ss, jup_sn, jup_n, jup_ne])) (by (simp (disch := omega) only [jup_ss, jup_sn, jup_n, jup_ne])) (by (simp (disch := omega) only [jup_ss, jup_sn, jup_n, jup_ne]); rw [if_neg a1]) (by (simp (disch := omega) only [jup_ss, jup_sn, jup_n, jup_ne])) (by (simp (disch := omega) only [jup_ss, jup_sn, jup_n, jup_ne]); rw [if_neg c4]) (by (simp (disch := omega) only [jup_ss, jup_sn, jup_n, jup_ne]); rw [if_neg c4]) (by (simp (disch := omega) only [jup_ss, jup_sn, jup_n, jup_ne]); rw [if_pos af]) (by (simp (disch := omega) only [jup_ss, jup_sn, jup_n, jup_ne]); rw [if_pos af]) (fun a ha => by (simp (disch := omega) only [jup_ne]))
      · have af : ¬ f = 0 := fun q => af (f0.mpr q)
        exact fin _ (by (simp (disch := omega) only [jup_ss, jup_sn, jup_n, jup_ne])) (by (simp (disch := omega) only [jup_ss, jup_sn, jup_n, jup_ne])) (by (simp (disch := omega) only [jup_ss, jup_sn, jup_n, jup_ne]); rw [if_neg a1]) (by (simp (disch := omega) only [jup_ss, jup_sn, jup_n, jup_ne])) (by (simp (disch := omega) only [jup_ss, jup_sn, jup_n, jup_ne]); rw [if_neg c4]) (by (simp (disch := omega) only [jup_ss, jup_sn, jup_n, jup_ne]); rw [if_neg c4]) (by (simp (disch := omega) only [jup_ss, jup_sn, jup_n, jup_ne]); rw [if_neg af]) (by (simp (disch := omega) only [jup_ss, jup_sn, jup_n, jup_ne]); rw [if_neg af]) (fun a ha => by (simp (disch := omega) only [jup_ne]))
    · have c4 : T.2.2.1 = 0 ∨ ¬ s < T.2.2.2.1 := Or.inr a5
      refine ite_i (fun af => ?_) (fun af => ?_)
      · have af : f = 0 := f0.mp af
        exact fin _ (by (simp (disch := omega) only [jup_ss, jup_sn, jup_n, jup_ne])) (by (simp (disch := omega) only [jup_ss, jup_sn, jup_n, jup_ne])) (by (simp (disch := omega) only [jup_ss, jup_sn, jup_n, jup_ne]); rw [if_neg a1]) (by (simp (disch := omega) only [jup_ss, jup_sn, jup_n, jup_ne])) (by (simp (disch := omega) only [jup_ss, jup_sn, jup_n, jup_ne]); rw [if_pos c4]) (by (simp (disch := omega) only [jup_ss, jup_sn, jup_n, jup_ne]); rw [if_pos c4]) (by (simp (disch := omega) only [jup_ss, jup_sn, jup_n, jup_ne]); rw [if_pos af]) (by (simp (disch := omega) only [jup_ss, jup_sn, jup_n, jup_ne]); rw [if_pos af]) (fun a ha => by (simp (disch := omega) only [jup_ne]))
      · have af : ¬ f = 0 := fun q => af (f0.mpr q)
        exact fin _ (by (simp (disch := omega) only [jup_ss, jup_sn, jup_n, jup_ne])) (by (simp (disch := omega) only [jup_ss, jup_sn, jup_n, jup_ne])) (by (simp (disch := omega) only [jup_ss, jup_sn, jup_n, jup_ne]); rw [if_neg a1]) (by (simp (disch := omega) only [jup_ss, jup_sn, jup_n, jup_ne])) (by (simp (disch := omega) only [jup_ss, jup_sn, jup_n, jup_ne]); rw [if_pos c4]) (by (simp (disch := omega) only [jup_ss, jup_sn, jup_n, jup_ne]); rw [if_pos c4]) (by (simp (disch := omega) only [jup_ss, jup_sn, jup_n, jup_ne]); rw [if_neg af]) (by (simp (disch := omega) only [jup_ss, jup_sn, jup_n, jup_ne]); rw [if_neg af]) (fun a ha => by (simp (disch := omega) only [jup_ne]))
  · have a1 : T.1 = 0 := Decidable.byContradiction fun q => a1 (i1.mpr q)
    refine ite_i (fun a3 => ?_) (fun a3 => ite_i (fun a5 => ?_) (fun a5 => ?_))
    · have c4 : T.2.2.1 = 0 ∨ ¬ s < T.2.2.2.1 := Or.inl ((i3 _ e4').mp a3)
      refine ite_i (fun af => ?_) (fun af => ?_)
      · have af : f = 0 := f0.mp af
        exact fin _ (by (simp (disch := omega) only [jup_ss, jup_sn, jup_n, jup_ne])) (by (simp (disch := omega) only [jup_ss, jup_sn, jup_n, jup_ne])) (by (simp (disch := omega) only [jup_ss, jup_sn, jup_n, jup_ne]); rw [if_pos a1]) (by (simp (disch := omega) only [jup_ss, jup_sn, jup_n, jup_ne])) (by (simp (disch := omega) only [jup_ss, jup_sn, jup_n, jup_ne]); rw [if_pos c4]) (by (simp (disch := omega) only [jup_ss, jup_sn, jup_n, jup_ne]); rw [if_pos c4]) (by (simp (disch := omega) only [jup_ss, jup_sn, jup_n, jup_ne]); rw [if_pos af]) (by (simp (disch := omega) only [jup_ss, jup_sn, jup_n, jup_ne]); rw [if_pos af]) (fun a ha => by (simp (disch := omega) only [jup_ne]))
      · have af : ¬ f = 0 := fun q => af (f0.mpr q)
        exact fin _ (by (simp (disch := omega) only [jup_ss, jup_sn, jup_n, jup_ne])) (by (simp (disch := omega) only [jup_ss, jup_sn, jup_n, jup_ne])) (by (simp (disch := omega) only [jup_ss, jup_sn, jup_n, jup_ne]); rw [if_pos a1]) (by (simp (disch := omega) only [jup_ss, jup_sn, jup_n, jup_ne])) (by (simp (disch := omega) only [jup_ss, jup_sn, jup_n, jup_ne]); rw [if_pos c4]) (by (simp (disch := omega) only [jup_ss, jup_sn, jup_n, jup_ne]); rw [if_pos c4]) (by (simp (disch := omega) only [jup_ss, jup_sn, jup_n, jup_ne]); rw [if_neg af]) (by (simp (disch := omega) only [jup_ss, jup_sn, jup_n, jup_ne]); rw [if_neg af]) (fun a ha => by (simp (disch := omega) only [jup_ne]))
    · have c4 : ¬ (T.2.2.1 = 0 ∨ ¬ s < T.2.2.2.1) := fun q => q.elim (fun q => a3 ((i3 _ e4').mpr q)) (fun q => q a5)
      refine ite_i (fun af => ?_) (fun af => ?_)
      · have af : f = 0 := f0.mp af
        exact fin _ (by (simp (disch := omega) only [jup_ss, jup_sn, jup_n, jup_ne])) (by (simp (disch := omega) only [jup_ss, jup_sn, jup_n, jup_ne])) (by (simp (disch := omega) only [jup_ss, jup_sn, jup_n, jup_ne]); rw [if_pos a1]) (by (simp (disch := omega) only [jup_ss, jup_sn, jup_n, jup_ne])) (by (simp (disch := omega) only [jup_ss, jup_sn, jup_n, jup_ne]); rw [if_neg c4]) (by (simp (disch := omega) only [jup_ss, jup_sn, jup_n, jup_ne]); rw [if_neg c4]) (by (simp (disch := omega) only [jup_ss, jup_sn, jup_n, jup_ne]); rw [if_pos af]) (by (simp (disch := omega) only [jup_ss, jup_sn, jup_n, jup_ne]); rw [if_pos af]) (fun a ha => by (simp (disch := omega) only [jup_ne]))
      · have af : ¬ f = 0 := fun q => af (f0.mpr q)
        exact fin _ (by (simp (disch := omega) only [jup_ss, jup_sn, jup_n, jup_ne])) (by (simp (disch := omega) only [jup_ss, jup_sn, jup_n, jup_ne])) (by (simp (disch := omega) only [jup_ss, jup_sn, jup_n, jup_ne]); rw [if_pos a1]) (by (simp (disch := omega) only [jup_ss, jup_sn, jup_n, jup_ne])) (by (simp (disch := omega) only [jup_ss, jup_sn, jup_n, jup_ne]); rw [if_neg c4]) (by (simp (disch := omega) only [jup_ss, jup_sn, jup_n, jup_ne]); rw [if_neg c4]) (by (simp (disch := omega) only [jup_ss, jup_sn, jup_n, jup_ne]); rw [if_neg af]) (by (simp (disch := omega) only [jup_ss, jup_sn, jup_n, jup_ne]); rw [if_neg af]) (fun a ha => by (simp (disch := omega) only [jup_ne]))
    · have c4 : T.2.2.1 = 0 ∨ ¬ s < T.2.2.2.1 := Or.inr a5
      refine ite_i (fun af => ?_) (fun af => ?_)
      · have af : f = 0 := f0.mp af
        exact fin _ (by (simp (disch := omega) only [jup_ss, jup_sn, jup_n, jup_ne])) (by (simp (disch := omega) only [jup_ss, jup_sn, jup_n, jup_ne])) (by (simp (disch := omega) only [jup_ss, jup_sn, jup_n, jup_ne]); rw [if_pos a1]) (by (simp (disch := omega) only [jup_ss, jup_sn, jup_n, jup_ne])) (by (simp (disch := omega) only [jup_ss, jup_sn, jup_n, jup_ne]); rw [if_pos c4]) (by (simp (disch := omega) only [jup_ss, jup_sn, jup_n, jup_ne]); rw [if_pos c4]) (by (simp (disch := omega) only [jup_ss, jup_sn, jup_n, jup_ne]); rw [if_pos af]) (by (simp (disch := omega) only [jup_ss, jup_sn, jup_n, jup_ne]); rw [if_pos af]) (fun a ha => by (simp (disch := omega) only [jup_ne]))
      · have af : ¬ f = 0 := fun q => af (f0.mpr q)
        exact fin _ (by (simp (disch := omega) only [jup_ss, jup_sn, jup_n, jup_ne])) (by (simp (disch := omega) only [jup_ss, jup_sn, jup_n, jup_ne])) (by (simp (disch := omega) only [jup_ss, jup_sn, jup_n, jup_ne]); rw [if_pos a1]) (by (simp (disch := omega) only [jup_ss, jup_sn, jup_n, jup_ne])) (by (simp (disch := omega) only [jup_ss, jup_sn, jup_n, jup_ne]); rw [if_pos c4]) (by (simp (disch := omega) only [jup_ss, jup_sn, jup_n, jup_ne]); rw [if_pos c4]) (by (simp (disch := omega) only [jup_ss, jup_sn, jup_n, jup_ne]); rw [if_neg af]) (by (simp (disch := omega) only [jup_ss, jup_sn, jup_n, jup_ne]); rw [if_neg af]) (fun a ha => by (simp (disch := omega) only [jup_ne]))
theorem c_alike {a b : Nat} {post : Int32 → jM → Prop} (hS : SE M V) (ha : a < 256) (hb : b < 256) (h : post (vsc V a b) M) : CI G d mX5_alike [.ref 27, .int (nI a), .int (nI b)] M post := by
  refine eX5_alike (bX5_alike_0 ?_)
  have h1 := and_lt256 (a := a) (b := b) ha
  have h2 := xor_lt256 ha hb
  rw [show (255 : Int32) = nI 255 from rfl, nI_and (by omega) (by omega), nI_xor (by omega) (by omega), nI_and (by omega) (by omega), nI_and (by omega) (by omega), and255 h1, and255 h2, nI_clamp (by omega), nI_clamp (by omega), (hS.2.2.2.2.1 _ h1).1, (hS.2.2.2.2.1 _ h2).2]
  exact ⟨vp_in_nI h1 (by omega), vp_in_nI h2 (by omega), h⟩
theorem c_followLoop {t own u : Nat} {x : Int32} {post : jM → Prop} (ht : jT t) (ho : own < 256) : ∀ (n seen : Nat) (M : jM), seen + n = u → u ≤ L.length → SE M V → SLi M L → TLy M t own seen (tlN V own L seen) → (∀ M', TLy M' t own u (tlN V own L u) → (∀ a, a ≠ t → M' a = M a) → post M') → kX5_follow_24 G d t x (nI u) (nI seen) M post := by
  have htg := jT_ge ht
  intro n
  induction n with
  | zero =>
    intro seen M h1 h2 hS hL hT h
    have : seen = u := by omega
    subst this
    refine bX5_follow_24 ht (ite_ti ?_ (h M hT (fun _ _ => rfl)))
    rw [nI_leI (by have := hL.2.1; omega) (by have := hL.2.1; omega)]; omega
  | succ n ih =>
    intro seen M h1 h2 hS hL hT h
    have h85 := hL.2.1
    refine bX5_follow_24 ht (ite_fi (by rw [nI_leI (by omega) (by omega)]; omega) ⟨vp_in_nI (by omega) (by omega), ?_⟩)
    obtain ⟨l1, l2⟩ := hL.2.2.2 seen (by omega)
    obtain ⟨l3, l4⟩ := hL.2.2.1 seen (by omega)
    rw [nI_clamp (by omega), l1, hT.1]
    refine c_alike hS ho l3 ?_
    rw [hS.2.2.1, show nI seen + 1 = nI (seen + 1) from nI_1 seen]
    refine ite_i (fun hs => ?_) (fun hs => ⟨vp_in_nI (by omega) (by omega), ?_⟩)
    · refine ih (seen + 1) _ (by omega) h2 (hS.congr (fun k hk => by (simp (disch := omega) only [jup_ss, jup_sn, jup_n, jup_ne])) (fun a h1 h2 => by (simp (disch := omega) only [jup_ne]))) (hL.congr (by (simp (disch := omega) only [jup_ss, jup_sn, jup_n, jup_ne])) (by (simp (disch := omega) only [jup_ne])) (by (simp (disch := omega) only [jup_ne]))) ?_ (fun M' g1 g2 => h M' g1 (fun a ha => by rw [g2 a ha]; (simp (disch := omega) only [jup_ne])))
      rw [tlN, tlAdd, if_pos hs]
      obtain ⟨a0, a1, a2, a3, a4, a5, a6, a7⟩ := hT
      exact ⟨by (simp (disch := omega) only [jup_ss, jup_sn, jup_n, jup_ne]); exact a0, by (simp (disch := omega) only [jup_ss, jup_sn, jup_n, jup_ne]), by (simp (disch := omega) only [jup_ss, jup_sn, jup_n, jup_ne]); exact a2, by (simp (disch := omega) only [jup_ss, jup_sn, jup_n, jup_ne]); exact a3, by (simp (disch := omega) only [jup_ss, jup_sn, jup_n, jup_ne]); exact a4, by (simp (disch := omega) only [jup_ss, jup_sn, jup_n, jup_ne]); exact a5, by (simp (disch := omega) only [jup_ss, jup_sn, jup_n, jup_ne]); exact a6, by (simp (disch := omega) only [jup_ss, jup_sn, jup_n, jup_ne]); exact a7⟩
    · rw [l2]
      have hok := tlN_ok (V := V) (own := own) (L := L) seen
      refine c_meet ht (by omega) l4 hT (by have := hok.1; omega) (by have := hok.2.2.1; omega) (fun M2 g1 g2 => ?_)
      refine ih (seen + 1) _ (by omega) h2 (hS.congr (fun k hk => by rw [jup_n (by omega), g2 27 (by omega)]) (fun a h1 h2 => by rw [jup_ne (by omega), g2 a (by omega)])) (hL.congr (by rw [jup_n (by omega), g2 27 (by omega)]) (by rw [jup_ne (by omega), g2 31 (by omega)]) (by rw [jup_ne (by omega), g2 32 (by omega)])) ?_ (fun M' g3 g4 => h M' g3 (fun a ha => by rw [g4 a ha, jup_ne ha, g2 a ha]))
      rw [tlN, tlAdd, if_neg hs]
      obtain ⟨a0, a1, a2, a3, a4, a5, a6, a7⟩ := g1
      exact ⟨by (simp (disch := omega) only [jup_ss, jup_sn, jup_n, jup_ne]); exact a0, by (simp (disch := omega) only [jup_ss, jup_sn, jup_n, jup_ne]), by (simp (disch := omega) only [jup_ss, jup_sn, jup_n, jup_ne]); exact a2, by (simp (disch := omega) only [jup_ss, jup_sn, jup_n, jup_ne]); exact a3, by (simp (disch := omega) only [jup_ss, jup_sn, jup_n, jup_ne]); exact a4, by (simp (disch := omega) only [jup_ss, jup_sn, jup_n, jup_ne]); exact a5, by (simp (disch := omega) only [jup_ss, jup_sn, jup_n, jup_ne]); exact a6, by (simp (disch := omega) only [jup_ss, jup_sn, jup_n, jup_ne]); exact a7⟩
theorem c_follow {t own seen u : Nat} {post : jM → Prop} (ht : jT t) (ho : own < 256) (hs : seen ≤ u) (hu : u ≤ L.length) (hS : SE M V) (hL : SLi M L) (hT : TLy M t own seen (tlN V own L seen)) (h : ∀ M', TLy M' t own u (tlN V own L u) → (∀ a, a ≠ t → M' a = M a) → post M') : CV G (d + 1) mX5_follow [.ref 27, .ref t, .int (nI u)] M post := by
  refine eX5_follow (bX5_follow_0 ht ?_)
  have h85 := hL.2.1
  rw [hL.1, hT.2.1, show (85 : Int32) = nI 85 from rfl, show (0 : Int32) = nI 0 from rfl]
  have e1 : (if nI L.length < nI u then nI L.length else nI u) = nI u := if_neg (by rw [nI_ltI (by omega) (by omega)]; omega)
  rw [e1, if_neg (by rw [nI_ltI (by omega) (by omega)]; omega)]
  have e2 : (if nI 0 < nI seen then nI seen else nI 0) = nI seen := by
    split
    · rfl
    · rename_i q
      rw [nI_ltI (by omega) (by omega)] at q
      have : seen = 0 := by omega
      rw [this]
  rw [e2]
  exact c_followLoop ht ho (u - seen) seen M (by omega) hu hS hL hT h
theorem c_wasFor {k : Nat} {post : Int32 → jM → Prop} (hL : SLi M L) (hk : k < L.length) (h : post (jz ((lk L k).2 != 0)) M) : CI G d mX5_wasFor [.ref 27, .int (nI k)] M post := by
  refine eX5_wasFor (bX5_wasFor_0 ?_)
  have h85 := hL.2.1
  obtain ⟨l1, l2⟩ := hL.2.2.2 k hk
  obtain ⟨l3, l4⟩ := hL.2.2.1 k hk
  rw [if_neg (nI_pos (by omega)), hL.1, if_neg (by rw [nI_leI (by omega) (by omega)]; omega), if_neg (by rw [show (85 : Int32) = nI 85 from rfl, nI_leI (by omega) (by omega)]; omega), nI_clamp (by omega), l2]
  refine ⟨vp_in_nI (by omega) (by omega), ite_i (fun q => ?_) (fun q => ?_)⟩
  · rw [show (0 : Int32) = nI 0 from rfl, nI_eq (by omega) (by omega)] at q
    rw [q] at h; exact h
  · rw [show (0 : Int32) = nI 0 from rfl, nI_eq (by omega) (by omega)] at q
    have : ((lk L k).2 != 0) = true := by simpa using q
    rw [this] at h; exact h
/-- !wasFor of an entry's number + 1 -/
theorem c_not {x : Nat} {post : Int32 → jM → Prop} (hL : SLi M L) (h0 : x ≠ 0) (hx : x ≤ L.length) (h : post (jz (vnot L x)) M) : CI G d mX5_wasFor [.ref 27, .int (im x)] M (fun r M1 => if r = 0 then post 1 M1 else post 0 M1) := by
  obtain ⟨k, rfl⟩ : ∃ k, x = k + 1 := ⟨x - 1, by omega⟩
  rw [im_succ]
  refine c_wasFor hL (by omega) ?_
  unfold vnot at h
  rw [show k + 1 - 1 = k by omega] at h
  by_cases q : (lk L k).2 = 0
  · rw [q] at h ⊢; exact ite_ti rfl h
  · have e1 : ((lk L k).2 != 0) = true := by simpa using q
    have e2 : ((lk L k).2 == 0) = false := by simpa using q
    rw [e2] at h; rw [e1]; exact ite_fi (by decide) h
def jbc (x0 : Int32) : Int32 := ((((((((x0 - ((((x0).toUInt32 >>> (((1 : Int32)).toUInt32 &&& Int32.toUInt32 31)).toInt32) &&& (1431655765 : Int32))) &&& (858993459 : Int32)) + ((((x0 - ((((x0).toUInt32 >>> (((1 : Int32)).toUInt32 &&& Int32.toUInt32 31)).toInt32) &&& (1431655765 : Int32))).toUInt32 >>> (((2 : Int32)).toUInt32 &&& Int32.toUInt32 31)).toInt32) &&& (858993459 : Int32))) + (((((x0 - ((((x0).toUInt32 >>> (((1 : Int32)).toUInt32 &&& Int32.toUInt32 31)).toInt32) &&& (1431655765 : Int32))) &&& (858993459 : Int32)) + ((((x0 - ((((x0).toUInt32 >>> (((1 : Int32)).toUInt32 &&& Int32.toUInt32 31)).toInt32) &&& (1431655765 : Int32))).toUInt32 >>> (((2 : Int32)).toUInt32 &&& Int32.toUInt32 31)).toInt32) &&& (858993459 : Int32))).toUInt32 >>> (((4 : Int32)).toUInt32 &&& Int32.toUInt32 31)).toInt32)) &&& (252645135 : Int32)) + (((((((x0 - ((((x0).toUInt32 >>> (((1 : Int32)).toUInt32 &&& Int32.toUInt32 31)).toInt32) &&& (1431655765 : Int32))) &&& (858993459 : Int32)) + ((((x0 - ((((x0).toUInt32 >>> (((1 : Int32)).toUInt32 &&& Int32.toUInt32 31)).toInt32) &&& (1431655765 : Int32))).toUInt32 >>> (((2 : Int32)).toUInt32 &&& Int32.toUInt32 31)).toInt32) &&& (858993459 : Int32))) + (((((x0 - ((((x0).toUInt32 >>> (((1 : Int32)).toUInt32 &&& Int32.toUInt32 31)).toInt32) &&& (1431655765 : Int32))) &&& (858993459 : Int32)) + ((((x0 - ((((x0).toUInt32 >>> (((1 : Int32)).toUInt32 &&& Int32.toUInt32 31)).toInt32) &&& (1431655765 : Int32))).toUInt32 >>> (((2 : Int32)).toUInt32 &&& Int32.toUInt32 31)).toInt32) &&& (858993459 : Int32))).toUInt32 >>> (((4 : Int32)).toUInt32 &&& Int32.toUInt32 31)).toInt32)) &&& (252645135 : Int32)).toUInt32 >>> (((8 : Int32)).toUInt32 &&& Int32.toUInt32 31)).toInt32)) + ((((((((x0 - ((((x0).toUInt32 >>> (((1 : Int32)).toUInt32 &&& Int32.toUInt32 31)).toInt32) &&& (1431655765 : Int32))) &&& (858993459 : Int32)) + ((((x0 - ((((x0).toUInt32 >>> (((1 : Int32)).toUInt32 &&& Int32.toUInt32 31)).toInt32) &&& (1431655765 : Int32))).toUInt32 >>> (((2 : Int32)).toUInt32 &&& Int32.toUInt32 31)).toInt32) &&& (858993459 : Int32))) + (((((x0 - ((((x0).toUInt32 >>> (((1 : Int32)).toUInt32 &&& Int32.toUInt32 31)).toInt32) &&& (1431655765 : Int32))) &&& (858993459 : Int32)) + ((((x0 - ((((x0).toUInt32 >>> (((1 : Int32)).toUInt32 &&& Int32.toUInt32 31)).toInt32) &&& (1431655765 : Int32))).toUInt32 >>> (((2 : Int32)).toUInt32 &&& Int32.toUInt32 31)).toInt32) &&& (858993459 : Int32))).toUInt32 >>> (((4 : Int32)).toUInt32 &&& Int32.toUInt32 31)).toInt32)) &&& (252645135 : Int32)) + (((((((x0 - ((((x0).toUInt32 >>> (((1 : Int32)).toUInt32 &&& Int32.toUInt32 31)).toInt32) &&& (1431655765 : Int32))) &&& (858993459 : Int32)) + ((((x0 - ((((x0).toUInt32 >>> (((1 : Int32)).toUInt32 &&& Int32.toUInt32 31)).toInt32) &&& (1431655765 : Int32))).toUInt32 >>> (((2 : Int32)).toUInt32 &&& Int32.toUInt32 31)).toInt32) &&& (858993459 : Int32))) + (((((x0 - ((((x0).toUInt32 >>> (((1 : Int32)).toUInt32 &&& Int32.toUInt32 31)).toInt32) &&& (1431655765 : Int32))) &&& (858993459 : Int32)) + ((((x0 - ((((x0).toUInt32 >>> (((1 : Int32)).toUInt32 &&& Int32.toUInt32 31)).toInt32) &&& (1431655765 : Int32))).toUInt32 >>> (((2 : Int32)).toUInt32 &&& Int32.toUInt32 31)).toInt32) &&& (858993459 : Int32))).toUInt32 >>> (((4 : Int32)).toUInt32 &&& Int32.toUInt32 31)).toInt32)) &&& (252645135 : Int32)).toUInt32 >>> (((8 : Int32)).toUInt32 &&& Int32.toUInt32 31)).toInt32)).toUInt32 >>> (((16 : Int32)).toUInt32 &&& Int32.toUInt32 31)).toInt32)) &&& (63 : Int32))
set_option maxRecDepth 100000 in
theorem jbc_ok : ∀ k : Nat, k < 256 → jbc (nI k) = nI (pop8 k) := by decide +kernel
theorem pop8_lt : ∀ k : Nat, k < 256 → pop8 k < 9 := by decide +kernel
set_option maxRecDepth 100000 in
theorem c_bitCount {k : Nat} {post : Int32 → jM → Prop} (hk : k < 256) (h : post (nI (pop8 k)) M) : CI G d mJ6_bitCount_0f7a4 [.int (nI k)] M post := by
  refine eJ6_bitCount_0f7a4 (bJ6_bitCount_0f7a4_0 ?_)
  rw [← jbc_ok k hk] at h
  exact h
end ST
