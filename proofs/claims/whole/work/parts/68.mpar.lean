/-- what the model's reading of a court may change: the court act's cells, the place, whether it is wrong, how deep -/
def Pf (act : Nat) (M0 M : jM) : Prop := (∀ b, b ≠ 117 → b ≠ 118 → M b = M0 b) ∧ (∀ i, i ≠ 5 → i ≠ 7 → i ≠ 8 → M 117 i = M0 117 i) ∧ ∀ i, i ≠ 206 + act → i ≠ 211 + act → (i < 216 + 140 * act ∨ 216 + 140 * act + 140 ≤ i) → M 118 i = M0 118 i
def Pc (M0 : jM) (act n : Nat) (h : Nat → Nat) : Prop := n ≤ 100 ∧ act < 5 ∧ M0 117 6 = nI n ∧ M0 117 4 = nI act ∧ (∀ k, k < n → M0 118 (106 + k) = nI (h k) ∧ h k < 128) ∧ ∀ i, n ≤ i → h i = 128
def Pm (M0 : jM) (act n : Nat) (M : jM) (op i : Nat) (S : List jSt) (b : Nat) : Prop := Pf act M0 M ∧ M 117 5 = nI i ∧ i ≤ n ∧ M 117 7 = 0 ∧ M 117 8 = nI op ∧ M 118 (211 + act) = nI S.length ∧ (∀ k q, S[k]? = some q → M 118 (216 + 140 * act + k) = enc q) ∧ M 118 (206 + act) = nI b
def Pw (M0 : jM) (act n : Nat) (M : jM) (e : Nat) : Prop := Pf act M0 M ∧ M 117 5 = nI e ∧ e ≤ n ∧ M 117 7 = 1
def Pp (M0 : jM) (act n : Nat) (x : jE) (op : Nat) (S : List jSt) (b : Nat) (M : jM) : Prop := match x with
  | .inl e => Pw M0 act n M e
  | .inr (j, S', _) => Pm M0 act n M op j (S ++ S') b
theorem Pf.up {act : Nat} {M0 M : jM} {i : Nat} {z : Int32} (h : Pf act M0 M) (hi : i = 5 ∨ i = 7 ∨ i = 8) : Pf act M0 (jup M 117 i z) := by
  obtain ⟨h1, h2, h3⟩ := h
  exact ⟨fun b b1 b2 => by (simp (disch := omega) only [jup_ne]); exact h1 b b1 b2, fun k k1 k2 k3 => by rw [jup_sn (by omega)]; exact h2 k k1 k2 k3, fun k k1 k2 k3 => by (simp (disch := omega) only [jup_ne]); exact h3 k k1 k2 k3⟩
section PM
variable {G : jGT} {d : Nat} {M0 M : jM} {act n op i b : Nat} {h : Nat → Nat} {S : List jSt}
theorem Pm.setop (H : Pm M0 act n M op i S b) {op' : Nat} {z : Int32} (hz : z = nI op') : Pm M0 act n (jup M 117 8 z) op' i S b := by
  obtain ⟨h1, h2, h3, h4, h5, h6, h7, h8⟩ := H
  exact ⟨h1.up (by omega), by (simp (disch := omega) only [jup_ss, jup_sn, jup_n, jup_ne]); exact h2, h3, by (simp (disch := omega) only [jup_ss, jup_sn, jup_n, jup_ne]); exact h4, by (simp (disch := omega) only [jup_ss, jup_sn, jup_n, jup_ne]); exact hz, by (simp (disch := omega) only [jup_ne]); exact h6, fun k q hk => by (simp (disch := omega) only [jup_ne]); exact h7 k q hk, by (simp (disch := omega) only [jup_ne]); exact h8⟩
theorem Pm.go (H : Pm M0 act n M op i S b) {j : Nat} {z : Int32} (hz : z = nI j) (hj : j ≤ n) : Pm M0 act n (jup M 117 5 z) op j S b := by
  obtain ⟨h1, h2, h3, h4, h5, h6, h7, h8⟩ := H
  exact ⟨h1.up (by omega), by (simp (disch := omega) only [jup_ss, jup_sn, jup_n, jup_ne]); exact hz, hj, by (simp (disch := omega) only [jup_ss, jup_sn, jup_n, jup_ne]); exact h4, by (simp (disch := omega) only [jup_ss, jup_sn, jup_n, jup_ne]); exact h5, by (simp (disch := omega) only [jup_ne]); exact h6, fun k q hk => by (simp (disch := omega) only [jup_ne]); exact h7 k q hk, by (simp (disch := omega) only [jup_ne]); exact h8⟩
theorem Pm.z (H : Pm M0 act n M op i S b) {z : Int32} (hz : z = 0) : Pm M0 act n (jup M 117 7 z) op i S b := by
  obtain ⟨h1, h2, h3, h4, h5, h6, h7, h8⟩ := H
  exact ⟨h1.up (by omega), by (simp (disch := omega) only [jup_ss, jup_sn, jup_n, jup_ne]); exact h2, h3, by (simp (disch := omega) only [jup_ss, jup_sn, jup_n, jup_ne]); exact hz, by (simp (disch := omega) only [jup_ss, jup_sn, jup_n, jup_ne]); exact h5, by (simp (disch := omega) only [jup_ne]); exact h6, fun k q hk => by (simp (disch := omega) only [jup_ne]); exact h7 k q hk, by (simp (disch := omega) only [jup_ne]); exact h8⟩
theorem Pm.w (H : Pm M0 act n M op i S b) {z : Int32} (hz : z = 1) : Pw M0 act n (jup M 117 7 z) i := by
  obtain ⟨h1, h2, h3, h4, h5, h6, h7, h8⟩ := H
  exact ⟨h1.up (by omega), by (simp (disch := omega) only [jup_ss, jup_sn, jup_n, jup_ne]); exact h2, h3, by (simp (disch := omega) only [jup_ss, jup_sn, jup_n, jup_ne]); exact hz⟩
theorem Pw.w (H : Pw M0 act n M i) {z : Int32} (hz : z = 1) : Pw M0 act n (jup M 117 7 z) i := by
  obtain ⟨h1, h2, h3, h4⟩ := H
  exact ⟨h1.up (by omega), by (simp (disch := omega) only [jup_ss, jup_sn, jup_n, jup_ne]); exact h2, h3, by (simp (disch := omega) only [jup_ss, jup_sn, jup_n, jup_ne]); exact hz⟩
theorem Pw.setop (H : Pw M0 act n M i) {z : Int32} : Pw M0 act n (jup M 117 8 z) i := by
  obtain ⟨h1, h2, h3, h4⟩ := H
  exact ⟨h1.up (by omega), by (simp (disch := omega) only [jup_ss, jup_sn, jup_n, jup_ne]); exact h2, h3, by (simp (disch := omega) only [jup_ss, jup_sn, jup_n, jup_ne]); exact h4⟩
theorem Pw.go (H : Pw M0 act n M i) {z : Int32} (hz : z = nI i) : Pw M0 act n (jup M 117 5 z) i := by
  obtain ⟨h1, h2, h3, h4⟩ := H
  exact ⟨h1.up (by omega), by (simp (disch := omega) only [jup_ss, jup_sn, jup_n, jup_ne]); exact hz, h3, by (simp (disch := omega) only [jup_ss, jup_sn, jup_n, jup_ne]); exact h4⟩
def hv (h : Nat → Nat) (n i : Nat) : Int32 := if i < n then nI (h i) else -1
theorem hv_eq (C : Pc M0 act n h) {c : Nat} (hc : c < 128) : hv h n i = nI c ↔ h i = c := by
  obtain ⟨c1, c2, c3, c4, c5, c6⟩ := C
  unfold hv
  by_cases e : i < n
  · rw [if_pos e, nI_eq (by have := (c5 i e).2; omega) (by omega)]
  · rw [if_neg e, c6 i (by omega)]
    exact ⟨fun q => absurd (by rw [← q]; decide) (nI_pos (by omega : c < 2 ^ 31)), fun q => by omega⟩
theorem t_here {post : Int32 → jM → Prop} (C : Pc M0 act n h) (hf : Pf act M0 M) (h5 : M 117 5 = nI i) (hi : i ≤ n) (k : post (hv h n i) M) : CI G d mX8_here [.ref 117] M post := by
  obtain ⟨c1, c2, c3, c4, c5, c6⟩ := C
  refine eX8_here (bX8_here_0 ?_)
  rw [hf.2.1 6 (by omega) (by omega) (by omega), c3, h5, show (106 : Int32) = nI 106 from rfl, nI_add, nI_clamp (by omega)]
  unfold hv at k
  by_cases e : i < n
  · rw [if_pos e, ← (c5 i e).1] at k
    refine ite_fi (by rw [nI_leI (by omega) (by omega)]; omega) ⟨vp_in_nI (by omega) (by omega), ?_⟩
    rw [hf.2.2 (106 + i) (by omega) (by omega) (by omega)]
    exact k
  · rw [if_neg e] at k
    exact ite_ti (by rw [nI_leI (by omega) (by omega)]; omega) k
theorem t_must {c : Nat} {post : jM → Prop} (C : Pc M0 act n h) (H : Pm M0 act n M op i S b) (hc : c < 128) (k1 : h i = c → ∀ M', Pm M0 act n M' op (i + 1) S b → post M') (k0 : h i ≠ c → ∀ M', Pw M0 act n M' i → post M') : CV G (d + 1) mX8_must [.ref 117, .int (nI c)] M post := by
  have H' := H
  obtain ⟨h1, h2, h3, h4, h5, h6, h7, h8⟩ := H'
  refine eX8_must (bX8_must_0 (ite_ti h4 (t_here C h1 h2 h3 (ite_i (fun q => ite_ti rfl ?_) (fun q => ite_fi (by decide) ?_)))))
  · rw [hv_eq C hc] at q
    have hi : i < n := Nat.not_le.mp fun z => by have := C.2.2.2.2.2 i z; omega
    refine k1 q _ ((H.z rfl).go (by rw [h2]; exact nI_1 _) (by omega))
  · rw [hv_eq C hc] at q
    exact k0 q _ ((H.w rfl).go (by rw [h2, Int32.add_zero]))
theorem w_must {c : Int32} {e : Nat} {post : jM → Prop} (H : Pw M0 act n M e) (k : ∀ M', Pw M0 act n M' e → post M') : CV G (d + 1) mX8_must [.ref 117, .int c] M post := by
  have H' := H
  obtain ⟨h1, h2, h3, h4⟩ := H'
  refine eX8_must (bX8_must_0 (ite_fi (by rw [h4]; decide) (ite_fi (by decide) (k _ ((H.w rfl).go (by rw [h2, Int32.add_zero]))))))
theorem t_dig {post : Int32 → jM → Prop} (C : Pc M0 act n h) (k1 : qDig (h i) = true → hv h n i = nI (h i) → post 1 M) (k0 : ¬ qDig (h i) = true → post 0 M) : CI G d mX8_in [.int (hv h n i), .int 48, .int 57] M post := by
  obtain ⟨c1, c2, c3, c4, c5, c6⟩ := C
  have D : qDig (h i) = true ↔ 48 ≤ h i ∧ h i ≤ 57 := by unfold qDig; simp
  by_cases e : i < n
  · have e1 : hv h n i = nI (h i) := by unfold hv; rw [if_pos e]
    have := (c5 i e).2
    by_cases q : qDig (h i) = true
    · have q' := D.mp q
      refine t_in_y ?_ ?_ (k1 q e1)
      · rw [e1, show (48 : Int32) = nI 48 from rfl, nI_ltI (by omega) (by omega)]; omega
      · rw [e1, show (57 : Int32) = nI 57 from rfl, nI_ltI (by omega) (by omega)]; omega
    · have q' : ¬ (48 ≤ h i ∧ h i ≤ 57) := fun z => q (D.mpr z)
      refine t_in_n ?_ (k0 q)
      rw [e1, show (48 : Int32) = nI 48 from rfl, show (57 : Int32) = nI 57 from rfl, nI_ltI (by omega) (by omega), nI_ltI (by omega) (by omega)]
      omega
  · refine t_in_n (Or.inl ?_) (k0 fun z => ?_)
    · unfold hv; rw [if_neg e]; decide
    · have := D.mp z; rw [c6 i (by omega)] at this; omega
theorem t_figures {post : Int32 → jM → Prop} (C : Pc M0 act n h) (H : Pm M0 act n M op i S b) (k1 : ∀ j v, qNum h i = .inr (j, v) → ∀ M', Pm M0 act n M' op j S b → post (nI v) M') (k0 : ∀ e, qNum h i = .inl e → ∀ M', Pw M0 act n M' e → post 0 M') : CI G (d + 1) mX8_figures [.ref 117] M post := by
  obtain ⟨c1, c2, c3, c4, c5, c6⟩ := id C
  have h4 := H.2.2.2.1
  have lt : ∀ j, qDig (h j) = true → j < n ∧ 48 ≤ h j ∧ h j ≤ 57 := fun j q => by
    have q' : 48 ≤ h j ∧ h j ≤ 57 := by unfold qDig at q; simpa using q
    exact ⟨Nat.not_le.mp fun z => by have := c6 j z; omega, q'⟩
  refine eX8_figures (bX8_figures_0 (ite_ti h4 (t_here C H.1 H.2.1 H.2.2.1 (t_dig C (fun q e => ite_fi (by decide) ?_) (fun q => ite_ti rfl ?_)))))
  · obtain ⟨hi, q1, q2⟩ := lt i q
    have H1 := H.z (z := 0) rfl
    refine bX8_figures_34 (ite_fi (by decide) (ite_ti H1.2.2.2.1 (t_here C H1.1 H1.2.1 H1.2.2.1 (t_dig C (fun _ _ => ite_fi (by decide) (ite_ti rfl (t_here C H1.1 H1.2.1 H1.2.2.1 ?_))) (fun z => absurd q z)))))
    have ev : ((10 * 0 : Int32) + hv h n i) - 48 = nI (h i - 48) := by
      rw [e, show (10 * 0 : Int32) = 0 from rfl, Int32.zero_add, show (48 : Int32) = nI 48 from rfl, nI_subE q1]
    rw [ev, H1.2.1, nI_1]
    have H2 := H1.go (j := i + 1) (z := nI (i + 1)) rfl (by omega)
    have e0 : h i ≠ 48 ∧ qDig (h (i + 1)) = true → qNum h i = .inr (i + 2, 10 * (h i - 48) + (h (i + 1) - 48)) := fun z => by unfold qNum; rw [if_pos q, if_pos z]
    have e1 : ¬ (h i ≠ 48 ∧ qDig (h (i + 1)) = true) → qNum h i = .inr (i + 1, h i - 48) := fun z => by unfold qNum; rw [if_pos q, if_neg z]
    refine bX8_figures_34 (ite_fi (by decide) (ite_ti H2.2.2.2.1 (t_here C H2.1 H2.2.1 H2.2.2.1 (t_dig C (fun p f => ite_fi (by decide) (ite_fi (by decide) (ite_i (fun r => ?_) (fun r => t_here C H2.1 H2.2.1 H2.2.2.1 ?_)))) (fun p => ite_ti rfl (k1 _ _ (e1 fun z => p z.2) _ H2))))))
    · rw [show (0 : Int32) = nI 0 from rfl, nI_leI (by omega) (by omega)] at r
      exact k1 _ _ (e1 fun z => by omega) _ H2
    · rw [show (0 : Int32) = nI 0 from rfl, nI_leI (by omega) (by omega)] at r
      obtain ⟨hi2, p1, p2⟩ := lt (i + 1) p
      rw [f, show (10 : Int32) = nI 10 from rfl, pk_mul, nI_add, show (48 : Int32) = nI 48 from rfl, nI_subE (by omega), H2.2.1, nI_1]
      refine bX8_figures_34 (ite_ti (by decide) ?_)
      have := k1 _ _ (e0 ⟨by omega, p⟩) _ (H2.go (j := i + 2) (z := nI (i + 1 + 1)) rfl (by omega))
      rw [show 10 * (h i - 48) + h (i + 1) - 48 = 10 * (h i - 48) + (h (i + 1) - 48) by omega]
      exact this
  · have H1 := H.w (z := 1) rfl
    refine bX8_figures_34 (ite_fi (by decide) (ite_fi (by rw [H1.2.2.2]; decide) (k0 i ?_ _ H1)))
    unfold qNum; rw [if_neg q]
theorem w_figures {e : Nat} {post : Int32 → jM → Prop} (H : Pw M0 act n M e) (k : ∀ M', Pw M0 act n M' e → post 0 M') : CI G (d + 1) mX8_figures [.ref 117] M post := by
  have h4 := H.2.2.2
  have H1 := H.w (z := 1) rfl
  exact eX8_figures (bX8_figures_0 (ite_fi (by rw [h4]; decide) (bX8_figures_34 (ite_fi (by decide) (ite_fi (by rw [H1.2.2.2]; decide) (k _ H1))))))
theorem t_emits {x : Int32} {q : jSt} {post : jM → Prop} (C : Pc M0 act n h) (H : Pm M0 act n M op i S b) (hl : S.length < 140) (hx : x = enc q) (k : ∀ M', Pm M0 act n M' op i (S ++ [q]) b → post M') : CV G d mX8_emits [.ref 117, .int x] M post := by
  obtain ⟨c1, c2, c3, c4, c5, c6⟩ := id C
  obtain ⟨h1, h2, h3, h4, h5, h6, h7, h8⟩ := H
  refine eX8_emits (bX8_emits_0 (ite_ti h4 ?_))
  rw [h1.2.1 4 (by omega) (by omega) (by omega), c4, show (211 : Int32) = nI 211 from rfl, show (216 : Int32) = nI 216 from rfl, show (140 : Int32) = nI 140 from rfl, pk_mul, nI_add, nI_add, nI_clamp (by omega), h6, nI_add, nI_clamp (by omega)]
  have e1 : (jup M 118 (216 + 140 * act + S.length) x) 118 (211 + act) + 1 = nI (S.length + 1) := by
    rw [jup_sn (by omega), h6]; exact nI_1 _
  rw [e1]
  refine ⟨vp_in_nI (by omega) (by omega), vp_in_nI (by omega) (by omega), vp_in_nI (by omega) (by omega), vp_in_nI (by omega) (by omega), k _ ⟨?_, by (simp (disch := omega) only [jup_ss, jup_sn, jup_n, jup_ne]); exact h2, h3, by (simp (disch := omega) only [jup_ss, jup_sn, jup_n, jup_ne]); exact h4, by (simp (disch := omega) only [jup_ss, jup_sn, jup_n, jup_ne]); exact h5, by (simp (disch := omega) only [jup_ss, jup_sn, jup_n, jup_ne]); simp, fun j p hp => ?_, by (simp (disch := omega) only [jup_ss, jup_sn, jup_n, jup_ne]); exact h8⟩⟩
  · obtain ⟨f1, f2, f3⟩ := h1
    exact ⟨fun b b1 b2 => by (simp (disch := omega) only [jup_ne]); exact f1 b b1 b2, fun i i1 i2 i3 => by (simp (disch := omega) only [jup_ss, jup_sn, jup_n, jup_ne]); exact f2 i i1 i2 i3, fun i i1 i2 i3 => by rw [jup_sn (by omega), jup_sn (by omega)]; exact f3 i i1 i2 i3⟩
  · rw [jup_sn (by omega)]
    by_cases e : j < S.length
    · rw [jup_sn (by omega)]
      rw [List.getElem?_append_left e] at hp
      exact h7 j p hp
    · rw [List.getElem?_append_right (by omega)] at hp
      have : j - S.length = 0 := by
        have := List.getElem?_eq_some_iff.mp hp
        obtain ⟨w, -⟩ := this
        simp at w; omega
      rw [this] at hp
      simp at hp
      obtain rfl : j = S.length := by omega
      rw [jup_ss, hx, hp]
theorem w_emits {x : Int32} {e : Nat} {post : jM → Prop} (H : Pw M0 act n M e) (k : ∀ M', Pw M0 act n M' e → post M') : CV G d mX8_emits [.ref 117, .int x] M post :=
  eX8_emits (bX8_emits_0 (ite_fi (by rw [H.2.2.2]; decide) (k _ H)))
end PM
