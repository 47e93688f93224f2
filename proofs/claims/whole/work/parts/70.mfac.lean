section PO
variable {G : jGT} {d : Nat} {M0 : jM} {act n op b : Nat} {h : Nat → Nat}
theorem w_factor {M : jM} {e : Nat} {post : jM → Prop} (H : Pw M0 act n M e) (k : ∀ M', Pw M0 act n M' e → post M') : CV G (d + 1) mX8_factor [.ref 117] M post :=
  eX8_factor (bX8_factor_0 (ite_fi (by rw [H.2.2.2]; decide) (k _ H)))
theorem w_every {M : jM} {e : Nat} {post : jM → Prop} (H : Pw M0 act n M e) (k : ∀ M', Pw M0 act n M' e → post M') : CV G (d + 2) mX8_every [.ref 117] M post :=
  eX8_every (bX8_every_0 (w_factor H (fun M' H' => bX8_every_4 (ite_fi (by rw [H'.2.2.2]; decide) (k _ H')))))
theorem w_some {M : jM} {e : Nat} {post : jM → Prop} (H : Pw M0 act n M e) (k : ∀ M', Pw M0 act n M' e → post M') : CV G (d + 3) mX8_some [.ref 117] M post :=
  eX8_some (bX8_some_0 (w_every H (fun M' H' => bX8_some_4 (ite_fi (by rw [H'.2.2.2]; decide) (k _ H')))))
/-- what is claimed of a reader -/
def FCm (G : jGT) (d : Nat) (m : jMD) (M0 : jM) (act n op b : Nat) (f : Nat → jE) : Prop :=
  ∀ (i : Nat) (S : List jSt) (M : jM) (post : jM → Prop), Pm M0 act n M op i S b → S.length ≤ i → (∀ M', Pp M0 act n (f i) op S b M' → post M') → CV G d m [.ref 117] M post
theorem t_meloop {f : Nat → jE} (C : Pc M0 act n h) (hf : FCm G d mX8_factor M0 act n op b f) (hfo : ∀ i x, f i = .inr x → Ok n i x) : ∀ (k j : Nat) (S S' : List jSt) (B : jB) (M : jM) (post : jM → Prop), n + 1 ≤ k + j → j ≤ n → Pm M0 act n M op j (S ++ S') b → (S ++ S').length ≤ j → (∀ M', Pp M0 act n (qLoop h f 38 2 (fun a b => a && b) k (j, S', B)) op S b M' → post M') → kX8_every_4 G d M post := by
  intro k
  induction k with
  | zero => intro j S S' B M post h1 h2; omega
  | succ k ih =>
    intro j S S' B M post hk hj H hl k0
    have hn := C.1
    rw [qLoop] at k0
    refine bX8_every_4 (ite_ti H.2.2.2.1 (t_here C H.1 H.2.1 hj (ite_i (fun q => ?_) (fun q => ?_)))) <;> rw [show (38 : Int32) = nI 38 from rfl, hv_eq C (by omega)] at q
    · rw [if_pos q] at k0
      have hi : j < n := Nat.not_le.mp fun z => by have := C.2.2.2.2.2 j z; omega
      rw [H.2.1, nI_1]
      refine hf (j + 1) _ _ _ (H.go rfl (by omega)) (by omega) (fun M1 H1 => ?_)
      cases e : f (j + 1) with
      | inl a =>
        rw [e] at H1 k0
        refine w_emits H1 (fun M2 H2 => bX8_every_4 (ite_fi (by rw [H2.2.2.2]; decide) (k0 _ H2)))
      | inr x =>
        obtain ⟨j2, S2, B2⟩ := x
        obtain ⟨o1, o2, o3, o4, o5⟩ := hfo _ _ e
        dsimp only at o1 o2 o3
        rw [e] at H1 k0
        have hl' : ((S ++ S') ++ S2).length ≤ j2 - 1 := by rw [List.length_append]; omega
        refine t_emits (q := .inr 2) C H1 (by omega) rfl (fun M2 H2 => ?_)
        have e2 : (S ++ S' ++ S2) ++ [.inr 2] = S ++ (S' ++ S2 ++ [.inr 2]) := by simp
        rw [e2] at H2
        refine ih j2 S _ _ M2 post (by omega) o2 H2 ?_ k0
        rw [← e2, List.length_append]
        simp only [List.length_singleton]; omega
    · rw [if_neg q] at k0
      exact k0 M H
theorem t_mevery {f : Nat → jE} (C : Pc M0 act n h) (hf : FCm G d mX8_factor M0 act n op b f) (hfo : ∀ i x, f i = .inr x → Ok n i x) : FCm G (d + 1) mX8_every M0 act n op b (qEvery h n f) := by
  intro i S M post H hl k
  unfold qEvery at k
  refine eX8_every (bX8_every_0 (hf i S M _ H hl (fun M1 H1 => ?_)))
  cases e : f i with
  | inl a =>
    rw [e] at H1 k
    exact bX8_every_4 (ite_fi (by rw [H1.2.2.2]; decide) (k _ H1))
  | inr x =>
    obtain ⟨j, S', B⟩ := x
    obtain ⟨o1, o2, o3, o4, o5⟩ := hfo _ _ e
    dsimp only at o1 o2 o3
    rw [e] at H1 k
    exact t_meloop C hf hfo n j S S' B M1 post (by omega) o2 H1 (by rw [List.length_append]; omega) k
theorem t_msloop {f : Nat → jE} (C : Pc M0 act n h) (hf : FCm G d mX8_every M0 act n op b f) (hfo : ∀ i x, f i = .inr x → Ok n i x) : ∀ (k j : Nat) (S S' : List jSt) (B : jB) (M : jM) (post : jM → Prop), n + 1 ≤ k + j → j ≤ n → Pm M0 act n M op j (S ++ S') b → (S ++ S').length ≤ j → (∀ M', Pp M0 act n (qLoop h f 124 3 (fun a b => a || b) k (j, S', B)) op S b M' → post M') → kX8_some_4 G d M post := by
  intro k
  induction k with
  | zero => intro j S S' B M post h1 h2; omega
  | succ k ih =>
    intro j S S' B M post hk hj H hl k0
    have hn := C.1
    rw [qLoop] at k0
    refine bX8_some_4 (ite_ti H.2.2.2.1 (t_here C H.1 H.2.1 hj (ite_i (fun q => ?_) (fun q => ?_)))) <;> rw [show (124 : Int32) = nI 124 from rfl, hv_eq C (by omega)] at q
    · rw [if_pos q] at k0
      have hi : j < n := Nat.not_le.mp fun z => by have := C.2.2.2.2.2 j z; omega
      rw [H.2.1, nI_1]
      refine hf (j + 1) _ _ _ (H.go rfl (by omega)) (by omega) (fun M1 H1 => ?_)
      cases e : f (j + 1) with
      | inl a =>
        rw [e] at H1 k0
        refine w_emits H1 (fun M2 H2 => bX8_some_4 (ite_fi (by rw [H2.2.2.2]; decide) (k0 _ H2)))
      | inr x =>
        obtain ⟨j2, S2, B2⟩ := x
        obtain ⟨o1, o2, o3, o4, o5⟩ := hfo _ _ e
        dsimp only at o1 o2 o3
        rw [e] at H1 k0
        have hl' : ((S ++ S') ++ S2).length ≤ j2 - 1 := by rw [List.length_append]; omega
        refine t_emits (q := .inr 3) C H1 (by omega) rfl (fun M2 H2 => ?_)
        have e2 : (S ++ S' ++ S2) ++ [.inr 3] = S ++ (S' ++ S2 ++ [.inr 3]) := by simp
        rw [e2] at H2
        refine ih j2 S _ _ M2 post (by omega) o2 H2 ?_ k0
        rw [← e2, List.length_append]
        simp only [List.length_singleton]; omega
    · rw [if_neg q] at k0
      exact k0 M H
theorem t_msome {f : Nat → jE} (C : Pc M0 act n h) (hf : FCm G d mX8_factor M0 act n op b f) (hfo : ∀ i x, f i = .inr x → Ok n i x) : FCm G (d + 2) mX8_some M0 act n op b (qSome h n f) := by
  intro i S M post H hl k
  unfold qSome at k
  refine eX8_some (bX8_some_0 (t_mevery C hf hfo i S M _ H hl (fun M1 H1 => ?_)))
  cases e : qEvery h n f i with
  | inl a =>
    rw [e] at H1 k
    exact bX8_some_4 (ite_fi (by rw [H1.2.2.2]; decide) (k _ H1))
  | inr x =>
    obtain ⟨j, S', B⟩ := x
    obtain ⟨o1, o2, o3, o4, o5⟩ := qEvery_ok hfo e
    dsimp only at o1 o2 o3
    rw [e] at H1 k
    exact t_msloop C (t_mevery C hf hfo) (fun i x q => qEvery_ok hfo q) n j S S' B M1 post (by omega) o2 H1 (by rw [List.length_append]; omega) k
theorem t_mfac (C : Pc M0 act n h) : ∀ (r d op : Nat), op + r = 5 → FCm G (d + 3 * r + 9) mX8_factor M0 act n op b (qFac h n r) := by
  intro r
  have hn := C.1
  have hh := C.2.2.2.2.2
  induction r with
  | zero =>
    intro d op ho i S M post H hl k
    obtain rfl : op = 5 := by omega
    have wrong : ∀ x1, (∀ M', Pw M0 act n M' i → post M') → kX8_factor_25 G (d + 8) x1 M post := by
      intro x1 kk
      have H1 : Pw M0 act n (jup M 117 7 1) i := H.w rfl
      have H2 : Pw M0 act n (jup (jup (jup M 117 7 1) 117 8 ((M 117 8) + 1)) 117 5 ((M 117 5) + 0)) i := H1.setop.go (by rw [Int32.add_zero]; exact H.2.1)
      refine bX8_factor_25 (ite_ti H.2.2.2.2.1 (bX8_factor_39 ⟨Or.inr rfl, ite_fi (by decide) (bX8_factor_69 (ite_i (fun _ => ?_) (fun _ => ?_)))⟩))
      · exact w_factor (d := d + 7) H2 (fun M3 H3 => w_emits H3 (fun M4 H4 => bX8_factor_101 (kk _ H4.setop)))
      · exact w_some (d := d + 5) H2 (fun M3 H3 => w_must (d := d + 7) H3 (fun M4 H4 => bX8_factor_101 (kk _ H4.setop)))
    rw [qFac] at k
    refine eX8_factor (bX8_factor_0 (ite_ti H.2.2.2.1 (t_here C H.1 H.2.1 H.2.2.1 (ite_i (fun q => ?_) (fun q => ite_i (fun p => ?_) (fun p => ?_))))))
    · rw [show (33 : Int32) = nI 33 from rfl, hv_eq C (by omega)] at q
      rw [if_pos (Or.inl q)] at k
      exact wrong _ (fun M' H' => k M' H')
    · rw [show (40 : Int32) = nI 40 from rfl, hv_eq C (by omega)] at p
      rw [if_pos (Or.inr p)] at k
      exact wrong _ (fun M' H' => k M' H')
    · rw [show (33 : Int32) = nI 33 from rfl, hv_eq C (by omega)] at q
      rw [show (40 : Int32) = nI 40 from rfl, hv_eq C (by omega)] at p
      rw [if_neg (by omega)] at k
      exact t_mtest C H hl k
  | succ r ih =>
    intro d op ho i S M post H hl k
    rw [qFac] at k
    rw [show d + 3 * (r + 1) + 9 = d + 3 * r + 11 + 1 by omega]
    have start : i < n → Pm M0 act n (jup (jup (jup M 117 7 0) 117 8 ((M 117 8) + 1)) 117 5 ((M 117 5) + 1)) (op + 1) (i + 1) S b := fun hi =>
      ((H.z rfl).setop (by rw [H.2.2.2.2.1]; exact nI_1 _)).go (by rw [H.2.1]; exact nI_1 _) (by omega)
    have fin : ∀ {M' : jM} {j : Nat} {S' : List jSt}, Pm M0 act n M' (op + 1) j S' b → Pm M0 act n (jup M' 117 8 ((M' 117 8) - 1)) op j S' b := fun H' => H'.setop (by rw [H'.2.2.2.2.1]; exact pk_sub (a := op + 1) (b := 1) (by omega))
    have n5 : ¬ M 117 8 = 5 := by rw [H.2.2.2.2.1, show (5 : Int32) = nI 5 from rfl, nI_eq (by omega) (by omega)]; omega
    refine eX8_factor (bX8_factor_0 (ite_ti H.2.2.2.1 (t_here C H.1 H.2.1 H.2.2.1 (ite_i (fun q => ?_) (fun q => ite_i (fun p => ?_) (fun p => ?_))))))
    · have q' := q
      rw [show (33 : Int32) = nI 33 from rfl, hv_eq C (by omega)] at q
      rw [if_pos q] at k
      have hi : i < n := Nat.not_le.mp fun z => by have := hh i z; omega
      refine bX8_factor_25 (ite_fi n5 (bX8_factor_39 ⟨Or.inl rfl, ite_ti rfl (bX8_factor_69 (ite_ti q' ?_))⟩))
      have := ih (d + 2) (op + 1) (by omega) (i + 1) S
      rw [show d + 2 + 3 * r + 9 = d + 3 * r + 11 by omega] at this
      refine this _ _ (start hi) (by omega) (fun M1 H1 => ?_)
      cases e : qFac h n r (i + 1) with
      | inl a =>
        rw [e] at H1 k
        exact w_emits H1 (fun M2 H2 => bX8_factor_101 (k _ H2.setop))
      | inr x =>
        obtain ⟨j, S', B⟩ := x
        obtain ⟨o1, o2, o3, o4, o5⟩ := qFac_ok hh _ _ _ e
        dsimp only at o1 o2 o3
        rw [e] at H1 k
        refine t_emits (q := .inr 1) C H1 (by rw [List.length_append]; omega) rfl (fun M2 H2 => bX8_factor_101 (k _ ?_))
        rw [List.append_assoc] at H2
        exact fin H2
    · have p' := p
      have q' := q
      rw [show (40 : Int32) = nI 40 from rfl, hv_eq C (by omega)] at p
      rw [show (33 : Int32) = nI 33 from rfl, hv_eq C (by omega)] at q
      rw [if_neg q, if_pos p] at k
      have hi : i < n := Nat.not_le.mp fun z => by have := hh i z; omega
      refine bX8_factor_25 (ite_fi n5 (bX8_factor_39 ⟨Or.inl rfl, ite_ti rfl (bX8_factor_69 (ite_fi q' ?_))⟩))
      have := t_msome C (ih d (op + 1) (by omega)) (fun i x q => qFac_ok hh r i x q) (i + 1) S
      rw [show d + 3 * r + 9 + 2 = d + 3 * r + 11 by omega] at this
      refine this _ _ (start hi) (by omega) (fun M1 H1 => ?_)
      cases e : qSome h n (qFac h n r) (i + 1) with
      | inl a =>
        rw [e] at H1 k
        exact w_must (d := d + 3 * r + 10) H1 (fun M2 H2 => bX8_factor_101 (k _ H2.setop))
      | inr x =>
        obtain ⟨j, S', B⟩ := x
        rw [e] at H1 k
        dsimp only at k
        refine t_must (d := d + 3 * r + 10) (c := 41) C H1 (by omega) (fun q M2 H2 => bX8_factor_101 (k _ ?_)) (fun q M2 H2 => bX8_factor_101 (k _ ?_))
        · rw [if_pos q]; exact fin H2
        · rw [if_neg q]; exact H2.setop
    · rw [show (33 : Int32) = nI 33 from rfl, hv_eq C (by omega)] at q
      rw [show (40 : Int32) = nI 40 from rfl, hv_eq C (by omega)] at p
      rw [if_neg q, if_neg p] at k
      exact t_mtest (d := d + 3 * r + 3) C H hl k
theorem t_mE (C : Pc M0 act n h) : FCm G (d + 26) mX8_some M0 act n 0 b (qE h n) :=
  t_msome C (t_mfac C 5 d 0 rfl) (fun i x q => qFac_ok C.2.2.2.2.2 5 i x q)
end PO
