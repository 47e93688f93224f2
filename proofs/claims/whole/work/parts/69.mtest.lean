theorem drop_cons' {w l : List Nat} {k c : Nat} (e : w.drop k = c :: l) : k < w.length ∧ w.getD k 0 = c ∧ w.drop (k + 1) = l := by
  have hk : k < w.length := Nat.not_le.mp fun z => by rw [List.drop_eq_nil_of_le z] at e; cases e
  rw [List.drop_eq_getElem_cons hk] at e
  cases e
  exact ⟨hk, by rw [List.getD_eq_getElem?_getD, List.getElem?_eq_getElem hk]; rfl, rfl⟩
section PN
variable {G : jGT} {d : Nat} {M0 : jM} {act n op b : Nat} {h : Nat → Nat} {S : List jSt}
theorem chW : ∀ k, k < 6 → (jSbyt.getD 0 []).getD k 0 = nI (qWeigh.getD k 0) ∧ qWeigh.getD k 0 < 128 := by decide
theorem t_spellsWl (C : Pc M0 act n h) : ∀ (l : List Nat) (k i : Nat) (M : jM) (post : jM → Prop), qWeigh.drop k = l → k ≤ 6 → Pm M0 act n M op i S b → (∀ j, qWord h l i = .inr j → ∀ M', Pm M0 act n M' op j S b → post M') → (∀ e, qWord h l i = .inl e → ∀ M', Pw M0 act n M' e → post M') → kX8_spellsW_2 G (d + 7) (nI k) M post
  | [], k, i, M, post, hl, hk, H, k1, _ => by
    have : k = 6 := by
      have := congrArg List.length hl
      rw [List.length_drop, show qWeigh.length = 6 from rfl] at this
      simp at this; omega
    subst this
    exact bX8_spellsW_2 (c_slen (t := 0) (by omega) (ite_ti (by decide) (k1 i rfl M H)))
  | c :: l, k, i, M, post, hl, hk, H, k1, k0 => by
    obtain ⟨e1, e2, e3⟩ := drop_cons' hl
    rw [show qWeigh.length = 6 from rfl] at e1
    obtain ⟨f1, f2⟩ := chW k e1
    rw [e2] at f1 f2
    refine bX8_spellsW_2 (c_slen (t := 0) (by omega) (ite_fi (by show ¬ nI 6 ≤ nI k; rw [nI_leI (by omega) (by omega)]; omega) (c_schar (t := 0) (i := k) (by omega) e1 ?_)))
    rw [f1, nI_1]
    rw [qWord] at k1 k0
    refine t_must (d := d + 6) C H f2 (fun q M' H' => ?_) (fun q M' H' => ?_)
    · rw [if_pos q] at k1 k0
      exact t_spellsWl C l (k + 1) (i + 1) M' post e3 (by omega) H' k1 k0
    · rw [if_neg q] at k0
      have aux : ∀ (r k : Nat) (M : jM), k + r = 6 → Pw M0 act n M i → kX8_spellsW_2 G (d + 7) (nI k) M post := by
        intro r
        induction r with
        | zero => intro k M hk H; obtain rfl : k = 6 := by omega
                  exact bX8_spellsW_2 (c_slen (t := 0) (by omega) (ite_ti (by decide) (k0 i rfl M H)))
        | succ r ih => intro k M hk H
                       refine bX8_spellsW_2 (c_slen (t := 0) (by omega) (ite_fi (by show ¬ nI 6 ≤ nI k; rw [nI_leI (by omega) (by omega)]; omega) (c_schar (t := 0) (i := k) (by omega) (by show k < 6; omega) (w_must (d := d + 6) H (fun M' H' => ?_)))))
                       rw [nI_1]
                       exact ih (k + 1) M' (by omega) H'
      exact aux (6 - (k + 1)) (k + 1) M' (by omega) H'
theorem t_spellsW {i : Nat} {M : jM} {post : jM → Prop} (C : Pc M0 act n h) (H : Pm M0 act n M op i S b) (k1 : ∀ j, qWord h qWeigh i = .inr j → ∀ M', Pm M0 act n M' op j S b → post M') (k0 : ∀ e, qWord h qWeigh i = .inl e → ∀ M', Pw M0 act n M' e → post M') : CV G (d + 8) mX8_spells [.ref 117, .ref 3000] M post :=
  eX8_spellsW (bX8_spellsW_0 (t_spellsWl C qWeigh 0 i M post rfl (by omega) H k1 k0))
theorem chC : ∀ k, k < 6 → (jSbyt.getD 1 []).getD k 0 = nI (qClash.getD k 0) ∧ qClash.getD k 0 < 128 := by decide
theorem t_spellsCl (C : Pc M0 act n h) : ∀ (l : List Nat) (k i : Nat) (M : jM) (post : jM → Prop), qClash.drop k = l → k ≤ 6 → Pm M0 act n M op i S b → (∀ j, qWord h l i = .inr j → ∀ M', Pm M0 act n M' op j S b → post M') → (∀ e, qWord h l i = .inl e → ∀ M', Pw M0 act n M' e → post M') → kX8_spellsC_2 G (d + 7) (nI k) M post
  | [], k, i, M, post, hl, hk, H, k1, _ => by
    have : k = 6 := by
      have := congrArg List.length hl
      rw [List.length_drop, show qClash.length = 6 from rfl] at this
      simp at this; omega
    subst this
    exact bX8_spellsC_2 (c_slen (t := 1) (by omega) (ite_ti (by decide) (k1 i rfl M H)))
  | c :: l, k, i, M, post, hl, hk, H, k1, k0 => by
    obtain ⟨e1, e2, e3⟩ := drop_cons' hl
    rw [show qClash.length = 6 from rfl] at e1
    obtain ⟨f1, f2⟩ := chC k e1
    rw [e2] at f1 f2
    refine bX8_spellsC_2 (c_slen (t := 1) (by omega) (ite_fi (by show ¬ nI 6 ≤ nI k; rw [nI_leI (by omega) (by omega)]; omega) (c_schar (t := 1) (i := k) (by omega) e1 ?_)))
    rw [f1, nI_1]
    rw [qWord] at k1 k0
    refine t_must (d := d + 6) C H f2 (fun q M' H' => ?_) (fun q M' H' => ?_)
    · rw [if_pos q] at k1 k0
      exact t_spellsCl C l (k + 1) (i + 1) M' post e3 (by omega) H' k1 k0
    · rw [if_neg q] at k0
      have aux : ∀ (r k : Nat) (M : jM), k + r = 6 → Pw M0 act n M i → kX8_spellsC_2 G (d + 7) (nI k) M post := by
        intro r
        induction r with
        | zero => intro k M hk H; obtain rfl : k = 6 := by omega
                  exact bX8_spellsC_2 (c_slen (t := 1) (by omega) (ite_ti (by decide) (k0 i rfl M H)))
        | succ r ih => intro k M hk H
                       refine bX8_spellsC_2 (c_slen (t := 1) (by omega) (ite_fi (by show ¬ nI 6 ≤ nI k; rw [nI_leI (by omega) (by omega)]; omega) (c_schar (t := 1) (i := k) (by omega) (by show k < 6; omega) (w_must (d := d + 6) H (fun M' H' => ?_)))))
                       rw [nI_1]
                       exact ih (k + 1) M' (by omega) H'
      exact aux (6 - (k + 1)) (k + 1) M' (by omega) H'
theorem t_spellsC {i : Nat} {M : jM} {post : jM → Prop} (C : Pc M0 act n h) (H : Pm M0 act n M op i S b) (k1 : ∀ j, qWord h qClash i = .inr j → ∀ M', Pm M0 act n M' op j S b → post M') (k0 : ∀ e, qWord h qClash i = .inl e → ∀ M', Pw M0 act n M' e → post M') : CV G (d + 8) mX8_spells [.ref 117, .ref 3001] M post :=
  eX8_spellsC (bX8_spellsC_0 (t_spellsCl C qClash 0 i M post rfl (by omega) H k1 k0))
theorem chB : ∀ k, k < 4 → (jSbyt.getD 2 []).getD k 0 = nI (qBar.getD k 0) ∧ qBar.getD k 0 < 128 := by decide
theorem t_spellsBl (C : Pc M0 act n h) : ∀ (l : List Nat) (k i : Nat) (M : jM) (post : jM → Prop), qBar.drop k = l → k ≤ 4 → Pm M0 act n M op i S b → (∀ j, qWord h l i = .inr j → ∀ M', Pm M0 act n M' op j S b → post M') → (∀ e, qWord h l i = .inl e → ∀ M', Pw M0 act n M' e → post M') → kX8_spellsB_2 G (d + 7) (nI k) M post
  | [], k, i, M, post, hl, hk, H, k1, _ => by
    have : k = 4 := by
      have := congrArg List.length hl
      rw [List.length_drop, show qBar.length = 4 from rfl] at this
      simp at this; omega
    subst this
    exact bX8_spellsB_2 (c_slen (t := 2) (by omega) (ite_ti (by decide) (k1 i rfl M H)))
  | c :: l, k, i, M, post, hl, hk, H, k1, k0 => by
    obtain ⟨e1, e2, e3⟩ := drop_cons' hl
    rw [show qBar.length = 4 from rfl] at e1
    obtain ⟨f1, f2⟩ := chB k e1
    rw [e2] at f1 f2
    refine bX8_spellsB_2 (c_slen (t := 2) (by omega) (ite_fi (by show ¬ nI 4 ≤ nI k; rw [nI_leI (by omega) (by omega)]; omega) (c_schar (t := 2) (i := k) (by omega) e1 ?_)))
    rw [f1, nI_1]
    rw [qWord] at k1 k0
    refine t_must (d := d + 6) C H f2 (fun q M' H' => ?_) (fun q M' H' => ?_)
    · rw [if_pos q] at k1 k0
      exact t_spellsBl C l (k + 1) (i + 1) M' post e3 (by omega) H' k1 k0
    · rw [if_neg q] at k0
      have aux : ∀ (r k : Nat) (M : jM), k + r = 4 → Pw M0 act n M i → kX8_spellsB_2 G (d + 7) (nI k) M post := by
        intro r
        induction r with
        | zero => intro k M hk H; obtain rfl : k = 4 := by omega
                  exact bX8_spellsB_2 (c_slen (t := 2) (by omega) (ite_ti (by decide) (k0 i rfl M H)))
        | succ r ih => intro k M hk H
                       refine bX8_spellsB_2 (c_slen (t := 2) (by omega) (ite_fi (by show ¬ nI 4 ≤ nI k; rw [nI_leI (by omega) (by omega)]; omega) (c_schar (t := 2) (i := k) (by omega) (by show k < 4; omega) (w_must (d := d + 6) H (fun M' H' => ?_)))))
                       rw [nI_1]
                       exact ih (k + 1) M' (by omega) H'
      exact aux (4 - (k + 1)) (k + 1) M' (by omega) H'
theorem t_spellsB {i : Nat} {M : jM} {post : jM → Prop} (C : Pc M0 act n h) (H : Pm M0 act n M op i S b) (k1 : ∀ j, qWord h qBar i = .inr j → ∀ M', Pm M0 act n M' op j S b → post M') (k0 : ∀ e, qWord h qBar i = .inl e → ∀ M', Pw M0 act n M' e → post M') : CV G (d + 8) mX8_spells [.ref 117, .ref 3002] M post :=
  eX8_spellsB (bX8_spellsB_0 (t_spellsBl C qBar 0 i M post rfl (by omega) H k1 k0))
theorem amPs {i k c : Nat} {M : jM} {post : Int32 → jM → Prop} (C : Pc M0 act n h) (H : Pm M0 act n M op i S b) (hk : k < 4) (hc : (jSbyt.getD 3 []).getD k 0 = nI c) (c8 : c < 128) (k1 : h i = c → ∀ M', Pm M0 act n M' op (i + 1) S b → post (nI k) M') (k0 : h i ≠ c → kX8_amongP_2 G (d + 7) (nI (k + 1)) M post) : kX8_amongP_2 G (d + 7) (nI k) M post := by
  refine bX8_amongP_2 (c_slen (t := 3) (by omega) (ite_fi (by show ¬ nI 4 ≤ nI k; rw [nI_leI (by omega) (by omega)]; omega) (t_here C H.1 H.2.1 H.2.2.1 (c_schar (t := 3) (i := k) (by omega) hk ?_))))
  rw [hc, nI_1]
  refine ite_i (fun q => ?_) (fun q => ?_) <;> rw [hv_eq C c8] at q
  · have hi : i < n := Nat.not_le.mp fun z => by have := C.2.2.2.2.2 i z; omega
    exact k1 q _ (H.go (by rw [H.2.1]; exact nI_1 _) (by omega))
  · exact k0 q
theorem t_amongP {i : Nat} {M : jM} {post : Int32 → jM → Prop} (C : Pc M0 act n h) (H : Pm M0 act n M op i S b) (k1 : ∀ w, qWhich (h i) = some w → ∀ M', Pm M0 act n M' op (i + 1) S b → post (nI w) M') (k0 : qWhich (h i) = none → post (-1) M) : CI G (d + 8) mX8_among [.ref 117, .ref 3003] M post := by
  refine eX8_amongP (bX8_amongP_0 (amPs (k := 0) (c := 112) C H (by omega) (by decide) (by omega) (fun q0 M' H' => k1 0 ?_ M' H') (fun q0 => amPs (k := 1) (c := 107) C H (by omega) (by decide) (by omega) (fun q1 M' H' => k1 1 ?_ M' H') (fun q1 => amPs (k := 2) (c := 118) C H (by omega) (by decide) (by omega) (fun q2 M' H' => k1 2 ?_ M' H') (fun q2 => amPs (k := 3) (c := 100) C H (by omega) (by decide) (by omega) (fun q3 M' H' => k1 3 ?_ M' H') (fun q3 => bX8_amongP_2 (c_slen (t := 3) (by omega) (ite_ti (by decide) (k0 ?_)))))))))
  · unfold qWhich; rw [if_pos q0]
  · unfold qWhich; rw [if_neg q0, if_pos q1]
  · unfold qWhich; rw [if_neg q0, if_neg q1, if_pos q2]
  · unfold qWhich; rw [if_neg q0, if_neg q1, if_neg q2, if_pos q3]
  · unfold qWhich; rw [if_neg q0, if_neg q1, if_neg q2, if_neg q3]
theorem amLs {i k c : Nat} {M : jM} {post : Int32 → jM → Prop} (C : Pc M0 act n h) (H : Pm M0 act n M op i S b) (hk : k < 3) (hc : (jSbyt.getD 4 []).getD k 0 = nI c) (c8 : c < 128) (k1 : h i = c → ∀ M', Pm M0 act n M' op (i + 1) S b → post (nI k) M') (k0 : h i ≠ c → kX8_amongL_2 G (d + 7) (nI (k + 1)) M post) : kX8_amongL_2 G (d + 7) (nI k) M post := by
  refine bX8_amongL_2 (c_slen (t := 4) (by omega) (ite_fi (by show ¬ nI 3 ≤ nI k; rw [nI_leI (by omega) (by omega)]; omega) (t_here C H.1 H.2.1 H.2.2.1 (c_schar (t := 4) (i := k) (by omega) hk ?_))))
  rw [hc, nI_1]
  refine ite_i (fun q => ?_) (fun q => ?_) <;> rw [hv_eq C c8] at q
  · have hi : i < n := Nat.not_le.mp fun z => by have := C.2.2.2.2.2 i z; omega
    exact k1 q _ (H.go (by rw [H.2.1]; exact nI_1 _) (by omega))
  · exact k0 q
theorem t_amongL {i : Nat} {M : jM} {post : Int32 → jM → Prop} (C : Pc M0 act n h) (H : Pm M0 act n M op i S b) (k1 : ∀ w, qHow (h i) = some w → ∀ M', Pm M0 act n M' op (i + 1) S b → post (nI w) M') (k0 : qHow (h i) = none → post (-1) M) : CI G (d + 8) mX8_among [.ref 117, .ref 3004] M post := by
  refine eX8_amongL (bX8_amongL_0 (amLs (k := 0) (c := 60) C H (by omega) (by decide) (by omega) (fun q0 M' H' => k1 0 ?_ M' H') (fun q0 => amLs (k := 1) (c := 61) C H (by omega) (by decide) (by omega) (fun q1 M' H' => k1 1 ?_ M' H') (fun q1 => amLs (k := 2) (c := 62) C H (by omega) (by decide) (by omega) (fun q2 M' H' => k1 2 ?_ M' H') (fun q2 => bX8_amongL_2 (c_slen (t := 4) (by omega) (ite_ti (by decide) (k0 ?_))))))))
  · unfold qHow; rw [if_pos q0]
  · unfold qHow; rw [if_neg q0, if_pos q1]
  · unfold qHow; rw [if_neg q0, if_neg q1, if_pos q2]
  · unfold qHow; rw [if_neg q0, if_neg q1, if_neg q2]
/-- behind neither ! nor ( -/
theorem t_mtest {i : Nat} {M : jM} {x1 : Int32} {post : jM → Prop} (C : Pc M0 act n h) (H : Pm M0 act n M op i S b) (hS : S.length ≤ i) (k : ∀ M', Pp M0 act n (qTest h i) op S b M' → post M') : CI G (d + 8) mX8_among [.ref 117, .ref 3003] M (fun r2 M2 => (if r2 = (-1) then kX8_factor_130 G (d + 8) x1 r2 1 M2 post else kX8_factor_130 G (d + 8) x1 r2 0 M2 post)) := by
  have hn := C.1
  unfold qTest at k
  refine t_amongP C H (fun w q M1 H1 => ite_fi ?_ (bX8_factor_130 ⟨Or.inl rfl, ite_ti rfl ?_⟩)) (fun q => ite_ti rfl (bX8_factor_130 ⟨Or.inr rfl, ite_fi (by decide) ?_⟩))
  · have := (qWhich_lt q).1
    intro z
    exact nI_pos (by omega : w < 2 ^ 31) (by rw [z]; decide)
  · rw [q] at k
    have w4 := (qWhich_lt q).1
    have H2 := H1.z (z := 0) rfl
    refine t_amongL C H2 (fun o q' M3 H3 => bX8_factor_150 (ite_ti H3.2.2.2.1 (ite_fi ?_ (bX8_factor_169 ⟨Or.inl rfl, ?_⟩)))) (fun q' => bX8_factor_150 (ite_ti H2.2.2.2.1 (ite_ti rfl (bX8_factor_164 (bX8_factor_169 ⟨Or.inr rfl, ?_⟩)))))
    · have := (qHow_lt q').1
      intro z
      exact nI_pos (by omega : o < 2 ^ 31) (by rw [z]; decide)
    · dsimp only at k
      rw [q'] at k
      have o3 := (qHow_lt q').1
      refine t_figures (d := d + 7) C (H3.z rfl) (fun j v e M4 H4 => ?_) (fun e' e M4 H4 => ?_)
      · dsimp only at k
        rw [e] at k
        have hv := (qNum_ok C.2.2.2.2.2 e).2.2
        refine t_emits (q := .inl (w + 8 * o + 32 * v)) C H4 (by have := H.2.2.1; omega) ?_ (fun M5 H5 => k M5 H5)
        rw [show (8 : Int32) = nI 8 from rfl, show (32 : Int32) = nI 32 from rfl, pk_mul, pk_mul, nI_add, nI_add]
        rfl
      · dsimp only at k
        rw [e] at k
        exact w_emits H4 (fun M5 H5 => k M5 H5)
    · dsimp only at k
      rw [q'] at k
      exact w_figures (d := d + 7) (H2.w rfl) (fun M4 H4 => w_emits H4 (fun M5 H5 => k M5 H5))
  · rw [q] at k
    have H2 := H.w (z := 1) rfl
    exact bX8_factor_150 (ite_fi (by rw [H2.2.2.2]; decide) (bX8_factor_164 (bX8_factor_169 ⟨Or.inr rfl, w_figures (d := d + 7) (H2.w rfl) (fun M4 H4 => w_emits H4 (fun M5 H5 => k M5 H5))⟩)))
end PN
