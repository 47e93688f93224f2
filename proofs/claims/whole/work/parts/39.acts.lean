def hol (f a : Nat) : Nat := (([[0, 0, 0], [1, 0, 0], [0, 2, 0], [0, 0, 3], [1, 0, 4], [5, 2, 0], [0, 6, 3]] : List (List Nat)).getD f []).getD a 0
abbrev jRes : Type := Int32 × List Nat
def HfS (f : Nat) (i x : Int32) : jRes := if hol f 0 = 1 then (x * 3 + i, [11, 1]) else if hol f 0 = 5 then ((x + i) ^^^ i, [51, 1]) else (x + i, [1])
def W0S (kd : Nat) (i v x : Int32) : jRes := ((HfS kd i x).1 - v, 2 :: (HfS kd i x).2)
def WfS (kd : Nat) (i v x : Int32) : jRes := if hol kd 1 = 2 then (-(W0S kd i v x).1, 21 :: (W0S kd i v x).2) else if hol kd 1 = 6 then ((W0S kd i v x).1 + v, 61 :: (W0S kd i v x).2) else W0S kd i v x
def S0S (kd : Nat) (i v x : Int32) : jRes := ((WfS kd i v x).1 * 2, 3 :: (WfS kd i v x).2)
def SfS (kd : Nat) (i v x : Int32) : jRes := if hol kd 2 = 3 then ((S0S kd i v x).1 ^^^ 7, 31 :: (S0S kd i v x).2) else if hol kd 2 = 4 then ((S0S kd i v (x - 1)).1 + (HfS kd i 2).1, 41 :: ((S0S kd i v (x - 1)).2 ++ (HfS kd i 2).2)) else S0S kd i v x
def TC (M : jM) (L : List Nat) : Prop := M 115 1 = nI L.length ∧ ∀ k, k < L.length → M 116 k = nI (L.getD k 0)
def FrC (M M' : jM) : Prop := (∀ a, a ≠ 115 → a ≠ 116 → M' a = M a) ∧ ∀ k, k ≠ 1 → M' 115 k = M 115 k
theorem FrC.refl (M : jM) : FrC M M := ⟨fun _ _ _ => rfl, fun _ _ => rfl⟩
theorem FrC.trans {M M' M'' : jM} (h : FrC M M') (h' : FrC M' M'') : FrC M M'' := ⟨fun a h1 h2 => (h'.1 a h1 h2).trans (h.1 a h1 h2), fun k hk => (h'.2 k hk).trans (h.2 k hk)⟩
def TM (M : jM) (L : List Nat) : Prop := M 117 27 = nI L.length ∧ ∀ k, k < L.length → M 129 k = nI (L.getD k 0)
def FrT (M M' : jM) : Prop := (∀ a, a ≠ 117 → a ≠ 129 → M' a = M a) ∧ ∀ k, k ≠ 27 → M' 117 k = M 117 k
theorem FrT.refl (M : jM) : FrT M M := ⟨fun _ _ _ => rfl, fun _ _ => rfl⟩
theorem FrT.trans {M M' M'' : jM} (h : FrT M M') (h' : FrT M' M'') : FrT M M'' := ⟨fun a h1 h2 => (h'.1 a h1 h2).trans (h.1 a h1 h2), fun k hk => (h'.2 k hk).trans (h.2 k hk)⟩
theorem getD_snoc (L : List Nat) (b k : Nat) (hk : k < (L ++ [b]).length) : (k = L.length ∧ (L ++ [b]).getD k 0 = b) ∨ (k < L.length ∧ (L ++ [b]).getD k 0 = L.getD k 0) := by
  by_cases h : k < L.length
  · right
    refine ⟨h, ?_⟩
    rw [List.getD_eq_getElem?_getD, List.getD_eq_getElem?_getD, List.getElem?_append_left h]
  · left
    have e : k = L.length := by rw [List.length_append] at hk; simp at hk; omega
    subst e
    refine ⟨rfl, ?_⟩
    rw [List.getD_eq_getElem?_getD, List.getElem?_append_right (Nat.le_refl _)]
    simp
section AC
variable {G : jGT} {d : Nat} {M : jM}
theorem t_note {L : List Nat} {b : Nat} {post : jM → Prop} (hT : TC M L) (hL : L.length < 20) (hp : ∀ M', TC M' (L ++ [b]) → FrC M M' → post M') : CV G d mX1_note [.ref 115, .int (nI b)] M post := by
  refine eX1_note (bX1_note_0 ?_)
  simp (disch := omega) only [hT.1, jlit, nI_ltE, nI_leE, nI_eqE, vp_inT, nI_add, pk_mul, nI_subE, nI_clamp, if_pos, if_neg, true_and, and_true]
  refine hp _ ⟨?_, fun k hk => ?_⟩ ⟨fun a h1 h2 => by (simp (disch := omega) only [jup_ne]), fun k hk => by (simp (disch := omega) only [jup_ss, jup_sn, jup_n, jup_ne])⟩
  · (simp (disch := omega) only [jup_ss, jup_sn, jup_n, jup_ne]); rw [List.length_append]; rfl
  · rcases getD_snoc L b k hk with ⟨e1, e2⟩ | ⟨e1, e2⟩
    · rw [e2, e1]; (simp (disch := omega) only [jup_ss, jup_sn, jup_n, jup_ne])
    · rw [e2]; (simp (disch := omega) only [jup_ss, jup_sn, jup_n, jup_ne]); exact hT.2 k e1
theorem t_ranBody {L : List Nat} {b : Nat} {post : jM → Prop} (hT : TM M L) (hL : L.length < 20) (hp : ∀ M', TM M' (L ++ [b]) → FrT M M' → post M') : CV G d mX8_ranBody [.ref 117, .int (nI b)] M post := by
  refine eX8_ranBody (bX8_ranBody_0 ?_)
  simp (disch := omega) only [hT.1, jlit, nI_ltE, nI_leE, nI_eqE, vp_inT, nI_add, pk_mul, nI_subE, nI_clamp, if_pos, if_neg, true_and, and_true]
  refine hp _ ⟨?_, fun k hk => ?_⟩ ⟨fun a h1 h2 => by (simp (disch := omega) only [jup_ne]), fun k hk => by (simp (disch := omega) only [jup_ss, jup_sn, jup_n, jup_ne])⟩
  · (simp (disch := omega) only [jup_ss, jup_sn, jup_n, jup_ne]); rw [List.length_append]; rfl
  · rcases getD_snoc L b k hk with ⟨e1, e2⟩ | ⟨e1, e2⟩
    · rw [e2, e1]; (simp (disch := omega) only [jup_ss, jup_sn, jup_n, jup_ne])
    · rw [e2]; (simp (disch := omega) only [jup_ss, jup_sn, jup_n, jup_ne]); exact hT.2 k e1
theorem t_holHit {f a c s : Nat} {post : Int32 → jM → Prop} (hc : c < 7) (ha : a < 3) (hs : s < 7) (hb : ¬ jBODIES (c * 3 + a) = 0) (hp : post (nI c) M) : kX1_holderFrom_15 G d (nI f) (nI a) (nI c) (nI s) M post := by
  refine bX1_holderFrom_15 ?_
  rw [if_neg (by rw [show (7 : Int32) = nI 7 from rfl, nI_leE (by omega) (by omega)]; omega), if_neg (nI_pos (by omega)), if_neg (by rw [show (7 : Int32) = nI 7 from rfl, nI_leE (by omega) (by omega)]; omega)]
  rw [show (nI c * 3 + nI a) = nI (c * 3 + a) by rw [show (3 : Int32) = nI 3 from rfl, pk_mul, nI_add], nI_clamp (by omega)]
  exact ⟨vp_in_nI (by omega) (by omega), ite_fi hb hp⟩
theorem t_holStep {f a c c' s : Nat} {post : Int32 → jM → Prop} (hc : c < 7) (ha : a < 3) (hs : s < 7) (hb : jBODIES (c * 3 + a) = 0) (hA : jABOVE c = nI c') (h : kX1_holderFrom_15 G d (nI f) (nI a) (nI c') (nI (s + 1)) M post) : kX1_holderFrom_15 G d (nI f) (nI a) (nI c) (nI s) M post := by
  refine bX1_holderFrom_15 ?_
  rw [if_neg (by rw [show (7 : Int32) = nI 7 from rfl, nI_leE (by omega) (by omega)]; omega), if_neg (nI_pos (by omega)), if_neg (by rw [show (7 : Int32) = nI 7 from rfl, nI_leE (by omega) (by omega)]; omega)]
  rw [show (nI c * 3 + nI a) = nI (c * 3 + a) by rw [show (3 : Int32) = nI 3 from rfl, pk_mul, nI_add], nI_clamp (by omega), nI_clamp (by omega), hA]
  exact ⟨vp_in_nI (by omega) (by omega), ite_ti hb ⟨vp_in_nI (by omega) (by omega), by rw [show nI s + 1 = nI (s + 1) from nI_1 s]; exact h⟩⟩
theorem t_holderFrom {f a : Nat} {post : Int32 → jM → Prop} (hf : f < 7) (ha : a < 3) (hp : post (nI (hol f a)) M) : CI G d mX1_holderFrom [.int (nI f), .int (nI a)] M post := by
  refine eX1_holderFrom (bX1_holderFrom_0 ?_)
  rw [if_neg (nI_pos (by omega)), if_pos (by rw [show (3 : Int32) = nI 3 from rfl, nI_ltE (by omega) (by omega)]; omega)]
  have hit : ∀ (c s : Nat), c < 7 → s < 7 → hol f a = c → ¬ jBODIES (c * 3 + a) = 0 → kX1_holderFrom_15 G d (nI f) (nI a) (nI c) (nI s) M post := fun c s h1 h2 h3 h4 => t_holHit h1 ha h2 h4 (h3 ▸ hp)
  show kX1_holderFrom_15 G d (nI f) (nI a) (nI f) (nI 0) M post
  rcases (show a = 0 ∨ a = 1 ∨ a = 2 by omega) with rfl | rfl | rfl <;> rcases (show f = 0 ∨ f = 1 ∨ f = 2 ∨ f = 3 ∨ f = 4 ∨ f = 5 ∨ f = 6 by omega) with rfl | rfl | rfl | rfl | rfl | rfl | rfl <;> first
    | exact hit _ _ (by omega) (by omega) (by decide) (by decide)
    | exact t_holStep (c' := 0) (by omega) (by omega) (by omega) (by decide) (by decide) (hit _ _ (by omega) (by omega) (by decide) (by decide))
    | exact t_holStep (c' := 1) (by omega) (by omega) (by omega) (by decide) (by decide) (hit _ _ (by omega) (by omega) (by decide) (by decide))
    | exact t_holStep (c' := 2) (by omega) (by omega) (by omega) (by decide) (by decide) (hit _ _ (by omega) (by omega) (by decide) (by decide))
    | exact t_holStep (c' := 3) (by omega) (by omega) (by omega) (by decide) (by decide) (hit _ _ (by omega) (by omega) (by decide) (by decide))
    | exact t_holStep (c' := 1) (by omega) (by omega) (by omega) (by decide) (by decide) (t_holStep (c' := 0) (by omega) (by omega) (by omega) (by decide) (by decide) (hit _ _ (by omega) (by omega) (by decide) (by decide)))
    | exact t_holStep (c' := 2) (by omega) (by omega) (by omega) (by decide) (by decide) (t_holStep (c' := 0) (by omega) (by omega) (by omega) (by decide) (by decide) (hit _ _ (by omega) (by omega) (by decide) (by decide)))
    | exact t_holStep (c' := 3) (by omega) (by omega) (by omega) (by decide) (by decide) (t_holStep (c' := 0) (by omega) (by omega) (by omega) (by decide) (by decide) (hit _ _ (by omega) (by omega) (by decide) (by decide)))
/-- what a run of an act begins with: its holder's body is noted; then what is left to show -/
theorem t_runB {f a p b : Nat} {x : Int32} {L : List Nat} {post : Int32 → jM → Prop} (hf : f < 7) (ha : a < 3) (hp : p ≤ 30) (hb : jBODIES (hol f a * 3 + a) = nI b) (hb9 : b < 100) (hT : TC M L) (hL : L.length < 20)
    (h : ∀ M', TC M' (L ++ [b]) → FrC M M' →
      (if nI b = 1 then post (x + M' 115 2) M' else if nI b = 2 then CI G d mX1_run [.ref 115, .int (M' 115 3), .int 0, .int x, .int (nI (p + 1))] M' (fun r M3 => post (r - M3 115 4) M3)
      else if nI b = 3 then CI G d mX1_run [.ref 115, .int (M' 115 3), .int 1, .int x, .int (nI (p + 1))] M' (fun r M3 => post (r * 2) M3)
      else if nI b = 11 then CI G d mX1_run [.ref 115, .int (jABOVE (hol f a)), .int 0, .int (x * 3), .int (nI (p + 1))] M' (fun r M3 => post r M3)
      else if nI b = 21 then CI G d mX1_run [.ref 115, .int (jABOVE (hol f a)), .int 1, .int x, .int (nI (p + 1))] M' (fun r M3 => post (-r) M3)
      else if nI b = 31 then CI G d mX1_run [.ref 115, .int (jABOVE (hol f a)), .int 2, .int x, .int (nI (p + 1))] M' (fun r M3 => post (r ^^^ 7) M3)
      else if nI b = 41 then CI G d mX1_run [.ref 115, .int (jABOVE (hol f a)), .int 2, .int (x - 1), .int (nI (p + 1))] M' (fun r M3 => CI G d mX1_run [.ref 115, .int (M3 115 3), .int 0, .int 2, .int (nI (p + 1))] M3 (fun r' M4 => post (r + r') M4))
      else if nI b = 51 then CI G d mX1_run [.ref 115, .int (jABOVE (hol f a)), .int 0, .int x, .int (nI (p + 1))] M' (fun r M3 => post (r ^^^ M3 115 2) M3)
      else CI G d mX1_run [.ref 115, .int (jABOVE (hol f a)), .int 1, .int x, .int (nI (p + 1))] M' (fun r M3 => post (r + M3 115 4) M3))) : CI G (d + 1) mX1_run [.ref 115, .int (nI f), .int (nI a), .int x, .int (nI p)] M post := by
  have hh : hol f a < 7 := by
    have : ∀ f, f < 7 → ∀ a, a < 3 → hol f a < 7 := by decide
    exact this f hf a ha
  refine eX1_run (bX1_run_0 (t_holderFrom hf ha ?_))
  rw [if_neg (nI_pos (by omega)), if_pos (by rw [show (30 : Int32) = nI 30 from rfl, nI_leE (by omega) (by omega)]; omega)]
  rw [show (nI (hol f a) * 3 + nI a) = nI (hol f a * 3 + a) by rw [show (3 : Int32) = nI 3 from rfl, pk_mul, nI_add], nI_clamp (by omega), nI_clamp (by omega), hb, show nI p + 1 = nI (p + 1) from nI_1 p]
  exact ⟨vp_in_nI (by omega) (by omega), vp_in_nI (by omega) (by omega), t_note hT hL (fun M' h1 h2 => h M' h1 h2)⟩
theorem c_run1 {f p : Nat} {x : Int32} {L : List Nat} {post : Int32 → jM → Prop} (hf : f < 7) (hh : hol f 0 = 0) (hp : p ≤ 30) (hT : TC M L) (hL : L.length < 20) (h : ∀ M', TC M' (L ++ [1]) → FrC M M' → post (x + M 115 2) M') : CI G (d + 1) mX1_run [.ref 115, .int (nI f), .int 0, .int x, .int (nI p)] M post := by
  refine t_runB (a := 0) (b := 1) hf (by omega) hp (by rw [hh]; decide) (by omega) hT hL (fun M' h1 h2 => ite_ti rfl ?_)
  rw [h2.2 2 (by omega)]
  exact h M' h1 h2
/-- hears, from kind f on -/
theorem c_runH {f p : Nat} {x : Int32} {L : List Nat} {post : Int32 → jM → Prop} (hf : f < 7) (hp : p ≤ 29) (hT : TC M L) (hL : L.length < 18) (h : ∀ M', TC M' (L ++ (HfS f (M 115 2) x).2) → FrC M M' → post (HfS f (M 115 2) x).1 M') : CI G (d + 2) mX1_run [.ref 115, .int (nI f), .int 0, .int x, .int (nI p)] M post := by
  rcases (show hol f 0 = 0 ∨ hol f 0 = 1 ∨ hol f 0 = 5 by have : ∀ f, f < 7 → (hol f 0 = 0 ∨ hol f 0 = 1 ∨ hol f 0 = 5) := by decide
                                                          exact this f hf) with e | e | e
  · have e1 : HfS f (M 115 2) x = (x + M 115 2, [1]) := by unfold HfS; rw [e]; rfl
    rw [e1] at h
    exact c_run1 hf e (by omega) hT (by omega) h
  · have e1 : HfS f (M 115 2) x = (x * 3 + M 115 2, [11, 1]) := by unfold HfS; rw [e]; rfl
    rw [e1] at h
    refine t_runB (a := 0) (b := 11) hf (by omega) (by omega) (by rw [e]; decide) (by omega) hT (by omega) (fun M' h1 h2 => ite_fi (by decide) (ite_fi (by decide) (ite_fi (by decide) (ite_ti rfl ?_))))
    rw [e]
    refine c_run1 (f := 0) (by omega) (by decide) (by omega) h1 (by simp; omega) (fun M'' h3 h4 => ?_)
    rw [h2.2 2 (by omega)]
    exact h M'' (by simpa using h3) (h2.trans h4)
  · have e1 : HfS f (M 115 2) x = ((x + M 115 2) ^^^ M 115 2, [51, 1]) := by unfold HfS; rw [e]; rfl
    rw [e1] at h
    refine t_runB (a := 0) (b := 51) hf (by omega) (by omega) (by rw [e]; decide) (by omega) hT (by omega) (fun M' h1 h2 => ite_fi (by decide) (ite_fi (by decide) (ite_fi (by decide) (ite_fi (by decide) (ite_fi (by decide) (ite_fi (by decide) (ite_fi (by decide) (ite_ti rfl ?_))))))))
    rw [e]
    refine c_run1 (f := 2) (by omega) (by decide) (by omega) h1 (by simp; omega) (fun M'' h3 h4 => ?_)
    rw [h4.2 2 (by omega), h2.2 2 (by omega)]
    exact h M'' (by simpa using h3) (h2.trans h4)
theorem HfS_len (f : Nat) (i x : Int32) : (HfS f i x).2.length ≤ 2 := by
  unfold HfS; repeat' split
  all_goals simp
theorem c_run2 {f kd p : Nat} {x : Int32} {L : List Nat} {post : Int32 → jM → Prop} (hf : f < 7) (hkd : kd < 7) (hk : M 115 3 = nI kd) (hh : hol f 1 = 0) (hp : p ≤ 28) (hT : TC M L) (hL : L.length < 16) (h : ∀ M', TC M' (L ++ (W0S kd (M 115 2) (M 115 4) x).2) → FrC M M' → post (W0S kd (M 115 2) (M 115 4) x).1 M') : CI G (d + 3) mX1_run [.ref 115, .int (nI f), .int 1, .int x, .int (nI p)] M post := by
  refine t_runB (a := 1) (b := 2) hf (by omega) (by omega) (by rw [hh]; decide) (by omega) hT (by omega) (fun M' h1 h2 => ite_fi (by decide) (ite_ti rfl ?_))
  rw [h2.2 3 (by omega), hk]
  refine c_runH hkd (by omega) h1 (by simp; omega) (fun M'' h3 h4 => ?_)
  rw [h2.2 2 (by omega)] at h3 ⊢
  rw [h4.2 4 (by omega), h2.2 4 (by omega)]
  exact h M'' (by simpa [W0S] using h3) (h2.trans h4)
theorem W0S_len (f : Nat) (i v x : Int32) : (W0S f i v x).2.length ≤ 3 := by unfold W0S; have := HfS_len f i x; simp; omega
theorem c_runW {kd p : Nat} {x : Int32} {L : List Nat} {post : Int32 → jM → Prop} (hkd : kd < 7) (hk : M 115 3 = nI kd) (hp : p ≤ 27) (hT : TC M L) (hL : L.length < 15) (h : ∀ M', TC M' (L ++ (WfS kd (M 115 2) (M 115 4) x).2) → FrC M M' → post (WfS kd (M 115 2) (M 115 4) x).1 M') : CI G (d + 4) mX1_run [.ref 115, .int (nI kd), .int 1, .int x, .int (nI p)] M post := by
  rcases (show hol kd 1 = 0 ∨ hol kd 1 = 2 ∨ hol kd 1 = 6 by have : ∀ f, f < 7 → (hol f 1 = 0 ∨ hol f 1 = 2 ∨ hol f 1 = 6) := by decide
                                                             exact this kd hkd) with e | e | e
  · have e1 : WfS kd (M 115 2) (M 115 4) x = W0S kd (M 115 2) (M 115 4) x := by unfold WfS; rw [e]; rfl
    rw [e1] at h
    exact c_run2 hkd hkd hk e (by omega) hT (by omega) h
  · have e1 : WfS kd (M 115 2) (M 115 4) x = (-(W0S kd (M 115 2) (M 115 4) x).1, 21 :: (W0S kd (M 115 2) (M 115 4) x).2) := by unfold WfS; rw [e]; rfl
    rw [e1] at h
    refine t_runB (a := 1) (b := 21) hkd (by omega) (by omega) (by rw [e]; decide) (by omega) hT (by omega) (fun M' h1 h2 => ite_fi (by decide) (ite_fi (by decide) (ite_fi (by decide) (ite_fi (by decide) (ite_ti rfl ?_)))))
    rw [e]
    refine c_run2 (f := 0) (by omega) hkd (by rw [h2.2 3 (by omega)]; exact hk) (by decide) (by omega) h1 (by simp; omega) (fun M'' h3 h4 => ?_)
    rw [h2.2 2 (by omega), h2.2 4 (by omega)] at h3 ⊢
    exact h M'' (by simpa using h3) (h2.trans h4)
  · have e1 : WfS kd (M 115 2) (M 115 4) x = ((W0S kd (M 115 2) (M 115 4) x).1 + M 115 4, 61 :: (W0S kd (M 115 2) (M 115 4) x).2) := by unfold WfS; rw [e]; rfl
    rw [e1] at h
    refine t_runB (a := 1) (b := 61) hkd (by omega) (by omega) (by rw [e]; decide) (by omega) hT (by omega) (fun M' h1 h2 => ite_fi (by decide) (ite_fi (by decide) (ite_fi (by decide) (ite_fi (by decide) (ite_fi (by decide) (ite_fi (by decide) (ite_fi (by decide) (ite_fi (by decide) ?_))))))))
    rw [e]
    refine c_run2 (f := 3) (by omega) hkd (by rw [h2.2 3 (by omega)]; exact hk) (by decide) (by omega) h1 (by simp; omega) (fun M'' h3 h4 => ?_)
    rw [h2.2 2 (by omega), h2.2 4 (by omega)] at h3 ⊢
    rw [h4.2 4 (by omega), h2.2 4 (by omega)]
    exact h M'' (by simpa using h3) (h2.trans h4)
theorem WfS_len (f : Nat) (i v x : Int32) : (WfS f i v x).2.length ≤ 4 := by
  have := W0S_len f i v x
  unfold WfS; repeat' split
  all_goals (simp; omega)
theorem c_run3 {f kd p : Nat} {x : Int32} {L : List Nat} {post : Int32 → jM → Prop} (hf : f < 7) (hkd : kd < 7) (hk : M 115 3 = nI kd) (hh : hol f 2 = 0) (hp : p ≤ 26) (hT : TC M L) (hL : L.length < 10) (h : ∀ M', TC M' (L ++ (S0S kd (M 115 2) (M 115 4) x).2) → FrC M M' → post (S0S kd (M 115 2) (M 115 4) x).1 M') : CI G (d + 5) mX1_run [.ref 115, .int (nI f), .int 2, .int x, .int (nI p)] M post := by
  refine t_runB (a := 2) (b := 3) hf (by omega) (by omega) (by rw [hh]; decide) (by omega) hT (by omega) (fun M' h1 h2 => ite_fi (by decide) (ite_fi (by decide) (ite_ti rfl ?_)))
  rw [h2.2 3 (by omega), hk]
  refine c_runW hkd (by rw [h2.2 3 (by omega)]; exact hk) (by omega) h1 (by simp; omega) (fun M'' h3 h4 => ?_)
  rw [h2.2 2 (by omega), h2.2 4 (by omega)] at h3 ⊢
  exact h M'' (by simpa [S0S] using h3) (h2.trans h4)
theorem S0S_len (f : Nat) (i v x : Int32) : (S0S f i v x).2.length ≤ 5 := by unfold S0S; have := WfS_len f i v x; simp; omega
theorem c_runS {kd p : Nat} {x : Int32} {L : List Nat} {post : Int32 → jM → Prop} (hkd : kd < 7) (hk : M 115 3 = nI kd) (hp : p ≤ 25) (hT : TC M L) (hL : L.length < 8) (h : ∀ M', TC M' (L ++ (SfS kd (M 115 2) (M 115 4) x).2) → FrC M M' → post (SfS kd (M 115 2) (M 115 4) x).1 M') : CI G (d + 6) mX1_run [.ref 115, .int (nI kd), .int 2, .int x, .int (nI p)] M post := by
  rcases (show hol kd 2 = 0 ∨ hol kd 2 = 3 ∨ hol kd 2 = 4 by have : ∀ f, f < 7 → (hol f 2 = 0 ∨ hol f 2 = 3 ∨ hol f 2 = 4) := by decide
                                                             exact this kd hkd) with e | e | e
  · have e1 : SfS kd (M 115 2) (M 115 4) x = S0S kd (M 115 2) (M 115 4) x := by unfold SfS; rw [e]; rfl
    rw [e1] at h
    exact c_run3 hkd hkd hk e (by omega) hT (by omega) h
  · have e1 : SfS kd (M 115 2) (M 115 4) x = ((S0S kd (M 115 2) (M 115 4) x).1 ^^^ 7, 31 :: (S0S kd (M 115 2) (M 115 4) x).2) := by unfold SfS; rw [e]; rfl
    rw [e1] at h
    refine t_runB (a := 2) (b := 31) hkd (by omega) (by omega) (by rw [e]; decide) (by omega) hT (by omega) (fun M' h1 h2 => ite_fi (by decide) (ite_fi (by decide) (ite_fi (by decide) (ite_fi (by decide) (ite_fi (by decide) (ite_ti rfl ?_))))))
    rw [e]
    refine c_run3 (f := 0) (by omega) hkd (by rw [h2.2 3 (by omega)]; exact hk) (by decide) (by omega) h1 (by simp; omega) (fun M'' h3 h4 => ?_)
    rw [h2.2 2 (by omega), h2.2 4 (by omega)] at h3 ⊢
    exact h M'' (by simpa using h3) (h2.trans h4)
  · have e1 : SfS kd (M 115 2) (M 115 4) x = ((S0S kd (M 115 2) (M 115 4) (x - 1)).1 + (HfS kd (M 115 2) 2).1, 41 :: ((S0S kd (M 115 2) (M 115 4) (x - 1)).2 ++ (HfS kd (M 115 2) 2).2)) := by unfold SfS; rw [e]; rfl
    rw [e1] at h
    refine t_runB (a := 2) (b := 41) hkd (by omega) (by omega) (by rw [e]; decide) (by omega) hT (by omega) (fun M' h1 h2 => ite_fi (by decide) (ite_fi (by decide) (ite_fi (by decide) (ite_fi (by decide) (ite_fi (by decide) (ite_fi (by decide) (ite_ti rfl ?_)))))))
    rw [e]
    refine c_run3 (f := 1) (by omega) hkd (by rw [h2.2 3 (by omega)]; exact hk) (by decide) (by omega) h1 (by simp; omega) (fun M'' h3 h4 => ?_)
    rw [h4.2 3 (by omega), h2.2 3 (by omega), hk]
    have hl := S0S_len kd (M' 115 2) (M' 115 4) (x - 1)
    refine c_runH hkd (by omega) h3 (by simp; omega) (fun M3 h5 h6 => ?_)
    rw [h2.2 2 (by omega), h2.2 4 (by omega)] at h3 ⊢
    rw [h4.2 2 (by omega), h2.2 2 (by omega), h2.2 4 (by omega)] at h5
    rw [h4.2 2 (by omega), h2.2 2 (by omega)]
    exact h M3 (by simpa using h5) ((h2.trans h4).trans h6)
/-! the model's -/
theorem m_plainHears {x : Int32} {L : List Nat} {post : Int32 → jM → Prop} (hT : TM M L) (hL : L.length < 20) (h : ∀ M', TM M' (L ++ [1]) → FrT M M' → post (x + M 117 29) M') : CI G (d + 1) mX8_plainHears [.ref 117, .int x] M post := by
  refine eX8_plainHears (bX8_plainHears_0 (t_ranBody (b := 1) hT hL (fun M' h1 h2 => ?_)))
  rw [h2.2 29 (by omega)]
  exact h M' h1 h2
theorem m_hears {kd : Nat} {x : Int32} {L : List Nat} {post : Int32 → jM → Prop} (hkd : kd < 7) (hk : M 117 28 = nI kd) (hT : TM M L) (hL : L.length < 18) (h : ∀ M', TM M' (L ++ (HfS kd (M 117 29) x).2) → FrT M M' → post (HfS kd (M 117 29) x).1 M') : CI G (d + 2) mX8_hearsActs [.ref 117, .int x] M post := by
  refine eX8_hearsActs (bX8_hearsActs_0 ?_)
  rw [hk]
  rcases (show hol kd 0 = 0 ∨ hol kd 0 = 1 ∨ hol kd 0 = 5 by have : ∀ f, f < 7 → (hol f 0 = 0 ∨ hol f 0 = 1 ∨ hol f 0 = 5) := by decide
                                                             exact this kd hkd) with e | e | e
  · have e1 : HfS kd (M 117 29) x = (x + M 117 29, [1]) := by unfold HfS; rw [e]; rfl
    rw [e1] at h
    have hu : ¬ jund kd 1 ∧ ¬ kd = 5 := by
      have : ∀ f, f < 7 → hol f 0 = 0 → (f ≠ 1 ∧ f ≠ 4 ∧ f ≠ 5) := by decide
      have := this kd hkd e
      unfold jund; omega
    refine t_isUnder_n (j := 1) (by omega) hkd hu.1 (ite_ti rfl (ite_fi ?_ (m_plainHears hT (by omega) h)))
    rw [hk, show (5 : Int32) = nI 5 from rfl, nI_eqE (by omega) (by omega)]; exact hu.2
  · have e1 : HfS kd (M 117 29) x = (x * 3 + M 117 29, [11, 1]) := by unfold HfS; rw [e]; rfl
    rw [e1] at h
    have hu : jund kd 1 := by
      have : ∀ f, f < 7 → hol f 0 = 1 → (f = 1 ∨ f = 4) := by decide
      have := this kd hkd e
      unfold jund; omega
    refine t_isUnder_y (j := 1) (by omega) hkd hu (ite_fi (by decide) (t_ranBody (b := 11) hT (by omega) (fun M' h1 h2 => ?_)))
    refine m_plainHears h1 (by simp; omega) (fun M'' h3 h4 => ?_)
    rw [h2.2 29 (by omega)]
    exact h M'' (by simpa using h3) (h2.trans h4)
  · have e1 : HfS kd (M 117 29) x = ((x + M 117 29) ^^^ M 117 29, [51, 1]) := by unfold HfS; rw [e]; rfl
    rw [e1] at h
    have hu : kd = 5 := by
      have : ∀ f, f < 7 → hol f 0 = 5 → f = 5 := by decide
      exact this kd hkd e
    subst hu
    refine t_isUnder_n (j := 1) (by omega) (by omega) (by unfold jund; omega) (ite_ti rfl (ite_ti hk (t_ranBody (b := 51) hT (by omega) (fun M' h1 h2 => ?_))))
    refine m_plainHears h1 (by simp; omega) (fun M'' h3 h4 => ?_)
    rw [h4.2 29 (by omega), h2.2 29 (by omega)]
    exact h M'' (by simpa using h3) (h2.trans h4)
theorem m_plainWeighs {kd : Nat} {x : Int32} {L : List Nat} {post : Int32 → jM → Prop} (hkd : kd < 7) (hk : M 117 28 = nI kd) (hT : TM M L) (hL : L.length < 16) (h : ∀ M', TM M' (L ++ (W0S kd (M 117 29) (M 117 30) x).2) → FrT M M' → post (W0S kd (M 117 29) (M 117 30) x).1 M') : CI G (d + 3) mX8_plainWeighs [.ref 117, .int x] M post := by
  refine eX8_plainWeighs (bX8_plainWeighs_0 (t_ranBody (b := 2) hT (by omega) (fun M' h1 h2 => ?_)))
  refine m_hears hkd (by rw [h2.2 28 (by omega)]; exact hk) h1 (by simp; omega) (fun M'' h3 h4 => ?_)
  rw [h2.2 29 (by omega)] at h3 ⊢
  rw [h4.2 30 (by omega), h2.2 30 (by omega)]
  exact h M'' (by simpa [W0S] using h3) (h2.trans h4)
theorem m_weighs {kd : Nat} {x : Int32} {L : List Nat} {post : Int32 → jM → Prop} (hkd : kd < 7) (hk : M 117 28 = nI kd) (hT : TM M L) (hL : L.length < 15) (h : ∀ M', TM M' (L ++ (WfS kd (M 117 29) (M 117 30) x).2) → FrT M M' → post (WfS kd (M 117 29) (M 117 30) x).1 M') : CI G (d + 4) mX8_weighsActs [.ref 117, .int x] M post := by
  refine eX8_weighsActs (bX8_weighsActs_0 ?_)
  rw [hk]
  rcases (show hol kd 1 = 0 ∨ hol kd 1 = 2 ∨ hol kd 1 = 6 by have : ∀ f, f < 7 → (hol f 1 = 0 ∨ hol f 1 = 2 ∨ hol f 1 = 6) := by decide
                                                             exact this kd hkd) with e | e | e
  · have e1 : WfS kd (M 117 29) (M 117 30) x = W0S kd (M 117 29) (M 117 30) x := by unfold WfS; rw [e]; rfl
    rw [e1] at h
    have hu : ¬ jund kd 2 ∧ ¬ kd = 6 := by
      have : ∀ f, f < 7 → hol f 1 = 0 → (f ≠ 2 ∧ f ≠ 5 ∧ f ≠ 6) := by decide
      have := this kd hkd e
      unfold jund; omega
    refine t_isUnder_n (j := 2) (by omega) hkd hu.1 (ite_ti rfl (ite_fi ?_ (m_plainWeighs hkd hk hT (by omega) h)))
    rw [hk, show (6 : Int32) = nI 6 from rfl, nI_eqE (by omega) (by omega)]; exact hu.2
  · have e1 : WfS kd (M 117 29) (M 117 30) x = (-(W0S kd (M 117 29) (M 117 30) x).1, 21 :: (W0S kd (M 117 29) (M 117 30) x).2) := by unfold WfS; rw [e]; rfl
    rw [e1] at h
    have hu : jund kd 2 := by
      have : ∀ f, f < 7 → hol f 1 = 2 → (f = 2 ∨ f = 5) := by decide
      have := this kd hkd e
      unfold jund; omega
    refine t_isUnder_y (j := 2) (by omega) hkd hu (ite_fi (by decide) (t_ranBody (b := 21) hT (by omega) (fun M' h1 h2 => ?_)))
    refine m_plainWeighs hkd (by rw [h2.2 28 (by omega)]; exact hk) h1 (by simp; omega) (fun M'' h3 h4 => ?_)
    rw [h2.2 29 (by omega), h2.2 30 (by omega)] at h3 ⊢
    exact h M'' (by simpa using h3) (h2.trans h4)
  · have e1 : WfS kd (M 117 29) (M 117 30) x = ((W0S kd (M 117 29) (M 117 30) x).1 + M 117 30, 61 :: (W0S kd (M 117 29) (M 117 30) x).2) := by unfold WfS; rw [e]; rfl
    rw [e1] at h
    have hu : kd = 6 := by
      have : ∀ f, f < 7 → hol f 1 = 6 → f = 6 := by decide
      exact this kd hkd e
    subst hu
    refine t_isUnder_n (j := 2) (by omega) (by omega) (by unfold jund; omega) (ite_ti rfl (ite_ti hk (t_ranBody (b := 61) hT (by omega) (fun M' h1 h2 => ?_))))
    refine m_plainWeighs (kd := 6) (by omega) (by rw [h2.2 28 (by omega)]; exact hk) h1 (by simp; omega) (fun M'' h3 h4 => ?_)
    rw [h2.2 29 (by omega), h2.2 30 (by omega)] at h3 ⊢
    rw [h4.2 30 (by omega), h2.2 30 (by omega)]
    exact h M'' (by simpa using h3) (h2.trans h4)
theorem m_plainSays {kd : Nat} {x : Int32} {L : List Nat} {post : Int32 → jM → Prop} (hkd : kd < 7) (hk : M 117 28 = nI kd) (hT : TM M L) (hL : L.length < 10) (h : ∀ M', TM M' (L ++ (S0S kd (M 117 29) (M 117 30) x).2) → FrT M M' → post (S0S kd (M 117 29) (M 117 30) x).1 M') : CI G (d + 5) mX8_plainSays [.ref 117, .int x] M post := by
  refine eX8_plainSays (bX8_plainSays_0 (t_ranBody (b := 3) hT (by omega) (fun M' h1 h2 => ?_)))
  refine m_weighs hkd (by rw [h2.2 28 (by omega)]; exact hk) h1 (by simp; omega) (fun M'' h3 h4 => ?_)
  rw [h2.2 29 (by omega), h2.2 30 (by omega)] at h3 ⊢
  exact h M'' (by simpa [S0S] using h3) (h2.trans h4)
theorem m_says {kd : Nat} {x : Int32} {L : List Nat} {post : Int32 → jM → Prop} (hkd : kd < 7) (hk : M 117 28 = nI kd) (hT : TM M L) (hL : L.length < 8) (h : ∀ M', TM M' (L ++ (SfS kd (M 117 29) (M 117 30) x).2) → FrT M M' → post (SfS kd (M 117 29) (M 117 30) x).1 M') : CI G (d + 6) mX8_saysActs [.ref 117, .int x] M post := by
  refine eX8_saysActs (bX8_saysActs_0 ?_)
  rw [hk]
  rcases (show hol kd 2 = 0 ∨ hol kd 2 = 3 ∨ hol kd 2 = 4 by have : ∀ f, f < 7 → (hol f 2 = 0 ∨ hol f 2 = 3 ∨ hol f 2 = 4) := by decide
                                                             exact this kd hkd) with e | e | e
  · have e1 : SfS kd (M 117 29) (M 117 30) x = S0S kd (M 117 29) (M 117 30) x := by unfold SfS; rw [e]; rfl
    rw [e1] at h
    have hu : ¬ jund kd 3 ∧ ¬ kd = 4 := by
      have : ∀ f, f < 7 → hol f 2 = 0 → (f ≠ 3 ∧ f ≠ 6 ∧ f ≠ 4) := by decide
      have := this kd hkd e
      unfold jund; omega
    refine t_isUnder_n (j := 3) (by omega) hkd hu.1 (ite_ti rfl (ite_fi ?_ (m_plainSays hkd hk hT (by omega) h)))
    rw [hk, show (4 : Int32) = nI 4 from rfl, nI_eqE (by omega) (by omega)]; exact hu.2
  · have e1 : SfS kd (M 117 29) (M 117 30) x = ((S0S kd (M 117 29) (M 117 30) x).1 ^^^ 7, 31 :: (S0S kd (M 117 29) (M 117 30) x).2) := by unfold SfS; rw [e]; rfl
    rw [e1] at h
    have hu : jund kd 3 := by
      have : ∀ f, f < 7 → hol f 2 = 3 → (f = 3 ∨ f = 6) := by decide
      have := this kd hkd e
      unfold jund; omega
    refine t_isUnder_y (j := 3) (by omega) hkd hu (ite_fi (by decide) (t_ranBody (b := 31) hT (by omega) (fun M' h1 h2 => ?_)))
    refine m_plainSays hkd (by rw [h2.2 28 (by omega)]; exact hk) h1 (by simp; omega) (fun M'' h3 h4 => ?_)
    rw [h2.2 29 (by omega), h2.2 30 (by omega)] at h3 ⊢
    exact h M'' (by simpa using h3) (h2.trans h4)
  · have e1 : SfS kd (M 117 29) (M 117 30) x = ((S0S kd (M 117 29) (M 117 30) (x - 1)).1 + (HfS kd (M 117 29) 2).1, 41 :: ((S0S kd (M 117 29) (M 117 30) (x - 1)).2 ++ (HfS kd (M 117 29) 2).2)) := by unfold SfS; rw [e]; rfl
    rw [e1] at h
    have hu : kd = 4 := by
      have : ∀ f, f < 7 → hol f 2 = 4 → f = 4 := by decide
      exact this kd hkd e
    subst hu
    refine t_isUnder_n (j := 3) (by omega) (by omega) (by unfold jund; omega) (ite_ti rfl (ite_ti hk (t_ranBody (b := 41) hT (by omega) (fun M' h1 h2 => ?_))))
    refine m_plainSays (kd := 4) (by omega) (by rw [h2.2 28 (by omega)]; exact hk) h1 (by simp; omega) (fun M'' h3 h4 => ?_)
    have hl := S0S_len 4 (M' 117 29) (M' 117 30) (x - 1)
    refine m_hears (kd := 4) (by omega) (by rw [h4.2 28 (by omega), h2.2 28 (by omega)]; exact hk) h3 (by simp; omega) (fun M3 h5 h6 => ?_)
    rw [h2.2 29 (by omega), h2.2 30 (by omega)] at h3 ⊢
    rw [h4.2 29 (by omega), h2.2 29 (by omega), h2.2 30 (by omega)] at h5
    rw [h4.2 29 (by omega), h2.2 29 (by omega)]
    exact h M3 (by simpa using h5) ((h2.trans h4).trans h6)
end AC
theorem SfS_len (f : Nat) (i v x : Int32) : (SfS f i v x).2.length ≤ 8 := by
  have h1 := S0S_len f i v x
  have h2 := S0S_len f i v (x - 1)
  have h3 := HfS_len f i 2
  unfold SfS; repeat' split
  all_goals (simp; omega)
section AC2
variable {G : jGT} {d : Nat} {M : jM} {P : Int32 → Int32 → jM → Prop}
theorem t_noact {M' : jM} (hR : Rel M) (h : ∀ a, (a ≤ 20 ∨ a = 118 ∨ a = 119) → M' a = M a) (h2 : M' 117 3 = M 117 3) (h3 : ∃ n : Nat, n ≤ 20 ∧ M' 115 1 = nI n ∧ M' 117 27 = nI n ∧ ∀ k, k < n → M' 116 k = M' 129 k) : Rel M' := by
  refine ⟨?_, ?_, h3⟩
  · have h1 := hR.1
    unfold HN at *
    rw [h 1 (by omega), h 118 (by omega)]
    exact HR.congr h1 (fun _ _ => rfl) (fun _ _ => rfl) (fun k hk => ⟨congrFun (h 2 (by omega)) k, congrFun (h 3 (by omega)) k, congrFun (h 8 (by omega)) k⟩) (fun k hk => ⟨congrFun (h 4 (by omega)) k, congrFun (h 5 (by omega)) k⟩) (fun k hk => congrFun (h 6 (by omega)) k) (fun k hk => congrFun (h 7 (by omega)) k) (fun k hk => ⟨congrFun (h 9 (by omega)) k, congrFun (h 10 (by omega)) k⟩)
  · rw [h 0 (by omega), h2, h 19 (by omega), h 20 (by omega)]
    rcases hR.2.1 with h1 | h1
    · exact Or.inl h1
    · exact Or.inr ⟨h1.1, h1.2.1, h1.2.2.congr (fun a h1 h2 => h a (by omega)) (h 119 (by omega))⟩
/-- both sides have run the same -/
theorem act_end {M1 M2 : jM} {L : List Nat} (hR : Rel M) (hL : L.length ≤ 8) (hT : TC M1 L) (hTM : TM M2 L) (h1 : ∀ a, (a ≤ 20 ∨ a = 118 ∨ a = 119 ∨ a = 115 ∨ a = 116) → M2 a = M1 a) (h2 : ∀ a, (a ≤ 20 ∨ a = 118 ∨ a = 119) → M1 a = M a) (h3 : M2 117 3 = M 117 3) : Rel M2 := by
  refine t_noact hR (fun a ha => (h1 a (by omega)).trans (h2 a ha)) h3 ⟨L.length, by omega, ?_, hTM.1, fun k hk => ?_⟩
  · rw [h1 115 (by omega)]; exact hT.1
  · rw [h1 116 (by omega), hT.2 k hk, hTM.2 k hk]
theorem call_act (hR : Rel M) (x y z : Int32) (k : ∀ r M', Rel M' → P r r M') : CI G (d + 50) mX7_act [.ref 0, .int x, .int y, .int z] M (fun r1 M1 => CI G (d + 50) mX8_act [.ref 117, .int x, .int y, .int z] M1 (P r1)) := by
  obtain ⟨nS, nJ, nE, nQ, nT, nD, nC, nL, hS, hJ, hE, hQ, hT, hB, hD, hL⟩ := id hR.1
  have t1 : M 1 4 = nI nJ := hJ.1
  have t2 : M 118 1 = nI nJ := hJ.2.1
  have t3 := hJ.2.2.1
  have none : Rel (jup (jup M 115 1 0) 117 27 0) := t_noact hR (fun a ha => by (simp (disch := omega) only [jup_ne])) (by (simp (disch := omega) only [jup_ss, jup_sn, jup_n, jup_ne])) ⟨0, by omega, by (simp (disch := omega) only [jup_ss, jup_sn, jup_n, jup_ne]); rfl, by (simp (disch := omega) only [jup_ss, jup_sn, jup_n, jup_ne]); rfl, fun k hk => by omega⟩
  refine eX7_act (bX7_act_0 ?_)
  rcases jix x (n := nJ) (by omega) with hx | ⟨i, hi, rfl⟩
  · exact t_hasJudge_n t1 t3 hx (ite_ti rfl (eX8_act (bX8_act_0 (t_isJudge_n (by (simp (disch := omega) only [jup_ss, jup_sn, jup_n, jup_ne]); exact t2) (by omega) hx (ite_ti rfl (k _ _ none))))))
  · refine t_hasJudge_y t1 t3 hi (ite_fi (by decide) ?_)
    rcases jix y (n := 3) (by omega) with hy | ⟨j, hj, rfl⟩
    · refine jno_iii (n := 3) hy ?_
      exact eX8_act (bX8_act_0 (t_isJudge_y (by (simp (disch := omega) only [jup_ss, jup_sn, jup_n, jup_ne]); exact t2) (by omega) hi (ite_fi (by decide) (t_inN_n (n := 2) hy (by omega) (ite_ti rfl (k _ _ none))))))
    · obtain ⟨kd, v, h0, h1, h2, h3, h4, h5⟩ := hJ.2.2.2.1 i hi
      rw [if_neg (nI_pos (by omega)), if_pos (by rw [show (3 : Int32) = nI 3 from rfl, nI_ltE (by omega) (by omega)]; omega)]
      refine t_kindOf t1 t3 hi (t_numberOf t1 t3 hi ?_)
      rw [show M 4 i = nI kd from h2, show M 5 i = nI v from h4]
      refine eX1_perform (bX1_perform_0 ?_)
      generalize hM0 : jup (jup (jup (jup M 115 1 0) 115 2 (nI i)) 115 3 (nI kd)) 115 4 (nI v) = M0
      have e2 : M0 115 2 = nI i := by rw [← hM0]; (simp (disch := omega) only [jup_ss, jup_sn, jup_n, jup_ne])
      have e3 : M0 115 3 = nI kd := by rw [← hM0]; (simp (disch := omega) only [jup_ss, jup_sn, jup_n, jup_ne])
      have e4 : M0 115 4 = nI v := by rw [← hM0]; (simp (disch := omega) only [jup_ss, jup_sn, jup_n, jup_ne])
      have o0 : ∀ a, a ≠ 115 → M0 a = M a := fun a ha => by rw [← hM0]; (simp (disch := omega) only [jup_ne])
      have hT0 : TC M0 [] := ⟨by rw [← hM0]; (simp (disch := omega) only [jup_ss, jup_sn, jup_n, jup_ne]); rfl, fun k hk => by simp at hk⟩
      have fin : ∀ (R : jRes) (mm : jMD), R.2.length ≤ 8 → (∀ M1 post, TM M1 [] → M1 117 28 = nI kd → M1 117 29 = nI i → M1 117 30 = nI v → (∀ M2, TM M2 R.2 → FrT M1 M2 → post R.1 M2) → CI G (d + 49) mm [.ref 117, .int z] M1 post) →
          ((j = 0 → mm = mX8_hearsActs) ∧ (j = 1 → mm = mX8_weighsActs) ∧ (j = 2 → mm = mX8_saysActs)) → ∀ M1, TC M1 R.2 → FrC M0 M1 → CI G (d + 50) mX8_act [.ref 117, .int (nI i), .int (nI j), .int z] M1 (P R.1) := by
        intro R mm hR8 hm hmm M1 hT1 hF
        have o1 : ∀ a, a ≠ 115 → a ≠ 116 → M1 a = M a := fun a h1 h2 => (hF.1 a h1 h2).trans (o0 a h1)
        refine eX8_act (bX8_act_0 (t_isJudge_y (n := nJ) (by (simp (disch := omega) only [jup_ss, jup_sn, jup_n, jup_ne]); rw [o1 118 (by omega) (by omega)]; exact t2) (by omega) hi (ite_fi (by decide) (t_inN_y (n := 2) (by omega) (by omega) (ite_fi (by decide) ?_)))))
        rw [show (26 : Int32) + nI i = nI (26 + i) from nI_add 26 i, show (30 : Int32) + nI i = nI (30 + i) from nI_add 30 i, nI_clamp (by omega), nI_clamp (by omega)]
        refine ⟨vp_in_nI (by omega) (by omega), vp_in_nI (by omega) (by omega), ?_⟩
        have g1 : (jup M1 117 27 0) 118 (26 + i) = nI kd := by (simp (disch := omega) only [jup_ss, jup_sn, jup_n, jup_ne]); rw [o1 118 (by omega) (by omega)]; exact h3
        have g2 : (jup M1 117 27 0) 118 (30 + i) = nI v := by (simp (disch := omega) only [jup_ss, jup_sn, jup_n, jup_ne]); rw [o1 118 (by omega) (by omega)]; exact h5
        rw [g1, g2]
        generalize hM2 : jup (jup (jup (jup M1 117 27 0) 117 28 (nI kd)) 117 29 (nI i)) 117 30 (nI v) = M2
        have hT2 : TM M2 [] := ⟨by rw [← hM2]; (simp (disch := omega) only [jup_ss, jup_sn, jup_n, jup_ne]); rfl, fun k hk => by simp at hk⟩
        have f1 : M2 117 28 = nI kd := by rw [← hM2]; (simp (disch := omega) only [jup_ss, jup_sn, jup_n, jup_ne])
        have f2 : M2 117 29 = nI i := by rw [← hM2]; (simp (disch := omega) only [jup_ss, jup_sn, jup_n, jup_ne])
        have f3 : M2 117 30 = nI v := by rw [← hM2]; (simp (disch := omega) only [jup_ss, jup_sn, jup_n, jup_ne])
        have main : CI G (d + 49) mm [.ref 117, .int z] M2 (P R.1) := by
          have hmain : ∀ post : Int32 → jM → Prop, (∀ M3, TM M3 R.2 → FrT M2 M3 → post R.1 M3) → CI G (d + 49) mm [.ref 117, .int z] M2 post := fun post h => hm M2 post hT2 f1 f2 f3 h
          refine hmain _ (fun M3 h6 h7 => k _ _ (act_end hR hR8 hT1 h6 (fun a ha => ?_) (fun a ha => o1 a (by omega) (by omega)) ?_))
          · rw [h7.1 a (by omega) (by omega), ← hM2]; (simp (disch := omega) only [jup_ne])
          · rw [h7.2 3 (by omega), ← hM2]; (simp (disch := omega) only [jup_ss, jup_sn, jup_n, jup_ne]); rw [o1 117 (by omega) (by omega)]
        rcases (show j = 0 ∨ j = 1 ∨ j = 2 by omega) with rfl | rfl | rfl
        · rw [hmm.1 rfl] at main; exact ite_ti rfl main
        · rw [hmm.2.1 rfl] at main; exact ite_fi (by decide) (ite_ti rfl main)
        · rw [hmm.2.2 rfl] at main; exact ite_fi (by decide) (ite_fi (by decide) main)
      rcases (show j = 0 ∨ j = 1 ∨ j = 2 by omega) with rfl | rfl | rfl
      · refine c_runH (p := 0) h0 (by omega) hT0 (by simp) (fun M1 h6 h7 => ?_)
        rw [e2] at h6 ⊢
        exact fin (HfS kd (nI i) z) mX8_hearsActs (by have := HfS_len kd (nI i) z; omega) (fun M1 post g1 g2 g3 g4 g5 => m_hears h0 g2 g1 (by simp) (by rw [g3]; exact g5)) ⟨fun _ => rfl, fun h => by omega, fun h => by omega⟩ M1 h6 h7
      · refine c_runW (p := 0) h0 e3 (by omega) hT0 (by simp) (fun M1 h6 h7 => ?_)
        rw [e2, e4] at h6 ⊢
        exact fin (WfS kd (nI i) (nI v) z) mX8_weighsActs (by have := WfS_len kd (nI i) (nI v) z; omega) (fun M1 post g1 g2 g3 g4 g5 => m_weighs h0 g2 g1 (by simp) (by rw [g3, g4]; exact g5)) ⟨fun h => by omega, fun _ => rfl, fun h => by omega⟩ M1 h6 h7
      · refine c_runS (p := 0) h0 e3 (by omega) hT0 (by simp) (fun M1 h6 h7 => ?_)
        rw [e2, e4] at h6 ⊢
        exact fin (SfS kd (nI i) (nI v) z) mX8_saysActs (SfS_len kd (nI i) (nI v) z) (fun M1 post g1 g2 g3 g4 g5 => m_says h0 g2 g1 (by simp) (by rw [g3, g4]; exact g5)) ⟨fun h => by omega, fun h => by omega, fun _ => rfl⟩ M1 h6 h7
end AC2
