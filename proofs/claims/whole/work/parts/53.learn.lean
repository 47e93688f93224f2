/-- no ! is open right here -/
def ntop (cx : List jFr) : Prop := ∀ fr cx', cx = fr :: cx' → fr.1 ≠ 33
theorem endF_ntop {cx : List jFr} {t f B : Nat → Bool} (h : ntop cx) : endF cx t f B = (cx, t, fun p => f p && B p) := by
  cases cx with
  | nil => rfl
  | cons fr cx => rw [endF, if_neg (h fr cx rfl)]
def sg (h : Nat → Nat) (n i : Nat) : Nat := if i < n then h i else 59
theorem sg_or {h : Nat → Nat} {n i : Nat} (hh : ∀ i, n ≤ i → h i = 128) (hi : i ≤ n) : (i < n ∧ sg h n i = h i) ∨ (i = n ∧ sg h n i = 59 ∧ h i = 128) := by
  unfold sg
  by_cases e : i < n
  · left; exact ⟨e, if_pos e⟩
  · right; exact ⟨by omega, if_neg e, hh i (by omega)⟩
def frL (M0 M : jM) : Prop := ∀ b, b < 21 ∨ 26 < b → M b = M0 b
section LN
variable {G : jGT} {d : Nat} {M0 : jM} {kd v dy n : Nat} {h : Nat → Nat} {K : Nat → jM → Prop} {Er : Nat → jM → Prop} {Fin : jM → Prop}
/-- the loop over the text, one sign -/
def Lp (G : jGT) (d : Nat) (M0 : jM) (n : Nat) (h : Nat → Nat) (K : Nat → jM → Prop) (Er : Nat → jM → Prop) (Fin : jM → Prop) : Prop :=
  (∀ i, n ≤ i → h i = 128) ∧ (∀ i, h i < 129) ∧ ∀ i M, i ≤ n → frL M0 M → CI G (d + 9) mX3_goesOn [.ref 21, .int (nI (sg h n i))] M (fun r M2 => if r = 0 then Er i M2 else if i < n then (if M2 21 9 = 10 then Er i M2 else K (i + 1) M2) else Fin M2) → K i M
theorem Lp.sg_lt (L : Lp G d M0 n h K Er Fin) (i : Nat) : sg h n i < 129 := by
  unfold sg
  split
  · exact L.2.1 i
  · omega
theorem nxt {M : jM} {i : Nat} {e : jLE} (hi : i < n) (hE : LE M0 M kd v dy e) (h10 : e.2.2.2 < 10) (k : K (i + 1) M) : if (1 : Int32) = 0 then Er i M else if i < n then (if M 21 9 = 10 then Er i M else K (i + 1) M) else Fin M := by
  refine ite_fi (by decide) ?_
  rw [if_pos hi]
  refine ite_fi ?_ k
  rw [hE.2.2.2.2.2.1, show (10 : Int32) = nI 10 from rfl, nI_eq (by omega) (by omega)]
  omega
variable {e : jLE} {verb times : Nat}
theorem t_val {of hw w o i : Nat} {s : jSk} {M : jM} (L : Lp G d M0 n h K Er Fin) (hkd : kd < 1000) (hv : v < 1000) (hdy : dy < 1000) (he : e.2.2.2 < 10) (hi : i ≤ n) (hC : Com M0 M kd v dy e verb times s) (h6 : M 21 6 = 5) (hof : qWhich of = some w) (hho : qHow hw = some o) (h13 : M 21 13 = nI of) (h14 : M 21 14 = nI hw) (h10 : M 21 10 = nI 0) (h11 : M 21 11 = nI 0)
    (k0 : ∀ e', qNum h i = .inl e' → ∀ M', frL M0 M' → Er e' M')
    (k1 : ∀ j a, qNum h i = .inr (j, a) → ∀ M', frL M0 M' → Rd G d M0 M' kd v dy e verb times (endF s.1 s.2.1 s.2.2 (fun p => qCmp o (qSel w kd v dy p) a)) (sg h n j) → K j M') : K i M := by
  refine L.2.2 i M hi hC.1.1 ?_
  have D : ∀ c, qDig c = true ↔ 48 ≤ c ∧ c ≤ 57 := fun c => by unfold qDig; simp
  refine on5 hC h6 hof hho h13 h14 h10 h11 (by omega) (by omega) hkd hv hdy (L.sg_lt i) (fun q M1 g1 g2 g3 g4 g5 g6 => ?_) (fun q _ => ite_ti rfl (k0 i ?_ M hC.1.1)) (fun _ q => by omega)
  · rcases sg_or L.1 hi with ⟨hi1, hs⟩ | ⟨_, hs, _⟩
    · rw [hs] at q g5
      refine nxt hi1 g1.1 he ?_
      have hd1 : qDig (h i) = true := (D _).mpr ⟨q.1, q.2.1⟩
      have d1 := (D _).mp hd1
      have done : ∀ (j a dg : Nat) (M2 : jM), Com M0 M2 kd v dy e verb times s → M2 21 6 = 5 → M2 21 13 = nI of → M2 21 14 = nI hw → M2 21 10 = nI a → M2 21 11 = nI dg → a < 1000 → 0 < dg → dg < 10 → ¬ Ac a dg (sg h n j) → Rd G d M0 M2 kd v dy e verb times (endF s.1 s.2.1 s.2.2 (fun p => qCmp o (qSel w kd v dy p) a)) (sg h n j) := by
        intro j a dg M2 z1 z2 z3 z4 z5 z6 z7 z8 z9 z0 post hB
        exact on5 z1 z2 hof hho z3 z4 z5 z6 z7 z9 hkd hv hdy (L.sg_lt j) (fun q => absurd q z0) (fun _ q => by omega) (fun _ _ => hB)
      by_cases h2 : h i ≠ 48 ∧ qDig (h (i + 1)) = true
      · have r : qNum h i = .inr (i + 2, 10 * (h i - 48) + (h (i + 1) - 48)) := by unfold qNum; rw [if_pos hd1, if_pos h2]
        have d2 := (D _).mp h2.2
        rcases sg_or L.1 (i := i + 1) (by omega) with ⟨hi2, hs2⟩ | ⟨_, _, hs2⟩
        · refine L.2.2 (i + 1) M1 (by omega) g1.1.1 ?_
          refine on5 g1 g2 hof hho g3 g4 g5 g6 (by omega) (by omega) hkd hv hdy (L.sg_lt _) (fun q' M2 f1 f2 f3 f4 f5 f6 => ?_) (fun q' _ => by omega) (fun q' _ => ?_)
          · rw [hs2] at f5
            refine nxt hi2 f1.1 he (k1 _ _ r M2 f1.1.1 (done (i + 2) _ 2 M2 f1 f2 f3 f4 ?_ f6 (by omega) (by omega) (by omega) (fun z => by unfold Ac at z; omega)))
            rw [f5]; congr 1; omega
          · exact absurd (by rw [hs2]; unfold Ac; omega) q'
        · omega
      · have r : qNum h i = .inr (i + 1, h i - 48) := by unfold qNum; rw [if_pos hd1, if_neg h2]
        refine k1 _ _ r M1 g1.1.1 (done (i + 1) _ 1 M1 g1 g2 g3 g4 ?_ g6 (by omega) (by omega) (by omega) (fun z => h2 ⟨?_, ?_⟩))
        · rw [g5]; congr 1; omega
        · unfold Ac at z; omega
        · rcases sg_or L.1 (i := i + 1) (by omega) with ⟨_, hs2⟩ | ⟨_, hs2, _⟩
          · rw [hs2] at z; exact (D _).mpr ⟨z.1, z.2.1⟩
          · rw [hs2] at z; unfold Ac at z; omega
    · rw [hs] at q; unfold Ac at q; omega
  · unfold qNum
    rw [if_neg]
    intro z
    have z := (D _).mp z
    rcases sg_or L.1 hi with ⟨_, hs⟩ | ⟨_, _, hs⟩
    · exact q (by rw [hs]; unfold Ac; omega)
    · omega
/-- behind a test's letter -/
theorem t_letter {w i : Nat} {s : jSk} {M : jM} (L : Lp G d M0 n h K Er Fin) (hkd : kd < 1000) (hv : v < 1000) (hdy : dy < 1000) (he : e.2.2.2 < 10) (hi : i < n) (hC : Com M0 M kd v dy e verb times s) (h6 : M 21 6 = 4) (hof : qWhich (h i) = some w) (h13 : M 21 13 = nI (h i))
    (k0 : ∀ e', qTest h i = .inl e' → ∀ M', frL M0 M' → Er e' M')
    (k1 : ∀ j S B, qTest h i = .inr (j, S, B) → ∀ M', frL M0 M' → Rd G d M0 M' kd v dy e verb times (endF s.1 s.2.1 s.2.2 (B kd v dy)) (sg h n j) → K j M') : K (i + 1) M := by
  refine L.2.2 (i + 1) M (by omega) hC.1.1 ?_
  refine on4 hC h6 h13 (L.sg_lt _) (fun o ho M1 g1 g2 g3 g4 g5 g6 => ?_) (fun q M1 g1 => ite_ti rfl (k0 (i + 1) ?_ M1 g1))
  · rcases sg_or L.1 (i := i + 1) (by omega) with ⟨hi2, hs2⟩ | ⟨_, hs2, _⟩
    · rw [hs2] at ho g4
      refine nxt hi2 g1.1 he (t_val L hkd hv hdy he (by omega) g1 g2 hof ho g3 g4 g5 g6 (fun e' q => k0 e' ?_) (fun j a q M' f1 f2 => k1 j [.inl (w + 8 * o + 32 * a)] (fun kd v dy p => qCmp o (qSel w kd v dy p) a) ?_ M' f1 f2))
      · unfold qTest; rw [hof]; dsimp only; rw [ho]; dsimp only; rw [q]
      · unfold qTest; rw [hof]; dsimp only; rw [ho]; dsimp only; rw [q]
    · rw [hs2, show qHow 59 = none from rfl] at ho; cases ho
  · have q' : qHow (h (i + 1)) = none := by
      rcases sg_or L.1 (i := i + 1) (by omega) with ⟨_, hs2⟩ | ⟨_, _, hs2⟩
      · rw [← hs2]; exact q
      · rw [hs2]; rfl
    unfold qTest; rw [hof]; dsimp only; rw [q']
/-- what is claimed of a reader of factors, r more may be opened -/
def FC (G : jGT) (d : Nat) (M0 : jM) (kd v dy n : Nat) (h : Nat → Nat) (K : Nat → jM → Prop) (Er : Nat → jM → Prop) (e : jLE) (verb times : Nat) (r : Nat) (f : Nat → jE) : Prop :=
  ∀ i M s, s.1.length + r = 5 → i ≤ n → Com M0 M kd v dy e verb times s → M 21 6 = 3 → (∀ e', f i = .inl e' → ∀ M', frL M0 M' → Er e' M') → (∀ j S B, f i = .inr (j, S, B) → ∀ M', frL M0 M' → Rd G d M0 M' kd v dy e verb times (endF s.1 s.2.1 s.2.2 (B kd v dy)) (sg h n j) → K j M') → K i M
theorem t_loop38 {r : Nat} {f : Nat → jE} {cx : List jFr} {t : Nat → Bool} (L : Lp G d M0 n h K Er Fin) (he : e.2.2.2 < 10) (hf : FC G d M0 kd v dy n h K Er e verb times r f) (hfo : ∀ i x, f i = .inr x → Ok n i x) (hcx : ntop cx) (hlen : cx.length + r = 5) :
    ∀ (k j : Nat) (S : List jSt) (B : jB) (M : jM), n + 1 ≤ k + j → j ≤ n → frL M0 M → Rd G d M0 M kd v dy e verb times (cx, t, B kd v dy) (sg h n j) →
      (∀ e', qLoop h f 38 2 (fun a b => a && b) k (j, S, B) = .inl e' → ∀ M', frL M0 M' → Er e' M') → (∀ j' S' B', qLoop h f 38 2 (fun a b => a && b) k (j, S, B) = .inr (j', S', B') → h j' ≠ 38 → ∀ M', frL M0 M' → Rd G d M0 M' kd v dy e verb times (cx, t, B' kd v dy) (sg h n j') → K j' M') → K j M := by
  intro k
  induction k with
  | zero => intro j S B M h1 h2; omega
  | succ k ih =>
    intro j S B M hk hj hM hR k0 k1
    rw [qLoop] at k0 k1
    by_cases h38 : h j = 38
    · rw [if_pos h38] at k0 k1
      rcases sg_or L.1 hj with ⟨hj1, hs⟩ | ⟨_, _, hs⟩
      · refine L.2.2 j M hj hM (hR _ ⟨fun _ M' g1 g2 => nxt hj1 g1.1 he ?_, fun q => by omega, fun q => by omega, fun q => by omega, fun q => absurd (Or.inl (by omega)) q⟩)
        refine hf (j + 1) M' (cx, t, B kd v dy) hlen (by omega) g1 g2 (fun e' q => k0 e' (by rw [q])) (fun j2 S2 B2 q M2 f1 f2 => ?_)
        rw [endF_ntop hcx] at f2
        have ok := hfo _ _ q
        have ok1 := ok.1
        have ok2 := ok.2.1
        dsimp only at ok1 ok2
        rw [q] at k0 k1
        exact ih j2 _ (fun kd v dy p => B kd v dy p && B2 kd v dy p) M2 (by omega) ok2 f1 f2 k0 k1
      · omega
    · rw [if_neg h38] at k0 k1
      exact k1 j S B rfl h38 M hM hR
theorem t_every {r : Nat} {f : Nat → jE} {cx : List jFr} {t : Nat → Bool} (L : Lp G d M0 n h K Er Fin) (he : e.2.2.2 < 10) (hf : FC G d M0 kd v dy n h K Er e verb times r f) (hfo : ∀ i x, f i = .inr x → Ok n i x) (hcx : ntop cx) (hlen : cx.length + r = 5) {i : Nat} {M : jM} (hi : i ≤ n) (hC : Com M0 M kd v dy e verb times (cx, t, fun _ => true)) (h6 : M 21 6 = 3)
    (k0 : ∀ e', qEvery h n f i = .inl e' → ∀ M', frL M0 M' → Er e' M') (k1 : ∀ j S B, qEvery h n f i = .inr (j, S, B) → h j ≠ 38 → ∀ M', frL M0 M' → Rd G d M0 M' kd v dy e verb times (cx, t, B kd v dy) (sg h n j) → K j M') : K i M := by
  unfold qEvery at k0 k1
  refine hf i M _ hlen hi hC h6 (fun e' q => k0 e' (by rw [q])) (fun j S B q M' f1 f2 => ?_)
  rw [endF_ntop hcx] at f2
  rw [q] at k0 k1
  have ok := hfo _ _ q
  have ok1 := ok.1
  have ok2 := ok.2.1
  dsimp only at ok1 ok2
  exact t_loop38 L he hf hfo hcx hlen n j S B M' (by omega) ok2 f1 f2 k0 k1
theorem t_loop124 {r : Nat} {f : Nat → jE} {cx : List jFr} (L : Lp G d M0 n h K Er Fin) (he : e.2.2.2 < 10) (hf : FC G d M0 kd v dy n h K Er e verb times r f) (hfo : ∀ i x, f i = .inr x → Ok n i x) (hcx : ntop cx) (hlen : cx.length + r = 5) :
    ∀ (k j : Nat) (S : List jSt) (B : jB) (T F : Nat → Bool) (M : jM), n + 1 ≤ k + j → j ≤ n → h j ≠ 38 → frL M0 M → (fun p => T p || F p) = B kd v dy → Rd G d M0 M kd v dy e verb times (cx, T, F) (sg h n j) →
      (∀ e', qLoop h (qEvery h n f) 124 3 (fun a b => a || b) k (j, S, B) = .inl e' → ∀ M', frL M0 M' → Er e' M') → (∀ j' S' B', qLoop h (qEvery h n f) 124 3 (fun a b => a || b) k (j, S, B) = .inr (j', S', B') → h j' ≠ 38 → h j' ≠ 124 → ∀ M' T F, frL M0 M' → (fun p => T p || F p) = B' kd v dy → Rd G d M0 M' kd v dy e verb times (cx, T, F) (sg h n j') → K j' M') → K j M := by
  intro k
  induction k with
  | zero => intro j S B T F M h1 h2; omega
  | succ k ih =>
    intro j S B T F M hk hj h38 hM hB hR k0 k1
    rw [qLoop] at k0 k1
    by_cases h124 : h j = 124
    · rw [if_pos h124] at k0 k1
      rcases sg_or L.1 hj with ⟨hj1, hs⟩ | ⟨_, _, hs⟩
      · refine L.2.2 j M hj hM (hR _ ⟨fun q => by omega, fun _ M' g1 g2 => nxt hj1 g1.1 he ?_, fun q => by omega, fun q => by omega, fun q => absurd (Or.inr (Or.inl (by omega))) q⟩)
        refine t_every L he hf hfo hcx hlen (i := j + 1) (M := M') (t := jor (cx, T, F)) (by omega) g1 g2 (fun e' q => k0 e' (by rw [q])) (fun j2 S2 B2 q q38 M2 f1 f2 => ?_)
        have ok := qEvery_ok hfo q
        have ok1 := ok.1
        have ok2 := ok.2.1
        dsimp only at ok1 ok2
        rw [q] at k0 k1
        refine ih j2 _ (fun kd v dy p => B kd v dy p || B2 kd v dy p) _ _ M2 (by omega) ok2 q38 f1 ?_ f2 k0 k1
        funext p
        show ((T p || F p) || B2 kd v dy p) = (B kd v dy p || B2 kd v dy p)
        rw [← congrFun hB p]
      · omega
    · rw [if_neg h124] at k0 k1
      exact k1 j S B rfl h38 h124 M T F hM hB hR
theorem t_some {r : Nat} {f : Nat → jE} {cx : List jFr} (L : Lp G d M0 n h K Er Fin) (he : e.2.2.2 < 10) (hf : FC G d M0 kd v dy n h K Er e verb times r f) (hfo : ∀ i x, f i = .inr x → Ok n i x) (hcx : ntop cx) (hlen : cx.length + r = 5) {i : Nat} {M : jM} (hi : i ≤ n) (hC : Com M0 M kd v dy e verb times (cx, fun _ => false, fun _ => true)) (h6 : M 21 6 = 3)
    (k0 : ∀ e', qSome h n f i = .inl e' → ∀ M', frL M0 M' → Er e' M') (k1 : ∀ j S B, qSome h n f i = .inr (j, S, B) → h j ≠ 38 → h j ≠ 124 → ∀ M' T F, frL M0 M' → (fun p => T p || F p) = B kd v dy → Rd G d M0 M' kd v dy e verb times (cx, T, F) (sg h n j) → K j M') : K i M := by
  unfold qSome at k0 k1
  refine t_every L he hf hfo hcx hlen hi hC h6 (fun e' q => k0 e' (by rw [q])) (fun j S B q q38 M' f1 f2 => ?_)
  rw [q] at k0 k1
  have ok := qEvery_ok hfo q
  have ok1 := ok.1
  have ok2 := ok.2.1
  dsimp only at ok1 ok2
  exact t_loop124 L he hf hfo hcx hlen n j S B _ _ M' (by omega) ok2 q38 f1 rfl f2 k0 k1
theorem t_fac (L : Lp G d M0 n h K Er Fin) (hkd : kd < 1000) (hv : v < 1000) (hdy : dy < 1000) (he : e.2.2.2 < 10) : ∀ r, FC G d M0 kd v dy n h K Er e verb times r (qFac h n r) := by
  intro r
  induction r with
  | zero =>
    intro i M s hl hi hC h6 k0 k1
    rw [qFac] at k0 k1
    refine L.2.2 i M hi hC.1.1 (on3 hC h6 (L.sg_lt i) (fun _ q => by omega) (fun w q M' g1 g2 g3 => ?_) (fun q1 q2 M' g1 => ite_ti rfl (k0 i ?_ M' g1)))
    · rcases sg_or L.1 hi with ⟨hi1, hs⟩ | ⟨_, hs, _⟩
      · rw [hs] at q g3
        have hne : ¬ (h i = 33 ∨ h i = 40) := by
          rintro (z | z) <;> (rw [z] at q; first | (rw [show qWhich 33 = none from rfl] at q; cases q) | (rw [show qWhich 40 = none from rfl] at q; cases q))
        rw [if_neg hne] at k0 k1
        exact nxt hi1 g1.1 he (t_letter L hkd hv hdy he hi1 g1 g2 q g3 k0 k1)
      · rw [hs, show qWhich 59 = none from rfl] at q; cases q
    · split
      · rfl
      · have q' : qWhich (h i) = none := by
          rcases sg_or L.1 hi with ⟨_, hs⟩ | ⟨_, _, hs⟩
          · rw [← hs]; exact q2
          · rw [hs]; rfl
        unfold qTest; rw [q']
  | succ r ih =>
    intro i M s hl hi hC h6 k0 k1
    rw [qFac] at k0 k1
    refine L.2.2 i M hi hC.1.1 (on3 hC h6 (L.sg_lt i) (fun q ql M' g1 g2 => ?_) (fun w q M' g1 g2 g3 => ?_) (fun q1 q2 M' g1 => ite_ti rfl (k0 i ?_ M' g1)))
    · rcases sg_or L.1 hi with ⟨hi1, hs⟩ | ⟨_, hs, _⟩
      · rw [hs] at q g1
        refine nxt hi1 g1.1 he ?_
        by_cases q33 : h i = 33
        · rw [if_pos q33] at k0 k1
          refine ih (i + 1) M' _ (by dsimp only; rw [List.length_cons]; omega) (by omega) g1 g2 (fun e' z => k0 e' (by rw [z])) (fun j S B z M2 f1 f2 => ?_)
          rw [z] at k1
          refine k1 j _ _ rfl M2 f1 ?_
          dsimp only at f2
          rw [endF, if_pos q33] at f2
          exact f2
        · have q40 : h i = 40 := by omega
          rw [if_neg q33, if_pos q40] at k0 k1
          refine t_some L he ih (fun i x => qFac_ok L.1 r i x) (cx := (h i, s.2) :: s.1) (fun fr cx' z => by cases z; exact q33) (by rw [List.length_cons]; omega) (by omega) g1 g2 (fun e' z => k0 e' (by rw [z])) (fun j S B z z38 z124 M2 T F f1 f2 f3 => ?_)
          rw [z] at k0 k1
          dsimp only at k0 k1
          have ok := (qSome_ok (fun i x => qFac_ok L.1 r i x) z).2.1
          dsimp only at ok
          by_cases z41 : h j = 41
          · rw [if_pos z41] at k0 k1
            rcases sg_or L.1 ok with ⟨hj1, hsj⟩ | ⟨_, _, hsj⟩
            · refine L.2.2 j M2 ok f1 (f3 _ ⟨fun q => by omega, fun q => by omega, fun _ fr cx y M3 p1 p2 => ?_, fun q => by omega, fun q => absurd (Or.inr (Or.inr (Or.inl ⟨by omega, by simp⟩))) q⟩)
              cases y
              refine nxt hj1 p1.1 he (k1 (j + 1) _ _ rfl M3 p1.1.1 ?_)
              rw [show jor ((h i, s.2) :: s.1, T, F) = B kd v dy from f2] at p1
              exact on6 p1 p2 (L.sg_lt _)
            · omega
          · rw [if_neg z41] at k0
            have key : sg h n j ≠ 38 ∧ sg h n j ≠ 124 ∧ sg h n j ≠ 41 := by
              rcases sg_or L.1 ok with ⟨_, hsj⟩ | ⟨_, hsj, _⟩
              · rw [hsj]; exact ⟨z38, z124, z41⟩
              · rw [hsj]; omega
            exact L.2.2 j M2 ok f1 (f3 _ ⟨fun q => absurd q key.1, fun q => absurd q key.2.1, fun q => absurd q key.2.2, fun _ y => absurd y (by simp), fun _ M3 p1 => ite_ti rfl (k0 j rfl M3 p1)⟩)
      · omega
    · rcases sg_or L.1 hi with ⟨hi1, hs⟩ | ⟨_, hs, _⟩
      · rw [hs] at q g3
        have n33 : h i ≠ 33 := fun z => by rw [z, show qWhich 33 = none from rfl] at q; cases q
        have n40 : h i ≠ 40 := fun z => by rw [z, show qWhich 40 = none from rfl] at q; cases q
        rw [if_neg n33, if_neg n40] at k0 k1
        exact nxt hi1 g1.1 he (t_letter L hkd hv hdy he hi1 g1 g2 q g3 k0 k1)
      · rw [hs, show qWhich 59 = none from rfl] at q; cases q
    · have n1 : ¬ (h i = 33 ∨ h i = 40) := by
        intro z
        rcases sg_or L.1 hi with ⟨_, hs⟩ | ⟨_, _, hs⟩
        · exact q1 ⟨by rw [hs]; exact z, by omega⟩
        · omega
      rw [if_neg (fun z => n1 (Or.inl z)), if_neg (fun z => n1 (Or.inr z))]
      have q' : qWhich (h i) = none := by
        rcases sg_or L.1 hi with ⟨_, hs⟩ | ⟨_, _, hs⟩
        · rw [← hs]; exact q2
        · rw [hs]; rfl
      unfold qTest; rw [q']
end LN
