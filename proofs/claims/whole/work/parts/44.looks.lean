theorem ng_toInt {k : Nat} (h : k < 2 ^ 31) : (-nI k).toInt = -(k : Int) := by
  rw [Int32.toInt_neg, nI_toInt h]
  exact Int.bmod_eq_of_le (by omega) (by omega)
theorem ng_le {a b : Nat} (ha : a < 2 ^ 31) (hb : b < 2 ^ 31) : -nI a ≤ -nI b ↔ b ≤ a := by
  rw [Int32.le_iff_toInt_le, ng_toInt ha, ng_toInt hb]; omega
theorem ng_lt {a b : Nat} (ha : a < 2 ^ 31) (hb : b < 2 ^ 31) : -nI a < -nI b ↔ b < a := by
  rw [Int32.lt_iff_toInt_lt, ng_toInt ha, ng_toInt hb]; omega
theorem ng_lt0 {a : Nat} (ha : a < 2 ^ 31) : -nI a < 0 ↔ 0 < a := by
  rw [Int32.lt_iff_toInt_lt, ng_toInt ha, show (0 : Int32).toInt = 0 from rfl]; omega
theorem ng_eq {a b : Nat} (ha : a < 2 ^ 31) (hb : b < 2 ^ 31) : -nI a = -nI b ↔ a = b := by
  rw [← Int32.toInt_inj, ng_toInt ha, ng_toInt hb]; omega
theorem ng_sub {a b : Nat} (h : b ≤ a) : -nI b - -nI a = nI (a - b) := by
  rw [Int32.sub_eq_add_neg, Int32.neg_neg, Int32.add_comm, ← Int32.sub_eq_add_neg, pk_sub h]
theorem nar_jz (b : Bool) : vp_nar .boolean (jz b) = jz b := by cases b <;> decide
theorem jz_0 (b : Bool) : jz b = 0 ↔ b = false := by cases b <;> simp [jz]
/-- the stack of the steps: its top first -/
def StM (M : jM) : List Bool → Prop
  | [] => True
  | b :: r => M 121 r.length = jz b ∧ StM M r
theorem StM.congr {M M' : jM} : ∀ {bs : List Bool}, StM M bs → (∀ k, k < bs.length → M' 121 k = M 121 k) → StM M' bs := by
  intro bs
  induction bs with
  | nil => intro _ _; trivial
  | cons b r ih =>
    intro h e
    exact ⟨(e _ (by simp)).trans h.1, ih h.2 fun k hk => e k (by simp; omega)⟩
def ME (M : jM) (kd v dy p : Nat) : Prop := M 120 0 = nI p ∧ M 120 1 = nI kd ∧ M 120 2 = nI v ∧ M 120 3 = nI dy
theorem ME.sel {M : jM} {kd v dy p w : Nat} (h : ME M kd v dy p) (hw : w < 4) : M 120 w = nI (qSel w kd v dy p) := by
  obtain ⟨h0, h1, h2, h3⟩ := h
  match w, hw with
  | 0, _ => exact h0
  | 1, _ => exact h1
  | 2, _ => exact h2
  | 3, _ => exact h3
theorem qSel_lt {w kd v dy p N : Nat} (h1 : kd < N) (h2 : v < N) (h3 : dy < N) (h4 : p < N) : qSel w kd v dy p < N := by
  unfold qSel
  split
  · exact h4
  · split
    · exact h1
    · split
      · exact h2
      · exact h3
section LK
variable {G : jGT} {d : Nat} {x1 x2 : Int32} {base m kd v dy p : Nat} {W C : Int32} {post : jM → Prop}
theorem c_looksLoop (hb : base + m ≤ 916) (h1 : kd < 256) (h2 : v < 256) (h3 : dy < 256) (h4 : p < 256) :
    ∀ (T : List jSt) (i : Nat) (bs : List Bool) (w c : Int32) (M : jM), i + T.length = m → (∀ j q, T[j]? = some q → M 118 (base + (i + j)) = enc q) → Gd T → evP kd v dy p T (bs, w, c) = some ([], W, C) → bs.length + cp T ≤ 60 → StM M bs → M 117 11 = w → M 117 12 = c → ME M kd v dy p →
      (∀ M', M' 117 11 = W → M' 117 12 = C → (∀ a, a ≠ 117 → a ≠ 121 → M' a = M a) → (∀ k, k ≠ 11 → k ≠ 12 → M' 117 k = M 117 k) → post M') → kX8_looks_116 G d x1 x2 (nI m) (nI base) (nI bs.length) (nI (base + i)) M post := by
  intro T
  induction T with
  | nil =>
    intro i bs w c M hi _ _ he _ _ hw hc _ k
    simp only [evP, Option.some.injEq, Prod.mk.injEq] at he
    obtain ⟨_, rfl, rfl⟩ := he
    refine bX8_looks_116 ?_
    rw [nI_add, if_pos (by rw [nI_leI (by omega) (by omega)]; simp at hi; omega)]
    exact k M hw hc (fun _ _ _ => rfl) (fun _ _ _ => rfl)
  | cons q T ih =>
    intro i bs w c M hi hT hG he hd hS hw hc hM k
    rw [List.length_cons] at hi
    have hq : M 118 (base + i) = enc q := hT 0 q rfl
    have hT' : ∀ j q, T[j]? = some q → M 118 (base + (i + 1 + j)) = enc q := fun j q hj => by rw [← hT (j + 1) q (by simpa using hj)]; congr 1; omega
    have hG' : Gd T := fun q hq => hG q (List.mem_cons_of_mem _ hq)
    have hg := hG q List.mem_cons_self
    -- how it goes on
    have go : ∀ (bs' : List Bool) (w' c' : Int32) (M' : jM) (x7 : Int32), evP kd v dy p T (bs', w', c') = some ([], W, C) → bs'.length + cp T ≤ 60 → StM M' bs' → M' 117 11 = w' → M' 117 12 = c' → (∀ a, a ≠ 117 → a ≠ 121 → M' a = M a) → (∀ k, k ≠ 11 → k ≠ 12 → M' 117 k = M 117 k) → kX8_looks_428 G d x1 x2 (nI m) (nI base) (nI bs'.length) (nI (base + i)) x7 M' post := by
      intro bs' w' c' M' x7 e1 e2 e3 e4 e5 e6 e7
      refine bX8_looks_428 ?_
      rw [nI_1, Nat.add_assoc]
      refine ih (i + 1) bs' w' c' M' (by omega) (fun j q hj => by rw [e6 118 (by omega) (by omega)]; exact hT' j q hj) hG' e1 e2 e3 e4 e5 (by unfold ME; rw [e6 120 (by omega) (by omega)]; exact hM) (fun M2 g1 g2 g3 g4 => k M2 g1 g2 (fun a ha hb => (g3 a ha hb).trans (e6 a ha hb)) (fun j ha hb => (g4 j ha hb).trans (e7 j ha hb)))
    -- a push or a change of the top
    have put : ∀ (r : List Bool) (b : Bool), StM M r → StM (jup M 121 r.length (jz b)) (b :: r) := fun r b h => ⟨by (simp (disch := omega) only [jup_ss, jup_sn, jup_n, jup_ne]), h.congr fun k hk => by (simp (disch := omega) only [jup_ss, jup_sn, jup_n, jup_ne])⟩
    rw [evP] at he
    cases q with
    | inl cd =>
      obtain ⟨g1, g2⟩ := hg
      have hcp : cp (Sum.inl cd :: T) = cp T + 1 := rfl
      rw [hcp] at hd
      simp only [ev1] at he
      have hq : M 118 (base + i) = nI cd := hq
      refine bX8_looks_116 ?_
      rw [nI_add, if_neg (by rw [nI_leI (by omega) (by omega)]; omega), nI_clamp (by omega), hq]
      refine ⟨vp_in_nI (by omega) (by omega), ?_⟩
      rw [if_neg (nI_pos (by omega))]
      rw [show (8 : Int32) = nI 8 from rfl, show (4 : Int32) = nI 4 from rfl, show (32 : Int32) = nI 32 from rfl, show (1 : Int32) = nI 1 from rfl, show (0 : Int32) = nI 0 from rfl]
      rw [pk_div (a := cd) (d := 8) (by omega) (by omega) (by omega), pk_div (a := cd) (d := 32) (by omega) (by omega) (by omega), pk_div (a := cd / 8) (d := 4) (by omega) (by omega) (by omega), pk_mul, pk_mul, nI_subE (by omega), nI_subE (by omega), nI_clamp (by omega), show cd - cd / 8 * 8 = cd % 8 by omega, show cd / 8 - cd / 8 / 4 * 4 = cd / 8 % 4 by omega, hM.sel g2]
      have hsel := qSel_lt (w := cd % 8) h1 h2 h3 h4
      have fin : ∀ (b : Bool) (z : Int32) (x7 x8 x9 x10 : Int32), z = jz b → evP kd v dy p T (b :: bs, w, c) = some ([], W, C) → kX8_looks_226 G d x1 x2 (nI m) (nI base) (nI bs.length) (nI (base + i)) x7 x8 x9 x10 (nI bs.length) z M post := by
        intro b z x7 x8 x9 x10 hz e
        subst hz
        refine bX8_looks_226 ⟨vp_in_nI (by omega) (by omega), ?_⟩
        rw [nar_jz, nI_clamp (by omega), nI_1]
        exact go (b :: bs) w c _ x7 e (by simp; omega) (put bs b hS) (by (simp (disch := omega) only [jup_ss, jup_sn, jup_n, jup_ne]); exact hw) (by (simp (disch := omega) only [jup_ss, jup_sn, jup_n, jup_ne]); exact hc) (fun a ha hb => by (simp (disch := omega) only [jup_ne])) (fun j _ _ => by (simp (disch := omega) only [jup_ss, jup_sn, jup_n, jup_ne]))
      have tr : ∀ b, qCmp (cd / 8 % 4) (qSel (cd % 8) kd v dy p) (cd / 32) = b → evP kd v dy p T (b :: bs, w, c) = some ([], W, C) := fun b hb => by rw [hb] at he; exact he
      refine ⟨vp_in_nI (by omega) (by omega), ite_i (fun a => ?_) (fun a => ite_i (fun a' => ?_) (fun a' => ?_))⟩
      · rw [nI_eq (by omega) (by omega)] at a
        refine ite_i (fun z => fin false _ _ _ _ _ rfl (tr _ ?_)) (fun z => fin true _ _ _ _ _ rfl (tr _ ?_))
        · rw [nI_leI (by omega) (by omega)] at z
          unfold qCmp; rw [if_pos a]; exact decide_eq_false (by omega)
        · rw [nI_leI (by omega) (by omega)] at z
          unfold qCmp; rw [if_pos a]; exact decide_eq_true (by omega)
      · rw [nI_eq (by omega) (by omega)] at a a'
        refine ite_i (fun z => fin true _ _ _ _ _ rfl (tr _ ?_)) (fun z => fin false _ _ _ _ _ rfl (tr _ ?_))
        · rw [nI_eq (by omega) (by omega)] at z
          unfold qCmp; rw [if_neg a, if_pos a']; exact decide_eq_true z
        · rw [nI_eq (by omega) (by omega)] at z
          unfold qCmp; rw [if_neg a, if_pos a']; exact decide_eq_false z
      · rw [nI_eq (by omega) (by omega)] at a a'
        refine ite_i (fun z => fin false _ _ _ _ _ rfl (tr _ ?_)) (fun z => fin true _ _ _ _ _ rfl (tr _ ?_))
        · rw [nI_leI (by omega) (by omega)] at z
          unfold qCmp; rw [if_neg a, if_neg a']; exact decide_eq_false (by omega)
        · rw [nI_leI (by omega) (by omega)] at z
          unfold qCmp; rw [if_neg a, if_neg a']; exact decide_eq_true (by omega)
    | inr s =>
      have hs : s < 300 := hg
      have hcp : cp (Sum.inr s :: T) = cp T := rfl
      rw [hcp] at hd
      have hq : M 118 (base + i) = -nI s := hq
      refine bX8_looks_116 ?_
      rw [nI_add, if_neg (by rw [nI_leI (by omega) (by omega)]; omega), nI_clamp (by omega), hq]
      refine ⟨vp_in_nI (by omega) (by omega), ?_⟩
      rw [show (-1 : Int32) = -nI 1 from rfl, show (-2 : Int32) = -nI 2 from rfl, show (-10 : Int32) = -nI 10 from rfl, show (-200 : Int32) = -nI 200 from rfl]
      by_cases s1 : s = 1
      · subst s1
        simp only [ev1, if_pos] at he
        rw [if_pos ((ng_lt0 (by omega)).mpr (by omega)), if_pos rfl]
        cases bs with
        | nil => simp at he
        | cons b r =>
          simp only at he
          simp only [List.length_cons] at hd ⊢
          rw [show nI (r.length + 1) - 1 = nI r.length from nI_pred _, nI_clamp (by omega), hS.1]
          refine ⟨vp_in_nI (by omega) (by omega), ?_⟩
          have fin : ∀ z : Int32, z = jz (!b) → kX8_looks_264 G d x1 x2 (nI m) (nI base) (nI (r.length + 1)) (nI (base + i)) (-nI 1) (nI r.length) z M post := by
            intro z hz
            subst hz
            refine bX8_looks_264 ⟨vp_in_nI (by omega) (by omega), ?_⟩
            rw [nar_jz, nI_clamp (by omega)]
            exact go ((!b) :: r) w c _ _ he (by simp; omega) (put r _ hS.2) (by (simp (disch := omega) only [jup_ss, jup_sn, jup_n, jup_ne]); exact hw) (by (simp (disch := omega) only [jup_ss, jup_sn, jup_n, jup_ne]); exact hc) (fun a ha hb => by (simp (disch := omega) only [jup_ne])) (fun j _ _ => by (simp (disch := omega) only [jup_ss, jup_sn, jup_n, jup_ne]))
          cases b with
          | true => exact ite_fi (by decide) (fin 0 rfl)
          | false => exact ite_ti rfl (fin 1 rfl)
      · by_cases s2 : s = 2
        · subst s2
          simp only [ev1] at he
          rw [if_neg (by omega), if_pos trivial] at he
          rw [if_pos ((ng_lt0 (by omega)).mpr (by omega)), if_neg (by decide), if_neg (by decide), if_pos rfl]
          match bs, he, hS, hd with
          | b2 :: b1 :: r, he, hS, hd =>
            simp only at he
            simp only [List.length_cons] at hd ⊢
            rw [show nI (r.length + 1 + 1) + -nI 1 = nI (r.length + 1) from by rw [← Int32.sub_eq_add_neg]; exact nI_pred _, show nI (r.length + 1) - 1 = nI r.length from nI_pred _, nI_clamp (by omega), nI_clamp (by omega), show M 121 (r.length + 1) = jz b2 from hS.1, hS.2.1]
            have fin : ∀ (z s1 : Int32), z = jz (b1 && b2) → kX8_looks_350 G d x1 x2 (nI m) (nI base) (nI (r.length + 1)) (nI (base + i)) (-nI 2) (nI r.length) z M post := by
              intro z s1 hz
              subst hz
              refine bX8_looks_350 ⟨vp_in_nI (by omega) (by omega), ?_⟩
              rw [nar_jz, nI_clamp (by omega)]
              exact go ((b1 && b2) :: r) w c _ _ he (by simp; omega) (put r _ hS.2.2) (by (simp (disch := omega) only [jup_ss, jup_sn, jup_n, jup_ne]); exact hw) (by (simp (disch := omega) only [jup_ss, jup_sn, jup_n, jup_ne]); exact hc) (fun a ha hb => by (simp (disch := omega) only [jup_ne])) (fun j _ _ => by (simp (disch := omega) only [jup_ss, jup_sn, jup_n, jup_ne]))
            refine ⟨vp_in_nI (by omega) (by omega), ?_⟩
            cases b1 with
            | false => exact ite_ti rfl (bX8_looks_319 (fin 0 0 rfl))
            | true =>
              refine ite_fi (by decide) ⟨vp_in_nI (by omega) (by omega), ?_⟩
              cases b2 with
              | false => exact ite_ti rfl (bX8_looks_319 (fin 0 0 rfl))
              | true => exact ite_fi (by decide) (fin 1 0 rfl)
        · by_cases s3 : s = 3
          · subst s3
            simp only [ev1] at he
            rw [if_neg (by omega), if_neg (by omega), if_pos trivial] at he
            rw [if_pos ((ng_lt0 (by omega)).mpr (by omega)), if_neg (by decide), if_neg (by decide), if_neg (by decide)]
            match bs, he, hS, hd with
            | b2 :: b1 :: r, he, hS, hd =>
              simp only at he
              simp only [List.length_cons] at hd ⊢
              rw [show nI (r.length + 1 + 1) + -nI 1 = nI (r.length + 1) from by rw [← Int32.sub_eq_add_neg]; exact nI_pred _, show nI (r.length + 1) - 1 = nI r.length from nI_pred _, nI_clamp (by omega), nI_clamp (by omega), show M 121 (r.length + 1) = jz b2 from hS.1, hS.2.1]
              have fin : ∀ (z s1 : Int32), z = jz (b1 || b2) → kX8_looks_350 G d x1 x2 (nI m) (nI base) (nI (r.length + 1)) (nI (base + i)) (-nI 3) (nI r.length) z M post := by
                intro z s1 hz
                subst hz
                refine bX8_looks_350 ⟨vp_in_nI (by omega) (by omega), ?_⟩
                rw [nar_jz, nI_clamp (by omega)]
                exact go ((b1 || b2) :: r) w c _ _ he (by simp; omega) (put r _ hS.2.2) (by (simp (disch := omega) only [jup_ss, jup_sn, jup_n, jup_ne]); exact hw) (by (simp (disch := omega) only [jup_ss, jup_sn, jup_n, jup_ne]); exact hc) (fun a ha hb => by (simp (disch := omega) only [jup_ne])) (fun j _ _ => by (simp (disch := omega) only [jup_ss, jup_sn, jup_n, jup_ne]))
              refine ⟨vp_in_nI (by omega) (by omega), ?_⟩
              cases b1 with
              | true => exact ite_fi (by decide) (bX8_looks_345 (fin 1 0 rfl))
              | false =>
                refine ite_ti rfl ⟨vp_in_nI (by omega) (by omega), ?_⟩
                cases b2 with
                | false => exact ite_ti rfl (fin 0 0 rfl)
                | true => exact ite_fi (by decide) (bX8_looks_345 (fin 1 0 rfl))
          · by_cases s10 : s < 10
            · simp only [ev1] at he
              rw [if_neg s1, if_neg s2, if_neg s3, if_pos s10] at he
              cases he
            · rw [if_pos ((ng_lt0 (by omega)).mpr (by omega)), if_neg (by rw [ng_eq (by omega) (by omega)]; omega), if_pos ((ng_le (by omega) (by omega)).mpr (by omega))]
              simp only [ev1] at he
              rw [if_neg s1, if_neg s2, if_neg s3, if_neg s10] at he
              match bs, he, hS, hd with
              | [], he, hS, hd => simp at he
              | b2 :: b1 :: r, he, hS, hd => simp at he
              | [b], he, hS, hd =>
                simp only at he
                have hS0 : M 121 0 = jz b := hS.1
                rw [hS0, hw]
                have fin : ∀ (a1 a2 : Int32), evP kd v dy p T ([], w + a1, c + a2) = some ([], W, C) → kX8_looks_428 G d x1 x2 (nI m) (nI base) 0 (nI (base + i)) (-nI s) (jup (jup M 117 11 (w + a1)) 117 12 (c + a2)) post := by
                  intro a1 a2 e
                  exact go [] (w + a1) (c + a2) _ _ e (by simp at hd ⊢; omega) trivial (by (simp (disch := omega) only [jup_ss, jup_sn, jup_n, jup_ne])) (by (simp (disch := omega) only [jup_ss, jup_sn, jup_n, jup_ne])) (fun a ha hb => by (simp (disch := omega) only [jup_ne])) (fun j _ _ => by (simp (disch := omega) only [jup_ss, jup_sn, jup_n, jup_ne]))
                have k392 : ∀ a1 : Int32, (evP kd v dy p T ([], w + a1, c + (if b = true ∧ 200 ≤ s then nI (s - 200) else 0)) = some ([], W, C)) → kX8_looks_392 G d x1 x2 (nI m) (nI base) 0 (nI (base + i)) (-nI s) (jz b) w a1 M post := by
                  intro a1 e
                  refine bX8_looks_392 ?_
                  rw [show (-200 : Int32) = -nI 200 from rfl, hc]
                  cases b with
                  | false => 
                    rw [if_neg (by simp)] at e
                    exact ite_ti rfl (bX8_looks_423 (bX8_looks_424 (fin a1 0 e)))
                  | true =>
                    refine ite_fi (by decide) (ite_i (fun z => ?_) (fun z => ?_))
                    · rw [ng_lt (by omega) (by omega)] at z
                      rw [if_neg (by omega)] at e
                      exact bX8_looks_423 (bX8_looks_424 (fin a1 0 e))
                    · rw [ng_lt (by omega) (by omega)] at z
                      rw [if_pos ⟨rfl, by omega⟩] at e
                      rw [ng_sub (by omega)]
                      exact bX8_looks_424 (fin a1 _ e)
                by_cases s200 : s < 200
                · rw [if_pos s200] at he
                  cases b with
                  | false =>
                    refine ite_ti rfl (bX8_looks_391 (k392 0 ?_))
                    simpa using he
                  | true =>
                    refine ite_fi (by decide) (ite_fi (by rw [ng_le (by omega) (by omega)]; omega) ?_)
                    rw [ng_sub (by omega)]
                    refine k392 _ ?_
                    rw [if_neg (by omega), Int32.add_zero]; exact he
                · rw [if_neg s200] at he
                  cases b with
                  | false =>
                    refine ite_ti rfl (bX8_looks_391 (k392 0 ?_))
                    simpa using he
                  | true =>
                    refine ite_fi (by decide) (ite_ti ((ng_le (by omega) (by omega)).mpr (by omega)) (bX8_looks_391 (k392 0 ?_)))
                    rw [if_pos ⟨rfl, by omega⟩, Int32.add_zero]; exact he
end LK
