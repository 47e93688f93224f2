section RVM
variable {G : jGT} {V : jEv} {P W : Nat → Nat} {nS j : Nat}
theorem t_mus {d o t : Nat} {nx : Bool} {x1 x5 : Int32} {M : jM} {post : Int32 → jM → Prop} (ho : o < 256) (ht : t < 256) (hz : ¬ (o = 0 ∧ t = 0)) (h : kX8_rivals_59 G d x1 (nI o) (nI t) (jz nx) x5 (jz (rUs nx o t)) (nI (if rUs nx o t = true then o else t)) 0 0 0 M post) : kX8_rivals_0 G d x1 (nI o) (nI t) (jz nx) x5 M post := by
  have zo : (nI o : Int32) = 0 ↔ o = 0 := by rw [show (0 : Int32) = nI 0 from rfl, nI_eq (by omega) (by omega)]
  have zt : (nI t : Int32) = 0 ↔ t = 0 := by rw [show (0 : Int32) = nI 0 from rfl, nI_eq (by omega) (by omega)]
  have go : kX8_rivals_10 G d x1 (nI o) (nI t) (jz nx) x5 M post := by
    unfold rUs at h
    cases nx
    · refine bX8_rivals_10 (ite_ti rfl (ite_i (fun q => ?_) (fun q => ?_))) <;> rw [zt] at q
      · have e : (if (false = true) then decide (o ≠ 0) else decide (t = 0)) = true := by simp [q]
        rw [e] at h
        exact bX8_rivals_36 (ite_fi (by decide) (bX8_rivals_48 h))
      · have e : (if (false = true) then decide (o ≠ 0) else decide (t = 0)) = false := by simp [q]
        rw [e] at h
        exact bX8_rivals_36 (ite_ti rfl (bX8_rivals_48 h))
    · refine bX8_rivals_10 (ite_fi (by decide) (ite_i (fun q => ?_) (fun q => ?_))) <;> rw [zo] at q
      · have e : (if (true = true) then decide (o ≠ 0) else decide (t = 0)) = false := by simp [q]
        rw [e] at h
        exact bX8_rivals_36 (ite_ti rfl (bX8_rivals_48 h))
      · have e : (if (true = true) then decide (o ≠ 0) else decide (t = 0)) = true := by simp [q]
        rw [e] at h
        exact bX8_rivals_36 (ite_fi (by decide) (bX8_rivals_48 h))
  refine bX8_rivals_0 (ite_i (fun q => ite_i (fun p => ?_) (fun _ => go)) (fun _ => go))
  rw [zo] at q
  rw [zt] at p
  exact absurd ⟨q, p⟩ hz
/-- which of two is taken, in the model; top: the first of ours is noted -/
theorem t_mtake {d : Nat} {x1 x2 x3 x4 x7 x8 x9 x10 x11 x12 s0 s1 : Int32} {us top : Bool} {s : Nat} {f : Nat → Int32} {x : jRv} {M : jM} {post : Int32 → jM → Prop} (h9 : x10 = nI s) (hv : f s = s0 + s1) (hr : rM x8 x9 x) (h25 : (top = true ∧ us = true) → M 117 25 = rWho (-5) x)
    (h : ∀ y8 y9 (M' : jM), rM y8 y9 (rStep f us s x) → (∀ b, b ≠ 117 → M' b = M b) → (∀ i, i ≠ 25 → M' 117 i = M 117 i) → (¬ (top = true ∧ us = true) → M' 117 25 = M 117 25) → ((top = true ∧ us = true) → M' 117 25 = rWho (-5) (rStep f us s x)) → kX8_rivals_59 G d x1 x2 x3 x4 (jz top) (jz us) x7 y8 y9 (nI (s + 1)) M' post) : kX8_rivals_200 G d x1 x2 x3 x4 (jz top) (jz us) x7 x8 x9 x10 x11 x12 s0 s1 M post := by
  subst h9
  have new : rStep f us s x = some (f s, s) → kX8_rivals_230 G d x1 x2 x3 x4 (jz top) (jz us) x7 x8 x9 (nI s) x11 (s0 + s1) M post := by
    intro e
    have st : ∀ z : Int32, (¬ (top = true ∧ us = true) → z = M 117 25) → ((top = true ∧ us = true) → z = nI s) → kX8_rivals_257 G d x1 x2 x3 x4 (jz top) (jz us) x7 (s0 + s1) 1 (nI s) x11 (s0 + s1) z M post := by
      intro z z1 z2
      refine bX8_rivals_257 (bX8_rivals_260 ?_)
      rw [nI_1]
      exact h _ _ _ (by rw [e]; exact ⟨hv.symm, rfl⟩) (fun b hb => by (simp (disch := omega) only [jup_ne])) (fun i hi => by (simp (disch := omega) only [jup_ss, jup_sn, jup_n, jup_ne])) (fun q => by rw [jup_ss]; exact z1 q) (fun q => by rw [jup_ss, e]; exact z2 q)
    cases top
    · exact bX8_rivals_230 (ite_ti rfl (bX8_rivals_253 (st _ (fun _ => rfl) (fun q => by simp at q))))
    · cases us
      · exact bX8_rivals_230 (ite_fi (by decide) (ite_ti rfl (bX8_rivals_253 (st _ (fun _ => rfl) (fun q => by simp at q)))))
      · exact bX8_rivals_230 (ite_fi (by decide) (ite_fi (by decide) (st _ (fun q => absurd ⟨rfl, rfl⟩ q) (fun _ => rfl))))
  cases x with
  | none =>
    obtain ⟨r1, r2⟩ := hr
    subst r2
    exact bX8_rivals_200 (ite_ti rfl (new rfl))
  | some y =>
    obtain ⟨m, c⟩ := y
    obtain ⟨r1, r2⟩ := hr
    subst r1; subst r2
    have keep : ¬ rTake us (s0 + s1) x8 = true → kX8_rivals_260 G d x1 x2 x3 x4 (jz top) (jz us) x7 x8 1 (nI s) M post := fun e => bX8_rivals_260 (by
      rw [nI_1]
      have e2 : rStep f us s (some (x8, c)) = some (x8, c) := by
        unfold rStep
        dsimp only
        rw [hv, if_neg e]
      rw [e2] at h
      exact h _ _ M ⟨rfl, rfl⟩ (fun _ _ => rfl) (fun _ _ => rfl) (fun _ => rfl) h25)
    have new' : rTake us (s0 + s1) x8 = true → kX8_rivals_230 G d x1 x2 x3 x4 (jz top) (jz us) x7 x8 1 (nI s) x11 (s0 + s1) M post := fun e => new (by
      unfold rStep
      dsimp only
      rw [hv, if_pos e])
    refine bX8_rivals_200 (ite_fi (by decide) ?_)
    cases us
    · refine ite_ti rfl (ite_i (fun q => keep ?_) (fun q => new' ?_))
      · unfold rTake; simpa using q
      · unfold rTake; simpa using q
    · refine ite_fi (by decide) (ite_i (fun q => keep ?_) (fun q => new' ?_))
      · unfold rTake; simpa using q
      · unfold rTake; simpa using q
theorem c_rivals : ∀ (r : Nat) (d : Nat) (L : List (Nat × Nat)) (o t : Nat) (nx top : Bool) (M : jM) (post : Int32 → jM → Prop), o < 256 → t < 256 → o < 2 ^ nS → t < 2 ^ nS → pop8 o + pop8 t = r → L.length + r ≤ 80 → PM M nS P W → DM M V j → DL M L → (top = true → M 117 25 = -5) →
    (∀ M', DL M' L → Mf M M' → (¬ (top = true ∧ rUs nx o t = true) → M' 117 25 = M 117 25) → ((top = true ∧ rUs nx o t = true) → M' 117 25 = rWho (-5) (rGo V P W r L o t nx)) → post (rVal (rGo V P W r L o t nx)) M') → CI G (d + r + 7) mX8_rivals [.ref 117, .int (nI j), .int (nI o), .int (nI t), .int (jz nx), .int (jz top)] M post := by
  intro r
  induction r with
  | zero =>
    intro d L o t nx top M post ho ht ho2 ht2 hp hlen hP hD hL h25 h
    obtain rfl : o = 0 := (pop_0 o ho).mp (by omega)
    obtain rfl : t = 0 := (pop_0 t ht).mp (by omega)
    exact eX8_rivals (bX8_rivals_0 (ite_ti (by decide) (ite_ti (by decide) (h M hL (Mf.refl M) (fun _ => rfl) (fun q => h25 q.1)))))
  | succ r ih =>
    intro d L o t nx top M post ho ht ho2 ht2 hp hlen hP hD hL h25 h
    have hz : ¬ (o = 0 ∧ t = 0) := fun z => by
      have h1 := (pop_0 o ho).mpr z.1
      have h2 := (pop_0 t ht).mpr z.2
      omega
    obtain ⟨P1, P2, P3, P4⟩ := id hP
    rw [rGo] at h
    rw [show d + (r + 1) + 7 = d + r + 7 + 1 by omega]
    refine eX8_rivals (t_mus ho ht hz ?_)
    generalize hus : rUs nx o t = us at h ⊢
    generalize hset : (if us = true then o else t) = set at h ⊢
    have hset2 : set < 256 := by rw [← hset]; split <;> assumption
    have hset3 : set < 2 ^ nS := by rw [← hset]; split <;> assumption
    generalize hf : (fun s => rVal (rGo V P W r (vE V (P s) L) (if us = true then o ^^^ 2 ^ s else o) (if us = true then t else t ^^^ 2 ^ s) (!us)) + rWorth V P W L us s) = f at h
    have loop : ∀ (q s : Nat) (x8 x9 : Int32) (x : jRv) (M1 : jM), s + q = 8 → s ≤ nS → rM x8 x9 x → DL M1 L → Mf M M1 → (¬ (top = true ∧ us = true) → M1 117 25 = M 117 25) → ((top = true ∧ us = true) → M1 117 25 = rWho (-5) x) → bLoop (rStep f us) set q s x = bLoop (rStep f us) set 8 0 none → kX8_rivals_59 G (d + r + 7) (nI j) (nI o) (nI t) (jz nx) (jz top) (jz us) (nI set) x8 x9 (nI s) M1 post := by
      intro q
      induction q with
      | zero =>
        intro s x8 x9 x M1 hs hs2 i1 i2 i3 i4 i4' i5
        rw [bLoop] at i5
        rw [← i5] at h
        have e8 : x8 = rVal x := by cases x with
          | none => exact i1.1
          | some y => exact i1.1
        refine bX8_rivals_59 (ite_ti (by rw [i3.1 118 (by omega) (by omega), P2, nI_leI (by omega) (by omega)]; omega) ?_)
        rw [e8]
        exact h M1 i2 i3 i4 i4'
      | succ q ihq =>
        intro s x8 x9 x M1 hs hs2 i1 i2 i3 i4 i4' i5
        have e118 : M1 118 = M 118 := i3.1 118 (by omega) (by omega)
        by_cases hsn : s = nS
        · rw [bLoop_none (q + 1) s x (fun i h1 h2 => bit_hi set hset2 nS (by omega) hset3 i (by omega) (by omega))] at i5
          rw [← i5] at h
          have e8 : x8 = rVal x := by cases x with
            | none => exact i1.1
            | some y => exact i1.1
          refine bX8_rivals_59 (ite_ti (by rw [e118, P2, nI_leI (by omega) (by omega)]; omega) ?_)
          rw [e8]
          exact h M1 i2 i3 i4 i4'
        refine bX8_rivals_59 (ite_fi (by rw [e118, P2, nI_leI (by omega) (by omega)]; omega) ?_)
        rw [bit_ok set hset2 s (by omega)]
        rw [bLoop] at i5
        refine ite_i (fun hb => ?_) (fun hb => ?_) <;> rw [show (1 : Int32) = jz true from rfl, jz_eq] at hb
        · rw [if_pos hb] at i5
          obtain ⟨q1, q2⟩ := P4 s
          rw [show (10 : Int32) = nI 10 from rfl, nI_add, nI_clamp (by omega), e118, (P3 s (by omega)).1]
          refine ⟨vp_in_nI (by omega) (by omega), ?_⟩
          refine c_hears (d := d + r + 1) (hD.mf i3) i2 (by omega) q1 (fun M2 g1 g2 g3 => ?_)
          have F2 : Mf M M2 := i3.trans ⟨fun b b1 b2 => g2 b b1 (by omega) (by omega), fun i i1 i2 i3 _ _ => g3 i i1 i2 i3⟩
          have e25 : M2 117 25 = M1 117 25 := g3 25 (by omega) (by omega) (by omega)
          have e118' : M2 118 = M 118 := F2.1 118 (by omega) (by omega)
          have st : nI s + 1 = nI (s + 1) := nI_1 s
          -- behind the recursion
          have rcs : ∀ (o' t' : Nat) (nx' : Bool), o' < 256 → t' < 256 → o' < 2 ^ nS → t' < 2 ^ nS → pop8 o' + pop8 t' = r → f s = rVal (rGo V P W r (vE V (P s) L) o' t' nx') + rWorth V P W L us s →
              kX8_rivals_144 G (d + r + 7) (nI j) (nI o) (nI t) (jz nx) (jz top) (jz us) (nI set) x8 x9 (nI s) (jz (vD V (P s) L)) (nI j) (nI o') (nI t') (jz nx') M2 post := by
            intro o' t' nx' h1 h2 h1' h2' h3 hv
            refine bX8_rivals_144 (ih d (vE V (P s) L) o' t' nx' false M2 _ h1 h2 h1' h2' h3 (by unfold vE; rw [List.length_append, List.length_singleton]; omega) (hP.congr e118') (hD.mf F2) g1 (fun z => by cases z) (fun M3 k1 k2 k3 _ => ?_))
            have e18 : (M3 117 18) - 1 = nI L.length := by
              rw [k1.1]
              unfold vE
              rw [List.length_append, List.length_singleton]
              exact pk_sub (a := L.length + 1) (b := 1) (by omega)
            have e118'' : M3 118 = M 118 := (k2.1 118 (by omega) (by omega)).trans e118'
            rw [e18, show (18 : Int32) = nI 18 from rfl, nI_add, nI_clamp (by omega), e118'', (P3 s (by omega)).2]
            have f25 : M3 117 25 = M1 117 25 := (k3 (by simp)).trans e25
            have done : ∀ g : Int32, g = rWorth V P W L us s → kX8_rivals_200 G (d + r + 7) (nI j) (nI o) (nI t) (jz nx) (jz top) (jz us) (nI set) x8 x9 (nI s) (jz (vD V (P s) L)) (rVal (rGo V P W r (vE V (P s) L) o' t' nx')) (rVal (rGo V P W r (vE V (P s) L) o' t' nx')) g (jup M3 117 18 (nI L.length)) post := by
              intro g hg
              refine t_mtake (x := x) (f := f) rfl (by rw [hv, hg]) i1 (fun q => by rw [jup_sn (by omega), f25]; exact i4' q) (fun y8 y9 M4 hy m1 m2 m3 m4 => ?_)
              refine ihq (s + 1) y8 y9 _ M4 (by omega) (by omega) hy (DL_pop k1 (by rw [m2 18 (by omega)]; (simp (disch := omega) only [jup_ss, jup_sn, jup_n, jup_ne])) (by rw [m1 124 (by omega)]; (simp (disch := omega) only [jup_ne])) (by rw [m1 125 (by omega)]; (simp (disch := omega) only [jup_ne]))) (F2.trans (k2.trans ⟨fun b b1 b2 => by rw [m1 b b1]; (simp (disch := omega) only [jup_ne]), fun i i1 _ _ _ i5 => by rw [m2 i i5]; (simp (disch := omega) only [jup_ss, jup_sn, jup_n, jup_ne])⟩)) (fun q => ?_) m4 i5
              rw [m3 q, jup_sn (by omega), f25]
              exact i4 q
            refine ite_i (fun hq => ?_) (fun hq => ?_) <;> rw [jz_ff] at hq
            · exact done 0 (by unfold rWorth; rw [if_neg (by rw [hq]; decide)])
            · have hq' : vD V (P s) L = true := by simpa using hq
              refine ite_i (fun u => ?_) (fun u => ?_) <;> rw [jz_ff] at u
              · exact ⟨vp_in_nI (by omega) (by omega), done _ (by unfold rWorth; rw [if_pos hq', if_neg (by rw [u]; decide)])⟩
              · exact ⟨vp_in_nI (by omega) (by omega), done _ (by unfold rWorth; rw [if_pos hq', if_pos (by simpa using u)])⟩
          have lt2 : ∀ {a : Nat}, a < 2 ^ nS → a ^^^ 2 ^ s < 2 ^ nS := fun ha => Nat.xor_lt_two_pow ha (Nat.pow_lt_pow_right (by omega) (by omega))
          cases us
          · have hset : t = set := hset
            subst hset
            obtain ⟨p1, p2, p3⟩ := pop_ok t ht s (by omega) hb
            refine ite_ti rfl (bX8_rivals_117 (ite_ti rfl ?_))
            rw [p3]
            exact bX8_rivals_134 (ite_ti rfl (rcs o (t ^^^ 2 ^ s) true ho p2 ho2 (lt2 ht2) (by omega) (by rw [← hf]; rfl)))
          · have hset : o = set := hset
            subst hset
            obtain ⟨p1, p2, p3⟩ := pop_ok o ho s (by omega) hb
            refine ite_fi (by decide) ?_
            rw [p3]
            exact bX8_rivals_117 (ite_fi (by decide) (bX8_rivals_134 (ite_fi (by decide) (rcs (o ^^^ 2 ^ s) t false p2 ht (lt2 ho2) ht2 (by omega) (by rw [← hf]; rfl)))))
        · rw [if_neg hb] at i5
          refine bX8_rivals_260 ?_
          rw [nI_1]
          exact ihq (s + 1) x8 x9 x M1 (by omega) (by omega) i1 i2 i3 i4 i4' i5
    exact loop 8 0 0 0 none M rfl (by omega) ⟨rfl, rfl⟩ hL (Mf.refl M) (fun _ => rfl) (fun q => h25 q.1) rfl
end RVM
