/-- who decided, as the model holds it -/
def vw (V : jEv) (own : Nat) (T : jTl) : Int32 := if vtell V own ≠ 0 then -5 else vwho V T
def Df (M M' : jM) : Prop := (∀ a, a ≠ 117 → M' a = M a) ∧ ∀ i, i ≠ 19 → i ≠ 20 → M' 117 i = M 117 i
theorem Df.refl (M : jM) : Df M M := ⟨fun _ _ => rfl, fun _ _ _ => rfl⟩
theorem Df.trans {M M' M'' : jM} (h : Df M M') (h' : Df M' M'') : Df M M'' := ⟨fun a ha => (h'.1 a ha).trans (h.1 a ha), fun i h1 h2 => (h'.2 i h1 h2).trans (h.2 i h1 h2)⟩
theorem DM.df {M M' : jM} {V : jEv} {j : Nat} (h : DM M V j) (k : Df M M') : DM M' V j := h.congr (k.1 122 (by omega)) (k.1 123 (by omega)) (k.1 118 (by omega)) (k.2 15 (by omega) (by omega))
theorem DL.df {M M' : jM} {L : List (Nat × Nat)} (h : DL M L) (k : Df M M') : DL M' L := h.congr (k.1 124 (by omega)) (k.1 125 (by omega)) (k.2 18 (by omega) (by omega))
/-- 0 or 1, or 2: open -/
def vr (V : jEv) (own : Nat) (L : List (Nat × Nat)) (T : jTl) : Nat := if vtell V own ≠ 0 then (if vtell V own = 1 then 1 else 0) else if T.2.2.2.2.1 + T.2.2.2.2.2 = 0 then 2 else (vby V L T).toNat
theorem nI_toNat (b : Bool) : nI b.toNat = jz b := by cases b <;> rfl
section MD2
variable {G : jGT} {d : Nat} {M : jM} {V : jEv} {L : List (Nat × Nat)} {j own : Nat}
theorem c_mnot {x : Nat} {post : Prop} (hL : DL M L) (h0 : x ≠ 0) (hx : x ≤ L.length) {A B : Prop} (hA : vnot L x = true → A) (hB : vnot L x = false → B) : vp_in (im x) 100 ∧ (if M 125 ((im x).toNatClampNeg) = 0 then A else B) := by
  have h100 := hL.2.1
  obtain ⟨k, rfl⟩ : ∃ k, x = k + 1 := ⟨x - 1, by omega⟩
  have l := (hL.2.2.2 k (by omega)).2
  have l2 := (hL.2.2.1 k (by omega)).2
  rw [im_succ, nI_clamp (by omega), l]
  refine ⟨vp_in_nI (by omega) (by omega), ite_i (fun q => hA ?_) (fun q => hB ?_)⟩
  · rw [show (0 : Int32) = nI 0 from rfl, nI_eq (by omega) (by omega)] at q
    unfold vnot; simpa using q
  · rw [show (0 : Int32) = nI 0 from rfl, nI_eq (by omega) (by omega)] at q
    unfold vnot; simpa using q
theorem c_decidesMost {post : Int32 → jM → Prop} (hM : DM M V j) (hL : DL M L) (ho : own < 256) (h20 : M 117 20 = nI ((tlN V own L L.length).2.2.2.2.1 + (tlN V own L L.length).2.2.2.2.2)) (hne : (tlN V own L L.length).2.2.2.2.1 + (tlN V own L L.length).2.2.2.2.2 ≠ 0)
    (h : post (jz (vmost L (tlN V own L L.length))) M) : CI G (d + 3) mX8_decidesMost [.ref 117, .int (nI own), .int (nI (tlN V own L L.length).2.2.2.2.1)] M post := by
  have h100 := hL.2.1
  refine eX8_decidesMost (bX8_decidesMost_0 ?_)
  have hok := tlN_ok (V := V) (own := own) (L := L) L.length
  have hlo := fun post hp => c_likeOne (G := G) (d := d) (how := 0) (post := post) hM hL ho (by omega) hp
  generalize tlN V own L L.length = T at *
  obtain ⟨h1, h2, h3, h4, h5, h6, h7, h8⟩ := hok
  rw [h20, show (2 : Int32) = nI 2 from rfl, pk_mul]
  unfold vmost at h
  refine ite_i (fun q => ?_) (fun q => ?_)
  · rw [nI_eq (by omega) (by omega)] at q
    rw [if_pos (by omega)] at h
    refine hlo _ ?_
    have e : lsel 0 T = T.1 := rfl
    rw [e]
    refine c_mnot (post := True) hL (fun z => hne (h4.mp z)) h1 (fun z => ?_) (fun z => ?_)
    · rw [z] at h; exact h
    · rw [z] at h; exact h
  · rw [nI_eq (by omega) (by omega)] at q
    rw [if_neg (by omega)] at h
    refine ite_i (fun z => ?_) (fun z => ?_)
    · rw [nI_leI (by omega) (by omega)] at z
      rw [show decide (T.2.2.2.2.1 < T.2.2.2.2.2) = true by simp; omega] at h; exact h
    · rw [nI_leI (by omega) (by omega)] at z
      rw [show decide (T.2.2.2.2.1 < T.2.2.2.2.2) = false by simp; omega] at h; exact h
theorem c_decBy125 {post : Int32 → jM → Prop} {x4 x6 : Int32} (hM : DM M V j) (hL : DL M L) (ho : own < 256) (h20 : M 117 20 = nI ((tlN V own L L.length).2.2.2.2.1 + (tlN V own L L.length).2.2.2.2.2)) (h19 : M 117 19 = -5)
    (h : ∀ M', Df M M' → M' 117 20 = M 117 20 → M' 117 19 = vwho V (tlN V own L L.length) → post (if (tlN V own L L.length).2.2.2.2.1 + (tlN V own L L.length).2.2.2.2.2 = 0 then 2 else jz (vby V L (tlN V own L L.length))) M') :
    kX8_decidesBy_125 G (d + 3) (nI j) (nI own) (nI V.1) x4 (nI (tlN V own L L.length).2.2.2.2.1) x6 M post := by
  have h100 := hL.2.1
  obtain ⟨m1, m2, m3, m4, m5, m6, m7, m8⟩ := hM
  have hM : DM M V j := ⟨m1, m2, m3, m4, m5, m6, m7, m8⟩
  refine bX8_decidesBy_125 ?_
  have hok := tlN_ok (V := V) (own := own) (L := L) L.length
  have hlo := fun how post hh hp => c_likeOne (G := G) (d := d + 1) (how := how) (post := post) hM hL ho hh hp
  have hmo := fun post hn hp => c_decidesMost (G := G) (d := d) (post := post) hM hL ho h20 hn hp
  generalize tlN V own L L.length = T at *
  obtain ⟨h1, h2, h3, h4, h5, h6, h7, h8⟩ := hok
  rw [h20]
  by_cases hz : T.2.2.2.2.1 + T.2.2.2.2.2 = 0
  · refine ite_ti (by rw [hz]; rfl) ?_
    rw [if_pos hz] at h
    exact h M (Df.refl M) rfl (by rw [h19]; unfold vwho; rw [if_pos hz])
  · refine ite_fi (by rw [show (0 : Int32) = nI 0 from rfl, nI_eq (by omega) (by omega)]; exact hz) ?_
    rw [if_neg hz] at h
    have most : ∀ x3 x4 x5 x6 : Int32, (vwho V T = -5) → vby V L T = vmost L T → x5 = nI T.2.2.2.2.1 → kX8_decidesBy_145 G (d + 3) (nI j) (nI own) x3 x4 x5 x6 M post := by
      intro x3 x4 x5 x6 e1 e2 e3
      subst e3
      refine bX8_decidesBy_145 (hmo _ hz ?_)
      have := h M (Df.refl M) rfl (by rw [h19, e1])
      rw [e2] at this; exact this
    have one : ∀ (how : Nat) (x3 x4 x5 x6 : Int32), how ≤ 2 → lsel how T ≠ 0 → lsel how T ≤ L.length → vwho V T = im (lsel how T) → vby V L T = vnot L (lsel how T) → kX8_decidesBy_223 G (d + 3) (nI j) (nI own) x3 x4 x5 x6 (nI own) (nI how) M post := by
      intro how x3 x4 x5 x6 hh e0 el e1 e2
      refine bX8_decidesBy_223 (hlo how _ hh ?_)
      have fin := h (jup M 117 19 (im (lsel how T))) ⟨fun a ha => by (simp (disch := omega) only [jup_ne]), fun i g1 g2 => by (simp (disch := omega) only [jup_ss, jup_sn, jup_n, jup_ne])⟩ (by (simp (disch := omega) only [jup_ss, jup_sn, jup_n, jup_ne])) (by (simp (disch := omega) only [jup_ss, jup_sn, jup_n, jup_ne]); exact e1.symm)
      rw [e2] at fin
      refine c_mnot (post := True) hL e0 el (fun z => bX8_decidesBy_246 ?_) (fun z => bX8_decidesBy_246 ?_)
      · rw [z] at fin; exact fin
      · rw [z] at fin; exact fin
    have n1 : T.1 ≠ 0 := fun z => hz (h4.mp z)
    have n2 : T.2.1 ≠ 0 := fun z => hz (h5.mp z)
    have n3 : T.2.2.1 ≠ 0 := fun z => hz (h6.mp z)
    rcases (show V.1 = 0 ∨ V.1 = 1 ∨ V.1 = 2 ∨ V.1 = 3 ∨ V.1 = 4 ∨ V.1 = 5 ∨ V.1 = 6 by omega) with e | e | e | e | e | e | e
    · have w : vwho V T = im T.1 := by unfold vwho; rw [if_neg hz, e]; rfl
      have b : vby V L T = vnot L T.1 := by unfold vby; rw [e]; rfl
      rw [e]
      exact ite_fi (by decide) (ite_fi (by decide) (ite_fi (by decide) (bX8_decidesBy_191 (ite_fi (by decide) (ite_fi (by decide) (ite_fi (by decide) (ite_fi (by decide) (one 0 _ _ _ _ (by omega) n1 h1 w b))))))))
    · have w : vwho V T = im T.2.1 := by unfold vwho; rw [if_neg hz, e]; rfl
      have b : vby V L T = vnot L T.2.1 := by unfold vby; rw [e]; rfl
      rw [e]
      exact ite_fi (by decide) (ite_fi (by decide) (ite_fi (by decide) (bX8_decidesBy_191 (ite_ti rfl (bX8_decidesBy_204 (one 1 _ _ _ _ (by omega) n2 h2 w b))))))
    · have w : vwho V T = im T.2.2.1 := by unfold vwho; rw [if_neg hz, e]; rfl
      have b : vby V L T = vnot L T.2.2.1 := by unfold vby; rw [e]; rfl
      rw [e]
      exact ite_fi (by decide) (ite_fi (by decide) (ite_fi (by decide) (bX8_decidesBy_191 (ite_fi (by decide) (ite_fi (by decide) (ite_ti rfl (bX8_decidesBy_218 (one 2 _ _ _ _ (by omega) n3 h3 w b))))))))
    · have w : vwho V T = -5 := by unfold vwho; rw [if_neg hz, e]; rfl
      have b : vby V L T = vmost L T := by unfold vby; rw [e]; rfl
      rw [e]
      exact ite_ti rfl (most _ _ _ _ w b rfl)
    · have w : vwho V T = if 0 < T.2.2.2.2.1 ∧ 0 < T.2.2.2.2.2 then -5 else im T.2.1 := by unfold vwho; rw [if_neg hz, e]; rfl
      have b : vby V L T = if 0 < T.2.2.2.2.1 ∧ 0 < T.2.2.2.2.2 then decide (4 < V.2.1) else vnot L T.2.1 := by unfold vby; rw [e]; rfl
      rw [e]
      refine ite_fi (by decide) (ite_fi (by decide) (ite_ti rfl ?_))
      have k191 : ¬ (0 < T.2.2.2.2.1 ∧ 0 < T.2.2.2.2.2) → kX8_decidesBy_191 G (d + 3) (nI j) (nI own) (nI 4) x4 (nI T.2.2.2.2.1) x6 M post := by
        intro q
        rw [if_neg q] at w b
        exact bX8_decidesBy_191 (ite_fi (by decide) (ite_ti rfl (bX8_decidesBy_204 (one 1 _ _ _ _ (by omega) n2 h2 w b))))
      refine ite_i (fun q => k191 ?_) (fun q => ite_i (fun q' => k191 ?_) (fun q' => ?_))
      · rw [show (0 : Int32) = nI 0 from rfl, nI_leI (by omega) (by omega)] at q; omega
      · rw [nI_leI (by omega) (by omega)] at q'; omega
      · rw [show (0 : Int32) = nI 0 from rfl, nI_leI (by omega) (by omega)] at q
        rw [nI_leI (by omega) (by omega)] at q'
        have q0 : 0 < T.2.2.2.2.1 ∧ 0 < T.2.2.2.2.2 := by omega
        rw [if_pos q0] at w b
        rw [show (30 : Int32) = nI 30 from rfl, nI_add, nI_clamp (by omega), m5, show (4 : Int32) = nI 4 from rfl]
        have fin := h M (Df.refl M) rfl (by rw [h19, w])
        rw [b] at fin
        refine ⟨vp_in_nI (by omega) (by omega), ite_i (fun z => bX8_decidesBy_190 ?_) (fun z => bX8_decidesBy_190 ?_)⟩
        · rw [nI_leI (by omega) (by omega)] at z
          rw [show decide (4 < V.2.1) = false by simpa using z] at fin; exact fin
        · rw [nI_leI (by omega) (by omega)] at z
          rw [show decide (4 < V.2.1) = true by simp; omega] at fin; exact fin
    · have w : vwho V T = im T.2.2.1 := by unfold vwho; rw [if_neg hz, e]; rfl
      have b : vby V L T = vnot L T.2.2.1 := by unfold vby; rw [e]; rfl
      rw [e]
      exact ite_fi (by decide) (ite_fi (by decide) (ite_fi (by decide) (bX8_decidesBy_191 (ite_fi (by decide) (ite_fi (by decide) (ite_fi (by decide) (ite_ti rfl (bX8_decidesBy_218 (one 2 _ _ _ _ (by omega) n3 h3 w b)))))))))
    · have w : vwho V T = -5 := by unfold vwho; rw [if_neg hz, e]; rfl
      have b : vby V L T = vmost L T := by unfold vby; rw [e]; rfl
      rw [e]
      exact ite_fi (by decide) (ite_ti rfl (most _ _ _ _ w b rfl))
theorem c_decBy47 {post : Int32 → jM → Prop} (ho : own < 256)
    (h : ∀ M', M' 117 20 = nI ((tlN V own L L.length).2.2.2.2.1 + (tlN V own L L.length).2.2.2.2.2) → M' 117 19 = vw V own (tlN V own L L.length) → Df M M' → post (nI (vr V own L (tlN V own L L.length))) M') :
    ∀ (r k : Nat) (M1 : jM), k + r = L.length → DM M1 V j → DL M1 L → Df M M1 → M1 117 20 = nI ((tlN V own L k).2.2.2.2.1 + (tlN V own L k).2.2.2.2.2) → M1 117 19 = -5 →
      kX8_decidesBy_47 G (d + 3) (nI j) (nI own) (nI V.1) (nI (V.2.2.1 (pop8 own % 4))) (nI (tlN V own L k).2.2.2.2.1) (nI k) M1 post := by
  intro r
  induction r with
  | zero =>
    intro k M1 hk hM hL hD h20 h19
    obtain rfl : k = L.length := by omega
    refine bX8_decidesBy_47 (ite_ti (by rw [hL.1]; exact Int32.le_refl _) ?_)
    have hkd := hM.2.2.2.2.2.2.1
    have hrow := (hM.2.2.2.2.2.1 (pop8 own % 4) (Nat.mod_lt _ (by omega))).2
    have k125 : vtell V own = 0 → kX8_decidesBy_125 G (d + 3) (nI j) (nI own) (nI V.1) (nI (V.2.2.1 (pop8 own % 4))) (nI (tlN V own L L.length).2.2.2.2.1) (nI L.length) M1 post := by
      intro ht
      refine c_decBy125 hM hL ho h20 h19 (fun M' g1 g2 g3 => ?_)
      have := h M' (by rw [g2, h20]) (by unfold vw; rw [if_neg (by omega)]; exact g3) (hD.trans g1)
      unfold vr at this
      rw [if_neg (by omega)] at this
      by_cases z : (tlN V own L L.length).2.2.2.2.1 + (tlN V own L L.length).2.2.2.2.2 = 0
      · rw [if_pos z] at this ⊢; exact this
      · rw [if_neg z, nI_toNat] at this; rw [if_neg z]; exact this
    by_cases e : V.1 = 6
    · have ht : vtell V own = V.2.2.1 (pop8 own % 4) := by unfold vtell; rw [if_pos e]
      refine ite_ti (by rw [e]; rfl) (ite_i (fun q => ?_) (fun q => ite_i (fun q' => bX8_decidesBy_124 ?_) (fun q' => bX8_decidesBy_124 ?_)))
      · rw [show (0 : Int32) = nI 0 from rfl, nI_leI (by omega) (by omega)] at q
        exact k125 (by omega)
      · rw [show (1 : Int32) = nI 1 from rfl, nI_eq (by omega) (by omega)] at q'
        have := h M1 h20 (by unfold vw; rw [if_pos (by omega)]; exact h19) hD
        unfold vr at this
        rw [if_pos (by omega), if_pos (by omega)] at this; exact this
      · rw [show (0 : Int32) = nI 0 from rfl, nI_leI (by omega) (by omega)] at q
        rw [show (1 : Int32) = nI 1 from rfl, nI_eq (by omega) (by omega)] at q'
        have := h M1 h20 (by unfold vw; rw [if_pos (by omega)]; exact h19) hD
        unfold vr at this
        rw [if_pos (by omega), if_neg (by omega)] at this; exact this
    · refine ite_fi (by rw [show (6 : Int32) = nI 6 from rfl, nI_eq (by omega) (by omega)]; exact e) (k125 ?_)
      unfold vtell; rw [if_neg e]
  | succ r ih =>
    intro k M1 hk hM hL hD h20 h19
    have h100 := hL.2.1
    refine bX8_decidesBy_47 (ite_fi (by rw [hL.1, nI_leI (by omega) (by omega)]; omega) ?_)
    have hn := fun M2 => ih (k + 1) M2 (by omega)
    simp only [tlN] at hn
    have hok := tlN_ok (V := V) (own := own) (L := L) k
    generalize tlN V own L k = T at hok hn h20 ⊢
    refine c_isLike hM hL (by omega) ho (fun hl => ite_ti rfl (bX8_decidesBy_96 ?_)) (fun hl => ite_fi (by decide) ?_)
    · rw [nI_1]
      have := hn M1 hM hL hD
      rw [tlAdd, if_pos hl] at this
      exact this h20 h19
    · rw [nI_clamp (by omega), (hL.2.2.2 k (by omega)).2, h20]
      have hf := (hL.2.2.1 k (by omega)).2
      have hD2 : Df M1 (jup M1 117 20 (nI (T.2.2.2.2.1 + T.2.2.2.2.2) + 1)) := ⟨fun a ha => by (simp (disch := omega) only [jup_ne]), fun i g1 g2 => by (simp (disch := omega) only [jup_ss, jup_sn, jup_n, jup_ne])⟩
      have go : ∀ (s1 : Int32) (f : Nat), (lk L k).2 = f → s1 = nI f → f < 2 → kX8_decidesBy_93 G (d + 3) (nI j) (nI own) (nI V.1) (nI (V.2.2.1 (pop8 own % 4))) (nI T.2.2.2.2.1) (nI k) (nI T.2.2.2.2.1) s1 (jup M1 117 20 (nI (T.2.2.2.2.1 + T.2.2.2.2.2) + 1)) post := by
        intro s1 f e1 e2 e3
        refine bX8_decidesBy_93 (bX8_decidesBy_96 ?_)
        have := hn (jup M1 117 20 (nI (T.2.2.2.2.1 + T.2.2.2.2.2) + 1)) (hM.df hD2) (hL.df hD2) (hD.trans hD2)
        rw [tlAdd, if_neg hl, e1] at this
        rw [e2, nI_add, nI_1]
        have w1 : (tlMeet T k (vsc V own (lk L k).1) f).2.2.2.2.1 = T.2.2.2.2.1 + f := by
          unfold tlMeet; dsimp only; split <;> omega
        have w2 : (tlMeet T k (vsc V own (lk L k).1) f).2.2.2.2.1 + (tlMeet T k (vsc V own (lk L k).1) f).2.2.2.2.2 = T.2.2.2.2.1 + T.2.2.2.2.2 + 1 := by
          unfold tlMeet; dsimp only; split <;> omega
        rw [w2, w1] at this
        exact this (by rw [jup_ss, nI_1]) (by (simp (disch := omega) only [jup_ss, jup_sn, jup_n, jup_ne]); exact h19)
      refine ⟨vp_in_nI (by omega) (by omega), ite_i (fun q => ?_) (fun q => ?_)⟩
      · rw [show (0 : Int32) = nI 0 from rfl, nI_eq (by omega) (by omega)] at q
        exact go 0 0 q rfl (by omega)
      · rw [show (0 : Int32) = nI 0 from rfl, nI_eq (by omega) (by omega)] at q
        exact go 1 1 (by omega) rfl (by omega)
theorem c_decidesBy {post : Int32 → jM → Prop} (hM : DM M V j) (hL : DL M L) (ho : own < 256)
    (h : ∀ M', M' 117 20 = nI ((tlN V own L L.length).2.2.2.2.1 + (tlN V own L L.length).2.2.2.2.2) → M' 117 19 = vw V own (tlN V own L L.length) → Df M M' → post (nI (vr V own L (tlN V own L L.length))) M') :
    CI G (d + 4) mX8_decidesBy [.ref 117, .int (nI j), .int (nI own)] M post := by
  obtain ⟨m1, m2, m3, m4, m5, m6, m7, m8⟩ := hM
  have hM : DM M V j := ⟨m1, m2, m3, m4, m5, m6, m7, m8⟩
  have hp := pop8_lt own ho
  refine eX8_decidesBy (bX8_decidesBy_0 ?_)
  rw [show (26 : Int32) = nI 26 from rfl, nI_add, nI_clamp (by omega), m4]
  refine ⟨vp_in_nI (by omega) (by omega), c_count1 ho ?_⟩
  have e1 : (34 : Int32) + 4 * nI j + (nI (pop8 own) - nI (pop8 own) / 4 * 4) = nI (34 + 4 * j + pop8 own % 4) := by
    rw [show (34 : Int32) = nI 34 from rfl, show (4 : Int32) = nI 4 from rfl, pk_div (by omega) (by omega) (by omega), pk_mul, pk_mul, nI_subE (by omega), nI_add, nI_add, show pop8 own - pop8 own / 4 * 4 = pop8 own % 4 by omega]
  rw [e1, nI_clamp (by omega), (m6 _ (Nat.mod_lt _ (by omega))).1]
  have hD : Df M (jup (jup M 117 20 0) 117 19 (-5)) := ⟨fun a ha => by (simp (disch := omega) only [jup_ne]), fun i g1 g2 => by (simp (disch := omega) only [jup_ss, jup_sn, jup_n, jup_ne])⟩
  exact ⟨vp_in_nI (by omega) (by omega), c_decBy47 (M := M) ho h L.length 0 _ (by omega) (hM.df hD) (hL.df hD) hD (by (simp (disch := omega) only [jup_ss, jup_sn, jup_n, jup_ne]); rfl) (by (simp (disch := omega) only [jup_ss, jup_sn, jup_n, jup_ne]))⟩
theorem c_isForIt {post : Int32 → jM → Prop} (hM : DM M V j) (hL : DL M L) (ho : own < 256)
    (h : ∀ M', M' 117 20 = nI ((tlN V own L L.length).2.2.2.2.1 + (tlN V own L L.length).2.2.2.2.2) → M' 117 19 = vw V own (tlN V own L L.length) → Df M M' → post (jz (vD V own L)) M') :
    CI G (d + 5) mX8_isForIt [.ref 117, .int (nI j), .int (nI own)] M post := by
  obtain ⟨m1, m2, m3, m4, m5, m6, m7, m8⟩ := hM
  have hM : DM M V j := ⟨m1, m2, m3, m4, m5, m6, m7, m8⟩
  refine eX8_isForIt (bX8_isForIt_0 (c_decidesBy hM hL ho (fun M' g1 g2 g3 => ?_)))
  have fin := h M' g1 g2 g3
  unfold vD vdec at fin
  generalize tlN V own L L.length = T at *
  rw [show (2 : Int32) = nI 2 from rfl, show (1 : Int32) = nI 1 from rfl]
  by_cases q : vtell V own = 0
  · rw [if_neg (by omega)] at fin
    by_cases q2 : T.2.2.2.2.1 + T.2.2.2.2.2 = 0
    · rw [if_pos q2] at fin
      have hv : vr V own L T = 2 := by unfold vr; rw [if_neg (by omega), if_pos q2]
      rw [hv]
      refine ite_ti rfl ?_
      rw [show (30 : Int32) = nI 30 from rfl, nI_add, nI_clamp (by omega), g3.1 118 (by omega), m5, pk_div (by omega) (by omega) (by omega), pk_mul, nI_subE (by omega), show V.2.1 - V.2.1 / 2 * 2 = V.2.1 % 2 by omega]
      refine ⟨vp_in_nI (by omega) (by omega), ite_i (fun z => ?_) (fun z => ?_)⟩
      · rw [nI_eq (by omega) (by omega)] at z
        rw [show decide (V.2.1 % 2 = 1) = true by simpa using z] at fin; exact fin
      · rw [nI_eq (by omega) (by omega)] at z
        rw [show decide (V.2.1 % 2 = 1) = false by simpa using z] at fin; exact fin
    · rw [if_neg q2] at fin
      have hv : vr V own L T = (vby V L T).toNat := by unfold vr; rw [if_neg (by omega), if_neg q2]
      rw [hv]
      generalize vby V L T = b at fin
      cases b with
      | true => exact ite_fi (by decide) (ite_ti rfl fin)
      | false => exact ite_fi (by decide) (ite_fi (by decide) fin)
  · rw [if_pos q] at fin
    by_cases q2 : vtell V own = 1
    · rw [show decide (vtell V own = 1) = true by simpa using q2] at fin
      have hv : vr V own L T = 1 := by unfold vr; rw [if_pos q, if_pos q2]
      rw [hv]
      exact ite_fi (by decide) (ite_ti rfl fin)
    · rw [show decide (vtell V own = 1) = false by simpa using q2] at fin
      have hv : vr V own L T = 0 := by unfold vr; rw [if_pos q, if_neg q2]
      rw [hv]
      exact ite_fi (by decide) (ite_fi (by decide) fin)
theorem c_writes {p f : Nat} {post : jM → Prop} (hL : DL M L) (h99 : L.length < 100) (hp : p < 256) (hf : f < 2) (h : ∀ M', DL M' (L ++ [(p, f)]) → (∀ a, a ≠ 117 → a ≠ 124 → a ≠ 125 → M' a = M a) → (∀ i, i ≠ 18 → M' 117 i = M 117 i) → post M') : CV G d mX8_writes [.ref 117, .int (nI p), .int (nI f)] M post := by
  refine eX8_writes (bX8_writes_0 ?_)
  rw [hL.1, nI_clamp (by omega), vp_nar_bool hf, nI_1]
  refine ⟨vp_in_nI (by omega) (by omega), vp_in_nI (by omega) (by omega), h _ ?_ (fun a h1 h2 h3 => by (simp (disch := omega) only [jup_ne])) (fun i hi => by (simp (disch := omega) only [jup_ss, jup_sn, jup_n, jup_ne]))⟩
  refine ⟨by (simp (disch := omega) only [jup_ss, jup_sn, jup_n, jup_ne]); simp, by simp; omega, Lok_app hL.2.2.1 hp hf, fun k hk => ?_⟩
  rw [List.length_append, List.length_singleton] at hk
  by_cases e : k = L.length
  · subst e
    rw [lk_last]
    (simp (disch := omega) only [jup_ss, jup_sn, jup_n, jup_ne])
    exact ⟨trivial, trivial⟩
  · rw [lk_app (by omega)]
    simp (disch := omega) only [jup_n, jup_sn]
    exact hL.2.2.2 k (by omega)
theorem DL_pop {e : Nat × Nat} {M' : jM} (hL : DL M (L ++ [e])) (h1 : M' 117 18 = nI L.length) (h2 : M' 124 = M 124) (h3 : M' 125 = M 125) : DL M' L := by
  obtain ⟨a, b, c, g⟩ := hL
  rw [List.length_append, List.length_singleton] at b
  have c' : ∀ k, k < L.length → lk (L ++ [e]) k = lk L k := fun k hk => lk_app hk
  refine ⟨h1, by omega, fun k hk => ?_, fun k hk => ?_⟩
  · have := c k (by rw [List.length_append]; omega)
    rw [c' k hk] at this; exact this
  · have := g k (by rw [List.length_append]; omega)
    rw [c' k hk] at this
    rw [h2, h3]; exact this
/-- hears: decides and writes -/
theorem c_hears {post : Int32 → jM → Prop} (hM : DM M V j) (hL : DL M L) (h99 : L.length < 100) (ho : own < 256)
    (h : ∀ M', DL M' (vE V own L) → (∀ a, a ≠ 117 → a ≠ 124 → a ≠ 125 → M' a = M a) → (∀ i, i ≠ 18 → i ≠ 19 → i ≠ 20 → M' 117 i = M 117 i) → post (jz (vD V own L)) M') :
    CI G (d + 6) mX8_hears [.ref 117, .int (nI j), .int (nI own)] M post := by
  refine eX8_hears (bX8_hears_0 (c_isForIt hM hL ho (fun M' g1 g2 g3 => ?_)))
  rw [← nI_toNat]
  refine c_writes (hL.df g3) h99 ho (by cases vD V own L <;> decide) (fun M2 h1 h2 h3 => ⟨?_, ?_⟩)
  · rw [nI_toNat]; exact jz_01 _
  · rw [nI_toNat]
    exact h M2 h1 (fun a a1 a2 a3 => (h2 a a1 a2 a3).trans (g3.1 a a1)) (fun i i1 i2 i3 => (h3 i i1).trans (g3.2 i i2 i3))
end MD2
