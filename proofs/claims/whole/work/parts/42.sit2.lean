section ST2
variable {G : jGT} {d : Nat} {M : jM} {V : jEv} {L : List (Nat × Nat)}
theorem vtell_le (hS : SE M V) (own : Nat) : vtell V own ≤ 2 := by
  unfold vtell
  split
  · exact (hS.2.2.2.1 _ (Nat.mod_lt _ (by omega))).2
  · omega
theorem c_rowTells {own : Nat} {post : Int32 → jM → Prop} (hS : SE M V) (ho : own < 256) (h : post (nI (vtell V own)) M) : CI G (d + 1) mX5_rowTells [.ref 27, .int (nI own)] M post := by
  refine eX5_rowTells (bX5_rowTells_0 ?_)
  have hk := hS.2.2.2.2.2.1
  rw [hS.1]
  unfold vtell at h
  by_cases q : V.1 = 6
  · rw [if_pos q] at h
    rw [q]
    refine ite_ti rfl (c_bitCount ho ?_)
    have h3 := pop8_lt own ho
    have e : nI (pop8 own) &&& 3 = nI (pop8 own % 4) := pk_andN (n := pop8 own) (by omega) 2 (by decide)
    rw [e, nI_clamp (by omega), (hS.2.2.2.1 _ (Nat.mod_lt _ (by omega))).1]
    exact ⟨vp_in_nI (by omega) (by omega), h⟩
  · rw [if_neg q] at h
    exact ite_fi (by rw [show (6 : Int32) = nI 6 from rfl, nI_eq (by omega) (by omega)]; exact q) h
theorem c_likes {t own seen : Nat} {T : jTl} {post : Int32 → jM → Prop} (ht : jT t) (hT : TLy M t own seen T) (h : post (nI (T.2.2.2.2.1 + T.2.2.2.2.2)) M) : CI G d mX6_likes [.ref t] M post := by
  refine eX6_likes (bX6_likes_0 ht ?_)
  rw [hT.2.2.2.2.2.2.1, hT.2.2.2.2.2.2.2, nI_add]
  exact h
theorem c_torn {t own seen : Nat} {T : jTl} {post : Int32 → jM → Prop} (ht : jT t) (hT : TLy M t own seen T) (hb : T.2.2.2.2.1 + T.2.2.2.2.2 ≤ 1000) (h : post (jz (decide (0 < T.2.2.2.2.1 ∧ 0 < T.2.2.2.2.2))) M) : CI G d mX6_torn [.ref t] M post := by
  refine eX6_torn (bX6_torn_0 ht ?_)
  rw [hT.2.2.2.2.2.2.1, hT.2.2.2.2.2.2.2, show (0 : Int32) = nI 0 from rfl]
  refine ite_i (fun q => ?_) (fun q => ite_i (fun q2 => ?_) (fun q2 => ?_))
  · rw [nI_leI (by omega) (by omega)] at q
    rw [show decide (0 < T.2.2.2.2.1 ∧ 0 < T.2.2.2.2.2) = false by simp; omega] at h; exact h
  · rw [nI_leI (by omega) (by omega)] at q q2
    rw [show decide (0 < T.2.2.2.2.1 ∧ 0 < T.2.2.2.2.2) = false by simp; omega] at h; exact h
  · rw [nI_leI (by omega) (by omega)] at q q2
    rw [show decide (0 < T.2.2.2.2.1 ∧ 0 < T.2.2.2.2.2) = true by simp; omega] at h; exact h
theorem c_isFor {t own k : Nat} {post : Int32 → jM → Prop} (ht : jT t) (ho : own < 256) (hk : k ≤ L.length) (hS : SE M V) (hL : SLi M L) (hT : TLy M t own k (tlN V own L k)) (h : post (jz (vdec V own L (tlN V own L k))) M) : CI G (d + 2) mX5_isFor [.ref 27, .ref t] M post := by
  have hok := tlN_ok (V := V) (own := own) (L := L) k
  generalize tlN V own L k = T at hT hok h
  have h85 := hL.2.1
  obtain ⟨o1, o2, o3, o4, o5, o6, o7, -⟩ := hok
  have htl := vtell_le hS own
  have hkd := hS.2.2.2.2.2.1
  have hv := hS.2.2.2.2.2.2
  refine eX5_isFor (bX5_isFor_0 ht ?_)
  rw [hT.1]
  refine c_rowTells hS ho ?_
  unfold vdec at h
  by_cases q : vtell V own = 0
  · rw [if_neg (by omega)] at h
    rw [q]
    refine ite_ti rfl (c_likes ht hT ?_)
    by_cases q2 : T.2.2.2.2.1 + T.2.2.2.2.2 = 0
    · rw [if_pos q2] at h
      rw [q2]
      refine ite_ti rfl ?_
      have e : nI V.2.1 &&& 1 = nI (V.2.1 % 2) := pk_andN (n := V.2.1) (by omega) 1 (by decide)
      rw [hS.2.1, e]
      by_cases q3 : V.2.1 % 2 = 1
      · rw [q3] at h ⊢; exact ite_ti rfl h
      · rw [show decide (V.2.1 % 2 = 1) = false by simpa using q3] at h
        rw [show V.2.1 % 2 = 0 by omega]; exact ite_fi (by decide) h
    · rw [if_neg q2] at h
      refine ite_fi (by rw [show (0 : Int32) = nI 0 from rfl, nI_eq (by omega) (by omega)]; exact q2) ?_
      rw [hS.1, hT.2.2.1, hT.2.2.2.1, hT.2.2.2.2.1, hT.2.2.2.2.2.2.1, hT.2.2.2.2.2.2.2]
      unfold vby vmost at h
      have nt : ∀ x : Nat, x ≠ 0 → x ≤ k → post (jz (vnot L x)) M → CI G (d + 1) mX5_wasFor [.ref 27, .int (im x)] M (fun r M1 => if r = 0 then post 1 M1 else post 0 M1) := fun x g1 g2 g3 => c_not hL g1 (by omega) g3
      have most : (T.2.2.2.2.1 = T.2.2.2.2.2 → post (jz (vnot L T.1)) M) → (¬ T.2.2.2.2.1 = T.2.2.2.2.2 → post (jz (decide (T.2.2.2.2.1 < T.2.2.2.2.2))) M) →
          (if nI T.2.2.2.2.1 = nI T.2.2.2.2.2 then CI G (d + 1) mX5_wasFor [.ref 27, .int (im T.1)] M (fun r M1 => if r = 0 then post 1 M1 else post 0 M1) else if nI T.2.2.2.2.2 ≤ nI T.2.2.2.2.1 then post 0 M else post 1 M) := by
        intro g1 g2
        have ce : nI T.2.2.2.2.1 = nI T.2.2.2.2.2 ↔ T.2.2.2.2.1 = T.2.2.2.2.2 := nI_eq (by omega) (by omega)
        have cl : nI T.2.2.2.2.2 ≤ nI T.2.2.2.2.1 ↔ T.2.2.2.2.2 ≤ T.2.2.2.2.1 := nI_leI (by omega) (by omega)
        refine ite_i (fun a => nt _ (by omega) (by omega) (g1 (ce.mp a))) (fun a => ite_i (fun b => ?_) (fun b => ?_))
        · have := g2 (fun q => a (ce.mpr q))
          rw [cl] at b
          rw [show decide (T.2.2.2.2.1 < T.2.2.2.2.2) = false by simpa using b] at this; exact this
        · have := g2 (fun q => a (ce.mpr q))
          rw [cl] at b
          rw [show decide (T.2.2.2.2.1 < T.2.2.2.2.2) = true by simp; omega] at this; exact this
      rcases (show V.1 = 0 ∨ V.1 = 1 ∨ V.1 = 2 ∨ V.1 = 3 ∨ V.1 = 4 ∨ V.1 = 5 ∨ V.1 = 6 by omega) with e | e | e | e | e | e | e
      · rw [e] at h ⊢
        refine ite_fi (by decide) (ite_fi (by decide) (ite_fi (by decide) (ite_fi (by decide) (ite_fi (by decide) (ite_fi (by decide) (nt _ (by omega) (by omega) ?_))))))
        exact h
      · rw [e] at h ⊢
        exact ite_ti rfl (nt _ (by omega) (by omega) h)
      · rw [e] at h ⊢
        exact ite_fi (by decide) (ite_ti rfl (nt _ (by omega) (by omega) h))
      · rw [e] at h ⊢
        refine ite_fi (by decide) (ite_fi (by decide) (ite_ti rfl (most (fun a => ?_) (fun a => ?_))))
        · rw [if_pos a] at h; exact h
        · rw [if_neg a] at h; exact h
      · rw [e] at h ⊢
        refine ite_fi (by decide) (ite_fi (by decide) (ite_fi (by decide) (ite_ti rfl (c_torn ht hT (by omega) ?_))))
        have h : post (jz (if 0 < T.2.2.2.2.1 ∧ 0 < T.2.2.2.2.2 then decide (4 < V.2.1) else vnot L T.2.1)) M := h
        by_cases a : 0 < T.2.2.2.2.1 ∧ 0 < T.2.2.2.2.2
        · rw [if_pos a] at h
          rw [show decide (0 < T.2.2.2.2.1 ∧ 0 < T.2.2.2.2.2) = true by simpa using a]
          refine ite_fi (by decide) ?_
          rw [hS.2.1, show (4 : Int32) = nI 4 from rfl]
          have cl : nI V.2.1 ≤ nI 4 ↔ V.2.1 ≤ 4 := nI_leI (by omega) (by omega)
          refine ite_i (fun b => ?_) (fun b => ?_) <;> rw [cl] at b
          · rw [show decide (4 < V.2.1) = false by simpa using b] at h; exact h
          · rw [show decide (4 < V.2.1) = true by simp; omega] at h; exact h
        · rw [if_neg a] at h
          rw [show decide (0 < T.2.2.2.2.1 ∧ 0 < T.2.2.2.2.2) = false by simpa using a]
          refine ite_ti rfl ?_
          rw [hT.2.2.2.1]
          exact nt _ (by omega) (by omega) h
      · rw [e] at h ⊢
        exact ite_fi (by decide) (ite_fi (by decide) (ite_fi (by decide) (ite_fi (by decide) (ite_ti rfl (nt _ (by omega) (by omega) h)))))
      · rw [e] at h ⊢
        refine ite_fi (by decide) (ite_fi (by decide) (ite_fi (by decide) (ite_fi (by decide) (ite_fi (by decide) (ite_ti rfl (most (fun a => ?_) (fun a => ?_)))))))
        · rw [if_pos a] at h; exact h
        · rw [if_neg a] at h; exact h
  · rw [if_pos q] at h
    refine ite_fi (by rw [show (0 : Int32) = nI 0 from rfl, nI_eq (by omega) (by omega)]; exact q) ?_
    rw [show (1 : Int32) = nI 1 from rfl]
    have cl : nI (vtell V own) = nI 1 ↔ vtell V own = 1 := nI_eq (by omega) (by omega)
    refine ite_i (fun a => ?_) (fun a => ?_) <;> rw [cl] at a
    · rw [a] at h; exact h
    · rw [show decide (vtell V own = 1) = false by simpa using a] at h; exact h
theorem c_isOpen {t own k : Nat} {T : jTl} {post : Int32 → jM → Prop} (ht : jT t) (ho : own < 256) (hS : SE M V) (hT : TLy M t own k T) (hb : T.2.2.2.2.1 + T.2.2.2.2.2 ≤ 1000) (h : post (jz (vopen V own T)) M) : CI G (d + 2) mX5_isOpen [.ref 27, .ref t] M post := by
  have htl := vtell_le hS own
  refine eX5_isOpen (bX5_isOpen_0 ht ?_)
  rw [hT.1]
  refine c_rowTells hS ho ?_
  unfold vopen at h
  by_cases q : vtell V own = 0
  · rw [q] at h ⊢
    refine ite_ti rfl (c_likes ht hT ?_)
    by_cases q2 : T.2.2.2.2.1 + T.2.2.2.2.2 = 0
    · rw [q2] at h ⊢; exact ite_ti rfl h
    · rw [show decide (T.2.2.2.2.1 + T.2.2.2.2.2 = 0) = false by simp; omega] at h
      exact ite_fi (by rw [show (0 : Int32) = nI 0 from rfl, nI_eq (by omega) (by omega)]; exact q2) h
  · rw [show decide (vtell V own = 0) = false by simpa using q] at h
    exact ite_fi (by rw [show (0 : Int32) = nI 0 from rfl, nI_eq (by omega) (by omega)]; exact q) h
theorem c_decidedBy {t own k : Nat} {T : jTl} {post : Int32 → jM → Prop} (ht : jT t) (hS : SE M V) (hT : TLy M t own k T) (hb : T.2.2.2.2.1 + T.2.2.2.2.2 ≤ 1000) (h : post (vwho V T) M) : CI G (d + 2) mX5_decidedBy [.ref 27, .ref t] M post := by
  have hkd := hS.2.2.2.2.2.1
  refine eX5_decidedBy (bX5_decidedBy_0 ht (c_likes ht hT ?_))
  rw [hS.1, hT.2.2.1, hT.2.2.2.1, hT.2.2.2.2.1]
  unfold vwho at h
  by_cases q2 : T.2.2.2.2.1 + T.2.2.2.2.2 = 0
  · rw [if_pos q2] at h
    rw [q2]; exact ite_ti rfl h
  · rw [if_neg q2] at h
    refine ite_fi (by rw [show (0 : Int32) = nI 0 from rfl, nI_eq (by omega) (by omega)]; exact q2) ?_
    rcases (show V.1 = 0 ∨ V.1 = 1 ∨ V.1 = 2 ∨ V.1 = 3 ∨ V.1 = 4 ∨ V.1 = 5 ∨ V.1 = 6 by omega) with e | e | e | e | e | e | e
    · rw [e] at h ⊢
      exact ite_fi (by decide) (ite_fi (by decide) (ite_fi (by decide) (ite_fi (by decide) (ite_fi (by decide) (ite_fi (by decide) h)))))
    · rw [e] at h ⊢
      exact ite_ti rfl h
    · rw [e] at h ⊢
      exact ite_fi (by decide) (ite_ti rfl h)
    · rw [e] at h ⊢
      exact ite_fi (by decide) (ite_fi (by decide) (ite_ti rfl h))
    · rw [e] at h ⊢
      refine ite_fi (by decide) (ite_fi (by decide) (ite_fi (by decide) (ite_ti rfl (c_torn ht hT hb ?_))))
      have h : post (if 0 < T.2.2.2.2.1 ∧ 0 < T.2.2.2.2.2 then -5 else im T.2.1) M := h
      by_cases a : 0 < T.2.2.2.2.1 ∧ 0 < T.2.2.2.2.2
      · rw [if_pos a] at h
        rw [show decide (0 < T.2.2.2.2.1 ∧ 0 < T.2.2.2.2.2) = true by simpa using a]
        exact ite_fi (by decide) h
      · rw [if_neg a] at h
        rw [show decide (0 < T.2.2.2.2.1 ∧ 0 < T.2.2.2.2.2) = false by simpa using a]
        rw [hT.2.2.2.1]
        exact ite_ti rfl h
    · rw [e] at h ⊢
      exact ite_fi (by decide) (ite_fi (by decide) (ite_fi (by decide) (ite_fi (by decide) (ite_ti rfl h))))
    · rw [e] at h ⊢
      exact ite_fi (by decide) (ite_fi (by decide) (ite_fi (by decide) (ite_fi (by decide) (ite_fi (by decide) (ite_ti rfl h)))))
theorem c_wins {own : Nat} {post : Int32 → jM → Prop} (ho : own < 256) (hS : SE M V) (hL : SLi M L) (h : ∀ M', TLy M' 33 own L.length (tlN V own L L.length) → (∀ a, a ≠ 33 → M' a = M a) → post (jz (vD V own L)) M') : CI G (d + 3) mX5_wins [.ref 27, .int (nI own)] M post := by
  refine eX5_wins (bX5_wins_0 (c_begin jT_33 (fun M1 h1 h2 => ?_)))
  have S1 : SE M1 V := hS.congr (fun k hk => by rw [h2 27 (by omega)]) (fun a g1 g2 => h2 a (by omega))
  have L1 : SLi M1 L := hL.congr (by rw [h2 27 (by omega)]) (h2 31 (by omega)) (h2 32 (by omega))
  rw [L1.1]
  refine c_follow jT_33 ho (Nat.zero_le _) (Nat.le_refl _) S1 L1 h1 (fun M2 h3 h4 => ?_)
  have S2 : SE M2 V := S1.congr (fun k hk => by rw [h4 27 (by omega)]) (fun a g1 g2 => h4 a (by omega))
  have L2 : SLi M2 L := L1.congr (by rw [h4 27 (by omega)]) (h4 31 (by omega)) (h4 32 (by omega))
  refine c_isFor jT_33 ho (Nat.le_refl _) S2 L2 h3 ⟨jz_01 _, h M2 h3 (fun a ha => (h4 a ha).trans (h2 a ha))⟩
theorem c_become {t u own seen : Nat} {T : jTl} {post : jM → Prop} (ht : jT t) (hu : jT u) (hne : t ≠ u) (hT : TLy M u own seen T) (h : ∀ M', TLy M' t own seen T → (∀ a, a ≠ t → M' a = M a) → post M') : CV G d mX6_become [.ref t, .ref u] M post := by
  refine eX6_become (bX6_become_0 ht hu ?_)
  obtain ⟨a0, a1, a2, a3, a4, a5, a6, a7⟩ := hT
  have hne' := Ne.symm hne
  refine h _ ?_ (fun a ha => by (simp (disch := omega) only [jup_ne]))
  refine ⟨?_, ?_, ?_, ?_, ?_, ?_, ?_, ?_⟩ <;> simp (disch := first | assumption | omega) only [jup_ss, jup_sn, jup_n] <;> assumption
theorem c_now {u own seen : Nat} {post : Nat → jM → Prop} (hu : jT u) (hne : 34 ≠ u) (ho : own < 256) (hs : seen ≤ L.length) (hS : SE M V) (hL : SLi M L) (hT : TLy M u own seen (tlN V own L seen)) (h : ∀ M', TLy M' 34 own L.length (tlN V own L L.length) → (∀ a, a ≠ 34 → M' a = M a) → post 34 M') : CR G (d + 2) mX5_now [.ref 27, .ref u] M post := by
  refine eX5_now (bX5_now_0 hu (c_become jT_34 hu hne hT (fun M1 h1 h2 => ?_)))
  have S1 : SE M1 V := hS.congr (fun k hk => by rw [h2 27 (by omega)]) (fun a g1 g2 => h2 a (by omega))
  have L1 : SLi M1 L := hL.congr (by rw [h2 27 (by omega)]) (h2 31 (by omega)) (h2 32 (by omega))
  rw [L1.1]
  exact c_follow jT_34 ho hs (Nat.le_refl _) S1 L1 h1 (fun M2 h3 h4 => h M2 h3 (fun a ha => (h4 a ha).trans (h2 a ha)))
theorem c_winsNow {u own seen : Nat} {post : Int32 → jM → Prop} (hu : jT u) (hne : 34 ≠ u) (ho : own < 256) (hs : seen ≤ L.length) (hS : SE M V) (hL : SLi M L) (hT : TLy M u own seen (tlN V own L seen)) (h : ∀ M', (∀ a, a ≠ 34 → M' a = M a) → post (jz (vD V own L)) M') : CI G (d + 3) mX5_winsNow [.ref 27, .ref u] M post := by
  refine eX5_winsNow (bX5_winsNow_0 hu (c_now hu hne ho hs hS hL hT (fun M2 h3 h4 => ⟨jT_34, ?_⟩)))
  have S2 : SE M2 V := hS.congr (fun k hk => by rw [h4 27 (by omega)]) (fun a g1 g2 => h4 a (by omega))
  have L2 : SLi M2 L := hL.congr (by rw [h4 27 (by omega)]) (h4 31 (by omega)) (h4 32 (by omega))
  exact c_isFor jT_34 ho (Nat.le_refl _) S2 L2 h3 ⟨jz_01 _, h M2 h4⟩
theorem vp_nar_bool {f : Nat} (hf : f < 2) : vp_nar .boolean (nI f) = nI f := by
  rcases (show f = 0 ∨ f = 1 by omega) with rfl | rfl <;> decide +kernel
theorem c_push {p f : Nat} {post : jM → Prop} (hL : SLi M L) (h85 : L.length < 85) (hp : p < 256) (hf : f < 2) (h : ∀ M', SLi M' (L ++ [(p, f)]) → (∀ a, a ≠ 27 → a ≠ 31 → a ≠ 32 → M' a = M a) → (∀ k, k ≠ 6 → M' 27 k = M 27 k) → post M') : CV G d mX5_push [.ref 27, .int (nI p), .int (nI f)] M post := by
  refine eX5_push (bX5_push_0 ?_)
  rw [hL.1, if_neg (nI_pos (by omega)), if_neg (by rw [show (85 : Int32) = nI 85 from rfl, nI_leI (by omega) (by omega)]; omega), nI_clamp (by omega), vp_nar_bool hf, show nI L.length + 1 = nI (L.length + 1) from nI_1 _]
  refine ⟨vp_in_nI (by omega) (by omega), vp_in_nI (by omega) (by omega), h _ ⟨?_, ?_, Lok_app hL.2.2.1 hp hf, fun k hk => ?_⟩ (fun a h1 h2 h3 => by (simp (disch := omega) only [jup_ne])) (fun k hk => by (simp (disch := omega) only [jup_ss, jup_sn, jup_n, jup_ne]))⟩
  · (simp (disch := omega) only [jup_ss, jup_sn, jup_n, jup_ne]); rw [List.length_append]; rfl
  · rw [List.length_append]; simp; omega
  · by_cases e : k < L.length
    · rw [lk_app e]
      obtain ⟨l1, l2⟩ := hL.2.2.2 k e
      exact ⟨by (simp (disch := omega) only [jup_ss, jup_sn, jup_n, jup_ne]); exact l1, by (simp (disch := omega) only [jup_ss, jup_sn, jup_n, jup_ne]); exact l2⟩
    · have : k = L.length := by rw [List.length_append] at hk; simp at hk; omega
      subst this
      rw [lk_last]
      exact ⟨by (simp (disch := omega) only [jup_ss, jup_sn, jup_n, jup_ne]), by (simp (disch := omega) only [jup_ss, jup_sn, jup_n, jup_ne])⟩
theorem SLi_pop {e : Nat × Nat} {M' : jM} (hL : SLi M (L ++ [e])) (h1 : M' 27 6 = nI L.length) (h2 : M' 31 = M 31) (h3 : M' 32 = M 32) : SLi M' L := by
  have hl : (L ++ [e]).length = L.length + 1 := by simp
  refine ⟨h1, by have := hL.2.1; omega, fun k hk => ?_, fun k hk => ?_⟩
  · have := hL.2.2.1 k (by omega)
    rw [lk_app hk] at this; exact this
  · have := hL.2.2.2 k (by omega)
    rw [lk_app hk] at this; rw [h2, h3]; exact this
theorem c_pop {e : Nat × Nat} {post : jM → Prop} (hL : SLi M (L ++ [e])) (h : ∀ M', SLi M' L → (∀ a, a ≠ 27 → M' a = M a) → (∀ k, k ≠ 6 → M' 27 k = M 27 k) → post M') : CV G (d + 1) mX5_pop [.ref 27] M post := by
  refine eX5_pop (bX5_pop_0 ?_)
  have hl : (L ++ [e]).length = L.length + 1 := by simp
  have h85 := hL.2.1
  rw [hL.1, hl, show nI (L.length + 1) - 1 = nI L.length from nI_pred _]
  have e1 : (if (0 : Int32) < nI L.length then nI L.length else 0) = nI L.length := by
    split
    · rfl
    · rename_i q
      rw [show (0 : Int32) = nI 0 from rfl, nI_ltI (by omega) (by omega)] at q
      have : L.length = 0 := by omega
      rw [this]; rfl
  rw [e1]
  exact h _ (SLi_pop hL (by (simp (disch := omega) only [jup_ss, jup_sn, jup_n, jup_ne])) (by (simp (disch := omega) only [jup_ne])) (by (simp (disch := omega) only [jup_ne]))) (fun a ha => by (simp (disch := omega) only [jup_ne])) (fun k hk => by (simp (disch := omega) only [jup_ss, jup_sn, jup_n, jup_ne]))
end ST2
