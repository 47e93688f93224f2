def jFl : List Cond := flatC (Jvm.Cond.and given_1 narrow_1)
def tAB : Term := .static RX7 "ABOVE" "[I"
def tBO : Term := .static RX1 "BODIES" "[I"
def tSt (i : Nat) : Term := ([.string RX3 107, .string RX3 109, .string RX3 111, .string RX8 99, .string RX8 105] : List Term).getD i (.string RX3 107)
theorem fl_AB : ∀ j, j < 7 → Cond.eq (.elem tAB (.int (Int32.ofNat j))) (.int (jABOVE j)) ∈ jFl := by decide +kernel
theorem fl_BO : ∀ j, j < 21 → Cond.eq (.elem tBO (.int (Int32.ofNat j))) (.int (jBODIES j)) ∈ jFl := by decide +kernel
theorem fl_AB2 : Cond.arrayOf tAB .int ∈ jFl ∧ Cond.eq (.length tAB) (.int (Int32.ofNat 7)) ∈ jFl ∧ Cond.arrayOf tBO .int ∈ jFl ∧ Cond.eq (.length tBO) (.int (Int32.ofNat 21)) ∈ jFl := by decide +kernel
theorem fl_CS : Cond.eq (.static RJ0 "COMPACT_STRINGS" "Z") (.int 1) ∈ jFl ∧ Cond.isRef (.static RJ3 "SIOOBE_FORMATTER" jFMT) ∈ jFl := by decide +kernel
theorem fl_st : ∀ i, i < 5 → Cond.exactly (tSt i) "java/lang/String" ∈ jFl ∧ Cond.eq (.field (tSt i) "java/lang/String" "coder" "B") (.int 0) ∈ jFl ∧ Cond.arrayOf (.field (tSt i) "java/lang/String" "value" "[B") .byte ∈ jFl ∧ Cond.eq (.length (.field (tSt i) "java/lang/String" "value" "[B")) (.int (Int32.ofNat (jSlen.getD i 0))) ∈ jFl := by decide +kernel
theorem fl_sb : ∀ i, i < 5 → ∀ j, j < jSlen.getD i 0 → Cond.eq (.elem (.field (tSt i) "java/lang/String" "value" "[B") (.int (Int32.ofNat j))) (.int ((jSbyt.getD i []).getD j 0)) ∈ jFl := by decide +kernel
theorem fl_ne : ∀ i, i < 5 → ∀ j, j < 5 → i ≠ j → (Cond.not (Cond.eq (tSt i) (tSt j)) ∈ jFl ∨ Cond.not (Cond.eq (tSt j) (tSt i)) ∈ jFl) := by decide +kernel
theorem fl_eq : Cond.eq (.string RX3 107) (.string RX8 117) ∈ jFl ∧ Cond.eq (.string RX3 109) (.string RX8 123) ∈ jFl ∧ Cond.eq (.string RX3 111) (.string RX8 125) ∈ jFl := by decide +kernel
theorem tb_st : (lw_tbl[469]? = some (.laysStatic RJ0 "COMPACT_STRINGS" "Z") ∧ lw_tbl[485]? = some (.laysStatic RJ3 "SIOOBE_FORMATTER" jFMT) ∧ lw_tbl[871]? = some (.laysStatic RX1 "BODIES" "[I") ∧ lw_tbl[873]? = some (.laysStatic RX7 "ABOVE" "[I")) ∧ lw_tbl[73]? = some (.initialized RJ0) ∧ lw_tbl[63]? = some (.initialized RX7) ∧ lw_tbl[70]? = some (.initialized RX1) ∧ lw_tbl[75]? = some (.initialized RJ3) := by decide +kernel
theorem tb_ar : lw_tbl[167]? = some (.arrayClass .int) ∧ lw_tbl[168]? = some (.arrayClass .byte) ∧ lw_tbl[285]? = some (.arrayClass .boolean) ∧ lw_tbl[332]? = some (.arrayOver (.object RX6)) ∧ lw_tbl[872]? = some (.fieldLinkNest RX1 39 RX7 "ABOVE" "[I" RX7) := by decide +kernel
theorem tb_sr : (lw_tbl[457]? = some (.stringRef RX3 107 "weigh ") ∧ lw_tbl[458]? = some (.stringRef RX3 109 "clash ") ∧ lw_tbl[459]? = some (.stringRef RX3 111 "bar ") ∧ lw_tbl[1057]? = some (.stringRef RX8 99 "pkvd")) ∧ lw_tbl[1062]? = some (.stringRef RX8 105 "<=>") ∧ lw_tbl[1022]? = some (.stringRef RX8 117 "weigh ") ∧ lw_tbl[1063]? = some (.stringRef RX8 123 "clash ") ∧ lw_tbl[1064]? = some (.stringRef RX8 125 "bar ") := by decide +kernel
theorem jnests_in : ∀ w ∈ jnests, w ∈ lw_tbl ∧ w.onTables = true := by
  intro w hw
  rcases List.mem_append.mp hw with h | h
  · rcases List.mem_singleton.mp h with rfl
    exact ⟨List.mem_of_getElem? tb_ar.2.2.2.2, rfl⟩
  · obtain ⟨h1, h2⟩ := List.mem_filter.mp h
    refine ⟨h1, ?_⟩
    cases w <;> simp at h2
    rfl
theorem arr_of {s : State} {args : Array Value} {ty : FieldType} (h : (Cond.arrayClass ty).before args s = true) (hty : ∀ C, ty ≠ .object C) : ∃ cA, ArrOfT s cA ty ∧ va_RA s cA ty := by
  obtain ⟨cA, kA, comp, h1, h2, h3⟩ := Cond.arrayClass_spec h
  refine ⟨cA, fun n z => ⟨fun k h => (by cases h), kA, h2, comp, h3⟩, ?_⟩
  cases ty with
  | object C => exact absurd rfl (hty C)
  | _ => exact h1
theorem law_G {l : Launch} {s : State} {b L : Nat} {xs : Nat → Int32} {args : Array Value} (hL : L ≤ 320) (hts : ∀ w ∈ lw_tbl, w.before args s = true) (hX : va_X b L xs s s.heap) (hbl : b < s.heap.size) (hgv : (Jvm.Cond.and given_1 narrow_1).before args s = true) :
    ∃ G : jGT, jl G = l ∧ jb G = s.heap.size ∧ jHs G = s.heap ∧ jad G 2000 = b ∧ jL G = L ∧ jO G s := by
  have hs : ∀ c ∈ jFl, c.before args s = true := flat_of_before _ hgv
  have ht : ∀ {k : Nat} {w : Cond}, lw_tbl[k]? = some w → w.before args s = true := fun h => hts _ (List.mem_of_getElem? h)
  have hA : ∀ a : Nat, a < s.heap.size → ¬ (fun q : Nat => s.heap.size ≤ q) a := fun a ha => Nat.not_le.mpr ha
  obtain ⟨⟨t1, t2, t3, t4⟩, t5, t6, t7, t8⟩ := tb_st
  obtain ⟨u1, u2, u3, u4, u5⟩ := tb_ar
  obtain ⟨⟨v1, v2, v3, v4⟩, v5, v6, v7, v8⟩ := tb_sr
  -- the classes
  obtain ⟨c0, i0, k0⟩ := u_known (C := RX0) (T := TX0) (N := 3) (n := 3) hts inX0 (hts (.instantiable RX0 3) (by decide +kernel))
  obtain ⟨c1, i1, k1⟩ := u_known (C := RX1) (T := TX1) (N := 5) (n := 5) hts inX1 (hts (.instantiable RX1 5) (by decide +kernel))
  obtain ⟨c2, i2, k2⟩ := u_known (C := RX2) (T := TX2) (N := 17) (n := 17) hts inX2 (hts (.instantiable RX2 17) (by decide +kernel))
  obtain ⟨c3, i3, k3⟩ := u_known (C := RX3) (T := TX3) (N := 19) (n := 19) hts inX3 (hts (.instantiable RX3 19) (by decide +kernel))
  obtain ⟨c4, i4, k4⟩ := u_known (C := RX4) (T := TX4) (N := 7) (n := 7) hts inX4 (hts (.instantiable RX4 7) (by decide +kernel))
  obtain ⟨c5, i5, k5⟩ := u_known (C := RX5) (T := TX5) (N := 11) (n := 11) hts inX5 (hts (.instantiable RX5 11) (by decide +kernel))
  obtain ⟨c6, i6, k6⟩ := u_known (C := RX6) (T := TX6) (N := 8) (n := 8) hts inX6 (hts (.instantiable RX6 8) (by decide +kernel))
  obtain ⟨c7, i7, k7⟩ := u_known (C := RX7) (T := TX7) (N := 8) (n := 8) hts inX7 (hts (.instantiable RX7 8) (by decide +kernel))
  obtain ⟨c8, i8, k8⟩ := u_known (C := RX8) (T := TX8) (N := 31) (n := 31) hts inX8 (hts (.instantiable RX8 31) (by decide +kernel))
  obtain ⟨dC, dI, hK⟩ : ∃ (dC : Nat → ClassId) (dI : Nat → Nat → Nat), ∀ (k : Nat) (q : vw_C), vwCl[k]? = some q → u_Kn s q.1 q.2.1 q.2.2 (dC k) (dI k) := by
    refine ⟨fun k => if k = 0 then c0 else if k = 1 then c1 else if k = 2 then c2 else if k = 3 then c3 else if k = 4 then c4 else if k = 5 then c5 else if k = 6 then c6 else if k = 7 then c7 else c8, fun k => if k = 0 then i0 else if k = 1 then i1 else if k = 2 then i2 else if k = 3 then i3 else if k = 4 then i4 else if k = 5 then i5 else if k = 6 then i6 else if k = 7 then i7 else i8, ?_⟩
    intro k q hq
    match k, hq with
    | 0, hq => cases hq; exact k0
    | 1, hq => cases hq; exact k1
    | 2, hq => cases hq; exact k2
    | 3, hq => cases hq; exact k3
    | 4, hq => cases hq; exact k4
    | 5, hq => cases hq; exact k5
    | 6, hq => cases hq; exact k6
    | 7, hq => cases hq; exact k7
    | 8, hq => cases hq; exact k8
    | k + 9, hq => simp at hq
  -- the arrays' classes
  obtain ⟨a0, e0, f0⟩ := arr_of (ht u1) (fun C => by simp)
  obtain ⟨a1, e1, f1⟩ := arr_of (ht u2) (fun C => by simp)
  obtain ⟨a2, e2, f2⟩ := arr_of (ht u3) (fun C => by simp)
  obtain ⟨a3, e3, f3⟩ : ∃ cA, ArrOfT s cA (.object RX6) ∧ va_RA s cA (.object RX6) := by
    obtain ⟨comp, c, k, h1, h2, h3, h4, h5⟩ := Cond.arrayOver_spec (ht u4)
    exact ⟨c, fun n z => ⟨fun k h => (by cases h), k, h3, comp, h4⟩, k, comp, h3, h4, h1, h5⟩
  -- the constant arrays
  obtain ⟨aA, hA1, hA2⟩ := va_Tof (tm := tAB) (ty := .int) (N := 7) (f := fun j => .int (jABOVE j)) (A := fun q : Nat => s.heap.size ≤ q) (by omega) (hs _ fl_AB2.1) (va_eqt (hs _ fl_AB2.2.1)) (fun j hj => va_eqt (hs _ (fl_AB j hj))) hA
  obtain ⟨aB, hB1, hB2⟩ := va_Tof (tm := tBO) (ty := .int) (N := 21) (f := fun j => .int (jBODIES j)) (A := fun q : Nat => s.heap.size ≤ q) (by omega) (hs _ fl_AB2.2.2.1) (va_eqt (hs _ fl_AB2.2.2.2)) (fun j hj => va_eqt (hs _ (fl_BO j hj))) hA
  have zA := va_Zof (A := fun q : Nat => s.heap.size ≤ q) (ht t4) (ht t6) hA1 hA
  have zB := va_Zof (A := fun q : Nat => s.heap.size ≤ q) (ht t3) (ht t7) hB1 hA
  have zC := va_Zof (A := fun q : Nat => s.heap.size ≤ q) (ht t1) (ht t5) (va_eqt (hs _ fl_CS.1)) hA
  have zF := va_Zqof (A := fun q : Nat => s.heap.size ≤ q) (ht t2) (ht t8) (hs _ fl_CS.2) hA
  obtain ⟨aF, hF⟩ : ∃ aF : Nat, va_Z RJ3 "SIOOBE_FORMATTER" jFMT .null (fun q : Nat => s.heap.size ≤ q) s s.heap ∨ va_Z RJ3 "SIOOBE_FORMATTER" jFMT (.ref aF) (fun q : Nat => s.heap.size ≤ q) s s.heap := by
    rcases zF with h | ⟨t, h⟩
    · exact ⟨0, Or.inl h⟩
    · exact ⟨t, Or.inr h⟩
  obtain ⟨adK, adV, hS1, hS2⟩ := vk_Sof (N := 5) (tm := tSt) (len := jSlen) (byt := jSbyt) (A := fun q : Nat => s.heap.size ≤ q) (args := args) (s := s) (fun i hi => by have := (jsl_ok i hi).1; omega) (fun i hi => hs _ (fl_st i hi).1) (fun i hi => hs _ (fl_st i hi).2.1) (fun i hi => hs _ (fl_st i hi).2.2.1) (fun i hi => hs _ (fl_st i hi).2.2.2) (fun i hi j hj => hs _ (fl_sb i hi j hj)) (fun i j hi hj hne => (fl_ne i hi j hj hne).imp (hs _) (hs _)) hA
  refine ⟨(l, (dC, dI), fun k => if k = 0 then a0 else if k = 1 then a1 else if k = 2 then a2 else a3, s.heap.size, s.heap, fun k => if k < 1000 then s.heap.size + k else if k = 1000 then aA else if k = 1001 then aB else if k = 2000 then b else if k < 4000 then adK (k - 3000) else if k < 5000 then adV (k - 4000) else aF, L, xs), rfl, rfl, rfl, rfl, rfl, ?_⟩
  refine ⟨⟨rfl, fun k hk => if_pos hk, hL⟩, ⟨hK, fun k q hq => ?_⟩, va_AO.of (ht u4), fun w hw => va_Nw.of (jnests_in w hw).2 (hts w (jnests_in w hw).1), zA, zB, fun k N f e => ?_, zC, ?_, fun i hi => ?_, fun q hq => ?_⟩
  · match k, hq with
    | 0, hq => cases hq; exact ⟨e0, f0⟩
    | 1, hq => cases hq; exact ⟨e1, f1⟩
    | 2, hq => cases hq; exact ⟨e2, f2⟩
    | 3, hq => cases hq; exact ⟨e3, f3⟩
    | k + 4, hq => simp [jtys] at hq
  · unfold jold at e
    split at e
    · rename_i h; subst h; cases e; exact ⟨by omega, hA2⟩
    · split at e
      · rename_i h; subst h; cases e; exact ⟨by omega, hB2⟩
      · split at e
        · rename_i h
          subst h
          cases e
          obtain ⟨scr, x1, x2, x3, x4, x5⟩ := hX
          exact ⟨hL, scr, x1, x2, x3, Nat.le_of_eq x4.symm, by rw [x4]; rfl, x5, hA b hbl⟩
        · cases e
  · exact hF
  · have eK : jad (l, (dC, dI), (fun k => if k = 0 then a0 else if k = 1 then a1 else if k = 2 then a2 else a3), s.heap.size, s.heap, (fun k => if k < 1000 then s.heap.size + k else if k = 1000 then aA else if k = 1001 then aB else if k = 2000 then b else if k < 4000 then adK (k - 3000) else if k < 5000 then adV (k - 4000) else aF), L, xs) (3000 + i) = adK i := by
      show (if 3000 + i < 1000 then _ else _) = _
      rw [if_neg (by omega), if_neg (by omega), if_neg (by omega), if_neg (by omega), if_pos (by omega)]
      rw [Nat.add_sub_cancel_left]
    have eV : jad (l, (dC, dI), (fun k => if k = 0 then a0 else if k = 1 then a1 else if k = 2 then a2 else a3), s.heap.size, s.heap, (fun k => if k < 1000 then s.heap.size + k else if k = 1000 then aA else if k = 1001 then aB else if k = 2000 then b else if k < 4000 then adK (k - 3000) else if k < 5000 then adV (k - 4000) else aF), L, xs) (4000 + i) = adV i := by
      show (if 4000 + i < 1000 then _ else _) = _
      rw [if_neg (by omega), if_neg (by omega), if_neg (by omega), if_neg (by omega), if_neg (by omega), if_pos (by omega)]
      rw [Nat.add_sub_cancel_left]
    rw [eK, eV]
    exact hS1.1 i hi
  · have key : ∀ (own : String) (k : Nat) (tx : String) (t : Nat), t < 5 → (Cond.stringRef own k tx).before args s = true → (Term.string own k).eval args s none [] s = some (.ref (adK t)) → vk_R own k tx (if 3000 + t < 1000 then s.heap.size + (3000 + t) else if 3000 + t = 1000 then aA else if 3000 + t = 1001 then aB else if 3000 + t = 2000 then b else if 3000 + t < 4000 then adK (3000 + t - 3000) else if 3000 + t < 5000 then adV (3000 + t - 4000) else aF) s := by
      intro own k tx t h5 h1 h2
      rw [if_neg (by omega), if_neg (by omega), if_neg (by omega), if_neg (by omega), if_pos (by omega), show 3000 + t - 3000 = t by omega]
      exact vk_R.of h1 h2
    rcases List.mem_cons.mp hq with rfl | hq
    · exact key _ _ _ 0 (by omega) (ht v1) (hS2 0 (by omega))
    rcases List.mem_cons.mp hq with rfl | hq
    · exact key _ _ _ 1 (by omega) (ht v2) (hS2 1 (by omega))
    rcases List.mem_cons.mp hq with rfl | hq
    · exact key _ _ _ 2 (by omega) (ht v3) (hS2 2 (by omega))
    rcases List.mem_cons.mp hq with rfl | hq
    · exact key _ _ _ 3 (by omega) (ht v4) (hS2 3 (by omega))
    rcases List.mem_cons.mp hq with rfl | hq
    · exact key _ _ _ 4 (by omega) (ht v5) (hS2 4 (by omega))
    rcases List.mem_cons.mp hq with rfl | hq
    · exact key _ _ _ 0 (by omega) (ht v6) (va_eqR (hs _ fl_eq.1) (hS2 0 (by omega)))
    rcases List.mem_cons.mp hq with rfl | hq
    · exact key _ _ _ 1 (by omega) (ht v7) (va_eqR (hs _ fl_eq.2.1) (hS2 1 (by omega)))
    rcases List.mem_cons.mp hq with rfl | hq
    · exact key _ _ _ 2 (by omega) (ht v8) (va_eqR (hs _ fl_eq.2.2) (hS2 2 (by omega)))
    cases hq
