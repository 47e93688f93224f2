/-- a field that may be set: b: boolean -/
def jPL (own : String) (i ci j : Nat) (b : Bool) : Prop := ∃ q : vw_C, vwCl[ci]? = some q ∧ j < q.2.2 ∧ Cond.fieldLink own i (q.2.1 j).1 (q.2.1 j).2.1 (q.2.1 j).2.2.1 ∈ gTbl ∧ (q.2.1 j).2.2.2 = false ∧ (q.2.1 j).2.2.1 = (if b then "Z" else "I")
def jRL (own : String) (i ci j : Nat) : Prop := ∃ q : vw_C, vwCl[ci]? = some q ∧ j < q.2.2 ∧ Cond.fieldLink own i (q.2.1 j).1 (q.2.1 j).2.1 (q.2.1 j).2.2.1 ∈ gTbl ∧ (q.2.1 j).2.2.2 = true ∧ (q.2.1 j).1 = own ∧ ((∃ t, parseFieldDescriptor (q.2.1 j).2.2.1 = some (.object t)) ∨ ∃ t, parseFieldDescriptor (q.2.1 j).2.2.1 = some (.array t))
theorem jfs_set {G : jGT} {M : jM} {r : jR} {k ci N j : Nat} {x : Int32} (hj : j < N) (hr : jref ci j = false) : ((List.range N).map (jfv G M r k ci)).set j (.int x) = (List.range N).map (jfv G (jup M k j x) r k ci) := by
  apply List.ext_getElem?
  intro a
  by_cases ha : a = j
  · subst ha
    simp [hj, jfv, hr, jup]
  · by_cases hN : a < N
    · rw [List.getElem?_set_ne (Ne.symm ha)]
      simp [hN, jfv, jup, ha]
    · simp [Nat.not_lt.mp hN, List.getElem?_eq_none]
theorem jfs_setR {G : jGT} {M : jM} {r : jR} {k ci N j : Nat} {x : Nat} (hj : j < N) (hr : jref ci j = true) : ((List.range N).map (jfv G M r k ci)).set j (.ref (jad G x)) = (List.range N).map (jfv G M (jrup r k j (some x)) k ci) := by
  apply List.ext_getElem?
  intro a
  by_cases ha : a = j
  · subst ha
    simp [hj, jfv, hr, jrup, va_rf]
  · by_cases hN : a < N
    · rw [List.getElem?_set_ne (Ne.symm ha)]
      simp [hN, jfv, jrup, ha]
    · simp [Nat.not_lt.mp hN, List.getElem?_eq_none]
theorem jup_upd {M : jM} {k j : Nat} {x : Int32} : jup M k j x k = upd (M k) j x := by funext b; simp [jup, upd]
theorem jrup_up {r : jR} {k j : Nat} {x : Option Nat} : jrup r k j x k = va_up (r k) j x := by funext b; simp [jrup, va_up]
theorem j_cats (G : jGT) (st : List Value) : ((List.map (jrn (jad G)) st).map fun v => v.category) = st.map fun v => v.category := by
  rw [List.map_map]
  congr 1
  funext v
  exact jrn_cat _ v
section JR2
variable {G : jGT} {d : Nat} {md : jMD} {pc : Nat} {lv : List (Option Value)} {st : List Value} {n : Nat} {sh : jS} {M : jM} {r : jR} {c0 s0 mc ms : Nat} {post : jP}
theorem J_getI {i ci j k N : Nat} (hd : decode md.2.2.1 pc = .ok (.getfield i, 3)) (hf : jFL md.1 i ci j) (hk : k < n) (hs : sh k = (ci, N)) (hj : j < N) (hr : jref ci j = false) (kk : J G d md (pc + 3) lv (.int (M k j) :: st) n sh M r c0 s0 mc ms post) : J G d md pc lv (.ref k :: st) n sh M r c0 s0 mc ms post := by
  intro p e R s m args below meth c Q C X H locs ls hW hS hl hc hsl
  obtain ⟨hx, hb, hml, hown, hts, hlk, hrt, hnm, hO, hR, hsz, hHs⟩ := id C
  obtain ⟨q, hq, hj2, hw⟩ := hf
  have hat := hW.2.1 k hk
  rw [jent_obj hs (vwCl_lt hq)] at hat
  exact va_get (D := jD G) (cl := vwCl) (tys := jtys G) (ci := ci) (C := q.1) (T := q.2.1) (N := q.2.2) hx hb hts (jin_g (List.mem_of_getElem? hq)) hown hO.2.1 (jP1 hat) 0 rfl hq j hj2 (hts _ hw) (fun _ h => h) (v := .int (M k j)) (by simp [hj, jfv, hr]) hd (kk p e R s m args below meth c Q C X H locs ls hW hS hl hc hsl)
theorem J_getR {i ci j k N : Nat} (x : Nat) (hd : decode md.2.2.1 pc = .ok (.getfield i, 3)) (hf : jFL md.1 i ci j) (hk : k < n) (hs : sh k = (ci, N)) (hj : j < N) (hr : jref ci j = true) (hv : r k j = some x) (kk : J G d md (pc + 3) lv (.ref x :: st) n sh M r c0 s0 mc ms post) : J G d md pc lv (.ref k :: st) n sh M r c0 s0 mc ms post := by
  intro p e R s m args below meth c Q C X H locs ls hW hS hl hc hsl
  obtain ⟨hx, hb, hml, hown, hts, hlk, hrt, hnm, hO, hR, hsz, hHs⟩ := id C
  obtain ⟨q, hq, hj2, hw⟩ := hf
  have hat := hW.2.1 k hk
  rw [jent_obj hs (vwCl_lt hq)] at hat
  exact va_get (D := jD G) (cl := vwCl) (tys := jtys G) (ci := ci) (C := q.1) (T := q.2.1) (N := q.2.2) hx hb hts (jin_g (List.mem_of_getElem? hq)) hown hO.2.1 (jP1 hat) 0 rfl hq j hj2 (hts _ hw) (fun _ h => h) (v := .ref (jad G x)) (by simp [hj, jfv, hr, hv, va_rf]) hd (kk p e R s m args below meth c Q C X H locs ls hW hS hl hc hsl)
theorem J_putI {i ci j k N : Nat} {x : Int32} (b : Bool) (hd : decode md.2.2.1 pc = .ok (.putfield i, 3)) (hf : jPL md.1 i ci j b) (hk : k < n) (hs : sh k = (ci, N)) (hj : j < N) (hr : jref ci j = false) (hbx : b = true → x = 0 ∨ x = 1) (kk : J G d md (pc + 3) lv st n sh (jup M k j x) r c0 s0 mc ms post) : J G d md pc lv (.int x :: .ref k :: st) n sh M r c0 s0 mc ms post := by
  intro p e R s m args below meth c Q C X H locs ls hW hS hl hc hsl
  obtain ⟨hx, hb, hml, hown, hts, hlk, hrt, hnm, hO, hR, hsz, hHs⟩ := id C
  obtain ⟨q, hq, hj2, hw, hfin, hty⟩ := hf
  obtain ⟨ty0, ht0, hnm0⟩ := jty_cls q (List.mem_of_getElem? hq)
  have hat := hW.2.1 k hk
  have hlt := vwCl_lt hq
  rw [jent_obj hs hlt] at hat
  have h7 : narrow (ty0 j) (.int x) = .int x ∧ fits (ty0 j) (.int x) = true := by
    have h8 := ht0 j hj2
    rw [hty] at h8
    cases b with
    | false =>
      have : ty0 j = .int := (Option.some.inj (h8.symm.trans (by decide +kernel : parseFieldDescriptor "I" = some .int)))
      rw [this]; exact ⟨rfl, rfl⟩
    | true =>
      have : ty0 j = .boolean := (Option.some.inj (h8.symm.trans (by decide +kernel : parseFieldDescriptor "Z" = some .boolean)))
      rw [this]
      rcases hbx rfl with e | e <;> subst e <;> exact ⟨by decide +kernel, by decide +kernel⟩
  refine j_put (D := jD G) (cl := vwCl) (tys := jtys G) (ci := ci) (C := q.1) (T := q.2.1) (N := q.2.2) hx hb hts (jin_g (List.mem_of_getElem? hq)) ty0 ht0 hnm0 hown hO.2.1 hat hq j hj2 (hts _ hw) (Or.inl hfin) h7.1 h7.2 (by simp [hj]) hd (fun H1 a hat1 z oq => ?_)
  refine kk p e R s m args below meth c Q C X H1 _ ls ?_ (hS.put z oq (by show jb G ≤ jad G k; rw [jad_eq hO.1 (by have := hW.2.2; omega)]; omega)) hl hc hsl
  refine jW.upd hO.1 hW hk z oq (fun a ha => jup_ne ha) (fun _ _ => rfl) ?_
  rw [jent_obj hs hlt, ← jfs_set hj hr]
  exact hat1
theorem J_putF {i ci j k N x : Nat} (hd : decode md.2.2.1 pc = .ok (.putfield i, 3)) (hf : jRL md.1 i ci j) (hi : md.2.1.name = "<init>") (hk : k < n) (hs : sh k = (ci, N)) (hj : j < N) (hr : jref ci j = true) (kk : J G d md (pc + 3) lv st n sh M (jrup r k j (some x)) c0 s0 mc ms post) : J G d md pc lv (.ref x :: .ref k :: st) n sh M r c0 s0 mc ms post := by
  intro p e R s m args below meth c Q C X H locs ls hW hS hl hc hsl
  obtain ⟨hx, hb, hml, hown, hts, hlk, hrt, hnm, hO, hR, hsz, hHs⟩ := id C
  obtain ⟨q, hq, hj2, hw, hfin, hdecl, hty⟩ := hf
  obtain ⟨ty0, ht0, hnm0⟩ := jty_cls q (List.mem_of_getElem? hq)
  have hat := hW.2.1 k hk
  have hlt := vwCl_lt hq
  rw [jent_obj hs hlt] at hat
  have h7 : narrow (ty0 j) (.ref (jad G x)) = .ref (jad G x) ∧ fits (ty0 j) (.ref (jad G x)) = true := by
    have h8 := ht0 j hj2
    rcases hty with ⟨t, h9⟩ | ⟨t, h9⟩
    · rw [Option.some.inj (h8.symm.trans h9)]; exact ⟨rfl, rfl⟩
    · rw [Option.some.inj (h8.symm.trans h9)]; exact ⟨rfl, rfl⟩
  refine j_put (D := jD G) (cl := vwCl) (tys := jtys G) (ci := ci) (C := q.1) (T := q.2.1) (N := q.2.2) hx hb hts (jin_g (List.mem_of_getElem? hq)) ty0 ht0 hnm0 hown hO.2.1 hat hq j hj2 (hts _ hw) (Or.inr ⟨hfin, hnm.trans hi, hdecl⟩) h7.1 h7.2 (by simp [hj]) hd (fun H1 a hat1 z oq => ?_)
  refine kk p e R s m args below meth c Q C X H1 _ ls ?_ (hS.put z oq (by show jb G ≤ jad G k; rw [jad_eq hO.1 (by have := hW.2.2; omega)]; omega)) hl hc hsl
  refine jW.upd hO.1 hW hk z oq (fun _ _ => rfl) (fun a ha => jrup_ne ha) ?_
  rw [jent_obj hs hlt, ← jfs_setR hj hr]
  exact hat1
theorem J_iald {k N : Nat} {i : Int32} (hd : decode md.2.2.1 pc = .ok (.iaload, 1)) (hk : k < n) (hs : sh k = (100, N)) (hi : vp_in i N) (kk : J G d md (pc + 1) lv (.int (M k i.toNatClampNeg) :: st) n sh M r c0 s0 mc ms post) : J G d md pc lv (.int i :: .ref k :: st) n sh M r c0 s0 mc ms post := by
  intro p e R s m args below meth c Q C X H locs ls hW hS hl hc hsl
  have hat := hW.2.1 k hk
  rw [jent_int (t := 0) hs (by omega)] at hat
  exact va_iald (D := jD G) (cl := vwCl) (tys := jtys G) C.1 C.2.1 C.2.2.2.2.2.2.2.2.1.2.1 (jP1 hat) 0 0 rfl rfl hi hd (kk p e R s m args below meth c Q C X H locs ls hW hS hl hc hsl)
theorem J_bald {k N : Nat} {i : Int32} (hd : decode md.2.2.1 pc = .ok (.baload, 1)) (hk : k < n) (hs : sh k = (101, N)) (hi : vp_in i N) (kk : J G d md (pc + 1) lv (.int (M k i.toNatClampNeg) :: st) n sh M r c0 s0 mc ms post) : J G d md pc lv (.int i :: .ref k :: st) n sh M r c0 s0 mc ms post := by
  intro p e R s m args below meth c Q C X H locs ls hW hS hl hc hsl
  have hat := hW.2.1 k hk
  rw [jent_int (t := 1) hs (by omega)] at hat
  exact va_bald (D := jD G) (cl := vwCl) (tys := jtys G) C.1 C.2.1 C.2.2.2.2.2.2.2.2.1.2.1 (jP1 hat) 0 1 rfl rfl hi hd (kk p e R s m args below meth c Q C X H locs ls hW hS hl hc hsl)
theorem J_zald {k N : Nat} {i : Int32} (hd : decode md.2.2.1 pc = .ok (.baload, 1)) (hk : k < n) (hs : sh k = (102, N)) (hi : vp_in i N) (kk : J G d md (pc + 1) lv (.int (M k i.toNatClampNeg) :: st) n sh M r c0 s0 mc ms post) : J G d md pc lv (.int i :: .ref k :: st) n sh M r c0 s0 mc ms post := by
  intro p e R s m args below meth c Q C X H locs ls hW hS hl hc hsl
  have hat := hW.2.1 k hk
  rw [jent_int (t := 2) hs (by omega)] at hat
  exact va_zald (D := jD G) (cl := vwCl) (tys := jtys G) C.1 C.2.1 C.2.2.2.2.2.2.2.2.1.2.1 (jP1 hat) 0 2 rfl rfl hi hd (kk p e R s m args below meth c Q C X H locs ls hW hS hl hc hsl)
theorem J_aald {k N : Nat} {i : Int32} (x : Nat) (hd : decode md.2.2.1 pc = .ok (.aaload, 1)) (hk : k < n) (hs : sh k = (103, N)) (hi : vp_in i N) (hv : r k i.toNatClampNeg = some x) (kk : J G d md (pc + 1) lv (.ref x :: st) n sh M r c0 s0 mc ms post) : J G d md pc lv (.int i :: .ref k :: st) n sh M r c0 s0 mc ms post := by
  intro p e R s m args below meth c Q C X H locs ls hW hS hl hc hsl
  have hat := hW.2.1 k hk
  rw [jent_ref hs] at hat
  refine va_aldq (D := jD G) (cl := vwCl) (tys := jtys G) C.1 C.2.1 C.2.2.2.2.2.2.2.2.1.2.1 (jP1 hat) 0 3 rfl rfl hi hd ?_
  rw [hv]
  exact kk p e R s m args below meth c Q C X H locs ls hW hS hl hc hsl
theorem J_iast {k N : Nat} {i x : Int32} (hd : decode md.2.2.1 pc = .ok (.iastore, 1)) (hk : k < n) (hs : sh k = (100, N)) (hi : vp_in i N) (kk : J G d md (pc + 1) lv st n sh (jup M k i.toNatClampNeg x) r c0 s0 mc ms post) : J G d md pc lv (.int x :: .int i :: .ref k :: st) n sh M r c0 s0 mc ms post := by
  intro p e R s m args below meth c Q C X H locs ls hW hS hl hc hsl
  obtain ⟨hx, hb, hml, hown, hts, hlk, hrt, hnm, hO, hR, hsz, hHs⟩ := id C
  have hat := hW.2.1 k hk
  rw [jent_int (t := 0) hs (by omega)] at hat
  refine W.iast hx hb hat ((hO.2.1.2 0 _ rfl).1 N (fun j => .int (M k j))) (fun q => by cases q) (by show ¬ (i < 0 ∨ (arrV _ _ _).slots.size ≤ _); rw [arrV_size]; exact hi) rfl rfl hd fun H1 e1 z oq => ?_
  refine kk p e R s m args below meth c Q C X H1 _ ls ?_ (hS.put z oq (by show jb G ≤ jad G k; rw [jad_eq hO.1 (by have := hW.2.2; omega)]; omega)) hl hc hsl
  refine jW.upd hO.1 hW hk z oq (fun a ha => jup_ne ha) (fun _ _ => rfl) ?_
  rw [jent_int (t := 0) hs (by omega), jup_upd]
  exact e1.trans (congrArg some j_vpset)
theorem J_bast {k N : Nat} {i x : Int32} (hd : decode md.2.2.1 pc = .ok (.bastore, 1)) (hk : k < n) (hs : sh k = (101, N)) (hi : vp_in i N) (kk : J G d md (pc + 1) lv st n sh (jup M k i.toNatClampNeg (vp_nar .byte x)) r c0 s0 mc ms post) : J G d md pc lv (.int x :: .int i :: .ref k :: st) n sh M r c0 s0 mc ms post := by
  intro p e R s m args below meth c Q C X H locs ls hW hS hl hc hsl
  obtain ⟨hx, hb, hml, hown, hts, hlk, hrt, hnm, hO, hR, hsz, hHs⟩ := id C
  have hat := hW.2.1 k hk
  rw [jent_int (t := 1) hs (by omega)] at hat
  refine W.bast hx hb hat ((hO.2.1.2 1 _ rfl).1 N (fun j => .int (M k j))) (fun q => by cases q) (by show ¬ (i < 0 ∨ (arrV _ _ _).slots.size ≤ _); rw [arrV_size]; exact hi) rfl rfl hd fun H1 e1 z oq => ?_
  refine kk p e R s m args below meth c Q C X H1 _ ls ?_ (hS.put z oq (by show jb G ≤ jad G k; rw [jad_eq hO.1 (by have := hW.2.2; omega)]; omega)) hl hc hsl
  refine jW.upd hO.1 hW hk z oq (fun a ha => jup_ne ha) (fun _ _ => rfl) ?_
  rw [jent_int (t := 1) hs (by omega), jup_upd]
  have h9 : narrow .byte (.int x) = .int (vp_nar .byte x) := rfl
  rw [h9] at e1
  exact e1.trans (congrArg some j_vpset)
theorem J_zast {k N : Nat} {i x : Int32} (hd : decode md.2.2.1 pc = .ok (.bastore, 1)) (hk : k < n) (hs : sh k = (102, N)) (hi : vp_in i N) (kk : J G d md (pc + 1) lv st n sh (jup M k i.toNatClampNeg (vp_nar .boolean x)) r c0 s0 mc ms post) : J G d md pc lv (.int x :: .int i :: .ref k :: st) n sh M r c0 s0 mc ms post := by
  intro p e R s m args below meth c Q C X H locs ls hW hS hl hc hsl
  obtain ⟨hx, hb, hml, hown, hts, hlk, hrt, hnm, hO, hR, hsz, hHs⟩ := id C
  have hat := hW.2.1 k hk
  rw [jent_int (t := 2) hs (by omega)] at hat
  refine W.zast hx hb hat ((hO.2.1.2 2 _ rfl).1 N (fun j => .int (M k j))) (fun q => by cases q) (by show ¬ (i < 0 ∨ (arrV _ _ _).slots.size ≤ _); rw [arrV_size]; exact hi) rfl rfl hd fun H1 e1 z oq => ?_
  refine kk p e R s m args below meth c Q C X H1 _ ls ?_ (hS.put z oq (by show jb G ≤ jad G k; rw [jad_eq hO.1 (by have := hW.2.2; omega)]; omega)) hl hc hsl
  refine jW.upd hO.1 hW hk z oq (fun a ha => jup_ne ha) (fun _ _ => rfl) ?_
  rw [jent_int (t := 2) hs (by omega), jup_upd]
  have h9 : narrow .boolean (.int x) = .int (vp_nar .boolean x) := rfl
  rw [h9] at e1
  exact e1.trans (congrArg some j_vpset)
theorem J_aast {k N x : Nat} {i : Int32} (hd : decode md.2.2.1 pc = .ok (.aastore, 1)) (hk : k < n) (hs : sh k = (103, N)) (hi : vp_in i N) (hxn : x < n) (hsx : sh x = (6, 8)) (kk : J G d md (pc + 1) lv st n sh M (jrup r k i.toNatClampNeg (some x)) c0 s0 mc ms post) : J G d md pc lv (.ref x :: .int i :: .ref k :: st) n sh M r c0 s0 mc ms post := by
  intro p e R s m args below meth c Q C X H locs ls hW hS hl hc hsl
  obtain ⟨hx, hb, hml, hown, hts, hlk, hrt, hnm, hO, hR, hsz, hHs⟩ := id C
  have hat := hW.2.1 k hk
  rw [jent_ref hs] at hat
  have hax := hW.2.1 x hxn
  rw [jent_obj hsx (by omega)] at hax
  have h0 : ¬ i < 0 := fun q => hi (Or.inl q)
  have hlt : i.toNatClampNeg < N := Nat.not_le.mp fun q => hi (Or.inr q)
  obtain ⟨r', hr', cellV, g1, g2, g3, -⟩ := hax
  have hcls := (hO.2.1.1 6 _ rfl).2
  obtain ⟨kA, comp, k1, k2, k3, -⟩ := (hO.2.1.2 3 _ rfl).2
  have hcomp : comp = (jD G).1 6 := Option.some.inj (k3.symm.trans hcls.1)
  subst hcomp
  obtain ⟨kC, hkC, -⟩ := hcls.2
  refine W.aast hx hb hat (fun q h => by cases h) (fun h => by cases h) k1 k2 rfl hkC ⟨h0, by show _ < (arrV _ _ _).slots.size; rw [arrV_size]; exact hlt⟩ g1 (fun q h => by rw [g3] at h; cases h) (by rw [g2]; exact hkC) (by rw [g2]; exact va_assign hcls) rfl rfl hd fun H1 e1 z oq => ?_
  refine kk p e R s m args below meth c Q C X H1 _ ls ?_ (hS.put z oq (by show jb G ≤ jad G k; rw [jad_eq hO.1 (by have := hW.2.2; omega)]; omega)) hl hc hsl
  refine jW.upd hO.1 hW hk z oq (fun _ _ => rfl) (fun a ha => jrup_ne ha) ?_
  rw [jent_ref hs, jrup_up]
  refine e1.trans (congrArg some (j_vpsetq.trans ?_))
  congr 6
  funext q
  by_cases hq : q = i.toNatClampNeg
  · subst hq; simp [va_up]
  · simp [va_up, hq]
theorem J_alen {k t N : Nat} (v : Int32) (hd : decode md.2.2.1 pc = .ok (.arraylength, 1)) (hk : k < n) (hs : sh k = (100 + t, N)) (ht : t < 3) (hv : Int32.ofNat N = v) (kk : J G d md (pc + 1) lv (.int v :: st) n sh M r c0 s0 mc ms post) : J G d md pc lv (.ref k :: st) n sh M r c0 s0 mc ms post := by
  intro p e R s m args below meth c Q C X H locs ls hW hS hl hc hsl
  have hat := hW.2.1 k hk
  rw [jent_int hs ht] at hat
  match t, ht with
  | 0, _ => exact va_alen (D := jD G) (cl := vwCl) (tys := jtys G) C.1 C.2.1 C.2.2.2.2.2.2.2.2.1.2.1 (jP1 hat) 0 0 rfl rfl hv hd (kk p e R s m args below meth c Q C X H locs ls hW hS hl hc hsl)
  | 1, _ => exact va_alen (D := jD G) (cl := vwCl) (tys := jtys G) C.1 C.2.1 C.2.2.2.2.2.2.2.2.1.2.1 (jP1 hat) 0 1 rfl rfl hv hd (kk p e R s m args below meth c Q C X H locs ls hW hS hl hc hsl)
  | 2, _ => exact va_alen (D := jD G) (cl := vwCl) (tys := jtys G) C.1 C.2.1 C.2.2.2.2.2.2.2.2.1.2.1 (jP1 hat) 0 2 rfl rfl hv hd (kk p e R s m args below meth c Q C X H locs ls hW hS hl hc hsl)
theorem j_oldH {G : jGT} {s : State} {H : Heap} {locs : List Loc} (hG : jGok G) (hsz : jb G ≤ s.heap.size) (hHs : ∀ q, q < jb G → s.heap[q]? = (jHs G)[q]?) (hS : va_S (jA G) s.heap H locs) {a : Nat} {cell : Cell} (h : (jHs G)[a]? = some cell) : H[a]? = some cell := by
  have h1 : a < jb G := hG.1 ▸ (Array.getElem?_eq_some_iff.mp h).1
  rw [hS.2.1 a (by omega) (by show ¬ jb G ≤ a; omega), hHs a h1, h]
theorem J_ialdO {k N : Nat} {f : Nat → Int32} {i : Int32} (hd : decode md.2.2.1 pc = .ok (.iaload, 1)) (hk : jold G k = some (N, f)) (hi : vp_in i N) (kk : J G d md (pc + 1) lv (.int (f i.toNatClampNeg) :: st) n sh M r c0 s0 mc ms post) : J G d md pc lv (.int i :: .ref k :: st) n sh M r c0 s0 mc ms post := by
  intro p e R s m args below meth c Q C X H locs ls hW hS hl hc hsl
  obtain ⟨hx, hb, hml, hown, hts, hlk, hrt, hnm, hO, hR, hsz, hHs⟩ := id C
  obtain ⟨hN, cell, h1, h2, h3, h4, h5, h6, h7⟩ := hO.2.2.2.2.2.2.1 k N f hk
  have hlt : i.toNatClampNeg < N := Nat.not_le.mp fun q => hi (Or.inr q)
  exact W.iald hx hb (j_oldH hO.1 hsz hHs hS h1) h2 h3 (fun q => hi (q.imp id (fun q => Nat.le_trans h4 q))) (h6 _ hlt) rfl rfl hd (kk p e R s m args below meth c Q C X H locs ls hW hS hl hc hsl)
theorem J_alenO {k N : Nat} {f : Nat → Int32} (hd : decode md.2.2.1 pc = .ok (.arraylength, 1)) (hk : jold G k = some (N, f)) (kk : J G d md (pc + 1) lv (.int (Int32.ofNat N) :: st) n sh M r c0 s0 mc ms post) : J G d md pc lv (.ref k :: st) n sh M r c0 s0 mc ms post := by
  intro p e R s m args below meth c Q C X H locs ls hW hS hl hc hsl
  obtain ⟨hx, hb, hml, hown, hts, hlk, hrt, hnm, hO, hR, hsz, hHs⟩ := id C
  obtain ⟨hN, cell, h1, h2, h3, h4, h5, h6, h7⟩ := hO.2.2.2.2.2.2.1 k N f hk
  exact W.alen hx hb (j_oldH hO.1 hsz hHs hS h1) h2 h5 rfl rfl hd (kk p e R s m args below meth c Q C X H locs ls hW hS hl hc hsl)
theorem j_Z {G : jGT} {s : State} {C n d : String} {v : Value} (hG : jGok G) (hHs : ∀ q, q < jb G → s.heap[q]? = (jHs G)[q]?) (h : va_Z C n d v (jA G) s (jHs G)) : va_Z C n d v (jA G) s s.heap := h.kept fun a ha _ => hHs a (hG.1 ▸ ha)
theorem J_getsA {i : Nat} (hd : decode md.2.2.1 pc = .ok (.getstatic i, 3)) (hw : Cond.fieldLink md.1 i RX7 "ABOVE" "[I" ∈ gTbl) (kk : J G d md (pc + 3) lv (.ref 1000 :: st) n sh M r c0 s0 mc ms post) : J G d md pc lv st n sh M r c0 s0 mc ms post := by
  intro p e R s m args below meth c Q C X H locs ls hW hS hl hc hsl
  obtain ⟨hx, hb, hml, hown, hts, hlk, hrt, hnm, hO, hR, hsz, hHs⟩ := id C
  exact va_gets hx hb (j_Z hO.1 hHs hO.2.2.2.2.1) hS hown (hts _ hw) (fun _ h => h) hd (kk p e R s m args below meth c Q C X H locs ls hW hS hl hc hsl)
theorem J_getsB {i : Nat} (hd : decode md.2.2.1 pc = .ok (.getstatic i, 3)) (hw : Cond.fieldLink md.1 i RX1 "BODIES" "[I" ∈ gTbl) (kk : J G d md (pc + 3) lv (.ref 1001 :: st) n sh M r c0 s0 mc ms post) : J G d md pc lv st n sh M r c0 s0 mc ms post := by
  intro p e R s m args below meth c Q C X H locs ls hW hS hl hc hsl
  obtain ⟨hx, hb, hml, hown, hts, hlk, hrt, hnm, hO, hR, hsz, hHs⟩ := id C
  exact va_gets hx hb (j_Z hO.1 hHs hO.2.2.2.2.2.1) hS hown (hts _ hw) (fun _ h => h) hd (kk p e R s m args below meth c Q C X H locs ls hW hS hl hc hsl)
theorem J_getsN (hd : decode md.2.2.1 pc = .ok (.getstatic 39, 3)) (hm : md.1 = RX1) (kk : J G d md (pc + 3) lv (.ref 1000 :: st) n sh M r c0 s0 mc ms post) : J G d md pc lv st n sh M r c0 s0 mc ms post := by
  intro p e R s m args below meth c Q C X H locs ls hW hS hl hc hsl
  obtain ⟨hx, hb, hml, hown, hts, hlk, hrt, hnm, hO, hR, hsz, hHs⟩ := id C
  rw [hm] at hown
  exact va_getsN hx hb (j_Z hO.1 hHs hO.2.2.2.2.1) hS hown (va_Nw.use rfl (hO.2.2.2.1 _ (List.mem_append_left _ List.mem_cons_self))) (fun _ h => h) hd (kk p e R s m args below meth c Q C X H locs ls hW hS hl hc hsl)
theorem j_copyok {G : jGT} {sh : jS} {M : jM} {r : jR} {k t N : Nat} {H : Heap} (hs : sh k = (100 + t, N)) (ht : t < 3) (hat : va_at (jD G) vwCl (jad G k, jent G sh M r k) H) : H[jad G k]? = some (vp_cell (jcA G t) (N, .inl (M k))) := by
  rw [jent_int hs ht] at hat
  exact hat
/-- System.arraycopy(x, 0, y, 0, N) between int arrays (t 0) or byte arrays (t 1) -/
theorem J_copy {i k k' t N N' : Nat} {q : Int32} (hd : decode md.2.2.1 pc = .ok (.invokestatic i, 3)) (hw : Cond.methodLink md.1 i arraycopyName ∈ gTbl) (hk : k < n) (hs : sh k = (100 + t, N)) (hk' : k' < n) (hs' : sh k' = (100 + t, N')) (ht : t < 2) (hq : ¬ q < 0) (hqN : q.toNatClampNeg ≤ N) (hqN' : q.toNatClampNeg ≤ N') (hd2 : 2 ≤ d)
    (hfit : t = 1 → ∀ j, j < N → fits .byte (.int (M k j)) = true) (hst : (st.map fun v => v.category).sum ≤ 8)
    (kk : J G d md (pc + 3) lv st n sh (fun a b => if a = k' then (if b < q.toNatClampNeg then M k b else M k' b) else M a b) r c0 s0 mc ms post) : J G d md pc lv (.int q :: .int 0 :: .ref k' :: .int 0 :: .ref k :: st) n sh M r c0 s0 mc ms post := by
  intro p e R s m args below meth c Q C X H locs ls hW hS hl hc hsl
  obtain ⟨hx, hb, hml, hown, hts, hlk, hrt, hnm, hO, hR, hsz, hHs⟩ := id C
  have hg : ∀ w ∈ ([.native arraycopyName, .static arraycopyName, .initialized "java/lang/System"] : List Cond), w ∈ gTbl := by decide +kernel
  have hnf : nativeFrameWords "java/lang/System" "arraycopy" 5 + 19 ≤ 80 := by decide +kernel
  have hty : (jtys G)[t]? = some (jcA G t, if t = 0 then .int else .byte) := by
    match t, ht with
    | 0, _ => rfl
    | 1, _ => rfl
  have hl2 : 40 * d ≤ R.locals := hR.2.1
  have hsum : ((List.map (jrn (jad G)) st).map fun v => v.category).sum ≤ 8 := by rw [j_cats]; exact hst
  refine j_copyi (D := jD G) (cl := vwCl) (tys := jtys G) hx hb (hml.trans hl.1.1.symm) hown (hts _ hw) (hts _ (hg _ (by simp))) (hts _ (hg _ (by simp))) (hts _ (hg _ (by simp))) hO.2.1 t t (j_copyok hs (by omega) (hW.2.1 k hk)) (j_copyok hs' (by omega) (hW.2.1 k' hk')) hty hty (by split <;> rfl) (by decide) (by decide) hq (by simpa using hqN) (by simpa using hqN') ?_ (by have := hR.1; omega) (by omega) hd (fun H1 L1 hL1 e1 z oq => ?_)
  · intro j hj
    by_cases h0 : t = 0
    · subst h0; rfl
    · have h1 : t = 1 := by omega
      subst h1
      exact hfit rfl _ (by simpa using Nat.lt_of_lt_of_le hj hqN)
  · have hA : jA G (jad G k') := by show jb G ≤ jad G k'; rw [jad_eq hO.1 (by have := hW.2.2; omega)]; omega
    refine kk p e R s m args below meth c Q C X H1 _ ls ?_ ⟨by rw [z]; exact hS.1, fun x h1 h2 => by rw [oq x (fun e => h2 (by rw [e]; exact hA))]; exact hS.2.1 x h1 h2, fun x hx => by
      rcases List.mem_append.mp hx with h | h
      · exact hS.2.2 x h
      · rw [hL1 x h]; exact hA⟩ hl hc hsl
    refine jW.upd hO.1 hW hk' z oq (fun a ha => by funext b; simp [ha]) (fun _ _ => rfl) ?_
    rw [jent_int hs' (by omega)]
    refine e1.trans ?_
    congr 4
    funext b
    simp [va_cpy]
theorem J_new {i ci N : Nat} (hd : decode md.2.2.1 pc = .ok (.new i, 3)) (q : vw_C) (hq : vwCl[ci]? = some q) (hN : q.2.2 = N) (hcl : Cond.classLink md.1 i q.1 ∈ gTbl) (hin : Cond.instantiable q.1 N ∈ gTbl) (hini : Cond.initialized q.1 ∈ gTbl) (hc1 : c0 + 1 ≤ mc) (hs1 : s0 + N ≤ ms) (hn : n < 1000)
    (hty : ∀ j, j < N → ∀ ty, parseFieldDescriptor (q.2.1 j).2.2.1 = some ty → defaultValue ty = if jref ci j = true then .null else .int 0)
    (hM : M n = fun _ => 0) (hr : r n = fun _ => none)
    (kk : J G d md (pc + 3) lv (.ref n :: st) (n + 1) (fun a => if a = n then (ci, N) else sh a) M r (c0 + 1) (s0 + N) mc ms post) : J G d md pc lv st n sh M r c0 s0 mc ms post := by
  intro p e R s m args below meth c Q C X H locs ls hW hS hl hc hsl
  obtain ⟨hx, hb, hml, hown, hts, hlk, hrt, hnm, hO, hR, hsz, hHs⟩ := id C
  subst hN
  have hKn := hO.2.1.1 ci _ hq
  obtain ⟨ty0, ht0, hnm0⟩ := jty_cls q (List.mem_of_getElem? hq)
  refine W.newcK hx hb hown (hts _ hcl) (hts _ hin) (hts _ hini) rfl hd (by have := hR.2.2.1; omega) (by have := hR.2.2.2; omega) hKn.2.1 hW.1 fun H1 kC hkC e1 z1 o1 => ?_
  rw [← jad_eq hO.1 hn] at e1 ⊢
  refine kk p e R s m args below meth c Q C X H1 locs ls ?_ ⟨Nat.le_trans hS.1 (by rw [z1, hW.1]; omega), fun x h1 h2 => (o1 x (by have := hS.1; have := hW.1; omega)).trans (hS.2.1 x h1 h2), hS.2.2⟩ hl hc1 hs1
  refine ⟨by rw [z1]; omega, fun k hk => ?_, by omega⟩
  by_cases hkn : k = n
  · subst hkn
    rw [jent_obj (ci := ci) (N := q.2.2) (by simp) (vwCl_lt hq)]
    refine ⟨q, hq, (u_born ty0 hts (jin_g (List.mem_of_getElem? hq)) hKn hkC e1 ht0).to fun j hj => ?_⟩
    rw [hty j hj _ (ht0 j hj)]
    have hj' : j < (q.2).2 := hj
    simp only [vp_V, List.getD_eq_getElem?_getD, List.getElem?_map, List.getElem?_range hj', Option.map_some, Option.getD_some, jfv, hM, hr]
    split <;> rfl
  · have h5 := (hW.2.1 k (by omega)).kept (H1 := H1) (o1 _ (by rw [jad_eq hO.1 (by omega)]; omega))
    have h6 : jent G (fun a => if a = n then (ci, q.2.2) else sh a) M r k = jent G sh M r k := by unfold jent; simp [hkn]
    rw [h6]; exact h5
theorem J_newa {t : Nat} {at1 : ArrayType} {q : Int32} {N : Nat} (hd : decode md.2.2.1 pc = .ok (.newarray at1, 2)) (ht : t < 3) (hat : newarray.typeOf at1 = if t = 0 then .int else if t = 1 then .byte else .boolean) (hw : Cond.arrayClass (newarray.typeOf at1) ∈ gTbl) (hq : ¬ q < 0) (hN : q.toNatClampNeg = N) (hsm : N ≤ 1000) (hc1 : c0 + 1 ≤ mc) (hs1 : s0 + N ≤ ms) (hn : n < 1000)
    (hM : M n = fun _ => 0)
    (kk : J G d md (pc + 2) lv (.ref n :: st) (n + 1) (fun a => if a = n then (100 + t, N) else sh a) M r (c0 + 1) (s0 + N) mc ms post) : J G d md pc lv (.int q :: st) n sh M r c0 s0 mc ms post := by
  intro p e R s m args below meth c Q C X H locs ls hW hS hl hc hsl
  obtain ⟨hx, hb, hml, hown, hts, hlk, hrt, hnm, hO, hR, hsz, hHs⟩ := id C
  have hty : (jtys G)[t]? = some (jcA G t, newarray.typeOf at1) := by
    rw [hat]
    match t, ht with
    | 0, _ => rfl
    | 1, _ => rfl
    | 2, _ => rfl
  have hcb : N * componentBytes (newarray.typeOf at1) ≤ 536870912 := by
    rw [hat]
    match t, ht with
    | 0, _ => exact Nat.le_trans (Nat.mul_le_mul_right _ hsm) (by decide +kernel)
    | 1, _ => exact Nat.le_trans (Nat.mul_le_mul_right _ hsm) (by decide +kernel)
    | 2, _ => exact Nat.le_trans (Nat.mul_le_mul_right _ hsm) (by decide +kernel)
  have hdv : defaultValue (newarray.typeOf at1) = .int 0 := by
    rw [hat]
    match t, ht with
    | 0, _ => rfl
    | 1, _ => rfl
    | 2, _ => rfl
  have hfc : s.vm.findClass ("[" ++ (newarray.typeOf at1).toString) = some (jcA G t) := by
    have h := (hO.2.1.2 t _ hty).2
    revert h
    rw [hat]
    match t, ht with
    | 0, _ => exact fun h => h
    | 1, _ => exact fun h => h
    | 2, _ => exact fun h => h
  refine va_newaK hx hb (hts _ hw) rfl hd rfl hq hN hcb (by have := hR.2.2.1; omega) (by have := hR.2.2.2; omega) hW.1 fun H1 cA e1 z1 o1 hAr hNm => ?_
  have hcA : cA = jcA G t := Option.some.inj (hNm.symm.trans hfc)
  subst hcA
  rw [← jad_eq hO.1 hn] at e1 ⊢
  refine kk p e R s m args below meth c Q C X H1 locs ls ?_ ⟨Nat.le_trans hS.1 (by rw [z1, hW.1]; omega), fun x h1 h2 => (o1 x (by have := hS.1; have := hW.1; omega)).trans (hS.2.1 x h1 h2), hS.2.2⟩ hl hc1 hs1
  refine ⟨by rw [z1]; omega, fun k hk => ?_, by omega⟩
  by_cases hkn : k = n
  · subst hkn
    rw [jent_int (t := t) (N := N) (by simp) ht]
    rw [hM]
    rw [hdv] at e1
    exact e1
  · have h5 := (hW.2.1 k (by omega)).kept (H1 := H1) (o1 _ (by rw [jad_eq hO.1 (by omega)]; omega))
    have h6 : jent G (fun a => if a = n then (100 + t, N) else sh a) M r k = jent G sh M r k := by unfold jent; simp [hkn]
    rw [h6]; exact h5
theorem J_newq {i : Nat} {q : Int32} {N : Nat} (hd : decode md.2.2.1 pc = .ok (.anewarray i, 3)) (hw : Cond.classLink md.1 i RX6 ∈ gTbl) (hq : ¬ q < 0) (hN : q.toNatClampNeg = N) (hsm : N ≤ 1000) (hc1 : c0 + 1 ≤ mc) (hs1 : s0 + N ≤ ms) (hn : n < 1000)
    (hr : r n = fun _ => none)
    (kk : J G d md (pc + 3) lv (.ref n :: st) (n + 1) (fun a => if a = n then (103, N) else sh a) M r (c0 + 1) (s0 + N) mc ms post) : J G d md pc lv (.int q :: st) n sh M r c0 s0 mc ms post := by
  intro p e R s m args below meth c Q C X H locs ls hW hS hl hc hsl
  obtain ⟨hx, hb, hml, hown, hts, hlk, hrt, hnm, hO, hR, hsz, hHs⟩ := id C
  subst hN
  refine W.anew hx hb hown (hts _ hw) (va_AO.use hO.2.2.1) rfl hd rfl hq (by omega) (by have := hR.2.2.1; omega) (by have := hR.2.2.2; omega) fun cA kA comp f1 f2 f3 f4 => ?_
  generalize hH1 : H.push ({ cls := cA, slots := Array.replicate q.toNatClampNeg .null, vm := .none } : Cell) = H1
  have z1 : H1.size = H.size + 1 := by rw [← hH1, Array.size_push]
  have e1 : H1[H.size]? = some (arrV cA q.toNatClampNeg (fun _ => .null)) := by rw [← hH1, Array.getElem?_push_size, ← arrV_new]
  have o1 : ∀ q : Nat, q < H.size → H1[q]? = H[q]? := fun q hq => by rw [← hH1, Array.getElem?_push, if_neg (Nat.ne_of_lt hq)]
  obtain ⟨kA', comp', k1, k2, k3, k4⟩ := (hO.2.1.2 3 _ rfl).2
  have hcA : cA = jcA G 3 := Option.some.inj (f1.symm.trans k4)
  subst hcA
  rw [hW.1, ← jad_eq hO.1 hn] at e1 ⊢
  refine kk p e R s m args below meth c Q C X H1 locs ls ?_ ⟨Nat.le_trans hS.1 (by rw [z1]; omega), fun x h1 h2 => (o1 x (by have := hS.1; omega)).trans (hS.2.1 x h1 h2), hS.2.2⟩ hl hc1 hs1
  refine ⟨by rw [z1, hW.1]; omega, fun k hk => ?_, by omega⟩
  by_cases hkn : k = n
  · subst hkn
    rw [jent_ref (N := q.toNatClampNeg) (by simp), hr]
    exact e1
  · have h5 := (hW.2.1 k (by omega)).kept (H1 := H1) (o1 _ (by rw [jad_eq hO.1 (by omega), hW.1]; omega))
    have h6 : jent G (fun a => if a = n then (103, q.toNatClampNeg) else sh a) M r k = jent G sh M r k := by unfold jent; simp [hkn]
    rw [h6]; exact h5
theorem J_objInit {i k : Nat} (hd : decode md.2.2.1 pc = .ok (.invokespecial i, 3)) (hw : Cond.methodLink md.1 i objectInit ∈ gTbl) (hd1 : 1 ≤ d) (hst : (st.map fun v => v.category).sum ≤ 8) (kk : J G d md (pc + 3) lv st n sh M r c0 s0 mc ms post) : J G d md pc lv (.ref k :: st) n sh M r c0 s0 mc ms post := by
  intro p e R s m args below meth c Q C X H locs ls hW hS hl hc hsl
  obtain ⟨hx, hb, hml, hown, hts, hlk, hrt, hnm, hO, hR, hsz, hHs⟩ := id C
  have hg : ∀ w ∈ ([.instanceMethod objectInit, .code objectInit ⟨#[0xb1]⟩ 1 none] : List Cond), w ∈ gTbl := by decide +kernel
  have hsum : ((List.map (jrn (jad G)) st).map fun v => v.category).sum ≤ 8 := by rw [j_cats]; exact hst
  refine W.objInit hx hb hown (hts _ hw) (hts _ (hg _ (by simp))) (hts _ (hg _ (by simp))) rfl (by rw [hml]; exact hl.1.1) rfl hd (by have := hR.1; omega) (by have := hR.2.1; show 2 * 0 + _ + _ ≤ _; omega) ?_
  exact kk p e R s m args below meth c Q C X H locs ls hW hS hl hc hsl
end JR2
