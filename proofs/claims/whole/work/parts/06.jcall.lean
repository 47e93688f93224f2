theorem jO.same {G : jGT} {s U : State} (h : jO G s) (hv : s.vm = U.vm) : jO G U := by
  have hA : s.vm.Alike U.vm := by rw [hv]; exact Vm.Alike.refl _
  exact ⟨h.1, va_K.moved hA h.2.1, h.2.2.1.moved hA, fun w hw => by
    refine va_Nw.same ?_ hv (h.2.2.2.1 w hw)
    rcases List.mem_append.mp hw with h1 | h1
    · rcases List.mem_singleton.mp h1 with rfl
      rfl
    · have h2 := (List.mem_filter.mp h1).2
      cases w <;> simp at h2
      rfl, h.2.2.2.2.1.moved hA, h.2.2.2.2.2.1.moved hA, fun k N f e => ⟨(h.2.2.2.2.2.2.1 k N f e).1, (h.2.2.2.2.2.2.1 k N f e).2.moved hA⟩, h.2.2.2.2.2.2.2.alike hA fun own k tx a q => vk_R.same hv.symm q⟩
section JS1
variable {G : jGT} {d : Nat} {md : jMD} {pc : Nat} {lv : List (Option Value)} {st : List Value} {n : Nat} {sh : jS} {M : jM} {r : jR} {c0 s0 mc ms : Nat} {post : jP}
theorem J_ldcS {i t : Nat} {tx : String} (hd : decode md.2.2.1 pc = .ok (.ldc i, 2)) (hq : (md.1, i, tx, t) ∈ jSrefs) (kk : J G d md (pc + 2) lv (.ref (3000 + t) :: st) n sh M r c0 s0 mc ms post) : J G d md pc lv st n sh M r c0 s0 mc ms post := by
  intro p e R s m args below meth c Q C X H locs ls hW hS hl hc hsl
  obtain ⟨hx, hb, hml, hown, hts, hlk, hrt, hnm, hO, hR, hsz, hHs⟩ := id C
  exact va_ldcS hx hb hown (hO.2.2.2.2.2.2.2.2.2.2 _ hq) hd (kk p e R s m args below meth c Q C X H locs ls hW hS hl hc hsl)
theorem J_getSV {i t : Nat} (hd : decode md.2.2.1 pc = .ok (.getfield i, 3)) (hw : Cond.fieldLink md.1 i RJ0 "value" "[B" ∈ gTbl) (ht : t < 5) (kk : J G d md (pc + 3) lv (.ref (4000 + t) :: st) n sh M r c0 s0 mc ms post) : J G d md pc lv (.ref (3000 + t) :: st) n sh M r c0 s0 mc ms post := by
  intro p e R s m args below meth c Q C X H locs ls hW hS hl hc hsl
  obtain ⟨hx, hb, hml, hown, hts, hlk, hrt, hnm, hO, hR, hsz, hHs⟩ := id C
  exact vk_getf hx hb ((hO.2.2.2.2.2.2.2.2.2.1 t ht).2.2.1.kept fun a ha _ => hHs a (hO.1.1 ▸ ha)) hS hown (hts _ hw) (fun _ h => h) hd (kk p e R s m args below meth c Q C X H locs ls hW hS hl hc hsl)
theorem J_getSC {i t : Nat} (hd : decode md.2.2.1 pc = .ok (.getfield i, 3)) (hw : Cond.fieldLink md.1 i RJ0 "coder" "B" ∈ gTbl) (ht : t < 5) (kk : J G d md (pc + 3) lv (.int 0 :: st) n sh M r c0 s0 mc ms post) : J G d md pc lv (.ref (3000 + t) :: st) n sh M r c0 s0 mc ms post := by
  intro p e R s m args below meth c Q C X H locs ls hW hS hl hc hsl
  obtain ⟨hx, hb, hml, hown, hts, hlk, hrt, hnm, hO, hR, hsz, hHs⟩ := id C
  exact vk_getf hx hb ((hO.2.2.2.2.2.2.2.2.2.1 t ht).2.1.kept fun a ha _ => hHs a (hO.1.1 ▸ ha)) hS hown (hts _ hw) (fun _ h => h) hd (kk p e R s m args below meth c Q C X H locs ls hW hS hl hc hsl)
theorem J_getCS {i : Nat} (hd : decode md.2.2.1 pc = .ok (.getstatic i, 3)) (hw : Cond.fieldLink md.1 i RJ0 "COMPACT_STRINGS" "Z" ∈ gTbl) (kk : J G d md (pc + 3) lv (.int 1 :: st) n sh M r c0 s0 mc ms post) : J G d md pc lv st n sh M r c0 s0 mc ms post := by
  intro p e R s m args below meth c Q C X H locs ls hW hS hl hc hsl
  obtain ⟨hx, hb, hml, hown, hts, hlk, hrt, hnm, hO, hR, hsz, hHs⟩ := id C
  exact va_gets hx hb (j_Z hO.1 hHs hO.2.2.2.2.2.2.2.1) hS hown (hts _ hw) (fun _ h => h) hd (kk p e R s m args below meth c Q C X H locs ls hW hS hl hc hsl)
theorem J_getFM {i : Nat} (hd : decode md.2.2.1 pc = .ok (.getstatic i, 3)) (hw : Cond.fieldLink md.1 i RJ3 "SIOOBE_FORMATTER" jFMT ∈ gTbl) (kn : J G d md (pc + 3) lv (.null :: st) n sh M r c0 s0 mc ms post) (kr : J G d md (pc + 3) lv (.ref 5000 :: st) n sh M r c0 s0 mc ms post) : J G d md pc lv st n sh M r c0 s0 mc ms post := by
  intro p e R s m args below meth c Q C X H locs ls hW hS hl hc hsl
  obtain ⟨hx, hb, hml, hown, hts, hlk, hrt, hnm, hO, hR, hsz, hHs⟩ := id C
  rcases hO.2.2.2.2.2.2.2.2.1 with h | h
  · exact va_gets hx hb (j_Z hO.1 hHs h) hS hown (hts _ hw) (fun _ h => h) hd (kn p e R s m args below meth c Q C X H locs ls hW hS hl hc hsl)
  · exact va_gets hx hb (j_Z hO.1 hHs h) hS hown (hts _ hw) (fun _ h => h) hd (kr p e R s m args below meth c Q C X H locs ls hW hS hl hc hsl)
theorem J_baldO {t : Nat} {i : Int32} (hd : decode md.2.2.1 pc = .ok (.baload, 1)) (ht : t < 5) (hi : vp_in i (jSlen.getD t 0)) (kk : J G d md (pc + 1) lv (.int ((jSbyt.getD t []).getD i.toNatClampNeg 0) :: st) n sh M r c0 s0 mc ms post) : J G d md pc lv (.int i :: .ref (4000 + t) :: st) n sh M r c0 s0 mc ms post := by
  intro p e R s m args below meth c Q C X H locs ls hW hS hl hc hsl
  obtain ⟨hx, hb, hml, hown, hts, hlk, hrt, hnm, hO, hR, hsz, hHs⟩ := id C
  exact va_tb hx hb ((hO.2.2.2.2.2.2.2.2.2.1 t ht).2.2.2.kept fun a ha _ => hHs a (hO.1.1 ▸ ha)) hS hi rfl hd (kk p e R s m args below meth c Q C X H locs ls hW hS hl hc hsl)
theorem J_alenS {t : Nat} (v : Int32) (hd : decode md.2.2.1 pc = .ok (.arraylength, 1)) (ht : t < 5) (hv : Int32.ofNat (jSlen.getD t 0) = v) (kk : J G d md (pc + 1) lv (.int v :: st) n sh M r c0 s0 mc ms post) : J G d md pc lv (.ref (4000 + t) :: st) n sh M r c0 s0 mc ms post := by
  intro p e R s m args below meth c Q C X H locs ls hW hS hl hc hsl
  obtain ⟨hx, hb, hml, hown, hts, hlk, hrt, hnm, hO, hR, hsz, hHs⟩ := id C
  obtain ⟨cell, h1, h2, h3, h4, h5, h6, h7⟩ := (hO.2.2.2.2.2.2.2.2.2.1 t ht).2.2.2
  exact W.alen hx hb (j_oldH hO.1 hsz hHs hS h1) h2 (h5.trans hv) rfl rfl hd (kk p e R s m args below meth c Q C X H locs ls hW hS hl hc hsl)
end JS1
def jU (G : jGT) (n : Nat) (sh : jS) (M : jM) (r : jR) (U : State) : Prop := jO G U ∧ jW G n sh M r U.heap ∧ ∀ q, q < jb G → U.heap[q]? = (jHs G)[q]?
def jwords (md : jMD) : List Cond := Cond.code md.2.1 md.2.2.1 md.2.2.2.1 md.2.2.2.2 :: gTbl
def jroom (d mc ms : Nat) : Room := { frames := d, cells := mc, slots := ms, locals := 40 * d }
def jQc (G : jGT) (P : jP) : Array Value → State → Outcome → State → Prop := fun _ u o t => (∃ (v : Option Value) (n' : Nat) (sh' : jS) (M' : jM) (r' : jR), o = .returned (v.map (jrn (jad G))) ∧ P v n' sh' M' r' ∧ jU G n' sh' M' r' t) ∧ va_F (jA G) u t
/-- the contract of a method: from these arguments and this world it comes back, and P holds of what comes back and of the world -/
def Con (G : jGT) (d : Nat) (md : jMD) (A : List Value) (n : Nat) (sh : jS) (M : jM) (r : jR) (mc ms : Nat) (P : jP) : Prop :=
  Met (jl G) md.2.1 (jwords md) (jroom d mc ms) (va_Pc (jst G A) (jU G n sh M r)) (jQc G P) mc ms (jA G)
def jMok (md : jMD) : Prop := md.1 = md.2.1.cls ∧ plainName md.2.1.cls = true
def jargs : List Value → List (Option Value)
  | [] => []
  | v :: vs => if v.category = 2 then some v :: none :: jargs vs else some v :: jargs vs
theorem jargs_toL (ad : Nat → Nat) (k : Nat) : ∀ (A : List Value) (i : Nat), jtoL ad i (jargs A ++ List.replicate k none) = lv_args i (A.map (jrn ad)) := by
  have h0 : ∀ (k i : Nat), jtoL ad i (List.replicate k none) = [] := by
    intro k
    induction k with
    | zero => intro i; rfl
    | succ k ih => intro i; rw [List.replicate_succ]; exact ih (i + 1)
  intro A
  induction A with
  | nil => intro i; exact h0 k i
  | cons v vs ih =>
    intro i
    show jtoL ad i ((if v.category = 2 then some v :: none :: jargs vs else some v :: jargs vs) ++ _) = lv_args i (jrn ad v :: vs.map (jrn ad))
    rw [lv_args, jrn_cat]
    by_cases h : v.category = 2
    · rw [if_pos h, if_pos h, ← ih (i + 2)]
      rfl
    · rw [if_neg h, if_neg h, ← ih (i + 1)]
      rfl
theorem jargs_len (A : List Value) (ad : Nat → Nat) : (jargs A).length = (lg_sl (A.map (jrn ad))).length := by
  induction A with
  | nil => rfl
  | cons v vs ih =>
    have e : lg_sl ((v :: vs).map (jrn ad)) = (if (jrn ad v).category = 2 then [.val (jrn ad v), .second] else [.val (jrn ad v)]) ++ lg_sl (vs.map (jrn ad)) := by
      simp only [lg_sl, List.map_cons, List.flatMap_cons]
    rw [e, jrn_cat]
    unfold jargs
    by_cases h : v.category = 2
    · simp [h, ih]
    · simp [h, ih]
theorem jU.called {G : jGT} {n : Nat} {sh : jS} {M : jM} {r : jR} {A : List Value} : FrameBlind (va_Pc A (jU G n sh M r)) := by
  intro a U g mk q
  obtain ⟨q0, q1, q2, q3⟩ := q
  exact ⟨q0, q1.same rfl, q2, q3⟩
/-- the body's proof gives the contract -/
theorem Con_of_J {G : jGT} {d : Nat} {md : jMD} {A : List Value} {n : Nat} {sh : jS} {M : jM} {r : jR} {mc ms : Nat} {P : jP} (hmd : jMok md) (k : Nat) {lv : List (Option Value)} (hlv : jargs A ++ List.replicate k none = lv) (hlen : lv.length = md.2.2.2.1)
    (h : J G d md 0 lv [] n sh M r 0 0 mc ms P) : Con G d md A n sh M r mc ms P := by
  subst hlv
  refine Met.ofW (cc := md.2.2.1) (maxL := md.2.2.2.1) (ret := md.2.2.2.2) hmd.2 rfl ?_
  intro p e s m args below meth c s₁ B hml hv
  obtain ⟨rfl, hO, hW, hHs⟩ := hv
  have hts := atoms_spec (ws := jwords md) B.pre
  have hown : s.vm.findClass md.1 = some m.cls := by rw [hmd.1]; exact findClass_of_methodNamed B.named
  have hnm : meth.name = md.2.1.name := (name_of_methodNamed B.named B.method).1
  rw [lg_entry_eq]
  have hlen2 : (lg_sl (jst G A)).length + k = md.2.2.2.1 := by
    rw [← hlen, List.length_append, List.length_replicate, jargs_len A (jad G)]
    rfl
  have hl := lv_entry (jst G A) (n := md.2.2.2.1) (by omega)
  generalize (lg_sl (jst G A) ++ List.replicate (md.2.2.2.1 - (lg_sl (jst G A)).length) Slot.unset).toArray = ls at hl ⊢
  have hsz : jb G ≤ s.heap.size := by rw [hW.1]; omega
  refine h p e (headSpec (jwords md) (jroom d mc ms)).room s m _ below meth c _ ⟨B.exec, B.bytes, hml, hown, fun w hw => hts w (List.mem_cons_of_mem _ hw), B.notSynchronized, B.returns, hnm, hO, ⟨Nat.le_refl _, Nat.le_refl _, Nat.le_refl _, Nat.le_refl _⟩, hsz, hHs⟩ ?_ s.heap [] ls hW va_S.rf ⟨?_, hlen⟩ (Nat.zero_le _) (Nat.zero_le _)
  · intro H locs ls pc' v n' sh' M' r' hp hret hW' hS'
    have hwl : ∀ t : State, t.heap = H → s.WarmedH t.vm → jU G n' sh' M' r' t := fun t ht hw => ⟨hO.moved hw, by rw [ht]; exact hW', fun q hq => by rw [ht, hS'.2.1 q (by omega) (by show ¬ jb G ≤ q; omega)]; exact hHs q hq⟩
    match v, hret with
    | none, hret => exact W.vret B.exec B.bytes (B.returns.trans hret.2) (fun t ht hw => ⟨⟨none, n', sh', M', r', rfl, hp, hwl t ht hw⟩, hS'.F ht⟩) hS'.2.2 hret.1 B.notSynchronized
    | some (.int x), hret =>
      obtain ⟨h1, ty, h2, h3⟩ := hret
      exact W.zret B.exec B.bytes (B.returns.trans h2) h3 (fun t ht hw => ⟨⟨some (.int x), n', sh', M', r', rfl, hp, hwl t ht hw⟩, hS'.F ht⟩) hS'.2.2 h1 B.notSynchronized
    | some (.long x), hret => exact W.lret B.exec B.bytes (B.returns.trans hret.2) (fun t ht hw => ⟨⟨some (.long x), n', sh', M', r', rfl, hp, hwl t ht hw⟩, hS'.F ht⟩) hS'.2.2 hret.1 B.notSynchronized
    | some (.ref x), hret =>
      obtain ⟨h1, t1, h2⟩ := hret
      exact W.aret B.exec B.bytes (B.returns.trans h2) (Or.inl ⟨_, rfl⟩) (Or.inr ⟨_, rfl⟩) (fun t ht hw => ⟨⟨some (.ref x), n', sh', M', r', rfl, hp, hwl t ht hw⟩, hS'.F ht⟩) hS'.2.2 h1 B.notSynchronized
  · rw [jargs_toL]
    exact hl
theorem j_callk {p : Program} {l : Launch} {e : Env} {R : Room} {s : State} {m : MethodId} {args : Array Value} {below : List Frame} {meth : Method} {c : Code} {H : Heap} {locs : List Loc} {cells slots : Nat} {Q : State → Prop} {pc : Nat} {ls : Array Slot} {rest st0 : List Value} {a : Array Value} {mc ms : Nat} {G : jGT} {P : jP}
    (hr : va_Run p l e R s m args below meth c H locs cells slots mc ms (F0 m pc ls st0) rest (jQc G P a) (jA G)) (hS : va_S (jA G) s.heap H locs)
    (kk : ∀ (v : Option Value) (n' : Nat) (sh' : jS) (M' : jM) (r' : jR) (H1 : Heap) (locs1 : List Loc), P v n' sh' M' r' → jW G n' sh' M' r' H1 → va_S (jA G) s.heap H1 locs1 → W p l e R s m args below meth c H1 locs1 (cells + mc) (slots + ms) Q (F0 m (pc + 3) ls ((v.map (jrn (jad G))).toList ++ rest))) : W p l e R s m args below meth c H locs cells slots Q (F0 m pc ls st0) := by
  intro T hT X
  obtain ⟨v, st₀, t, T', L, h0, X', hL, e1, e2, ⟨⟨v', n', sh', M', r', hv, hp, hU⟩, hz, hk⟩, st⟩ := hr T hT X
  cases hv
  rw [h0] at hz hk
  obtain ⟨t2, a1, b1⟩ := kk v' n' sh' M' r' T'.heap (locs ++ L) hp (by rw [e1]; exact hU.2.1)
    ⟨Nat.le_trans hS.1 (by rw [e1]; exact hz), fun q h1 h2 => by rw [e1, hk q (Nat.lt_of_lt_of_le h1 hS.1) h2]; exact hS.2.1 q h1 h2, fun q hq => by
      rcases List.mem_append.mp hq with h | h
      · exact hS.2.2 q h
      · exact hL q h⟩ T' rfl X'
  exact ⟨t2, st t2 a1, b1⟩
/-- a call's words: k the number of arguments -/
def jVL (own : String) (i : Nat) (md : jMD) (k : Nat) : Prop := (∀ w ∈ ([.methodLink own i md.2.1, .instanceMethod md.2.1, .selects md.2.1.cls md.2.1 md.2.1, .initialized md.2.1.cls, .code md.2.1 md.2.2.1 md.2.2.2.1 md.2.2.2.2] : List Cond), w ∈ gTbl) ∧ md.2.2.2.1 ≤ 21 ∧ md.2.1.cls ≠ "java/lang/invoke/MethodHandle" ∧ md.2.1.cls ≠ "java/lang/invoke/VarHandle" ∧ (parseMethodDescriptor md.2.1.desc).map (fun d => d.parameters.length) = some k
def jSL (own : String) (i : Nat) (md : jMD) (k : Nat) : Prop := (∀ w ∈ ([.methodLink own i md.2.1, .static md.2.1, .initialized md.2.1.cls, .code md.2.1 md.2.2.1 md.2.2.2.1 md.2.2.2.2] : List Cond), w ∈ gTbl) ∧ md.2.2.2.1 ≤ 21 ∧ md.2.1.cls ≠ "java/lang/invoke/MethodHandle" ∧ md.2.1.cls ≠ "java/lang/invoke/VarHandle" ∧ (parseMethodDescriptor md.2.1.desc).map (fun d => d.parameters.length) = some k
/-- a constructor's: by a plain link or a nest mate's -/
def jIL (own : String) (i : Nat) (md : jMD) (k : Nat) : Prop := (∀ w ∈ ([.instanceMethod md.2.1, .initialized md.2.1.cls, .code md.2.1 md.2.2.1 md.2.2.2.1 none] : List Cond), w ∈ gTbl) ∧ md.2.2.2.1 ≤ 21 ∧ md.2.1.cls ≠ "java/lang/invoke/MethodHandle" ∧ md.2.1.cls ≠ "java/lang/invoke/VarHandle" ∧ (parseMethodDescriptor md.2.1.desc).map (fun d => d.parameters.length) = some k ∧ md.2.1.name = "<init>" ∧ md.2.2.2.2 = none ∧ (Cond.methodLink own i md.2.1 ∈ gTbl ∨ ∃ host, Cond.methodLinkNest own i md.2.1 host ∈ jnests)
theorem jgw {md : jMD} {L : List Cond} (h : ∀ w ∈ L, w ∈ gTbl) (hc : Cond.code md.2.1 md.2.2.1 md.2.2.2.1 md.2.2.2.2 ∈ gTbl) : GoodIn gTbl (L ++ jwords md) := by
  intro w hw
  rcases List.mem_append.mp hw with h1 | h1
  · exact gTbl_good w (h w h1)
  · rcases List.mem_cons.mp h1 with h2 | h2
    · rw [h2]; exact gTbl_good _ hc
    · exact gTbl_good w h2
section JC
variable {G : jGT} {d : Nat} {md : jMD} {pc : Nat} {lv : List (Option Value)} {st : List Value} {n : Nat} {sh : jS} {M : jM} {r : jR} {c0 s0 mc ms : Nat} {post : jP}
theorem J_callV {i d' k b ci N : Nat} {md' : jMD} {As rest : List Value} {mc' ms' : Nat} {P : jP} (hd : decode md.2.2.1 pc = .ok (.invokevirtual i, 3)) (hv : jVL md.1 i md' k) (hC : Con G d' md' (.ref b :: As) n sh M r mc' ms' P) (hk : As.length = k) (hst : st = As.reverse ++ .ref b :: rest) (hdd : d' + 1 ≤ d) (hb : b < n) (hs : sh b = (ci, N)) (q : vw_C) (hq : vwCl[ci]? = some q) (hqc : md'.2.1.cls = q.1) (hrest : (rest.map fun v => v.category).sum ≤ 8) (hc1 : c0 + mc' ≤ mc) (hs1 : s0 + ms' ≤ ms)
    (kk : ∀ (v : Option Value) (n' : Nat) (sh' : jS) (M' : jM) (r' : jR), P v n' sh' M' r' → J G d md (pc + 3) lv (v.toList ++ rest) n' sh' M' r' (c0 + mc') (s0 + ms') mc ms post) : J G d md pc lv st n sh M r c0 s0 mc ms post := by
  intro p e R s m args below meth c Q C X H locs ls hW hS hl hc hsl
  obtain ⟨hx, hb2, hml, hown, hts, hlk, hrt, hnm, hO, hR, hsz, hHs⟩ := id C
  obtain ⟨hw, hmax, hn1, hn2, hpar⟩ := hv
  have hat := hW.2.1 b hb
  rw [jent_obj hs (vwCl_lt hq)] at hat
  subst hst
  have hU : ∀ U : State, U.heap = H → s.WarmedH U.vm → va_Pc (jst G (.ref b :: As)) (jU G n sh M r) (Value.ref (jad G b) :: As.map (jrn (jad G))).toArray U := fun U hU hWm => ⟨rfl, hO.moved hWm, by rw [hU]; exact hW, fun q hq => by rw [hU, hS.2.1 q (by omega) (by show ¬ jb G ≤ q; omega)]; exact hHs q hq⟩
  have hfr : (jroom d' mc' ms').frames + 1 ≤ R.frames ∧ 8 + (md'.2.2.2.1 + 11) + (jroom d' mc' ms').locals ≤ R.locals := ⟨by show d' + 1 ≤ _; have := hR.1; omega, by show _ + 40 * d' ≤ _; have := hR.2.1; omega⟩
  have hrun : va_Run p (jl G) e R s m args below meth c H locs c0 s0 mc' ms' (F0 m pc ls (jst G (As.reverse ++ .ref b :: rest))) (rest.map (jrn (jad G))) (jQc G P (Value.ref (jad G b) :: As.map (jrn (jad G))).toArray) (jA G) := va_runV (rm := jroom d' mc' ms') (As := As.map (jrn (jad G))) (rest := rest.map (jrn (jad G))) (b := jad G b) (C := q.1) (g := F0 m pc ls (jst G (As.reverse ++ .ref b :: rest))) (cells := c0) (slots := s0) (locs := locs) ⟨hx, hb2, hml, hown, hts⟩ hC (cwV (ws' := gTbl) k hts (by
      refine fun w hw2 => jgw (md := md') (L := [.methodLink md.1 i md'.2.1, .instanceMethod md'.2.1, .selects md'.2.1.cls md'.2.1 md'.2.1, .initialized md'.2.1.cls]) (fun w h => hw w (by simp only [List.mem_cons, List.not_mem_nil, or_false] at h ⊢; rcases h with h | h | h | h <;> simp [h])) (hw _ (by simp)) w ?_
      rw [← hqc] at hw2
      exact hw2) rfl rfl rfl ⟨hqc, hn1, hn2, hpar⟩ hfr) ⟨jU.called, va_recv hO.2.1 (jP1 hat) (ci := ci) (q0 := 0) hq rfl, hU⟩ rfl (by simp [hk]) hl.1.1 (by simp [jst, jrn]) (by rw [j_cats]; show 2 * 0 + _ ≤ _; omega) hd ⟨by have := hR.2.2.1; omega, by have := hR.2.2.2; omega⟩
  refine j_callk hrun hS (fun v n' sh' M' r' H1 locs1 hp hW1 hS1 => ?_)
  have h9 := kk v n' sh' M' r' hp p e R s m args below meth c Q C X H1 locs1 ls hW1 hS1 hl hc1 hs1
  have e9 : jst G (v.toList ++ rest) = (v.map (jrn (jad G))).toList ++ rest.map (jrn (jad G)) := by cases v <;> simp [jst]
  rw [e9] at h9
  exact h9
theorem J_callVS {i d' k t : Nat} {md' : jMD} {As rest : List Value} {mc' ms' : Nat} {P : jP} (hd : decode md.2.2.1 pc = .ok (.invokevirtual i, 3)) (hv : jVL md.1 i md' k) (hC : Con G d' md' (.ref (3000 + t) :: As) n sh M r mc' ms' P) (hk : As.length = k) (hst : st = As.reverse ++ .ref (3000 + t) :: rest) (hdd : d' + 1 ≤ d) (ht : t < 5) (hqc : md'.2.1.cls = RJ0) (hrest : (rest.map fun v => v.category).sum ≤ 8) (hc1 : c0 + mc' ≤ mc) (hs1 : s0 + ms' ≤ ms)
    (kk : ∀ (v : Option Value) (n' : Nat) (sh' : jS) (M' : jM) (r' : jR), P v n' sh' M' r' → J G d md (pc + 3) lv (v.toList ++ rest) n' sh' M' r' (c0 + mc') (s0 + ms') mc ms post) : J G d md pc lv st n sh M r c0 s0 mc ms post := by
  intro p e R s m args below meth c Q C X H locs ls hW hS hl hc hsl
  obtain ⟨hx, hb2, hml, hown, hts, hlk, hrt, hnm, hO, hR, hsz, hHs⟩ := id C
  obtain ⟨hw, hmax, hn1, hn2, hpar⟩ := hv
  subst hst
  have hU : ∀ U : State, U.heap = H → s.WarmedH U.vm → va_Pc (jst G (.ref (3000 + t) :: As)) (jU G n sh M r) (Value.ref (jad G (3000 + t)) :: As.map (jrn (jad G))).toArray U := fun U hU hWm => ⟨rfl, hO.moved hWm, by rw [hU]; exact hW, fun q hq => by rw [hU, hS.2.1 q (by omega) (by show ¬ jb G ≤ q; omega)]; exact hHs q hq⟩
  have hfr : (jroom d' mc' ms').frames + 1 ≤ R.frames ∧ 8 + (md'.2.2.2.1 + 11) + (jroom d' mc' ms').locals ≤ R.locals := ⟨by show d' + 1 ≤ _; have := hR.1; omega, by show _ + 40 * d' ≤ _; have := hR.2.1; omega⟩
  have hrecv : ∃ cell : Cell, H[jad G (3000 + t)]? = some cell ∧ cell.vm.isStatics = false ∧ s.vm.findClass RJ0 = some cell.cls := by
    obtain ⟨cell, h1, h2, h3, -⟩ := (hO.2.2.2.2.2.2.2.2.2.1 t ht).1
    exact ⟨cell, j_oldH hO.1 hsz hHs hS h1, h2, h3⟩
  have hrun : va_Run p (jl G) e R s m args below meth c H locs c0 s0 mc' ms' (F0 m pc ls (jst G (As.reverse ++ .ref (3000 + t) :: rest))) (rest.map (jrn (jad G))) (jQc G P (Value.ref (jad G (3000 + t)) :: As.map (jrn (jad G))).toArray) (jA G) := va_runV (rm := jroom d' mc' ms') (As := As.map (jrn (jad G))) (rest := rest.map (jrn (jad G))) (b := jad G (3000 + t)) (C := RJ0) (g := F0 m pc ls (jst G (As.reverse ++ .ref (3000 + t) :: rest))) (cells := c0) (slots := s0) (locs := locs) ⟨hx, hb2, hml, hown, hts⟩ hC (cwV (ws' := gTbl) k hts (by
      refine fun w hw2 => jgw (md := md') (L := [.methodLink md.1 i md'.2.1, .instanceMethod md'.2.1, .selects md'.2.1.cls md'.2.1 md'.2.1, .initialized md'.2.1.cls]) (fun w h => hw w (by simp only [List.mem_cons, List.not_mem_nil, or_false] at h ⊢; rcases h with h | h | h | h <;> simp [h])) (hw _ (by simp)) w ?_
      rw [← hqc] at hw2
      exact hw2) rfl rfl rfl ⟨hqc, hn1, hn2, hpar⟩ hfr) ⟨jU.called, hrecv, hU⟩ rfl (by simp [hk]) hl.1.1 (by simp [jst, jrn]) (by rw [j_cats]; show 2 * 0 + _ ≤ _; omega) hd ⟨by have := hR.2.2.1; omega, by have := hR.2.2.2; omega⟩
  refine j_callk hrun hS (fun v n' sh' M' r' H1 locs1 hp hW1 hS1 => ?_)
  have h9 := kk v n' sh' M' r' hp p e R s m args below meth c Q C X H1 locs1 ls hW1 hS1 hl hc1 hs1
  have e9 : jst G (v.toList ++ rest) = (v.map (jrn (jad G))).toList ++ rest.map (jrn (jad G)) := by cases v <;> simp [jst]
  rw [e9] at h9
  exact h9
theorem J_callS {i d' k : Nat} {md' : jMD} {As rest : List Value} {mc' ms' : Nat} {P : jP} (hd : decode md.2.2.1 pc = .ok (.invokestatic i, 3)) (hv : jSL md.1 i md' k) (hC : Con G d' md' As n sh M r mc' ms' P) (hk : As.length = k) (hst : st = As.reverse ++ rest) (hdd : d' + 1 ≤ d) (hrest : (rest.map fun v => v.category).sum ≤ 8) (hc1 : c0 + mc' ≤ mc) (hs1 : s0 + ms' ≤ ms)
    (kk : ∀ (v : Option Value) (n' : Nat) (sh' : jS) (M' : jM) (r' : jR), P v n' sh' M' r' → J G d md (pc + 3) lv (v.toList ++ rest) n' sh' M' r' (c0 + mc') (s0 + ms') mc ms post) : J G d md pc lv st n sh M r c0 s0 mc ms post := by
  intro p e R s m args below meth c Q C X H locs ls hW hS hl hc hsl
  obtain ⟨hx, hb2, hml, hown, hts, hlk, hrt, hnm, hO, hR, hsz, hHs⟩ := id C
  obtain ⟨hw, hmax, hn1, hn2, hpar⟩ := hv
  subst hst
  have hU : ∀ U : State, U.heap = H → s.WarmedH U.vm → va_Pc (jst G As) (jU G n sh M r) (As.map (jrn (jad G))).toArray U := fun U hU hWm => ⟨rfl, hO.moved hWm, by rw [hU]; exact hW, fun q hq => by rw [hU, hS.2.1 q (by omega) (by show ¬ jb G ≤ q; omega)]; exact hHs q hq⟩
  have hfr : (jroom d' mc' ms').frames + 1 ≤ R.frames ∧ 8 + (md'.2.2.2.1 + 11) + (jroom d' mc' ms').locals ≤ R.locals := ⟨by show d' + 1 ≤ _; have := hR.1; omega, by show _ + 40 * d' ≤ _; have := hR.2.1; omega⟩
  have hrun : va_Run p (jl G) e R s m args below meth c H locs c0 s0 mc' ms' (F0 m pc ls (jst G (As.reverse ++ rest))) (rest.map (jrn (jad G))) (jQc G P (As.map (jrn (jad G))).toArray) (jA G) := va_runS (rm := jroom d' mc' ms') (As := As.map (jrn (jad G))) (rest := rest.map (jrn (jad G))) (g := F0 m pc ls (jst G (As.reverse ++ rest))) (cells := c0) (slots := s0) (locs := locs) ⟨hx, hb2, hml, hown, hts⟩ hC (va_cwS (ws' := gTbl) k hts (jgw (md := md') (L := [.methodLink md.1 i md'.2.1, .static md'.2.1, .initialized md'.2.1.cls]) (fun w h => hw w (by simp only [List.mem_cons, List.not_mem_nil, or_false] at h ⊢; rcases h with h | h | h <;> simp [h])) (hw _ (by simp))) rfl rfl rfl ⟨hn1, hn2, hpar⟩ hfr) ⟨jU.called, hU⟩ rfl (by simp [hk]) hl.1.1 (by simp [jst]) (by rw [j_cats]; show 2 * 0 + _ ≤ _; omega) hd ⟨by have := hR.2.2.1; omega, by have := hR.2.2.2; omega⟩
  refine j_callk hrun hS (fun v n' sh' M' r' H1 locs1 hp hW1 hS1 => ?_)
  have h9 := kk v n' sh' M' r' hp p e R s m args below meth c Q C X H1 locs1 ls hW1 hS1 hl hc1 hs1
  have e9 : jst G (v.toList ++ rest) = (v.map (jrn (jad G))).toList ++ rest.map (jrn (jad G)) := by cases v <;> simp [jst]
  rw [e9] at h9
  exact h9
theorem J_callI {i d' k b : Nat} {md' : jMD} {As rest : List Value} {mc' ms' : Nat} {P : jP} (hd : decode md.2.2.1 pc = .ok (.invokespecial i, 3)) (hv : jIL md.1 i md' k) (hC : Con G d' md' (.ref b :: As) n sh M r mc' ms' P) (hk : As.length = k) (hst : st = As.reverse ++ .ref b :: rest) (hdd : d' + 1 ≤ d) (hrest : (rest.map fun v => v.category).sum ≤ 8) (hc1 : c0 + mc' ≤ mc) (hs1 : s0 + ms' ≤ ms)
    (kk : ∀ (v : Option Value) (n' : Nat) (sh' : jS) (M' : jM) (r' : jR), P v n' sh' M' r' → J G d md (pc + 3) lv (v.toList ++ rest) n' sh' M' r' (c0 + mc') (s0 + ms') mc ms post) : J G d md pc lv st n sh M r c0 s0 mc ms post := by
  intro p e R s m args below meth c Q C X H locs ls hW hS hl hc hsl
  obtain ⟨hx, hb2, hml, hown, hts, hlk, hrt, hnm, hO, hR, hsz, hHs⟩ := id C
  obtain ⟨hw, hmax, hn1, hn2, hpar, hinit, hnone, hlink⟩ := hv
  subst hst
  have hU : ∀ U : State, U.heap = H → s.WarmedH U.vm → va_Pc (jst G (.ref b :: As)) (jU G n sh M r) (Value.ref (jad G b) :: As.map (jrn (jad G))).toArray U := fun U hU hWm => ⟨rfl, hO.moved hWm, by rw [hU]; exact hW, fun q hq => by rw [hU, hS.2.1 q (by omega) (by show ¬ jb G ≤ q; omega)]; exact hHs q hq⟩
  have hwd : jwords md' = Cond.code md'.2.1 md'.2.2.1 md'.2.2.2.1 none :: gTbl := by unfold jwords; rw [hnone]
  have hG : GoodIn gTbl (jwords md') := by
    rw [hwd]
    intro w hw2
    rcases List.mem_cons.mp hw2 with h2 | h2
    · rw [h2]; exact gTbl_good _ (hw _ (by simp))
    · exact gTbl_good w h2
  have hfr : (jroom d' mc' ms').frames + 1 ≤ R.frames ∧ 8 + (md'.2.2.2.1 + 11) + (jroom d' mc' ms').locals ≤ R.locals := ⟨by show d' + 1 ≤ _; have := hR.1; omega, by show _ + 40 * d' ≤ _; have := hR.2.1; omega⟩
  have hrun : va_Run p (jl G) e R s m args below meth c H locs c0 s0 mc' ms' (F0 m pc ls (jst G (As.reverse ++ .ref b :: rest))) (rest.map (jrn (jad G))) (jQc G P (Value.ref (jad G b) :: As.map (jrn (jad G))).toArray) (jA G) := by
    rcases hlink with h1 | ⟨host, h1⟩
    · exact va_runI (As := As.map (jrn (jad G))) (rest := rest.map (jrn (jad G))) (b := jad G b) (g := F0 m pc ls (jst G (As.reverse ++ .ref b :: rest))) ⟨hx, hb2, hml, hown, hts⟩ hC (cwI (ws' := gTbl) k hts hG hwd rfl rfl (hts _ (hw _ (by simp))) (hts _ h1) (hts _ (hw _ (by simp))) hinit ⟨hn1, hn2, hpar⟩ hfr) ⟨jU.called, hU⟩ rfl (by simp [hk]) hl.1.1 (by simp [jst, jrn]) (by rw [j_cats]; show 2 * 0 + _ ≤ _; omega) hd ⟨by have := hR.2.2.1; omega, by have := hR.2.2.2; omega⟩
    · exact va_runIN (As := As.map (jrn (jad G))) (rest := rest.map (jrn (jad G))) (b := jad G b) (g := F0 m pc ls (jst G (As.reverse ++ .ref b :: rest))) ⟨hx, hb2, hml, hown, hts⟩ hC ⟨va_cnB (ws' := gTbl) k hts hG hwd rfl rfl (hO.2.2.2.1 _ h1) (hts _ (hw _ (by simp))) ⟨hn1, hn2, hpar⟩ hfr, hinit, hts _ (hw _ (by simp))⟩ ⟨jU.called, hU⟩ rfl (by simp [hk]) hl.1.1 (by simp [jst, jrn]) (by rw [j_cats]; show 2 * 0 + _ ≤ _; omega) hd ⟨by have := hR.2.2.1; omega, by have := hR.2.2.2; omega⟩
  refine j_callk hrun hS (fun v n' sh' M' r' H1 locs1 hp hW1 hS1 => ?_)
  have h9 := kk v n' sh' M' r' hp p e R s m args below meth c Q C X H1 locs1 ls hW1 hS1 hl hc1 hs1
  have e9 : jst G (v.toList ++ rest) = (v.map (jrn (jad G))).toList ++ rest.map (jrn (jad G)) := by cases v <;> simp [jst]
  rw [e9] at h9
  exact h9
theorem J_mmin {i : Nat} {x y : Int32} (hd : decode md.2.2.1 pc = .ok (.invokestatic i, 3)) (hw : Cond.methodLink md.1 i Lib.Math.min.name ∈ gTbl) (hd1 : 1 ≤ d) (hst : (st.map fun v => v.category).sum ≤ 8) (kk : J G d md (pc + 3) lv (.int (if y < x then y else x) :: st) n sh M r c0 s0 mc ms post) : J G d md pc lv (.int y :: .int x :: st) n sh M r c0 s0 mc ms post := by
  intro p e R s m args below meth c Q C X H locs ls hW hS hl hc hsl
  obtain ⟨hx, hb, hml, hown, hts, hlk, hrt, hnm, hO, hR, hsz, hHs⟩ := id C
  have hg : ∀ w ∈ ([.static Lib.Math.min.name, .initialized "java/lang/Math", .code Lib.Math.min.name Lib.Math.min.code 2 (some .int)] : List Cond), w ∈ gTbl := by decide +kernel
  have hsum : ((List.map (jrn (jad G)) st).map fun v => v.category).sum ≤ 8 := by rw [j_cats]; exact hst
  exact va_mmin hx hb (hml.trans hl.1.1.symm) hown (hts _ hw) (hts _ (hg _ (by simp))) (hts _ (hg _ (by simp))) (hts _ (hg _ (by simp))) (by have := hR.1; omega) (by have := hR.2.1; omega) (by have := hR.2.2.1; omega) (by have := hR.2.2.2; omega) hd (kk p e R s m args below meth c Q C X H locs ls hW hS hl hc hsl)
theorem J_mmax {i : Nat} {x y : Int32} (hd : decode md.2.2.1 pc = .ok (.invokestatic i, 3)) (hw : Cond.methodLink md.1 i Lib.Math.max.name ∈ gTbl) (hd1 : 1 ≤ d) (hst : (st.map fun v => v.category).sum ≤ 8) (kk : J G d md (pc + 3) lv (.int (if x < y then y else x) :: st) n sh M r c0 s0 mc ms post) : J G d md pc lv (.int y :: .int x :: st) n sh M r c0 s0 mc ms post := by
  intro p e R s m args below meth c Q C X H locs ls hW hS hl hc hsl
  obtain ⟨hx, hb, hml, hown, hts, hlk, hrt, hnm, hO, hR, hsz, hHs⟩ := id C
  have hg : ∀ w ∈ ([.static Lib.Math.max.name, .initialized "java/lang/Math", .code Lib.Math.max.name Lib.Math.max.code 2 (some .int)] : List Cond), w ∈ gTbl := by decide +kernel
  have hsum : ((List.map (jrn (jad G)) st).map fun v => v.category).sum ≤ 8 := by rw [j_cats]; exact hst
  exact va_mmax hx hb (hml.trans hl.1.1.symm) hown (hts _ hw) (hts _ (hg _ (by simp))) (hts _ (hg _ (by simp))) (hts _ (hg _ (by simp))) (by have := hR.1; omega) (by have := hR.2.1; omega) (by have := hR.2.2.1; omega) (by have := hR.2.2.2; omega) hd (kk p e R s m args below meth c Q C X H locs ls hW hS hl hc hsl)
def jsub : List (Option Value) → List (Option Value) → Prop
  | [], [] => True
  | none :: a, _ :: b => jsub a b
  | some v :: a, w :: b => w = some v ∧ jsub a b
  | _, _ => False
theorem jsub_len : ∀ {a b : List (Option Value)}, jsub a b → a.length = b.length
  | [], [], _ => rfl
  | none :: a, _ :: b, h => congrArg (· + 1) (jsub_len (a := a) h)
  | some _ :: a, _ :: b, h => congrArg (· + 1) (jsub_len (a := a) h.2)
theorem jsub_get : ∀ {a b : List (Option Value)} {i : Nat} {v : Value}, jsub a b → a[i]? = some (some v) → b[i]? = some (some v)
  | [], [], _, _, _, h => by simp at h
  | none :: a, _ :: b, 0, v, h, e => by simp at e
  | none :: a, _ :: b, i + 1, v, h, e => by simpa using jsub_get (a := a) (b := b) (i := i) h (by simpa using e)
  | some _ :: a, _ :: b, 0, v, h, e => by simp at e; subst e; simpa using h.1
  | some _ :: a, _ :: b, i + 1, v, h, e => by simpa using jsub_get (a := a) (b := b) (i := i) h.2 (by simpa using e)
theorem J_weak {lv' : List (Option Value)} (h : jsub lv' lv) (k : J G d md pc lv' st n sh M r c0 s0 mc ms post) : J G d md pc lv st n sh M r c0 s0 mc ms post := by
  intro p e R s m args below meth c Q C X H locs ls hW hS hl hc hsl
  refine k p e R s m args below meth c Q C X H locs ls hW hS ⟨⟨hl.1.1, hl.1.2.1, fun q hq => ?_⟩, (jsub_len h).trans hl.2⟩ hc hsl
  obtain ⟨j, v, h1, rfl⟩ := jtoL_mem _ _ _ _ hq
  rw [Nat.zero_add]
  exact hl.at j (jsub_get h h1)
theorem J_ret (hd : decode md.2.2.1 pc = .ok (.return_, 1)) (hr : md.2.2.2.2 = none) (hp : post none n sh M r) : J G d md pc lv [] n sh M r c0 s0 mc ms post := by
  intro p e R s m args below meth c Q C X H locs ls hW hS hl hc hsl
  exact W.widen hc hsl (X H locs ls pc none n sh M r hp ⟨hd, hr⟩ hW hS)
theorem J_iret {x : Int32} (hd : decode md.2.2.1 pc = .ok (.ireturn, 1)) (hr : md.2.2.2.2 = some .int) (hp : post (some (.int x)) n sh M r) : J G d md pc lv [.int x] n sh M r c0 s0 mc ms post := by
  intro p e R s m args below meth c Q C X H locs ls hW hS hl hc hsl
  exact W.widen hc hsl (X H locs ls pc (some (.int x)) n sh M r hp ⟨hd, _, hr, rfl⟩ hW hS)
theorem J_zret {x : Int32} {ty : FieldType} (hd : decode md.2.2.1 pc = .ok (.ireturn, 1)) (hr : md.2.2.2.2 = some ty) (hn : narrow ty (.int x) = .int x) (hp : post (some (.int x)) n sh M r) : J G d md pc lv [.int x] n sh M r c0 s0 mc ms post := by
  intro p e R s m args below meth c Q C X H locs ls hW hS hl hc hsl
  exact W.widen hc hsl (X H locs ls pc (some (.int x)) n sh M r hp ⟨hd, _, hr, hn⟩ hW hS)
theorem J_lret {x : Int64} (hd : decode md.2.2.1 pc = .ok (.lreturn, 1)) (hr : md.2.2.2.2 = some .long) (hp : post (some (.long x)) n sh M r) : J G d md pc lv [.long x] n sh M r c0 s0 mc ms post := by
  intro p e R s m args below meth c Q C X H locs ls hW hS hl hc hsl
  exact W.widen hc hsl (X H locs ls pc (some (.long x)) n sh M r hp ⟨hd, hr⟩ hW hS)
theorem J_aret {x : Nat} {t : String} (hd : decode md.2.2.1 pc = .ok (.areturn, 1)) (hr : md.2.2.2.2 = some (.object t)) (hp : post (some (.ref x)) n sh M r) : J G d md pc lv [.ref x] n sh M r c0 s0 mc ms post := by
  intro p e R s m args below meth c Q C X H locs ls hW hS hl hc hsl
  exact W.widen hc hsl (X H locs ls pc (some (.ref x)) n sh M r hp ⟨hd, t, hr⟩ hW hS)
end JC
