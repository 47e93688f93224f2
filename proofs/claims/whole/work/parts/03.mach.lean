def gTbl : List Cond := lw_tbl.filter goodWord
theorem gTbl_mem {w : Cond} (i : Nat) (h : lw_tbl[i]? = some w) (hg : goodWord w = true) : w ∈ gTbl := List.mem_filter.mpr ⟨List.mem_of_getElem? h, hg⟩
theorem gTbl_good : GoodIn gTbl gTbl := fun w hw => ⟨hw, good_of_word (List.mem_filter.mp hw).2⟩
abbrev jM : Type := Nat → Nat → Int32
abbrev jR : Type := Nat → Nat → Option Nat
abbrev jS : Type := Nat → Nat × Nat
abbrev jMD : Type := String × MethodName × ByteArray × Nat × Option FieldType
/-- launch, tables' numbers, classes of arrays (0 int, 1 byte, 2 boolean, 3 Tally), the first address of ours, the heap at the law's start, the addresses, the script's length, the script -/
abbrev jGT : Type := Launch × va_G × (Nat → ClassId) × Nat × Heap × (Nat → Nat) × Nat × (Nat → Int32)
def jl (G : jGT) : Launch := G.1
def jD (G : jGT) : va_G := G.2.1
def jcA (G : jGT) : Nat → ClassId := G.2.2.1
def jb (G : jGT) : Nat := G.2.2.2.1
def jHs (G : jGT) : Heap := G.2.2.2.2.1
def jad (G : jGT) : Nat → Nat := G.2.2.2.2.2.1
def jL (G : jGT) : Nat := G.2.2.2.2.2.2.1
def jxs (G : jGT) : Nat → Int32 := G.2.2.2.2.2.2.2
def jA (G : jGT) : Nat → Prop := fun q => jb G ≤ q
def jtys (G : jGT) : List (ClassId × FieldType) := [(jcA G 0, .int), (jcA G 1, .byte), (jcA G 2, .boolean), (jcA G 3, .object RX6)]
def jrn (ad : Nat → Nat) (v : Value) : Value := match v with
  | .ref k => .ref (ad k)
  | v => v
def jref (ci j : Nat) : Bool := match (vwCl[ci]?) with
  | some q => match (q.2.1 j).2.2.1.toList with
    | 'I' :: _ => false
    | 'Z' :: _ => false
    | _ => true
  | none => false
def jfv (G : jGT) (M : jM) (r : jR) (k ci j : Nat) : Value := if jref ci j = true then va_rf ((r k j).map (jad G)) else .int (M k j)
def jent (G : jGT) (sh : jS) (M : jM) (r : jR) (k : Nat) : va_E :=
  if (sh k).1 < 100 then .inr ((sh k).1, (List.range (sh k).2).map (jfv G M r k (sh k).1))
  else if (sh k).1 = 103 then .inl (jcA G 3, (sh k).2, .inr (.inr (.inr (.inr (fun j => (r k j).map (jad G))))))
  else .inl (jcA G ((sh k).1 - 100), (sh k).2, .inl (M k))
def jW (G : jGT) (n : Nat) (sh : jS) (M : jM) (r : jR) (H : Heap) : Prop :=
  H.size = jb G + n ∧ (∀ k, k < n → va_at (jD G) vwCl (jad G k, jent G sh M r k) H) ∧ n ≤ 1000
def jABOVE (j : Nat) : Int32 := ([-1, 0, 0, 0, 1, 2, 3] : List Int32).getD j 0
def jBODIES (j : Nat) : Int32 := ([1, 2, 3, 11, 0, 0, 0, 21, 0, 0, 0, 31, 0, 0, 41, 51, 0, 0, 0, 61, 0] : List Int32).getD j 0
/-- the arrays that were there before: their lengths and what they hold -/
def jold (G : jGT) (k : Nat) : Option (Nat × (Nat → Int32)) := if k = 1000 then some (7, jABOVE) else if k = 1001 then some (21, jBODIES) else if k = 2000 then some (jL G, jxs G) else none
def jnests : List Cond := [.fieldLinkNest RX1 39 RX7 "ABOVE" "[I" RX7] ++ lw_tbl.filter (fun w => match w with | .methodLinkNest _ _ _ _ => true | _ => false)
def jGok (G : jGT) : Prop := (jHs G).size = jb G ∧ (∀ k, k < 1000 → jad G k = jb G + k) ∧ jL G ≤ 320
def jSlen : List Nat := [6, 6, 4, 4, 3]
def jSbyt : List (List Int32) := [[119, 101, 105, 103, 104, 32], [99, 108, 97, 115, 104, 32], [98, 97, 114, 32], [112, 107, 118, 100], [60, 61, 62]]
def jSrefs : List (String × Nat × String × Nat) := [(RX3, 107, "weigh ", 0), (RX3, 109, "clash ", 1), (RX3, 111, "bar ", 2), (RX8, 99, "pkvd", 3), (RX8, 105, "<=>", 4), (RX8, 117, "weigh ", 0), (RX8, 123, "clash ", 1), (RX8, 125, "bar ", 2)]
def jFMT : String := "Ljava/util/function/BiFunction;"
def jStr (G : jGT) (U : State) : Prop := va_Z RJ0 "COMPACT_STRINGS" "Z" (.int 1) (jA G) U (jHs G) ∧ (va_Z RJ3 "SIOOBE_FORMATTER" jFMT .null (jA G) U (jHs G) ∨ va_Z RJ3 "SIOOBE_FORMATTER" jFMT (.ref (jad G 5000)) (jA G) U (jHs G)) ∧
  (∀ i : Nat, i < 5 → va_O RJ0 (jad G (3000 + i)) (jA G) U (jHs G) ∧ va_OF RJ0 "coder" "B" (.int 0) (jad G (3000 + i)) (jA G) U (jHs G) ∧ va_OF RJ0 "value" "[B" (.ref (jad G (4000 + i))) (jad G (3000 + i)) (jA G) U (jHs G) ∧ va_T .byte (jad G (4000 + i)) (jSlen.getD i 0) (fun j => .int ((jSbyt.getD i []).getD j 0)) (jA G) U (jHs G)) ∧
  ∀ q ∈ jSrefs, vk_R q.1 q.2.1 q.2.2.1 (jad G (3000 + q.2.2.2)) U
theorem jStr.alike {G : jGT} {s U : State} (h : jStr G s) (hA : s.vm.Alike U.vm) (hr : ∀ (own : String) (k : Nat) (tx : String) (a : Nat), vk_R own k tx a s → vk_R own k tx a U) : jStr G U :=
  ⟨h.1.moved hA, h.2.1.imp (fun q => q.moved hA) (fun q => q.moved hA), fun i hi => ⟨(h.2.2.1 i hi).1.moved hA, (h.2.2.1 i hi).2.1.moved hA, (h.2.2.1 i hi).2.2.1.moved hA, (h.2.2.1 i hi).2.2.2.moved hA⟩, fun q hq => hr _ _ _ _ (h.2.2.2 q hq)⟩
def jO (G : jGT) (U : State) : Prop := jGok G ∧ va_K (jD G) vwCl (jtys G) U ∧ va_AO RX6 U ∧ (∀ w ∈ jnests, va_Nw w U) ∧
  va_Z RX7 "ABOVE" "[I" (.ref (jad G 1000)) (jA G) U (jHs G) ∧ va_Z RX1 "BODIES" "[I" (.ref (jad G 1001)) (jA G) U (jHs G) ∧
  (∀ k N f, jold G k = some (N, f) → N ≤ 320 ∧ va_T .int (jad G k) N (fun j => .int (f j)) (jA G) U (jHs G)) ∧ jStr G U
theorem jnest_moved {w : Cond} (hw : w ∈ jnests) {s U : State} (hW : s.WarmedH U.vm) (h : va_Nw w s) : va_Nw w U := by
  rcases List.mem_append.mp hw with h1 | h1
  · rcases List.mem_singleton.mp h1 with rfl
    exact h.warmF hW
  · have h2 := (List.mem_filter.mp h1).2
    cases w <;> simp at h2
    exact h.warmM hW
theorem jO.moved {G : jGT} {s U : State} (h : jO G s) (hW : s.WarmedH U.vm) : jO G U :=
  ⟨h.1, va_K.moved hW.alike h.2.1, h.2.2.1.moved hW.alike, fun w hw => jnest_moved hw hW (h.2.2.2.1 w hw), h.2.2.2.2.1.moved hW.alike, h.2.2.2.2.2.1.moved hW.alike, fun k N f e => ⟨(h.2.2.2.2.2.2.1 k N f e).1, (h.2.2.2.2.2.2.1 k N f e).2.moved hW.alike⟩, h.2.2.2.2.2.2.2.alike hW.alike fun own k tx a q => vk_R.warm hW q⟩
def jRok (d mc ms : Nat) (R : Room) : Prop := d ≤ R.frames ∧ 40 * d ≤ R.locals ∧ mc ≤ R.cells ∧ ms ≤ R.slots
abbrev jP : Type := Option Value → Nat → jS → jM → jR → Prop
def jRet (md : jMD) (pc : Nat) (v : Option Value) : Prop := match v with
  | none => decode md.2.2.1 pc = .ok (.return_, 1) ∧ md.2.2.2.2 = none
  | some (.int x) => decode md.2.2.1 pc = .ok (.ireturn, 1) ∧ ∃ ty, md.2.2.2.2 = some ty ∧ narrow ty (.int x) = .int x
  | some (.long _) => decode md.2.2.1 pc = .ok (.lreturn, 1) ∧ md.2.2.2.2 = some .long
  | some (.ref _) => decode md.2.2.1 pc = .ok (.areturn, 1) ∧ ∃ n, md.2.2.2.2 = some (.object n)
  | _ => False
def jCx (G : jGT) (d : Nat) (md : jMD) (mc ms : Nat) (p : Program) (R : Room) (s : State) (m : MethodId) (args : Array Value) (meth : Method) (c : Code) : Prop :=
  p.tables.exec = Jvm.exec ∧ c.code = md.2.2.1 ∧ c.maxLocals = md.2.2.2.1 ∧ s.vm.findClass md.1 = some m.cls ∧ (∀ w ∈ gTbl, w.before args s = true) ∧ meth.locks = false ∧ meth.sig.returnType = md.2.2.2.2 ∧ meth.name = md.2.1.name ∧ jO G s ∧ jRok d mc ms R ∧ jb G ≤ s.heap.size ∧ ∀ q, q < jb G → s.heap[q]? = (jHs G)[q]?
def jtoL (ad : Nat → Nat) : Nat → List (Option Value) → List (Nat × Value)
  | _, [] => []
  | i, none :: r => jtoL ad (i + 1) r
  | i, some v :: r => (i, jrn ad v) :: jtoL ad (i + 1) r
def jLv (G : jGT) (md : jMD) (lv : List (Option Value)) (ls : Array Slot) : Prop := lv_has ls md.2.2.2.1 (jtoL (jad G) 0 lv) ∧ lv.length = md.2.2.2.1
def jst (G : jGT) (st : List Value) : List Value := st.map (jrn (jad G))
def J (G : jGT) (d : Nat) (md : jMD) (pc : Nat) (lv : List (Option Value)) (st : List Value) (n : Nat) (sh : jS) (M : jM) (r : jR) (c0 s0 mc ms : Nat) (post : jP) : Prop :=
  ∀ (p : Program) (e : Env) (R : Room) (s : State) (m : MethodId) (args : Array Value) (below : List Frame) (meth : Method) (c : Code) (Q : State → Prop), jCx G d md mc ms p R s m args meth c →
    (∀ (H : Heap) (locs : List Loc) (ls : Array Slot) (pc' : Nat) (v : Option Value) (n' : Nat) (sh' : jS) (M' : jM) (r' : jR), post v n' sh' M' r' → jRet md pc' v → jW G n' sh' M' r' H → va_S (jA G) s.heap H locs → W p (jl G) e R s m args below meth c H locs mc ms Q (F0 m pc' ls (jst G v.toList))) →
    ∀ (H : Heap) (locs : List Loc) (ls : Array Slot), jW G n sh M r H → va_S (jA G) s.heap H locs → jLv G md lv ls → c0 ≤ mc → s0 ≤ ms → W p (jl G) e R s m args below meth c H locs c0 s0 Q (F0 m pc ls (jst G st))
theorem jtoL_get (ad : Nat → Nat) : ∀ (lv : List (Option Value)) (i j : Nat) (v : Value), lv[j]? = some (some v) → (i + j, jrn ad v) ∈ jtoL ad i lv := by
  intro lv
  induction lv with
  | nil => intro i j v h; simp at h
  | cons a l ih =>
    intro i j v h
    cases j with
    | zero =>
      simp at h
      subst h
      exact List.mem_cons_self
    | succ j =>
      have h1 := ih (i + 1) j v (by simpa using h)
      rw [show i + 1 + j = i + (j + 1) by omega] at h1
      cases a with
      | none => exact h1
      | some a => exact List.mem_cons_of_mem _ h1
theorem jtoL_mem (ad : Nat → Nat) : ∀ (lv : List (Option Value)) (i : Nat) (q : Nat × Value), q ∈ jtoL ad i lv → ∃ j v, lv[j]? = some (some v) ∧ q = (i + j, jrn ad v) := by
  intro lv
  induction lv with
  | nil => intro i q h; cases h
  | cons a l ih =>
    intro i q h
    have key : q ∈ jtoL ad (i + 1) l → ∃ j v, (a :: l)[j]? = some (some v) ∧ q = (i + j, jrn ad v) := by
      intro h
      obtain ⟨j, v, h1, h2⟩ := ih (i + 1) q h
      exact ⟨j + 1, v, by simpa using h1, by rw [h2]; congr 1; omega⟩
    cases a with
    | none => exact key h
    | some a =>
      rcases List.mem_cons.mp h with h | h
      · exact ⟨0, a, rfl, h⟩
      · exact key h
theorem jLv.at {G : jGT} {md : jMD} {lv : List (Option Value)} {ls : Array Slot} (h : jLv G md lv ls) (i : Nat) {v : Value} (hv : lv[i]? = some (some v)) : ls[i]? = some (.val (jrn (jad G) v)) := by
  have h1 := jtoL_get (jad G) lv 0 i v hv
  rw [Nat.zero_add] at h1
  exact h.1.2.2 _ h1
theorem jLv.lt {G : jGT} {md : jMD} {lv : List (Option Value)} {ls : Array Slot} (h : jLv G md lv ls) {i : Nat} (hi : i < lv.length) : i < md.2.2.2.1 := h.2 ▸ hi
/-- not the first half of a long -/
def jn2 (x : Option Value) : Bool := match x with
  | some v => v.category != 2
  | none => true
theorem jrn_cat (ad : Nat → Nat) (v : Value) : (jrn ad v).category = v.category := by cases v <;> rfl
/-- a store of one word: what the new list must be -/
theorem jLv.set {G : jGT} {md : jMD} {lv lv' : List (Option Value)} {ls ls' : Array Slot} (h : jLv G md lv ls) (i : Nat) {v : Value} (hlen : lv'.length = lv.length)
    (hprev : ∀ a, i = a + 1 → ∀ w, lv'[a]? = some w → jn2 w = true) (hother : ∀ j, j ≠ i → lv'[j]? = lv[j]?) (hi : ∀ w, lv'[i]? = some (some w) → w = v)
    (h2 : lv_has ls' md.2.2.2.1 ((i, jrn (jad G) v) :: (jtoL (jad G) 0 lv).filter (fun q => !(q.1 == i) && !(q.1 + 1 == i && q.2.category == 2)))) : jLv G md lv' ls' := by
  refine ⟨⟨h2.1, h2.2.1, fun q hq => h2.2.2 q ?_⟩, hlen.trans h.2⟩
  obtain ⟨j, w, h3, rfl⟩ := jtoL_mem _ _ _ _ hq
  rw [Nat.zero_add] at hq ⊢
  by_cases hj : j = i
  · subst hj
    rw [hi w h3]
    exact List.mem_cons_self
  · refine List.mem_cons_of_mem _ (List.mem_filter.mpr ⟨?_, ?_⟩)
    · have h4 := jtoL_get (jad G) lv 0 j w ((hother j hj).symm.trans h3)
      rwa [Nat.zero_add] at h4
    · simp only [Bool.and_eq_true, Bool.not_eq_true', beq_eq_false_iff_ne, ne_eq, Bool.and_eq_false_iff]
      refine ⟨hj, ?_⟩
      by_cases hi1 : j + 1 = i
      · right
        have h5 := hprev j hi1.symm _ h3
        rw [jrn_cat]
        simpa [jn2] using h5
      · exact Or.inl hi1
section JR
variable {G : jGT} {d : Nat} {md : jMD} {pc : Nat} {lv : List (Option Value)} {st : List Value} {n : Nat} {sh : jS} {M : jM} {r : jR} {c0 s0 mc ms : Nat} {post : jP}

theorem J_iadd {x y : Int32} (hd : decode md.2.2.1 pc = .ok (.iadd, 1))  (k : J G d md (pc + 1) lv (.int (x + y) :: st) n sh M r c0 s0 mc ms post) : J G d md pc lv (.int y :: .int x :: st) n sh M r c0 s0 mc ms post := by
  intro p e R s m args below meth c Q C X H locs ls hW hS hl hc hs
  exact lv_iadd C.1 C.2.1 hd  (k p e R s m args below meth c Q C X H locs ls hW hS hl hc hs)
theorem J_isub {x y : Int32} (hd : decode md.2.2.1 pc = .ok (.isub, 1))  (k : J G d md (pc + 1) lv (.int (x - y) :: st) n sh M r c0 s0 mc ms post) : J G d md pc lv (.int y :: .int x :: st) n sh M r c0 s0 mc ms post := by
  intro p e R s m args below meth c Q C X H locs ls hW hS hl hc hs
  exact lv_isub C.1 C.2.1 hd  (k p e R s m args below meth c Q C X H locs ls hW hS hl hc hs)
theorem J_imul {x y : Int32} (hd : decode md.2.2.1 pc = .ok (.imul, 1))  (k : J G d md (pc + 1) lv (.int (x * y) :: st) n sh M r c0 s0 mc ms post) : J G d md pc lv (.int y :: .int x :: st) n sh M r c0 s0 mc ms post := by
  intro p e R s m args below meth c Q C X H locs ls hW hS hl hc hs
  exact lv_imul C.1 C.2.1 hd  (k p e R s m args below meth c Q C X H locs ls hW hS hl hc hs)
theorem J_iand {x y : Int32} (hd : decode md.2.2.1 pc = .ok (.iand, 1))  (k : J G d md (pc + 1) lv (.int (x &&& y) :: st) n sh M r c0 s0 mc ms post) : J G d md pc lv (.int y :: .int x :: st) n sh M r c0 s0 mc ms post := by
  intro p e R s m args below meth c Q C X H locs ls hW hS hl hc hs
  exact lv_iand C.1 C.2.1 hd  (k p e R s m args below meth c Q C X H locs ls hW hS hl hc hs)
theorem J_ior {x y : Int32} (hd : decode md.2.2.1 pc = .ok (.ior, 1))  (k : J G d md (pc + 1) lv (.int (x ||| y) :: st) n sh M r c0 s0 mc ms post) : J G d md pc lv (.int y :: .int x :: st) n sh M r c0 s0 mc ms post := by
  intro p e R s m args below meth c Q C X H locs ls hW hS hl hc hs
  exact lv_ior C.1 C.2.1 hd  (k p e R s m args below meth c Q C X H locs ls hW hS hl hc hs)
theorem J_ixor {x y : Int32} (hd : decode md.2.2.1 pc = .ok (.ixor, 1))  (k : J G d md (pc + 1) lv (.int (x ^^^ y) :: st) n sh M r c0 s0 mc ms post) : J G d md pc lv (.int y :: .int x :: st) n sh M r c0 s0 mc ms post := by
  intro p e R s m args below meth c Q C X H locs ls hW hS hl hc hs
  exact lv_ixor C.1 C.2.1 hd  (k p e R s m args below meth c Q C X H locs ls hW hS hl hc hs)
theorem J_ishl {x y : Int32} (hd : decode md.2.2.1 pc = .ok (.ishl, 1))  (k : J G d md (pc + 1) lv (.int (x <<< (y &&& 31)) :: st) n sh M r c0 s0 mc ms post) : J G d md pc lv (.int y :: .int x :: st) n sh M r c0 s0 mc ms post := by
  intro p e R s m args below meth c Q C X H locs ls hW hS hl hc hs
  exact lv_ishl C.1 C.2.1 hd  (k p e R s m args below meth c Q C X H locs ls hW hS hl hc hs)
theorem J_ishr {x y : Int32} (hd : decode md.2.2.1 pc = .ok (.ishr, 1))  (k : J G d md (pc + 1) lv (.int (x >>> (y &&& 31)) :: st) n sh M r c0 s0 mc ms post) : J G d md pc lv (.int y :: .int x :: st) n sh M r c0 s0 mc ms post := by
  intro p e R s m args below meth c Q C X H locs ls hW hS hl hc hs
  exact lv_ishr C.1 C.2.1 hd  (k p e R s m args below meth c Q C X H locs ls hW hS hl hc hs)
theorem J_iushr {x y : Int32} (hd : decode md.2.2.1 pc = .ok (.iushr, 1))  (k : J G d md (pc + 1) lv (.int ((x.toUInt32 >>> (y.toUInt32 &&& Int32.toUInt32 31)).toInt32) :: st) n sh M r c0 s0 mc ms post) : J G d md pc lv (.int y :: .int x :: st) n sh M r c0 s0 mc ms post := by
  intro p e R s m args below meth c Q C X H locs ls hW hS hl hc hs
  exact lv_iushr C.1 C.2.1 hd rfl (k p e R s m args below meth c Q C X H locs ls hW hS hl hc hs)
theorem J_idiv {x y : Int32} (hd : decode md.2.2.1 pc = .ok (.idiv, 1)) (hne : ¬ y = 0) (k : J G d md (pc + 1) lv (.int (x / y) :: st) n sh M r c0 s0 mc ms post) : J G d md pc lv (.int y :: .int x :: st) n sh M r c0 s0 mc ms post := by
  intro p e R s m args below meth c Q C X H locs ls hW hS hl hc hs
  exact lv_idiv C.1 C.2.1 hd hne (k p e R s m args below meth c Q C X H locs ls hW hS hl hc hs)
theorem J_irem {x y : Int32} (hd : decode md.2.2.1 pc = .ok (.irem, 1)) (hne : ¬ y = 0) (k : J G d md (pc + 1) lv (.int (x - x / y * y) :: st) n sh M r c0 s0 mc ms post) : J G d md pc lv (.int y :: .int x :: st) n sh M r c0 s0 mc ms post := by
  intro p e R s m args below meth c Q C X H locs ls hW hS hl hc hs
  exact lv_irem C.1 C.2.1 hd hne (k p e R s m args below meth c Q C X H locs ls hW hS hl hc hs)
theorem J_ineg {x : Int32} (hd : decode md.2.2.1 pc = .ok (.ineg, 1))  (k : J G d md (pc + 1) lv (.int (-x) :: st) n sh M r c0 s0 mc ms post) : J G d md pc lv (.int x :: st) n sh M r c0 s0 mc ms post := by
  intro p e R s m args below meth c Q C X H locs ls hW hS hl hc hs
  exact lv_ineg C.1 C.2.1 hd  (k p e R s m args below meth c Q C X H locs ls hW hS hl hc hs)
theorem J_i2l {x : Int32} (hd : decode md.2.2.1 pc = .ok (.i2l, 1))  (k : J G d md (pc + 1) lv (.long x.toInt64 :: st) n sh M r c0 s0 mc ms post) : J G d md pc lv (.int x :: st) n sh M r c0 s0 mc ms post := by
  intro p e R s m args below meth c Q C X H locs ls hW hS hl hc hs
  exact lv_i2l C.1 C.2.1 hd rfl (k p e R s m args below meth c Q C X H locs ls hW hS hl hc hs)
theorem J_i2b {x : Int32} (hd : decode md.2.2.1 pc = .ok (.i2b, 1))  (k : J G d md (pc + 1) lv (.int x.toInt8.toInt32 :: st) n sh M r c0 s0 mc ms post) : J G d md pc lv (.int x :: st) n sh M r c0 s0 mc ms post := by
  intro p e R s m args below meth c Q C X H locs ls hW hS hl hc hs
  exact lv_i2b C.1 C.2.1 hd rfl (k p e R s m args below meth c Q C X H locs ls hW hS hl hc hs)
theorem J_i2c {x : Int32} (hd : decode md.2.2.1 pc = .ok (.i2c, 1))  (k : J G d md (pc + 1) lv (.int (x.toUInt32 % 65536).toInt32 :: st) n sh M r c0 s0 mc ms post) : J G d md pc lv (.int x :: st) n sh M r c0 s0 mc ms post := by
  intro p e R s m args below meth c Q C X H locs ls hW hS hl hc hs
  exact lv_i2c C.1 C.2.1 hd rfl (k p e R s m args below meth c Q C X H locs ls hW hS hl hc hs)
theorem J_ladd {x y : Int64} (hd : decode md.2.2.1 pc = .ok (.ladd, 1))  (k : J G d md (pc + 1) lv (.long (x + y) :: st) n sh M r c0 s0 mc ms post) : J G d md pc lv (.long y :: .long x :: st) n sh M r c0 s0 mc ms post := by
  intro p e R s m args below meth c Q C X H locs ls hW hS hl hc hs
  exact lv_ladd C.1 C.2.1 hd  (k p e R s m args below meth c Q C X H locs ls hW hS hl hc hs)
theorem J_lmul {x y : Int64} (hd : decode md.2.2.1 pc = .ok (.lmul, 1))  (k : J G d md (pc + 1) lv (.long (x * y) :: st) n sh M r c0 s0 mc ms post) : J G d md pc lv (.long y :: .long x :: st) n sh M r c0 s0 mc ms post := by
  intro p e R s m args below meth c Q C X H locs ls hW hS hl hc hs
  exact lv_lmul C.1 C.2.1 hd  (k p e R s m args below meth c Q C X H locs ls hW hS hl hc hs)
theorem J_ldiv {x y : Int64} (hd : decode md.2.2.1 pc = .ok (.ldiv, 1)) (hne : ¬ y = 0) (k : J G d md (pc + 1) lv (.long (x / y) :: st) n sh M r c0 s0 mc ms post) : J G d md pc lv (.long y :: .long x :: st) n sh M r c0 s0 mc ms post := by
  intro p e R s m args below meth c Q C X H locs ls hW hS hl hc hs
  exact lv_ldiv C.1 C.2.1 hd hne (k p e R s m args below meth c Q C X H locs ls hW hS hl hc hs)
theorem J_lrem {x y : Int64} (hd : decode md.2.2.1 pc = .ok (.lrem, 1)) (hne : ¬ y = 0) (k : J G d md (pc + 1) lv (.long (x - x / y * y) :: st) n sh M r c0 s0 mc ms post) : J G d md pc lv (.long y :: .long x :: st) n sh M r c0 s0 mc ms post := by
  intro p e R s m args below meth c Q C X H locs ls hW hS hl hc hs
  exact lv_lrem C.1 C.2.1 hd hne (k p e R s m args below meth c Q C X H locs ls hW hS hl hc hs)
theorem J_lcmp {x y : Int64} (hd : decode md.2.2.1 pc = .ok (.lcmp, 1))  (k : J G d md (pc + 1) lv (.int (lg_cmp x y) :: st) n sh M r c0 s0 mc ms post) : J G d md pc lv (.long y :: .long x :: st) n sh M r c0 s0 mc ms post := by
  intro p e R s m args below meth c Q C X H locs ls hW hS hl hc hs
  exact W.lcmp C.1 C.2.1 hd  (k p e R s m args below meth c Q C X H locs ls hW hS hl hc hs)
theorem J_iconst {i : Int} (v : Int32) (hd : decode md.2.2.1 pc = .ok (.iconst i, 1)) (hv : Int32.ofInt i = v) (k : J G d md (pc + 1) lv (.int v :: st) n sh M r c0 s0 mc ms post) : J G d md pc lv (st) n sh M r c0 s0 mc ms post := by
  intro p e R s m args below meth c Q C X H locs ls hW hS hl hc hs
  exact lv_iconst C.1 C.2.1 hd hv (k p e R s m args below meth c Q C X H locs ls hW hS hl hc hs)
theorem J_bipush {i : Int} (v : Int32) (hd : decode md.2.2.1 pc = .ok (.bipush i, 2)) (hv : (Int8.ofInt i).toInt32 = v) (k : J G d md (pc + 2) lv (.int v :: st) n sh M r c0 s0 mc ms post) : J G d md pc lv (st) n sh M r c0 s0 mc ms post := by
  intro p e R s m args below meth c Q C X H locs ls hW hS hl hc hs
  exact lv_bipush C.1 C.2.1 hd hv (k p e R s m args below meth c Q C X H locs ls hW hS hl hc hs)
theorem J_sipush {i : Int} (v : Int32) (hd : decode md.2.2.1 pc = .ok (.sipush i, 3)) (hv : (Int16.ofInt i).toInt32 = v) (k : J G d md (pc + 3) lv (.int v :: st) n sh M r c0 s0 mc ms post) : J G d md pc lv (st) n sh M r c0 s0 mc ms post := by
  intro p e R s m args below meth c Q C X H locs ls hW hS hl hc hs
  exact lv_sipush C.1 C.2.1 hd hv (k p e R s m args below meth c Q C X H locs ls hW hS hl hc hs)
theorem J_lconst {i : Fin 2} (v : Int64) (hd : decode md.2.2.1 pc = .ok (.lconst i, 1)) (hv : Int64.ofNat (i : Nat) = v) (k : J G d md (pc + 1) lv (.long v :: st) n sh M r c0 s0 mc ms post) : J G d md pc lv (st) n sh M r c0 s0 mc ms post := by
  intro p e R s m args below meth c Q C X H locs ls hW hS hl hc hs
  exact lv_lconst C.1 C.2.1 hd hv (k p e R s m args below meth c Q C X H locs ls hW hS hl hc hs)
theorem J_ldc {i : Nat} (v : Int32) (hd : decode md.2.2.1 pc = .ok (.ldc i, 2)) (hw : Cond.constant md.1 i v ∈ gTbl) (k : J G d md (pc + 2) lv (.int v :: st) n sh M r c0 s0 mc ms post) : J G d md pc lv (st) n sh M r c0 s0 mc ms post := by
  intro p e R s m args below meth c Q C X H locs ls hW hS hl hc hs
  exact lv_ldc C.1 C.2.1 C.2.2.2.1 (C.2.2.2.2.1 _ hw) hd (k p e R s m args below meth c Q C X H locs ls hW hS hl hc hs)
theorem J_ldc2 {i : Nat} (v : Int64) (hd : decode md.2.2.1 pc = .ok (.ldc2_w i, 3)) (hw : Cond.constantLong md.1 i v ∈ gTbl) (k : J G d md (pc + 3) lv (.long v :: st) n sh M r c0 s0 mc ms post) : J G d md pc lv (st) n sh M r c0 s0 mc ms post := by
  intro p e R s m args below meth c Q C X H locs ls hW hS hl hc hs
  exact lv_ldc2 C.1 C.2.1 C.2.2.2.1 (C.2.2.2.2.1 _ hw) hd (k p e R s m args below meth c Q C X H locs ls hW hS hl hc hs)
theorem J_dup {v : Value} (hd : decode md.2.2.1 pc = .ok (.dup, 1)) (hc1 : v.category = 1) (k : J G d md (pc + 1) lv (v :: v :: st) n sh M r c0 s0 mc ms post) : J G d md pc lv (v :: st) n sh M r c0 s0 mc ms post := by
  intro p e R s m args below meth c Q C X H locs ls hW hS hl hc hs
  exact lv_dup C.1 C.2.1 hd ((jrn_cat _ _).trans hc1) (k p e R s m args below meth c Q C X H locs ls hW hS hl hc hs)
theorem J_dup2 {v w : Value} (hd : decode md.2.2.1 pc = .ok (.dup2, 1)) (hc1 : v.category = 1) (hc2 : w.category = 1) (k : J G d md (pc + 1) lv (v :: w :: v :: w :: st) n sh M r c0 s0 mc ms post) : J G d md pc lv (v :: w :: st) n sh M r c0 s0 mc ms post := by
  intro p e R s m args below meth c Q C X H locs ls hW hS hl hc hs
  exact lv_dup2_11 C.1 C.2.1 hd ((jrn_cat _ _).trans hc1) ((jrn_cat _ _).trans hc2) (k p e R s m args below meth c Q C X H locs ls hW hS hl hc hs)
theorem J_pop {v : Value} (hd : decode md.2.2.1 pc = .ok (.pop, 1)) (hc1 : v.category = 1) (k : J G d md (pc + 1) lv (st) n sh M r c0 s0 mc ms post) : J G d md pc lv (v :: st) n sh M r c0 s0 mc ms post := by
  intro p e R s m args below meth c Q C X H locs ls hW hS hl hc hs
  exact lv_pop C.1 C.2.1 hd ((jrn_cat _ _).trans hc1) (k p e R s m args below meth c Q C X H locs ls hW hS hl hc hs)
theorem J_iload_0 {l : List (Option Value)} {x : Int32} (hd : decode md.2.2.1 pc = .ok (.iload_n 0, 1)) (k : J G d md (pc + 1) (some (.int x) :: l) (.int x :: st) n sh M r c0 s0 mc ms post) : J G d md pc (some (.int x) :: l) st n sh M r c0 s0 mc ms post := by
  intro p e R s m args below meth c Q C X H locs ls hW hS hl hc hs
  exact lv_iload_n C.1 C.2.1 hd rfl (hl.at 0 rfl) (k p e R s m args below meth c Q C X H locs ls hW hS hl hc hs)
theorem J_aload_0 {l : List (Option Value)} {x : Nat} (hd : decode md.2.2.1 pc = .ok (.aload_n 0, 1)) (k : J G d md (pc + 1) (some (.ref x) :: l) (.ref x :: st) n sh M r c0 s0 mc ms post) : J G d md pc (some (.ref x) :: l) st n sh M r c0 s0 mc ms post := by
  intro p e R s m args below meth c Q C X H locs ls hW hS hl hc hs
  exact lv_aload_n C.1 C.2.1 hd rfl (hl.at 0 rfl) (k p e R s m args below meth c Q C X H locs ls hW hS hl hc hs)
theorem J_lload_0 {l : List (Option Value)} {x : Int64} (hd : decode md.2.2.1 pc = .ok (.lload_n 0, 1)) (k : J G d md (pc + 1) (some (.long x) :: l) (.long x :: st) n sh M r c0 s0 mc ms post) : J G d md pc (some (.long x) :: l) st n sh M r c0 s0 mc ms post := by
  intro p e R s m args below meth c Q C X H locs ls hW hS hl hc hs
  exact lv_lload_n C.1 C.2.1 hd rfl (hl.at 0 rfl) (k p e R s m args below meth c Q C X H locs ls hW hS hl hc hs)
theorem J_istore_0 {l : List (Option Value)} {b : Option Value} {x : Int32} (hd : decode md.2.2.1 pc = .ok (.istore_n 0, 1)) (k : J G d md (pc + 1) (some (.int x) :: l) st n sh M r c0 s0 mc ms post) : J G d md pc (b :: l) (.int x :: st) n sh M r c0 s0 mc ms post := by
  intro p e R s m args below meth c Q C X H locs ls hW hS hl hc hs
  exact lv_istore_n (i := 0) C.1 C.2.1 hd rfl hl.1 (hl.lt (i := 0) (by simp)) rfl (fun ls2 hl2 => k p e R s m args below meth c Q C X H locs ls2 hW hS (hl.set (v := .int x) 0 rfl (fun a ha => by omega) (fun j hj => by match j with
    | 0 => exact absurd rfl hj
    | j + 1 => rfl) (fun w hw => by simp at hw; exact hw.symm) hl2) hc hs)
theorem J_astore_0 {l : List (Option Value)} {b : Option Value} {x : Nat} (hd : decode md.2.2.1 pc = .ok (.astore_n 0, 1)) (k : J G d md (pc + 1) (some (.ref x) :: l) st n sh M r c0 s0 mc ms post) : J G d md pc (b :: l) (.ref x :: st) n sh M r c0 s0 mc ms post := by
  intro p e R s m args below meth c Q C X H locs ls hW hS hl hc hs
  exact lv_astore_n (i := 0) C.1 C.2.1 hd rfl hl.1 (hl.lt (i := 0) (by simp)) rfl (fun ls2 hl2 => k p e R s m args below meth c Q C X H locs ls2 hW hS (hl.set (v := .ref x) 0 rfl (fun a ha => by omega) (fun j hj => by match j with
    | 0 => exact absurd rfl hj
    | j + 1 => rfl) (fun w hw => by simp at hw; exact hw.symm) hl2) hc hs)
theorem J_iinc_0 {l : List (Option Value)} {x : Int32} {q : Int} (v : Int32) (hd : decode md.2.2.1 pc = .ok (.iinc 0 q, 3)) (hv : Int32.ofInt q = v) (k : J G d md (pc + 3) (some (.int (x + v)) :: l) st n sh M r c0 s0 mc ms post) : J G d md pc (some (.int x) :: l) st n sh M r c0 s0 mc ms post := by
  intro p e R s m args below meth c Q C X H locs ls hW hS hl hc hs
  obtain ⟨t, ht⟩ := List.getElem?_of_mem (jtoL_get (jad G) (some (.int x) :: l) 0 0 (.int x) rfl)
  exact lv_iinc C.1 C.2.1 hd hl.1 (k := t) (x := x) (v := x + v) (by rw [ht, Nat.zero_add]; rfl) (by rw [hv]) (hl.lt (i := 0) (by simp)) rfl (fun ls2 hl2 => k p e R s m args below meth c Q C X H locs ls2 hW hS (hl.set (v := .int (x + v)) 0 rfl (fun a ha => by omega) (fun j hj => by match j with
    | 0 => exact absurd rfl hj
    | j + 1 => rfl) (fun w hw => by simp at hw; exact hw.symm) hl2) hc hs)
theorem J_iload_1 {a0 : Option Value} {l : List (Option Value)} {x : Int32} (hd : decode md.2.2.1 pc = .ok (.iload_n 1, 1)) (k : J G d md (pc + 1) (a0 :: some (.int x) :: l) (.int x :: st) n sh M r c0 s0 mc ms post) : J G d md pc (a0 :: some (.int x) :: l) st n sh M r c0 s0 mc ms post := by
  intro p e R s m args below meth c Q C X H locs ls hW hS hl hc hs
  exact lv_iload_n C.1 C.2.1 hd rfl (hl.at 1 rfl) (k p e R s m args below meth c Q C X H locs ls hW hS hl hc hs)
theorem J_aload_1 {a0 : Option Value} {l : List (Option Value)} {x : Nat} (hd : decode md.2.2.1 pc = .ok (.aload_n 1, 1)) (k : J G d md (pc + 1) (a0 :: some (.ref x) :: l) (.ref x :: st) n sh M r c0 s0 mc ms post) : J G d md pc (a0 :: some (.ref x) :: l) st n sh M r c0 s0 mc ms post := by
  intro p e R s m args below meth c Q C X H locs ls hW hS hl hc hs
  exact lv_aload_n C.1 C.2.1 hd rfl (hl.at 1 rfl) (k p e R s m args below meth c Q C X H locs ls hW hS hl hc hs)
theorem J_lload_1 {a0 : Option Value} {l : List (Option Value)} {x : Int64} (hd : decode md.2.2.1 pc = .ok (.lload_n 1, 1)) (k : J G d md (pc + 1) (a0 :: some (.long x) :: l) (.long x :: st) n sh M r c0 s0 mc ms post) : J G d md pc (a0 :: some (.long x) :: l) st n sh M r c0 s0 mc ms post := by
  intro p e R s m args below meth c Q C X H locs ls hW hS hl hc hs
  exact lv_lload_n C.1 C.2.1 hd rfl (hl.at 1 rfl) (k p e R s m args below meth c Q C X H locs ls hW hS hl hc hs)
theorem J_istore_1 {a0 : Option Value} {l : List (Option Value)} {b : Option Value} {x : Int32} (hd : decode md.2.2.1 pc = .ok (.istore_n 1, 1)) (hc1 : jn2 a0 = true) (k : J G d md (pc + 1) (a0 :: some (.int x) :: l) st n sh M r c0 s0 mc ms post) : J G d md pc (a0 :: b :: l) (.int x :: st) n sh M r c0 s0 mc ms post := by
  intro p e R s m args below meth c Q C X H locs ls hW hS hl hc hs
  exact lv_istore_n (i := 1) C.1 C.2.1 hd rfl hl.1 (hl.lt (i := 1) (by simp)) rfl (fun ls2 hl2 => k p e R s m args below meth c Q C X H locs ls2 hW hS (hl.set (v := .int x) 1 rfl (fun a ha w hw => by (have : a = 0 := by omega); subst this; simp at hw; subst hw; exact hc1) (fun j hj => by match j with
    | 0 => rfl
    | 1 => exact absurd rfl hj
    | j + 2 => rfl) (fun w hw => by simp at hw; exact hw.symm) hl2) hc hs)
theorem J_astore_1 {a0 : Option Value} {l : List (Option Value)} {b : Option Value} {x : Nat} (hd : decode md.2.2.1 pc = .ok (.astore_n 1, 1)) (hc1 : jn2 a0 = true) (k : J G d md (pc + 1) (a0 :: some (.ref x) :: l) st n sh M r c0 s0 mc ms post) : J G d md pc (a0 :: b :: l) (.ref x :: st) n sh M r c0 s0 mc ms post := by
  intro p e R s m args below meth c Q C X H locs ls hW hS hl hc hs
  exact lv_astore_n (i := 1) C.1 C.2.1 hd rfl hl.1 (hl.lt (i := 1) (by simp)) rfl (fun ls2 hl2 => k p e R s m args below meth c Q C X H locs ls2 hW hS (hl.set (v := .ref x) 1 rfl (fun a ha w hw => by (have : a = 0 := by omega); subst this; simp at hw; subst hw; exact hc1) (fun j hj => by match j with
    | 0 => rfl
    | 1 => exact absurd rfl hj
    | j + 2 => rfl) (fun w hw => by simp at hw; exact hw.symm) hl2) hc hs)
theorem J_iinc_1 {a0 : Option Value} {l : List (Option Value)} {x : Int32} {q : Int} (v : Int32) (hd : decode md.2.2.1 pc = .ok (.iinc 1 q, 3)) (hv : Int32.ofInt q = v) (hc1 : jn2 a0 = true) (k : J G d md (pc + 3) (a0 :: some (.int (x + v)) :: l) st n sh M r c0 s0 mc ms post) : J G d md pc (a0 :: some (.int x) :: l) st n sh M r c0 s0 mc ms post := by
  intro p e R s m args below meth c Q C X H locs ls hW hS hl hc hs
  obtain ⟨t, ht⟩ := List.getElem?_of_mem (jtoL_get (jad G) (a0 :: some (.int x) :: l) 0 1 (.int x) rfl)
  exact lv_iinc C.1 C.2.1 hd hl.1 (k := t) (x := x) (v := x + v) (by rw [ht, Nat.zero_add]; rfl) (by rw [hv]) (hl.lt (i := 1) (by simp)) rfl (fun ls2 hl2 => k p e R s m args below meth c Q C X H locs ls2 hW hS (hl.set (v := .int (x + v)) 1 rfl (fun a ha w hw => by (have : a = 0 := by omega); subst this; simp at hw; subst hw; exact hc1) (fun j hj => by match j with
    | 0 => rfl
    | 1 => exact absurd rfl hj
    | j + 2 => rfl) (fun w hw => by simp at hw; exact hw.symm) hl2) hc hs)
theorem J_iload_2 {a0 a1 : Option Value} {l : List (Option Value)} {x : Int32} (hd : decode md.2.2.1 pc = .ok (.iload_n 2, 1)) (k : J G d md (pc + 1) (a0 :: a1 :: some (.int x) :: l) (.int x :: st) n sh M r c0 s0 mc ms post) : J G d md pc (a0 :: a1 :: some (.int x) :: l) st n sh M r c0 s0 mc ms post := by
  intro p e R s m args below meth c Q C X H locs ls hW hS hl hc hs
  exact lv_iload_n C.1 C.2.1 hd rfl (hl.at 2 rfl) (k p e R s m args below meth c Q C X H locs ls hW hS hl hc hs)
theorem J_aload_2 {a0 a1 : Option Value} {l : List (Option Value)} {x : Nat} (hd : decode md.2.2.1 pc = .ok (.aload_n 2, 1)) (k : J G d md (pc + 1) (a0 :: a1 :: some (.ref x) :: l) (.ref x :: st) n sh M r c0 s0 mc ms post) : J G d md pc (a0 :: a1 :: some (.ref x) :: l) st n sh M r c0 s0 mc ms post := by
  intro p e R s m args below meth c Q C X H locs ls hW hS hl hc hs
  exact lv_aload_n C.1 C.2.1 hd rfl (hl.at 2 rfl) (k p e R s m args below meth c Q C X H locs ls hW hS hl hc hs)
theorem J_lload_2 {a0 a1 : Option Value} {l : List (Option Value)} {x : Int64} (hd : decode md.2.2.1 pc = .ok (.lload_n 2, 1)) (k : J G d md (pc + 1) (a0 :: a1 :: some (.long x) :: l) (.long x :: st) n sh M r c0 s0 mc ms post) : J G d md pc (a0 :: a1 :: some (.long x) :: l) st n sh M r c0 s0 mc ms post := by
  intro p e R s m args below meth c Q C X H locs ls hW hS hl hc hs
  exact lv_lload_n C.1 C.2.1 hd rfl (hl.at 2 rfl) (k p e R s m args below meth c Q C X H locs ls hW hS hl hc hs)
theorem J_istore_2 {a0 a1 : Option Value} {l : List (Option Value)} {b : Option Value} {x : Int32} (hd : decode md.2.2.1 pc = .ok (.istore_n 2, 1)) (hc1 : jn2 a1 = true) (k : J G d md (pc + 1) (a0 :: a1 :: some (.int x) :: l) st n sh M r c0 s0 mc ms post) : J G d md pc (a0 :: a1 :: b :: l) (.int x :: st) n sh M r c0 s0 mc ms post := by
  intro p e R s m args below meth c Q C X H locs ls hW hS hl hc hs
  exact lv_istore_n (i := 2) C.1 C.2.1 hd rfl hl.1 (hl.lt (i := 2) (by simp)) rfl (fun ls2 hl2 => k p e R s m args below meth c Q C X H locs ls2 hW hS (hl.set (v := .int x) 2 rfl (fun a ha w hw => by (have : a = 1 := by omega); subst this; simp at hw; subst hw; exact hc1) (fun j hj => by match j with
    | 0 => rfl
    | 1 => rfl
    | 2 => exact absurd rfl hj
    | j + 3 => rfl) (fun w hw => by simp at hw; exact hw.symm) hl2) hc hs)
theorem J_astore_2 {a0 a1 : Option Value} {l : List (Option Value)} {b : Option Value} {x : Nat} (hd : decode md.2.2.1 pc = .ok (.astore_n 2, 1)) (hc1 : jn2 a1 = true) (k : J G d md (pc + 1) (a0 :: a1 :: some (.ref x) :: l) st n sh M r c0 s0 mc ms post) : J G d md pc (a0 :: a1 :: b :: l) (.ref x :: st) n sh M r c0 s0 mc ms post := by
  intro p e R s m args below meth c Q C X H locs ls hW hS hl hc hs
  exact lv_astore_n (i := 2) C.1 C.2.1 hd rfl hl.1 (hl.lt (i := 2) (by simp)) rfl (fun ls2 hl2 => k p e R s m args below meth c Q C X H locs ls2 hW hS (hl.set (v := .ref x) 2 rfl (fun a ha w hw => by (have : a = 1 := by omega); subst this; simp at hw; subst hw; exact hc1) (fun j hj => by match j with
    | 0 => rfl
    | 1 => rfl
    | 2 => exact absurd rfl hj
    | j + 3 => rfl) (fun w hw => by simp at hw; exact hw.symm) hl2) hc hs)
theorem J_iinc_2 {a0 a1 : Option Value} {l : List (Option Value)} {x : Int32} {q : Int} (v : Int32) (hd : decode md.2.2.1 pc = .ok (.iinc 2 q, 3)) (hv : Int32.ofInt q = v) (hc1 : jn2 a1 = true) (k : J G d md (pc + 3) (a0 :: a1 :: some (.int (x + v)) :: l) st n sh M r c0 s0 mc ms post) : J G d md pc (a0 :: a1 :: some (.int x) :: l) st n sh M r c0 s0 mc ms post := by
  intro p e R s m args below meth c Q C X H locs ls hW hS hl hc hs
  obtain ⟨t, ht⟩ := List.getElem?_of_mem (jtoL_get (jad G) (a0 :: a1 :: some (.int x) :: l) 0 2 (.int x) rfl)
  exact lv_iinc C.1 C.2.1 hd hl.1 (k := t) (x := x) (v := x + v) (by rw [ht, Nat.zero_add]; rfl) (by rw [hv]) (hl.lt (i := 2) (by simp)) rfl (fun ls2 hl2 => k p e R s m args below meth c Q C X H locs ls2 hW hS (hl.set (v := .int (x + v)) 2 rfl (fun a ha w hw => by (have : a = 1 := by omega); subst this; simp at hw; subst hw; exact hc1) (fun j hj => by match j with
    | 0 => rfl
    | 1 => rfl
    | 2 => exact absurd rfl hj
    | j + 3 => rfl) (fun w hw => by simp at hw; exact hw.symm) hl2) hc hs)
theorem J_iload_3 {a0 a1 a2 : Option Value} {l : List (Option Value)} {x : Int32} (hd : decode md.2.2.1 pc = .ok (.iload_n 3, 1)) (k : J G d md (pc + 1) (a0 :: a1 :: a2 :: some (.int x) :: l) (.int x :: st) n sh M r c0 s0 mc ms post) : J G d md pc (a0 :: a1 :: a2 :: some (.int x) :: l) st n sh M r c0 s0 mc ms post := by
  intro p e R s m args below meth c Q C X H locs ls hW hS hl hc hs
  exact lv_iload_n C.1 C.2.1 hd rfl (hl.at 3 rfl) (k p e R s m args below meth c Q C X H locs ls hW hS hl hc hs)
theorem J_aload_3 {a0 a1 a2 : Option Value} {l : List (Option Value)} {x : Nat} (hd : decode md.2.2.1 pc = .ok (.aload_n 3, 1)) (k : J G d md (pc + 1) (a0 :: a1 :: a2 :: some (.ref x) :: l) (.ref x :: st) n sh M r c0 s0 mc ms post) : J G d md pc (a0 :: a1 :: a2 :: some (.ref x) :: l) st n sh M r c0 s0 mc ms post := by
  intro p e R s m args below meth c Q C X H locs ls hW hS hl hc hs
  exact lv_aload_n C.1 C.2.1 hd rfl (hl.at 3 rfl) (k p e R s m args below meth c Q C X H locs ls hW hS hl hc hs)
theorem J_lload_3 {a0 a1 a2 : Option Value} {l : List (Option Value)} {x : Int64} (hd : decode md.2.2.1 pc = .ok (.lload_n 3, 1)) (k : J G d md (pc + 1) (a0 :: a1 :: a2 :: some (.long x) :: l) (.long x :: st) n sh M r c0 s0 mc ms post) : J G d md pc (a0 :: a1 :: a2 :: some (.long x) :: l) st n sh M r c0 s0 mc ms post := by
  intro p e R s m args below meth c Q C X H locs ls hW hS hl hc hs
  exact lv_lload_n C.1 C.2.1 hd rfl (hl.at 3 rfl) (k p e R s m args below meth c Q C X H locs ls hW hS hl hc hs)
theorem J_istore_3 {a0 a1 a2 : Option Value} {l : List (Option Value)} {b : Option Value} {x : Int32} (hd : decode md.2.2.1 pc = .ok (.istore_n 3, 1)) (hc1 : jn2 a2 = true) (k : J G d md (pc + 1) (a0 :: a1 :: a2 :: some (.int x) :: l) st n sh M r c0 s0 mc ms post) : J G d md pc (a0 :: a1 :: a2 :: b :: l) (.int x :: st) n sh M r c0 s0 mc ms post := by
  intro p e R s m args below meth c Q C X H locs ls hW hS hl hc hs
  exact lv_istore_n (i := 3) C.1 C.2.1 hd rfl hl.1 (hl.lt (i := 3) (by simp)) rfl (fun ls2 hl2 => k p e R s m args below meth c Q C X H locs ls2 hW hS (hl.set (v := .int x) 3 rfl (fun a ha w hw => by (have : a = 2 := by omega); subst this; simp at hw; subst hw; exact hc1) (fun j hj => by match j with
    | 0 => rfl
    | 1 => rfl
    | 2 => rfl
    | 3 => exact absurd rfl hj
    | j + 4 => rfl) (fun w hw => by simp at hw; exact hw.symm) hl2) hc hs)
theorem J_astore_3 {a0 a1 a2 : Option Value} {l : List (Option Value)} {b : Option Value} {x : Nat} (hd : decode md.2.2.1 pc = .ok (.astore_n 3, 1)) (hc1 : jn2 a2 = true) (k : J G d md (pc + 1) (a0 :: a1 :: a2 :: some (.ref x) :: l) st n sh M r c0 s0 mc ms post) : J G d md pc (a0 :: a1 :: a2 :: b :: l) (.ref x :: st) n sh M r c0 s0 mc ms post := by
  intro p e R s m args below meth c Q C X H locs ls hW hS hl hc hs
  exact lv_astore_n (i := 3) C.1 C.2.1 hd rfl hl.1 (hl.lt (i := 3) (by simp)) rfl (fun ls2 hl2 => k p e R s m args below meth c Q C X H locs ls2 hW hS (hl.set (v := .ref x) 3 rfl (fun a ha w hw => by (have : a = 2 := by omega); subst this; simp at hw; subst hw; exact hc1) (fun j hj => by match j with
    | 0 => rfl
    | 1 => rfl
    | 2 => rfl
    | 3 => exact absurd rfl hj
    | j + 4 => rfl) (fun w hw => by simp at hw; exact hw.symm) hl2) hc hs)
theorem J_iinc_3 {a0 a1 a2 : Option Value} {l : List (Option Value)} {x : Int32} {q : Int} (v : Int32) (hd : decode md.2.2.1 pc = .ok (.iinc 3 q, 3)) (hv : Int32.ofInt q = v) (hc1 : jn2 a2 = true) (k : J G d md (pc + 3) (a0 :: a1 :: a2 :: some (.int (x + v)) :: l) st n sh M r c0 s0 mc ms post) : J G d md pc (a0 :: a1 :: a2 :: some (.int x) :: l) st n sh M r c0 s0 mc ms post := by
  intro p e R s m args below meth c Q C X H locs ls hW hS hl hc hs
  obtain ⟨t, ht⟩ := List.getElem?_of_mem (jtoL_get (jad G) (a0 :: a1 :: a2 :: some (.int x) :: l) 0 3 (.int x) rfl)
  exact lv_iinc C.1 C.2.1 hd hl.1 (k := t) (x := x) (v := x + v) (by rw [ht, Nat.zero_add]; rfl) (by rw [hv]) (hl.lt (i := 3) (by simp)) rfl (fun ls2 hl2 => k p e R s m args below meth c Q C X H locs ls2 hW hS (hl.set (v := .int (x + v)) 3 rfl (fun a ha w hw => by (have : a = 2 := by omega); subst this; simp at hw; subst hw; exact hc1) (fun j hj => by match j with
    | 0 => rfl
    | 1 => rfl
    | 2 => rfl
    | 3 => exact absurd rfl hj
    | j + 4 => rfl) (fun w hw => by simp at hw; exact hw.symm) hl2) hc hs)
theorem J_iload_4 {a0 a1 a2 a3 : Option Value} {l : List (Option Value)} {x : Int32} (hd : decode md.2.2.1 pc = .ok (.iload 4, 2)) (k : J G d md (pc + 2) (a0 :: a1 :: a2 :: a3 :: some (.int x) :: l) (.int x :: st) n sh M r c0 s0 mc ms post) : J G d md pc (a0 :: a1 :: a2 :: a3 :: some (.int x) :: l) st n sh M r c0 s0 mc ms post := by
  intro p e R s m args below meth c Q C X H locs ls hW hS hl hc hs
  exact lv_iload C.1 C.2.1 hd (hl.at 4 rfl) (k p e R s m args below meth c Q C X H locs ls hW hS hl hc hs)
theorem J_aload_4 {a0 a1 a2 a3 : Option Value} {l : List (Option Value)} {x : Nat} (hd : decode md.2.2.1 pc = .ok (.aload 4, 2)) (k : J G d md (pc + 2) (a0 :: a1 :: a2 :: a3 :: some (.ref x) :: l) (.ref x :: st) n sh M r c0 s0 mc ms post) : J G d md pc (a0 :: a1 :: a2 :: a3 :: some (.ref x) :: l) st n sh M r c0 s0 mc ms post := by
  intro p e R s m args below meth c Q C X H locs ls hW hS hl hc hs
  exact lv_aload C.1 C.2.1 hd (hl.at 4 rfl) (k p e R s m args below meth c Q C X H locs ls hW hS hl hc hs)
theorem J_lload_4 {a0 a1 a2 a3 : Option Value} {l : List (Option Value)} {x : Int64} (hd : decode md.2.2.1 pc = .ok (.lload 4, 2)) (k : J G d md (pc + 2) (a0 :: a1 :: a2 :: a3 :: some (.long x) :: l) (.long x :: st) n sh M r c0 s0 mc ms post) : J G d md pc (a0 :: a1 :: a2 :: a3 :: some (.long x) :: l) st n sh M r c0 s0 mc ms post := by
  intro p e R s m args below meth c Q C X H locs ls hW hS hl hc hs
  exact lv_lload C.1 C.2.1 hd (hl.at 4 rfl) (k p e R s m args below meth c Q C X H locs ls hW hS hl hc hs)
theorem J_istore_4 {a0 a1 a2 a3 : Option Value} {l : List (Option Value)} {b : Option Value} {x : Int32} (hd : decode md.2.2.1 pc = .ok (.istore 4, 2)) (hc1 : jn2 a3 = true) (k : J G d md (pc + 2) (a0 :: a1 :: a2 :: a3 :: some (.int x) :: l) st n sh M r c0 s0 mc ms post) : J G d md pc (a0 :: a1 :: a2 :: a3 :: b :: l) (.int x :: st) n sh M r c0 s0 mc ms post := by
  intro p e R s m args below meth c Q C X H locs ls hW hS hl hc hs
  exact lv_istore (i := 4) C.1 C.2.1 hd hl.1 (hl.lt (i := 4) (by simp)) rfl (fun ls2 hl2 => k p e R s m args below meth c Q C X H locs ls2 hW hS (hl.set (v := .int x) 4 rfl (fun a ha w hw => by (have : a = 3 := by omega); subst this; simp at hw; subst hw; exact hc1) (fun j hj => by match j with
    | 0 => rfl
    | 1 => rfl
    | 2 => rfl
    | 3 => rfl
    | 4 => exact absurd rfl hj
    | j + 5 => rfl) (fun w hw => by simp at hw; exact hw.symm) hl2) hc hs)
theorem J_astore_4 {a0 a1 a2 a3 : Option Value} {l : List (Option Value)} {b : Option Value} {x : Nat} (hd : decode md.2.2.1 pc = .ok (.astore 4, 2)) (hc1 : jn2 a3 = true) (k : J G d md (pc + 2) (a0 :: a1 :: a2 :: a3 :: some (.ref x) :: l) st n sh M r c0 s0 mc ms post) : J G d md pc (a0 :: a1 :: a2 :: a3 :: b :: l) (.ref x :: st) n sh M r c0 s0 mc ms post := by
  intro p e R s m args below meth c Q C X H locs ls hW hS hl hc hs
  exact lv_astore (i := 4) C.1 C.2.1 hd hl.1 (hl.lt (i := 4) (by simp)) rfl (fun ls2 hl2 => k p e R s m args below meth c Q C X H locs ls2 hW hS (hl.set (v := .ref x) 4 rfl (fun a ha w hw => by (have : a = 3 := by omega); subst this; simp at hw; subst hw; exact hc1) (fun j hj => by match j with
    | 0 => rfl
    | 1 => rfl
    | 2 => rfl
    | 3 => rfl
    | 4 => exact absurd rfl hj
    | j + 5 => rfl) (fun w hw => by simp at hw; exact hw.symm) hl2) hc hs)
theorem J_iinc_4 {a0 a1 a2 a3 : Option Value} {l : List (Option Value)} {x : Int32} {q : Int} (v : Int32) (hd : decode md.2.2.1 pc = .ok (.iinc 4 q, 3)) (hv : Int32.ofInt q = v) (hc1 : jn2 a3 = true) (k : J G d md (pc + 3) (a0 :: a1 :: a2 :: a3 :: some (.int (x + v)) :: l) st n sh M r c0 s0 mc ms post) : J G d md pc (a0 :: a1 :: a2 :: a3 :: some (.int x) :: l) st n sh M r c0 s0 mc ms post := by
  intro p e R s m args below meth c Q C X H locs ls hW hS hl hc hs
  obtain ⟨t, ht⟩ := List.getElem?_of_mem (jtoL_get (jad G) (a0 :: a1 :: a2 :: a3 :: some (.int x) :: l) 0 4 (.int x) rfl)
  exact lv_iinc C.1 C.2.1 hd hl.1 (k := t) (x := x) (v := x + v) (by rw [ht, Nat.zero_add]; rfl) (by rw [hv]) (hl.lt (i := 4) (by simp)) rfl (fun ls2 hl2 => k p e R s m args below meth c Q C X H locs ls2 hW hS (hl.set (v := .int (x + v)) 4 rfl (fun a ha w hw => by (have : a = 3 := by omega); subst this; simp at hw; subst hw; exact hc1) (fun j hj => by match j with
    | 0 => rfl
    | 1 => rfl
    | 2 => rfl
    | 3 => rfl
    | 4 => exact absurd rfl hj
    | j + 5 => rfl) (fun w hw => by simp at hw; exact hw.symm) hl2) hc hs)
theorem J_iload_5 {a0 a1 a2 a3 a4 : Option Value} {l : List (Option Value)} {x : Int32} (hd : decode md.2.2.1 pc = .ok (.iload 5, 2)) (k : J G d md (pc + 2) (a0 :: a1 :: a2 :: a3 :: a4 :: some (.int x) :: l) (.int x :: st) n sh M r c0 s0 mc ms post) : J G d md pc (a0 :: a1 :: a2 :: a3 :: a4 :: some (.int x) :: l) st n sh M r c0 s0 mc ms post := by
  intro p e R s m args below meth c Q C X H locs ls hW hS hl hc hs
  exact lv_iload C.1 C.2.1 hd (hl.at 5 rfl) (k p e R s m args below meth c Q C X H locs ls hW hS hl hc hs)
theorem J_aload_5 {a0 a1 a2 a3 a4 : Option Value} {l : List (Option Value)} {x : Nat} (hd : decode md.2.2.1 pc = .ok (.aload 5, 2)) (k : J G d md (pc + 2) (a0 :: a1 :: a2 :: a3 :: a4 :: some (.ref x) :: l) (.ref x :: st) n sh M r c0 s0 mc ms post) : J G d md pc (a0 :: a1 :: a2 :: a3 :: a4 :: some (.ref x) :: l) st n sh M r c0 s0 mc ms post := by
  intro p e R s m args below meth c Q C X H locs ls hW hS hl hc hs
  exact lv_aload C.1 C.2.1 hd (hl.at 5 rfl) (k p e R s m args below meth c Q C X H locs ls hW hS hl hc hs)
theorem J_lload_5 {a0 a1 a2 a3 a4 : Option Value} {l : List (Option Value)} {x : Int64} (hd : decode md.2.2.1 pc = .ok (.lload 5, 2)) (k : J G d md (pc + 2) (a0 :: a1 :: a2 :: a3 :: a4 :: some (.long x) :: l) (.long x :: st) n sh M r c0 s0 mc ms post) : J G d md pc (a0 :: a1 :: a2 :: a3 :: a4 :: some (.long x) :: l) st n sh M r c0 s0 mc ms post := by
  intro p e R s m args below meth c Q C X H locs ls hW hS hl hc hs
  exact lv_lload C.1 C.2.1 hd (hl.at 5 rfl) (k p e R s m args below meth c Q C X H locs ls hW hS hl hc hs)
theorem J_istore_5 {a0 a1 a2 a3 a4 : Option Value} {l : List (Option Value)} {b : Option Value} {x : Int32} (hd : decode md.2.2.1 pc = .ok (.istore 5, 2)) (hc1 : jn2 a4 = true) (k : J G d md (pc + 2) (a0 :: a1 :: a2 :: a3 :: a4 :: some (.int x) :: l) st n sh M r c0 s0 mc ms post) : J G d md pc (a0 :: a1 :: a2 :: a3 :: a4 :: b :: l) (.int x :: st) n sh M r c0 s0 mc ms post := by
  intro p e R s m args below meth c Q C X H locs ls hW hS hl hc hs
  exact lv_istore (i := 5) C.1 C.2.1 hd hl.1 (hl.lt (i := 5) (by simp)) rfl (fun ls2 hl2 => k p e R s m args below meth c Q C X H locs ls2 hW hS (hl.set (v := .int x) 5 rfl (fun a ha w hw => by (have : a = 4 := by omega); subst this; simp at hw; subst hw; exact hc1) (fun j hj => by match j with
    | 0 => rfl
    | 1 => rfl
    | 2 => rfl
    | 3 => rfl
    | 4 => rfl
    | 5 => exact absurd rfl hj
    | j + 6 => rfl) (fun w hw => by simp at hw; exact hw.symm) hl2) hc hs)
theorem J_astore_5 {a0 a1 a2 a3 a4 : Option Value} {l : List (Option Value)} {b : Option Value} {x : Nat} (hd : decode md.2.2.1 pc = .ok (.astore 5, 2)) (hc1 : jn2 a4 = true) (k : J G d md (pc + 2) (a0 :: a1 :: a2 :: a3 :: a4 :: some (.ref x) :: l) st n sh M r c0 s0 mc ms post) : J G d md pc (a0 :: a1 :: a2 :: a3 :: a4 :: b :: l) (.ref x :: st) n sh M r c0 s0 mc ms post := by
  intro p e R s m args below meth c Q C X H locs ls hW hS hl hc hs
  exact lv_astore (i := 5) C.1 C.2.1 hd hl.1 (hl.lt (i := 5) (by simp)) rfl (fun ls2 hl2 => k p e R s m args below meth c Q C X H locs ls2 hW hS (hl.set (v := .ref x) 5 rfl (fun a ha w hw => by (have : a = 4 := by omega); subst this; simp at hw; subst hw; exact hc1) (fun j hj => by match j with
    | 0 => rfl
    | 1 => rfl
    | 2 => rfl
    | 3 => rfl
    | 4 => rfl
    | 5 => exact absurd rfl hj
    | j + 6 => rfl) (fun w hw => by simp at hw; exact hw.symm) hl2) hc hs)
theorem J_iinc_5 {a0 a1 a2 a3 a4 : Option Value} {l : List (Option Value)} {x : Int32} {q : Int} (v : Int32) (hd : decode md.2.2.1 pc = .ok (.iinc 5 q, 3)) (hv : Int32.ofInt q = v) (hc1 : jn2 a4 = true) (k : J G d md (pc + 3) (a0 :: a1 :: a2 :: a3 :: a4 :: some (.int (x + v)) :: l) st n sh M r c0 s0 mc ms post) : J G d md pc (a0 :: a1 :: a2 :: a3 :: a4 :: some (.int x) :: l) st n sh M r c0 s0 mc ms post := by
  intro p e R s m args below meth c Q C X H locs ls hW hS hl hc hs
  obtain ⟨t, ht⟩ := List.getElem?_of_mem (jtoL_get (jad G) (a0 :: a1 :: a2 :: a3 :: a4 :: some (.int x) :: l) 0 5 (.int x) rfl)
  exact lv_iinc C.1 C.2.1 hd hl.1 (k := t) (x := x) (v := x + v) (by rw [ht, Nat.zero_add]; rfl) (by rw [hv]) (hl.lt (i := 5) (by simp)) rfl (fun ls2 hl2 => k p e R s m args below meth c Q C X H locs ls2 hW hS (hl.set (v := .int (x + v)) 5 rfl (fun a ha w hw => by (have : a = 4 := by omega); subst this; simp at hw; subst hw; exact hc1) (fun j hj => by match j with
    | 0 => rfl
    | 1 => rfl
    | 2 => rfl
    | 3 => rfl
    | 4 => rfl
    | 5 => exact absurd rfl hj
    | j + 6 => rfl) (fun w hw => by simp at hw; exact hw.symm) hl2) hc hs)
theorem J_iload_6 {a0 a1 a2 a3 a4 a5 : Option Value} {l : List (Option Value)} {x : Int32} (hd : decode md.2.2.1 pc = .ok (.iload 6, 2)) (k : J G d md (pc + 2) (a0 :: a1 :: a2 :: a3 :: a4 :: a5 :: some (.int x) :: l) (.int x :: st) n sh M r c0 s0 mc ms post) : J G d md pc (a0 :: a1 :: a2 :: a3 :: a4 :: a5 :: some (.int x) :: l) st n sh M r c0 s0 mc ms post := by
  intro p e R s m args below meth c Q C X H locs ls hW hS hl hc hs
  exact lv_iload C.1 C.2.1 hd (hl.at 6 rfl) (k p e R s m args below meth c Q C X H locs ls hW hS hl hc hs)
theorem J_aload_6 {a0 a1 a2 a3 a4 a5 : Option Value} {l : List (Option Value)} {x : Nat} (hd : decode md.2.2.1 pc = .ok (.aload 6, 2)) (k : J G d md (pc + 2) (a0 :: a1 :: a2 :: a3 :: a4 :: a5 :: some (.ref x) :: l) (.ref x :: st) n sh M r c0 s0 mc ms post) : J G d md pc (a0 :: a1 :: a2 :: a3 :: a4 :: a5 :: some (.ref x) :: l) st n sh M r c0 s0 mc ms post := by
  intro p e R s m args below meth c Q C X H locs ls hW hS hl hc hs
  exact lv_aload C.1 C.2.1 hd (hl.at 6 rfl) (k p e R s m args below meth c Q C X H locs ls hW hS hl hc hs)
theorem J_lload_6 {a0 a1 a2 a3 a4 a5 : Option Value} {l : List (Option Value)} {x : Int64} (hd : decode md.2.2.1 pc = .ok (.lload 6, 2)) (k : J G d md (pc + 2) (a0 :: a1 :: a2 :: a3 :: a4 :: a5 :: some (.long x) :: l) (.long x :: st) n sh M r c0 s0 mc ms post) : J G d md pc (a0 :: a1 :: a2 :: a3 :: a4 :: a5 :: some (.long x) :: l) st n sh M r c0 s0 mc ms post := by
  intro p e R s m args below meth c Q C X H locs ls hW hS hl hc hs
  exact lv_lload C.1 C.2.1 hd (hl.at 6 rfl) (k p e R s m args below meth c Q C X H locs ls hW hS hl hc hs)
theorem J_istore_6 {a0 a1 a2 a3 a4 a5 : Option Value} {l : List (Option Value)} {b : Option Value} {x : Int32} (hd : decode md.2.2.1 pc = .ok (.istore 6, 2)) (hc1 : jn2 a5 = true) (k : J G d md (pc + 2) (a0 :: a1 :: a2 :: a3 :: a4 :: a5 :: some (.int x) :: l) st n sh M r c0 s0 mc ms post) : J G d md pc (a0 :: a1 :: a2 :: a3 :: a4 :: a5 :: b :: l) (.int x :: st) n sh M r c0 s0 mc ms post := by
  intro p e R s m args below meth c Q C X H locs ls hW hS hl hc hs
  exact lv_istore (i := 6) C.1 C.2.1 hd hl.1 (hl.lt (i := 6) (by simp)) rfl (fun ls2 hl2 => k p e R s m args below meth c Q C X H locs ls2 hW hS (hl.set (v := .int x) 6 rfl (fun a ha w hw => by (have : a = 5 := by omega); subst this; simp at hw; subst hw; exact hc1) (fun j hj => by match j with
    | 0 => rfl
    | 1 => rfl
    | 2 => rfl
    | 3 => rfl
    | 4 => rfl
    | 5 => rfl
    | 6 => exact absurd rfl hj
    | j + 7 => rfl) (fun w hw => by simp at hw; exact hw.symm) hl2) hc hs)
theorem J_astore_6 {a0 a1 a2 a3 a4 a5 : Option Value} {l : List (Option Value)} {b : Option Value} {x : Nat} (hd : decode md.2.2.1 pc = .ok (.astore 6, 2)) (hc1 : jn2 a5 = true) (k : J G d md (pc + 2) (a0 :: a1 :: a2 :: a3 :: a4 :: a5 :: some (.ref x) :: l) st n sh M r c0 s0 mc ms post) : J G d md pc (a0 :: a1 :: a2 :: a3 :: a4 :: a5 :: b :: l) (.ref x :: st) n sh M r c0 s0 mc ms post := by
  intro p e R s m args below meth c Q C X H locs ls hW hS hl hc hs
  exact lv_astore (i := 6) C.1 C.2.1 hd hl.1 (hl.lt (i := 6) (by simp)) rfl (fun ls2 hl2 => k p e R s m args below meth c Q C X H locs ls2 hW hS (hl.set (v := .ref x) 6 rfl (fun a ha w hw => by (have : a = 5 := by omega); subst this; simp at hw; subst hw; exact hc1) (fun j hj => by match j with
    | 0 => rfl
    | 1 => rfl
    | 2 => rfl
    | 3 => rfl
    | 4 => rfl
    | 5 => rfl
    | 6 => exact absurd rfl hj
    | j + 7 => rfl) (fun w hw => by simp at hw; exact hw.symm) hl2) hc hs)
theorem J_iinc_6 {a0 a1 a2 a3 a4 a5 : Option Value} {l : List (Option Value)} {x : Int32} {q : Int} (v : Int32) (hd : decode md.2.2.1 pc = .ok (.iinc 6 q, 3)) (hv : Int32.ofInt q = v) (hc1 : jn2 a5 = true) (k : J G d md (pc + 3) (a0 :: a1 :: a2 :: a3 :: a4 :: a5 :: some (.int (x + v)) :: l) st n sh M r c0 s0 mc ms post) : J G d md pc (a0 :: a1 :: a2 :: a3 :: a4 :: a5 :: some (.int x) :: l) st n sh M r c0 s0 mc ms post := by
  intro p e R s m args below meth c Q C X H locs ls hW hS hl hc hs
  obtain ⟨t, ht⟩ := List.getElem?_of_mem (jtoL_get (jad G) (a0 :: a1 :: a2 :: a3 :: a4 :: a5 :: some (.int x) :: l) 0 6 (.int x) rfl)
  exact lv_iinc C.1 C.2.1 hd hl.1 (k := t) (x := x) (v := x + v) (by rw [ht, Nat.zero_add]; rfl) (by rw [hv]) (hl.lt (i := 6) (by simp)) rfl (fun ls2 hl2 => k p e R s m args below meth c Q C X H locs ls2 hW hS (hl.set (v := .int (x + v)) 6 rfl (fun a ha w hw => by (have : a = 5 := by omega); subst this; simp at hw; subst hw; exact hc1) (fun j hj => by match j with
    | 0 => rfl
    | 1 => rfl
    | 2 => rfl
    | 3 => rfl
    | 4 => rfl
    | 5 => rfl
    | 6 => exact absurd rfl hj
    | j + 7 => rfl) (fun w hw => by simp at hw; exact hw.symm) hl2) hc hs)
theorem J_iload_7 {a0 a1 a2 a3 a4 a5 a6 : Option Value} {l : List (Option Value)} {x : Int32} (hd : decode md.2.2.1 pc = .ok (.iload 7, 2)) (k : J G d md (pc + 2) (a0 :: a1 :: a2 :: a3 :: a4 :: a5 :: a6 :: some (.int x) :: l) (.int x :: st) n sh M r c0 s0 mc ms post) : J G d md pc (a0 :: a1 :: a2 :: a3 :: a4 :: a5 :: a6 :: some (.int x) :: l) st n sh M r c0 s0 mc ms post := by
  intro p e R s m args below meth c Q C X H locs ls hW hS hl hc hs
  exact lv_iload C.1 C.2.1 hd (hl.at 7 rfl) (k p e R s m args below meth c Q C X H locs ls hW hS hl hc hs)
theorem J_aload_7 {a0 a1 a2 a3 a4 a5 a6 : Option Value} {l : List (Option Value)} {x : Nat} (hd : decode md.2.2.1 pc = .ok (.aload 7, 2)) (k : J G d md (pc + 2) (a0 :: a1 :: a2 :: a3 :: a4 :: a5 :: a6 :: some (.ref x) :: l) (.ref x :: st) n sh M r c0 s0 mc ms post) : J G d md pc (a0 :: a1 :: a2 :: a3 :: a4 :: a5 :: a6 :: some (.ref x) :: l) st n sh M r c0 s0 mc ms post := by
  intro p e R s m args below meth c Q C X H locs ls hW hS hl hc hs
  exact lv_aload C.1 C.2.1 hd (hl.at 7 rfl) (k p e R s m args below meth c Q C X H locs ls hW hS hl hc hs)
theorem J_lload_7 {a0 a1 a2 a3 a4 a5 a6 : Option Value} {l : List (Option Value)} {x : Int64} (hd : decode md.2.2.1 pc = .ok (.lload 7, 2)) (k : J G d md (pc + 2) (a0 :: a1 :: a2 :: a3 :: a4 :: a5 :: a6 :: some (.long x) :: l) (.long x :: st) n sh M r c0 s0 mc ms post) : J G d md pc (a0 :: a1 :: a2 :: a3 :: a4 :: a5 :: a6 :: some (.long x) :: l) st n sh M r c0 s0 mc ms post := by
  intro p e R s m args below meth c Q C X H locs ls hW hS hl hc hs
  exact lv_lload C.1 C.2.1 hd (hl.at 7 rfl) (k p e R s m args below meth c Q C X H locs ls hW hS hl hc hs)
theorem J_istore_7 {a0 a1 a2 a3 a4 a5 a6 : Option Value} {l : List (Option Value)} {b : Option Value} {x : Int32} (hd : decode md.2.2.1 pc = .ok (.istore 7, 2)) (hc1 : jn2 a6 = true) (k : J G d md (pc + 2) (a0 :: a1 :: a2 :: a3 :: a4 :: a5 :: a6 :: some (.int x) :: l) st n sh M r c0 s0 mc ms post) : J G d md pc (a0 :: a1 :: a2 :: a3 :: a4 :: a5 :: a6 :: b :: l) (.int x :: st) n sh M r c0 s0 mc ms post := by
  intro p e R s m args below meth c Q C X H locs ls hW hS hl hc hs
  exact lv_istore (i := 7) C.1 C.2.1 hd hl.1 (hl.lt (i := 7) (by simp)) rfl (fun ls2 hl2 => k p e R s m args below meth c Q C X H locs ls2 hW hS (hl.set (v := .int x) 7 rfl (fun a ha w hw => by (have : a = 6 := by omega); subst this; simp at hw; subst hw; exact hc1) (fun j hj => by match j with
    | 0 => rfl
    | 1 => rfl
    | 2 => rfl
    | 3 => rfl
    | 4 => rfl
    | 5 => rfl
    | 6 => rfl
    | 7 => exact absurd rfl hj
    | j + 8 => rfl) (fun w hw => by simp at hw; exact hw.symm) hl2) hc hs)
theorem J_astore_7 {a0 a1 a2 a3 a4 a5 a6 : Option Value} {l : List (Option Value)} {b : Option Value} {x : Nat} (hd : decode md.2.2.1 pc = .ok (.astore 7, 2)) (hc1 : jn2 a6 = true) (k : J G d md (pc + 2) (a0 :: a1 :: a2 :: a3 :: a4 :: a5 :: a6 :: some (.ref x) :: l) st n sh M r c0 s0 mc ms post) : J G d md pc (a0 :: a1 :: a2 :: a3 :: a4 :: a5 :: a6 :: b :: l) (.ref x :: st) n sh M r c0 s0 mc ms post := by
  intro p e R s m args below meth c Q C X H locs ls hW hS hl hc hs
  exact lv_astore (i := 7) C.1 C.2.1 hd hl.1 (hl.lt (i := 7) (by simp)) rfl (fun ls2 hl2 => k p e R s m args below meth c Q C X H locs ls2 hW hS (hl.set (v := .ref x) 7 rfl (fun a ha w hw => by (have : a = 6 := by omega); subst this; simp at hw; subst hw; exact hc1) (fun j hj => by match j with
    | 0 => rfl
    | 1 => rfl
    | 2 => rfl
    | 3 => rfl
    | 4 => rfl
    | 5 => rfl
    | 6 => rfl
    | 7 => exact absurd rfl hj
    | j + 8 => rfl) (fun w hw => by simp at hw; exact hw.symm) hl2) hc hs)
theorem J_iinc_7 {a0 a1 a2 a3 a4 a5 a6 : Option Value} {l : List (Option Value)} {x : Int32} {q : Int} (v : Int32) (hd : decode md.2.2.1 pc = .ok (.iinc 7 q, 3)) (hv : Int32.ofInt q = v) (hc1 : jn2 a6 = true) (k : J G d md (pc + 3) (a0 :: a1 :: a2 :: a3 :: a4 :: a5 :: a6 :: some (.int (x + v)) :: l) st n sh M r c0 s0 mc ms post) : J G d md pc (a0 :: a1 :: a2 :: a3 :: a4 :: a5 :: a6 :: some (.int x) :: l) st n sh M r c0 s0 mc ms post := by
  intro p e R s m args below meth c Q C X H locs ls hW hS hl hc hs
  obtain ⟨t, ht⟩ := List.getElem?_of_mem (jtoL_get (jad G) (a0 :: a1 :: a2 :: a3 :: a4 :: a5 :: a6 :: some (.int x) :: l) 0 7 (.int x) rfl)
  exact lv_iinc C.1 C.2.1 hd hl.1 (k := t) (x := x) (v := x + v) (by rw [ht, Nat.zero_add]; rfl) (by rw [hv]) (hl.lt (i := 7) (by simp)) rfl (fun ls2 hl2 => k p e R s m args below meth c Q C X H locs ls2 hW hS (hl.set (v := .int (x + v)) 7 rfl (fun a ha w hw => by (have : a = 6 := by omega); subst this; simp at hw; subst hw; exact hc1) (fun j hj => by match j with
    | 0 => rfl
    | 1 => rfl
    | 2 => rfl
    | 3 => rfl
    | 4 => rfl
    | 5 => rfl
    | 6 => rfl
    | 7 => exact absurd rfl hj
    | j + 8 => rfl) (fun w hw => by simp at hw; exact hw.symm) hl2) hc hs)
theorem J_iload_8 {a0 a1 a2 a3 a4 a5 a6 a7 : Option Value} {l : List (Option Value)} {x : Int32} (hd : decode md.2.2.1 pc = .ok (.iload 8, 2)) (k : J G d md (pc + 2) (a0 :: a1 :: a2 :: a3 :: a4 :: a5 :: a6 :: a7 :: some (.int x) :: l) (.int x :: st) n sh M r c0 s0 mc ms post) : J G d md pc (a0 :: a1 :: a2 :: a3 :: a4 :: a5 :: a6 :: a7 :: some (.int x) :: l) st n sh M r c0 s0 mc ms post := by
  intro p e R s m args below meth c Q C X H locs ls hW hS hl hc hs
  exact lv_iload C.1 C.2.1 hd (hl.at 8 rfl) (k p e R s m args below meth c Q C X H locs ls hW hS hl hc hs)
theorem J_aload_8 {a0 a1 a2 a3 a4 a5 a6 a7 : Option Value} {l : List (Option Value)} {x : Nat} (hd : decode md.2.2.1 pc = .ok (.aload 8, 2)) (k : J G d md (pc + 2) (a0 :: a1 :: a2 :: a3 :: a4 :: a5 :: a6 :: a7 :: some (.ref x) :: l) (.ref x :: st) n sh M r c0 s0 mc ms post) : J G d md pc (a0 :: a1 :: a2 :: a3 :: a4 :: a5 :: a6 :: a7 :: some (.ref x) :: l) st n sh M r c0 s0 mc ms post := by
  intro p e R s m args below meth c Q C X H locs ls hW hS hl hc hs
  exact lv_aload C.1 C.2.1 hd (hl.at 8 rfl) (k p e R s m args below meth c Q C X H locs ls hW hS hl hc hs)
theorem J_lload_8 {a0 a1 a2 a3 a4 a5 a6 a7 : Option Value} {l : List (Option Value)} {x : Int64} (hd : decode md.2.2.1 pc = .ok (.lload 8, 2)) (k : J G d md (pc + 2) (a0 :: a1 :: a2 :: a3 :: a4 :: a5 :: a6 :: a7 :: some (.long x) :: l) (.long x :: st) n sh M r c0 s0 mc ms post) : J G d md pc (a0 :: a1 :: a2 :: a3 :: a4 :: a5 :: a6 :: a7 :: some (.long x) :: l) st n sh M r c0 s0 mc ms post := by
  intro p e R s m args below meth c Q C X H locs ls hW hS hl hc hs
  exact lv_lload C.1 C.2.1 hd (hl.at 8 rfl) (k p e R s m args below meth c Q C X H locs ls hW hS hl hc hs)
theorem J_istore_8 {a0 a1 a2 a3 a4 a5 a6 a7 : Option Value} {l : List (Option Value)} {b : Option Value} {x : Int32} (hd : decode md.2.2.1 pc = .ok (.istore 8, 2)) (hc1 : jn2 a7 = true) (k : J G d md (pc + 2) (a0 :: a1 :: a2 :: a3 :: a4 :: a5 :: a6 :: a7 :: some (.int x) :: l) st n sh M r c0 s0 mc ms post) : J G d md pc (a0 :: a1 :: a2 :: a3 :: a4 :: a5 :: a6 :: a7 :: b :: l) (.int x :: st) n sh M r c0 s0 mc ms post := by
  intro p e R s m args below meth c Q C X H locs ls hW hS hl hc hs
  exact lv_istore (i := 8) C.1 C.2.1 hd hl.1 (hl.lt (i := 8) (by simp)) rfl (fun ls2 hl2 => k p e R s m args below meth c Q C X H locs ls2 hW hS (hl.set (v := .int x) 8 rfl (fun a ha w hw => by (have : a = 7 := by omega); subst this; simp at hw; subst hw; exact hc1) (fun j hj => by match j with
    | 0 => rfl
    | 1 => rfl
    | 2 => rfl
    | 3 => rfl
    | 4 => rfl
    | 5 => rfl
    | 6 => rfl
    | 7 => rfl
    | 8 => exact absurd rfl hj
    | j + 9 => rfl) (fun w hw => by simp at hw; exact hw.symm) hl2) hc hs)
theorem J_astore_8 {a0 a1 a2 a3 a4 a5 a6 a7 : Option Value} {l : List (Option Value)} {b : Option Value} {x : Nat} (hd : decode md.2.2.1 pc = .ok (.astore 8, 2)) (hc1 : jn2 a7 = true) (k : J G d md (pc + 2) (a0 :: a1 :: a2 :: a3 :: a4 :: a5 :: a6 :: a7 :: some (.ref x) :: l) st n sh M r c0 s0 mc ms post) : J G d md pc (a0 :: a1 :: a2 :: a3 :: a4 :: a5 :: a6 :: a7 :: b :: l) (.ref x :: st) n sh M r c0 s0 mc ms post := by
  intro p e R s m args below meth c Q C X H locs ls hW hS hl hc hs
  exact lv_astore (i := 8) C.1 C.2.1 hd hl.1 (hl.lt (i := 8) (by simp)) rfl (fun ls2 hl2 => k p e R s m args below meth c Q C X H locs ls2 hW hS (hl.set (v := .ref x) 8 rfl (fun a ha w hw => by (have : a = 7 := by omega); subst this; simp at hw; subst hw; exact hc1) (fun j hj => by match j with
    | 0 => rfl
    | 1 => rfl
    | 2 => rfl
    | 3 => rfl
    | 4 => rfl
    | 5 => rfl
    | 6 => rfl
    | 7 => rfl
    | 8 => exact absurd rfl hj
    | j + 9 => rfl) (fun w hw => by simp at hw; exact hw.symm) hl2) hc hs)
theorem J_iinc_8 {a0 a1 a2 a3 a4 a5 a6 a7 : Option Value} {l : List (Option Value)} {x : Int32} {q : Int} (v : Int32) (hd : decode md.2.2.1 pc = .ok (.iinc 8 q, 3)) (hv : Int32.ofInt q = v) (hc1 : jn2 a7 = true) (k : J G d md (pc + 3) (a0 :: a1 :: a2 :: a3 :: a4 :: a5 :: a6 :: a7 :: some (.int (x + v)) :: l) st n sh M r c0 s0 mc ms post) : J G d md pc (a0 :: a1 :: a2 :: a3 :: a4 :: a5 :: a6 :: a7 :: some (.int x) :: l) st n sh M r c0 s0 mc ms post := by
  intro p e R s m args below meth c Q C X H locs ls hW hS hl hc hs
  obtain ⟨t, ht⟩ := List.getElem?_of_mem (jtoL_get (jad G) (a0 :: a1 :: a2 :: a3 :: a4 :: a5 :: a6 :: a7 :: some (.int x) :: l) 0 8 (.int x) rfl)
  exact lv_iinc C.1 C.2.1 hd hl.1 (k := t) (x := x) (v := x + v) (by rw [ht, Nat.zero_add]; rfl) (by rw [hv]) (hl.lt (i := 8) (by simp)) rfl (fun ls2 hl2 => k p e R s m args below meth c Q C X H locs ls2 hW hS (hl.set (v := .int (x + v)) 8 rfl (fun a ha w hw => by (have : a = 7 := by omega); subst this; simp at hw; subst hw; exact hc1) (fun j hj => by match j with
    | 0 => rfl
    | 1 => rfl
    | 2 => rfl
    | 3 => rfl
    | 4 => rfl
    | 5 => rfl
    | 6 => rfl
    | 7 => rfl
    | 8 => exact absurd rfl hj
    | j + 9 => rfl) (fun w hw => by simp at hw; exact hw.symm) hl2) hc hs)
theorem J_iload_9 {a0 a1 a2 a3 a4 a5 a6 a7 a8 : Option Value} {l : List (Option Value)} {x : Int32} (hd : decode md.2.2.1 pc = .ok (.iload 9, 2)) (k : J G d md (pc + 2) (a0 :: a1 :: a2 :: a3 :: a4 :: a5 :: a6 :: a7 :: a8 :: some (.int x) :: l) (.int x :: st) n sh M r c0 s0 mc ms post) : J G d md pc (a0 :: a1 :: a2 :: a3 :: a4 :: a5 :: a6 :: a7 :: a8 :: some (.int x) :: l) st n sh M r c0 s0 mc ms post := by
  intro p e R s m args below meth c Q C X H locs ls hW hS hl hc hs
  exact lv_iload C.1 C.2.1 hd (hl.at 9 rfl) (k p e R s m args below meth c Q C X H locs ls hW hS hl hc hs)
theorem J_aload_9 {a0 a1 a2 a3 a4 a5 a6 a7 a8 : Option Value} {l : List (Option Value)} {x : Nat} (hd : decode md.2.2.1 pc = .ok (.aload 9, 2)) (k : J G d md (pc + 2) (a0 :: a1 :: a2 :: a3 :: a4 :: a5 :: a6 :: a7 :: a8 :: some (.ref x) :: l) (.ref x :: st) n sh M r c0 s0 mc ms post) : J G d md pc (a0 :: a1 :: a2 :: a3 :: a4 :: a5 :: a6 :: a7 :: a8 :: some (.ref x) :: l) st n sh M r c0 s0 mc ms post := by
  intro p e R s m args below meth c Q C X H locs ls hW hS hl hc hs
  exact lv_aload C.1 C.2.1 hd (hl.at 9 rfl) (k p e R s m args below meth c Q C X H locs ls hW hS hl hc hs)
theorem J_lload_9 {a0 a1 a2 a3 a4 a5 a6 a7 a8 : Option Value} {l : List (Option Value)} {x : Int64} (hd : decode md.2.2.1 pc = .ok (.lload 9, 2)) (k : J G d md (pc + 2) (a0 :: a1 :: a2 :: a3 :: a4 :: a5 :: a6 :: a7 :: a8 :: some (.long x) :: l) (.long x :: st) n sh M r c0 s0 mc ms post) : J G d md pc (a0 :: a1 :: a2 :: a3 :: a4 :: a5 :: a6 :: a7 :: a8 :: some (.long x) :: l) st n sh M r c0 s0 mc ms post := by
  intro p e R s m args below meth c Q C X H locs ls hW hS hl hc hs
  exact lv_lload C.1 C.2.1 hd (hl.at 9 rfl) (k p e R s m args below meth c Q C X H locs ls hW hS hl hc hs)
theorem J_istore_9 {a0 a1 a2 a3 a4 a5 a6 a7 a8 : Option Value} {l : List (Option Value)} {b : Option Value} {x : Int32} (hd : decode md.2.2.1 pc = .ok (.istore 9, 2)) (hc1 : jn2 a8 = true) (k : J G d md (pc + 2) (a0 :: a1 :: a2 :: a3 :: a4 :: a5 :: a6 :: a7 :: a8 :: some (.int x) :: l) st n sh M r c0 s0 mc ms post) : J G d md pc (a0 :: a1 :: a2 :: a3 :: a4 :: a5 :: a6 :: a7 :: a8 :: b :: l) (.int x :: st) n sh M r c0 s0 mc ms post := by
  intro p e R s m args below meth c Q C X H locs ls hW hS hl hc hs
  exact lv_istore (i := 9) C.1 C.2.1 hd hl.1 (hl.lt (i := 9) (by simp)) rfl (fun ls2 hl2 => k p e R s m args below meth c Q C X H locs ls2 hW hS (hl.set (v := .int x) 9 rfl (fun a ha w hw => by (have : a = 8 := by omega); subst this; simp at hw; subst hw; exact hc1) (fun j hj => by match j with
    | 0 => rfl
    | 1 => rfl
    | 2 => rfl
    | 3 => rfl
    | 4 => rfl
    | 5 => rfl
    | 6 => rfl
    | 7 => rfl
    | 8 => rfl
    | 9 => exact absurd rfl hj
    | j + 10 => rfl) (fun w hw => by simp at hw; exact hw.symm) hl2) hc hs)
theorem J_astore_9 {a0 a1 a2 a3 a4 a5 a6 a7 a8 : Option Value} {l : List (Option Value)} {b : Option Value} {x : Nat} (hd : decode md.2.2.1 pc = .ok (.astore 9, 2)) (hc1 : jn2 a8 = true) (k : J G d md (pc + 2) (a0 :: a1 :: a2 :: a3 :: a4 :: a5 :: a6 :: a7 :: a8 :: some (.ref x) :: l) st n sh M r c0 s0 mc ms post) : J G d md pc (a0 :: a1 :: a2 :: a3 :: a4 :: a5 :: a6 :: a7 :: a8 :: b :: l) (.ref x :: st) n sh M r c0 s0 mc ms post := by
  intro p e R s m args below meth c Q C X H locs ls hW hS hl hc hs
  exact lv_astore (i := 9) C.1 C.2.1 hd hl.1 (hl.lt (i := 9) (by simp)) rfl (fun ls2 hl2 => k p e R s m args below meth c Q C X H locs ls2 hW hS (hl.set (v := .ref x) 9 rfl (fun a ha w hw => by (have : a = 8 := by omega); subst this; simp at hw; subst hw; exact hc1) (fun j hj => by match j with
    | 0 => rfl
    | 1 => rfl
    | 2 => rfl
    | 3 => rfl
    | 4 => rfl
    | 5 => rfl
    | 6 => rfl
    | 7 => rfl
    | 8 => rfl
    | 9 => exact absurd rfl hj
    | j + 10 => rfl) (fun w hw => by simp at hw; exact hw.symm) hl2) hc hs)
theorem J_iinc_9 {a0 a1 a2 a3 a4 a5 a6 a7 a8 : Option Value} {l : List (Option Value)} {x : Int32} {q : Int} (v : Int32) (hd : decode md.2.2.1 pc = .ok (.iinc 9 q, 3)) (hv : Int32.ofInt q = v) (hc1 : jn2 a8 = true) (k : J G d md (pc + 3) (a0 :: a1 :: a2 :: a3 :: a4 :: a5 :: a6 :: a7 :: a8 :: some (.int (x + v)) :: l) st n sh M r c0 s0 mc ms post) : J G d md pc (a0 :: a1 :: a2 :: a3 :: a4 :: a5 :: a6 :: a7 :: a8 :: some (.int x) :: l) st n sh M r c0 s0 mc ms post := by
  intro p e R s m args below meth c Q C X H locs ls hW hS hl hc hs
  obtain ⟨t, ht⟩ := List.getElem?_of_mem (jtoL_get (jad G) (a0 :: a1 :: a2 :: a3 :: a4 :: a5 :: a6 :: a7 :: a8 :: some (.int x) :: l) 0 9 (.int x) rfl)
  exact lv_iinc C.1 C.2.1 hd hl.1 (k := t) (x := x) (v := x + v) (by rw [ht, Nat.zero_add]; rfl) (by rw [hv]) (hl.lt (i := 9) (by simp)) rfl (fun ls2 hl2 => k p e R s m args below meth c Q C X H locs ls2 hW hS (hl.set (v := .int (x + v)) 9 rfl (fun a ha w hw => by (have : a = 8 := by omega); subst this; simp at hw; subst hw; exact hc1) (fun j hj => by match j with
    | 0 => rfl
    | 1 => rfl
    | 2 => rfl
    | 3 => rfl
    | 4 => rfl
    | 5 => rfl
    | 6 => rfl
    | 7 => rfl
    | 8 => rfl
    | 9 => exact absurd rfl hj
    | j + 10 => rfl) (fun w hw => by simp at hw; exact hw.symm) hl2) hc hs)
theorem J_iload_10 {a0 a1 a2 a3 a4 a5 a6 a7 a8 a9 : Option Value} {l : List (Option Value)} {x : Int32} (hd : decode md.2.2.1 pc = .ok (.iload 10, 2)) (k : J G d md (pc + 2) (a0 :: a1 :: a2 :: a3 :: a4 :: a5 :: a6 :: a7 :: a8 :: a9 :: some (.int x) :: l) (.int x :: st) n sh M r c0 s0 mc ms post) : J G d md pc (a0 :: a1 :: a2 :: a3 :: a4 :: a5 :: a6 :: a7 :: a8 :: a9 :: some (.int x) :: l) st n sh M r c0 s0 mc ms post := by
  intro p e R s m args below meth c Q C X H locs ls hW hS hl hc hs
  exact lv_iload C.1 C.2.1 hd (hl.at 10 rfl) (k p e R s m args below meth c Q C X H locs ls hW hS hl hc hs)
theorem J_aload_10 {a0 a1 a2 a3 a4 a5 a6 a7 a8 a9 : Option Value} {l : List (Option Value)} {x : Nat} (hd : decode md.2.2.1 pc = .ok (.aload 10, 2)) (k : J G d md (pc + 2) (a0 :: a1 :: a2 :: a3 :: a4 :: a5 :: a6 :: a7 :: a8 :: a9 :: some (.ref x) :: l) (.ref x :: st) n sh M r c0 s0 mc ms post) : J G d md pc (a0 :: a1 :: a2 :: a3 :: a4 :: a5 :: a6 :: a7 :: a8 :: a9 :: some (.ref x) :: l) st n sh M r c0 s0 mc ms post := by
  intro p e R s m args below meth c Q C X H locs ls hW hS hl hc hs
  exact lv_aload C.1 C.2.1 hd (hl.at 10 rfl) (k p e R s m args below meth c Q C X H locs ls hW hS hl hc hs)
theorem J_lload_10 {a0 a1 a2 a3 a4 a5 a6 a7 a8 a9 : Option Value} {l : List (Option Value)} {x : Int64} (hd : decode md.2.2.1 pc = .ok (.lload 10, 2)) (k : J G d md (pc + 2) (a0 :: a1 :: a2 :: a3 :: a4 :: a5 :: a6 :: a7 :: a8 :: a9 :: some (.long x) :: l) (.long x :: st) n sh M r c0 s0 mc ms post) : J G d md pc (a0 :: a1 :: a2 :: a3 :: a4 :: a5 :: a6 :: a7 :: a8 :: a9 :: some (.long x) :: l) st n sh M r c0 s0 mc ms post := by
  intro p e R s m args below meth c Q C X H locs ls hW hS hl hc hs
  exact lv_lload C.1 C.2.1 hd (hl.at 10 rfl) (k p e R s m args below meth c Q C X H locs ls hW hS hl hc hs)
theorem J_istore_10 {a0 a1 a2 a3 a4 a5 a6 a7 a8 a9 : Option Value} {l : List (Option Value)} {b : Option Value} {x : Int32} (hd : decode md.2.2.1 pc = .ok (.istore 10, 2)) (hc1 : jn2 a9 = true) (k : J G d md (pc + 2) (a0 :: a1 :: a2 :: a3 :: a4 :: a5 :: a6 :: a7 :: a8 :: a9 :: some (.int x) :: l) st n sh M r c0 s0 mc ms post) : J G d md pc (a0 :: a1 :: a2 :: a3 :: a4 :: a5 :: a6 :: a7 :: a8 :: a9 :: b :: l) (.int x :: st) n sh M r c0 s0 mc ms post := by
  intro p e R s m args below meth c Q C X H locs ls hW hS hl hc hs
  exact lv_istore (i := 10) C.1 C.2.1 hd hl.1 (hl.lt (i := 10) (by simp)) rfl (fun ls2 hl2 => k p e R s m args below meth c Q C X H locs ls2 hW hS (hl.set (v := .int x) 10 rfl (fun a ha w hw => by (have : a = 9 := by omega); subst this; simp at hw; subst hw; exact hc1) (fun j hj => by match j with
    | 0 => rfl
    | 1 => rfl
    | 2 => rfl
    | 3 => rfl
    | 4 => rfl
    | 5 => rfl
    | 6 => rfl
    | 7 => rfl
    | 8 => rfl
    | 9 => rfl
    | 10 => exact absurd rfl hj
    | j + 11 => rfl) (fun w hw => by simp at hw; exact hw.symm) hl2) hc hs)
theorem J_astore_10 {a0 a1 a2 a3 a4 a5 a6 a7 a8 a9 : Option Value} {l : List (Option Value)} {b : Option Value} {x : Nat} (hd : decode md.2.2.1 pc = .ok (.astore 10, 2)) (hc1 : jn2 a9 = true) (k : J G d md (pc + 2) (a0 :: a1 :: a2 :: a3 :: a4 :: a5 :: a6 :: a7 :: a8 :: a9 :: some (.ref x) :: l) st n sh M r c0 s0 mc ms post) : J G d md pc (a0 :: a1 :: a2 :: a3 :: a4 :: a5 :: a6 :: a7 :: a8 :: a9 :: b :: l) (.ref x :: st) n sh M r c0 s0 mc ms post := by
  intro p e R s m args below meth c Q C X H locs ls hW hS hl hc hs
  exact lv_astore (i := 10) C.1 C.2.1 hd hl.1 (hl.lt (i := 10) (by simp)) rfl (fun ls2 hl2 => k p e R s m args below meth c Q C X H locs ls2 hW hS (hl.set (v := .ref x) 10 rfl (fun a ha w hw => by (have : a = 9 := by omega); subst this; simp at hw; subst hw; exact hc1) (fun j hj => by match j with
    | 0 => rfl
    | 1 => rfl
    | 2 => rfl
    | 3 => rfl
    | 4 => rfl
    | 5 => rfl
    | 6 => rfl
    | 7 => rfl
    | 8 => rfl
    | 9 => rfl
    | 10 => exact absurd rfl hj
    | j + 11 => rfl) (fun w hw => by simp at hw; exact hw.symm) hl2) hc hs)
theorem J_iinc_10 {a0 a1 a2 a3 a4 a5 a6 a7 a8 a9 : Option Value} {l : List (Option Value)} {x : Int32} {q : Int} (v : Int32) (hd : decode md.2.2.1 pc = .ok (.iinc 10 q, 3)) (hv : Int32.ofInt q = v) (hc1 : jn2 a9 = true) (k : J G d md (pc + 3) (a0 :: a1 :: a2 :: a3 :: a4 :: a5 :: a6 :: a7 :: a8 :: a9 :: some (.int (x + v)) :: l) st n sh M r c0 s0 mc ms post) : J G d md pc (a0 :: a1 :: a2 :: a3 :: a4 :: a5 :: a6 :: a7 :: a8 :: a9 :: some (.int x) :: l) st n sh M r c0 s0 mc ms post := by
  intro p e R s m args below meth c Q C X H locs ls hW hS hl hc hs
  obtain ⟨t, ht⟩ := List.getElem?_of_mem (jtoL_get (jad G) (a0 :: a1 :: a2 :: a3 :: a4 :: a5 :: a6 :: a7 :: a8 :: a9 :: some (.int x) :: l) 0 10 (.int x) rfl)
  exact lv_iinc C.1 C.2.1 hd hl.1 (k := t) (x := x) (v := x + v) (by rw [ht, Nat.zero_add]; rfl) (by rw [hv]) (hl.lt (i := 10) (by simp)) rfl (fun ls2 hl2 => k p e R s m args below meth c Q C X H locs ls2 hW hS (hl.set (v := .int (x + v)) 10 rfl (fun a ha w hw => by (have : a = 9 := by omega); subst this; simp at hw; subst hw; exact hc1) (fun j hj => by match j with
    | 0 => rfl
    | 1 => rfl
    | 2 => rfl
    | 3 => rfl
    | 4 => rfl
    | 5 => rfl
    | 6 => rfl
    | 7 => rfl
    | 8 => rfl
    | 9 => rfl
    | 10 => exact absurd rfl hj
    | j + 11 => rfl) (fun w hw => by simp at hw; exact hw.symm) hl2) hc hs)
theorem J_iload_11 {a0 a1 a2 a3 a4 a5 a6 a7 a8 a9 a10 : Option Value} {l : List (Option Value)} {x : Int32} (hd : decode md.2.2.1 pc = .ok (.iload 11, 2)) (k : J G d md (pc + 2) (a0 :: a1 :: a2 :: a3 :: a4 :: a5 :: a6 :: a7 :: a8 :: a9 :: a10 :: some (.int x) :: l) (.int x :: st) n sh M r c0 s0 mc ms post) : J G d md pc (a0 :: a1 :: a2 :: a3 :: a4 :: a5 :: a6 :: a7 :: a8 :: a9 :: a10 :: some (.int x) :: l) st n sh M r c0 s0 mc ms post := by
  intro p e R s m args below meth c Q C X H locs ls hW hS hl hc hs
  exact lv_iload C.1 C.2.1 hd (hl.at 11 rfl) (k p e R s m args below meth c Q C X H locs ls hW hS hl hc hs)
theorem J_aload_11 {a0 a1 a2 a3 a4 a5 a6 a7 a8 a9 a10 : Option Value} {l : List (Option Value)} {x : Nat} (hd : decode md.2.2.1 pc = .ok (.aload 11, 2)) (k : J G d md (pc + 2) (a0 :: a1 :: a2 :: a3 :: a4 :: a5 :: a6 :: a7 :: a8 :: a9 :: a10 :: some (.ref x) :: l) (.ref x :: st) n sh M r c0 s0 mc ms post) : J G d md pc (a0 :: a1 :: a2 :: a3 :: a4 :: a5 :: a6 :: a7 :: a8 :: a9 :: a10 :: some (.ref x) :: l) st n sh M r c0 s0 mc ms post := by
  intro p e R s m args below meth c Q C X H locs ls hW hS hl hc hs
  exact lv_aload C.1 C.2.1 hd (hl.at 11 rfl) (k p e R s m args below meth c Q C X H locs ls hW hS hl hc hs)
theorem J_lload_11 {a0 a1 a2 a3 a4 a5 a6 a7 a8 a9 a10 : Option Value} {l : List (Option Value)} {x : Int64} (hd : decode md.2.2.1 pc = .ok (.lload 11, 2)) (k : J G d md (pc + 2) (a0 :: a1 :: a2 :: a3 :: a4 :: a5 :: a6 :: a7 :: a8 :: a9 :: a10 :: some (.long x) :: l) (.long x :: st) n sh M r c0 s0 mc ms post) : J G d md pc (a0 :: a1 :: a2 :: a3 :: a4 :: a5 :: a6 :: a7 :: a8 :: a9 :: a10 :: some (.long x) :: l) st n sh M r c0 s0 mc ms post := by
  intro p e R s m args below meth c Q C X H locs ls hW hS hl hc hs
  exact lv_lload C.1 C.2.1 hd (hl.at 11 rfl) (k p e R s m args below meth c Q C X H locs ls hW hS hl hc hs)
theorem J_istore_11 {a0 a1 a2 a3 a4 a5 a6 a7 a8 a9 a10 : Option Value} {l : List (Option Value)} {b : Option Value} {x : Int32} (hd : decode md.2.2.1 pc = .ok (.istore 11, 2)) (hc1 : jn2 a10 = true) (k : J G d md (pc + 2) (a0 :: a1 :: a2 :: a3 :: a4 :: a5 :: a6 :: a7 :: a8 :: a9 :: a10 :: some (.int x) :: l) st n sh M r c0 s0 mc ms post) : J G d md pc (a0 :: a1 :: a2 :: a3 :: a4 :: a5 :: a6 :: a7 :: a8 :: a9 :: a10 :: b :: l) (.int x :: st) n sh M r c0 s0 mc ms post := by
  intro p e R s m args below meth c Q C X H locs ls hW hS hl hc hs
  exact lv_istore (i := 11) C.1 C.2.1 hd hl.1 (hl.lt (i := 11) (by simp)) rfl (fun ls2 hl2 => k p e R s m args below meth c Q C X H locs ls2 hW hS (hl.set (v := .int x) 11 rfl (fun a ha w hw => by (have : a = 10 := by omega); subst this; simp at hw; subst hw; exact hc1) (fun j hj => by match j with
    | 0 => rfl
    | 1 => rfl
    | 2 => rfl
    | 3 => rfl
    | 4 => rfl
    | 5 => rfl
    | 6 => rfl
    | 7 => rfl
    | 8 => rfl
    | 9 => rfl
    | 10 => rfl
    | 11 => exact absurd rfl hj
    | j + 12 => rfl) (fun w hw => by simp at hw; exact hw.symm) hl2) hc hs)
theorem J_astore_11 {a0 a1 a2 a3 a4 a5 a6 a7 a8 a9 a10 : Option Value} {l : List (Option Value)} {b : Option Value} {x : Nat} (hd : decode md.2.2.1 pc = .ok (.astore 11, 2)) (hc1 : jn2 a10 = true) (k : J G d md (pc + 2) (a0 :: a1 :: a2 :: a3 :: a4 :: a5 :: a6 :: a7 :: a8 :: a9 :: a10 :: some (.ref x) :: l) st n sh M r c0 s0 mc ms post) : J G d md pc (a0 :: a1 :: a2 :: a3 :: a4 :: a5 :: a6 :: a7 :: a8 :: a9 :: a10 :: b :: l) (.ref x :: st) n sh M r c0 s0 mc ms post := by
  intro p e R s m args below meth c Q C X H locs ls hW hS hl hc hs
  exact lv_astore (i := 11) C.1 C.2.1 hd hl.1 (hl.lt (i := 11) (by simp)) rfl (fun ls2 hl2 => k p e R s m args below meth c Q C X H locs ls2 hW hS (hl.set (v := .ref x) 11 rfl (fun a ha w hw => by (have : a = 10 := by omega); subst this; simp at hw; subst hw; exact hc1) (fun j hj => by match j with
    | 0 => rfl
    | 1 => rfl
    | 2 => rfl
    | 3 => rfl
    | 4 => rfl
    | 5 => rfl
    | 6 => rfl
    | 7 => rfl
    | 8 => rfl
    | 9 => rfl
    | 10 => rfl
    | 11 => exact absurd rfl hj
    | j + 12 => rfl) (fun w hw => by simp at hw; exact hw.symm) hl2) hc hs)
theorem J_iinc_11 {a0 a1 a2 a3 a4 a5 a6 a7 a8 a9 a10 : Option Value} {l : List (Option Value)} {x : Int32} {q : Int} (v : Int32) (hd : decode md.2.2.1 pc = .ok (.iinc 11 q, 3)) (hv : Int32.ofInt q = v) (hc1 : jn2 a10 = true) (k : J G d md (pc + 3) (a0 :: a1 :: a2 :: a3 :: a4 :: a5 :: a6 :: a7 :: a8 :: a9 :: a10 :: some (.int (x + v)) :: l) st n sh M r c0 s0 mc ms post) : J G d md pc (a0 :: a1 :: a2 :: a3 :: a4 :: a5 :: a6 :: a7 :: a8 :: a9 :: a10 :: some (.int x) :: l) st n sh M r c0 s0 mc ms post := by
  intro p e R s m args below meth c Q C X H locs ls hW hS hl hc hs
  obtain ⟨t, ht⟩ := List.getElem?_of_mem (jtoL_get (jad G) (a0 :: a1 :: a2 :: a3 :: a4 :: a5 :: a6 :: a7 :: a8 :: a9 :: a10 :: some (.int x) :: l) 0 11 (.int x) rfl)
  exact lv_iinc C.1 C.2.1 hd hl.1 (k := t) (x := x) (v := x + v) (by rw [ht, Nat.zero_add]; rfl) (by rw [hv]) (hl.lt (i := 11) (by simp)) rfl (fun ls2 hl2 => k p e R s m args below meth c Q C X H locs ls2 hW hS (hl.set (v := .int (x + v)) 11 rfl (fun a ha w hw => by (have : a = 10 := by omega); subst this; simp at hw; subst hw; exact hc1) (fun j hj => by match j with
    | 0 => rfl
    | 1 => rfl
    | 2 => rfl
    | 3 => rfl
    | 4 => rfl
    | 5 => rfl
    | 6 => rfl
    | 7 => rfl
    | 8 => rfl
    | 9 => rfl
    | 10 => rfl
    | 11 => exact absurd rfl hj
    | j + 12 => rfl) (fun w hw => by simp at hw; exact hw.symm) hl2) hc hs)
theorem J_iload_12 {a0 a1 a2 a3 a4 a5 a6 a7 a8 a9 a10 a11 : Option Value} {l : List (Option Value)} {x : Int32} (hd : decode md.2.2.1 pc = .ok (.iload 12, 2)) (k : J G d md (pc + 2) (a0 :: a1 :: a2 :: a3 :: a4 :: a5 :: a6 :: a7 :: a8 :: a9 :: a10 :: a11 :: some (.int x) :: l) (.int x :: st) n sh M r c0 s0 mc ms post) : J G d md pc (a0 :: a1 :: a2 :: a3 :: a4 :: a5 :: a6 :: a7 :: a8 :: a9 :: a10 :: a11 :: some (.int x) :: l) st n sh M r c0 s0 mc ms post := by
  intro p e R s m args below meth c Q C X H locs ls hW hS hl hc hs
  exact lv_iload C.1 C.2.1 hd (hl.at 12 rfl) (k p e R s m args below meth c Q C X H locs ls hW hS hl hc hs)
theorem J_aload_12 {a0 a1 a2 a3 a4 a5 a6 a7 a8 a9 a10 a11 : Option Value} {l : List (Option Value)} {x : Nat} (hd : decode md.2.2.1 pc = .ok (.aload 12, 2)) (k : J G d md (pc + 2) (a0 :: a1 :: a2 :: a3 :: a4 :: a5 :: a6 :: a7 :: a8 :: a9 :: a10 :: a11 :: some (.ref x) :: l) (.ref x :: st) n sh M r c0 s0 mc ms post) : J G d md pc (a0 :: a1 :: a2 :: a3 :: a4 :: a5 :: a6 :: a7 :: a8 :: a9 :: a10 :: a11 :: some (.ref x) :: l) st n sh M r c0 s0 mc ms post := by
  intro p e R s m args below meth c Q C X H locs ls hW hS hl hc hs
  exact lv_aload C.1 C.2.1 hd (hl.at 12 rfl) (k p e R s m args below meth c Q C X H locs ls hW hS hl hc hs)
theorem J_lload_12 {a0 a1 a2 a3 a4 a5 a6 a7 a8 a9 a10 a11 : Option Value} {l : List (Option Value)} {x : Int64} (hd : decode md.2.2.1 pc = .ok (.lload 12, 2)) (k : J G d md (pc + 2) (a0 :: a1 :: a2 :: a3 :: a4 :: a5 :: a6 :: a7 :: a8 :: a9 :: a10 :: a11 :: some (.long x) :: l) (.long x :: st) n sh M r c0 s0 mc ms post) : J G d md pc (a0 :: a1 :: a2 :: a3 :: a4 :: a5 :: a6 :: a7 :: a8 :: a9 :: a10 :: a11 :: some (.long x) :: l) st n sh M r c0 s0 mc ms post := by
  intro p e R s m args below meth c Q C X H locs ls hW hS hl hc hs
  exact lv_lload C.1 C.2.1 hd (hl.at 12 rfl) (k p e R s m args below meth c Q C X H locs ls hW hS hl hc hs)
theorem J_istore_12 {a0 a1 a2 a3 a4 a5 a6 a7 a8 a9 a10 a11 : Option Value} {l : List (Option Value)} {b : Option Value} {x : Int32} (hd : decode md.2.2.1 pc = .ok (.istore 12, 2)) (hc1 : jn2 a11 = true) (k : J G d md (pc + 2) (a0 :: a1 :: a2 :: a3 :: a4 :: a5 :: a6 :: a7 :: a8 :: a9 :: a10 :: a11 :: some (.int x) :: l) st n sh M r c0 s0 mc ms post) : J G d md pc (a0 :: a1 :: a2 :: a3 :: a4 :: a5 :: a6 :: a7 :: a8 :: a9 :: a10 :: a11 :: b :: l) (.int x :: st) n sh M r c0 s0 mc ms post := by
  intro p e R s m args below meth c Q C X H locs ls hW hS hl hc hs
  exact lv_istore (i := 12) C.1 C.2.1 hd hl.1 (hl.lt (i := 12) (by simp)) rfl (fun ls2 hl2 => k p e R s m args below meth c Q C X H locs ls2 hW hS (hl.set (v := .int x) 12 rfl (fun a ha w hw => by (have : a = 11 := by omega); subst this; simp at hw; subst hw; exact hc1) (fun j hj => by match j with
    | 0 => rfl
    | 1 => rfl
    | 2 => rfl
    | 3 => rfl
    | 4 => rfl
    | 5 => rfl
    | 6 => rfl
    | 7 => rfl
    | 8 => rfl
    | 9 => rfl
    | 10 => rfl
    | 11 => rfl
    | 12 => exact absurd rfl hj
    | j + 13 => rfl) (fun w hw => by simp at hw; exact hw.symm) hl2) hc hs)
theorem J_astore_12 {a0 a1 a2 a3 a4 a5 a6 a7 a8 a9 a10 a11 : Option Value} {l : List (Option Value)} {b : Option Value} {x : Nat} (hd : decode md.2.2.1 pc = .ok (.astore 12, 2)) (hc1 : jn2 a11 = true) (k : J G d md (pc + 2) (a0 :: a1 :: a2 :: a3 :: a4 :: a5 :: a6 :: a7 :: a8 :: a9 :: a10 :: a11 :: some (.ref x) :: l) st n sh M r c0 s0 mc ms post) : J G d md pc (a0 :: a1 :: a2 :: a3 :: a4 :: a5 :: a6 :: a7 :: a8 :: a9 :: a10 :: a11 :: b :: l) (.ref x :: st) n sh M r c0 s0 mc ms post := by
  intro p e R s m args below meth c Q C X H locs ls hW hS hl hc hs
  exact lv_astore (i := 12) C.1 C.2.1 hd hl.1 (hl.lt (i := 12) (by simp)) rfl (fun ls2 hl2 => k p e R s m args below meth c Q C X H locs ls2 hW hS (hl.set (v := .ref x) 12 rfl (fun a ha w hw => by (have : a = 11 := by omega); subst this; simp at hw; subst hw; exact hc1) (fun j hj => by match j with
    | 0 => rfl
    | 1 => rfl
    | 2 => rfl
    | 3 => rfl
    | 4 => rfl
    | 5 => rfl
    | 6 => rfl
    | 7 => rfl
    | 8 => rfl
    | 9 => rfl
    | 10 => rfl
    | 11 => rfl
    | 12 => exact absurd rfl hj
    | j + 13 => rfl) (fun w hw => by simp at hw; exact hw.symm) hl2) hc hs)
theorem J_iinc_12 {a0 a1 a2 a3 a4 a5 a6 a7 a8 a9 a10 a11 : Option Value} {l : List (Option Value)} {x : Int32} {q : Int} (v : Int32) (hd : decode md.2.2.1 pc = .ok (.iinc 12 q, 3)) (hv : Int32.ofInt q = v) (hc1 : jn2 a11 = true) (k : J G d md (pc + 3) (a0 :: a1 :: a2 :: a3 :: a4 :: a5 :: a6 :: a7 :: a8 :: a9 :: a10 :: a11 :: some (.int (x + v)) :: l) st n sh M r c0 s0 mc ms post) : J G d md pc (a0 :: a1 :: a2 :: a3 :: a4 :: a5 :: a6 :: a7 :: a8 :: a9 :: a10 :: a11 :: some (.int x) :: l) st n sh M r c0 s0 mc ms post := by
  intro p e R s m args below meth c Q C X H locs ls hW hS hl hc hs
  obtain ⟨t, ht⟩ := List.getElem?_of_mem (jtoL_get (jad G) (a0 :: a1 :: a2 :: a3 :: a4 :: a5 :: a6 :: a7 :: a8 :: a9 :: a10 :: a11 :: some (.int x) :: l) 0 12 (.int x) rfl)
  exact lv_iinc C.1 C.2.1 hd hl.1 (k := t) (x := x) (v := x + v) (by rw [ht, Nat.zero_add]; rfl) (by rw [hv]) (hl.lt (i := 12) (by simp)) rfl (fun ls2 hl2 => k p e R s m args below meth c Q C X H locs ls2 hW hS (hl.set (v := .int (x + v)) 12 rfl (fun a ha w hw => by (have : a = 11 := by omega); subst this; simp at hw; subst hw; exact hc1) (fun j hj => by match j with
    | 0 => rfl
    | 1 => rfl
    | 2 => rfl
    | 3 => rfl
    | 4 => rfl
    | 5 => rfl
    | 6 => rfl
    | 7 => rfl
    | 8 => rfl
    | 9 => rfl
    | 10 => rfl
    | 11 => rfl
    | 12 => exact absurd rfl hj
    | j + 13 => rfl) (fun w hw => by simp at hw; exact hw.symm) hl2) hc hs)
theorem J_iload_13 {a0 a1 a2 a3 a4 a5 a6 a7 a8 a9 a10 a11 a12 : Option Value} {l : List (Option Value)} {x : Int32} (hd : decode md.2.2.1 pc = .ok (.iload 13, 2)) (k : J G d md (pc + 2) (a0 :: a1 :: a2 :: a3 :: a4 :: a5 :: a6 :: a7 :: a8 :: a9 :: a10 :: a11 :: a12 :: some (.int x) :: l) (.int x :: st) n sh M r c0 s0 mc ms post) : J G d md pc (a0 :: a1 :: a2 :: a3 :: a4 :: a5 :: a6 :: a7 :: a8 :: a9 :: a10 :: a11 :: a12 :: some (.int x) :: l) st n sh M r c0 s0 mc ms post := by
  intro p e R s m args below meth c Q C X H locs ls hW hS hl hc hs
  exact lv_iload C.1 C.2.1 hd (hl.at 13 rfl) (k p e R s m args below meth c Q C X H locs ls hW hS hl hc hs)
theorem J_aload_13 {a0 a1 a2 a3 a4 a5 a6 a7 a8 a9 a10 a11 a12 : Option Value} {l : List (Option Value)} {x : Nat} (hd : decode md.2.2.1 pc = .ok (.aload 13, 2)) (k : J G d md (pc + 2) (a0 :: a1 :: a2 :: a3 :: a4 :: a5 :: a6 :: a7 :: a8 :: a9 :: a10 :: a11 :: a12 :: some (.ref x) :: l) (.ref x :: st) n sh M r c0 s0 mc ms post) : J G d md pc (a0 :: a1 :: a2 :: a3 :: a4 :: a5 :: a6 :: a7 :: a8 :: a9 :: a10 :: a11 :: a12 :: some (.ref x) :: l) st n sh M r c0 s0 mc ms post := by
  intro p e R s m args below meth c Q C X H locs ls hW hS hl hc hs
  exact lv_aload C.1 C.2.1 hd (hl.at 13 rfl) (k p e R s m args below meth c Q C X H locs ls hW hS hl hc hs)
theorem J_lload_13 {a0 a1 a2 a3 a4 a5 a6 a7 a8 a9 a10 a11 a12 : Option Value} {l : List (Option Value)} {x : Int64} (hd : decode md.2.2.1 pc = .ok (.lload 13, 2)) (k : J G d md (pc + 2) (a0 :: a1 :: a2 :: a3 :: a4 :: a5 :: a6 :: a7 :: a8 :: a9 :: a10 :: a11 :: a12 :: some (.long x) :: l) (.long x :: st) n sh M r c0 s0 mc ms post) : J G d md pc (a0 :: a1 :: a2 :: a3 :: a4 :: a5 :: a6 :: a7 :: a8 :: a9 :: a10 :: a11 :: a12 :: some (.long x) :: l) st n sh M r c0 s0 mc ms post := by
  intro p e R s m args below meth c Q C X H locs ls hW hS hl hc hs
  exact lv_lload C.1 C.2.1 hd (hl.at 13 rfl) (k p e R s m args below meth c Q C X H locs ls hW hS hl hc hs)
theorem J_istore_13 {a0 a1 a2 a3 a4 a5 a6 a7 a8 a9 a10 a11 a12 : Option Value} {l : List (Option Value)} {b : Option Value} {x : Int32} (hd : decode md.2.2.1 pc = .ok (.istore 13, 2)) (hc1 : jn2 a12 = true) (k : J G d md (pc + 2) (a0 :: a1 :: a2 :: a3 :: a4 :: a5 :: a6 :: a7 :: a8 :: a9 :: a10 :: a11 :: a12 :: some (.int x) :: l) st n sh M r c0 s0 mc ms post) : J G d md pc (a0 :: a1 :: a2 :: a3 :: a4 :: a5 :: a6 :: a7 :: a8 :: a9 :: a10 :: a11 :: a12 :: b :: l) (.int x :: st) n sh M r c0 s0 mc ms post := by
  intro p e R s m args below meth c Q C X H locs ls hW hS hl hc hs
  exact lv_istore (i := 13) C.1 C.2.1 hd hl.1 (hl.lt (i := 13) (by simp)) rfl (fun ls2 hl2 => k p e R s m args below meth c Q C X H locs ls2 hW hS (hl.set (v := .int x) 13 rfl (fun a ha w hw => by (have : a = 12 := by omega); subst this; simp at hw; subst hw; exact hc1) (fun j hj => by match j with
    | 0 => rfl
    | 1 => rfl
    | 2 => rfl
    | 3 => rfl
    | 4 => rfl
    | 5 => rfl
    | 6 => rfl
    | 7 => rfl
    | 8 => rfl
    | 9 => rfl
    | 10 => rfl
    | 11 => rfl
    | 12 => rfl
    | 13 => exact absurd rfl hj
    | j + 14 => rfl) (fun w hw => by simp at hw; exact hw.symm) hl2) hc hs)
theorem J_astore_13 {a0 a1 a2 a3 a4 a5 a6 a7 a8 a9 a10 a11 a12 : Option Value} {l : List (Option Value)} {b : Option Value} {x : Nat} (hd : decode md.2.2.1 pc = .ok (.astore 13, 2)) (hc1 : jn2 a12 = true) (k : J G d md (pc + 2) (a0 :: a1 :: a2 :: a3 :: a4 :: a5 :: a6 :: a7 :: a8 :: a9 :: a10 :: a11 :: a12 :: some (.ref x) :: l) st n sh M r c0 s0 mc ms post) : J G d md pc (a0 :: a1 :: a2 :: a3 :: a4 :: a5 :: a6 :: a7 :: a8 :: a9 :: a10 :: a11 :: a12 :: b :: l) (.ref x :: st) n sh M r c0 s0 mc ms post := by
  intro p e R s m args below meth c Q C X H locs ls hW hS hl hc hs
  exact lv_astore (i := 13) C.1 C.2.1 hd hl.1 (hl.lt (i := 13) (by simp)) rfl (fun ls2 hl2 => k p e R s m args below meth c Q C X H locs ls2 hW hS (hl.set (v := .ref x) 13 rfl (fun a ha w hw => by (have : a = 12 := by omega); subst this; simp at hw; subst hw; exact hc1) (fun j hj => by match j with
    | 0 => rfl
    | 1 => rfl
    | 2 => rfl
    | 3 => rfl
    | 4 => rfl
    | 5 => rfl
    | 6 => rfl
    | 7 => rfl
    | 8 => rfl
    | 9 => rfl
    | 10 => rfl
    | 11 => rfl
    | 12 => rfl
    | 13 => exact absurd rfl hj
    | j + 14 => rfl) (fun w hw => by simp at hw; exact hw.symm) hl2) hc hs)
theorem J_iinc_13 {a0 a1 a2 a3 a4 a5 a6 a7 a8 a9 a10 a11 a12 : Option Value} {l : List (Option Value)} {x : Int32} {q : Int} (v : Int32) (hd : decode md.2.2.1 pc = .ok (.iinc 13 q, 3)) (hv : Int32.ofInt q = v) (hc1 : jn2 a12 = true) (k : J G d md (pc + 3) (a0 :: a1 :: a2 :: a3 :: a4 :: a5 :: a6 :: a7 :: a8 :: a9 :: a10 :: a11 :: a12 :: some (.int (x + v)) :: l) st n sh M r c0 s0 mc ms post) : J G d md pc (a0 :: a1 :: a2 :: a3 :: a4 :: a5 :: a6 :: a7 :: a8 :: a9 :: a10 :: a11 :: a12 :: some (.int x) :: l) st n sh M r c0 s0 mc ms post := by
  intro p e R s m args below meth c Q C X H locs ls hW hS hl hc hs
  obtain ⟨t, ht⟩ := List.getElem?_of_mem (jtoL_get (jad G) (a0 :: a1 :: a2 :: a3 :: a4 :: a5 :: a6 :: a7 :: a8 :: a9 :: a10 :: a11 :: a12 :: some (.int x) :: l) 0 13 (.int x) rfl)
  exact lv_iinc C.1 C.2.1 hd hl.1 (k := t) (x := x) (v := x + v) (by rw [ht, Nat.zero_add]; rfl) (by rw [hv]) (hl.lt (i := 13) (by simp)) rfl (fun ls2 hl2 => k p e R s m args below meth c Q C X H locs ls2 hW hS (hl.set (v := .int (x + v)) 13 rfl (fun a ha w hw => by (have : a = 12 := by omega); subst this; simp at hw; subst hw; exact hc1) (fun j hj => by match j with
    | 0 => rfl
    | 1 => rfl
    | 2 => rfl
    | 3 => rfl
    | 4 => rfl
    | 5 => rfl
    | 6 => rfl
    | 7 => rfl
    | 8 => rfl
    | 9 => rfl
    | 10 => rfl
    | 11 => rfl
    | 12 => rfl
    | 13 => exact absurd rfl hj
    | j + 14 => rfl) (fun w hw => by simp at hw; exact hw.symm) hl2) hc hs)
theorem J_iload_14 {a0 a1 a2 a3 a4 a5 a6 a7 a8 a9 a10 a11 a12 a13 : Option Value} {l : List (Option Value)} {x : Int32} (hd : decode md.2.2.1 pc = .ok (.iload 14, 2)) (k : J G d md (pc + 2) (a0 :: a1 :: a2 :: a3 :: a4 :: a5 :: a6 :: a7 :: a8 :: a9 :: a10 :: a11 :: a12 :: a13 :: some (.int x) :: l) (.int x :: st) n sh M r c0 s0 mc ms post) : J G d md pc (a0 :: a1 :: a2 :: a3 :: a4 :: a5 :: a6 :: a7 :: a8 :: a9 :: a10 :: a11 :: a12 :: a13 :: some (.int x) :: l) st n sh M r c0 s0 mc ms post := by
  intro p e R s m args below meth c Q C X H locs ls hW hS hl hc hs
  exact lv_iload C.1 C.2.1 hd (hl.at 14 rfl) (k p e R s m args below meth c Q C X H locs ls hW hS hl hc hs)
theorem J_aload_14 {a0 a1 a2 a3 a4 a5 a6 a7 a8 a9 a10 a11 a12 a13 : Option Value} {l : List (Option Value)} {x : Nat} (hd : decode md.2.2.1 pc = .ok (.aload 14, 2)) (k : J G d md (pc + 2) (a0 :: a1 :: a2 :: a3 :: a4 :: a5 :: a6 :: a7 :: a8 :: a9 :: a10 :: a11 :: a12 :: a13 :: some (.ref x) :: l) (.ref x :: st) n sh M r c0 s0 mc ms post) : J G d md pc (a0 :: a1 :: a2 :: a3 :: a4 :: a5 :: a6 :: a7 :: a8 :: a9 :: a10 :: a11 :: a12 :: a13 :: some (.ref x) :: l) st n sh M r c0 s0 mc ms post := by
  intro p e R s m args below meth c Q C X H locs ls hW hS hl hc hs
  exact lv_aload C.1 C.2.1 hd (hl.at 14 rfl) (k p e R s m args below meth c Q C X H locs ls hW hS hl hc hs)
theorem J_lload_14 {a0 a1 a2 a3 a4 a5 a6 a7 a8 a9 a10 a11 a12 a13 : Option Value} {l : List (Option Value)} {x : Int64} (hd : decode md.2.2.1 pc = .ok (.lload 14, 2)) (k : J G d md (pc + 2) (a0 :: a1 :: a2 :: a3 :: a4 :: a5 :: a6 :: a7 :: a8 :: a9 :: a10 :: a11 :: a12 :: a13 :: some (.long x) :: l) (.long x :: st) n sh M r c0 s0 mc ms post) : J G d md pc (a0 :: a1 :: a2 :: a3 :: a4 :: a5 :: a6 :: a7 :: a8 :: a9 :: a10 :: a11 :: a12 :: a13 :: some (.long x) :: l) st n sh M r c0 s0 mc ms post := by
  intro p e R s m args below meth c Q C X H locs ls hW hS hl hc hs
  exact lv_lload C.1 C.2.1 hd (hl.at 14 rfl) (k p e R s m args below meth c Q C X H locs ls hW hS hl hc hs)
theorem J_istore_14 {a0 a1 a2 a3 a4 a5 a6 a7 a8 a9 a10 a11 a12 a13 : Option Value} {l : List (Option Value)} {b : Option Value} {x : Int32} (hd : decode md.2.2.1 pc = .ok (.istore 14, 2)) (hc1 : jn2 a13 = true) (k : J G d md (pc + 2) (a0 :: a1 :: a2 :: a3 :: a4 :: a5 :: a6 :: a7 :: a8 :: a9 :: a10 :: a11 :: a12 :: a13 :: some (.int x) :: l) st n sh M r c0 s0 mc ms post) : J G d md pc (a0 :: a1 :: a2 :: a3 :: a4 :: a5 :: a6 :: a7 :: a8 :: a9 :: a10 :: a11 :: a12 :: a13 :: b :: l) (.int x :: st) n sh M r c0 s0 mc ms post := by
  intro p e R s m args below meth c Q C X H locs ls hW hS hl hc hs
  exact lv_istore (i := 14) C.1 C.2.1 hd hl.1 (hl.lt (i := 14) (by simp)) rfl (fun ls2 hl2 => k p e R s m args below meth c Q C X H locs ls2 hW hS (hl.set (v := .int x) 14 rfl (fun a ha w hw => by (have : a = 13 := by omega); subst this; simp at hw; subst hw; exact hc1) (fun j hj => by match j with
    | 0 => rfl
    | 1 => rfl
    | 2 => rfl
    | 3 => rfl
    | 4 => rfl
    | 5 => rfl
    | 6 => rfl
    | 7 => rfl
    | 8 => rfl
    | 9 => rfl
    | 10 => rfl
    | 11 => rfl
    | 12 => rfl
    | 13 => rfl
    | 14 => exact absurd rfl hj
    | j + 15 => rfl) (fun w hw => by simp at hw; exact hw.symm) hl2) hc hs)
theorem J_astore_14 {a0 a1 a2 a3 a4 a5 a6 a7 a8 a9 a10 a11 a12 a13 : Option Value} {l : List (Option Value)} {b : Option Value} {x : Nat} (hd : decode md.2.2.1 pc = .ok (.astore 14, 2)) (hc1 : jn2 a13 = true) (k : J G d md (pc + 2) (a0 :: a1 :: a2 :: a3 :: a4 :: a5 :: a6 :: a7 :: a8 :: a9 :: a10 :: a11 :: a12 :: a13 :: some (.ref x) :: l) st n sh M r c0 s0 mc ms post) : J G d md pc (a0 :: a1 :: a2 :: a3 :: a4 :: a5 :: a6 :: a7 :: a8 :: a9 :: a10 :: a11 :: a12 :: a13 :: b :: l) (.ref x :: st) n sh M r c0 s0 mc ms post := by
  intro p e R s m args below meth c Q C X H locs ls hW hS hl hc hs
  exact lv_astore (i := 14) C.1 C.2.1 hd hl.1 (hl.lt (i := 14) (by simp)) rfl (fun ls2 hl2 => k p e R s m args below meth c Q C X H locs ls2 hW hS (hl.set (v := .ref x) 14 rfl (fun a ha w hw => by (have : a = 13 := by omega); subst this; simp at hw; subst hw; exact hc1) (fun j hj => by match j with
    | 0 => rfl
    | 1 => rfl
    | 2 => rfl
    | 3 => rfl
    | 4 => rfl
    | 5 => rfl
    | 6 => rfl
    | 7 => rfl
    | 8 => rfl
    | 9 => rfl
    | 10 => rfl
    | 11 => rfl
    | 12 => rfl
    | 13 => rfl
    | 14 => exact absurd rfl hj
    | j + 15 => rfl) (fun w hw => by simp at hw; exact hw.symm) hl2) hc hs)
theorem J_iinc_14 {a0 a1 a2 a3 a4 a5 a6 a7 a8 a9 a10 a11 a12 a13 : Option Value} {l : List (Option Value)} {x : Int32} {q : Int} (v : Int32) (hd : decode md.2.2.1 pc = .ok (.iinc 14 q, 3)) (hv : Int32.ofInt q = v) (hc1 : jn2 a13 = true) (k : J G d md (pc + 3) (a0 :: a1 :: a2 :: a3 :: a4 :: a5 :: a6 :: a7 :: a8 :: a9 :: a10 :: a11 :: a12 :: a13 :: some (.int (x + v)) :: l) st n sh M r c0 s0 mc ms post) : J G d md pc (a0 :: a1 :: a2 :: a3 :: a4 :: a5 :: a6 :: a7 :: a8 :: a9 :: a10 :: a11 :: a12 :: a13 :: some (.int x) :: l) st n sh M r c0 s0 mc ms post := by
  intro p e R s m args below meth c Q C X H locs ls hW hS hl hc hs
  obtain ⟨t, ht⟩ := List.getElem?_of_mem (jtoL_get (jad G) (a0 :: a1 :: a2 :: a3 :: a4 :: a5 :: a6 :: a7 :: a8 :: a9 :: a10 :: a11 :: a12 :: a13 :: some (.int x) :: l) 0 14 (.int x) rfl)
  exact lv_iinc C.1 C.2.1 hd hl.1 (k := t) (x := x) (v := x + v) (by rw [ht, Nat.zero_add]; rfl) (by rw [hv]) (hl.lt (i := 14) (by simp)) rfl (fun ls2 hl2 => k p e R s m args below meth c Q C X H locs ls2 hW hS (hl.set (v := .int (x + v)) 14 rfl (fun a ha w hw => by (have : a = 13 := by omega); subst this; simp at hw; subst hw; exact hc1) (fun j hj => by match j with
    | 0 => rfl
    | 1 => rfl
    | 2 => rfl
    | 3 => rfl
    | 4 => rfl
    | 5 => rfl
    | 6 => rfl
    | 7 => rfl
    | 8 => rfl
    | 9 => rfl
    | 10 => rfl
    | 11 => rfl
    | 12 => rfl
    | 13 => rfl
    | 14 => exact absurd rfl hj
    | j + 15 => rfl) (fun w hw => by simp at hw; exact hw.symm) hl2) hc hs)
theorem J_iload_15 {a0 a1 a2 a3 a4 a5 a6 a7 a8 a9 a10 a11 a12 a13 a14 : Option Value} {l : List (Option Value)} {x : Int32} (hd : decode md.2.2.1 pc = .ok (.iload 15, 2)) (k : J G d md (pc + 2) (a0 :: a1 :: a2 :: a3 :: a4 :: a5 :: a6 :: a7 :: a8 :: a9 :: a10 :: a11 :: a12 :: a13 :: a14 :: some (.int x) :: l) (.int x :: st) n sh M r c0 s0 mc ms post) : J G d md pc (a0 :: a1 :: a2 :: a3 :: a4 :: a5 :: a6 :: a7 :: a8 :: a9 :: a10 :: a11 :: a12 :: a13 :: a14 :: some (.int x) :: l) st n sh M r c0 s0 mc ms post := by
  intro p e R s m args below meth c Q C X H locs ls hW hS hl hc hs
  exact lv_iload C.1 C.2.1 hd (hl.at 15 rfl) (k p e R s m args below meth c Q C X H locs ls hW hS hl hc hs)
theorem J_aload_15 {a0 a1 a2 a3 a4 a5 a6 a7 a8 a9 a10 a11 a12 a13 a14 : Option Value} {l : List (Option Value)} {x : Nat} (hd : decode md.2.2.1 pc = .ok (.aload 15, 2)) (k : J G d md (pc + 2) (a0 :: a1 :: a2 :: a3 :: a4 :: a5 :: a6 :: a7 :: a8 :: a9 :: a10 :: a11 :: a12 :: a13 :: a14 :: some (.ref x) :: l) (.ref x :: st) n sh M r c0 s0 mc ms post) : J G d md pc (a0 :: a1 :: a2 :: a3 :: a4 :: a5 :: a6 :: a7 :: a8 :: a9 :: a10 :: a11 :: a12 :: a13 :: a14 :: some (.ref x) :: l) st n sh M r c0 s0 mc ms post := by
  intro p e R s m args below meth c Q C X H locs ls hW hS hl hc hs
  exact lv_aload C.1 C.2.1 hd (hl.at 15 rfl) (k p e R s m args below meth c Q C X H locs ls hW hS hl hc hs)
theorem J_lload_15 {a0 a1 a2 a3 a4 a5 a6 a7 a8 a9 a10 a11 a12 a13 a14 : Option Value} {l : List (Option Value)} {x : Int64} (hd : decode md.2.2.1 pc = .ok (.lload 15, 2)) (k : J G d md (pc + 2) (a0 :: a1 :: a2 :: a3 :: a4 :: a5 :: a6 :: a7 :: a8 :: a9 :: a10 :: a11 :: a12 :: a13 :: a14 :: some (.long x) :: l) (.long x :: st) n sh M r c0 s0 mc ms post) : J G d md pc (a0 :: a1 :: a2 :: a3 :: a4 :: a5 :: a6 :: a7 :: a8 :: a9 :: a10 :: a11 :: a12 :: a13 :: a14 :: some (.long x) :: l) st n sh M r c0 s0 mc ms post := by
  intro p e R s m args below meth c Q C X H locs ls hW hS hl hc hs
  exact lv_lload C.1 C.2.1 hd (hl.at 15 rfl) (k p e R s m args below meth c Q C X H locs ls hW hS hl hc hs)
theorem J_istore_15 {a0 a1 a2 a3 a4 a5 a6 a7 a8 a9 a10 a11 a12 a13 a14 : Option Value} {l : List (Option Value)} {b : Option Value} {x : Int32} (hd : decode md.2.2.1 pc = .ok (.istore 15, 2)) (hc1 : jn2 a14 = true) (k : J G d md (pc + 2) (a0 :: a1 :: a2 :: a3 :: a4 :: a5 :: a6 :: a7 :: a8 :: a9 :: a10 :: a11 :: a12 :: a13 :: a14 :: some (.int x) :: l) st n sh M r c0 s0 mc ms post) : J G d md pc (a0 :: a1 :: a2 :: a3 :: a4 :: a5 :: a6 :: a7 :: a8 :: a9 :: a10 :: a11 :: a12 :: a13 :: a14 :: b :: l) (.int x :: st) n sh M r c0 s0 mc ms post := by
  intro p e R s m args below meth c Q C X H locs ls hW hS hl hc hs
  exact lv_istore (i := 15) C.1 C.2.1 hd hl.1 (hl.lt (i := 15) (by simp)) rfl (fun ls2 hl2 => k p e R s m args below meth c Q C X H locs ls2 hW hS (hl.set (v := .int x) 15 rfl (fun a ha w hw => by (have : a = 14 := by omega); subst this; simp at hw; subst hw; exact hc1) (fun j hj => by match j with
    | 0 => rfl
    | 1 => rfl
    | 2 => rfl
    | 3 => rfl
    | 4 => rfl
    | 5 => rfl
    | 6 => rfl
    | 7 => rfl
    | 8 => rfl
    | 9 => rfl
    | 10 => rfl
    | 11 => rfl
    | 12 => rfl
    | 13 => rfl
    | 14 => rfl
    | 15 => exact absurd rfl hj
    | j + 16 => rfl) (fun w hw => by simp at hw; exact hw.symm) hl2) hc hs)
theorem J_astore_15 {a0 a1 a2 a3 a4 a5 a6 a7 a8 a9 a10 a11 a12 a13 a14 : Option Value} {l : List (Option Value)} {b : Option Value} {x : Nat} (hd : decode md.2.2.1 pc = .ok (.astore 15, 2)) (hc1 : jn2 a14 = true) (k : J G d md (pc + 2) (a0 :: a1 :: a2 :: a3 :: a4 :: a5 :: a6 :: a7 :: a8 :: a9 :: a10 :: a11 :: a12 :: a13 :: a14 :: some (.ref x) :: l) st n sh M r c0 s0 mc ms post) : J G d md pc (a0 :: a1 :: a2 :: a3 :: a4 :: a5 :: a6 :: a7 :: a8 :: a9 :: a10 :: a11 :: a12 :: a13 :: a14 :: b :: l) (.ref x :: st) n sh M r c0 s0 mc ms post := by
  intro p e R s m args below meth c Q C X H locs ls hW hS hl hc hs
  exact lv_astore (i := 15) C.1 C.2.1 hd hl.1 (hl.lt (i := 15) (by simp)) rfl (fun ls2 hl2 => k p e R s m args below meth c Q C X H locs ls2 hW hS (hl.set (v := .ref x) 15 rfl (fun a ha w hw => by (have : a = 14 := by omega); subst this; simp at hw; subst hw; exact hc1) (fun j hj => by match j with
    | 0 => rfl
    | 1 => rfl
    | 2 => rfl
    | 3 => rfl
    | 4 => rfl
    | 5 => rfl
    | 6 => rfl
    | 7 => rfl
    | 8 => rfl
    | 9 => rfl
    | 10 => rfl
    | 11 => rfl
    | 12 => rfl
    | 13 => rfl
    | 14 => rfl
    | 15 => exact absurd rfl hj
    | j + 16 => rfl) (fun w hw => by simp at hw; exact hw.symm) hl2) hc hs)
theorem J_iinc_15 {a0 a1 a2 a3 a4 a5 a6 a7 a8 a9 a10 a11 a12 a13 a14 : Option Value} {l : List (Option Value)} {x : Int32} {q : Int} (v : Int32) (hd : decode md.2.2.1 pc = .ok (.iinc 15 q, 3)) (hv : Int32.ofInt q = v) (hc1 : jn2 a14 = true) (k : J G d md (pc + 3) (a0 :: a1 :: a2 :: a3 :: a4 :: a5 :: a6 :: a7 :: a8 :: a9 :: a10 :: a11 :: a12 :: a13 :: a14 :: some (.int (x + v)) :: l) st n sh M r c0 s0 mc ms post) : J G d md pc (a0 :: a1 :: a2 :: a3 :: a4 :: a5 :: a6 :: a7 :: a8 :: a9 :: a10 :: a11 :: a12 :: a13 :: a14 :: some (.int x) :: l) st n sh M r c0 s0 mc ms post := by
  intro p e R s m args below meth c Q C X H locs ls hW hS hl hc hs
  obtain ⟨t, ht⟩ := List.getElem?_of_mem (jtoL_get (jad G) (a0 :: a1 :: a2 :: a3 :: a4 :: a5 :: a6 :: a7 :: a8 :: a9 :: a10 :: a11 :: a12 :: a13 :: a14 :: some (.int x) :: l) 0 15 (.int x) rfl)
  exact lv_iinc C.1 C.2.1 hd hl.1 (k := t) (x := x) (v := x + v) (by rw [ht, Nat.zero_add]; rfl) (by rw [hv]) (hl.lt (i := 15) (by simp)) rfl (fun ls2 hl2 => k p e R s m args below meth c Q C X H locs ls2 hW hS (hl.set (v := .int (x + v)) 15 rfl (fun a ha w hw => by (have : a = 14 := by omega); subst this; simp at hw; subst hw; exact hc1) (fun j hj => by match j with
    | 0 => rfl
    | 1 => rfl
    | 2 => rfl
    | 3 => rfl
    | 4 => rfl
    | 5 => rfl
    | 6 => rfl
    | 7 => rfl
    | 8 => rfl
    | 9 => rfl
    | 10 => rfl
    | 11 => rfl
    | 12 => rfl
    | 13 => rfl
    | 14 => rfl
    | 15 => exact absurd rfl hj
    | j + 16 => rfl) (fun w hw => by simp at hw; exact hw.symm) hl2) hc hs)
theorem J_if_eq {x : Int32} {off : Int} {t : Nat} (hd : decode md.2.2.1 pc = .ok (.ifCond .eq off, 3)) (ht : (pc : Int) + off = (t : Int)) (kt : x = 0 → J G d md t lv st n sh M r c0 s0 mc ms post) (kf : ¬ x = 0 → J G d md (pc + 3) lv st n sh M r c0 s0 mc ms post) : J G d md pc lv (.int x :: st) n sh M r c0 s0 mc ms post := by
  intro p e R s m args below meth c Q C X H locs ls hW hS hl hc hs
  exact lv_if_eq C.1 C.2.1 hd ht (fun q => kt q p e R s m args below meth c Q C X H locs ls hW hS hl hc hs) (fun q => kf q p e R s m args below meth c Q C X H locs ls hW hS hl hc hs)
theorem J_if_ne {x : Int32} {off : Int} {t : Nat} (hd : decode md.2.2.1 pc = .ok (.ifCond .ne off, 3)) (ht : (pc : Int) + off = (t : Int)) (kt : ¬ x = 0 → J G d md t lv st n sh M r c0 s0 mc ms post) (kf : x = 0 → J G d md (pc + 3) lv st n sh M r c0 s0 mc ms post) : J G d md pc lv (.int x :: st) n sh M r c0 s0 mc ms post := by
  intro p e R s m args below meth c Q C X H locs ls hW hS hl hc hs
  exact lv_if_ne C.1 C.2.1 hd ht (fun q => kt q p e R s m args below meth c Q C X H locs ls hW hS hl hc hs) (fun q => kf q p e R s m args below meth c Q C X H locs ls hW hS hl hc hs)
theorem J_if_lt {x : Int32} {off : Int} {t : Nat} (hd : decode md.2.2.1 pc = .ok (.ifCond .lt off, 3)) (ht : (pc : Int) + off = (t : Int)) (kt : x < 0 → J G d md t lv st n sh M r c0 s0 mc ms post) (kf : ¬ x < 0 → J G d md (pc + 3) lv st n sh M r c0 s0 mc ms post) : J G d md pc lv (.int x :: st) n sh M r c0 s0 mc ms post := by
  intro p e R s m args below meth c Q C X H locs ls hW hS hl hc hs
  exact lv_if_lt C.1 C.2.1 hd ht (fun q => kt q p e R s m args below meth c Q C X H locs ls hW hS hl hc hs) (fun q => kf q p e R s m args below meth c Q C X H locs ls hW hS hl hc hs)
theorem J_if_ge {x : Int32} {off : Int} {t : Nat} (hd : decode md.2.2.1 pc = .ok (.ifCond .ge off, 3)) (ht : (pc : Int) + off = (t : Int)) (kt : 0 ≤ x → J G d md t lv st n sh M r c0 s0 mc ms post) (kf : ¬ 0 ≤ x → J G d md (pc + 3) lv st n sh M r c0 s0 mc ms post) : J G d md pc lv (.int x :: st) n sh M r c0 s0 mc ms post := by
  intro p e R s m args below meth c Q C X H locs ls hW hS hl hc hs
  exact lv_if_ge C.1 C.2.1 hd ht (fun q => kt q p e R s m args below meth c Q C X H locs ls hW hS hl hc hs) (fun q => kf q p e R s m args below meth c Q C X H locs ls hW hS hl hc hs)
theorem J_if_gt {x : Int32} {off : Int} {t : Nat} (hd : decode md.2.2.1 pc = .ok (.ifCond .gt off, 3)) (ht : (pc : Int) + off = (t : Int)) (kt : 0 < x → J G d md t lv st n sh M r c0 s0 mc ms post) (kf : ¬ 0 < x → J G d md (pc + 3) lv st n sh M r c0 s0 mc ms post) : J G d md pc lv (.int x :: st) n sh M r c0 s0 mc ms post := by
  intro p e R s m args below meth c Q C X H locs ls hW hS hl hc hs
  exact lv_if_gt C.1 C.2.1 hd ht (fun q => kt q p e R s m args below meth c Q C X H locs ls hW hS hl hc hs) (fun q => kf q p e R s m args below meth c Q C X H locs ls hW hS hl hc hs)
theorem J_if_le {x : Int32} {off : Int} {t : Nat} (hd : decode md.2.2.1 pc = .ok (.ifCond .le off, 3)) (ht : (pc : Int) + off = (t : Int)) (kt : x ≤ 0 → J G d md t lv st n sh M r c0 s0 mc ms post) (kf : ¬ x ≤ 0 → J G d md (pc + 3) lv st n sh M r c0 s0 mc ms post) : J G d md pc lv (.int x :: st) n sh M r c0 s0 mc ms post := by
  intro p e R s m args below meth c Q C X H locs ls hW hS hl hc hs
  exact lv_if_le C.1 C.2.1 hd ht (fun q => kt q p e R s m args below meth c Q C X H locs ls hW hS hl hc hs) (fun q => kf q p e R s m args below meth c Q C X H locs ls hW hS hl hc hs)
theorem J_icmp_eq {x y : Int32} {off : Int} {t : Nat} (hd : decode md.2.2.1 pc = .ok (.if_icmp .eq off, 3)) (ht : (pc : Int) + off = (t : Int)) (kt : x = y → J G d md t lv st n sh M r c0 s0 mc ms post) (kf : ¬ x = y → J G d md (pc + 3) lv st n sh M r c0 s0 mc ms post) : J G d md pc lv (.int y :: .int x :: st) n sh M r c0 s0 mc ms post := by
  intro p e R s m args below meth c Q C X H locs ls hW hS hl hc hs
  exact lv_icmp_eq C.1 C.2.1 hd ht (fun q => kt q p e R s m args below meth c Q C X H locs ls hW hS hl hc hs) (fun q => kf q p e R s m args below meth c Q C X H locs ls hW hS hl hc hs)
theorem J_icmp_ne {x y : Int32} {off : Int} {t : Nat} (hd : decode md.2.2.1 pc = .ok (.if_icmp .ne off, 3)) (ht : (pc : Int) + off = (t : Int)) (kt : ¬ x = y → J G d md t lv st n sh M r c0 s0 mc ms post) (kf : x = y → J G d md (pc + 3) lv st n sh M r c0 s0 mc ms post) : J G d md pc lv (.int y :: .int x :: st) n sh M r c0 s0 mc ms post := by
  intro p e R s m args below meth c Q C X H locs ls hW hS hl hc hs
  exact lv_icmp_ne C.1 C.2.1 hd ht (fun q => kt q p e R s m args below meth c Q C X H locs ls hW hS hl hc hs) (fun q => kf q p e R s m args below meth c Q C X H locs ls hW hS hl hc hs)
theorem J_icmp_lt {x y : Int32} {off : Int} {t : Nat} (hd : decode md.2.2.1 pc = .ok (.if_icmp .lt off, 3)) (ht : (pc : Int) + off = (t : Int)) (kt : x < y → J G d md t lv st n sh M r c0 s0 mc ms post) (kf : ¬ x < y → J G d md (pc + 3) lv st n sh M r c0 s0 mc ms post) : J G d md pc lv (.int y :: .int x :: st) n sh M r c0 s0 mc ms post := by
  intro p e R s m args below meth c Q C X H locs ls hW hS hl hc hs
  exact lv_icmp_lt C.1 C.2.1 hd ht (fun q => kt q p e R s m args below meth c Q C X H locs ls hW hS hl hc hs) (fun q => kf q p e R s m args below meth c Q C X H locs ls hW hS hl hc hs)
theorem J_icmp_ge {x y : Int32} {off : Int} {t : Nat} (hd : decode md.2.2.1 pc = .ok (.if_icmp .ge off, 3)) (ht : (pc : Int) + off = (t : Int)) (kt : y ≤ x → J G d md t lv st n sh M r c0 s0 mc ms post) (kf : ¬ y ≤ x → J G d md (pc + 3) lv st n sh M r c0 s0 mc ms post) : J G d md pc lv (.int y :: .int x :: st) n sh M r c0 s0 mc ms post := by
  intro p e R s m args below meth c Q C X H locs ls hW hS hl hc hs
  exact lv_icmp_ge C.1 C.2.1 hd ht (fun q => kt q p e R s m args below meth c Q C X H locs ls hW hS hl hc hs) (fun q => kf q p e R s m args below meth c Q C X H locs ls hW hS hl hc hs)
theorem J_icmp_gt {x y : Int32} {off : Int} {t : Nat} (hd : decode md.2.2.1 pc = .ok (.if_icmp .gt off, 3)) (ht : (pc : Int) + off = (t : Int)) (kt : y < x → J G d md t lv st n sh M r c0 s0 mc ms post) (kf : ¬ y < x → J G d md (pc + 3) lv st n sh M r c0 s0 mc ms post) : J G d md pc lv (.int y :: .int x :: st) n sh M r c0 s0 mc ms post := by
  intro p e R s m args below meth c Q C X H locs ls hW hS hl hc hs
  exact lv_icmp_gt C.1 C.2.1 hd ht (fun q => kt q p e R s m args below meth c Q C X H locs ls hW hS hl hc hs) (fun q => kf q p e R s m args below meth c Q C X H locs ls hW hS hl hc hs)
theorem J_icmp_le {x y : Int32} {off : Int} {t : Nat} (hd : decode md.2.2.1 pc = .ok (.if_icmp .le off, 3)) (ht : (pc : Int) + off = (t : Int)) (kt : x ≤ y → J G d md t lv st n sh M r c0 s0 mc ms post) (kf : ¬ x ≤ y → J G d md (pc + 3) lv st n sh M r c0 s0 mc ms post) : J G d md pc lv (.int y :: .int x :: st) n sh M r c0 s0 mc ms post := by
  intro p e R s m args below meth c Q C X H locs ls hW hS hl hc hs
  exact lv_icmp_le C.1 C.2.1 hd ht (fun q => kt q p e R s m args below meth c Q C X H locs ls hW hS hl hc hs) (fun q => kf q p e R s m args below meth c Q C X H locs ls hW hS hl hc hs)
theorem J_goto {off : Int} {t : Nat} (hd : decode md.2.2.1 pc = .ok (.goto off, 3)) (ht : (pc : Int) + off = (t : Int)) (k : J G d md t lv st n sh M r c0 s0 mc ms post) : J G d md pc lv st n sh M r c0 s0 mc ms post := by
  intro p e R s m args below meth c Q C X H locs ls hW hS hl hc hs
  exact lv_goto C.1 C.2.1 hd ht (k p e R s m args below meth c Q C X H locs ls hW hS hl hc hs)
theorem J_tsw {dflt lo hi : Int} {offs : Array Int} {len : Nat} {x : Int32} (hd : decode md.2.2.1 pc = .ok (.tableswitch dflt lo hi offs, len)) {td : Nat} (ht : (pc : Int) + dflt = (td : Int)) (hsz : (offs.size : Int) = hi - lo + 1)
    (kd : (x.toInt < lo ∨ hi < x.toInt) → J G d md td lv st n sh M r c0 s0 mc ms post) (k : ∀ i : Nat, x.toInt = lo + i → ∀ off t, offs[i]? = some off → (pc : Int) + off = ((t : Nat) : Int) → J G d md t lv st n sh M r c0 s0 mc ms post) (hpos : ∀ (i : Nat) off, offs[i]? = some off → 0 ≤ (pc : Int) + off) : J G d md pc lv (.int x :: st) n sh M r c0 s0 mc ms post := by
  intro p e R s m args below meth c Q C X H locs ls hW hS hl hc hs
  by_cases h1 : x.toInt < lo
  · exact lv_tableOut C.1 C.2.1 hd (Or.inl h1) ht (kd (Or.inl h1) p e R s m args below meth c Q C X H locs ls hW hS hl hc hs)
  · by_cases h2 : hi < x.toInt
    · exact lv_tableOut C.1 C.2.1 hd (Or.inr h2) ht (kd (Or.inr h2) p e R s m args below meth c Q C X H locs ls hW hS hl hc hs)
    · have hlt : (x.toInt - lo).toNat < offs.size := by omega
      have ho : offs[(x.toInt - lo).toNat]? = some offs[(x.toInt - lo).toNat] := Array.getElem?_eq_getElem hlt
      have hp := hpos _ _ ho
      have htt : (pc : Int) + offs[(x.toInt - lo).toNat] = ((((pc : Int) + offs[(x.toInt - lo).toNat]).toNat : Nat) : Int) := by omega
      exact lv_tableIn C.1 C.2.1 hd h1 h2 ho htt (k (x.toInt - lo).toNat (by omega) _ _ ho htt p e R s m args below meth c Q C X H locs ls hW hS hl hc hs)
theorem J_lsw {dflt : Int} {ps : Array (Int × Int)} {len : Nat} {x : Int32} {off : Int} {t : Nat} (hd : decode md.2.2.1 pc = .ok (.lookupswitch dflt ps, len)) (hp : (ps.toList.zip (ps.toList.drop 1)).all (fun (a, next) => a.1 < next.1) = true) (ho : Op.lookupswitch.offset ps.toList dflt x.toInt = off) (ht : (pc : Int) + off = (t : Int)) (k : J G d md t lv st n sh M r c0 s0 mc ms post) : J G d md pc lv (.int x :: st) n sh M r c0 s0 mc ms post := by
  intro p e R s m args below meth c Q C X H locs ls hW hS hl hc hs
  exact lv_lookup C.1 C.2.1 hd hp ho ht (k p e R s m args below meth c Q C X H locs ls hW hS hl hc hs)
end JR
