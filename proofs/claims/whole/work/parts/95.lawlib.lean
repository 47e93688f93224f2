theorem jW_rcongr {G : jGT} {n : Nat} {sh : jS} {M : jM} {r r' : jR} {H : Heap} (h : ∀ k, k < n → r k = r' k) (hW : jW G n sh M r H) : jW G n sh M r' H := by
  refine ⟨hW.1, fun k hk => ?_, hW.2.2⟩
  have e : jent G sh M r' k = jent G sh M r k := by
    unfold jent jfv
    rw [h k hk]
  rw [e]
  exact hW.2.1 k hk
section LL
variable {G : jGT} {d : Nat} {md md' : jMD} {pc i k : Nat} {lv : List (Option Value)} {st As rest : List Value} {M : jM} {post : jP}
theorem J_rcongr {n : Nat} {sh : jS} {r r' : jR} {c0 s0 mc ms : Nat} (h : ∀ k, k < n → r k = r' k) (kk : J G d md pc lv st n sh M r' c0 s0 mc ms post) : J G d md pc lv st n sh M r c0 s0 mc ms post := by
  intro p e R s m args below meth c Q C X H locs ls hW hS hl hc hs
  exact kk p e R s m args below meth c Q C X H locs ls (jW_rcongr h hW) hS hl hc hs
theorem L_callVI {P : Int32 → jM → Prop} {b ci N c0 s0 mc ms : Nat} (hd : decode md.2.2.1 pc = .ok (.invokevirtual i, 3)) (hv : jVL md.1 i md' k) (hb : b < jN) (hs : jSH b = (ci, N)) (q : vw_C) (hq : vwCl[ci]? = some q) (hqc : md'.2.1.cls = q.1) (hC : CI G d md' (.ref b :: As) M P) (hk : As.length = k) (hst : st = As.reverse ++ .ref b :: rest) (hrest : (rest.map fun v => v.category).sum ≤ 8) (hc : c0 ≤ mc) (hs0 : s0 ≤ ms) (kk : ∀ (x : Int32) (M1 : jM), P x M1 → J G (d + 1) md (pc + 3) lv (.int x :: rest) jN jSH M1 jMR c0 s0 mc ms post) : J G (d + 1) md pc lv st jN jSH M jMR c0 s0 mc ms post :=
  J_callV hd hv hC hk hst (Nat.le_refl _) hb hs q hq hqc hrest hc hs0 fun v n' sh' M' r' hp => by
  obtain ⟨x, rfl, rfl, rfl, rfl, hp⟩ := hp
  exact kk x M' hp
theorem L_callVL {P : Int64 → jM → Prop} {b ci N c0 s0 mc ms : Nat} (hd : decode md.2.2.1 pc = .ok (.invokevirtual i, 3)) (hv : jVL md.1 i md' k) (hb : b < jN) (hs : jSH b = (ci, N)) (q : vw_C) (hq : vwCl[ci]? = some q) (hqc : md'.2.1.cls = q.1) (hC : CL G d md' (.ref b :: As) M P) (hk : As.length = k) (hst : st = As.reverse ++ .ref b :: rest) (hrest : (rest.map fun v => v.category).sum ≤ 8) (hc : c0 ≤ mc) (hs0 : s0 ≤ ms) (kk : ∀ (x : Int64) (M1 : jM), P x M1 → J G (d + 1) md (pc + 3) lv (.long x :: rest) jN jSH M1 jMR c0 s0 mc ms post) : J G (d + 1) md pc lv st jN jSH M jMR c0 s0 mc ms post :=
  J_callV hd hv hC hk hst (Nat.le_refl _) hb hs q hq hqc hrest hc hs0 fun v n' sh' M' r' hp => by
  obtain ⟨x, rfl, rfl, rfl, rfl, hp⟩ := hp
  exact kk x M' hp
end LL
def jPI : Int32 → Int32 → jM → Prop := fun a b M => a = b ∧ Rel M
def jPL2 : Int64 → Int64 → jM → Prop := fun a b M => a = b ∧ Rel M
/-- the law, whatever it is called -/
def mLaw (nm : String) : jMD := (RL, ⟨RL, nm, "([I)Z"⟩, cL_law, 4, some .boolean)
/-- the law's frame in its loop -/
def jLaw (G : jGT) (nm : String) (d pc : Nat) (z : Int32) (M : jM) (mc ms : Nat) (post : jP) : Prop := J G (d + 51) (mLaw nm) pc [some (.ref 2000), some (.ref 0), some (.ref 117), some (.int z)] [] jN jSH M jMR mc ms mc ms post
