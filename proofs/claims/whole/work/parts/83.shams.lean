/-- the first sham behind which it is won; two of them -/
def sh1 (V : jEv) (L : List (Nat × Nat)) (own : Nat) : Nat → Nat → Option Nat
  | 0, _ => none
  | r + 1, a => if vD V own (vE V a L) = true then some a else sh1 V L own r (a + 1)
def sh2 (V : jEv) (L : List (Nat × Nat)) (own : Nat) : Nat → Nat → Option (Nat × Nat)
  | 0, _ => none
  | r + 1, a => match sh1 V (vE V a L) own 64 0 with
    | some b => some (a, b)
    | none => sh2 V L own r (a + 1)
theorem sh1_lt {V : jEv} {L : List (Nat × Nat)} {own : Nat} : ∀ (r a b : Nat), a + r = 64 → sh1 V L own r a = some b → b < 64 := by
  intro r
  induction r with
  | zero => intro a b _ h; cases h
  | succ r ih =>
    intro a b ha h
    rw [sh1] at h
    split at h
    · cases h; omega
    · exact ih (a + 1) b (by omega) h
/-- how many, and which -/
def shR (V : jEv) (L : List (Nat × Nat)) (own : Nat) : Int32 × Nat × Nat := if vD V own L = true then (0, 0, 0) else match sh1 V L own 64 0 with
  | some a => (1, a, 0)
  | none => match sh2 V L own 64 0 with
    | some (a, b) => (2, a, b)
    | none => (-5, 0, 0)
def PS64 (M : jM) (V : jEv) (L0 : List (Nat × Nat)) (n : Nat) : Prop := ∀ a, a < n → TLy M (40 + a) a L0.length (tlN V a L0 L0.length)
def sInv (M : jM) (V : jEv) (L0 L : List (Nat × Nat)) (own : Nat) : Prop := SE M V ∧ SLi M L ∧ PS64 M V L0 64 ∧ TLy M 33 own L0.length (tlN V own L0 L0.length) ∧ Ext L0 L
theorem sInv.congr {M M' : jM} {V : jEv} {L0 L : List (Nat × Nat)} {own : Nat} (h : sInv M V L0 L own) (h1 : ∀ b, (27 ≤ b ∧ b < 34) ∨ (40 ≤ b ∧ b < 104) → M' b = M b) : sInv M' V L0 L own := by
  obtain ⟨a, b, c, e, f⟩ := h
  exact ⟨a.congr (fun k hk => by rw [h1 27 (by omega)]) (fun b h2 h3 => h1 b (by omega)), b.congr (by rw [h1 27 (by omega)]) (h1 31 (by omega)) (h1 32 (by omega)), fun i hi => (c i hi).congr (h1 _ (by omega)), e.congr (h1 33 (by omega)), f⟩
section SH
variable {G : jGT} {d : Nat} {V : jEv} {L0 L : List (Nat × Nat)} {own : Nat}
theorem c_wins64 {M : jM} {a : Nat} {post : Int32 → jM → Prop} (ha : a < 64) (hI : sInv M V L0 L own) (h : ∀ M', (∀ b, b ≠ 34 → M' b = M b) → post (jz (vD V a L)) M') : CI G (d + 3) mX5_winsNow [.ref 27, .ref (40 + a)] M post := by
  obtain ⟨i1, i2, i3, i4, i5⟩ := hI
  refine c_winsNow (seen := L0.length) (own := a) (by unfold jT; omega) (by omega) (by omega) i5.1 i1 i2 ?_ h
  rw [tlN_cong L0.length i5.2]
  exact i3 a ha
theorem c_wins33 {M : jM} {post : Int32 → jM → Prop} (ho : own < 256) (hI : sInv M V L0 L own) (h : ∀ M', (∀ b, b ≠ 34 → M' b = M b) → post (jz (vD V own L)) M') : CI G (d + 3) mX5_winsNow [.ref 27, .ref 33] M post := by
  obtain ⟨i1, i2, i3, i4, i5⟩ := hI
  refine c_winsNow (seen := L0.length) (own := own) (by unfold jT; omega) (by omega) ho i5.1 i1 i2 ?_ h
  rw [tlN_cong L0.length i5.2]
  exact i4
theorem c_sPush {M : jM} {a : Nat} {post : jM → Prop} (ha : a < 64) (hl : L.length < 80) (hI : sInv M V L0 L own) (h : ∀ M', sInv M' V L0 (vE V a L) own → (∀ b, b ≠ 27 → b ≠ 31 → b ≠ 32 → M' b = M b) → post M') : CV G d mX5_push [.ref 27, .int (nI a), .int (jz (vD V a L))] M post := by
  obtain ⟨i1, i2, i3, i4, i5⟩ := hI
  rw [← nI_toNat]
  refine c_push i2 (by omega) (by omega) (by cases vD V a L <;> decide) (fun M' g1 g2 g3 => h M' ⟨i1.congr (fun k hk => g3 k (by omega)) (fun b h1 h2 => g2 b (by omega) (by omega) (by omega)), g1, fun i hi => (i3 i hi).congr (g2 _ (by omega) (by omega) (by omega)), i4.congr (g2 33 (by omega) (by omega) (by omega)), i5.app⟩ g2)
theorem c_sPop {M : jM} {a : Nat} {post : jM → Prop} (hx : Ext L0 L) (hI : sInv M V L0 (vE V a L) own) (h : ∀ M', sInv M' V L0 L own → (∀ b, b ≠ 27 → M' b = M b) → post M') : CV G (d + 1) mX5_pop [.ref 27] M post := by
  obtain ⟨i1, i2, i3, i4, i5⟩ := hI
  exact c_pop i2 (fun M' g1 g2 g3 => h M' ⟨i1.congr (fun k hk => g3 k (by omega)) (fun b h1 h2 => g2 b (by omega)), g1, fun i hi => (i3 i hi).congr (g2 _ (by omega)), i4.congr (g2 33 (by omega)), hx⟩ g2)
theorem c_winsBehind {M : jM} {a : Nat} {post : Int32 → jM → Prop} (ha : a < 64) (ho : own < 256) (hl : L.length < 80) (hI : sInv M V L0 L own) (h : ∀ M', sInv M' V L0 L own → (∀ b, b < 27 ∨ 34 < b → M' b = M b) → post (jz (vD V own (vE V a L))) M') : CI G (d + 4) mX4_winsBehind [.ref 35, .int (nI a)] M post := by
  refine eX4_winsBehind (bX4_winsBehind_0 (ite_fi (nI_pos (by omega)) (ite_ti (by rw [show (64 : Int32) = nI 64 from rfl, nI_ltI (by omega) (by omega)]; omega) ⟨vp_in_nI (by omega) (by omega), ?_⟩)))
  rw [nI_clamp (by omega)]
  refine c_wins64 ha hI (fun M1 g1 => ?_)
  refine c_sPush ha hl (hI.congr fun b hb => g1 b (by omega)) (fun M2 I2 g2 => ?_)
  refine c_wins33 ho I2 (fun M3 g3 => ?_)
  refine c_sPop (d := d + 2) hI.2.2.2.2 (I2.congr fun b hb => g3 b (by omega)) (fun M4 I4 g4 => ⟨jz_01 _, h M4 I4 (fun b hb => ?_)⟩)
  rw [g4 b (by omega), g3 b (by omega), g2 b (by omega) (by omega) (by omega), g1 b (by omega)]
theorem c_sh119 {M0 : jM} {x1 : Int32} {a1 : Nat} {post : Int32 → jM → Prop} (ha1 : a1 < 64) (ho : own < 256) (hl : L.length < 79) (hx : Ext L0 L)
    (hy : ∀ b, sh1 V (vE V a1 L) own 64 0 = some b → ∀ M', (∀ b, b < 27 ∨ 39 < b ∧ b < 40 ∨ 104 ≤ b → M' b = M0 b) → M' 39 0 = nI a1 → M' 39 1 = nI b → post 2 M')
    (hn : sh1 V (vE V a1 L) own 64 0 = none → ∀ M', sInv M' V L0 L own → (∀ b, b < 27 ∨ 34 < b → M' b = M0 b) → kX4_shamsAhead_90 G (d + 4) x1 (nI (a1 + 1)) M' post) :
    ∀ (r b : Nat) (M : jM), b + r = 64 → sh1 V (vE V a1 L) own r b = sh1 V (vE V a1 L) own 64 0 → sInv M V L0 (vE V a1 L) own → (∀ b, b < 27 ∨ 34 < b → M b = M0 b) → kX4_shamsAhead_119 G (d + 4) x1 (nI a1) (nI b) M post := by
  intro r
  induction r with
  | zero =>
    intro b M hb he hI hf
    obtain rfl : b = 64 := by omega
    rw [sh1] at he
    refine bX4_shamsAhead_119 (ite_ti (by decide) (c_sPop (d := d + 3) hx hI (fun M1 I1 g1 => ?_)))
    rw [nI_1]
    exact hn he.symm M1 I1 (fun b hb => (g1 b (by omega)).trans (hf b hb))
  | succ r ih =>
    intro b M hb he hI hf
    have hl2 : (vE V a1 L).length < 80 := by unfold vE; rw [List.length_append, List.length_singleton]; omega
    rw [sh1] at he
    refine bX4_shamsAhead_119 (ite_fi (by rw [show (64 : Int32) = nI 64 from rfl, nI_leI (by omega) (by omega)]; omega) (c_winsBehind (by omega) ho hl2 hI (fun M1 I1 g1 => ?_)))
    have f1 : ∀ b, b < 27 ∨ 34 < b → M1 b = M0 b := fun b hb => (g1 b hb).trans (hf b hb)
    rw [nI_1]
    refine ite_i (fun q => ?_) (fun q => ?_) <;> rw [jz_ff] at q
    · rw [if_neg (by rw [q]; decide)] at he
      exact ih (b + 1) M1 (by omega) he I1 f1
    · rw [if_pos (by simpa using q)] at he
      exact hy b he.symm _ (fun i hi => by rw [jup_ne (by omega), jup_ne (by omega)]; exact f1 i (by omega)) (by (simp (disch := omega) only [jup_ss, jup_sn, jup_n, jup_ne])) (by (simp (disch := omega) only [jup_ss, jup_sn, jup_n, jup_ne]))
theorem c_sh90 {M0 : jM} {x1 : Int32} {post : Int32 → jM → Prop} (ho : own < 256) (hl : L.length < 79) (hx : Ext L0 L)
    (hy : ∀ a b, sh2 V L own 64 0 = some (a, b) → ∀ M', (∀ b, b < 27 ∨ 39 < b ∧ b < 40 ∨ 104 ≤ b → M' b = M0 b) → M' 39 0 = nI a → M' 39 1 = nI b → post 2 M')
    (hn : sh2 V L own 64 0 = none → ∀ M', (∀ b, b < 27 ∨ 39 < b ∧ b < 40 ∨ 104 ≤ b → M' b = M0 b) → post (-5) M') :
    ∀ (r a : Nat) (M : jM), a + r = 64 → sh2 V L own r a = sh2 V L own 64 0 → sInv M V L0 L own → (∀ b, b < 27 ∨ 34 < b → M b = M0 b) → kX4_shamsAhead_90 G (d + 4) x1 (nI a) M post := by
  intro r
  induction r with
  | zero =>
    intro a M ha he hI hf
    obtain rfl : a = 64 := by omega
    rw [sh2] at he
    exact bX4_shamsAhead_90 (ite_ti (by decide) (hn he.symm M (fun b hb => hf b (by omega))))
  | succ r ih =>
    intro a M ha he hI hf
    rw [sh2] at he
    refine bX4_shamsAhead_90 (ite_fi (by rw [show (64 : Int32) = nI 64 from rfl, nI_leI (by omega) (by omega)]; omega) ⟨vp_in_nI (by omega) (by omega), ?_⟩)
    rw [nI_clamp (by omega)]
    refine c_wins64 (d := d + 1) (by omega) hI (fun M1 g1 => ?_)
    refine c_sPush (by omega) (by omega) (hI.congr fun b hb => g1 b (by omega)) (fun M2 I2 g2 => ?_)
    refine c_sh119 (M0 := M0) (by omega) ho hl hx (fun b hb M3 h1 h2 h3 => ?_) (fun hb M3 I3 h1 => ?_) 64 0 M2 rfl rfl I2 (fun b hb => by rw [g2 b (by omega) (by omega) (by omega), g1 b (by omega)]; exact hf b hb)
    · rw [hb] at he
      exact hy a b he.symm M3 h1 h2 h3
    · rw [hb] at he
      exact ih (a + 1) M3 (by omega) he I3 h1
theorem c_sh59 {M0 : jM} {x1 : Int32} {post : Int32 → jM → Prop} (ho : own < 256) (hl : L.length < 79)
    (hy : ∀ a, sh1 V L own 64 0 = some a → ∀ M', (∀ b, b < 27 ∨ 39 < b ∧ b < 40 ∨ 104 ≤ b → M' b = M0 b) → M' 39 0 = nI a → post 1 M')
    (hn : sh1 V L own 64 0 = none → ∀ M', sInv M' V L0 L own → (∀ b, b < 27 ∨ 34 < b → M' b = M0 b) → kX4_shamsAhead_90 G (d + 4) x1 0 M' post) :
    ∀ (r a : Nat) (M : jM), a + r = 64 → sh1 V L own r a = sh1 V L own 64 0 → sInv M V L0 L own → (∀ b, b < 27 ∨ 34 < b → M b = M0 b) → kX4_shamsAhead_59 G (d + 4) x1 (nI a) M post := by
  intro r
  induction r with
  | zero =>
    intro a M ha he hI hf
    obtain rfl : a = 64 := by omega
    rw [sh1] at he
    exact bX4_shamsAhead_59 (ite_ti (by decide) (hn he.symm M hI hf))
  | succ r ih =>
    intro a M ha he hI hf
    rw [sh1] at he
    refine bX4_shamsAhead_59 (ite_fi (by rw [show (64 : Int32) = nI 64 from rfl, nI_leI (by omega) (by omega)]; omega) (c_winsBehind (by omega) ho (by omega) hI (fun M1 I1 g1 => ?_)))
    have f1 : ∀ b, b < 27 ∨ 34 < b → M1 b = M0 b := fun b hb => (g1 b hb).trans (hf b hb)
    rw [nI_1]
    refine ite_i (fun q => ?_) (fun q => ?_) <;> rw [jz_ff] at q
    · rw [if_neg (by rw [q]; decide)] at he
      exact ih (a + 1) M1 (by omega) he I1 f1
    · rw [if_pos (by simpa using q)] at he
      exact hy a he.symm _ (fun i hi => by rw [jup_ne (by omega)]; exact f1 i (by omega)) (by (simp (disch := omega) only [jup_ss, jup_sn, jup_n, jup_ne]))
theorem c_sh15 {M0 : jM} {x1 : Int32} {post : Int32 → jM → Prop} (h : ∀ M', sInv M' V L L own → (∀ b, b < 40 ∨ 104 ≤ b → M' b = M0 b) → kX4_shamsAhead_59 G (d + 4) x1 0 M' post) :
    ∀ (r a : Nat) (M : jM), a + r = 64 → SE M V → SLi M L → TLy M 33 own L.length (tlN V own L L.length) → PS64 M V L a → (∀ b, b < 40 ∨ 104 ≤ b → M b = M0 b) → kX4_shamsAhead_15 G (d + 4) x1 (nI a) M post := by
  intro r
  induction r with
  | zero =>
    intro a M ha hS hL hT hP hf
    obtain rfl : a = 64 := by omega
    exact bX4_shamsAhead_15 (ite_ti (by decide) (h M ⟨hS, hL, hP, hT, Ext.refl L⟩ hf))
  | succ r ih =>
    intro a M ha hS hL hT hP hf
    refine bX4_shamsAhead_15 (ite_fi (by rw [show (64 : Int32) = nI 64 from rfl, nI_leI (by omega) (by omega)]; omega) ⟨vp_in_nI (by omega) (by omega), ?_⟩)
    rw [nI_clamp (by omega)]
    have j40 : jT (40 + a) := by unfold jT; omega
    refine c_begin j40 (fun M1 b1 b2 => ⟨vp_in_nI (by omega) (by omega), ?_⟩)
    have hS1 : SE M1 V := hS.congr (fun i hi => by rw [b2 27 (by omega)]) (fun b h1 h2 => b2 b (by omega))
    have hL1 : SLi M1 L := hL.congr (by rw [b2 27 (by omega)]) (b2 31 (by omega)) (b2 32 (by omega))
    rw [hL1.1, nI_1]
    refine c_follow (d := d + 3) j40 (by omega) (Nat.zero_le _) (Nat.le_refl _) hS1 hL1 b1 (fun M2 f1 f2 => ?_)
    have same : ∀ b, b ≠ 40 + a → M2 b = M b := fun b hb => (f2 b hb).trans (b2 b hb)
    refine ih (a + 1) M2 (by omega) (hS.congr (fun i hi => by rw [same 27 (by omega)]) (fun b h1 h2 => same b (by omega))) (hL.congr (by rw [same 27 (by omega)]) (same 31 (by omega)) (same 32 (by omega))) (hT.congr (same 33 (by omega))) (fun i hi => ?_) (fun b hb => (same b (by omega)).trans (hf b hb))
    by_cases e : i = a
    · subst e; exact f1
    · exact (hP i (by omega)).congr (same _ (by omega))
theorem c_shamsAhead {M : jM} {post : Int32 → jM → Prop} (ho : own < 256) (hl : L.length < 79) (hS : SE M V) (hL : SLi M L)
    (h : ∀ M', (∀ b, b < 27 ∨ 104 ≤ b → M' b = M b) → (1 ≤ (shR V L own).1 → M' 39 0 = nI (shR V L own).2.1) → (2 ≤ (shR V L own).1 → M' 39 1 = nI (shR V L own).2.2) → post (shR V L own).1 M') : CI G (d + 5) mX4_shamsAhead [.ref 35, .int (nI own)] M post := by
  unfold shR at h
  refine eX4_shamsAhead (bX4_shamsAhead_0 (c_wins (d := d + 1) ho hS hL (fun M1 t1 t2 => ?_)))
  have hS1 : SE M1 V := hS.congr (fun i hi => by rw [t2 27 (by omega)]) (fun b h1 h2 => t2 b (by omega))
  have hL1 : SLi M1 L := hL.congr (by rw [t2 27 (by omega)]) (t2 31 (by omega)) (t2 32 (by omega))
  refine ite_i (fun q => ?_) (fun q => ?_) <;> rw [jz_ff] at q
  · rw [if_neg (by rw [q]; decide)] at h
    refine c_sh15 (M0 := M1) (own := own) (fun M2 I2 g2 => ?_) 64 0 M1 rfl hS1 hL1 t1 (fun i hi => by omega) (fun _ _ => rfl)
    have f2 : ∀ b, b < 27 ∨ 104 ≤ b → M2 b = M b := fun b hb => (g2 b (by omega)).trans (t2 b (by omega))
    refine c_sh59 (M0 := M2) (L0 := L) ho hl (fun a e M3 h1 h2 => ?_) (fun e M3 I3 h1 => ?_) 64 0 M2 rfl rfl I2 (fun _ _ => rfl)
    · rw [e] at h
      dsimp only at h
      exact h M3 (fun b hb => (h1 b (by omega)).trans (f2 b hb)) (fun _ => h2) (fun z => absurd z (by decide))
    · rw [e] at h
      refine c_sh90 (M0 := M3) (L0 := L) ho hl (Ext.refl L) (fun a b e2 M4 k1 k2 k3 => ?_) (fun e2 M4 k1 => ?_) 64 0 M3 rfl rfl I3 (fun _ _ => rfl)
      · rw [e2] at h
        exact h M4 (fun b hb => (k1 b (by omega)).trans ((h1 b (by omega)).trans (f2 b hb))) (fun _ => k2) (fun _ => k3)
      · rw [e2] at h
        exact h M4 (fun b hb => (k1 b (by omega)).trans ((h1 b (by omega)).trans (f2 b hb))) (fun z => absurd z (by decide)) (fun z => absurd z (by decide))
  · rw [if_pos (by simpa using q)] at h
    exact h M1 (fun b hb => t2 b (by omega)) (fun z => absurd z (by decide)) (fun z => absurd z (by decide))
end SH
