theorem and31 (x : Int32) : ∃ c : Nat, c < 32 ∧ x &&& 31 = nI c := by
  refine ⟨(x.toBitVec &&& 31#32).toNat, ?_, ?_⟩
  · rw [BitVec.toNat_and]
    exact Nat.lt_of_le_of_lt Nat.and_le_right (by decide)
  · apply Int32.toBitVec_inj.mp
    rw [Int32.toBitVec_and]
    show x.toBitVec &&& 31#32 = BitVec.ofNat 32 (x.toBitVec &&& 31#32).toNat
    rw [BitVec.ofNat_toNat, BitVec.setWidth_eq]
theorem law_end {L i : Nat} (hL : L ≤ 320) (hi : i ≤ 400) : nI L - 5 < nI i ↔ ¬ i + 5 ≤ L := by
  by_cases h : 5 ≤ L
  · rw [show (5 : Int32) = nI 5 from rfl, nI_subE h, nI_ltI (by omega) (by omega)]; omega
  · have e : (nI L - 5).toInt < 0 := by
      rcases (show L = 0 ∨ L = 1 ∨ L = 2 ∨ L = 3 ∨ L = 4 by omega) with rfl | rfl | rfl | rfl | rfl <;> decide
    rw [Int32.lt_iff_toInt_lt, nI_toInt (by omega)]
    omega
section LP2
variable {G : jGT} {nm : String} {d mc ms : Nat} {post : jP}
theorem law_loop (hL : jL G ≤ 320) (h : ∀ n sh M r, post (some (.int 1)) n sh M r) : ∀ (q i : Nat) (M : jM), jL G ≤ i + q → i ≤ 330 → Rel M → jLaw G nm d 18 (nI i) M mc ms post := by
  intro q
  induction q with
  | zero =>
    intro i M hq hi hR
    unfold jLaw
    refine J_iload_3 dL_law_18 ?_
    refine J_aload_0 dL_law_19 ?_
    refine J_alenO (N := jL G) (f := jxs G) dL_law_20 rfl ?_
    refine J_iconst (5 : Int32) dL_law_21 (by decide) ?_
    refine J_isub dL_law_22 ?_
    refine J_icmp_gt (t := 1216) dL_law_23 (by decide) (fun _ => ?_) (fun e => absurd ((law_end hL (by omega)).mpr (by omega)) e)
    refine J_iconst (1 : Int32) dL_law_1216 (by decide) ?_
    exact J_zret dL_law_1217 rfl (by decide +kernel) (h _ _ _ _)
  | succ q ih =>
    intro i M hq hi hR
    unfold jLaw
    refine J_iload_3 dL_law_18 ?_
    refine J_aload_0 dL_law_19 ?_
    refine J_alenO (N := jL G) (f := jxs G) dL_law_20 rfl ?_
    refine J_iconst (5 : Int32) dL_law_21 (by decide) ?_
    refine J_isub dL_law_22 ?_
    refine J_icmp_gt (t := 1216) dL_law_23 (by decide) (fun _ => ?_) (fun e => ?_)
    · refine J_iconst (1 : Int32) dL_law_1216 (by decide) ?_
      exact J_zret dL_law_1217 rfl (by decide +kernel) (h _ _ _ _)
    have h5 : i + 5 ≤ jL G := Decidable.not_not.mp fun z => e ((law_end hL (by omega)).mpr z)
    have hv : ∀ k, k < 5 → vp_in (nI i + nI k) (jL G) := fun k hk => by rw [nI_add]; exact vp_in_nI (by omega) (by omega)
    have K : ∀ M2, Rel M2 → jLaw G nm d 1210 (nI i) M2 mc ms post := by
      intro M2 hR2
      unfold jLaw
      refine J_iinc_3 5 dL_law_1210 (by decide) rfl ?_
      refine J_goto (t := 18) dL_law_1213 (by decide) ?_
      rw [show nI i + 5 = nI (i + 5) from nI_add i 5]
      exact ih (i + 5) M2 (by omega) (by omega) hR2
    refine J_aload_0 dL_law_26 ?_
    refine J_iload_3 dL_law_27 ?_
    refine J_ialdO (N := jL G) (f := jxs G) dL_law_28 rfl (vp_in_nI (by omega) (by omega)) ?_
    refine J_bipush (31 : Int32) dL_law_29 (by decide) ?_
    refine J_iand dL_law_31 ?_
    obtain ⟨c, hc, hx⟩ := and31 (jxs G (nI i).toNatClampNeg)
    rcases (show c = 0 ∨ c = 1 ∨ c = 2 ∨ c = 3 ∨ c = 4 ∨ c = 5 ∨ c = 6 ∨ c = 7 ∨ c = 8 ∨ c = 9 ∨ c = 10 ∨ c = 11 ∨ c = 12 ∨ c = 13 ∨ c = 14 ∨ c = 15 ∨ c = 16 ∨ c = 17 ∨ c = 18 ∨ c = 19 ∨ c = 20 ∨ c = 21 ∨ c = 22 ∨ c = 23 ∨ c = 24 ∨ c = 25 ∨ c = 26 ∨ c = 27 ∨ c = 28 ∨ c = 29 ∨ c = 30 ∨ c = 31 by omega) with rfl | rfl | rfl | rfl | rfl | rfl | rfl | rfl | rfl | rfl | rfl | rfl | rfl | rfl | rfl | rfl | rfl | rfl | rfl | rfl | rfl | rfl | rfl | rfl | rfl | rfl | rfl | rfl | rfl | rfl | rfl | rfl
    · exact J_tswC (c := nI 0) (off := 144) (t := 176) dL_law_32 hx (by decide) (lawc_0 hR hv K)
    · exact J_tswC (c := nI 1) (off := 167) (t := 199) dL_law_32 hx (by decide) (lawc_1 hR hv K)
    · exact J_tswC (c := nI 2) (off := 180) (t := 212) dL_law_32 hx (by decide) (lawc_2 hR hv K)
    · exact J_tswC (c := nI 3) (off := 203) (t := 235) dL_law_32 hx (by decide) (lawc_3 hR hv K)
    · exact J_tswC (c := nI 4) (off := 236) (t := 268) dL_law_32 hx (by decide) (lawc_4 hR hv K)
    · exact J_tswC (c := nI 5) (off := 269) (t := 301) dL_law_32 hx (by decide) (lawc_5 hR hv K)
    · exact J_tswC (c := nI 6) (off := 302) (t := 334) dL_law_32 hx (by decide) (lawc_6 hR hv K)
    · exact J_tswC (c := nI 7) (off := 335) (t := 367) dL_law_32 hx (by decide) (lawc_7 hR hv K)
    · exact J_tswC (c := nI 8) (off := 378) (t := 410) dL_law_32 hx (by decide) (lawc_8 hR hv K)
    · exact J_tswC (c := nI 9) (off := 401) (t := 433) dL_law_32 hx (by decide) (lawc_9 hR hv K)
    · exact J_tswC (c := nI 10) (off := 444) (t := 476) dL_law_32 hx (by decide) (lawc_10 hR hv K)
    · exact J_tswC (c := nI 11) (off := 487) (t := 519) dL_law_32 hx (by decide) (lawc_11 hR hv K)
    · exact J_tswC (c := nI 12) (off := 520) (t := 552) dL_law_32 hx (by decide) (lawc_12 hR hv K)
    · exact J_tswC (c := nI 13) (off := 569) (t := 601) dL_law_32 hx (by decide) (lawc_13 hR hv K)
    · exact J_tswC (c := nI 14) (off := 592) (t := 624) dL_law_32 hx (by decide) (lawc_14 hR hv K)
    · exact J_tswC (c := nI 15) (off := 635) (t := 667) dL_law_32 hx (by decide) (lawc_15 hR hv K)
    · exact J_tswC (c := nI 16) (off := 678) (t := 710) dL_law_32 hx (by decide) (lawc_16 hR hv K)
    · exact J_tswC (c := nI 17) (off := 721) (t := 753) dL_law_32 hx (by decide) (lawc_17 hR hv K)
    · exact J_tswC (c := nI 18) (off := 774) (t := 806) dL_law_32 hx (by decide) (lawc_18 hR hv K)
    · exact J_tswC (c := nI 19) (off := 817) (t := 849) dL_law_32 hx (by decide) (lawc_19 hR hv K)
    · exact J_tswC (c := nI 20) (off := 850) (t := 882) dL_law_32 hx (by decide) (lawc_20 hR hv K)
    · exact J_tswC (c := nI 21) (off := 873) (t := 905) dL_law_32 hx (by decide) (lawc_21 hR hv K)
    · exact J_tswC (c := nI 22) (off := 896) (t := 928) dL_law_32 hx (by decide) (lawc_22 hR hv K)
    · exact J_tswC (c := nI 23) (off := 929) (t := 961) dL_law_32 hx (by decide) (lawc_23 hR hv K)
    · exact J_tswC (c := nI 24) (off := 952) (t := 984) dL_law_32 hx (by decide) (lawc_24 hR hv K)
    · exact J_tswC (c := nI 25) (off := 996) (t := 1028) dL_law_32 hx (by decide) (lawc_25 hR hv K)
    · exact J_tswC (c := nI 26) (off := 1030) (t := 1062) dL_law_32 hx (by decide) (lawc_26 hR hv K)
    · exact J_tswC (c := nI 27) (off := 1073) (t := 1105) dL_law_32 hx (by decide) (lawc_27 hR hv K)
    · exact J_tswC (c := nI 28) (off := 1096) (t := 1128) dL_law_32 hx (by decide) (lawc_28 hR hv K)
    · exact J_tswC (c := nI 29) (off := 1129) (t := 1161) dL_law_32 hx (by decide) (lawc_29 hR hv K)
    · exact J_tswC (c := nI 30) (off := 1142) (t := 1174) dL_law_32 hx (by decide) (lawc_30 hR hv K)
    · exact J_tswC (c := nI 31) (off := 1155) (t := 1187) dL_law_32 hx (by decide) (lawc_31 hR hv K)
end LP2
theorem jbyte0 : jbyte 0 := by unfold jbyte; decide +kernel
theorem Rel_start {M : jM} (h0 : M 0 2 = 0) (h1 : ∀ k, 1 ≤ k → k < 21 → M k = fun _ => 0) (h2 : M 115 1 = 0) (h3 : M 117 3 = 0) (h4 : M 117 27 = 0) (h5 : M 118 6 = -1) (h6 : ∀ j, j ≠ 6 → M 118 j = 0) : Rel M := by
  have z : ∀ k j, 1 ≤ k → k < 21 → M k j = 0 := fun k j a b => by rw [h1 k a b]
  refine ⟨⟨0, 0, 0, 0, 0, 0, 0, 0, ⟨z 1 1 (by omega) (by omega), h6 0 (by omega), by omega, fun k hk => by omega⟩, ⟨z 1 4 (by omega) (by omega), h6 1 (by omega), by omega, fun k hk => by omega, fun k hk => ⟨0, by omega, z 6 k (by omega) (by omega), fun h => by omega, fun _ => rfl⟩⟩, ⟨z 1 8 (by omega) (by omega), h6 3 (by omega), by omega, fun k hk => by omega⟩, ⟨z 1 10 (by omega) (by omega), h6 4 (by omega), by omega, fun k hk => by omega⟩, ⟨z 1 12 (by omega) (by omega), h6 5 (by omega), by omega, fun k hk => by omega⟩, fun k hk => ⟨?_, ?_⟩, ⟨z 1 0 (by omega) (by omega), h6 7 (by omega), by omega⟩, ⟨z 1 14 (by omega) (by omega), h6 2 (by omega), by omega, z 1 15 (by omega) (by omega), by omega, fun k hk => by omega, Or.inl ⟨h5, rfl⟩⟩⟩, Or.inl ⟨h0, h3, fun k hk => ⟨?_, ?_⟩⟩, ⟨0, by omega, h2, h4, fun k hk => by omega⟩⟩
  · rw [show (fun i => M (2 + i)) 7 k = 0 from z 9 k (by omega) (by omega)]; exact jbyte0
  · rw [show (fun i => M (2 + i)) 8 k = 0 from z 10 k (by omega) (by omega)]; exact jbyte0
  · rw [z 19 k (by omega) (by omega)]; exact jbyte0
  · rw [z 20 k (by omega) (by omega)]; exact jbyte0
/-- the law, from its entry -/
theorem law_J {G : jGT} {nm : String} {d : Nat} {post : jP} (hL : jL G ≤ 320) (h : ∀ n sh M r, post (some (.int 1)) n sh M r) : J G (d + 51) (mLaw nm) 0 [some (.ref 2000), none, none, none] [] 0 jSH (fun _ _ => 0) (fun _ _ => none) 0 0 130 4739 post := by
  refine J_new (ci := 7) (N := 8) dL_law_0 (RX7, TX7, 8) rfl rfl w_79 w_80 w_63 (by omega) (by omega) (by decide) (dfOk_use df_7) rfl rfl ?_
  rw [jSH_upd (by decide +kernel : jSH 0 = (7, 8))]
  refine J_dup dL_law_3 rfl ?_
  refine J_callI (d' := 3) (As := []) (rest := [.ref 0]) (mc' := 116) (ms' := 2054) dL_law_4 il_L_9 (i_X7_0 (d := 0) (fun k hk => ⟨rfl, rfl⟩)) rfl rfl (by omega) (Nat.le_of_ble_eq_true rfl) (by omega) (by omega) (fun v n' sh' M1 r1 hp => ?_)
  obtain ⟨rfl, rfl, rfl, z1, o1, f1, g1, g2, g3⟩ := hp
  refine J_astore_1 dL_law_7 rfl ?_
  refine J_new (ci := 8) (N := 31) dL_law_8 (RX8, TX8, 31) rfl rfl w_904 w_905 w_71 (by omega) (by omega) (by decide) (dfOk_use df_8) (z1 117 (by omega)).1 (z1 117 (by omega)).2 ?_
  rw [jSH_upd (by decide +kernel : jSH 117 = (8, 31))]
  refine J_dup dL_law_11 rfl ?_
  refine J_callI (d' := 1) (As := []) (rest := [.ref 117]) (mc' := 12) (ms' := 2646) dL_law_12 il_L_12 (i_X8_117 (d := 0) z1) rfl rfl (by omega) (Nat.le_of_ble_eq_true rfl) (by omega) (by omega) (fun v n' sh' M2 r2 hp => ?_)
  obtain ⟨rfl, rfl, rfl, z2, o2, f2, k1, k2, k3, k4⟩ := hp
  refine J_astore_2 dL_law_15 rfl ?_
  refine J_iconst (0 : Int32) dL_law_16 (by decide) ?_
  refine J_istore_3 dL_law_17 rfl ?_
  refine J_rcongr (r' := jMR) (fun k hk => ?_) ?_
  · by_cases e : k < 117
    · rw [(o2 k e).2]; exact f1 k (by omega) e
    · exact f2 k (by omega) hk
  refine law_loop (mc := 130) (ms := 4739) hL h (jL G) 0 M2 (by omega) (by omega) (Rel_start ?_ (fun k a b => ?_) ?_ k1 k2 k3 k4)
  · rw [(o2 0 (by omega)).1]; exact g1
  · rw [(o2 k (by omega)).1]; exact g2 k a b
  · rw [(o2 115 (by omega)).1]; exact g3
