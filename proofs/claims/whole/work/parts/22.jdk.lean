section JD
variable {G : jGT} {d : Nat} {M : jM}
theorem c_coder {t : Nat} {post : Int32 → jM → Prop} (ht : t < 5) (h : post 0 M) : CI G d mJ0_coder_7d493 [.ref (3000 + t)] M post := by
  refine Con_of_J ok_J0_coder_7d493 0 rfl rfl ?_
  refine J_getCS dJ0_coder_7d493_0 w_468 ?_
  refine J_if_eq (t := 13) dJ0_coder_7d493_3 (by decide) (fun c0 => absurd c0 (by decide)) (fun _ => ?_)
  refine J_aload_0 dJ0_coder_7d493_6 ?_
  refine J_getSC dJ0_coder_7d493_7 w_1311 ht ?_
  refine J_goto (t := 14) dJ0_coder_7d493_10 (by decide) ?_
  exact K_zret dJ0_coder_7d493_14 rfl (by decide +kernel) h
theorem c_latin {t : Nat} {post : Int32 → jM → Prop} (ht : t < 5) (h : post 1 M) : CI G d mJ0_isLatin1_aae02 [.ref (3000 + t)] M post := by
  refine Con_of_J ok_J0_isLatin1_aae02 0 rfl rfl ?_
  refine J_getCS dJ0_isLatin1_aae02_0 w_468 ?_
  refine J_if_eq (t := 17) dJ0_isLatin1_aae02_3 (by decide) (fun c0 => absurd c0 (by decide)) (fun _ => ?_)
  refine J_aload_0 dJ0_isLatin1_aae02_6 ?_
  refine J_getSC dJ0_isLatin1_aae02_7 w_1311 ht ?_
  refine J_if_ne (t := 17) dJ0_isLatin1_aae02_10 (by decide) (fun c0 => absurd rfl c0) (fun _ => ?_)
  refine J_iconst (1 : Int32) dJ0_isLatin1_aae02_13 (by decide) ?_
  refine J_goto (t := 18) dJ0_isLatin1_aae02_14 (by decide) ?_
  exact K_zret dJ0_isLatin1_aae02_18 rfl (by decide +kernel) h
theorem c_pcheck {x y : Int32} {v : Value} {post : Int32 → jM → Prop} (hv : v = .null ∨ v = .ref 5000) (h0 : ¬ x < 0) (h1 : x < y) (h : post x M) : CI G d mJ3_checkIndex_8e157 [.int x, .int y, v] M post := by
  have hlv : jargs [.int x, .int y, v] ++ List.replicate 0 none = [some (.int x), some (.int y), some v] := by
    rcases hv with rfl | rfl <;> rfl
  refine Con_of_J ok_J3_checkIndex_8e157 0 hlv rfl ?_
  refine J_iload_0 dJ3_checkIndex_8e157_0 ?_
  refine J_if_lt (t := 9) dJ3_checkIndex_8e157_1 (by decide) (fun c0 => absurd c0 h0) (fun _ => ?_)
  refine J_iload_0 dJ3_checkIndex_8e157_4 ?_
  refine J_iload_1 dJ3_checkIndex_8e157_5 ?_
  refine J_icmp_lt (t := 16) dJ3_checkIndex_8e157_6 (by decide) (fun _ => ?_) (fun c1 => absurd h1 c1)
  refine J_iload_0 dJ3_checkIndex_8e157_16 ?_
  exact K_iret dJ3_checkIndex_8e157_17 rfl h
theorem c_scheck {x y : Int32} {post : jM → Prop} (h0 : ¬ x < 0) (h1 : x < y) (h : post M) : CV G (d + 1) mJ0_checkIndex_df160 [.int x, .int y] M post := by
  refine Con_of_J ok_J0_checkIndex_df160 0 rfl rfl ?_
  refine J_iload_0 dJ0_checkIndex_df160_0 ?_
  refine J_iload_1 dJ0_checkIndex_df160_1 ?_
  have go : ∀ v : Value, (v = .null ∨ v = .ref 5000) → J G (d + 1) mJ0_checkIndex_df160 5 [some (.int x), some (.int y)] (v :: .int y :: .int x :: []) jN jSH M jMR 0 0 0 0 (jQv post) := by
    intro v hv
    refine K_callSI (As := [.int x, .int y, v]) (rest := []) (P := fun r M' => M' = M) dJ0_checkIndex_df160_5 sl_J0_1059 (c_pcheck hv h0 h1 rfl) rfl rfl (Nat.le_of_ble_eq_true rfl) (fun r M1 e => ?_)
    subst e
    refine J_pop dJ0_checkIndex_df160_8 rfl ?_
    exact K_ret dJ0_checkIndex_df160_9 rfl h
  exact J_getFM dJ0_checkIndex_df160_2 w_484 (go .null (Or.inl rfl)) (go (.ref 5000) (Or.inr rfl))
theorem jsb_ok : ∀ t, t < 5 → ∀ i, i < jSlen.getD t 0 → (((jSbyt.getD t []).getD i 0 &&& 255).toUInt32 % 65536).toInt32 = (jSbyt.getD t []).getD i 0 ∧ narrow .char (.int ((jSbyt.getD t []).getD i 0)) = .int ((jSbyt.getD t []).getD i 0) := by decide +kernel
theorem jsl_ok : ∀ t, t < 5 → jSlen.getD t 0 < 7 ∧ nI (jSlen.getD t 0) >>> ((0 : Int32) &&& 31) = nI (jSlen.getD t 0) := by decide +kernel
theorem c_lchar {t i : Nat} {post : Int32 → jM → Prop} (ht : t < 5) (hi : i < jSlen.getD t 0) (h : post ((jSbyt.getD t []).getD i 0) M) : CI G (d + 2) mJ1_charAt_3b067 [.ref (4000 + t), .int (nI i)] M post := by
  have hl := (jsl_ok t ht).1
  refine Con_of_J ok_J1_charAt_3b067 0 rfl rfl ?_
  refine J_iload_1 dJ1_charAt_3b067_0 ?_
  refine J_aload_0 dJ1_charAt_3b067_1 ?_
  refine J_alenS (nI (jSlen.getD t 0)) dJ1_charAt_3b067_2 ht rfl ?_
  refine K_callSV (As := [.int (nI i), .int (nI (jSlen.getD t 0))]) (rest := []) (P := fun M' => M' = M) dJ1_charAt_3b067_3 sl_J1_9 (c_scheck (nI_pos (by omega)) ((nI_ltI (by omega) (by omega)).mpr hi) rfl) rfl rfl (by decide) (fun M1 e => ?_)
  subst e
  refine J_aload_0 dJ1_charAt_3b067_6 ?_
  refine J_iload_1 dJ1_charAt_3b067_7 ?_
  refine J_baldO dJ1_charAt_3b067_8 ht (vp_in_nI hi (by omega)) ?_
  rw [nI_clamp (by omega)]
  refine J_sipush (255 : Int32) dJ1_charAt_3b067_9 (by decide) ?_
  refine J_iand dJ1_charAt_3b067_12 ?_
  refine J_i2c dJ1_charAt_3b067_13 ?_
  rw [(jsb_ok t ht i hi).1]
  exact K_zret dJ1_charAt_3b067_14 rfl (jsb_ok t ht i hi).2 h
theorem c_slen {t : Nat} {post : Int32 → jM → Prop} (ht : t < 5) (h : post (nI (jSlen.getD t 0)) M) : CI G (d + 7) mJ0_length_8abf5 [.ref (3000 + t)] M post := by
  refine Con_of_J ok_J0_length_8abf5 0 rfl rfl ?_
  refine J_aload_0 dJ0_length_8abf5_0 ?_
  refine J_getSV dJ0_length_8abf5_1 w_1310 ht ?_
  refine J_alenS (nI (jSlen.getD t 0)) dJ0_length_8abf5_4 ht rfl ?_
  refine J_aload_0 dJ0_length_8abf5_5 ?_
  refine K_callTI (As := []) (rest := [.int (nI (jSlen.getD t 0))]) (P := fun r M' => r = 0 ∧ M' = M) dJ0_length_8abf5_6 vl_J0_335 t ht rfl (c_coder ht ⟨rfl, rfl⟩) rfl rfl (Nat.le_of_ble_eq_true rfl) (fun r M1 e => ?_)
  obtain ⟨rfl, rfl⟩ := e
  refine J_ishr dJ0_length_8abf5_9 ?_
  rw [(jsl_ok t ht).2]
  exact K_iret dJ0_length_8abf5_10 rfl h
theorem c_schar {t i : Nat} {post : Int32 → jM → Prop} (ht : t < 5) (hi : i < jSlen.getD t 0) (h : post ((jSbyt.getD t []).getD i 0) M) : CI G (d + 7) mJ0_charAt_5068e [.ref (3000 + t), .int (nI i)] M post := by
  refine Con_of_J ok_J0_charAt_5068e 0 rfl rfl ?_
  refine J_aload_0 dJ0_charAt_5068e_0 ?_
  refine K_callTI (As := []) (rest := []) (P := fun r M' => r = 1 ∧ M' = M) dJ0_charAt_5068e_1 vl_J0_492 t ht rfl (c_latin ht ⟨rfl, rfl⟩) rfl rfl (Nat.le_of_ble_eq_true rfl) (fun r M1 e => ?_)
  obtain ⟨rfl, rfl⟩ := e
  refine J_if_eq (t := 16) dJ0_charAt_5068e_4 (by decide) (fun c0 => absurd c0 (by decide)) (fun _ => ?_)
  refine J_aload_0 dJ0_charAt_5068e_7 ?_
  refine J_getSV dJ0_charAt_5068e_8 w_1310 ht ?_
  refine J_iload_1 dJ0_charAt_5068e_11 ?_
  refine K_callSI (As := [.ref (4000 + t), .int (nI i)]) (rest := []) (P := fun r M' => r = (jSbyt.getD t []).getD i 0 ∧ M' = M1) dJ0_charAt_5068e_12 sl_J0_495 (c_lchar (d := d + 4) ht hi ⟨rfl, rfl⟩) rfl rfl (by decide) (fun r M2 e => ?_)
  obtain ⟨rfl, rfl⟩ := e
  exact K_zret dJ0_charAt_5068e_15 rfl (jsb_ok t ht i hi).2 h
end JD
