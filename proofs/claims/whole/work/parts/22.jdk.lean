section JD
variable {G : jGT} {d : Nat} {M : jM} {post : Int32 → jM → Prop}
theorem c_slen {t : Nat} (ht : t < 5) (h : post (nI (jSlen.getD t 0)) M) : CI G (d + 7) mJ0_length_8abf5 [.ref (3000 + t)] M post := by
  sorry
theorem c_schar {t i : Nat} (ht : t < 5) (hi : i < jSlen.getD t 0) (h : post ((jSbyt.getD t []).getD i 0) M) : CI G (d + 7) mJ0_charAt_5068e [.ref (3000 + t), .int (nI i)] M post := by
  sorry
end JD
