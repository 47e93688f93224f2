def kX6_begin_0 (G : jGT) (d : Nat) (t : Nat) (x1 : Int32) (M : jM) (post : jM → Prop) : Prop := J G d mX6_begin 0 [some (.ref t), some (.int x1)] [] jN jSH M jMR 0 0 0 0 (jQv post)
theorem bX6_begin_0 {G : jGT} {d : Nat} {t : Nat} (ht : jT t) {x1 : Int32} {M : jM} {post : jM → Prop} (h : post (jup (jup (jup (jup (jup (jup (jup (jup M t 0 x1) t 1 (0 : Int32)) t 2 (-1 : Int32)) t 3 (-1 : Int32)) t 4 (-1 : Int32)) t 5 (0 : Int32)) t 6 (0 : Int32)) t 7 (0 : Int32))) : kX6_begin_0 G d t x1 M post := by
  unfold kX6_begin_0
  refine J_aload_0 dX6_begin_0 ?_
  refine J_iload_1 dX6_begin_1 ?_
  refine J_putI false dX6_begin_2 pl_X6_7 (jT_lt ht) (jT_sh ht) (by decide) jrf_6_0 (fun q => absurd q (by decide)) ?_
  refine J_aload_0 dX6_begin_5 ?_
  refine J_iconst (0 : Int32) dX6_begin_6 (by decide) ?_
  refine J_putI false dX6_begin_7 pl_X6_13 (jT_lt ht) (jT_sh ht) (by decide) jrf_6_1 (fun q => absurd q (by decide)) ?_
  refine J_aload_0 dX6_begin_10 ?_
  refine J_iconst (-1 : Int32) dX6_begin_11 (by decide) ?_
  refine J_putI false dX6_begin_12 pl_X6_16 (jT_lt ht) (jT_sh ht) (by decide) jrf_6_2 (fun q => absurd q (by decide)) ?_
  refine J_aload_0 dX6_begin_15 ?_
  refine J_iconst (-1 : Int32) dX6_begin_16 (by decide) ?_
  refine J_putI false dX6_begin_17 pl_X6_19 (jT_lt ht) (jT_sh ht) (by decide) jrf_6_3 (fun q => absurd q (by decide)) ?_
  refine J_aload_0 dX6_begin_20 ?_
  refine J_iconst (-1 : Int32) dX6_begin_21 (by decide) ?_
  refine J_putI false dX6_begin_22 pl_X6_22 (jT_lt ht) (jT_sh ht) (by decide) jrf_6_4 (fun q => absurd q (by decide)) ?_
  refine J_aload_0 dX6_begin_25 ?_
  refine J_iconst (0 : Int32) dX6_begin_26 (by decide) ?_
  refine J_putI false dX6_begin_27 pl_X6_25 (jT_lt ht) (jT_sh ht) (by decide) jrf_6_5 (fun q => absurd q (by decide)) ?_
  refine J_aload_0 dX6_begin_30 ?_
  refine J_iconst (0 : Int32) dX6_begin_31 (by decide) ?_
  refine J_putI false dX6_begin_32 pl_X6_28 (jT_lt ht) (jT_sh ht) (by decide) jrf_6_6 (fun q => absurd q (by decide)) ?_
  refine J_aload_0 dX6_begin_35 ?_
  refine J_iconst (0 : Int32) dX6_begin_36 (by decide) ?_
  refine J_putI false dX6_begin_37 pl_X6_31 (jT_lt ht) (jT_sh ht) (by decide) jrf_6_7 (fun q => absurd q (by decide)) ?_
  exact K_ret dX6_begin_40 rfl h
theorem eX6_begin {G : jGT} {d : Nat} {t : Nat} {x1 : Int32} {M : jM} {post : jM → Prop} (h : kX6_begin_0 G d t x1 M post) : CV G d mX6_begin [.ref t, .int x1] M post := Con_of_J ok_X6_begin 0 rfl rfl h
def kX6_become_0 (G : jGT) (d : Nat) (t : Nat) (u : Nat)  (M : jM) (post : jM → Prop) : Prop := J G d mX6_become 0 [some (.ref t), some (.ref u)] [] jN jSH M jMR 0 0 0 0 (jQv post)
theorem bX6_become_0 {G : jGT} {d : Nat} {t : Nat} (ht : jT t) {u : Nat} (hu : jT u)  {M : jM} {post : jM → Prop} (h : post (jup (jup (jup (jup (jup (jup (jup (jup M t 0 (M u 0)) t 1 ((jup M t 0 (M u 0)) u 1)) t 2 ((jup (jup M t 0 (M u 0)) t 1 ((jup M t 0 (M u 0)) u 1)) u 2)) t 3 ((jup (jup (jup M t 0 (M u 0)) t 1 ((jup M t 0 (M u 0)) u 1)) t 2 ((jup (jup M t 0 (M u 0)) t 1 ((jup M t 0 (M u 0)) u 1)) u 2)) u 3)) t 4 ((jup (jup (jup (jup M t 0 (M u 0)) t 1 ((jup M t 0 (M u 0)) u 1)) t 2 ((jup (jup M t 0 (M u 0)) t 1 ((jup M t 0 (M u 0)) u 1)) u 2)) t 3 ((jup (jup (jup M t 0 (M u 0)) t 1 ((jup M t 0 (M u 0)) u 1)) t 2 ((jup (jup M t 0 (M u 0)) t 1 ((jup M t 0 (M u 0)) u 1)) u 2)) u 3)) u 4)) t 5 ((jup (jup (jup (jup (jup M t 0 (M u 0)) t 1 ((jup M t 0 (M u 0)) u 1)) t 2 ((jup (jup M t 0 (M u 0)) t 1 ((jup M t 0 (M u 0)) u 1)) u 2)) t 3 ((jup (jup (jup M t 0 (M u 0)) t 1 ((jup M t 0 (M u 0)) u 1)) t 2 ((jup (jup M t 0 (M u 0)) t 1 ((jup M t 0 (M u 0)) u 1)) u 2)) u 3)) t 4 ((jup (jup (jup (jup M t 0 (M u 0)) t 1 ((jup M t 0 (M u 0)) u 1)) t 2 ((jup (jup M t 0 (M u 0)) t 1 ((jup M t 0 (M u 0)) u 1)) u 2)) t 3 ((jup (jup (jup M t 0 (M u 0)) t 1 ((jup M t 0 (M u 0)) u 1)) t 2 ((jup (jup M t 0 (M u 0)) t 1 ((jup M t 0 (M u 0)) u 1)) u 2)) u 3)) u 4)) u 5)) t 6 ((jup (jup (jup (jup (jup (jup M t 0 (M u 0)) t 1 ((jup M t 0 (M u 0)) u 1)) t 2 ((jup (jup M t 0 (M u 0)) t 1 ((jup M t 0 (M u 0)) u 1)) u 2)) t 3 ((jup (jup (jup M t 0 (M u 0)) t 1 ((jup M t 0 (M u 0)) u 1)) t 2 ((jup (jup M t 0 (M u 0)) t 1 ((jup M t 0 (M u 0)) u 1)) u 2)) u 3)) t 4 ((jup (jup (jup (jup M t 0 (M u 0)) t 1 ((jup M t 0 (M u 0)) u 1)) t 2 ((jup (jup M t 0 (M u 0)) t 1 ((jup M t 0 (M u 0)) u 1)) u 2)) t 3 ((jup (jup (jup M t 0 (M u 0)) t 1 ((jup M t 0 (M u 0)) u 1)) t 2 ((jup (jup M t 0 (M u 0)) t 1 ((jup M t 0 (M u 0)) u 1)) u 2)) u 3)) u 4)) t 5 ((jup (jup (jup (jup (jup M t 0 (M u 0)) t 1 ((jup M t 0 (M u 0)) u 1)) t 2 ((jup (jup M t 0 (M u 0)) t 1 ((jup M t 0 (M u 0)) u 1)) u 2)) t 3 ((jup (jup (jup M t 0 (M u 0)) t 1 ((jup M t 0 (M u 0)) u 1)) t 2 ((jup (jup M t 0 (M u 0)) t 1 ((jup M t 0 (M u 0)) u 1)) u 2)) u 3)) t 4 ((jup (jup (jup (jup M t 0 (M u 0)) t 1 ((jup M t 0 (M u 0)) u 1)) t 2 ((jup (jup M t 0 (M u 0)) t 1 ((jup M t 0 (M u 0)) u 1)) u 2)) t 3 ((jup (jup (jup M t 0 (M u 0)) t 1 ((jup M t 0 (M u 0)) u 1)) t 2 ((jup (jup M t 0 (M u 0)) t 1 ((jup M t 0 (M u 0)) u 1)) u 2)) u 3)) u 4)) u 5)) u 6)) t 7 ((jup (jup (jup (jup (jup (jup (jup M t 0 (M u 0)) t 1 ((jup M t 0 (M u 0)) u 1)) t 2 ((jup (jup M t 0 (M u 0)) t 1 ((jup M t 0 (M u 0)) u 1)) u 2)) t 3 ((jup (jup (jup M t 0 (M u 0)) t 1 ((jup M t 0 (M u 0)) u 1)) t 2 ((jup (jup M t 0 (M u 0)) t 1 ((jup M t 0 (M u 0)) u 1)) u 2)) u 3)) t 4 ((jup (jup (jup (jup M t 0 (M u 0)) t 1 ((jup M t 0 (M u 0)) u 1)) t 2 ((jup (jup M t 0 (M u 0)) t 1 ((jup M t 0 (M u 0)) u 1)) u 2)) t 3 ((jup (jup (jup M t 0 (M u 0)) t 1 ((jup M t 0 (M u 0)) u 1)) t 2 ((jup (jup M t 0 (M u 0)) t 1 ((jup M t 0 (M u 0)) u 1)) u 2)) u 3)) u 4)) t 5 ((jup (jup (jup (jup (jup M t 0 (M u 0)) t 1 ((jup M t 0 (M u 0)) u 1)) t 2 ((jup (jup M t 0 (M u 0)) t 1 ((jup M t 0 (M u 0)) u 1)) u 2)) t 3 ((jup (jup (jup M t 0 (M u 0)) t 1 ((jup M t 0 (M u 0)) u 1)) t 2 ((jup (jup M t 0 (M u 0)) t 1 ((jup M t 0 (M u 0)) u 1)) u 2)) u 3)) t 4 ((jup (jup (jup (jup M t 0 (M u 0)) t 1 ((jup M t 0 (M u 0)) u 1)) t 2 ((jup (jup M t 0 (M u 0)) t 1 ((jup M t 0 (M u 0)) u 1)) u 2)) t 3 ((jup (jup (jup M t 0 (M u 0)) t 1 ((jup M t 0 (M u 0)) u 1)) t 2 ((jup (jup M t 0 (M u 0)) t 1 ((jup M t 0 (M u 0)) u 1)) u 2)) u 3)) u 4)) u 5)) t 6 ((jup (jup (jup (jup (jup (jup M t 0 (M u 0)) t 1 ((jup M t 0 (M u 0)) u 1)) t 2 ((jup (jup M t 0 (M u 0)) t 1 ((jup M t 0 (M u 0)) u 1)) u 2)) t 3 ((jup (jup (jup M t 0 (M u 0)) t 1 ((jup M t 0 (M u 0)) u 1)) t 2 ((jup (jup M t 0 (M u 0)) t 1 ((jup M t 0 (M u 0)) u 1)) u 2)) u 3)) t 4 ((jup (jup (jup (jup M t 0 (M u 0)) t 1 ((jup M t 0 (M u 0)) u 1)) t 2 ((jup (jup M t 0 (M u 0)) t 1 ((jup M t 0 (M u 0)) u 1)) u 2)) t 3 ((jup (jup (jup M t 0 (M u 0)) t 1 ((jup M t 0 (M u 0)) u 1)) t 2 ((jup (jup M t 0 (M u 0)) t 1 ((jup M t 0 (M u 0)) u 1)) u 2)) u 3)) u 4)) t 5 ((jup (jup (jup (jup (jup M t 0 (M u 0)) t 1 ((jup M t 0 (M u 0)) u 1)) t 2 ((jup (jup M t 0 (M u 0)) t 1 ((jup M t 0 (M u 0)) u 1)) u 2)) t 3 ((jup (jup (jup M t 0 (M u 0)) t 1 ((jup M t 0 (M u 0)) u 1)) t 2 ((jup (jup M t 0 (M u 0)) t 1 ((jup M t 0 (M u 0)) u 1)) u 2)) u 3)) t 4 ((jup (jup (jup (jup M t 0 (M u 0)) t 1 ((jup M t 0 (M u 0)) u 1)) t 2 ((jup (jup M t 0 (M u 0)) t 1 ((jup M t 0 (M u 0)) u 1)) u 2)) t 3 ((jup (jup (jup M t 0 (M u 0)) t 1 ((jup M t 0 (M u 0)) u 1)) t 2 ((jup (jup M t 0 (M u 0)) t 1 ((jup M t 0 (M u 0)) u 1)) u 2)) u 3)) u 4)) u 5)) u 6)) u 7))) : kX6_become_0 G d t u  M post := by
  unfold kX6_become_0
  refine J_aload_0 dX6_become_0 ?_
  refine J_aload_1 dX6_become_1 ?_
  refine J_getI dX6_become_2 fl_X6_7 (jT_lt hu) (jT_sh hu) (by decide) jrf_6_0 ?_
  refine J_putI false dX6_become_5 pl_X6_7 (jT_lt ht) (jT_sh ht) (by decide) jrf_6_0 (fun q => absurd q (by decide)) ?_
  refine J_aload_0 dX6_become_8 ?_
  refine J_aload_1 dX6_become_9 ?_
  refine J_getI dX6_become_10 fl_X6_13 (jT_lt hu) (jT_sh hu) (by decide) jrf_6_1 ?_
  refine J_putI false dX6_become_13 pl_X6_13 (jT_lt ht) (jT_sh ht) (by decide) jrf_6_1 (fun q => absurd q (by decide)) ?_
  refine J_aload_0 dX6_become_16 ?_
  refine J_aload_1 dX6_become_17 ?_
  refine J_getI dX6_become_18 fl_X6_16 (jT_lt hu) (jT_sh hu) (by decide) jrf_6_2 ?_
  refine J_putI false dX6_become_21 pl_X6_16 (jT_lt ht) (jT_sh ht) (by decide) jrf_6_2 (fun q => absurd q (by decide)) ?_
  refine J_aload_0 dX6_become_24 ?_
  refine J_aload_1 dX6_become_25 ?_
  refine J_getI dX6_become_26 fl_X6_19 (jT_lt hu) (jT_sh hu) (by decide) jrf_6_3 ?_
  refine J_putI false dX6_become_29 pl_X6_19 (jT_lt ht) (jT_sh ht) (by decide) jrf_6_3 (fun q => absurd q (by decide)) ?_
  refine J_aload_0 dX6_become_32 ?_
  refine J_aload_1 dX6_become_33 ?_
  refine J_getI dX6_become_34 fl_X6_22 (jT_lt hu) (jT_sh hu) (by decide) jrf_6_4 ?_
  refine J_putI false dX6_become_37 pl_X6_22 (jT_lt ht) (jT_sh ht) (by decide) jrf_6_4 (fun q => absurd q (by decide)) ?_
  refine J_aload_0 dX6_become_40 ?_
  refine J_aload_1 dX6_become_41 ?_
  refine J_getI dX6_become_42 fl_X6_25 (jT_lt hu) (jT_sh hu) (by decide) jrf_6_5 ?_
  refine J_putI false dX6_become_45 pl_X6_25 (jT_lt ht) (jT_sh ht) (by decide) jrf_6_5 (fun q => absurd q (by decide)) ?_
  refine J_aload_0 dX6_become_48 ?_
  refine J_aload_1 dX6_become_49 ?_
  refine J_getI dX6_become_50 fl_X6_28 (jT_lt hu) (jT_sh hu) (by decide) jrf_6_6 ?_
  refine J_putI false dX6_become_53 pl_X6_28 (jT_lt ht) (jT_sh ht) (by decide) jrf_6_6 (fun q => absurd q (by decide)) ?_
  refine J_aload_0 dX6_become_56 ?_
  refine J_aload_1 dX6_become_57 ?_
  refine J_getI dX6_become_58 fl_X6_31 (jT_lt hu) (jT_sh hu) (by decide) jrf_6_7 ?_
  refine J_putI false dX6_become_61 pl_X6_31 (jT_lt ht) (jT_sh ht) (by decide) jrf_6_7 (fun q => absurd q (by decide)) ?_
  exact K_ret dX6_become_64 rfl h
theorem eX6_become {G : jGT} {d : Nat} {t : Nat} {u : Nat} {M : jM} {post : jM → Prop} (h : kX6_become_0 G d t u  M post) : CV G d mX6_become [.ref t, .ref u] M post := Con_of_J ok_X6_become 0 rfl rfl h
def kX6_meet_0 (G : jGT) (d : Nat) (t : Nat) (x1 : Int32) (x2 : Int32) (x3 : Int32) (M : jM) (post : jM → Prop) : Prop := J G d mX6_meet 0 [some (.ref t), some (.int x1), some (.int x2), some (.int x3)] [] jN jSH M jMR 0 0 0 0 (jQv post)
theorem bX6_meet_0 {G : jGT} {d : Nat} {t : Nat} (ht : jT t) {x1 : Int32} {x2 : Int32} {x3 : Int32} {M : jM} {post : jM → Prop} (h : (if 0 ≤ (M t 2) then (if ((jup M t 3 x1) t 4) < 0 then (if x3 = 0 then post (jup (jup (jup (jup M t 3 x1) t 4 x1) t 5 x2) t 7 (((jup (jup (jup M t 3 x1) t 4 x1) t 5 x2) t 7) + (1 : Int32))) else post (jup (jup (jup (jup M t 3 x1) t 4 x1) t 5 x2) t 6 (((jup (jup (jup M t 3 x1) t 4 x1) t 5 x2) t 6) + (1 : Int32)))) else (if x2 < ((jup M t 3 x1) t 5) then (if x3 = 0 then post (jup (jup M t 3 x1) t 7 (((jup M t 3 x1) t 7) + (1 : Int32))) else post (jup (jup M t 3 x1) t 6 (((jup M t 3 x1) t 6) + (1 : Int32)))) else (if x3 = 0 then post (jup (jup (jup (jup M t 3 x1) t 4 x1) t 5 x2) t 7 (((jup (jup (jup M t 3 x1) t 4 x1) t 5 x2) t 7) + (1 : Int32))) else post (jup (jup (jup (jup M t 3 x1) t 4 x1) t 5 x2) t 6 (((jup (jup (jup M t 3 x1) t 4 x1) t 5 x2) t 6) + (1 : Int32)))))) else (if ((jup (jup M t 2 x1) t 3 x1) t 4) < 0 then (if x3 = 0 then post (jup (jup (jup (jup (jup M t 2 x1) t 3 x1) t 4 x1) t 5 x2) t 7 (((jup (jup (jup (jup M t 2 x1) t 3 x1) t 4 x1) t 5 x2) t 7) + (1 : Int32))) else post (jup (jup (jup (jup (jup M t 2 x1) t 3 x1) t 4 x1) t 5 x2) t 6 (((jup (jup (jup (jup M t 2 x1) t 3 x1) t 4 x1) t 5 x2) t 6) + (1 : Int32)))) else (if x2 < ((jup (jup M t 2 x1) t 3 x1) t 5) then (if x3 = 0 then post (jup (jup (jup M t 2 x1) t 3 x1) t 7 (((jup (jup M t 2 x1) t 3 x1) t 7) + (1 : Int32))) else post (jup (jup (jup M t 2 x1) t 3 x1) t 6 (((jup (jup M t 2 x1) t 3 x1) t 6) + (1 : Int32)))) else (if x3 = 0 then post (jup (jup (jup (jup (jup M t 2 x1) t 3 x1) t 4 x1) t 5 x2) t 7 (((jup (jup (jup (jup M t 2 x1) t 3 x1) t 4 x1) t 5 x2) t 7) + (1 : Int32))) else post (jup (jup (jup (jup (jup M t 2 x1) t 3 x1) t 4 x1) t 5 x2) t 6 (((jup (jup (jup (jup M t 2 x1) t 3 x1) t 4 x1) t 5 x2) t 6) + (1 : Int32)))))))) : kX6_meet_0 G d t x1 x2 x3 M post := by
  unfold kX6_meet_0
  refine J_aload_0 dX6_meet_0 ?_
  refine J_getI dX6_meet_1 fl_X6_16 (jT_lt ht) (jT_sh ht) (by decide) jrf_6_2 ?_
  refine J_if_ge (t := 12) dX6_meet_4 (by decide) (fun c0 => ?_) (fun c0 => ?_)
  · replace h := ite_t c0 h
    refine J_aload_0 dX6_meet_12 ?_
    refine J_iload_1 dX6_meet_13 ?_
    refine J_putI false dX6_meet_14 pl_X6_19 (jT_lt ht) (jT_sh ht) (by decide) jrf_6_3 (fun q => absurd q (by decide)) ?_
    refine J_aload_0 dX6_meet_17 ?_
    refine J_getI dX6_meet_18 fl_X6_22 (jT_lt ht) (jT_sh ht) (by decide) jrf_6_4 ?_
    refine J_if_lt (t := 32) dX6_meet_21 (by decide) (fun c1 => ?_) (fun c1 => ?_)
    · replace h := ite_t c1 h
      refine J_aload_0 dX6_meet_32 ?_
      refine J_iload_1 dX6_meet_33 ?_
      refine J_putI false dX6_meet_34 pl_X6_22 (jT_lt ht) (jT_sh ht) (by decide) jrf_6_4 (fun q => absurd q (by decide)) ?_
      refine J_aload_0 dX6_meet_37 ?_
      refine J_iload_2 dX6_meet_38 ?_
      refine J_putI false dX6_meet_39 pl_X6_25 (jT_lt ht) (jT_sh ht) (by decide) jrf_6_5 (fun q => absurd q (by decide)) ?_
      refine J_iload_3 dX6_meet_42 ?_
      refine J_if_eq (t := 59) dX6_meet_43 (by decide) (fun c2 => ?_) (fun c2 => ?_)
      · replace h := ite_t c2 h
        refine J_aload_0 dX6_meet_59 ?_
        refine J_dup dX6_meet_60 rfl ?_
        refine J_getI dX6_meet_61 fl_X6_31 (jT_lt ht) (jT_sh ht) (by decide) jrf_6_7 ?_
        refine J_iconst (1 : Int32) dX6_meet_64 (by decide) ?_
        refine J_iadd dX6_meet_65 ?_
        refine J_putI false dX6_meet_66 pl_X6_31 (jT_lt ht) (jT_sh ht) (by decide) jrf_6_7 (fun q => absurd q (by decide)) ?_
        exact K_ret dX6_meet_69 rfl h
      · replace h := ite_f c2 h
        refine J_aload_0 dX6_meet_46 ?_
        refine J_dup dX6_meet_47 rfl ?_
        refine J_getI dX6_meet_48 fl_X6_28 (jT_lt ht) (jT_sh ht) (by decide) jrf_6_6 ?_
        refine J_iconst (1 : Int32) dX6_meet_51 (by decide) ?_
        refine J_iadd dX6_meet_52 ?_
        refine J_putI false dX6_meet_53 pl_X6_28 (jT_lt ht) (jT_sh ht) (by decide) jrf_6_6 (fun q => absurd q (by decide)) ?_
        refine J_goto (t := 69) dX6_meet_56 (by decide) ?_
        exact K_ret dX6_meet_69 rfl h
    · replace h := ite_f c1 h
      refine J_iload_2 dX6_meet_24 ?_
      refine J_aload_0 dX6_meet_25 ?_
      refine J_getI dX6_meet_26 fl_X6_25 (jT_lt ht) (jT_sh ht) (by decide) jrf_6_5 ?_
      refine J_icmp_lt (t := 42) dX6_meet_29 (by decide) (fun c2 => ?_) (fun c2 => ?_)
      · replace h := ite_t c2 h
        refine J_iload_3 dX6_meet_42 ?_
        refine J_if_eq (t := 59) dX6_meet_43 (by decide) (fun c3 => ?_) (fun c3 => ?_)
        · replace h := ite_t c3 h
          refine J_aload_0 dX6_meet_59 ?_
          refine J_dup dX6_meet_60 rfl ?_
          refine J_getI dX6_meet_61 fl_X6_31 (jT_lt ht) (jT_sh ht) (by decide) jrf_6_7 ?_
          refine J_iconst (1 : Int32) dX6_meet_64 (by decide) ?_
          refine J_iadd dX6_meet_65 ?_
          refine J_putI false dX6_meet_66 pl_X6_31 (jT_lt ht) (jT_sh ht) (by decide) jrf_6_7 (fun q => absurd q (by decide)) ?_
          exact K_ret dX6_meet_69 rfl h
        · replace h := ite_f c3 h
          refine J_aload_0 dX6_meet_46 ?_
          refine J_dup dX6_meet_47 rfl ?_
          refine J_getI dX6_meet_48 fl_X6_28 (jT_lt ht) (jT_sh ht) (by decide) jrf_6_6 ?_
          refine J_iconst (1 : Int32) dX6_meet_51 (by decide) ?_
          refine J_iadd dX6_meet_52 ?_
          refine J_putI false dX6_meet_53 pl_X6_28 (jT_lt ht) (jT_sh ht) (by decide) jrf_6_6 (fun q => absurd q (by decide)) ?_
          refine J_goto (t := 69) dX6_meet_56 (by decide) ?_
          exact K_ret dX6_meet_69 rfl h
      · replace h := ite_f c2 h
        refine J_aload_0 dX6_meet_32 ?_
        refine J_iload_1 dX6_meet_33 ?_
        refine J_putI false dX6_meet_34 pl_X6_22 (jT_lt ht) (jT_sh ht) (by decide) jrf_6_4 (fun q => absurd q (by decide)) ?_
        refine J_aload_0 dX6_meet_37 ?_
        refine J_iload_2 dX6_meet_38 ?_
        refine J_putI false dX6_meet_39 pl_X6_25 (jT_lt ht) (jT_sh ht) (by decide) jrf_6_5 (fun q => absurd q (by decide)) ?_
        refine J_iload_3 dX6_meet_42 ?_
        refine J_if_eq (t := 59) dX6_meet_43 (by decide) (fun c3 => ?_) (fun c3 => ?_)
        · replace h := ite_t c3 h
          refine J_aload_0 dX6_meet_59 ?_
          refine J_dup dX6_meet_60 rfl ?_
          refine J_getI dX6_meet_61 fl_X6_31 (jT_lt ht) (jT_sh ht) (by decide) jrf_6_7 ?_
          refine J_iconst (1 : Int32) dX6_meet_64 (by decide) ?_
          refine J_iadd dX6_meet_65 ?_
          refine J_putI false dX6_meet_66 pl_X6_31 (jT_lt ht) (jT_sh ht) (by decide) jrf_6_7 (fun q => absurd q (by decide)) ?_
          exact K_ret dX6_meet_69 rfl h
        · replace h := ite_f c3 h
          refine J_aload_0 dX6_meet_46 ?_
          refine J_dup dX6_meet_47 rfl ?_
          refine J_getI dX6_meet_48 fl_X6_28 (jT_lt ht) (jT_sh ht) (by decide) jrf_6_6 ?_
          refine J_iconst (1 : Int32) dX6_meet_51 (by decide) ?_
          refine J_iadd dX6_meet_52 ?_
          refine J_putI false dX6_meet_53 pl_X6_28 (jT_lt ht) (jT_sh ht) (by decide) jrf_6_6 (fun q => absurd q (by decide)) ?_
          refine J_goto (t := 69) dX6_meet_56 (by decide) ?_
          exact K_ret dX6_meet_69 rfl h
  · replace h := ite_f c0 h
    refine J_aload_0 dX6_meet_7 ?_
    refine J_iload_1 dX6_meet_8 ?_
    refine J_putI false dX6_meet_9 pl_X6_16 (jT_lt ht) (jT_sh ht) (by decide) jrf_6_2 (fun q => absurd q (by decide)) ?_
    refine J_aload_0 dX6_meet_12 ?_
    refine J_iload_1 dX6_meet_13 ?_
    refine J_putI false dX6_meet_14 pl_X6_19 (jT_lt ht) (jT_sh ht) (by decide) jrf_6_3 (fun q => absurd q (by decide)) ?_
    refine J_aload_0 dX6_meet_17 ?_
    refine J_getI dX6_meet_18 fl_X6_22 (jT_lt ht) (jT_sh ht) (by decide) jrf_6_4 ?_
    refine J_if_lt (t := 32) dX6_meet_21 (by decide) (fun c1 => ?_) (fun c1 => ?_)
    · replace h := ite_t c1 h
      refine J_aload_0 dX6_meet_32 ?_
      refine J_iload_1 dX6_meet_33 ?_
      refine J_putI false dX6_meet_34 pl_X6_22 (jT_lt ht) (jT_sh ht) (by decide) jrf_6_4 (fun q => absurd q (by decide)) ?_
      refine J_aload_0 dX6_meet_37 ?_
      refine J_iload_2 dX6_meet_38 ?_
      refine J_putI false dX6_meet_39 pl_X6_25 (jT_lt ht) (jT_sh ht) (by decide) jrf_6_5 (fun q => absurd q (by decide)) ?_
      refine J_iload_3 dX6_meet_42 ?_
      refine J_if_eq (t := 59) dX6_meet_43 (by decide) (fun c2 => ?_) (fun c2 => ?_)
      · replace h := ite_t c2 h
        refine J_aload_0 dX6_meet_59 ?_
        refine J_dup dX6_meet_60 rfl ?_
        refine J_getI dX6_meet_61 fl_X6_31 (jT_lt ht) (jT_sh ht) (by decide) jrf_6_7 ?_
        refine J_iconst (1 : Int32) dX6_meet_64 (by decide) ?_
        refine J_iadd dX6_meet_65 ?_
        refine J_putI false dX6_meet_66 pl_X6_31 (jT_lt ht) (jT_sh ht) (by decide) jrf_6_7 (fun q => absurd q (by decide)) ?_
        exact K_ret dX6_meet_69 rfl h
      · replace h := ite_f c2 h
        refine J_aload_0 dX6_meet_46 ?_
        refine J_dup dX6_meet_47 rfl ?_
        refine J_getI dX6_meet_48 fl_X6_28 (jT_lt ht) (jT_sh ht) (by decide) jrf_6_6 ?_
        refine J_iconst (1 : Int32) dX6_meet_51 (by decide) ?_
        refine J_iadd dX6_meet_52 ?_
        refine J_putI false dX6_meet_53 pl_X6_28 (jT_lt ht) (jT_sh ht) (by decide) jrf_6_6 (fun q => absurd q (by decide)) ?_
        refine J_goto (t := 69) dX6_meet_56 (by decide) ?_
        exact K_ret dX6_meet_69 rfl h
    · replace h := ite_f c1 h
      refine J_iload_2 dX6_meet_24 ?_
      refine J_aload_0 dX6_meet_25 ?_
      refine J_getI dX6_meet_26 fl_X6_25 (jT_lt ht) (jT_sh ht) (by decide) jrf_6_5 ?_
      refine J_icmp_lt (t := 42) dX6_meet_29 (by decide) (fun c2 => ?_) (fun c2 => ?_)
      · replace h := ite_t c2 h
        refine J_iload_3 dX6_meet_42 ?_
        refine J_if_eq (t := 59) dX6_meet_43 (by decide) (fun c3 => ?_) (fun c3 => ?_)
        · replace h := ite_t c3 h
          refine J_aload_0 dX6_meet_59 ?_
          refine J_dup dX6_meet_60 rfl ?_
          refine J_getI dX6_meet_61 fl_X6_31 (jT_lt ht) (jT_sh ht) (by decide) jrf_6_7 ?_
          refine J_iconst (1 : Int32) dX6_meet_64 (by decide) ?_
          refine J_iadd dX6_meet_65 ?_
          refine J_putI false dX6_meet_66 pl_X6_31 (jT_lt ht) (jT_sh ht) (by decide) jrf_6_7 (fun q => absurd q (by decide)) ?_
          exact K_ret dX6_meet_69 rfl h
        · replace h := ite_f c3 h
          refine J_aload_0 dX6_meet_46 ?_
          refine J_dup dX6_meet_47 rfl ?_
          refine J_getI dX6_meet_48 fl_X6_28 (jT_lt ht) (jT_sh ht) (by decide) jrf_6_6 ?_
          refine J_iconst (1 : Int32) dX6_meet_51 (by decide) ?_
          refine J_iadd dX6_meet_52 ?_
          refine J_putI false dX6_meet_53 pl_X6_28 (jT_lt ht) (jT_sh ht) (by decide) jrf_6_6 (fun q => absurd q (by decide)) ?_
          refine J_goto (t := 69) dX6_meet_56 (by decide) ?_
          exact K_ret dX6_meet_69 rfl h
      · replace h := ite_f c2 h
        refine J_aload_0 dX6_meet_32 ?_
        refine J_iload_1 dX6_meet_33 ?_
        refine J_putI false dX6_meet_34 pl_X6_22 (jT_lt ht) (jT_sh ht) (by decide) jrf_6_4 (fun q => absurd q (by decide)) ?_
        refine J_aload_0 dX6_meet_37 ?_
        refine J_iload_2 dX6_meet_38 ?_
        refine J_putI false dX6_meet_39 pl_X6_25 (jT_lt ht) (jT_sh ht) (by decide) jrf_6_5 (fun q => absurd q (by decide)) ?_
        refine J_iload_3 dX6_meet_42 ?_
        refine J_if_eq (t := 59) dX6_meet_43 (by decide) (fun c3 => ?_) (fun c3 => ?_)
        · replace h := ite_t c3 h
          refine J_aload_0 dX6_meet_59 ?_
          refine J_dup dX6_meet_60 rfl ?_
          refine J_getI dX6_meet_61 fl_X6_31 (jT_lt ht) (jT_sh ht) (by decide) jrf_6_7 ?_
          refine J_iconst (1 : Int32) dX6_meet_64 (by decide) ?_
          refine J_iadd dX6_meet_65 ?_
          refine J_putI false dX6_meet_66 pl_X6_31 (jT_lt ht) (jT_sh ht) (by decide) jrf_6_7 (fun q => absurd q (by decide)) ?_
          exact K_ret dX6_meet_69 rfl h
        · replace h := ite_f c3 h
          refine J_aload_0 dX6_meet_46 ?_
          refine J_dup dX6_meet_47 rfl ?_
          refine J_getI dX6_meet_48 fl_X6_28 (jT_lt ht) (jT_sh ht) (by decide) jrf_6_6 ?_
          refine J_iconst (1 : Int32) dX6_meet_51 (by decide) ?_
          refine J_iadd dX6_meet_52 ?_
          refine J_putI false dX6_meet_53 pl_X6_28 (jT_lt ht) (jT_sh ht) (by decide) jrf_6_6 (fun q => absurd q (by decide)) ?_
          refine J_goto (t := 69) dX6_meet_56 (by decide) ?_
          exact K_ret dX6_meet_69 rfl h
theorem eX6_meet {G : jGT} {d : Nat} {t : Nat} {x1 : Int32} {x2 : Int32} {x3 : Int32} {M : jM} {post : jM → Prop} (h : kX6_meet_0 G d t x1 x2 x3 M post) : CV G d mX6_meet [.ref t, .int x1, .int x2, .int x3] M post := Con_of_J ok_X6_meet 0 rfl rfl h
def kX6_likes_0 (G : jGT) (d : Nat) (t : Nat)  (M : jM) (post : Int32 → jM → Prop) : Prop := J G d mX6_likes 0 [some (.ref t)] [] jN jSH M jMR 0 0 0 0 (jQi post)
theorem bX6_likes_0 {G : jGT} {d : Nat} {t : Nat} (ht : jT t)  {M : jM} {post : Int32 → jM → Prop} (h : post ((M t 6) + (M t 7)) M) : kX6_likes_0 G d t  M post := by
  unfold kX6_likes_0
  refine J_aload_0 dX6_likes_0 ?_
  refine J_getI dX6_likes_1 fl_X6_28 (jT_lt ht) (jT_sh ht) (by decide) jrf_6_6 ?_
  refine J_aload_0 dX6_likes_4 ?_
  refine J_getI dX6_likes_5 fl_X6_31 (jT_lt ht) (jT_sh ht) (by decide) jrf_6_7 ?_
  refine J_iadd dX6_likes_8 ?_
  exact K_iret dX6_likes_9 rfl h
theorem eX6_likes {G : jGT} {d : Nat} {t : Nat} {M : jM} {post : Int32 → jM → Prop} (h : kX6_likes_0 G d t  M post) : CI G d mX6_likes [.ref t] M post := Con_of_J ok_X6_likes 0 rfl rfl h
def kX6_torn_0 (G : jGT) (d : Nat) (t : Nat)  (M : jM) (post : Int32 → jM → Prop) : Prop := J G d mX6_torn 0 [some (.ref t)] [] jN jSH M jMR 0 0 0 0 (jQi post)
theorem bX6_torn_0 {G : jGT} {d : Nat} {t : Nat} (ht : jT t)  {M : jM} {post : Int32 → jM → Prop} (h : (if (M t 6) ≤ 0 then post (0 : Int32) M else (if (M t 7) ≤ 0 then post (0 : Int32) M else post (1 : Int32) M))) : kX6_torn_0 G d t  M post := by
  unfold kX6_torn_0
  refine J_aload_0 dX6_torn_0 ?_
  refine J_getI dX6_torn_1 fl_X6_28 (jT_lt ht) (jT_sh ht) (by decide) jrf_6_6 ?_
  refine J_if_le (t := 18) dX6_torn_4 (by decide) (fun c0 => ?_) (fun c0 => ?_)
  · replace h := ite_t c0 h
    refine J_iconst (0 : Int32) dX6_torn_18 (by decide) ?_
    exact K_zret dX6_torn_19 rfl (by decide +kernel) h
  · replace h := ite_f c0 h
    refine J_aload_0 dX6_torn_7 ?_
    refine J_getI dX6_torn_8 fl_X6_31 (jT_lt ht) (jT_sh ht) (by decide) jrf_6_7 ?_
    refine J_if_le (t := 18) dX6_torn_11 (by decide) (fun c1 => ?_) (fun c1 => ?_)
    · replace h := ite_t c1 h
      refine J_iconst (0 : Int32) dX6_torn_18 (by decide) ?_
      exact K_zret dX6_torn_19 rfl (by decide +kernel) h
    · replace h := ite_f c1 h
      refine J_iconst (1 : Int32) dX6_torn_14 (by decide) ?_
      refine J_goto (t := 19) dX6_torn_15 (by decide) ?_
      exact K_zret dX6_torn_19 rfl (by decide +kernel) h
theorem eX6_torn {G : jGT} {d : Nat} {t : Nat} {M : jM} {post : Int32 → jM → Prop} (h : kX6_torn_0 G d t  M post) : CI G d mX6_torn [.ref t] M post := Con_of_J ok_X6_torn 0 rfl rfl h
