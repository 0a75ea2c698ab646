theorem fk_iincV {E : fk_E} {M : fk_M} {K : fk_K} {n : Nat × Nat} {w : va_W} {pc : Nat} {lv : List (Nat × Value)} {st : List Value} {i j : Nat} {k : Int} {x v : Int32} {lv' : List (Nat × Value)} (d : decode M.1 pc = .ok (.iinc i k, 3)) (hk : lv[j]? = some (i, .int x)) (hv : x + Int32.ofInt k = v) (hn : i < M.2.2.1) (ks : List Nat) (h : lv_pick ((i, Value.int v) :: lv.filter (fun q => !(q.1 == i) && !(q.1 + 1 == i && q.2.category == 2))) ks = lv') (kk : fk_V E M K n w (pc + 3) lv' st) : fk_V E M K n w pc lv st := by
  obtain ⟨p, l, e, s, m, args, below, meth, c, Q, A⟩ := K
  intro F h1 h2 H locs ls hl hP hD hS
  exact lv_iinc F.1 F.2.1 d hl hk hv hn rfl (fun ls' hl' => kk F h1 h2 H locs ls' (lv_sub hl' ks h) hP hD hS)
theorem fn_decJ {a : Nat} (h : 0 < a) : nI a - 1 + Int32.ofInt (-1) = nI (a - 1) - 1 := by
  rw [fn_jn h, show Int32.ofInt (-1) = -1 from by decide +kernel]
  exact (Int32.sub_eq_add_neg _ _).symm
set_option maxRecDepth 20000 in
set_option maxHeartbeats 4000000 in
theorem cA_fillM (E : fk_E) (a : Nat) (N : Nat) (v : Nat) (g : Nat → Nat) (hN : N < 2 ^ 31) : fk_C E fy_Ar_fillI prog_10_method_103_code 4 none 0 0 0 [.ref a, .int (nI v - 1)] [fk_aj E a N g] (S := (Nat → Nat)) (fun (u : (Nat → Nat)) => none) (fun (u : (Nat → Nat)) => ∀ k, k < N → u k = v) (fun (u : (Nat → Nat)) => [fk_aj E a N u]) := by
  refine fk_enterV (by decide) (Nat.le_of_ble_eq_true rfl) (lv0 := [(0, .ref a), (1, .int (nI v - 1))]) rfl ?_
  intro K hini hret
  refine fk_iconst (v := nI 0) d_Ar_fillI_0 (by decide +kernel) ?_
  refine fk_istore_n (lv' := [(0, .ref a), (1, .int (nI v - 1)), (2, .int (nI 0))]) d_Ar_fillI_1 rfl (Nat.le_of_ble_eq_true rfl) [1, 2, 0] rfl ?_
  refine fk_aload_n 0 d_Ar_fillI_2 rfl ?_
  refine fk_alen (t0 := 0) 0 rfl rfl d_Ar_fillI_3 ?_
  refine fk_istore_n (lv' := [(0, .ref a), (1, .int (nI v - 1)), (2, .int (nI 0)), (3, .int (nI N))]) d_Ar_fillI_4 rfl (Nat.le_of_ble_eq_true rfl) [1, 2, 3, 0] rfl ?_
  have L5 : ∀ (fuel : Nat) (i : Nat) (g1 : Nat → Nat), (i ≤ N) → (∀ k, k < i → g1 k = v) → N - i < fuel → fk_V E (prog_10_method_103_code, fy_Ar_fillI.cls, 4, fk_rm 0 0 0) K (0, 0) [fk_aj E a N g1] 5 [(0, .ref a), (1, .int (nI v - 1)), (2, .int (nI i)), (3, .int (nI N))] [] := by
    intro fuel
    induction fuel with
    | zero => intro i g1 _ _ hm; exact absurd hm (Nat.not_lt_zero _)
    | succ fuel ih =>
      intro i g1 hi hg hm5
      have ih5 := ih
      clear ih
      refine fk_iload_n 2 d_Ar_fillI_5 rfl ?_
      refine fk_iload_n 3 d_Ar_fillI_6 rfl ?_
      refine fk_icmp_ge (a := i) (b := N) (by omega) (by omega) d_Ar_fillI_7 rfl (fun h7t => ?_) (fun h7f => ?_)
      · have hpp : ∀ k, k < N → g1 k = v := fun k hk => hg k (by omega)
        exact hret (0, 0) _ 20 _ g1 d_Ar_fillI_20 (hpp) (rfl)
      · refine fk_aload_n 0 d_Ar_fillI_10 rfl ?_
        refine fk_iload_n 2 d_Ar_fillI_11 rfl ?_
        refine fk_iload_n 1 d_Ar_fillI_12 rfl ?_
        refine fk_st_aj (i := i) (x := v) (w' := [fk_aj E a N (va_up g1 i v)]) 0 rfl (by omega) (by omega) d_Ar_fillI_13 rfl ?_
        refine fk_iinc (j := 2) (lv' := [(0, .ref a), (1, .int (nI v - 1)), (2, .int (nI (i + 1))), (3, .int (nI N))]) (i + 1) d_Ar_fillI_14 rfl (nI_1 i) (Nat.le_of_ble_eq_true rfl) [1, 2, 0, 3] rfl ?_
        refine fk_goto d_Ar_fillI_17 rfl ?_
        refine ih5 _ _ ?_ ?_ ?_
        · first | omega | assumption | exact Nat.zero_le _
        · intro k hk
          by_cases e : k = i
          · subst e
            exact va_up_self _ _ _
          · rw [va_up_ne _ _ e]
            exact hg k (by omega)
        · omega
  refine L5 _ _ _ ?_ ?_ (Nat.lt_succ_self _)
  · first | omega | assumption | exact Nat.zero_le _
  · exact fun k hk => absurd hk (Nat.not_lt_zero k)
theorem d_Re_markingCount_0 : decode prog_6_method_2_code 0 = .ok (.aload_n 0, 1) := by decide +kernel
theorem d_Re_markingCount_1 : decode prog_6_method_2_code 1 = .ok (.getfield 26, 3) := by decide +kernel
theorem d_Re_markingCount_4 : decode prog_6_method_2_code 4 = .ok (.ireturn, 1) := by decide +kernel
set_option maxRecDepth 20000 in
set_option maxHeartbeats 4000000 in
theorem cR_markingCount (E : fk_E) (r0 : Nat) (r1 : Nat) (r2 : Nat) (r3 : Nat) (r4 : Nat) (c : Nat) (ev : Nat)  : fk_C E fy_Re_markingCount prog_6_method_2_code 1 (some .int) 0 0 0 [.ref r0] [(r0, .inr (4, [.ref r1, .ref r2, .ref r3, .ref r4, .int (nI c), .int (nI ev)]))] (S := Unit) (fun _ => some (.int (nI c))) (fun _ => True) (fun _ => [(r0, .inr (4, [.ref r1, .ref r2, .ref r3, .ref r4, .int (nI c), .int (nI ev)]))]) := by
  refine fk_enterI (v := fun _ => (nI c)) (by decide) (Nat.le_of_ble_eq_true rfl) (lv0 := [(0, .ref r0)]) rfl ?_
  intro K hini hret
  refine fk_aload_n 0 d_Re_markingCount_0 rfl ?_
  refine fk_get 0 4 rfl rfl fh_Re (Nat.le_of_ble_eq_true rfl) fw_106 rfl d_Re_markingCount_1 ?_
  exact hret (0, 0) _ 4 _ () d_Re_markingCount_4 (trivial) (rfl)
theorem d_Re_addAt_0 : decode prog_6_method_6_code 0 = .ok (.aload_n 0, 1) := by decide +kernel
theorem d_Re_addAt_1 : decode prog_6_method_6_code 1 = .ok (.getfield 26, 3) := by decide +kernel
theorem d_Re_addAt_4 : decode prog_6_method_6_code 4 = .ok (.sipush 200, 3) := by decide +kernel
theorem d_Re_addAt_7 : decode prog_6_method_6_code 7 = .ok (.if_icmp .ne 5, 3) := by decide +kernel
theorem d_Re_addAt_10 : decode prog_6_method_6_code 10 = .ok (.iconst (-1), 1) := by decide +kernel
theorem d_Re_addAt_11 : decode prog_6_method_6_code 11 = .ok (.ireturn, 1) := by decide +kernel
theorem d_Re_addAt_12 : decode prog_6_method_6_code 12 = .ok (.aload_n 0, 1) := by decide +kernel
theorem d_Re_addAt_13 : decode prog_6_method_6_code 13 = .ok (.getfield 9, 3) := by decide +kernel
theorem d_Re_addAt_16 : decode prog_6_method_6_code 16 = .ok (.aload_n 0, 1) := by decide +kernel
theorem d_Re_addAt_17 : decode prog_6_method_6_code 17 = .ok (.getfield 26, 3) := by decide +kernel
theorem d_Re_addAt_20 : decode prog_6_method_6_code 20 = .ok (.lload_n 2, 1) := by decide +kernel
theorem d_Re_addAt_21 : decode prog_6_method_6_code 21 = .ok (.lastore, 1) := by decide +kernel
theorem d_Re_addAt_22 : decode prog_6_method_6_code 22 = .ok (.aload_n 0, 1) := by decide +kernel
theorem d_Re_addAt_23 : decode prog_6_method_6_code 23 = .ok (.getfield 15, 3) := by decide +kernel
theorem d_Re_addAt_26 : decode prog_6_method_6_code 26 = .ok (.iload_n 1, 1) := by decide +kernel
theorem d_Re_addAt_27 : decode prog_6_method_6_code 27 = .ok (.aload_n 0, 1) := by decide +kernel
theorem d_Re_addAt_28 : decode prog_6_method_6_code 28 = .ok (.getfield 26, 3) := by decide +kernel
theorem d_Re_addAt_31 : decode prog_6_method_6_code 31 = .ok (.iastore, 1) := by decide +kernel
theorem d_Re_addAt_32 : decode prog_6_method_6_code 32 = .ok (.aload_n 0, 1) := by decide +kernel
theorem d_Re_addAt_33 : decode prog_6_method_6_code 33 = .ok (.dup, 1) := by decide +kernel
theorem d_Re_addAt_34 : decode prog_6_method_6_code 34 = .ok (.getfield 26, 3) := by decide +kernel
theorem d_Re_addAt_37 : decode prog_6_method_6_code 37 = .ok (.iconst 1, 1) := by decide +kernel
theorem d_Re_addAt_38 : decode prog_6_method_6_code 38 = .ok (.iadd, 1) := by decide +kernel
theorem d_Re_addAt_39 : decode prog_6_method_6_code 39 = .ok (.putfield 26, 3) := by decide +kernel
theorem d_Re_addAt_42 : decode prog_6_method_6_code 42 = .ok (.aload_n 0, 1) := by decide +kernel
theorem d_Re_addAt_43 : decode prog_6_method_6_code 43 = .ok (.getfield 26, 3) := by decide +kernel
theorem d_Re_addAt_46 : decode prog_6_method_6_code 46 = .ok (.iconst 1, 1) := by decide +kernel
theorem d_Re_addAt_47 : decode prog_6_method_6_code 47 = .ok (.isub, 1) := by decide +kernel
theorem d_Re_addAt_48 : decode prog_6_method_6_code 48 = .ok (.ireturn, 1) := by decide +kernel
set_option maxRecDepth 20000 in
set_option maxHeartbeats 4000000 in
theorem cR_addAtF (E : fk_E) (r0 : Nat) (r1 : Nat) (r2 : Nat) (r3 : Nat) (r4 : Nat) (c : Nat) (ev : Nat) (sn : Nat → Nat) (sl : Nat → Nat) (q : Nat) (y : Nat) (hc : c = 200) : fk_C E fy_Re_addAt prog_6_method_6_code 4 (some .int) 0 0 0 [.ref r0, .int (nI q), .long (lN y)] [(r0, .inr (4, [.ref r1, .ref r2, .ref r3, .ref r4, .int (nI c), .int (nI ev)])), fk_al E r1 200 sn, fk_aj E r2 512 sl] (S := Unit) (fun _ => some (.int (nI 0 - 1))) (fun _ => True) (fun _ => [(r0, .inr (4, [.ref r1, .ref r2, .ref r3, .ref r4, .int (nI c), .int (nI ev)])), fk_al E r1 200 sn, fk_aj E r2 512 sl]) := by
  refine fk_enterI (v := fun _ => (nI 0 - 1)) (by decide) (Nat.le_of_ble_eq_true rfl) (lv0 := [(0, .ref r0), (1, .int (nI q)), (2, .long (lN y))]) rfl ?_
  intro K hini hret
  refine fk_aload_n 0 d_Re_addAt_0 rfl ?_
  refine fk_get 0 4 rfl rfl fh_Re (Nat.le_of_ble_eq_true rfl) fw_106 rfl d_Re_addAt_1 ?_
  refine fk_sipush (v := nI 200) d_Re_addAt_4 (by decide +kernel) ?_
  refine fk_icmp_ne (a := c) (b := 200) (by omega) (by omega) d_Re_addAt_7 rfl (fun h7t => ?_) (fun h7f => ?_)
  · exact absurd hc h7t
  · refine fk_iconst (v := nI 0 - 1) d_Re_addAt_10 (by decide +kernel) ?_
    exact hret (0, 0) _ 11 _ () d_Re_addAt_11 (trivial) (rfl)
set_option maxRecDepth 20000 in
set_option maxHeartbeats 4000000 in
theorem cR_addAt (E : fk_E) (r0 : Nat) (r1 : Nat) (r2 : Nat) (r3 : Nat) (r4 : Nat) (c : Nat) (ev : Nat) (sn : Nat → Nat) (sl : Nat → Nat) (q : Nat) (y : Nat) (hc : c < 200) (hq : q < 512) : fk_C E fy_Re_addAt prog_6_method_6_code 4 (some .int) 0 0 0 [.ref r0, .int (nI q), .long (lN y)] [(r0, .inr (4, [.ref r1, .ref r2, .ref r3, .ref r4, .int (nI c), .int (nI ev)])), fk_al E r1 200 sn, fk_aj E r2 512 sl] (S := Unit) (fun _ => some (.int (nI (c + 1) - 1))) (fun _ => True) (fun _ => [(r0, .inr (4, [.ref r1, .ref r2, .ref r3, .ref r4, .int (nI (c + 1)), .int (nI ev)])), fk_al E r1 200 (va_up sn c y), fk_aj E r2 512 (va_up sl q (c + 1))]) := by
  refine fk_enterI (v := fun _ => (nI (c + 1) - 1)) (by decide) (Nat.le_of_ble_eq_true rfl) (lv0 := [(0, .ref r0), (1, .int (nI q)), (2, .long (lN y))]) rfl ?_
  intro K hini hret
  refine fk_aload_n 0 d_Re_addAt_0 rfl ?_
  refine fk_get 0 4 rfl rfl fh_Re (Nat.le_of_ble_eq_true rfl) fw_106 rfl d_Re_addAt_1 ?_
  refine fk_sipush (v := nI 200) d_Re_addAt_4 (by decide +kernel) ?_
  refine fk_icmp_ne (a := c) (b := 200) (by omega) (by omega) d_Re_addAt_7 rfl (fun h7t => ?_) (fun h7f => ?_)
  · refine fk_aload_n 0 d_Re_addAt_12 rfl ?_
    refine fk_get 0 0 rfl rfl fh_Re (Nat.le_of_ble_eq_true rfl) fw_102 rfl d_Re_addAt_13 ?_
    refine fk_aload_n 0 d_Re_addAt_16 rfl ?_
    refine fk_get 0 4 rfl rfl fh_Re (Nat.le_of_ble_eq_true rfl) fw_106 rfl d_Re_addAt_17 ?_
    refine fk_lload_n 2 d_Re_addAt_20 rfl ?_
    refine fk_st_al (i := c) (x := y) (w' := [(r0, .inr (4, [.ref r1, .ref r2, .ref r3, .ref r4, .int (nI c), .int (nI ev)])), fk_al E r1 200 (va_up sn c y), fk_aj E r2 512 sl]) 1 rfl (by omega) (by decide) d_Re_addAt_21 rfl ?_
    refine fk_aload_n 0 d_Re_addAt_22 rfl ?_
    refine fk_get 0 1 rfl rfl fh_Re (Nat.le_of_ble_eq_true rfl) fw_103 rfl d_Re_addAt_23 ?_
    refine fk_iload_n 1 d_Re_addAt_26 rfl ?_
    refine fk_aload_n 0 d_Re_addAt_27 rfl ?_
    refine fk_get 0 4 rfl rfl fh_Re (Nat.le_of_ble_eq_true rfl) fw_106 rfl d_Re_addAt_28 ?_
    refine fk_top (show nI c = nI (c + 1) - 1 from (nI_pred _).symm) ?_
    refine fk_st_aj (i := q) (x := (c + 1)) (w' := [(r0, .inr (4, [.ref r1, .ref r2, .ref r3, .ref r4, .int (nI c), .int (nI ev)])), fk_al E r1 200 (va_up sn c y), fk_aj E r2 512 (va_up sl q (c + 1))]) 2 rfl (by omega) (by decide) d_Re_addAt_31 rfl ?_
    refine fk_aload_n 0 d_Re_addAt_32 rfl ?_
    refine fk_dup d_Re_addAt_33 rfl ?_
    refine fk_get 0 4 rfl rfl fh_Re (Nat.le_of_ble_eq_true rfl) fw_106 rfl d_Re_addAt_34 ?_
    refine fk_iconst (v := nI 1) d_Re_addAt_37 (by decide +kernel) ?_
    refine fk_iadd (a := c) (b := 1) d_Re_addAt_38 ?_
    refine fk_put (w' := [(r0, .inr (4, [.ref r1, .ref r2, .ref r3, .ref r4, .int (nI (c + 1)), .int (nI ev)])), fk_al E r1 200 (va_up sn c y), fk_aj E r2 512 (va_up sl q (c + 1))]) 0 4 fT_Re fT_Re_ok fT_Re_nm rfl rfl fh_Re (Nat.le_of_ble_eq_true rfl) fw_106 rfl (fT_Re_ok 4 (Nat.le_of_ble_eq_true rfl)) rfl rfl (Nat.le_of_ble_eq_true rfl) d_Re_addAt_39 rfl ?_
    refine fk_aload_n 0 d_Re_addAt_42 rfl ?_
    refine fk_get 0 4 rfl rfl fh_Re (Nat.le_of_ble_eq_true rfl) fw_106 rfl d_Re_addAt_43 ?_
    refine fk_iconst (v := nI 1) d_Re_addAt_46 (by decide +kernel) ?_
    refine fk_isub (a := (c + 1)) (b := 1) d_Re_addAt_47 (by omega) ?_
    refine fk_top (show (nI ((c + 1) - 1)) = (nI (c + 1) - 1) from by rw [Nat.add_sub_cancel]; exact (nI_pred c).symm) ?_
    exact hret (0, 0) _ 48 _ () d_Re_addAt_48 (trivial) (rfl)
  · omega
theorem d_Re_indexOf_0 : decode prog_6_method_5_code 0 = .ok (.lload_n 1, 1) := by decide +kernel
theorem d_Re_indexOf_1 : decode prog_6_method_5_code 1 = .ok (.ldc2_w 62, 3) := by decide +kernel
theorem d_Re_indexOf_4 : decode prog_6_method_5_code 4 = .ok (.lmul, 1) := by decide +kernel
theorem d_Re_indexOf_5 : decode prog_6_method_5_code 5 = .ok (.bipush 55, 2) := by decide +kernel
theorem d_Re_indexOf_7 : decode prog_6_method_5_code 7 = .ok (.lushr, 1) := by decide +kernel
theorem d_Re_indexOf_8 : decode prog_6_method_5_code 8 = .ok (.l2i, 1) := by decide +kernel
theorem d_Re_indexOf_9 : decode prog_6_method_5_code 9 = .ok (.istore_n 3, 1) := by decide +kernel
theorem d_Re_indexOf_10 : decode prog_6_method_5_code 10 = .ok (.iconst 0, 1) := by decide +kernel
theorem d_Re_indexOf_11 : decode prog_6_method_5_code 11 = .ok (.istore 4, 2) := by decide +kernel
theorem d_Re_indexOf_13 : decode prog_6_method_5_code 13 = .ok (.iload 4, 2) := by decide +kernel
theorem d_Re_indexOf_15 : decode prog_6_method_5_code 15 = .ok (.sipush 512, 3) := by decide +kernel
theorem d_Re_indexOf_18 : decode prog_6_method_5_code 18 = .ok (.if_icmp .ge 53, 3) := by decide +kernel
theorem d_Re_indexOf_21 : decode prog_6_method_5_code 21 = .ok (.aload_n 0, 1) := by decide +kernel
theorem d_Re_indexOf_22 : decode prog_6_method_5_code 22 = .ok (.getfield 15, 3) := by decide +kernel
theorem d_Re_indexOf_25 : decode prog_6_method_5_code 25 = .ok (.iload_n 3, 1) := by decide +kernel
theorem d_Re_indexOf_26 : decode prog_6_method_5_code 26 = .ok (.iaload, 1) := by decide +kernel
theorem d_Re_indexOf_27 : decode prog_6_method_5_code 27 = .ok (.istore 5, 2) := by decide +kernel
theorem d_Re_indexOf_29 : decode prog_6_method_5_code 29 = .ok (.iload 5, 2) := by decide +kernel
theorem d_Re_indexOf_31 : decode prog_6_method_5_code 31 = .ok (.iconst (-1), 1) := by decide +kernel
theorem d_Re_indexOf_32 : decode prog_6_method_5_code 32 = .ok (.if_icmp .ne 10, 3) := by decide +kernel
theorem d_Re_indexOf_35 : decode prog_6_method_5_code 35 = .ok (.aload_n 0, 1) := by decide +kernel
theorem d_Re_indexOf_36 : decode prog_6_method_5_code 36 = .ok (.iload_n 3, 1) := by decide +kernel
theorem d_Re_indexOf_37 : decode prog_6_method_5_code 37 = .ok (.lload_n 1, 1) := by decide +kernel
theorem d_Re_indexOf_38 : decode prog_6_method_5_code 38 = .ok (.invokevirtual 64, 3) := by decide +kernel
theorem d_Re_indexOf_41 : decode prog_6_method_5_code 41 = .ok (.ireturn, 1) := by decide +kernel
theorem d_Re_indexOf_42 : decode prog_6_method_5_code 42 = .ok (.aload_n 0, 1) := by decide +kernel
theorem d_Re_indexOf_43 : decode prog_6_method_5_code 43 = .ok (.getfield 9, 3) := by decide +kernel
theorem d_Re_indexOf_46 : decode prog_6_method_5_code 46 = .ok (.iload 5, 2) := by decide +kernel
theorem d_Re_indexOf_48 : decode prog_6_method_5_code 48 = .ok (.laload, 1) := by decide +kernel
theorem d_Re_indexOf_49 : decode prog_6_method_5_code 49 = .ok (.lload_n 1, 1) := by decide +kernel
theorem d_Re_indexOf_50 : decode prog_6_method_5_code 50 = .ok (.lcmp, 1) := by decide +kernel
theorem d_Re_indexOf_51 : decode prog_6_method_5_code 51 = .ok (.ifCond .ne 6, 3) := by decide +kernel
theorem d_Re_indexOf_54 : decode prog_6_method_5_code 54 = .ok (.iload 5, 2) := by decide +kernel
theorem d_Re_indexOf_56 : decode prog_6_method_5_code 56 = .ok (.ireturn, 1) := by decide +kernel
theorem d_Re_indexOf_57 : decode prog_6_method_5_code 57 = .ok (.iload_n 3, 1) := by decide +kernel
theorem d_Re_indexOf_58 : decode prog_6_method_5_code 58 = .ok (.iconst 1, 1) := by decide +kernel
theorem d_Re_indexOf_59 : decode prog_6_method_5_code 59 = .ok (.iadd, 1) := by decide +kernel
theorem d_Re_indexOf_60 : decode prog_6_method_5_code 60 = .ok (.sipush 512, 3) := by decide +kernel
theorem d_Re_indexOf_63 : decode prog_6_method_5_code 63 = .ok (.irem, 1) := by decide +kernel
theorem d_Re_indexOf_64 : decode prog_6_method_5_code 64 = .ok (.istore_n 3, 1) := by decide +kernel
theorem d_Re_indexOf_65 : decode prog_6_method_5_code 65 = .ok (.iinc 4 1, 3) := by decide +kernel
theorem d_Re_indexOf_68 : decode prog_6_method_5_code 68 = .ok (.goto (-55), 3) := by decide +kernel
theorem d_Re_indexOf_71 : decode prog_6_method_5_code 71 = .ok (.iconst (-1), 1) := by decide +kernel
theorem d_Re_indexOf_72 : decode prog_6_method_5_code 72 = .ok (.ireturn, 1) := by decide +kernel
set_option maxRecDepth 20000 in
set_option maxHeartbeats 4000000 in
theorem cR_indexOf (E : fk_E) (r0 : Nat) (r1 : Nat) (r2 : Nat) (r3 : Nat) (r4 : Nat) (c : Nat) (ev : Nat) (sn : Nat → Nat) (sl : Nat → Nat) (y : Nat) (hy : y < 2 ^ 64) (hV : fe_V c sn) (hH : fe_H c sn sl) : fk_C E fy_Re_indexOf prog_6_method_5_code 6 (some .int) 1 0 0 [.ref r0, .long (lN y)] [(r0, .inr (4, [.ref r1, .ref r2, .ref r3, .ref r4, .int (nI c), .int (nI ev)])), fk_al E r1 200 sn, fk_aj E r2 512 sl] (S := Nat × Nat × (Nat → Nat) × (Nat → Nat)) (fun (u : Nat × Nat × (Nat → Nat) × (Nat → Nat)) => some (.int (nI u.1 - 1))) (fun (u : Nat × Nat × (Nat → Nat) × (Nat → Nat)) => (fe_find sn y c < c → u.1 = fe_find sn y c + 1 ∧ u.2.1 = c ∧ u.2.2.1 = sn ∧ u.2.2.2 = sl) ∧ (¬ fe_find sn y c < c → (c = 200 → u.1 = 0) ∧ (c < 200 → u.1 = c + 1 ∧ u.2.1 = c + 1 ∧ u.2.2.1 = va_up sn c y ∧ fe_H (c + 1) (va_up sn c y) u.2.2.2))) (fun (u : Nat × Nat × (Nat → Nat) × (Nat → Nat)) => [(r0, .inr (4, [.ref r1, .ref r2, .ref r3, .ref r4, .int (nI u.2.1), .int (nI ev)])), fk_al E r1 200 u.2.2.1, fk_aj E r2 512 u.2.2.2]) := by
  refine fk_enterI (v := fun (u : Nat × Nat × (Nat → Nat) × (Nat → Nat)) => (nI u.1 - 1)) (by decide) (Nat.le_of_ble_eq_true rfl) (lv0 := [(0, .ref r0), (1, .long (lN y))]) rfl ?_
  intro K hini hret
  have hc := hV.1
  have hh := fe_h_lt y
  refine fk_lload_n 1 d_Re_indexOf_0 rfl ?_
  refine fk_ldc2 (v := (-7046029254386353131 : Int64)) d_Re_indexOf_1 fw_393 ?_
  refine fk_topl (show (-7046029254386353131 : Int64) = lN 11400714819323198485 by decide +kernel) ?_
  refine fk_lmulR d_Re_indexOf_4 ?_
  refine fk_topl (show ((lN y) * (lN 11400714819323198485)) = (lN (y * 11400714819323198485 % 2 ^ 64)) from (lN_mul _ _).trans (fn_lmod _)) ?_
  refine fk_bipush (v := nI 55) d_Re_indexOf_5 (by decide +kernel) ?_
  refine fk_lushr d_Re_indexOf_7 (fn_lushr (a := (y * 11400714819323198485 % 2 ^ 64)) (k := 55) (Nat.mod_lt _ (by decide)) (by decide)) ?_
  refine fk_l2i d_Re_indexOf_8 (lN_i ((y * 11400714819323198485 % 2 ^ 64) / 2 ^ 55)) ?_
  refine fk_top (show (nI ((y * 11400714819323198485 % 2 ^ 64) / 2 ^ 55)) = (nI (fe_h y)) from rfl) ?_
  refine fk_istore_n (lv' := [(0, .ref r0), (1, .long (lN y)), (3, .int (nI (fe_h y)))]) d_Re_indexOf_9 rfl (Nat.le_of_ble_eq_true rfl) [1, 2, 0] rfl ?_
  refine fk_iconst (v := nI 0) d_Re_indexOf_10 (by decide +kernel) ?_
  refine fk_istore (lv' := [(0, .ref r0), (1, .long (lN y)), (3, .int (nI (fe_h y))), (4, .int (nI 0))]) d_Re_indexOf_11 (Nat.le_of_ble_eq_true rfl) [1, 2, 3, 0] rfl ?_
  have L13 : ∀ (fuel : Nat) (d : Nat) (q : Nat), (d ≤ 512) → (q = (fe_h y + d) % 512) → (∀ e, e < d → sl ((fe_h y + e) % 512) ≠ 0 ∧ sn (sl ((fe_h y + e) % 512) - 1) ≠ y) → 512 - d < fuel → fk_V E (prog_6_method_5_code, fy_Re_indexOf.cls, 6, fk_rm 1 0 0) K (0, 0) [(r0, .inr (4, [.ref r1, .ref r2, .ref r3, .ref r4, .int (nI c), .int (nI ev)])), fk_al E r1 200 sn, fk_aj E r2 512 sl] 13 [(0, .ref r0), (1, .long (lN y)), (3, .int (nI q)), (4, .int (nI d))] [] := by
    intro fuel
    induction fuel with
    | zero => intro d q _ _ _ hm; exact absurd hm (Nat.not_lt_zero _)
    | succ fuel ih =>
      intro d q h1 h2 h3 hm13
      have ih13 := ih
      clear ih
      refine fk_iload 3 d_Re_indexOf_13 rfl ?_
      refine fk_sipush (v := nI 512) d_Re_indexOf_15 (by decide +kernel) ?_
      refine fk_icmp_ge (a := d) (b := 512) (by omega) (by omega) d_Re_indexOf_18 rfl (fun h18t => ?_) (fun h18f => ?_)
      · exfalso
        exact fe_H_end hH hc (fun e he => (h3 e (by omega)).1)
      · have g1 := hH.1 q (by omega)
        refine fk_aload_n 0 d_Re_indexOf_21 rfl ?_
        refine fk_get 0 1 rfl rfl fh_Re (Nat.le_of_ble_eq_true rfl) fw_103 rfl d_Re_indexOf_22 ?_
        refine fk_iload_n 2 d_Re_indexOf_25 rfl ?_
        refine fk_ld_aj (i := q) 2 rfl (by omega) (by decide) d_Re_indexOf_26 ?_
        refine fk_istore (lv' := [(0, .ref r0), (1, .long (lN y)), (3, .int (nI q)), (4, .int (nI d)), (5, .int (nI (sl q) - 1))]) d_Re_indexOf_27 (Nat.le_of_ble_eq_true rfl) [1, 2, 3, 4, 0] rfl ?_
        refine fk_iload 4 d_Re_indexOf_29 rfl ?_
        refine fk_iconst (v := nI 0 - 1) d_Re_indexOf_31 (by decide +kernel) ?_
        refine fk_icmp_neJ (a := (sl q)) (b := 0) (by omega) (by omega) d_Re_indexOf_32 rfl (fun h32t => ?_) (fun h32f => ?_)
        · refine fk_aload_n 0 d_Re_indexOf_42 rfl ?_
          refine fk_get 0 0 rfl rfl fh_Re (Nat.le_of_ble_eq_true rfl) fw_102 rfl d_Re_indexOf_43 ?_
          refine fk_iload 4 d_Re_indexOf_46 rfl ?_
          refine fk_top (show (nI (sl q) - 1) = (nI (sl q - 1)) from fn_jn (by omega)) ?_
          refine fk_ld_al (i := (sl q - 1)) 1 rfl (by omega) (by decide) d_Re_indexOf_48 ?_
          refine fk_lload_n 1 d_Re_indexOf_49 rfl ?_
          refine fk_lcmpR d_Re_indexOf_50 ?_
          refine fk_cmp_ne (a := (sn (sl q - 1))) (b := y) ((hV.2.1 _ (by omega)).1) (hy) d_Re_indexOf_51 rfl (fun h51t => ?_) (fun h51f => ?_)
          · refine fk_iload_n 2 d_Re_indexOf_57 rfl ?_
            refine fk_iconst (v := nI 1) d_Re_indexOf_58 (by decide +kernel) ?_
            refine fk_iadd (a := q) (b := 1) d_Re_indexOf_59 ?_
            refine fk_sipush (v := nI 512) d_Re_indexOf_60 (by decide +kernel) ?_
            refine fk_irem (a := (q + 1)) (b := 512) d_Re_indexOf_63 (by omega) (by omega) (by omega) ?_
            refine fk_istore_n (lv' := [(0, .ref r0), (1, .long (lN y)), (3, .int (nI ((q + 1) % 512))), (4, .int (nI d)), (5, .int (nI (sl q) - 1))]) d_Re_indexOf_64 rfl (Nat.le_of_ble_eq_true rfl) [1, 2, 0, 3, 4] rfl ?_
            refine fk_iinc (j := 3) (lv' := [(0, .ref r0), (1, .long (lN y)), (3, .int (nI ((q + 1) % 512))), (4, .int (nI (d + 1))), (5, .int (nI (sl q) - 1))]) (d + 1) d_Re_indexOf_65 rfl (nI_1 d) (Nat.le_of_ble_eq_true rfl) [1, 2, 3, 0, 4] rfl ?_
            refine fk_goto d_Re_indexOf_68 rfl ?_
            refine fk_lv (lv' := [(0, .ref r0), (1, .long (lN y)), (3, .int (nI ((q + 1) % 512))), (4, .int (nI (d + 1)))]) [0, 1, 2, 3] rfl ?_
            refine ih13 _ _ ?_ ?_ ?_ ?_
            · first | omega | assumption | exact Nat.zero_le _
            · first | omega | assumption | exact Nat.zero_le _
            · intro e he
              rcases Nat.lt_or_ge e d with z | z
              · exact h3 e z
              · rw [show e = d by omega, ← h2]
                exact ⟨h32t, h51t⟩
            · omega
          · refine fk_iload 4 d_Re_indexOf_54 rfl ?_
            refine fk_top (show (nI (sl q) - 1) = (nI (sl q) - 1) from by first | rfl | simp_all) ?_
            have hpp : (fe_find sn y c < c → (sl q) = fe_find sn y c + 1 ∧ c = c ∧ sn = sn ∧ sl = sl) ∧ (¬ fe_find sn y c < c → (c = 200 → (sl q) = 0) ∧ (c < 200 → (sl q) = c + 1 ∧ c = c + 1 ∧ sn = va_up sn c y ∧ fe_H (c + 1) (va_up sn c y) sl)) := by have g5 : fe_find sn y c = sl q - 1 := fe_find_eq hV.2.2 (by omega) h51f; exact ⟨fun _ => ⟨show sl q = _ by omega, rfl, rfl, rfl⟩, fun z => absurd (show fe_find sn y c < c by omega) z⟩
            exact hret (0, 0) _ 56 _ (sl q, c, sn, sl) d_Re_indexOf_56 (hpp) (rfl)
        · have g2 : ∀ i, i < c → sn i ≠ y := fe_H_none (d := d) hH h3 (by rw [← h2]; exact h32f)
          have g3 := fe_find_none g2
          rcases Nat.lt_or_ge c 200 with g4 | g4
          · refine fk_aload_n 0 d_Re_indexOf_35 rfl ?_
            refine fk_iload_n 2 d_Re_indexOf_36 rfl ?_
            refine fk_lload_n 1 d_Re_indexOf_37 rfl ?_
            refine fk_callV (q0 := 0) (As := [.int (nI q), .long (lN y)]) (rest := []) (is := [0, 1, 2]) (ir := []) (ip := [0, 1, 2]) (wc := [(r0, .inr (4, [.ref r1, .ref r2, .ref r3, .ref r4, .int (nI c), .int (nI ev)])), fk_al E r1 200 sn, fk_aj E r2 512 sl]) (wr := []) (w2 := fun _ => [(r0, .inr (4, [.ref r1, .ref r2, .ref r3, .ref r4, .int (nI (c + 1)), .int (nI ev)])), fk_al E r1 200 (va_up sn c y), fk_aj E r2 512 (va_up sl q (c + 1))]) (cR_addAt E r0 r1 r2 r3 r4 c ev sn sl q y (by first | omega | assumption) (by first | omega | assumption)) d_Re_indexOf_38 fz_Re_addAt fw_394 rfl rfl fw_396 fw_p9 ⟨Nat.le_of_ble_eq_true rfl, Nat.le_of_ble_eq_true rfl⟩ rfl (Nat.le_of_ble_eq_true rfl) ⟨Nat.zero_le _, Nat.zero_le _⟩ ⟨rfl, rfl, rfl, rfl, by decide, fun _ => rfl, rfl⟩ (fun u hu38 => ?_)
            show fk_V E _ K (0, 0) [(r0, .inr (4, [.ref r1, .ref r2, .ref r3, .ref r4, .int (nI (c + 1)), .int (nI ev)])), fk_al E r1 200 (va_up sn c y), fk_aj E r2 512 (va_up sl q (c + 1))] 41 [(0, .ref r0), (1, .long (lN y)), (3, .int (nI q)), (4, .int (nI d)), (5, .int (nI (sl q) - 1))] [.int (nI (c + 1) - 1)]
            refine fk_top (show (nI (c + 1) - 1) = (nI (c + 1) - 1) from by first | rfl | simp_all) ?_
            have hpp : (fe_find sn y c < c → (c + 1) = fe_find sn y c + 1 ∧ (c + 1) = c ∧ (va_up sn c y) = sn ∧ (va_up sl q (c + 1)) = sl) ∧ (¬ fe_find sn y c < c → (c = 200 → (c + 1) = 0) ∧ (c < 200 → (c + 1) = c + 1 ∧ (c + 1) = c + 1 ∧ (va_up sn c y) = va_up sn c y ∧ fe_H (c + 1) (va_up sn c y) (va_up sl q (c + 1)))) := ⟨fun z => absurd z (by omega), fun _ => ⟨fun z => absurd z (by omega), fun _ => ⟨rfl, rfl, rfl, by rw [h2]; exact fe_H_add hH h3 h18f (by rw [← h2]; exact h32f)⟩⟩⟩
            exact hret (0, 0) _ 41 _ (c + 1, c + 1, va_up sn c y, va_up sl q (c + 1)) d_Re_indexOf_41 (hpp) (rfl)
          · refine fk_aload_n 0 d_Re_indexOf_35 rfl ?_
            refine fk_iload_n 2 d_Re_indexOf_36 rfl ?_
            refine fk_lload_n 1 d_Re_indexOf_37 rfl ?_
            refine fk_callV (q0 := 0) (As := [.int (nI q), .long (lN y)]) (rest := []) (is := [0, 1, 2]) (ir := []) (ip := [0, 1, 2]) (wc := [(r0, .inr (4, [.ref r1, .ref r2, .ref r3, .ref r4, .int (nI c), .int (nI ev)])), fk_al E r1 200 sn, fk_aj E r2 512 sl]) (wr := []) (w2 := fun _ => [(r0, .inr (4, [.ref r1, .ref r2, .ref r3, .ref r4, .int (nI c), .int (nI ev)])), fk_al E r1 200 sn, fk_aj E r2 512 sl]) (cR_addAtF E r0 r1 r2 r3 r4 c ev sn sl q y (by first | omega | assumption)) d_Re_indexOf_38 fz_Re_addAt fw_394 rfl rfl fw_396 fw_p9 ⟨Nat.le_of_ble_eq_true rfl, Nat.le_of_ble_eq_true rfl⟩ rfl (Nat.le_of_ble_eq_true rfl) ⟨Nat.zero_le _, Nat.zero_le _⟩ ⟨rfl, rfl, rfl, rfl, by decide, fun _ => rfl, rfl⟩ (fun u hu38 => ?_)
            show fk_V E _ K (0, 0) [(r0, .inr (4, [.ref r1, .ref r2, .ref r3, .ref r4, .int (nI c), .int (nI ev)])), fk_al E r1 200 sn, fk_aj E r2 512 sl] 41 [(0, .ref r0), (1, .long (lN y)), (3, .int (nI q)), (4, .int (nI d)), (5, .int (nI (sl q) - 1))] [.int (nI 0 - 1)]
            have hpp : (fe_find sn y c < c → 0 = fe_find sn y c + 1 ∧ c = c ∧ sn = sn ∧ sl = sl) ∧ (¬ fe_find sn y c < c → (c = 200 → 0 = 0) ∧ (c < 200 → 0 = c + 1 ∧ c = c + 1 ∧ sn = va_up sn c y ∧ fe_H (c + 1) (va_up sn c y) sl)) := ⟨fun z => absurd z (by omega), fun _ => ⟨fun _ => rfl, fun z => absurd z (by omega)⟩⟩
            exact hret (0, 0) _ 41 _ (0, c, sn, sl) d_Re_indexOf_41 (hpp) (rfl)
  refine L13 _ _ _ ?_ ?_ ?_ (Nat.lt_succ_self _)
  · first | omega | assumption | exact Nat.zero_le _
  · first | omega | assumption | exact Nat.zero_le _
  · exact fun e he => absurd he (Nat.not_lt_zero e)
theorem d_Re_addNextOf_0 : decode prog_6_method_4_code 0 = .ok (.aload_n 1, 1) := by decide +kernel
theorem d_Re_addNextOf_1 : decode prog_6_method_4_code 1 = .ok (.aload_n 0, 1) := by decide +kernel
theorem d_Re_addNextOf_2 : decode prog_6_method_4_code 2 = .ok (.getfield 9, 3) := by decide +kernel
theorem d_Re_addNextOf_5 : decode prog_6_method_4_code 5 = .ok (.iload_n 2, 1) := by decide +kernel
theorem d_Re_addNextOf_6 : decode prog_6_method_4_code 6 = .ok (.laload, 1) := by decide +kernel
theorem d_Re_addNextOf_7 : decode prog_6_method_4_code 7 = .ok (.invokevirtual 47, 3) := by decide +kernel
theorem d_Re_addNextOf_10 : decode prog_6_method_4_code 10 = .ok (.istore_n 3, 1) := by decide +kernel
theorem d_Re_addNextOf_11 : decode prog_6_method_4_code 11 = .ok (.aload_n 0, 1) := by decide +kernel
theorem d_Re_addNextOf_12 : decode prog_6_method_4_code 12 = .ok (.dup, 1) := by decide +kernel
theorem d_Re_addNextOf_13 : decode prog_6_method_4_code 13 = .ok (.getfield 30, 3) := by decide +kernel
theorem d_Re_addNextOf_16 : decode prog_6_method_4_code 16 = .ok (.iload_n 3, 1) := by decide +kernel
theorem d_Re_addNextOf_17 : decode prog_6_method_4_code 17 = .ok (.ior, 1) := by decide +kernel
theorem d_Re_addNextOf_18 : decode prog_6_method_4_code 18 = .ok (.putfield 30, 3) := by decide +kernel
theorem d_Re_addNextOf_21 : decode prog_6_method_4_code 21 = .ok (.iconst 0, 1) := by decide +kernel
theorem d_Re_addNextOf_22 : decode prog_6_method_4_code 22 = .ok (.istore 4, 2) := by decide +kernel
theorem d_Re_addNextOf_24 : decode prog_6_method_4_code 24 = .ok (.iload 4, 2) := by decide +kernel
theorem d_Re_addNextOf_26 : decode prog_6_method_4_code 26 = .ok (.bipush 7, 2) := by decide +kernel
theorem d_Re_addNextOf_28 : decode prog_6_method_4_code 28 = .ok (.if_icmp .ge 78, 3) := by decide +kernel
theorem d_Re_addNextOf_31 : decode prog_6_method_4_code 31 = .ok (.iconst (-1), 1) := by decide +kernel
theorem d_Re_addNextOf_32 : decode prog_6_method_4_code 32 = .ok (.istore 5, 2) := by decide +kernel
theorem d_Re_addNextOf_34 : decode prog_6_method_4_code 34 = .ok (.iload 4, 2) := by decide +kernel
theorem d_Re_addNextOf_36 : decode prog_6_method_4_code 36 = .ok (.iload_n 3, 1) := by decide +kernel
theorem d_Re_addNextOf_37 : decode prog_6_method_4_code 37 = .ok (.invokestatic 52, 3) := by decide +kernel
theorem d_Re_addNextOf_40 : decode prog_6_method_4_code 40 = .ok (.ifCond .eq 46, 3) := by decide +kernel
theorem d_Re_addNextOf_43 : decode prog_6_method_4_code 43 = .ok (.aload_n 1, 1) := by decide +kernel
theorem d_Re_addNextOf_44 : decode prog_6_method_4_code 44 = .ok (.aload_n 0, 1) := by decide +kernel
theorem d_Re_addNextOf_45 : decode prog_6_method_4_code 45 = .ok (.getfield 9, 3) := by decide +kernel
theorem d_Re_addNextOf_48 : decode prog_6_method_4_code 48 = .ok (.iload_n 2, 1) := by decide +kernel
theorem d_Re_addNextOf_49 : decode prog_6_method_4_code 49 = .ok (.laload, 1) := by decide +kernel
theorem d_Re_addNextOf_50 : decode prog_6_method_4_code 50 = .ok (.iload 4, 2) := by decide +kernel
theorem d_Re_addNextOf_52 : decode prog_6_method_4_code 52 = .ok (.invokevirtual 56, 3) := by decide +kernel
theorem d_Re_addNextOf_55 : decode prog_6_method_4_code 55 = .ok (.lstore 6, 2) := by decide +kernel
theorem d_Re_addNextOf_57 : decode prog_6_method_4_code 57 = .ok (.lload 6, 2) := by decide +kernel
theorem d_Re_addNextOf_59 : decode prog_6_method_4_code 59 = .ok (.ldc2_w 60, 3) := by decide +kernel
theorem d_Re_addNextOf_62 : decode prog_6_method_4_code 62 = .ok (.land, 1) := by decide +kernel
theorem d_Re_addNextOf_63 : decode prog_6_method_4_code 63 = .ok (.lconst 0, 1) := by decide +kernel
theorem d_Re_addNextOf_64 : decode prog_6_method_4_code 64 = .ok (.lcmp, 1) := by decide +kernel
theorem d_Re_addNextOf_65 : decode prog_6_method_4_code 65 = .ok (.ifCond .eq 5, 3) := by decide +kernel
theorem d_Re_addNextOf_68 : decode prog_6_method_4_code 68 = .ok (.iconst 0, 1) := by decide +kernel
theorem d_Re_addNextOf_69 : decode prog_6_method_4_code 69 = .ok (.ireturn, 1) := by decide +kernel
theorem d_Re_addNextOf_70 : decode prog_6_method_4_code 70 = .ok (.aload_n 0, 1) := by decide +kernel
theorem d_Re_addNextOf_71 : decode prog_6_method_4_code 71 = .ok (.lload 6, 2) := by decide +kernel
theorem d_Re_addNextOf_73 : decode prog_6_method_4_code 73 = .ok (.invokevirtual 39, 3) := by decide +kernel
theorem d_Re_addNextOf_76 : decode prog_6_method_4_code 76 = .ok (.istore 5, 2) := by decide +kernel
theorem d_Re_addNextOf_78 : decode prog_6_method_4_code 78 = .ok (.iload 5, 2) := by decide +kernel
theorem d_Re_addNextOf_80 : decode prog_6_method_4_code 80 = .ok (.iconst (-1), 1) := by decide +kernel
theorem d_Re_addNextOf_81 : decode prog_6_method_4_code 81 = .ok (.if_icmp .ne 5, 3) := by decide +kernel
theorem d_Re_addNextOf_84 : decode prog_6_method_4_code 84 = .ok (.iconst 0, 1) := by decide +kernel
theorem d_Re_addNextOf_85 : decode prog_6_method_4_code 85 = .ok (.ireturn, 1) := by decide +kernel
theorem d_Re_addNextOf_86 : decode prog_6_method_4_code 86 = .ok (.aload_n 0, 1) := by decide +kernel
theorem d_Re_addNextOf_87 : decode prog_6_method_4_code 87 = .ok (.getfield 19, 3) := by decide +kernel
theorem d_Re_addNextOf_90 : decode prog_6_method_4_code 90 = .ok (.iload_n 2, 1) := by decide +kernel
theorem d_Re_addNextOf_91 : decode prog_6_method_4_code 91 = .ok (.bipush 7, 2) := by decide +kernel
theorem d_Re_addNextOf_93 : decode prog_6_method_4_code 93 = .ok (.imul, 1) := by decide +kernel
theorem d_Re_addNextOf_94 : decode prog_6_method_4_code 94 = .ok (.iload 4, 2) := by decide +kernel
theorem d_Re_addNextOf_96 : decode prog_6_method_4_code 96 = .ok (.iadd, 1) := by decide +kernel
theorem d_Re_addNextOf_97 : decode prog_6_method_4_code 97 = .ok (.iload 5, 2) := by decide +kernel
theorem d_Re_addNextOf_99 : decode prog_6_method_4_code 99 = .ok (.iastore, 1) := by decide +kernel
theorem d_Re_addNextOf_100 : decode prog_6_method_4_code 100 = .ok (.iinc 4 1, 3) := by decide +kernel
theorem d_Re_addNextOf_103 : decode prog_6_method_4_code 103 = .ok (.goto (-79), 3) := by decide +kernel
theorem d_Re_addNextOf_106 : decode prog_6_method_4_code 106 = .ok (.iconst 1, 1) := by decide +kernel
theorem d_Re_addNextOf_107 : decode prog_6_method_4_code 107 = .ok (.ireturn, 1) := by decide +kernel
set_option maxRecDepth 20000 in
set_option maxHeartbeats 4000000 in
theorem cR_addNextOf (E : fk_E) (r0 : Nat) (r1 : Nat) (r2 : Nat) (r3 : Nat) (r4 : Nat) (c : Nat) (ev : Nat) (n0 : Nat) (n1 : Nat) (n2 : Nat) (n3 : Nat) (n4 : Nat) (cnt : Nat) (fi : Nat) (la : Nat) (lo : Nat) (me : Nat) (sn : Nat → Nat) (sl : Nat → Nat) (nx : Nat → Nat) (tk : Nat → Nat) (pu : Nat → Nat) (O : Nat → Nat) (I : Nat → Nat) (i : Nat) (hm : me < 128) (hk : ∀ a, a < 7 → tk a = fm_mk (fs_tak O a)) (hu : ∀ a, a < 7 → pu a = fm_mk (fs_tak I a)) (hZ : fe_Z O I me (7 * i) c sn sl nx) (hi : i < c) (he : ev < 128) : fk_C E fy_Re_addNextOf prog_6_method_4_code 8 (some .boolean) 2 0 0 [.ref r0, .ref n0, .int (nI i)] [(r0, .inr (4, [.ref r1, .ref r2, .ref r3, .ref r4, .int (nI c), .int (nI ev)])), fk_al E r1 200 sn, fk_aj E r2 512 sl, fk_aj E r3 1400 nx, (n0, .inr (2, [.ref n1, .ref n2, .ref n3, .ref n4, .int (nI cnt), .int (nI fi), .int (nI la), .int (nI lo), .int (nI me)])), fk_al E n3 7 tk, fk_al E n4 7 pu] (S := Bool × Nat × (Nat → Nat) × (Nat → Nat) × (Nat → Nat)) (fun (u : Bool × Nat × (Nat → Nat) × (Nat → Nat) × (Nat → Nat)) => some (.int (nI (Bool.toNat u.1)))) (fun (u : Bool × Nat × (Nat → Nat) × (Nat → Nat) × (Nat → Nat)) => (u.1 = true → fe_Z O I me (7 * (i + 1)) u.2.1 u.2.2.1 u.2.2.2.1 u.2.2.2.2 ∧ c ≤ u.2.1 ∧ ∀ z, z < c → u.2.2.1 z = sn z) ∧ (u.1 = false → (fe_run O I me (7 * (i + 1))).2.2.2 = true)) (fun (u : Bool × Nat × (Nat → Nat) × (Nat → Nat) × (Nat → Nat)) => [(r0, .inr (4, [.ref r1, .ref r2, .ref r3, .ref r4, .int (nI u.2.1), .int (nI (ev ||| fs_ens O me (sn i)))])), fk_al E r1 200 u.2.2.1, fk_aj E r2 512 u.2.2.2.1, fk_aj E r3 1400 u.2.2.2.2, (n0, .inr (2, [.ref n1, .ref n2, .ref n3, .ref n4, .int (nI cnt), .int (nI fi), .int (nI la), .int (nI lo), .int (nI me)])), fk_al E n3 7 tk, fk_al E n4 7 pu]) := by
  refine fk_enterZ (v := fun (u : Bool × Nat × (Nat → Nat) × (Nat → Nat) × (Nat → Nat)) => u.1) (by decide) (Nat.le_of_ble_eq_true rfl) (lv0 := [(0, .ref r0), (1, .ref n0), (2, .int (nI i))]) rfl ?_
  intro K hini hret
  have hc2 := hZ.2.1.1
  have hx0 := (hZ.2.1.2.1 i hi).1
  have hE := fs_ens_lt O me (sn i)
  refine fk_aload_n 1 d_Re_addNextOf_0 rfl ?_
  refine fk_aload_n 0 d_Re_addNextOf_1 rfl ?_
  refine fk_get 0 0 rfl rfl fh_Re (Nat.le_of_ble_eq_true rfl) fw_102 rfl d_Re_addNextOf_2 ?_
  refine fk_iload_n 2 d_Re_addNextOf_5 rfl ?_
  refine fk_ld_al (i := i) 1 rfl (by omega) (by decide) d_Re_addNextOf_6 ?_
  refine fk_callV (q0 := 4) (As := [.long (lN (sn i))]) (rest := []) (is := [4, 5]) (ir := [0, 1, 2, 3, 6]) (ip := [0, 1, 2, 3, 5, 6, 4]) (wc := [(n0, .inr (2, [.ref n1, .ref n2, .ref n3, .ref n4, .int (nI cnt), .int (nI fi), .int (nI la), .int (nI lo), .int (nI me)])), fk_al E n3 7 tk]) (wr := [(r0, .inr (4, [.ref r1, .ref r2, .ref r3, .ref r4, .int (nI c), .int (nI ev)])), fk_al E r1 200 sn, fk_aj E r2 512 sl, fk_aj E r3 1400 nx, fk_al E n4 7 pu]) (w2 := fun _ => [(r0, .inr (4, [.ref r1, .ref r2, .ref r3, .ref r4, .int (nI c), .int (nI ev)])), fk_al E r1 200 sn, fk_aj E r2 512 sl, fk_aj E r3 1400 nx, (n0, .inr (2, [.ref n1, .ref n2, .ref n3, .ref n4, .int (nI cnt), .int (nI fi), .int (nI la), .int (nI lo), .int (nI me)])), fk_al E n3 7 tk, fk_al E n4 7 pu]) (cN_enabledIn E n0 n1 n2 n3 n4 cnt fi la lo me tk O (sn i) (by first | omega | assumption) (by first | omega | assumption) (by first | omega | assumption)) d_Re_addNextOf_7 fz_Nt_enabledIn fw_402 rfl rfl fw_369 fw_370 ⟨Nat.le_of_ble_eq_true rfl, Nat.le_of_ble_eq_true rfl⟩ rfl (Nat.le_of_ble_eq_true rfl) ⟨Nat.zero_le _, Nat.zero_le _⟩ ⟨rfl, rfl, rfl, rfl, by decide, fun _ => rfl, rfl⟩ (fun u hu7 => ?_)
  show fk_V E _ K (0, 0) [(r0, .inr (4, [.ref r1, .ref r2, .ref r3, .ref r4, .int (nI c), .int (nI ev)])), fk_al E r1 200 sn, fk_aj E r2 512 sl, fk_aj E r3 1400 nx, (n0, .inr (2, [.ref n1, .ref n2, .ref n3, .ref n4, .int (nI cnt), .int (nI fi), .int (nI la), .int (nI lo), .int (nI me)])), fk_al E n3 7 tk, fk_al E n4 7 pu] 10 [(0, .ref r0), (1, .ref n0), (2, .int (nI i))] [.int (nI (fs_ens O me (sn i)))]
  refine fk_istore_n (lv' := [(0, .ref r0), (1, .ref n0), (2, .int (nI i)), (3, .int (nI (fs_ens O me (sn i))))]) d_Re_addNextOf_10 rfl (Nat.le_of_ble_eq_true rfl) [1, 2, 3, 0] rfl ?_
  refine fk_aload_n 0 d_Re_addNextOf_11 rfl ?_
  refine fk_dup d_Re_addNextOf_12 rfl ?_
  refine fk_get 0 5 rfl rfl fh_Re (Nat.le_of_ble_eq_true rfl) fw_107 rfl d_Re_addNextOf_13 ?_
  refine fk_iload_n 3 d_Re_addNextOf_16 rfl ?_
  refine fk_ior (a := ev) (b := (fs_ens O me (sn i))) d_Re_addNextOf_17 ?_
  refine fk_put (w' := [(r0, .inr (4, [.ref r1, .ref r2, .ref r3, .ref r4, .int (nI c), .int (nI (ev ||| (fs_ens O me (sn i))))])), fk_al E r1 200 sn, fk_aj E r2 512 sl, fk_aj E r3 1400 nx, (n0, .inr (2, [.ref n1, .ref n2, .ref n3, .ref n4, .int (nI cnt), .int (nI fi), .int (nI la), .int (nI lo), .int (nI me)])), fk_al E n3 7 tk, fk_al E n4 7 pu]) 0 5 fT_Re fT_Re_ok fT_Re_nm rfl rfl fh_Re (Nat.le_of_ble_eq_true rfl) fw_107 rfl (fT_Re_ok 5 (Nat.le_of_ble_eq_true rfl)) rfl rfl (Nat.le_of_ble_eq_true rfl) d_Re_addNextOf_18 rfl ?_
  refine fk_iconst (v := nI 0) d_Re_addNextOf_21 (by decide +kernel) ?_
  refine fk_istore (lv' := [(0, .ref r0), (1, .ref n0), (2, .int (nI i)), (3, .int (nI (fs_ens O me (sn i)))), (4, .int (nI 0))]) d_Re_addNextOf_22 (Nat.le_of_ble_eq_true rfl) [1, 2, 3, 4, 0] rfl ?_
  have L24 : ∀ (fuel : Nat) (a : Nat) (c1 : Nat) (sn1 : Nat → Nat) (sl1 : Nat → Nat) (nx1 : Nat → Nat), (a ≤ 7) → (fe_Z O I me (7 * i + a) c1 sn1 sl1 nx1) → (c ≤ c1) → (∀ z, z < c → sn1 z = sn z) → 7 - a < fuel → fk_V E (prog_6_method_4_code, fy_Re_addNextOf.cls, 8, fk_rm 2 0 0) K (0, 0) [(r0, .inr (4, [.ref r1, .ref r2, .ref r3, .ref r4, .int (nI c1), .int (nI (ev ||| fs_ens O me (sn i)))])), fk_al E r1 200 sn1, fk_aj E r2 512 sl1, fk_aj E r3 1400 nx1, (n0, .inr (2, [.ref n1, .ref n2, .ref n3, .ref n4, .int (nI cnt), .int (nI fi), .int (nI la), .int (nI lo), .int (nI me)])), fk_al E n3 7 tk, fk_al E n4 7 pu] 24 [(0, .ref r0), (1, .ref n0), (2, .int (nI i)), (3, .int (nI (fs_ens O me (sn i)))), (4, .int (nI a))] [] := by
    intro fuel
    induction fuel with
    | zero => intro a c1 sn1 sl1 nx1 _ _ _ _ hm; exact absurd hm (Nat.not_lt_zero _)
    | succ fuel ih =>
      intro a c1 sn1 sl1 nx1 h0 h1 h2 h3 hm24
      have ih24 := ih
      clear ih
      refine fk_iload 4 d_Re_addNextOf_24 rfl ?_
      refine fk_bipush (v := nI 7) d_Re_addNextOf_26 (by decide +kernel) ?_
      refine fk_icmp_ge (a := a) (b := 7) (by omega) (by omega) d_Re_addNextOf_28 rfl (fun h28t => ?_) (fun h28f => ?_)
      · refine fk_iconst (v := nI 1) d_Re_addNextOf_106 (by decide +kernel) ?_
        refine fk_top (fn_rt (b := true) (by first | assumption | (simp; omega) | simp_all | (simp_all; omega))) ?_
        have hpp : (true = true → fe_Z O I me (7 * (i + 1)) c1 sn1 sl1 nx1 ∧ c ≤ c1 ∧ ∀ z, z < c → sn1 z = sn z) ∧ (true = false → (fe_run O I me (7 * (i + 1))).2.2.2 = true) := ⟨fun _ => ⟨by rw [show 7 * (i + 1) = 7 * i + a by omega]; exact h1, h2, h3⟩, fun q => absurd (show true = false from q) (by decide)⟩
        exact hret (0, 0) _ 107 _ (true, c1, sn1, sl1, nx1) d_Re_addNextOf_107 (hpp) (rfl)
      · have g1 : (fs_ens O me (sn i)).testBit a = fs_en O me (sn1 i) a := by rw [h3 i hi]; exact fe_en_bit h28f
        have g4 := h1.2.1.1
        refine fk_iconst (v := nI 0 - 1) d_Re_addNextOf_31 (by decide +kernel) ?_
        refine fk_istore (lv' := [(0, .ref r0), (1, .ref n0), (2, .int (nI i)), (3, .int (nI (fs_ens O me (sn i)))), (4, .int (nI a)), (5, .int (nI 0 - 1))]) d_Re_addNextOf_32 (Nat.le_of_ble_eq_true rfl) [1, 2, 3, 4, 5, 0] rfl ?_
        refine fk_iload 4 d_Re_addNextOf_34 rfl ?_
        refine fk_iload_n 3 d_Re_addNextOf_36 rfl ?_
        refine fk_callSN (As := [.int (nI a), .int (nI (fs_ens O me (sn i)))]) (rest := []) (is := []) (ir := [0, 1, 2, 3, 4, 5, 6]) (ip := [0, 1, 2, 3, 4, 5, 6]) (wc := []) (wr := [(r0, .inr (4, [.ref r1, .ref r2, .ref r3, .ref r4, .int (nI c1), .int (nI (ev ||| fs_ens O me (sn i)))])), fk_al E r1 200 sn1, fk_aj E r2 512 sl1, fk_aj E r3 1400 nx1, (n0, .inr (2, [.ref n1, .ref n2, .ref n3, .ref n4, .int (nI cnt), .int (nI fi), .int (nI la), .int (nI lo), .int (nI me)])), fk_al E n3 7 tk, fk_al E n4 7 pu]) (w2 := fun _ => [(r0, .inr (4, [.ref r1, .ref r2, .ref r3, .ref r4, .int (nI c1), .int (nI (ev ||| fs_ens O me (sn i)))])), fk_al E r1 200 sn1, fk_aj E r2 512 sl1, fk_aj E r3 1400 nx1, (n0, .inr (2, [.ref n1, .ref n2, .ref n3, .ref n4, .int (nI cnt), .int (nI fi), .int (nI la), .int (nI lo), .int (nI me)])), fk_al E n3 7 tk, fk_al E n4 7 pu]) (cF_isIn E a (fs_ens O me (sn i)) (by first | omega | assumption) (by first | omega | assumption)) d_Re_addNextOf_37 fz_F_isIn fw_403 fw_223 ⟨Nat.le_of_ble_eq_true rfl, Nat.le_of_ble_eq_true rfl⟩ rfl (Nat.le_of_ble_eq_true rfl) ⟨Nat.zero_le _, Nat.zero_le _⟩ ⟨rfl, rfl, rfl, rfl, by decide, fun _ => rfl, rfl⟩ (fun u hu37 => ?_)
        show fk_V E _ K (0, 0) [(r0, .inr (4, [.ref r1, .ref r2, .ref r3, .ref r4, .int (nI c1), .int (nI (ev ||| fs_ens O me (sn i)))])), fk_al E r1 200 sn1, fk_aj E r2 512 sl1, fk_aj E r3 1400 nx1, (n0, .inr (2, [.ref n1, .ref n2, .ref n3, .ref n4, .int (nI cnt), .int (nI fi), .int (nI la), .int (nI lo), .int (nI me)])), fk_al E n3 7 tk, fk_al E n4 7 pu] 40 [(0, .ref r0), (1, .ref n0), (2, .int (nI i)), (3, .int (nI (fs_ens O me (sn i)))), (4, .int (nI a)), (5, .int (nI 0 - 1))] [.int (nI (Bool.toNat (Nat.testBit (fs_ens O me (sn i)) a)))]
        refine fk_if_eqB (b := (Nat.testBit (fs_ens O me (sn i)) a)) d_Re_addNextOf_40 rfl (fun h40t => ?_) (fun h40f => ?_)
        · have g2 := g1.symm.trans h40t
          refine fk_aload_n 0 d_Re_addNextOf_86 rfl ?_
          refine fk_get 0 2 rfl rfl fh_Re (Nat.le_of_ble_eq_true rfl) fw_104 rfl d_Re_addNextOf_87 ?_
          refine fk_iload_n 2 d_Re_addNextOf_90 rfl ?_
          refine fk_bipush (v := nI 7) d_Re_addNextOf_91 (by decide +kernel) ?_
          refine fk_imul (a := i) (b := 7) d_Re_addNextOf_93 ?_
          refine fk_iload 4 d_Re_addNextOf_94 rfl ?_
          refine fk_iadd (a := (i * 7)) (b := a) d_Re_addNextOf_96 ?_
          refine fk_top (show (nI ((i * 7) + a)) = (nI (7 * i + a)) from congrArg nI (by omega)) ?_
          refine fk_iload 5 d_Re_addNextOf_97 rfl ?_
          refine fk_st_aj (i := (7 * i + a)) (x := 0) (w' := [(r0, .inr (4, [.ref r1, .ref r2, .ref r3, .ref r4, .int (nI c1), .int (nI (ev ||| fs_ens O me (sn i)))])), fk_al E r1 200 sn1, fk_aj E r2 512 sl1, fk_aj E r3 1400 (va_up nx1 (7 * i + a) 0), (n0, .inr (2, [.ref n1, .ref n2, .ref n3, .ref n4, .int (nI cnt), .int (nI fi), .int (nI la), .int (nI lo), .int (nI me)])), fk_al E n3 7 tk, fk_al E n4 7 pu]) 3 rfl (by omega) (by decide) d_Re_addNextOf_99 rfl ?_
          refine fk_iinc (j := 4) (lv' := [(0, .ref r0), (1, .ref n0), (2, .int (nI i)), (3, .int (nI (fs_ens O me (sn i)))), (4, .int (nI (a + 1))), (5, .int (nI 0 - 1))]) (a + 1) d_Re_addNextOf_100 rfl (nI_1 a) (Nat.le_of_ble_eq_true rfl) [1, 2, 3, 4, 0, 5] rfl ?_
          refine fk_goto d_Re_addNextOf_103 rfl ?_
          refine fk_lv (lv' := [(0, .ref r0), (1, .ref n0), (2, .int (nI i)), (3, .int (nI (fs_ens O me (sn i)))), (4, .int (nI (a + 1)))]) [0, 1, 2, 3, 4] rfl ?_
          refine ih24 _ _ _ _ _ ?_ ?_ ?_ ?_ ?_
          · first | omega | assumption | exact Nat.zero_le _
          · rw [← Nat.add_assoc]
            first | exact g9.1 | exact ⟨fe_R_no h1.1 h28f (by omega) g2, h1.2⟩
          · first | exact h2 | exact Nat.le_trans h2 g9.2.1
          · first | exact h3 | exact fun z hz => (g9.2.2 z (by omega)).trans (h3 z hz)
          · omega
        · have g2 := g1.symm.trans h40f
          have g5 := (h1.2.1.2.1 i (by omega)).1
          have g6 := (fe_fire8 (O := O) (I := I) (a := a) (h1.2.1.2.1 i (by omega)).2).2
          refine fk_aload_n 1 d_Re_addNextOf_43 rfl ?_
          refine fk_aload_n 0 d_Re_addNextOf_44 rfl ?_
          refine fk_get 0 0 rfl rfl fh_Re (Nat.le_of_ble_eq_true rfl) fw_102 rfl d_Re_addNextOf_45 ?_
          refine fk_iload_n 2 d_Re_addNextOf_48 rfl ?_
          refine fk_ld_al (i := i) 1 rfl (by omega) (by decide) d_Re_addNextOf_49 ?_
          refine fk_iload 4 d_Re_addNextOf_50 rfl ?_
          refine fk_callV (q0 := 4) (As := [.long (lN (sn1 i)), .int (nI a)]) (rest := []) (is := [4, 5, 6]) (ir := [0, 1, 2, 3]) (ip := [0, 1, 2, 3, 4, 5, 6]) (wc := [(n0, .inr (2, [.ref n1, .ref n2, .ref n3, .ref n4, .int (nI cnt), .int (nI fi), .int (nI la), .int (nI lo), .int (nI me)])), fk_al E n3 7 tk, fk_al E n4 7 pu]) (wr := [(r0, .inr (4, [.ref r1, .ref r2, .ref r3, .ref r4, .int (nI c1), .int (nI (ev ||| fs_ens O me (sn i)))])), fk_al E r1 200 sn1, fk_aj E r2 512 sl1, fk_aj E r3 1400 nx1]) (w2 := fun _ => [(r0, .inr (4, [.ref r1, .ref r2, .ref r3, .ref r4, .int (nI c1), .int (nI (ev ||| fs_ens O me (sn i)))])), fk_al E r1 200 sn1, fk_aj E r2 512 sl1, fk_aj E r3 1400 nx1, (n0, .inr (2, [.ref n1, .ref n2, .ref n3, .ref n4, .int (nI cnt), .int (nI fi), .int (nI la), .int (nI lo), .int (nI me)])), fk_al E n3 7 tk, fk_al E n4 7 pu]) (cN_afterFiring E n0 n1 n2 n3 n4 cnt fi la lo me tk pu O I (sn1 i) a g5 (by first | omega | assumption) hk hu (fs_en_can g2)) d_Re_addNextOf_52 fz_Nt_afterFiring fw_404 rfl rfl fw_376 fw_377 ⟨Nat.le_of_ble_eq_true rfl, Nat.le_of_ble_eq_true rfl⟩ rfl (Nat.le_of_ble_eq_true rfl) ⟨Nat.zero_le _, Nat.zero_le _⟩ ⟨rfl, rfl, rfl, rfl, by decide, fun _ => rfl, rfl⟩ (fun u hu52 => ?_)
          show fk_V E _ K (0, 0) [(r0, .inr (4, [.ref r1, .ref r2, .ref r3, .ref r4, .int (nI c1), .int (nI (ev ||| fs_ens O me (sn i)))])), fk_al E r1 200 sn1, fk_aj E r2 512 sl1, fk_aj E r3 1400 nx1, (n0, .inr (2, [.ref n1, .ref n2, .ref n3, .ref n4, .int (nI cnt), .int (nI fi), .int (nI la), .int (nI lo), .int (nI me)])), fk_al E n3 7 tk, fk_al E n4 7 pu] 55 [(0, .ref r0), (1, .ref n0), (2, .int (nI i)), (3, .int (nI (fs_ens O me (sn i)))), (4, .int (nI a)), (5, .int (nI 0 - 1))] [.long (lN (fs_fire O I (sn1 i) a))]
          refine fk_lstore (lv' := [(0, .ref r0), (1, .ref n0), (2, .int (nI i)), (3, .int (nI (fs_ens O me (sn i)))), (4, .int (nI a)), (5, .int (nI 0 - 1)), (6, .long (lN (fs_fire O I (sn1 i) a)))]) d_Re_addNextOf_55 (Nat.le_of_ble_eq_true rfl) [1, 2, 3, 4, 5, 6, 0] rfl ?_
          refine fk_lload 6 d_Re_addNextOf_57 rfl ?_
          refine fk_ldc2 (v := (-8608480567731124088 : Int64)) d_Re_addNextOf_59 fw_405 ?_
          refine fk_topl (show (-8608480567731124088 : Int64) = lN 9838263505978427528 by decide +kernel) ?_
          refine fk_landR d_Re_addNextOf_62 ?_
          refine fk_topl (show lN (fs_fire O I (sn1 i) a) &&& lN 9838263505978427528 = lN ((fs_fire O I (sn1 i) a) &&& 9838263505978427528) from fn_land (g6) (by decide)) ?_
          refine fk_lconst (v := lN 0) d_Re_addNextOf_63 rfl ?_
          refine fk_lcmpR d_Re_addNextOf_64 ?_
          refine fk_cmp_eq (a := ((fs_fire O I (sn1 i) a) &&& 9838263505978427528)) (b := 0) (Nat.lt_of_le_of_lt Nat.and_le_left g6) (by decide) d_Re_addNextOf_65 rfl (fun h65t => ?_) (fun h65f => ?_)
          · have g7 := (fe_w8_and g6).mp h65t
            refine fk_aload_n 0 d_Re_addNextOf_70 rfl ?_
            refine fk_lload 6 d_Re_addNextOf_71 rfl ?_
            refine fk_callV (q0 := 0) (As := [.long (lN (fs_fire O I (sn1 i) a))]) (rest := []) (is := [0, 1, 2]) (ir := [3, 4, 5, 6]) (ip := [4, 5, 6, 0, 1, 2, 3]) (wc := [(r0, .inr (4, [.ref r1, .ref r2, .ref r3, .ref r4, .int (nI c1), .int (nI (ev ||| fs_ens O me (sn i)))])), fk_al E r1 200 sn1, fk_aj E r2 512 sl1]) (wr := [fk_aj E r3 1400 nx1, (n0, .inr (2, [.ref n1, .ref n2, .ref n3, .ref n4, .int (nI cnt), .int (nI fi), .int (nI la), .int (nI lo), .int (nI me)])), fk_al E n3 7 tk, fk_al E n4 7 pu]) (w2 := fun u => [(r0, .inr (4, [.ref r1, .ref r2, .ref r3, .ref r4, .int (nI u.2.1), .int (nI (ev ||| fs_ens O me (sn i)))])), fk_al E r1 200 u.2.2.1, fk_aj E r2 512 u.2.2.2, fk_aj E r3 1400 nx1, (n0, .inr (2, [.ref n1, .ref n2, .ref n3, .ref n4, .int (nI cnt), .int (nI fi), .int (nI la), .int (nI lo), .int (nI me)])), fk_al E n3 7 tk, fk_al E n4 7 pu]) (cR_indexOf E r0 r1 r2 r3 r4 c1 (ev ||| fs_ens O me (sn i)) sn1 sl1 (fs_fire O I (sn1 i) a) g6 h1.2.1 h1.2.2) d_Re_addNextOf_73 fz_Re_indexOf fw_389 rfl rfl fw_391 fw_p8 ⟨Nat.le_of_ble_eq_true rfl, Nat.le_of_ble_eq_true rfl⟩ rfl (Nat.le_of_ble_eq_true rfl) ⟨Nat.zero_le _, Nat.zero_le _⟩ ⟨rfl, rfl, rfl, rfl, by decide, fun _ => rfl, rfl⟩ (fun u hu73 => ?_)
            obtain ⟨rr_73, c9_73, sn9_73, sl9_73⟩ := u
            have hq73 : (fe_find sn1 (fs_fire O I (sn1 i) a) c1 < c1 → rr_73 = fe_find sn1 (fs_fire O I (sn1 i) a) c1 + 1 ∧ c9_73 = c1 ∧ sn9_73 = sn1 ∧ sl9_73 = sl1) ∧ (¬ fe_find sn1 (fs_fire O I (sn1 i) a) c1 < c1 → (c1 = 200 → rr_73 = 0) ∧ (c1 < 200 → rr_73 = c1 + 1 ∧ c9_73 = c1 + 1 ∧ sn9_73 = va_up sn1 c1 (fs_fire O I (sn1 i) a) ∧ fe_H (c1 + 1) (va_up sn1 c1 (fs_fire O I (sn1 i) a)) sl9_73)) := hu73
            show fk_V E _ K (0, 0) [(r0, .inr (4, [.ref r1, .ref r2, .ref r3, .ref r4, .int (nI c9_73), .int (nI (ev ||| fs_ens O me (sn i)))])), fk_al E r1 200 sn9_73, fk_aj E r2 512 sl9_73, fk_aj E r3 1400 nx1, (n0, .inr (2, [.ref n1, .ref n2, .ref n3, .ref n4, .int (nI cnt), .int (nI fi), .int (nI la), .int (nI lo), .int (nI me)])), fk_al E n3 7 tk, fk_al E n4 7 pu] 76 [(0, .ref r0), (1, .ref n0), (2, .int (nI i)), (3, .int (nI (fs_ens O me (sn i)))), (4, .int (nI a)), (5, .int (nI 0 - 1)), (6, .long (lN (fs_fire O I (sn1 i) a)))] [.int (nI rr_73 - 1)]
            have g8 : rr_73 < 2 ^ 31 := by
              by_cases q : fe_find sn1 (fs_fire O I (sn1 i) a) c1 < c1
              · have := (hq73.1 q).1
                omega
              · rcases Nat.lt_or_ge c1 200 with z | z
                · have := ((hq73.2 q).2 z).1
                  omega
                · have := (hq73.2 q).1 (by omega)
                  omega
            refine fk_istore (lv' := [(0, .ref r0), (1, .ref n0), (2, .int (nI i)), (3, .int (nI (fs_ens O me (sn i)))), (4, .int (nI a)), (5, .int (nI rr_73 - 1)), (6, .long (lN (fs_fire O I (sn1 i) a)))]) d_Re_addNextOf_76 (Nat.le_of_ble_eq_true rfl) [1, 2, 3, 4, 5, 0, 6] rfl ?_
            refine fk_iload 5 d_Re_addNextOf_78 rfl ?_
            refine fk_iconst (v := nI 0 - 1) d_Re_addNextOf_80 (by decide +kernel) ?_
            refine fk_icmp_neJ (a := rr_73) (b := 0) (by omega) (by omega) d_Re_addNextOf_81 rfl (fun h81t => ?_) (fun h81f => ?_)
            · have g9 := fe_ix_use h1 h28f (by omega) g2 g7 hq73 h81t
              refine fk_aload_n 0 d_Re_addNextOf_86 rfl ?_
              refine fk_get 0 2 rfl rfl fh_Re (Nat.le_of_ble_eq_true rfl) fw_104 rfl d_Re_addNextOf_87 ?_
              refine fk_iload_n 2 d_Re_addNextOf_90 rfl ?_
              refine fk_bipush (v := nI 7) d_Re_addNextOf_91 (by decide +kernel) ?_
              refine fk_imul (a := i) (b := 7) d_Re_addNextOf_93 ?_
              refine fk_iload 4 d_Re_addNextOf_94 rfl ?_
              refine fk_iadd (a := (i * 7)) (b := a) d_Re_addNextOf_96 ?_
              refine fk_top (show (nI ((i * 7) + a)) = (nI (7 * i + a)) from congrArg nI (by omega)) ?_
              refine fk_iload 5 d_Re_addNextOf_97 rfl ?_
              refine fk_st_aj (i := (7 * i + a)) (x := rr_73) (w' := [(r0, .inr (4, [.ref r1, .ref r2, .ref r3, .ref r4, .int (nI c9_73), .int (nI (ev ||| fs_ens O me (sn i)))])), fk_al E r1 200 sn9_73, fk_aj E r2 512 sl9_73, fk_aj E r3 1400 (va_up nx1 (7 * i + a) rr_73), (n0, .inr (2, [.ref n1, .ref n2, .ref n3, .ref n4, .int (nI cnt), .int (nI fi), .int (nI la), .int (nI lo), .int (nI me)])), fk_al E n3 7 tk, fk_al E n4 7 pu]) 3 rfl (by omega) (by decide) d_Re_addNextOf_99 rfl ?_
              refine fk_iinc (j := 4) (lv' := [(0, .ref r0), (1, .ref n0), (2, .int (nI i)), (3, .int (nI (fs_ens O me (sn i)))), (4, .int (nI (a + 1))), (5, .int (nI rr_73 - 1)), (6, .long (lN (fs_fire O I (sn1 i) a)))]) (a + 1) d_Re_addNextOf_100 rfl (nI_1 a) (Nat.le_of_ble_eq_true rfl) [1, 2, 3, 4, 0, 5, 6] rfl ?_
              refine fk_goto d_Re_addNextOf_103 rfl ?_
              refine fk_lv (lv' := [(0, .ref r0), (1, .ref n0), (2, .int (nI i)), (3, .int (nI (fs_ens O me (sn i)))), (4, .int (nI (a + 1)))]) [0, 1, 2, 3, 4] rfl ?_
              refine ih24 _ _ _ _ _ ?_ ?_ ?_ ?_ ?_
              · first | omega | assumption | exact Nat.zero_le _
              · rw [← Nat.add_assoc]
                first | exact g9.1 | exact ⟨fe_R_no h1.1 h28f (by omega) g2, h1.2⟩
              · first | exact h2 | exact Nat.le_trans h2 g9.2.1
              · first | exact h3 | exact fun z hz => (g9.2.2 z (by omega)).trans (h3 z hz)
              · omega
            · refine fk_iconst (v := nI 0) d_Re_addNextOf_84 (by decide +kernel) ?_
              refine fk_top (fn_rf (b := false) (by first | assumption | (simp; omega) | simp_all | (simp_all; omega))) ?_
              have hpp : (false = true → fe_Z O I me (7 * (i + 1)) c9_73 sn9_73 sl9_73 nx1 ∧ c ≤ c9_73 ∧ ∀ z, z < c → sn9_73 z = sn z) ∧ (false = false → (fe_run O I me (7 * (i + 1))).2.2.2 = true) := ⟨fun q => absurd (show false = true from q) (by decide), fun _ => fe_ix_0 h1 h28f (by omega) g2 hq73 h81f⟩
              exact hret (0, 0) _ 85 _ (false, c9_73, sn9_73, sl9_73, nx1) d_Re_addNextOf_85 (hpp) (rfl)
          · have g7 := fe_w8_ne g6 h65f
            refine fk_iconst (v := nI 0) d_Re_addNextOf_68 (by decide +kernel) ?_
            refine fk_top (fn_rf (b := false) (by first | assumption | (simp; omega) | simp_all | (simp_all; omega))) ?_
            have hpp : (false = true → fe_Z O I me (7 * (i + 1)) c1 sn1 sl1 nx1 ∧ c ≤ c1 ∧ ∀ z, z < c → sn1 z = sn z) ∧ (false = false → (fe_run O I me (7 * (i + 1))).2.2.2 = true) := ⟨fun q => absurd (show false = true from q) (by decide), fun _ => fe_R_wide h1.1 h28f (by omega) g2 (fe_w8_new h1.2.1 g7) (Or.inl g7) (by omega)⟩
            exact hret (0, 0) _ 69 _ (false, c1, sn1, sl1, nx1) d_Re_addNextOf_69 (hpp) (rfl)
  refine L24 _ _ _ _ _ _ ?_ ?_ ?_ ?_ (Nat.lt_succ_self _)
  · first | omega | assumption | exact Nat.zero_le _
  · exact hZ
  · first | omega | assumption | exact Nat.zero_le _
  · exact fun _ _ => rfl
theorem d_Re_explore_0 : decode prog_6_method_3_code 0 = .ok (.aload_n 0, 1) := by decide +kernel
theorem d_Re_explore_1 : decode prog_6_method_3_code 1 = .ok (.iconst 0, 1) := by decide +kernel
theorem d_Re_explore_2 : decode prog_6_method_3_code 2 = .ok (.putfield 26, 3) := by decide +kernel
theorem d_Re_explore_5 : decode prog_6_method_3_code 5 = .ok (.aload_n 0, 1) := by decide +kernel
theorem d_Re_explore_6 : decode prog_6_method_3_code 6 = .ok (.iconst 0, 1) := by decide +kernel
theorem d_Re_explore_7 : decode prog_6_method_3_code 7 = .ok (.putfield 30, 3) := by decide +kernel
theorem d_Re_explore_10 : decode prog_6_method_3_code 10 = .ok (.aload_n 0, 1) := by decide +kernel
theorem d_Re_explore_11 : decode prog_6_method_3_code 11 = .ok (.getfield 15, 3) := by decide +kernel
theorem d_Re_explore_14 : decode prog_6_method_3_code 14 = .ok (.iconst (-1), 1) := by decide +kernel
theorem d_Re_explore_15 : decode prog_6_method_3_code 15 = .ok (.invokestatic 33, 3) := by decide +kernel
theorem d_Re_explore_18 : decode prog_6_method_3_code 18 = .ok (.aload_n 0, 1) := by decide +kernel
theorem d_Re_explore_19 : decode prog_6_method_3_code 19 = .ok (.lconst 1, 1) := by decide +kernel
theorem d_Re_explore_20 : decode prog_6_method_3_code 20 = .ok (.invokevirtual 39, 3) := by decide +kernel
theorem d_Re_explore_23 : decode prog_6_method_3_code 23 = .ok (.pop, 1) := by decide +kernel
theorem d_Re_explore_24 : decode prog_6_method_3_code 24 = .ok (.iconst 0, 1) := by decide +kernel
theorem d_Re_explore_25 : decode prog_6_method_3_code 25 = .ok (.istore_n 2, 1) := by decide +kernel
theorem d_Re_explore_26 : decode prog_6_method_3_code 26 = .ok (.iload_n 2, 1) := by decide +kernel
theorem d_Re_explore_27 : decode prog_6_method_3_code 27 = .ok (.sipush 200, 3) := by decide +kernel
theorem d_Re_explore_30 : decode prog_6_method_3_code 30 = .ok (.if_icmp .ge 28, 3) := by decide +kernel
theorem d_Re_explore_33 : decode prog_6_method_3_code 33 = .ok (.iload_n 2, 1) := by decide +kernel
theorem d_Re_explore_34 : decode prog_6_method_3_code 34 = .ok (.aload_n 0, 1) := by decide +kernel
theorem d_Re_explore_35 : decode prog_6_method_3_code 35 = .ok (.getfield 26, 3) := by decide +kernel
theorem d_Re_explore_38 : decode prog_6_method_3_code 38 = .ok (.if_icmp .ge 20, 3) := by decide +kernel
theorem d_Re_explore_41 : decode prog_6_method_3_code 41 = .ok (.aload_n 0, 1) := by decide +kernel
theorem d_Re_explore_42 : decode prog_6_method_3_code 42 = .ok (.aload_n 1, 1) := by decide +kernel
theorem d_Re_explore_43 : decode prog_6_method_3_code 43 = .ok (.iload_n 2, 1) := by decide +kernel
theorem d_Re_explore_44 : decode prog_6_method_3_code 44 = .ok (.invokevirtual 43, 3) := by decide +kernel
theorem d_Re_explore_47 : decode prog_6_method_3_code 47 = .ok (.ifCond .ne 5, 3) := by decide +kernel
theorem d_Re_explore_50 : decode prog_6_method_3_code 50 = .ok (.iconst 0, 1) := by decide +kernel
theorem d_Re_explore_51 : decode prog_6_method_3_code 51 = .ok (.ireturn, 1) := by decide +kernel
theorem d_Re_explore_52 : decode prog_6_method_3_code 52 = .ok (.iinc 2 1, 3) := by decide +kernel
theorem d_Re_explore_55 : decode prog_6_method_3_code 55 = .ok (.goto (-29), 3) := by decide +kernel
theorem d_Re_explore_58 : decode prog_6_method_3_code 58 = .ok (.iconst 1, 1) := by decide +kernel
theorem d_Re_explore_59 : decode prog_6_method_3_code 59 = .ok (.ireturn, 1) := by decide +kernel
set_option maxRecDepth 20000 in
set_option maxHeartbeats 4000000 in
theorem cR_explore (E : fk_E) (r0 : Nat) (r1 : Nat) (r2 : Nat) (r3 : Nat) (r4 : Nat) (c : Nat) (ev : Nat) (n0 : Nat) (n1 : Nat) (n2 : Nat) (n3 : Nat) (n4 : Nat) (cnt : Nat) (fi : Nat) (la : Nat) (lo : Nat) (me : Nat) (sn : Nat → Nat) (sl : Nat → Nat) (nx : Nat → Nat) (tk : Nat → Nat) (pu : Nat → Nat) (O : Nat → Nat) (I : Nat → Nat) (hm : me < 128) (hk : ∀ a, a < 7 → tk a = fm_mk (fs_tak O a)) (hu : ∀ a, a < 7 → pu a = fm_mk (fs_tak I a)) : fk_C E fy_Re_explore prog_6_method_3_code 3 (some .boolean) 3 0 0 [.ref r0, .ref n0] [(r0, .inr (4, [.ref r1, .ref r2, .ref r3, .ref r4, .int (nI c), .int (nI ev)])), fk_al E r1 200 sn, fk_aj E r2 512 sl, fk_aj E r3 1400 nx, (n0, .inr (2, [.ref n1, .ref n2, .ref n3, .ref n4, .int (nI cnt), .int (nI fi), .int (nI la), .int (nI lo), .int (nI me)])), fk_al E n3 7 tk, fk_al E n4 7 pu] (S := Bool × Nat × Nat × (Nat → Nat) × (Nat → Nat) × (Nat → Nat)) (fun (u : Bool × Nat × Nat × (Nat → Nat) × (Nat → Nat) × (Nat → Nat)) => some (.int (nI (Bool.toNat u.1)))) (fun (u : Bool × Nat × Nat × (Nat → Nat) × (Nat → Nat) × (Nat → Nat)) => (u.1 = true → fe_F O I me u.2.1 u.2.2.2.1 u.2.2.2.2.2 u.2.2.1 ∧ fe_V u.2.1 u.2.2.2.1) ∧ (u.1 = false → (fe_run O I me 1400).2.2.2 = true)) (fun (u : Bool × Nat × Nat × (Nat → Nat) × (Nat → Nat) × (Nat → Nat)) => [(r0, .inr (4, [.ref r1, .ref r2, .ref r3, .ref r4, .int (nI u.2.1), .int (nI u.2.2.1)])), fk_al E r1 200 u.2.2.2.1, fk_aj E r2 512 u.2.2.2.2.1, fk_aj E r3 1400 u.2.2.2.2.2, (n0, .inr (2, [.ref n1, .ref n2, .ref n3, .ref n4, .int (nI cnt), .int (nI fi), .int (nI la), .int (nI lo), .int (nI me)])), fk_al E n3 7 tk, fk_al E n4 7 pu]) := by
  refine fk_enterZ (v := fun (u : Bool × Nat × Nat × (Nat → Nat) × (Nat → Nat) × (Nat → Nat)) => u.1) (by decide) (Nat.le_of_ble_eq_true rfl) (lv0 := [(0, .ref r0), (1, .ref n0)]) rfl ?_
  intro K hini hret
  refine fk_aload_n 0 d_Re_explore_0 rfl ?_
  refine fk_iconst (v := nI 0) d_Re_explore_1 (by decide +kernel) ?_
  refine fk_put (w' := [(r0, .inr (4, [.ref r1, .ref r2, .ref r3, .ref r4, .int (nI 0), .int (nI ev)])), fk_al E r1 200 sn, fk_aj E r2 512 sl, fk_aj E r3 1400 nx, (n0, .inr (2, [.ref n1, .ref n2, .ref n3, .ref n4, .int (nI cnt), .int (nI fi), .int (nI la), .int (nI lo), .int (nI me)])), fk_al E n3 7 tk, fk_al E n4 7 pu]) 0 4 fT_Re fT_Re_ok fT_Re_nm rfl rfl fh_Re (Nat.le_of_ble_eq_true rfl) fw_106 rfl (fT_Re_ok 4 (Nat.le_of_ble_eq_true rfl)) rfl rfl (Nat.le_of_ble_eq_true rfl) d_Re_explore_2 rfl ?_
  refine fk_aload_n 0 d_Re_explore_5 rfl ?_
  refine fk_iconst (v := nI 0) d_Re_explore_6 (by decide +kernel) ?_
  refine fk_put (w' := [(r0, .inr (4, [.ref r1, .ref r2, .ref r3, .ref r4, .int (nI 0), .int (nI 0)])), fk_al E r1 200 sn, fk_aj E r2 512 sl, fk_aj E r3 1400 nx, (n0, .inr (2, [.ref n1, .ref n2, .ref n3, .ref n4, .int (nI cnt), .int (nI fi), .int (nI la), .int (nI lo), .int (nI me)])), fk_al E n3 7 tk, fk_al E n4 7 pu]) 0 5 fT_Re fT_Re_ok fT_Re_nm rfl rfl fh_Re (Nat.le_of_ble_eq_true rfl) fw_107 rfl (fT_Re_ok 5 (Nat.le_of_ble_eq_true rfl)) rfl rfl (Nat.le_of_ble_eq_true rfl) d_Re_explore_7 rfl ?_
  refine fk_aload_n 0 d_Re_explore_10 rfl ?_
  refine fk_get 0 1 rfl rfl fh_Re (Nat.le_of_ble_eq_true rfl) fw_103 rfl d_Re_explore_11 ?_
  refine fk_iconst (v := nI 0 - 1) d_Re_explore_14 (by decide +kernel) ?_
  refine fk_callS (As := [.ref r2, .int (nI 0 - 1)]) (rest := []) (is := [2]) (ir := [0, 1, 3, 4, 5, 6]) (ip := [0, 1, 6, 2, 3, 4, 5]) (wc := [fk_aj E r2 512 sl]) (wr := [(r0, .inr (4, [.ref r1, .ref r2, .ref r3, .ref r4, .int (nI 0), .int (nI 0)])), fk_al E r1 200 sn, fk_aj E r3 1400 nx, (n0, .inr (2, [.ref n1, .ref n2, .ref n3, .ref n4, .int (nI cnt), .int (nI fi), .int (nI la), .int (nI lo), .int (nI me)])), fk_al E n3 7 tk, fk_al E n4 7 pu]) (w2 := fun u => [(r0, .inr (4, [.ref r1, .ref r2, .ref r3, .ref r4, .int (nI 0), .int (nI 0)])), fk_al E r1 200 sn, fk_aj E r2 512 u, fk_aj E r3 1400 nx, (n0, .inr (2, [.ref n1, .ref n2, .ref n3, .ref n4, .int (nI cnt), .int (nI fi), .int (nI la), .int (nI lo), .int (nI me)])), fk_al E n3 7 tk, fk_al E n4 7 pu]) (cA_fillM E r2 512 0 sl (by first | omega | assumption)) d_Re_explore_15 fz_Ar_fillI fw_388 fw_189 ⟨Nat.le_of_ble_eq_true rfl, Nat.le_of_ble_eq_true rfl⟩ rfl (Nat.le_of_ble_eq_true rfl) ⟨Nat.zero_le _, Nat.zero_le _⟩ ⟨rfl, rfl, rfl, rfl, by decide, fun _ => rfl, rfl⟩ (fun u hu15 => ?_)
  obtain ⟨g9_15, rfl⟩ : ∃ z, z = u := ⟨_, rfl⟩
  have hq15 : ∀ k, k < 512 → g9_15 k = 0 := hu15
  show fk_V E _ K (0, 0) [(r0, .inr (4, [.ref r1, .ref r2, .ref r3, .ref r4, .int (nI 0), .int (nI 0)])), fk_al E r1 200 sn, fk_aj E r2 512 g9_15, fk_aj E r3 1400 nx, (n0, .inr (2, [.ref n1, .ref n2, .ref n3, .ref n4, .int (nI cnt), .int (nI fi), .int (nI la), .int (nI lo), .int (nI me)])), fk_al E n3 7 tk, fk_al E n4 7 pu] 18 [(0, .ref r0), (1, .ref n0)] []
  refine fk_aload_n 0 d_Re_explore_18 rfl ?_
  refine fk_lconst (v := lN 1) d_Re_explore_19 rfl ?_
  refine fk_callV (q0 := 0) (As := [.long (lN 1)]) (rest := []) (is := [0, 1, 2]) (ir := [3, 4, 5, 6]) (ip := [4, 5, 6, 0, 1, 2, 3]) (wc := [(r0, .inr (4, [.ref r1, .ref r2, .ref r3, .ref r4, .int (nI 0), .int (nI 0)])), fk_al E r1 200 sn, fk_aj E r2 512 g9_15]) (wr := [fk_aj E r3 1400 nx, (n0, .inr (2, [.ref n1, .ref n2, .ref n3, .ref n4, .int (nI cnt), .int (nI fi), .int (nI la), .int (nI lo), .int (nI me)])), fk_al E n3 7 tk, fk_al E n4 7 pu]) (w2 := fun u => [(r0, .inr (4, [.ref r1, .ref r2, .ref r3, .ref r4, .int (nI u.2.1), .int (nI 0)])), fk_al E r1 200 u.2.2.1, fk_aj E r2 512 u.2.2.2, fk_aj E r3 1400 nx, (n0, .inr (2, [.ref n1, .ref n2, .ref n3, .ref n4, .int (nI cnt), .int (nI fi), .int (nI la), .int (nI lo), .int (nI me)])), fk_al E n3 7 tk, fk_al E n4 7 pu]) (cR_indexOf E r0 r1 r2 r3 r4 0 0 sn g9_15 1 (by decide) (⟨by decide, fun i hi => absurd hi (Nat.not_lt_zero i), fun a ha => absurd ha (Nat.not_lt_zero a)⟩) (fe_H_0 hq15)) d_Re_explore_20 fz_Re_indexOf fw_389 rfl rfl fw_391 fw_p8 ⟨Nat.le_of_ble_eq_true rfl, Nat.le_of_ble_eq_true rfl⟩ rfl (Nat.le_of_ble_eq_true rfl) ⟨Nat.zero_le _, Nat.zero_le _⟩ ⟨rfl, rfl, rfl, rfl, by decide, fun _ => rfl, rfl⟩ (fun u hu20 => ?_)
  obtain ⟨rr_20, c9_20, sn9_20, sl9_20⟩ := u
  have hq20 : (fe_find sn 1 0 < 0 → rr_20 = fe_find sn 1 0 + 1 ∧ c9_20 = 0 ∧ sn9_20 = sn ∧ sl9_20 = g9_15) ∧ (¬ fe_find sn 1 0 < 0 → (0 = 200 → rr_20 = 0) ∧ (0 < 200 → rr_20 = 0 + 1 ∧ c9_20 = 0 + 1 ∧ sn9_20 = va_up sn 0 1 ∧ fe_H (0 + 1) (va_up sn 0 1) sl9_20)) := hu20
  show fk_V E _ K (0, 0) [(r0, .inr (4, [.ref r1, .ref r2, .ref r3, .ref r4, .int (nI c9_20), .int (nI 0)])), fk_al E r1 200 sn9_20, fk_aj E r2 512 sl9_20, fk_aj E r3 1400 nx, (n0, .inr (2, [.ref n1, .ref n2, .ref n3, .ref n4, .int (nI cnt), .int (nI fi), .int (nI la), .int (nI lo), .int (nI me)])), fk_al E n3 7 tk, fk_al E n4 7 pu] 23 [(0, .ref r0), (1, .ref n0)] [.int (nI rr_20 - 1)]
  have g1 := (hq20.2 (Nat.not_lt_zero _)).2 (by decide)
  obtain ⟨e1, e2, e3, e4⟩ := g1
  have g2 : fe_Z O I me (7 * 0) c9_20 sn9_20 sl9_20 nx := by
    rw [e2, e3]
    refine ⟨⟨rfl, rfl, fun i hi => ?_, fun j hj => absurd hj (Nat.not_lt_zero j)⟩, ⟨by decide, fun i hi => ?_, fun a ha b hb _ => by omega⟩, e4⟩
    · rw [show i = 0 by omega, va_up_self]; rfl
    · rw [show i = 0 by omega, va_up_self]; exact ⟨by decide, (by decide +kernel : ∀ j, j < 16 → fm_dg 1 j < 8)⟩
  refine fk_pop d_Re_explore_23 rfl ?_
  refine fk_iconst (v := nI 0) d_Re_explore_24 (by decide +kernel) ?_
  refine fk_istore_n (lv' := [(0, .ref r0), (1, .ref n0), (2, .int (nI 0))]) d_Re_explore_25 rfl (Nat.le_of_ble_eq_true rfl) [1, 2, 0] rfl ?_
  have L26 : ∀ (fuel : Nat) (i : Nat) (c1 : Nat) (ev1 : Nat) (sn1 : Nat → Nat) (sl1 : Nat → Nat) (nx1 : Nat → Nat), (i ≤ c1) → (fe_Z O I me (7 * i) c1 sn1 sl1 nx1) → (ev1 < 128) → (∀ a, ev1.testBit a = fs_any (fun m => (fs_ens O me (sn1 m)).testBit a) i) → 200 - i < fuel → fk_V E (prog_6_method_3_code, fy_Re_explore.cls, 3, fk_rm 3 0 0) K (0, 0) [(r0, .inr (4, [.ref r1, .ref r2, .ref r3, .ref r4, .int (nI c1), .int (nI ev1)])), fk_al E r1 200 sn1, fk_aj E r2 512 sl1, fk_aj E r3 1400 nx1, (n0, .inr (2, [.ref n1, .ref n2, .ref n3, .ref n4, .int (nI cnt), .int (nI fi), .int (nI la), .int (nI lo), .int (nI me)])), fk_al E n3 7 tk, fk_al E n4 7 pu] 26 [(0, .ref r0), (1, .ref n0), (2, .int (nI i))] [] := by
    intro fuel
    induction fuel with
    | zero => intro i c1 ev1 sn1 sl1 nx1 _ _ _ _ hm; exact absurd hm (Nat.not_lt_zero _)
    | succ fuel ih =>
      intro i c1 ev1 sn1 sl1 nx1 h0 h1 h2 h3 hm26
      have ih26 := ih
      clear ih
      have h9 := h1.2.1.1
      refine fk_iload_n 2 d_Re_explore_26 rfl ?_
      refine fk_sipush (v := nI 200) d_Re_explore_27 (by decide +kernel) ?_
      refine fk_icmp_ge (a := i) (b := 200) (by omega) (by omega) d_Re_explore_30 rfl (fun h30t => ?_) (fun h30f => ?_)
      · refine fk_iconst (v := nI 1) d_Re_explore_58 (by decide +kernel) ?_
        refine fk_top (fn_rt (b := true) (by first | assumption | (simp; omega) | simp_all | (simp_all; omega))) ?_
        have hpp : (true = true → fe_F O I me c1 sn1 nx1 ev1 ∧ fe_V c1 sn1) ∧ (true = false → (fe_run O I me 1400).2.2.2 = true) := ⟨fun _ => fe_F_at h1 (show c1 = i by omega) h2 h3, fun q => absurd (show true = false from q) (by decide)⟩
        exact hret (0, 0) _ 59 _ (true, c1, ev1, sn1, sl1, nx1) d_Re_explore_59 (hpp) (rfl)
      · refine fk_iload_n 2 d_Re_explore_33 rfl ?_
        refine fk_aload_n 0 d_Re_explore_34 rfl ?_
        refine fk_get 0 4 rfl rfl fh_Re (Nat.le_of_ble_eq_true rfl) fw_106 rfl d_Re_explore_35 ?_
        refine fk_icmp_ge (a := i) (b := c1) (by omega) (by omega) d_Re_explore_38 rfl (fun h38t => ?_) (fun h38f => ?_)
        · refine fk_iconst (v := nI 1) d_Re_explore_58 (by decide +kernel) ?_
          refine fk_top (fn_rt (b := true) (by first | assumption | (simp; omega) | simp_all | (simp_all; omega))) ?_
          have hpp : (true = true → fe_F O I me c1 sn1 nx1 ev1 ∧ fe_V c1 sn1) ∧ (true = false → (fe_run O I me 1400).2.2.2 = true) := ⟨fun _ => fe_F_at h1 (show c1 = i by omega) h2 h3, fun q => absurd (show true = false from q) (by decide)⟩
          exact hret (0, 0) _ 59 _ (true, c1, ev1, sn1, sl1, nx1) d_Re_explore_59 (hpp) (rfl)
        · refine fk_aload_n 0 d_Re_explore_41 rfl ?_
          refine fk_aload_n 1 d_Re_explore_42 rfl ?_
          refine fk_iload_n 2 d_Re_explore_43 rfl ?_
          refine fk_callV (q0 := 0) (As := [.ref n0, .int (nI i)]) (rest := []) (is := [0, 1, 2, 3, 4, 5, 6]) (ir := []) (ip := [0, 1, 2, 3, 4, 5, 6]) (wc := [(r0, .inr (4, [.ref r1, .ref r2, .ref r3, .ref r4, .int (nI c1), .int (nI ev1)])), fk_al E r1 200 sn1, fk_aj E r2 512 sl1, fk_aj E r3 1400 nx1, (n0, .inr (2, [.ref n1, .ref n2, .ref n3, .ref n4, .int (nI cnt), .int (nI fi), .int (nI la), .int (nI lo), .int (nI me)])), fk_al E n3 7 tk, fk_al E n4 7 pu]) (wr := []) (w2 := fun u => [(r0, .inr (4, [.ref r1, .ref r2, .ref r3, .ref r4, .int (nI u.2.1), .int (nI (ev1 ||| fs_ens O me (sn1 i)))])), fk_al E r1 200 u.2.2.1, fk_aj E r2 512 u.2.2.2.1, fk_aj E r3 1400 u.2.2.2.2, (n0, .inr (2, [.ref n1, .ref n2, .ref n3, .ref n4, .int (nI cnt), .int (nI fi), .int (nI la), .int (nI lo), .int (nI me)])), fk_al E n3 7 tk, fk_al E n4 7 pu]) (cR_addNextOf E r0 r1 r2 r3 r4 c1 ev1 n0 n1 n2 n3 n4 cnt fi la lo me sn1 sl1 nx1 tk pu O I i (by first | omega | assumption) (by first | omega | assumption) (by first | omega | assumption) h1 (by first | omega | assumption) (by first | omega | assumption)) d_Re_explore_44 fz_Re_addNextOf fw_398 rfl rfl fw_400 fw_p10 ⟨Nat.le_of_ble_eq_true rfl, Nat.le_of_ble_eq_true rfl⟩ rfl (Nat.le_of_ble_eq_true rfl) ⟨Nat.zero_le _, Nat.zero_le _⟩ ⟨rfl, rfl, rfl, rfl, by decide, fun _ => rfl, rfl⟩ (fun u hu44 => ?_)
          obtain ⟨bb_44, c9_44, sn9_44, sl9_44, nx9_44⟩ := u
          have hq44 : (bb_44 = true → fe_Z O I me (7 * (i + 1)) c9_44 sn9_44 sl9_44 nx9_44 ∧ c1 ≤ c9_44 ∧ ∀ z, z < c1 → sn9_44 z = sn1 z) ∧ (bb_44 = false → (fe_run O I me (7 * (i + 1))).2.2.2 = true) := hu44
          show fk_V E _ K (0, 0) [(r0, .inr (4, [.ref r1, .ref r2, .ref r3, .ref r4, .int (nI c9_44), .int (nI (ev1 ||| fs_ens O me (sn1 i)))])), fk_al E r1 200 sn9_44, fk_aj E r2 512 sl9_44, fk_aj E r3 1400 nx9_44, (n0, .inr (2, [.ref n1, .ref n2, .ref n3, .ref n4, .int (nI cnt), .int (nI fi), .int (nI la), .int (nI lo), .int (nI me)])), fk_al E n3 7 tk, fk_al E n4 7 pu] 47 [(0, .ref r0), (1, .ref n0), (2, .int (nI i))] [.int (nI (Bool.toNat bb_44))]
          refine fk_if_neB (b := bb_44) d_Re_explore_47 rfl (fun h47t => ?_) (fun h47f => ?_)
          · have g4 := hq44.1 h47t
            refine fk_iinc (j := 2) (lv' := [(0, .ref r0), (1, .ref n0), (2, .int (nI (i + 1)))]) (i + 1) d_Re_explore_52 rfl (nI_1 i) (Nat.le_of_ble_eq_true rfl) [1, 2, 0] rfl ?_
            refine fk_goto d_Re_explore_55 rfl ?_
            refine ih26 _ _ _ _ _ _ ?_ ?_ ?_ ?_ ?_
            · have := g4.2.1
              omega
            · exact g4.1
            · exact fb_or_lt h2 (fs_ens_lt _ _ _)
            · intro a
              rw [Nat.testBit_or, h3 a, fs_any_s, g4.2.2 i h38f]
              congr 1
              exact fs_any_congr (fun j hj => by rw [g4.2.2 j (by omega)])
            · omega
          · refine fk_iconst (v := nI 0) d_Re_explore_50 (by decide +kernel) ?_
            refine fk_top (fn_rf (b := false) (by first | assumption | (simp; omega) | simp_all | (simp_all; omega))) ?_
            have hpp : (false = true → fe_F O I me c9_44 sn9_44 nx9_44 (ev1 ||| fs_ens O me (sn1 i)) ∧ fe_V c9_44 sn9_44) ∧ (false = false → (fe_run O I me 1400).2.2.2 = true) := ⟨fun q => absurd (show false = true from q) (by decide), fun _ => fe_wide_m (hq44.2 h47f) (by omega)⟩
            exact hret (0, 0) _ 51 _ (false, c9_44, ev1 ||| fs_ens O me (sn1 i), sn9_44, sl9_44, nx9_44) d_Re_explore_51 (hpp) (rfl)
  refine L26 _ _ _ _ _ _ _ ?_ ?_ ?_ ?_ (Nat.lt_succ_self _)
  · first | omega | assumption | exact Nat.zero_le _
  · exact g2
  · decide
  · exact fun a => Nat.zero_testBit a
