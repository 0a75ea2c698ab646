theorem d_Mi_causedBy_0 : decode prog_3_method_5_code 0 = .ok (.iconst 0, 1) := by decide +kernel
theorem d_Mi_causedBy_1 : decode prog_3_method_5_code 1 = .ok (.istore_n 2, 1) := by decide +kernel
theorem d_Mi_causedBy_2 : decode prog_3_method_5_code 2 = .ok (.iconst 0, 1) := by decide +kernel
theorem d_Mi_causedBy_3 : decode prog_3_method_5_code 3 = .ok (.istore_n 3, 1) := by decide +kernel
theorem d_Mi_causedBy_4 : decode prog_3_method_5_code 4 = .ok (.iload_n 3, 1) := by decide +kernel
theorem d_Mi_causedBy_5 : decode prog_3_method_5_code 5 = .ok (.bipush 7, 2) := by decide +kernel
theorem d_Mi_causedBy_7 : decode prog_3_method_5_code 7 = .ok (.if_icmp .ge 33, 3) := by decide +kernel
theorem d_Mi_causedBy_10 : decode prog_3_method_5_code 10 = .ok (.aload_n 0, 1) := by decide +kernel
theorem d_Mi_causedBy_11 : decode prog_3_method_5_code 11 = .ok (.iload_n 1, 1) := by decide +kernel
theorem d_Mi_causedBy_12 : decode prog_3_method_5_code 12 = .ok (.iload_n 3, 1) := by decide +kernel
theorem d_Mi_causedBy_13 : decode prog_3_method_5_code 13 = .ok (.invokevirtual 73, 3) := by decide +kernel
theorem d_Mi_causedBy_16 : decode prog_3_method_5_code 16 = .ok (.ifCond .eq 18, 3) := by decide +kernel
theorem d_Mi_causedBy_19 : decode prog_3_method_5_code 19 = .ok (.aload_n 0, 1) := by decide +kernel
theorem d_Mi_causedBy_20 : decode prog_3_method_5_code 20 = .ok (.iload_n 3, 1) := by decide +kernel
theorem d_Mi_causedBy_21 : decode prog_3_method_5_code 21 = .ok (.iload_n 1, 1) := by decide +kernel
theorem d_Mi_causedBy_22 : decode prog_3_method_5_code 22 = .ok (.invokevirtual 73, 3) := by decide +kernel
theorem d_Mi_causedBy_25 : decode prog_3_method_5_code 25 = .ok (.ifCond .ne 9, 3) := by decide +kernel
theorem d_Mi_causedBy_28 : decode prog_3_method_5_code 28 = .ok (.iload_n 2, 1) := by decide +kernel
theorem d_Mi_causedBy_29 : decode prog_3_method_5_code 29 = .ok (.iconst 1, 1) := by decide +kernel
theorem d_Mi_causedBy_30 : decode prog_3_method_5_code 30 = .ok (.iload_n 3, 1) := by decide +kernel
theorem d_Mi_causedBy_31 : decode prog_3_method_5_code 31 = .ok (.ishl, 1) := by decide +kernel
theorem d_Mi_causedBy_32 : decode prog_3_method_5_code 32 = .ok (.ior, 1) := by decide +kernel
theorem d_Mi_causedBy_33 : decode prog_3_method_5_code 33 = .ok (.istore_n 2, 1) := by decide +kernel
theorem d_Mi_causedBy_34 : decode prog_3_method_5_code 34 = .ok (.iinc 3 1, 3) := by decide +kernel
theorem d_Mi_causedBy_37 : decode prog_3_method_5_code 37 = .ok (.goto (-33), 3) := by decide +kernel
theorem d_Mi_causedBy_40 : decode prog_3_method_5_code 40 = .ok (.iload_n 2, 1) := by decide +kernel
theorem d_Mi_causedBy_41 : decode prog_3_method_5_code 41 = .ok (.ireturn, 1) := by decide +kernel
set_option maxRecDepth 20000 in
set_option maxHeartbeats 4000000 in
theorem cM_causedBy (E : fk_E) (a0 : Nat) (a1 : Nat) (a2 : Nat) (a3 : Nat) (tr : Nat) (fo : Nat → Nat) (fl : Nat → Nat → Bool) (a : Nat) (hfl : ∀ a, a < 7 → ∀ b, b < 7 → Nat.testBit (fo a) b = fl a b) (hf : ∀ k, k < 7 → fo k < 128) (ha : a < 7) : fk_C E fy_Mi_causedBy prog_3_method_5_code 4 (some .int) 2 0 0 [.ref a0, .int (nI a)] [(a0, .inr (1, [.ref a1, .ref a2, .ref a3, .int (nI tr)])), fk_ai E a3 7 fo] (S := Unit) (fun _ => some (.int (nI (fs_set (fg_caus fl a) 7)))) (fun _ => True) (fun _ => [(a0, .inr (1, [.ref a1, .ref a2, .ref a3, .int (nI tr)])), fk_ai E a3 7 fo]) := by
  refine fk_enterI (v := fun _ => (nI (fs_set (fg_caus fl a) 7))) (by decide) (Nat.le_of_ble_eq_true rfl) (lv0 := [(0, .ref a0), (1, .int (nI a))]) rfl ?_
  intro K hini hret
  refine fk_iconst (v := nI 0) d_Mi_causedBy_0 (by decide +kernel) ?_
  refine fk_istore_n (lv' := [(0, .ref a0), (1, .int (nI a)), (2, .int (nI 0))]) d_Mi_causedBy_1 rfl (Nat.le_of_ble_eq_true rfl) [1, 2, 0] rfl ?_
  refine fk_iconst (v := nI 0) d_Mi_causedBy_2 (by decide +kernel) ?_
  refine fk_istore_n (lv' := [(0, .ref a0), (1, .int (nI a)), (2, .int (nI 0)), (3, .int (nI 0))]) d_Mi_causedBy_3 rfl (Nat.le_of_ble_eq_true rfl) [1, 2, 3, 0] rfl ?_
  have L4 : ∀ (fuel : Nat) (s : Nat) (b : Nat), (b ≤ 7) → (s = fs_set (fg_caus fl a) b) → 7 - b < fuel → fk_V E (prog_3_method_5_code, fy_Mi_causedBy.cls, 4, fk_rm 2 0 0) K (0, 0) [(a0, .inr (1, [.ref a1, .ref a2, .ref a3, .int (nI tr)])), fk_ai E a3 7 fo] 4 [(0, .ref a0), (1, .int (nI a)), (2, .int (nI s)), (3, .int (nI b))] [] := by
    intro fuel
    induction fuel with
    | zero => intro s b _ _ hm; exact absurd hm (Nat.not_lt_zero _)
    | succ fuel ih =>
      intro s b h1 h2 hm4
      have ih4 := ih
      clear ih
      refine fk_iload_n 3 d_Mi_causedBy_4 rfl ?_
      refine fk_bipush (v := nI 7) d_Mi_causedBy_5 (by decide +kernel) ?_
      refine fk_icmp_ge (a := b) (b := 7) (by omega) (by omega) d_Mi_causedBy_7 rfl (fun h7t => ?_) (fun h7f => ?_)
      · refine fk_iload_n 2 d_Mi_causedBy_40 rfl ?_
        refine fk_top (congrArg nI (show s = fs_set (fg_caus fl a) 7 from by rw [h2, show b = 7 by omega])) ?_
        exact hret (0, 0) _ 41 _ () d_Mi_causedBy_41 (trivial) (rfl)
      · have q1 := hfl a ha b h7f
        have q2 := hfl b h7f a ha
        refine fk_aload_n 0 d_Mi_causedBy_10 rfl ?_
        refine fk_iload_n 1 d_Mi_causedBy_11 rfl ?_
        refine fk_iload_n 3 d_Mi_causedBy_12 rfl ?_
        refine fk_callV (q0 := 0) (As := [.int (nI a), .int (nI b)]) (rest := []) (is := [0, 1]) (ir := []) (ip := [0, 1]) (wc := [(a0, .inr (1, [.ref a1, .ref a2, .ref a3, .int (nI tr)])), fk_ai E a3 7 fo]) (wr := []) (w2 := fun _ => [(a0, .inr (1, [.ref a1, .ref a2, .ref a3, .int (nI tr)])), fk_ai E a3 7 fo]) (cL_isFollowed E a0 a1 a2 a3 tr fo a b (by first | omega | assumption) (by first | omega | assumption) (by first | omega | assumption)) d_Mi_causedBy_13 fz_Lg_isFollowed fw_240 rfl rfl fw_219 fw_220 ⟨Nat.le_of_ble_eq_true rfl, Nat.le_of_ble_eq_true rfl⟩ rfl (Nat.le_of_ble_eq_true rfl) ⟨Nat.zero_le _, Nat.zero_le _⟩ ⟨rfl, rfl, rfl, rfl, by decide, fun _ => rfl, rfl⟩ (fun u hu13 => ?_)
        show fk_V E _ K (0, 0) [(a0, .inr (1, [.ref a1, .ref a2, .ref a3, .int (nI tr)])), fk_ai E a3 7 fo] 16 [(0, .ref a0), (1, .int (nI a)), (2, .int (nI s)), (3, .int (nI b))] [.int (nI (Bool.toNat (Nat.testBit (fo a) b)))]
        refine fk_if_eqB (b := (Nat.testBit (fo a) b)) d_Mi_causedBy_16 rfl (fun h16t => ?_) (fun h16f => ?_)
        · have g1 := q1.symm.trans h16t
          refine fk_iinc (j := 3) (lv' := [(0, .ref a0), (1, .int (nI a)), (2, .int (nI s)), (3, .int (nI (b + 1)))]) (b + 1) d_Mi_causedBy_34 rfl (nI_1 b) (Nat.le_of_ble_eq_true rfl) [1, 2, 3, 0] rfl ?_
          refine fk_goto d_Mi_causedBy_37 rfl ?_
          refine ih4 _ _ ?_ ?_ ?_
          · first | omega | assumption | exact Nat.zero_le _
          · rw [h2]
            first | (refine fs_set_t ?_; unfold fg_caus; rw [g1, g2]; rfl) | (refine fs_set_f ?_; unfold fg_caus; rw [g1, g2]; rfl) | (refine fs_set_f ?_; unfold fg_caus; rw [g1]; rfl)
          · omega
        · have g1 := q1.symm.trans h16f
          refine fk_aload_n 0 d_Mi_causedBy_19 rfl ?_
          refine fk_iload_n 3 d_Mi_causedBy_20 rfl ?_
          refine fk_iload_n 1 d_Mi_causedBy_21 rfl ?_
          refine fk_callV (q0 := 0) (As := [.int (nI b), .int (nI a)]) (rest := []) (is := [0, 1]) (ir := []) (ip := [0, 1]) (wc := [(a0, .inr (1, [.ref a1, .ref a2, .ref a3, .int (nI tr)])), fk_ai E a3 7 fo]) (wr := []) (w2 := fun _ => [(a0, .inr (1, [.ref a1, .ref a2, .ref a3, .int (nI tr)])), fk_ai E a3 7 fo]) (cL_isFollowed E a0 a1 a2 a3 tr fo b a (by first | omega | assumption) (by first | omega | assumption) (by first | omega | assumption)) d_Mi_causedBy_22 fz_Lg_isFollowed fw_240 rfl rfl fw_219 fw_220 ⟨Nat.le_of_ble_eq_true rfl, Nat.le_of_ble_eq_true rfl⟩ rfl (Nat.le_of_ble_eq_true rfl) ⟨Nat.zero_le _, Nat.zero_le _⟩ ⟨rfl, rfl, rfl, rfl, by decide, fun _ => rfl, rfl⟩ (fun u hu22 => ?_)
          show fk_V E _ K (0, 0) [(a0, .inr (1, [.ref a1, .ref a2, .ref a3, .int (nI tr)])), fk_ai E a3 7 fo] 25 [(0, .ref a0), (1, .int (nI a)), (2, .int (nI s)), (3, .int (nI b))] [.int (nI (Bool.toNat (Nat.testBit (fo b) a)))]
          refine fk_if_neB (b := (Nat.testBit (fo b) a)) d_Mi_causedBy_25 rfl (fun h25t => ?_) (fun h25f => ?_)
          · have g2 := q2.symm.trans h25t
            refine fk_iinc (j := 3) (lv' := [(0, .ref a0), (1, .int (nI a)), (2, .int (nI s)), (3, .int (nI (b + 1)))]) (b + 1) d_Mi_causedBy_34 rfl (nI_1 b) (Nat.le_of_ble_eq_true rfl) [1, 2, 3, 0] rfl ?_
            refine fk_goto d_Mi_causedBy_37 rfl ?_
            refine ih4 _ _ ?_ ?_ ?_
            · first | omega | assumption | exact Nat.zero_le _
            · rw [h2]
              first | (refine fs_set_t ?_; unfold fg_caus; rw [g1, g2]; rfl) | (refine fs_set_f ?_; unfold fg_caus; rw [g1, g2]; rfl) | (refine fs_set_f ?_; unfold fg_caus; rw [g1]; rfl)
            · omega
          · have g2 := q2.symm.trans h25f
            refine fk_iload_n 2 d_Mi_causedBy_28 rfl ?_
            refine fk_iconst (v := nI 1) d_Mi_causedBy_29 (by decide +kernel) ?_
            refine fk_iload_n 3 d_Mi_causedBy_30 rfl ?_
            refine fk_ishl (a := 1) (b := b) d_Mi_causedBy_31 (by omega) (by have := fb_pow_lt h7f; omega) ?_
            refine fk_top (show nI (1 * 2 ^ b) = nI (2 ^ b) by rw [Nat.one_mul]) ?_
            refine fk_ior (a := s) (b := (2 ^ b)) d_Mi_causedBy_32 ?_
            refine fk_istore_n (lv' := [(0, .ref a0), (1, .int (nI a)), (2, .int (nI (s ||| (2 ^ b)))), (3, .int (nI b))]) d_Mi_causedBy_33 rfl (Nat.le_of_ble_eq_true rfl) [1, 2, 0, 3] rfl ?_
            refine fk_iinc (j := 3) (lv' := [(0, .ref a0), (1, .int (nI a)), (2, .int (nI (s ||| (2 ^ b)))), (3, .int (nI (b + 1)))]) (b + 1) d_Mi_causedBy_34 rfl (nI_1 b) (Nat.le_of_ble_eq_true rfl) [1, 2, 3, 0] rfl ?_
            refine fk_goto d_Mi_causedBy_37 rfl ?_
            refine ih4 _ _ ?_ ?_ ?_
            · first | omega | assumption | exact Nat.zero_le _
            · rw [h2]
              first | (refine fs_set_t ?_; unfold fg_caus; rw [g1, g2]; rfl) | (refine fs_set_f ?_; unfold fg_caus; rw [g1, g2]; rfl) | (refine fs_set_f ?_; unfold fg_caus; rw [g1]; rfl)
            · omega
  refine L4 _ _ _ ?_ ?_ (Nat.lt_succ_self _)
  · first | omega | assumption | exact Nat.zero_le _
  · rfl
theorem d_Mi_knownTo_0 : decode prog_3_method_6_code 0 = .ok (.iconst 0, 1) := by decide +kernel
theorem d_Mi_knownTo_1 : decode prog_3_method_6_code 1 = .ok (.istore_n 2, 1) := by decide +kernel
theorem d_Mi_knownTo_2 : decode prog_3_method_6_code 2 = .ok (.iconst 0, 1) := by decide +kernel
theorem d_Mi_knownTo_3 : decode prog_3_method_6_code 3 = .ok (.istore_n 3, 1) := by decide +kernel
theorem d_Mi_knownTo_4 : decode prog_3_method_6_code 4 = .ok (.iload_n 3, 1) := by decide +kernel
theorem d_Mi_knownTo_5 : decode prog_3_method_6_code 5 = .ok (.bipush 7, 2) := by decide +kernel
theorem d_Mi_knownTo_7 : decode prog_3_method_6_code 7 = .ok (.if_icmp .ge 33, 3) := by decide +kernel
theorem d_Mi_knownTo_10 : decode prog_3_method_6_code 10 = .ok (.aload_n 0, 1) := by decide +kernel
theorem d_Mi_knownTo_11 : decode prog_3_method_6_code 11 = .ok (.iload_n 1, 1) := by decide +kernel
theorem d_Mi_knownTo_12 : decode prog_3_method_6_code 12 = .ok (.iload_n 3, 1) := by decide +kernel
theorem d_Mi_knownTo_13 : decode prog_3_method_6_code 13 = .ok (.invokevirtual 73, 3) := by decide +kernel
theorem d_Mi_knownTo_16 : decode prog_3_method_6_code 16 = .ok (.ifCond .ne 12, 3) := by decide +kernel
theorem d_Mi_knownTo_19 : decode prog_3_method_6_code 19 = .ok (.aload_n 0, 1) := by decide +kernel
theorem d_Mi_knownTo_20 : decode prog_3_method_6_code 20 = .ok (.iload_n 3, 1) := by decide +kernel
theorem d_Mi_knownTo_21 : decode prog_3_method_6_code 21 = .ok (.iload_n 1, 1) := by decide +kernel
theorem d_Mi_knownTo_22 : decode prog_3_method_6_code 22 = .ok (.invokevirtual 73, 3) := by decide +kernel
theorem d_Mi_knownTo_25 : decode prog_3_method_6_code 25 = .ok (.ifCond .eq 9, 3) := by decide +kernel
theorem d_Mi_knownTo_28 : decode prog_3_method_6_code 28 = .ok (.iload_n 2, 1) := by decide +kernel
theorem d_Mi_knownTo_29 : decode prog_3_method_6_code 29 = .ok (.iconst 1, 1) := by decide +kernel
theorem d_Mi_knownTo_30 : decode prog_3_method_6_code 30 = .ok (.iload_n 3, 1) := by decide +kernel
theorem d_Mi_knownTo_31 : decode prog_3_method_6_code 31 = .ok (.ishl, 1) := by decide +kernel
theorem d_Mi_knownTo_32 : decode prog_3_method_6_code 32 = .ok (.ior, 1) := by decide +kernel
theorem d_Mi_knownTo_33 : decode prog_3_method_6_code 33 = .ok (.istore_n 2, 1) := by decide +kernel
theorem d_Mi_knownTo_34 : decode prog_3_method_6_code 34 = .ok (.iinc 3 1, 3) := by decide +kernel
theorem d_Mi_knownTo_37 : decode prog_3_method_6_code 37 = .ok (.goto (-33), 3) := by decide +kernel
theorem d_Mi_knownTo_40 : decode prog_3_method_6_code 40 = .ok (.iload_n 2, 1) := by decide +kernel
theorem d_Mi_knownTo_41 : decode prog_3_method_6_code 41 = .ok (.ireturn, 1) := by decide +kernel
set_option maxRecDepth 20000 in
set_option maxHeartbeats 4000000 in
theorem cM_knownTo (E : fk_E) (a0 : Nat) (a1 : Nat) (a2 : Nat) (a3 : Nat) (tr : Nat) (fo : Nat → Nat) (fl : Nat → Nat → Bool) (a : Nat) (hfl : ∀ a, a < 7 → ∀ b, b < 7 → Nat.testBit (fo a) b = fl a b) (hf : ∀ k, k < 7 → fo k < 128) (ha : a < 7) : fk_C E fy_Mi_knownTo prog_3_method_6_code 4 (some .int) 2 0 0 [.ref a0, .int (nI a)] [(a0, .inr (1, [.ref a1, .ref a2, .ref a3, .int (nI tr)])), fk_ai E a3 7 fo] (S := Unit) (fun _ => some (.int (nI (fs_set (fg_kn fl a) 7)))) (fun _ => True) (fun _ => [(a0, .inr (1, [.ref a1, .ref a2, .ref a3, .int (nI tr)])), fk_ai E a3 7 fo]) := by
  refine fk_enterI (v := fun _ => (nI (fs_set (fg_kn fl a) 7))) (by decide) (Nat.le_of_ble_eq_true rfl) (lv0 := [(0, .ref a0), (1, .int (nI a))]) rfl ?_
  intro K hini hret
  refine fk_iconst (v := nI 0) d_Mi_knownTo_0 (by decide +kernel) ?_
  refine fk_istore_n (lv' := [(0, .ref a0), (1, .int (nI a)), (2, .int (nI 0))]) d_Mi_knownTo_1 rfl (Nat.le_of_ble_eq_true rfl) [1, 2, 0] rfl ?_
  refine fk_iconst (v := nI 0) d_Mi_knownTo_2 (by decide +kernel) ?_
  refine fk_istore_n (lv' := [(0, .ref a0), (1, .int (nI a)), (2, .int (nI 0)), (3, .int (nI 0))]) d_Mi_knownTo_3 rfl (Nat.le_of_ble_eq_true rfl) [1, 2, 3, 0] rfl ?_
  have L4 : ∀ (fuel : Nat) (s : Nat) (b : Nat), (b ≤ 7) → (s = fs_set (fg_kn fl a) b) → 7 - b < fuel → fk_V E (prog_3_method_6_code, fy_Mi_knownTo.cls, 4, fk_rm 2 0 0) K (0, 0) [(a0, .inr (1, [.ref a1, .ref a2, .ref a3, .int (nI tr)])), fk_ai E a3 7 fo] 4 [(0, .ref a0), (1, .int (nI a)), (2, .int (nI s)), (3, .int (nI b))] [] := by
    intro fuel
    induction fuel with
    | zero => intro s b _ _ hm; exact absurd hm (Nat.not_lt_zero _)
    | succ fuel ih =>
      intro s b h1 h2 hm4
      have ih4 := ih
      clear ih
      refine fk_iload_n 3 d_Mi_knownTo_4 rfl ?_
      refine fk_bipush (v := nI 7) d_Mi_knownTo_5 (by decide +kernel) ?_
      refine fk_icmp_ge (a := b) (b := 7) (by omega) (by omega) d_Mi_knownTo_7 rfl (fun h7t => ?_) (fun h7f => ?_)
      · refine fk_iload_n 2 d_Mi_knownTo_40 rfl ?_
        refine fk_top (congrArg nI (show s = fs_set (fg_kn fl a) 7 from by rw [h2, show b = 7 by omega])) ?_
        exact hret (0, 0) _ 41 _ () d_Mi_knownTo_41 (trivial) (rfl)
      · have q1 := hfl a ha b h7f
        have q2 := hfl b h7f a ha
        refine fk_aload_n 0 d_Mi_knownTo_10 rfl ?_
        refine fk_iload_n 1 d_Mi_knownTo_11 rfl ?_
        refine fk_iload_n 3 d_Mi_knownTo_12 rfl ?_
        refine fk_callV (q0 := 0) (As := [.int (nI a), .int (nI b)]) (rest := []) (is := [0, 1]) (ir := []) (ip := [0, 1]) (wc := [(a0, .inr (1, [.ref a1, .ref a2, .ref a3, .int (nI tr)])), fk_ai E a3 7 fo]) (wr := []) (w2 := fun _ => [(a0, .inr (1, [.ref a1, .ref a2, .ref a3, .int (nI tr)])), fk_ai E a3 7 fo]) (cL_isFollowed E a0 a1 a2 a3 tr fo a b (by first | omega | assumption) (by first | omega | assumption) (by first | omega | assumption)) d_Mi_knownTo_13 fz_Lg_isFollowed fw_240 rfl rfl fw_219 fw_220 ⟨Nat.le_of_ble_eq_true rfl, Nat.le_of_ble_eq_true rfl⟩ rfl (Nat.le_of_ble_eq_true rfl) ⟨Nat.zero_le _, Nat.zero_le _⟩ ⟨rfl, rfl, rfl, rfl, by decide, fun _ => rfl, rfl⟩ (fun u hu13 => ?_)
        show fk_V E _ K (0, 0) [(a0, .inr (1, [.ref a1, .ref a2, .ref a3, .int (nI tr)])), fk_ai E a3 7 fo] 16 [(0, .ref a0), (1, .int (nI a)), (2, .int (nI s)), (3, .int (nI b))] [.int (nI (Bool.toNat (Nat.testBit (fo a) b)))]
        refine fk_if_neB (b := (Nat.testBit (fo a) b)) d_Mi_knownTo_16 rfl (fun h16t => ?_) (fun h16f => ?_)
        · have g1 := q1.symm.trans h16t
          refine fk_iload_n 2 d_Mi_knownTo_28 rfl ?_
          refine fk_iconst (v := nI 1) d_Mi_knownTo_29 (by decide +kernel) ?_
          refine fk_iload_n 3 d_Mi_knownTo_30 rfl ?_
          refine fk_ishl (a := 1) (b := b) d_Mi_knownTo_31 (by omega) (by have := fb_pow_lt h7f; omega) ?_
          refine fk_top (show nI (1 * 2 ^ b) = nI (2 ^ b) by rw [Nat.one_mul]) ?_
          refine fk_ior (a := s) (b := (2 ^ b)) d_Mi_knownTo_32 ?_
          refine fk_istore_n (lv' := [(0, .ref a0), (1, .int (nI a)), (2, .int (nI (s ||| (2 ^ b)))), (3, .int (nI b))]) d_Mi_knownTo_33 rfl (Nat.le_of_ble_eq_true rfl) [1, 2, 0, 3] rfl ?_
          refine fk_iinc (j := 3) (lv' := [(0, .ref a0), (1, .int (nI a)), (2, .int (nI (s ||| (2 ^ b)))), (3, .int (nI (b + 1)))]) (b + 1) d_Mi_knownTo_34 rfl (nI_1 b) (Nat.le_of_ble_eq_true rfl) [1, 2, 3, 0] rfl ?_
          refine fk_goto d_Mi_knownTo_37 rfl ?_
          refine ih4 _ _ ?_ ?_ ?_
          · first | omega | assumption | exact Nat.zero_le _
          · rw [h2]
            first | (refine fs_set_t ?_; unfold fg_kn; rw [g1]; rfl) | (refine fs_set_t ?_; unfold fg_kn; rw [g1, g2]; rfl) | (refine fs_set_f ?_; unfold fg_kn; rw [g1, g2]; rfl)
          · omega
        · have g1 := q1.symm.trans h16f
          refine fk_aload_n 0 d_Mi_knownTo_19 rfl ?_
          refine fk_iload_n 3 d_Mi_knownTo_20 rfl ?_
          refine fk_iload_n 1 d_Mi_knownTo_21 rfl ?_
          refine fk_callV (q0 := 0) (As := [.int (nI b), .int (nI a)]) (rest := []) (is := [0, 1]) (ir := []) (ip := [0, 1]) (wc := [(a0, .inr (1, [.ref a1, .ref a2, .ref a3, .int (nI tr)])), fk_ai E a3 7 fo]) (wr := []) (w2 := fun _ => [(a0, .inr (1, [.ref a1, .ref a2, .ref a3, .int (nI tr)])), fk_ai E a3 7 fo]) (cL_isFollowed E a0 a1 a2 a3 tr fo b a (by first | omega | assumption) (by first | omega | assumption) (by first | omega | assumption)) d_Mi_knownTo_22 fz_Lg_isFollowed fw_240 rfl rfl fw_219 fw_220 ⟨Nat.le_of_ble_eq_true rfl, Nat.le_of_ble_eq_true rfl⟩ rfl (Nat.le_of_ble_eq_true rfl) ⟨Nat.zero_le _, Nat.zero_le _⟩ ⟨rfl, rfl, rfl, rfl, by decide, fun _ => rfl, rfl⟩ (fun u hu22 => ?_)
          show fk_V E _ K (0, 0) [(a0, .inr (1, [.ref a1, .ref a2, .ref a3, .int (nI tr)])), fk_ai E a3 7 fo] 25 [(0, .ref a0), (1, .int (nI a)), (2, .int (nI s)), (3, .int (nI b))] [.int (nI (Bool.toNat (Nat.testBit (fo b) a)))]
          refine fk_if_eqB (b := (Nat.testBit (fo b) a)) d_Mi_knownTo_25 rfl (fun h25t => ?_) (fun h25f => ?_)
          · have g2 := q2.symm.trans h25t
            refine fk_iinc (j := 3) (lv' := [(0, .ref a0), (1, .int (nI a)), (2, .int (nI s)), (3, .int (nI (b + 1)))]) (b + 1) d_Mi_knownTo_34 rfl (nI_1 b) (Nat.le_of_ble_eq_true rfl) [1, 2, 3, 0] rfl ?_
            refine fk_goto d_Mi_knownTo_37 rfl ?_
            refine ih4 _ _ ?_ ?_ ?_
            · first | omega | assumption | exact Nat.zero_le _
            · rw [h2]
              first | (refine fs_set_t ?_; unfold fg_kn; rw [g1]; rfl) | (refine fs_set_t ?_; unfold fg_kn; rw [g1, g2]; rfl) | (refine fs_set_f ?_; unfold fg_kn; rw [g1, g2]; rfl)
            · omega
          · have g2 := q2.symm.trans h25f
            refine fk_iload_n 2 d_Mi_knownTo_28 rfl ?_
            refine fk_iconst (v := nI 1) d_Mi_knownTo_29 (by decide +kernel) ?_
            refine fk_iload_n 3 d_Mi_knownTo_30 rfl ?_
            refine fk_ishl (a := 1) (b := b) d_Mi_knownTo_31 (by omega) (by have := fb_pow_lt h7f; omega) ?_
            refine fk_top (show nI (1 * 2 ^ b) = nI (2 ^ b) by rw [Nat.one_mul]) ?_
            refine fk_ior (a := s) (b := (2 ^ b)) d_Mi_knownTo_32 ?_
            refine fk_istore_n (lv' := [(0, .ref a0), (1, .int (nI a)), (2, .int (nI (s ||| (2 ^ b)))), (3, .int (nI b))]) d_Mi_knownTo_33 rfl (Nat.le_of_ble_eq_true rfl) [1, 2, 0, 3] rfl ?_
            refine fk_iinc (j := 3) (lv' := [(0, .ref a0), (1, .int (nI a)), (2, .int (nI (s ||| (2 ^ b)))), (3, .int (nI (b + 1)))]) (b + 1) d_Mi_knownTo_34 rfl (nI_1 b) (Nat.le_of_ble_eq_true rfl) [1, 2, 3, 0] rfl ?_
            refine fk_goto d_Mi_knownTo_37 rfl ?_
            refine ih4 _ _ ?_ ?_ ?_
            · first | omega | assumption | exact Nat.zero_le _
            · rw [h2]
              first | (refine fs_set_t ?_; unfold fg_kn; rw [g1]; rfl) | (refine fs_set_t ?_; unfold fg_kn; rw [g1, g2]; rfl) | (refine fs_set_f ?_; unfold fg_kn; rw [g1, g2]; rfl)
            · omega
  refine L4 _ _ _ ?_ ?_ (Nat.lt_succ_self _)
  · first | omega | assumption | exact Nat.zero_le _
  · rfl
theorem d_Mi_isCausal_0 : decode prog_3_method_8_code 0 = .ok (.aload_n 0, 1) := by decide +kernel
theorem d_Mi_isCausal_1 : decode prog_3_method_8_code 1 = .ok (.getfield 15, 3) := by decide +kernel
theorem d_Mi_isCausal_4 : decode prog_3_method_8_code 4 = .ok (.iload_n 1, 1) := by decide +kernel
theorem d_Mi_isCausal_5 : decode prog_3_method_8_code 5 = .ok (.baload, 1) := by decide +kernel
theorem d_Mi_isCausal_6 : decode prog_3_method_8_code 6 = .ok (.ifCond .eq 29, 3) := by decide +kernel
theorem d_Mi_isCausal_9 : decode prog_3_method_8_code 9 = .ok (.aload_n 0, 1) := by decide +kernel
theorem d_Mi_isCausal_10 : decode prog_3_method_8_code 10 = .ok (.getfield 15, 3) := by decide +kernel
theorem d_Mi_isCausal_13 : decode prog_3_method_8_code 13 = .ok (.iload_n 2, 1) := by decide +kernel
theorem d_Mi_isCausal_14 : decode prog_3_method_8_code 14 = .ok (.baload, 1) := by decide +kernel
theorem d_Mi_isCausal_15 : decode prog_3_method_8_code 15 = .ok (.ifCond .eq 20, 3) := by decide +kernel
theorem d_Mi_isCausal_18 : decode prog_3_method_8_code 18 = .ok (.iload_n 2, 1) := by decide +kernel
theorem d_Mi_isCausal_19 : decode prog_3_method_8_code 19 = .ok (.aload_n 0, 1) := by decide +kernel
theorem d_Mi_isCausal_20 : decode prog_3_method_8_code 20 = .ok (.getfield 9, 3) := by decide +kernel
theorem d_Mi_isCausal_23 : decode prog_3_method_8_code 23 = .ok (.iload_n 1, 1) := by decide +kernel
theorem d_Mi_isCausal_24 : decode prog_3_method_8_code 24 = .ok (.iaload, 1) := by decide +kernel
theorem d_Mi_isCausal_25 : decode prog_3_method_8_code 25 = .ok (.iconst (-1), 1) := by decide +kernel
theorem d_Mi_isCausal_26 : decode prog_3_method_8_code 26 = .ok (.ixor, 1) := by decide +kernel
theorem d_Mi_isCausal_27 : decode prog_3_method_8_code 27 = .ok (.iand, 1) := by decide +kernel
theorem d_Mi_isCausal_28 : decode prog_3_method_8_code 28 = .ok (.ifCond .ne 7, 3) := by decide +kernel
theorem d_Mi_isCausal_31 : decode prog_3_method_8_code 31 = .ok (.iconst 1, 1) := by decide +kernel
theorem d_Mi_isCausal_32 : decode prog_3_method_8_code 32 = .ok (.goto 4, 3) := by decide +kernel
theorem d_Mi_isCausal_35 : decode prog_3_method_8_code 35 = .ok (.iconst 0, 1) := by decide +kernel
theorem d_Mi_isCausal_36 : decode prog_3_method_8_code 36 = .ok (.ireturn, 1) := by decide +kernel
set_option maxRecDepth 20000 in
set_option maxHeartbeats 4000000 in
theorem cM_isCausal (E : fk_E) (i0 : Nat) (i1 : Nat) (i2 : Nat) (i3 : Nat) (i4 : Nat) (pr : Nat) (eff : Nat → Nat) (stg : Nat → Bool) (fl : Nat → Nat → Bool) (l : Nat) (r : Nat) (he : ∀ s, s < 128 → eff s = fg_E fl s ∧ stg s = fg_S fl s) (hl : l < 128) (hr : r < 128) : fk_C E fy_Mi_isCausal prog_3_method_8_code 3 (some .boolean) 0 0 0 [.ref i0, .int (nI l), .int (nI r)] [(i0, .inr (3, [.ref i1, .ref i2, .ref i3, .ref i4, .int (nI pr)])), fk_ai E i1 128 eff, fk_az E i2 128 stg] (S := Unit) (fun _ => some (.int (nI (Bool.toNat (fg_T fl l r))))) (fun _ => True) (fun _ => [(i0, .inr (3, [.ref i1, .ref i2, .ref i3, .ref i4, .int (nI pr)])), fk_ai E i1 128 eff, fk_az E i2 128 stg]) := by
  refine fk_enterZ (v := fun _ => fg_T fl l r) (by decide) (Nat.le_of_ble_eq_true rfl) (lv0 := [(0, .ref i0), (1, .int (nI l)), (2, .int (nI r))]) rfl ?_
  intro K hini hret
  have e1 := he l hl
  have e2 := he r hr
  refine fk_aload_n 0 d_Mi_isCausal_0 rfl ?_
  refine fk_get 0 1 rfl rfl fh_Mi (Nat.le_of_ble_eq_true rfl) fw_80 rfl d_Mi_isCausal_1 ?_
  refine fk_iload_n 1 d_Mi_isCausal_4 rfl ?_
  refine fk_ld_az (i := l) 2 rfl (by omega) (by decide) d_Mi_isCausal_5 ?_
  refine fk_if_eqB (b := (stg l)) d_Mi_isCausal_6 rfl (fun h6t => ?_) (fun h6f => ?_)
  · refine fk_iconst (v := nI 0) d_Mi_isCausal_35 (by decide +kernel) ?_
    refine fk_top (fn_rf (b := fg_T fl l r) (by unfold fg_T; first | (rw [← e1.2, h6t]; rfl) | (rw [← e1.2, ← e2.2, h6f, h15t]; rfl) | (rw [← e1.2, ← e2.2, h6f, h15f, ← e1.1, (fb_sub hr).mp h28f]; rfl) | (rw [← e1.2, ← e2.2, h6f, h15f, ← e1.1]; cases q : fs_all (fun b => !(r.testBit b) || (eff l).testBit b) 7 with | false => rfl | true => exact absurd ((fb_sub hr).mpr q) h28t))) ?_
    exact hret (0, 0) _ 36 _ () d_Mi_isCausal_36 (trivial) (rfl)
  · refine fk_aload_n 0 d_Mi_isCausal_9 rfl ?_
    refine fk_get 0 1 rfl rfl fh_Mi (Nat.le_of_ble_eq_true rfl) fw_80 rfl d_Mi_isCausal_10 ?_
    refine fk_iload_n 2 d_Mi_isCausal_13 rfl ?_
    refine fk_ld_az (i := r) 2 rfl (by omega) (by decide) d_Mi_isCausal_14 ?_
    refine fk_if_eqB (b := (stg r)) d_Mi_isCausal_15 rfl (fun h15t => ?_) (fun h15f => ?_)
    · refine fk_iconst (v := nI 0) d_Mi_isCausal_35 (by decide +kernel) ?_
      refine fk_top (fn_rf (b := fg_T fl l r) (by unfold fg_T; first | (rw [← e1.2, h6t]; rfl) | (rw [← e1.2, ← e2.2, h6f, h15t]; rfl) | (rw [← e1.2, ← e2.2, h6f, h15f, ← e1.1, (fb_sub hr).mp h28f]; rfl) | (rw [← e1.2, ← e2.2, h6f, h15f, ← e1.1]; cases q : fs_all (fun b => !(r.testBit b) || (eff l).testBit b) 7 with | false => rfl | true => exact absurd ((fb_sub hr).mpr q) h28t))) ?_
      exact hret (0, 0) _ 36 _ () d_Mi_isCausal_36 (trivial) (rfl)
    · refine fk_iload_n 2 d_Mi_isCausal_18 rfl ?_
      refine fk_aload_n 0 d_Mi_isCausal_19 rfl ?_
      refine fk_get 0 0 rfl rfl fh_Mi (Nat.le_of_ble_eq_true rfl) fw_79 rfl d_Mi_isCausal_20 ?_
      refine fk_iload_n 1 d_Mi_isCausal_23 rfl ?_
      refine fk_ld_ai (i := l) 1 rfl (by omega) (by decide) d_Mi_isCausal_24 ?_
      refine fk_iconst (v := nI 4294967295) d_Mi_isCausal_25 (by decide +kernel) ?_
      refine fk_ixorR d_Mi_isCausal_26 ?_
      refine fk_top (fn_xor (eff l) 4294967295) ?_
      refine fk_iand (a := r) (b := ((eff l) ^^^ 4294967295)) d_Mi_isCausal_27 ?_
      refine fk_if_ne (a := (r &&& ((eff l) ^^^ 4294967295))) (by have := fb_and_lt' (b := eff l ^^^ 4294967295) hr; omega) d_Mi_isCausal_28 rfl (fun h28t => ?_) (fun h28f => ?_)
      · refine fk_iconst (v := nI 0) d_Mi_isCausal_35 (by decide +kernel) ?_
        refine fk_top (fn_rf (b := fg_T fl l r) (by unfold fg_T; first | (rw [← e1.2, h6t]; rfl) | (rw [← e1.2, ← e2.2, h6f, h15t]; rfl) | (rw [← e1.2, ← e2.2, h6f, h15f, ← e1.1, (fb_sub hr).mp h28f]; rfl) | (rw [← e1.2, ← e2.2, h6f, h15f, ← e1.1]; cases q : fs_all (fun b => !(r.testBit b) || (eff l).testBit b) 7 with | false => rfl | true => exact absurd ((fb_sub hr).mpr q) h28t))) ?_
        exact hret (0, 0) _ 36 _ () d_Mi_isCausal_36 (trivial) (rfl)
      · refine fk_iconst (v := nI 1) d_Mi_isCausal_31 (by decide +kernel) ?_
        refine fk_goto d_Mi_isCausal_32 rfl ?_
        refine fk_top (fn_rt (b := fg_T fl l r) (by unfold fg_T; first | (rw [← e1.2, h6t]; rfl) | (rw [← e1.2, ← e2.2, h6f, h15t]; rfl) | (rw [← e1.2, ← e2.2, h6f, h15f, ← e1.1, (fb_sub hr).mp h28f]; rfl) | (rw [← e1.2, ← e2.2, h6f, h15f, ← e1.1]; cases q : fs_all (fun b => !(r.testBit b) || (eff l).testBit b) 7 with | false => rfl | true => exact absurd ((fb_sub hr).mpr q) h28t))) ?_
        exact hret (0, 0) _ 36 _ () d_Mi_isCausal_36 (trivial) (rfl)
theorem d_Mi_isGreatest_0 : decode prog_3_method_9_code 0 = .ok (.iconst 0, 1) := by decide +kernel
theorem d_Mi_isGreatest_1 : decode prog_3_method_9_code 1 = .ok (.istore_n 3, 1) := by decide +kernel
theorem d_Mi_isGreatest_2 : decode prog_3_method_9_code 2 = .ok (.iload_n 3, 1) := by decide +kernel
theorem d_Mi_isGreatest_3 : decode prog_3_method_9_code 3 = .ok (.bipush 7, 2) := by decide +kernel
theorem d_Mi_isGreatest_5 : decode prog_3_method_9_code 5 = .ok (.if_icmp .ge 56, 3) := by decide +kernel
theorem d_Mi_isGreatest_8 : decode prog_3_method_9_code 8 = .ok (.iconst 1, 1) := by decide +kernel
theorem d_Mi_isGreatest_9 : decode prog_3_method_9_code 9 = .ok (.iload_n 3, 1) := by decide +kernel
theorem d_Mi_isGreatest_10 : decode prog_3_method_9_code 10 = .ok (.ishl, 1) := by decide +kernel
theorem d_Mi_isGreatest_11 : decode prog_3_method_9_code 11 = .ok (.istore 4, 2) := by decide +kernel
theorem d_Mi_isGreatest_13 : decode prog_3_method_9_code 13 = .ok (.iload_n 1, 1) := by decide +kernel
theorem d_Mi_isGreatest_14 : decode prog_3_method_9_code 14 = .ok (.iload 4, 2) := by decide +kernel
theorem d_Mi_isGreatest_16 : decode prog_3_method_9_code 16 = .ok (.iand, 1) := by decide +kernel
theorem d_Mi_isGreatest_17 : decode prog_3_method_9_code 17 = .ok (.ifCond .ne 17, 3) := by decide +kernel
theorem d_Mi_isGreatest_20 : decode prog_3_method_9_code 20 = .ok (.aload_n 0, 1) := by decide +kernel
theorem d_Mi_isGreatest_21 : decode prog_3_method_9_code 21 = .ok (.iload_n 1, 1) := by decide +kernel
theorem d_Mi_isGreatest_22 : decode prog_3_method_9_code 22 = .ok (.iload 4, 2) := by decide +kernel
theorem d_Mi_isGreatest_24 : decode prog_3_method_9_code 24 = .ok (.ior, 1) := by decide +kernel
theorem d_Mi_isGreatest_25 : decode prog_3_method_9_code 25 = .ok (.iload_n 2, 1) := by decide +kernel
theorem d_Mi_isGreatest_26 : decode prog_3_method_9_code 26 = .ok (.invokevirtual 76, 3) := by decide +kernel
theorem d_Mi_isGreatest_29 : decode prog_3_method_9_code 29 = .ok (.ifCond .eq 5, 3) := by decide +kernel
theorem d_Mi_isGreatest_32 : decode prog_3_method_9_code 32 = .ok (.iconst 0, 1) := by decide +kernel
theorem d_Mi_isGreatest_33 : decode prog_3_method_9_code 33 = .ok (.ireturn, 1) := by decide +kernel
theorem d_Mi_isGreatest_34 : decode prog_3_method_9_code 34 = .ok (.iload_n 2, 1) := by decide +kernel
theorem d_Mi_isGreatest_35 : decode prog_3_method_9_code 35 = .ok (.iload 4, 2) := by decide +kernel
theorem d_Mi_isGreatest_37 : decode prog_3_method_9_code 37 = .ok (.iand, 1) := by decide +kernel
theorem d_Mi_isGreatest_38 : decode prog_3_method_9_code 38 = .ok (.ifCond .ne 17, 3) := by decide +kernel
theorem d_Mi_isGreatest_41 : decode prog_3_method_9_code 41 = .ok (.aload_n 0, 1) := by decide +kernel
theorem d_Mi_isGreatest_42 : decode prog_3_method_9_code 42 = .ok (.iload_n 1, 1) := by decide +kernel
theorem d_Mi_isGreatest_43 : decode prog_3_method_9_code 43 = .ok (.iload_n 2, 1) := by decide +kernel
theorem d_Mi_isGreatest_44 : decode prog_3_method_9_code 44 = .ok (.iload 4, 2) := by decide +kernel
theorem d_Mi_isGreatest_46 : decode prog_3_method_9_code 46 = .ok (.ior, 1) := by decide +kernel
theorem d_Mi_isGreatest_47 : decode prog_3_method_9_code 47 = .ok (.invokevirtual 76, 3) := by decide +kernel
theorem d_Mi_isGreatest_50 : decode prog_3_method_9_code 50 = .ok (.ifCond .eq 5, 3) := by decide +kernel
theorem d_Mi_isGreatest_53 : decode prog_3_method_9_code 53 = .ok (.iconst 0, 1) := by decide +kernel
theorem d_Mi_isGreatest_54 : decode prog_3_method_9_code 54 = .ok (.ireturn, 1) := by decide +kernel
theorem d_Mi_isGreatest_55 : decode prog_3_method_9_code 55 = .ok (.iinc 3 1, 3) := by decide +kernel
theorem d_Mi_isGreatest_58 : decode prog_3_method_9_code 58 = .ok (.goto (-56), 3) := by decide +kernel
theorem d_Mi_isGreatest_61 : decode prog_3_method_9_code 61 = .ok (.iconst 1, 1) := by decide +kernel
theorem d_Mi_isGreatest_62 : decode prog_3_method_9_code 62 = .ok (.ireturn, 1) := by decide +kernel
set_option maxRecDepth 20000 in
set_option maxHeartbeats 4000000 in
theorem cM_isGreatest (E : fk_E) (i0 : Nat) (i1 : Nat) (i2 : Nat) (i3 : Nat) (i4 : Nat) (pr : Nat) (eff : Nat → Nat) (stg : Nat → Bool) (fl : Nat → Nat → Bool) (l : Nat) (r : Nat) (he : ∀ s, s < 128 → eff s = fg_E fl s ∧ stg s = fg_S fl s) (hl : l < 128) (hr : r < 128) (hl0 : 0 < l) (hr0 : 0 < r) : fk_C E fy_Mi_isGreatest prog_3_method_9_code 5 (some .boolean) 1 0 0 [.ref i0, .int (nI l), .int (nI r)] [(i0, .inr (3, [.ref i1, .ref i2, .ref i3, .ref i4, .int (nI pr)])), fk_ai E i1 128 eff, fk_az E i2 128 stg] (S := Unit) (fun _ => some (.int (nI (Bool.toNat (fg_G fl l r))))) (fun _ => True) (fun _ => [(i0, .inr (3, [.ref i1, .ref i2, .ref i3, .ref i4, .int (nI pr)])), fk_ai E i1 128 eff, fk_az E i2 128 stg]) := by
  refine fk_enterZ (v := fun _ => fg_G fl l r) (by decide) (Nat.le_of_ble_eq_true rfl) (lv0 := [(0, .ref i0), (1, .int (nI l)), (2, .int (nI r))]) rfl ?_
  intro K hini hret
  refine fk_iconst (v := nI 0) d_Mi_isGreatest_0 (by decide +kernel) ?_
  refine fk_istore_n (lv' := [(0, .ref i0), (1, .int (nI l)), (2, .int (nI r)), (3, .int (nI 0))]) d_Mi_isGreatest_1 rfl (Nat.le_of_ble_eq_true rfl) [1, 2, 3, 0] rfl ?_
  have L2 : ∀ (fuel : Nat) (a : Nat), (a ≤ 7) → (∀ j, j < a → fg_more fl l r j = false) → 7 - a < fuel → fk_V E (prog_3_method_9_code, fy_Mi_isGreatest.cls, 5, fk_rm 1 0 0) K (0, 0) [(i0, .inr (3, [.ref i1, .ref i2, .ref i3, .ref i4, .int (nI pr)])), fk_ai E i1 128 eff, fk_az E i2 128 stg] 2 [(0, .ref i0), (1, .int (nI l)), (2, .int (nI r)), (3, .int (nI a))] [] := by
    intro fuel
    induction fuel with
    | zero => intro a _ _ hm; exact absurd hm (Nat.not_lt_zero _)
    | succ fuel ih =>
      intro a h1 h2 hm2
      have ih2 := ih
      clear ih
      refine fk_iload_n 3 d_Mi_isGreatest_2 rfl ?_
      refine fk_bipush (v := nI 7) d_Mi_isGreatest_3 (by decide +kernel) ?_
      refine fk_icmp_ge (a := a) (b := 7) (by omega) (by omega) d_Mi_isGreatest_5 rfl (fun h5t => ?_) (fun h5f => ?_)
      · refine fk_iconst (v := nI 1) d_Mi_isGreatest_61 (by decide +kernel) ?_
        refine fk_top (fn_rt (b := fg_G fl l r) (by unfold fg_G; rw [fs_any_f.mpr (fun j hj => h2 j (by omega))]; rfl)) ?_
        exact hret (0, 0) _ 62 _ () d_Mi_isGreatest_62 (trivial) (rfl)
      · have g0 := fb_pow_lt h5f
        refine fk_iconst (v := nI 1) d_Mi_isGreatest_8 (by decide +kernel) ?_
        refine fk_iload_n 3 d_Mi_isGreatest_9 rfl ?_
        refine fk_ishl (a := 1) (b := a) d_Mi_isGreatest_10 (by omega) (by omega) ?_
        refine fk_top (show nI (1 * 2 ^ a) = nI (2 ^ a) by rw [Nat.one_mul]) ?_
        refine fk_istore (lv' := [(0, .ref i0), (1, .int (nI l)), (2, .int (nI r)), (3, .int (nI a)), (4, .int (nI (2 ^ a)))]) d_Mi_isGreatest_11 (Nat.le_of_ble_eq_true rfl) [1, 2, 3, 4, 0] rfl ?_
        refine fk_iload_n 1 d_Mi_isGreatest_13 rfl ?_
        refine fk_iload 4 d_Mi_isGreatest_14 rfl ?_
        refine fk_iand (a := l) (b := (2 ^ a)) d_Mi_isGreatest_16 ?_
        refine fk_if_ne (a := (l &&& (2 ^ a))) (by have := fb_and_lt' (b := 2 ^ a) hl; omega) d_Mi_isGreatest_17 rfl (fun h17t => ?_) (fun h17f => ?_)
        · have g1 := fb_and_ne.mp h17t
          refine fk_iload_n 2 d_Mi_isGreatest_34 rfl ?_
          refine fk_iload 4 d_Mi_isGreatest_35 rfl ?_
          refine fk_iand (a := r) (b := (2 ^ a)) d_Mi_isGreatest_37 ?_
          refine fk_if_ne (a := (r &&& (2 ^ a))) (by have := fb_and_lt' (b := 2 ^ a) hr; omega) d_Mi_isGreatest_38 rfl (fun h38t => ?_) (fun h38f => ?_)
          · have g2 := fb_and_ne.mp h38t
            refine fk_iinc (j := 3) (lv' := [(0, .ref i0), (1, .int (nI l)), (2, .int (nI r)), (3, .int (nI (a + 1))), (4, .int (nI (2 ^ a)))]) (a + 1) d_Mi_isGreatest_55 rfl (nI_1 a) (Nat.le_of_ble_eq_true rfl) [1, 2, 3, 0, 4] rfl ?_
            refine fk_goto d_Mi_isGreatest_58 rfl ?_
            refine fk_lv (lv' := [(0, .ref i0), (1, .int (nI l)), (2, .int (nI r)), (3, .int (nI (a + 1)))]) [0, 1, 2, 3] rfl ?_
            refine ih2 _ ?_ ?_ ?_
            · first | omega | assumption | exact Nat.zero_le _
            · refine fs_lt_s h2 ?_
              rw [fg_more_eq hl0 hr0]
              first | (rw [g1, g2]; simp; done) | (rw [g1, g2, h29t]; simp; done) | (rw [g1, g2, h50t]; simp; done) | (rw [g1, g2, h29t, h50t]; simp; done)
            · omega
          · have g2 := fb_and.mp h38f
            refine fk_aload_n 0 d_Mi_isGreatest_41 rfl ?_
            refine fk_iload_n 1 d_Mi_isGreatest_42 rfl ?_
            refine fk_iload_n 2 d_Mi_isGreatest_43 rfl ?_
            refine fk_iload 4 d_Mi_isGreatest_44 rfl ?_
            refine fk_ior (a := r) (b := (2 ^ a)) d_Mi_isGreatest_46 ?_
            refine fk_callV (q0 := 0) (As := [.int (nI l), .int (nI (r ||| (2 ^ a)))]) (rest := []) (is := [0, 1, 2]) (ir := []) (ip := [0, 1, 2]) (wc := [(i0, .inr (3, [.ref i1, .ref i2, .ref i3, .ref i4, .int (nI pr)])), fk_ai E i1 128 eff, fk_az E i2 128 stg]) (wr := []) (w2 := fun _ => [(i0, .inr (3, [.ref i1, .ref i2, .ref i3, .ref i4, .int (nI pr)])), fk_ai E i1 128 eff, fk_az E i2 128 stg]) (cM_isCausal E i0 i1 i2 i3 i4 pr eff stg fl l (r ||| (2 ^ a)) he (by first | omega | assumption) (fb_or_lt hr g0)) d_Mi_isGreatest_47 fz_Mi_isCausal fw_248 rfl rfl fw_250 fw_p2 ⟨Nat.le_of_ble_eq_true rfl, Nat.le_of_ble_eq_true rfl⟩ rfl (Nat.le_of_ble_eq_true rfl) ⟨Nat.zero_le _, Nat.zero_le _⟩ ⟨rfl, rfl, rfl, rfl, by decide, fun _ => rfl, rfl⟩ (fun u hu47 => ?_)
            show fk_V E _ K (0, 0) [(i0, .inr (3, [.ref i1, .ref i2, .ref i3, .ref i4, .int (nI pr)])), fk_ai E i1 128 eff, fk_az E i2 128 stg] 50 [(0, .ref i0), (1, .int (nI l)), (2, .int (nI r)), (3, .int (nI a)), (4, .int (nI (2 ^ a)))] [.int (nI (Bool.toNat (fg_T fl l (r ||| (2 ^ a)))))]
            refine fk_if_eqB (b := (fg_T fl l (r ||| (2 ^ a)))) d_Mi_isGreatest_50 rfl (fun h50t => ?_) (fun h50f => ?_)
            · refine fk_iinc (j := 3) (lv' := [(0, .ref i0), (1, .int (nI l)), (2, .int (nI r)), (3, .int (nI (a + 1))), (4, .int (nI (2 ^ a)))]) (a + 1) d_Mi_isGreatest_55 rfl (nI_1 a) (Nat.le_of_ble_eq_true rfl) [1, 2, 3, 0, 4] rfl ?_
              refine fk_goto d_Mi_isGreatest_58 rfl ?_
              refine fk_lv (lv' := [(0, .ref i0), (1, .int (nI l)), (2, .int (nI r)), (3, .int (nI (a + 1)))]) [0, 1, 2, 3] rfl ?_
              refine ih2 _ ?_ ?_ ?_
              · first | omega | assumption | exact Nat.zero_le _
              · refine fs_lt_s h2 ?_
                rw [fg_more_eq hl0 hr0]
                first | (rw [g1, g2]; simp; done) | (rw [g1, g2, h29t]; simp; done) | (rw [g1, g2, h50t]; simp; done) | (rw [g1, g2, h29t, h50t]; simp; done)
              · omega
            · refine fk_iconst (v := nI 0) d_Mi_isGreatest_53 (by decide +kernel) ?_
              refine fk_top (fn_rf (b := fg_G fl l r) (by unfold fg_G; rw [fs_any_t h5f (by rw [fg_more_eq hl0 hr0, g2, h50f]; simp)]; rfl)) ?_
              exact hret (0, 0) _ 54 _ () d_Mi_isGreatest_54 (trivial) (rfl)
        · have g1 := fb_and.mp h17f
          refine fk_aload_n 0 d_Mi_isGreatest_20 rfl ?_
          refine fk_iload_n 1 d_Mi_isGreatest_21 rfl ?_
          refine fk_iload 4 d_Mi_isGreatest_22 rfl ?_
          refine fk_ior (a := l) (b := (2 ^ a)) d_Mi_isGreatest_24 ?_
          refine fk_iload_n 2 d_Mi_isGreatest_25 rfl ?_
          refine fk_callV (q0 := 0) (As := [.int (nI (l ||| (2 ^ a))), .int (nI r)]) (rest := []) (is := [0, 1, 2]) (ir := []) (ip := [0, 1, 2]) (wc := [(i0, .inr (3, [.ref i1, .ref i2, .ref i3, .ref i4, .int (nI pr)])), fk_ai E i1 128 eff, fk_az E i2 128 stg]) (wr := []) (w2 := fun _ => [(i0, .inr (3, [.ref i1, .ref i2, .ref i3, .ref i4, .int (nI pr)])), fk_ai E i1 128 eff, fk_az E i2 128 stg]) (cM_isCausal E i0 i1 i2 i3 i4 pr eff stg fl (l ||| (2 ^ a)) r he (fb_or_lt hl g0) (by first | omega | assumption)) d_Mi_isGreatest_26 fz_Mi_isCausal fw_248 rfl rfl fw_250 fw_p2 ⟨Nat.le_of_ble_eq_true rfl, Nat.le_of_ble_eq_true rfl⟩ rfl (Nat.le_of_ble_eq_true rfl) ⟨Nat.zero_le _, Nat.zero_le _⟩ ⟨rfl, rfl, rfl, rfl, by decide, fun _ => rfl, rfl⟩ (fun u hu26 => ?_)
          show fk_V E _ K (0, 0) [(i0, .inr (3, [.ref i1, .ref i2, .ref i3, .ref i4, .int (nI pr)])), fk_ai E i1 128 eff, fk_az E i2 128 stg] 29 [(0, .ref i0), (1, .int (nI l)), (2, .int (nI r)), (3, .int (nI a)), (4, .int (nI (2 ^ a)))] [.int (nI (Bool.toNat (fg_T fl (l ||| (2 ^ a)) r)))]
          refine fk_if_eqB (b := (fg_T fl (l ||| (2 ^ a)) r)) d_Mi_isGreatest_29 rfl (fun h29t => ?_) (fun h29f => ?_)
          · refine fk_iload_n 2 d_Mi_isGreatest_34 rfl ?_
            refine fk_iload 4 d_Mi_isGreatest_35 rfl ?_
            refine fk_iand (a := r) (b := (2 ^ a)) d_Mi_isGreatest_37 ?_
            refine fk_if_ne (a := (r &&& (2 ^ a))) (by have := fb_and_lt' (b := 2 ^ a) hr; omega) d_Mi_isGreatest_38 rfl (fun h38t => ?_) (fun h38f => ?_)
            · have g2 := fb_and_ne.mp h38t
              refine fk_iinc (j := 3) (lv' := [(0, .ref i0), (1, .int (nI l)), (2, .int (nI r)), (3, .int (nI (a + 1))), (4, .int (nI (2 ^ a)))]) (a + 1) d_Mi_isGreatest_55 rfl (nI_1 a) (Nat.le_of_ble_eq_true rfl) [1, 2, 3, 0, 4] rfl ?_
              refine fk_goto d_Mi_isGreatest_58 rfl ?_
              refine fk_lv (lv' := [(0, .ref i0), (1, .int (nI l)), (2, .int (nI r)), (3, .int (nI (a + 1)))]) [0, 1, 2, 3] rfl ?_
              refine ih2 _ ?_ ?_ ?_
              · first | omega | assumption | exact Nat.zero_le _
              · refine fs_lt_s h2 ?_
                rw [fg_more_eq hl0 hr0]
                first | (rw [g1, g2]; simp; done) | (rw [g1, g2, h29t]; simp; done) | (rw [g1, g2, h50t]; simp; done) | (rw [g1, g2, h29t, h50t]; simp; done)
              · omega
            · have g2 := fb_and.mp h38f
              refine fk_aload_n 0 d_Mi_isGreatest_41 rfl ?_
              refine fk_iload_n 1 d_Mi_isGreatest_42 rfl ?_
              refine fk_iload_n 2 d_Mi_isGreatest_43 rfl ?_
              refine fk_iload 4 d_Mi_isGreatest_44 rfl ?_
              refine fk_ior (a := r) (b := (2 ^ a)) d_Mi_isGreatest_46 ?_
              refine fk_callV (q0 := 0) (As := [.int (nI l), .int (nI (r ||| (2 ^ a)))]) (rest := []) (is := [0, 1, 2]) (ir := []) (ip := [0, 1, 2]) (wc := [(i0, .inr (3, [.ref i1, .ref i2, .ref i3, .ref i4, .int (nI pr)])), fk_ai E i1 128 eff, fk_az E i2 128 stg]) (wr := []) (w2 := fun _ => [(i0, .inr (3, [.ref i1, .ref i2, .ref i3, .ref i4, .int (nI pr)])), fk_ai E i1 128 eff, fk_az E i2 128 stg]) (cM_isCausal E i0 i1 i2 i3 i4 pr eff stg fl l (r ||| (2 ^ a)) he (by first | omega | assumption) (fb_or_lt hr g0)) d_Mi_isGreatest_47 fz_Mi_isCausal fw_248 rfl rfl fw_250 fw_p2 ⟨Nat.le_of_ble_eq_true rfl, Nat.le_of_ble_eq_true rfl⟩ rfl (Nat.le_of_ble_eq_true rfl) ⟨Nat.zero_le _, Nat.zero_le _⟩ ⟨rfl, rfl, rfl, rfl, by decide, fun _ => rfl, rfl⟩ (fun u hu47 => ?_)
              show fk_V E _ K (0, 0) [(i0, .inr (3, [.ref i1, .ref i2, .ref i3, .ref i4, .int (nI pr)])), fk_ai E i1 128 eff, fk_az E i2 128 stg] 50 [(0, .ref i0), (1, .int (nI l)), (2, .int (nI r)), (3, .int (nI a)), (4, .int (nI (2 ^ a)))] [.int (nI (Bool.toNat (fg_T fl l (r ||| (2 ^ a)))))]
              refine fk_if_eqB (b := (fg_T fl l (r ||| (2 ^ a)))) d_Mi_isGreatest_50 rfl (fun h50t => ?_) (fun h50f => ?_)
              · refine fk_iinc (j := 3) (lv' := [(0, .ref i0), (1, .int (nI l)), (2, .int (nI r)), (3, .int (nI (a + 1))), (4, .int (nI (2 ^ a)))]) (a + 1) d_Mi_isGreatest_55 rfl (nI_1 a) (Nat.le_of_ble_eq_true rfl) [1, 2, 3, 0, 4] rfl ?_
                refine fk_goto d_Mi_isGreatest_58 rfl ?_
                refine fk_lv (lv' := [(0, .ref i0), (1, .int (nI l)), (2, .int (nI r)), (3, .int (nI (a + 1)))]) [0, 1, 2, 3] rfl ?_
                refine ih2 _ ?_ ?_ ?_
                · first | omega | assumption | exact Nat.zero_le _
                · refine fs_lt_s h2 ?_
                  rw [fg_more_eq hl0 hr0]
                  first | (rw [g1, g2]; simp; done) | (rw [g1, g2, h29t]; simp; done) | (rw [g1, g2, h50t]; simp; done) | (rw [g1, g2, h29t, h50t]; simp; done)
                · omega
              · refine fk_iconst (v := nI 0) d_Mi_isGreatest_53 (by decide +kernel) ?_
                refine fk_top (fn_rf (b := fg_G fl l r) (by unfold fg_G; rw [fs_any_t h5f (by rw [fg_more_eq hl0 hr0, g2, h50f]; simp)]; rfl)) ?_
                exact hret (0, 0) _ 54 _ () d_Mi_isGreatest_54 (trivial) (rfl)
          · refine fk_iconst (v := nI 0) d_Mi_isGreatest_32 (by decide +kernel) ?_
            refine fk_top (fn_rf (b := fg_G fl l r) (by unfold fg_G; rw [fs_any_t h5f (by rw [fg_more_eq hl0 hr0, g1, h29f]; rfl)]; rfl)) ?_
            exact hret (0, 0) _ 33 _ () d_Mi_isGreatest_33 (trivial) (rfl)
  refine L2 _ _ ?_ ?_ (Nat.lt_succ_self _)
  · first | omega | assumption | exact Nat.zero_le _
  · exact fs_lt_0
theorem d_Mi_addPairsOf_0 : decode prog_3_method_7_code 0 = .ok (.iconst 1, 1) := by decide +kernel
theorem d_Mi_addPairsOf_1 : decode prog_3_method_7_code 1 = .ok (.istore_n 2, 1) := by decide +kernel
theorem d_Mi_addPairsOf_2 : decode prog_3_method_7_code 2 = .ok (.iload_n 2, 1) := by decide +kernel
theorem d_Mi_addPairsOf_3 : decode prog_3_method_7_code 3 = .ok (.sipush 128, 3) := by decide +kernel
theorem d_Mi_addPairsOf_6 : decode prog_3_method_7_code 6 = .ok (.if_icmp .ge 68, 3) := by decide +kernel
theorem d_Mi_addPairsOf_9 : decode prog_3_method_7_code 9 = .ok (.aload_n 0, 1) := by decide +kernel
theorem d_Mi_addPairsOf_10 : decode prog_3_method_7_code 10 = .ok (.iload_n 1, 1) := by decide +kernel
theorem d_Mi_addPairsOf_11 : decode prog_3_method_7_code 11 = .ok (.iload_n 2, 1) := by decide +kernel
theorem d_Mi_addPairsOf_12 : decode prog_3_method_7_code 12 = .ok (.invokevirtual 76, 3) := by decide +kernel
theorem d_Mi_addPairsOf_15 : decode prog_3_method_7_code 15 = .ok (.ifCond .eq 53, 3) := by decide +kernel
theorem d_Mi_addPairsOf_18 : decode prog_3_method_7_code 18 = .ok (.aload_n 0, 1) := by decide +kernel
theorem d_Mi_addPairsOf_19 : decode prog_3_method_7_code 19 = .ok (.iload_n 1, 1) := by decide +kernel
theorem d_Mi_addPairsOf_20 : decode prog_3_method_7_code 20 = .ok (.iload_n 2, 1) := by decide +kernel
theorem d_Mi_addPairsOf_21 : decode prog_3_method_7_code 21 = .ok (.invokevirtual 79, 3) := by decide +kernel
theorem d_Mi_addPairsOf_24 : decode prog_3_method_7_code 24 = .ok (.ifCond .eq 44, 3) := by decide +kernel
theorem d_Mi_addPairsOf_27 : decode prog_3_method_7_code 27 = .ok (.aload_n 0, 1) := by decide +kernel
theorem d_Mi_addPairsOf_28 : decode prog_3_method_7_code 28 = .ok (.getfield 25, 3) := by decide +kernel
theorem d_Mi_addPairsOf_31 : decode prog_3_method_7_code 31 = .ok (.bipush 14, 2) := by decide +kernel
theorem d_Mi_addPairsOf_33 : decode prog_3_method_7_code 33 = .ok (.if_icmp .ne 5, 3) := by decide +kernel
theorem d_Mi_addPairsOf_36 : decode prog_3_method_7_code 36 = .ok (.iconst 0, 1) := by decide +kernel
theorem d_Mi_addPairsOf_37 : decode prog_3_method_7_code 37 = .ok (.ireturn, 1) := by decide +kernel
theorem d_Mi_addPairsOf_38 : decode prog_3_method_7_code 38 = .ok (.aload_n 0, 1) := by decide +kernel
theorem d_Mi_addPairsOf_39 : decode prog_3_method_7_code 39 = .ok (.getfield 19, 3) := by decide +kernel
theorem d_Mi_addPairsOf_42 : decode prog_3_method_7_code 42 = .ok (.aload_n 0, 1) := by decide +kernel
theorem d_Mi_addPairsOf_43 : decode prog_3_method_7_code 43 = .ok (.getfield 25, 3) := by decide +kernel
theorem d_Mi_addPairsOf_46 : decode prog_3_method_7_code 46 = .ok (.iload_n 1, 1) := by decide +kernel
theorem d_Mi_addPairsOf_47 : decode prog_3_method_7_code 47 = .ok (.iastore, 1) := by decide +kernel
theorem d_Mi_addPairsOf_48 : decode prog_3_method_7_code 48 = .ok (.aload_n 0, 1) := by decide +kernel
theorem d_Mi_addPairsOf_49 : decode prog_3_method_7_code 49 = .ok (.getfield 22, 3) := by decide +kernel
theorem d_Mi_addPairsOf_52 : decode prog_3_method_7_code 52 = .ok (.aload_n 0, 1) := by decide +kernel
theorem d_Mi_addPairsOf_53 : decode prog_3_method_7_code 53 = .ok (.getfield 25, 3) := by decide +kernel
theorem d_Mi_addPairsOf_56 : decode prog_3_method_7_code 56 = .ok (.iload_n 2, 1) := by decide +kernel
theorem d_Mi_addPairsOf_57 : decode prog_3_method_7_code 57 = .ok (.iastore, 1) := by decide +kernel
theorem d_Mi_addPairsOf_58 : decode prog_3_method_7_code 58 = .ok (.aload_n 0, 1) := by decide +kernel
theorem d_Mi_addPairsOf_59 : decode prog_3_method_7_code 59 = .ok (.dup, 1) := by decide +kernel
theorem d_Mi_addPairsOf_60 : decode prog_3_method_7_code 60 = .ok (.getfield 25, 3) := by decide +kernel
theorem d_Mi_addPairsOf_63 : decode prog_3_method_7_code 63 = .ok (.iconst 1, 1) := by decide +kernel
theorem d_Mi_addPairsOf_64 : decode prog_3_method_7_code 64 = .ok (.iadd, 1) := by decide +kernel
theorem d_Mi_addPairsOf_65 : decode prog_3_method_7_code 65 = .ok (.putfield 25, 3) := by decide +kernel
theorem d_Mi_addPairsOf_68 : decode prog_3_method_7_code 68 = .ok (.iinc 2 1, 3) := by decide +kernel
theorem d_Mi_addPairsOf_71 : decode prog_3_method_7_code 71 = .ok (.goto (-69), 3) := by decide +kernel
theorem d_Mi_addPairsOf_74 : decode prog_3_method_7_code 74 = .ok (.iconst 1, 1) := by decide +kernel
theorem d_Mi_addPairsOf_75 : decode prog_3_method_7_code 75 = .ok (.ireturn, 1) := by decide +kernel
set_option maxRecDepth 20000 in
set_option maxHeartbeats 4000000 in
theorem cM_addPairsOf (E : fk_E) (i0 : Nat) (i1 : Nat) (i2 : Nat) (i3 : Nat) (i4 : Nat) (pr : Nat) (eff : Nat → Nat) (stg : Nat → Bool) (fl : Nat → Nat → Bool) (pin : Nat → Nat) (pou : Nat → Nat) (l : Nat) (he : ∀ s, s < 128 → eff s = fg_E fl s ∧ stg s = fg_S fl s) (hl : l < 128) (hl0 : 0 < l) (hP : fg_P fl (128 * l) pr pin pou) : fk_C E fy_Mi_addPairsOf prog_3_method_7_code 3 (some .boolean) 2 0 0 [.ref i0, .int (nI l)] [(i0, .inr (3, [.ref i1, .ref i2, .ref i3, .ref i4, .int (nI pr)])), fk_ai E i1 128 eff, fk_az E i2 128 stg, fk_ai E i3 14 pin, fk_ai E i4 14 pou] (S := Bool × Nat × (Nat → Nat) × (Nat → Nat)) (fun (u : Bool × Nat × (Nat → Nat) × (Nat → Nat)) => some (.int (nI (Bool.toNat u.1)))) (fun (u : Bool × Nat × (Nat → Nat) × (Nat → Nat)) => (u.1 = true → fg_P fl (128 * (l + 1)) u.2.1 u.2.2.1 u.2.2.2) ∧ (u.1 = false → 14 < (fg_L fl 16384).length)) (fun (u : Bool × Nat × (Nat → Nat) × (Nat → Nat)) => [(i0, .inr (3, [.ref i1, .ref i2, .ref i3, .ref i4, .int (nI u.2.1)])), fk_ai E i1 128 eff, fk_az E i2 128 stg, fk_ai E i3 14 u.2.2.1, fk_ai E i4 14 u.2.2.2]) := by
  refine fk_enterZ (v := fun (u : Bool × Nat × (Nat → Nat) × (Nat → Nat)) => u.1) (by decide) (Nat.le_of_ble_eq_true rfl) (lv0 := [(0, .ref i0), (1, .int (nI l))]) rfl ?_
  intro K hini hret
  refine fk_iconst (v := nI 1) d_Mi_addPairsOf_0 (by decide +kernel) ?_
  refine fk_istore_n (lv' := [(0, .ref i0), (1, .int (nI l)), (2, .int (nI 1))]) d_Mi_addPairsOf_1 rfl (Nat.le_of_ble_eq_true rfl) [1, 2, 0] rfl ?_
  have L2 : ∀ (fuel : Nat) (r : Nat) (pr1 : Nat) (pi1 : Nat → Nat) (po1 : Nat → Nat), (0 < r) → (r ≤ 128) → (fg_P fl (128 * l + r) pr1 pi1 po1) → 128 - r < fuel → fk_V E (prog_3_method_7_code, fy_Mi_addPairsOf.cls, 3, fk_rm 2 0 0) K (0, 0) [(i0, .inr (3, [.ref i1, .ref i2, .ref i3, .ref i4, .int (nI pr1)])), fk_ai E i1 128 eff, fk_az E i2 128 stg, fk_ai E i3 14 pi1, fk_ai E i4 14 po1] 2 [(0, .ref i0), (1, .int (nI l)), (2, .int (nI r))] [] := by
    intro fuel
    induction fuel with
    | zero => intro r pr1 pi1 po1 _ _ _ hm; exact absurd hm (Nat.not_lt_zero _)
    | succ fuel ih =>
      intro r pr1 pi1 po1 h0 h1 h2 hm2
      have ih2 := ih
      clear ih
      refine fk_iload_n 2 d_Mi_addPairsOf_2 rfl ?_
      refine fk_sipush (v := nI 128) d_Mi_addPairsOf_3 (by decide +kernel) ?_
      refine fk_icmp_ge (a := r) (b := 128) (by omega) (by omega) d_Mi_addPairsOf_6 rfl (fun h6t => ?_) (fun h6f => ?_)
      · refine fk_iconst (v := nI 1) d_Mi_addPairsOf_74 (by decide +kernel) ?_
        refine fk_top (fn_rt (b := true) (by first | assumption | (simp; omega) | simp_all | (simp_all; omega))) ?_
        have hpp : (true = true → fg_P fl (128 * (l + 1)) pr1 pi1 po1) ∧ (true = false → 14 < (fg_L fl 16384).length) := ⟨fun _ => by rw [show 128 * (l + 1) = 128 * l + r by omega]; exact h2, fun q => absurd (show true = false from q) (by decide)⟩
        exact hret (0, 0) _ 75 _ (true, pr1, pi1, po1) d_Mi_addPairsOf_75 (hpp) (rfl)
      · have g0 : fg_Q fl (128 * l + r) = (fg_T fl l r && fg_G fl l r) := by rw [fg_Q_eq h6f, fg_C_T hl0 h0]
        have g9 := h2.2.1
        refine fk_aload_n 0 d_Mi_addPairsOf_9 rfl ?_
        refine fk_iload_n 1 d_Mi_addPairsOf_10 rfl ?_
        refine fk_iload_n 2 d_Mi_addPairsOf_11 rfl ?_
        refine fk_callV (q0 := 0) (As := [.int (nI l), .int (nI r)]) (rest := []) (is := [0, 1, 2]) (ir := [3, 4]) (ip := [2, 3, 4, 0, 1]) (wc := [(i0, .inr (3, [.ref i1, .ref i2, .ref i3, .ref i4, .int (nI pr1)])), fk_ai E i1 128 eff, fk_az E i2 128 stg]) (wr := [fk_ai E i3 14 pi1, fk_ai E i4 14 po1]) (w2 := fun _ => [(i0, .inr (3, [.ref i1, .ref i2, .ref i3, .ref i4, .int (nI pr1)])), fk_ai E i1 128 eff, fk_az E i2 128 stg, fk_ai E i3 14 pi1, fk_ai E i4 14 po1]) (cM_isCausal E i0 i1 i2 i3 i4 pr1 eff stg fl l r he (by first | omega | assumption) (by first | omega | assumption)) d_Mi_addPairsOf_12 fz_Mi_isCausal fw_248 rfl rfl fw_250 fw_p2 ⟨Nat.le_of_ble_eq_true rfl, Nat.le_of_ble_eq_true rfl⟩ rfl (Nat.le_of_ble_eq_true rfl) ⟨Nat.zero_le _, Nat.zero_le _⟩ ⟨rfl, rfl, rfl, rfl, by decide, fun _ => rfl, rfl⟩ (fun u hu12 => ?_)
        show fk_V E _ K (0, 0) [(i0, .inr (3, [.ref i1, .ref i2, .ref i3, .ref i4, .int (nI pr1)])), fk_ai E i1 128 eff, fk_az E i2 128 stg, fk_ai E i3 14 pi1, fk_ai E i4 14 po1] 15 [(0, .ref i0), (1, .int (nI l)), (2, .int (nI r))] [.int (nI (Bool.toNat (fg_T fl l r)))]
        refine fk_if_eqB (b := (fg_T fl l r)) d_Mi_addPairsOf_15 rfl (fun h15t => ?_) (fun h15f => ?_)
        · refine fk_iinc (j := 2) (lv' := [(0, .ref i0), (1, .int (nI l)), (2, .int (nI (r + 1)))]) (r + 1) d_Mi_addPairsOf_68 rfl (nI_1 r) (Nat.le_of_ble_eq_true rfl) [1, 2, 0] rfl ?_
          refine fk_goto d_Mi_addPairsOf_71 rfl ?_
          refine ih2 _ _ _ _ ?_ ?_ ?_ ?_
          · first | omega | assumption | exact Nat.zero_le _
          · first | omega | assumption | exact Nat.zero_le _
          · rw [← Nat.add_assoc]
            first | exact fg_P_f h2 (by rw [g0, h15t, Bool.false_and]) | exact fg_P_f h2 (by rw [g0, h24t, Bool.and_false]) | (have q := fg_P_t h2 (by omega) (by rw [g0, h15f, h24f, Bool.and_self]); rw [show (128 * l + r) / 128 = l by omega, show (128 * l + r) % 128 = r by omega] at q; exact q)
          · omega
        · refine fk_aload_n 0 d_Mi_addPairsOf_18 rfl ?_
          refine fk_iload_n 1 d_Mi_addPairsOf_19 rfl ?_
          refine fk_iload_n 2 d_Mi_addPairsOf_20 rfl ?_
          refine fk_callV (q0 := 0) (As := [.int (nI l), .int (nI r)]) (rest := []) (is := [0, 1, 2]) (ir := [3, 4]) (ip := [2, 3, 4, 0, 1]) (wc := [(i0, .inr (3, [.ref i1, .ref i2, .ref i3, .ref i4, .int (nI pr1)])), fk_ai E i1 128 eff, fk_az E i2 128 stg]) (wr := [fk_ai E i3 14 pi1, fk_ai E i4 14 po1]) (w2 := fun _ => [(i0, .inr (3, [.ref i1, .ref i2, .ref i3, .ref i4, .int (nI pr1)])), fk_ai E i1 128 eff, fk_az E i2 128 stg, fk_ai E i3 14 pi1, fk_ai E i4 14 po1]) (cM_isGreatest E i0 i1 i2 i3 i4 pr1 eff stg fl l r he (by first | omega | assumption) (by first | omega | assumption) (by first | omega | assumption) (by first | omega | assumption)) d_Mi_addPairsOf_21 fz_Mi_isGreatest fw_252 rfl rfl fw_254 fw_p3 ⟨Nat.le_of_ble_eq_true rfl, Nat.le_of_ble_eq_true rfl⟩ rfl (Nat.le_of_ble_eq_true rfl) ⟨Nat.zero_le _, Nat.zero_le _⟩ ⟨rfl, rfl, rfl, rfl, by decide, fun _ => rfl, rfl⟩ (fun u hu21 => ?_)
          show fk_V E _ K (0, 0) [(i0, .inr (3, [.ref i1, .ref i2, .ref i3, .ref i4, .int (nI pr1)])), fk_ai E i1 128 eff, fk_az E i2 128 stg, fk_ai E i3 14 pi1, fk_ai E i4 14 po1] 24 [(0, .ref i0), (1, .int (nI l)), (2, .int (nI r))] [.int (nI (Bool.toNat (fg_G fl l r)))]
          refine fk_if_eqB (b := (fg_G fl l r)) d_Mi_addPairsOf_24 rfl (fun h24t => ?_) (fun h24f => ?_)
          · refine fk_iinc (j := 2) (lv' := [(0, .ref i0), (1, .int (nI l)), (2, .int (nI (r + 1)))]) (r + 1) d_Mi_addPairsOf_68 rfl (nI_1 r) (Nat.le_of_ble_eq_true rfl) [1, 2, 0] rfl ?_
            refine fk_goto d_Mi_addPairsOf_71 rfl ?_
            refine ih2 _ _ _ _ ?_ ?_ ?_ ?_
            · first | omega | assumption | exact Nat.zero_le _
            · first | omega | assumption | exact Nat.zero_le _
            · rw [← Nat.add_assoc]
              first | exact fg_P_f h2 (by rw [g0, h15t, Bool.false_and]) | exact fg_P_f h2 (by rw [g0, h24t, Bool.and_false]) | (have q := fg_P_t h2 (by omega) (by rw [g0, h15f, h24f, Bool.and_self]); rw [show (128 * l + r) / 128 = l by omega, show (128 * l + r) % 128 = r by omega] at q; exact q)
            · omega
          · refine fk_aload_n 0 d_Mi_addPairsOf_27 rfl ?_
            refine fk_get 0 4 rfl rfl fh_Mi (Nat.le_of_ble_eq_true rfl) fw_83 rfl d_Mi_addPairsOf_28 ?_
            refine fk_bipush (v := nI 14) d_Mi_addPairsOf_31 (by decide +kernel) ?_
            refine fk_icmp_ne (a := pr1) (b := 14) (by omega) (by omega) d_Mi_addPairsOf_33 rfl (fun h33t => ?_) (fun h33f => ?_)
            · refine fk_aload_n 0 d_Mi_addPairsOf_38 rfl ?_
              refine fk_get 0 2 rfl rfl fh_Mi (Nat.le_of_ble_eq_true rfl) fw_81 rfl d_Mi_addPairsOf_39 ?_
              refine fk_aload_n 0 d_Mi_addPairsOf_42 rfl ?_
              refine fk_get 0 4 rfl rfl fh_Mi (Nat.le_of_ble_eq_true rfl) fw_83 rfl d_Mi_addPairsOf_43 ?_
              refine fk_iload_n 1 d_Mi_addPairsOf_46 rfl ?_
              refine fk_st_ai (i := pr1) (x := l) (w' := [(i0, .inr (3, [.ref i1, .ref i2, .ref i3, .ref i4, .int (nI pr1)])), fk_ai E i1 128 eff, fk_az E i2 128 stg, fk_ai E i3 14 (va_up pi1 pr1 l), fk_ai E i4 14 po1]) 3 rfl (by omega) (by decide) d_Mi_addPairsOf_47 rfl ?_
              refine fk_aload_n 0 d_Mi_addPairsOf_48 rfl ?_
              refine fk_get 0 3 rfl rfl fh_Mi (Nat.le_of_ble_eq_true rfl) fw_82 rfl d_Mi_addPairsOf_49 ?_
              refine fk_aload_n 0 d_Mi_addPairsOf_52 rfl ?_
              refine fk_get 0 4 rfl rfl fh_Mi (Nat.le_of_ble_eq_true rfl) fw_83 rfl d_Mi_addPairsOf_53 ?_
              refine fk_iload_n 2 d_Mi_addPairsOf_56 rfl ?_
              refine fk_st_ai (i := pr1) (x := r) (w' := [(i0, .inr (3, [.ref i1, .ref i2, .ref i3, .ref i4, .int (nI pr1)])), fk_ai E i1 128 eff, fk_az E i2 128 stg, fk_ai E i3 14 (va_up pi1 pr1 l), fk_ai E i4 14 (va_up po1 pr1 r)]) 4 rfl (by omega) (by decide) d_Mi_addPairsOf_57 rfl ?_
              refine fk_aload_n 0 d_Mi_addPairsOf_58 rfl ?_
              refine fk_dup d_Mi_addPairsOf_59 rfl ?_
              refine fk_get 0 4 rfl rfl fh_Mi (Nat.le_of_ble_eq_true rfl) fw_83 rfl d_Mi_addPairsOf_60 ?_
              refine fk_iconst (v := nI 1) d_Mi_addPairsOf_63 (by decide +kernel) ?_
              refine fk_iadd (a := pr1) (b := 1) d_Mi_addPairsOf_64 ?_
              refine fk_put (w' := [(i0, .inr (3, [.ref i1, .ref i2, .ref i3, .ref i4, .int (nI (pr1 + 1))])), fk_ai E i1 128 eff, fk_az E i2 128 stg, fk_ai E i3 14 (va_up pi1 pr1 l), fk_ai E i4 14 (va_up po1 pr1 r)]) 0 4 fT_Mi fT_Mi_ok fT_Mi_nm rfl rfl fh_Mi (Nat.le_of_ble_eq_true rfl) fw_83 rfl (fT_Mi_ok 4 (Nat.le_of_ble_eq_true rfl)) rfl rfl (Nat.le_of_ble_eq_true rfl) d_Mi_addPairsOf_65 rfl ?_
              refine fk_iinc (j := 2) (lv' := [(0, .ref i0), (1, .int (nI l)), (2, .int (nI (r + 1)))]) (r + 1) d_Mi_addPairsOf_68 rfl (nI_1 r) (Nat.le_of_ble_eq_true rfl) [1, 2, 0] rfl ?_
              refine fk_goto d_Mi_addPairsOf_71 rfl ?_
              refine ih2 _ _ _ _ ?_ ?_ ?_ ?_
              · first | omega | assumption | exact Nat.zero_le _
              · first | omega | assumption | exact Nat.zero_le _
              · rw [← Nat.add_assoc]
                first | exact fg_P_f h2 (by rw [g0, h15t, Bool.false_and]) | exact fg_P_f h2 (by rw [g0, h24t, Bool.and_false]) | (have q := fg_P_t h2 (by omega) (by rw [g0, h15f, h24f, Bool.and_self]); rw [show (128 * l + r) / 128 = l by omega, show (128 * l + r) % 128 = r by omega] at q; exact q)
              · omega
            · refine fk_iconst (v := nI 0) d_Mi_addPairsOf_36 (by decide +kernel) ?_
              refine fk_top (fn_rf (b := false) (by first | assumption | (simp; omega) | simp_all | (simp_all; omega))) ?_
              have hpp : (false = true → fg_P fl (128 * (l + 1)) pr1 pi1 po1) ∧ (false = false → 14 < (fg_L fl 16384).length) := ⟨fun q => absurd (show false = true from q) (by decide), fun _ => fg_P_full h2 (by omega) (by rw [g0, h15f, h24f, Bool.and_self]) (by omega)⟩
              exact hret (0, 0) _ 37 _ (false, pr1, pi1, po1) d_Mi_addPairsOf_37 (hpp) (rfl)
  refine L2 _ _ _ _ _ ?_ ?_ ?_ (Nat.lt_succ_self _)
  · first | omega | assumption | exact Nat.zero_le _
  · first | omega | assumption | exact Nat.zero_le _
  · exact fg_P_f hP (fg_Q_0 (by omega))
theorem d_Mi_prepareSets_0 : decode prog_3_method_4_code 0 = .ok (.aload_n 0, 1) := by decide +kernel
theorem d_Mi_prepareSets_1 : decode prog_3_method_4_code 1 = .ok (.getfield 9, 3) := by decide +kernel
theorem d_Mi_prepareSets_4 : decode prog_3_method_4_code 4 = .ok (.iconst 0, 1) := by decide +kernel
theorem d_Mi_prepareSets_5 : decode prog_3_method_4_code 5 = .ok (.bipush 127, 2) := by decide +kernel
theorem d_Mi_prepareSets_7 : decode prog_3_method_4_code 7 = .ok (.iastore, 1) := by decide +kernel
theorem d_Mi_prepareSets_8 : decode prog_3_method_4_code 8 = .ok (.aload_n 0, 1) := by decide +kernel
theorem d_Mi_prepareSets_9 : decode prog_3_method_4_code 9 = .ok (.getfield 15, 3) := by decide +kernel
theorem d_Mi_prepareSets_12 : decode prog_3_method_4_code 12 = .ok (.iconst 0, 1) := by decide +kernel
theorem d_Mi_prepareSets_13 : decode prog_3_method_4_code 13 = .ok (.iconst 1, 1) := by decide +kernel
theorem d_Mi_prepareSets_14 : decode prog_3_method_4_code 14 = .ok (.bastore, 1) := by decide +kernel
theorem d_Mi_prepareSets_15 : decode prog_3_method_4_code 15 = .ok (.iconst 0, 1) := by decide +kernel
theorem d_Mi_prepareSets_16 : decode prog_3_method_4_code 16 = .ok (.istore_n 2, 1) := by decide +kernel
theorem d_Mi_prepareSets_17 : decode prog_3_method_4_code 17 = .ok (.iload_n 2, 1) := by decide +kernel
theorem d_Mi_prepareSets_18 : decode prog_3_method_4_code 18 = .ok (.bipush 7, 2) := by decide +kernel
theorem d_Mi_prepareSets_20 : decode prog_3_method_4_code 20 = .ok (.if_icmp .ge 96, 3) := by decide +kernel
theorem d_Mi_prepareSets_23 : decode prog_3_method_4_code 23 = .ok (.aload_n 1, 1) := by decide +kernel
theorem d_Mi_prepareSets_24 : decode prog_3_method_4_code 24 = .ok (.iload_n 2, 1) := by decide +kernel
theorem d_Mi_prepareSets_25 : decode prog_3_method_4_code 25 = .ok (.invokestatic 66, 3) := by decide +kernel
theorem d_Mi_prepareSets_28 : decode prog_3_method_4_code 28 = .ok (.istore_n 3, 1) := by decide +kernel
theorem d_Mi_prepareSets_29 : decode prog_3_method_4_code 29 = .ok (.aload_n 1, 1) := by decide +kernel
theorem d_Mi_prepareSets_30 : decode prog_3_method_4_code 30 = .ok (.iload_n 2, 1) := by decide +kernel
theorem d_Mi_prepareSets_31 : decode prog_3_method_4_code 31 = .ok (.invokestatic 70, 3) := by decide +kernel
theorem d_Mi_prepareSets_34 : decode prog_3_method_4_code 34 = .ok (.istore 4, 2) := by decide +kernel
theorem d_Mi_prepareSets_36 : decode prog_3_method_4_code 36 = .ok (.iconst 1, 1) := by decide +kernel
theorem d_Mi_prepareSets_37 : decode prog_3_method_4_code 37 = .ok (.iload_n 2, 1) := by decide +kernel
theorem d_Mi_prepareSets_38 : decode prog_3_method_4_code 38 = .ok (.ishl, 1) := by decide +kernel
theorem d_Mi_prepareSets_39 : decode prog_3_method_4_code 39 = .ok (.istore 5, 2) := by decide +kernel
theorem d_Mi_prepareSets_41 : decode prog_3_method_4_code 41 = .ok (.iconst 0, 1) := by decide +kernel
theorem d_Mi_prepareSets_42 : decode prog_3_method_4_code 42 = .ok (.istore 6, 2) := by decide +kernel
theorem d_Mi_prepareSets_44 : decode prog_3_method_4_code 44 = .ok (.iload 6, 2) := by decide +kernel
theorem d_Mi_prepareSets_46 : decode prog_3_method_4_code 46 = .ok (.iload 5, 2) := by decide +kernel
theorem d_Mi_prepareSets_48 : decode prog_3_method_4_code 48 = .ok (.if_icmp .ge 62, 3) := by decide +kernel
theorem d_Mi_prepareSets_51 : decode prog_3_method_4_code 51 = .ok (.iload 6, 2) := by decide +kernel
theorem d_Mi_prepareSets_53 : decode prog_3_method_4_code 53 = .ok (.iload 5, 2) := by decide +kernel
theorem d_Mi_prepareSets_55 : decode prog_3_method_4_code 55 = .ok (.ior, 1) := by decide +kernel
theorem d_Mi_prepareSets_56 : decode prog_3_method_4_code 56 = .ok (.istore 7, 2) := by decide +kernel
theorem d_Mi_prepareSets_58 : decode prog_3_method_4_code 58 = .ok (.aload_n 0, 1) := by decide +kernel
theorem d_Mi_prepareSets_59 : decode prog_3_method_4_code 59 = .ok (.getfield 9, 3) := by decide +kernel
theorem d_Mi_prepareSets_62 : decode prog_3_method_4_code 62 = .ok (.iload 7, 2) := by decide +kernel
theorem d_Mi_prepareSets_64 : decode prog_3_method_4_code 64 = .ok (.aload_n 0, 1) := by decide +kernel
theorem d_Mi_prepareSets_65 : decode prog_3_method_4_code 65 = .ok (.getfield 9, 3) := by decide +kernel
theorem d_Mi_prepareSets_68 : decode prog_3_method_4_code 68 = .ok (.iload 6, 2) := by decide +kernel
theorem d_Mi_prepareSets_70 : decode prog_3_method_4_code 70 = .ok (.iaload, 1) := by decide +kernel
theorem d_Mi_prepareSets_71 : decode prog_3_method_4_code 71 = .ok (.iload_n 3, 1) := by decide +kernel
theorem d_Mi_prepareSets_72 : decode prog_3_method_4_code 72 = .ok (.iand, 1) := by decide +kernel
theorem d_Mi_prepareSets_73 : decode prog_3_method_4_code 73 = .ok (.iastore, 1) := by decide +kernel
theorem d_Mi_prepareSets_74 : decode prog_3_method_4_code 74 = .ok (.aload_n 0, 1) := by decide +kernel
theorem d_Mi_prepareSets_75 : decode prog_3_method_4_code 75 = .ok (.getfield 15, 3) := by decide +kernel
theorem d_Mi_prepareSets_78 : decode prog_3_method_4_code 78 = .ok (.iload 7, 2) := by decide +kernel
theorem d_Mi_prepareSets_80 : decode prog_3_method_4_code 80 = .ok (.aload_n 0, 1) := by decide +kernel
theorem d_Mi_prepareSets_81 : decode prog_3_method_4_code 81 = .ok (.getfield 15, 3) := by decide +kernel
theorem d_Mi_prepareSets_84 : decode prog_3_method_4_code 84 = .ok (.iload 6, 2) := by decide +kernel
theorem d_Mi_prepareSets_86 : decode prog_3_method_4_code 86 = .ok (.baload, 1) := by decide +kernel
theorem d_Mi_prepareSets_87 : decode prog_3_method_4_code 87 = .ok (.ifCond .eq 15, 3) := by decide +kernel
theorem d_Mi_prepareSets_90 : decode prog_3_method_4_code 90 = .ok (.iload 4, 2) := by decide +kernel
theorem d_Mi_prepareSets_92 : decode prog_3_method_4_code 92 = .ok (.iload 7, 2) := by decide +kernel
theorem d_Mi_prepareSets_94 : decode prog_3_method_4_code 94 = .ok (.iand, 1) := by decide +kernel
theorem d_Mi_prepareSets_95 : decode prog_3_method_4_code 95 = .ok (.ifCond .ne 7, 3) := by decide +kernel
theorem d_Mi_prepareSets_98 : decode prog_3_method_4_code 98 = .ok (.iconst 1, 1) := by decide +kernel
theorem d_Mi_prepareSets_99 : decode prog_3_method_4_code 99 = .ok (.goto 4, 3) := by decide +kernel
theorem d_Mi_prepareSets_102 : decode prog_3_method_4_code 102 = .ok (.iconst 0, 1) := by decide +kernel
theorem d_Mi_prepareSets_103 : decode prog_3_method_4_code 103 = .ok (.bastore, 1) := by decide +kernel
theorem d_Mi_prepareSets_104 : decode prog_3_method_4_code 104 = .ok (.iinc 6 1, 3) := by decide +kernel
theorem d_Mi_prepareSets_107 : decode prog_3_method_4_code 107 = .ok (.goto (-63), 3) := by decide +kernel
theorem d_Mi_prepareSets_110 : decode prog_3_method_4_code 110 = .ok (.iinc 2 1, 3) := by decide +kernel
theorem d_Mi_prepareSets_113 : decode prog_3_method_4_code 113 = .ok (.goto (-96), 3) := by decide +kernel
theorem d_Mi_prepareSets_116 : decode prog_3_method_4_code 116 = .ok (.return_, 1) := by decide +kernel
set_option maxRecDepth 20000 in
set_option maxHeartbeats 4000000 in
theorem cM_prepareSets (E : fk_E) (i0 : Nat) (i1 : Nat) (i2 : Nat) (i3 : Nat) (i4 : Nat) (pr : Nat) (a0 : Nat) (a1 : Nat) (a2 : Nat) (a3 : Nat) (tr : Nat) (eff : Nat → Nat) (stg : Nat → Bool) (fo : Nat → Nat) (fl : Nat → Nat → Bool) (hfl : ∀ a, a < 7 → ∀ b, b < 7 → Nat.testBit (fo a) b = fl a b) (hf : ∀ k, k < 7 → fo k < 128) : fk_C E fy_Mi_prepareSets prog_3_method_4_code 8 none 3 0 0 [.ref i0, .ref a0] [(i0, .inr (3, [.ref i1, .ref i2, .ref i3, .ref i4, .int (nI pr)])), fk_ai E i1 128 eff, fk_az E i2 128 stg, (a0, .inr (1, [.ref a1, .ref a2, .ref a3, .int (nI tr)])), fk_ai E a3 7 fo] (S := (Nat → Nat) × (Nat → Bool)) (fun (u : (Nat → Nat) × (Nat → Bool)) => none) (fun (u : (Nat → Nat) × (Nat → Bool)) => ∀ s, s < 128 → u.1 s = fg_E fl s ∧ u.2 s = fg_S fl s) (fun (u : (Nat → Nat) × (Nat → Bool)) => [(i0, .inr (3, [.ref i1, .ref i2, .ref i3, .ref i4, .int (nI pr)])), fk_ai E i1 128 u.1, fk_az E i2 128 u.2, (a0, .inr (1, [.ref a1, .ref a2, .ref a3, .int (nI tr)])), fk_ai E a3 7 fo]) := by
  refine fk_enterV (by decide) (Nat.le_of_ble_eq_true rfl) (lv0 := [(0, .ref i0), (1, .ref a0)]) rfl ?_
  intro K hini hret
  refine fk_aload_n 0 d_Mi_prepareSets_0 rfl ?_
  refine fk_get 0 0 rfl rfl fh_Mi (Nat.le_of_ble_eq_true rfl) fw_79 rfl d_Mi_prepareSets_1 ?_
  refine fk_iconst (v := nI 0) d_Mi_prepareSets_4 (by decide +kernel) ?_
  refine fk_bipush (v := nI 127) d_Mi_prepareSets_5 (by decide +kernel) ?_
  refine fk_st_ai (i := 0) (x := 127) (w' := [(i0, .inr (3, [.ref i1, .ref i2, .ref i3, .ref i4, .int (nI pr)])), fk_ai E i1 128 (va_up eff 0 127), fk_az E i2 128 stg, (a0, .inr (1, [.ref a1, .ref a2, .ref a3, .int (nI tr)])), fk_ai E a3 7 fo]) 1 rfl (by omega) (by decide) d_Mi_prepareSets_7 rfl ?_
  refine fk_aload_n 0 d_Mi_prepareSets_8 rfl ?_
  refine fk_get 0 1 rfl rfl fh_Mi (Nat.le_of_ble_eq_true rfl) fw_80 rfl d_Mi_prepareSets_9 ?_
  refine fk_iconst (v := nI 0) d_Mi_prepareSets_12 (by decide +kernel) ?_
  refine fk_iconst (v := nI 1) d_Mi_prepareSets_13 (by decide +kernel) ?_
  refine fk_st_az (i := 0) (x := true) (w' := [(i0, .inr (3, [.ref i1, .ref i2, .ref i3, .ref i4, .int (nI pr)])), fk_ai E i1 128 (va_up eff 0 127), fk_az E i2 128 (va_up stg 0 true), (a0, .inr (1, [.ref a1, .ref a2, .ref a3, .int (nI tr)])), fk_ai E a3 7 fo]) 2 rfl (by omega) (by decide) d_Mi_prepareSets_14 rfl ?_
  refine fk_iconst (v := nI 0) d_Mi_prepareSets_15 (by decide +kernel) ?_
  refine fk_istore_n (lv' := [(0, .ref i0), (1, .ref a0), (2, .int (nI 0))]) d_Mi_prepareSets_16 rfl (Nat.le_of_ble_eq_true rfl) [1, 2, 0] rfl ?_
  have L17 : ∀ (fuel : Nat) (a : Nat) (e1 : Nat → Nat) (s1 : Nat → Bool), (a ≤ 7) → (∀ s, s < 2 ^ a → e1 s = fg_E fl s ∧ s1 s = fg_S fl s) → 7 - a < fuel → fk_V E (prog_3_method_4_code, fy_Mi_prepareSets.cls, 8, fk_rm 3 0 0) K (0, 0) [(i0, .inr (3, [.ref i1, .ref i2, .ref i3, .ref i4, .int (nI pr)])), fk_ai E i1 128 e1, fk_az E i2 128 s1, (a0, .inr (1, [.ref a1, .ref a2, .ref a3, .int (nI tr)])), fk_ai E a3 7 fo] 17 [(0, .ref i0), (1, .ref a0), (2, .int (nI a))] [] := by
    intro fuel
    induction fuel with
    | zero => intro a e1 s1 _ _ hm; exact absurd hm (Nat.not_lt_zero _)
    | succ fuel ih =>
      intro a e1 s1 h1 h2 hm17
      have ih17 := ih
      clear ih
      refine fk_iload_n 2 d_Mi_prepareSets_17 rfl ?_
      refine fk_bipush (v := nI 7) d_Mi_prepareSets_18 (by decide +kernel) ?_
      refine fk_icmp_ge (a := a) (b := 7) (by omega) (by omega) d_Mi_prepareSets_20 rfl (fun h20t => ?_) (fun h20f => ?_)
      · have hpp : ∀ s, s < 128 → e1 s = fg_E fl s ∧ s1 s = fg_S fl s := by intro s hs; exact h2 s (by rw [show a = 7 by omega]; omega)
        exact hret (0, 0) _ 116 _ (e1, s1) d_Mi_prepareSets_116 (hpp) (rfl)
      · have g0 := fb_pow_lt h20f
        have g1 := fb_pow_le h20f
        refine fk_aload_n 1 d_Mi_prepareSets_23 rfl ?_
        refine fk_iload_n 2 d_Mi_prepareSets_24 rfl ?_
        refine fk_callS (As := [.ref a0, .int (nI a)]) (rest := []) (is := [3, 4]) (ir := [0, 1, 2]) (ip := [0, 1, 2, 3, 4]) (wc := [(a0, .inr (1, [.ref a1, .ref a2, .ref a3, .int (nI tr)])), fk_ai E a3 7 fo]) (wr := [(i0, .inr (3, [.ref i1, .ref i2, .ref i3, .ref i4, .int (nI pr)])), fk_ai E i1 128 e1, fk_az E i2 128 s1]) (w2 := fun _ => [(i0, .inr (3, [.ref i1, .ref i2, .ref i3, .ref i4, .int (nI pr)])), fk_ai E i1 128 e1, fk_az E i2 128 s1, (a0, .inr (1, [.ref a1, .ref a2, .ref a3, .int (nI tr)])), fk_ai E a3 7 fo]) (cM_causedBy E a0 a1 a2 a3 tr fo fl a hfl hf (by first | omega | assumption)) d_Mi_prepareSets_25 fz_Mi_causedBy fw_237 fw_238 ⟨Nat.le_of_ble_eq_true rfl, Nat.le_of_ble_eq_true rfl⟩ rfl (Nat.le_of_ble_eq_true rfl) ⟨Nat.zero_le _, Nat.zero_le _⟩ ⟨rfl, rfl, rfl, rfl, by decide, fun _ => rfl, rfl⟩ (fun u hu25 => ?_)
        show fk_V E _ K (0, 0) [(i0, .inr (3, [.ref i1, .ref i2, .ref i3, .ref i4, .int (nI pr)])), fk_ai E i1 128 e1, fk_az E i2 128 s1, (a0, .inr (1, [.ref a1, .ref a2, .ref a3, .int (nI tr)])), fk_ai E a3 7 fo] 28 [(0, .ref i0), (1, .ref a0), (2, .int (nI a))] [.int (nI (fs_set (fg_caus fl a) 7))]
        refine fk_istore_n (lv' := [(0, .ref i0), (1, .ref a0), (2, .int (nI a)), (3, .int (nI (fs_set (fg_caus fl a) 7)))]) d_Mi_prepareSets_28 rfl (Nat.le_of_ble_eq_true rfl) [1, 2, 3, 0] rfl ?_
        refine fk_aload_n 1 d_Mi_prepareSets_29 rfl ?_
        refine fk_iload_n 2 d_Mi_prepareSets_30 rfl ?_
        refine fk_callS (As := [.ref a0, .int (nI a)]) (rest := []) (is := [3, 4]) (ir := [0, 1, 2]) (ip := [0, 1, 2, 3, 4]) (wc := [(a0, .inr (1, [.ref a1, .ref a2, .ref a3, .int (nI tr)])), fk_ai E a3 7 fo]) (wr := [(i0, .inr (3, [.ref i1, .ref i2, .ref i3, .ref i4, .int (nI pr)])), fk_ai E i1 128 e1, fk_az E i2 128 s1]) (w2 := fun _ => [(i0, .inr (3, [.ref i1, .ref i2, .ref i3, .ref i4, .int (nI pr)])), fk_ai E i1 128 e1, fk_az E i2 128 s1, (a0, .inr (1, [.ref a1, .ref a2, .ref a3, .int (nI tr)])), fk_ai E a3 7 fo]) (cM_knownTo E a0 a1 a2 a3 tr fo fl a hfl hf (by first | omega | assumption)) d_Mi_prepareSets_31 fz_Mi_knownTo fw_241 fw_242 ⟨Nat.le_of_ble_eq_true rfl, Nat.le_of_ble_eq_true rfl⟩ rfl (Nat.le_of_ble_eq_true rfl) ⟨Nat.zero_le _, Nat.zero_le _⟩ ⟨rfl, rfl, rfl, rfl, by decide, fun _ => rfl, rfl⟩ (fun u hu31 => ?_)
        show fk_V E _ K (0, 0) [(i0, .inr (3, [.ref i1, .ref i2, .ref i3, .ref i4, .int (nI pr)])), fk_ai E i1 128 e1, fk_az E i2 128 s1, (a0, .inr (1, [.ref a1, .ref a2, .ref a3, .int (nI tr)])), fk_ai E a3 7 fo] 34 [(0, .ref i0), (1, .ref a0), (2, .int (nI a)), (3, .int (nI (fs_set (fg_caus fl a) 7)))] [.int (nI (fs_set (fg_kn fl a) 7))]
        refine fk_istore (lv' := [(0, .ref i0), (1, .ref a0), (2, .int (nI a)), (3, .int (nI (fs_set (fg_caus fl a) 7))), (4, .int (nI (fs_set (fg_kn fl a) 7)))]) d_Mi_prepareSets_34 (Nat.le_of_ble_eq_true rfl) [1, 2, 3, 4, 0] rfl ?_
        refine fk_iconst (v := nI 1) d_Mi_prepareSets_36 (by decide +kernel) ?_
        refine fk_iload_n 2 d_Mi_prepareSets_37 rfl ?_
        refine fk_ishl (a := 1) (b := a) d_Mi_prepareSets_38 (by omega) (by omega) ?_
        refine fk_top (show nI (1 * 2 ^ a) = nI (2 ^ a) by rw [Nat.one_mul]) ?_
        refine fk_istore (lv' := [(0, .ref i0), (1, .ref a0), (2, .int (nI a)), (3, .int (nI (fs_set (fg_caus fl a) 7))), (4, .int (nI (fs_set (fg_kn fl a) 7))), (5, .int (nI (2 ^ a)))]) d_Mi_prepareSets_39 (Nat.le_of_ble_eq_true rfl) [1, 2, 3, 4, 5, 0] rfl ?_
        refine fk_iconst (v := nI 0) d_Mi_prepareSets_41 (by decide +kernel) ?_
        refine fk_istore (lv' := [(0, .ref i0), (1, .ref a0), (2, .int (nI a)), (3, .int (nI (fs_set (fg_caus fl a) 7))), (4, .int (nI (fs_set (fg_kn fl a) 7))), (5, .int (nI (2 ^ a))), (6, .int (nI 0))]) d_Mi_prepareSets_42 (Nat.le_of_ble_eq_true rfl) [1, 2, 3, 4, 5, 6, 0] rfl ?_
        have L44 : ∀ (fuel : Nat) (r : Nat) (e2 : Nat → Nat) (s2 : Nat → Bool), (r ≤ 2 ^ a) → (∀ s, s < 2 ^ a + r → e2 s = fg_E fl s ∧ s2 s = fg_S fl s) → 2 ^ a - r < fuel → fk_V E (prog_3_method_4_code, fy_Mi_prepareSets.cls, 8, fk_rm 3 0 0) K (0, 0) [(i0, .inr (3, [.ref i1, .ref i2, .ref i3, .ref i4, .int (nI pr)])), fk_ai E i1 128 e2, fk_az E i2 128 s2, (a0, .inr (1, [.ref a1, .ref a2, .ref a3, .int (nI tr)])), fk_ai E a3 7 fo] 44 [(0, .ref i0), (1, .ref a0), (2, .int (nI a)), (3, .int (nI (fs_set (fg_caus fl a) 7))), (4, .int (nI (fs_set (fg_kn fl a) 7))), (5, .int (nI (2 ^ a))), (6, .int (nI r))] [] := by
          intro fuel
          induction fuel with
          | zero => intro r e2 s2 _ _ hm; exact absurd hm (Nat.not_lt_zero _)
          | succ fuel ih =>
            intro r e2 s2 h3 h4 hm44
            have ih44 := ih
            clear ih
            refine fk_iload 6 d_Mi_prepareSets_44 rfl ?_
            refine fk_iload 5 d_Mi_prepareSets_46 rfl ?_
            refine fk_icmp_ge (a := r) (b := (2 ^ a)) (by omega) (by omega) d_Mi_prepareSets_48 rfl (fun h48t => ?_) (fun h48f => ?_)
            · refine fk_iinc (j := 2) (lv' := [(0, .ref i0), (1, .ref a0), (2, .int (nI (a + 1))), (3, .int (nI (fs_set (fg_caus fl a) 7))), (4, .int (nI (fs_set (fg_kn fl a) 7))), (5, .int (nI (2 ^ a))), (6, .int (nI r))]) (a + 1) d_Mi_prepareSets_110 rfl (nI_1 a) (Nat.le_of_ble_eq_true rfl) [1, 2, 0, 3, 4, 5, 6] rfl ?_
              refine fk_goto d_Mi_prepareSets_113 rfl ?_
              refine fk_lv (lv' := [(0, .ref i0), (1, .ref a0), (2, .int (nI (a + 1)))]) [0, 1, 2] rfl ?_
              refine ih17 _ _ _ ?_ ?_ ?_
              · first | omega | assumption | exact Nat.zero_le _
              · intro s hs
                rw [Nat.pow_succ] at hs
                exact h4 s (by omega)
              · omega
            · have g2 : r ||| 2 ^ a = 2 ^ a + r := fb_add_or h48f
              refine fk_iload 6 d_Mi_prepareSets_51 rfl ?_
              refine fk_iload 5 d_Mi_prepareSets_53 rfl ?_
              refine fk_ior (a := r) (b := (2 ^ a)) d_Mi_prepareSets_55 ?_
              refine fk_istore (lv' := [(0, .ref i0), (1, .ref a0), (2, .int (nI a)), (3, .int (nI (fs_set (fg_caus fl a) 7))), (4, .int (nI (fs_set (fg_kn fl a) 7))), (5, .int (nI (2 ^ a))), (6, .int (nI r)), (7, .int (nI (r ||| (2 ^ a))))]) d_Mi_prepareSets_56 (Nat.le_of_ble_eq_true rfl) [1, 2, 3, 4, 5, 6, 7, 0] rfl ?_
              refine fk_aload_n 0 d_Mi_prepareSets_58 rfl ?_
              refine fk_get 0 0 rfl rfl fh_Mi (Nat.le_of_ble_eq_true rfl) fw_79 rfl d_Mi_prepareSets_59 ?_
              refine fk_iload 7 d_Mi_prepareSets_62 rfl ?_
              refine fk_aload_n 0 d_Mi_prepareSets_64 rfl ?_
              refine fk_get 0 0 rfl rfl fh_Mi (Nat.le_of_ble_eq_true rfl) fw_79 rfl d_Mi_prepareSets_65 ?_
              refine fk_iload 6 d_Mi_prepareSets_68 rfl ?_
              refine fk_ld_ai (i := r) 1 rfl (by omega) (by decide) d_Mi_prepareSets_70 ?_
              refine fk_iload_n 3 d_Mi_prepareSets_71 rfl ?_
              refine fk_iand (a := (e2 r)) (b := (fs_set (fg_caus fl a) 7)) d_Mi_prepareSets_72 ?_
              refine fk_st_ai (i := (r ||| (2 ^ a))) (x := ((e2 r) &&& (fs_set (fg_caus fl a) 7))) (w' := [(i0, .inr (3, [.ref i1, .ref i2, .ref i3, .ref i4, .int (nI pr)])), fk_ai E i1 128 (va_up e2 (r ||| (2 ^ a)) ((e2 r) &&& (fs_set (fg_caus fl a) 7))), fk_az E i2 128 s2, (a0, .inr (1, [.ref a1, .ref a2, .ref a3, .int (nI tr)])), fk_ai E a3 7 fo]) 1 rfl (by omega) (by decide) d_Mi_prepareSets_73 rfl ?_
              refine fk_aload_n 0 d_Mi_prepareSets_74 rfl ?_
              refine fk_get 0 1 rfl rfl fh_Mi (Nat.le_of_ble_eq_true rfl) fw_80 rfl d_Mi_prepareSets_75 ?_
              refine fk_iload 7 d_Mi_prepareSets_78 rfl ?_
              refine fk_aload_n 0 d_Mi_prepareSets_80 rfl ?_
              refine fk_get 0 1 rfl rfl fh_Mi (Nat.le_of_ble_eq_true rfl) fw_80 rfl d_Mi_prepareSets_81 ?_
              refine fk_iload 6 d_Mi_prepareSets_84 rfl ?_
              refine fk_ld_az (i := r) 2 rfl (by omega) (by decide) d_Mi_prepareSets_86 ?_
              refine fk_if_eqB (b := (s2 r)) d_Mi_prepareSets_87 rfl (fun h87t => ?_) (fun h87f => ?_)
              · refine fk_iconst (v := nI 0) d_Mi_prepareSets_102 (by decide +kernel) ?_
                refine fk_st_az (i := (r ||| (2 ^ a))) (x := false) (w' := [(i0, .inr (3, [.ref i1, .ref i2, .ref i3, .ref i4, .int (nI pr)])), fk_ai E i1 128 (va_up e2 (r ||| (2 ^ a)) ((e2 r) &&& (fs_set (fg_caus fl a) 7))), fk_az E i2 128 (va_up s2 (r ||| (2 ^ a)) false), (a0, .inr (1, [.ref a1, .ref a2, .ref a3, .int (nI tr)])), fk_ai E a3 7 fo]) 2 rfl (by omega) (by decide) d_Mi_prepareSets_103 rfl ?_
                refine fk_iinc (j := 6) (lv' := [(0, .ref i0), (1, .ref a0), (2, .int (nI a)), (3, .int (nI (fs_set (fg_caus fl a) 7))), (4, .int (nI (fs_set (fg_kn fl a) 7))), (5, .int (nI (2 ^ a))), (6, .int (nI (r + 1))), (7, .int (nI (r ||| (2 ^ a))))]) (r + 1) d_Mi_prepareSets_104 rfl (nI_1 r) (Nat.le_of_ble_eq_true rfl) [1, 2, 3, 4, 5, 6, 0, 7] rfl ?_
                refine fk_goto d_Mi_prepareSets_107 rfl ?_
                refine fk_lv (lv' := [(0, .ref i0), (1, .ref a0), (2, .int (nI a)), (3, .int (nI (fs_set (fg_caus fl a) 7))), (4, .int (nI (fs_set (fg_kn fl a) 7))), (5, .int (nI (2 ^ a))), (6, .int (nI (r + 1)))]) [0, 1, 2, 3, 4, 5, 6] rfl ?_
                refine ih44 _ _ _ ?_ ?_ ?_
                · first | omega | assumption | exact Nat.zero_le _
                · intro s hs
                  rcases Nat.lt_or_ge s (2 ^ a + r) with q | q
                  · rw [va_up_ne _ _ (by omega), va_up_ne _ _ (by omega)]
                    exact h4 s q
                  · rw [show s = r ||| 2 ^ a by omega, va_up_self, va_up_self]
                    refine ⟨?_, ?_⟩
                    · rw [(h4 r (by omega)).1]
                      exact fg_E_add (by omega) h48f (fs_set_lt _ (by decide)) (fun b hb => by rw [fs_set_bit, decide_eq_true hb, Bool.true_and])
                    · rw [← fg_S_add (k := fs_set (fg_kn fl a) 7) (by omega) h48f (fun b hb => by rw [fs_set_bit, decide_eq_true hb, Bool.true_and, fg_kn_str]) (fs_set_lt _ (by decide)), ← (h4 r (by omega)).2]
                      first | (rw [h87t]; rfl) | (rw [h87f, decide_eq_false h95t]; rfl) | (rw [h87f, decide_eq_true h95f]; rfl)
                · omega
              · refine fk_iload 4 d_Mi_prepareSets_90 rfl ?_
                refine fk_iload 7 d_Mi_prepareSets_92 rfl ?_
                refine fk_iand (a := (fs_set (fg_kn fl a) 7)) (b := (r ||| (2 ^ a))) d_Mi_prepareSets_94 ?_
                refine fk_if_ne (a := ((fs_set (fg_kn fl a) 7) &&& (r ||| (2 ^ a)))) (by have := fb_and_lt' (b := r ||| 2 ^ a) (fs_set_lt (fg_kn fl a) (show 7 ≤ 7 by decide)); omega) d_Mi_prepareSets_95 rfl (fun h95t => ?_) (fun h95f => ?_)
                · refine fk_iconst (v := nI 0) d_Mi_prepareSets_102 (by decide +kernel) ?_
                  refine fk_st_az (i := (r ||| (2 ^ a))) (x := false) (w' := [(i0, .inr (3, [.ref i1, .ref i2, .ref i3, .ref i4, .int (nI pr)])), fk_ai E i1 128 (va_up e2 (r ||| (2 ^ a)) ((e2 r) &&& (fs_set (fg_caus fl a) 7))), fk_az E i2 128 (va_up s2 (r ||| (2 ^ a)) false), (a0, .inr (1, [.ref a1, .ref a2, .ref a3, .int (nI tr)])), fk_ai E a3 7 fo]) 2 rfl (by omega) (by decide) d_Mi_prepareSets_103 rfl ?_
                  refine fk_iinc (j := 6) (lv' := [(0, .ref i0), (1, .ref a0), (2, .int (nI a)), (3, .int (nI (fs_set (fg_caus fl a) 7))), (4, .int (nI (fs_set (fg_kn fl a) 7))), (5, .int (nI (2 ^ a))), (6, .int (nI (r + 1))), (7, .int (nI (r ||| (2 ^ a))))]) (r + 1) d_Mi_prepareSets_104 rfl (nI_1 r) (Nat.le_of_ble_eq_true rfl) [1, 2, 3, 4, 5, 6, 0, 7] rfl ?_
                  refine fk_goto d_Mi_prepareSets_107 rfl ?_
                  refine fk_lv (lv' := [(0, .ref i0), (1, .ref a0), (2, .int (nI a)), (3, .int (nI (fs_set (fg_caus fl a) 7))), (4, .int (nI (fs_set (fg_kn fl a) 7))), (5, .int (nI (2 ^ a))), (6, .int (nI (r + 1)))]) [0, 1, 2, 3, 4, 5, 6] rfl ?_
                  refine ih44 _ _ _ ?_ ?_ ?_
                  · first | omega | assumption | exact Nat.zero_le _
                  · intro s hs
                    rcases Nat.lt_or_ge s (2 ^ a + r) with q | q
                    · rw [va_up_ne _ _ (by omega), va_up_ne _ _ (by omega)]
                      exact h4 s q
                    · rw [show s = r ||| 2 ^ a by omega, va_up_self, va_up_self]
                      refine ⟨?_, ?_⟩
                      · rw [(h4 r (by omega)).1]
                        exact fg_E_add (by omega) h48f (fs_set_lt _ (by decide)) (fun b hb => by rw [fs_set_bit, decide_eq_true hb, Bool.true_and])
                      · rw [← fg_S_add (k := fs_set (fg_kn fl a) 7) (by omega) h48f (fun b hb => by rw [fs_set_bit, decide_eq_true hb, Bool.true_and, fg_kn_str]) (fs_set_lt _ (by decide)), ← (h4 r (by omega)).2]
                        first | (rw [h87t]; rfl) | (rw [h87f, decide_eq_false h95t]; rfl) | (rw [h87f, decide_eq_true h95f]; rfl)
                  · omega
                · refine fk_iconst (v := nI 1) d_Mi_prepareSets_98 (by decide +kernel) ?_
                  refine fk_goto d_Mi_prepareSets_99 rfl ?_
                  refine fk_st_az (i := (r ||| (2 ^ a))) (x := true) (w' := [(i0, .inr (3, [.ref i1, .ref i2, .ref i3, .ref i4, .int (nI pr)])), fk_ai E i1 128 (va_up e2 (r ||| (2 ^ a)) ((e2 r) &&& (fs_set (fg_caus fl a) 7))), fk_az E i2 128 (va_up s2 (r ||| (2 ^ a)) true), (a0, .inr (1, [.ref a1, .ref a2, .ref a3, .int (nI tr)])), fk_ai E a3 7 fo]) 2 rfl (by omega) (by decide) d_Mi_prepareSets_103 rfl ?_
                  refine fk_iinc (j := 6) (lv' := [(0, .ref i0), (1, .ref a0), (2, .int (nI a)), (3, .int (nI (fs_set (fg_caus fl a) 7))), (4, .int (nI (fs_set (fg_kn fl a) 7))), (5, .int (nI (2 ^ a))), (6, .int (nI (r + 1))), (7, .int (nI (r ||| (2 ^ a))))]) (r + 1) d_Mi_prepareSets_104 rfl (nI_1 r) (Nat.le_of_ble_eq_true rfl) [1, 2, 3, 4, 5, 6, 0, 7] rfl ?_
                  refine fk_goto d_Mi_prepareSets_107 rfl ?_
                  refine fk_lv (lv' := [(0, .ref i0), (1, .ref a0), (2, .int (nI a)), (3, .int (nI (fs_set (fg_caus fl a) 7))), (4, .int (nI (fs_set (fg_kn fl a) 7))), (5, .int (nI (2 ^ a))), (6, .int (nI (r + 1)))]) [0, 1, 2, 3, 4, 5, 6] rfl ?_
                  refine ih44 _ _ _ ?_ ?_ ?_
                  · first | omega | assumption | exact Nat.zero_le _
                  · intro s hs
                    rcases Nat.lt_or_ge s (2 ^ a + r) with q | q
                    · rw [va_up_ne _ _ (by omega), va_up_ne _ _ (by omega)]
                      exact h4 s q
                    · rw [show s = r ||| 2 ^ a by omega, va_up_self, va_up_self]
                      refine ⟨?_, ?_⟩
                      · rw [(h4 r (by omega)).1]
                        exact fg_E_add (by omega) h48f (fs_set_lt _ (by decide)) (fun b hb => by rw [fs_set_bit, decide_eq_true hb, Bool.true_and])
                      · rw [← fg_S_add (k := fs_set (fg_kn fl a) 7) (by omega) h48f (fun b hb => by rw [fs_set_bit, decide_eq_true hb, Bool.true_and, fg_kn_str]) (fs_set_lt _ (by decide)), ← (h4 r (by omega)).2]
                        first | (rw [h87t]; rfl) | (rw [h87f, decide_eq_false h95t]; rfl) | (rw [h87f, decide_eq_true h95f]; rfl)
                  · omega
        refine L44 _ _ _ _ ?_ ?_ (Nat.lt_succ_self _)
        · first | omega | assumption | exact Nat.zero_le _
        · intro s hs
          exact h2 s (by omega)
  refine L17 _ _ _ _ ?_ ?_ (Nat.lt_succ_self _)
  · first | omega | assumption | exact Nat.zero_le _
  · intro s hs
    have e : s = 0 := by omega
    subst e
    rw [va_up_self, va_up_self, fg_E0, fg_S0]
    exact ⟨rfl, rfl⟩
theorem d_Mi_findPairs_0 : decode prog_3_method_2_code 0 = .ok (.aload_n 0, 1) := by decide +kernel
theorem d_Mi_findPairs_1 : decode prog_3_method_2_code 1 = .ok (.aload_n 1, 1) := by decide +kernel
theorem d_Mi_findPairs_2 : decode prog_3_method_2_code 2 = .ok (.invokevirtual 29, 3) := by decide +kernel
theorem d_Mi_findPairs_5 : decode prog_3_method_2_code 5 = .ok (.aload_n 0, 1) := by decide +kernel
theorem d_Mi_findPairs_6 : decode prog_3_method_2_code 6 = .ok (.iconst 0, 1) := by decide +kernel
theorem d_Mi_findPairs_7 : decode prog_3_method_2_code 7 = .ok (.putfield 25, 3) := by decide +kernel
theorem d_Mi_findPairs_10 : decode prog_3_method_2_code 10 = .ok (.iconst 1, 1) := by decide +kernel
theorem d_Mi_findPairs_11 : decode prog_3_method_2_code 11 = .ok (.istore_n 2, 1) := by decide +kernel
theorem d_Mi_findPairs_12 : decode prog_3_method_2_code 12 = .ok (.iload_n 2, 1) := by decide +kernel
theorem d_Mi_findPairs_13 : decode prog_3_method_2_code 13 = .ok (.sipush 128, 3) := by decide +kernel
theorem d_Mi_findPairs_16 : decode prog_3_method_2_code 16 = .ok (.if_icmp .ge 37, 3) := by decide +kernel
theorem d_Mi_findPairs_19 : decode prog_3_method_2_code 19 = .ok (.aload_n 0, 1) := by decide +kernel
theorem d_Mi_findPairs_20 : decode prog_3_method_2_code 20 = .ok (.getfield 15, 3) := by decide +kernel
theorem d_Mi_findPairs_23 : decode prog_3_method_2_code 23 = .ok (.iload_n 2, 1) := by decide +kernel
theorem d_Mi_findPairs_24 : decode prog_3_method_2_code 24 = .ok (.baload, 1) := by decide +kernel
theorem d_Mi_findPairs_25 : decode prog_3_method_2_code 25 = .ok (.ifCond .eq 22, 3) := by decide +kernel
theorem d_Mi_findPairs_28 : decode prog_3_method_2_code 28 = .ok (.aload_n 0, 1) := by decide +kernel
theorem d_Mi_findPairs_29 : decode prog_3_method_2_code 29 = .ok (.getfield 9, 3) := by decide +kernel
theorem d_Mi_findPairs_32 : decode prog_3_method_2_code 32 = .ok (.iload_n 2, 1) := by decide +kernel
theorem d_Mi_findPairs_33 : decode prog_3_method_2_code 33 = .ok (.iaload, 1) := by decide +kernel
theorem d_Mi_findPairs_34 : decode prog_3_method_2_code 34 = .ok (.ifCond .eq 13, 3) := by decide +kernel
theorem d_Mi_findPairs_37 : decode prog_3_method_2_code 37 = .ok (.aload_n 0, 1) := by decide +kernel
theorem d_Mi_findPairs_38 : decode prog_3_method_2_code 38 = .ok (.iload_n 2, 1) := by decide +kernel
theorem d_Mi_findPairs_39 : decode prog_3_method_2_code 39 = .ok (.invokevirtual 33, 3) := by decide +kernel
theorem d_Mi_findPairs_42 : decode prog_3_method_2_code 42 = .ok (.ifCond .ne 5, 3) := by decide +kernel
theorem d_Mi_findPairs_45 : decode prog_3_method_2_code 45 = .ok (.iconst 0, 1) := by decide +kernel
theorem d_Mi_findPairs_46 : decode prog_3_method_2_code 46 = .ok (.ireturn, 1) := by decide +kernel
theorem d_Mi_findPairs_47 : decode prog_3_method_2_code 47 = .ok (.iinc 2 1, 3) := by decide +kernel
theorem d_Mi_findPairs_50 : decode prog_3_method_2_code 50 = .ok (.goto (-38), 3) := by decide +kernel
theorem d_Mi_findPairs_53 : decode prog_3_method_2_code 53 = .ok (.iconst 1, 1) := by decide +kernel
theorem d_Mi_findPairs_54 : decode prog_3_method_2_code 54 = .ok (.ireturn, 1) := by decide +kernel
set_option maxRecDepth 20000 in
set_option maxHeartbeats 4000000 in
theorem cM_findPairs (E : fk_E) (i0 : Nat) (i1 : Nat) (i2 : Nat) (i3 : Nat) (i4 : Nat) (pr : Nat) (a0 : Nat) (a1 : Nat) (a2 : Nat) (a3 : Nat) (tr : Nat) (eff : Nat → Nat) (stg : Nat → Bool) (pin : Nat → Nat) (pou : Nat → Nat) (fo : Nat → Nat) (fl : Nat → Nat → Bool) (hfl : ∀ a, a < 7 → ∀ b, b < 7 → Nat.testBit (fo a) b = fl a b) (hf : ∀ k, k < 7 → fo k < 128) : fk_C E fy_Mi_findPairs prog_3_method_2_code 3 (some .boolean) 4 0 0 [.ref i0, .ref a0] [(i0, .inr (3, [.ref i1, .ref i2, .ref i3, .ref i4, .int (nI pr)])), fk_ai E i1 128 eff, fk_az E i2 128 stg, fk_ai E i3 14 pin, fk_ai E i4 14 pou, (a0, .inr (1, [.ref a1, .ref a2, .ref a3, .int (nI tr)])), fk_ai E a3 7 fo] (S := Bool × Nat × (Nat → Nat) × (Nat → Bool) × (Nat → Nat) × (Nat → Nat)) (fun (u : Bool × Nat × (Nat → Nat) × (Nat → Bool) × (Nat → Nat) × (Nat → Nat)) => some (.int (nI (Bool.toNat u.1)))) (fun (u : Bool × Nat × (Nat → Nat) × (Nat → Bool) × (Nat → Nat) × (Nat → Nat)) => (u.1 = true → fg_P fl 16384 u.2.1 u.2.2.2.2.1 u.2.2.2.2.2) ∧ (u.1 = false → 14 < (fg_L fl 16384).length)) (fun (u : Bool × Nat × (Nat → Nat) × (Nat → Bool) × (Nat → Nat) × (Nat → Nat)) => [(i0, .inr (3, [.ref i1, .ref i2, .ref i3, .ref i4, .int (nI u.2.1)])), fk_ai E i1 128 u.2.2.1, fk_az E i2 128 u.2.2.2.1, fk_ai E i3 14 u.2.2.2.2.1, fk_ai E i4 14 u.2.2.2.2.2, (a0, .inr (1, [.ref a1, .ref a2, .ref a3, .int (nI tr)])), fk_ai E a3 7 fo]) := by
  refine fk_enterZ (v := fun (u : Bool × Nat × (Nat → Nat) × (Nat → Bool) × (Nat → Nat) × (Nat → Nat)) => u.1) (by decide) (Nat.le_of_ble_eq_true rfl) (lv0 := [(0, .ref i0), (1, .ref a0)]) rfl ?_
  intro K hini hret
  refine fk_aload_n 0 d_Mi_findPairs_0 rfl ?_
  refine fk_aload_n 1 d_Mi_findPairs_1 rfl ?_
  refine fk_callV (q0 := 0) (As := [.ref a0]) (rest := []) (is := [0, 1, 2, 5, 6]) (ir := [3, 4]) (ip := [2, 3, 4, 0, 1, 5, 6]) (wc := [(i0, .inr (3, [.ref i1, .ref i2, .ref i3, .ref i4, .int (nI pr)])), fk_ai E i1 128 eff, fk_az E i2 128 stg, (a0, .inr (1, [.ref a1, .ref a2, .ref a3, .int (nI tr)])), fk_ai E a3 7 fo]) (wr := [fk_ai E i3 14 pin, fk_ai E i4 14 pou]) (w2 := fun u => [(i0, .inr (3, [.ref i1, .ref i2, .ref i3, .ref i4, .int (nI pr)])), fk_ai E i1 128 u.1, fk_az E i2 128 u.2, fk_ai E i3 14 pin, fk_ai E i4 14 pou, (a0, .inr (1, [.ref a1, .ref a2, .ref a3, .int (nI tr)])), fk_ai E a3 7 fo]) (cM_prepareSets E i0 i1 i2 i3 i4 pr a0 a1 a2 a3 tr eff stg fo fl hfl hf) d_Mi_findPairs_2 fz_Mi_prepareSets fw_233 rfl rfl fw_235 fw_p0 ⟨Nat.le_of_ble_eq_true rfl, Nat.le_of_ble_eq_true rfl⟩ rfl (Nat.le_of_ble_eq_true rfl) ⟨Nat.zero_le _, Nat.zero_le _⟩ ⟨rfl, rfl, rfl, rfl, by decide, fun _ => rfl, rfl⟩ (fun u hu2 => ?_)
  obtain ⟨ef9_2, st9_2⟩ := u
  have hq2 : ∀ s, s < 128 → ef9_2 s = fg_E fl s ∧ st9_2 s = fg_S fl s := hu2
  show fk_V E _ K (0, 0) [(i0, .inr (3, [.ref i1, .ref i2, .ref i3, .ref i4, .int (nI pr)])), fk_ai E i1 128 ef9_2, fk_az E i2 128 st9_2, fk_ai E i3 14 pin, fk_ai E i4 14 pou, (a0, .inr (1, [.ref a1, .ref a2, .ref a3, .int (nI tr)])), fk_ai E a3 7 fo] 5 [(0, .ref i0), (1, .ref a0)] []
  refine fk_aload_n 0 d_Mi_findPairs_5 rfl ?_
  refine fk_iconst (v := nI 0) d_Mi_findPairs_6 (by decide +kernel) ?_
  refine fk_put (w' := [(i0, .inr (3, [.ref i1, .ref i2, .ref i3, .ref i4, .int (nI 0)])), fk_ai E i1 128 ef9_2, fk_az E i2 128 st9_2, fk_ai E i3 14 pin, fk_ai E i4 14 pou, (a0, .inr (1, [.ref a1, .ref a2, .ref a3, .int (nI tr)])), fk_ai E a3 7 fo]) 0 4 fT_Mi fT_Mi_ok fT_Mi_nm rfl rfl fh_Mi (Nat.le_of_ble_eq_true rfl) fw_83 rfl (fT_Mi_ok 4 (Nat.le_of_ble_eq_true rfl)) rfl rfl (Nat.le_of_ble_eq_true rfl) d_Mi_findPairs_7 rfl ?_
  refine fk_iconst (v := nI 1) d_Mi_findPairs_10 (by decide +kernel) ?_
  refine fk_istore_n (lv' := [(0, .ref i0), (1, .ref a0), (2, .int (nI 1))]) d_Mi_findPairs_11 rfl (Nat.le_of_ble_eq_true rfl) [1, 2, 0] rfl ?_
  have L12 : ∀ (fuel : Nat) (l : Nat) (pr1 : Nat) (pi1 : Nat → Nat) (po1 : Nat → Nat), (0 < l) → (l ≤ 128) → (fg_P fl (128 * l) pr1 pi1 po1) → 128 - l < fuel → fk_V E (prog_3_method_2_code, fy_Mi_findPairs.cls, 3, fk_rm 4 0 0) K (0, 0) [(i0, .inr (3, [.ref i1, .ref i2, .ref i3, .ref i4, .int (nI pr1)])), fk_ai E i1 128 ef9_2, fk_az E i2 128 st9_2, fk_ai E i3 14 pi1, fk_ai E i4 14 po1, (a0, .inr (1, [.ref a1, .ref a2, .ref a3, .int (nI tr)])), fk_ai E a3 7 fo] 12 [(0, .ref i0), (1, .ref a0), (2, .int (nI l))] [] := by
    intro fuel
    induction fuel with
    | zero => intro l pr1 pi1 po1 _ _ _ hm; exact absurd hm (Nat.not_lt_zero _)
    | succ fuel ih =>
      intro l pr1 pi1 po1 h0 h1 h2 hm12
      have ih12 := ih
      clear ih
      refine fk_iload_n 2 d_Mi_findPairs_12 rfl ?_
      refine fk_sipush (v := nI 128) d_Mi_findPairs_13 (by decide +kernel) ?_
      refine fk_icmp_ge (a := l) (b := 128) (by omega) (by omega) d_Mi_findPairs_16 rfl (fun h16t => ?_) (fun h16f => ?_)
      · refine fk_iconst (v := nI 1) d_Mi_findPairs_53 (by decide +kernel) ?_
        refine fk_top (fn_rt (b := true) (by first | assumption | (simp; omega) | simp_all | (simp_all; omega))) ?_
        have hpp : (true = true → fg_P fl 16384 pr1 pi1 po1) ∧ (true = false → 14 < (fg_L fl 16384).length) := ⟨fun _ => by rw [show 16384 = 128 * l by omega]; exact h2, fun q => absurd (show true = false from q) (by decide)⟩
        exact hret (0, 0) _ 54 _ (true, pr1, ef9_2, st9_2, pi1, po1) d_Mi_findPairs_54 (hpp) (rfl)
      · have g0 := hq2 l h16f
        have g1 : ef9_2 l < 128 := by rw [g0.1]; exact fg_E_lt _ _
        refine fk_aload_n 0 d_Mi_findPairs_19 rfl ?_
        refine fk_get 0 1 rfl rfl fh_Mi (Nat.le_of_ble_eq_true rfl) fw_80 rfl d_Mi_findPairs_20 ?_
        refine fk_iload_n 2 d_Mi_findPairs_23 rfl ?_
        refine fk_ld_az (i := l) 2 rfl (by omega) (by decide) d_Mi_findPairs_24 ?_
        refine fk_if_eqB (b := (st9_2 l)) d_Mi_findPairs_25 rfl (fun h25t => ?_) (fun h25f => ?_)
        · refine fk_iinc (j := 2) (lv' := [(0, .ref i0), (1, .ref a0), (2, .int (nI (l + 1)))]) (l + 1) d_Mi_findPairs_47 rfl (nI_1 l) (Nat.le_of_ble_eq_true rfl) [1, 2, 0] rfl ?_
          refine fk_goto d_Mi_findPairs_50 rfl ?_
          refine ih12 _ _ _ _ ?_ ?_ ?_ ?_
          · first | omega | assumption | exact Nat.zero_le _
          · first | omega | assumption | exact Nat.zero_le _
          · first | exact hq39.1 h42t | exact fg_P_skip h2 (by omega) (fun i q1 q2 => fg_noS (g0.2.symm.trans h25t) q1 q2) | exact fg_P_skip h2 (by omega) (fun i q1 q2 => fg_noE (g0.1.symm.trans h34t) q1 q2)
          · omega
        · refine fk_aload_n 0 d_Mi_findPairs_28 rfl ?_
          refine fk_get 0 0 rfl rfl fh_Mi (Nat.le_of_ble_eq_true rfl) fw_79 rfl d_Mi_findPairs_29 ?_
          refine fk_iload_n 2 d_Mi_findPairs_32 rfl ?_
          refine fk_ld_ai (i := l) 1 rfl (by omega) (by decide) d_Mi_findPairs_33 ?_
          refine fk_if_eq (a := (ef9_2 l)) (by omega) d_Mi_findPairs_34 rfl (fun h34t => ?_) (fun h34f => ?_)
          · refine fk_iinc (j := 2) (lv' := [(0, .ref i0), (1, .ref a0), (2, .int (nI (l + 1)))]) (l + 1) d_Mi_findPairs_47 rfl (nI_1 l) (Nat.le_of_ble_eq_true rfl) [1, 2, 0] rfl ?_
            refine fk_goto d_Mi_findPairs_50 rfl ?_
            refine ih12 _ _ _ _ ?_ ?_ ?_ ?_
            · first | omega | assumption | exact Nat.zero_le _
            · first | omega | assumption | exact Nat.zero_le _
            · first | exact hq39.1 h42t | exact fg_P_skip h2 (by omega) (fun i q1 q2 => fg_noS (g0.2.symm.trans h25t) q1 q2) | exact fg_P_skip h2 (by omega) (fun i q1 q2 => fg_noE (g0.1.symm.trans h34t) q1 q2)
            · omega
          · refine fk_aload_n 0 d_Mi_findPairs_37 rfl ?_
            refine fk_iload_n 2 d_Mi_findPairs_38 rfl ?_
            refine fk_callV (q0 := 0) (As := [.int (nI l)]) (rest := []) (is := [0, 1, 2, 3, 4]) (ir := [5, 6]) (ip := [2, 3, 4, 5, 6, 0, 1]) (wc := [(i0, .inr (3, [.ref i1, .ref i2, .ref i3, .ref i4, .int (nI pr1)])), fk_ai E i1 128 ef9_2, fk_az E i2 128 st9_2, fk_ai E i3 14 pi1, fk_ai E i4 14 po1]) (wr := [(a0, .inr (1, [.ref a1, .ref a2, .ref a3, .int (nI tr)])), fk_ai E a3 7 fo]) (w2 := fun u => [(i0, .inr (3, [.ref i1, .ref i2, .ref i3, .ref i4, .int (nI u.2.1)])), fk_ai E i1 128 ef9_2, fk_az E i2 128 st9_2, fk_ai E i3 14 u.2.2.1, fk_ai E i4 14 u.2.2.2, (a0, .inr (1, [.ref a1, .ref a2, .ref a3, .int (nI tr)])), fk_ai E a3 7 fo]) (cM_addPairsOf E i0 i1 i2 i3 i4 pr1 ef9_2 st9_2 fl pi1 po1 l hq2 (by first | omega | assumption) (by first | omega | assumption) h2) d_Mi_findPairs_39 fz_Mi_addPairsOf fw_244 rfl rfl fw_246 fw_p1 ⟨Nat.le_of_ble_eq_true rfl, Nat.le_of_ble_eq_true rfl⟩ rfl (Nat.le_of_ble_eq_true rfl) ⟨Nat.zero_le _, Nat.zero_le _⟩ ⟨rfl, rfl, rfl, rfl, by decide, fun _ => rfl, rfl⟩ (fun u hu39 => ?_)
            obtain ⟨bb_39, pr9_39, pi9_39, po9_39⟩ := u
            have hq39 : (bb_39 = true → fg_P fl (128 * (l + 1)) pr9_39 pi9_39 po9_39) ∧ (bb_39 = false → 14 < (fg_L fl 16384).length) := hu39
            show fk_V E _ K (0, 0) [(i0, .inr (3, [.ref i1, .ref i2, .ref i3, .ref i4, .int (nI pr9_39)])), fk_ai E i1 128 ef9_2, fk_az E i2 128 st9_2, fk_ai E i3 14 pi9_39, fk_ai E i4 14 po9_39, (a0, .inr (1, [.ref a1, .ref a2, .ref a3, .int (nI tr)])), fk_ai E a3 7 fo] 42 [(0, .ref i0), (1, .ref a0), (2, .int (nI l))] [.int (nI (Bool.toNat bb_39))]
            refine fk_if_neB (b := bb_39) d_Mi_findPairs_42 rfl (fun h42t => ?_) (fun h42f => ?_)
            · refine fk_iinc (j := 2) (lv' := [(0, .ref i0), (1, .ref a0), (2, .int (nI (l + 1)))]) (l + 1) d_Mi_findPairs_47 rfl (nI_1 l) (Nat.le_of_ble_eq_true rfl) [1, 2, 0] rfl ?_
              refine fk_goto d_Mi_findPairs_50 rfl ?_
              refine ih12 _ _ _ _ ?_ ?_ ?_ ?_
              · first | omega | assumption | exact Nat.zero_le _
              · first | omega | assumption | exact Nat.zero_le _
              · first | exact hq39.1 h42t | exact fg_P_skip h2 (by omega) (fun i q1 q2 => fg_noS (g0.2.symm.trans h25t) q1 q2) | exact fg_P_skip h2 (by omega) (fun i q1 q2 => fg_noE (g0.1.symm.trans h34t) q1 q2)
              · omega
            · refine fk_iconst (v := nI 0) d_Mi_findPairs_45 (by decide +kernel) ?_
              refine fk_top (fn_rf (b := false) (by first | assumption | (simp; omega) | simp_all | (simp_all; omega))) ?_
              have hpp : (false = true → fg_P fl 16384 pr9_39 pi9_39 po9_39) ∧ (false = false → 14 < (fg_L fl 16384).length) := ⟨fun q => absurd (show false = true from q) (by decide), fun _ => hq39.2 h42f⟩
              exact hret (0, 0) _ 46 _ (false, pr9_39, ef9_2, st9_2, pi9_39, po9_39) d_Mi_findPairs_46 (hpp) (rfl)
  refine L12 _ _ _ _ _ ?_ ?_ ?_ (Nat.lt_succ_self _)
  · first | omega | assumption | exact Nat.zero_le _
  · first | omega | assumption | exact Nat.zero_le _
  · refine fg_P_skip (n := 0) ⟨rfl, by decide, fun k hk => absurd hk (Nat.not_lt_zero k)⟩ (by omega) (fun i _ hi => ?_)
    rw [show i = 128 * 0 + i by omega, fg_Q_eq (by omega)]
    unfold fg_C
    simp
theorem d_Mi_writeNet_0 : decode prog_3_method_3_code 0 = .ok (.aload_n 2, 1) := by decide +kernel
theorem d_Mi_writeNet_1 : decode prog_3_method_3_code 1 = .ok (.invokevirtual 37, 3) := by decide +kernel
theorem d_Mi_writeNet_4 : decode prog_3_method_3_code 4 = .ok (.iconst 0, 1) := by decide +kernel
theorem d_Mi_writeNet_5 : decode prog_3_method_3_code 5 = .ok (.istore_n 3, 1) := by decide +kernel
theorem d_Mi_writeNet_6 : decode prog_3_method_3_code 6 = .ok (.iload_n 3, 1) := by decide +kernel
theorem d_Mi_writeNet_7 : decode prog_3_method_3_code 7 = .ok (.aload_n 0, 1) := by decide +kernel
theorem d_Mi_writeNet_8 : decode prog_3_method_3_code 8 = .ok (.getfield 25, 3) := by decide +kernel
theorem d_Mi_writeNet_11 : decode prog_3_method_3_code 11 = .ok (.if_icmp .ge 26, 3) := by decide +kernel
theorem d_Mi_writeNet_14 : decode prog_3_method_3_code 14 = .ok (.aload_n 2, 1) := by decide +kernel
theorem d_Mi_writeNet_15 : decode prog_3_method_3_code 15 = .ok (.aload_n 0, 1) := by decide +kernel
theorem d_Mi_writeNet_16 : decode prog_3_method_3_code 16 = .ok (.getfield 19, 3) := by decide +kernel
theorem d_Mi_writeNet_19 : decode prog_3_method_3_code 19 = .ok (.iload_n 3, 1) := by decide +kernel
theorem d_Mi_writeNet_20 : decode prog_3_method_3_code 20 = .ok (.iaload, 1) := by decide +kernel
theorem d_Mi_writeNet_21 : decode prog_3_method_3_code 21 = .ok (.aload_n 0, 1) := by decide +kernel
theorem d_Mi_writeNet_22 : decode prog_3_method_3_code 22 = .ok (.getfield 22, 3) := by decide +kernel
theorem d_Mi_writeNet_25 : decode prog_3_method_3_code 25 = .ok (.iload_n 3, 1) := by decide +kernel
theorem d_Mi_writeNet_26 : decode prog_3_method_3_code 26 = .ok (.iaload, 1) := by decide +kernel
theorem d_Mi_writeNet_27 : decode prog_3_method_3_code 27 = .ok (.invokevirtual 42, 3) := by decide +kernel
theorem d_Mi_writeNet_30 : decode prog_3_method_3_code 30 = .ok (.pop, 1) := by decide +kernel
theorem d_Mi_writeNet_31 : decode prog_3_method_3_code 31 = .ok (.iinc 3 1, 3) := by decide +kernel
theorem d_Mi_writeNet_34 : decode prog_3_method_3_code 34 = .ok (.goto (-28), 3) := by decide +kernel
theorem d_Mi_writeNet_37 : decode prog_3_method_3_code 37 = .ok (.aload_n 2, 1) := by decide +kernel
theorem d_Mi_writeNet_38 : decode prog_3_method_3_code 38 = .ok (.aload_n 1, 1) := by decide +kernel
theorem d_Mi_writeNet_39 : decode prog_3_method_3_code 39 = .ok (.invokevirtual 46, 3) := by decide +kernel
theorem d_Mi_writeNet_42 : decode prog_3_method_3_code 42 = .ok (.aload_n 1, 1) := by decide +kernel
theorem d_Mi_writeNet_43 : decode prog_3_method_3_code 43 = .ok (.invokevirtual 52, 3) := by decide +kernel
theorem d_Mi_writeNet_46 : decode prog_3_method_3_code 46 = .ok (.invokevirtual 55, 3) := by decide +kernel
theorem d_Mi_writeNet_49 : decode prog_3_method_3_code 49 = .ok (.aload_n 2, 1) := by decide +kernel
theorem d_Mi_writeNet_50 : decode prog_3_method_3_code 50 = .ok (.aload_n 1, 1) := by decide +kernel
theorem d_Mi_writeNet_51 : decode prog_3_method_3_code 51 = .ok (.invokevirtual 59, 3) := by decide +kernel
theorem d_Mi_writeNet_54 : decode prog_3_method_3_code 54 = .ok (.invokevirtual 62, 3) := by decide +kernel
theorem d_Mi_writeNet_57 : decode prog_3_method_3_code 57 = .ok (.return_, 1) := by decide +kernel
set_option maxRecDepth 20000 in
set_option maxHeartbeats 4000000 in
theorem cM_writeNet (E : fk_E) (i0 : Nat) (i1 : Nat) (i2 : Nat) (i3 : Nat) (i4 : Nat) (pr : Nat) (a0 : Nat) (a1 : Nat) (a2 : Nat) (a3 : Nat) (tr : Nat) (n0 : Nat) (n1 : Nat) (n2 : Nat) (n3 : Nat) (n4 : Nat) (cnt : Nat) (fi : Nat) (la : Nat) (lo : Nat) (me : Nat) (pin : Nat → Nat) (pou : Nat → Nat) (len : Nat → Nat) (ev : Nat → Nat) (ins : Nat → Nat) (outs : Nat → Nat) (tk : Nat → Nat) (pu : Nat → Nat) (hp : pr ≤ 14) (hq : ∀ k, k < pr → pin k < 128 ∧ pou k < 128) (ht : tr ≤ 20) (hl : ∀ t, t < tr → len t ≤ 15) (he : ∀ t, t < tr → ∀ i, i < len t → ev (15 * t + i) < 7) : fk_C E fy_Mi_writeNet prog_3_method_3_code 4 none 5 0 0 [.ref i0, .ref a0, .ref n0] [(i0, .inr (3, [.ref i1, .ref i2, .ref i3, .ref i4, .int (nI pr)])), fk_ai E i3 14 pin, fk_ai E i4 14 pou, (a0, .inr (1, [.ref a1, .ref a2, .ref a3, .int (nI tr)])), fk_ai E a1 20 len, fk_ai E a2 300 ev, (n0, .inr (2, [.ref n1, .ref n2, .ref n3, .ref n4, .int (nI cnt), .int (nI fi), .int (nI la), .int (nI lo), .int (nI me)])), fk_ai E n1 14 ins, fk_ai E n2 14 outs, fk_al E n3 7 tk, fk_al E n4 7 pu] (S := (Nat → Nat) × (Nat → Nat) × (Nat → Nat) × (Nat → Nat)) (fun (u : (Nat → Nat) × (Nat → Nat) × (Nat → Nat) × (Nat → Nat)) => none) (fun (u : (Nat → Nat) × (Nat → Nat) × (Nat → Nat) × (Nat → Nat)) => (∀ z, z < pr → u.1 z = pin z ∧ u.2.1 z = pou z) ∧ ∀ z, z < 7 → u.2.2.1 z = fm_mk (fs_tak (fs_O pr u.2.1 (fs_set (fg_be tr len ev) 7)) z) ∧ u.2.2.2 z = fm_mk (fs_tak (fs_I pr u.1 (fs_set (fg_nd tr len ev) 7)) z)) (fun (u : (Nat → Nat) × (Nat → Nat) × (Nat → Nat) × (Nat → Nat)) => [(i0, .inr (3, [.ref i1, .ref i2, .ref i3, .ref i4, .int (nI pr)])), fk_ai E i3 14 pin, fk_ai E i4 14 pou, (a0, .inr (1, [.ref a1, .ref a2, .ref a3, .int (nI tr)])), fk_ai E a1 20 len, fk_ai E a2 300 ev, (n0, .inr (2, [.ref n1, .ref n2, .ref n3, .ref n4, .int (nI pr), .int (nI (fs_set (fg_be tr len ev) 7)), .int (nI (fs_set (fg_nd tr len ev) 7)), .int (nI (fs_set (fg_oc tr len ev) 7)), .int (nI (fs_mem (fs_set (fg_oc tr len ev) 7) (fs_set (fg_be tr len ev) 7) (fs_set (fg_nd tr len ev) 7) u.1 u.2.1 pr))])), fk_ai E n1 14 u.1, fk_ai E n2 14 u.2.1, fk_al E n3 7 u.2.2.1, fk_al E n4 7 u.2.2.2]) := by
  refine fk_enterV (by decide) (Nat.le_of_ble_eq_true rfl) (lv0 := [(0, .ref i0), (1, .ref a0), (2, .ref n0)]) rfl ?_
  intro K hini hret
  refine fk_aload_n 2 d_Mi_writeNet_0 rfl ?_
  refine fk_callV (q0 := 6) (As := []) (rest := []) (is := [6, 7, 8, 9, 10]) (ir := [0, 1, 2, 3, 4, 5]) (ip := [0, 1, 2, 3, 4, 5, 6, 7, 8, 9, 10]) (wc := [(n0, .inr (2, [.ref n1, .ref n2, .ref n3, .ref n4, .int (nI cnt), .int (nI fi), .int (nI la), .int (nI lo), .int (nI me)])), fk_ai E n1 14 ins, fk_ai E n2 14 outs, fk_al E n3 7 tk, fk_al E n4 7 pu]) (wr := [(i0, .inr (3, [.ref i1, .ref i2, .ref i3, .ref i4, .int (nI pr)])), fk_ai E i3 14 pin, fk_ai E i4 14 pou, (a0, .inr (1, [.ref a1, .ref a2, .ref a3, .int (nI tr)])), fk_ai E a1 20 len, fk_ai E a2 300 ev]) (w2 := fun u => [(i0, .inr (3, [.ref i1, .ref i2, .ref i3, .ref i4, .int (nI pr)])), fk_ai E i3 14 pin, fk_ai E i4 14 pou, (a0, .inr (1, [.ref a1, .ref a2, .ref a3, .int (nI tr)])), fk_ai E a1 20 len, fk_ai E a2 300 ev, (n0, .inr (2, [.ref n1, .ref n2, .ref n3, .ref n4, .int (nI 0), .int (nI 0), .int (nI 0), .int (nI 0), .int (nI 0)])), fk_ai E n1 14 ins, fk_ai E n2 14 outs, fk_al E n3 7 u.1, fk_al E n4 7 u.2]) (cN_removeAll E n0 n1 n2 n3 n4 cnt fi la lo me ins outs tk pu ) d_Mi_writeNet_1 fz_Nt_removeAll fw_260 rfl rfl fw_261 fw_262 ⟨Nat.le_of_ble_eq_true rfl, Nat.le_of_ble_eq_true rfl⟩ rfl (Nat.le_of_ble_eq_true rfl) ⟨Nat.zero_le _, Nat.zero_le _⟩ ⟨rfl, rfl, rfl, rfl, by decide, fun _ => rfl, rfl⟩ (fun u hu1 => ?_)
  obtain ⟨tk9_1, pu9_1⟩ := u
  have hq1 : ∀ a, a < 7 → tk9_1 a = fm_mk (fs_tak (fs_O 0 outs 0) a) ∧ pu9_1 a = fm_mk (fs_tak (fs_I 0 ins 0) a) := hu1
  show fk_V E _ K (0, 0) [(i0, .inr (3, [.ref i1, .ref i2, .ref i3, .ref i4, .int (nI pr)])), fk_ai E i3 14 pin, fk_ai E i4 14 pou, (a0, .inr (1, [.ref a1, .ref a2, .ref a3, .int (nI tr)])), fk_ai E a1 20 len, fk_ai E a2 300 ev, (n0, .inr (2, [.ref n1, .ref n2, .ref n3, .ref n4, .int (nI 0), .int (nI 0), .int (nI 0), .int (nI 0), .int (nI 0)])), fk_ai E n1 14 ins, fk_ai E n2 14 outs, fk_al E n3 7 tk9_1, fk_al E n4 7 pu9_1] 4 [(0, .ref i0), (1, .ref a0), (2, .ref n0)] []
  refine fk_iconst (v := nI 0) d_Mi_writeNet_4 (by decide +kernel) ?_
  refine fk_istore_n (lv' := [(0, .ref i0), (1, .ref a0), (2, .ref n0), (3, .int (nI 0))]) d_Mi_writeNet_5 rfl (Nat.le_of_ble_eq_true rfl) [1, 2, 3, 0] rfl ?_
  have L6 : ∀ (fuel : Nat) (k : Nat) (m1 : Nat) (in1 : Nat → Nat) (ou1 : Nat → Nat) (tk1 : Nat → Nat) (pu1 : Nat → Nat), (k ≤ pr) → (∀ z, z < k → in1 z = pin z ∧ ou1 z = pou z) → pr - k < fuel → fk_V E (prog_3_method_3_code, fy_Mi_writeNet.cls, 4, fk_rm 5 0 0) K (0, 0) [(i0, .inr (3, [.ref i1, .ref i2, .ref i3, .ref i4, .int (nI pr)])), fk_ai E i3 14 pin, fk_ai E i4 14 pou, (a0, .inr (1, [.ref a1, .ref a2, .ref a3, .int (nI tr)])), fk_ai E a1 20 len, fk_ai E a2 300 ev, (n0, .inr (2, [.ref n1, .ref n2, .ref n3, .ref n4, .int (nI k), .int (nI 0), .int (nI 0), .int (nI 0), .int (nI m1)])), fk_ai E n1 14 in1, fk_ai E n2 14 ou1, fk_al E n3 7 tk1, fk_al E n4 7 pu1] 6 [(0, .ref i0), (1, .ref a0), (2, .ref n0), (3, .int (nI k))] [] := by
    intro fuel
    induction fuel with
    | zero => intro k m1 in1 ou1 tk1 pu1 _ _ hm; exact absurd hm (Nat.not_lt_zero _)
    | succ fuel ih =>
      intro k m1 in1 ou1 tk1 pu1 h1 h2 hm6
      have ih6 := ih
      clear ih
      refine fk_iload_n 3 d_Mi_writeNet_6 rfl ?_
      refine fk_aload_n 0 d_Mi_writeNet_7 rfl ?_
      refine fk_get 0 4 rfl rfl fh_Mi (Nat.le_of_ble_eq_true rfl) fw_83 rfl d_Mi_writeNet_8 ?_
      refine fk_icmp_ge (a := k) (b := pr) (by omega) (by omega) d_Mi_writeNet_11 rfl (fun h11t => ?_) (fun h11f => ?_)
      · have e9 : pr = k := by omega
        subst e9
        have g1 : ∀ j, j < pr → in1 j < 128 ∧ ou1 j < 128 := fun j hj => by rw [(h2 j hj).1, (h2 j hj).2]; exact hq j hj
        have g2 := fs_set_lt (fg_be tr len ev) (show 7 ≤ 7 by decide)
        have g3 := fs_set_lt (fg_nd tr len ev) (show 7 ≤ 7 by decide)
        have g4 := fs_set_lt (fg_oc tr len ev) (show 7 ≤ 7 by decide)
        refine fk_aload_n 2 d_Mi_writeNet_37 rfl ?_
        refine fk_aload_n 1 d_Mi_writeNet_38 rfl ?_
        refine fk_callV (q0 := 3) (As := []) (rest := [.ref n0]) (is := [3, 4, 5]) (ir := [0, 1, 2, 6, 7, 8, 9, 10]) (ip := [0, 1, 2, 8, 9, 10, 3, 4, 5, 6, 7]) (wc := [(a0, .inr (1, [.ref a1, .ref a2, .ref a3, .int (nI tr)])), fk_ai E a1 20 len, fk_ai E a2 300 ev]) (wr := [(i0, .inr (3, [.ref i1, .ref i2, .ref i3, .ref i4, .int (nI pr)])), fk_ai E i3 14 pin, fk_ai E i4 14 pou, (n0, .inr (2, [.ref n1, .ref n2, .ref n3, .ref n4, .int (nI pr), .int (nI 0), .int (nI 0), .int (nI 0), .int (nI m1)])), fk_ai E n1 14 in1, fk_ai E n2 14 ou1, fk_al E n3 7 tk1, fk_al E n4 7 pu1]) (w2 := fun _ => [(i0, .inr (3, [.ref i1, .ref i2, .ref i3, .ref i4, .int (nI pr)])), fk_ai E i3 14 pin, fk_ai E i4 14 pou, (a0, .inr (1, [.ref a1, .ref a2, .ref a3, .int (nI tr)])), fk_ai E a1 20 len, fk_ai E a2 300 ev, (n0, .inr (2, [.ref n1, .ref n2, .ref n3, .ref n4, .int (nI pr), .int (nI 0), .int (nI 0), .int (nI 0), .int (nI m1)])), fk_ai E n1 14 in1, fk_ai E n2 14 ou1, fk_al E n3 7 tk1, fk_al E n4 7 pu1]) (cL_beginners E a0 a1 a2 a3 tr len ev (by first | omega | assumption) (by first | omega | assumption) (by first | omega | assumption)) d_Mi_writeNet_39 fz_Lg_beginners fw_285 rfl rfl fw_286 fw_287 ⟨Nat.le_of_ble_eq_true rfl, Nat.le_of_ble_eq_true rfl⟩ rfl (Nat.le_of_ble_eq_true rfl) ⟨Nat.zero_le _, Nat.zero_le _⟩ ⟨rfl, rfl, rfl, rfl, by decide, fun _ => rfl, rfl⟩ (fun u hu39 => ?_)
        show fk_V E _ K (0, 0) [(i0, .inr (3, [.ref i1, .ref i2, .ref i3, .ref i4, .int (nI pr)])), fk_ai E i3 14 pin, fk_ai E i4 14 pou, (a0, .inr (1, [.ref a1, .ref a2, .ref a3, .int (nI tr)])), fk_ai E a1 20 len, fk_ai E a2 300 ev, (n0, .inr (2, [.ref n1, .ref n2, .ref n3, .ref n4, .int (nI pr), .int (nI 0), .int (nI 0), .int (nI 0), .int (nI m1)])), fk_ai E n1 14 in1, fk_ai E n2 14 ou1, fk_al E n3 7 tk1, fk_al E n4 7 pu1] 42 [(0, .ref i0), (1, .ref a0), (2, .ref n0), (3, .int (nI pr))] [.int (nI (fs_set (fg_be tr len ev) 7)), .ref n0]
        refine fk_aload_n 1 d_Mi_writeNet_42 rfl ?_
        refine fk_callV (q0 := 3) (As := []) (rest := [.int (nI (fs_set (fg_be tr len ev) 7)), .ref n0]) (is := [3, 4, 5]) (ir := [0, 1, 2, 6, 7, 8, 9, 10]) (ip := [0, 1, 2, 8, 9, 10, 3, 4, 5, 6, 7]) (wc := [(a0, .inr (1, [.ref a1, .ref a2, .ref a3, .int (nI tr)])), fk_ai E a1 20 len, fk_ai E a2 300 ev]) (wr := [(i0, .inr (3, [.ref i1, .ref i2, .ref i3, .ref i4, .int (nI pr)])), fk_ai E i3 14 pin, fk_ai E i4 14 pou, (n0, .inr (2, [.ref n1, .ref n2, .ref n3, .ref n4, .int (nI pr), .int (nI 0), .int (nI 0), .int (nI 0), .int (nI m1)])), fk_ai E n1 14 in1, fk_ai E n2 14 ou1, fk_al E n3 7 tk1, fk_al E n4 7 pu1]) (w2 := fun _ => [(i0, .inr (3, [.ref i1, .ref i2, .ref i3, .ref i4, .int (nI pr)])), fk_ai E i3 14 pin, fk_ai E i4 14 pou, (a0, .inr (1, [.ref a1, .ref a2, .ref a3, .int (nI tr)])), fk_ai E a1 20 len, fk_ai E a2 300 ev, (n0, .inr (2, [.ref n1, .ref n2, .ref n3, .ref n4, .int (nI pr), .int (nI 0), .int (nI 0), .int (nI 0), .int (nI m1)])), fk_ai E n1 14 in1, fk_ai E n2 14 ou1, fk_al E n3 7 tk1, fk_al E n4 7 pu1]) (cL_enders E a0 a1 a2 a3 tr len ev (by first | omega | assumption) (by first | omega | assumption) (by first | omega | assumption)) d_Mi_writeNet_43 fz_Lg_enders fw_289 rfl rfl fw_290 fw_291 ⟨Nat.le_of_ble_eq_true rfl, Nat.le_of_ble_eq_true rfl⟩ rfl (Nat.le_of_ble_eq_true rfl) ⟨Nat.zero_le _, Nat.zero_le _⟩ ⟨rfl, rfl, rfl, rfl, by decide, fun _ => rfl, rfl⟩ (fun u hu43 => ?_)
        show fk_V E _ K (0, 0) [(i0, .inr (3, [.ref i1, .ref i2, .ref i3, .ref i4, .int (nI pr)])), fk_ai E i3 14 pin, fk_ai E i4 14 pou, (a0, .inr (1, [.ref a1, .ref a2, .ref a3, .int (nI tr)])), fk_ai E a1 20 len, fk_ai E a2 300 ev, (n0, .inr (2, [.ref n1, .ref n2, .ref n3, .ref n4, .int (nI pr), .int (nI 0), .int (nI 0), .int (nI 0), .int (nI m1)])), fk_ai E n1 14 in1, fk_ai E n2 14 ou1, fk_al E n3 7 tk1, fk_al E n4 7 pu1] 46 [(0, .ref i0), (1, .ref a0), (2, .ref n0), (3, .int (nI pr))] [.int (nI (fs_set (fg_nd tr len ev) 7)), .int (nI (fs_set (fg_be tr len ev) 7)), .ref n0]
        refine fk_callV (q0 := 6) (As := [.int (nI (fs_set (fg_be tr len ev) 7)), .int (nI (fs_set (fg_nd tr len ev) 7))]) (rest := []) (is := [6, 7, 8, 9, 10]) (ir := [0, 1, 2, 3, 4, 5]) (ip := [0, 1, 2, 3, 4, 5, 6, 7, 8, 9, 10]) (wc := [(n0, .inr (2, [.ref n1, .ref n2, .ref n3, .ref n4, .int (nI pr), .int (nI 0), .int (nI 0), .int (nI 0), .int (nI m1)])), fk_ai E n1 14 in1, fk_ai E n2 14 ou1, fk_al E n3 7 tk1, fk_al E n4 7 pu1]) (wr := [(i0, .inr (3, [.ref i1, .ref i2, .ref i3, .ref i4, .int (nI pr)])), fk_ai E i3 14 pin, fk_ai E i4 14 pou, (a0, .inr (1, [.ref a1, .ref a2, .ref a3, .int (nI tr)])), fk_ai E a1 20 len, fk_ai E a2 300 ev]) (w2 := fun u => [(i0, .inr (3, [.ref i1, .ref i2, .ref i3, .ref i4, .int (nI pr)])), fk_ai E i3 14 pin, fk_ai E i4 14 pou, (a0, .inr (1, [.ref a1, .ref a2, .ref a3, .int (nI tr)])), fk_ai E a1 20 len, fk_ai E a2 300 ev, (n0, .inr (2, [.ref n1, .ref n2, .ref n3, .ref n4, .int (nI pr), .int (nI (fs_set (fg_be tr len ev) 7)), .int (nI (fs_set (fg_nd tr len ev) 7)), .int (nI 0), .int (nI (fs_mem 0 (fs_set (fg_be tr len ev) 7) (fs_set (fg_nd tr len ev) 7) in1 ou1 pr))])), fk_ai E n1 14 in1, fk_ai E n2 14 ou1, fk_al E n3 7 u.1, fk_al E n4 7 u.2]) (cN_setEnds E n0 n1 n2 n3 n4 pr 0 0 0 m1 in1 ou1 tk1 pu1 (fs_set (fg_be tr len ev) 7) (fs_set (fg_nd tr len ev) 7) (by first | omega | assumption) g1 (by first | omega | assumption) (by first | omega | assumption) (by decide)) d_Mi_writeNet_46 fz_Nt_setEnds fw_293 rfl rfl fw_265 fw_266 ⟨Nat.le_of_ble_eq_true rfl, Nat.le_of_ble_eq_true rfl⟩ rfl (Nat.le_of_ble_eq_true rfl) ⟨Nat.zero_le _, Nat.zero_le _⟩ ⟨rfl, rfl, rfl, rfl, by decide, fun _ => rfl, rfl⟩ (fun u hu46 => ?_)
        obtain ⟨tk9_46, pu9_46⟩ := u
        have hq46 : ∀ a, a < 7 → tk9_46 a = fm_mk (fs_tak (fs_O pr ou1 (fs_set (fg_be tr len ev) 7)) a) ∧ pu9_46 a = fm_mk (fs_tak (fs_I pr in1 (fs_set (fg_nd tr len ev) 7)) a) := hu46
        show fk_V E _ K (0, 0) [(i0, .inr (3, [.ref i1, .ref i2, .ref i3, .ref i4, .int (nI pr)])), fk_ai E i3 14 pin, fk_ai E i4 14 pou, (a0, .inr (1, [.ref a1, .ref a2, .ref a3, .int (nI tr)])), fk_ai E a1 20 len, fk_ai E a2 300 ev, (n0, .inr (2, [.ref n1, .ref n2, .ref n3, .ref n4, .int (nI pr), .int (nI (fs_set (fg_be tr len ev) 7)), .int (nI (fs_set (fg_nd tr len ev) 7)), .int (nI 0), .int (nI (fs_mem 0 (fs_set (fg_be tr len ev) 7) (fs_set (fg_nd tr len ev) 7) in1 ou1 pr))])), fk_ai E n1 14 in1, fk_ai E n2 14 ou1, fk_al E n3 7 tk9_46, fk_al E n4 7 pu9_46] 49 [(0, .ref i0), (1, .ref a0), (2, .ref n0), (3, .int (nI pr))] []
        refine fk_aload_n 2 d_Mi_writeNet_49 rfl ?_
        refine fk_aload_n 1 d_Mi_writeNet_50 rfl ?_
        refine fk_callV (q0 := 3) (As := []) (rest := [.ref n0]) (is := [3, 4, 5]) (ir := [0, 1, 2, 6, 7, 8, 9, 10]) (ip := [0, 1, 2, 8, 9, 10, 3, 4, 5, 6, 7]) (wc := [(a0, .inr (1, [.ref a1, .ref a2, .ref a3, .int (nI tr)])), fk_ai E a1 20 len, fk_ai E a2 300 ev]) (wr := [(i0, .inr (3, [.ref i1, .ref i2, .ref i3, .ref i4, .int (nI pr)])), fk_ai E i3 14 pin, fk_ai E i4 14 pou, (n0, .inr (2, [.ref n1, .ref n2, .ref n3, .ref n4, .int (nI pr), .int (nI (fs_set (fg_be tr len ev) 7)), .int (nI (fs_set (fg_nd tr len ev) 7)), .int (nI 0), .int (nI (fs_mem 0 (fs_set (fg_be tr len ev) 7) (fs_set (fg_nd tr len ev) 7) in1 ou1 pr))])), fk_ai E n1 14 in1, fk_ai E n2 14 ou1, fk_al E n3 7 tk9_46, fk_al E n4 7 pu9_46]) (w2 := fun _ => [(i0, .inr (3, [.ref i1, .ref i2, .ref i3, .ref i4, .int (nI pr)])), fk_ai E i3 14 pin, fk_ai E i4 14 pou, (a0, .inr (1, [.ref a1, .ref a2, .ref a3, .int (nI tr)])), fk_ai E a1 20 len, fk_ai E a2 300 ev, (n0, .inr (2, [.ref n1, .ref n2, .ref n3, .ref n4, .int (nI pr), .int (nI (fs_set (fg_be tr len ev) 7)), .int (nI (fs_set (fg_nd tr len ev) 7)), .int (nI 0), .int (nI (fs_mem 0 (fs_set (fg_be tr len ev) 7) (fs_set (fg_nd tr len ev) 7) in1 ou1 pr))])), fk_ai E n1 14 in1, fk_ai E n2 14 ou1, fk_al E n3 7 tk9_46, fk_al E n4 7 pu9_46]) (cL_occurring E a0 a1 a2 a3 tr len ev (by first | omega | assumption) (by first | omega | assumption) (by first | omega | assumption)) d_Mi_writeNet_51 fz_Lg_occurring fw_294 rfl rfl fw_295 fw_296 ⟨Nat.le_of_ble_eq_true rfl, Nat.le_of_ble_eq_true rfl⟩ rfl (Nat.le_of_ble_eq_true rfl) ⟨Nat.zero_le _, Nat.zero_le _⟩ ⟨rfl, rfl, rfl, rfl, by decide, fun _ => rfl, rfl⟩ (fun u hu51 => ?_)
        show fk_V E _ K (0, 0) [(i0, .inr (3, [.ref i1, .ref i2, .ref i3, .ref i4, .int (nI pr)])), fk_ai E i3 14 pin, fk_ai E i4 14 pou, (a0, .inr (1, [.ref a1, .ref a2, .ref a3, .int (nI tr)])), fk_ai E a1 20 len, fk_ai E a2 300 ev, (n0, .inr (2, [.ref n1, .ref n2, .ref n3, .ref n4, .int (nI pr), .int (nI (fs_set (fg_be tr len ev) 7)), .int (nI (fs_set (fg_nd tr len ev) 7)), .int (nI 0), .int (nI (fs_mem 0 (fs_set (fg_be tr len ev) 7) (fs_set (fg_nd tr len ev) 7) in1 ou1 pr))])), fk_ai E n1 14 in1, fk_ai E n2 14 ou1, fk_al E n3 7 tk9_46, fk_al E n4 7 pu9_46] 54 [(0, .ref i0), (1, .ref a0), (2, .ref n0), (3, .int (nI pr))] [.int (nI (fs_set (fg_oc tr len ev) 7)), .ref n0]
        refine fk_callV (q0 := 6) (As := [.int (nI (fs_set (fg_oc tr len ev) 7))]) (rest := []) (is := [6, 7, 8, 9, 10]) (ir := [0, 1, 2, 3, 4, 5]) (ip := [0, 1, 2, 3, 4, 5, 6, 7, 8, 9, 10]) (wc := [(n0, .inr (2, [.ref n1, .ref n2, .ref n3, .ref n4, .int (nI pr), .int (nI (fs_set (fg_be tr len ev) 7)), .int (nI (fs_set (fg_nd tr len ev) 7)), .int (nI 0), .int (nI (fs_mem 0 (fs_set (fg_be tr len ev) 7) (fs_set (fg_nd tr len ev) 7) in1 ou1 pr))])), fk_ai E n1 14 in1, fk_ai E n2 14 ou1, fk_al E n3 7 tk9_46, fk_al E n4 7 pu9_46]) (wr := [(i0, .inr (3, [.ref i1, .ref i2, .ref i3, .ref i4, .int (nI pr)])), fk_ai E i3 14 pin, fk_ai E i4 14 pou, (a0, .inr (1, [.ref a1, .ref a2, .ref a3, .int (nI tr)])), fk_ai E a1 20 len, fk_ai E a2 300 ev]) (w2 := fun u => [(i0, .inr (3, [.ref i1, .ref i2, .ref i3, .ref i4, .int (nI pr)])), fk_ai E i3 14 pin, fk_ai E i4 14 pou, (a0, .inr (1, [.ref a1, .ref a2, .ref a3, .int (nI tr)])), fk_ai E a1 20 len, fk_ai E a2 300 ev, (n0, .inr (2, [.ref n1, .ref n2, .ref n3, .ref n4, .int (nI pr), .int (nI (fs_set (fg_be tr len ev) 7)), .int (nI (fs_set (fg_nd tr len ev) 7)), .int (nI (fs_set (fg_oc tr len ev) 7)), .int (nI (fs_mem (fs_set (fg_oc tr len ev) 7) (fs_set (fg_be tr len ev) 7) (fs_set (fg_nd tr len ev) 7) in1 ou1 pr))])), fk_ai E n1 14 in1, fk_ai E n2 14 ou1, fk_al E n3 7 u.1, fk_al E n4 7 u.2]) (cN_setLoose E n0 n1 n2 n3 n4 pr (fs_set (fg_be tr len ev) 7) (fs_set (fg_nd tr len ev) 7) 0 (fs_mem 0 (fs_set (fg_be tr len ev) 7) (fs_set (fg_nd tr len ev) 7) in1 ou1 pr) in1 ou1 tk9_46 pu9_46 (fs_set (fg_oc tr len ev) 7) (by first | omega | assumption) g1 (by first | omega | assumption) (by first | omega | assumption) (by first | omega | assumption)) d_Mi_writeNet_54 fz_Nt_setLoose fw_298 rfl rfl fw_299 fw_300 ⟨Nat.le_of_ble_eq_true rfl, Nat.le_of_ble_eq_true rfl⟩ rfl (Nat.le_of_ble_eq_true rfl) ⟨Nat.zero_le _, Nat.zero_le _⟩ ⟨rfl, rfl, rfl, rfl, by decide, fun _ => rfl, rfl⟩ (fun u hu54 => ?_)
        obtain ⟨tk9_54, pu9_54⟩ := u
        have hq54 : ∀ a, a < 7 → tk9_54 a = fm_mk (fs_tak (fs_O pr ou1 (fs_set (fg_be tr len ev) 7)) a) ∧ pu9_54 a = fm_mk (fs_tak (fs_I pr in1 (fs_set (fg_nd tr len ev) 7)) a) := hu54
        show fk_V E _ K (0, 0) [(i0, .inr (3, [.ref i1, .ref i2, .ref i3, .ref i4, .int (nI pr)])), fk_ai E i3 14 pin, fk_ai E i4 14 pou, (a0, .inr (1, [.ref a1, .ref a2, .ref a3, .int (nI tr)])), fk_ai E a1 20 len, fk_ai E a2 300 ev, (n0, .inr (2, [.ref n1, .ref n2, .ref n3, .ref n4, .int (nI pr), .int (nI (fs_set (fg_be tr len ev) 7)), .int (nI (fs_set (fg_nd tr len ev) 7)), .int (nI (fs_set (fg_oc tr len ev) 7)), .int (nI (fs_mem (fs_set (fg_oc tr len ev) 7) (fs_set (fg_be tr len ev) 7) (fs_set (fg_nd tr len ev) 7) in1 ou1 pr))])), fk_ai E n1 14 in1, fk_ai E n2 14 ou1, fk_al E n3 7 tk9_54, fk_al E n4 7 pu9_54] 57 [(0, .ref i0), (1, .ref a0), (2, .ref n0), (3, .int (nI pr))] []
        have hpp : (∀ z, z < pr → in1 z = pin z ∧ ou1 z = pou z) ∧ ∀ z, z < 7 → tk9_54 z = fm_mk (fs_tak (fs_O pr ou1 (fs_set (fg_be tr len ev) 7)) z) ∧ pu9_54 z = fm_mk (fs_tak (fs_I pr in1 (fs_set (fg_nd tr len ev) 7)) z) := ⟨h2, hq54⟩
        exact hret (0, 0) _ 57 _ (in1, ou1, tk9_54, pu9_54) d_Mi_writeNet_57 (hpp) (rfl)
      · have g0 := hq k h11f
        refine fk_aload_n 2 d_Mi_writeNet_14 rfl ?_
        refine fk_aload_n 0 d_Mi_writeNet_15 rfl ?_
        refine fk_get 0 2 rfl rfl fh_Mi (Nat.le_of_ble_eq_true rfl) fw_81 rfl d_Mi_writeNet_16 ?_
        refine fk_iload_n 3 d_Mi_writeNet_19 rfl ?_
        refine fk_ld_ai (i := k) 1 rfl (by omega) (by decide) d_Mi_writeNet_20 ?_
        refine fk_aload_n 0 d_Mi_writeNet_21 rfl ?_
        refine fk_get 0 3 rfl rfl fh_Mi (Nat.le_of_ble_eq_true rfl) fw_82 rfl d_Mi_writeNet_22 ?_
        refine fk_iload_n 3 d_Mi_writeNet_25 rfl ?_
        refine fk_ld_ai (i := k) 2 rfl (by omega) (by decide) d_Mi_writeNet_26 ?_
        refine fk_callV (q0 := 6) (As := [.int (nI (pin k)), .int (nI (pou k))]) (rest := []) (is := [6, 7, 8, 9, 10]) (ir := [0, 1, 2, 3, 4, 5]) (ip := [0, 1, 2, 3, 4, 5, 6, 7, 8, 9, 10]) (wc := [(n0, .inr (2, [.ref n1, .ref n2, .ref n3, .ref n4, .int (nI k), .int (nI 0), .int (nI 0), .int (nI 0), .int (nI m1)])), fk_ai E n1 14 in1, fk_ai E n2 14 ou1, fk_al E n3 7 tk1, fk_al E n4 7 pu1]) (wr := [(i0, .inr (3, [.ref i1, .ref i2, .ref i3, .ref i4, .int (nI pr)])), fk_ai E i3 14 pin, fk_ai E i4 14 pou, (a0, .inr (1, [.ref a1, .ref a2, .ref a3, .int (nI tr)])), fk_ai E a1 20 len, fk_ai E a2 300 ev]) (w2 := fun u => [(i0, .inr (3, [.ref i1, .ref i2, .ref i3, .ref i4, .int (nI pr)])), fk_ai E i3 14 pin, fk_ai E i4 14 pou, (a0, .inr (1, [.ref a1, .ref a2, .ref a3, .int (nI tr)])), fk_ai E a1 20 len, fk_ai E a2 300 ev, (n0, .inr (2, [.ref n1, .ref n2, .ref n3, .ref n4, .int (nI (k + 1)), .int (nI 0), .int (nI 0), .int (nI 0), .int (nI (fs_mem 0 0 0 (va_up in1 k (pin k)) (va_up ou1 k (pou k)) (k + 1)))])), fk_ai E n1 14 (va_up in1 k (pin k)), fk_ai E n2 14 (va_up ou1 k (pou k)), fk_al E n3 7 u.1, fk_al E n4 7 u.2]) (cN_addPlace E n0 n1 n2 n3 n4 k 0 0 0 m1 in1 ou1 tk1 pu1 (pin k) (pou k) (by first | omega | assumption) (fun j hj => by rw [(h2 j hj).1, (h2 j hj).2]; exact hq j (by omega)) (by decide) (by decide) (by decide) (by first | omega | assumption) (by first | omega | assumption)) d_Mi_writeNet_27 fz_Nt_addPlace fw_281 rfl rfl fw_282 fw_283 ⟨Nat.le_of_ble_eq_true rfl, Nat.le_of_ble_eq_true rfl⟩ rfl (Nat.le_of_ble_eq_true rfl) ⟨Nat.zero_le _, Nat.zero_le _⟩ ⟨rfl, rfl, rfl, rfl, by decide, fun _ => rfl, rfl⟩ (fun u hu27 => ?_)
        obtain ⟨tk9_27, pu9_27⟩ := u
        have hq27 : ∀ a, a < 7 → tk9_27 a = fm_mk (fs_tak (fs_O (k + 1) (va_up ou1 k (pou k)) 0) a) ∧ pu9_27 a = fm_mk (fs_tak (fs_I (k + 1) (va_up in1 k (pin k)) 0) a) := hu27
        show fk_V E _ K (0, 0) [(i0, .inr (3, [.ref i1, .ref i2, .ref i3, .ref i4, .int (nI pr)])), fk_ai E i3 14 pin, fk_ai E i4 14 pou, (a0, .inr (1, [.ref a1, .ref a2, .ref a3, .int (nI tr)])), fk_ai E a1 20 len, fk_ai E a2 300 ev, (n0, .inr (2, [.ref n1, .ref n2, .ref n3, .ref n4, .int (nI (k + 1)), .int (nI 0), .int (nI 0), .int (nI 0), .int (nI (fs_mem 0 0 0 (va_up in1 k (pin k)) (va_up ou1 k (pou k)) (k + 1)))])), fk_ai E n1 14 (va_up in1 k (pin k)), fk_ai E n2 14 (va_up ou1 k (pou k)), fk_al E n3 7 tk9_27, fk_al E n4 7 pu9_27] 30 [(0, .ref i0), (1, .ref a0), (2, .ref n0), (3, .int (nI k))] [.int (nI (Bool.toNat true))]
        refine fk_pop d_Mi_writeNet_30 rfl ?_
        refine fk_iinc (j := 3) (lv' := [(0, .ref i0), (1, .ref a0), (2, .ref n0), (3, .int (nI (k + 1)))]) (k + 1) d_Mi_writeNet_31 rfl (nI_1 k) (Nat.le_of_ble_eq_true rfl) [1, 2, 3, 0] rfl ?_
        refine fk_goto d_Mi_writeNet_34 rfl ?_
        refine ih6 _ _ _ _ _ _ ?_ ?_ ?_
        · first | omega | assumption | exact Nat.zero_le _
        · intro z hz
          rcases Nat.lt_or_ge z k with q | q
          · rw [va_up_ne _ _ (by omega), va_up_ne _ _ (by omega)]
            exact h2 z q
          · rw [show z = k by omega, va_up_self, va_up_self]
            exact ⟨rfl, rfl⟩
        · omega
  refine L6 _ _ _ _ _ _ _ ?_ ?_ (Nat.lt_succ_self _)
  · first | omega | assumption | exact Nat.zero_le _
  · exact fun z hz => absurd hz (Nat.not_lt_zero z)
