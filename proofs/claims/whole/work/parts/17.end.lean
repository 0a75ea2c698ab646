theorem d_Re_leadsToEnding_0 : decode prog_6_method_11_code 0 = .ok (.iconst 0, 1) := by decide +kernel
theorem d_Re_leadsToEnding_1 : decode prog_6_method_11_code 1 = .ok (.istore_n 2, 1) := by decide +kernel
theorem d_Re_leadsToEnding_2 : decode prog_6_method_11_code 2 = .ok (.iload_n 2, 1) := by decide +kernel
theorem d_Re_leadsToEnding_3 : decode prog_6_method_11_code 3 = .ok (.bipush 7, 2) := by decide +kernel
theorem d_Re_leadsToEnding_5 : decode prog_6_method_11_code 5 = .ok (.if_icmp .ge 37, 3) := by decide +kernel
theorem d_Re_leadsToEnding_8 : decode prog_6_method_11_code 8 = .ok (.aload_n 0, 1) := by decide +kernel
theorem d_Re_leadsToEnding_9 : decode prog_6_method_11_code 9 = .ok (.getfield 19, 3) := by decide +kernel
theorem d_Re_leadsToEnding_12 : decode prog_6_method_11_code 12 = .ok (.iload_n 1, 1) := by decide +kernel
theorem d_Re_leadsToEnding_13 : decode prog_6_method_11_code 13 = .ok (.bipush 7, 2) := by decide +kernel
theorem d_Re_leadsToEnding_15 : decode prog_6_method_11_code 15 = .ok (.imul, 1) := by decide +kernel
theorem d_Re_leadsToEnding_16 : decode prog_6_method_11_code 16 = .ok (.iload_n 2, 1) := by decide +kernel
theorem d_Re_leadsToEnding_17 : decode prog_6_method_11_code 17 = .ok (.iadd, 1) := by decide +kernel
theorem d_Re_leadsToEnding_18 : decode prog_6_method_11_code 18 = .ok (.iaload, 1) := by decide +kernel
theorem d_Re_leadsToEnding_19 : decode prog_6_method_11_code 19 = .ok (.istore_n 3, 1) := by decide +kernel
theorem d_Re_leadsToEnding_20 : decode prog_6_method_11_code 20 = .ok (.iload_n 3, 1) := by decide +kernel
theorem d_Re_leadsToEnding_21 : decode prog_6_method_11_code 21 = .ok (.iconst (-1), 1) := by decide +kernel
theorem d_Re_leadsToEnding_22 : decode prog_6_method_11_code 22 = .ok (.if_icmp .eq 14, 3) := by decide +kernel
theorem d_Re_leadsToEnding_25 : decode prog_6_method_11_code 25 = .ok (.aload_n 0, 1) := by decide +kernel
theorem d_Re_leadsToEnding_26 : decode prog_6_method_11_code 26 = .ok (.getfield 22, 3) := by decide +kernel
theorem d_Re_leadsToEnding_29 : decode prog_6_method_11_code 29 = .ok (.iload_n 3, 1) := by decide +kernel
theorem d_Re_leadsToEnding_30 : decode prog_6_method_11_code 30 = .ok (.baload, 1) := by decide +kernel
theorem d_Re_leadsToEnding_31 : decode prog_6_method_11_code 31 = .ok (.ifCond .eq 5, 3) := by decide +kernel
theorem d_Re_leadsToEnding_34 : decode prog_6_method_11_code 34 = .ok (.iconst 1, 1) := by decide +kernel
theorem d_Re_leadsToEnding_35 : decode prog_6_method_11_code 35 = .ok (.ireturn, 1) := by decide +kernel
theorem d_Re_leadsToEnding_36 : decode prog_6_method_11_code 36 = .ok (.iinc 2 1, 3) := by decide +kernel
theorem d_Re_leadsToEnding_39 : decode prog_6_method_11_code 39 = .ok (.goto (-37), 3) := by decide +kernel
theorem d_Re_leadsToEnding_42 : decode prog_6_method_11_code 42 = .ok (.iconst 0, 1) := by decide +kernel
theorem d_Re_leadsToEnding_43 : decode prog_6_method_11_code 43 = .ok (.ireturn, 1) := by decide +kernel
set_option maxRecDepth 20000 in
set_option maxHeartbeats 4000000 in
theorem cR_leadsToEnding (E : fk_E) (r0 : Nat) (r1 : Nat) (r2 : Nat) (r3 : Nat) (r4 : Nat) (c : Nat) (ev : Nat) (nx : Nat → Nat) (en : Nat → Bool) (m : Nat) (hc : c ≤ 200) (hn : ∀ j, j < 7 * c → nx j ≤ c) (hm : m < c) : fk_C E fy_Re_leadsToEnding prog_6_method_11_code 4 (some .boolean) 0 0 0 [.ref r0, .int (nI m)] [(r0, .inr (4, [.ref r1, .ref r2, .ref r3, .ref r4, .int (nI c), .int (nI ev)])), fk_aj E r3 1400 nx, fk_az E r4 200 en] (S := Unit) (fun _ => some (.int (nI (Bool.toNat (fe_ld nx en m))))) (fun _ => True) (fun _ => [(r0, .inr (4, [.ref r1, .ref r2, .ref r3, .ref r4, .int (nI c), .int (nI ev)])), fk_aj E r3 1400 nx, fk_az E r4 200 en]) := by
  refine fk_enterZ (v := fun _ => fe_ld nx en m) (by decide) (Nat.le_of_ble_eq_true rfl) (lv0 := [(0, .ref r0), (1, .int (nI m))]) rfl ?_
  intro K hini hret
  refine fk_iconst (v := nI 0) d_Re_leadsToEnding_0 (by decide +kernel) ?_
  refine fk_istore_n (lv' := [(0, .ref r0), (1, .int (nI m)), (2, .int (nI 0))]) d_Re_leadsToEnding_1 rfl (Nat.le_of_ble_eq_true rfl) [1, 2, 0] rfl ?_
  have L2 : ∀ (fuel : Nat) (a : Nat), (a ≤ 7) → (∀ j, j < a → (decide (0 < nx (7 * m + j)) && en (nx (7 * m + j) - 1)) = false) → 7 - a < fuel → fk_V E (prog_6_method_11_code, fy_Re_leadsToEnding.cls, 4, fk_rm 0 0 0) K (0, 0) [(r0, .inr (4, [.ref r1, .ref r2, .ref r3, .ref r4, .int (nI c), .int (nI ev)])), fk_aj E r3 1400 nx, fk_az E r4 200 en] 2 [(0, .ref r0), (1, .int (nI m)), (2, .int (nI a))] [] := by
    intro fuel
    induction fuel with
    | zero => intro a _ _ hm; exact absurd hm (Nat.not_lt_zero _)
    | succ fuel ih =>
      intro a h1 h2 hm2
      have ih2 := ih
      clear ih
      refine fk_iload_n 2 d_Re_leadsToEnding_2 rfl ?_
      refine fk_bipush (v := nI 7) d_Re_leadsToEnding_3 (by decide +kernel) ?_
      refine fk_icmp_ge (a := a) (b := 7) (by omega) (by omega) d_Re_leadsToEnding_5 rfl (fun h5t => ?_) (fun h5f => ?_)
      · refine fk_iconst (v := nI 0) d_Re_leadsToEnding_42 (by decide +kernel) ?_
        refine fk_top (fn_rf (b := fe_ld nx en m) (fs_any_f.mpr (fun j hj => h2 j (by omega)))) ?_
        exact hret (0, 0) _ 43 _ () d_Re_leadsToEnding_43 (trivial) (rfl)
      · have g1 := hn (7 * m + a) (by omega)
        refine fk_aload_n 0 d_Re_leadsToEnding_8 rfl ?_
        refine fk_get 0 2 rfl rfl fh_Re (Nat.le_of_ble_eq_true rfl) fw_104 rfl d_Re_leadsToEnding_9 ?_
        refine fk_iload_n 1 d_Re_leadsToEnding_12 rfl ?_
        refine fk_bipush (v := nI 7) d_Re_leadsToEnding_13 (by decide +kernel) ?_
        refine fk_imul (a := m) (b := 7) d_Re_leadsToEnding_15 ?_
        refine fk_iload_n 2 d_Re_leadsToEnding_16 rfl ?_
        refine fk_iadd (a := (m * 7)) (b := a) d_Re_leadsToEnding_17 ?_
        refine fk_top (show (nI ((m * 7) + a)) = (nI (7 * m + a)) from congrArg nI (by omega)) ?_
        refine fk_ld_aj (i := (7 * m + a)) 1 rfl (by omega) (by decide) d_Re_leadsToEnding_18 ?_
        refine fk_istore_n (lv' := [(0, .ref r0), (1, .int (nI m)), (2, .int (nI a)), (3, .int (nI (nx (7 * m + a)) - 1))]) d_Re_leadsToEnding_19 rfl (Nat.le_of_ble_eq_true rfl) [1, 2, 3, 0] rfl ?_
        refine fk_iload_n 3 d_Re_leadsToEnding_20 rfl ?_
        refine fk_iconst (v := nI 0 - 1) d_Re_leadsToEnding_21 (by decide +kernel) ?_
        refine fk_icmp_eqJ (a := (nx (7 * m + a))) (b := 0) (by omega) (by omega) d_Re_leadsToEnding_22 rfl (fun h22t => ?_) (fun h22f => ?_)
        · refine fk_iinc (j := 2) (lv' := [(0, .ref r0), (1, .int (nI m)), (2, .int (nI (a + 1))), (3, .int (nI (nx (7 * m + a)) - 1))]) (a + 1) d_Re_leadsToEnding_36 rfl (nI_1 a) (Nat.le_of_ble_eq_true rfl) [1, 2, 0, 3] rfl ?_
          refine fk_goto d_Re_leadsToEnding_39 rfl ?_
          refine fk_lv (lv' := [(0, .ref r0), (1, .int (nI m)), (2, .int (nI (a + 1)))]) [0, 1, 2] rfl ?_
          refine ih2 _ ?_ ?_ ?_
          · first | omega | assumption | exact Nat.zero_le _
          · refine fs_lt_s (f := fun j => decide (0 < nx (7 * m + j)) && en (nx (7 * m + j) - 1)) h2 ?_
            first | simp [h22t] | (show (_ && en _) = false; rw [h31t, Bool.and_false])
          · omega
        · refine fk_aload_n 0 d_Re_leadsToEnding_25 rfl ?_
          refine fk_get 0 3 rfl rfl fh_Re (Nat.le_of_ble_eq_true rfl) fw_105 rfl d_Re_leadsToEnding_26 ?_
          refine fk_iload_n 3 d_Re_leadsToEnding_29 rfl ?_
          refine fk_top (show (nI (nx (7 * m + a)) - 1) = (nI (nx (7 * m + a) - 1)) from fn_jn (by omega)) ?_
          refine fk_ld_az (i := (nx (7 * m + a) - 1)) 2 rfl (by omega) (by decide) d_Re_leadsToEnding_30 ?_
          refine fk_if_eqB (b := (en (nx (7 * m + a) - 1))) d_Re_leadsToEnding_31 rfl (fun h31t => ?_) (fun h31f => ?_)
          · refine fk_iinc (j := 2) (lv' := [(0, .ref r0), (1, .int (nI m)), (2, .int (nI (a + 1))), (3, .int (nI (nx (7 * m + a)) - 1))]) (a + 1) d_Re_leadsToEnding_36 rfl (nI_1 a) (Nat.le_of_ble_eq_true rfl) [1, 2, 0, 3] rfl ?_
            refine fk_goto d_Re_leadsToEnding_39 rfl ?_
            refine fk_lv (lv' := [(0, .ref r0), (1, .int (nI m)), (2, .int (nI (a + 1)))]) [0, 1, 2] rfl ?_
            refine ih2 _ ?_ ?_ ?_
            · first | omega | assumption | exact Nat.zero_le _
            · refine fs_lt_s (f := fun j => decide (0 < nx (7 * m + j)) && en (nx (7 * m + j) - 1)) h2 ?_
              first | simp [h22t] | (show (_ && en _) = false; rw [h31t, Bool.and_false])
            · omega
          · refine fk_iconst (v := nI 1) d_Re_leadsToEnding_34 (by decide +kernel) ?_
            refine fk_top (fn_rt (b := fe_ld nx en m) (fs_any_t (j := a) h5f (by rw [decide_eq_true (show 0 < nx (7 * m + a) by omega), h31f]; rfl))) ?_
            exact hret (0, 0) _ 35 _ () d_Re_leadsToEnding_35 (trivial) (rfl)
  refine L2 _ _ ?_ ?_ (Nat.lt_succ_self _)
  · first | omega | assumption | exact Nat.zero_le _
  · exact fs_lt_0
theorem d_Re_spreadEnding_0 : decode prog_6_method_10_code 0 = .ok (.iconst 0, 1) := by decide +kernel
theorem d_Re_spreadEnding_1 : decode prog_6_method_10_code 1 = .ok (.istore_n 1, 1) := by decide +kernel
theorem d_Re_spreadEnding_2 : decode prog_6_method_10_code 2 = .ok (.aload_n 0, 1) := by decide +kernel
theorem d_Re_spreadEnding_3 : decode prog_6_method_10_code 3 = .ok (.getfield 26, 3) := by decide +kernel
theorem d_Re_spreadEnding_6 : decode prog_6_method_10_code 6 = .ok (.iconst 1, 1) := by decide +kernel
theorem d_Re_spreadEnding_7 : decode prog_6_method_10_code 7 = .ok (.isub, 1) := by decide +kernel
theorem d_Re_spreadEnding_8 : decode prog_6_method_10_code 8 = .ok (.istore_n 2, 1) := by decide +kernel
theorem d_Re_spreadEnding_9 : decode prog_6_method_10_code 9 = .ok (.iload_n 2, 1) := by decide +kernel
theorem d_Re_spreadEnding_10 : decode prog_6_method_10_code 10 = .ok (.ifCond .lt 36, 3) := by decide +kernel
theorem d_Re_spreadEnding_13 : decode prog_6_method_10_code 13 = .ok (.aload_n 0, 1) := by decide +kernel
theorem d_Re_spreadEnding_14 : decode prog_6_method_10_code 14 = .ok (.getfield 22, 3) := by decide +kernel
theorem d_Re_spreadEnding_17 : decode prog_6_method_10_code 17 = .ok (.iload_n 2, 1) := by decide +kernel
theorem d_Re_spreadEnding_18 : decode prog_6_method_10_code 18 = .ok (.baload, 1) := by decide +kernel
theorem d_Re_spreadEnding_19 : decode prog_6_method_10_code 19 = .ok (.ifCond .ne 21, 3) := by decide +kernel
theorem d_Re_spreadEnding_22 : decode prog_6_method_10_code 22 = .ok (.aload_n 0, 1) := by decide +kernel
theorem d_Re_spreadEnding_23 : decode prog_6_method_10_code 23 = .ok (.iload_n 2, 1) := by decide +kernel
theorem d_Re_spreadEnding_24 : decode prog_6_method_10_code 24 = .ok (.invokevirtual 86, 3) := by decide +kernel
theorem d_Re_spreadEnding_27 : decode prog_6_method_10_code 27 = .ok (.ifCond .eq 13, 3) := by decide +kernel
theorem d_Re_spreadEnding_30 : decode prog_6_method_10_code 30 = .ok (.aload_n 0, 1) := by decide +kernel
theorem d_Re_spreadEnding_31 : decode prog_6_method_10_code 31 = .ok (.getfield 22, 3) := by decide +kernel
theorem d_Re_spreadEnding_34 : decode prog_6_method_10_code 34 = .ok (.iload_n 2, 1) := by decide +kernel
theorem d_Re_spreadEnding_35 : decode prog_6_method_10_code 35 = .ok (.iconst 1, 1) := by decide +kernel
theorem d_Re_spreadEnding_36 : decode prog_6_method_10_code 36 = .ok (.bastore, 1) := by decide +kernel
theorem d_Re_spreadEnding_37 : decode prog_6_method_10_code 37 = .ok (.iinc 1 1, 3) := by decide +kernel
theorem d_Re_spreadEnding_40 : decode prog_6_method_10_code 40 = .ok (.iinc 2 (-1), 3) := by decide +kernel
theorem d_Re_spreadEnding_43 : decode prog_6_method_10_code 43 = .ok (.goto (-34), 3) := by decide +kernel
theorem d_Re_spreadEnding_46 : decode prog_6_method_10_code 46 = .ok (.iload_n 1, 1) := by decide +kernel
theorem d_Re_spreadEnding_47 : decode prog_6_method_10_code 47 = .ok (.ireturn, 1) := by decide +kernel
set_option maxRecDepth 20000 in
set_option maxHeartbeats 4000000 in
theorem cR_spreadEnding (E : fk_E) (r0 : Nat) (r1 : Nat) (r2 : Nat) (r3 : Nat) (r4 : Nat) (c : Nat) (ev : Nat) (nx : Nat → Nat) (en : Nat → Bool) (hc : c ≤ 200) (hn : ∀ j, j < 7 * c → nx j ≤ c) : fk_C E fy_Re_spreadEnding prog_6_method_10_code 3 (some .int) 1 0 0 [.ref r0] [(r0, .inr (4, [.ref r1, .ref r2, .ref r3, .ref r4, .int (nI c), .int (nI ev)])), fk_aj E r3 1400 nx, fk_az E r4 200 en] (S := Nat × (Nat → Bool)) (fun (u : Nat × (Nat → Bool)) => some (.int (nI u.1))) (fun (u : Nat × (Nat → Bool)) => fe_sp c nx en 0 u.1 u.2 ∧ u.1 ≤ 200) (fun (u : Nat × (Nat → Bool)) => [(r0, .inr (4, [.ref r1, .ref r2, .ref r3, .ref r4, .int (nI c), .int (nI ev)])), fk_aj E r3 1400 nx, fk_az E r4 200 u.2]) := by
  refine fk_enterI (v := fun (u : Nat × (Nat → Bool)) => (nI u.1)) (by decide) (Nat.le_of_ble_eq_true rfl) (lv0 := [(0, .ref r0)]) rfl ?_
  intro K hini hret
  refine fk_iconst (v := nI 0) d_Re_spreadEnding_0 (by decide +kernel) ?_
  refine fk_istore_n (lv' := [(0, .ref r0), (1, .int (nI 0))]) d_Re_spreadEnding_1 rfl (Nat.le_of_ble_eq_true rfl) [1, 0] rfl ?_
  refine fk_aload_n 0 d_Re_spreadEnding_2 rfl ?_
  refine fk_get 0 4 rfl rfl fh_Re (Nat.le_of_ble_eq_true rfl) fw_106 rfl d_Re_spreadEnding_3 ?_
  refine fk_iconst (v := nI 1) d_Re_spreadEnding_6 (by decide +kernel) ?_
  refine fk_isubR d_Re_spreadEnding_7 ?_
  refine fk_top (show ((nI c) - (nI 1)) = (nI c - 1) from by rfl) ?_
  refine fk_istore_n (lv' := [(0, .ref r0), (1, .int (nI 0)), (2, .int (nI c - 1))]) d_Re_spreadEnding_8 rfl (Nat.le_of_ble_eq_true rfl) [1, 2, 0] rfl ?_
  have L9 : ∀ (fuel : Nat) (t : Nat) (n1 : Nat) (e1 : Nat → Bool), (t ≤ c) → (fe_sp c nx en t n1 e1) → (n1 + t ≤ c) → t < fuel → fk_V E (prog_6_method_10_code, fy_Re_spreadEnding.cls, 3, fk_rm 1 0 0) K (0, 0) [(r0, .inr (4, [.ref r1, .ref r2, .ref r3, .ref r4, .int (nI c), .int (nI ev)])), fk_aj E r3 1400 nx, fk_az E r4 200 e1] 9 [(0, .ref r0), (1, .int (nI n1)), (2, .int (nI t - 1))] [] := by
    intro fuel
    induction fuel with
    | zero => intro t n1 e1 _ _ _ hm; exact absurd hm (Nat.not_lt_zero _)
    | succ fuel ih =>
      intro t n1 e1 h1 h2 h3 hm9
      have ih9 := ih
      clear ih
      refine fk_iload_n 2 d_Re_spreadEnding_9 rfl ?_
      refine fk_if_ltJ (a := t) (by omega) d_Re_spreadEnding_10 rfl (fun h10t => ?_) (fun h10f => ?_)
      · refine fk_iload_n 1 d_Re_spreadEnding_46 rfl ?_
        have hpp : fe_sp c nx en 0 n1 e1 ∧ n1 ≤ 200 := ⟨by rw [h10t] at h2; exact h2, by show n1 ≤ 200; omega⟩
        exact hret (0, 0) _ 47 _ (n1, e1) d_Re_spreadEnding_47 (hpp) (rfl)
      · refine fk_aload_n 0 d_Re_spreadEnding_13 rfl ?_
        refine fk_get 0 3 rfl rfl fh_Re (Nat.le_of_ble_eq_true rfl) fw_105 rfl d_Re_spreadEnding_14 ?_
        refine fk_iload_n 2 d_Re_spreadEnding_17 rfl ?_
        refine fk_top (show (nI t - 1) = (nI (t - 1)) from fn_jn h10f) ?_
        refine fk_ld_az (i := (t - 1)) 2 rfl (by omega) (by decide) d_Re_spreadEnding_18 ?_
        refine fk_if_neB (b := (e1 (t - 1))) d_Re_spreadEnding_19 rfl (fun h19t => ?_) (fun h19f => ?_)
        · refine fk_iincV (j := 2) (lv' := [(0, .ref r0), (1, .int (nI n1)), (2, .int (nI (t - 1) - 1))]) d_Re_spreadEnding_40 rfl (fn_decJ (by omega)) (Nat.le_of_ble_eq_true rfl) [1, 2, 0] rfl ?_
          refine fk_goto d_Re_spreadEnding_43 rfl ?_
          refine ih9 _ _ _ ?_ ?_ ?_ ?_
          · first | omega | assumption | exact Nat.zero_le _
          · first | exact fe_sp_up h2 h10f h1 h19f hn h27f | exact fe_sp_no h2 h10f h1 hn (Or.inl h19t) | exact fe_sp_no h2 h10f h1 hn (Or.inr h27t)
          · first | omega | assumption | exact Nat.zero_le _
          · omega
        · refine fk_aload_n 0 d_Re_spreadEnding_22 rfl ?_
          refine fk_iload_n 2 d_Re_spreadEnding_23 rfl ?_
          refine fk_top (show (nI t - 1) = (nI (t - 1)) from fn_jn h10f) ?_
          refine fk_callV (q0 := 0) (As := [.int (nI (t - 1))]) (rest := []) (is := [0, 1, 2]) (ir := []) (ip := [0, 1, 2]) (wc := [(r0, .inr (4, [.ref r1, .ref r2, .ref r3, .ref r4, .int (nI c), .int (nI ev)])), fk_aj E r3 1400 nx, fk_az E r4 200 e1]) (wr := []) (w2 := fun _ => [(r0, .inr (4, [.ref r1, .ref r2, .ref r3, .ref r4, .int (nI c), .int (nI ev)])), fk_aj E r3 1400 nx, fk_az E r4 200 e1]) (cR_leadsToEnding E r0 r1 r2 r3 r4 c ev nx e1 (t - 1) (by first | omega | assumption) (by first | omega | assumption) (by first | omega | assumption)) d_Re_spreadEnding_24 fz_Re_leadsToEnding fw_436 rfl rfl fw_438 fw_p14 ⟨Nat.le_of_ble_eq_true rfl, Nat.le_of_ble_eq_true rfl⟩ rfl (Nat.le_of_ble_eq_true rfl) ⟨Nat.zero_le _, Nat.zero_le _⟩ ⟨rfl, rfl, rfl, rfl, by decide, fun _ => rfl, rfl⟩ (fun u hu24 => ?_)
          show fk_V E _ K (0, 0) [(r0, .inr (4, [.ref r1, .ref r2, .ref r3, .ref r4, .int (nI c), .int (nI ev)])), fk_aj E r3 1400 nx, fk_az E r4 200 e1] 27 [(0, .ref r0), (1, .int (nI n1)), (2, .int (nI t - 1))] [.int (nI (Bool.toNat (fe_ld nx e1 (t - 1))))]
          refine fk_if_eqB (b := (fe_ld nx e1 (t - 1))) d_Re_spreadEnding_27 rfl (fun h27t => ?_) (fun h27f => ?_)
          · refine fk_iincV (j := 2) (lv' := [(0, .ref r0), (1, .int (nI n1)), (2, .int (nI (t - 1) - 1))]) d_Re_spreadEnding_40 rfl (fn_decJ (by omega)) (Nat.le_of_ble_eq_true rfl) [1, 2, 0] rfl ?_
            refine fk_goto d_Re_spreadEnding_43 rfl ?_
            refine ih9 _ _ _ ?_ ?_ ?_ ?_
            · first | omega | assumption | exact Nat.zero_le _
            · first | exact fe_sp_up h2 h10f h1 h19f hn h27f | exact fe_sp_no h2 h10f h1 hn (Or.inl h19t) | exact fe_sp_no h2 h10f h1 hn (Or.inr h27t)
            · first | omega | assumption | exact Nat.zero_le _
            · omega
          · refine fk_aload_n 0 d_Re_spreadEnding_30 rfl ?_
            refine fk_get 0 3 rfl rfl fh_Re (Nat.le_of_ble_eq_true rfl) fw_105 rfl d_Re_spreadEnding_31 ?_
            refine fk_iload_n 2 d_Re_spreadEnding_34 rfl ?_
            refine fk_top (show (nI t - 1) = (nI (t - 1)) from fn_jn h10f) ?_
            refine fk_iconst (v := nI 1) d_Re_spreadEnding_35 (by decide +kernel) ?_
            refine fk_st_az (i := (t - 1)) (x := true) (w' := [(r0, .inr (4, [.ref r1, .ref r2, .ref r3, .ref r4, .int (nI c), .int (nI ev)])), fk_aj E r3 1400 nx, fk_az E r4 200 (va_up e1 (t - 1) true)]) 2 rfl (by omega) (by decide) d_Re_spreadEnding_36 rfl ?_
            refine fk_iinc (j := 1) (lv' := [(0, .ref r0), (1, .int (nI (n1 + 1))), (2, .int (nI t - 1))]) (n1 + 1) d_Re_spreadEnding_37 rfl (nI_1 n1) (Nat.le_of_ble_eq_true rfl) [1, 0, 2] rfl ?_
            refine fk_iincV (j := 2) (lv' := [(0, .ref r0), (1, .int (nI (n1 + 1))), (2, .int (nI (t - 1) - 1))]) d_Re_spreadEnding_40 rfl (fn_decJ (by omega)) (Nat.le_of_ble_eq_true rfl) [1, 2, 0] rfl ?_
            refine fk_goto d_Re_spreadEnding_43 rfl ?_
            refine ih9 _ _ _ ?_ ?_ ?_ ?_
            · first | omega | assumption | exact Nat.zero_le _
            · first | exact fe_sp_up h2 h10f h1 h19f hn h27f | exact fe_sp_no h2 h10f h1 hn (Or.inl h19t) | exact fe_sp_no h2 h10f h1 hn (Or.inr h27t)
            · first | omega | assumption | exact Nat.zero_le _
            · omega
  refine L9 _ _ _ _ ?_ ?_ ?_ (Nat.lt_succ_self _)
  · first | omega | assumption | exact Nat.zero_le _
  · exact fe_sp_0 c nx en
  · first | omega | assumption | exact Nat.zero_le _
theorem d_Re_sinkMeansFinal_0 : decode prog_6_method_8_code 0 = .ok (.iconst 0, 1) := by decide +kernel
theorem d_Re_sinkMeansFinal_1 : decode prog_6_method_8_code 1 = .ok (.istore_n 1, 1) := by decide +kernel
theorem d_Re_sinkMeansFinal_2 : decode prog_6_method_8_code 2 = .ok (.iload_n 1, 1) := by decide +kernel
theorem d_Re_sinkMeansFinal_3 : decode prog_6_method_8_code 3 = .ok (.aload_n 0, 1) := by decide +kernel
theorem d_Re_sinkMeansFinal_4 : decode prog_6_method_8_code 4 = .ok (.getfield 26, 3) := by decide +kernel
theorem d_Re_sinkMeansFinal_7 : decode prog_6_method_8_code 7 = .ok (.if_icmp .ge 39, 3) := by decide +kernel
theorem d_Re_sinkMeansFinal_10 : decode prog_6_method_8_code 10 = .ok (.aload_n 0, 1) := by decide +kernel
theorem d_Re_sinkMeansFinal_11 : decode prog_6_method_8_code 11 = .ok (.getfield 9, 3) := by decide +kernel
theorem d_Re_sinkMeansFinal_14 : decode prog_6_method_8_code 14 = .ok (.iload_n 1, 1) := by decide +kernel
theorem d_Re_sinkMeansFinal_15 : decode prog_6_method_8_code 15 = .ok (.laload, 1) := by decide +kernel
theorem d_Re_sinkMeansFinal_16 : decode prog_6_method_8_code 16 = .ok (.ldc2_w 79, 3) := by decide +kernel
theorem d_Re_sinkMeansFinal_19 : decode prog_6_method_8_code 19 = .ok (.land, 1) := by decide +kernel
theorem d_Re_sinkMeansFinal_20 : decode prog_6_method_8_code 20 = .ok (.lconst 0, 1) := by decide +kernel
theorem d_Re_sinkMeansFinal_21 : decode prog_6_method_8_code 21 = .ok (.lcmp, 1) := by decide +kernel
theorem d_Re_sinkMeansFinal_22 : decode prog_6_method_8_code 22 = .ok (.ifCond .eq 18, 3) := by decide +kernel
theorem d_Re_sinkMeansFinal_25 : decode prog_6_method_8_code 25 = .ok (.aload_n 0, 1) := by decide +kernel
theorem d_Re_sinkMeansFinal_26 : decode prog_6_method_8_code 26 = .ok (.getfield 9, 3) := by decide +kernel
theorem d_Re_sinkMeansFinal_29 : decode prog_6_method_8_code 29 = .ok (.iload_n 1, 1) := by decide +kernel
theorem d_Re_sinkMeansFinal_30 : decode prog_6_method_8_code 30 = .ok (.laload, 1) := by decide +kernel
theorem d_Re_sinkMeansFinal_31 : decode prog_6_method_8_code 31 = .ok (.ldc2_w 81, 3) := by decide +kernel
theorem d_Re_sinkMeansFinal_34 : decode prog_6_method_8_code 34 = .ok (.lcmp, 1) := by decide +kernel
theorem d_Re_sinkMeansFinal_35 : decode prog_6_method_8_code 35 = .ok (.ifCond .eq 5, 3) := by decide +kernel
theorem d_Re_sinkMeansFinal_38 : decode prog_6_method_8_code 38 = .ok (.iconst 0, 1) := by decide +kernel
theorem d_Re_sinkMeansFinal_39 : decode prog_6_method_8_code 39 = .ok (.ireturn, 1) := by decide +kernel
theorem d_Re_sinkMeansFinal_40 : decode prog_6_method_8_code 40 = .ok (.iinc 1 1, 3) := by decide +kernel
theorem d_Re_sinkMeansFinal_43 : decode prog_6_method_8_code 43 = .ok (.goto (-41), 3) := by decide +kernel
theorem d_Re_sinkMeansFinal_46 : decode prog_6_method_8_code 46 = .ok (.iconst 1, 1) := by decide +kernel
theorem d_Re_sinkMeansFinal_47 : decode prog_6_method_8_code 47 = .ok (.ireturn, 1) := by decide +kernel
set_option maxRecDepth 20000 in
set_option maxHeartbeats 4000000 in
theorem cR_sinkMeansFinal (E : fk_E) (r0 : Nat) (r1 : Nat) (r2 : Nat) (r3 : Nat) (r4 : Nat) (c : Nat) (ev : Nat) (sn : Nat → Nat) (hc : c ≤ 200) (hs : ∀ i, i < c → sn i < 2 ^ 64) : fk_C E fy_Re_sinkMeansFinal prog_6_method_8_code 2 (some .boolean) 0 0 0 [.ref r0] [(r0, .inr (4, [.ref r1, .ref r2, .ref r3, .ref r4, .int (nI c), .int (nI ev)])), fk_al E r1 200 sn] (S := Unit) (fun _ => some (.int (nI (Bool.toNat (fe_cl sn c))))) (fun _ => True) (fun _ => [(r0, .inr (4, [.ref r1, .ref r2, .ref r3, .ref r4, .int (nI c), .int (nI ev)])), fk_al E r1 200 sn]) := by
  refine fk_enterZ (v := fun _ => fe_cl sn c) (by decide) (Nat.le_of_ble_eq_true rfl) (lv0 := [(0, .ref r0)]) rfl ?_
  intro K hini hret
  refine fk_iconst (v := nI 0) d_Re_sinkMeansFinal_0 (by decide +kernel) ?_
  refine fk_istore_n (lv' := [(0, .ref r0), (1, .int (nI 0))]) d_Re_sinkMeansFinal_1 rfl (Nat.le_of_ble_eq_true rfl) [1, 0] rfl ?_
  have L2 : ∀ (fuel : Nat) (i : Nat), (i ≤ c) → (∀ j, j < i → (decide (sn j &&& 240 = 0) || decide (sn j = 16)) = true) → c - i < fuel → fk_V E (prog_6_method_8_code, fy_Re_sinkMeansFinal.cls, 2, fk_rm 0 0 0) K (0, 0) [(r0, .inr (4, [.ref r1, .ref r2, .ref r3, .ref r4, .int (nI c), .int (nI ev)])), fk_al E r1 200 sn] 2 [(0, .ref r0), (1, .int (nI i))] [] := by
    intro fuel
    induction fuel with
    | zero => intro i _ _ hm; exact absurd hm (Nat.not_lt_zero _)
    | succ fuel ih =>
      intro i h1 h2 hm2
      have ih2 := ih
      clear ih
      refine fk_iload_n 1 d_Re_sinkMeansFinal_2 rfl ?_
      refine fk_aload_n 0 d_Re_sinkMeansFinal_3 rfl ?_
      refine fk_get 0 4 rfl rfl fh_Re (Nat.le_of_ble_eq_true rfl) fw_106 rfl d_Re_sinkMeansFinal_4 ?_
      refine fk_icmp_ge (a := i) (b := c) (by omega) (by omega) d_Re_sinkMeansFinal_7 rfl (fun h7t => ?_) (fun h7f => ?_)
      · refine fk_iconst (v := nI 1) d_Re_sinkMeansFinal_46 (by decide +kernel) ?_
        refine fk_top (fn_rt (b := fe_cl sn c) (fs_all_iff.mpr (fun j hj => h2 j (by omega)))) ?_
        exact hret (0, 0) _ 47 _ () d_Re_sinkMeansFinal_47 (trivial) (rfl)
      · have g1 := hs i h7f
        refine fk_aload_n 0 d_Re_sinkMeansFinal_10 rfl ?_
        refine fk_get 0 0 rfl rfl fh_Re (Nat.le_of_ble_eq_true rfl) fw_102 rfl d_Re_sinkMeansFinal_11 ?_
        refine fk_iload_n 1 d_Re_sinkMeansFinal_14 rfl ?_
        refine fk_ld_al (i := i) 1 rfl (by omega) (by decide) d_Re_sinkMeansFinal_15 ?_
        refine fk_ldc2 (v := (240 : Int64)) d_Re_sinkMeansFinal_16 fw_426 ?_
        refine fk_topl (show (240 : Int64) = lN 240 by decide +kernel) ?_
        refine fk_landR d_Re_sinkMeansFinal_19 ?_
        refine fk_topl (show lN (sn i) &&& lN 240 = lN ((sn i) &&& 240) from fn_land (g1) (by decide)) ?_
        refine fk_lconst (v := lN 0) d_Re_sinkMeansFinal_20 rfl ?_
        refine fk_lcmpR d_Re_sinkMeansFinal_21 ?_
        refine fk_cmp_eq (a := ((sn i) &&& 240)) (b := 0) (Nat.lt_of_le_of_lt Nat.and_le_left g1) (by decide) d_Re_sinkMeansFinal_22 rfl (fun h22t => ?_) (fun h22f => ?_)
        · refine fk_iinc (j := 1) (lv' := [(0, .ref r0), (1, .int (nI (i + 1)))]) (i + 1) d_Re_sinkMeansFinal_40 rfl (nI_1 i) (Nat.le_of_ble_eq_true rfl) [1, 0] rfl ?_
          refine fk_goto d_Re_sinkMeansFinal_43 rfl ?_
          refine ih2 _ ?_ ?_ ?_
          · first | omega | assumption | exact Nat.zero_le _
          · refine fs_lt_t (f := fun j => decide (sn j &&& 240 = 0) || decide (sn j = 16)) h2 ?_
            first | simp [h22t] | simp [h35t]
          · omega
        · refine fk_aload_n 0 d_Re_sinkMeansFinal_25 rfl ?_
          refine fk_get 0 0 rfl rfl fh_Re (Nat.le_of_ble_eq_true rfl) fw_102 rfl d_Re_sinkMeansFinal_26 ?_
          refine fk_iload_n 1 d_Re_sinkMeansFinal_29 rfl ?_
          refine fk_ld_al (i := i) 1 rfl (by omega) (by decide) d_Re_sinkMeansFinal_30 ?_
          refine fk_ldc2 (v := (16 : Int64)) d_Re_sinkMeansFinal_31 fw_427 ?_
          refine fk_topl (show (16 : Int64) = lN 16 by decide +kernel) ?_
          refine fk_lcmpR d_Re_sinkMeansFinal_34 ?_
          refine fk_cmp_eq (a := (sn i)) (b := 16) (g1) (by decide) d_Re_sinkMeansFinal_35 rfl (fun h35t => ?_) (fun h35f => ?_)
          · refine fk_iinc (j := 1) (lv' := [(0, .ref r0), (1, .int (nI (i + 1)))]) (i + 1) d_Re_sinkMeansFinal_40 rfl (nI_1 i) (Nat.le_of_ble_eq_true rfl) [1, 0] rfl ?_
            refine fk_goto d_Re_sinkMeansFinal_43 rfl ?_
            refine ih2 _ ?_ ?_ ?_
            · first | omega | assumption | exact Nat.zero_le _
            · refine fs_lt_t (f := fun j => decide (sn j &&& 240 = 0) || decide (sn j = 16)) h2 ?_
              first | simp [h22t] | simp [h35t]
            · omega
          · refine fk_iconst (v := nI 0) d_Re_sinkMeansFinal_38 (by decide +kernel) ?_
            refine fk_top (fn_rf (b := fe_cl sn c) (fs_all_f (j := i) h7f (by simp [h22f, h35f]))) ?_
            exact hret (0, 0) _ 39 _ () d_Re_sinkMeansFinal_39 (trivial) (rfl)
  refine L2 _ _ ?_ ?_ (Nat.lt_succ_self _)
  · first | omega | assumption | exact Nat.zero_le _
  · exact fs_lt_0
theorem d_Re_allCanEnd_0 : decode prog_6_method_9_code 0 = .ok (.iconst 0, 1) := by decide +kernel
theorem d_Re_allCanEnd_1 : decode prog_6_method_9_code 1 = .ok (.istore_n 1, 1) := by decide +kernel
theorem d_Re_allCanEnd_2 : decode prog_6_method_9_code 2 = .ok (.iconst 0, 1) := by decide +kernel
theorem d_Re_allCanEnd_3 : decode prog_6_method_9_code 3 = .ok (.istore_n 2, 1) := by decide +kernel
theorem d_Re_allCanEnd_4 : decode prog_6_method_9_code 4 = .ok (.iload_n 2, 1) := by decide +kernel
theorem d_Re_allCanEnd_5 : decode prog_6_method_9_code 5 = .ok (.aload_n 0, 1) := by decide +kernel
theorem d_Re_allCanEnd_6 : decode prog_6_method_9_code 6 = .ok (.getfield 26, 3) := by decide +kernel
theorem d_Re_allCanEnd_9 : decode prog_6_method_9_code 9 = .ok (.if_icmp .ge 50, 3) := by decide +kernel
theorem d_Re_allCanEnd_12 : decode prog_6_method_9_code 12 = .ok (.aload_n 0, 1) := by decide +kernel
theorem d_Re_allCanEnd_13 : decode prog_6_method_9_code 13 = .ok (.getfield 22, 3) := by decide +kernel
theorem d_Re_allCanEnd_16 : decode prog_6_method_9_code 16 = .ok (.iload_n 2, 1) := by decide +kernel
theorem d_Re_allCanEnd_17 : decode prog_6_method_9_code 17 = .ok (.aload_n 0, 1) := by decide +kernel
theorem d_Re_allCanEnd_18 : decode prog_6_method_9_code 18 = .ok (.getfield 9, 3) := by decide +kernel
theorem d_Re_allCanEnd_21 : decode prog_6_method_9_code 21 = .ok (.iload_n 2, 1) := by decide +kernel
theorem d_Re_allCanEnd_22 : decode prog_6_method_9_code 22 = .ok (.laload, 1) := by decide +kernel
theorem d_Re_allCanEnd_23 : decode prog_6_method_9_code 23 = .ok (.ldc2_w 81, 3) := by decide +kernel
theorem d_Re_allCanEnd_26 : decode prog_6_method_9_code 26 = .ok (.lcmp, 1) := by decide +kernel
theorem d_Re_allCanEnd_27 : decode prog_6_method_9_code 27 = .ok (.ifCond .ne 7, 3) := by decide +kernel
theorem d_Re_allCanEnd_30 : decode prog_6_method_9_code 30 = .ok (.iconst 1, 1) := by decide +kernel
theorem d_Re_allCanEnd_31 : decode prog_6_method_9_code 31 = .ok (.goto 4, 3) := by decide +kernel
theorem d_Re_allCanEnd_34 : decode prog_6_method_9_code 34 = .ok (.iconst 0, 1) := by decide +kernel
theorem d_Re_allCanEnd_35 : decode prog_6_method_9_code 35 = .ok (.bastore, 1) := by decide +kernel
theorem d_Re_allCanEnd_36 : decode prog_6_method_9_code 36 = .ok (.iload_n 1, 1) := by decide +kernel
theorem d_Re_allCanEnd_37 : decode prog_6_method_9_code 37 = .ok (.aload_n 0, 1) := by decide +kernel
theorem d_Re_allCanEnd_38 : decode prog_6_method_9_code 38 = .ok (.getfield 22, 3) := by decide +kernel
theorem d_Re_allCanEnd_41 : decode prog_6_method_9_code 41 = .ok (.iload_n 2, 1) := by decide +kernel
theorem d_Re_allCanEnd_42 : decode prog_6_method_9_code 42 = .ok (.baload, 1) := by decide +kernel
theorem d_Re_allCanEnd_43 : decode prog_6_method_9_code 43 = .ok (.ifCond .eq 7, 3) := by decide +kernel
theorem d_Re_allCanEnd_46 : decode prog_6_method_9_code 46 = .ok (.iconst 1, 1) := by decide +kernel
theorem d_Re_allCanEnd_47 : decode prog_6_method_9_code 47 = .ok (.goto 4, 3) := by decide +kernel
theorem d_Re_allCanEnd_50 : decode prog_6_method_9_code 50 = .ok (.iconst 0, 1) := by decide +kernel
theorem d_Re_allCanEnd_51 : decode prog_6_method_9_code 51 = .ok (.iadd, 1) := by decide +kernel
theorem d_Re_allCanEnd_52 : decode prog_6_method_9_code 52 = .ok (.istore_n 1, 1) := by decide +kernel
theorem d_Re_allCanEnd_53 : decode prog_6_method_9_code 53 = .ok (.iinc 2 1, 3) := by decide +kernel
theorem d_Re_allCanEnd_56 : decode prog_6_method_9_code 56 = .ok (.goto (-52), 3) := by decide +kernel
theorem d_Re_allCanEnd_59 : decode prog_6_method_9_code 59 = .ok (.iload_n 1, 1) := by decide +kernel
theorem d_Re_allCanEnd_60 : decode prog_6_method_9_code 60 = .ok (.istore_n 2, 1) := by decide +kernel
theorem d_Re_allCanEnd_61 : decode prog_6_method_9_code 61 = .ok (.iconst 0, 1) := by decide +kernel
theorem d_Re_allCanEnd_62 : decode prog_6_method_9_code 62 = .ok (.istore_n 3, 1) := by decide +kernel
theorem d_Re_allCanEnd_63 : decode prog_6_method_9_code 63 = .ok (.iload_n 3, 1) := by decide +kernel
theorem d_Re_allCanEnd_64 : decode prog_6_method_9_code 64 = .ok (.sipush 200, 3) := by decide +kernel
theorem d_Re_allCanEnd_67 : decode prog_6_method_9_code 67 = .ok (.if_icmp .ge 22, 3) := by decide +kernel
theorem d_Re_allCanEnd_70 : decode prog_6_method_9_code 70 = .ok (.iload_n 2, 1) := by decide +kernel
theorem d_Re_allCanEnd_71 : decode prog_6_method_9_code 71 = .ok (.ifCond .le 18, 3) := by decide +kernel
theorem d_Re_allCanEnd_74 : decode prog_6_method_9_code 74 = .ok (.aload_n 0, 1) := by decide +kernel
theorem d_Re_allCanEnd_75 : decode prog_6_method_9_code 75 = .ok (.invokevirtual 83, 3) := by decide +kernel
theorem d_Re_allCanEnd_78 : decode prog_6_method_9_code 78 = .ok (.istore_n 2, 1) := by decide +kernel
theorem d_Re_allCanEnd_79 : decode prog_6_method_9_code 79 = .ok (.iload_n 1, 1) := by decide +kernel
theorem d_Re_allCanEnd_80 : decode prog_6_method_9_code 80 = .ok (.iload_n 2, 1) := by decide +kernel
theorem d_Re_allCanEnd_81 : decode prog_6_method_9_code 81 = .ok (.iadd, 1) := by decide +kernel
theorem d_Re_allCanEnd_82 : decode prog_6_method_9_code 82 = .ok (.istore_n 1, 1) := by decide +kernel
theorem d_Re_allCanEnd_83 : decode prog_6_method_9_code 83 = .ok (.iinc 3 1, 3) := by decide +kernel
theorem d_Re_allCanEnd_86 : decode prog_6_method_9_code 86 = .ok (.goto (-23), 3) := by decide +kernel
theorem d_Re_allCanEnd_89 : decode prog_6_method_9_code 89 = .ok (.iload_n 1, 1) := by decide +kernel
theorem d_Re_allCanEnd_90 : decode prog_6_method_9_code 90 = .ok (.aload_n 0, 1) := by decide +kernel
theorem d_Re_allCanEnd_91 : decode prog_6_method_9_code 91 = .ok (.getfield 26, 3) := by decide +kernel
theorem d_Re_allCanEnd_94 : decode prog_6_method_9_code 94 = .ok (.if_icmp .ne 7, 3) := by decide +kernel
theorem d_Re_allCanEnd_97 : decode prog_6_method_9_code 97 = .ok (.iconst 1, 1) := by decide +kernel
theorem d_Re_allCanEnd_98 : decode prog_6_method_9_code 98 = .ok (.goto 4, 3) := by decide +kernel
theorem d_Re_allCanEnd_101 : decode prog_6_method_9_code 101 = .ok (.iconst 0, 1) := by decide +kernel
theorem d_Re_allCanEnd_102 : decode prog_6_method_9_code 102 = .ok (.ireturn, 1) := by decide +kernel
set_option maxRecDepth 20000 in
set_option maxHeartbeats 4000000 in
theorem cR_allCanEnd (E : fk_E) (r0 : Nat) (r1 : Nat) (r2 : Nat) (r3 : Nat) (r4 : Nat) (c : Nat) (ev : Nat) (sn : Nat → Nat) (nx : Nat → Nat) (en : Nat → Bool) (hc : c ≤ 200) (hn : ∀ j, j < 7 * c → nx j ≤ c) (hs : ∀ i, i < c → sn i < 2 ^ 64) : fk_C E fy_Re_allCanEnd prog_6_method_9_code 4 (some .boolean) 2 0 0 [.ref r0] [(r0, .inr (4, [.ref r1, .ref r2, .ref r3, .ref r4, .int (nI c), .int (nI ev)])), fk_al E r1 200 sn, fk_aj E r3 1400 nx, fk_az E r4 200 en] (S := (Nat → Bool)) (fun (u : (Nat → Bool)) => some (.int (nI (Bool.toNat (fe_all sn nx c))))) (fun (u : (Nat → Bool)) => True) (fun (u : (Nat → Bool)) => [(r0, .inr (4, [.ref r1, .ref r2, .ref r3, .ref r4, .int (nI c), .int (nI ev)])), fk_al E r1 200 sn, fk_aj E r3 1400 nx, fk_az E r4 200 u]) := by
  refine fk_enterZ (v := fun (u : (Nat → Bool)) => fe_all sn nx c) (by decide) (Nat.le_of_ble_eq_true rfl) (lv0 := [(0, .ref r0)]) rfl ?_
  intro K hini hret
  refine fk_iconst (v := nI 0) d_Re_allCanEnd_0 (by decide +kernel) ?_
  refine fk_istore_n (lv' := [(0, .ref r0), (1, .int (nI 0))]) d_Re_allCanEnd_1 rfl (Nat.le_of_ble_eq_true rfl) [1, 0] rfl ?_
  refine fk_iconst (v := nI 0) d_Re_allCanEnd_2 (by decide +kernel) ?_
  refine fk_istore_n (lv' := [(0, .ref r0), (1, .int (nI 0)), (2, .int (nI 0))]) d_Re_allCanEnd_3 rfl (Nat.le_of_ble_eq_true rfl) [1, 2, 0] rfl ?_
  have L4 : ∀ (fuel : Nat) (ab : Nat) (i : Nat) (e1 : Nat → Bool), (i ≤ c) → (ab = fe_ct e1 i) → (∀ m, m < i → e1 m = decide (sn m = 16)) → c - i < fuel → fk_V E (prog_6_method_9_code, fy_Re_allCanEnd.cls, 4, fk_rm 2 0 0) K (0, 0) [(r0, .inr (4, [.ref r1, .ref r2, .ref r3, .ref r4, .int (nI c), .int (nI ev)])), fk_al E r1 200 sn, fk_aj E r3 1400 nx, fk_az E r4 200 e1] 4 [(0, .ref r0), (1, .int (nI ab)), (2, .int (nI i))] [] := by
    intro fuel
    induction fuel with
    | zero => intro ab i e1 _ _ _ hm; exact absurd hm (Nat.not_lt_zero _)
    | succ fuel ih =>
      intro ab i e1 h1 h2 h3 hm4
      have ih4 := ih
      clear ih
      refine fk_iload_n 2 d_Re_allCanEnd_4 rfl ?_
      refine fk_aload_n 0 d_Re_allCanEnd_5 rfl ?_
      refine fk_get 0 4 rfl rfl fh_Re (Nat.le_of_ble_eq_true rfl) fw_106 rfl d_Re_allCanEnd_6 ?_
      refine fk_icmp_ge (a := i) (b := c) (by omega) (by omega) d_Re_allCanEnd_9 rfl (fun h9t => ?_) (fun h9f => ?_)
      · refine fk_iload_n 1 d_Re_allCanEnd_59 rfl ?_
        refine fk_istore_n (lv' := [(0, .ref r0), (1, .int (nI ab)), (2, .int (nI ab))]) d_Re_allCanEnd_60 rfl (Nat.le_of_ble_eq_true rfl) [1, 2, 0] rfl ?_
        refine fk_iconst (v := nI 0) d_Re_allCanEnd_61 (by decide +kernel) ?_
        refine fk_istore_n (lv' := [(0, .ref r0), (1, .int (nI ab)), (2, .int (nI ab)), (3, .int (nI 0))]) d_Re_allCanEnd_62 rfl (Nat.le_of_ble_eq_true rfl) [1, 2, 3, 0] rfl ?_
        have L63 : ∀ (fuel : Nat) (a2 : Nat) (n2 : Nat) (rd : Nat) (e2 : Nat → Bool), (rd ≤ 200) → (fe_rd c sn nx rd n2 a2 e2) → (n2 ≤ 200) → 200 - rd < fuel → fk_V E (prog_6_method_9_code, fy_Re_allCanEnd.cls, 4, fk_rm 2 0 0) K (0, 0) [(r0, .inr (4, [.ref r1, .ref r2, .ref r3, .ref r4, .int (nI c), .int (nI ev)])), fk_al E r1 200 sn, fk_aj E r3 1400 nx, fk_az E r4 200 e2] 63 [(0, .ref r0), (1, .int (nI a2)), (2, .int (nI n2)), (3, .int (nI rd))] [] := by
          intro fuel
          induction fuel with
          | zero => intro a2 n2 rd e2 _ _ _ hm; exact absurd hm (Nat.not_lt_zero _)
          | succ fuel ih =>
            intro a2 n2 rd e2 h4 h5 h6 hm63
            have ih63 := ih
            clear ih
            have h7 : a2 ≤ 200 := by
              have := h5.1
              have := fe_ct_le e2 c
              omega
            refine fk_iload_n 3 d_Re_allCanEnd_63 rfl ?_
            refine fk_sipush (v := nI 200) d_Re_allCanEnd_64 (by decide +kernel) ?_
            refine fk_icmp_ge (a := rd) (b := 200) (by omega) (by omega) d_Re_allCanEnd_67 rfl (fun h67t => ?_) (fun h67f => ?_)
            · have g3 := fe_rd_end h5 hn hc (Or.inl h67t)
              refine fk_iload_n 1 d_Re_allCanEnd_89 rfl ?_
              refine fk_aload_n 0 d_Re_allCanEnd_90 rfl ?_
              refine fk_get 0 4 rfl rfl fh_Re (Nat.le_of_ble_eq_true rfl) fw_106 rfl d_Re_allCanEnd_91 ?_
              refine fk_icmp_ne (a := a2) (b := c) (by omega) (by omega) d_Re_allCanEnd_94 rfl (fun h94t => ?_) (fun h94f => ?_)
              · refine fk_iconst (v := nI 0) d_Re_allCanEnd_101 (by decide +kernel) ?_
                refine fk_top (fn_rf (b := fe_all sn nx c) (by first | exact g3.1 h94f | exact g3.2 h94t)) ?_
                exact hret (0, 0) _ 102 _ e2 d_Re_allCanEnd_102 (trivial) (rfl)
              · refine fk_iconst (v := nI 1) d_Re_allCanEnd_97 (by decide +kernel) ?_
                refine fk_goto d_Re_allCanEnd_98 rfl ?_
                refine fk_top (fn_rt (b := fe_all sn nx c) (by first | exact g3.1 h94f | exact g3.2 h94t)) ?_
                exact hret (0, 0) _ 102 _ e2 d_Re_allCanEnd_102 (trivial) (rfl)
            · refine fk_iload_n 2 d_Re_allCanEnd_70 rfl ?_
              refine fk_if_le (a := n2) (by omega) d_Re_allCanEnd_71 rfl (fun h71t => ?_) (fun h71f => ?_)
              · have g3 := fe_rd_end h5 hn hc (Or.inr h71t)
                refine fk_iload_n 1 d_Re_allCanEnd_89 rfl ?_
                refine fk_aload_n 0 d_Re_allCanEnd_90 rfl ?_
                refine fk_get 0 4 rfl rfl fh_Re (Nat.le_of_ble_eq_true rfl) fw_106 rfl d_Re_allCanEnd_91 ?_
                refine fk_icmp_ne (a := a2) (b := c) (by omega) (by omega) d_Re_allCanEnd_94 rfl (fun h94t => ?_) (fun h94f => ?_)
                · refine fk_iconst (v := nI 0) d_Re_allCanEnd_101 (by decide +kernel) ?_
                  refine fk_top (fn_rf (b := fe_all sn nx c) (by first | exact g3.1 h94f | exact g3.2 h94t)) ?_
                  exact hret (0, 0) _ 102 _ e2 d_Re_allCanEnd_102 (trivial) (rfl)
                · refine fk_iconst (v := nI 1) d_Re_allCanEnd_97 (by decide +kernel) ?_
                  refine fk_goto d_Re_allCanEnd_98 rfl ?_
                  refine fk_top (fn_rt (b := fe_all sn nx c) (by first | exact g3.1 h94f | exact g3.2 h94t)) ?_
                  exact hret (0, 0) _ 102 _ e2 d_Re_allCanEnd_102 (trivial) (rfl)
              · refine fk_aload_n 0 d_Re_allCanEnd_74 rfl ?_
                refine fk_callV (q0 := 0) (As := []) (rest := []) (is := [0, 2, 3]) (ir := [1]) (ip := [1, 0, 2, 3]) (wc := [(r0, .inr (4, [.ref r1, .ref r2, .ref r3, .ref r4, .int (nI c), .int (nI ev)])), fk_aj E r3 1400 nx, fk_az E r4 200 e2]) (wr := [fk_al E r1 200 sn]) (w2 := fun u => [(r0, .inr (4, [.ref r1, .ref r2, .ref r3, .ref r4, .int (nI c), .int (nI ev)])), fk_al E r1 200 sn, fk_aj E r3 1400 nx, fk_az E r4 200 u.2]) (cR_spreadEnding E r0 r1 r2 r3 r4 c ev nx e2 (by first | omega | assumption) (by first | omega | assumption)) d_Re_allCanEnd_75 fz_Re_spreadEnding fw_432 rfl rfl fw_434 fw_p13 ⟨Nat.le_of_ble_eq_true rfl, Nat.le_of_ble_eq_true rfl⟩ rfl (Nat.le_of_ble_eq_true rfl) ⟨Nat.zero_le _, Nat.zero_le _⟩ ⟨rfl, rfl, rfl, rfl, by decide, fun _ => rfl, rfl⟩ (fun u hu75 => ?_)
                obtain ⟨nw_75, en9_75⟩ := u
                have hq75 : fe_sp c nx e2 0 nw_75 en9_75 ∧ nw_75 ≤ 200 := hu75
                show fk_V E _ K (0, 0) [(r0, .inr (4, [.ref r1, .ref r2, .ref r3, .ref r4, .int (nI c), .int (nI ev)])), fk_al E r1 200 sn, fk_aj E r3 1400 nx, fk_az E r4 200 en9_75] 78 [(0, .ref r0), (1, .int (nI a2)), (2, .int (nI n2)), (3, .int (nI rd))] [.int (nI nw_75)]
                refine fk_istore_n (lv' := [(0, .ref r0), (1, .int (nI a2)), (2, .int (nI nw_75)), (3, .int (nI rd))]) d_Re_allCanEnd_78 rfl (Nat.le_of_ble_eq_true rfl) [1, 2, 0, 3] rfl ?_
                refine fk_iload_n 1 d_Re_allCanEnd_79 rfl ?_
                refine fk_iload_n 2 d_Re_allCanEnd_80 rfl ?_
                refine fk_iadd (a := a2) (b := nw_75) d_Re_allCanEnd_81 ?_
                refine fk_istore_n (lv' := [(0, .ref r0), (1, .int (nI (a2 + nw_75))), (2, .int (nI nw_75)), (3, .int (nI rd))]) d_Re_allCanEnd_82 rfl (Nat.le_of_ble_eq_true rfl) [1, 0, 2, 3] rfl ?_
                refine fk_iinc (j := 3) (lv' := [(0, .ref r0), (1, .int (nI (a2 + nw_75))), (2, .int (nI nw_75)), (3, .int (nI (rd + 1)))]) (rd + 1) d_Re_allCanEnd_83 rfl (nI_1 rd) (Nat.le_of_ble_eq_true rfl) [1, 2, 3, 0] rfl ?_
                refine fk_goto d_Re_allCanEnd_86 rfl ?_
                refine ih63 _ _ _ _ ?_ ?_ ?_ ?_
                · first | omega | assumption | exact Nat.zero_le _
                · exact fe_rd_s h5 h71f hq75.1 hn
                · exact hq75.2
                · omega
        refine L63 _ _ _ _ _ ?_ ?_ ?_ (Nat.lt_succ_self _)
        · first | omega | assumption | exact Nat.zero_le _
        · have e : i = c := by omega
          rw [e] at h2 h3
          exact fe_rd_0 h2 h3 hn
        · have := fe_ct_le e1 i
          omega
      · have g1 := hs i h9f
        have g2 := fe_ct_le e1 i
        refine fk_aload_n 0 d_Re_allCanEnd_12 rfl ?_
        refine fk_get 0 3 rfl rfl fh_Re (Nat.le_of_ble_eq_true rfl) fw_105 rfl d_Re_allCanEnd_13 ?_
        refine fk_iload_n 2 d_Re_allCanEnd_16 rfl ?_
        refine fk_aload_n 0 d_Re_allCanEnd_17 rfl ?_
        refine fk_get 0 0 rfl rfl fh_Re (Nat.le_of_ble_eq_true rfl) fw_102 rfl d_Re_allCanEnd_18 ?_
        refine fk_iload_n 2 d_Re_allCanEnd_21 rfl ?_
        refine fk_ld_al (i := i) 1 rfl (by omega) (by decide) d_Re_allCanEnd_22 ?_
        refine fk_ldc2 (v := (16 : Int64)) d_Re_allCanEnd_23 fw_427 ?_
        refine fk_topl (show (16 : Int64) = lN 16 by decide +kernel) ?_
        refine fk_lcmpR d_Re_allCanEnd_26 ?_
        refine fk_cmp_ne (a := (sn i)) (b := 16) (g1) (by decide) d_Re_allCanEnd_27 rfl (fun h27t => ?_) (fun h27f => ?_)
        · refine fk_iconst (v := nI 0) d_Re_allCanEnd_34 (by decide +kernel) ?_
          refine fk_st_az (i := i) (x := false) (w' := [(r0, .inr (4, [.ref r1, .ref r2, .ref r3, .ref r4, .int (nI c), .int (nI ev)])), fk_al E r1 200 sn, fk_aj E r3 1400 nx, fk_az E r4 200 (va_up e1 i false)]) 3 rfl (by omega) (by decide) d_Re_allCanEnd_35 rfl ?_
          refine fk_iload_n 1 d_Re_allCanEnd_36 rfl ?_
          refine fk_aload_n 0 d_Re_allCanEnd_37 rfl ?_
          refine fk_get 0 3 rfl rfl fh_Re (Nat.le_of_ble_eq_true rfl) fw_105 rfl d_Re_allCanEnd_38 ?_
          refine fk_iload_n 2 d_Re_allCanEnd_41 rfl ?_
          refine fk_ld_az (i := i) 3 rfl (by omega) (by decide) d_Re_allCanEnd_42 ?_
          refine fk_top (congrArg (fun b : Bool => nI b.toNat) (va_up_self _ _ _)) ?_
          refine fk_if_eqB (b := false) d_Re_allCanEnd_43 rfl (fun h43t => ?_) (fun h43f => ?_)
          · refine fk_iconst (v := nI 0) d_Re_allCanEnd_50 (by decide +kernel) ?_
            refine fk_iadd (a := ab) (b := 0) d_Re_allCanEnd_51 ?_
            refine fk_istore_n (lv' := [(0, .ref r0), (1, .int (nI (ab + 0))), (2, .int (nI i))]) d_Re_allCanEnd_52 rfl (Nat.le_of_ble_eq_true rfl) [1, 0, 2] rfl ?_
            refine fk_iinc (j := 2) (lv' := [(0, .ref r0), (1, .int (nI (ab + 0))), (2, .int (nI (i + 1)))]) (i + 1) d_Re_allCanEnd_53 rfl (nI_1 i) (Nat.le_of_ble_eq_true rfl) [1, 2, 0] rfl ?_
            refine fk_goto d_Re_allCanEnd_56 rfl ?_
            refine ih4 _ _ _ ?_ ?_ ?_ ?_
            · first | omega | assumption | exact Nat.zero_le _
            · rw [fe_ct_upn, h2]
              rfl
            · intro m hm
              by_cases e : m = i
              · rw [e, va_up_self]
                first | rw [decide_eq_true h27f] | rw [decide_eq_false h27t]
              · rw [va_up_ne _ _ e]
                exact h3 m (by omega)
            · omega
          · exact absurd h43f (by decide)
        · refine fk_iconst (v := nI 1) d_Re_allCanEnd_30 (by decide +kernel) ?_
          refine fk_goto d_Re_allCanEnd_31 rfl ?_
          refine fk_st_az (i := i) (x := true) (w' := [(r0, .inr (4, [.ref r1, .ref r2, .ref r3, .ref r4, .int (nI c), .int (nI ev)])), fk_al E r1 200 sn, fk_aj E r3 1400 nx, fk_az E r4 200 (va_up e1 i true)]) 3 rfl (by omega) (by decide) d_Re_allCanEnd_35 rfl ?_
          refine fk_iload_n 1 d_Re_allCanEnd_36 rfl ?_
          refine fk_aload_n 0 d_Re_allCanEnd_37 rfl ?_
          refine fk_get 0 3 rfl rfl fh_Re (Nat.le_of_ble_eq_true rfl) fw_105 rfl d_Re_allCanEnd_38 ?_
          refine fk_iload_n 2 d_Re_allCanEnd_41 rfl ?_
          refine fk_ld_az (i := i) 3 rfl (by omega) (by decide) d_Re_allCanEnd_42 ?_
          refine fk_top (congrArg (fun b : Bool => nI b.toNat) (va_up_self _ _ _)) ?_
          refine fk_if_eqB (b := true) d_Re_allCanEnd_43 rfl (fun h43t => ?_) (fun h43f => ?_)
          · exact absurd h43t (by decide)
          · refine fk_iconst (v := nI 1) d_Re_allCanEnd_46 (by decide +kernel) ?_
            refine fk_goto d_Re_allCanEnd_47 rfl ?_
            refine fk_iadd (a := ab) (b := 1) d_Re_allCanEnd_51 ?_
            refine fk_istore_n (lv' := [(0, .ref r0), (1, .int (nI (ab + 1))), (2, .int (nI i))]) d_Re_allCanEnd_52 rfl (Nat.le_of_ble_eq_true rfl) [1, 0, 2] rfl ?_
            refine fk_iinc (j := 2) (lv' := [(0, .ref r0), (1, .int (nI (ab + 1))), (2, .int (nI (i + 1)))]) (i + 1) d_Re_allCanEnd_53 rfl (nI_1 i) (Nat.le_of_ble_eq_true rfl) [1, 2, 0] rfl ?_
            refine fk_goto d_Re_allCanEnd_56 rfl ?_
            refine ih4 _ _ _ ?_ ?_ ?_ ?_
            · first | omega | assumption | exact Nat.zero_le _
            · rw [fe_ct_upn, h2]
              rfl
            · intro m hm
              by_cases e : m = i
              · rw [e, va_up_self]
                first | rw [decide_eq_true h27f] | rw [decide_eq_false h27t]
              · rw [va_up_ne _ _ e]
                exact h3 m (by omega)
            · omega
  refine L4 _ _ _ _ ?_ ?_ ?_ (Nat.lt_succ_self _)
  · first | omega | assumption | exact Nat.zero_le _
  · rfl
  · exact fun m hm => absurd hm (Nat.not_lt_zero m)
theorem d_Re_provesSound_0 : decode prog_6_method_7_code 0 = .ok (.aload_n 0, 1) := by decide +kernel
theorem d_Re_provesSound_1 : decode prog_6_method_7_code 1 = .ok (.getfield 30, 3) := by decide +kernel
theorem d_Re_provesSound_4 : decode prog_6_method_7_code 4 = .ok (.aload_n 1, 1) := by decide +kernel
theorem d_Re_provesSound_5 : decode prog_6_method_7_code 5 = .ok (.invokevirtual 68, 3) := by decide +kernel
theorem d_Re_provesSound_8 : decode prog_6_method_7_code 8 = .ok (.if_icmp .ne 21, 3) := by decide +kernel
theorem d_Re_provesSound_11 : decode prog_6_method_7_code 11 = .ok (.aload_n 0, 1) := by decide +kernel
theorem d_Re_provesSound_12 : decode prog_6_method_7_code 12 = .ok (.invokevirtual 72, 3) := by decide +kernel
theorem d_Re_provesSound_15 : decode prog_6_method_7_code 15 = .ok (.ifCond .eq 14, 3) := by decide +kernel
theorem d_Re_provesSound_18 : decode prog_6_method_7_code 18 = .ok (.aload_n 0, 1) := by decide +kernel
theorem d_Re_provesSound_19 : decode prog_6_method_7_code 19 = .ok (.invokevirtual 76, 3) := by decide +kernel
theorem d_Re_provesSound_22 : decode prog_6_method_7_code 22 = .ok (.ifCond .eq 7, 3) := by decide +kernel
theorem d_Re_provesSound_25 : decode prog_6_method_7_code 25 = .ok (.iconst 1, 1) := by decide +kernel
theorem d_Re_provesSound_26 : decode prog_6_method_7_code 26 = .ok (.goto 4, 3) := by decide +kernel
theorem d_Re_provesSound_29 : decode prog_6_method_7_code 29 = .ok (.iconst 0, 1) := by decide +kernel
theorem d_Re_provesSound_30 : decode prog_6_method_7_code 30 = .ok (.ireturn, 1) := by decide +kernel
set_option maxRecDepth 20000 in
set_option maxHeartbeats 4000000 in
theorem cR_provesSound (E : fk_E) (r0 : Nat) (r1 : Nat) (r2 : Nat) (r3 : Nat) (r4 : Nat) (c : Nat) (ev : Nat) (n0 : Nat) (n1 : Nat) (n2 : Nat) (n3 : Nat) (n4 : Nat) (cnt : Nat) (fi : Nat) (la : Nat) (lo : Nat) (me : Nat) (sn : Nat → Nat) (nx : Nat → Nat) (en : Nat → Bool) (hc : c ≤ 200) (hn : ∀ j, j < 7 * c → nx j ≤ c) (hs : ∀ i, i < c → sn i < 2 ^ 64) (he : ev < 128) (hm : me < 128) : fk_C E fy_Re_provesSound prog_6_method_7_code 2 (some .boolean) 3 0 0 [.ref r0, .ref n0] [(r0, .inr (4, [.ref r1, .ref r2, .ref r3, .ref r4, .int (nI c), .int (nI ev)])), fk_al E r1 200 sn, fk_aj E r3 1400 nx, fk_az E r4 200 en, (n0, .inr (2, [.ref n1, .ref n2, .ref n3, .ref n4, .int (nI cnt), .int (nI fi), .int (nI la), .int (nI lo), .int (nI me)]))] (S := (Nat → Bool)) (fun (u : (Nat → Bool)) => some (.int (nI (Bool.toNat (decide (ev = me) && (fe_cl sn c && fe_all sn nx c)))))) (fun (u : (Nat → Bool)) => True) (fun (u : (Nat → Bool)) => [(r0, .inr (4, [.ref r1, .ref r2, .ref r3, .ref r4, .int (nI c), .int (nI ev)])), fk_al E r1 200 sn, fk_aj E r3 1400 nx, fk_az E r4 200 u, (n0, .inr (2, [.ref n1, .ref n2, .ref n3, .ref n4, .int (nI cnt), .int (nI fi), .int (nI la), .int (nI lo), .int (nI me)]))]) := by
  refine fk_enterZ (v := fun (u : (Nat → Bool)) => decide (ev = me) && (fe_cl sn c && fe_all sn nx c)) (by decide) (Nat.le_of_ble_eq_true rfl) (lv0 := [(0, .ref r0), (1, .ref n0)]) rfl ?_
  intro K hini hret
  refine fk_aload_n 0 d_Re_provesSound_0 rfl ?_
  refine fk_get 0 5 rfl rfl fh_Re (Nat.le_of_ble_eq_true rfl) fw_107 rfl d_Re_provesSound_1 ?_
  refine fk_aload_n 1 d_Re_provesSound_4 rfl ?_
  refine fk_callV (q0 := 4) (As := []) (rest := [.int (nI ev)]) (is := [4]) (ir := [0, 1, 2, 3]) (ip := [0, 1, 2, 3, 4]) (wc := [(n0, .inr (2, [.ref n1, .ref n2, .ref n3, .ref n4, .int (nI cnt), .int (nI fi), .int (nI la), .int (nI lo), .int (nI me)]))]) (wr := [(r0, .inr (4, [.ref r1, .ref r2, .ref r3, .ref r4, .int (nI c), .int (nI ev)])), fk_al E r1 200 sn, fk_aj E r3 1400 nx, fk_az E r4 200 en]) (w2 := fun _ => [(r0, .inr (4, [.ref r1, .ref r2, .ref r3, .ref r4, .int (nI c), .int (nI ev)])), fk_al E r1 200 sn, fk_aj E r3 1400 nx, fk_az E r4 200 en, (n0, .inr (2, [.ref n1, .ref n2, .ref n3, .ref n4, .int (nI cnt), .int (nI fi), .int (nI la), .int (nI lo), .int (nI me)]))]) (cN_activitySet E n0 n1 n2 n3 n4 cnt fi la lo me ) d_Re_provesSound_5 fz_Nt_activitySet fw_418 rfl rfl fw_419 fw_420 ⟨Nat.le_of_ble_eq_true rfl, Nat.le_of_ble_eq_true rfl⟩ rfl (Nat.le_of_ble_eq_true rfl) ⟨Nat.zero_le _, Nat.zero_le _⟩ ⟨rfl, rfl, rfl, rfl, by decide, fun _ => rfl, rfl⟩ (fun u hu5 => ?_)
  show fk_V E _ K (0, 0) [(r0, .inr (4, [.ref r1, .ref r2, .ref r3, .ref r4, .int (nI c), .int (nI ev)])), fk_al E r1 200 sn, fk_aj E r3 1400 nx, fk_az E r4 200 en, (n0, .inr (2, [.ref n1, .ref n2, .ref n3, .ref n4, .int (nI cnt), .int (nI fi), .int (nI la), .int (nI lo), .int (nI me)]))] 8 [(0, .ref r0), (1, .ref n0)] [.int (nI me), .int (nI ev)]
  refine fk_icmp_ne (a := ev) (b := me) (by omega) (by omega) d_Re_provesSound_8 rfl (fun h8t => ?_) (fun h8f => ?_)
  · refine fk_iconst (v := nI 0) d_Re_provesSound_29 (by decide +kernel) ?_
    refine fk_top (fn_rf (b := decide (ev = me) && (fe_cl sn c && fe_all sn nx c)) (by first | (rw [decide_eq_false h8t]; rfl) | (rw [h15t]; simp; done) | (rw [h22t]; simp; done) | (rw [decide_eq_true h8f, h15f, h22f]; rfl))) ?_
    exact hret (0, 0) _ 30 _ en d_Re_provesSound_30 (trivial) (rfl)
  · refine fk_aload_n 0 d_Re_provesSound_11 rfl ?_
    refine fk_callV (q0 := 0) (As := []) (rest := []) (is := [0, 1]) (ir := [2, 3, 4]) (ip := [3, 4, 0, 1, 2]) (wc := [(r0, .inr (4, [.ref r1, .ref r2, .ref r3, .ref r4, .int (nI c), .int (nI ev)])), fk_al E r1 200 sn]) (wr := [fk_aj E r3 1400 nx, fk_az E r4 200 en, (n0, .inr (2, [.ref n1, .ref n2, .ref n3, .ref n4, .int (nI cnt), .int (nI fi), .int (nI la), .int (nI lo), .int (nI me)]))]) (w2 := fun _ => [(r0, .inr (4, [.ref r1, .ref r2, .ref r3, .ref r4, .int (nI c), .int (nI ev)])), fk_al E r1 200 sn, fk_aj E r3 1400 nx, fk_az E r4 200 en, (n0, .inr (2, [.ref n1, .ref n2, .ref n3, .ref n4, .int (nI cnt), .int (nI fi), .int (nI la), .int (nI lo), .int (nI me)]))]) (cR_sinkMeansFinal E r0 r1 r2 r3 r4 c ev sn (by first | omega | assumption) (by first | omega | assumption)) d_Re_provesSound_12 fz_Re_sinkMeansFinal fw_422 rfl rfl fw_424 fw_p11 ⟨Nat.le_of_ble_eq_true rfl, Nat.le_of_ble_eq_true rfl⟩ rfl (Nat.le_of_ble_eq_true rfl) ⟨Nat.zero_le _, Nat.zero_le _⟩ ⟨rfl, rfl, rfl, rfl, by decide, fun _ => rfl, rfl⟩ (fun u hu12 => ?_)
    show fk_V E _ K (0, 0) [(r0, .inr (4, [.ref r1, .ref r2, .ref r3, .ref r4, .int (nI c), .int (nI ev)])), fk_al E r1 200 sn, fk_aj E r3 1400 nx, fk_az E r4 200 en, (n0, .inr (2, [.ref n1, .ref n2, .ref n3, .ref n4, .int (nI cnt), .int (nI fi), .int (nI la), .int (nI lo), .int (nI me)]))] 15 [(0, .ref r0), (1, .ref n0)] [.int (nI (Bool.toNat (fe_cl sn c)))]
    refine fk_if_eqB (b := (fe_cl sn c)) d_Re_provesSound_15 rfl (fun h15t => ?_) (fun h15f => ?_)
    · refine fk_iconst (v := nI 0) d_Re_provesSound_29 (by decide +kernel) ?_
      refine fk_top (fn_rf (b := decide (ev = me) && (fe_cl sn c && fe_all sn nx c)) (by first | (rw [decide_eq_false h8t]; rfl) | (rw [h15t]; simp; done) | (rw [h22t]; simp; done) | (rw [decide_eq_true h8f, h15f, h22f]; rfl))) ?_
      exact hret (0, 0) _ 30 _ en d_Re_provesSound_30 (trivial) (rfl)
    · refine fk_aload_n 0 d_Re_provesSound_18 rfl ?_
      refine fk_callV (q0 := 0) (As := []) (rest := []) (is := [0, 1, 2, 3]) (ir := [4]) (ip := [1, 2, 3, 4, 0]) (wc := [(r0, .inr (4, [.ref r1, .ref r2, .ref r3, .ref r4, .int (nI c), .int (nI ev)])), fk_al E r1 200 sn, fk_aj E r3 1400 nx, fk_az E r4 200 en]) (wr := [(n0, .inr (2, [.ref n1, .ref n2, .ref n3, .ref n4, .int (nI cnt), .int (nI fi), .int (nI la), .int (nI lo), .int (nI me)]))]) (w2 := fun u => [(r0, .inr (4, [.ref r1, .ref r2, .ref r3, .ref r4, .int (nI c), .int (nI ev)])), fk_al E r1 200 sn, fk_aj E r3 1400 nx, fk_az E r4 200 u, (n0, .inr (2, [.ref n1, .ref n2, .ref n3, .ref n4, .int (nI cnt), .int (nI fi), .int (nI la), .int (nI lo), .int (nI me)]))]) (cR_allCanEnd E r0 r1 r2 r3 r4 c ev sn nx en (by first | omega | assumption) (by first | omega | assumption) (by first | omega | assumption)) d_Re_provesSound_19 fz_Re_allCanEnd fw_428 rfl rfl fw_430 fw_p12 ⟨Nat.le_of_ble_eq_true rfl, Nat.le_of_ble_eq_true rfl⟩ rfl (Nat.le_of_ble_eq_true rfl) ⟨Nat.zero_le _, Nat.zero_le _⟩ ⟨rfl, rfl, rfl, rfl, by decide, fun _ => rfl, rfl⟩ (fun u hu19 => ?_)
      obtain ⟨en9_19, rfl⟩ : ∃ z, z = u := ⟨_, rfl⟩
      show fk_V E _ K (0, 0) [(r0, .inr (4, [.ref r1, .ref r2, .ref r3, .ref r4, .int (nI c), .int (nI ev)])), fk_al E r1 200 sn, fk_aj E r3 1400 nx, fk_az E r4 200 en9_19, (n0, .inr (2, [.ref n1, .ref n2, .ref n3, .ref n4, .int (nI cnt), .int (nI fi), .int (nI la), .int (nI lo), .int (nI me)]))] 22 [(0, .ref r0), (1, .ref n0)] [.int (nI (Bool.toNat (fe_all sn nx c)))]
      refine fk_if_eqB (b := (fe_all sn nx c)) d_Re_provesSound_22 rfl (fun h22t => ?_) (fun h22f => ?_)
      · refine fk_iconst (v := nI 0) d_Re_provesSound_29 (by decide +kernel) ?_
        refine fk_top (fn_rf (b := decide (ev = me) && (fe_cl sn c && fe_all sn nx c)) (by first | (rw [decide_eq_false h8t]; rfl) | (rw [h15t]; simp; done) | (rw [h22t]; simp; done) | (rw [decide_eq_true h8f, h15f, h22f]; rfl))) ?_
        exact hret (0, 0) _ 30 _ en9_19 d_Re_provesSound_30 (trivial) (rfl)
      · refine fk_iconst (v := nI 1) d_Re_provesSound_25 (by decide +kernel) ?_
        refine fk_goto d_Re_provesSound_26 rfl ?_
        refine fk_top (fn_rt (b := decide (ev = me) && (fe_cl sn c && fe_all sn nx c)) (by first | (rw [decide_eq_false h8t]; rfl) | (rw [h15t]; simp; done) | (rw [h22t]; simp; done) | (rw [decide_eq_true h8f, h15f, h22f]; rfl))) ?_
        exact hret (0, 0) _ 30 _ en9_19 d_Re_provesSound_30 (trivial) (rfl)
