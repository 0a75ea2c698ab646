theorem d_F_netOf_0 : decode prog_1_method_24_code 0 = .ok (.iload_n 1, 1) := by decide +kernel
theorem d_F_netOf_1 : decode prog_1_method_24_code 1 = .ok (.ifCond .ne 8, 3) := by decide +kernel
theorem d_F_netOf_4 : decode prog_1_method_24_code 4 = .ok (.aload_n 0, 1) := by decide +kernel
theorem d_F_netOf_5 : decode prog_1_method_24_code 5 = .ok (.getfield 19, 3) := by decide +kernel
theorem d_F_netOf_8 : decode prog_1_method_24_code 8 = .ok (.areturn, 1) := by decide +kernel
theorem d_F_netOf_9 : decode prog_1_method_24_code 9 = .ok (.iload_n 1, 1) := by decide +kernel
theorem d_F_netOf_10 : decode prog_1_method_24_code 10 = .ok (.iconst 1, 1) := by decide +kernel
theorem d_F_netOf_11 : decode prog_1_method_24_code 11 = .ok (.if_icmp .ne 10, 3) := by decide +kernel
theorem d_F_netOf_14 : decode prog_1_method_24_code 14 = .ok (.aload_n 0, 1) := by decide +kernel
theorem d_F_netOf_15 : decode prog_1_method_24_code 15 = .ok (.getfield 23, 3) := by decide +kernel
theorem d_F_netOf_18 : decode prog_1_method_24_code 18 = .ok (.goto 4, 3) := by decide +kernel
theorem d_F_netOf_21 : decode prog_1_method_24_code 21 = .ok (.aconst_null, 1) := by decide +kernel
theorem d_F_netOf_22 : decode prog_1_method_24_code 22 = .ok (.areturn, 1) := by decide +kernel
set_option maxRecDepth 20000 in
set_option maxHeartbeats 4000000 in
theorem cX_netOf0 (E : fk_E) (x0 : Nat) (a0 : Nat) (n0 : Nat) (m0 : Nat) (i0 : Nat) (r0 : Nat) (p0 : Nat)  : fk_C E fy_F_netOf prog_1_method_24_code 2 (some (.object "FootprintNet$Net")) 0 0 0 [.ref x0, .int (nI 0)] [(x0, .inr (0, [.ref a0, .ref n0, .ref m0, .ref i0, .ref r0, .ref p0]))] (S := Unit) (fun _ => some (.ref n0)) (fun _ => True) (fun _ => [(x0, .inr (0, [.ref a0, .ref n0, .ref m0, .ref i0, .ref r0, .ref p0]))]) := by
  refine fk_enterA (v := fun _ => .ref n0) (fun _ => Or.inr ⟨_, rfl⟩) (by decide) (Nat.le_of_ble_eq_true rfl) (lv0 := [(0, .ref x0), (1, .int (nI 0))]) rfl ?_
  intro K hini hret
  refine fk_iload_n 1 d_F_netOf_0 rfl ?_
  refine fk_if_ne (a := 0) (by omega) d_F_netOf_1 rfl (fun h1t => ?_) (fun h1f => ?_)
  · exact absurd h1t (by decide)
  · refine fk_aload_n 0 d_F_netOf_4 rfl ?_
    refine fk_get 0 1 rfl rfl fh_F (Nat.le_of_ble_eq_true rfl) fw_135 rfl d_F_netOf_5 ?_
    exact hret (0, 0) _ 8 _ () d_F_netOf_8 (trivial) (rfl)
set_option maxRecDepth 20000 in
set_option maxHeartbeats 4000000 in
theorem cX_netOf1 (E : fk_E) (x0 : Nat) (a0 : Nat) (n0 : Nat) (m0 : Nat) (i0 : Nat) (r0 : Nat) (p0 : Nat)  : fk_C E fy_F_netOf prog_1_method_24_code 2 (some (.object "FootprintNet$Net")) 0 0 0 [.ref x0, .int (nI 1)] [(x0, .inr (0, [.ref a0, .ref n0, .ref m0, .ref i0, .ref r0, .ref p0]))] (S := Unit) (fun _ => some (.ref m0)) (fun _ => True) (fun _ => [(x0, .inr (0, [.ref a0, .ref n0, .ref m0, .ref i0, .ref r0, .ref p0]))]) := by
  refine fk_enterA (v := fun _ => .ref m0) (fun _ => Or.inr ⟨_, rfl⟩) (by decide) (Nat.le_of_ble_eq_true rfl) (lv0 := [(0, .ref x0), (1, .int (nI 1))]) rfl ?_
  intro K hini hret
  refine fk_iload_n 1 d_F_netOf_0 rfl ?_
  refine fk_if_ne (a := 1) (by omega) d_F_netOf_1 rfl (fun h1t => ?_) (fun h1f => ?_)
  · refine fk_iload_n 1 d_F_netOf_9 rfl ?_
    refine fk_iconst (v := nI 1) d_F_netOf_10 (by decide +kernel) ?_
    refine fk_icmp_ne (a := 1) (b := 1) (by omega) (by omega) d_F_netOf_11 rfl (fun h11t => ?_) (fun h11f => ?_)
    · exact absurd h11t (by decide)
    · refine fk_aload_n 0 d_F_netOf_14 rfl ?_
      refine fk_get 0 2 rfl rfl fh_F (Nat.le_of_ble_eq_true rfl) fw_136 rfl d_F_netOf_15 ?_
      refine fk_goto d_F_netOf_18 rfl ?_
      exact hret (0, 0) _ 22 _ () d_F_netOf_22 (trivial) (rfl)
  · exact absurd h1f (by decide)
set_option maxRecDepth 20000 in
set_option maxHeartbeats 4000000 in
theorem cX_netOfO (E : fk_E) (x0 : Nat) (a0 : Nat) (n0 : Nat) (m0 : Nat) (i0 : Nat) (r0 : Nat) (p0 : Nat) (t : Nat) (h : 2 ≤ t) (h2 : t < 2 ^ 31) : fk_C E fy_F_netOf prog_1_method_24_code 2 (some (.object "FootprintNet$Net")) 0 0 0 [.ref x0, .int (nI t)] [(x0, .inr (0, [.ref a0, .ref n0, .ref m0, .ref i0, .ref r0, .ref p0]))] (S := Unit) (fun _ => some (.null)) (fun _ => True) (fun _ => [(x0, .inr (0, [.ref a0, .ref n0, .ref m0, .ref i0, .ref r0, .ref p0]))]) := by
  refine fk_enterA (v := fun _ => .null) (fun _ => Or.inl rfl) (by decide) (Nat.le_of_ble_eq_true rfl) (lv0 := [(0, .ref x0), (1, .int (nI t))]) rfl ?_
  intro K hini hret
  refine fk_iload_n 1 d_F_netOf_0 rfl ?_
  refine fk_if_ne (a := t) (by omega) d_F_netOf_1 rfl (fun h1t => ?_) (fun h1f => ?_)
  · refine fk_iload_n 1 d_F_netOf_9 rfl ?_
    refine fk_iconst (v := nI 1) d_F_netOf_10 (by decide +kernel) ?_
    refine fk_icmp_ne (a := t) (b := 1) (by omega) (by omega) d_F_netOf_11 rfl (fun h11t => ?_) (fun h11f => ?_)
    · refine fk_null d_F_netOf_21 ?_
      exact hret (0, 0) _ 22 _ () d_F_netOf_22 (trivial) (rfl)
    · omega
  · omega
set_option maxRecDepth 20000 in
set_option maxHeartbeats 4000000 in
theorem cX_netOfM (E : fk_E) (x0 : Nat) (a0 : Nat) (n0 : Nat) (m0 : Nat) (i0 : Nat) (r0 : Nat) (p0 : Nat) (x : Int32) (hx : x < 0) : fk_C E fy_F_netOf prog_1_method_24_code 2 (some (.object "FootprintNet$Net")) 0 0 0 [.ref x0, .int x] [(x0, .inr (0, [.ref a0, .ref n0, .ref m0, .ref i0, .ref r0, .ref p0]))] (S := Unit) (fun _ => some (.null)) (fun _ => True) (fun _ => [(x0, .inr (0, [.ref a0, .ref n0, .ref m0, .ref i0, .ref r0, .ref p0]))]) := by
  refine fk_enterA (v := fun _ => .null) (fun _ => Or.inl rfl) (by decide) (Nat.le_of_ble_eq_true rfl) (lv0 := [(0, .ref x0), (1, .int x)]) rfl ?_
  intro K hini hret
  refine fk_iload_n 1 d_F_netOf_0 rfl ?_
  refine fk_if_neR d_F_netOf_1 rfl (fun h1t => ?_) (fun h1f => ?_)
  · refine fk_iload_n 1 d_F_netOf_9 rfl ?_
    refine fk_iconst (v := nI 1) d_F_netOf_10 (by decide +kernel) ?_
    refine fk_icmp_neR d_F_netOf_11 rfl (fun h11t => ?_) (fun h11f => ?_)
    · refine fk_null d_F_netOf_21 ?_
      exact hret (0, 0) _ 22 _ () d_F_netOf_22 (trivial) (rfl)
    · rw [h11f] at hx; exact absurd hx (by decide)
  · rw [h1f] at hx; exact absurd hx (by decide)
theorem d_F_places_0 : decode prog_1_method_12_code 0 = .ok (.aload_n 0, 1) := by decide +kernel
theorem d_F_places_1 : decode prog_1_method_12_code 1 = .ok (.iload_n 1, 1) := by decide +kernel
theorem d_F_places_2 : decode prog_1_method_12_code 2 = .ok (.invokevirtual 106, 3) := by decide +kernel
theorem d_F_places_5 : decode prog_1_method_12_code 5 = .ok (.astore_n 2, 1) := by decide +kernel
theorem d_F_places_6 : decode prog_1_method_12_code 6 = .ok (.aload_n 2, 1) := by decide +kernel
theorem d_F_places_7 : decode prog_1_method_12_code 7 = .ok (.ifnonnull 7, 3) := by decide +kernel
theorem d_F_places_10 : decode prog_1_method_12_code 10 = .ok (.iconst (-1), 1) := by decide +kernel
theorem d_F_places_11 : decode prog_1_method_12_code 11 = .ok (.goto 7, 3) := by decide +kernel
theorem d_F_places_14 : decode prog_1_method_12_code 14 = .ok (.aload_n 2, 1) := by decide +kernel
theorem d_F_places_15 : decode prog_1_method_12_code 15 = .ok (.invokevirtual 87, 3) := by decide +kernel
theorem d_F_places_18 : decode prog_1_method_12_code 18 = .ok (.ireturn, 1) := by decide +kernel
set_option maxRecDepth 20000 in
set_option maxHeartbeats 4000000 in
theorem cX_places0 (E : fk_E) (x0 : Nat) (a0 : Nat) (n0 : Nat) (m0 : Nat) (i0 : Nat) (r0 : Nat) (p0 : Nat) (n1 : Nat) (n2 : Nat) (n3 : Nat) (n4 : Nat) (cnt : Nat) (fi : Nat) (la : Nat) (lo : Nat) (me : Nat)  : fk_C E fy_F_places prog_1_method_12_code 3 (some .int) 1 0 0 [.ref x0, .int (nI 0)] [(x0, .inr (0, [.ref a0, .ref n0, .ref m0, .ref i0, .ref r0, .ref p0])), (n0, .inr (2, [.ref n1, .ref n2, .ref n3, .ref n4, .int (nI cnt), .int (nI fi), .int (nI la), .int (nI lo), .int (nI me)]))] (S := Unit) (fun _ => some (.int (nI cnt))) (fun _ => True) (fun _ => [(x0, .inr (0, [.ref a0, .ref n0, .ref m0, .ref i0, .ref r0, .ref p0])), (n0, .inr (2, [.ref n1, .ref n2, .ref n3, .ref n4, .int (nI cnt), .int (nI fi), .int (nI la), .int (nI lo), .int (nI me)]))]) := by
  refine fk_enterI (v := fun _ => (nI cnt)) (by decide) (Nat.le_of_ble_eq_true rfl) (lv0 := [(0, .ref x0), (1, .int (nI 0))]) rfl ?_
  intro K hini hret
  refine fk_aload_n 0 d_F_places_0 rfl ?_
  refine fk_iload_n 1 d_F_places_1 rfl ?_
  refine fk_callV (q0 := 0) (As := [.int (nI 0)]) (rest := []) (is := [0]) (ir := [1]) (ip := [1, 0]) (wc := [(x0, .inr (0, [.ref a0, .ref n0, .ref m0, .ref i0, .ref r0, .ref p0]))]) (wr := [(n0, .inr (2, [.ref n1, .ref n2, .ref n3, .ref n4, .int (nI cnt), .int (nI fi), .int (nI la), .int (nI lo), .int (nI me)]))]) (w2 := fun _ => [(x0, .inr (0, [.ref a0, .ref n0, .ref m0, .ref i0, .ref r0, .ref p0])), (n0, .inr (2, [.ref n1, .ref n2, .ref n3, .ref n4, .int (nI cnt), .int (nI fi), .int (nI la), .int (nI lo), .int (nI me)]))]) (cX_netOf0 E x0 a0 n0 m0 i0 r0 p0 ) d_F_places_2 fz_F_netOf fw_332 rfl rfl fw_334 fw_p6 ⟨Nat.le_of_ble_eq_true rfl, Nat.le_of_ble_eq_true rfl⟩ rfl (Nat.le_of_ble_eq_true rfl) ⟨Nat.zero_le _, Nat.zero_le _⟩ ⟨rfl, rfl, rfl, rfl, by decide, fun _ => rfl, rfl⟩ (fun u hu2 => ?_)
  show fk_V E _ K (0, 0) [(x0, .inr (0, [.ref a0, .ref n0, .ref m0, .ref i0, .ref r0, .ref p0])), (n0, .inr (2, [.ref n1, .ref n2, .ref n3, .ref n4, .int (nI cnt), .int (nI fi), .int (nI la), .int (nI lo), .int (nI me)]))] 5 [(0, .ref x0), (1, .int (nI 0))] [.ref n0]
  refine fk_astore_n (lv' := [(0, .ref x0), (1, .int (nI 0)), (2, .ref n0)]) d_F_places_5 rfl (Nat.le_of_ble_eq_true rfl) [1, 2, 0] rfl ?_
  refine fk_aload_n 2 d_F_places_6 rfl ?_
  refine fk_ifnonnull d_F_places_7 rfl ?_
  refine fk_aload_n 2 d_F_places_14 rfl ?_
  refine fk_callV (q0 := 1) (As := []) (rest := []) (is := [1]) (ir := [0]) (ip := [0, 1]) (wc := [(n0, .inr (2, [.ref n1, .ref n2, .ref n3, .ref n4, .int (nI cnt), .int (nI fi), .int (nI la), .int (nI lo), .int (nI me)]))]) (wr := [(x0, .inr (0, [.ref a0, .ref n0, .ref m0, .ref i0, .ref r0, .ref p0]))]) (w2 := fun _ => [(x0, .inr (0, [.ref a0, .ref n0, .ref m0, .ref i0, .ref r0, .ref p0])), (n0, .inr (2, [.ref n1, .ref n2, .ref n3, .ref n4, .int (nI cnt), .int (nI fi), .int (nI la), .int (nI lo), .int (nI me)]))]) (cN_placeCount E n0 n1 n2 n3 n4 cnt fi la lo me ) d_F_places_15 fz_Nt_placeCount fw_302 rfl rfl fw_303 fw_304 ⟨Nat.le_of_ble_eq_true rfl, Nat.le_of_ble_eq_true rfl⟩ rfl (Nat.le_of_ble_eq_true rfl) ⟨Nat.zero_le _, Nat.zero_le _⟩ ⟨rfl, rfl, rfl, rfl, by decide, fun _ => rfl, rfl⟩ (fun u hu15 => ?_)
  show fk_V E _ K (0, 0) [(x0, .inr (0, [.ref a0, .ref n0, .ref m0, .ref i0, .ref r0, .ref p0])), (n0, .inr (2, [.ref n1, .ref n2, .ref n3, .ref n4, .int (nI cnt), .int (nI fi), .int (nI la), .int (nI lo), .int (nI me)]))] 18 [(0, .ref x0), (1, .int (nI 0)), (2, .ref n0)] [.int (nI cnt)]
  exact hret (0, 0) _ 18 _ () d_F_places_18 (trivial) (rfl)
set_option maxRecDepth 20000 in
set_option maxHeartbeats 4000000 in
theorem cX_places1 (E : fk_E) (x0 : Nat) (a0 : Nat) (n0 : Nat) (m0 : Nat) (i0 : Nat) (r0 : Nat) (p0 : Nat) (m1 : Nat) (m2 : Nat) (m3 : Nat) (m4 : Nat) (cn2 : Nat) (fi2 : Nat) (la2 : Nat) (lo2 : Nat) (me2 : Nat)  : fk_C E fy_F_places prog_1_method_12_code 3 (some .int) 1 0 0 [.ref x0, .int (nI 1)] [(x0, .inr (0, [.ref a0, .ref n0, .ref m0, .ref i0, .ref r0, .ref p0])), (m0, .inr (2, [.ref m1, .ref m2, .ref m3, .ref m4, .int (nI cn2), .int (nI fi2), .int (nI la2), .int (nI lo2), .int (nI me2)]))] (S := Unit) (fun _ => some (.int (nI cn2))) (fun _ => True) (fun _ => [(x0, .inr (0, [.ref a0, .ref n0, .ref m0, .ref i0, .ref r0, .ref p0])), (m0, .inr (2, [.ref m1, .ref m2, .ref m3, .ref m4, .int (nI cn2), .int (nI fi2), .int (nI la2), .int (nI lo2), .int (nI me2)]))]) := by
  refine fk_enterI (v := fun _ => (nI cn2)) (by decide) (Nat.le_of_ble_eq_true rfl) (lv0 := [(0, .ref x0), (1, .int (nI 1))]) rfl ?_
  intro K hini hret
  refine fk_aload_n 0 d_F_places_0 rfl ?_
  refine fk_iload_n 1 d_F_places_1 rfl ?_
  refine fk_callV (q0 := 0) (As := [.int (nI 1)]) (rest := []) (is := [0]) (ir := [1]) (ip := [1, 0]) (wc := [(x0, .inr (0, [.ref a0, .ref n0, .ref m0, .ref i0, .ref r0, .ref p0]))]) (wr := [(m0, .inr (2, [.ref m1, .ref m2, .ref m3, .ref m4, .int (nI cn2), .int (nI fi2), .int (nI la2), .int (nI lo2), .int (nI me2)]))]) (w2 := fun _ => [(x0, .inr (0, [.ref a0, .ref n0, .ref m0, .ref i0, .ref r0, .ref p0])), (m0, .inr (2, [.ref m1, .ref m2, .ref m3, .ref m4, .int (nI cn2), .int (nI fi2), .int (nI la2), .int (nI lo2), .int (nI me2)]))]) (cX_netOf1 E x0 a0 n0 m0 i0 r0 p0 ) d_F_places_2 fz_F_netOf fw_332 rfl rfl fw_334 fw_p6 ⟨Nat.le_of_ble_eq_true rfl, Nat.le_of_ble_eq_true rfl⟩ rfl (Nat.le_of_ble_eq_true rfl) ⟨Nat.zero_le _, Nat.zero_le _⟩ ⟨rfl, rfl, rfl, rfl, by decide, fun _ => rfl, rfl⟩ (fun u hu2 => ?_)
  show fk_V E _ K (0, 0) [(x0, .inr (0, [.ref a0, .ref n0, .ref m0, .ref i0, .ref r0, .ref p0])), (m0, .inr (2, [.ref m1, .ref m2, .ref m3, .ref m4, .int (nI cn2), .int (nI fi2), .int (nI la2), .int (nI lo2), .int (nI me2)]))] 5 [(0, .ref x0), (1, .int (nI 1))] [.ref m0]
  refine fk_astore_n (lv' := [(0, .ref x0), (1, .int (nI 1)), (2, .ref m0)]) d_F_places_5 rfl (Nat.le_of_ble_eq_true rfl) [1, 2, 0] rfl ?_
  refine fk_aload_n 2 d_F_places_6 rfl ?_
  refine fk_ifnonnull d_F_places_7 rfl ?_
  refine fk_aload_n 2 d_F_places_14 rfl ?_
  refine fk_callV (q0 := 1) (As := []) (rest := []) (is := [1]) (ir := [0]) (ip := [0, 1]) (wc := [(m0, .inr (2, [.ref m1, .ref m2, .ref m3, .ref m4, .int (nI cn2), .int (nI fi2), .int (nI la2), .int (nI lo2), .int (nI me2)]))]) (wr := [(x0, .inr (0, [.ref a0, .ref n0, .ref m0, .ref i0, .ref r0, .ref p0]))]) (w2 := fun _ => [(x0, .inr (0, [.ref a0, .ref n0, .ref m0, .ref i0, .ref r0, .ref p0])), (m0, .inr (2, [.ref m1, .ref m2, .ref m3, .ref m4, .int (nI cn2), .int (nI fi2), .int (nI la2), .int (nI lo2), .int (nI me2)]))]) (cN_placeCount E m0 m1 m2 m3 m4 cn2 fi2 la2 lo2 me2 ) d_F_places_15 fz_Nt_placeCount fw_302 rfl rfl fw_303 fw_304 ⟨Nat.le_of_ble_eq_true rfl, Nat.le_of_ble_eq_true rfl⟩ rfl (Nat.le_of_ble_eq_true rfl) ⟨Nat.zero_le _, Nat.zero_le _⟩ ⟨rfl, rfl, rfl, rfl, by decide, fun _ => rfl, rfl⟩ (fun u hu15 => ?_)
  show fk_V E _ K (0, 0) [(x0, .inr (0, [.ref a0, .ref n0, .ref m0, .ref i0, .ref r0, .ref p0])), (m0, .inr (2, [.ref m1, .ref m2, .ref m3, .ref m4, .int (nI cn2), .int (nI fi2), .int (nI la2), .int (nI lo2), .int (nI me2)]))] 18 [(0, .ref x0), (1, .int (nI 1)), (2, .ref m0)] [.int (nI cn2)]
  exact hret (0, 0) _ 18 _ () d_F_places_18 (trivial) (rfl)
set_option maxRecDepth 20000 in
set_option maxHeartbeats 4000000 in
theorem cX_placesO (E : fk_E) (x0 : Nat) (a0 : Nat) (n0 : Nat) (m0 : Nat) (i0 : Nat) (r0 : Nat) (p0 : Nat) (t : Nat) (h : 2 ≤ t) (h2 : t < 2 ^ 31) : fk_C E fy_F_places prog_1_method_12_code 3 (some .int) 1 0 0 [.ref x0, .int (nI t)] [(x0, .inr (0, [.ref a0, .ref n0, .ref m0, .ref i0, .ref r0, .ref p0]))] (S := Unit) (fun _ => some (.int (nI 0 - 1))) (fun _ => True) (fun _ => [(x0, .inr (0, [.ref a0, .ref n0, .ref m0, .ref i0, .ref r0, .ref p0]))]) := by
  refine fk_enterI (v := fun _ => (nI 0 - 1)) (by decide) (Nat.le_of_ble_eq_true rfl) (lv0 := [(0, .ref x0), (1, .int (nI t))]) rfl ?_
  intro K hini hret
  refine fk_aload_n 0 d_F_places_0 rfl ?_
  refine fk_iload_n 1 d_F_places_1 rfl ?_
  refine fk_callV (q0 := 0) (As := [.int (nI t)]) (rest := []) (is := [0]) (ir := []) (ip := [0]) (wc := [(x0, .inr (0, [.ref a0, .ref n0, .ref m0, .ref i0, .ref r0, .ref p0]))]) (wr := []) (w2 := fun _ => [(x0, .inr (0, [.ref a0, .ref n0, .ref m0, .ref i0, .ref r0, .ref p0]))]) (cX_netOfO E x0 a0 n0 m0 i0 r0 p0 t (by first | omega | assumption) (by first | omega | assumption)) d_F_places_2 fz_F_netOf fw_332 rfl rfl fw_334 fw_p6 ⟨Nat.le_of_ble_eq_true rfl, Nat.le_of_ble_eq_true rfl⟩ rfl (Nat.le_of_ble_eq_true rfl) ⟨Nat.zero_le _, Nat.zero_le _⟩ ⟨rfl, rfl, rfl, rfl, by decide, fun _ => rfl, rfl⟩ (fun u hu2 => ?_)
  show fk_V E _ K (0, 0) [(x0, .inr (0, [.ref a0, .ref n0, .ref m0, .ref i0, .ref r0, .ref p0]))] 5 [(0, .ref x0), (1, .int (nI t))] [.null]
  refine fk_astoreN_n (lv' := [(0, .ref x0), (1, .int (nI t)), (2, .null)]) d_F_places_5 rfl (Nat.le_of_ble_eq_true rfl) [1, 2, 0] rfl ?_
  refine fk_aloadN_n 2 d_F_places_6 rfl ?_
  refine fk_ifnonnullN d_F_places_7 ?_
  refine fk_iconst (v := nI 0 - 1) d_F_places_10 (by decide +kernel) ?_
  refine fk_goto d_F_places_11 rfl ?_
  exact hret (0, 0) _ 18 _ () d_F_places_18 (trivial) (rfl)
set_option maxRecDepth 20000 in
set_option maxHeartbeats 4000000 in
theorem cX_placesM (E : fk_E) (x0 : Nat) (a0 : Nat) (n0 : Nat) (m0 : Nat) (i0 : Nat) (r0 : Nat) (p0 : Nat) (x : Int32) (hx : x < 0) : fk_C E fy_F_places prog_1_method_12_code 3 (some .int) 1 0 0 [.ref x0, .int x] [(x0, .inr (0, [.ref a0, .ref n0, .ref m0, .ref i0, .ref r0, .ref p0]))] (S := Unit) (fun _ => some (.int (nI 0 - 1))) (fun _ => True) (fun _ => [(x0, .inr (0, [.ref a0, .ref n0, .ref m0, .ref i0, .ref r0, .ref p0]))]) := by
  refine fk_enterI (v := fun _ => (nI 0 - 1)) (by decide) (Nat.le_of_ble_eq_true rfl) (lv0 := [(0, .ref x0), (1, .int x)]) rfl ?_
  intro K hini hret
  refine fk_aload_n 0 d_F_places_0 rfl ?_
  refine fk_iload_n 1 d_F_places_1 rfl ?_
  refine fk_callV (q0 := 0) (As := [.int x]) (rest := []) (is := [0]) (ir := []) (ip := [0]) (wc := [(x0, .inr (0, [.ref a0, .ref n0, .ref m0, .ref i0, .ref r0, .ref p0]))]) (wr := []) (w2 := fun _ => [(x0, .inr (0, [.ref a0, .ref n0, .ref m0, .ref i0, .ref r0, .ref p0]))]) (cX_netOfM E x0 a0 n0 m0 i0 r0 p0 x (by first | omega | assumption)) d_F_places_2 fz_F_netOf fw_332 rfl rfl fw_334 fw_p6 ⟨Nat.le_of_ble_eq_true rfl, Nat.le_of_ble_eq_true rfl⟩ rfl (Nat.le_of_ble_eq_true rfl) ⟨Nat.zero_le _, Nat.zero_le _⟩ ⟨rfl, rfl, rfl, rfl, by decide, fun _ => rfl, rfl⟩ (fun u hu2 => ?_)
  show fk_V E _ K (0, 0) [(x0, .inr (0, [.ref a0, .ref n0, .ref m0, .ref i0, .ref r0, .ref p0]))] 5 [(0, .ref x0), (1, .int x)] [.null]
  refine fk_astoreN_n (lv' := [(0, .ref x0), (1, .int x), (2, .null)]) d_F_places_5 rfl (Nat.le_of_ble_eq_true rfl) [1, 2, 0] rfl ?_
  refine fk_aloadN_n 2 d_F_places_6 rfl ?_
  refine fk_ifnonnullN d_F_places_7 ?_
  refine fk_iconst (v := nI 0 - 1) d_F_places_10 (by decide +kernel) ?_
  refine fk_goto d_F_places_11 rfl ?_
  exact hret (0, 0) _ 18 _ () d_F_places_18 (trivial) (rfl)
theorem d_F_inputs_0 : decode prog_1_method_13_code 0 = .ok (.aload_n 0, 1) := by decide +kernel
theorem d_F_inputs_1 : decode prog_1_method_13_code 1 = .ok (.iload_n 1, 1) := by decide +kernel
theorem d_F_inputs_2 : decode prog_1_method_13_code 2 = .ok (.invokevirtual 106, 3) := by decide +kernel
theorem d_F_inputs_5 : decode prog_1_method_13_code 5 = .ok (.astore_n 3, 1) := by decide +kernel
theorem d_F_inputs_6 : decode prog_1_method_13_code 6 = .ok (.aload_n 3, 1) := by decide +kernel
theorem d_F_inputs_7 : decode prog_1_method_13_code 7 = .ok (.ifnull 15, 3) := by decide +kernel
theorem d_F_inputs_10 : decode prog_1_method_13_code 10 = .ok (.iload_n 2, 1) := by decide +kernel
theorem d_F_inputs_11 : decode prog_1_method_13_code 11 = .ok (.ifCond .lt 11, 3) := by decide +kernel
theorem d_F_inputs_14 : decode prog_1_method_13_code 14 = .ok (.iload_n 2, 1) := by decide +kernel
theorem d_F_inputs_15 : decode prog_1_method_13_code 15 = .ok (.aload_n 3, 1) := by decide +kernel
theorem d_F_inputs_16 : decode prog_1_method_13_code 16 = .ok (.invokevirtual 87, 3) := by decide +kernel
theorem d_F_inputs_19 : decode prog_1_method_13_code 19 = .ok (.if_icmp .le 5, 3) := by decide +kernel
theorem d_F_inputs_22 : decode prog_1_method_13_code 22 = .ok (.iconst (-1), 1) := by decide +kernel
theorem d_F_inputs_23 : decode prog_1_method_13_code 23 = .ok (.ireturn, 1) := by decide +kernel
theorem d_F_inputs_24 : decode prog_1_method_13_code 24 = .ok (.iload_n 2, 1) := by decide +kernel
theorem d_F_inputs_25 : decode prog_1_method_13_code 25 = .ok (.aload_n 3, 1) := by decide +kernel
theorem d_F_inputs_26 : decode prog_1_method_13_code 26 = .ok (.invokevirtual 87, 3) := by decide +kernel
theorem d_F_inputs_29 : decode prog_1_method_13_code 29 = .ok (.if_icmp .ne 10, 3) := by decide +kernel
theorem d_F_inputs_32 : decode prog_1_method_13_code 32 = .ok (.aload_n 3, 1) := by decide +kernel
theorem d_F_inputs_33 : decode prog_1_method_13_code 33 = .ok (.invokevirtual 110, 3) := by decide +kernel
theorem d_F_inputs_36 : decode prog_1_method_13_code 36 = .ok (.goto 8, 3) := by decide +kernel
theorem d_F_inputs_39 : decode prog_1_method_13_code 39 = .ok (.aload_n 3, 1) := by decide +kernel
theorem d_F_inputs_40 : decode prog_1_method_13_code 40 = .ok (.iload_n 2, 1) := by decide +kernel
theorem d_F_inputs_41 : decode prog_1_method_13_code 41 = .ok (.invokevirtual 113, 3) := by decide +kernel
theorem d_F_inputs_44 : decode prog_1_method_13_code 44 = .ok (.ireturn, 1) := by decide +kernel
set_option maxRecDepth 20000 in
set_option maxHeartbeats 4000000 in
theorem cX_inputs0 (E : fk_E) (x0 : Nat) (a0 : Nat) (n0 : Nat) (m0 : Nat) (i0 : Nat) (r0 : Nat) (p0 : Nat) (n1 : Nat) (n2 : Nat) (n3 : Nat) (n4 : Nat) (cnt : Nat) (fi : Nat) (la : Nat) (lo : Nat) (me : Nat) (ins : Nat → Nat) (k : Nat) (hc : cnt ≤ 14) (hk : k < cnt) : fk_C E fy_F_inputs prog_1_method_13_code 4 (some .int) 1 0 0 [.ref x0, .int (nI 0), .int (nI k)] [(x0, .inr (0, [.ref a0, .ref n0, .ref m0, .ref i0, .ref r0, .ref p0])), (n0, .inr (2, [.ref n1, .ref n2, .ref n3, .ref n4, .int (nI cnt), .int (nI fi), .int (nI la), .int (nI lo), .int (nI me)])), fk_ai E n1 14 ins] (S := Unit) (fun _ => some (.int (nI (ins k)))) (fun _ => True) (fun _ => [(x0, .inr (0, [.ref a0, .ref n0, .ref m0, .ref i0, .ref r0, .ref p0])), (n0, .inr (2, [.ref n1, .ref n2, .ref n3, .ref n4, .int (nI cnt), .int (nI fi), .int (nI la), .int (nI lo), .int (nI me)])), fk_ai E n1 14 ins]) := by
  refine fk_enterI (v := fun _ => (nI (ins k))) (by decide) (Nat.le_of_ble_eq_true rfl) (lv0 := [(0, .ref x0), (1, .int (nI 0)), (2, .int (nI k))]) rfl ?_
  intro K hini hret
  refine fk_aload_n 0 d_F_inputs_0 rfl ?_
  refine fk_iload_n 1 d_F_inputs_1 rfl ?_
  refine fk_callV (q0 := 0) (As := [.int (nI 0)]) (rest := []) (is := [0]) (ir := [1, 2]) (ip := [2, 0, 1]) (wc := [(x0, .inr (0, [.ref a0, .ref n0, .ref m0, .ref i0, .ref r0, .ref p0]))]) (wr := [(n0, .inr (2, [.ref n1, .ref n2, .ref n3, .ref n4, .int (nI cnt), .int (nI fi), .int (nI la), .int (nI lo), .int (nI me)])), fk_ai E n1 14 ins]) (w2 := fun _ => [(x0, .inr (0, [.ref a0, .ref n0, .ref m0, .ref i0, .ref r0, .ref p0])), (n0, .inr (2, [.ref n1, .ref n2, .ref n3, .ref n4, .int (nI cnt), .int (nI fi), .int (nI la), .int (nI lo), .int (nI me)])), fk_ai E n1 14 ins]) (cX_netOf0 E x0 a0 n0 m0 i0 r0 p0 ) d_F_inputs_2 fz_F_netOf fw_332 rfl rfl fw_334 fw_p6 ⟨Nat.le_of_ble_eq_true rfl, Nat.le_of_ble_eq_true rfl⟩ rfl (Nat.le_of_ble_eq_true rfl) ⟨Nat.zero_le _, Nat.zero_le _⟩ ⟨rfl, rfl, rfl, rfl, by decide, fun _ => rfl, rfl⟩ (fun u hu2 => ?_)
  show fk_V E _ K (0, 0) [(x0, .inr (0, [.ref a0, .ref n0, .ref m0, .ref i0, .ref r0, .ref p0])), (n0, .inr (2, [.ref n1, .ref n2, .ref n3, .ref n4, .int (nI cnt), .int (nI fi), .int (nI la), .int (nI lo), .int (nI me)])), fk_ai E n1 14 ins] 5 [(0, .ref x0), (1, .int (nI 0)), (2, .int (nI k))] [.ref n0]
  refine fk_astore_n (lv' := [(0, .ref x0), (1, .int (nI 0)), (2, .int (nI k)), (3, .ref n0)]) d_F_inputs_5 rfl (Nat.le_of_ble_eq_true rfl) [1, 2, 3, 0] rfl ?_
  refine fk_aload_n 3 d_F_inputs_6 rfl ?_
  refine fk_ifnull d_F_inputs_7 ?_
  refine fk_iload_n 2 d_F_inputs_10 rfl ?_
  refine fk_if_lt (by omega) d_F_inputs_11 rfl ?_
  refine fk_iload_n 2 d_F_inputs_14 rfl ?_
  refine fk_aload_n 3 d_F_inputs_15 rfl ?_
  refine fk_callV (q0 := 1) (As := []) (rest := [.int (nI k)]) (is := [1]) (ir := [0, 2]) (ip := [0, 2, 1]) (wc := [(n0, .inr (2, [.ref n1, .ref n2, .ref n3, .ref n4, .int (nI cnt), .int (nI fi), .int (nI la), .int (nI lo), .int (nI me)]))]) (wr := [(x0, .inr (0, [.ref a0, .ref n0, .ref m0, .ref i0, .ref r0, .ref p0])), fk_ai E n1 14 ins]) (w2 := fun _ => [(x0, .inr (0, [.ref a0, .ref n0, .ref m0, .ref i0, .ref r0, .ref p0])), (n0, .inr (2, [.ref n1, .ref n2, .ref n3, .ref n4, .int (nI cnt), .int (nI fi), .int (nI la), .int (nI lo), .int (nI me)])), fk_ai E n1 14 ins]) (cN_placeCount E n0 n1 n2 n3 n4 cnt fi la lo me ) d_F_inputs_16 fz_Nt_placeCount fw_302 rfl rfl fw_303 fw_304 ⟨Nat.le_of_ble_eq_true rfl, Nat.le_of_ble_eq_true rfl⟩ rfl (Nat.le_of_ble_eq_true rfl) ⟨Nat.zero_le _, Nat.zero_le _⟩ ⟨rfl, rfl, rfl, rfl, by decide, fun _ => rfl, rfl⟩ (fun u hu16 => ?_)
  show fk_V E _ K (0, 0) [(x0, .inr (0, [.ref a0, .ref n0, .ref m0, .ref i0, .ref r0, .ref p0])), (n0, .inr (2, [.ref n1, .ref n2, .ref n3, .ref n4, .int (nI cnt), .int (nI fi), .int (nI la), .int (nI lo), .int (nI me)])), fk_ai E n1 14 ins] 19 [(0, .ref x0), (1, .int (nI 0)), (2, .int (nI k)), (3, .ref n0)] [.int (nI cnt), .int (nI k)]
  refine fk_icmp_le (a := k) (b := cnt) (by omega) (by omega) d_F_inputs_19 rfl (fun h19t => ?_) (fun h19f => ?_)
  · refine fk_iload_n 2 d_F_inputs_24 rfl ?_
    refine fk_aload_n 3 d_F_inputs_25 rfl ?_
    refine fk_callV (q0 := 1) (As := []) (rest := [.int (nI k)]) (is := [1]) (ir := [0, 2]) (ip := [0, 2, 1]) (wc := [(n0, .inr (2, [.ref n1, .ref n2, .ref n3, .ref n4, .int (nI cnt), .int (nI fi), .int (nI la), .int (nI lo), .int (nI me)]))]) (wr := [(x0, .inr (0, [.ref a0, .ref n0, .ref m0, .ref i0, .ref r0, .ref p0])), fk_ai E n1 14 ins]) (w2 := fun _ => [(x0, .inr (0, [.ref a0, .ref n0, .ref m0, .ref i0, .ref r0, .ref p0])), (n0, .inr (2, [.ref n1, .ref n2, .ref n3, .ref n4, .int (nI cnt), .int (nI fi), .int (nI la), .int (nI lo), .int (nI me)])), fk_ai E n1 14 ins]) (cN_placeCount E n0 n1 n2 n3 n4 cnt fi la lo me ) d_F_inputs_26 fz_Nt_placeCount fw_302 rfl rfl fw_303 fw_304 ⟨Nat.le_of_ble_eq_true rfl, Nat.le_of_ble_eq_true rfl⟩ rfl (Nat.le_of_ble_eq_true rfl) ⟨Nat.zero_le _, Nat.zero_le _⟩ ⟨rfl, rfl, rfl, rfl, by decide, fun _ => rfl, rfl⟩ (fun u hu26 => ?_)
    show fk_V E _ K (0, 0) [(x0, .inr (0, [.ref a0, .ref n0, .ref m0, .ref i0, .ref r0, .ref p0])), (n0, .inr (2, [.ref n1, .ref n2, .ref n3, .ref n4, .int (nI cnt), .int (nI fi), .int (nI la), .int (nI lo), .int (nI me)])), fk_ai E n1 14 ins] 29 [(0, .ref x0), (1, .int (nI 0)), (2, .int (nI k)), (3, .ref n0)] [.int (nI cnt), .int (nI k)]
    refine fk_icmp_ne (a := k) (b := cnt) (by omega) (by omega) d_F_inputs_29 rfl (fun h29t => ?_) (fun h29f => ?_)
    · refine fk_aload_n 3 d_F_inputs_39 rfl ?_
      refine fk_iload_n 2 d_F_inputs_40 rfl ?_
      refine fk_callV (q0 := 1) (As := [.int (nI k)]) (rest := []) (is := [1, 2]) (ir := [0]) (ip := [0, 1, 2]) (wc := [(n0, .inr (2, [.ref n1, .ref n2, .ref n3, .ref n4, .int (nI cnt), .int (nI fi), .int (nI la), .int (nI lo), .int (nI me)])), fk_ai E n1 14 ins]) (wr := [(x0, .inr (0, [.ref a0, .ref n0, .ref m0, .ref i0, .ref r0, .ref p0]))]) (w2 := fun _ => [(x0, .inr (0, [.ref a0, .ref n0, .ref m0, .ref i0, .ref r0, .ref p0])), (n0, .inr (2, [.ref n1, .ref n2, .ref n3, .ref n4, .int (nI cnt), .int (nI fi), .int (nI la), .int (nI lo), .int (nI me)])), fk_ai E n1 14 ins]) (cN_inputsOf E n0 n1 n2 n3 n4 cnt fi la lo me ins k (by first | omega | assumption)) d_F_inputs_41 fz_Nt_inputsOf fw_344 rfl rfl fw_345 fw_346 ⟨Nat.le_of_ble_eq_true rfl, Nat.le_of_ble_eq_true rfl⟩ rfl (Nat.le_of_ble_eq_true rfl) ⟨Nat.zero_le _, Nat.zero_le _⟩ ⟨rfl, rfl, rfl, rfl, by decide, fun _ => rfl, rfl⟩ (fun u hu41 => ?_)
      show fk_V E _ K (0, 0) [(x0, .inr (0, [.ref a0, .ref n0, .ref m0, .ref i0, .ref r0, .ref p0])), (n0, .inr (2, [.ref n1, .ref n2, .ref n3, .ref n4, .int (nI cnt), .int (nI fi), .int (nI la), .int (nI lo), .int (nI me)])), fk_ai E n1 14 ins] 44 [(0, .ref x0), (1, .int (nI 0)), (2, .int (nI k)), (3, .ref n0)] [.int (nI (ins k))]
      exact hret (0, 0) _ 44 _ () d_F_inputs_44 (trivial) (rfl)
    · omega
  · omega
set_option maxRecDepth 20000 in
set_option maxHeartbeats 4000000 in
theorem cX_inputs0E (E : fk_E) (x0 : Nat) (a0 : Nat) (n0 : Nat) (m0 : Nat) (i0 : Nat) (r0 : Nat) (p0 : Nat) (n1 : Nat) (n2 : Nat) (n3 : Nat) (n4 : Nat) (cnt : Nat) (fi : Nat) (la : Nat) (lo : Nat) (me : Nat) (ins : Nat → Nat) (k : Nat) (hc : cnt ≤ 14) (hk : k = cnt) : fk_C E fy_F_inputs prog_1_method_13_code 4 (some .int) 1 0 0 [.ref x0, .int (nI 0), .int (nI k)] [(x0, .inr (0, [.ref a0, .ref n0, .ref m0, .ref i0, .ref r0, .ref p0])), (n0, .inr (2, [.ref n1, .ref n2, .ref n3, .ref n4, .int (nI cnt), .int (nI fi), .int (nI la), .int (nI lo), .int (nI me)])), fk_ai E n1 14 ins] (S := Unit) (fun _ => some (.int (nI la))) (fun _ => True) (fun _ => [(x0, .inr (0, [.ref a0, .ref n0, .ref m0, .ref i0, .ref r0, .ref p0])), (n0, .inr (2, [.ref n1, .ref n2, .ref n3, .ref n4, .int (nI cnt), .int (nI fi), .int (nI la), .int (nI lo), .int (nI me)])), fk_ai E n1 14 ins]) := by
  refine fk_enterI (v := fun _ => (nI la)) (by decide) (Nat.le_of_ble_eq_true rfl) (lv0 := [(0, .ref x0), (1, .int (nI 0)), (2, .int (nI k))]) rfl ?_
  intro K hini hret
  refine fk_aload_n 0 d_F_inputs_0 rfl ?_
  refine fk_iload_n 1 d_F_inputs_1 rfl ?_
  refine fk_callV (q0 := 0) (As := [.int (nI 0)]) (rest := []) (is := [0]) (ir := [1, 2]) (ip := [2, 0, 1]) (wc := [(x0, .inr (0, [.ref a0, .ref n0, .ref m0, .ref i0, .ref r0, .ref p0]))]) (wr := [(n0, .inr (2, [.ref n1, .ref n2, .ref n3, .ref n4, .int (nI cnt), .int (nI fi), .int (nI la), .int (nI lo), .int (nI me)])), fk_ai E n1 14 ins]) (w2 := fun _ => [(x0, .inr (0, [.ref a0, .ref n0, .ref m0, .ref i0, .ref r0, .ref p0])), (n0, .inr (2, [.ref n1, .ref n2, .ref n3, .ref n4, .int (nI cnt), .int (nI fi), .int (nI la), .int (nI lo), .int (nI me)])), fk_ai E n1 14 ins]) (cX_netOf0 E x0 a0 n0 m0 i0 r0 p0 ) d_F_inputs_2 fz_F_netOf fw_332 rfl rfl fw_334 fw_p6 ⟨Nat.le_of_ble_eq_true rfl, Nat.le_of_ble_eq_true rfl⟩ rfl (Nat.le_of_ble_eq_true rfl) ⟨Nat.zero_le _, Nat.zero_le _⟩ ⟨rfl, rfl, rfl, rfl, by decide, fun _ => rfl, rfl⟩ (fun u hu2 => ?_)
  show fk_V E _ K (0, 0) [(x0, .inr (0, [.ref a0, .ref n0, .ref m0, .ref i0, .ref r0, .ref p0])), (n0, .inr (2, [.ref n1, .ref n2, .ref n3, .ref n4, .int (nI cnt), .int (nI fi), .int (nI la), .int (nI lo), .int (nI me)])), fk_ai E n1 14 ins] 5 [(0, .ref x0), (1, .int (nI 0)), (2, .int (nI k))] [.ref n0]
  refine fk_astore_n (lv' := [(0, .ref x0), (1, .int (nI 0)), (2, .int (nI k)), (3, .ref n0)]) d_F_inputs_5 rfl (Nat.le_of_ble_eq_true rfl) [1, 2, 3, 0] rfl ?_
  refine fk_aload_n 3 d_F_inputs_6 rfl ?_
  refine fk_ifnull d_F_inputs_7 ?_
  refine fk_iload_n 2 d_F_inputs_10 rfl ?_
  refine fk_if_lt (by omega) d_F_inputs_11 rfl ?_
  refine fk_iload_n 2 d_F_inputs_14 rfl ?_
  refine fk_aload_n 3 d_F_inputs_15 rfl ?_
  refine fk_callV (q0 := 1) (As := []) (rest := [.int (nI k)]) (is := [1]) (ir := [0, 2]) (ip := [0, 2, 1]) (wc := [(n0, .inr (2, [.ref n1, .ref n2, .ref n3, .ref n4, .int (nI cnt), .int (nI fi), .int (nI la), .int (nI lo), .int (nI me)]))]) (wr := [(x0, .inr (0, [.ref a0, .ref n0, .ref m0, .ref i0, .ref r0, .ref p0])), fk_ai E n1 14 ins]) (w2 := fun _ => [(x0, .inr (0, [.ref a0, .ref n0, .ref m0, .ref i0, .ref r0, .ref p0])), (n0, .inr (2, [.ref n1, .ref n2, .ref n3, .ref n4, .int (nI cnt), .int (nI fi), .int (nI la), .int (nI lo), .int (nI me)])), fk_ai E n1 14 ins]) (cN_placeCount E n0 n1 n2 n3 n4 cnt fi la lo me ) d_F_inputs_16 fz_Nt_placeCount fw_302 rfl rfl fw_303 fw_304 ⟨Nat.le_of_ble_eq_true rfl, Nat.le_of_ble_eq_true rfl⟩ rfl (Nat.le_of_ble_eq_true rfl) ⟨Nat.zero_le _, Nat.zero_le _⟩ ⟨rfl, rfl, rfl, rfl, by decide, fun _ => rfl, rfl⟩ (fun u hu16 => ?_)
  show fk_V E _ K (0, 0) [(x0, .inr (0, [.ref a0, .ref n0, .ref m0, .ref i0, .ref r0, .ref p0])), (n0, .inr (2, [.ref n1, .ref n2, .ref n3, .ref n4, .int (nI cnt), .int (nI fi), .int (nI la), .int (nI lo), .int (nI me)])), fk_ai E n1 14 ins] 19 [(0, .ref x0), (1, .int (nI 0)), (2, .int (nI k)), (3, .ref n0)] [.int (nI cnt), .int (nI k)]
  refine fk_icmp_le (a := k) (b := cnt) (by omega) (by omega) d_F_inputs_19 rfl (fun h19t => ?_) (fun h19f => ?_)
  · refine fk_iload_n 2 d_F_inputs_24 rfl ?_
    refine fk_aload_n 3 d_F_inputs_25 rfl ?_
    refine fk_callV (q0 := 1) (As := []) (rest := [.int (nI k)]) (is := [1]) (ir := [0, 2]) (ip := [0, 2, 1]) (wc := [(n0, .inr (2, [.ref n1, .ref n2, .ref n3, .ref n4, .int (nI cnt), .int (nI fi), .int (nI la), .int (nI lo), .int (nI me)]))]) (wr := [(x0, .inr (0, [.ref a0, .ref n0, .ref m0, .ref i0, .ref r0, .ref p0])), fk_ai E n1 14 ins]) (w2 := fun _ => [(x0, .inr (0, [.ref a0, .ref n0, .ref m0, .ref i0, .ref r0, .ref p0])), (n0, .inr (2, [.ref n1, .ref n2, .ref n3, .ref n4, .int (nI cnt), .int (nI fi), .int (nI la), .int (nI lo), .int (nI me)])), fk_ai E n1 14 ins]) (cN_placeCount E n0 n1 n2 n3 n4 cnt fi la lo me ) d_F_inputs_26 fz_Nt_placeCount fw_302 rfl rfl fw_303 fw_304 ⟨Nat.le_of_ble_eq_true rfl, Nat.le_of_ble_eq_true rfl⟩ rfl (Nat.le_of_ble_eq_true rfl) ⟨Nat.zero_le _, Nat.zero_le _⟩ ⟨rfl, rfl, rfl, rfl, by decide, fun _ => rfl, rfl⟩ (fun u hu26 => ?_)
    show fk_V E _ K (0, 0) [(x0, .inr (0, [.ref a0, .ref n0, .ref m0, .ref i0, .ref r0, .ref p0])), (n0, .inr (2, [.ref n1, .ref n2, .ref n3, .ref n4, .int (nI cnt), .int (nI fi), .int (nI la), .int (nI lo), .int (nI me)])), fk_ai E n1 14 ins] 29 [(0, .ref x0), (1, .int (nI 0)), (2, .int (nI k)), (3, .ref n0)] [.int (nI cnt), .int (nI k)]
    refine fk_icmp_ne (a := k) (b := cnt) (by omega) (by omega) d_F_inputs_29 rfl (fun h29t => ?_) (fun h29f => ?_)
    · omega
    · refine fk_aload_n 3 d_F_inputs_32 rfl ?_
      refine fk_callV (q0 := 1) (As := []) (rest := []) (is := [1]) (ir := [0, 2]) (ip := [0, 2, 1]) (wc := [(n0, .inr (2, [.ref n1, .ref n2, .ref n3, .ref n4, .int (nI cnt), .int (nI fi), .int (nI la), .int (nI lo), .int (nI me)]))]) (wr := [(x0, .inr (0, [.ref a0, .ref n0, .ref m0, .ref i0, .ref r0, .ref p0])), fk_ai E n1 14 ins]) (w2 := fun _ => [(x0, .inr (0, [.ref a0, .ref n0, .ref m0, .ref i0, .ref r0, .ref p0])), (n0, .inr (2, [.ref n1, .ref n2, .ref n3, .ref n4, .int (nI cnt), .int (nI fi), .int (nI la), .int (nI lo), .int (nI me)])), fk_ai E n1 14 ins]) (cN_lastOnes E n0 n1 n2 n3 n4 cnt fi la lo me ) d_F_inputs_33 fz_Nt_lastOnes fw_340 rfl rfl fw_341 fw_342 ⟨Nat.le_of_ble_eq_true rfl, Nat.le_of_ble_eq_true rfl⟩ rfl (Nat.le_of_ble_eq_true rfl) ⟨Nat.zero_le _, Nat.zero_le _⟩ ⟨rfl, rfl, rfl, rfl, by decide, fun _ => rfl, rfl⟩ (fun u hu33 => ?_)
      show fk_V E _ K (0, 0) [(x0, .inr (0, [.ref a0, .ref n0, .ref m0, .ref i0, .ref r0, .ref p0])), (n0, .inr (2, [.ref n1, .ref n2, .ref n3, .ref n4, .int (nI cnt), .int (nI fi), .int (nI la), .int (nI lo), .int (nI me)])), fk_ai E n1 14 ins] 36 [(0, .ref x0), (1, .int (nI 0)), (2, .int (nI k)), (3, .ref n0)] [.int (nI la)]
      refine fk_goto d_F_inputs_36 rfl ?_
      exact hret (0, 0) _ 44 _ () d_F_inputs_44 (trivial) (rfl)
  · omega
set_option maxRecDepth 20000 in
set_option maxHeartbeats 4000000 in
theorem cX_inputs0O (E : fk_E) (x0 : Nat) (a0 : Nat) (n0 : Nat) (m0 : Nat) (i0 : Nat) (r0 : Nat) (p0 : Nat) (n1 : Nat) (n2 : Nat) (n3 : Nat) (n4 : Nat) (cnt : Nat) (fi : Nat) (la : Nat) (lo : Nat) (me : Nat) (ins : Nat → Nat) (k : Nat) (hc : cnt ≤ 14) (hk : cnt < k) (hk2 : k < 2 ^ 31) : fk_C E fy_F_inputs prog_1_method_13_code 4 (some .int) 1 0 0 [.ref x0, .int (nI 0), .int (nI k)] [(x0, .inr (0, [.ref a0, .ref n0, .ref m0, .ref i0, .ref r0, .ref p0])), (n0, .inr (2, [.ref n1, .ref n2, .ref n3, .ref n4, .int (nI cnt), .int (nI fi), .int (nI la), .int (nI lo), .int (nI me)])), fk_ai E n1 14 ins] (S := Unit) (fun _ => some (.int (nI 0 - 1))) (fun _ => True) (fun _ => [(x0, .inr (0, [.ref a0, .ref n0, .ref m0, .ref i0, .ref r0, .ref p0])), (n0, .inr (2, [.ref n1, .ref n2, .ref n3, .ref n4, .int (nI cnt), .int (nI fi), .int (nI la), .int (nI lo), .int (nI me)])), fk_ai E n1 14 ins]) := by
  refine fk_enterI (v := fun _ => (nI 0 - 1)) (by decide) (Nat.le_of_ble_eq_true rfl) (lv0 := [(0, .ref x0), (1, .int (nI 0)), (2, .int (nI k))]) rfl ?_
  intro K hini hret
  refine fk_aload_n 0 d_F_inputs_0 rfl ?_
  refine fk_iload_n 1 d_F_inputs_1 rfl ?_
  refine fk_callV (q0 := 0) (As := [.int (nI 0)]) (rest := []) (is := [0]) (ir := [1, 2]) (ip := [2, 0, 1]) (wc := [(x0, .inr (0, [.ref a0, .ref n0, .ref m0, .ref i0, .ref r0, .ref p0]))]) (wr := [(n0, .inr (2, [.ref n1, .ref n2, .ref n3, .ref n4, .int (nI cnt), .int (nI fi), .int (nI la), .int (nI lo), .int (nI me)])), fk_ai E n1 14 ins]) (w2 := fun _ => [(x0, .inr (0, [.ref a0, .ref n0, .ref m0, .ref i0, .ref r0, .ref p0])), (n0, .inr (2, [.ref n1, .ref n2, .ref n3, .ref n4, .int (nI cnt), .int (nI fi), .int (nI la), .int (nI lo), .int (nI me)])), fk_ai E n1 14 ins]) (cX_netOf0 E x0 a0 n0 m0 i0 r0 p0 ) d_F_inputs_2 fz_F_netOf fw_332 rfl rfl fw_334 fw_p6 ⟨Nat.le_of_ble_eq_true rfl, Nat.le_of_ble_eq_true rfl⟩ rfl (Nat.le_of_ble_eq_true rfl) ⟨Nat.zero_le _, Nat.zero_le _⟩ ⟨rfl, rfl, rfl, rfl, by decide, fun _ => rfl, rfl⟩ (fun u hu2 => ?_)
  show fk_V E _ K (0, 0) [(x0, .inr (0, [.ref a0, .ref n0, .ref m0, .ref i0, .ref r0, .ref p0])), (n0, .inr (2, [.ref n1, .ref n2, .ref n3, .ref n4, .int (nI cnt), .int (nI fi), .int (nI la), .int (nI lo), .int (nI me)])), fk_ai E n1 14 ins] 5 [(0, .ref x0), (1, .int (nI 0)), (2, .int (nI k))] [.ref n0]
  refine fk_astore_n (lv' := [(0, .ref x0), (1, .int (nI 0)), (2, .int (nI k)), (3, .ref n0)]) d_F_inputs_5 rfl (Nat.le_of_ble_eq_true rfl) [1, 2, 3, 0] rfl ?_
  refine fk_aload_n 3 d_F_inputs_6 rfl ?_
  refine fk_ifnull d_F_inputs_7 ?_
  refine fk_iload_n 2 d_F_inputs_10 rfl ?_
  refine fk_if_lt (by omega) d_F_inputs_11 rfl ?_
  refine fk_iload_n 2 d_F_inputs_14 rfl ?_
  refine fk_aload_n 3 d_F_inputs_15 rfl ?_
  refine fk_callV (q0 := 1) (As := []) (rest := [.int (nI k)]) (is := [1]) (ir := [0, 2]) (ip := [0, 2, 1]) (wc := [(n0, .inr (2, [.ref n1, .ref n2, .ref n3, .ref n4, .int (nI cnt), .int (nI fi), .int (nI la), .int (nI lo), .int (nI me)]))]) (wr := [(x0, .inr (0, [.ref a0, .ref n0, .ref m0, .ref i0, .ref r0, .ref p0])), fk_ai E n1 14 ins]) (w2 := fun _ => [(x0, .inr (0, [.ref a0, .ref n0, .ref m0, .ref i0, .ref r0, .ref p0])), (n0, .inr (2, [.ref n1, .ref n2, .ref n3, .ref n4, .int (nI cnt), .int (nI fi), .int (nI la), .int (nI lo), .int (nI me)])), fk_ai E n1 14 ins]) (cN_placeCount E n0 n1 n2 n3 n4 cnt fi la lo me ) d_F_inputs_16 fz_Nt_placeCount fw_302 rfl rfl fw_303 fw_304 ⟨Nat.le_of_ble_eq_true rfl, Nat.le_of_ble_eq_true rfl⟩ rfl (Nat.le_of_ble_eq_true rfl) ⟨Nat.zero_le _, Nat.zero_le _⟩ ⟨rfl, rfl, rfl, rfl, by decide, fun _ => rfl, rfl⟩ (fun u hu16 => ?_)
  show fk_V E _ K (0, 0) [(x0, .inr (0, [.ref a0, .ref n0, .ref m0, .ref i0, .ref r0, .ref p0])), (n0, .inr (2, [.ref n1, .ref n2, .ref n3, .ref n4, .int (nI cnt), .int (nI fi), .int (nI la), .int (nI lo), .int (nI me)])), fk_ai E n1 14 ins] 19 [(0, .ref x0), (1, .int (nI 0)), (2, .int (nI k)), (3, .ref n0)] [.int (nI cnt), .int (nI k)]
  refine fk_icmp_le (a := k) (b := cnt) (by omega) (by omega) d_F_inputs_19 rfl (fun h19t => ?_) (fun h19f => ?_)
  · omega
  · refine fk_iconst (v := nI 0 - 1) d_F_inputs_22 (by decide +kernel) ?_
    exact hret (0, 0) _ 23 _ () d_F_inputs_23 (trivial) (rfl)
set_option maxRecDepth 20000 in
set_option maxHeartbeats 4000000 in
theorem cX_inputs0M (E : fk_E) (x0 : Nat) (a0 : Nat) (n0 : Nat) (m0 : Nat) (i0 : Nat) (r0 : Nat) (p0 : Nat) (n1 : Nat) (n2 : Nat) (n3 : Nat) (n4 : Nat) (cnt : Nat) (fi : Nat) (la : Nat) (lo : Nat) (me : Nat) (ins : Nat → Nat) (y : Int32) (hy : y < 0) : fk_C E fy_F_inputs prog_1_method_13_code 4 (some .int) 1 0 0 [.ref x0, .int (nI 0), .int y] [(x0, .inr (0, [.ref a0, .ref n0, .ref m0, .ref i0, .ref r0, .ref p0])), (n0, .inr (2, [.ref n1, .ref n2, .ref n3, .ref n4, .int (nI cnt), .int (nI fi), .int (nI la), .int (nI lo), .int (nI me)])), fk_ai E n1 14 ins] (S := Unit) (fun _ => some (.int (nI 0 - 1))) (fun _ => True) (fun _ => [(x0, .inr (0, [.ref a0, .ref n0, .ref m0, .ref i0, .ref r0, .ref p0])), (n0, .inr (2, [.ref n1, .ref n2, .ref n3, .ref n4, .int (nI cnt), .int (nI fi), .int (nI la), .int (nI lo), .int (nI me)])), fk_ai E n1 14 ins]) := by
  refine fk_enterI (v := fun _ => (nI 0 - 1)) (by decide) (Nat.le_of_ble_eq_true rfl) (lv0 := [(0, .ref x0), (1, .int (nI 0)), (2, .int y)]) rfl ?_
  intro K hini hret
  refine fk_aload_n 0 d_F_inputs_0 rfl ?_
  refine fk_iload_n 1 d_F_inputs_1 rfl ?_
  refine fk_callV (q0 := 0) (As := [.int (nI 0)]) (rest := []) (is := [0]) (ir := [1, 2]) (ip := [2, 0, 1]) (wc := [(x0, .inr (0, [.ref a0, .ref n0, .ref m0, .ref i0, .ref r0, .ref p0]))]) (wr := [(n0, .inr (2, [.ref n1, .ref n2, .ref n3, .ref n4, .int (nI cnt), .int (nI fi), .int (nI la), .int (nI lo), .int (nI me)])), fk_ai E n1 14 ins]) (w2 := fun _ => [(x0, .inr (0, [.ref a0, .ref n0, .ref m0, .ref i0, .ref r0, .ref p0])), (n0, .inr (2, [.ref n1, .ref n2, .ref n3, .ref n4, .int (nI cnt), .int (nI fi), .int (nI la), .int (nI lo), .int (nI me)])), fk_ai E n1 14 ins]) (cX_netOf0 E x0 a0 n0 m0 i0 r0 p0 ) d_F_inputs_2 fz_F_netOf fw_332 rfl rfl fw_334 fw_p6 ⟨Nat.le_of_ble_eq_true rfl, Nat.le_of_ble_eq_true rfl⟩ rfl (Nat.le_of_ble_eq_true rfl) ⟨Nat.zero_le _, Nat.zero_le _⟩ ⟨rfl, rfl, rfl, rfl, by decide, fun _ => rfl, rfl⟩ (fun u hu2 => ?_)
  show fk_V E _ K (0, 0) [(x0, .inr (0, [.ref a0, .ref n0, .ref m0, .ref i0, .ref r0, .ref p0])), (n0, .inr (2, [.ref n1, .ref n2, .ref n3, .ref n4, .int (nI cnt), .int (nI fi), .int (nI la), .int (nI lo), .int (nI me)])), fk_ai E n1 14 ins] 5 [(0, .ref x0), (1, .int (nI 0)), (2, .int y)] [.ref n0]
  refine fk_astore_n (lv' := [(0, .ref x0), (1, .int (nI 0)), (2, .int y), (3, .ref n0)]) d_F_inputs_5 rfl (Nat.le_of_ble_eq_true rfl) [1, 2, 3, 0] rfl ?_
  refine fk_aload_n 3 d_F_inputs_6 rfl ?_
  refine fk_ifnull d_F_inputs_7 ?_
  refine fk_iload_n 2 d_F_inputs_10 rfl ?_
  refine fk_if_ltR d_F_inputs_11 rfl (fun h11t => ?_) (fun h11f => ?_)
  · refine fk_iconst (v := nI 0 - 1) d_F_inputs_22 (by decide +kernel) ?_
    exact hret (0, 0) _ 23 _ () d_F_inputs_23 (trivial) (rfl)
  · exact absurd hy h11f
set_option maxRecDepth 20000 in
set_option maxHeartbeats 4000000 in
theorem cX_inputs1 (E : fk_E) (x0 : Nat) (a0 : Nat) (n0 : Nat) (m0 : Nat) (i0 : Nat) (r0 : Nat) (p0 : Nat) (m1 : Nat) (m2 : Nat) (m3 : Nat) (m4 : Nat) (cn2 : Nat) (fi2 : Nat) (la2 : Nat) (lo2 : Nat) (me2 : Nat) (in2 : Nat → Nat) (k : Nat) (hc : cn2 ≤ 14) (hk : k < cn2) : fk_C E fy_F_inputs prog_1_method_13_code 4 (some .int) 1 0 0 [.ref x0, .int (nI 1), .int (nI k)] [(x0, .inr (0, [.ref a0, .ref n0, .ref m0, .ref i0, .ref r0, .ref p0])), (m0, .inr (2, [.ref m1, .ref m2, .ref m3, .ref m4, .int (nI cn2), .int (nI fi2), .int (nI la2), .int (nI lo2), .int (nI me2)])), fk_ai E m1 14 in2] (S := Unit) (fun _ => some (.int (nI (in2 k)))) (fun _ => True) (fun _ => [(x0, .inr (0, [.ref a0, .ref n0, .ref m0, .ref i0, .ref r0, .ref p0])), (m0, .inr (2, [.ref m1, .ref m2, .ref m3, .ref m4, .int (nI cn2), .int (nI fi2), .int (nI la2), .int (nI lo2), .int (nI me2)])), fk_ai E m1 14 in2]) := by
  refine fk_enterI (v := fun _ => (nI (in2 k))) (by decide) (Nat.le_of_ble_eq_true rfl) (lv0 := [(0, .ref x0), (1, .int (nI 1)), (2, .int (nI k))]) rfl ?_
  intro K hini hret
  refine fk_aload_n 0 d_F_inputs_0 rfl ?_
  refine fk_iload_n 1 d_F_inputs_1 rfl ?_
  refine fk_callV (q0 := 0) (As := [.int (nI 1)]) (rest := []) (is := [0]) (ir := [1, 2]) (ip := [2, 0, 1]) (wc := [(x0, .inr (0, [.ref a0, .ref n0, .ref m0, .ref i0, .ref r0, .ref p0]))]) (wr := [(m0, .inr (2, [.ref m1, .ref m2, .ref m3, .ref m4, .int (nI cn2), .int (nI fi2), .int (nI la2), .int (nI lo2), .int (nI me2)])), fk_ai E m1 14 in2]) (w2 := fun _ => [(x0, .inr (0, [.ref a0, .ref n0, .ref m0, .ref i0, .ref r0, .ref p0])), (m0, .inr (2, [.ref m1, .ref m2, .ref m3, .ref m4, .int (nI cn2), .int (nI fi2), .int (nI la2), .int (nI lo2), .int (nI me2)])), fk_ai E m1 14 in2]) (cX_netOf1 E x0 a0 n0 m0 i0 r0 p0 ) d_F_inputs_2 fz_F_netOf fw_332 rfl rfl fw_334 fw_p6 ⟨Nat.le_of_ble_eq_true rfl, Nat.le_of_ble_eq_true rfl⟩ rfl (Nat.le_of_ble_eq_true rfl) ⟨Nat.zero_le _, Nat.zero_le _⟩ ⟨rfl, rfl, rfl, rfl, by decide, fun _ => rfl, rfl⟩ (fun u hu2 => ?_)
  show fk_V E _ K (0, 0) [(x0, .inr (0, [.ref a0, .ref n0, .ref m0, .ref i0, .ref r0, .ref p0])), (m0, .inr (2, [.ref m1, .ref m2, .ref m3, .ref m4, .int (nI cn2), .int (nI fi2), .int (nI la2), .int (nI lo2), .int (nI me2)])), fk_ai E m1 14 in2] 5 [(0, .ref x0), (1, .int (nI 1)), (2, .int (nI k))] [.ref m0]
  refine fk_astore_n (lv' := [(0, .ref x0), (1, .int (nI 1)), (2, .int (nI k)), (3, .ref m0)]) d_F_inputs_5 rfl (Nat.le_of_ble_eq_true rfl) [1, 2, 3, 0] rfl ?_
  refine fk_aload_n 3 d_F_inputs_6 rfl ?_
  refine fk_ifnull d_F_inputs_7 ?_
  refine fk_iload_n 2 d_F_inputs_10 rfl ?_
  refine fk_if_lt (by omega) d_F_inputs_11 rfl ?_
  refine fk_iload_n 2 d_F_inputs_14 rfl ?_
  refine fk_aload_n 3 d_F_inputs_15 rfl ?_
  refine fk_callV (q0 := 1) (As := []) (rest := [.int (nI k)]) (is := [1]) (ir := [0, 2]) (ip := [0, 2, 1]) (wc := [(m0, .inr (2, [.ref m1, .ref m2, .ref m3, .ref m4, .int (nI cn2), .int (nI fi2), .int (nI la2), .int (nI lo2), .int (nI me2)]))]) (wr := [(x0, .inr (0, [.ref a0, .ref n0, .ref m0, .ref i0, .ref r0, .ref p0])), fk_ai E m1 14 in2]) (w2 := fun _ => [(x0, .inr (0, [.ref a0, .ref n0, .ref m0, .ref i0, .ref r0, .ref p0])), (m0, .inr (2, [.ref m1, .ref m2, .ref m3, .ref m4, .int (nI cn2), .int (nI fi2), .int (nI la2), .int (nI lo2), .int (nI me2)])), fk_ai E m1 14 in2]) (cN_placeCount E m0 m1 m2 m3 m4 cn2 fi2 la2 lo2 me2 ) d_F_inputs_16 fz_Nt_placeCount fw_302 rfl rfl fw_303 fw_304 ⟨Nat.le_of_ble_eq_true rfl, Nat.le_of_ble_eq_true rfl⟩ rfl (Nat.le_of_ble_eq_true rfl) ⟨Nat.zero_le _, Nat.zero_le _⟩ ⟨rfl, rfl, rfl, rfl, by decide, fun _ => rfl, rfl⟩ (fun u hu16 => ?_)
  show fk_V E _ K (0, 0) [(x0, .inr (0, [.ref a0, .ref n0, .ref m0, .ref i0, .ref r0, .ref p0])), (m0, .inr (2, [.ref m1, .ref m2, .ref m3, .ref m4, .int (nI cn2), .int (nI fi2), .int (nI la2), .int (nI lo2), .int (nI me2)])), fk_ai E m1 14 in2] 19 [(0, .ref x0), (1, .int (nI 1)), (2, .int (nI k)), (3, .ref m0)] [.int (nI cn2), .int (nI k)]
  refine fk_icmp_le (a := k) (b := cn2) (by omega) (by omega) d_F_inputs_19 rfl (fun h19t => ?_) (fun h19f => ?_)
  · refine fk_iload_n 2 d_F_inputs_24 rfl ?_
    refine fk_aload_n 3 d_F_inputs_25 rfl ?_
    refine fk_callV (q0 := 1) (As := []) (rest := [.int (nI k)]) (is := [1]) (ir := [0, 2]) (ip := [0, 2, 1]) (wc := [(m0, .inr (2, [.ref m1, .ref m2, .ref m3, .ref m4, .int (nI cn2), .int (nI fi2), .int (nI la2), .int (nI lo2), .int (nI me2)]))]) (wr := [(x0, .inr (0, [.ref a0, .ref n0, .ref m0, .ref i0, .ref r0, .ref p0])), fk_ai E m1 14 in2]) (w2 := fun _ => [(x0, .inr (0, [.ref a0, .ref n0, .ref m0, .ref i0, .ref r0, .ref p0])), (m0, .inr (2, [.ref m1, .ref m2, .ref m3, .ref m4, .int (nI cn2), .int (nI fi2), .int (nI la2), .int (nI lo2), .int (nI me2)])), fk_ai E m1 14 in2]) (cN_placeCount E m0 m1 m2 m3 m4 cn2 fi2 la2 lo2 me2 ) d_F_inputs_26 fz_Nt_placeCount fw_302 rfl rfl fw_303 fw_304 ⟨Nat.le_of_ble_eq_true rfl, Nat.le_of_ble_eq_true rfl⟩ rfl (Nat.le_of_ble_eq_true rfl) ⟨Nat.zero_le _, Nat.zero_le _⟩ ⟨rfl, rfl, rfl, rfl, by decide, fun _ => rfl, rfl⟩ (fun u hu26 => ?_)
    show fk_V E _ K (0, 0) [(x0, .inr (0, [.ref a0, .ref n0, .ref m0, .ref i0, .ref r0, .ref p0])), (m0, .inr (2, [.ref m1, .ref m2, .ref m3, .ref m4, .int (nI cn2), .int (nI fi2), .int (nI la2), .int (nI lo2), .int (nI me2)])), fk_ai E m1 14 in2] 29 [(0, .ref x0), (1, .int (nI 1)), (2, .int (nI k)), (3, .ref m0)] [.int (nI cn2), .int (nI k)]
    refine fk_icmp_ne (a := k) (b := cn2) (by omega) (by omega) d_F_inputs_29 rfl (fun h29t => ?_) (fun h29f => ?_)
    · refine fk_aload_n 3 d_F_inputs_39 rfl ?_
      refine fk_iload_n 2 d_F_inputs_40 rfl ?_
      refine fk_callV (q0 := 1) (As := [.int (nI k)]) (rest := []) (is := [1, 2]) (ir := [0]) (ip := [0, 1, 2]) (wc := [(m0, .inr (2, [.ref m1, .ref m2, .ref m3, .ref m4, .int (nI cn2), .int (nI fi2), .int (nI la2), .int (nI lo2), .int (nI me2)])), fk_ai E m1 14 in2]) (wr := [(x0, .inr (0, [.ref a0, .ref n0, .ref m0, .ref i0, .ref r0, .ref p0]))]) (w2 := fun _ => [(x0, .inr (0, [.ref a0, .ref n0, .ref m0, .ref i0, .ref r0, .ref p0])), (m0, .inr (2, [.ref m1, .ref m2, .ref m3, .ref m4, .int (nI cn2), .int (nI fi2), .int (nI la2), .int (nI lo2), .int (nI me2)])), fk_ai E m1 14 in2]) (cN_inputsOf E m0 m1 m2 m3 m4 cn2 fi2 la2 lo2 me2 in2 k (by first | omega | assumption)) d_F_inputs_41 fz_Nt_inputsOf fw_344 rfl rfl fw_345 fw_346 ⟨Nat.le_of_ble_eq_true rfl, Nat.le_of_ble_eq_true rfl⟩ rfl (Nat.le_of_ble_eq_true rfl) ⟨Nat.zero_le _, Nat.zero_le _⟩ ⟨rfl, rfl, rfl, rfl, by decide, fun _ => rfl, rfl⟩ (fun u hu41 => ?_)
      show fk_V E _ K (0, 0) [(x0, .inr (0, [.ref a0, .ref n0, .ref m0, .ref i0, .ref r0, .ref p0])), (m0, .inr (2, [.ref m1, .ref m2, .ref m3, .ref m4, .int (nI cn2), .int (nI fi2), .int (nI la2), .int (nI lo2), .int (nI me2)])), fk_ai E m1 14 in2] 44 [(0, .ref x0), (1, .int (nI 1)), (2, .int (nI k)), (3, .ref m0)] [.int (nI (in2 k))]
      exact hret (0, 0) _ 44 _ () d_F_inputs_44 (trivial) (rfl)
    · omega
  · omega
set_option maxRecDepth 20000 in
set_option maxHeartbeats 4000000 in
theorem cX_inputs1E (E : fk_E) (x0 : Nat) (a0 : Nat) (n0 : Nat) (m0 : Nat) (i0 : Nat) (r0 : Nat) (p0 : Nat) (m1 : Nat) (m2 : Nat) (m3 : Nat) (m4 : Nat) (cn2 : Nat) (fi2 : Nat) (la2 : Nat) (lo2 : Nat) (me2 : Nat) (in2 : Nat → Nat) (k : Nat) (hc : cn2 ≤ 14) (hk : k = cn2) : fk_C E fy_F_inputs prog_1_method_13_code 4 (some .int) 1 0 0 [.ref x0, .int (nI 1), .int (nI k)] [(x0, .inr (0, [.ref a0, .ref n0, .ref m0, .ref i0, .ref r0, .ref p0])), (m0, .inr (2, [.ref m1, .ref m2, .ref m3, .ref m4, .int (nI cn2), .int (nI fi2), .int (nI la2), .int (nI lo2), .int (nI me2)])), fk_ai E m1 14 in2] (S := Unit) (fun _ => some (.int (nI la2))) (fun _ => True) (fun _ => [(x0, .inr (0, [.ref a0, .ref n0, .ref m0, .ref i0, .ref r0, .ref p0])), (m0, .inr (2, [.ref m1, .ref m2, .ref m3, .ref m4, .int (nI cn2), .int (nI fi2), .int (nI la2), .int (nI lo2), .int (nI me2)])), fk_ai E m1 14 in2]) := by
  refine fk_enterI (v := fun _ => (nI la2)) (by decide) (Nat.le_of_ble_eq_true rfl) (lv0 := [(0, .ref x0), (1, .int (nI 1)), (2, .int (nI k))]) rfl ?_
  intro K hini hret
  refine fk_aload_n 0 d_F_inputs_0 rfl ?_
  refine fk_iload_n 1 d_F_inputs_1 rfl ?_
  refine fk_callV (q0 := 0) (As := [.int (nI 1)]) (rest := []) (is := [0]) (ir := [1, 2]) (ip := [2, 0, 1]) (wc := [(x0, .inr (0, [.ref a0, .ref n0, .ref m0, .ref i0, .ref r0, .ref p0]))]) (wr := [(m0, .inr (2, [.ref m1, .ref m2, .ref m3, .ref m4, .int (nI cn2), .int (nI fi2), .int (nI la2), .int (nI lo2), .int (nI me2)])), fk_ai E m1 14 in2]) (w2 := fun _ => [(x0, .inr (0, [.ref a0, .ref n0, .ref m0, .ref i0, .ref r0, .ref p0])), (m0, .inr (2, [.ref m1, .ref m2, .ref m3, .ref m4, .int (nI cn2), .int (nI fi2), .int (nI la2), .int (nI lo2), .int (nI me2)])), fk_ai E m1 14 in2]) (cX_netOf1 E x0 a0 n0 m0 i0 r0 p0 ) d_F_inputs_2 fz_F_netOf fw_332 rfl rfl fw_334 fw_p6 ⟨Nat.le_of_ble_eq_true rfl, Nat.le_of_ble_eq_true rfl⟩ rfl (Nat.le_of_ble_eq_true rfl) ⟨Nat.zero_le _, Nat.zero_le _⟩ ⟨rfl, rfl, rfl, rfl, by decide, fun _ => rfl, rfl⟩ (fun u hu2 => ?_)
  show fk_V E _ K (0, 0) [(x0, .inr (0, [.ref a0, .ref n0, .ref m0, .ref i0, .ref r0, .ref p0])), (m0, .inr (2, [.ref m1, .ref m2, .ref m3, .ref m4, .int (nI cn2), .int (nI fi2), .int (nI la2), .int (nI lo2), .int (nI me2)])), fk_ai E m1 14 in2] 5 [(0, .ref x0), (1, .int (nI 1)), (2, .int (nI k))] [.ref m0]
  refine fk_astore_n (lv' := [(0, .ref x0), (1, .int (nI 1)), (2, .int (nI k)), (3, .ref m0)]) d_F_inputs_5 rfl (Nat.le_of_ble_eq_true rfl) [1, 2, 3, 0] rfl ?_
  refine fk_aload_n 3 d_F_inputs_6 rfl ?_
  refine fk_ifnull d_F_inputs_7 ?_
  refine fk_iload_n 2 d_F_inputs_10 rfl ?_
  refine fk_if_lt (by omega) d_F_inputs_11 rfl ?_
  refine fk_iload_n 2 d_F_inputs_14 rfl ?_
  refine fk_aload_n 3 d_F_inputs_15 rfl ?_
  refine fk_callV (q0 := 1) (As := []) (rest := [.int (nI k)]) (is := [1]) (ir := [0, 2]) (ip := [0, 2, 1]) (wc := [(m0, .inr (2, [.ref m1, .ref m2, .ref m3, .ref m4, .int (nI cn2), .int (nI fi2), .int (nI la2), .int (nI lo2), .int (nI me2)]))]) (wr := [(x0, .inr (0, [.ref a0, .ref n0, .ref m0, .ref i0, .ref r0, .ref p0])), fk_ai E m1 14 in2]) (w2 := fun _ => [(x0, .inr (0, [.ref a0, .ref n0, .ref m0, .ref i0, .ref r0, .ref p0])), (m0, .inr (2, [.ref m1, .ref m2, .ref m3, .ref m4, .int (nI cn2), .int (nI fi2), .int (nI la2), .int (nI lo2), .int (nI me2)])), fk_ai E m1 14 in2]) (cN_placeCount E m0 m1 m2 m3 m4 cn2 fi2 la2 lo2 me2 ) d_F_inputs_16 fz_Nt_placeCount fw_302 rfl rfl fw_303 fw_304 ⟨Nat.le_of_ble_eq_true rfl, Nat.le_of_ble_eq_true rfl⟩ rfl (Nat.le_of_ble_eq_true rfl) ⟨Nat.zero_le _, Nat.zero_le _⟩ ⟨rfl, rfl, rfl, rfl, by decide, fun _ => rfl, rfl⟩ (fun u hu16 => ?_)
  show fk_V E _ K (0, 0) [(x0, .inr (0, [.ref a0, .ref n0, .ref m0, .ref i0, .ref r0, .ref p0])), (m0, .inr (2, [.ref m1, .ref m2, .ref m3, .ref m4, .int (nI cn2), .int (nI fi2), .int (nI la2), .int (nI lo2), .int (nI me2)])), fk_ai E m1 14 in2] 19 [(0, .ref x0), (1, .int (nI 1)), (2, .int (nI k)), (3, .ref m0)] [.int (nI cn2), .int (nI k)]
  refine fk_icmp_le (a := k) (b := cn2) (by omega) (by omega) d_F_inputs_19 rfl (fun h19t => ?_) (fun h19f => ?_)
  · refine fk_iload_n 2 d_F_inputs_24 rfl ?_
    refine fk_aload_n 3 d_F_inputs_25 rfl ?_
    refine fk_callV (q0 := 1) (As := []) (rest := [.int (nI k)]) (is := [1]) (ir := [0, 2]) (ip := [0, 2, 1]) (wc := [(m0, .inr (2, [.ref m1, .ref m2, .ref m3, .ref m4, .int (nI cn2), .int (nI fi2), .int (nI la2), .int (nI lo2), .int (nI me2)]))]) (wr := [(x0, .inr (0, [.ref a0, .ref n0, .ref m0, .ref i0, .ref r0, .ref p0])), fk_ai E m1 14 in2]) (w2 := fun _ => [(x0, .inr (0, [.ref a0, .ref n0, .ref m0, .ref i0, .ref r0, .ref p0])), (m0, .inr (2, [.ref m1, .ref m2, .ref m3, .ref m4, .int (nI cn2), .int (nI fi2), .int (nI la2), .int (nI lo2), .int (nI me2)])), fk_ai E m1 14 in2]) (cN_placeCount E m0 m1 m2 m3 m4 cn2 fi2 la2 lo2 me2 ) d_F_inputs_26 fz_Nt_placeCount fw_302 rfl rfl fw_303 fw_304 ⟨Nat.le_of_ble_eq_true rfl, Nat.le_of_ble_eq_true rfl⟩ rfl (Nat.le_of_ble_eq_true rfl) ⟨Nat.zero_le _, Nat.zero_le _⟩ ⟨rfl, rfl, rfl, rfl, by decide, fun _ => rfl, rfl⟩ (fun u hu26 => ?_)
    show fk_V E _ K (0, 0) [(x0, .inr (0, [.ref a0, .ref n0, .ref m0, .ref i0, .ref r0, .ref p0])), (m0, .inr (2, [.ref m1, .ref m2, .ref m3, .ref m4, .int (nI cn2), .int (nI fi2), .int (nI la2), .int (nI lo2), .int (nI me2)])), fk_ai E m1 14 in2] 29 [(0, .ref x0), (1, .int (nI 1)), (2, .int (nI k)), (3, .ref m0)] [.int (nI cn2), .int (nI k)]
    refine fk_icmp_ne (a := k) (b := cn2) (by omega) (by omega) d_F_inputs_29 rfl (fun h29t => ?_) (fun h29f => ?_)
    · omega
    · refine fk_aload_n 3 d_F_inputs_32 rfl ?_
      refine fk_callV (q0 := 1) (As := []) (rest := []) (is := [1]) (ir := [0, 2]) (ip := [0, 2, 1]) (wc := [(m0, .inr (2, [.ref m1, .ref m2, .ref m3, .ref m4, .int (nI cn2), .int (nI fi2), .int (nI la2), .int (nI lo2), .int (nI me2)]))]) (wr := [(x0, .inr (0, [.ref a0, .ref n0, .ref m0, .ref i0, .ref r0, .ref p0])), fk_ai E m1 14 in2]) (w2 := fun _ => [(x0, .inr (0, [.ref a0, .ref n0, .ref m0, .ref i0, .ref r0, .ref p0])), (m0, .inr (2, [.ref m1, .ref m2, .ref m3, .ref m4, .int (nI cn2), .int (nI fi2), .int (nI la2), .int (nI lo2), .int (nI me2)])), fk_ai E m1 14 in2]) (cN_lastOnes E m0 m1 m2 m3 m4 cn2 fi2 la2 lo2 me2 ) d_F_inputs_33 fz_Nt_lastOnes fw_340 rfl rfl fw_341 fw_342 ⟨Nat.le_of_ble_eq_true rfl, Nat.le_of_ble_eq_true rfl⟩ rfl (Nat.le_of_ble_eq_true rfl) ⟨Nat.zero_le _, Nat.zero_le _⟩ ⟨rfl, rfl, rfl, rfl, by decide, fun _ => rfl, rfl⟩ (fun u hu33 => ?_)
      show fk_V E _ K (0, 0) [(x0, .inr (0, [.ref a0, .ref n0, .ref m0, .ref i0, .ref r0, .ref p0])), (m0, .inr (2, [.ref m1, .ref m2, .ref m3, .ref m4, .int (nI cn2), .int (nI fi2), .int (nI la2), .int (nI lo2), .int (nI me2)])), fk_ai E m1 14 in2] 36 [(0, .ref x0), (1, .int (nI 1)), (2, .int (nI k)), (3, .ref m0)] [.int (nI la2)]
      refine fk_goto d_F_inputs_36 rfl ?_
      exact hret (0, 0) _ 44 _ () d_F_inputs_44 (trivial) (rfl)
  · omega
set_option maxRecDepth 20000 in
set_option maxHeartbeats 4000000 in
theorem cX_inputs1O (E : fk_E) (x0 : Nat) (a0 : Nat) (n0 : Nat) (m0 : Nat) (i0 : Nat) (r0 : Nat) (p0 : Nat) (m1 : Nat) (m2 : Nat) (m3 : Nat) (m4 : Nat) (cn2 : Nat) (fi2 : Nat) (la2 : Nat) (lo2 : Nat) (me2 : Nat) (in2 : Nat → Nat) (k : Nat) (hc : cn2 ≤ 14) (hk : cn2 < k) (hk2 : k < 2 ^ 31) : fk_C E fy_F_inputs prog_1_method_13_code 4 (some .int) 1 0 0 [.ref x0, .int (nI 1), .int (nI k)] [(x0, .inr (0, [.ref a0, .ref n0, .ref m0, .ref i0, .ref r0, .ref p0])), (m0, .inr (2, [.ref m1, .ref m2, .ref m3, .ref m4, .int (nI cn2), .int (nI fi2), .int (nI la2), .int (nI lo2), .int (nI me2)])), fk_ai E m1 14 in2] (S := Unit) (fun _ => some (.int (nI 0 - 1))) (fun _ => True) (fun _ => [(x0, .inr (0, [.ref a0, .ref n0, .ref m0, .ref i0, .ref r0, .ref p0])), (m0, .inr (2, [.ref m1, .ref m2, .ref m3, .ref m4, .int (nI cn2), .int (nI fi2), .int (nI la2), .int (nI lo2), .int (nI me2)])), fk_ai E m1 14 in2]) := by
  refine fk_enterI (v := fun _ => (nI 0 - 1)) (by decide) (Nat.le_of_ble_eq_true rfl) (lv0 := [(0, .ref x0), (1, .int (nI 1)), (2, .int (nI k))]) rfl ?_
  intro K hini hret
  refine fk_aload_n 0 d_F_inputs_0 rfl ?_
  refine fk_iload_n 1 d_F_inputs_1 rfl ?_
  refine fk_callV (q0 := 0) (As := [.int (nI 1)]) (rest := []) (is := [0]) (ir := [1, 2]) (ip := [2, 0, 1]) (wc := [(x0, .inr (0, [.ref a0, .ref n0, .ref m0, .ref i0, .ref r0, .ref p0]))]) (wr := [(m0, .inr (2, [.ref m1, .ref m2, .ref m3, .ref m4, .int (nI cn2), .int (nI fi2), .int (nI la2), .int (nI lo2), .int (nI me2)])), fk_ai E m1 14 in2]) (w2 := fun _ => [(x0, .inr (0, [.ref a0, .ref n0, .ref m0, .ref i0, .ref r0, .ref p0])), (m0, .inr (2, [.ref m1, .ref m2, .ref m3, .ref m4, .int (nI cn2), .int (nI fi2), .int (nI la2), .int (nI lo2), .int (nI me2)])), fk_ai E m1 14 in2]) (cX_netOf1 E x0 a0 n0 m0 i0 r0 p0 ) d_F_inputs_2 fz_F_netOf fw_332 rfl rfl fw_334 fw_p6 ⟨Nat.le_of_ble_eq_true rfl, Nat.le_of_ble_eq_true rfl⟩ rfl (Nat.le_of_ble_eq_true rfl) ⟨Nat.zero_le _, Nat.zero_le _⟩ ⟨rfl, rfl, rfl, rfl, by decide, fun _ => rfl, rfl⟩ (fun u hu2 => ?_)
  show fk_V E _ K (0, 0) [(x0, .inr (0, [.ref a0, .ref n0, .ref m0, .ref i0, .ref r0, .ref p0])), (m0, .inr (2, [.ref m1, .ref m2, .ref m3, .ref m4, .int (nI cn2), .int (nI fi2), .int (nI la2), .int (nI lo2), .int (nI me2)])), fk_ai E m1 14 in2] 5 [(0, .ref x0), (1, .int (nI 1)), (2, .int (nI k))] [.ref m0]
  refine fk_astore_n (lv' := [(0, .ref x0), (1, .int (nI 1)), (2, .int (nI k)), (3, .ref m0)]) d_F_inputs_5 rfl (Nat.le_of_ble_eq_true rfl) [1, 2, 3, 0] rfl ?_
  refine fk_aload_n 3 d_F_inputs_6 rfl ?_
  refine fk_ifnull d_F_inputs_7 ?_
  refine fk_iload_n 2 d_F_inputs_10 rfl ?_
  refine fk_if_lt (by omega) d_F_inputs_11 rfl ?_
  refine fk_iload_n 2 d_F_inputs_14 rfl ?_
  refine fk_aload_n 3 d_F_inputs_15 rfl ?_
  refine fk_callV (q0 := 1) (As := []) (rest := [.int (nI k)]) (is := [1]) (ir := [0, 2]) (ip := [0, 2, 1]) (wc := [(m0, .inr (2, [.ref m1, .ref m2, .ref m3, .ref m4, .int (nI cn2), .int (nI fi2), .int (nI la2), .int (nI lo2), .int (nI me2)]))]) (wr := [(x0, .inr (0, [.ref a0, .ref n0, .ref m0, .ref i0, .ref r0, .ref p0])), fk_ai E m1 14 in2]) (w2 := fun _ => [(x0, .inr (0, [.ref a0, .ref n0, .ref m0, .ref i0, .ref r0, .ref p0])), (m0, .inr (2, [.ref m1, .ref m2, .ref m3, .ref m4, .int (nI cn2), .int (nI fi2), .int (nI la2), .int (nI lo2), .int (nI me2)])), fk_ai E m1 14 in2]) (cN_placeCount E m0 m1 m2 m3 m4 cn2 fi2 la2 lo2 me2 ) d_F_inputs_16 fz_Nt_placeCount fw_302 rfl rfl fw_303 fw_304 ⟨Nat.le_of_ble_eq_true rfl, Nat.le_of_ble_eq_true rfl⟩ rfl (Nat.le_of_ble_eq_true rfl) ⟨Nat.zero_le _, Nat.zero_le _⟩ ⟨rfl, rfl, rfl, rfl, by decide, fun _ => rfl, rfl⟩ (fun u hu16 => ?_)
  show fk_V E _ K (0, 0) [(x0, .inr (0, [.ref a0, .ref n0, .ref m0, .ref i0, .ref r0, .ref p0])), (m0, .inr (2, [.ref m1, .ref m2, .ref m3, .ref m4, .int (nI cn2), .int (nI fi2), .int (nI la2), .int (nI lo2), .int (nI me2)])), fk_ai E m1 14 in2] 19 [(0, .ref x0), (1, .int (nI 1)), (2, .int (nI k)), (3, .ref m0)] [.int (nI cn2), .int (nI k)]
  refine fk_icmp_le (a := k) (b := cn2) (by omega) (by omega) d_F_inputs_19 rfl (fun h19t => ?_) (fun h19f => ?_)
  · omega
  · refine fk_iconst (v := nI 0 - 1) d_F_inputs_22 (by decide +kernel) ?_
    exact hret (0, 0) _ 23 _ () d_F_inputs_23 (trivial) (rfl)
set_option maxRecDepth 20000 in
set_option maxHeartbeats 4000000 in
theorem cX_inputs1M (E : fk_E) (x0 : Nat) (a0 : Nat) (n0 : Nat) (m0 : Nat) (i0 : Nat) (r0 : Nat) (p0 : Nat) (m1 : Nat) (m2 : Nat) (m3 : Nat) (m4 : Nat) (cn2 : Nat) (fi2 : Nat) (la2 : Nat) (lo2 : Nat) (me2 : Nat) (in2 : Nat → Nat) (y : Int32) (hy : y < 0) : fk_C E fy_F_inputs prog_1_method_13_code 4 (some .int) 1 0 0 [.ref x0, .int (nI 1), .int y] [(x0, .inr (0, [.ref a0, .ref n0, .ref m0, .ref i0, .ref r0, .ref p0])), (m0, .inr (2, [.ref m1, .ref m2, .ref m3, .ref m4, .int (nI cn2), .int (nI fi2), .int (nI la2), .int (nI lo2), .int (nI me2)])), fk_ai E m1 14 in2] (S := Unit) (fun _ => some (.int (nI 0 - 1))) (fun _ => True) (fun _ => [(x0, .inr (0, [.ref a0, .ref n0, .ref m0, .ref i0, .ref r0, .ref p0])), (m0, .inr (2, [.ref m1, .ref m2, .ref m3, .ref m4, .int (nI cn2), .int (nI fi2), .int (nI la2), .int (nI lo2), .int (nI me2)])), fk_ai E m1 14 in2]) := by
  refine fk_enterI (v := fun _ => (nI 0 - 1)) (by decide) (Nat.le_of_ble_eq_true rfl) (lv0 := [(0, .ref x0), (1, .int (nI 1)), (2, .int y)]) rfl ?_
  intro K hini hret
  refine fk_aload_n 0 d_F_inputs_0 rfl ?_
  refine fk_iload_n 1 d_F_inputs_1 rfl ?_
  refine fk_callV (q0 := 0) (As := [.int (nI 1)]) (rest := []) (is := [0]) (ir := [1, 2]) (ip := [2, 0, 1]) (wc := [(x0, .inr (0, [.ref a0, .ref n0, .ref m0, .ref i0, .ref r0, .ref p0]))]) (wr := [(m0, .inr (2, [.ref m1, .ref m2, .ref m3, .ref m4, .int (nI cn2), .int (nI fi2), .int (nI la2), .int (nI lo2), .int (nI me2)])), fk_ai E m1 14 in2]) (w2 := fun _ => [(x0, .inr (0, [.ref a0, .ref n0, .ref m0, .ref i0, .ref r0, .ref p0])), (m0, .inr (2, [.ref m1, .ref m2, .ref m3, .ref m4, .int (nI cn2), .int (nI fi2), .int (nI la2), .int (nI lo2), .int (nI me2)])), fk_ai E m1 14 in2]) (cX_netOf1 E x0 a0 n0 m0 i0 r0 p0 ) d_F_inputs_2 fz_F_netOf fw_332 rfl rfl fw_334 fw_p6 ⟨Nat.le_of_ble_eq_true rfl, Nat.le_of_ble_eq_true rfl⟩ rfl (Nat.le_of_ble_eq_true rfl) ⟨Nat.zero_le _, Nat.zero_le _⟩ ⟨rfl, rfl, rfl, rfl, by decide, fun _ => rfl, rfl⟩ (fun u hu2 => ?_)
  show fk_V E _ K (0, 0) [(x0, .inr (0, [.ref a0, .ref n0, .ref m0, .ref i0, .ref r0, .ref p0])), (m0, .inr (2, [.ref m1, .ref m2, .ref m3, .ref m4, .int (nI cn2), .int (nI fi2), .int (nI la2), .int (nI lo2), .int (nI me2)])), fk_ai E m1 14 in2] 5 [(0, .ref x0), (1, .int (nI 1)), (2, .int y)] [.ref m0]
  refine fk_astore_n (lv' := [(0, .ref x0), (1, .int (nI 1)), (2, .int y), (3, .ref m0)]) d_F_inputs_5 rfl (Nat.le_of_ble_eq_true rfl) [1, 2, 3, 0] rfl ?_
  refine fk_aload_n 3 d_F_inputs_6 rfl ?_
  refine fk_ifnull d_F_inputs_7 ?_
  refine fk_iload_n 2 d_F_inputs_10 rfl ?_
  refine fk_if_ltR d_F_inputs_11 rfl (fun h11t => ?_) (fun h11f => ?_)
  · refine fk_iconst (v := nI 0 - 1) d_F_inputs_22 (by decide +kernel) ?_
    exact hret (0, 0) _ 23 _ () d_F_inputs_23 (trivial) (rfl)
  · exact absurd hy h11f
set_option maxRecDepth 20000 in
set_option maxHeartbeats 4000000 in
theorem cX_inputsO (E : fk_E) (x0 : Nat) (a0 : Nat) (n0 : Nat) (m0 : Nat) (i0 : Nat) (r0 : Nat) (p0 : Nat) (t : Nat) (y : Int32) (h : 2 ≤ t) (h2 : t < 2 ^ 31) : fk_C E fy_F_inputs prog_1_method_13_code 4 (some .int) 1 0 0 [.ref x0, .int (nI t), .int y] [(x0, .inr (0, [.ref a0, .ref n0, .ref m0, .ref i0, .ref r0, .ref p0]))] (S := Unit) (fun _ => some (.int (nI 0 - 1))) (fun _ => True) (fun _ => [(x0, .inr (0, [.ref a0, .ref n0, .ref m0, .ref i0, .ref r0, .ref p0]))]) := by
  refine fk_enterI (v := fun _ => (nI 0 - 1)) (by decide) (Nat.le_of_ble_eq_true rfl) (lv0 := [(0, .ref x0), (1, .int (nI t)), (2, .int y)]) rfl ?_
  intro K hini hret
  refine fk_aload_n 0 d_F_inputs_0 rfl ?_
  refine fk_iload_n 1 d_F_inputs_1 rfl ?_
  refine fk_callV (q0 := 0) (As := [.int (nI t)]) (rest := []) (is := [0]) (ir := []) (ip := [0]) (wc := [(x0, .inr (0, [.ref a0, .ref n0, .ref m0, .ref i0, .ref r0, .ref p0]))]) (wr := []) (w2 := fun _ => [(x0, .inr (0, [.ref a0, .ref n0, .ref m0, .ref i0, .ref r0, .ref p0]))]) (cX_netOfO E x0 a0 n0 m0 i0 r0 p0 t (by first | omega | assumption) (by first | omega | assumption)) d_F_inputs_2 fz_F_netOf fw_332 rfl rfl fw_334 fw_p6 ⟨Nat.le_of_ble_eq_true rfl, Nat.le_of_ble_eq_true rfl⟩ rfl (Nat.le_of_ble_eq_true rfl) ⟨Nat.zero_le _, Nat.zero_le _⟩ ⟨rfl, rfl, rfl, rfl, by decide, fun _ => rfl, rfl⟩ (fun u hu2 => ?_)
  show fk_V E _ K (0, 0) [(x0, .inr (0, [.ref a0, .ref n0, .ref m0, .ref i0, .ref r0, .ref p0]))] 5 [(0, .ref x0), (1, .int (nI t)), (2, .int y)] [.null]
  refine fk_astoreN_n (lv' := [(0, .ref x0), (1, .int (nI t)), (2, .int y), (3, .null)]) d_F_inputs_5 rfl (Nat.le_of_ble_eq_true rfl) [1, 2, 3, 0] rfl ?_
  refine fk_aloadN_n 3 d_F_inputs_6 rfl ?_
  refine fk_ifnullN d_F_inputs_7 rfl ?_
  refine fk_iconst (v := nI 0 - 1) d_F_inputs_22 (by decide +kernel) ?_
  exact hret (0, 0) _ 23 _ () d_F_inputs_23 (trivial) (rfl)
set_option maxRecDepth 20000 in
set_option maxHeartbeats 4000000 in
theorem cX_inputsM (E : fk_E) (x0 : Nat) (a0 : Nat) (n0 : Nat) (m0 : Nat) (i0 : Nat) (r0 : Nat) (p0 : Nat) (x : Int32) (y : Int32) (hx : x < 0) : fk_C E fy_F_inputs prog_1_method_13_code 4 (some .int) 1 0 0 [.ref x0, .int x, .int y] [(x0, .inr (0, [.ref a0, .ref n0, .ref m0, .ref i0, .ref r0, .ref p0]))] (S := Unit) (fun _ => some (.int (nI 0 - 1))) (fun _ => True) (fun _ => [(x0, .inr (0, [.ref a0, .ref n0, .ref m0, .ref i0, .ref r0, .ref p0]))]) := by
  refine fk_enterI (v := fun _ => (nI 0 - 1)) (by decide) (Nat.le_of_ble_eq_true rfl) (lv0 := [(0, .ref x0), (1, .int x), (2, .int y)]) rfl ?_
  intro K hini hret
  refine fk_aload_n 0 d_F_inputs_0 rfl ?_
  refine fk_iload_n 1 d_F_inputs_1 rfl ?_
  refine fk_callV (q0 := 0) (As := [.int x]) (rest := []) (is := [0]) (ir := []) (ip := [0]) (wc := [(x0, .inr (0, [.ref a0, .ref n0, .ref m0, .ref i0, .ref r0, .ref p0]))]) (wr := []) (w2 := fun _ => [(x0, .inr (0, [.ref a0, .ref n0, .ref m0, .ref i0, .ref r0, .ref p0]))]) (cX_netOfM E x0 a0 n0 m0 i0 r0 p0 x (by first | omega | assumption)) d_F_inputs_2 fz_F_netOf fw_332 rfl rfl fw_334 fw_p6 ⟨Nat.le_of_ble_eq_true rfl, Nat.le_of_ble_eq_true rfl⟩ rfl (Nat.le_of_ble_eq_true rfl) ⟨Nat.zero_le _, Nat.zero_le _⟩ ⟨rfl, rfl, rfl, rfl, by decide, fun _ => rfl, rfl⟩ (fun u hu2 => ?_)
  show fk_V E _ K (0, 0) [(x0, .inr (0, [.ref a0, .ref n0, .ref m0, .ref i0, .ref r0, .ref p0]))] 5 [(0, .ref x0), (1, .int x), (2, .int y)] [.null]
  refine fk_astoreN_n (lv' := [(0, .ref x0), (1, .int x), (2, .int y), (3, .null)]) d_F_inputs_5 rfl (Nat.le_of_ble_eq_true rfl) [1, 2, 3, 0] rfl ?_
  refine fk_aloadN_n 3 d_F_inputs_6 rfl ?_
  refine fk_ifnullN d_F_inputs_7 rfl ?_
  refine fk_iconst (v := nI 0 - 1) d_F_inputs_22 (by decide +kernel) ?_
  exact hret (0, 0) _ 23 _ () d_F_inputs_23 (trivial) (rfl)
theorem d_F_outputs_0 : decode prog_1_method_14_code 0 = .ok (.aload_n 0, 1) := by decide +kernel
theorem d_F_outputs_1 : decode prog_1_method_14_code 1 = .ok (.iload_n 1, 1) := by decide +kernel
theorem d_F_outputs_2 : decode prog_1_method_14_code 2 = .ok (.invokevirtual 106, 3) := by decide +kernel
theorem d_F_outputs_5 : decode prog_1_method_14_code 5 = .ok (.astore_n 3, 1) := by decide +kernel
theorem d_F_outputs_6 : decode prog_1_method_14_code 6 = .ok (.aload_n 3, 1) := by decide +kernel
theorem d_F_outputs_7 : decode prog_1_method_14_code 7 = .ok (.ifnull 15, 3) := by decide +kernel
theorem d_F_outputs_10 : decode prog_1_method_14_code 10 = .ok (.iload_n 2, 1) := by decide +kernel
theorem d_F_outputs_11 : decode prog_1_method_14_code 11 = .ok (.ifCond .lt 11, 3) := by decide +kernel
theorem d_F_outputs_14 : decode prog_1_method_14_code 14 = .ok (.iload_n 2, 1) := by decide +kernel
theorem d_F_outputs_15 : decode prog_1_method_14_code 15 = .ok (.aload_n 3, 1) := by decide +kernel
theorem d_F_outputs_16 : decode prog_1_method_14_code 16 = .ok (.invokevirtual 87, 3) := by decide +kernel
theorem d_F_outputs_19 : decode prog_1_method_14_code 19 = .ok (.if_icmp .le 5, 3) := by decide +kernel
theorem d_F_outputs_22 : decode prog_1_method_14_code 22 = .ok (.iconst (-1), 1) := by decide +kernel
theorem d_F_outputs_23 : decode prog_1_method_14_code 23 = .ok (.ireturn, 1) := by decide +kernel
theorem d_F_outputs_24 : decode prog_1_method_14_code 24 = .ok (.iload_n 2, 1) := by decide +kernel
theorem d_F_outputs_25 : decode prog_1_method_14_code 25 = .ok (.aload_n 3, 1) := by decide +kernel
theorem d_F_outputs_26 : decode prog_1_method_14_code 26 = .ok (.invokevirtual 87, 3) := by decide +kernel
theorem d_F_outputs_29 : decode prog_1_method_14_code 29 = .ok (.if_icmp .ne 10, 3) := by decide +kernel
theorem d_F_outputs_32 : decode prog_1_method_14_code 32 = .ok (.aload_n 3, 1) := by decide +kernel
theorem d_F_outputs_33 : decode prog_1_method_14_code 33 = .ok (.invokevirtual 116, 3) := by decide +kernel
theorem d_F_outputs_36 : decode prog_1_method_14_code 36 = .ok (.goto 8, 3) := by decide +kernel
theorem d_F_outputs_39 : decode prog_1_method_14_code 39 = .ok (.aload_n 3, 1) := by decide +kernel
theorem d_F_outputs_40 : decode prog_1_method_14_code 40 = .ok (.iload_n 2, 1) := by decide +kernel
theorem d_F_outputs_41 : decode prog_1_method_14_code 41 = .ok (.invokevirtual 119, 3) := by decide +kernel
theorem d_F_outputs_44 : decode prog_1_method_14_code 44 = .ok (.ireturn, 1) := by decide +kernel
set_option maxRecDepth 20000 in
set_option maxHeartbeats 4000000 in
theorem cX_outputs0 (E : fk_E) (x0 : Nat) (a0 : Nat) (n0 : Nat) (m0 : Nat) (i0 : Nat) (r0 : Nat) (p0 : Nat) (n1 : Nat) (n2 : Nat) (n3 : Nat) (n4 : Nat) (cnt : Nat) (fi : Nat) (la : Nat) (lo : Nat) (me : Nat) (outs : Nat → Nat) (k : Nat) (hc : cnt ≤ 14) (hk : k < cnt) : fk_C E fy_F_outputs prog_1_method_14_code 4 (some .int) 1 0 0 [.ref x0, .int (nI 0), .int (nI k)] [(x0, .inr (0, [.ref a0, .ref n0, .ref m0, .ref i0, .ref r0, .ref p0])), (n0, .inr (2, [.ref n1, .ref n2, .ref n3, .ref n4, .int (nI cnt), .int (nI fi), .int (nI la), .int (nI lo), .int (nI me)])), fk_ai E n2 14 outs] (S := Unit) (fun _ => some (.int (nI (outs k)))) (fun _ => True) (fun _ => [(x0, .inr (0, [.ref a0, .ref n0, .ref m0, .ref i0, .ref r0, .ref p0])), (n0, .inr (2, [.ref n1, .ref n2, .ref n3, .ref n4, .int (nI cnt), .int (nI fi), .int (nI la), .int (nI lo), .int (nI me)])), fk_ai E n2 14 outs]) := by
  refine fk_enterI (v := fun _ => (nI (outs k))) (by decide) (Nat.le_of_ble_eq_true rfl) (lv0 := [(0, .ref x0), (1, .int (nI 0)), (2, .int (nI k))]) rfl ?_
  intro K hini hret
  refine fk_aload_n 0 d_F_outputs_0 rfl ?_
  refine fk_iload_n 1 d_F_outputs_1 rfl ?_
  refine fk_callV (q0 := 0) (As := [.int (nI 0)]) (rest := []) (is := [0]) (ir := [1, 2]) (ip := [2, 0, 1]) (wc := [(x0, .inr (0, [.ref a0, .ref n0, .ref m0, .ref i0, .ref r0, .ref p0]))]) (wr := [(n0, .inr (2, [.ref n1, .ref n2, .ref n3, .ref n4, .int (nI cnt), .int (nI fi), .int (nI la), .int (nI lo), .int (nI me)])), fk_ai E n2 14 outs]) (w2 := fun _ => [(x0, .inr (0, [.ref a0, .ref n0, .ref m0, .ref i0, .ref r0, .ref p0])), (n0, .inr (2, [.ref n1, .ref n2, .ref n3, .ref n4, .int (nI cnt), .int (nI fi), .int (nI la), .int (nI lo), .int (nI me)])), fk_ai E n2 14 outs]) (cX_netOf0 E x0 a0 n0 m0 i0 r0 p0 ) d_F_outputs_2 fz_F_netOf fw_332 rfl rfl fw_334 fw_p6 ⟨Nat.le_of_ble_eq_true rfl, Nat.le_of_ble_eq_true rfl⟩ rfl (Nat.le_of_ble_eq_true rfl) ⟨Nat.zero_le _, Nat.zero_le _⟩ ⟨rfl, rfl, rfl, rfl, by decide, fun _ => rfl, rfl⟩ (fun u hu2 => ?_)
  show fk_V E _ K (0, 0) [(x0, .inr (0, [.ref a0, .ref n0, .ref m0, .ref i0, .ref r0, .ref p0])), (n0, .inr (2, [.ref n1, .ref n2, .ref n3, .ref n4, .int (nI cnt), .int (nI fi), .int (nI la), .int (nI lo), .int (nI me)])), fk_ai E n2 14 outs] 5 [(0, .ref x0), (1, .int (nI 0)), (2, .int (nI k))] [.ref n0]
  refine fk_astore_n (lv' := [(0, .ref x0), (1, .int (nI 0)), (2, .int (nI k)), (3, .ref n0)]) d_F_outputs_5 rfl (Nat.le_of_ble_eq_true rfl) [1, 2, 3, 0] rfl ?_
  refine fk_aload_n 3 d_F_outputs_6 rfl ?_
  refine fk_ifnull d_F_outputs_7 ?_
  refine fk_iload_n 2 d_F_outputs_10 rfl ?_
  refine fk_if_lt (by omega) d_F_outputs_11 rfl ?_
  refine fk_iload_n 2 d_F_outputs_14 rfl ?_
  refine fk_aload_n 3 d_F_outputs_15 rfl ?_
  refine fk_callV (q0 := 1) (As := []) (rest := [.int (nI k)]) (is := [1]) (ir := [0, 2]) (ip := [0, 2, 1]) (wc := [(n0, .inr (2, [.ref n1, .ref n2, .ref n3, .ref n4, .int (nI cnt), .int (nI fi), .int (nI la), .int (nI lo), .int (nI me)]))]) (wr := [(x0, .inr (0, [.ref a0, .ref n0, .ref m0, .ref i0, .ref r0, .ref p0])), fk_ai E n2 14 outs]) (w2 := fun _ => [(x0, .inr (0, [.ref a0, .ref n0, .ref m0, .ref i0, .ref r0, .ref p0])), (n0, .inr (2, [.ref n1, .ref n2, .ref n3, .ref n4, .int (nI cnt), .int (nI fi), .int (nI la), .int (nI lo), .int (nI me)])), fk_ai E n2 14 outs]) (cN_placeCount E n0 n1 n2 n3 n4 cnt fi la lo me ) d_F_outputs_16 fz_Nt_placeCount fw_302 rfl rfl fw_303 fw_304 ⟨Nat.le_of_ble_eq_true rfl, Nat.le_of_ble_eq_true rfl⟩ rfl (Nat.le_of_ble_eq_true rfl) ⟨Nat.zero_le _, Nat.zero_le _⟩ ⟨rfl, rfl, rfl, rfl, by decide, fun _ => rfl, rfl⟩ (fun u hu16 => ?_)
  show fk_V E _ K (0, 0) [(x0, .inr (0, [.ref a0, .ref n0, .ref m0, .ref i0, .ref r0, .ref p0])), (n0, .inr (2, [.ref n1, .ref n2, .ref n3, .ref n4, .int (nI cnt), .int (nI fi), .int (nI la), .int (nI lo), .int (nI me)])), fk_ai E n2 14 outs] 19 [(0, .ref x0), (1, .int (nI 0)), (2, .int (nI k)), (3, .ref n0)] [.int (nI cnt), .int (nI k)]
  refine fk_icmp_le (a := k) (b := cnt) (by omega) (by omega) d_F_outputs_19 rfl (fun h19t => ?_) (fun h19f => ?_)
  · refine fk_iload_n 2 d_F_outputs_24 rfl ?_
    refine fk_aload_n 3 d_F_outputs_25 rfl ?_
    refine fk_callV (q0 := 1) (As := []) (rest := [.int (nI k)]) (is := [1]) (ir := [0, 2]) (ip := [0, 2, 1]) (wc := [(n0, .inr (2, [.ref n1, .ref n2, .ref n3, .ref n4, .int (nI cnt), .int (nI fi), .int (nI la), .int (nI lo), .int (nI me)]))]) (wr := [(x0, .inr (0, [.ref a0, .ref n0, .ref m0, .ref i0, .ref r0, .ref p0])), fk_ai E n2 14 outs]) (w2 := fun _ => [(x0, .inr (0, [.ref a0, .ref n0, .ref m0, .ref i0, .ref r0, .ref p0])), (n0, .inr (2, [.ref n1, .ref n2, .ref n3, .ref n4, .int (nI cnt), .int (nI fi), .int (nI la), .int (nI lo), .int (nI me)])), fk_ai E n2 14 outs]) (cN_placeCount E n0 n1 n2 n3 n4 cnt fi la lo me ) d_F_outputs_26 fz_Nt_placeCount fw_302 rfl rfl fw_303 fw_304 ⟨Nat.le_of_ble_eq_true rfl, Nat.le_of_ble_eq_true rfl⟩ rfl (Nat.le_of_ble_eq_true rfl) ⟨Nat.zero_le _, Nat.zero_le _⟩ ⟨rfl, rfl, rfl, rfl, by decide, fun _ => rfl, rfl⟩ (fun u hu26 => ?_)
    show fk_V E _ K (0, 0) [(x0, .inr (0, [.ref a0, .ref n0, .ref m0, .ref i0, .ref r0, .ref p0])), (n0, .inr (2, [.ref n1, .ref n2, .ref n3, .ref n4, .int (nI cnt), .int (nI fi), .int (nI la), .int (nI lo), .int (nI me)])), fk_ai E n2 14 outs] 29 [(0, .ref x0), (1, .int (nI 0)), (2, .int (nI k)), (3, .ref n0)] [.int (nI cnt), .int (nI k)]
    refine fk_icmp_ne (a := k) (b := cnt) (by omega) (by omega) d_F_outputs_29 rfl (fun h29t => ?_) (fun h29f => ?_)
    · refine fk_aload_n 3 d_F_outputs_39 rfl ?_
      refine fk_iload_n 2 d_F_outputs_40 rfl ?_
      refine fk_callV (q0 := 1) (As := [.int (nI k)]) (rest := []) (is := [1, 2]) (ir := [0]) (ip := [0, 1, 2]) (wc := [(n0, .inr (2, [.ref n1, .ref n2, .ref n3, .ref n4, .int (nI cnt), .int (nI fi), .int (nI la), .int (nI lo), .int (nI me)])), fk_ai E n2 14 outs]) (wr := [(x0, .inr (0, [.ref a0, .ref n0, .ref m0, .ref i0, .ref r0, .ref p0]))]) (w2 := fun _ => [(x0, .inr (0, [.ref a0, .ref n0, .ref m0, .ref i0, .ref r0, .ref p0])), (n0, .inr (2, [.ref n1, .ref n2, .ref n3, .ref n4, .int (nI cnt), .int (nI fi), .int (nI la), .int (nI lo), .int (nI me)])), fk_ai E n2 14 outs]) (cN_outputsOf E n0 n1 n2 n3 n4 cnt fi la lo me outs k (by first | omega | assumption)) d_F_outputs_41 fz_Nt_outputsOf fw_356 rfl rfl fw_357 fw_358 ⟨Nat.le_of_ble_eq_true rfl, Nat.le_of_ble_eq_true rfl⟩ rfl (Nat.le_of_ble_eq_true rfl) ⟨Nat.zero_le _, Nat.zero_le _⟩ ⟨rfl, rfl, rfl, rfl, by decide, fun _ => rfl, rfl⟩ (fun u hu41 => ?_)
      show fk_V E _ K (0, 0) [(x0, .inr (0, [.ref a0, .ref n0, .ref m0, .ref i0, .ref r0, .ref p0])), (n0, .inr (2, [.ref n1, .ref n2, .ref n3, .ref n4, .int (nI cnt), .int (nI fi), .int (nI la), .int (nI lo), .int (nI me)])), fk_ai E n2 14 outs] 44 [(0, .ref x0), (1, .int (nI 0)), (2, .int (nI k)), (3, .ref n0)] [.int (nI (outs k))]
      exact hret (0, 0) _ 44 _ () d_F_outputs_44 (trivial) (rfl)
    · omega
  · omega
set_option maxRecDepth 20000 in
set_option maxHeartbeats 4000000 in
theorem cX_outputs0E (E : fk_E) (x0 : Nat) (a0 : Nat) (n0 : Nat) (m0 : Nat) (i0 : Nat) (r0 : Nat) (p0 : Nat) (n1 : Nat) (n2 : Nat) (n3 : Nat) (n4 : Nat) (cnt : Nat) (fi : Nat) (la : Nat) (lo : Nat) (me : Nat) (outs : Nat → Nat) (k : Nat) (hc : cnt ≤ 14) (hk : k = cnt) : fk_C E fy_F_outputs prog_1_method_14_code 4 (some .int) 1 0 0 [.ref x0, .int (nI 0), .int (nI k)] [(x0, .inr (0, [.ref a0, .ref n0, .ref m0, .ref i0, .ref r0, .ref p0])), (n0, .inr (2, [.ref n1, .ref n2, .ref n3, .ref n4, .int (nI cnt), .int (nI fi), .int (nI la), .int (nI lo), .int (nI me)])), fk_ai E n2 14 outs] (S := Unit) (fun _ => some (.int (nI fi))) (fun _ => True) (fun _ => [(x0, .inr (0, [.ref a0, .ref n0, .ref m0, .ref i0, .ref r0, .ref p0])), (n0, .inr (2, [.ref n1, .ref n2, .ref n3, .ref n4, .int (nI cnt), .int (nI fi), .int (nI la), .int (nI lo), .int (nI me)])), fk_ai E n2 14 outs]) := by
  refine fk_enterI (v := fun _ => (nI fi)) (by decide) (Nat.le_of_ble_eq_true rfl) (lv0 := [(0, .ref x0), (1, .int (nI 0)), (2, .int (nI k))]) rfl ?_
  intro K hini hret
  refine fk_aload_n 0 d_F_outputs_0 rfl ?_
  refine fk_iload_n 1 d_F_outputs_1 rfl ?_
  refine fk_callV (q0 := 0) (As := [.int (nI 0)]) (rest := []) (is := [0]) (ir := [1, 2]) (ip := [2, 0, 1]) (wc := [(x0, .inr (0, [.ref a0, .ref n0, .ref m0, .ref i0, .ref r0, .ref p0]))]) (wr := [(n0, .inr (2, [.ref n1, .ref n2, .ref n3, .ref n4, .int (nI cnt), .int (nI fi), .int (nI la), .int (nI lo), .int (nI me)])), fk_ai E n2 14 outs]) (w2 := fun _ => [(x0, .inr (0, [.ref a0, .ref n0, .ref m0, .ref i0, .ref r0, .ref p0])), (n0, .inr (2, [.ref n1, .ref n2, .ref n3, .ref n4, .int (nI cnt), .int (nI fi), .int (nI la), .int (nI lo), .int (nI me)])), fk_ai E n2 14 outs]) (cX_netOf0 E x0 a0 n0 m0 i0 r0 p0 ) d_F_outputs_2 fz_F_netOf fw_332 rfl rfl fw_334 fw_p6 ⟨Nat.le_of_ble_eq_true rfl, Nat.le_of_ble_eq_true rfl⟩ rfl (Nat.le_of_ble_eq_true rfl) ⟨Nat.zero_le _, Nat.zero_le _⟩ ⟨rfl, rfl, rfl, rfl, by decide, fun _ => rfl, rfl⟩ (fun u hu2 => ?_)
  show fk_V E _ K (0, 0) [(x0, .inr (0, [.ref a0, .ref n0, .ref m0, .ref i0, .ref r0, .ref p0])), (n0, .inr (2, [.ref n1, .ref n2, .ref n3, .ref n4, .int (nI cnt), .int (nI fi), .int (nI la), .int (nI lo), .int (nI me)])), fk_ai E n2 14 outs] 5 [(0, .ref x0), (1, .int (nI 0)), (2, .int (nI k))] [.ref n0]
  refine fk_astore_n (lv' := [(0, .ref x0), (1, .int (nI 0)), (2, .int (nI k)), (3, .ref n0)]) d_F_outputs_5 rfl (Nat.le_of_ble_eq_true rfl) [1, 2, 3, 0] rfl ?_
  refine fk_aload_n 3 d_F_outputs_6 rfl ?_
  refine fk_ifnull d_F_outputs_7 ?_
  refine fk_iload_n 2 d_F_outputs_10 rfl ?_
  refine fk_if_lt (by omega) d_F_outputs_11 rfl ?_
  refine fk_iload_n 2 d_F_outputs_14 rfl ?_
  refine fk_aload_n 3 d_F_outputs_15 rfl ?_
  refine fk_callV (q0 := 1) (As := []) (rest := [.int (nI k)]) (is := [1]) (ir := [0, 2]) (ip := [0, 2, 1]) (wc := [(n0, .inr (2, [.ref n1, .ref n2, .ref n3, .ref n4, .int (nI cnt), .int (nI fi), .int (nI la), .int (nI lo), .int (nI me)]))]) (wr := [(x0, .inr (0, [.ref a0, .ref n0, .ref m0, .ref i0, .ref r0, .ref p0])), fk_ai E n2 14 outs]) (w2 := fun _ => [(x0, .inr (0, [.ref a0, .ref n0, .ref m0, .ref i0, .ref r0, .ref p0])), (n0, .inr (2, [.ref n1, .ref n2, .ref n3, .ref n4, .int (nI cnt), .int (nI fi), .int (nI la), .int (nI lo), .int (nI me)])), fk_ai E n2 14 outs]) (cN_placeCount E n0 n1 n2 n3 n4 cnt fi la lo me ) d_F_outputs_16 fz_Nt_placeCount fw_302 rfl rfl fw_303 fw_304 ⟨Nat.le_of_ble_eq_true rfl, Nat.le_of_ble_eq_true rfl⟩ rfl (Nat.le_of_ble_eq_true rfl) ⟨Nat.zero_le _, Nat.zero_le _⟩ ⟨rfl, rfl, rfl, rfl, by decide, fun _ => rfl, rfl⟩ (fun u hu16 => ?_)
  show fk_V E _ K (0, 0) [(x0, .inr (0, [.ref a0, .ref n0, .ref m0, .ref i0, .ref r0, .ref p0])), (n0, .inr (2, [.ref n1, .ref n2, .ref n3, .ref n4, .int (nI cnt), .int (nI fi), .int (nI la), .int (nI lo), .int (nI me)])), fk_ai E n2 14 outs] 19 [(0, .ref x0), (1, .int (nI 0)), (2, .int (nI k)), (3, .ref n0)] [.int (nI cnt), .int (nI k)]
  refine fk_icmp_le (a := k) (b := cnt) (by omega) (by omega) d_F_outputs_19 rfl (fun h19t => ?_) (fun h19f => ?_)
  · refine fk_iload_n 2 d_F_outputs_24 rfl ?_
    refine fk_aload_n 3 d_F_outputs_25 rfl ?_
    refine fk_callV (q0 := 1) (As := []) (rest := [.int (nI k)]) (is := [1]) (ir := [0, 2]) (ip := [0, 2, 1]) (wc := [(n0, .inr (2, [.ref n1, .ref n2, .ref n3, .ref n4, .int (nI cnt), .int (nI fi), .int (nI la), .int (nI lo), .int (nI me)]))]) (wr := [(x0, .inr (0, [.ref a0, .ref n0, .ref m0, .ref i0, .ref r0, .ref p0])), fk_ai E n2 14 outs]) (w2 := fun _ => [(x0, .inr (0, [.ref a0, .ref n0, .ref m0, .ref i0, .ref r0, .ref p0])), (n0, .inr (2, [.ref n1, .ref n2, .ref n3, .ref n4, .int (nI cnt), .int (nI fi), .int (nI la), .int (nI lo), .int (nI me)])), fk_ai E n2 14 outs]) (cN_placeCount E n0 n1 n2 n3 n4 cnt fi la lo me ) d_F_outputs_26 fz_Nt_placeCount fw_302 rfl rfl fw_303 fw_304 ⟨Nat.le_of_ble_eq_true rfl, Nat.le_of_ble_eq_true rfl⟩ rfl (Nat.le_of_ble_eq_true rfl) ⟨Nat.zero_le _, Nat.zero_le _⟩ ⟨rfl, rfl, rfl, rfl, by decide, fun _ => rfl, rfl⟩ (fun u hu26 => ?_)
    show fk_V E _ K (0, 0) [(x0, .inr (0, [.ref a0, .ref n0, .ref m0, .ref i0, .ref r0, .ref p0])), (n0, .inr (2, [.ref n1, .ref n2, .ref n3, .ref n4, .int (nI cnt), .int (nI fi), .int (nI la), .int (nI lo), .int (nI me)])), fk_ai E n2 14 outs] 29 [(0, .ref x0), (1, .int (nI 0)), (2, .int (nI k)), (3, .ref n0)] [.int (nI cnt), .int (nI k)]
    refine fk_icmp_ne (a := k) (b := cnt) (by omega) (by omega) d_F_outputs_29 rfl (fun h29t => ?_) (fun h29f => ?_)
    · omega
    · refine fk_aload_n 3 d_F_outputs_32 rfl ?_
      refine fk_callV (q0 := 1) (As := []) (rest := []) (is := [1]) (ir := [0, 2]) (ip := [0, 2, 1]) (wc := [(n0, .inr (2, [.ref n1, .ref n2, .ref n3, .ref n4, .int (nI cnt), .int (nI fi), .int (nI la), .int (nI lo), .int (nI me)]))]) (wr := [(x0, .inr (0, [.ref a0, .ref n0, .ref m0, .ref i0, .ref r0, .ref p0])), fk_ai E n2 14 outs]) (w2 := fun _ => [(x0, .inr (0, [.ref a0, .ref n0, .ref m0, .ref i0, .ref r0, .ref p0])), (n0, .inr (2, [.ref n1, .ref n2, .ref n3, .ref n4, .int (nI cnt), .int (nI fi), .int (nI la), .int (nI lo), .int (nI me)])), fk_ai E n2 14 outs]) (cN_firstOnes E n0 n1 n2 n3 n4 cnt fi la lo me ) d_F_outputs_33 fz_Nt_firstOnes fw_352 rfl rfl fw_353 fw_354 ⟨Nat.le_of_ble_eq_true rfl, Nat.le_of_ble_eq_true rfl⟩ rfl (Nat.le_of_ble_eq_true rfl) ⟨Nat.zero_le _, Nat.zero_le _⟩ ⟨rfl, rfl, rfl, rfl, by decide, fun _ => rfl, rfl⟩ (fun u hu33 => ?_)
      show fk_V E _ K (0, 0) [(x0, .inr (0, [.ref a0, .ref n0, .ref m0, .ref i0, .ref r0, .ref p0])), (n0, .inr (2, [.ref n1, .ref n2, .ref n3, .ref n4, .int (nI cnt), .int (nI fi), .int (nI la), .int (nI lo), .int (nI me)])), fk_ai E n2 14 outs] 36 [(0, .ref x0), (1, .int (nI 0)), (2, .int (nI k)), (3, .ref n0)] [.int (nI fi)]
      refine fk_goto d_F_outputs_36 rfl ?_
      exact hret (0, 0) _ 44 _ () d_F_outputs_44 (trivial) (rfl)
  · omega
set_option maxRecDepth 20000 in
set_option maxHeartbeats 4000000 in
theorem cX_outputs0O (E : fk_E) (x0 : Nat) (a0 : Nat) (n0 : Nat) (m0 : Nat) (i0 : Nat) (r0 : Nat) (p0 : Nat) (n1 : Nat) (n2 : Nat) (n3 : Nat) (n4 : Nat) (cnt : Nat) (fi : Nat) (la : Nat) (lo : Nat) (me : Nat) (outs : Nat → Nat) (k : Nat) (hc : cnt ≤ 14) (hk : cnt < k) (hk2 : k < 2 ^ 31) : fk_C E fy_F_outputs prog_1_method_14_code 4 (some .int) 1 0 0 [.ref x0, .int (nI 0), .int (nI k)] [(x0, .inr (0, [.ref a0, .ref n0, .ref m0, .ref i0, .ref r0, .ref p0])), (n0, .inr (2, [.ref n1, .ref n2, .ref n3, .ref n4, .int (nI cnt), .int (nI fi), .int (nI la), .int (nI lo), .int (nI me)])), fk_ai E n2 14 outs] (S := Unit) (fun _ => some (.int (nI 0 - 1))) (fun _ => True) (fun _ => [(x0, .inr (0, [.ref a0, .ref n0, .ref m0, .ref i0, .ref r0, .ref p0])), (n0, .inr (2, [.ref n1, .ref n2, .ref n3, .ref n4, .int (nI cnt), .int (nI fi), .int (nI la), .int (nI lo), .int (nI me)])), fk_ai E n2 14 outs]) := by
  refine fk_enterI (v := fun _ => (nI 0 - 1)) (by decide) (Nat.le_of_ble_eq_true rfl) (lv0 := [(0, .ref x0), (1, .int (nI 0)), (2, .int (nI k))]) rfl ?_
  intro K hini hret
  refine fk_aload_n 0 d_F_outputs_0 rfl ?_
  refine fk_iload_n 1 d_F_outputs_1 rfl ?_
  refine fk_callV (q0 := 0) (As := [.int (nI 0)]) (rest := []) (is := [0]) (ir := [1, 2]) (ip := [2, 0, 1]) (wc := [(x0, .inr (0, [.ref a0, .ref n0, .ref m0, .ref i0, .ref r0, .ref p0]))]) (wr := [(n0, .inr (2, [.ref n1, .ref n2, .ref n3, .ref n4, .int (nI cnt), .int (nI fi), .int (nI la), .int (nI lo), .int (nI me)])), fk_ai E n2 14 outs]) (w2 := fun _ => [(x0, .inr (0, [.ref a0, .ref n0, .ref m0, .ref i0, .ref r0, .ref p0])), (n0, .inr (2, [.ref n1, .ref n2, .ref n3, .ref n4, .int (nI cnt), .int (nI fi), .int (nI la), .int (nI lo), .int (nI me)])), fk_ai E n2 14 outs]) (cX_netOf0 E x0 a0 n0 m0 i0 r0 p0 ) d_F_outputs_2 fz_F_netOf fw_332 rfl rfl fw_334 fw_p6 ⟨Nat.le_of_ble_eq_true rfl, Nat.le_of_ble_eq_true rfl⟩ rfl (Nat.le_of_ble_eq_true rfl) ⟨Nat.zero_le _, Nat.zero_le _⟩ ⟨rfl, rfl, rfl, rfl, by decide, fun _ => rfl, rfl⟩ (fun u hu2 => ?_)
  show fk_V E _ K (0, 0) [(x0, .inr (0, [.ref a0, .ref n0, .ref m0, .ref i0, .ref r0, .ref p0])), (n0, .inr (2, [.ref n1, .ref n2, .ref n3, .ref n4, .int (nI cnt), .int (nI fi), .int (nI la), .int (nI lo), .int (nI me)])), fk_ai E n2 14 outs] 5 [(0, .ref x0), (1, .int (nI 0)), (2, .int (nI k))] [.ref n0]
  refine fk_astore_n (lv' := [(0, .ref x0), (1, .int (nI 0)), (2, .int (nI k)), (3, .ref n0)]) d_F_outputs_5 rfl (Nat.le_of_ble_eq_true rfl) [1, 2, 3, 0] rfl ?_
  refine fk_aload_n 3 d_F_outputs_6 rfl ?_
  refine fk_ifnull d_F_outputs_7 ?_
  refine fk_iload_n 2 d_F_outputs_10 rfl ?_
  refine fk_if_lt (by omega) d_F_outputs_11 rfl ?_
  refine fk_iload_n 2 d_F_outputs_14 rfl ?_
  refine fk_aload_n 3 d_F_outputs_15 rfl ?_
  refine fk_callV (q0 := 1) (As := []) (rest := [.int (nI k)]) (is := [1]) (ir := [0, 2]) (ip := [0, 2, 1]) (wc := [(n0, .inr (2, [.ref n1, .ref n2, .ref n3, .ref n4, .int (nI cnt), .int (nI fi), .int (nI la), .int (nI lo), .int (nI me)]))]) (wr := [(x0, .inr (0, [.ref a0, .ref n0, .ref m0, .ref i0, .ref r0, .ref p0])), fk_ai E n2 14 outs]) (w2 := fun _ => [(x0, .inr (0, [.ref a0, .ref n0, .ref m0, .ref i0, .ref r0, .ref p0])), (n0, .inr (2, [.ref n1, .ref n2, .ref n3, .ref n4, .int (nI cnt), .int (nI fi), .int (nI la), .int (nI lo), .int (nI me)])), fk_ai E n2 14 outs]) (cN_placeCount E n0 n1 n2 n3 n4 cnt fi la lo me ) d_F_outputs_16 fz_Nt_placeCount fw_302 rfl rfl fw_303 fw_304 ⟨Nat.le_of_ble_eq_true rfl, Nat.le_of_ble_eq_true rfl⟩ rfl (Nat.le_of_ble_eq_true rfl) ⟨Nat.zero_le _, Nat.zero_le _⟩ ⟨rfl, rfl, rfl, rfl, by decide, fun _ => rfl, rfl⟩ (fun u hu16 => ?_)
  show fk_V E _ K (0, 0) [(x0, .inr (0, [.ref a0, .ref n0, .ref m0, .ref i0, .ref r0, .ref p0])), (n0, .inr (2, [.ref n1, .ref n2, .ref n3, .ref n4, .int (nI cnt), .int (nI fi), .int (nI la), .int (nI lo), .int (nI me)])), fk_ai E n2 14 outs] 19 [(0, .ref x0), (1, .int (nI 0)), (2, .int (nI k)), (3, .ref n0)] [.int (nI cnt), .int (nI k)]
  refine fk_icmp_le (a := k) (b := cnt) (by omega) (by omega) d_F_outputs_19 rfl (fun h19t => ?_) (fun h19f => ?_)
  · omega
  · refine fk_iconst (v := nI 0 - 1) d_F_outputs_22 (by decide +kernel) ?_
    exact hret (0, 0) _ 23 _ () d_F_outputs_23 (trivial) (rfl)
set_option maxRecDepth 20000 in
set_option maxHeartbeats 4000000 in
theorem cX_outputs0M (E : fk_E) (x0 : Nat) (a0 : Nat) (n0 : Nat) (m0 : Nat) (i0 : Nat) (r0 : Nat) (p0 : Nat) (n1 : Nat) (n2 : Nat) (n3 : Nat) (n4 : Nat) (cnt : Nat) (fi : Nat) (la : Nat) (lo : Nat) (me : Nat) (outs : Nat → Nat) (y : Int32) (hy : y < 0) : fk_C E fy_F_outputs prog_1_method_14_code 4 (some .int) 1 0 0 [.ref x0, .int (nI 0), .int y] [(x0, .inr (0, [.ref a0, .ref n0, .ref m0, .ref i0, .ref r0, .ref p0])), (n0, .inr (2, [.ref n1, .ref n2, .ref n3, .ref n4, .int (nI cnt), .int (nI fi), .int (nI la), .int (nI lo), .int (nI me)])), fk_ai E n2 14 outs] (S := Unit) (fun _ => some (.int (nI 0 - 1))) (fun _ => True) (fun _ => [(x0, .inr (0, [.ref a0, .ref n0, .ref m0, .ref i0, .ref r0, .ref p0])), (n0, .inr (2, [.ref n1, .ref n2, .ref n3, .ref n4, .int (nI cnt), .int (nI fi), .int (nI la), .int (nI lo), .int (nI me)])), fk_ai E n2 14 outs]) := by
  refine fk_enterI (v := fun _ => (nI 0 - 1)) (by decide) (Nat.le_of_ble_eq_true rfl) (lv0 := [(0, .ref x0), (1, .int (nI 0)), (2, .int y)]) rfl ?_
  intro K hini hret
  refine fk_aload_n 0 d_F_outputs_0 rfl ?_
  refine fk_iload_n 1 d_F_outputs_1 rfl ?_
  refine fk_callV (q0 := 0) (As := [.int (nI 0)]) (rest := []) (is := [0]) (ir := [1, 2]) (ip := [2, 0, 1]) (wc := [(x0, .inr (0, [.ref a0, .ref n0, .ref m0, .ref i0, .ref r0, .ref p0]))]) (wr := [(n0, .inr (2, [.ref n1, .ref n2, .ref n3, .ref n4, .int (nI cnt), .int (nI fi), .int (nI la), .int (nI lo), .int (nI me)])), fk_ai E n2 14 outs]) (w2 := fun _ => [(x0, .inr (0, [.ref a0, .ref n0, .ref m0, .ref i0, .ref r0, .ref p0])), (n0, .inr (2, [.ref n1, .ref n2, .ref n3, .ref n4, .int (nI cnt), .int (nI fi), .int (nI la), .int (nI lo), .int (nI me)])), fk_ai E n2 14 outs]) (cX_netOf0 E x0 a0 n0 m0 i0 r0 p0 ) d_F_outputs_2 fz_F_netOf fw_332 rfl rfl fw_334 fw_p6 ⟨Nat.le_of_ble_eq_true rfl, Nat.le_of_ble_eq_true rfl⟩ rfl (Nat.le_of_ble_eq_true rfl) ⟨Nat.zero_le _, Nat.zero_le _⟩ ⟨rfl, rfl, rfl, rfl, by decide, fun _ => rfl, rfl⟩ (fun u hu2 => ?_)
  show fk_V E _ K (0, 0) [(x0, .inr (0, [.ref a0, .ref n0, .ref m0, .ref i0, .ref r0, .ref p0])), (n0, .inr (2, [.ref n1, .ref n2, .ref n3, .ref n4, .int (nI cnt), .int (nI fi), .int (nI la), .int (nI lo), .int (nI me)])), fk_ai E n2 14 outs] 5 [(0, .ref x0), (1, .int (nI 0)), (2, .int y)] [.ref n0]
  refine fk_astore_n (lv' := [(0, .ref x0), (1, .int (nI 0)), (2, .int y), (3, .ref n0)]) d_F_outputs_5 rfl (Nat.le_of_ble_eq_true rfl) [1, 2, 3, 0] rfl ?_
  refine fk_aload_n 3 d_F_outputs_6 rfl ?_
  refine fk_ifnull d_F_outputs_7 ?_
  refine fk_iload_n 2 d_F_outputs_10 rfl ?_
  refine fk_if_ltR d_F_outputs_11 rfl (fun h11t => ?_) (fun h11f => ?_)
  · refine fk_iconst (v := nI 0 - 1) d_F_outputs_22 (by decide +kernel) ?_
    exact hret (0, 0) _ 23 _ () d_F_outputs_23 (trivial) (rfl)
  · exact absurd hy h11f
set_option maxRecDepth 20000 in
set_option maxHeartbeats 4000000 in
theorem cX_outputs1 (E : fk_E) (x0 : Nat) (a0 : Nat) (n0 : Nat) (m0 : Nat) (i0 : Nat) (r0 : Nat) (p0 : Nat) (m1 : Nat) (m2 : Nat) (m3 : Nat) (m4 : Nat) (cn2 : Nat) (fi2 : Nat) (la2 : Nat) (lo2 : Nat) (me2 : Nat) (ou2 : Nat → Nat) (k : Nat) (hc : cn2 ≤ 14) (hk : k < cn2) : fk_C E fy_F_outputs prog_1_method_14_code 4 (some .int) 1 0 0 [.ref x0, .int (nI 1), .int (nI k)] [(x0, .inr (0, [.ref a0, .ref n0, .ref m0, .ref i0, .ref r0, .ref p0])), (m0, .inr (2, [.ref m1, .ref m2, .ref m3, .ref m4, .int (nI cn2), .int (nI fi2), .int (nI la2), .int (nI lo2), .int (nI me2)])), fk_ai E m2 14 ou2] (S := Unit) (fun _ => some (.int (nI (ou2 k)))) (fun _ => True) (fun _ => [(x0, .inr (0, [.ref a0, .ref n0, .ref m0, .ref i0, .ref r0, .ref p0])), (m0, .inr (2, [.ref m1, .ref m2, .ref m3, .ref m4, .int (nI cn2), .int (nI fi2), .int (nI la2), .int (nI lo2), .int (nI me2)])), fk_ai E m2 14 ou2]) := by
  refine fk_enterI (v := fun _ => (nI (ou2 k))) (by decide) (Nat.le_of_ble_eq_true rfl) (lv0 := [(0, .ref x0), (1, .int (nI 1)), (2, .int (nI k))]) rfl ?_
  intro K hini hret
  refine fk_aload_n 0 d_F_outputs_0 rfl ?_
  refine fk_iload_n 1 d_F_outputs_1 rfl ?_
  refine fk_callV (q0 := 0) (As := [.int (nI 1)]) (rest := []) (is := [0]) (ir := [1, 2]) (ip := [2, 0, 1]) (wc := [(x0, .inr (0, [.ref a0, .ref n0, .ref m0, .ref i0, .ref r0, .ref p0]))]) (wr := [(m0, .inr (2, [.ref m1, .ref m2, .ref m3, .ref m4, .int (nI cn2), .int (nI fi2), .int (nI la2), .int (nI lo2), .int (nI me2)])), fk_ai E m2 14 ou2]) (w2 := fun _ => [(x0, .inr (0, [.ref a0, .ref n0, .ref m0, .ref i0, .ref r0, .ref p0])), (m0, .inr (2, [.ref m1, .ref m2, .ref m3, .ref m4, .int (nI cn2), .int (nI fi2), .int (nI la2), .int (nI lo2), .int (nI me2)])), fk_ai E m2 14 ou2]) (cX_netOf1 E x0 a0 n0 m0 i0 r0 p0 ) d_F_outputs_2 fz_F_netOf fw_332 rfl rfl fw_334 fw_p6 ⟨Nat.le_of_ble_eq_true rfl, Nat.le_of_ble_eq_true rfl⟩ rfl (Nat.le_of_ble_eq_true rfl) ⟨Nat.zero_le _, Nat.zero_le _⟩ ⟨rfl, rfl, rfl, rfl, by decide, fun _ => rfl, rfl⟩ (fun u hu2 => ?_)
  show fk_V E _ K (0, 0) [(x0, .inr (0, [.ref a0, .ref n0, .ref m0, .ref i0, .ref r0, .ref p0])), (m0, .inr (2, [.ref m1, .ref m2, .ref m3, .ref m4, .int (nI cn2), .int (nI fi2), .int (nI la2), .int (nI lo2), .int (nI me2)])), fk_ai E m2 14 ou2] 5 [(0, .ref x0), (1, .int (nI 1)), (2, .int (nI k))] [.ref m0]
  refine fk_astore_n (lv' := [(0, .ref x0), (1, .int (nI 1)), (2, .int (nI k)), (3, .ref m0)]) d_F_outputs_5 rfl (Nat.le_of_ble_eq_true rfl) [1, 2, 3, 0] rfl ?_
  refine fk_aload_n 3 d_F_outputs_6 rfl ?_
  refine fk_ifnull d_F_outputs_7 ?_
  refine fk_iload_n 2 d_F_outputs_10 rfl ?_
  refine fk_if_lt (by omega) d_F_outputs_11 rfl ?_
  refine fk_iload_n 2 d_F_outputs_14 rfl ?_
  refine fk_aload_n 3 d_F_outputs_15 rfl ?_
  refine fk_callV (q0 := 1) (As := []) (rest := [.int (nI k)]) (is := [1]) (ir := [0, 2]) (ip := [0, 2, 1]) (wc := [(m0, .inr (2, [.ref m1, .ref m2, .ref m3, .ref m4, .int (nI cn2), .int (nI fi2), .int (nI la2), .int (nI lo2), .int (nI me2)]))]) (wr := [(x0, .inr (0, [.ref a0, .ref n0, .ref m0, .ref i0, .ref r0, .ref p0])), fk_ai E m2 14 ou2]) (w2 := fun _ => [(x0, .inr (0, [.ref a0, .ref n0, .ref m0, .ref i0, .ref r0, .ref p0])), (m0, .inr (2, [.ref m1, .ref m2, .ref m3, .ref m4, .int (nI cn2), .int (nI fi2), .int (nI la2), .int (nI lo2), .int (nI me2)])), fk_ai E m2 14 ou2]) (cN_placeCount E m0 m1 m2 m3 m4 cn2 fi2 la2 lo2 me2 ) d_F_outputs_16 fz_Nt_placeCount fw_302 rfl rfl fw_303 fw_304 ⟨Nat.le_of_ble_eq_true rfl, Nat.le_of_ble_eq_true rfl⟩ rfl (Nat.le_of_ble_eq_true rfl) ⟨Nat.zero_le _, Nat.zero_le _⟩ ⟨rfl, rfl, rfl, rfl, by decide, fun _ => rfl, rfl⟩ (fun u hu16 => ?_)
  show fk_V E _ K (0, 0) [(x0, .inr (0, [.ref a0, .ref n0, .ref m0, .ref i0, .ref r0, .ref p0])), (m0, .inr (2, [.ref m1, .ref m2, .ref m3, .ref m4, .int (nI cn2), .int (nI fi2), .int (nI la2), .int (nI lo2), .int (nI me2)])), fk_ai E m2 14 ou2] 19 [(0, .ref x0), (1, .int (nI 1)), (2, .int (nI k)), (3, .ref m0)] [.int (nI cn2), .int (nI k)]
  refine fk_icmp_le (a := k) (b := cn2) (by omega) (by omega) d_F_outputs_19 rfl (fun h19t => ?_) (fun h19f => ?_)
  · refine fk_iload_n 2 d_F_outputs_24 rfl ?_
    refine fk_aload_n 3 d_F_outputs_25 rfl ?_
    refine fk_callV (q0 := 1) (As := []) (rest := [.int (nI k)]) (is := [1]) (ir := [0, 2]) (ip := [0, 2, 1]) (wc := [(m0, .inr (2, [.ref m1, .ref m2, .ref m3, .ref m4, .int (nI cn2), .int (nI fi2), .int (nI la2), .int (nI lo2), .int (nI me2)]))]) (wr := [(x0, .inr (0, [.ref a0, .ref n0, .ref m0, .ref i0, .ref r0, .ref p0])), fk_ai E m2 14 ou2]) (w2 := fun _ => [(x0, .inr (0, [.ref a0, .ref n0, .ref m0, .ref i0, .ref r0, .ref p0])), (m0, .inr (2, [.ref m1, .ref m2, .ref m3, .ref m4, .int (nI cn2), .int (nI fi2), .int (nI la2), .int (nI lo2), .int (nI me2)])), fk_ai E m2 14 ou2]) (cN_placeCount E m0 m1 m2 m3 m4 cn2 fi2 la2 lo2 me2 ) d_F_outputs_26 fz_Nt_placeCount fw_302 rfl rfl fw_303 fw_304 ⟨Nat.le_of_ble_eq_true rfl, Nat.le_of_ble_eq_true rfl⟩ rfl (Nat.le_of_ble_eq_true rfl) ⟨Nat.zero_le _, Nat.zero_le _⟩ ⟨rfl, rfl, rfl, rfl, by decide, fun _ => rfl, rfl⟩ (fun u hu26 => ?_)
    show fk_V E _ K (0, 0) [(x0, .inr (0, [.ref a0, .ref n0, .ref m0, .ref i0, .ref r0, .ref p0])), (m0, .inr (2, [.ref m1, .ref m2, .ref m3, .ref m4, .int (nI cn2), .int (nI fi2), .int (nI la2), .int (nI lo2), .int (nI me2)])), fk_ai E m2 14 ou2] 29 [(0, .ref x0), (1, .int (nI 1)), (2, .int (nI k)), (3, .ref m0)] [.int (nI cn2), .int (nI k)]
    refine fk_icmp_ne (a := k) (b := cn2) (by omega) (by omega) d_F_outputs_29 rfl (fun h29t => ?_) (fun h29f => ?_)
    · refine fk_aload_n 3 d_F_outputs_39 rfl ?_
      refine fk_iload_n 2 d_F_outputs_40 rfl ?_
      refine fk_callV (q0 := 1) (As := [.int (nI k)]) (rest := []) (is := [1, 2]) (ir := [0]) (ip := [0, 1, 2]) (wc := [(m0, .inr (2, [.ref m1, .ref m2, .ref m3, .ref m4, .int (nI cn2), .int (nI fi2), .int (nI la2), .int (nI lo2), .int (nI me2)])), fk_ai E m2 14 ou2]) (wr := [(x0, .inr (0, [.ref a0, .ref n0, .ref m0, .ref i0, .ref r0, .ref p0]))]) (w2 := fun _ => [(x0, .inr (0, [.ref a0, .ref n0, .ref m0, .ref i0, .ref r0, .ref p0])), (m0, .inr (2, [.ref m1, .ref m2, .ref m3, .ref m4, .int (nI cn2), .int (nI fi2), .int (nI la2), .int (nI lo2), .int (nI me2)])), fk_ai E m2 14 ou2]) (cN_outputsOf E m0 m1 m2 m3 m4 cn2 fi2 la2 lo2 me2 ou2 k (by first | omega | assumption)) d_F_outputs_41 fz_Nt_outputsOf fw_356 rfl rfl fw_357 fw_358 ⟨Nat.le_of_ble_eq_true rfl, Nat.le_of_ble_eq_true rfl⟩ rfl (Nat.le_of_ble_eq_true rfl) ⟨Nat.zero_le _, Nat.zero_le _⟩ ⟨rfl, rfl, rfl, rfl, by decide, fun _ => rfl, rfl⟩ (fun u hu41 => ?_)
      show fk_V E _ K (0, 0) [(x0, .inr (0, [.ref a0, .ref n0, .ref m0, .ref i0, .ref r0, .ref p0])), (m0, .inr (2, [.ref m1, .ref m2, .ref m3, .ref m4, .int (nI cn2), .int (nI fi2), .int (nI la2), .int (nI lo2), .int (nI me2)])), fk_ai E m2 14 ou2] 44 [(0, .ref x0), (1, .int (nI 1)), (2, .int (nI k)), (3, .ref m0)] [.int (nI (ou2 k))]
      exact hret (0, 0) _ 44 _ () d_F_outputs_44 (trivial) (rfl)
    · omega
  · omega
set_option maxRecDepth 20000 in
set_option maxHeartbeats 4000000 in
theorem cX_outputs1E (E : fk_E) (x0 : Nat) (a0 : Nat) (n0 : Nat) (m0 : Nat) (i0 : Nat) (r0 : Nat) (p0 : Nat) (m1 : Nat) (m2 : Nat) (m3 : Nat) (m4 : Nat) (cn2 : Nat) (fi2 : Nat) (la2 : Nat) (lo2 : Nat) (me2 : Nat) (ou2 : Nat → Nat) (k : Nat) (hc : cn2 ≤ 14) (hk : k = cn2) : fk_C E fy_F_outputs prog_1_method_14_code 4 (some .int) 1 0 0 [.ref x0, .int (nI 1), .int (nI k)] [(x0, .inr (0, [.ref a0, .ref n0, .ref m0, .ref i0, .ref r0, .ref p0])), (m0, .inr (2, [.ref m1, .ref m2, .ref m3, .ref m4, .int (nI cn2), .int (nI fi2), .int (nI la2), .int (nI lo2), .int (nI me2)])), fk_ai E m2 14 ou2] (S := Unit) (fun _ => some (.int (nI fi2))) (fun _ => True) (fun _ => [(x0, .inr (0, [.ref a0, .ref n0, .ref m0, .ref i0, .ref r0, .ref p0])), (m0, .inr (2, [.ref m1, .ref m2, .ref m3, .ref m4, .int (nI cn2), .int (nI fi2), .int (nI la2), .int (nI lo2), .int (nI me2)])), fk_ai E m2 14 ou2]) := by
  refine fk_enterI (v := fun _ => (nI fi2)) (by decide) (Nat.le_of_ble_eq_true rfl) (lv0 := [(0, .ref x0), (1, .int (nI 1)), (2, .int (nI k))]) rfl ?_
  intro K hini hret
  refine fk_aload_n 0 d_F_outputs_0 rfl ?_
  refine fk_iload_n 1 d_F_outputs_1 rfl ?_
  refine fk_callV (q0 := 0) (As := [.int (nI 1)]) (rest := []) (is := [0]) (ir := [1, 2]) (ip := [2, 0, 1]) (wc := [(x0, .inr (0, [.ref a0, .ref n0, .ref m0, .ref i0, .ref r0, .ref p0]))]) (wr := [(m0, .inr (2, [.ref m1, .ref m2, .ref m3, .ref m4, .int (nI cn2), .int (nI fi2), .int (nI la2), .int (nI lo2), .int (nI me2)])), fk_ai E m2 14 ou2]) (w2 := fun _ => [(x0, .inr (0, [.ref a0, .ref n0, .ref m0, .ref i0, .ref r0, .ref p0])), (m0, .inr (2, [.ref m1, .ref m2, .ref m3, .ref m4, .int (nI cn2), .int (nI fi2), .int (nI la2), .int (nI lo2), .int (nI me2)])), fk_ai E m2 14 ou2]) (cX_netOf1 E x0 a0 n0 m0 i0 r0 p0 ) d_F_outputs_2 fz_F_netOf fw_332 rfl rfl fw_334 fw_p6 ⟨Nat.le_of_ble_eq_true rfl, Nat.le_of_ble_eq_true rfl⟩ rfl (Nat.le_of_ble_eq_true rfl) ⟨Nat.zero_le _, Nat.zero_le _⟩ ⟨rfl, rfl, rfl, rfl, by decide, fun _ => rfl, rfl⟩ (fun u hu2 => ?_)
  show fk_V E _ K (0, 0) [(x0, .inr (0, [.ref a0, .ref n0, .ref m0, .ref i0, .ref r0, .ref p0])), (m0, .inr (2, [.ref m1, .ref m2, .ref m3, .ref m4, .int (nI cn2), .int (nI fi2), .int (nI la2), .int (nI lo2), .int (nI me2)])), fk_ai E m2 14 ou2] 5 [(0, .ref x0), (1, .int (nI 1)), (2, .int (nI k))] [.ref m0]
  refine fk_astore_n (lv' := [(0, .ref x0), (1, .int (nI 1)), (2, .int (nI k)), (3, .ref m0)]) d_F_outputs_5 rfl (Nat.le_of_ble_eq_true rfl) [1, 2, 3, 0] rfl ?_
  refine fk_aload_n 3 d_F_outputs_6 rfl ?_
  refine fk_ifnull d_F_outputs_7 ?_
  refine fk_iload_n 2 d_F_outputs_10 rfl ?_
  refine fk_if_lt (by omega) d_F_outputs_11 rfl ?_
  refine fk_iload_n 2 d_F_outputs_14 rfl ?_
  refine fk_aload_n 3 d_F_outputs_15 rfl ?_
  refine fk_callV (q0 := 1) (As := []) (rest := [.int (nI k)]) (is := [1]) (ir := [0, 2]) (ip := [0, 2, 1]) (wc := [(m0, .inr (2, [.ref m1, .ref m2, .ref m3, .ref m4, .int (nI cn2), .int (nI fi2), .int (nI la2), .int (nI lo2), .int (nI me2)]))]) (wr := [(x0, .inr (0, [.ref a0, .ref n0, .ref m0, .ref i0, .ref r0, .ref p0])), fk_ai E m2 14 ou2]) (w2 := fun _ => [(x0, .inr (0, [.ref a0, .ref n0, .ref m0, .ref i0, .ref r0, .ref p0])), (m0, .inr (2, [.ref m1, .ref m2, .ref m3, .ref m4, .int (nI cn2), .int (nI fi2), .int (nI la2), .int (nI lo2), .int (nI me2)])), fk_ai E m2 14 ou2]) (cN_placeCount E m0 m1 m2 m3 m4 cn2 fi2 la2 lo2 me2 ) d_F_outputs_16 fz_Nt_placeCount fw_302 rfl rfl fw_303 fw_304 ⟨Nat.le_of_ble_eq_true rfl, Nat.le_of_ble_eq_true rfl⟩ rfl (Nat.le_of_ble_eq_true rfl) ⟨Nat.zero_le _, Nat.zero_le _⟩ ⟨rfl, rfl, rfl, rfl, by decide, fun _ => rfl, rfl⟩ (fun u hu16 => ?_)
  show fk_V E _ K (0, 0) [(x0, .inr (0, [.ref a0, .ref n0, .ref m0, .ref i0, .ref r0, .ref p0])), (m0, .inr (2, [.ref m1, .ref m2, .ref m3, .ref m4, .int (nI cn2), .int (nI fi2), .int (nI la2), .int (nI lo2), .int (nI me2)])), fk_ai E m2 14 ou2] 19 [(0, .ref x0), (1, .int (nI 1)), (2, .int (nI k)), (3, .ref m0)] [.int (nI cn2), .int (nI k)]
  refine fk_icmp_le (a := k) (b := cn2) (by omega) (by omega) d_F_outputs_19 rfl (fun h19t => ?_) (fun h19f => ?_)
  · refine fk_iload_n 2 d_F_outputs_24 rfl ?_
    refine fk_aload_n 3 d_F_outputs_25 rfl ?_
    refine fk_callV (q0 := 1) (As := []) (rest := [.int (nI k)]) (is := [1]) (ir := [0, 2]) (ip := [0, 2, 1]) (wc := [(m0, .inr (2, [.ref m1, .ref m2, .ref m3, .ref m4, .int (nI cn2), .int (nI fi2), .int (nI la2), .int (nI lo2), .int (nI me2)]))]) (wr := [(x0, .inr (0, [.ref a0, .ref n0, .ref m0, .ref i0, .ref r0, .ref p0])), fk_ai E m2 14 ou2]) (w2 := fun _ => [(x0, .inr (0, [.ref a0, .ref n0, .ref m0, .ref i0, .ref r0, .ref p0])), (m0, .inr (2, [.ref m1, .ref m2, .ref m3, .ref m4, .int (nI cn2), .int (nI fi2), .int (nI la2), .int (nI lo2), .int (nI me2)])), fk_ai E m2 14 ou2]) (cN_placeCount E m0 m1 m2 m3 m4 cn2 fi2 la2 lo2 me2 ) d_F_outputs_26 fz_Nt_placeCount fw_302 rfl rfl fw_303 fw_304 ⟨Nat.le_of_ble_eq_true rfl, Nat.le_of_ble_eq_true rfl⟩ rfl (Nat.le_of_ble_eq_true rfl) ⟨Nat.zero_le _, Nat.zero_le _⟩ ⟨rfl, rfl, rfl, rfl, by decide, fun _ => rfl, rfl⟩ (fun u hu26 => ?_)
    show fk_V E _ K (0, 0) [(x0, .inr (0, [.ref a0, .ref n0, .ref m0, .ref i0, .ref r0, .ref p0])), (m0, .inr (2, [.ref m1, .ref m2, .ref m3, .ref m4, .int (nI cn2), .int (nI fi2), .int (nI la2), .int (nI lo2), .int (nI me2)])), fk_ai E m2 14 ou2] 29 [(0, .ref x0), (1, .int (nI 1)), (2, .int (nI k)), (3, .ref m0)] [.int (nI cn2), .int (nI k)]
    refine fk_icmp_ne (a := k) (b := cn2) (by omega) (by omega) d_F_outputs_29 rfl (fun h29t => ?_) (fun h29f => ?_)
    · omega
    · refine fk_aload_n 3 d_F_outputs_32 rfl ?_
      refine fk_callV (q0 := 1) (As := []) (rest := []) (is := [1]) (ir := [0, 2]) (ip := [0, 2, 1]) (wc := [(m0, .inr (2, [.ref m1, .ref m2, .ref m3, .ref m4, .int (nI cn2), .int (nI fi2), .int (nI la2), .int (nI lo2), .int (nI me2)]))]) (wr := [(x0, .inr (0, [.ref a0, .ref n0, .ref m0, .ref i0, .ref r0, .ref p0])), fk_ai E m2 14 ou2]) (w2 := fun _ => [(x0, .inr (0, [.ref a0, .ref n0, .ref m0, .ref i0, .ref r0, .ref p0])), (m0, .inr (2, [.ref m1, .ref m2, .ref m3, .ref m4, .int (nI cn2), .int (nI fi2), .int (nI la2), .int (nI lo2), .int (nI me2)])), fk_ai E m2 14 ou2]) (cN_firstOnes E m0 m1 m2 m3 m4 cn2 fi2 la2 lo2 me2 ) d_F_outputs_33 fz_Nt_firstOnes fw_352 rfl rfl fw_353 fw_354 ⟨Nat.le_of_ble_eq_true rfl, Nat.le_of_ble_eq_true rfl⟩ rfl (Nat.le_of_ble_eq_true rfl) ⟨Nat.zero_le _, Nat.zero_le _⟩ ⟨rfl, rfl, rfl, rfl, by decide, fun _ => rfl, rfl⟩ (fun u hu33 => ?_)
      show fk_V E _ K (0, 0) [(x0, .inr (0, [.ref a0, .ref n0, .ref m0, .ref i0, .ref r0, .ref p0])), (m0, .inr (2, [.ref m1, .ref m2, .ref m3, .ref m4, .int (nI cn2), .int (nI fi2), .int (nI la2), .int (nI lo2), .int (nI me2)])), fk_ai E m2 14 ou2] 36 [(0, .ref x0), (1, .int (nI 1)), (2, .int (nI k)), (3, .ref m0)] [.int (nI fi2)]
      refine fk_goto d_F_outputs_36 rfl ?_
      exact hret (0, 0) _ 44 _ () d_F_outputs_44 (trivial) (rfl)
  · omega
set_option maxRecDepth 20000 in
set_option maxHeartbeats 4000000 in
theorem cX_outputs1O (E : fk_E) (x0 : Nat) (a0 : Nat) (n0 : Nat) (m0 : Nat) (i0 : Nat) (r0 : Nat) (p0 : Nat) (m1 : Nat) (m2 : Nat) (m3 : Nat) (m4 : Nat) (cn2 : Nat) (fi2 : Nat) (la2 : Nat) (lo2 : Nat) (me2 : Nat) (ou2 : Nat → Nat) (k : Nat) (hc : cn2 ≤ 14) (hk : cn2 < k) (hk2 : k < 2 ^ 31) : fk_C E fy_F_outputs prog_1_method_14_code 4 (some .int) 1 0 0 [.ref x0, .int (nI 1), .int (nI k)] [(x0, .inr (0, [.ref a0, .ref n0, .ref m0, .ref i0, .ref r0, .ref p0])), (m0, .inr (2, [.ref m1, .ref m2, .ref m3, .ref m4, .int (nI cn2), .int (nI fi2), .int (nI la2), .int (nI lo2), .int (nI me2)])), fk_ai E m2 14 ou2] (S := Unit) (fun _ => some (.int (nI 0 - 1))) (fun _ => True) (fun _ => [(x0, .inr (0, [.ref a0, .ref n0, .ref m0, .ref i0, .ref r0, .ref p0])), (m0, .inr (2, [.ref m1, .ref m2, .ref m3, .ref m4, .int (nI cn2), .int (nI fi2), .int (nI la2), .int (nI lo2), .int (nI me2)])), fk_ai E m2 14 ou2]) := by
  refine fk_enterI (v := fun _ => (nI 0 - 1)) (by decide) (Nat.le_of_ble_eq_true rfl) (lv0 := [(0, .ref x0), (1, .int (nI 1)), (2, .int (nI k))]) rfl ?_
  intro K hini hret
  refine fk_aload_n 0 d_F_outputs_0 rfl ?_
  refine fk_iload_n 1 d_F_outputs_1 rfl ?_
  refine fk_callV (q0 := 0) (As := [.int (nI 1)]) (rest := []) (is := [0]) (ir := [1, 2]) (ip := [2, 0, 1]) (wc := [(x0, .inr (0, [.ref a0, .ref n0, .ref m0, .ref i0, .ref r0, .ref p0]))]) (wr := [(m0, .inr (2, [.ref m1, .ref m2, .ref m3, .ref m4, .int (nI cn2), .int (nI fi2), .int (nI la2), .int (nI lo2), .int (nI me2)])), fk_ai E m2 14 ou2]) (w2 := fun _ => [(x0, .inr (0, [.ref a0, .ref n0, .ref m0, .ref i0, .ref r0, .ref p0])), (m0, .inr (2, [.ref m1, .ref m2, .ref m3, .ref m4, .int (nI cn2), .int (nI fi2), .int (nI la2), .int (nI lo2), .int (nI me2)])), fk_ai E m2 14 ou2]) (cX_netOf1 E x0 a0 n0 m0 i0 r0 p0 ) d_F_outputs_2 fz_F_netOf fw_332 rfl rfl fw_334 fw_p6 ⟨Nat.le_of_ble_eq_true rfl, Nat.le_of_ble_eq_true rfl⟩ rfl (Nat.le_of_ble_eq_true rfl) ⟨Nat.zero_le _, Nat.zero_le _⟩ ⟨rfl, rfl, rfl, rfl, by decide, fun _ => rfl, rfl⟩ (fun u hu2 => ?_)
  show fk_V E _ K (0, 0) [(x0, .inr (0, [.ref a0, .ref n0, .ref m0, .ref i0, .ref r0, .ref p0])), (m0, .inr (2, [.ref m1, .ref m2, .ref m3, .ref m4, .int (nI cn2), .int (nI fi2), .int (nI la2), .int (nI lo2), .int (nI me2)])), fk_ai E m2 14 ou2] 5 [(0, .ref x0), (1, .int (nI 1)), (2, .int (nI k))] [.ref m0]
  refine fk_astore_n (lv' := [(0, .ref x0), (1, .int (nI 1)), (2, .int (nI k)), (3, .ref m0)]) d_F_outputs_5 rfl (Nat.le_of_ble_eq_true rfl) [1, 2, 3, 0] rfl ?_
  refine fk_aload_n 3 d_F_outputs_6 rfl ?_
  refine fk_ifnull d_F_outputs_7 ?_
  refine fk_iload_n 2 d_F_outputs_10 rfl ?_
  refine fk_if_lt (by omega) d_F_outputs_11 rfl ?_
  refine fk_iload_n 2 d_F_outputs_14 rfl ?_
  refine fk_aload_n 3 d_F_outputs_15 rfl ?_
  refine fk_callV (q0 := 1) (As := []) (rest := [.int (nI k)]) (is := [1]) (ir := [0, 2]) (ip := [0, 2, 1]) (wc := [(m0, .inr (2, [.ref m1, .ref m2, .ref m3, .ref m4, .int (nI cn2), .int (nI fi2), .int (nI la2), .int (nI lo2), .int (nI me2)]))]) (wr := [(x0, .inr (0, [.ref a0, .ref n0, .ref m0, .ref i0, .ref r0, .ref p0])), fk_ai E m2 14 ou2]) (w2 := fun _ => [(x0, .inr (0, [.ref a0, .ref n0, .ref m0, .ref i0, .ref r0, .ref p0])), (m0, .inr (2, [.ref m1, .ref m2, .ref m3, .ref m4, .int (nI cn2), .int (nI fi2), .int (nI la2), .int (nI lo2), .int (nI me2)])), fk_ai E m2 14 ou2]) (cN_placeCount E m0 m1 m2 m3 m4 cn2 fi2 la2 lo2 me2 ) d_F_outputs_16 fz_Nt_placeCount fw_302 rfl rfl fw_303 fw_304 ⟨Nat.le_of_ble_eq_true rfl, Nat.le_of_ble_eq_true rfl⟩ rfl (Nat.le_of_ble_eq_true rfl) ⟨Nat.zero_le _, Nat.zero_le _⟩ ⟨rfl, rfl, rfl, rfl, by decide, fun _ => rfl, rfl⟩ (fun u hu16 => ?_)
  show fk_V E _ K (0, 0) [(x0, .inr (0, [.ref a0, .ref n0, .ref m0, .ref i0, .ref r0, .ref p0])), (m0, .inr (2, [.ref m1, .ref m2, .ref m3, .ref m4, .int (nI cn2), .int (nI fi2), .int (nI la2), .int (nI lo2), .int (nI me2)])), fk_ai E m2 14 ou2] 19 [(0, .ref x0), (1, .int (nI 1)), (2, .int (nI k)), (3, .ref m0)] [.int (nI cn2), .int (nI k)]
  refine fk_icmp_le (a := k) (b := cn2) (by omega) (by omega) d_F_outputs_19 rfl (fun h19t => ?_) (fun h19f => ?_)
  · omega
  · refine fk_iconst (v := nI 0 - 1) d_F_outputs_22 (by decide +kernel) ?_
    exact hret (0, 0) _ 23 _ () d_F_outputs_23 (trivial) (rfl)
set_option maxRecDepth 20000 in
set_option maxHeartbeats 4000000 in
theorem cX_outputs1M (E : fk_E) (x0 : Nat) (a0 : Nat) (n0 : Nat) (m0 : Nat) (i0 : Nat) (r0 : Nat) (p0 : Nat) (m1 : Nat) (m2 : Nat) (m3 : Nat) (m4 : Nat) (cn2 : Nat) (fi2 : Nat) (la2 : Nat) (lo2 : Nat) (me2 : Nat) (ou2 : Nat → Nat) (y : Int32) (hy : y < 0) : fk_C E fy_F_outputs prog_1_method_14_code 4 (some .int) 1 0 0 [.ref x0, .int (nI 1), .int y] [(x0, .inr (0, [.ref a0, .ref n0, .ref m0, .ref i0, .ref r0, .ref p0])), (m0, .inr (2, [.ref m1, .ref m2, .ref m3, .ref m4, .int (nI cn2), .int (nI fi2), .int (nI la2), .int (nI lo2), .int (nI me2)])), fk_ai E m2 14 ou2] (S := Unit) (fun _ => some (.int (nI 0 - 1))) (fun _ => True) (fun _ => [(x0, .inr (0, [.ref a0, .ref n0, .ref m0, .ref i0, .ref r0, .ref p0])), (m0, .inr (2, [.ref m1, .ref m2, .ref m3, .ref m4, .int (nI cn2), .int (nI fi2), .int (nI la2), .int (nI lo2), .int (nI me2)])), fk_ai E m2 14 ou2]) := by
  refine fk_enterI (v := fun _ => (nI 0 - 1)) (by decide) (Nat.le_of_ble_eq_true rfl) (lv0 := [(0, .ref x0), (1, .int (nI 1)), (2, .int y)]) rfl ?_
  intro K hini hret
  refine fk_aload_n 0 d_F_outputs_0 rfl ?_
  refine fk_iload_n 1 d_F_outputs_1 rfl ?_
  refine fk_callV (q0 := 0) (As := [.int (nI 1)]) (rest := []) (is := [0]) (ir := [1, 2]) (ip := [2, 0, 1]) (wc := [(x0, .inr (0, [.ref a0, .ref n0, .ref m0, .ref i0, .ref r0, .ref p0]))]) (wr := [(m0, .inr (2, [.ref m1, .ref m2, .ref m3, .ref m4, .int (nI cn2), .int (nI fi2), .int (nI la2), .int (nI lo2), .int (nI me2)])), fk_ai E m2 14 ou2]) (w2 := fun _ => [(x0, .inr (0, [.ref a0, .ref n0, .ref m0, .ref i0, .ref r0, .ref p0])), (m0, .inr (2, [.ref m1, .ref m2, .ref m3, .ref m4, .int (nI cn2), .int (nI fi2), .int (nI la2), .int (nI lo2), .int (nI me2)])), fk_ai E m2 14 ou2]) (cX_netOf1 E x0 a0 n0 m0 i0 r0 p0 ) d_F_outputs_2 fz_F_netOf fw_332 rfl rfl fw_334 fw_p6 ⟨Nat.le_of_ble_eq_true rfl, Nat.le_of_ble_eq_true rfl⟩ rfl (Nat.le_of_ble_eq_true rfl) ⟨Nat.zero_le _, Nat.zero_le _⟩ ⟨rfl, rfl, rfl, rfl, by decide, fun _ => rfl, rfl⟩ (fun u hu2 => ?_)
  show fk_V E _ K (0, 0) [(x0, .inr (0, [.ref a0, .ref n0, .ref m0, .ref i0, .ref r0, .ref p0])), (m0, .inr (2, [.ref m1, .ref m2, .ref m3, .ref m4, .int (nI cn2), .int (nI fi2), .int (nI la2), .int (nI lo2), .int (nI me2)])), fk_ai E m2 14 ou2] 5 [(0, .ref x0), (1, .int (nI 1)), (2, .int y)] [.ref m0]
  refine fk_astore_n (lv' := [(0, .ref x0), (1, .int (nI 1)), (2, .int y), (3, .ref m0)]) d_F_outputs_5 rfl (Nat.le_of_ble_eq_true rfl) [1, 2, 3, 0] rfl ?_
  refine fk_aload_n 3 d_F_outputs_6 rfl ?_
  refine fk_ifnull d_F_outputs_7 ?_
  refine fk_iload_n 2 d_F_outputs_10 rfl ?_
  refine fk_if_ltR d_F_outputs_11 rfl (fun h11t => ?_) (fun h11f => ?_)
  · refine fk_iconst (v := nI 0 - 1) d_F_outputs_22 (by decide +kernel) ?_
    exact hret (0, 0) _ 23 _ () d_F_outputs_23 (trivial) (rfl)
  · exact absurd hy h11f
set_option maxRecDepth 20000 in
set_option maxHeartbeats 4000000 in
theorem cX_outputsO (E : fk_E) (x0 : Nat) (a0 : Nat) (n0 : Nat) (m0 : Nat) (i0 : Nat) (r0 : Nat) (p0 : Nat) (t : Nat) (y : Int32) (h : 2 ≤ t) (h2 : t < 2 ^ 31) : fk_C E fy_F_outputs prog_1_method_14_code 4 (some .int) 1 0 0 [.ref x0, .int (nI t), .int y] [(x0, .inr (0, [.ref a0, .ref n0, .ref m0, .ref i0, .ref r0, .ref p0]))] (S := Unit) (fun _ => some (.int (nI 0 - 1))) (fun _ => True) (fun _ => [(x0, .inr (0, [.ref a0, .ref n0, .ref m0, .ref i0, .ref r0, .ref p0]))]) := by
  refine fk_enterI (v := fun _ => (nI 0 - 1)) (by decide) (Nat.le_of_ble_eq_true rfl) (lv0 := [(0, .ref x0), (1, .int (nI t)), (2, .int y)]) rfl ?_
  intro K hini hret
  refine fk_aload_n 0 d_F_outputs_0 rfl ?_
  refine fk_iload_n 1 d_F_outputs_1 rfl ?_
  refine fk_callV (q0 := 0) (As := [.int (nI t)]) (rest := []) (is := [0]) (ir := []) (ip := [0]) (wc := [(x0, .inr (0, [.ref a0, .ref n0, .ref m0, .ref i0, .ref r0, .ref p0]))]) (wr := []) (w2 := fun _ => [(x0, .inr (0, [.ref a0, .ref n0, .ref m0, .ref i0, .ref r0, .ref p0]))]) (cX_netOfO E x0 a0 n0 m0 i0 r0 p0 t (by first | omega | assumption) (by first | omega | assumption)) d_F_outputs_2 fz_F_netOf fw_332 rfl rfl fw_334 fw_p6 ⟨Nat.le_of_ble_eq_true rfl, Nat.le_of_ble_eq_true rfl⟩ rfl (Nat.le_of_ble_eq_true rfl) ⟨Nat.zero_le _, Nat.zero_le _⟩ ⟨rfl, rfl, rfl, rfl, by decide, fun _ => rfl, rfl⟩ (fun u hu2 => ?_)
  show fk_V E _ K (0, 0) [(x0, .inr (0, [.ref a0, .ref n0, .ref m0, .ref i0, .ref r0, .ref p0]))] 5 [(0, .ref x0), (1, .int (nI t)), (2, .int y)] [.null]
  refine fk_astoreN_n (lv' := [(0, .ref x0), (1, .int (nI t)), (2, .int y), (3, .null)]) d_F_outputs_5 rfl (Nat.le_of_ble_eq_true rfl) [1, 2, 3, 0] rfl ?_
  refine fk_aloadN_n 3 d_F_outputs_6 rfl ?_
  refine fk_ifnullN d_F_outputs_7 rfl ?_
  refine fk_iconst (v := nI 0 - 1) d_F_outputs_22 (by decide +kernel) ?_
  exact hret (0, 0) _ 23 _ () d_F_outputs_23 (trivial) (rfl)
set_option maxRecDepth 20000 in
set_option maxHeartbeats 4000000 in
theorem cX_outputsM (E : fk_E) (x0 : Nat) (a0 : Nat) (n0 : Nat) (m0 : Nat) (i0 : Nat) (r0 : Nat) (p0 : Nat) (x : Int32) (y : Int32) (hx : x < 0) : fk_C E fy_F_outputs prog_1_method_14_code 4 (some .int) 1 0 0 [.ref x0, .int x, .int y] [(x0, .inr (0, [.ref a0, .ref n0, .ref m0, .ref i0, .ref r0, .ref p0]))] (S := Unit) (fun _ => some (.int (nI 0 - 1))) (fun _ => True) (fun _ => [(x0, .inr (0, [.ref a0, .ref n0, .ref m0, .ref i0, .ref r0, .ref p0]))]) := by
  refine fk_enterI (v := fun _ => (nI 0 - 1)) (by decide) (Nat.le_of_ble_eq_true rfl) (lv0 := [(0, .ref x0), (1, .int x), (2, .int y)]) rfl ?_
  intro K hini hret
  refine fk_aload_n 0 d_F_outputs_0 rfl ?_
  refine fk_iload_n 1 d_F_outputs_1 rfl ?_
  refine fk_callV (q0 := 0) (As := [.int x]) (rest := []) (is := [0]) (ir := []) (ip := [0]) (wc := [(x0, .inr (0, [.ref a0, .ref n0, .ref m0, .ref i0, .ref r0, .ref p0]))]) (wr := []) (w2 := fun _ => [(x0, .inr (0, [.ref a0, .ref n0, .ref m0, .ref i0, .ref r0, .ref p0]))]) (cX_netOfM E x0 a0 n0 m0 i0 r0 p0 x (by first | omega | assumption)) d_F_outputs_2 fz_F_netOf fw_332 rfl rfl fw_334 fw_p6 ⟨Nat.le_of_ble_eq_true rfl, Nat.le_of_ble_eq_true rfl⟩ rfl (Nat.le_of_ble_eq_true rfl) ⟨Nat.zero_le _, Nat.zero_le _⟩ ⟨rfl, rfl, rfl, rfl, by decide, fun _ => rfl, rfl⟩ (fun u hu2 => ?_)
  show fk_V E _ K (0, 0) [(x0, .inr (0, [.ref a0, .ref n0, .ref m0, .ref i0, .ref r0, .ref p0]))] 5 [(0, .ref x0), (1, .int x), (2, .int y)] [.null]
  refine fk_astoreN_n (lv' := [(0, .ref x0), (1, .int x), (2, .int y), (3, .null)]) d_F_outputs_5 rfl (Nat.le_of_ble_eq_true rfl) [1, 2, 3, 0] rfl ?_
  refine fk_aloadN_n 3 d_F_outputs_6 rfl ?_
  refine fk_ifnullN d_F_outputs_7 rfl ?_
  refine fk_iconst (v := nI 0 - 1) d_F_outputs_22 (by decide +kernel) ?_
  exact hret (0, 0) _ 23 _ () d_F_outputs_23 (trivial) (rfl)
theorem d_F_place_0 : decode prog_1_method_9_code 0 = .ok (.iload_n 1, 1) := by decide +kernel
theorem d_F_place_1 : decode prog_1_method_9_code 1 = .ok (.invokestatic 90, 3) := by decide +kernel
theorem d_F_place_4 : decode prog_1_method_9_code 4 = .ok (.ifCond .eq 18, 3) := by decide +kernel
theorem d_F_place_7 : decode prog_1_method_9_code 7 = .ok (.iload_n 1, 1) := by decide +kernel
theorem d_F_place_8 : decode prog_1_method_9_code 8 = .ok (.ifCond .eq 14, 3) := by decide +kernel
theorem d_F_place_11 : decode prog_1_method_9_code 11 = .ok (.iload_n 2, 1) := by decide +kernel
theorem d_F_place_12 : decode prog_1_method_9_code 12 = .ok (.invokestatic 90, 3) := by decide +kernel
theorem d_F_place_15 : decode prog_1_method_9_code 15 = .ok (.ifCond .eq 7, 3) := by decide +kernel
theorem d_F_place_18 : decode prog_1_method_9_code 18 = .ok (.iload_n 2, 1) := by decide +kernel
theorem d_F_place_19 : decode prog_1_method_9_code 19 = .ok (.ifCond .ne 5, 3) := by decide +kernel
theorem d_F_place_22 : decode prog_1_method_9_code 22 = .ok (.iconst (-1), 1) := by decide +kernel
theorem d_F_place_23 : decode prog_1_method_9_code 23 = .ok (.ireturn, 1) := by decide +kernel
theorem d_F_place_24 : decode prog_1_method_9_code 24 = .ok (.aload_n 0, 1) := by decide +kernel
theorem d_F_place_25 : decode prog_1_method_9_code 25 = .ok (.getfield 19, 3) := by decide +kernel
theorem d_F_place_28 : decode prog_1_method_9_code 28 = .ok (.iload_n 1, 1) := by decide +kernel
theorem d_F_place_29 : decode prog_1_method_9_code 29 = .ok (.iload_n 2, 1) := by decide +kernel
theorem d_F_place_30 : decode prog_1_method_9_code 30 = .ok (.invokevirtual 93, 3) := by decide +kernel
theorem d_F_place_33 : decode prog_1_method_9_code 33 = .ok (.ifCond .eq 6, 3) := by decide +kernel
theorem d_F_place_36 : decode prog_1_method_9_code 36 = .ok (.bipush (-4), 2) := by decide +kernel
theorem d_F_place_38 : decode prog_1_method_9_code 38 = .ok (.ireturn, 1) := by decide +kernel
theorem d_F_place_39 : decode prog_1_method_9_code 39 = .ok (.aload_n 0, 1) := by decide +kernel
theorem d_F_place_40 : decode prog_1_method_9_code 40 = .ok (.getfield 19, 3) := by decide +kernel
theorem d_F_place_43 : decode prog_1_method_9_code 43 = .ok (.iload_n 1, 1) := by decide +kernel
theorem d_F_place_44 : decode prog_1_method_9_code 44 = .ok (.iload_n 2, 1) := by decide +kernel
theorem d_F_place_45 : decode prog_1_method_9_code 45 = .ok (.invokevirtual 96, 3) := by decide +kernel
theorem d_F_place_48 : decode prog_1_method_9_code 48 = .ok (.ifCond .eq 15, 3) := by decide +kernel
theorem d_F_place_51 : decode prog_1_method_9_code 51 = .ok (.aload_n 0, 1) := by decide +kernel
theorem d_F_place_52 : decode prog_1_method_9_code 52 = .ok (.getfield 19, 3) := by decide +kernel
theorem d_F_place_55 : decode prog_1_method_9_code 55 = .ok (.invokevirtual 87, 3) := by decide +kernel
theorem d_F_place_58 : decode prog_1_method_9_code 58 = .ok (.iconst 1, 1) := by decide +kernel
theorem d_F_place_59 : decode prog_1_method_9_code 59 = .ok (.isub, 1) := by decide +kernel
theorem d_F_place_60 : decode prog_1_method_9_code 60 = .ok (.goto 5, 3) := by decide +kernel
theorem d_F_place_63 : decode prog_1_method_9_code 63 = .ok (.bipush (-2), 2) := by decide +kernel
theorem d_F_place_65 : decode prog_1_method_9_code 65 = .ok (.ireturn, 1) := by decide +kernel
set_option maxRecDepth 20000 in
set_option maxHeartbeats 4000000 in
theorem cX_placeD (E : fk_E) (x0 : Nat) (a0 : Nat) (n0 : Nat) (m0 : Nat) (i0 : Nat) (r0 : Nat) (p0 : Nat) (n1 : Nat) (n2 : Nat) (n3 : Nat) (n4 : Nat) (cnt : Nat) (fi : Nat) (la : Nat) (lo : Nat) (me : Nat) (ins : Nat → Nat) (outs : Nat → Nat) (tk : Nat → Nat) (pu : Nat → Nat) (i : Nat) (o : Nat) (hc : cnt ≤ 14) (hb : ∀ j, j < cnt → ins j < 128 ∧ outs j < 128) (hf : fi < 128) (hl : la < 128) (hL : lo < 128) (hi : 0 < i ∧ i < 128) (ho : 0 < o ∧ o < 128) (hd : fs_any (fun z9 => decide (ins z9 = i) && decide (outs z9 = o)) cnt = true) : fk_C E fy_F_place prog_1_method_9_code 3 (some .int) 4 0 0 [.ref x0, .int (nI i), .int (nI o)] [(x0, .inr (0, [.ref a0, .ref n0, .ref m0, .ref i0, .ref r0, .ref p0])), (n0, .inr (2, [.ref n1, .ref n2, .ref n3, .ref n4, .int (nI cnt), .int (nI fi), .int (nI la), .int (nI lo), .int (nI me)])), fk_ai E n1 14 ins, fk_ai E n2 14 outs, fk_al E n3 7 tk, fk_al E n4 7 pu] (S := Unit) (fun _ => some (.int (-4))) (fun _ => True) (fun _ => [(x0, .inr (0, [.ref a0, .ref n0, .ref m0, .ref i0, .ref r0, .ref p0])), (n0, .inr (2, [.ref n1, .ref n2, .ref n3, .ref n4, .int (nI cnt), .int (nI fi), .int (nI la), .int (nI lo), .int (nI me)])), fk_ai E n1 14 ins, fk_ai E n2 14 outs, fk_al E n3 7 tk, fk_al E n4 7 pu]) := by
  refine fk_enterI (v := fun _ => (-4)) (by decide) (Nat.le_of_ble_eq_true rfl) (lv0 := [(0, .ref x0), (1, .int (nI i)), (2, .int (nI o))]) rfl ?_
  intro K hini hret
  refine fk_iload_n 1 d_F_place_0 rfl ?_
  refine fk_callS (As := [.int (nI i)]) (rest := []) (is := []) (ir := [0, 1, 2, 3, 4, 5]) (ip := [0, 1, 2, 3, 4, 5]) (wc := []) (wr := [(x0, .inr (0, [.ref a0, .ref n0, .ref m0, .ref i0, .ref r0, .ref p0])), (n0, .inr (2, [.ref n1, .ref n2, .ref n3, .ref n4, .int (nI cnt), .int (nI fi), .int (nI la), .int (nI lo), .int (nI me)])), fk_ai E n1 14 ins, fk_ai E n2 14 outs, fk_al E n3 7 tk, fk_al E n4 7 pu]) (w2 := fun _ => [(x0, .inr (0, [.ref a0, .ref n0, .ref m0, .ref i0, .ref r0, .ref p0])), (n0, .inr (2, [.ref n1, .ref n2, .ref n3, .ref n4, .int (nI cnt), .int (nI fi), .int (nI la), .int (nI lo), .int (nI me)])), fk_ai E n1 14 ins, fk_ai E n2 14 outs, fk_al E n3 7 tk, fk_al E n4 7 pu]) (cF_isSet E i (by first | omega | assumption)) d_F_place_1 fz_F_isSet fw_310 fw_311 ⟨Nat.le_of_ble_eq_true rfl, Nat.le_of_ble_eq_true rfl⟩ rfl (Nat.le_of_ble_eq_true rfl) ⟨Nat.zero_le _, Nat.zero_le _⟩ ⟨rfl, rfl, rfl, rfl, by decide, fun _ => rfl, rfl⟩ (fun u hu1 => ?_)
  show fk_V E _ K (0, 0) [(x0, .inr (0, [.ref a0, .ref n0, .ref m0, .ref i0, .ref r0, .ref p0])), (n0, .inr (2, [.ref n1, .ref n2, .ref n3, .ref n4, .int (nI cnt), .int (nI fi), .int (nI la), .int (nI lo), .int (nI me)])), fk_ai E n1 14 ins, fk_ai E n2 14 outs, fk_al E n3 7 tk, fk_al E n4 7 pu] 4 [(0, .ref x0), (1, .int (nI i)), (2, .int (nI o))] [.int (nI (Bool.toNat (decide (i < 128))))]
  refine fk_if_eqB (b := (decide (i < 128))) d_F_place_4 rfl (fun h4t => ?_) (fun h4f => ?_)
  · exact absurd (of_decide_eq_false h4t) (by omega)
  · refine fk_iload_n 1 d_F_place_7 rfl ?_
    refine fk_if_eq (a := i) (by omega) d_F_place_8 rfl (fun h8t => ?_) (fun h8f => ?_)
    · omega
    · refine fk_iload_n 2 d_F_place_11 rfl ?_
      refine fk_callS (As := [.int (nI o)]) (rest := []) (is := []) (ir := [0, 1, 2, 3, 4, 5]) (ip := [0, 1, 2, 3, 4, 5]) (wc := []) (wr := [(x0, .inr (0, [.ref a0, .ref n0, .ref m0, .ref i0, .ref r0, .ref p0])), (n0, .inr (2, [.ref n1, .ref n2, .ref n3, .ref n4, .int (nI cnt), .int (nI fi), .int (nI la), .int (nI lo), .int (nI me)])), fk_ai E n1 14 ins, fk_ai E n2 14 outs, fk_al E n3 7 tk, fk_al E n4 7 pu]) (w2 := fun _ => [(x0, .inr (0, [.ref a0, .ref n0, .ref m0, .ref i0, .ref r0, .ref p0])), (n0, .inr (2, [.ref n1, .ref n2, .ref n3, .ref n4, .int (nI cnt), .int (nI fi), .int (nI la), .int (nI lo), .int (nI me)])), fk_ai E n1 14 ins, fk_ai E n2 14 outs, fk_al E n3 7 tk, fk_al E n4 7 pu]) (cF_isSet E o (by first | omega | assumption)) d_F_place_12 fz_F_isSet fw_310 fw_311 ⟨Nat.le_of_ble_eq_true rfl, Nat.le_of_ble_eq_true rfl⟩ rfl (Nat.le_of_ble_eq_true rfl) ⟨Nat.zero_le _, Nat.zero_le _⟩ ⟨rfl, rfl, rfl, rfl, by decide, fun _ => rfl, rfl⟩ (fun u hu12 => ?_)
      show fk_V E _ K (0, 0) [(x0, .inr (0, [.ref a0, .ref n0, .ref m0, .ref i0, .ref r0, .ref p0])), (n0, .inr (2, [.ref n1, .ref n2, .ref n3, .ref n4, .int (nI cnt), .int (nI fi), .int (nI la), .int (nI lo), .int (nI me)])), fk_ai E n1 14 ins, fk_ai E n2 14 outs, fk_al E n3 7 tk, fk_al E n4 7 pu] 15 [(0, .ref x0), (1, .int (nI i)), (2, .int (nI o))] [.int (nI (Bool.toNat (decide (o < 128))))]
      refine fk_if_eqB (b := (decide (o < 128))) d_F_place_15 rfl (fun h15t => ?_) (fun h15f => ?_)
      · exact absurd (of_decide_eq_false h15t) (by omega)
      · refine fk_iload_n 2 d_F_place_18 rfl ?_
        refine fk_if_ne (a := o) (by omega) d_F_place_19 rfl (fun h19t => ?_) (fun h19f => ?_)
        · refine fk_aload_n 0 d_F_place_24 rfl ?_
          refine fk_get 0 1 rfl rfl fh_F (Nat.le_of_ble_eq_true rfl) fw_135 rfl d_F_place_25 ?_
          refine fk_iload_n 1 d_F_place_28 rfl ?_
          refine fk_iload_n 2 d_F_place_29 rfl ?_
          refine fk_callV (q0 := 1) (As := [.int (nI i), .int (nI o)]) (rest := []) (is := [1, 2, 3]) (ir := [0, 4, 5]) (ip := [0, 3, 4, 5, 1, 2]) (wc := [(n0, .inr (2, [.ref n1, .ref n2, .ref n3, .ref n4, .int (nI cnt), .int (nI fi), .int (nI la), .int (nI lo), .int (nI me)])), fk_ai E n1 14 ins, fk_ai E n2 14 outs]) (wr := [(x0, .inr (0, [.ref a0, .ref n0, .ref m0, .ref i0, .ref r0, .ref p0])), fk_al E n3 7 tk, fk_al E n4 7 pu]) (w2 := fun _ => [(x0, .inr (0, [.ref a0, .ref n0, .ref m0, .ref i0, .ref r0, .ref p0])), (n0, .inr (2, [.ref n1, .ref n2, .ref n3, .ref n4, .int (nI cnt), .int (nI fi), .int (nI la), .int (nI lo), .int (nI me)])), fk_ai E n1 14 ins, fk_ai E n2 14 outs, fk_al E n3 7 tk, fk_al E n4 7 pu]) (cN_hasPlace E n0 n1 n2 n3 n4 cnt fi la lo me ins outs i o (by first | omega | assumption) (by first | omega | assumption) (by first | omega | assumption) (by first | omega | assumption)) d_F_place_30 fz_Nt_hasPlace fw_313 rfl rfl fw_314 fw_315 ⟨Nat.le_of_ble_eq_true rfl, Nat.le_of_ble_eq_true rfl⟩ rfl (Nat.le_of_ble_eq_true rfl) ⟨Nat.zero_le _, Nat.zero_le _⟩ ⟨rfl, rfl, rfl, rfl, by decide, fun _ => rfl, rfl⟩ (fun u hu30 => ?_)
          show fk_V E _ K (0, 0) [(x0, .inr (0, [.ref a0, .ref n0, .ref m0, .ref i0, .ref r0, .ref p0])), (n0, .inr (2, [.ref n1, .ref n2, .ref n3, .ref n4, .int (nI cnt), .int (nI fi), .int (nI la), .int (nI lo), .int (nI me)])), fk_ai E n1 14 ins, fk_ai E n2 14 outs, fk_al E n3 7 tk, fk_al E n4 7 pu] 33 [(0, .ref x0), (1, .int (nI i)), (2, .int (nI o))] [.int (nI (Bool.toNat (fs_any (fun z9 => decide (ins z9 = i) && decide (outs z9 = o)) cnt)))]
          refine fk_if_eqB (b := (fs_any (fun z9 => decide (ins z9 = i) && decide (outs z9 = o)) cnt)) d_F_place_33 rfl (fun h33t => ?_) (fun h33f => ?_)
          · rw [hd] at h33t; exact absurd h33t (by decide)
          · refine fk_bipush (v := -4) d_F_place_36 (by decide +kernel) ?_
            exact hret (0, 0) _ 38 _ () d_F_place_38 (trivial) (rfl)
        · omega
set_option maxRecDepth 20000 in
set_option maxHeartbeats 4000000 in
theorem cX_placeF (E : fk_E) (x0 : Nat) (a0 : Nat) (n0 : Nat) (m0 : Nat) (i0 : Nat) (r0 : Nat) (p0 : Nat) (n1 : Nat) (n2 : Nat) (n3 : Nat) (n4 : Nat) (cnt : Nat) (fi : Nat) (la : Nat) (lo : Nat) (me : Nat) (ins : Nat → Nat) (outs : Nat → Nat) (tk : Nat → Nat) (pu : Nat → Nat) (i : Nat) (o : Nat) (hc : cnt = 14) (hb : ∀ j, j < cnt → ins j < 128 ∧ outs j < 128) (hf : fi < 128) (hl : la < 128) (hL : lo < 128) (hi : 0 < i ∧ i < 128) (ho : 0 < o ∧ o < 128) (hd : fs_any (fun z9 => decide (ins z9 = i) && decide (outs z9 = o)) cnt = false) : fk_C E fy_F_place prog_1_method_9_code 3 (some .int) 4 0 0 [.ref x0, .int (nI i), .int (nI o)] [(x0, .inr (0, [.ref a0, .ref n0, .ref m0, .ref i0, .ref r0, .ref p0])), (n0, .inr (2, [.ref n1, .ref n2, .ref n3, .ref n4, .int (nI cnt), .int (nI fi), .int (nI la), .int (nI lo), .int (nI me)])), fk_ai E n1 14 ins, fk_ai E n2 14 outs, fk_al E n3 7 tk, fk_al E n4 7 pu] (S := Unit) (fun _ => some (.int (-2))) (fun _ => True) (fun _ => [(x0, .inr (0, [.ref a0, .ref n0, .ref m0, .ref i0, .ref r0, .ref p0])), (n0, .inr (2, [.ref n1, .ref n2, .ref n3, .ref n4, .int (nI cnt), .int (nI fi), .int (nI la), .int (nI lo), .int (nI me)])), fk_ai E n1 14 ins, fk_ai E n2 14 outs, fk_al E n3 7 tk, fk_al E n4 7 pu]) := by
  refine fk_enterI (v := fun _ => (-2)) (by decide) (Nat.le_of_ble_eq_true rfl) (lv0 := [(0, .ref x0), (1, .int (nI i)), (2, .int (nI o))]) rfl ?_
  intro K hini hret
  refine fk_iload_n 1 d_F_place_0 rfl ?_
  refine fk_callS (As := [.int (nI i)]) (rest := []) (is := []) (ir := [0, 1, 2, 3, 4, 5]) (ip := [0, 1, 2, 3, 4, 5]) (wc := []) (wr := [(x0, .inr (0, [.ref a0, .ref n0, .ref m0, .ref i0, .ref r0, .ref p0])), (n0, .inr (2, [.ref n1, .ref n2, .ref n3, .ref n4, .int (nI cnt), .int (nI fi), .int (nI la), .int (nI lo), .int (nI me)])), fk_ai E n1 14 ins, fk_ai E n2 14 outs, fk_al E n3 7 tk, fk_al E n4 7 pu]) (w2 := fun _ => [(x0, .inr (0, [.ref a0, .ref n0, .ref m0, .ref i0, .ref r0, .ref p0])), (n0, .inr (2, [.ref n1, .ref n2, .ref n3, .ref n4, .int (nI cnt), .int (nI fi), .int (nI la), .int (nI lo), .int (nI me)])), fk_ai E n1 14 ins, fk_ai E n2 14 outs, fk_al E n3 7 tk, fk_al E n4 7 pu]) (cF_isSet E i (by first | omega | assumption)) d_F_place_1 fz_F_isSet fw_310 fw_311 ⟨Nat.le_of_ble_eq_true rfl, Nat.le_of_ble_eq_true rfl⟩ rfl (Nat.le_of_ble_eq_true rfl) ⟨Nat.zero_le _, Nat.zero_le _⟩ ⟨rfl, rfl, rfl, rfl, by decide, fun _ => rfl, rfl⟩ (fun u hu1 => ?_)
  show fk_V E _ K (0, 0) [(x0, .inr (0, [.ref a0, .ref n0, .ref m0, .ref i0, .ref r0, .ref p0])), (n0, .inr (2, [.ref n1, .ref n2, .ref n3, .ref n4, .int (nI cnt), .int (nI fi), .int (nI la), .int (nI lo), .int (nI me)])), fk_ai E n1 14 ins, fk_ai E n2 14 outs, fk_al E n3 7 tk, fk_al E n4 7 pu] 4 [(0, .ref x0), (1, .int (nI i)), (2, .int (nI o))] [.int (nI (Bool.toNat (decide (i < 128))))]
  refine fk_if_eqB (b := (decide (i < 128))) d_F_place_4 rfl (fun h4t => ?_) (fun h4f => ?_)
  · exact absurd (of_decide_eq_false h4t) (by omega)
  · refine fk_iload_n 1 d_F_place_7 rfl ?_
    refine fk_if_eq (a := i) (by omega) d_F_place_8 rfl (fun h8t => ?_) (fun h8f => ?_)
    · omega
    · refine fk_iload_n 2 d_F_place_11 rfl ?_
      refine fk_callS (As := [.int (nI o)]) (rest := []) (is := []) (ir := [0, 1, 2, 3, 4, 5]) (ip := [0, 1, 2, 3, 4, 5]) (wc := []) (wr := [(x0, .inr (0, [.ref a0, .ref n0, .ref m0, .ref i0, .ref r0, .ref p0])), (n0, .inr (2, [.ref n1, .ref n2, .ref n3, .ref n4, .int (nI cnt), .int (nI fi), .int (nI la), .int (nI lo), .int (nI me)])), fk_ai E n1 14 ins, fk_ai E n2 14 outs, fk_al E n3 7 tk, fk_al E n4 7 pu]) (w2 := fun _ => [(x0, .inr (0, [.ref a0, .ref n0, .ref m0, .ref i0, .ref r0, .ref p0])), (n0, .inr (2, [.ref n1, .ref n2, .ref n3, .ref n4, .int (nI cnt), .int (nI fi), .int (nI la), .int (nI lo), .int (nI me)])), fk_ai E n1 14 ins, fk_ai E n2 14 outs, fk_al E n3 7 tk, fk_al E n4 7 pu]) (cF_isSet E o (by first | omega | assumption)) d_F_place_12 fz_F_isSet fw_310 fw_311 ⟨Nat.le_of_ble_eq_true rfl, Nat.le_of_ble_eq_true rfl⟩ rfl (Nat.le_of_ble_eq_true rfl) ⟨Nat.zero_le _, Nat.zero_le _⟩ ⟨rfl, rfl, rfl, rfl, by decide, fun _ => rfl, rfl⟩ (fun u hu12 => ?_)
      show fk_V E _ K (0, 0) [(x0, .inr (0, [.ref a0, .ref n0, .ref m0, .ref i0, .ref r0, .ref p0])), (n0, .inr (2, [.ref n1, .ref n2, .ref n3, .ref n4, .int (nI cnt), .int (nI fi), .int (nI la), .int (nI lo), .int (nI me)])), fk_ai E n1 14 ins, fk_ai E n2 14 outs, fk_al E n3 7 tk, fk_al E n4 7 pu] 15 [(0, .ref x0), (1, .int (nI i)), (2, .int (nI o))] [.int (nI (Bool.toNat (decide (o < 128))))]
      refine fk_if_eqB (b := (decide (o < 128))) d_F_place_15 rfl (fun h15t => ?_) (fun h15f => ?_)
      · exact absurd (of_decide_eq_false h15t) (by omega)
      · refine fk_iload_n 2 d_F_place_18 rfl ?_
        refine fk_if_ne (a := o) (by omega) d_F_place_19 rfl (fun h19t => ?_) (fun h19f => ?_)
        · refine fk_aload_n 0 d_F_place_24 rfl ?_
          refine fk_get 0 1 rfl rfl fh_F (Nat.le_of_ble_eq_true rfl) fw_135 rfl d_F_place_25 ?_
          refine fk_iload_n 1 d_F_place_28 rfl ?_
          refine fk_iload_n 2 d_F_place_29 rfl ?_
          refine fk_callV (q0 := 1) (As := [.int (nI i), .int (nI o)]) (rest := []) (is := [1, 2, 3]) (ir := [0, 4, 5]) (ip := [0, 3, 4, 5, 1, 2]) (wc := [(n0, .inr (2, [.ref n1, .ref n2, .ref n3, .ref n4, .int (nI cnt), .int (nI fi), .int (nI la), .int (nI lo), .int (nI me)])), fk_ai E n1 14 ins, fk_ai E n2 14 outs]) (wr := [(x0, .inr (0, [.ref a0, .ref n0, .ref m0, .ref i0, .ref r0, .ref p0])), fk_al E n3 7 tk, fk_al E n4 7 pu]) (w2 := fun _ => [(x0, .inr (0, [.ref a0, .ref n0, .ref m0, .ref i0, .ref r0, .ref p0])), (n0, .inr (2, [.ref n1, .ref n2, .ref n3, .ref n4, .int (nI cnt), .int (nI fi), .int (nI la), .int (nI lo), .int (nI me)])), fk_ai E n1 14 ins, fk_ai E n2 14 outs, fk_al E n3 7 tk, fk_al E n4 7 pu]) (cN_hasPlace E n0 n1 n2 n3 n4 cnt fi la lo me ins outs i o (by first | omega | assumption) (by first | omega | assumption) (by first | omega | assumption) (by first | omega | assumption)) d_F_place_30 fz_Nt_hasPlace fw_313 rfl rfl fw_314 fw_315 ⟨Nat.le_of_ble_eq_true rfl, Nat.le_of_ble_eq_true rfl⟩ rfl (Nat.le_of_ble_eq_true rfl) ⟨Nat.zero_le _, Nat.zero_le _⟩ ⟨rfl, rfl, rfl, rfl, by decide, fun _ => rfl, rfl⟩ (fun u hu30 => ?_)
          show fk_V E _ K (0, 0) [(x0, .inr (0, [.ref a0, .ref n0, .ref m0, .ref i0, .ref r0, .ref p0])), (n0, .inr (2, [.ref n1, .ref n2, .ref n3, .ref n4, .int (nI cnt), .int (nI fi), .int (nI la), .int (nI lo), .int (nI me)])), fk_ai E n1 14 ins, fk_ai E n2 14 outs, fk_al E n3 7 tk, fk_al E n4 7 pu] 33 [(0, .ref x0), (1, .int (nI i)), (2, .int (nI o))] [.int (nI (Bool.toNat (fs_any (fun z9 => decide (ins z9 = i) && decide (outs z9 = o)) cnt)))]
          refine fk_if_eqB (b := (fs_any (fun z9 => decide (ins z9 = i) && decide (outs z9 = o)) cnt)) d_F_place_33 rfl (fun h33t => ?_) (fun h33f => ?_)
          · refine fk_aload_n 0 d_F_place_39 rfl ?_
            refine fk_get 0 1 rfl rfl fh_F (Nat.le_of_ble_eq_true rfl) fw_135 rfl d_F_place_40 ?_
            refine fk_iload_n 1 d_F_place_43 rfl ?_
            refine fk_iload_n 2 d_F_place_44 rfl ?_
            refine fk_callV (q0 := 1) (As := [.int (nI i), .int (nI o)]) (rest := []) (is := [1, 2, 3, 4, 5]) (ir := [0]) (ip := [0, 1, 2, 3, 4, 5]) (wc := [(n0, .inr (2, [.ref n1, .ref n2, .ref n3, .ref n4, .int (nI cnt), .int (nI fi), .int (nI la), .int (nI lo), .int (nI me)])), fk_ai E n1 14 ins, fk_ai E n2 14 outs, fk_al E n3 7 tk, fk_al E n4 7 pu]) (wr := [(x0, .inr (0, [.ref a0, .ref n0, .ref m0, .ref i0, .ref r0, .ref p0]))]) (w2 := fun _ => [(x0, .inr (0, [.ref a0, .ref n0, .ref m0, .ref i0, .ref r0, .ref p0])), (n0, .inr (2, [.ref n1, .ref n2, .ref n3, .ref n4, .int (nI cnt), .int (nI fi), .int (nI la), .int (nI lo), .int (nI me)])), fk_ai E n1 14 ins, fk_ai E n2 14 outs, fk_al E n3 7 tk, fk_al E n4 7 pu]) (cN_addPlaceF E n0 n1 n2 n3 n4 cnt fi la lo me ins outs tk pu i o (by first | omega | assumption)) d_F_place_45 fz_Nt_addPlace fw_317 rfl rfl fw_282 fw_283 ⟨Nat.le_of_ble_eq_true rfl, Nat.le_of_ble_eq_true rfl⟩ rfl (Nat.le_of_ble_eq_true rfl) ⟨Nat.zero_le _, Nat.zero_le _⟩ ⟨rfl, rfl, rfl, rfl, by decide, fun _ => rfl, rfl⟩ (fun u hu45 => ?_)
            show fk_V E _ K (0, 0) [(x0, .inr (0, [.ref a0, .ref n0, .ref m0, .ref i0, .ref r0, .ref p0])), (n0, .inr (2, [.ref n1, .ref n2, .ref n3, .ref n4, .int (nI cnt), .int (nI fi), .int (nI la), .int (nI lo), .int (nI me)])), fk_ai E n1 14 ins, fk_ai E n2 14 outs, fk_al E n3 7 tk, fk_al E n4 7 pu] 48 [(0, .ref x0), (1, .int (nI i)), (2, .int (nI o))] [.int (nI (Bool.toNat false))]
            refine fk_if_eqB (b := false) d_F_place_48 rfl (fun h48t => ?_) (fun h48f => ?_)
            · refine fk_bipush (v := -2) d_F_place_63 (by decide +kernel) ?_
              exact hret (0, 0) _ 65 _ () d_F_place_65 (trivial) (rfl)
            · exact absurd h48f (by decide)
          · rw [hd] at h33f; exact absurd h33f (by decide)
        · omega
set_option maxRecDepth 20000 in
set_option maxHeartbeats 4000000 in
theorem cX_place (E : fk_E) (x0 : Nat) (a0 : Nat) (n0 : Nat) (m0 : Nat) (i0 : Nat) (r0 : Nat) (p0 : Nat) (n1 : Nat) (n2 : Nat) (n3 : Nat) (n4 : Nat) (cnt : Nat) (fi : Nat) (la : Nat) (lo : Nat) (me : Nat) (ins : Nat → Nat) (outs : Nat → Nat) (tk : Nat → Nat) (pu : Nat → Nat) (i : Nat) (o : Nat) (hc : cnt < 14) (hb : ∀ j, j < cnt → ins j < 128 ∧ outs j < 128) (hf : fi < 128) (hl : la < 128) (hL : lo < 128) (hi : 0 < i ∧ i < 128) (ho : 0 < o ∧ o < 128) (hd : fs_any (fun z9 => decide (ins z9 = i) && decide (outs z9 = o)) cnt = false) : fk_C E fy_F_place prog_1_method_9_code 3 (some .int) 4 0 0 [.ref x0, .int (nI i), .int (nI o)] [(x0, .inr (0, [.ref a0, .ref n0, .ref m0, .ref i0, .ref r0, .ref p0])), (n0, .inr (2, [.ref n1, .ref n2, .ref n3, .ref n4, .int (nI cnt), .int (nI fi), .int (nI la), .int (nI lo), .int (nI me)])), fk_ai E n1 14 ins, fk_ai E n2 14 outs, fk_al E n3 7 tk, fk_al E n4 7 pu] (S := (Nat → Nat) × (Nat → Nat)) (fun (u : (Nat → Nat) × (Nat → Nat)) => some (.int (nI cnt))) (fun (u : (Nat → Nat) × (Nat → Nat)) => ∀ a, a < 7 → u.1 a = fm_mk (fs_tak (fs_O (cnt + 1) (va_up outs cnt o) fi) a) ∧ u.2 a = fm_mk (fs_tak (fs_I (cnt + 1) (va_up ins cnt i) la) a)) (fun (u : (Nat → Nat) × (Nat → Nat)) => [(x0, .inr (0, [.ref a0, .ref n0, .ref m0, .ref i0, .ref r0, .ref p0])), (n0, .inr (2, [.ref n1, .ref n2, .ref n3, .ref n4, .int (nI (cnt + 1)), .int (nI fi), .int (nI la), .int (nI lo), .int (nI (fs_mem lo fi la (va_up ins cnt i) (va_up outs cnt o) (cnt + 1)))])), fk_ai E n1 14 (va_up ins cnt i), fk_ai E n2 14 (va_up outs cnt o), fk_al E n3 7 u.1, fk_al E n4 7 u.2]) := by
  refine fk_enterI (v := fun (u : (Nat → Nat) × (Nat → Nat)) => (nI cnt)) (by decide) (Nat.le_of_ble_eq_true rfl) (lv0 := [(0, .ref x0), (1, .int (nI i)), (2, .int (nI o))]) rfl ?_
  intro K hini hret
  refine fk_iload_n 1 d_F_place_0 rfl ?_
  refine fk_callS (As := [.int (nI i)]) (rest := []) (is := []) (ir := [0, 1, 2, 3, 4, 5]) (ip := [0, 1, 2, 3, 4, 5]) (wc := []) (wr := [(x0, .inr (0, [.ref a0, .ref n0, .ref m0, .ref i0, .ref r0, .ref p0])), (n0, .inr (2, [.ref n1, .ref n2, .ref n3, .ref n4, .int (nI cnt), .int (nI fi), .int (nI la), .int (nI lo), .int (nI me)])), fk_ai E n1 14 ins, fk_ai E n2 14 outs, fk_al E n3 7 tk, fk_al E n4 7 pu]) (w2 := fun _ => [(x0, .inr (0, [.ref a0, .ref n0, .ref m0, .ref i0, .ref r0, .ref p0])), (n0, .inr (2, [.ref n1, .ref n2, .ref n3, .ref n4, .int (nI cnt), .int (nI fi), .int (nI la), .int (nI lo), .int (nI me)])), fk_ai E n1 14 ins, fk_ai E n2 14 outs, fk_al E n3 7 tk, fk_al E n4 7 pu]) (cF_isSet E i (by first | omega | assumption)) d_F_place_1 fz_F_isSet fw_310 fw_311 ⟨Nat.le_of_ble_eq_true rfl, Nat.le_of_ble_eq_true rfl⟩ rfl (Nat.le_of_ble_eq_true rfl) ⟨Nat.zero_le _, Nat.zero_le _⟩ ⟨rfl, rfl, rfl, rfl, by decide, fun _ => rfl, rfl⟩ (fun u hu1 => ?_)
  show fk_V E _ K (0, 0) [(x0, .inr (0, [.ref a0, .ref n0, .ref m0, .ref i0, .ref r0, .ref p0])), (n0, .inr (2, [.ref n1, .ref n2, .ref n3, .ref n4, .int (nI cnt), .int (nI fi), .int (nI la), .int (nI lo), .int (nI me)])), fk_ai E n1 14 ins, fk_ai E n2 14 outs, fk_al E n3 7 tk, fk_al E n4 7 pu] 4 [(0, .ref x0), (1, .int (nI i)), (2, .int (nI o))] [.int (nI (Bool.toNat (decide (i < 128))))]
  refine fk_if_eqB (b := (decide (i < 128))) d_F_place_4 rfl (fun h4t => ?_) (fun h4f => ?_)
  · exact absurd (of_decide_eq_false h4t) (by omega)
  · refine fk_iload_n 1 d_F_place_7 rfl ?_
    refine fk_if_eq (a := i) (by omega) d_F_place_8 rfl (fun h8t => ?_) (fun h8f => ?_)
    · omega
    · refine fk_iload_n 2 d_F_place_11 rfl ?_
      refine fk_callS (As := [.int (nI o)]) (rest := []) (is := []) (ir := [0, 1, 2, 3, 4, 5]) (ip := [0, 1, 2, 3, 4, 5]) (wc := []) (wr := [(x0, .inr (0, [.ref a0, .ref n0, .ref m0, .ref i0, .ref r0, .ref p0])), (n0, .inr (2, [.ref n1, .ref n2, .ref n3, .ref n4, .int (nI cnt), .int (nI fi), .int (nI la), .int (nI lo), .int (nI me)])), fk_ai E n1 14 ins, fk_ai E n2 14 outs, fk_al E n3 7 tk, fk_al E n4 7 pu]) (w2 := fun _ => [(x0, .inr (0, [.ref a0, .ref n0, .ref m0, .ref i0, .ref r0, .ref p0])), (n0, .inr (2, [.ref n1, .ref n2, .ref n3, .ref n4, .int (nI cnt), .int (nI fi), .int (nI la), .int (nI lo), .int (nI me)])), fk_ai E n1 14 ins, fk_ai E n2 14 outs, fk_al E n3 7 tk, fk_al E n4 7 pu]) (cF_isSet E o (by first | omega | assumption)) d_F_place_12 fz_F_isSet fw_310 fw_311 ⟨Nat.le_of_ble_eq_true rfl, Nat.le_of_ble_eq_true rfl⟩ rfl (Nat.le_of_ble_eq_true rfl) ⟨Nat.zero_le _, Nat.zero_le _⟩ ⟨rfl, rfl, rfl, rfl, by decide, fun _ => rfl, rfl⟩ (fun u hu12 => ?_)
      show fk_V E _ K (0, 0) [(x0, .inr (0, [.ref a0, .ref n0, .ref m0, .ref i0, .ref r0, .ref p0])), (n0, .inr (2, [.ref n1, .ref n2, .ref n3, .ref n4, .int (nI cnt), .int (nI fi), .int (nI la), .int (nI lo), .int (nI me)])), fk_ai E n1 14 ins, fk_ai E n2 14 outs, fk_al E n3 7 tk, fk_al E n4 7 pu] 15 [(0, .ref x0), (1, .int (nI i)), (2, .int (nI o))] [.int (nI (Bool.toNat (decide (o < 128))))]
      refine fk_if_eqB (b := (decide (o < 128))) d_F_place_15 rfl (fun h15t => ?_) (fun h15f => ?_)
      · exact absurd (of_decide_eq_false h15t) (by omega)
      · refine fk_iload_n 2 d_F_place_18 rfl ?_
        refine fk_if_ne (a := o) (by omega) d_F_place_19 rfl (fun h19t => ?_) (fun h19f => ?_)
        · refine fk_aload_n 0 d_F_place_24 rfl ?_
          refine fk_get 0 1 rfl rfl fh_F (Nat.le_of_ble_eq_true rfl) fw_135 rfl d_F_place_25 ?_
          refine fk_iload_n 1 d_F_place_28 rfl ?_
          refine fk_iload_n 2 d_F_place_29 rfl ?_
          refine fk_callV (q0 := 1) (As := [.int (nI i), .int (nI o)]) (rest := []) (is := [1, 2, 3]) (ir := [0, 4, 5]) (ip := [0, 3, 4, 5, 1, 2]) (wc := [(n0, .inr (2, [.ref n1, .ref n2, .ref n3, .ref n4, .int (nI cnt), .int (nI fi), .int (nI la), .int (nI lo), .int (nI me)])), fk_ai E n1 14 ins, fk_ai E n2 14 outs]) (wr := [(x0, .inr (0, [.ref a0, .ref n0, .ref m0, .ref i0, .ref r0, .ref p0])), fk_al E n3 7 tk, fk_al E n4 7 pu]) (w2 := fun _ => [(x0, .inr (0, [.ref a0, .ref n0, .ref m0, .ref i0, .ref r0, .ref p0])), (n0, .inr (2, [.ref n1, .ref n2, .ref n3, .ref n4, .int (nI cnt), .int (nI fi), .int (nI la), .int (nI lo), .int (nI me)])), fk_ai E n1 14 ins, fk_ai E n2 14 outs, fk_al E n3 7 tk, fk_al E n4 7 pu]) (cN_hasPlace E n0 n1 n2 n3 n4 cnt fi la lo me ins outs i o (by first | omega | assumption) (by first | omega | assumption) (by first | omega | assumption) (by first | omega | assumption)) d_F_place_30 fz_Nt_hasPlace fw_313 rfl rfl fw_314 fw_315 ⟨Nat.le_of_ble_eq_true rfl, Nat.le_of_ble_eq_true rfl⟩ rfl (Nat.le_of_ble_eq_true rfl) ⟨Nat.zero_le _, Nat.zero_le _⟩ ⟨rfl, rfl, rfl, rfl, by decide, fun _ => rfl, rfl⟩ (fun u hu30 => ?_)
          show fk_V E _ K (0, 0) [(x0, .inr (0, [.ref a0, .ref n0, .ref m0, .ref i0, .ref r0, .ref p0])), (n0, .inr (2, [.ref n1, .ref n2, .ref n3, .ref n4, .int (nI cnt), .int (nI fi), .int (nI la), .int (nI lo), .int (nI me)])), fk_ai E n1 14 ins, fk_ai E n2 14 outs, fk_al E n3 7 tk, fk_al E n4 7 pu] 33 [(0, .ref x0), (1, .int (nI i)), (2, .int (nI o))] [.int (nI (Bool.toNat (fs_any (fun z9 => decide (ins z9 = i) && decide (outs z9 = o)) cnt)))]
          refine fk_if_eqB (b := (fs_any (fun z9 => decide (ins z9 = i) && decide (outs z9 = o)) cnt)) d_F_place_33 rfl (fun h33t => ?_) (fun h33f => ?_)
          · refine fk_aload_n 0 d_F_place_39 rfl ?_
            refine fk_get 0 1 rfl rfl fh_F (Nat.le_of_ble_eq_true rfl) fw_135 rfl d_F_place_40 ?_
            refine fk_iload_n 1 d_F_place_43 rfl ?_
            refine fk_iload_n 2 d_F_place_44 rfl ?_
            refine fk_callV (q0 := 1) (As := [.int (nI i), .int (nI o)]) (rest := []) (is := [1, 2, 3, 4, 5]) (ir := [0]) (ip := [0, 1, 2, 3, 4, 5]) (wc := [(n0, .inr (2, [.ref n1, .ref n2, .ref n3, .ref n4, .int (nI cnt), .int (nI fi), .int (nI la), .int (nI lo), .int (nI me)])), fk_ai E n1 14 ins, fk_ai E n2 14 outs, fk_al E n3 7 tk, fk_al E n4 7 pu]) (wr := [(x0, .inr (0, [.ref a0, .ref n0, .ref m0, .ref i0, .ref r0, .ref p0]))]) (w2 := fun u => [(x0, .inr (0, [.ref a0, .ref n0, .ref m0, .ref i0, .ref r0, .ref p0])), (n0, .inr (2, [.ref n1, .ref n2, .ref n3, .ref n4, .int (nI (cnt + 1)), .int (nI fi), .int (nI la), .int (nI lo), .int (nI (fs_mem lo fi la (va_up ins cnt i) (va_up outs cnt o) (cnt + 1)))])), fk_ai E n1 14 (va_up ins cnt i), fk_ai E n2 14 (va_up outs cnt o), fk_al E n3 7 u.1, fk_al E n4 7 u.2]) (cN_addPlace E n0 n1 n2 n3 n4 cnt fi la lo me ins outs tk pu i o (by first | omega | assumption) (by first | omega | assumption) (by first | omega | assumption) (by first | omega | assumption) (by first | omega | assumption) (by first | omega | assumption) (by first | omega | assumption)) d_F_place_45 fz_Nt_addPlace fw_317 rfl rfl fw_282 fw_283 ⟨Nat.le_of_ble_eq_true rfl, Nat.le_of_ble_eq_true rfl⟩ rfl (Nat.le_of_ble_eq_true rfl) ⟨Nat.zero_le _, Nat.zero_le _⟩ ⟨rfl, rfl, rfl, rfl, by decide, fun _ => rfl, rfl⟩ (fun u hu45 => ?_)
            obtain ⟨tk9_45, pu9_45⟩ := u
            have hq45 : ∀ a, a < 7 → tk9_45 a = fm_mk (fs_tak (fs_O (cnt + 1) (va_up outs cnt o) fi) a) ∧ pu9_45 a = fm_mk (fs_tak (fs_I (cnt + 1) (va_up ins cnt i) la) a) := hu45
            show fk_V E _ K (0, 0) [(x0, .inr (0, [.ref a0, .ref n0, .ref m0, .ref i0, .ref r0, .ref p0])), (n0, .inr (2, [.ref n1, .ref n2, .ref n3, .ref n4, .int (nI (cnt + 1)), .int (nI fi), .int (nI la), .int (nI lo), .int (nI (fs_mem lo fi la (va_up ins cnt i) (va_up outs cnt o) (cnt + 1)))])), fk_ai E n1 14 (va_up ins cnt i), fk_ai E n2 14 (va_up outs cnt o), fk_al E n3 7 tk9_45, fk_al E n4 7 pu9_45] 48 [(0, .ref x0), (1, .int (nI i)), (2, .int (nI o))] [.int (nI (Bool.toNat true))]
            refine fk_if_eqB (b := true) d_F_place_48 rfl (fun h48t => ?_) (fun h48f => ?_)
            · exact absurd h48t (by decide)
            · refine fk_aload_n 0 d_F_place_51 rfl ?_
              refine fk_get 0 1 rfl rfl fh_F (Nat.le_of_ble_eq_true rfl) fw_135 rfl d_F_place_52 ?_
              refine fk_callV (q0 := 1) (As := []) (rest := []) (is := [1]) (ir := [0, 2, 3, 4, 5]) (ip := [0, 5, 1, 2, 3, 4]) (wc := [(n0, .inr (2, [.ref n1, .ref n2, .ref n3, .ref n4, .int (nI (cnt + 1)), .int (nI fi), .int (nI la), .int (nI lo), .int (nI (fs_mem lo fi la (va_up ins cnt i) (va_up outs cnt o) (cnt + 1)))]))]) (wr := [(x0, .inr (0, [.ref a0, .ref n0, .ref m0, .ref i0, .ref r0, .ref p0])), fk_ai E n1 14 (va_up ins cnt i), fk_ai E n2 14 (va_up outs cnt o), fk_al E n3 7 tk9_45, fk_al E n4 7 pu9_45]) (w2 := fun _ => [(x0, .inr (0, [.ref a0, .ref n0, .ref m0, .ref i0, .ref r0, .ref p0])), (n0, .inr (2, [.ref n1, .ref n2, .ref n3, .ref n4, .int (nI (cnt + 1)), .int (nI fi), .int (nI la), .int (nI lo), .int (nI (fs_mem lo fi la (va_up ins cnt i) (va_up outs cnt o) (cnt + 1)))])), fk_ai E n1 14 (va_up ins cnt i), fk_ai E n2 14 (va_up outs cnt o), fk_al E n3 7 tk9_45, fk_al E n4 7 pu9_45]) (cN_placeCount E n0 n1 n2 n3 n4 (cnt + 1) fi la lo (fs_mem lo fi la (va_up ins cnt i) (va_up outs cnt o) (cnt + 1)) ) d_F_place_55 fz_Nt_placeCount fw_302 rfl rfl fw_303 fw_304 ⟨Nat.le_of_ble_eq_true rfl, Nat.le_of_ble_eq_true rfl⟩ rfl (Nat.le_of_ble_eq_true rfl) ⟨Nat.zero_le _, Nat.zero_le _⟩ ⟨rfl, rfl, rfl, rfl, by decide, fun _ => rfl, rfl⟩ (fun u hu55 => ?_)
              show fk_V E _ K (0, 0) [(x0, .inr (0, [.ref a0, .ref n0, .ref m0, .ref i0, .ref r0, .ref p0])), (n0, .inr (2, [.ref n1, .ref n2, .ref n3, .ref n4, .int (nI (cnt + 1)), .int (nI fi), .int (nI la), .int (nI lo), .int (nI (fs_mem lo fi la (va_up ins cnt i) (va_up outs cnt o) (cnt + 1)))])), fk_ai E n1 14 (va_up ins cnt i), fk_ai E n2 14 (va_up outs cnt o), fk_al E n3 7 tk9_45, fk_al E n4 7 pu9_45] 58 [(0, .ref x0), (1, .int (nI i)), (2, .int (nI o))] [.int (nI (cnt + 1))]
              refine fk_iconst (v := nI 1) d_F_place_58 (by decide +kernel) ?_
              refine fk_isub (a := (cnt + 1)) (b := 1) d_F_place_59 (by omega) ?_
              refine fk_goto d_F_place_60 rfl ?_
              refine fk_top (congrArg nI (show (cnt + 1) - 1 = cnt from by first | omega | simp_all)) ?_
              have hpp : ∀ a, a < 7 → tk9_45 a = fm_mk (fs_tak (fs_O (cnt + 1) (va_up outs cnt o) fi) a) ∧ pu9_45 a = fm_mk (fs_tak (fs_I (cnt + 1) (va_up ins cnt i) la) a) := hq45
              exact hret (0, 0) _ 65 _ (tk9_45, pu9_45) d_F_place_65 (hpp) (rfl)
          · rw [hd] at h33f; exact absurd h33f (by decide)
        · omega
set_option maxRecDepth 20000 in
set_option maxHeartbeats 4000000 in
theorem cX_placeO (E : fk_E) (x0 : Nat) (a0 : Nat) (n0 : Nat) (m0 : Nat) (i0 : Nat) (r0 : Nat) (p0 : Nat) (n1 : Nat) (n2 : Nat) (n3 : Nat) (n4 : Nat) (cnt : Nat) (fi : Nat) (la : Nat) (lo : Nat) (me : Nat) (ins : Nat → Nat) (outs : Nat → Nat) (tk : Nat → Nat) (pu : Nat → Nat) (i : Nat) (o : Nat) (h : ¬ ((0 < i ∧ i < 128) ∧ 0 < o ∧ o < 128)) (hi : i < 2 ^ 31) (ho : o < 2 ^ 31) : fk_C E fy_F_place prog_1_method_9_code 3 (some .int) 4 0 0 [.ref x0, .int (nI i), .int (nI o)] [(x0, .inr (0, [.ref a0, .ref n0, .ref m0, .ref i0, .ref r0, .ref p0])), (n0, .inr (2, [.ref n1, .ref n2, .ref n3, .ref n4, .int (nI cnt), .int (nI fi), .int (nI la), .int (nI lo), .int (nI me)])), fk_ai E n1 14 ins, fk_ai E n2 14 outs, fk_al E n3 7 tk, fk_al E n4 7 pu] (S := Unit) (fun _ => some (.int (nI 0 - 1))) (fun _ => True) (fun _ => [(x0, .inr (0, [.ref a0, .ref n0, .ref m0, .ref i0, .ref r0, .ref p0])), (n0, .inr (2, [.ref n1, .ref n2, .ref n3, .ref n4, .int (nI cnt), .int (nI fi), .int (nI la), .int (nI lo), .int (nI me)])), fk_ai E n1 14 ins, fk_ai E n2 14 outs, fk_al E n3 7 tk, fk_al E n4 7 pu]) := by
  refine fk_enterI (v := fun _ => (nI 0 - 1)) (by decide) (Nat.le_of_ble_eq_true rfl) (lv0 := [(0, .ref x0), (1, .int (nI i)), (2, .int (nI o))]) rfl ?_
  intro K hini hret
  refine fk_iload_n 1 d_F_place_0 rfl ?_
  refine fk_callS (As := [.int (nI i)]) (rest := []) (is := []) (ir := [0, 1, 2, 3, 4, 5]) (ip := [0, 1, 2, 3, 4, 5]) (wc := []) (wr := [(x0, .inr (0, [.ref a0, .ref n0, .ref m0, .ref i0, .ref r0, .ref p0])), (n0, .inr (2, [.ref n1, .ref n2, .ref n3, .ref n4, .int (nI cnt), .int (nI fi), .int (nI la), .int (nI lo), .int (nI me)])), fk_ai E n1 14 ins, fk_ai E n2 14 outs, fk_al E n3 7 tk, fk_al E n4 7 pu]) (w2 := fun _ => [(x0, .inr (0, [.ref a0, .ref n0, .ref m0, .ref i0, .ref r0, .ref p0])), (n0, .inr (2, [.ref n1, .ref n2, .ref n3, .ref n4, .int (nI cnt), .int (nI fi), .int (nI la), .int (nI lo), .int (nI me)])), fk_ai E n1 14 ins, fk_ai E n2 14 outs, fk_al E n3 7 tk, fk_al E n4 7 pu]) (cF_isSet E i (by first | omega | assumption)) d_F_place_1 fz_F_isSet fw_310 fw_311 ⟨Nat.le_of_ble_eq_true rfl, Nat.le_of_ble_eq_true rfl⟩ rfl (Nat.le_of_ble_eq_true rfl) ⟨Nat.zero_le _, Nat.zero_le _⟩ ⟨rfl, rfl, rfl, rfl, by decide, fun _ => rfl, rfl⟩ (fun u hu1 => ?_)
  show fk_V E _ K (0, 0) [(x0, .inr (0, [.ref a0, .ref n0, .ref m0, .ref i0, .ref r0, .ref p0])), (n0, .inr (2, [.ref n1, .ref n2, .ref n3, .ref n4, .int (nI cnt), .int (nI fi), .int (nI la), .int (nI lo), .int (nI me)])), fk_ai E n1 14 ins, fk_ai E n2 14 outs, fk_al E n3 7 tk, fk_al E n4 7 pu] 4 [(0, .ref x0), (1, .int (nI i)), (2, .int (nI o))] [.int (nI (Bool.toNat (decide (i < 128))))]
  refine fk_if_eqB (b := (decide (i < 128))) d_F_place_4 rfl (fun h4t => ?_) (fun h4f => ?_)
  · refine fk_iconst (v := nI 0 - 1) d_F_place_22 (by decide +kernel) ?_
    exact hret (0, 0) _ 23 _ () d_F_place_23 (trivial) (rfl)
  · have q1 := of_decide_eq_true h4f
    refine fk_iload_n 1 d_F_place_7 rfl ?_
    refine fk_if_eq (a := i) (by omega) d_F_place_8 rfl (fun h8t => ?_) (fun h8f => ?_)
    · refine fk_iconst (v := nI 0 - 1) d_F_place_22 (by decide +kernel) ?_
      exact hret (0, 0) _ 23 _ () d_F_place_23 (trivial) (rfl)
    · refine fk_iload_n 2 d_F_place_11 rfl ?_
      refine fk_callS (As := [.int (nI o)]) (rest := []) (is := []) (ir := [0, 1, 2, 3, 4, 5]) (ip := [0, 1, 2, 3, 4, 5]) (wc := []) (wr := [(x0, .inr (0, [.ref a0, .ref n0, .ref m0, .ref i0, .ref r0, .ref p0])), (n0, .inr (2, [.ref n1, .ref n2, .ref n3, .ref n4, .int (nI cnt), .int (nI fi), .int (nI la), .int (nI lo), .int (nI me)])), fk_ai E n1 14 ins, fk_ai E n2 14 outs, fk_al E n3 7 tk, fk_al E n4 7 pu]) (w2 := fun _ => [(x0, .inr (0, [.ref a0, .ref n0, .ref m0, .ref i0, .ref r0, .ref p0])), (n0, .inr (2, [.ref n1, .ref n2, .ref n3, .ref n4, .int (nI cnt), .int (nI fi), .int (nI la), .int (nI lo), .int (nI me)])), fk_ai E n1 14 ins, fk_ai E n2 14 outs, fk_al E n3 7 tk, fk_al E n4 7 pu]) (cF_isSet E o (by first | omega | assumption)) d_F_place_12 fz_F_isSet fw_310 fw_311 ⟨Nat.le_of_ble_eq_true rfl, Nat.le_of_ble_eq_true rfl⟩ rfl (Nat.le_of_ble_eq_true rfl) ⟨Nat.zero_le _, Nat.zero_le _⟩ ⟨rfl, rfl, rfl, rfl, by decide, fun _ => rfl, rfl⟩ (fun u hu12 => ?_)
      show fk_V E _ K (0, 0) [(x0, .inr (0, [.ref a0, .ref n0, .ref m0, .ref i0, .ref r0, .ref p0])), (n0, .inr (2, [.ref n1, .ref n2, .ref n3, .ref n4, .int (nI cnt), .int (nI fi), .int (nI la), .int (nI lo), .int (nI me)])), fk_ai E n1 14 ins, fk_ai E n2 14 outs, fk_al E n3 7 tk, fk_al E n4 7 pu] 15 [(0, .ref x0), (1, .int (nI i)), (2, .int (nI o))] [.int (nI (Bool.toNat (decide (o < 128))))]
      refine fk_if_eqB (b := (decide (o < 128))) d_F_place_15 rfl (fun h15t => ?_) (fun h15f => ?_)
      · refine fk_iconst (v := nI 0 - 1) d_F_place_22 (by decide +kernel) ?_
        exact hret (0, 0) _ 23 _ () d_F_place_23 (trivial) (rfl)
      · have q2 := of_decide_eq_true h15f
        refine fk_iload_n 2 d_F_place_18 rfl ?_
        refine fk_if_ne (a := o) (by omega) d_F_place_19 rfl (fun h19t => ?_) (fun h19f => ?_)
        · omega
        · refine fk_iconst (v := nI 0 - 1) d_F_place_22 (by decide +kernel) ?_
          exact hret (0, 0) _ 23 _ () d_F_place_23 (trivial) (rfl)
set_option maxRecDepth 20000 in
set_option maxHeartbeats 4000000 in
theorem cX_placeM (E : fk_E) (x0 : Nat) (a0 : Nat) (n0 : Nat) (m0 : Nat) (i0 : Nat) (r0 : Nat) (p0 : Nat) (n1 : Nat) (n2 : Nat) (n3 : Nat) (n4 : Nat) (cnt : Nat) (fi : Nat) (la : Nat) (lo : Nat) (me : Nat) (ins : Nat → Nat) (outs : Nat → Nat) (tk : Nat → Nat) (pu : Nat → Nat) (x : Int32) (y : Int32) (hx : x < 0) : fk_C E fy_F_place prog_1_method_9_code 3 (some .int) 4 0 0 [.ref x0, .int x, .int y] [(x0, .inr (0, [.ref a0, .ref n0, .ref m0, .ref i0, .ref r0, .ref p0])), (n0, .inr (2, [.ref n1, .ref n2, .ref n3, .ref n4, .int (nI cnt), .int (nI fi), .int (nI la), .int (nI lo), .int (nI me)])), fk_ai E n1 14 ins, fk_ai E n2 14 outs, fk_al E n3 7 tk, fk_al E n4 7 pu] (S := Unit) (fun _ => some (.int (nI 0 - 1))) (fun _ => True) (fun _ => [(x0, .inr (0, [.ref a0, .ref n0, .ref m0, .ref i0, .ref r0, .ref p0])), (n0, .inr (2, [.ref n1, .ref n2, .ref n3, .ref n4, .int (nI cnt), .int (nI fi), .int (nI la), .int (nI lo), .int (nI me)])), fk_ai E n1 14 ins, fk_ai E n2 14 outs, fk_al E n3 7 tk, fk_al E n4 7 pu]) := by
  refine fk_enterI (v := fun _ => (nI 0 - 1)) (by decide) (Nat.le_of_ble_eq_true rfl) (lv0 := [(0, .ref x0), (1, .int x), (2, .int y)]) rfl ?_
  intro K hini hret
  refine fk_iload_n 1 d_F_place_0 rfl ?_
  refine fk_callS (As := [.int x]) (rest := []) (is := []) (ir := [0, 1, 2, 3, 4, 5]) (ip := [0, 1, 2, 3, 4, 5]) (wc := []) (wr := [(x0, .inr (0, [.ref a0, .ref n0, .ref m0, .ref i0, .ref r0, .ref p0])), (n0, .inr (2, [.ref n1, .ref n2, .ref n3, .ref n4, .int (nI cnt), .int (nI fi), .int (nI la), .int (nI lo), .int (nI me)])), fk_ai E n1 14 ins, fk_ai E n2 14 outs, fk_al E n3 7 tk, fk_al E n4 7 pu]) (w2 := fun _ => [(x0, .inr (0, [.ref a0, .ref n0, .ref m0, .ref i0, .ref r0, .ref p0])), (n0, .inr (2, [.ref n1, .ref n2, .ref n3, .ref n4, .int (nI cnt), .int (nI fi), .int (nI la), .int (nI lo), .int (nI me)])), fk_ai E n1 14 ins, fk_ai E n2 14 outs, fk_al E n3 7 tk, fk_al E n4 7 pu]) (cF_isSetM E x (by first | omega | assumption)) d_F_place_1 fz_F_isSet fw_310 fw_311 ⟨Nat.le_of_ble_eq_true rfl, Nat.le_of_ble_eq_true rfl⟩ rfl (Nat.le_of_ble_eq_true rfl) ⟨Nat.zero_le _, Nat.zero_le _⟩ ⟨rfl, rfl, rfl, rfl, by decide, fun _ => rfl, rfl⟩ (fun u hu1 => ?_)
  show fk_V E _ K (0, 0) [(x0, .inr (0, [.ref a0, .ref n0, .ref m0, .ref i0, .ref r0, .ref p0])), (n0, .inr (2, [.ref n1, .ref n2, .ref n3, .ref n4, .int (nI cnt), .int (nI fi), .int (nI la), .int (nI lo), .int (nI me)])), fk_ai E n1 14 ins, fk_ai E n2 14 outs, fk_al E n3 7 tk, fk_al E n4 7 pu] 4 [(0, .ref x0), (1, .int x), (2, .int y)] [.int (nI (Bool.toNat false))]
  refine fk_if_eqB (b := false) d_F_place_4 rfl (fun h4t => ?_) (fun h4f => ?_)
  · refine fk_iconst (v := nI 0 - 1) d_F_place_22 (by decide +kernel) ?_
    exact hret (0, 0) _ 23 _ () d_F_place_23 (trivial) (rfl)
  · exact absurd h4f (by decide)
set_option maxRecDepth 20000 in
set_option maxHeartbeats 4000000 in
theorem cX_placeN (E : fk_E) (x0 : Nat) (a0 : Nat) (n0 : Nat) (m0 : Nat) (i0 : Nat) (r0 : Nat) (p0 : Nat) (n1 : Nat) (n2 : Nat) (n3 : Nat) (n4 : Nat) (cnt : Nat) (fi : Nat) (la : Nat) (lo : Nat) (me : Nat) (ins : Nat → Nat) (outs : Nat → Nat) (tk : Nat → Nat) (pu : Nat → Nat) (i : Nat) (y : Int32) (hi : i < 2 ^ 31) (hx : y < 0) : fk_C E fy_F_place prog_1_method_9_code 3 (some .int) 4 0 0 [.ref x0, .int (nI i), .int y] [(x0, .inr (0, [.ref a0, .ref n0, .ref m0, .ref i0, .ref r0, .ref p0])), (n0, .inr (2, [.ref n1, .ref n2, .ref n3, .ref n4, .int (nI cnt), .int (nI fi), .int (nI la), .int (nI lo), .int (nI me)])), fk_ai E n1 14 ins, fk_ai E n2 14 outs, fk_al E n3 7 tk, fk_al E n4 7 pu] (S := Unit) (fun _ => some (.int (nI 0 - 1))) (fun _ => True) (fun _ => [(x0, .inr (0, [.ref a0, .ref n0, .ref m0, .ref i0, .ref r0, .ref p0])), (n0, .inr (2, [.ref n1, .ref n2, .ref n3, .ref n4, .int (nI cnt), .int (nI fi), .int (nI la), .int (nI lo), .int (nI me)])), fk_ai E n1 14 ins, fk_ai E n2 14 outs, fk_al E n3 7 tk, fk_al E n4 7 pu]) := by
  refine fk_enterI (v := fun _ => (nI 0 - 1)) (by decide) (Nat.le_of_ble_eq_true rfl) (lv0 := [(0, .ref x0), (1, .int (nI i)), (2, .int y)]) rfl ?_
  intro K hini hret
  refine fk_iload_n 1 d_F_place_0 rfl ?_
  refine fk_callS (As := [.int (nI i)]) (rest := []) (is := []) (ir := [0, 1, 2, 3, 4, 5]) (ip := [0, 1, 2, 3, 4, 5]) (wc := []) (wr := [(x0, .inr (0, [.ref a0, .ref n0, .ref m0, .ref i0, .ref r0, .ref p0])), (n0, .inr (2, [.ref n1, .ref n2, .ref n3, .ref n4, .int (nI cnt), .int (nI fi), .int (nI la), .int (nI lo), .int (nI me)])), fk_ai E n1 14 ins, fk_ai E n2 14 outs, fk_al E n3 7 tk, fk_al E n4 7 pu]) (w2 := fun _ => [(x0, .inr (0, [.ref a0, .ref n0, .ref m0, .ref i0, .ref r0, .ref p0])), (n0, .inr (2, [.ref n1, .ref n2, .ref n3, .ref n4, .int (nI cnt), .int (nI fi), .int (nI la), .int (nI lo), .int (nI me)])), fk_ai E n1 14 ins, fk_ai E n2 14 outs, fk_al E n3 7 tk, fk_al E n4 7 pu]) (cF_isSet E i (by first | omega | assumption)) d_F_place_1 fz_F_isSet fw_310 fw_311 ⟨Nat.le_of_ble_eq_true rfl, Nat.le_of_ble_eq_true rfl⟩ rfl (Nat.le_of_ble_eq_true rfl) ⟨Nat.zero_le _, Nat.zero_le _⟩ ⟨rfl, rfl, rfl, rfl, by decide, fun _ => rfl, rfl⟩ (fun u hu1 => ?_)
  show fk_V E _ K (0, 0) [(x0, .inr (0, [.ref a0, .ref n0, .ref m0, .ref i0, .ref r0, .ref p0])), (n0, .inr (2, [.ref n1, .ref n2, .ref n3, .ref n4, .int (nI cnt), .int (nI fi), .int (nI la), .int (nI lo), .int (nI me)])), fk_ai E n1 14 ins, fk_ai E n2 14 outs, fk_al E n3 7 tk, fk_al E n4 7 pu] 4 [(0, .ref x0), (1, .int (nI i)), (2, .int y)] [.int (nI (Bool.toNat (decide (i < 128))))]
  refine fk_if_eqB (b := (decide (i < 128))) d_F_place_4 rfl (fun h4t => ?_) (fun h4f => ?_)
  · refine fk_iconst (v := nI 0 - 1) d_F_place_22 (by decide +kernel) ?_
    exact hret (0, 0) _ 23 _ () d_F_place_23 (trivial) (rfl)
  · refine fk_iload_n 1 d_F_place_7 rfl ?_
    refine fk_if_eq (a := i) (by omega) d_F_place_8 rfl (fun h8t => ?_) (fun h8f => ?_)
    · refine fk_iconst (v := nI 0 - 1) d_F_place_22 (by decide +kernel) ?_
      exact hret (0, 0) _ 23 _ () d_F_place_23 (trivial) (rfl)
    · refine fk_iload_n 2 d_F_place_11 rfl ?_
      refine fk_callS (As := [.int y]) (rest := []) (is := []) (ir := [0, 1, 2, 3, 4, 5]) (ip := [0, 1, 2, 3, 4, 5]) (wc := []) (wr := [(x0, .inr (0, [.ref a0, .ref n0, .ref m0, .ref i0, .ref r0, .ref p0])), (n0, .inr (2, [.ref n1, .ref n2, .ref n3, .ref n4, .int (nI cnt), .int (nI fi), .int (nI la), .int (nI lo), .int (nI me)])), fk_ai E n1 14 ins, fk_ai E n2 14 outs, fk_al E n3 7 tk, fk_al E n4 7 pu]) (w2 := fun _ => [(x0, .inr (0, [.ref a0, .ref n0, .ref m0, .ref i0, .ref r0, .ref p0])), (n0, .inr (2, [.ref n1, .ref n2, .ref n3, .ref n4, .int (nI cnt), .int (nI fi), .int (nI la), .int (nI lo), .int (nI me)])), fk_ai E n1 14 ins, fk_ai E n2 14 outs, fk_al E n3 7 tk, fk_al E n4 7 pu]) (cF_isSetM E y (by first | omega | assumption)) d_F_place_12 fz_F_isSet fw_310 fw_311 ⟨Nat.le_of_ble_eq_true rfl, Nat.le_of_ble_eq_true rfl⟩ rfl (Nat.le_of_ble_eq_true rfl) ⟨Nat.zero_le _, Nat.zero_le _⟩ ⟨rfl, rfl, rfl, rfl, by decide, fun _ => rfl, rfl⟩ (fun u hu12 => ?_)
      show fk_V E _ K (0, 0) [(x0, .inr (0, [.ref a0, .ref n0, .ref m0, .ref i0, .ref r0, .ref p0])), (n0, .inr (2, [.ref n1, .ref n2, .ref n3, .ref n4, .int (nI cnt), .int (nI fi), .int (nI la), .int (nI lo), .int (nI me)])), fk_ai E n1 14 ins, fk_ai E n2 14 outs, fk_al E n3 7 tk, fk_al E n4 7 pu] 15 [(0, .ref x0), (1, .int (nI i)), (2, .int y)] [.int (nI (Bool.toNat false))]
      refine fk_if_eqB (b := false) d_F_place_15 rfl (fun h15t => ?_) (fun h15f => ?_)
      · refine fk_iconst (v := nI 0 - 1) d_F_place_22 (by decide +kernel) ?_
        exact hret (0, 0) _ 23 _ () d_F_place_23 (trivial) (rfl)
      · exact absurd h15f (by decide)
theorem d_F_ends_0 : decode prog_1_method_10_code 0 = .ok (.iload_n 1, 1) := by decide +kernel
theorem d_F_ends_1 : decode prog_1_method_10_code 1 = .ok (.invokestatic 90, 3) := by decide +kernel
theorem d_F_ends_4 : decode prog_1_method_10_code 4 = .ok (.ifCond .eq 10, 3) := by decide +kernel
theorem d_F_ends_7 : decode prog_1_method_10_code 7 = .ok (.iload_n 2, 1) := by decide +kernel
theorem d_F_ends_8 : decode prog_1_method_10_code 8 = .ok (.invokestatic 90, 3) := by decide +kernel
theorem d_F_ends_11 : decode prog_1_method_10_code 11 = .ok (.ifCond .ne 5, 3) := by decide +kernel
theorem d_F_ends_14 : decode prog_1_method_10_code 14 = .ok (.iconst 0, 1) := by decide +kernel
theorem d_F_ends_15 : decode prog_1_method_10_code 15 = .ok (.ireturn, 1) := by decide +kernel
theorem d_F_ends_16 : decode prog_1_method_10_code 16 = .ok (.aload_n 0, 1) := by decide +kernel
theorem d_F_ends_17 : decode prog_1_method_10_code 17 = .ok (.getfield 19, 3) := by decide +kernel
theorem d_F_ends_20 : decode prog_1_method_10_code 20 = .ok (.iload_n 1, 1) := by decide +kernel
theorem d_F_ends_21 : decode prog_1_method_10_code 21 = .ok (.iload_n 2, 1) := by decide +kernel
theorem d_F_ends_22 : decode prog_1_method_10_code 22 = .ok (.invokevirtual 99, 3) := by decide +kernel
theorem d_F_ends_25 : decode prog_1_method_10_code 25 = .ok (.iconst 1, 1) := by decide +kernel
theorem d_F_ends_26 : decode prog_1_method_10_code 26 = .ok (.ireturn, 1) := by decide +kernel
set_option maxRecDepth 20000 in
set_option maxHeartbeats 4000000 in
theorem cX_ends (E : fk_E) (x0 : Nat) (a0 : Nat) (n0 : Nat) (m0 : Nat) (i0 : Nat) (r0 : Nat) (p0 : Nat) (n1 : Nat) (n2 : Nat) (n3 : Nat) (n4 : Nat) (cnt : Nat) (fi : Nat) (la : Nat) (lo : Nat) (me : Nat) (ins : Nat → Nat) (outs : Nat → Nat) (tk : Nat → Nat) (pu : Nat → Nat) (f : Nat) (l : Nat) (hc : cnt ≤ 14) (hb : ∀ j, j < cnt → ins j < 128 ∧ outs j < 128) (hf : f < 128) (hl : l < 128) (ho : lo < 128) : fk_C E fy_F_ends prog_1_method_10_code 3 (some .boolean) 4 0 0 [.ref x0, .int (nI f), .int (nI l)] [(x0, .inr (0, [.ref a0, .ref n0, .ref m0, .ref i0, .ref r0, .ref p0])), (n0, .inr (2, [.ref n1, .ref n2, .ref n3, .ref n4, .int (nI cnt), .int (nI fi), .int (nI la), .int (nI lo), .int (nI me)])), fk_ai E n1 14 ins, fk_ai E n2 14 outs, fk_al E n3 7 tk, fk_al E n4 7 pu] (S := (Nat → Nat) × (Nat → Nat)) (fun (u : (Nat → Nat) × (Nat → Nat)) => some (.int (nI (Bool.toNat true)))) (fun (u : (Nat → Nat) × (Nat → Nat)) => ∀ a, a < 7 → u.1 a = fm_mk (fs_tak (fs_O cnt outs f) a) ∧ u.2 a = fm_mk (fs_tak (fs_I cnt ins l) a)) (fun (u : (Nat → Nat) × (Nat → Nat)) => [(x0, .inr (0, [.ref a0, .ref n0, .ref m0, .ref i0, .ref r0, .ref p0])), (n0, .inr (2, [.ref n1, .ref n2, .ref n3, .ref n4, .int (nI cnt), .int (nI f), .int (nI l), .int (nI lo), .int (nI (fs_mem lo f l ins outs cnt))])), fk_ai E n1 14 ins, fk_ai E n2 14 outs, fk_al E n3 7 u.1, fk_al E n4 7 u.2]) := by
  refine fk_enterZ (v := fun (u : (Nat → Nat) × (Nat → Nat)) => true) (by decide) (Nat.le_of_ble_eq_true rfl) (lv0 := [(0, .ref x0), (1, .int (nI f)), (2, .int (nI l))]) rfl ?_
  intro K hini hret
  refine fk_iload_n 1 d_F_ends_0 rfl ?_
  refine fk_callS (As := [.int (nI f)]) (rest := []) (is := []) (ir := [0, 1, 2, 3, 4, 5]) (ip := [0, 1, 2, 3, 4, 5]) (wc := []) (wr := [(x0, .inr (0, [.ref a0, .ref n0, .ref m0, .ref i0, .ref r0, .ref p0])), (n0, .inr (2, [.ref n1, .ref n2, .ref n3, .ref n4, .int (nI cnt), .int (nI fi), .int (nI la), .int (nI lo), .int (nI me)])), fk_ai E n1 14 ins, fk_ai E n2 14 outs, fk_al E n3 7 tk, fk_al E n4 7 pu]) (w2 := fun _ => [(x0, .inr (0, [.ref a0, .ref n0, .ref m0, .ref i0, .ref r0, .ref p0])), (n0, .inr (2, [.ref n1, .ref n2, .ref n3, .ref n4, .int (nI cnt), .int (nI fi), .int (nI la), .int (nI lo), .int (nI me)])), fk_ai E n1 14 ins, fk_ai E n2 14 outs, fk_al E n3 7 tk, fk_al E n4 7 pu]) (cF_isSet E f (by first | omega | assumption)) d_F_ends_1 fz_F_isSet fw_310 fw_311 ⟨Nat.le_of_ble_eq_true rfl, Nat.le_of_ble_eq_true rfl⟩ rfl (Nat.le_of_ble_eq_true rfl) ⟨Nat.zero_le _, Nat.zero_le _⟩ ⟨rfl, rfl, rfl, rfl, by decide, fun _ => rfl, rfl⟩ (fun u hu1 => ?_)
  show fk_V E _ K (0, 0) [(x0, .inr (0, [.ref a0, .ref n0, .ref m0, .ref i0, .ref r0, .ref p0])), (n0, .inr (2, [.ref n1, .ref n2, .ref n3, .ref n4, .int (nI cnt), .int (nI fi), .int (nI la), .int (nI lo), .int (nI me)])), fk_ai E n1 14 ins, fk_ai E n2 14 outs, fk_al E n3 7 tk, fk_al E n4 7 pu] 4 [(0, .ref x0), (1, .int (nI f)), (2, .int (nI l))] [.int (nI (Bool.toNat (decide (f < 128))))]
  refine fk_if_eqB (b := (decide (f < 128))) d_F_ends_4 rfl (fun h4t => ?_) (fun h4f => ?_)
  · exact absurd (of_decide_eq_false h4t) (by omega)
  · refine fk_iload_n 2 d_F_ends_7 rfl ?_
    refine fk_callS (As := [.int (nI l)]) (rest := []) (is := []) (ir := [0, 1, 2, 3, 4, 5]) (ip := [0, 1, 2, 3, 4, 5]) (wc := []) (wr := [(x0, .inr (0, [.ref a0, .ref n0, .ref m0, .ref i0, .ref r0, .ref p0])), (n0, .inr (2, [.ref n1, .ref n2, .ref n3, .ref n4, .int (nI cnt), .int (nI fi), .int (nI la), .int (nI lo), .int (nI me)])), fk_ai E n1 14 ins, fk_ai E n2 14 outs, fk_al E n3 7 tk, fk_al E n4 7 pu]) (w2 := fun _ => [(x0, .inr (0, [.ref a0, .ref n0, .ref m0, .ref i0, .ref r0, .ref p0])), (n0, .inr (2, [.ref n1, .ref n2, .ref n3, .ref n4, .int (nI cnt), .int (nI fi), .int (nI la), .int (nI lo), .int (nI me)])), fk_ai E n1 14 ins, fk_ai E n2 14 outs, fk_al E n3 7 tk, fk_al E n4 7 pu]) (cF_isSet E l (by first | omega | assumption)) d_F_ends_8 fz_F_isSet fw_310 fw_311 ⟨Nat.le_of_ble_eq_true rfl, Nat.le_of_ble_eq_true rfl⟩ rfl (Nat.le_of_ble_eq_true rfl) ⟨Nat.zero_le _, Nat.zero_le _⟩ ⟨rfl, rfl, rfl, rfl, by decide, fun _ => rfl, rfl⟩ (fun u hu8 => ?_)
    show fk_V E _ K (0, 0) [(x0, .inr (0, [.ref a0, .ref n0, .ref m0, .ref i0, .ref r0, .ref p0])), (n0, .inr (2, [.ref n1, .ref n2, .ref n3, .ref n4, .int (nI cnt), .int (nI fi), .int (nI la), .int (nI lo), .int (nI me)])), fk_ai E n1 14 ins, fk_ai E n2 14 outs, fk_al E n3 7 tk, fk_al E n4 7 pu] 11 [(0, .ref x0), (1, .int (nI f)), (2, .int (nI l))] [.int (nI (Bool.toNat (decide (l < 128))))]
    refine fk_if_neB (b := (decide (l < 128))) d_F_ends_11 rfl (fun h11t => ?_) (fun h11f => ?_)
    · refine fk_aload_n 0 d_F_ends_16 rfl ?_
      refine fk_get 0 1 rfl rfl fh_F (Nat.le_of_ble_eq_true rfl) fw_135 rfl d_F_ends_17 ?_
      refine fk_iload_n 1 d_F_ends_20 rfl ?_
      refine fk_iload_n 2 d_F_ends_21 rfl ?_
      refine fk_callV (q0 := 1) (As := [.int (nI f), .int (nI l)]) (rest := []) (is := [1, 2, 3, 4, 5]) (ir := [0]) (ip := [0, 1, 2, 3, 4, 5]) (wc := [(n0, .inr (2, [.ref n1, .ref n2, .ref n3, .ref n4, .int (nI cnt), .int (nI fi), .int (nI la), .int (nI lo), .int (nI me)])), fk_ai E n1 14 ins, fk_ai E n2 14 outs, fk_al E n3 7 tk, fk_al E n4 7 pu]) (wr := [(x0, .inr (0, [.ref a0, .ref n0, .ref m0, .ref i0, .ref r0, .ref p0]))]) (w2 := fun u => [(x0, .inr (0, [.ref a0, .ref n0, .ref m0, .ref i0, .ref r0, .ref p0])), (n0, .inr (2, [.ref n1, .ref n2, .ref n3, .ref n4, .int (nI cnt), .int (nI f), .int (nI l), .int (nI lo), .int (nI (fs_mem lo f l ins outs cnt))])), fk_ai E n1 14 ins, fk_ai E n2 14 outs, fk_al E n3 7 u.1, fk_al E n4 7 u.2]) (cN_setEnds E n0 n1 n2 n3 n4 cnt fi la lo me ins outs tk pu f l (by first | omega | assumption) (by first | omega | assumption) (by first | omega | assumption) (by first | omega | assumption) (by first | omega | assumption)) d_F_ends_22 fz_Nt_setEnds fw_322 rfl rfl fw_265 fw_266 ⟨Nat.le_of_ble_eq_true rfl, Nat.le_of_ble_eq_true rfl⟩ rfl (Nat.le_of_ble_eq_true rfl) ⟨Nat.zero_le _, Nat.zero_le _⟩ ⟨rfl, rfl, rfl, rfl, by decide, fun _ => rfl, rfl⟩ (fun u hu22 => ?_)
      obtain ⟨tk9_22, pu9_22⟩ := u
      have hq22 : ∀ a, a < 7 → tk9_22 a = fm_mk (fs_tak (fs_O cnt outs f) a) ∧ pu9_22 a = fm_mk (fs_tak (fs_I cnt ins l) a) := hu22
      show fk_V E _ K (0, 0) [(x0, .inr (0, [.ref a0, .ref n0, .ref m0, .ref i0, .ref r0, .ref p0])), (n0, .inr (2, [.ref n1, .ref n2, .ref n3, .ref n4, .int (nI cnt), .int (nI f), .int (nI l), .int (nI lo), .int (nI (fs_mem lo f l ins outs cnt))])), fk_ai E n1 14 ins, fk_ai E n2 14 outs, fk_al E n3 7 tk9_22, fk_al E n4 7 pu9_22] 25 [(0, .ref x0), (1, .int (nI f)), (2, .int (nI l))] []
      refine fk_iconst (v := nI 1) d_F_ends_25 (by decide +kernel) ?_
      refine fk_top (fn_rt (b := true) (by first | assumption | (simp; omega) | simp_all | (simp_all; omega))) ?_
      have hpp : ∀ a, a < 7 → tk9_22 a = fm_mk (fs_tak (fs_O cnt outs f) a) ∧ pu9_22 a = fm_mk (fs_tak (fs_I cnt ins l) a) := hq22
      exact hret (0, 0) _ 26 _ (tk9_22, pu9_22) d_F_ends_26 (hpp) (rfl)
    · exact absurd (of_decide_eq_false h11f) (by omega)
set_option maxRecDepth 20000 in
set_option maxHeartbeats 4000000 in
theorem cX_endsO (E : fk_E) (x0 : Nat) (a0 : Nat) (n0 : Nat) (m0 : Nat) (i0 : Nat) (r0 : Nat) (p0 : Nat) (n1 : Nat) (n2 : Nat) (n3 : Nat) (n4 : Nat) (cnt : Nat) (fi : Nat) (la : Nat) (lo : Nat) (me : Nat) (ins : Nat → Nat) (outs : Nat → Nat) (tk : Nat → Nat) (pu : Nat → Nat) (f : Nat) (l : Nat) (h : ¬ (f < 128 ∧ l < 128)) (hf : f < 2 ^ 31) (hl : l < 2 ^ 31) : fk_C E fy_F_ends prog_1_method_10_code 3 (some .boolean) 4 0 0 [.ref x0, .int (nI f), .int (nI l)] [(x0, .inr (0, [.ref a0, .ref n0, .ref m0, .ref i0, .ref r0, .ref p0])), (n0, .inr (2, [.ref n1, .ref n2, .ref n3, .ref n4, .int (nI cnt), .int (nI fi), .int (nI la), .int (nI lo), .int (nI me)])), fk_ai E n1 14 ins, fk_ai E n2 14 outs, fk_al E n3 7 tk, fk_al E n4 7 pu] (S := Unit) (fun _ => some (.int (nI (Bool.toNat false)))) (fun _ => True) (fun _ => [(x0, .inr (0, [.ref a0, .ref n0, .ref m0, .ref i0, .ref r0, .ref p0])), (n0, .inr (2, [.ref n1, .ref n2, .ref n3, .ref n4, .int (nI cnt), .int (nI fi), .int (nI la), .int (nI lo), .int (nI me)])), fk_ai E n1 14 ins, fk_ai E n2 14 outs, fk_al E n3 7 tk, fk_al E n4 7 pu]) := by
  refine fk_enterZ (v := fun _ => false) (by decide) (Nat.le_of_ble_eq_true rfl) (lv0 := [(0, .ref x0), (1, .int (nI f)), (2, .int (nI l))]) rfl ?_
  intro K hini hret
  refine fk_iload_n 1 d_F_ends_0 rfl ?_
  refine fk_callS (As := [.int (nI f)]) (rest := []) (is := []) (ir := [0, 1, 2, 3, 4, 5]) (ip := [0, 1, 2, 3, 4, 5]) (wc := []) (wr := [(x0, .inr (0, [.ref a0, .ref n0, .ref m0, .ref i0, .ref r0, .ref p0])), (n0, .inr (2, [.ref n1, .ref n2, .ref n3, .ref n4, .int (nI cnt), .int (nI fi), .int (nI la), .int (nI lo), .int (nI me)])), fk_ai E n1 14 ins, fk_ai E n2 14 outs, fk_al E n3 7 tk, fk_al E n4 7 pu]) (w2 := fun _ => [(x0, .inr (0, [.ref a0, .ref n0, .ref m0, .ref i0, .ref r0, .ref p0])), (n0, .inr (2, [.ref n1, .ref n2, .ref n3, .ref n4, .int (nI cnt), .int (nI fi), .int (nI la), .int (nI lo), .int (nI me)])), fk_ai E n1 14 ins, fk_ai E n2 14 outs, fk_al E n3 7 tk, fk_al E n4 7 pu]) (cF_isSet E f (by first | omega | assumption)) d_F_ends_1 fz_F_isSet fw_310 fw_311 ⟨Nat.le_of_ble_eq_true rfl, Nat.le_of_ble_eq_true rfl⟩ rfl (Nat.le_of_ble_eq_true rfl) ⟨Nat.zero_le _, Nat.zero_le _⟩ ⟨rfl, rfl, rfl, rfl, by decide, fun _ => rfl, rfl⟩ (fun u hu1 => ?_)
  show fk_V E _ K (0, 0) [(x0, .inr (0, [.ref a0, .ref n0, .ref m0, .ref i0, .ref r0, .ref p0])), (n0, .inr (2, [.ref n1, .ref n2, .ref n3, .ref n4, .int (nI cnt), .int (nI fi), .int (nI la), .int (nI lo), .int (nI me)])), fk_ai E n1 14 ins, fk_ai E n2 14 outs, fk_al E n3 7 tk, fk_al E n4 7 pu] 4 [(0, .ref x0), (1, .int (nI f)), (2, .int (nI l))] [.int (nI (Bool.toNat (decide (f < 128))))]
  refine fk_if_eqB (b := (decide (f < 128))) d_F_ends_4 rfl (fun h4t => ?_) (fun h4f => ?_)
  · refine fk_iconst (v := nI 0) d_F_ends_14 (by decide +kernel) ?_
    refine fk_top (fn_rf (b := false) (by first | assumption | (simp; omega) | simp_all | (simp_all; omega))) ?_
    exact hret (0, 0) _ 15 _ () d_F_ends_15 (trivial) (rfl)
  · have q1 := of_decide_eq_true h4f
    refine fk_iload_n 2 d_F_ends_7 rfl ?_
    refine fk_callS (As := [.int (nI l)]) (rest := []) (is := []) (ir := [0, 1, 2, 3, 4, 5]) (ip := [0, 1, 2, 3, 4, 5]) (wc := []) (wr := [(x0, .inr (0, [.ref a0, .ref n0, .ref m0, .ref i0, .ref r0, .ref p0])), (n0, .inr (2, [.ref n1, .ref n2, .ref n3, .ref n4, .int (nI cnt), .int (nI fi), .int (nI la), .int (nI lo), .int (nI me)])), fk_ai E n1 14 ins, fk_ai E n2 14 outs, fk_al E n3 7 tk, fk_al E n4 7 pu]) (w2 := fun _ => [(x0, .inr (0, [.ref a0, .ref n0, .ref m0, .ref i0, .ref r0, .ref p0])), (n0, .inr (2, [.ref n1, .ref n2, .ref n3, .ref n4, .int (nI cnt), .int (nI fi), .int (nI la), .int (nI lo), .int (nI me)])), fk_ai E n1 14 ins, fk_ai E n2 14 outs, fk_al E n3 7 tk, fk_al E n4 7 pu]) (cF_isSet E l (by first | omega | assumption)) d_F_ends_8 fz_F_isSet fw_310 fw_311 ⟨Nat.le_of_ble_eq_true rfl, Nat.le_of_ble_eq_true rfl⟩ rfl (Nat.le_of_ble_eq_true rfl) ⟨Nat.zero_le _, Nat.zero_le _⟩ ⟨rfl, rfl, rfl, rfl, by decide, fun _ => rfl, rfl⟩ (fun u hu8 => ?_)
    show fk_V E _ K (0, 0) [(x0, .inr (0, [.ref a0, .ref n0, .ref m0, .ref i0, .ref r0, .ref p0])), (n0, .inr (2, [.ref n1, .ref n2, .ref n3, .ref n4, .int (nI cnt), .int (nI fi), .int (nI la), .int (nI lo), .int (nI me)])), fk_ai E n1 14 ins, fk_ai E n2 14 outs, fk_al E n3 7 tk, fk_al E n4 7 pu] 11 [(0, .ref x0), (1, .int (nI f)), (2, .int (nI l))] [.int (nI (Bool.toNat (decide (l < 128))))]
    refine fk_if_neB (b := (decide (l < 128))) d_F_ends_11 rfl (fun h11t => ?_) (fun h11f => ?_)
    · have q2 := of_decide_eq_true h11t
      omega
    · refine fk_iconst (v := nI 0) d_F_ends_14 (by decide +kernel) ?_
      refine fk_top (fn_rf (b := false) (by first | assumption | (simp; omega) | simp_all | (simp_all; omega))) ?_
      exact hret (0, 0) _ 15 _ () d_F_ends_15 (trivial) (rfl)
set_option maxRecDepth 20000 in
set_option maxHeartbeats 4000000 in
theorem cX_endsM (E : fk_E) (x0 : Nat) (a0 : Nat) (n0 : Nat) (m0 : Nat) (i0 : Nat) (r0 : Nat) (p0 : Nat) (n1 : Nat) (n2 : Nat) (n3 : Nat) (n4 : Nat) (cnt : Nat) (fi : Nat) (la : Nat) (lo : Nat) (me : Nat) (ins : Nat → Nat) (outs : Nat → Nat) (tk : Nat → Nat) (pu : Nat → Nat) (x : Int32) (y : Int32) (hx : x < 0) : fk_C E fy_F_ends prog_1_method_10_code 3 (some .boolean) 4 0 0 [.ref x0, .int x, .int y] [(x0, .inr (0, [.ref a0, .ref n0, .ref m0, .ref i0, .ref r0, .ref p0])), (n0, .inr (2, [.ref n1, .ref n2, .ref n3, .ref n4, .int (nI cnt), .int (nI fi), .int (nI la), .int (nI lo), .int (nI me)])), fk_ai E n1 14 ins, fk_ai E n2 14 outs, fk_al E n3 7 tk, fk_al E n4 7 pu] (S := Unit) (fun _ => some (.int (nI (Bool.toNat false)))) (fun _ => True) (fun _ => [(x0, .inr (0, [.ref a0, .ref n0, .ref m0, .ref i0, .ref r0, .ref p0])), (n0, .inr (2, [.ref n1, .ref n2, .ref n3, .ref n4, .int (nI cnt), .int (nI fi), .int (nI la), .int (nI lo), .int (nI me)])), fk_ai E n1 14 ins, fk_ai E n2 14 outs, fk_al E n3 7 tk, fk_al E n4 7 pu]) := by
  refine fk_enterZ (v := fun _ => false) (by decide) (Nat.le_of_ble_eq_true rfl) (lv0 := [(0, .ref x0), (1, .int x), (2, .int y)]) rfl ?_
  intro K hini hret
  refine fk_iload_n 1 d_F_ends_0 rfl ?_
  refine fk_callS (As := [.int x]) (rest := []) (is := []) (ir := [0, 1, 2, 3, 4, 5]) (ip := [0, 1, 2, 3, 4, 5]) (wc := []) (wr := [(x0, .inr (0, [.ref a0, .ref n0, .ref m0, .ref i0, .ref r0, .ref p0])), (n0, .inr (2, [.ref n1, .ref n2, .ref n3, .ref n4, .int (nI cnt), .int (nI fi), .int (nI la), .int (nI lo), .int (nI me)])), fk_ai E n1 14 ins, fk_ai E n2 14 outs, fk_al E n3 7 tk, fk_al E n4 7 pu]) (w2 := fun _ => [(x0, .inr (0, [.ref a0, .ref n0, .ref m0, .ref i0, .ref r0, .ref p0])), (n0, .inr (2, [.ref n1, .ref n2, .ref n3, .ref n4, .int (nI cnt), .int (nI fi), .int (nI la), .int (nI lo), .int (nI me)])), fk_ai E n1 14 ins, fk_ai E n2 14 outs, fk_al E n3 7 tk, fk_al E n4 7 pu]) (cF_isSetM E x (by first | omega | assumption)) d_F_ends_1 fz_F_isSet fw_310 fw_311 ⟨Nat.le_of_ble_eq_true rfl, Nat.le_of_ble_eq_true rfl⟩ rfl (Nat.le_of_ble_eq_true rfl) ⟨Nat.zero_le _, Nat.zero_le _⟩ ⟨rfl, rfl, rfl, rfl, by decide, fun _ => rfl, rfl⟩ (fun u hu1 => ?_)
  show fk_V E _ K (0, 0) [(x0, .inr (0, [.ref a0, .ref n0, .ref m0, .ref i0, .ref r0, .ref p0])), (n0, .inr (2, [.ref n1, .ref n2, .ref n3, .ref n4, .int (nI cnt), .int (nI fi), .int (nI la), .int (nI lo), .int (nI me)])), fk_ai E n1 14 ins, fk_ai E n2 14 outs, fk_al E n3 7 tk, fk_al E n4 7 pu] 4 [(0, .ref x0), (1, .int x), (2, .int y)] [.int (nI (Bool.toNat false))]
  refine fk_if_eqB (b := false) d_F_ends_4 rfl (fun h4t => ?_) (fun h4f => ?_)
  · refine fk_iconst (v := nI 0) d_F_ends_14 (by decide +kernel) ?_
    refine fk_top (fn_rf (b := false) (by first | assumption | (simp; omega) | simp_all | (simp_all; omega))) ?_
    exact hret (0, 0) _ 15 _ () d_F_ends_15 (trivial) (rfl)
  · exact absurd h4f (by decide)
set_option maxRecDepth 20000 in
set_option maxHeartbeats 4000000 in
theorem cX_endsN (E : fk_E) (x0 : Nat) (a0 : Nat) (n0 : Nat) (m0 : Nat) (i0 : Nat) (r0 : Nat) (p0 : Nat) (n1 : Nat) (n2 : Nat) (n3 : Nat) (n4 : Nat) (cnt : Nat) (fi : Nat) (la : Nat) (lo : Nat) (me : Nat) (ins : Nat → Nat) (outs : Nat → Nat) (tk : Nat → Nat) (pu : Nat → Nat) (f : Nat) (y : Int32) (hf : f < 2 ^ 31) (hx : y < 0) : fk_C E fy_F_ends prog_1_method_10_code 3 (some .boolean) 4 0 0 [.ref x0, .int (nI f), .int y] [(x0, .inr (0, [.ref a0, .ref n0, .ref m0, .ref i0, .ref r0, .ref p0])), (n0, .inr (2, [.ref n1, .ref n2, .ref n3, .ref n4, .int (nI cnt), .int (nI fi), .int (nI la), .int (nI lo), .int (nI me)])), fk_ai E n1 14 ins, fk_ai E n2 14 outs, fk_al E n3 7 tk, fk_al E n4 7 pu] (S := Unit) (fun _ => some (.int (nI (Bool.toNat false)))) (fun _ => True) (fun _ => [(x0, .inr (0, [.ref a0, .ref n0, .ref m0, .ref i0, .ref r0, .ref p0])), (n0, .inr (2, [.ref n1, .ref n2, .ref n3, .ref n4, .int (nI cnt), .int (nI fi), .int (nI la), .int (nI lo), .int (nI me)])), fk_ai E n1 14 ins, fk_ai E n2 14 outs, fk_al E n3 7 tk, fk_al E n4 7 pu]) := by
  refine fk_enterZ (v := fun _ => false) (by decide) (Nat.le_of_ble_eq_true rfl) (lv0 := [(0, .ref x0), (1, .int (nI f)), (2, .int y)]) rfl ?_
  intro K hini hret
  refine fk_iload_n 1 d_F_ends_0 rfl ?_
  refine fk_callS (As := [.int (nI f)]) (rest := []) (is := []) (ir := [0, 1, 2, 3, 4, 5]) (ip := [0, 1, 2, 3, 4, 5]) (wc := []) (wr := [(x0, .inr (0, [.ref a0, .ref n0, .ref m0, .ref i0, .ref r0, .ref p0])), (n0, .inr (2, [.ref n1, .ref n2, .ref n3, .ref n4, .int (nI cnt), .int (nI fi), .int (nI la), .int (nI lo), .int (nI me)])), fk_ai E n1 14 ins, fk_ai E n2 14 outs, fk_al E n3 7 tk, fk_al E n4 7 pu]) (w2 := fun _ => [(x0, .inr (0, [.ref a0, .ref n0, .ref m0, .ref i0, .ref r0, .ref p0])), (n0, .inr (2, [.ref n1, .ref n2, .ref n3, .ref n4, .int (nI cnt), .int (nI fi), .int (nI la), .int (nI lo), .int (nI me)])), fk_ai E n1 14 ins, fk_ai E n2 14 outs, fk_al E n3 7 tk, fk_al E n4 7 pu]) (cF_isSet E f (by first | omega | assumption)) d_F_ends_1 fz_F_isSet fw_310 fw_311 ⟨Nat.le_of_ble_eq_true rfl, Nat.le_of_ble_eq_true rfl⟩ rfl (Nat.le_of_ble_eq_true rfl) ⟨Nat.zero_le _, Nat.zero_le _⟩ ⟨rfl, rfl, rfl, rfl, by decide, fun _ => rfl, rfl⟩ (fun u hu1 => ?_)
  show fk_V E _ K (0, 0) [(x0, .inr (0, [.ref a0, .ref n0, .ref m0, .ref i0, .ref r0, .ref p0])), (n0, .inr (2, [.ref n1, .ref n2, .ref n3, .ref n4, .int (nI cnt), .int (nI fi), .int (nI la), .int (nI lo), .int (nI me)])), fk_ai E n1 14 ins, fk_ai E n2 14 outs, fk_al E n3 7 tk, fk_al E n4 7 pu] 4 [(0, .ref x0), (1, .int (nI f)), (2, .int y)] [.int (nI (Bool.toNat (decide (f < 128))))]
  refine fk_if_eqB (b := (decide (f < 128))) d_F_ends_4 rfl (fun h4t => ?_) (fun h4f => ?_)
  · refine fk_iconst (v := nI 0) d_F_ends_14 (by decide +kernel) ?_
    refine fk_top (fn_rf (b := false) (by first | assumption | (simp; omega) | simp_all | (simp_all; omega))) ?_
    exact hret (0, 0) _ 15 _ () d_F_ends_15 (trivial) (rfl)
  · refine fk_iload_n 2 d_F_ends_7 rfl ?_
    refine fk_callS (As := [.int y]) (rest := []) (is := []) (ir := [0, 1, 2, 3, 4, 5]) (ip := [0, 1, 2, 3, 4, 5]) (wc := []) (wr := [(x0, .inr (0, [.ref a0, .ref n0, .ref m0, .ref i0, .ref r0, .ref p0])), (n0, .inr (2, [.ref n1, .ref n2, .ref n3, .ref n4, .int (nI cnt), .int (nI fi), .int (nI la), .int (nI lo), .int (nI me)])), fk_ai E n1 14 ins, fk_ai E n2 14 outs, fk_al E n3 7 tk, fk_al E n4 7 pu]) (w2 := fun _ => [(x0, .inr (0, [.ref a0, .ref n0, .ref m0, .ref i0, .ref r0, .ref p0])), (n0, .inr (2, [.ref n1, .ref n2, .ref n3, .ref n4, .int (nI cnt), .int (nI fi), .int (nI la), .int (nI lo), .int (nI me)])), fk_ai E n1 14 ins, fk_ai E n2 14 outs, fk_al E n3 7 tk, fk_al E n4 7 pu]) (cF_isSetM E y (by first | omega | assumption)) d_F_ends_8 fz_F_isSet fw_310 fw_311 ⟨Nat.le_of_ble_eq_true rfl, Nat.le_of_ble_eq_true rfl⟩ rfl (Nat.le_of_ble_eq_true rfl) ⟨Nat.zero_le _, Nat.zero_le _⟩ ⟨rfl, rfl, rfl, rfl, by decide, fun _ => rfl, rfl⟩ (fun u hu8 => ?_)
    show fk_V E _ K (0, 0) [(x0, .inr (0, [.ref a0, .ref n0, .ref m0, .ref i0, .ref r0, .ref p0])), (n0, .inr (2, [.ref n1, .ref n2, .ref n3, .ref n4, .int (nI cnt), .int (nI fi), .int (nI la), .int (nI lo), .int (nI me)])), fk_ai E n1 14 ins, fk_ai E n2 14 outs, fk_al E n3 7 tk, fk_al E n4 7 pu] 11 [(0, .ref x0), (1, .int (nI f)), (2, .int y)] [.int (nI (Bool.toNat false))]
    refine fk_if_neB (b := false) d_F_ends_11 rfl (fun h11t => ?_) (fun h11f => ?_)
    · exact absurd h11t (by decide)
    · refine fk_iconst (v := nI 0) d_F_ends_14 (by decide +kernel) ?_
      refine fk_top (fn_rf (b := false) (by first | assumption | (simp; omega) | simp_all | (simp_all; omega))) ?_
      exact hret (0, 0) _ 15 _ () d_F_ends_15 (trivial) (rfl)
theorem d_F_reset_0 : decode prog_1_method_11_code 0 = .ok (.aload_n 0, 1) := by decide +kernel
theorem d_F_reset_1 : decode prog_1_method_11_code 1 = .ok (.getfield 19, 3) := by decide +kernel
theorem d_F_reset_4 : decode prog_1_method_11_code 4 = .ok (.invokevirtual 103, 3) := by decide +kernel
theorem d_F_reset_7 : decode prog_1_method_11_code 7 = .ok (.return_, 1) := by decide +kernel
set_option maxRecDepth 20000 in
set_option maxHeartbeats 4000000 in
theorem cX_reset (E : fk_E) (x0 : Nat) (a0 : Nat) (n0 : Nat) (m0 : Nat) (i0 : Nat) (r0 : Nat) (p0 : Nat) (n1 : Nat) (n2 : Nat) (n3 : Nat) (n4 : Nat) (cnt : Nat) (fi : Nat) (la : Nat) (lo : Nat) (me : Nat) (ins : Nat → Nat) (outs : Nat → Nat) (tk : Nat → Nat) (pu : Nat → Nat)  : fk_C E fy_F_reset prog_1_method_11_code 1 none 5 0 0 [.ref x0] [(x0, .inr (0, [.ref a0, .ref n0, .ref m0, .ref i0, .ref r0, .ref p0])), (n0, .inr (2, [.ref n1, .ref n2, .ref n3, .ref n4, .int (nI cnt), .int (nI fi), .int (nI la), .int (nI lo), .int (nI me)])), fk_ai E n1 14 ins, fk_ai E n2 14 outs, fk_al E n3 7 tk, fk_al E n4 7 pu] (S := (Nat → Nat) × (Nat → Nat)) (fun (u : (Nat → Nat) × (Nat → Nat)) => none) (fun (u : (Nat → Nat) × (Nat → Nat)) => ∀ a, a < 7 → u.1 a = fm_mk (fs_tak (fs_O 0 outs 0) a) ∧ u.2 a = fm_mk (fs_tak (fs_I 0 ins 0) a)) (fun (u : (Nat → Nat) × (Nat → Nat)) => [(x0, .inr (0, [.ref a0, .ref n0, .ref m0, .ref i0, .ref r0, .ref p0])), (n0, .inr (2, [.ref n1, .ref n2, .ref n3, .ref n4, .int (nI 0), .int (nI 0), .int (nI 0), .int (nI 0), .int (nI 0)])), fk_ai E n1 14 ins, fk_ai E n2 14 outs, fk_al E n3 7 u.1, fk_al E n4 7 u.2]) := by
  refine fk_enterV (by decide) (Nat.le_of_ble_eq_true rfl) (lv0 := [(0, .ref x0)]) rfl ?_
  intro K hini hret
  refine fk_aload_n 0 d_F_reset_0 rfl ?_
  refine fk_get 0 1 rfl rfl fh_F (Nat.le_of_ble_eq_true rfl) fw_135 rfl d_F_reset_1 ?_
  refine fk_callV (q0 := 1) (As := []) (rest := []) (is := [1, 2, 3, 4, 5]) (ir := [0]) (ip := [0, 1, 2, 3, 4, 5]) (wc := [(n0, .inr (2, [.ref n1, .ref n2, .ref n3, .ref n4, .int (nI cnt), .int (nI fi), .int (nI la), .int (nI lo), .int (nI me)])), fk_ai E n1 14 ins, fk_ai E n2 14 outs, fk_al E n3 7 tk, fk_al E n4 7 pu]) (wr := [(x0, .inr (0, [.ref a0, .ref n0, .ref m0, .ref i0, .ref r0, .ref p0]))]) (w2 := fun u => [(x0, .inr (0, [.ref a0, .ref n0, .ref m0, .ref i0, .ref r0, .ref p0])), (n0, .inr (2, [.ref n1, .ref n2, .ref n3, .ref n4, .int (nI 0), .int (nI 0), .int (nI 0), .int (nI 0), .int (nI 0)])), fk_ai E n1 14 ins, fk_ai E n2 14 outs, fk_al E n3 7 u.1, fk_al E n4 7 u.2]) (cN_removeAll E n0 n1 n2 n3 n4 cnt fi la lo me ins outs tk pu ) d_F_reset_4 fz_Nt_removeAll fw_327 rfl rfl fw_261 fw_262 ⟨Nat.le_of_ble_eq_true rfl, Nat.le_of_ble_eq_true rfl⟩ rfl (Nat.le_of_ble_eq_true rfl) ⟨Nat.zero_le _, Nat.zero_le _⟩ ⟨rfl, rfl, rfl, rfl, by decide, fun _ => rfl, rfl⟩ (fun u hu4 => ?_)
  obtain ⟨tk9_4, pu9_4⟩ := u
  have hq4 : ∀ a, a < 7 → tk9_4 a = fm_mk (fs_tak (fs_O 0 outs 0) a) ∧ pu9_4 a = fm_mk (fs_tak (fs_I 0 ins 0) a) := hu4
  show fk_V E _ K (0, 0) [(x0, .inr (0, [.ref a0, .ref n0, .ref m0, .ref i0, .ref r0, .ref p0])), (n0, .inr (2, [.ref n1, .ref n2, .ref n3, .ref n4, .int (nI 0), .int (nI 0), .int (nI 0), .int (nI 0), .int (nI 0)])), fk_ai E n1 14 ins, fk_ai E n2 14 outs, fk_al E n3 7 tk9_4, fk_al E n4 7 pu9_4] 7 [(0, .ref x0)] []
  have hpp : ∀ a, a < 7 → tk9_4 a = fm_mk (fs_tak (fs_O 0 outs 0) a) ∧ pu9_4 a = fm_mk (fs_tak (fs_I 0 ins 0) a) := hq4
  exact hret (0, 0) _ 7 _ (tk9_4, pu9_4) d_F_reset_7 (hpp) (rfl)
