set_option maxRecDepth 20000 in
set_option maxHeartbeats 4000000 in
theorem cD_sound (E : fk_E) (b0 : Nat) (b1 : Nat) (b2 : Nat) (b3 : Nat) (b4 : Nat) (b5 : Nat) (b6 : Nat) (b7 : Nat) (b8 : Nat) (b9 : Nat) (b10 : Nat) (b11 : Nat) (b12 : Nat) (b13 : Nat) (b14 : Nat) (b15 : Nat) (mt : Nat) (mf : Nat) (my : Nat) (mw : Bool) (mc : Nat → Nat) (mi : Nat → Nat) (mu : Nat → Nat) (mfi : Nat → Nat) (mla : Nat → Nat) (mac : Nat → Nat) (tk : Nat → Nat) (mmk : Nat → Nat) (mnx : Nat → Nat) (q : Nat) (mgd : Nat → Bool) (hN : fr_N mc mi mu mfi mla) (hm1 : mac 1 < 128) (hq : q < 2) (hw : (fe_run (fr_O mc mu mfi q) (fr_I mc mi mla q) (fr_me mc mi mu mfi mla mac q) 1400).2.2.2 = false) : fk_C E fy_Md_sound prog_8_method_32_code 8 (some .int) 4 0 0 [.ref b0, .int (nI q)] [(b0, .inr (6, [.int (nI mt), .ref b1, .ref b2, .ref b3, .ref b4, .ref b5, .ref b6, .ref b7, .ref b8, .ref b9, .int (nI mf), .ref b10, .ref b11, .ref b12, .int (nI my), .int (nI (Bool.toNat mw)), .ref b13, .ref b14, .ref b15])), fk_ai E b3 2 mc, fk_ai E b4 28 mi, fk_ai E b5 28 mu, fk_ai E b6 2 mfi, fk_ai E b7 2 mla, fk_ai E b8 2 mac, fk_ai E b12 16 tk, fk_ab E b13 3216 mmk, fk_as E b14 1407 mnx, fk_az E b15 201 mgd] (S := Nat × Bool × (Nat → Nat) × (Nat → Nat) × (Nat → Nat) × (Nat → Bool)) (fun (u : Nat × Bool × (Nat → Nat) × (Nat → Nat) × (Nat → Nat) × (Nat → Bool)) => some (.int (nI (Bool.toNat (fe_snd (fr_O mc mu mfi q) (fr_I mc mi mla q) (fr_me mc mi mu mfi mla mac q)))))) (fun (u : Nat × Bool × (Nat → Nat) × (Nat → Nat) × (Nat → Nat) × (Nat → Bool)) => True) (fun (u : Nat × Bool × (Nat → Nat) × (Nat → Nat) × (Nat → Nat) × (Nat → Bool)) => [(b0, .inr (6, [.int (nI mt), .ref b1, .ref b2, .ref b3, .ref b4, .ref b5, .ref b6, .ref b7, .ref b8, .ref b9, .int (nI mf), .ref b10, .ref b11, .ref b12, .int (nI u.1), .int (nI (Bool.toNat u.2.1)), .ref b13, .ref b14, .ref b15])), fk_ai E b3 2 mc, fk_ai E b4 28 mi, fk_ai E b5 28 mu, fk_ai E b6 2 mfi, fk_ai E b7 2 mla, fk_ai E b8 2 mac, fk_ai E b12 16 u.2.2.1, fk_ab E b13 3216 u.2.2.2.1, fk_as E b14 1407 u.2.2.2.2.1, fk_az E b15 201 u.2.2.2.2.2]) := by
  refine fk_enterI (v := fun (u : Nat × Bool × (Nat → Nat) × (Nat → Nat) × (Nat → Nat) × (Nat → Bool)) => (nI (Bool.toNat (fe_snd (fr_O mc mu mfi q) (fr_I mc mi mla q) (fr_me mc mi mu mfi mla mac q))))) (by decide) (Nat.le_of_ble_eq_true rfl) (lv0 := [(0, .ref b0), (1, .int (nI q))]) rfl ?_
  intro K hini hret
  refine fk_iload_n 1 d_Md_sound_0 rfl ?_
  refine fk_callS (As := [.int (nI q)]) (rest := []) (is := []) (ir := [0, 1, 2, 3, 4, 5, 6, 7, 8, 9, 10]) (ip := [0, 1, 2, 3, 4, 5, 6, 7, 8, 9, 10]) (wc := []) (wr := [(b0, .inr (6, [.int (nI mt), .ref b1, .ref b2, .ref b3, .ref b4, .ref b5, .ref b6, .ref b7, .ref b8, .ref b9, .int (nI mf), .ref b10, .ref b11, .ref b12, .int (nI my), .int (nI (Bool.toNat mw)), .ref b13, .ref b14, .ref b15])), fk_ai E b3 2 mc, fk_ai E b4 28 mi, fk_ai E b5 28 mu, fk_ai E b6 2 mfi, fk_ai E b7 2 mla, fk_ai E b8 2 mac, fk_ai E b12 16 tk, fk_ab E b13 3216 mmk, fk_as E b14 1407 mnx, fk_az E b15 201 mgd]) (w2 := fun _ => [(b0, .inr (6, [.int (nI mt), .ref b1, .ref b2, .ref b3, .ref b4, .ref b5, .ref b6, .ref b7, .ref b8, .ref b9, .int (nI mf), .ref b10, .ref b11, .ref b12, .int (nI my), .int (nI (Bool.toNat mw)), .ref b13, .ref b14, .ref b15])), fk_ai E b3 2 mc, fk_ai E b4 28 mi, fk_ai E b5 28 mu, fk_ai E b6 2 mfi, fk_ai E b7 2 mla, fk_ai E b8 2 mac, fk_ai E b12 16 tk, fk_ab E b13 3216 mmk, fk_as E b14 1407 mnx, fk_az E b15 201 mgd]) (cD_notNet E q (by first | omega | assumption)) d_Md_sound_1 fz_Md_notNet fw_627 fw_628 ⟨Nat.le_of_ble_eq_true rfl, Nat.le_of_ble_eq_true rfl⟩ rfl (Nat.le_of_ble_eq_true rfl) ⟨Nat.zero_le _, Nat.zero_le _⟩ ⟨rfl, rfl, rfl, rfl, by decide, fun _ => rfl, rfl⟩ (fun u hu1 => ?_)
  show fk_V E _ K (0, 0) [(b0, .inr (6, [.int (nI mt), .ref b1, .ref b2, .ref b3, .ref b4, .ref b5, .ref b6, .ref b7, .ref b8, .ref b9, .int (nI mf), .ref b10, .ref b11, .ref b12, .int (nI my), .int (nI (Bool.toNat mw)), .ref b13, .ref b14, .ref b15])), fk_ai E b3 2 mc, fk_ai E b4 28 mi, fk_ai E b5 28 mu, fk_ai E b6 2 mfi, fk_ai E b7 2 mla, fk_ai E b8 2 mac, fk_ai E b12 16 tk, fk_ab E b13 3216 mmk, fk_as E b14 1407 mnx, fk_az E b15 201 mgd] 4 [(0, .ref b0), (1, .int (nI q))] [.int (nI (Bool.toNat (decide (2 ≤ q))))]
  refine fk_if_eqB (b := (decide (2 ≤ q))) d_Md_sound_4 rfl (fun h4t => ?_) (fun h4f => ?_)
  · refine fk_aload_n 0 d_Md_sound_9 rfl ?_
    refine fk_iload_n 1 d_Md_sound_10 rfl ?_
    refine fk_callV (q0 := 0) (As := [.int (nI q)]) (rest := []) (is := [0, 1, 2, 3, 4, 5, 6, 7, 8, 9]) (ir := [10]) (ip := [1, 2, 3, 4, 5, 6, 7, 8, 9, 10, 0]) (wc := [(b0, .inr (6, [.int (nI mt), .ref b1, .ref b2, .ref b3, .ref b4, .ref b5, .ref b6, .ref b7, .ref b8, .ref b9, .int (nI mf), .ref b10, .ref b11, .ref b12, .int (nI my), .int (nI (Bool.toNat mw)), .ref b13, .ref b14, .ref b15])), fk_ai E b3 2 mc, fk_ai E b4 28 mi, fk_ai E b5 28 mu, fk_ai E b6 2 mfi, fk_ai E b7 2 mla, fk_ai E b8 2 mac, fk_ai E b12 16 tk, fk_ab E b13 3216 mmk, fk_as E b14 1407 mnx]) (wr := [fk_az E b15 201 mgd]) (w2 := fun u => [(b0, .inr (6, [.int (nI mt), .ref b1, .ref b2, .ref b3, .ref b4, .ref b5, .ref b6, .ref b7, .ref b8, .ref b9, .int (nI mf), .ref b10, .ref b11, .ref b12, .int (nI u.1), .int (nI (Bool.toNat u.2.1)), .ref b13, .ref b14, .ref b15])), fk_ai E b3 2 mc, fk_ai E b4 28 mi, fk_ai E b5 28 mu, fk_ai E b6 2 mfi, fk_ai E b7 2 mla, fk_ai E b8 2 mac, fk_ai E b12 16 u.2.2.1, fk_ab E b13 3216 u.2.2.2.1, fk_as E b14 1407 u.2.2.2.2, fk_az E b15 201 mgd]) (cD_explore E b0 b1 b2 b3 b4 b5 b6 b7 b8 b9 b10 b11 b12 b13 b14 b15 mt mf my mw mc mi mu mfi mla mac tk mmk mnx q (by first | omega | assumption) (by first | omega | assumption) (by first | omega | assumption)) d_Md_sound_11 fz_Md_explore fw_674 rfl rfl fw_676 fw_p26 ⟨Nat.le_of_ble_eq_true rfl, Nat.le_of_ble_eq_true rfl⟩ rfl (Nat.le_of_ble_eq_true rfl) ⟨Nat.zero_le _, Nat.zero_le _⟩ ⟨rfl, rfl, rfl, rfl, by decide, fun _ => rfl, rfl⟩ (fun u hu11 => ?_)
    obtain ⟨my9_11, mw9_11, tk9_11, mk9_11, nx9_11⟩ := u
    have hq11 : fr_F (fr_O mc mu mfi q) (fr_I mc mi mla q) (fr_me mc mi mu mfi mla mac q) my9_11 mw9_11 mk9_11 nx9_11 := hu11
    show fk_V E _ K (0, 0) [(b0, .inr (6, [.int (nI mt), .ref b1, .ref b2, .ref b3, .ref b4, .ref b5, .ref b6, .ref b7, .ref b8, .ref b9, .int (nI mf), .ref b10, .ref b11, .ref b12, .int (nI my9_11), .int (nI (Bool.toNat mw9_11)), .ref b13, .ref b14, .ref b15])), fk_ai E b3 2 mc, fk_ai E b4 28 mi, fk_ai E b5 28 mu, fk_ai E b6 2 mfi, fk_ai E b7 2 mla, fk_ai E b8 2 mac, fk_ai E b12 16 tk9_11, fk_ab E b13 3216 mk9_11, fk_as E b14 1407 nx9_11, fk_az E b15 201 mgd] 14 [(0, .ref b0), (1, .int (nI q))] []
    refine fk_aload_n 0 d_Md_sound_14 rfl ?_
    refine fk_get 0 15 rfl rfl fh_Md (Nat.le_of_ble_eq_true rfl) fw_522 rfl d_Md_sound_15 ?_
    refine fk_if_eqB (b := mw9_11) d_Md_sound_18 rfl (fun h18t => ?_) (fun h18f => ?_)
    · obtain ⟨e1, e2, hM, hnx, hV⟩ := hq11.2 h18t
      have hc2 := hV.1
      have hn : ∀ j, j < 7 * my9_11 → nx9_11 j ≤ my9_11 := fun j hj => by rw [hnx j hj, e2]; exact fe_run_nx _ _ _ 1400 j
      refine fk_iconst (v := nI 0) d_Md_sound_24 (by decide +kernel) ?_
      refine fk_istore_n (lv' := [(0, .ref b0), (1, .int (nI q)), (2, .int (nI 0))]) d_Md_sound_25 rfl (Nat.le_of_ble_eq_true rfl) [1, 2, 0] rfl ?_
      refine fk_iconst (v := nI 1) d_Md_sound_26 (by decide +kernel) ?_
      refine fk_istore_n (lv' := [(0, .ref b0), (1, .int (nI q)), (2, .int (nI 0)), (3, .int (nI 1))]) d_Md_sound_27 rfl (Nat.le_of_ble_eq_true rfl) [1, 2, 3, 0] rfl ?_
      refine fk_iconst (v := nI 0) d_Md_sound_28 (by decide +kernel) ?_
      refine fk_istore (lv' := [(0, .ref b0), (1, .int (nI q)), (2, .int (nI 0)), (3, .int (nI 1)), (4, .int (nI 0))]) d_Md_sound_29 (Nat.le_of_ble_eq_true rfl) [1, 2, 3, 4, 0] rfl ?_
      have L31 : ∀ (fuel : Nat) (ab : Nat) (cl : Bool) (m : Nat) (t1 : Nat → Nat) (g1_ : Nat → Bool), (m ≤ my9_11) → (ab < 128) → (∀ a, a < 7 → ab.testBit a = fs_any (fun i => decide (0 < nx9_11 (7 * i + a))) m) → (cl = fs_all (fun i => decide (fm_dg ((fe_run (fr_O mc mu mfi q) (fr_I mc mi mla q) (fr_me mc mi mu mfi mla mac q) 1400).2.1 i) 1 = 0) || decide ((fe_run (fr_O mc mu mfi q) (fr_I mc mi mla q) (fr_me mc mi mu mfi mla mac q) 1400).2.1 i = 16)) m) → (∀ i, i < m → g1_ i = decide ((fe_run (fr_O mc mu mfi q) (fr_I mc mi mla q) (fr_me mc mi mu mfi mla mac q) 1400).2.1 i = 16)) → my9_11 - m < fuel → fk_V E (prog_8_method_32_code, fy_Md_sound.cls, 8, fk_rm 4 0 0) K (0, 0) [(b0, .inr (6, [.int (nI mt), .ref b1, .ref b2, .ref b3, .ref b4, .ref b5, .ref b6, .ref b7, .ref b8, .ref b9, .int (nI mf), .ref b10, .ref b11, .ref b12, .int (nI my9_11), .int (nI (Bool.toNat mw9_11)), .ref b13, .ref b14, .ref b15])), fk_ai E b3 2 mc, fk_ai E b4 28 mi, fk_ai E b5 28 mu, fk_ai E b6 2 mfi, fk_ai E b7 2 mla, fk_ai E b8 2 mac, fk_ai E b12 16 t1, fk_ab E b13 3216 mk9_11, fk_as E b14 1407 nx9_11, fk_az E b15 201 g1_] 31 [(0, .ref b0), (1, .int (nI q)), (2, .int (nI ab)), (3, .int (nI (Bool.toNat cl))), (4, .int (nI m))] [] := by
        intro fuel
        induction fuel with
        | zero => intro ab cl m t1 g1_ _ _ _ _ _ hm; exact absurd hm (Nat.not_lt_zero _)
        | succ fuel ih =>
          intro ab cl m t1 g1_ h1 h1a h2 h3 h4 hm31
          have ih31 := ih
          clear ih
          refine fk_iload 4 d_Md_sound_31 rfl ?_
          refine fk_aload_n 0 d_Md_sound_33 rfl ?_
          refine fk_get 0 14 rfl rfl fh_Md (Nat.le_of_ble_eq_true rfl) fw_521 rfl d_Md_sound_34 ?_
          refine fk_icmp_ge (a := m) (b := my9_11) (by omega) (by omega) d_Md_sound_37 rfl (fun h37t => ?_) (fun h37f => ?_)
          · have e3 : m = my9_11 := by omega
            rw [e3] at h2 h3 h4
            refine fk_iconst (v := nI 1) d_Md_sound_136 (by decide +kernel) ?_
            refine fk_istore (lv' := [(0, .ref b0), (1, .int (nI q)), (2, .int (nI ab)), (3, .int (nI (Bool.toNat cl))), (4, .int (nI 1))]) d_Md_sound_137 (Nat.le_of_ble_eq_true rfl) [1, 2, 3, 4, 0] rfl ?_
            have L139 : ∀ (fuel : Nat) (mr : Bool) (gd : Nat → Bool), (fr_W my9_11 (fe_run (fr_O mc mu mfi q) (fr_I mc mi mla q) (fr_me mc mi mu mfi mla mac q) 1400).2.1 nx9_11 mr gd) → (my9_11 - fe_ct gd my9_11) + Bool.toNat mr < fuel → fk_V E (prog_8_method_32_code, fy_Md_sound.cls, 8, fk_rm 4 0 0) K (0, 0) [(b0, .inr (6, [.int (nI mt), .ref b1, .ref b2, .ref b3, .ref b4, .ref b5, .ref b6, .ref b7, .ref b8, .ref b9, .int (nI mf), .ref b10, .ref b11, .ref b12, .int (nI my9_11), .int (nI (Bool.toNat mw9_11)), .ref b13, .ref b14, .ref b15])), fk_ai E b3 2 mc, fk_ai E b4 28 mi, fk_ai E b5 28 mu, fk_ai E b6 2 mfi, fk_ai E b7 2 mla, fk_ai E b8 2 mac, fk_ai E b12 16 t1, fk_ab E b13 3216 mk9_11, fk_as E b14 1407 nx9_11, fk_az E b15 201 gd] 139 [(0, .ref b0), (1, .int (nI q)), (2, .int (nI ab)), (3, .int (nI (Bool.toNat cl))), (4, .int (nI (Bool.toNat mr)))] [] := by
              intro fuel
              induction fuel with
              | zero => intro mr gd _ hm; exact absurd hm (Nat.not_lt_zero _)
              | succ fuel ih =>
                intro mr gd h8 hm139
                have ih139 := ih
                clear ih
                refine fk_iload 4 d_Md_sound_139 rfl ?_
                refine fk_if_eqB (b := mr) d_Md_sound_141 rfl (fun h141t => ?_) (fun h141f => ?_)
                · refine fk_iload_n 3 d_Md_sound_235 rfl ?_
                  refine fk_if_eqB (b := cl) d_Md_sound_236 rfl (fun h236t => ?_) (fun h236f => ?_)
                  · refine fk_iconst (v := nI 0) d_Md_sound_252 (by decide +kernel) ?_
                    refine fk_istore (lv' := [(0, .ref b0), (1, .int (nI q)), (2, .int (nI ab)), (3, .int (nI (Bool.toNat cl))), (4, .int (nI (Bool.toNat mr))), (5, .int (nI 0))]) d_Md_sound_253 (Nat.le_of_ble_eq_true rfl) [1, 2, 3, 4, 5, 0] rfl ?_
                    refine fk_iconst (v := nI 0) d_Md_sound_255 (by decide +kernel) ?_
                    refine fk_istore (lv' := [(0, .ref b0), (1, .int (nI q)), (2, .int (nI ab)), (3, .int (nI (Bool.toNat cl))), (4, .int (nI (Bool.toNat mr))), (5, .int (nI 0)), (6, .int (nI 0))]) d_Md_sound_256 (Nat.le_of_ble_eq_true rfl) [1, 2, 3, 4, 5, 6, 0] rfl ?_
                    have L258 : ∀ (fuel : Nat) (b : Bool) (i : Nat), (i ≤ my9_11) → (b = ((cl && decide (ab = (fr_me mc mi mu mfi mla mac q))) && fs_all gd i)) → my9_11 - i < fuel → fk_V E (prog_8_method_32_code, fy_Md_sound.cls, 8, fk_rm 4 0 0) K (0, 0) [(b0, .inr (6, [.int (nI mt), .ref b1, .ref b2, .ref b3, .ref b4, .ref b5, .ref b6, .ref b7, .ref b8, .ref b9, .int (nI mf), .ref b10, .ref b11, .ref b12, .int (nI my9_11), .int (nI (Bool.toNat mw9_11)), .ref b13, .ref b14, .ref b15])), fk_ai E b3 2 mc, fk_ai E b4 28 mi, fk_ai E b5 28 mu, fk_ai E b6 2 mfi, fk_ai E b7 2 mla, fk_ai E b8 2 mac, fk_ai E b12 16 t1, fk_ab E b13 3216 mk9_11, fk_as E b14 1407 nx9_11, fk_az E b15 201 gd] 258 [(0, .ref b0), (5, .int (nI (Bool.toNat b))), (6, .int (nI i))] [] := by
                      intro fuel
                      induction fuel with
                      | zero => intro b i _ _ hm; exact absurd hm (Nat.not_lt_zero _)
                      | succ fuel ih =>
                        intro b i h13 h14 hm258
                        have ih258 := ih
                        clear ih
                        refine fk_iload 2 d_Md_sound_258 rfl ?_
                        refine fk_aload_n 0 d_Md_sound_260 rfl ?_
                        refine fk_get 0 14 rfl rfl fh_Md (Nat.le_of_ble_eq_true rfl) fw_521 rfl d_Md_sound_261 ?_
                        refine fk_icmp_ge (a := i) (b := my9_11) (by omega) (by omega) d_Md_sound_264 rfl (fun h264t => ?_) (fun h264f => ?_)
                        · refine fk_iload 1 d_Md_sound_295 rfl ?_
                          refine fk_if_eqB (b := b) d_Md_sound_297 rfl (fun h297t => ?_) (fun h297f => ?_)
                          · refine fk_iconst (v := nI 0) d_Md_sound_304 (by decide +kernel) ?_
                            refine fk_top (congrArg nI (show 0 = Bool.toNat (fe_snd (fr_O mc mu mfi q) (fr_I mc mi mla q) (fr_me mc mi mu mfi mla mac q)) from by rw [← fr_snd e1 e2 hnx hV h1a h2 h3 (by rw [← h141t]; exact h8), show my9_11 = i by omega, ← h14]; first | (rw [h297f]; rfl) | (rw [h297t]; rfl))) ?_
                            exact hret (0, 0) _ 305 _ (my9_11, mw9_11, t1, mk9_11, nx9_11, gd) d_Md_sound_305 (trivial) (rfl)
                          · refine fk_iconst (v := nI 1) d_Md_sound_300 (by decide +kernel) ?_
                            refine fk_goto d_Md_sound_301 rfl ?_
                            refine fk_top (congrArg nI (show 1 = Bool.toNat (fe_snd (fr_O mc mu mfi q) (fr_I mc mi mla q) (fr_me mc mi mu mfi mla mac q)) from by rw [← fr_snd e1 e2 hnx hV h1a h2 h3 (by rw [← h141t]; exact h8), show my9_11 = i by omega, ← h14]; first | (rw [h297f]; rfl) | (rw [h297t]; rfl))) ?_
                            exact hret (0, 0) _ 305 _ (my9_11, mw9_11, t1, mk9_11, nx9_11, gd) d_Md_sound_305 (trivial) (rfl)
                        · refine fk_iload 1 d_Md_sound_267 rfl ?_
                          refine fk_if_eqB (b := b) d_Md_sound_269 rfl (fun h269t => ?_) (fun h269f => ?_)
                          · refine fk_iconst (v := nI 0) d_Md_sound_286 (by decide +kernel) ?_
                            refine fk_istore (lv' := [(0, .ref b0), (5, .int (nI 0)), (6, .int (nI i))]) d_Md_sound_287 (Nat.le_of_ble_eq_true rfl) [1, 0, 2] rfl ?_
                            refine fk_iinc (j := 2) (lv' := [(0, .ref b0), (5, .int (nI 0)), (6, .int (nI (i + 1)))]) (i + 1) d_Md_sound_289 rfl (nI_1 i) (Nat.le_of_ble_eq_true rfl) [1, 2, 0] rfl ?_
                            refine fk_goto d_Md_sound_292 rfl ?_
                            refine ih258 false _ ?_ ?_ ?_
                            · first | omega | assumption | exact Nat.zero_le _
                            · rw [fs_all_s, ← Bool.and_assoc, ← h14]
                              first | rw [h269t, Bool.false_and] | rw [h269f, h279f, Bool.and_self] | rw [h269f, h279t, Bool.and_false]
                            · omega
                          · refine fk_aload_n 0 d_Md_sound_272 rfl ?_
                            refine fk_get 0 18 rfl rfl fh_Md (Nat.le_of_ble_eq_true rfl) fw_525 rfl d_Md_sound_273 ?_
                            refine fk_iload 2 d_Md_sound_276 rfl ?_
                            refine fk_ld_az (i := i) 10 rfl (by omega) (by decide) d_Md_sound_278 ?_
                            refine fk_if_eqB (b := (gd i)) d_Md_sound_279 rfl (fun h279t => ?_) (fun h279f => ?_)
                            · refine fk_iconst (v := nI 0) d_Md_sound_286 (by decide +kernel) ?_
                              refine fk_istore (lv' := [(0, .ref b0), (5, .int (nI 0)), (6, .int (nI i))]) d_Md_sound_287 (Nat.le_of_ble_eq_true rfl) [1, 0, 2] rfl ?_
                              refine fk_iinc (j := 2) (lv' := [(0, .ref b0), (5, .int (nI 0)), (6, .int (nI (i + 1)))]) (i + 1) d_Md_sound_289 rfl (nI_1 i) (Nat.le_of_ble_eq_true rfl) [1, 2, 0] rfl ?_
                              refine fk_goto d_Md_sound_292 rfl ?_
                              refine ih258 false _ ?_ ?_ ?_
                              · first | omega | assumption | exact Nat.zero_le _
                              · rw [fs_all_s, ← Bool.and_assoc, ← h14]
                                first | rw [h269t, Bool.false_and] | rw [h269f, h279f, Bool.and_self] | rw [h269f, h279t, Bool.and_false]
                              · omega
                            · refine fk_iconst (v := nI 1) d_Md_sound_282 (by decide +kernel) ?_
                              refine fk_goto d_Md_sound_283 rfl ?_
                              refine fk_istore (lv' := [(0, .ref b0), (5, .int (nI 1)), (6, .int (nI i))]) d_Md_sound_287 (Nat.le_of_ble_eq_true rfl) [1, 0, 2] rfl ?_
                              refine fk_iinc (j := 2) (lv' := [(0, .ref b0), (5, .int (nI 1)), (6, .int (nI (i + 1)))]) (i + 1) d_Md_sound_289 rfl (nI_1 i) (Nat.le_of_ble_eq_true rfl) [1, 2, 0] rfl ?_
                              refine fk_goto d_Md_sound_292 rfl ?_
                              refine ih258 true _ ?_ ?_ ?_
                              · first | omega | assumption | exact Nat.zero_le _
                              · rw [fs_all_s, ← Bool.and_assoc, ← h14]
                                first | rw [h269t, Bool.false_and] | rw [h269f, h279f, Bool.and_self] | rw [h269f, h279t, Bool.and_false]
                              · omega
                    refine fk_lv (lv' := [(0, .ref b0), (5, .int (nI 0)), (6, .int (nI 0))]) [0, 5, 6] rfl ?_
                    refine L258 _ false _ ?_ ?_ (Nat.lt_succ_self _)
                    · first | omega | assumption | exact Nat.zero_le _
                    · first | (rw [h236t]; simp; done) | (rw [decide_eq_false h245t]; simp; done) | (rw [h236f, decide_eq_true h245f]; rfl)
                  · refine fk_iload_n 2 d_Md_sound_239 rfl ?_
                    refine fk_aload_n 0 d_Md_sound_240 rfl ?_
                    refine fk_iload_n 1 d_Md_sound_241 rfl ?_
                    refine fk_callV (q0 := 0) (As := [.int (nI q)]) (rest := [.int (nI ab)]) (is := [0, 1, 2, 3, 4, 5, 6]) (ir := [7, 8, 9, 10]) (ip := [4, 5, 6, 7, 8, 9, 10, 0, 1, 2, 3]) (wc := [(b0, .inr (6, [.int (nI mt), .ref b1, .ref b2, .ref b3, .ref b4, .ref b5, .ref b6, .ref b7, .ref b8, .ref b9, .int (nI mf), .ref b10, .ref b11, .ref b12, .int (nI my9_11), .int (nI (Bool.toNat mw9_11)), .ref b13, .ref b14, .ref b15])), fk_ai E b3 2 mc, fk_ai E b4 28 mi, fk_ai E b5 28 mu, fk_ai E b6 2 mfi, fk_ai E b7 2 mla, fk_ai E b8 2 mac]) (wr := [fk_ai E b12 16 t1, fk_ab E b13 3216 mk9_11, fk_as E b14 1407 nx9_11, fk_az E b15 201 gd]) (w2 := fun _ => [(b0, .inr (6, [.int (nI mt), .ref b1, .ref b2, .ref b3, .ref b4, .ref b5, .ref b6, .ref b7, .ref b8, .ref b9, .int (nI mf), .ref b10, .ref b11, .ref b12, .int (nI my9_11), .int (nI (Bool.toNat mw9_11)), .ref b13, .ref b14, .ref b15])), fk_ai E b3 2 mc, fk_ai E b4 28 mi, fk_ai E b5 28 mu, fk_ai E b6 2 mfi, fk_ai E b7 2 mla, fk_ai E b8 2 mac, fk_ai E b12 16 t1, fk_ab E b13 3216 mk9_11, fk_as E b14 1407 nx9_11, fk_az E b15 201 gd]) (cD_activities E b0 b1 b2 b3 b4 b5 b6 b7 b8 b9 b10 b11 b12 b13 b14 b15 mt mf my9_11 mw9_11 mc mi mu mfi mla mac q (by first | omega | assumption) (by first | omega | assumption)) d_Md_sound_242 fz_Md_activities fw_650 rfl rfl fw_652 fw_p21 ⟨Nat.le_of_ble_eq_true rfl, Nat.le_of_ble_eq_true rfl⟩ rfl (Nat.le_of_ble_eq_true rfl) ⟨Nat.zero_le _, Nat.zero_le _⟩ ⟨rfl, rfl, rfl, rfl, by decide, fun _ => rfl, rfl⟩ (fun u hu242 => ?_)
                    show fk_V E _ K (0, 0) [(b0, .inr (6, [.int (nI mt), .ref b1, .ref b2, .ref b3, .ref b4, .ref b5, .ref b6, .ref b7, .ref b8, .ref b9, .int (nI mf), .ref b10, .ref b11, .ref b12, .int (nI my9_11), .int (nI (Bool.toNat mw9_11)), .ref b13, .ref b14, .ref b15])), fk_ai E b3 2 mc, fk_ai E b4 28 mi, fk_ai E b5 28 mu, fk_ai E b6 2 mfi, fk_ai E b7 2 mla, fk_ai E b8 2 mac, fk_ai E b12 16 t1, fk_ab E b13 3216 mk9_11, fk_as E b14 1407 nx9_11, fk_az E b15 201 gd] 245 [(0, .ref b0), (1, .int (nI q)), (2, .int (nI ab)), (3, .int (nI (Bool.toNat cl))), (4, .int (nI (Bool.toNat mr)))] [.int (nI (fr_me mc mi mu mfi mla mac q)), .int (nI ab)]
                    have g7 := fr_me_lt (q := q) hN hm1
                    refine fk_icmp_ne (a := ab) (b := (fr_me mc mi mu mfi mla mac q)) (by omega) (by omega) d_Md_sound_245 rfl (fun h245t => ?_) (fun h245f => ?_)
                    · refine fk_iconst (v := nI 0) d_Md_sound_252 (by decide +kernel) ?_
                      refine fk_istore (lv' := [(0, .ref b0), (1, .int (nI q)), (2, .int (nI ab)), (3, .int (nI (Bool.toNat cl))), (4, .int (nI (Bool.toNat mr))), (5, .int (nI 0))]) d_Md_sound_253 (Nat.le_of_ble_eq_true rfl) [1, 2, 3, 4, 5, 0] rfl ?_
                      refine fk_iconst (v := nI 0) d_Md_sound_255 (by decide +kernel) ?_
                      refine fk_istore (lv' := [(0, .ref b0), (1, .int (nI q)), (2, .int (nI ab)), (3, .int (nI (Bool.toNat cl))), (4, .int (nI (Bool.toNat mr))), (5, .int (nI 0)), (6, .int (nI 0))]) d_Md_sound_256 (Nat.le_of_ble_eq_true rfl) [1, 2, 3, 4, 5, 6, 0] rfl ?_
                      have L258 : ∀ (fuel : Nat) (b : Bool) (i : Nat), (i ≤ my9_11) → (b = ((cl && decide (ab = (fr_me mc mi mu mfi mla mac q))) && fs_all gd i)) → my9_11 - i < fuel → fk_V E (prog_8_method_32_code, fy_Md_sound.cls, 8, fk_rm 4 0 0) K (0, 0) [(b0, .inr (6, [.int (nI mt), .ref b1, .ref b2, .ref b3, .ref b4, .ref b5, .ref b6, .ref b7, .ref b8, .ref b9, .int (nI mf), .ref b10, .ref b11, .ref b12, .int (nI my9_11), .int (nI (Bool.toNat mw9_11)), .ref b13, .ref b14, .ref b15])), fk_ai E b3 2 mc, fk_ai E b4 28 mi, fk_ai E b5 28 mu, fk_ai E b6 2 mfi, fk_ai E b7 2 mla, fk_ai E b8 2 mac, fk_ai E b12 16 t1, fk_ab E b13 3216 mk9_11, fk_as E b14 1407 nx9_11, fk_az E b15 201 gd] 258 [(0, .ref b0), (5, .int (nI (Bool.toNat b))), (6, .int (nI i))] [] := by
                        intro fuel
                        induction fuel with
                        | zero => intro b i _ _ hm; exact absurd hm (Nat.not_lt_zero _)
                        | succ fuel ih =>
                          intro b i h13 h14 hm258
                          have ih258 := ih
                          clear ih
                          refine fk_iload 2 d_Md_sound_258 rfl ?_
                          refine fk_aload_n 0 d_Md_sound_260 rfl ?_
                          refine fk_get 0 14 rfl rfl fh_Md (Nat.le_of_ble_eq_true rfl) fw_521 rfl d_Md_sound_261 ?_
                          refine fk_icmp_ge (a := i) (b := my9_11) (by omega) (by omega) d_Md_sound_264 rfl (fun h264t => ?_) (fun h264f => ?_)
                          · refine fk_iload 1 d_Md_sound_295 rfl ?_
                            refine fk_if_eqB (b := b) d_Md_sound_297 rfl (fun h297t => ?_) (fun h297f => ?_)
                            · refine fk_iconst (v := nI 0) d_Md_sound_304 (by decide +kernel) ?_
                              refine fk_top (congrArg nI (show 0 = Bool.toNat (fe_snd (fr_O mc mu mfi q) (fr_I mc mi mla q) (fr_me mc mi mu mfi mla mac q)) from by rw [← fr_snd e1 e2 hnx hV h1a h2 h3 (by rw [← h141t]; exact h8), show my9_11 = i by omega, ← h14]; first | (rw [h297f]; rfl) | (rw [h297t]; rfl))) ?_
                              exact hret (0, 0) _ 305 _ (my9_11, mw9_11, t1, mk9_11, nx9_11, gd) d_Md_sound_305 (trivial) (rfl)
                            · refine fk_iconst (v := nI 1) d_Md_sound_300 (by decide +kernel) ?_
                              refine fk_goto d_Md_sound_301 rfl ?_
                              refine fk_top (congrArg nI (show 1 = Bool.toNat (fe_snd (fr_O mc mu mfi q) (fr_I mc mi mla q) (fr_me mc mi mu mfi mla mac q)) from by rw [← fr_snd e1 e2 hnx hV h1a h2 h3 (by rw [← h141t]; exact h8), show my9_11 = i by omega, ← h14]; first | (rw [h297f]; rfl) | (rw [h297t]; rfl))) ?_
                              exact hret (0, 0) _ 305 _ (my9_11, mw9_11, t1, mk9_11, nx9_11, gd) d_Md_sound_305 (trivial) (rfl)
                          · refine fk_iload 1 d_Md_sound_267 rfl ?_
                            refine fk_if_eqB (b := b) d_Md_sound_269 rfl (fun h269t => ?_) (fun h269f => ?_)
                            · refine fk_iconst (v := nI 0) d_Md_sound_286 (by decide +kernel) ?_
                              refine fk_istore (lv' := [(0, .ref b0), (5, .int (nI 0)), (6, .int (nI i))]) d_Md_sound_287 (Nat.le_of_ble_eq_true rfl) [1, 0, 2] rfl ?_
                              refine fk_iinc (j := 2) (lv' := [(0, .ref b0), (5, .int (nI 0)), (6, .int (nI (i + 1)))]) (i + 1) d_Md_sound_289 rfl (nI_1 i) (Nat.le_of_ble_eq_true rfl) [1, 2, 0] rfl ?_
                              refine fk_goto d_Md_sound_292 rfl ?_
                              refine ih258 false _ ?_ ?_ ?_
                              · first | omega | assumption | exact Nat.zero_le _
                              · rw [fs_all_s, ← Bool.and_assoc, ← h14]
                                first | rw [h269t, Bool.false_and] | rw [h269f, h279f, Bool.and_self] | rw [h269f, h279t, Bool.and_false]
                              · omega
                            · refine fk_aload_n 0 d_Md_sound_272 rfl ?_
                              refine fk_get 0 18 rfl rfl fh_Md (Nat.le_of_ble_eq_true rfl) fw_525 rfl d_Md_sound_273 ?_
                              refine fk_iload 2 d_Md_sound_276 rfl ?_
                              refine fk_ld_az (i := i) 10 rfl (by omega) (by decide) d_Md_sound_278 ?_
                              refine fk_if_eqB (b := (gd i)) d_Md_sound_279 rfl (fun h279t => ?_) (fun h279f => ?_)
                              · refine fk_iconst (v := nI 0) d_Md_sound_286 (by decide +kernel) ?_
                                refine fk_istore (lv' := [(0, .ref b0), (5, .int (nI 0)), (6, .int (nI i))]) d_Md_sound_287 (Nat.le_of_ble_eq_true rfl) [1, 0, 2] rfl ?_
                                refine fk_iinc (j := 2) (lv' := [(0, .ref b0), (5, .int (nI 0)), (6, .int (nI (i + 1)))]) (i + 1) d_Md_sound_289 rfl (nI_1 i) (Nat.le_of_ble_eq_true rfl) [1, 2, 0] rfl ?_
                                refine fk_goto d_Md_sound_292 rfl ?_
                                refine ih258 false _ ?_ ?_ ?_
                                · first | omega | assumption | exact Nat.zero_le _
                                · rw [fs_all_s, ← Bool.and_assoc, ← h14]
                                  first | rw [h269t, Bool.false_and] | rw [h269f, h279f, Bool.and_self] | rw [h269f, h279t, Bool.and_false]
                                · omega
                              · refine fk_iconst (v := nI 1) d_Md_sound_282 (by decide +kernel) ?_
                                refine fk_goto d_Md_sound_283 rfl ?_
                                refine fk_istore (lv' := [(0, .ref b0), (5, .int (nI 1)), (6, .int (nI i))]) d_Md_sound_287 (Nat.le_of_ble_eq_true rfl) [1, 0, 2] rfl ?_
                                refine fk_iinc (j := 2) (lv' := [(0, .ref b0), (5, .int (nI 1)), (6, .int (nI (i + 1)))]) (i + 1) d_Md_sound_289 rfl (nI_1 i) (Nat.le_of_ble_eq_true rfl) [1, 2, 0] rfl ?_
                                refine fk_goto d_Md_sound_292 rfl ?_
                                refine ih258 true _ ?_ ?_ ?_
                                · first | omega | assumption | exact Nat.zero_le _
                                · rw [fs_all_s, ← Bool.and_assoc, ← h14]
                                  first | rw [h269t, Bool.false_and] | rw [h269f, h279f, Bool.and_self] | rw [h269f, h279t, Bool.and_false]
                                · omega
                      refine fk_lv (lv' := [(0, .ref b0), (5, .int (nI 0)), (6, .int (nI 0))]) [0, 5, 6] rfl ?_
                      refine L258 _ false _ ?_ ?_ (Nat.lt_succ_self _)
                      · first | omega | assumption | exact Nat.zero_le _
                      · first | (rw [h236t]; simp; done) | (rw [decide_eq_false h245t]; simp; done) | (rw [h236f, decide_eq_true h245f]; rfl)
                    · refine fk_iconst (v := nI 1) d_Md_sound_248 (by decide +kernel) ?_
                      refine fk_goto d_Md_sound_249 rfl ?_
                      refine fk_istore (lv' := [(0, .ref b0), (1, .int (nI q)), (2, .int (nI ab)), (3, .int (nI (Bool.toNat cl))), (4, .int (nI (Bool.toNat mr))), (5, .int (nI 1))]) d_Md_sound_253 (Nat.le_of_ble_eq_true rfl) [1, 2, 3, 4, 5, 0] rfl ?_
                      refine fk_iconst (v := nI 0) d_Md_sound_255 (by decide +kernel) ?_
                      refine fk_istore (lv' := [(0, .ref b0), (1, .int (nI q)), (2, .int (nI ab)), (3, .int (nI (Bool.toNat cl))), (4, .int (nI (Bool.toNat mr))), (5, .int (nI 1)), (6, .int (nI 0))]) d_Md_sound_256 (Nat.le_of_ble_eq_true rfl) [1, 2, 3, 4, 5, 6, 0] rfl ?_
                      have L258 : ∀ (fuel : Nat) (b : Bool) (i : Nat), (i ≤ my9_11) → (b = ((cl && decide (ab = (fr_me mc mi mu mfi mla mac q))) && fs_all gd i)) → my9_11 - i < fuel → fk_V E (prog_8_method_32_code, fy_Md_sound.cls, 8, fk_rm 4 0 0) K (0, 0) [(b0, .inr (6, [.int (nI mt), .ref b1, .ref b2, .ref b3, .ref b4, .ref b5, .ref b6, .ref b7, .ref b8, .ref b9, .int (nI mf), .ref b10, .ref b11, .ref b12, .int (nI my9_11), .int (nI (Bool.toNat mw9_11)), .ref b13, .ref b14, .ref b15])), fk_ai E b3 2 mc, fk_ai E b4 28 mi, fk_ai E b5 28 mu, fk_ai E b6 2 mfi, fk_ai E b7 2 mla, fk_ai E b8 2 mac, fk_ai E b12 16 t1, fk_ab E b13 3216 mk9_11, fk_as E b14 1407 nx9_11, fk_az E b15 201 gd] 258 [(0, .ref b0), (5, .int (nI (Bool.toNat b))), (6, .int (nI i))] [] := by
                        intro fuel
                        induction fuel with
                        | zero => intro b i _ _ hm; exact absurd hm (Nat.not_lt_zero _)
                        | succ fuel ih =>
                          intro b i h13 h14 hm258
                          have ih258 := ih
                          clear ih
                          refine fk_iload 2 d_Md_sound_258 rfl ?_
                          refine fk_aload_n 0 d_Md_sound_260 rfl ?_
                          refine fk_get 0 14 rfl rfl fh_Md (Nat.le_of_ble_eq_true rfl) fw_521 rfl d_Md_sound_261 ?_
                          refine fk_icmp_ge (a := i) (b := my9_11) (by omega) (by omega) d_Md_sound_264 rfl (fun h264t => ?_) (fun h264f => ?_)
                          · refine fk_iload 1 d_Md_sound_295 rfl ?_
                            refine fk_if_eqB (b := b) d_Md_sound_297 rfl (fun h297t => ?_) (fun h297f => ?_)
                            · refine fk_iconst (v := nI 0) d_Md_sound_304 (by decide +kernel) ?_
                              refine fk_top (congrArg nI (show 0 = Bool.toNat (fe_snd (fr_O mc mu mfi q) (fr_I mc mi mla q) (fr_me mc mi mu mfi mla mac q)) from by rw [← fr_snd e1 e2 hnx hV h1a h2 h3 (by rw [← h141t]; exact h8), show my9_11 = i by omega, ← h14]; first | (rw [h297f]; rfl) | (rw [h297t]; rfl))) ?_
                              exact hret (0, 0) _ 305 _ (my9_11, mw9_11, t1, mk9_11, nx9_11, gd) d_Md_sound_305 (trivial) (rfl)
                            · refine fk_iconst (v := nI 1) d_Md_sound_300 (by decide +kernel) ?_
                              refine fk_goto d_Md_sound_301 rfl ?_
                              refine fk_top (congrArg nI (show 1 = Bool.toNat (fe_snd (fr_O mc mu mfi q) (fr_I mc mi mla q) (fr_me mc mi mu mfi mla mac q)) from by rw [← fr_snd e1 e2 hnx hV h1a h2 h3 (by rw [← h141t]; exact h8), show my9_11 = i by omega, ← h14]; first | (rw [h297f]; rfl) | (rw [h297t]; rfl))) ?_
                              exact hret (0, 0) _ 305 _ (my9_11, mw9_11, t1, mk9_11, nx9_11, gd) d_Md_sound_305 (trivial) (rfl)
                          · refine fk_iload 1 d_Md_sound_267 rfl ?_
                            refine fk_if_eqB (b := b) d_Md_sound_269 rfl (fun h269t => ?_) (fun h269f => ?_)
                            · refine fk_iconst (v := nI 0) d_Md_sound_286 (by decide +kernel) ?_
                              refine fk_istore (lv' := [(0, .ref b0), (5, .int (nI 0)), (6, .int (nI i))]) d_Md_sound_287 (Nat.le_of_ble_eq_true rfl) [1, 0, 2] rfl ?_
                              refine fk_iinc (j := 2) (lv' := [(0, .ref b0), (5, .int (nI 0)), (6, .int (nI (i + 1)))]) (i + 1) d_Md_sound_289 rfl (nI_1 i) (Nat.le_of_ble_eq_true rfl) [1, 2, 0] rfl ?_
                              refine fk_goto d_Md_sound_292 rfl ?_
                              refine ih258 false _ ?_ ?_ ?_
                              · first | omega | assumption | exact Nat.zero_le _
                              · rw [fs_all_s, ← Bool.and_assoc, ← h14]
                                first | rw [h269t, Bool.false_and] | rw [h269f, h279f, Bool.and_self] | rw [h269f, h279t, Bool.and_false]
                              · omega
                            · refine fk_aload_n 0 d_Md_sound_272 rfl ?_
                              refine fk_get 0 18 rfl rfl fh_Md (Nat.le_of_ble_eq_true rfl) fw_525 rfl d_Md_sound_273 ?_
                              refine fk_iload 2 d_Md_sound_276 rfl ?_
                              refine fk_ld_az (i := i) 10 rfl (by omega) (by decide) d_Md_sound_278 ?_
                              refine fk_if_eqB (b := (gd i)) d_Md_sound_279 rfl (fun h279t => ?_) (fun h279f => ?_)
                              · refine fk_iconst (v := nI 0) d_Md_sound_286 (by decide +kernel) ?_
                                refine fk_istore (lv' := [(0, .ref b0), (5, .int (nI 0)), (6, .int (nI i))]) d_Md_sound_287 (Nat.le_of_ble_eq_true rfl) [1, 0, 2] rfl ?_
                                refine fk_iinc (j := 2) (lv' := [(0, .ref b0), (5, .int (nI 0)), (6, .int (nI (i + 1)))]) (i + 1) d_Md_sound_289 rfl (nI_1 i) (Nat.le_of_ble_eq_true rfl) [1, 2, 0] rfl ?_
                                refine fk_goto d_Md_sound_292 rfl ?_
                                refine ih258 false _ ?_ ?_ ?_
                                · first | omega | assumption | exact Nat.zero_le _
                                · rw [fs_all_s, ← Bool.and_assoc, ← h14]
                                  first | rw [h269t, Bool.false_and] | rw [h269f, h279f, Bool.and_self] | rw [h269f, h279t, Bool.and_false]
                                · omega
                              · refine fk_iconst (v := nI 1) d_Md_sound_282 (by decide +kernel) ?_
                                refine fk_goto d_Md_sound_283 rfl ?_
                                refine fk_istore (lv' := [(0, .ref b0), (5, .int (nI 1)), (6, .int (nI i))]) d_Md_sound_287 (Nat.le_of_ble_eq_true rfl) [1, 0, 2] rfl ?_
                                refine fk_iinc (j := 2) (lv' := [(0, .ref b0), (5, .int (nI 1)), (6, .int (nI (i + 1)))]) (i + 1) d_Md_sound_289 rfl (nI_1 i) (Nat.le_of_ble_eq_true rfl) [1, 2, 0] rfl ?_
                                refine fk_goto d_Md_sound_292 rfl ?_
                                refine ih258 true _ ?_ ?_ ?_
                                · first | omega | assumption | exact Nat.zero_le _
                                · rw [fs_all_s, ← Bool.and_assoc, ← h14]
                                  first | rw [h269t, Bool.false_and] | rw [h269f, h279f, Bool.and_self] | rw [h269f, h279t, Bool.and_false]
                                · omega
                      refine fk_lv (lv' := [(0, .ref b0), (5, .int (nI 1)), (6, .int (nI 0))]) [0, 5, 6] rfl ?_
                      refine L258 _ true _ ?_ ?_ (Nat.lt_succ_self _)
                      · first | omega | assumption | exact Nat.zero_le _
                      · first | (rw [h236t]; simp; done) | (rw [decide_eq_false h245t]; simp; done) | (rw [h236f, decide_eq_true h245f]; rfl)
                · refine fk_iconst (v := nI 0) d_Md_sound_144 (by decide +kernel) ?_
                  refine fk_istore (lv' := [(0, .ref b0), (1, .int (nI q)), (2, .int (nI ab)), (3, .int (nI (Bool.toNat cl))), (4, .int (nI 0))]) d_Md_sound_145 (Nat.le_of_ble_eq_true rfl) [1, 2, 3, 4, 0] rfl ?_
                  refine fk_iconst (v := nI 0) d_Md_sound_147 (by decide +kernel) ?_
                  refine fk_istore (lv' := [(0, .ref b0), (1, .int (nI q)), (2, .int (nI ab)), (3, .int (nI (Bool.toNat cl))), (4, .int (nI 0)), (5, .int (nI 0))]) d_Md_sound_148 (Nat.le_of_ble_eq_true rfl) [1, 2, 3, 4, 5, 0] rfl ?_
                  have L150 : ∀ (fuel : Nat) (m2 : Nat) (mr2 : Bool) (g2_ : Nat → Bool), (m2 ≤ my9_11) → (fr_G my9_11 (fe_run (fr_O mc mu mfi q) (fr_I mc mi mla q) (fr_me mc mi mu mfi mla mac q) 1400).2.1 nx9_11 gd (m2) (0) mr2 g2_) → my9_11 - m2 < fuel → fk_V E (prog_8_method_32_code, fy_Md_sound.cls, 8, fk_rm 4 0 0) K (0, 0) [(b0, .inr (6, [.int (nI mt), .ref b1, .ref b2, .ref b3, .ref b4, .ref b5, .ref b6, .ref b7, .ref b8, .ref b9, .int (nI mf), .ref b10, .ref b11, .ref b12, .int (nI my9_11), .int (nI (Bool.toNat mw9_11)), .ref b13, .ref b14, .ref b15])), fk_ai E b3 2 mc, fk_ai E b4 28 mi, fk_ai E b5 28 mu, fk_ai E b6 2 mfi, fk_ai E b7 2 mla, fk_ai E b8 2 mac, fk_ai E b12 16 t1, fk_ab E b13 3216 mk9_11, fk_as E b14 1407 nx9_11, fk_az E b15 201 g2_] 150 [(0, .ref b0), (1, .int (nI q)), (2, .int (nI ab)), (3, .int (nI (Bool.toNat cl))), (4, .int (nI (Bool.toNat mr2))), (5, .int (nI m2))] [] := by
                    intro fuel
                    induction fuel with
                    | zero => intro m2 mr2 g2_ _ _ hm; exact absurd hm (Nat.not_lt_zero _)
                    | succ fuel ih =>
                      intro m2 mr2 g2_ h9 h10 hm150
                      have ih150 := ih
                      clear ih
                      refine fk_iload 5 d_Md_sound_150 rfl ?_
                      refine fk_aload_n 0 d_Md_sound_152 rfl ?_
                      refine fk_get 0 14 rfl rfl fh_Md (Nat.le_of_ble_eq_true rfl) fw_521 rfl d_Md_sound_153 ?_
                      refine fk_icmp_ge (a := m2) (b := my9_11) (by omega) (by omega) d_Md_sound_156 rfl (fun h156t => ?_) (fun h156f => ?_)
                      · refine fk_goto d_Md_sound_232 rfl ?_
                        refine fk_lv (lv' := [(0, .ref b0), (1, .int (nI q)), (2, .int (nI ab)), (3, .int (nI (Bool.toNat cl))), (4, .int (nI (Bool.toNat mr2)))]) [0, 1, 2, 3, 4] rfl ?_
                        refine ih139 _ _ ?_ ?_
                        · exact fr_W_s h8 h10 (by omega) hn
                        · have q1 := h10.2.2.2.1
                          have q2 := fe_ct_le g2_ my9_11
                          have q3 : Bool.toNat mr = 1 := by rw [h141f]; rfl
                          cases mr2 with
                          | true =>
                            have q4 := h10.2.2.1 rfl
                            simp
                            omega
                          | false =>
                            simp
                            omega
                      · refine fk_iconst (v := nI 0) d_Md_sound_159 (by decide +kernel) ?_
                        refine fk_istore (lv' := [(0, .ref b0), (1, .int (nI q)), (2, .int (nI ab)), (3, .int (nI (Bool.toNat cl))), (4, .int (nI (Bool.toNat mr2))), (5, .int (nI m2)), (6, .int (nI 0))]) d_Md_sound_160 (Nat.le_of_ble_eq_true rfl) [1, 2, 3, 4, 5, 6, 0] rfl ?_
                        have L162 : ∀ (fuel : Nat) (a2 : Nat) (mr3 : Bool) (g3_ : Nat → Bool), (a2 ≤ 7) → (fr_G my9_11 (fe_run (fr_O mc mu mfi q) (fr_I mc mi mla q) (fr_me mc mi mu mfi mla mac q) 1400).2.1 nx9_11 gd (m2) (a2) mr3 g3_) → 7 - a2 < fuel → fk_V E (prog_8_method_32_code, fy_Md_sound.cls, 8, fk_rm 4 0 0) K (0, 0) [(b0, .inr (6, [.int (nI mt), .ref b1, .ref b2, .ref b3, .ref b4, .ref b5, .ref b6, .ref b7, .ref b8, .ref b9, .int (nI mf), .ref b10, .ref b11, .ref b12, .int (nI my9_11), .int (nI (Bool.toNat mw9_11)), .ref b13, .ref b14, .ref b15])), fk_ai E b3 2 mc, fk_ai E b4 28 mi, fk_ai E b5 28 mu, fk_ai E b6 2 mfi, fk_ai E b7 2 mla, fk_ai E b8 2 mac, fk_ai E b12 16 t1, fk_ab E b13 3216 mk9_11, fk_as E b14 1407 nx9_11, fk_az E b15 201 g3_] 162 [(0, .ref b0), (1, .int (nI q)), (2, .int (nI ab)), (3, .int (nI (Bool.toNat cl))), (4, .int (nI (Bool.toNat mr3))), (5, .int (nI m2)), (6, .int (nI a2))] [] := by
                          intro fuel
                          induction fuel with
                          | zero => intro a2 mr3 g3_ _ _ hm; exact absurd hm (Nat.not_lt_zero _)
                          | succ fuel ih =>
                            intro a2 mr3 g3_ h11 h12 hm162
                            have ih162 := ih
                            clear ih
                            refine fk_iload 6 d_Md_sound_162 rfl ?_
                            refine fk_bipush (v := nI 7) d_Md_sound_164 (by decide +kernel) ?_
                            refine fk_icmp_ge (a := a2) (b := 7) (by omega) (by omega) d_Md_sound_166 rfl (fun h166t => ?_) (fun h166f => ?_)
                            · refine fk_iinc (j := 5) (lv' := [(0, .ref b0), (1, .int (nI q)), (2, .int (nI ab)), (3, .int (nI (Bool.toNat cl))), (4, .int (nI (Bool.toNat mr3))), (5, .int (nI (m2 + 1))), (6, .int (nI a2))]) (m2 + 1) d_Md_sound_226 rfl (nI_1 m2) (Nat.le_of_ble_eq_true rfl) [1, 2, 3, 4, 5, 0, 6] rfl ?_
                              refine fk_goto d_Md_sound_229 rfl ?_
                              refine fk_lv (lv' := [(0, .ref b0), (1, .int (nI q)), (2, .int (nI ab)), (3, .int (nI (Bool.toNat cl))), (4, .int (nI (Bool.toNat mr3))), (5, .int (nI (m2 + 1)))]) [0, 1, 2, 3, 4, 5] rfl ?_
                              refine ih150 _ _ _ ?_ ?_ ?_
                              · first | omega | assumption | exact Nat.zero_le _
                              · have e9 : a2 = 7 := by omega
                                rw [e9] at h12
                                exact fr_G_m h12
                              · omega
                            · have g6 := hn (7 * m2 + a2) (by omega)
                              refine fk_aload_n 0 d_Md_sound_169 rfl ?_
                              refine fk_get 0 17 rfl rfl fh_Md (Nat.le_of_ble_eq_true rfl) fw_524 rfl d_Md_sound_170 ?_
                              refine fk_bipush (v := nI 7) d_Md_sound_173 (by decide +kernel) ?_
                              refine fk_iload 5 d_Md_sound_175 rfl ?_
                              refine fk_imul (a := 7) (b := m2) d_Md_sound_177 ?_
                              refine fk_iload 6 d_Md_sound_178 rfl ?_
                              refine fk_iadd (a := (7 * m2)) (b := a2) d_Md_sound_180 ?_
                              refine fk_ld_as (i := ((7 * m2) + a2)) 9 rfl (by omega) (by decide) d_Md_sound_181 ?_
                              refine fk_istore (lv' := [(0, .ref b0), (1, .int (nI q)), (2, .int (nI ab)), (3, .int (nI (Bool.toNat cl))), (4, .int (nI (Bool.toNat mr3))), (5, .int (nI m2)), (6, .int (nI a2)), (7, .int (nI (nx9_11 ((7 * m2) + a2)) - 1))]) d_Md_sound_182 (Nat.le_of_ble_eq_true rfl) [1, 2, 3, 4, 5, 6, 7, 0] rfl ?_
                              refine fk_iload 7 d_Md_sound_184 rfl ?_
                              refine fk_if_ltJ (a := (nx9_11 ((7 * m2) + a2))) (by omega) d_Md_sound_186 rfl (fun h186t => ?_) (fun h186f => ?_)
                              · refine fk_iinc (j := 6) (lv' := [(0, .ref b0), (1, .int (nI q)), (2, .int (nI ab)), (3, .int (nI (Bool.toNat cl))), (4, .int (nI (Bool.toNat mr3))), (5, .int (nI m2)), (6, .int (nI (a2 + 1))), (7, .int (nI (nx9_11 ((7 * m2) + a2)) - 1))]) (a2 + 1) d_Md_sound_220 rfl (nI_1 a2) (Nat.le_of_ble_eq_true rfl) [1, 2, 3, 4, 5, 6, 0, 7] rfl ?_
                                refine fk_goto d_Md_sound_223 rfl ?_
                                refine fk_lv (lv' := [(0, .ref b0), (1, .int (nI q)), (2, .int (nI ab)), (3, .int (nI (Bool.toNat cl))), (4, .int (nI (Bool.toNat mr3))), (5, .int (nI m2)), (6, .int (nI (a2 + 1)))]) [0, 1, 2, 3, 4, 5, 6] rfl ?_
                                refine ih162 _ _ _ ?_ ?_ ?_
                                · first | omega | assumption | exact Nat.zero_le _
                                · first | exact fr_G_t h12 (by omega) hn h166f h186f h196f h206f | exact fr_G_a h12 (by omega) hn h166f (Or.inl h186t) | exact fr_G_a h12 (by omega) hn h166f (Or.inr (Or.inl h196t)) | exact fr_G_a h12 (by omega) hn h166f (Or.inr (Or.inr h206t))
                                · omega
                              · refine fk_aload_n 0 d_Md_sound_189 rfl ?_
                                refine fk_get 0 18 rfl rfl fh_Md (Nat.le_of_ble_eq_true rfl) fw_525 rfl d_Md_sound_190 ?_
                                refine fk_iload 7 d_Md_sound_193 rfl ?_
                                refine fk_top (show (nI (nx9_11 ((7 * m2) + a2)) - 1) = (nI (nx9_11 (7 * m2 + a2) - 1)) from fn_jn h186f) ?_
                                refine fk_ld_az (i := (nx9_11 (7 * m2 + a2) - 1)) 10 rfl (by omega) (by decide) d_Md_sound_195 ?_
                                refine fk_if_eqB (b := (g3_ (nx9_11 (7 * m2 + a2) - 1))) d_Md_sound_196 rfl (fun h196t => ?_) (fun h196f => ?_)
                                · refine fk_iinc (j := 6) (lv' := [(0, .ref b0), (1, .int (nI q)), (2, .int (nI ab)), (3, .int (nI (Bool.toNat cl))), (4, .int (nI (Bool.toNat mr3))), (5, .int (nI m2)), (6, .int (nI (a2 + 1))), (7, .int (nI (nx9_11 ((7 * m2) + a2)) - 1))]) (a2 + 1) d_Md_sound_220 rfl (nI_1 a2) (Nat.le_of_ble_eq_true rfl) [1, 2, 3, 4, 5, 6, 0, 7] rfl ?_
                                  refine fk_goto d_Md_sound_223 rfl ?_
                                  refine fk_lv (lv' := [(0, .ref b0), (1, .int (nI q)), (2, .int (nI ab)), (3, .int (nI (Bool.toNat cl))), (4, .int (nI (Bool.toNat mr3))), (5, .int (nI m2)), (6, .int (nI (a2 + 1)))]) [0, 1, 2, 3, 4, 5, 6] rfl ?_
                                  refine ih162 _ _ _ ?_ ?_ ?_
                                  · first | omega | assumption | exact Nat.zero_le _
                                  · first | exact fr_G_t h12 (by omega) hn h166f h186f h196f h206f | exact fr_G_a h12 (by omega) hn h166f (Or.inl h186t) | exact fr_G_a h12 (by omega) hn h166f (Or.inr (Or.inl h196t)) | exact fr_G_a h12 (by omega) hn h166f (Or.inr (Or.inr h206t))
                                  · omega
                                · refine fk_aload_n 0 d_Md_sound_199 rfl ?_
                                  refine fk_get 0 18 rfl rfl fh_Md (Nat.le_of_ble_eq_true rfl) fw_525 rfl d_Md_sound_200 ?_
                                  refine fk_iload 5 d_Md_sound_203 rfl ?_
                                  refine fk_ld_az (i := m2) 10 rfl (by omega) (by decide) d_Md_sound_205 ?_
                                  refine fk_if_neB (b := (g3_ m2)) d_Md_sound_206 rfl (fun h206t => ?_) (fun h206f => ?_)
                                  · refine fk_iinc (j := 6) (lv' := [(0, .ref b0), (1, .int (nI q)), (2, .int (nI ab)), (3, .int (nI (Bool.toNat cl))), (4, .int (nI (Bool.toNat mr3))), (5, .int (nI m2)), (6, .int (nI (a2 + 1))), (7, .int (nI (nx9_11 ((7 * m2) + a2)) - 1))]) (a2 + 1) d_Md_sound_220 rfl (nI_1 a2) (Nat.le_of_ble_eq_true rfl) [1, 2, 3, 4, 5, 6, 0, 7] rfl ?_
                                    refine fk_goto d_Md_sound_223 rfl ?_
                                    refine fk_lv (lv' := [(0, .ref b0), (1, .int (nI q)), (2, .int (nI ab)), (3, .int (nI (Bool.toNat cl))), (4, .int (nI (Bool.toNat mr3))), (5, .int (nI m2)), (6, .int (nI (a2 + 1)))]) [0, 1, 2, 3, 4, 5, 6] rfl ?_
                                    refine ih162 _ _ _ ?_ ?_ ?_
                                    · first | omega | assumption | exact Nat.zero_le _
                                    · first | exact fr_G_t h12 (by omega) hn h166f h186f h196f h206f | exact fr_G_a h12 (by omega) hn h166f (Or.inl h186t) | exact fr_G_a h12 (by omega) hn h166f (Or.inr (Or.inl h196t)) | exact fr_G_a h12 (by omega) hn h166f (Or.inr (Or.inr h206t))
                                    · omega
                                  · refine fk_aload_n 0 d_Md_sound_209 rfl ?_
                                    refine fk_get 0 18 rfl rfl fh_Md (Nat.le_of_ble_eq_true rfl) fw_525 rfl d_Md_sound_210 ?_
                                    refine fk_iload 5 d_Md_sound_213 rfl ?_
                                    refine fk_iconst (v := nI 1) d_Md_sound_215 (by decide +kernel) ?_
                                    refine fk_st_az (i := m2) (x := true) (w' := [(b0, .inr (6, [.int (nI mt), .ref b1, .ref b2, .ref b3, .ref b4, .ref b5, .ref b6, .ref b7, .ref b8, .ref b9, .int (nI mf), .ref b10, .ref b11, .ref b12, .int (nI my9_11), .int (nI (Bool.toNat mw9_11)), .ref b13, .ref b14, .ref b15])), fk_ai E b3 2 mc, fk_ai E b4 28 mi, fk_ai E b5 28 mu, fk_ai E b6 2 mfi, fk_ai E b7 2 mla, fk_ai E b8 2 mac, fk_ai E b12 16 t1, fk_ab E b13 3216 mk9_11, fk_as E b14 1407 nx9_11, fk_az E b15 201 (va_up g3_ m2 true)]) 10 rfl (by omega) (by decide) d_Md_sound_216 rfl ?_
                                    refine fk_iconst (v := nI 1) d_Md_sound_217 (by decide +kernel) ?_
                                    refine fk_istore (lv' := [(0, .ref b0), (1, .int (nI q)), (2, .int (nI ab)), (3, .int (nI (Bool.toNat cl))), (4, .int (nI 1)), (5, .int (nI m2)), (6, .int (nI a2)), (7, .int (nI (nx9_11 ((7 * m2) + a2)) - 1))]) d_Md_sound_218 (Nat.le_of_ble_eq_true rfl) [1, 2, 3, 4, 0, 5, 6, 7] rfl ?_
                                    refine fk_iinc (j := 6) (lv' := [(0, .ref b0), (1, .int (nI q)), (2, .int (nI ab)), (3, .int (nI (Bool.toNat cl))), (4, .int (nI 1)), (5, .int (nI m2)), (6, .int (nI (a2 + 1))), (7, .int (nI (nx9_11 ((7 * m2) + a2)) - 1))]) (a2 + 1) d_Md_sound_220 rfl (nI_1 a2) (Nat.le_of_ble_eq_true rfl) [1, 2, 3, 4, 5, 6, 0, 7] rfl ?_
                                    refine fk_goto d_Md_sound_223 rfl ?_
                                    refine fk_lv (lv' := [(0, .ref b0), (1, .int (nI q)), (2, .int (nI ab)), (3, .int (nI (Bool.toNat cl))), (4, .int (nI 1)), (5, .int (nI m2)), (6, .int (nI (a2 + 1)))]) [0, 1, 2, 3, 4, 5, 6] rfl ?_
                                    refine ih162 _ true _ ?_ ?_ ?_
                                    · first | omega | assumption | exact Nat.zero_le _
                                    · first | exact fr_G_t h12 (by omega) hn h166f h186f h196f h206f | exact fr_G_a h12 (by omega) hn h166f (Or.inl h186t) | exact fr_G_a h12 (by omega) hn h166f (Or.inr (Or.inl h196t)) | exact fr_G_a h12 (by omega) hn h166f (Or.inr (Or.inr h206t))
                                    · omega
                        refine L162 _ _ _ _ ?_ ?_ (Nat.lt_succ_self _)
                        · first | omega | assumption | exact Nat.zero_le _
                        · exact h10
                  refine L150 _ _ false _ ?_ ?_ (Nat.lt_succ_self _)
                  · first | omega | assumption | exact Nat.zero_le _
                  · exact fr_G_0 h8.2.1
            refine L139 _ true _ ?_ (Nat.lt_succ_self _)
            · exact ⟨fun i hi e => by rw [h4 i hi]; exact decide_eq_true e, fun i hi e => fe_good_0 (of_decide_eq_true ((h4 i hi).symm.trans e)), fun q => absurd q (by decide)⟩
          · refine fk_aload_n 0 d_Md_sound_40 rfl ?_
            refine fk_iload 4 d_Md_sound_41 rfl ?_
            refine fk_callV (q0 := 0) (As := [.int (nI m)]) (rest := []) (is := [0, 7, 8]) (ir := [1, 2, 3, 4, 5, 6, 9, 10]) (ip := [8, 0, 1, 2, 3, 4, 5, 9, 10, 6, 7]) (wc := [(b0, .inr (6, [.int (nI mt), .ref b1, .ref b2, .ref b3, .ref b4, .ref b5, .ref b6, .ref b7, .ref b8, .ref b9, .int (nI mf), .ref b10, .ref b11, .ref b12, .int (nI my9_11), .int (nI (Bool.toNat mw9_11)), .ref b13, .ref b14, .ref b15])), fk_ai E b12 16 t1, fk_ab E b13 3216 mk9_11]) (wr := [fk_ai E b3 2 mc, fk_ai E b4 28 mi, fk_ai E b5 28 mu, fk_ai E b6 2 mfi, fk_ai E b7 2 mla, fk_ai E b8 2 mac, fk_as E b14 1407 nx9_11, fk_az E b15 201 g1_]) (w2 := fun u => [(b0, .inr (6, [.int (nI mt), .ref b1, .ref b2, .ref b3, .ref b4, .ref b5, .ref b6, .ref b7, .ref b8, .ref b9, .int (nI mf), .ref b10, .ref b11, .ref b12, .int (nI my9_11), .int (nI (Bool.toNat mw9_11)), .ref b13, .ref b14, .ref b15])), fk_ai E b3 2 mc, fk_ai E b4 28 mi, fk_ai E b5 28 mu, fk_ai E b6 2 mfi, fk_ai E b7 2 mla, fk_ai E b8 2 mac, fk_ai E b12 16 u, fk_ab E b13 3216 mk9_11, fk_as E b14 1407 nx9_11, fk_az E b15 201 g1_]) (cD_load E b0 b1 b2 b3 b4 b5 b6 b7 b8 b9 b10 b11 b12 b13 b14 b15 mt mf my9_11 mw9_11 t1 mk9_11 m (by first | omega | assumption)) d_Md_sound_43 fz_Md_load fw_682 rfl rfl fw_684 fw_p28 ⟨Nat.le_of_ble_eq_true rfl, Nat.le_of_ble_eq_true rfl⟩ rfl (Nat.le_of_ble_eq_true rfl) ⟨Nat.zero_le _, Nat.zero_le _⟩ ⟨rfl, rfl, rfl, rfl, by decide, fun _ => rfl, rfl⟩ (fun u hu43 => ?_)
            obtain ⟨tk9_43, rfl⟩ : ∃ z, z = u := ⟨_, rfl⟩
            have hq43 : ∀ z, z < 16 → tk9_43 z = mk9_11 (16 * m + z) := hu43
            show fk_V E _ K (0, 0) [(b0, .inr (6, [.int (nI mt), .ref b1, .ref b2, .ref b3, .ref b4, .ref b5, .ref b6, .ref b7, .ref b8, .ref b9, .int (nI mf), .ref b10, .ref b11, .ref b12, .int (nI my9_11), .int (nI (Bool.toNat mw9_11)), .ref b13, .ref b14, .ref b15])), fk_ai E b3 2 mc, fk_ai E b4 28 mi, fk_ai E b5 28 mu, fk_ai E b6 2 mfi, fk_ai E b7 2 mla, fk_ai E b8 2 mac, fk_ai E b12 16 tk9_43, fk_ab E b13 3216 mk9_11, fk_as E b14 1407 nx9_11, fk_az E b15 201 g1_] 46 [(0, .ref b0), (1, .int (nI q)), (2, .int (nI ab)), (3, .int (nI (Bool.toNat cl))), (4, .int (nI m))] []
            have g1 : fr_T tk9_43 ((fe_run (fr_O mc mu mfi q) (fr_I mc mi mla q) (fr_me mc mi mu mfi mla mac q) 1400).2.1 m) := fun z hz => by rw [hq43 z hz, hM m (by omega) z hz]
            have g2 : tk9_43 15 = fm_dg ((fe_run (fr_O mc mu mfi q) (fr_I mc mi mla q) (fr_me mc mi mu mfi mla mac q) 1400).2.1 m) 1 := g1 15 (by decide)
            have g3 := fr_T_lt g1 (show 15 < 16 by decide)
            refine fk_aload_n 0 d_Md_sound_46 rfl ?_
            refine fk_get 0 18 rfl rfl fh_Md (Nat.le_of_ble_eq_true rfl) fw_525 rfl d_Md_sound_47 ?_
            refine fk_iload 4 d_Md_sound_50 rfl ?_
            refine fk_aload_n 0 d_Md_sound_52 rfl ?_
            refine fk_callV (q0 := 0) (As := []) (rest := [.int (nI m), .ref b15]) (is := [0, 7]) (ir := [1, 2, 3, 4, 5, 6, 8, 9, 10]) (ip := [9, 0, 1, 2, 3, 4, 5, 10, 6, 7, 8]) (wc := [(b0, .inr (6, [.int (nI mt), .ref b1, .ref b2, .ref b3, .ref b4, .ref b5, .ref b6, .ref b7, .ref b8, .ref b9, .int (nI mf), .ref b10, .ref b11, .ref b12, .int (nI my9_11), .int (nI (Bool.toNat mw9_11)), .ref b13, .ref b14, .ref b15])), fk_ai E b12 16 tk9_43]) (wr := [fk_ai E b3 2 mc, fk_ai E b4 28 mi, fk_ai E b5 28 mu, fk_ai E b6 2 mfi, fk_ai E b7 2 mla, fk_ai E b8 2 mac, fk_ab E b13 3216 mk9_11, fk_as E b14 1407 nx9_11, fk_az E b15 201 g1_]) (w2 := fun _ => [(b0, .inr (6, [.int (nI mt), .ref b1, .ref b2, .ref b3, .ref b4, .ref b5, .ref b6, .ref b7, .ref b8, .ref b9, .int (nI mf), .ref b10, .ref b11, .ref b12, .int (nI my9_11), .int (nI (Bool.toNat mw9_11)), .ref b13, .ref b14, .ref b15])), fk_ai E b3 2 mc, fk_ai E b4 28 mi, fk_ai E b5 28 mu, fk_ai E b6 2 mfi, fk_ai E b7 2 mla, fk_ai E b8 2 mac, fk_ai E b12 16 tk9_43, fk_ab E b13 3216 mk9_11, fk_as E b14 1407 nx9_11, fk_az E b15 201 g1_]) (cD_isFinal E b0 b1 b2 b3 b4 b5 b6 b7 b8 b9 b10 b11 b12 b13 b14 b15 mt mf my9_11 mw9_11 tk9_43 ((fe_run (fr_O mc mu mfi q) (fr_I mc mi mla q) (fr_me mc mi mu mfi mla mac q) 1400).2.1 m) g1 ((hV.2.1 m (by omega)).1)) d_Md_sound_53 fz_Md_isFinal fw_666 rfl rfl fw_668 fw_p25 ⟨Nat.le_of_ble_eq_true rfl, Nat.le_of_ble_eq_true rfl⟩ rfl (Nat.le_of_ble_eq_true rfl) ⟨Nat.zero_le _, Nat.zero_le _⟩ ⟨rfl, rfl, rfl, rfl, by decide, fun _ => rfl, rfl⟩ (fun u hu53 => ?_)
            show fk_V E _ K (0, 0) [(b0, .inr (6, [.int (nI mt), .ref b1, .ref b2, .ref b3, .ref b4, .ref b5, .ref b6, .ref b7, .ref b8, .ref b9, .int (nI mf), .ref b10, .ref b11, .ref b12, .int (nI my9_11), .int (nI (Bool.toNat mw9_11)), .ref b13, .ref b14, .ref b15])), fk_ai E b3 2 mc, fk_ai E b4 28 mi, fk_ai E b5 28 mu, fk_ai E b6 2 mfi, fk_ai E b7 2 mla, fk_ai E b8 2 mac, fk_ai E b12 16 tk9_43, fk_ab E b13 3216 mk9_11, fk_as E b14 1407 nx9_11, fk_az E b15 201 g1_] 56 [(0, .ref b0), (1, .int (nI q)), (2, .int (nI ab)), (3, .int (nI (Bool.toNat cl))), (4, .int (nI m))] [.int (nI (Bool.toNat (decide (((fe_run (fr_O mc mu mfi q) (fr_I mc mi mla q) (fr_me mc mi mu mfi mla mac q) 1400).2.1 m) = 16)))), .int (nI m), .ref b15]
            refine fk_st_az (i := m) (x := (decide (((fe_run (fr_O mc mu mfi q) (fr_I mc mi mla q) (fr_me mc mi mu mfi mla mac q) 1400).2.1 m) = 16))) (w' := [(b0, .inr (6, [.int (nI mt), .ref b1, .ref b2, .ref b3, .ref b4, .ref b5, .ref b6, .ref b7, .ref b8, .ref b9, .int (nI mf), .ref b10, .ref b11, .ref b12, .int (nI my9_11), .int (nI (Bool.toNat mw9_11)), .ref b13, .ref b14, .ref b15])), fk_ai E b3 2 mc, fk_ai E b4 28 mi, fk_ai E b5 28 mu, fk_ai E b6 2 mfi, fk_ai E b7 2 mla, fk_ai E b8 2 mac, fk_ai E b12 16 tk9_43, fk_ab E b13 3216 mk9_11, fk_as E b14 1407 nx9_11, fk_az E b15 201 (va_up g1_ m (decide (((fe_run (fr_O mc mu mfi q) (fr_I mc mi mla q) (fr_me mc mi mu mfi mla mac q) 1400).2.1 m) = 16)))]) 10 rfl (by omega) (by decide) d_Md_sound_56 rfl ?_
            have L86 : ∀ (cl2 : Bool), (cl2 = (cl && (fun i => decide (fm_dg ((fe_run (fr_O mc mu mfi q) (fr_I mc mi mla q) (fr_me mc mi mu mfi mla mac q) 1400).2.1 i) 1 = 0) || decide ((fe_run (fr_O mc mu mfi q) (fr_I mc mi mla q) (fr_me mc mi mu mfi mla mac q) 1400).2.1 i = 16)) m)) → fk_V E (prog_8_method_32_code, fy_Md_sound.cls, 8, fk_rm 4 0 0) K (0, 0) [(b0, .inr (6, [.int (nI mt), .ref b1, .ref b2, .ref b3, .ref b4, .ref b5, .ref b6, .ref b7, .ref b8, .ref b9, .int (nI mf), .ref b10, .ref b11, .ref b12, .int (nI my9_11), .int (nI (Bool.toNat mw9_11)), .ref b13, .ref b14, .ref b15])), fk_ai E b3 2 mc, fk_ai E b4 28 mi, fk_ai E b5 28 mu, fk_ai E b6 2 mfi, fk_ai E b7 2 mla, fk_ai E b8 2 mac, fk_ai E b12 16 tk9_43, fk_ab E b13 3216 mk9_11, fk_as E b14 1407 nx9_11, fk_az E b15 201 (va_up g1_ m (decide (((fe_run (fr_O mc mu mfi q) (fr_I mc mi mla q) (fr_me mc mi mu mfi mla mac q) 1400).2.1 m) = 16)))] 86 [(0, .ref b0), (1, .int (nI q)), (2, .int (nI ab)), (3, .int (nI (Bool.toNat cl))), (4, .int (nI m))] [.int (nI (Bool.toNat cl2))] := by
              intro cl2 h5
              refine fk_istore_n (lv' := [(0, .ref b0), (1, .int (nI q)), (2, .int (nI ab)), (3, .int (nI (Bool.toNat cl2))), (4, .int (nI m))]) d_Md_sound_86 rfl (Nat.le_of_ble_eq_true rfl) [1, 2, 3, 0, 4] rfl ?_
              refine fk_iconst (v := nI 0) d_Md_sound_87 (by decide +kernel) ?_
              refine fk_istore (lv' := [(0, .ref b0), (1, .int (nI q)), (2, .int (nI ab)), (3, .int (nI (Bool.toNat cl2))), (4, .int (nI m)), (5, .int (nI 0))]) d_Md_sound_88 (Nat.le_of_ble_eq_true rfl) [1, 2, 3, 4, 5, 0] rfl ?_
              have L90 : ∀ (fuel : Nat) (ab2 : Nat) (a : Nat), (a ≤ 7) → (ab2 < 128) → (∀ z, z < 7 → ab2.testBit z = (fs_any (fun i => decide (0 < nx9_11 (7 * i + z))) m || (decide (z < a) && decide (0 < nx9_11 (7 * m + z))))) → 7 - a < fuel → fk_V E (prog_8_method_32_code, fy_Md_sound.cls, 8, fk_rm 4 0 0) K (0, 0) [(b0, .inr (6, [.int (nI mt), .ref b1, .ref b2, .ref b3, .ref b4, .ref b5, .ref b6, .ref b7, .ref b8, .ref b9, .int (nI mf), .ref b10, .ref b11, .ref b12, .int (nI my9_11), .int (nI (Bool.toNat mw9_11)), .ref b13, .ref b14, .ref b15])), fk_ai E b3 2 mc, fk_ai E b4 28 mi, fk_ai E b5 28 mu, fk_ai E b6 2 mfi, fk_ai E b7 2 mla, fk_ai E b8 2 mac, fk_ai E b12 16 tk9_43, fk_ab E b13 3216 mk9_11, fk_as E b14 1407 nx9_11, fk_az E b15 201 (va_up g1_ m (decide (((fe_run (fr_O mc mu mfi q) (fr_I mc mi mla q) (fr_me mc mi mu mfi mla mac q) 1400).2.1 m) = 16)))] 90 [(0, .ref b0), (1, .int (nI q)), (2, .int (nI ab2)), (3, .int (nI (Bool.toNat cl2))), (4, .int (nI m)), (5, .int (nI a))] [] := by
                intro fuel
                induction fuel with
                | zero => intro ab2 a _ _ _ hm; exact absurd hm (Nat.not_lt_zero _)
                | succ fuel ih =>
                  intro ab2 a h6 h6a h7 hm90
                  have ih90 := ih
                  clear ih
                  refine fk_iload 5 d_Md_sound_90 rfl ?_
                  refine fk_bipush (v := nI 7) d_Md_sound_92 (by decide +kernel) ?_
                  refine fk_icmp_ge (a := a) (b := 7) (by omega) (by omega) d_Md_sound_94 rfl (fun h94t => ?_) (fun h94f => ?_)
                  · refine fk_iinc (j := 4) (lv' := [(0, .ref b0), (1, .int (nI q)), (2, .int (nI ab2)), (3, .int (nI (Bool.toNat cl2))), (4, .int (nI (m + 1))), (5, .int (nI a))]) (m + 1) d_Md_sound_130 rfl (nI_1 m) (Nat.le_of_ble_eq_true rfl) [1, 2, 3, 4, 0, 5] rfl ?_
                    refine fk_goto d_Md_sound_133 rfl ?_
                    refine fk_lv (lv' := [(0, .ref b0), (1, .int (nI q)), (2, .int (nI ab2)), (3, .int (nI (Bool.toNat cl2))), (4, .int (nI (m + 1)))]) [0, 1, 2, 3, 4] rfl ?_
                    refine ih31 _ _ _ _ _ ?_ ?_ ?_ ?_ ?_ ?_
                    · first | omega | assumption | exact Nat.zero_le _
                    · first | omega | assumption | exact Nat.zero_le _
                    · intro z hz
                      rw [h7 z hz, show a = 7 by omega, decide_eq_true hz, Bool.true_and]
                      rfl
                    · rw [h5, h3]
                      rfl
                    · intro i hi
                      by_cases e : i = m
                      · rw [e, va_up_self]
                      · rw [va_up_ne _ _ e]; exact h4 i (by omega)
                    · omega
                  · have g5 := fb_pow_lt h94f
                    have g6 := hn (7 * m + a) (by omega)
                    refine fk_iload_n 2 d_Md_sound_97 rfl ?_
                    refine fk_aload_n 0 d_Md_sound_98 rfl ?_
                    refine fk_get 0 17 rfl rfl fh_Md (Nat.le_of_ble_eq_true rfl) fw_524 rfl d_Md_sound_99 ?_
                    refine fk_bipush (v := nI 7) d_Md_sound_102 (by decide +kernel) ?_
                    refine fk_iload 4 d_Md_sound_104 rfl ?_
                    refine fk_imul (a := 7) (b := m) d_Md_sound_106 ?_
                    refine fk_iload 5 d_Md_sound_107 rfl ?_
                    refine fk_iadd (a := (7 * m)) (b := a) d_Md_sound_109 ?_
                    refine fk_ld_as (i := ((7 * m) + a)) 9 rfl (by omega) (by decide) d_Md_sound_110 ?_
                    refine fk_if_ltJ (a := (nx9_11 ((7 * m) + a))) (by omega) d_Md_sound_111 rfl (fun h111t => ?_) (fun h111f => ?_)
                    · refine fk_iconst (v := nI 0) d_Md_sound_121 (by decide +kernel) ?_
                      refine fk_ior (a := ab2) (b := 0) d_Md_sound_122 ?_
                      refine fk_istore_n (lv' := [(0, .ref b0), (1, .int (nI q)), (2, .int (nI (ab2 ||| 0))), (3, .int (nI (Bool.toNat cl2))), (4, .int (nI m)), (5, .int (nI a))]) d_Md_sound_123 rfl (Nat.le_of_ble_eq_true rfl) [1, 2, 0, 3, 4, 5] rfl ?_
                      refine fk_iinc (j := 5) (lv' := [(0, .ref b0), (1, .int (nI q)), (2, .int (nI (ab2 ||| 0))), (3, .int (nI (Bool.toNat cl2))), (4, .int (nI m)), (5, .int (nI (a + 1)))]) (a + 1) d_Md_sound_124 rfl (nI_1 a) (Nat.le_of_ble_eq_true rfl) [1, 2, 3, 4, 5, 0] rfl ?_
                      refine fk_goto d_Md_sound_127 rfl ?_
                      refine ih90 _ _ ?_ ?_ ?_ ?_
                      · first | omega | assumption | exact Nat.zero_le _
                      · first | exact fb_or_lt h6a g5 | (rw [Nat.or_zero]; exact h6a)
                      · intro z hz
                        by_cases e : z = a
                        · subst e
                          first | (rw [fb_or_bit, h7 z hz, decide_eq_true h111f]; simp; done) | (rw [Nat.or_zero, h7 z hz, h111t]; simp)
                        · have e2 : decide (z < a + 1) = decide (z < a) := decide_eq_decide.mpr (by omega)
                          rw [e2]
                          first | (rw [fb_or_bit, h7 z hz, decide_eq_false (show ¬ a = z from fun q => e q.symm), Bool.or_false]; done) | rw [Nat.or_zero, h7 z hz]
                      · omega
                    · refine fk_iconst (v := nI 1) d_Md_sound_114 (by decide +kernel) ?_
                      refine fk_iload 5 d_Md_sound_115 rfl ?_
                      refine fk_ishl (a := 1) (b := a) d_Md_sound_117 (by omega) (by omega) ?_
                      refine fk_top (show nI (1 * 2 ^ a) = nI (2 ^ a) by rw [Nat.one_mul]) ?_
                      refine fk_goto d_Md_sound_118 rfl ?_
                      refine fk_ior (a := ab2) (b := (2 ^ a)) d_Md_sound_122 ?_
                      refine fk_istore_n (lv' := [(0, .ref b0), (1, .int (nI q)), (2, .int (nI (ab2 ||| (2 ^ a)))), (3, .int (nI (Bool.toNat cl2))), (4, .int (nI m)), (5, .int (nI a))]) d_Md_sound_123 rfl (Nat.le_of_ble_eq_true rfl) [1, 2, 0, 3, 4, 5] rfl ?_
                      refine fk_iinc (j := 5) (lv' := [(0, .ref b0), (1, .int (nI q)), (2, .int (nI (ab2 ||| (2 ^ a)))), (3, .int (nI (Bool.toNat cl2))), (4, .int (nI m)), (5, .int (nI (a + 1)))]) (a + 1) d_Md_sound_124 rfl (nI_1 a) (Nat.le_of_ble_eq_true rfl) [1, 2, 3, 4, 5, 0] rfl ?_
                      refine fk_goto d_Md_sound_127 rfl ?_
                      refine ih90 _ _ ?_ ?_ ?_ ?_
                      · first | omega | assumption | exact Nat.zero_le _
                      · first | exact fb_or_lt h6a g5 | (rw [Nat.or_zero]; exact h6a)
                      · intro z hz
                        by_cases e : z = a
                        · subst e
                          first | (rw [fb_or_bit, h7 z hz, decide_eq_true h111f]; simp; done) | (rw [Nat.or_zero, h7 z hz, h111t]; simp)
                        · have e2 : decide (z < a + 1) = decide (z < a) := decide_eq_decide.mpr (by omega)
                          rw [e2]
                          first | (rw [fb_or_bit, h7 z hz, decide_eq_false (show ¬ a = z from fun q => e q.symm), Bool.or_false]; done) | rw [Nat.or_zero, h7 z hz]
                      · omega
              refine L90 _ _ _ ?_ ?_ ?_ (Nat.lt_succ_self _)
              · first | omega | assumption | exact Nat.zero_le _
              · first | omega | assumption | exact Nat.zero_le _
              · intro z hz
                rw [h2 z hz]
                simp
            refine fk_iload_n 3 d_Md_sound_57 rfl ?_
            refine fk_if_eqB (b := cl) d_Md_sound_58 rfl (fun h58t => ?_) (fun h58f => ?_)
            · refine fk_iconst (v := nI 0) d_Md_sound_85 (by decide +kernel) ?_
              refine L86 false ?_
              · first | rw [h58t, Bool.false_and] | (rw [h58f]; show true = (true && (decide (fm_dg _ 1 = 0) || _)); rw [← g2, h68t]; rfl) | (rw [h58f]; show true = (true && (_ || decide (_ = 16))); rw [h78f]; simp; done) | (rw [h58f]; show false = (true && (decide (fm_dg _ 1 = 0) || decide (_ = 16))); rw [h78t, ← g2, decide_eq_false h68f]; rfl)
            · refine fk_aload_n 0 d_Md_sound_61 rfl ?_
              refine fk_get 0 13 rfl rfl fh_Md (Nat.le_of_ble_eq_true rfl) fw_520 rfl d_Md_sound_62 ?_
              refine fk_bipush (v := nI 15) d_Md_sound_65 (by decide +kernel) ?_
              refine fk_ld_ai (i := 15) 7 rfl (by omega) (by decide) d_Md_sound_67 ?_
              refine fk_if_eq (a := (tk9_43 15)) (by omega) d_Md_sound_68 rfl (fun h68t => ?_) (fun h68f => ?_)
              · refine fk_iconst (v := nI 1) d_Md_sound_81 (by decide +kernel) ?_
                refine fk_goto d_Md_sound_82 rfl ?_
                refine L86 true ?_
                · first | rw [h58t, Bool.false_and] | (rw [h58f]; show true = (true && (decide (fm_dg _ 1 = 0) || _)); rw [← g2, h68t]; rfl) | (rw [h58f]; show true = (true && (_ || decide (_ = 16))); rw [h78f]; simp; done) | (rw [h58f]; show false = (true && (decide (fm_dg _ 1 = 0) || decide (_ = 16))); rw [h78t, ← g2, decide_eq_false h68f]; rfl)
              · refine fk_aload_n 0 d_Md_sound_71 rfl ?_
                refine fk_get 0 18 rfl rfl fh_Md (Nat.le_of_ble_eq_true rfl) fw_525 rfl d_Md_sound_72 ?_
                refine fk_iload 4 d_Md_sound_75 rfl ?_
                refine fk_ld_az (i := m) 10 rfl (by omega) (by decide) d_Md_sound_77 ?_
                refine fk_top (congrArg (fun b : Bool => nI b.toNat) (va_up_self _ _ _)) ?_
                refine fk_if_eqB (b := (decide (((fe_run (fr_O mc mu mfi q) (fr_I mc mi mla q) (fr_me mc mi mu mfi mla mac q) 1400).2.1 m) = 16))) d_Md_sound_78 rfl (fun h78t => ?_) (fun h78f => ?_)
                · refine fk_iconst (v := nI 0) d_Md_sound_85 (by decide +kernel) ?_
                  refine L86 false ?_
                  · first | rw [h58t, Bool.false_and] | (rw [h58f]; show true = (true && (decide (fm_dg _ 1 = 0) || _)); rw [← g2, h68t]; rfl) | (rw [h58f]; show true = (true && (_ || decide (_ = 16))); rw [h78f]; simp; done) | (rw [h58f]; show false = (true && (decide (fm_dg _ 1 = 0) || decide (_ = 16))); rw [h78t, ← g2, decide_eq_false h68f]; rfl)
                · refine fk_iconst (v := nI 1) d_Md_sound_81 (by decide +kernel) ?_
                  refine fk_goto d_Md_sound_82 rfl ?_
                  refine L86 true ?_
                  · first | rw [h58t, Bool.false_and] | (rw [h58f]; show true = (true && (decide (fm_dg _ 1 = 0) || _)); rw [← g2, h68t]; rfl) | (rw [h58f]; show true = (true && (_ || decide (_ = 16))); rw [h78f]; simp; done) | (rw [h58f]; show false = (true && (decide (fm_dg _ 1 = 0) || decide (_ = 16))); rw [h78t, ← g2, decide_eq_false h68f]; rfl)
      refine L31 _ _ true _ _ _ ?_ ?_ ?_ ?_ ?_ (Nat.lt_succ_self _)
      · first | omega | assumption | exact Nat.zero_le _
      · decide
      · exact fun a _ => Nat.zero_testBit a
      · rfl
      · exact fun i hi => absurd hi (Nat.not_lt_zero i)
    · have z := hq11.1 h18f
      rw [hw] at z; exact absurd z (by decide)
  · exact absurd (of_decide_eq_true h4f) (by omega)
