set_option maxRecDepth 20000 in
set_option maxHeartbeats 8000000 in
theorem lw_loop (E : fk_E) (K : fk_K) (x0 a0 a1 a2 a3 n0 n1 n2 n3 n4 m0 m1 m2 m3 m4 i0 i1 i2 i3 i4 r0 r1 r2 r3 r4 p0 p1 b0 b1 b2 b3 b4 b5 b6 b7 b8 b9 b10 b11 b12 b13 b14 b15 bb L : Nat) (xs : Nat → Int32) (hX : fk_scr K bb L xs) (hL : L ≤ 1536) (hend : ∀ (w : va_W) (lv : List (Nat × Value)), fk_V E (code, "FootprintNetLaw", 4, room_1) K (43, 8385) w 614 lv [.int (nI 1)]) : ∀ (fuel zz : Nat) (tr : Nat) (len ev fo : Nat → Nat) (cnt fi la lo me : Nat) (ins outs tk pu : Nat → Nat) (cn2 fi2 la2 lo2 me2 : Nat) (in2 ou2 tk2 pu2 : Nat → Nat) (pr : Nat) (eff : Nat → Nat) (stg : Nat → Bool) (pin pou : Nat → Nat) (c eve : Nat) (sn sl nx : Nat → Nat) (en : Nat → Bool) (pc : Nat) (fr : Nat → Nat) (mt mf my : Nat) (mw : Bool) (mln mev mc mi mu mfi mla mac mtb mfx mfy mtk mmk mnx : Nat → Nat) (mgd : Nat → Bool), rl_log tr len ev fo mt mln mev → rl_net cnt fi la me ins outs tk pu 0 mc mi mu mfi mla mac → rl_net cn2 fi2 la2 me2 in2 ou2 tk2 pu2 1 mc mi mu mfi mla mac → rl_bd mc mi mu mfi mla mac → lo = 0 → zz ≤ L + 3 → L + 4 - zz < fuel → fk_V E (code, "FootprintNetLaw", 4, room_1) K (43, 8385) [(x0, .inr (0, [.ref a0, .ref n0, .ref m0, .ref i0, .ref r0, .ref p0])), (a0, .inr (1, [.ref a1, .ref a2, .ref a3, .int (nI tr)])), fk_ai E a1 20 len, fk_ai E a2 300 ev, fk_ai E a3 7 fo, (n0, .inr (2, [.ref n1, .ref n2, .ref n3, .ref n4, .int (nI cnt), .int (nI fi), .int (nI la), .int (nI lo), .int (nI me)])), fk_ai E n1 14 ins, fk_ai E n2 14 outs, fk_al E n3 7 tk, fk_al E n4 7 pu, (m0, .inr (2, [.ref m1, .ref m2, .ref m3, .ref m4, .int (nI cn2), .int (nI fi2), .int (nI la2), .int (nI lo2), .int (nI me2)])), fk_ai E m1 14 in2, fk_ai E m2 14 ou2, fk_al E m3 7 tk2, fk_al E m4 7 pu2, (i0, .inr (3, [.ref i1, .ref i2, .ref i3, .ref i4, .int (nI pr)])), fk_ai E i1 128 eff, fk_az E i2 128 stg, fk_ai E i3 14 pin, fk_ai E i4 14 pou, (r0, .inr (4, [.ref r1, .ref r2, .ref r3, .ref r4, .int (nI c), .int (nI eve)])), fk_al E r1 200 sn, fk_aj E r2 512 sl, fk_aj E r3 1400 nx, fk_az E r4 200 en, (p0, .inr (5, [.ref p1, .int (nI pc)])), fk_ai E p1 15 fr, (b0, .inr (6, [.int (nI mt), .ref b1, .ref b2, .ref b3, .ref b4, .ref b5, .ref b6, .ref b7, .ref b8, .ref b9, .int (nI mf), .ref b10, .ref b11, .ref b12, .int (nI my), .int (nI (Bool.toNat mw)), .ref b13, .ref b14, .ref b15])), fk_ai E b1 20 mln, fk_ai E b2 300 mev, fk_ai E b3 2 mc, fk_ai E b4 28 mi, fk_ai E b5 28 mu, fk_ai E b6 2 mfi, fk_ai E b7 2 mla, fk_ai E b8 2 mac, fk_ai E b9 49 mtb, fk_ai E b10 15 mfx, fk_ai E b11 15 mfy, fk_ai E b12 16 mtk, fk_ab E b13 3216 mmk, fk_as E b14 1407 mnx, fk_az E b15 201 mgd] 18 [(0, .ref bb), (1, .ref x0), (2, .ref b0), (3, .int (nI zz))] [] := by
  intro fuel
  induction fuel with
  | zero => intro zz tr len ev fo cnt fi la lo me ins outs tk pu cn2 fi2 la2 lo2 me2 in2 ou2 tk2 pu2 pr eff stg pin pou c eve sn sl nx en pc fr mt mf my mw mln mev mc mi mu mfi mla mac mtb mfx mfy mtk mmk mnx mgd _ _ _ _ _ _ hm; exact absurd hm (Nat.not_lt_zero _)
  | succ fuel ih =>
    intro zz tr len ev fo cnt fi la lo me ins outs tk pu cn2 fi2 la2 lo2 me2 in2 ou2 tk2 pu2 pr eff stg pin pou c eve sn sl nx en pc fr mt mf my mw mln mev mc mi mu mfi mla mac mtb mfx mfy mtk mmk mnx mgd hG hA hB hD hO hz9 hm
    have hL2 : L < 2 ^ 31 := by omega
    refine fk_iload_n 3 d_Lw_law_18 rfl ?_
    refine fk_aload_n 0 d_Lw_law_19 rfl ?_
    refine fk_slen hX d_Lw_law_20 ?_
    refine fk_iconst (v := nI 3) d_Lw_law_21 (by decide +kernel) ?_
    refine fk_isubR d_Lw_law_22 ?_
    refine fk_icmp_gtR d_Lw_law_23 rfl (fun _ => ?_) (fun hf => ?_)
    · refine fk_iconst (v := nI 1) d_Lw_law_613 (by decide +kernel) ?_
      exact hend _ _
    · have hz : zz + 2 < L := by
        have q1 := pk_sub_toInt (a := L) (b := 3) (by omega) (by omega)
        have q2 := nI_toInt (n := zz) (by omega)
        have q3 : ¬ (nI L - nI 3).toInt < (nI zz).toInt := fun h => hf (Int32.lt_iff_toInt_lt.mpr h)
        rw [q1, q2] at q3
        omega
      have hk : ∀ (tr : Nat) (len ev fo : Nat → Nat) (cnt fi la lo me : Nat) (ins outs tk pu : Nat → Nat) (cn2 fi2 la2 lo2 me2 : Nat) (in2 ou2 tk2 pu2 : Nat → Nat) (pr : Nat) (eff : Nat → Nat) (stg : Nat → Bool) (pin pou : Nat → Nat) (c eve : Nat) (sn sl nx : Nat → Nat) (en : Nat → Bool) (pc : Nat) (fr : Nat → Nat) (mt mf my : Nat) (mw : Bool) (mln mev mc mi mu mfi mla mac mtb mfx mfy mtk mmk mnx : Nat → Nat) (mgd : Nat → Bool), rl_log tr len ev fo mt mln mev → rl_net cnt fi la me ins outs tk pu 0 mc mi mu mfi mla mac → rl_net cn2 fi2 la2 me2 in2 ou2 tk2 pu2 1 mc mi mu mfi mla mac → rl_bd mc mi mu mfi mla mac → lo = 0 → fk_V E (code, "FootprintNetLaw", 4, room_1) K (43, 8385) [(x0, .inr (0, [.ref a0, .ref n0, .ref m0, .ref i0, .ref r0, .ref p0])), (a0, .inr (1, [.ref a1, .ref a2, .ref a3, .int (nI tr)])), fk_ai E a1 20 len, fk_ai E a2 300 ev, fk_ai E a3 7 fo, (n0, .inr (2, [.ref n1, .ref n2, .ref n3, .ref n4, .int (nI cnt), .int (nI fi), .int (nI la), .int (nI lo), .int (nI me)])), fk_ai E n1 14 ins, fk_ai E n2 14 outs, fk_al E n3 7 tk, fk_al E n4 7 pu, (m0, .inr (2, [.ref m1, .ref m2, .ref m3, .ref m4, .int (nI cn2), .int (nI fi2), .int (nI la2), .int (nI lo2), .int (nI me2)])), fk_ai E m1 14 in2, fk_ai E m2 14 ou2, fk_al E m3 7 tk2, fk_al E m4 7 pu2, (i0, .inr (3, [.ref i1, .ref i2, .ref i3, .ref i4, .int (nI pr)])), fk_ai E i1 128 eff, fk_az E i2 128 stg, fk_ai E i3 14 pin, fk_ai E i4 14 pou, (r0, .inr (4, [.ref r1, .ref r2, .ref r3, .ref r4, .int (nI c), .int (nI eve)])), fk_al E r1 200 sn, fk_aj E r2 512 sl, fk_aj E r3 1400 nx, fk_az E r4 200 en, (p0, .inr (5, [.ref p1, .int (nI pc)])), fk_ai E p1 15 fr, (b0, .inr (6, [.int (nI mt), .ref b1, .ref b2, .ref b3, .ref b4, .ref b5, .ref b6, .ref b7, .ref b8, .ref b9, .int (nI mf), .ref b10, .ref b11, .ref b12, .int (nI my), .int (nI (Bool.toNat mw)), .ref b13, .ref b14, .ref b15])), fk_ai E b1 20 mln, fk_ai E b2 300 mev, fk_ai E b3 2 mc, fk_ai E b4 28 mi, fk_ai E b5 28 mu, fk_ai E b6 2 mfi, fk_ai E b7 2 mla, fk_ai E b8 2 mac, fk_ai E b9 49 mtb, fk_ai E b10 15 mfx, fk_ai E b11 15 mfy, fk_ai E b12 16 mtk, fk_ab E b13 3216 mmk, fk_as E b14 1407 mnx, fk_az E b15 201 mgd] 607 [(0, .ref bb), (1, .ref x0), (2, .ref b0), (3, .int (nI zz))] [] := by
        intro tr len ev fo cnt fi la lo me ins outs tk pu cn2 fi2 la2 lo2 me2 in2 ou2 tk2 pu2 pr eff stg pin pou c eve sn sl nx en pc fr mt mf my mw mln mev mc mi mu mfi mla mac mtb mfx mfy mtk mmk mnx mgd hG hA hB hD hO
        refine fk_iinc (j := 3) (lv' := [(0, .ref bb), (1, .ref x0), (2, .ref b0), (3, .int (nI (zz + 3)))]) (zz + 3) d_Lw_law_607 rfl (nI_add zz 3) (Nat.le_of_ble_eq_true rfl) [1, 2, 3, 0] rfl ?_
        refine fk_goto d_Lw_law_610 rfl ?_
        exact ih (zz + 3) tr len ev fo cnt fi la lo me ins outs tk pu cn2 fi2 la2 lo2 me2 in2 ou2 tk2 pu2 pr eff stg pin pou c eve sn sl nx en pc fr mt mf my mw mln mev mc mi mu mfi mla mac mtb mfx mfy mtk mmk mnx mgd hG hA hB hD hO (by omega) (by omega)
      refine fk_aload_n 0 d_Lw_law_26 rfl ?_
      refine fk_iload_n 3 d_Lw_law_27 rfl ?_
      refine fk_sld hX (show zz < L by omega) hL2 d_Lw_law_28 ?_
      refine fk_bipush (v := nI 31) d_Lw_law_29 (by decide +kernel) ?_
      refine fk_iandR d_Lw_law_31 ?_
      obtain ⟨j, hj, ej⟩ := pk_andE (xs zz) (m := nI 31) 5 (by decide +kernel)
      refine fk_top ej ?_
      have hj2 : j < 32 := hj
      clear ih hm hz9 ej hj
      rcases (show j = 0 ∨ j = 1 ∨ j = 2 ∨ j = 3 ∨ j = 4 ∨ j = 5 ∨ j = 6 ∨ j = 7 ∨ j = 8 ∨ j = 9 ∨ j = 10 ∨ j = 11 ∨ j = 12 ∨ j = 13 ∨ j = 14 ∨ j = 15 ∨ j = 16 ∨ j = 17 ∨ j = 18 ∨ 19 ≤ j by omega) with e | e | e | e | e | e | e | e | e | e | e | e | e | e | e | e | e | e | e | e
      · subst e
        refine fk_tabIn (off := 92) (tgt := 124) d_Lw_law_32 (by decide +kernel) (by decide +kernel) (by decide +kernel) rfl ?_
        exact lw_o124 E K x0 a0 a1 a2 a3 n0 n1 n2 n3 n4 m0 m1 m2 m3 m4 i0 i1 i2 i3 i4 r0 r1 r2 r3 r4 p0 p1 b0 b1 b2 b3 b4 b5 b6 b7 b8 b9 b10 b11 b12 b13 b14 b15 bb L zz xs hX hL2 hz hk tr len ev fo cnt fi la lo me ins outs tk pu cn2 fi2 la2 lo2 me2 in2 ou2 tk2 pu2 pr eff stg pin pou c eve sn sl nx en pc fr mt mf my mw mln mev mc mi mu mfi mla mac mtb mfx mfy mtk mmk mnx mgd hG hA hB hD hO
      · subst e
        refine fk_tabIn (off := 105) (tgt := 137) d_Lw_law_32 (by decide +kernel) (by decide +kernel) (by decide +kernel) rfl ?_
        exact lw_o137 E K x0 a0 a1 a2 a3 n0 n1 n2 n3 n4 m0 m1 m2 m3 m4 i0 i1 i2 i3 i4 r0 r1 r2 r3 r4 p0 p1 b0 b1 b2 b3 b4 b5 b6 b7 b8 b9 b10 b11 b12 b13 b14 b15 bb L zz xs hX hL2 hz hk tr len ev fo cnt fi la lo me ins outs tk pu cn2 fi2 la2 lo2 me2 in2 ou2 tk2 pu2 pr eff stg pin pou c eve sn sl nx en pc fr mt mf my mw mln mev mc mi mu mfi mla mac mtb mfx mfy mtk mmk mnx mgd hG hA hB hD hO
      · subst e
        refine fk_tabIn (off := 128) (tgt := 160) d_Lw_law_32 (by decide +kernel) (by decide +kernel) (by decide +kernel) rfl ?_
        exact lw_o160 E K x0 a0 a1 a2 a3 n0 n1 n2 n3 n4 m0 m1 m2 m3 m4 i0 i1 i2 i3 i4 r0 r1 r2 r3 r4 p0 p1 b0 b1 b2 b3 b4 b5 b6 b7 b8 b9 b10 b11 b12 b13 b14 b15 bb L zz xs hX hL2 hz hk tr len ev fo cnt fi la lo me ins outs tk pu cn2 fi2 la2 lo2 me2 in2 ou2 tk2 pu2 pr eff stg pin pou c eve sn sl nx en pc fr mt mf my mw mln mev mc mi mu mfi mla mac mtb mfx mfy mtk mmk mnx mgd hG hA hB hD hO
      · subst e
        refine fk_tabIn (off := 139) (tgt := 171) d_Lw_law_32 (by decide +kernel) (by decide +kernel) (by decide +kernel) rfl ?_
        exact lw_o171 E K x0 a0 a1 a2 a3 n0 n1 n2 n3 n4 m0 m1 m2 m3 m4 i0 i1 i2 i3 i4 r0 r1 r2 r3 r4 p0 p1 b0 b1 b2 b3 b4 b5 b6 b7 b8 b9 b10 b11 b12 b13 b14 b15 bb L zz xs hX hL2 hz hk tr len ev fo cnt fi la lo me ins outs tk pu cn2 fi2 la2 lo2 me2 in2 ou2 tk2 pu2 pr eff stg pin pou c eve sn sl nx en pc fr mt mf my mw mln mev mc mi mu mfi mla mac mtb mfx mfy mtk mmk mnx mgd hG hA hB hD hO
      · subst e
        refine fk_tabIn (off := 162) (tgt := 194) d_Lw_law_32 (by decide +kernel) (by decide +kernel) (by decide +kernel) rfl ?_
        exact lw_o194 E K x0 a0 a1 a2 a3 n0 n1 n2 n3 n4 m0 m1 m2 m3 m4 i0 i1 i2 i3 i4 r0 r1 r2 r3 r4 p0 p1 b0 b1 b2 b3 b4 b5 b6 b7 b8 b9 b10 b11 b12 b13 b14 b15 bb L zz xs hX hL2 hz hk tr len ev fo cnt fi la lo me ins outs tk pu cn2 fi2 la2 lo2 me2 in2 ou2 tk2 pu2 pr eff stg pin pou c eve sn sl nx en pc fr mt mf my mw mln mev mc mi mu mfi mla mac mtb mfx mfy mtk mmk mnx mgd hG hA hB hD hO
      · subst e
        refine fk_tabIn (off := 195) (tgt := 227) d_Lw_law_32 (by decide +kernel) (by decide +kernel) (by decide +kernel) rfl ?_
        exact lw_o227 E K x0 a0 a1 a2 a3 n0 n1 n2 n3 n4 m0 m1 m2 m3 m4 i0 i1 i2 i3 i4 r0 r1 r2 r3 r4 p0 p1 b0 b1 b2 b3 b4 b5 b6 b7 b8 b9 b10 b11 b12 b13 b14 b15 bb L zz xs hX hL2 hz hk tr len ev fo cnt fi la lo me ins outs tk pu cn2 fi2 la2 lo2 me2 in2 ou2 tk2 pu2 pr eff stg pin pou c eve sn sl nx en pc fr mt mf my mw mln mev mc mi mu mfi mla mac mtb mfx mfy mtk mmk mnx mgd hG hA hB hD hO
      · subst e
        refine fk_tabIn (off := 228) (tgt := 260) d_Lw_law_32 (by decide +kernel) (by decide +kernel) (by decide +kernel) rfl ?_
        exact lw_o260 E K x0 a0 a1 a2 a3 n0 n1 n2 n3 n4 m0 m1 m2 m3 m4 i0 i1 i2 i3 i4 r0 r1 r2 r3 r4 p0 p1 b0 b1 b2 b3 b4 b5 b6 b7 b8 b9 b10 b11 b12 b13 b14 b15 bb L zz xs hX hL2 hz hk tr len ev fo cnt fi la lo me ins outs tk pu cn2 fi2 la2 lo2 me2 in2 ou2 tk2 pu2 pr eff stg pin pou c eve sn sl nx en pc fr mt mf my mw mln mev mc mi mu mfi mla mac mtb mfx mfy mtk mmk mnx mgd hG hA hB hD hO
      · subst e
        refine fk_tabIn (off := 241) (tgt := 273) d_Lw_law_32 (by decide +kernel) (by decide +kernel) (by decide +kernel) rfl ?_
        exact lw_o273 E K x0 a0 a1 a2 a3 n0 n1 n2 n3 n4 m0 m1 m2 m3 m4 i0 i1 i2 i3 i4 r0 r1 r2 r3 r4 p0 p1 b0 b1 b2 b3 b4 b5 b6 b7 b8 b9 b10 b11 b12 b13 b14 b15 bb L zz xs hX hL2 hz hk tr len ev fo cnt fi la lo me ins outs tk pu cn2 fi2 la2 lo2 me2 in2 ou2 tk2 pu2 pr eff stg pin pou c eve sn sl nx en pc fr mt mf my mw mln mev mc mi mu mfi mla mac mtb mfx mfy mtk mmk mnx mgd hG hA hB hD hO
      · subst e
        refine fk_tabIn (off := 274) (tgt := 306) d_Lw_law_32 (by decide +kernel) (by decide +kernel) (by decide +kernel) rfl ?_
        exact lw_o306 E K x0 a0 a1 a2 a3 n0 n1 n2 n3 n4 m0 m1 m2 m3 m4 i0 i1 i2 i3 i4 r0 r1 r2 r3 r4 p0 p1 b0 b1 b2 b3 b4 b5 b6 b7 b8 b9 b10 b11 b12 b13 b14 b15 bb L zz xs hX hL2 hz hk tr len ev fo cnt fi la lo me ins outs tk pu cn2 fi2 la2 lo2 me2 in2 ou2 tk2 pu2 pr eff stg pin pou c eve sn sl nx en pc fr mt mf my mw mln mev mc mi mu mfi mla mac mtb mfx mfy mtk mmk mnx mgd hG hA hB hD hO
      · subst e
        refine fk_tabIn (off := 307) (tgt := 339) d_Lw_law_32 (by decide +kernel) (by decide +kernel) (by decide +kernel) rfl ?_
        exact lw_o339 E K x0 a0 a1 a2 a3 n0 n1 n2 n3 n4 m0 m1 m2 m3 m4 i0 i1 i2 i3 i4 r0 r1 r2 r3 r4 p0 p1 b0 b1 b2 b3 b4 b5 b6 b7 b8 b9 b10 b11 b12 b13 b14 b15 bb L zz xs hX hL2 hz hk tr len ev fo cnt fi la lo me ins outs tk pu cn2 fi2 la2 lo2 me2 in2 ou2 tk2 pu2 pr eff stg pin pou c eve sn sl nx en pc fr mt mf my mw mln mev mc mi mu mfi mla mac mtb mfx mfy mtk mmk mnx mgd hG hA hB hD hO
      · subst e
        refine fk_tabIn (off := 318) (tgt := 350) d_Lw_law_32 (by decide +kernel) (by decide +kernel) (by decide +kernel) rfl ?_
        exact lw_o350 E K x0 a0 a1 a2 a3 n0 n1 n2 n3 n4 m0 m1 m2 m3 m4 i0 i1 i2 i3 i4 r0 r1 r2 r3 r4 p0 p1 b0 b1 b2 b3 b4 b5 b6 b7 b8 b9 b10 b11 b12 b13 b14 b15 bb L zz xs hX hL2 hz hk tr len ev fo cnt fi la lo me ins outs tk pu cn2 fi2 la2 lo2 me2 in2 ou2 tk2 pu2 pr eff stg pin pou c eve sn sl nx en pc fr mt mf my mw mln mev mc mi mu mfi mla mac mtb mfx mfy mtk mmk mnx mgd hG hA hB hD hO
      · subst e
        refine fk_tabIn (off := 341) (tgt := 373) d_Lw_law_32 (by decide +kernel) (by decide +kernel) (by decide +kernel) rfl ?_
        exact lw_o373 E K x0 a0 a1 a2 a3 n0 n1 n2 n3 n4 m0 m1 m2 m3 m4 i0 i1 i2 i3 i4 r0 r1 r2 r3 r4 p0 p1 b0 b1 b2 b3 b4 b5 b6 b7 b8 b9 b10 b11 b12 b13 b14 b15 bb L zz xs hX hL2 hz hk tr len ev fo cnt fi la lo me ins outs tk pu cn2 fi2 la2 lo2 me2 in2 ou2 tk2 pu2 pr eff stg pin pou c eve sn sl nx en pc fr mt mf my mw mln mev mc mi mu mfi mla mac mtb mfx mfy mtk mmk mnx mgd hG hA hB hD hO
      · subst e
        refine fk_tabIn (off := 374) (tgt := 406) d_Lw_law_32 (by decide +kernel) (by decide +kernel) (by decide +kernel) rfl ?_
        exact lw_o406 E K x0 a0 a1 a2 a3 n0 n1 n2 n3 n4 m0 m1 m2 m3 m4 i0 i1 i2 i3 i4 r0 r1 r2 r3 r4 p0 p1 b0 b1 b2 b3 b4 b5 b6 b7 b8 b9 b10 b11 b12 b13 b14 b15 bb L zz xs hX hL2 hz hk tr len ev fo cnt fi la lo me ins outs tk pu cn2 fi2 la2 lo2 me2 in2 ou2 tk2 pu2 pr eff stg pin pou c eve sn sl nx en pc fr mt mf my mw mln mev mc mi mu mfi mla mac mtb mfx mfy mtk mmk mnx mgd hG hA hB hD hO
      · subst e
        refine fk_tabIn (off := 407) (tgt := 439) d_Lw_law_32 (by decide +kernel) (by decide +kernel) (by decide +kernel) rfl ?_
        exact lw_o439 E K x0 a0 a1 a2 a3 n0 n1 n2 n3 n4 m0 m1 m2 m3 m4 i0 i1 i2 i3 i4 r0 r1 r2 r3 r4 p0 p1 b0 b1 b2 b3 b4 b5 b6 b7 b8 b9 b10 b11 b12 b13 b14 b15 bb L zz xs hX hL2 hz hk tr len ev fo cnt fi la lo me ins outs tk pu cn2 fi2 la2 lo2 me2 in2 ou2 tk2 pu2 pr eff stg pin pou c eve sn sl nx en pc fr mt mf my mw mln mev mc mi mu mfi mla mac mtb mfx mfy mtk mmk mnx mgd hG hA hB hD hO
      · subst e
        refine fk_tabIn (off := 440) (tgt := 472) d_Lw_law_32 (by decide +kernel) (by decide +kernel) (by decide +kernel) rfl ?_
        exact lw_o472 E K x0 a0 a1 a2 a3 n0 n1 n2 n3 n4 m0 m1 m2 m3 m4 i0 i1 i2 i3 i4 r0 r1 r2 r3 r4 p0 p1 b0 b1 b2 b3 b4 b5 b6 b7 b8 b9 b10 b11 b12 b13 b14 b15 bb L zz xs hX hL2 hz hk tr len ev fo cnt fi la lo me ins outs tk pu cn2 fi2 la2 lo2 me2 in2 ou2 tk2 pu2 pr eff stg pin pou c eve sn sl nx en pc fr mt mf my mw mln mev mc mi mu mfi mla mac mtb mfx mfy mtk mmk mnx mgd hG hA hB hD hO
      · subst e
        refine fk_tabIn (off := 463) (tgt := 495) d_Lw_law_32 (by decide +kernel) (by decide +kernel) (by decide +kernel) rfl ?_
        exact lw_o495 E K x0 a0 a1 a2 a3 n0 n1 n2 n3 n4 m0 m1 m2 m3 m4 i0 i1 i2 i3 i4 r0 r1 r2 r3 r4 p0 p1 b0 b1 b2 b3 b4 b5 b6 b7 b8 b9 b10 b11 b12 b13 b14 b15 bb L zz xs hX hL2 hz hk tr len ev fo cnt fi la lo me ins outs tk pu cn2 fi2 la2 lo2 me2 in2 ou2 tk2 pu2 pr eff stg pin pou c eve sn sl nx en pc fr mt mf my mw mln mev mc mi mu mfi mla mac mtb mfx mfy mtk mmk mnx mgd hG hA hB hD hO
      · subst e
        refine fk_tabIn (off := 486) (tgt := 518) d_Lw_law_32 (by decide +kernel) (by decide +kernel) (by decide +kernel) rfl ?_
        exact lw_o518 E K x0 a0 a1 a2 a3 n0 n1 n2 n3 n4 m0 m1 m2 m3 m4 i0 i1 i2 i3 i4 r0 r1 r2 r3 r4 p0 p1 b0 b1 b2 b3 b4 b5 b6 b7 b8 b9 b10 b11 b12 b13 b14 b15 bb L zz xs hX hL2 hz hk tr len ev fo cnt fi la lo me ins outs tk pu cn2 fi2 la2 lo2 me2 in2 ou2 tk2 pu2 pr eff stg pin pou c eve sn sl nx en pc fr mt mf my mw mln mev mc mi mu mfi mla mac mtb mfx mfy mtk mmk mnx mgd hG hA hB hD hO
      · subst e
        refine fk_tabIn (off := 509) (tgt := 541) d_Lw_law_32 (by decide +kernel) (by decide +kernel) (by decide +kernel) rfl ?_
        exact lw_o541 E K x0 a0 a1 a2 a3 n0 n1 n2 n3 n4 m0 m1 m2 m3 m4 i0 i1 i2 i3 i4 r0 r1 r2 r3 r4 p0 p1 b0 b1 b2 b3 b4 b5 b6 b7 b8 b9 b10 b11 b12 b13 b14 b15 bb L zz xs hX hL2 hz hk tr len ev fo cnt fi la lo me ins outs tk pu cn2 fi2 la2 lo2 me2 in2 ou2 tk2 pu2 pr eff stg pin pou c eve sn sl nx en pc fr mt mf my mw mln mev mc mi mu mfi mla mac mtb mfx mfy mtk mmk mnx mgd hG hA hB hD hO
      · subst e
        refine fk_tabIn (off := 562) (tgt := 594) d_Lw_law_32 (by decide +kernel) (by decide +kernel) (by decide +kernel) rfl ?_
        exact lw_o594 E K x0 a0 a1 a2 a3 n0 n1 n2 n3 n4 m0 m1 m2 m3 m4 i0 i1 i2 i3 i4 r0 r1 r2 r3 r4 p0 p1 b0 b1 b2 b3 b4 b5 b6 b7 b8 b9 b10 b11 b12 b13 b14 b15 bb L zz xs hX hL2 hz hk tr len ev fo cnt fi la lo me ins outs tk pu cn2 fi2 la2 lo2 me2 in2 ou2 tk2 pu2 pr eff stg pin pou c eve sn sl nx en pc fr mt mf my mw mln mev mc mi mu mfi mla mac mtb mfx mfy mtk mmk mnx mgd hG hA hB hD hO
      · refine fk_tabOut (tgt := 607) d_Lw_law_32 (Or.inr (by rw [nI_toInt (show j < 2 ^ 31 by omega)]; omega)) rfl ?_
        exact hk tr len ev fo cnt fi la lo me ins outs tk pu cn2 fi2 la2 lo2 me2 in2 ou2 tk2 pu2 pr eff stg pin pou c eve sn sl nx en pc fr mt mf my mw mln mev mc mi mu mfi mla mac mtb mfx mfy mtk mmk mnx mgd hG hA hB hD hO
