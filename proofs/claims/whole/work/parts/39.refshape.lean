/-! the reference's shapes, and the class's -/
def fr_th (O I : Nat → Nat) (a b : Nat) : Bool := fs_any (fun p => fs_tak I a (fr_cp p) && fs_tak O b (fr_cp p)) 14
def fr_lp (O I : Nat → Nat) : Bool := fs_any (fun a => fs_any (fun b => decide (a ≠ b) && (fr_th O I a b && fr_th O I b a)) 7) 7
theorem fr_th_iff {cnt fi la a b : Nat} {ins outs : Nat → Nat} (hc : cnt ≤ 14) : fr_th (fs_O cnt outs fi) (fs_I cnt ins la) a b = true ↔ ∃ p, p < cnt ∧ (ins p).testBit a = true ∧ (outs p).testBit b = true := by
  unfold fr_th
  rw [fs_any_iff]
  have k1 : ∀ p, p < 14 → fs_tak (fs_I cnt ins la) a (fr_cp p) = (decide (p < cnt) && (ins p).testBit a) := fun p hp => by
    unfold fs_tak fs_I fr_cp
    rw [if_pos hp, if_neg (by omega), if_neg (by omega)]
    by_cases q : p < cnt
    · rw [if_pos (by omega), decide_eq_true q, Bool.true_and, Nat.add_sub_cancel]
    · rw [if_neg (by omega), decide_eq_false q, Bool.false_and, Nat.zero_testBit]
  have k2 : ∀ p, p < 14 → fs_tak (fs_O cnt outs fi) b (fr_cp p) = (decide (p < cnt) && (outs p).testBit b) := fun p hp => by
    unfold fs_tak fs_O fr_cp
    rw [if_pos hp, if_neg (by omega), if_neg (by omega)]
    by_cases q : p < cnt
    · rw [if_pos (by omega), decide_eq_true q, Bool.true_and, Nat.add_sub_cancel]
    · rw [if_neg (by omega), decide_eq_false q, Bool.false_and, Nat.zero_testBit]
  constructor
  · intro ⟨p, hp, h⟩
    rw [k1 p hp, k2 p hp, Bool.and_eq_true, Bool.and_eq_true, Bool.and_eq_true, decide_eq_true_iff] at h
    exact ⟨p, h.1.1, h.1.2, h.2.2⟩
  · intro ⟨p, hp, h1, h2⟩
    refine ⟨p, by omega, ?_⟩
    rw [k1 p (by omega), k2 p (by omega), h1, h2, decide_eq_true hp]
    rfl
theorem fb_ne0 {s : Nat} (hs : s < 128) : s ≠ 0 ↔ ∃ a, a < 7 ∧ s.testBit a = true := by
  constructor
  · intro h
    exact fb_some s hs (by omega)
  · intro ⟨a, _, h⟩ e
    rw [e, Nat.zero_testBit] at h
    exact absurd h (by decide)
theorem fr_lp_eq {cnt fi la : Nat} {ins outs : Nat → Nat} (hc : cnt ≤ 14) (hb : ∀ j, j < cnt → ins j < 128 ∧ outs j < 128) : fr_lp (fs_O cnt outs fi) (fs_I cnt ins la) = fs_any (fun z => fs_any (fs_sh ins outs z) cnt) cnt := by
  apply Bool.eq_iff_iff.mpr
  unfold fr_lp
  rw [fs_any_iff, fs_any_iff]
  constructor
  · intro ⟨a, ha, h⟩
    obtain ⟨b, hb7, h⟩ := fs_any_iff.mp h
    rw [Bool.and_eq_true, Bool.and_eq_true, decide_eq_true_iff, fr_th_iff hc, fr_th_iff hc] at h
    obtain ⟨hab, ⟨p, hp, h1, h2⟩, q, hq, h3, h4⟩ := h
    refine ⟨p, hp, fs_any_iff.mpr ⟨q, hq, ?_⟩⟩
    have e1 : (outs p &&& ins q).testBit b = true := by rw [Nat.testBit_and, h2, h3]; rfl
    have e2 : (outs q &&& ins p).testBit a = true := by rw [Nat.testBit_and, h4, h1]; rfl
    have l1 : outs p &&& ins q < 128 := fb_and_lt (hb q hq).1
    have l2 : outs q &&& ins p < 128 := fb_and_lt (hb p hp).1
    unfold fs_sh
    rw [decide_eq_true ((fb_ne0 l1).mpr ⟨b, hb7, e1⟩), decide_eq_true ((fb_ne0 l2).mpr ⟨a, ha, e2⟩), decide_eq_true ((fs_two _ (fb_or_lt l1 l2)).mpr ⟨a, ha, b, hb7, hab, by rw [Nat.testBit_or, e2, Bool.or_true], by rw [Nat.testBit_or, e1, Bool.true_or]⟩)]
    rfl
  · intro ⟨p, hp, h⟩
    obtain ⟨q, hq, h⟩ := fs_any_iff.mp h
    unfold fs_sh at h
    rw [Bool.and_eq_true, Bool.and_eq_true, decide_eq_true_iff, decide_eq_true_iff, decide_eq_true_iff] at h
    have l1 : outs p &&& ins q < 128 := fb_and_lt (hb q hq).1
    have l2 : outs q &&& ins p < 128 := fb_and_lt (hb p hp).1
    obtain ⟨b0, hb0, t0⟩ := (fb_ne0 l1).mp h.1
    obtain ⟨a0, ha0, k0⟩ := (fb_ne0 l2).mp h.2.1
    obtain ⟨x, hx, y, hy, hxy, t1, t2⟩ := (fs_two _ (fb_or_lt l1 l2)).mp h.2.2
    have fin : ∀ a b, a < 7 → b < 7 → a ≠ b → (outs q &&& ins p).testBit a = true → (outs p &&& ins q).testBit b = true → ∃ j, j < 7 ∧ fs_any (fun b => decide (j ≠ b) && (fr_th (fs_O cnt outs fi) (fs_I cnt ins la) j b && fr_th (fs_O cnt outs fi) (fs_I cnt ins la) b j)) 7 = true := by
      intro a b ha hb7 hab g1 g2
      rw [Nat.testBit_and, Bool.and_eq_true] at g1 g2
      refine ⟨a, ha, fs_any_iff.mpr ⟨b, hb7, ?_⟩⟩
      rw [decide_eq_true hab, (fr_th_iff hc).mpr ⟨p, hp, g1.2, g2.1⟩, (fr_th_iff hc).mpr ⟨q, hq, g2.2, g1.1⟩]
      rfl
    by_cases e : a0 = b0
    · have ex : ∃ z, z < 7 ∧ z ≠ a0 ∧ ((outs p &&& ins q) ||| (outs q &&& ins p)).testBit z = true := by
        by_cases w : x = a0
        · exact ⟨y, hy, fun v => hxy (w.trans v.symm), t2⟩
        · exact ⟨x, hx, w, t1⟩
      obtain ⟨z, hz, hza, tz⟩ := ex
      rw [Nat.testBit_or, Bool.or_eq_true] at tz
      rcases tz with tz | tz
      · exact fin a0 z ha0 hz (fun v => hza v.symm) k0 tz
      · exact fin z b0 hz hb0 (fun v => hza (v.trans e.symm)) tz t0
    · exact fin a0 b0 ha0 hb0 e k0 t0
/-- the reference's mixed choice -/
def fr_st (O : Nat → Nat) (p : Nat) : Nat := fs_set (fun a => fs_tak O a (fr_cp p)) 7
def fr_ot (O : Nat → Nat) (p : Nat) : Nat := fs_set (fun a => fs_any (fun q => decide (q ≠ p) && fs_tak O a (fr_cp q)) 15) 7
def fr_mx (O : Nat → Nat) : Bool := fs_any (fun p => decide (1 < fs_bc (fr_st O p) 7) && decide (fr_st O p &&& fr_ot O p ≠ 0)) 15
def fr_un (cnt p : Nat) : Nat := if p = cnt then 14 else p
theorem fr_st_eq {cnt fi : Nat} {outs : Nat → Nat} (hc : cnt ≤ 14) (hb : ∀ j, j < cnt → outs j < 128) (hf : fi < 128) {p : Nat} (hp : p ≤ cnt) : fr_st (fs_O cnt outs fi) (fr_un cnt p) = fs_ch cnt outs fi p := by
  unfold fr_st fs_ch fr_un
  by_cases e : p = cnt
  · rw [if_pos e, if_pos e]
    refine fb_ext (fs_set_lt _ (by decide)) hf (fun a ha => ?_)
    rw [fs_set_bit, decide_eq_true ha, Bool.true_and]
    rfl
  · rw [if_neg e, if_neg e]
    refine fb_ext (fs_set_lt _ (by decide)) (hb p (by omega)) (fun a ha => ?_)
    rw [fs_set_bit, decide_eq_true ha, Bool.true_and]
    unfold fs_tak fs_O fr_cp
    rw [if_pos (show p < 14 by omega), if_neg (by omega), if_neg (by omega), if_pos (by omega), Nat.add_sub_cancel]
theorem fr_st_bit {O : Nat → Nat} {p a : Nat} (ha : a < 7) : (fr_st O p).testBit a = fs_tak O a (fr_cp p) := by
  unfold fr_st
  rw [fs_set_bit, decide_eq_true ha, Bool.true_and]
theorem fr_st_none {cnt fi : Nat} {outs : Nat → Nat} {p : Nat} (h1 : cnt ≤ p) (h2 : p < 14) : fr_st (fs_O cnt outs fi) p = 0 := by
  refine fb_ext (fs_set_lt _ (by decide)) (by decide) (fun a ha => ?_)
  rw [fr_st_bit ha, Nat.zero_testBit]
  unfold fs_tak fs_O fr_cp
  rw [if_pos h2, if_neg (by omega), if_neg (by omega), if_neg (by omega), Nat.zero_testBit]
theorem fr_mx_eq {cnt fi : Nat} {outs : Nat → Nat} (hc : cnt ≤ 14) (hb : ∀ j, j < cnt → outs j < 128) (hf : fi < 128) : fr_mx (fs_O cnt outs fi) = fs_any (fs_mix cnt outs fi) (cnt + 1) := by
  have hch : ∀ p, p ≤ cnt → fs_ch cnt outs fi p < 128 := fun p hp => by
    unfold fs_ch
    split
    · exact hf
    · exact hb p (by omega)
  have hun : ∀ p, p ≤ cnt → fr_un cnt p < 15 := fun p hp => by unfold fr_un; split <;> omega
  have inj : ∀ p q, p ≤ cnt → q ≤ cnt → (fr_un cnt p = fr_un cnt q ↔ p = q) := fun p q hp hq => by
    unfold fr_un
    split <;> split <;> omega
  have back : ∀ p, p < 15 → fr_st (fs_O cnt outs fi) p ≠ 0 → ∃ p', p' ≤ cnt ∧ p = fr_un cnt p' := fun p hp h => by
    rcases Nat.lt_or_ge p cnt with q | q
    · exact ⟨p, by omega, by unfold fr_un; rw [if_neg (by omega)]⟩
    · rcases Nat.lt_or_ge p 14 with z | z
      · exact absurd (fr_st_none q z) h
      · exact ⟨cnt, Nat.le_refl _, by unfold fr_un; rw [if_pos rfl]; omega⟩
  apply Bool.eq_iff_iff.mpr
  unfold fr_mx
  rw [fs_any_iff, fs_any_iff]
  constructor
  · intro ⟨p, hp, h⟩
    rw [Bool.and_eq_true, decide_eq_true_iff, decide_eq_true_iff] at h
    have h0 : fr_st (fs_O cnt outs fi) p ≠ 0 := fun e => by rw [e] at h; exact absurd h.1 (by decide)
    obtain ⟨p', hp', e⟩ := back p hp h0
    have hs := fr_st_eq hc hb hf hp'
    rw [← e] at hs
    refine ⟨p', by omega, ?_⟩
    unfold fs_mix
    rw [← hs, decide_eq_true (show 2 ≤ _ by omega), Bool.true_and]
    obtain ⟨a, ha, h2⟩ := (fb_ne0 (fb_and_lt' (fs_set_lt _ (by decide)))).mp h.2
    rw [Nat.testBit_and, Bool.and_eq_true] at h2
    have h2a : (fr_st (fs_O cnt outs fi) p).testBit a = true := h2.1
    have h2b : (fs_set (fun a => fs_any (fun q => decide (q ≠ p) && fs_tak (fs_O cnt outs fi) a (fr_cp q)) 15) 7).testBit a = true := h2.2
    rw [fs_set_bit, decide_eq_true ha, Bool.true_and] at h2b
    obtain ⟨q, hq, h3⟩ := fs_any_iff.mp h2b
    rw [Bool.and_eq_true, decide_eq_true_iff, ← fr_st_bit ha] at h3
    have h4 : fr_st (fs_O cnt outs fi) q ≠ 0 := fun w => by rw [w, Nat.zero_testBit] at h3; exact absurd h3.2 (by decide)
    obtain ⟨q', hq', e'⟩ := back q hq h4
    have hs' := fr_st_eq hc hb hf hq'
    rw [← e'] at hs'
    refine fs_any_iff.mpr ⟨q', by omega, ?_⟩
    have n1 : q' ≠ p' := fun w => h3.1 (by rw [e', e, w])
    rw [decide_eq_true n1, decide_eq_true, Bool.and_self]
    refine (fb_ne0 (fb_and_lt (hch q' hq'))).mpr ⟨a, ha, ?_⟩
    rw [Nat.testBit_and, h2a, ← hs', h3.2]
    rfl
  · intro ⟨p, hp, h⟩
    unfold fs_mix at h
    rw [Bool.and_eq_true, decide_eq_true_iff] at h
    have hs := fr_st_eq hc hb hf (show p ≤ cnt by omega)
    refine ⟨fr_un cnt p, hun p (by omega), ?_⟩
    rw [hs, decide_eq_true (show 1 < _ by omega), Bool.true_and]
    obtain ⟨q, hq, h2⟩ := fs_any_iff.mp h.2
    rw [Bool.and_eq_true, decide_eq_true_iff, decide_eq_true_iff] at h2
    have hs' := fr_st_eq hc hb hf (show q ≤ cnt by omega)
    obtain ⟨a, ha, h3⟩ := (fb_ne0 (fb_and_lt (hch q (by omega)))).mp h2.2
    rw [Nat.testBit_and, Bool.and_eq_true] at h3
    refine decide_eq_true ((fb_ne0 (fb_and_lt (fs_set_lt _ (by decide)))).mpr ⟨a, ha, ?_⟩)
    rw [Nat.testBit_and, h3.1, Bool.true_and]
    rw [fs_set_bit, decide_eq_true ha, Bool.true_and]
    refine fs_any_iff.mpr ⟨fr_un cnt q, hun q (by omega), ?_⟩
    have n1 : fr_un cnt q ≠ fr_un cnt p := fun w => h2.1 ((inj q p (by omega) (by omega)).mp w)
    rw [decide_eq_true n1, Bool.true_and, ← fr_st_bit ha, hs']
    exact h3.2
