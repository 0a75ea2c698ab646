/-! the reference's order of places, and its words -/
def fr_cp (p : Nat) : Nat := if p < 14 then p + 2 else p - 14
theorem fr_cp_lt {p : Nat} (h : p < 16) : fr_cp p < 16 := by unfold fr_cp; split <;> omega
theorem fr_cp_all {P : Nat → Prop} (h : ∀ p, p < 16 → P (fr_cp p)) : ∀ j, j < 16 → P j := fun j hj => by
  by_cases q : j < 2
  · have := h (j + 14) (by omega)
    unfold fr_cp at this
    rw [if_neg (by omega), Nat.add_sub_cancel] at this
    exact this
  · have := h (j - 2) (by omega)
    unfold fr_cp at this
    rw [if_pos (by omega), show j - 2 + 2 = j by omega] at this
    exact this
theorem fr_cp1 : ∀ p, p < 16 → fm_dg 1 (fr_cp p) = if p = 14 then 1 else 0 := by decide +kernel
theorem fr_cp16 : ∀ p, p < 16 → fm_dg 16 (fr_cp p) = if p = 15 then 1 else 0 := by decide +kernel
theorem fb_has {s a : Nat} : s / 2 ^ a &&& 1 = 1 ↔ s.testBit a = true := by
  rw [Nat.testBit_eq_decide_div_mod_eq, decide_eq_true_iff, Nat.and_one_is_mod]
/-- bounds of the reference's nets -/
def fr_N (mc mi mu mfi mla : Nat → Nat) : Prop := (∀ k, k < 28 → mi k < 128 ∧ mu k < 128) ∧ ∀ q, q < 2 → mc q ≤ 14 ∧ mfi q < 128 ∧ mla q < 128
def fr_O (mc mu mfi : Nat → Nat) (q : Nat) : Nat → Nat := fs_O (mc q) (fun z9 => mu (14 * q + z9)) (mfi q)
def fr_I (mc mi mla : Nat → Nat) (q : Nat) : Nat → Nat := fs_I (mc q) (fun z9 => mi (14 * q + z9)) (mla q)
def fr_me (mc mi mu mfi mla mac : Nat → Nat) (q : Nat) : Nat := if q = 1 then mac 1 else fs_mem 0 (mfi 0) (mla 0) mi mu (mc 0)
theorem fr_tak_in {mc mu mfi : Nat → Nat} {q p a : Nat} (hp : p < 14) (hc : p < mc q) : fs_tak (fr_O mc mu mfi q) a (fr_cp p) = (mu (14 * q + p)).testBit a := by
  unfold fs_tak fr_O fs_O fr_cp
  rw [if_pos hp, if_neg (by omega), if_neg (by omega), if_pos (by omega), Nat.add_sub_cancel]
theorem fr_tak_no {mc mu mfi : Nat → Nat} {q p a : Nat} (hp : p < 14) (hc : mc q ≤ p) : fs_tak (fr_O mc mu mfi q) a (fr_cp p) = false := by
  unfold fs_tak fr_O fs_O fr_cp
  rw [if_pos hp, if_neg (by omega), if_neg (by omega), if_neg (by omega), Nat.zero_testBit]
theorem fr_tak_14 {mc mu mfi : Nat → Nat} {q a : Nat} : fs_tak (fr_O mc mu mfi q) a (fr_cp 14) = (mfi q).testBit a := rfl
theorem fr_tak_15 {mc mu mfi : Nat → Nat} {q a : Nat} : fs_tak (fr_O mc mu mfi q) a (fr_cp 15) = false := Nat.zero_testBit a
theorem fr_giv_in {mc mi mla : Nat → Nat} {q p a : Nat} (hp : p < 14) (hc : p < mc q) : fs_tak (fr_I mc mi mla q) a (fr_cp p) = (mi (14 * q + p)).testBit a := by
  unfold fs_tak fr_I fs_I fr_cp
  rw [if_pos hp, if_neg (by omega), if_neg (by omega), if_pos (by omega), Nat.add_sub_cancel]
theorem fr_giv_no {mc mi mla : Nat → Nat} {q p a : Nat} (hp : p < 14) (hc : mc q ≤ p) : fs_tak (fr_I mc mi mla q) a (fr_cp p) = false := by
  unfold fs_tak fr_I fs_I fr_cp
  rw [if_pos hp, if_neg (by omega), if_neg (by omega), if_neg (by omega), Nat.zero_testBit]
theorem fr_giv_14 {mc mi mla : Nat → Nat} {q a : Nat} : fs_tak (fr_I mc mi mla q) a (fr_cp 14) = false := Nat.zero_testBit a
theorem fr_giv_15 {mc mi mla : Nat → Nat} {q a : Nat} : fs_tak (fr_I mc mi mla q) a (fr_cp 15) = (mla q).testBit a := rfl
theorem fr_me_lt {mc mi mu mfi mla mac : Nat → Nat} {q : Nat} (hN : fr_N mc mi mu mfi mla) (ha : mac 1 < 128) : fr_me mc mi mu mfi mla mac q < 128 := by
  unfold fr_me
  split
  · exact ha
  · exact fs_mem_lt (by decide) (hN.2 0 (by decide)).2.1 (hN.2 0 (by decide)).2.2 (fun j hj => hN.1 j (by have := (hN.2 0 (by decide)).1; omega))
/-- the tokens show the marking x -/
def fr_T (tk : Nat → Nat) (x : Nat) : Prop := ∀ p, p < 16 → tk p = fm_dg x (fr_cp p)
theorem fr_T_lt {tk : Nat → Nat} {x p : Nat} (h : fr_T tk x) (hp : p < 16) : tk p < 16 := by rw [h p hp]; exact fm_dg_lt _ _
theorem fr_T_final {tk : Nat → Nat} {x : Nat} (h : fr_T tk x) (hx : x < 2 ^ 64) : x = 16 ↔ tk 15 = 1 ∧ ∀ p, p < 15 → tk p = 0 := by
  constructor
  · intro e
    subst e
    refine ⟨by rw [h 15 (by decide)]; decide, fun p hp => ?_⟩
    rw [h p (by omega), fr_cp16 p (by omega), if_neg (by omega)]
  · intro ⟨h1, h2⟩
    refine fm_ext hx (by decide) (fr_cp_all (fun p hp => ?_))
    rw [← h p hp, fr_cp16 p hp]
    by_cases e : p = 15
    · rw [if_pos e, e, h1]
    · rw [if_neg e]; exact h2 p (by omega)
theorem fn_neg1 {x : Int32} (h : x < 0) : x < nI 1 := by
  rw [Int32.lt_iff_toInt_lt] at h ⊢
  rw [nI_toInt (by decide)]
  have : (0 : Int32).toInt = 0 := rfl
  omega
theorem fr_mem0 (fi la : Nat) (ins outs : Nat → Nat) : fi ||| la = fs_mem 0 fi la ins outs 0 := by
  show fi ||| la = (0 ||| (0 ||| fi)) ||| (la ||| 0)
  rw [Nat.zero_or, Nat.zero_or, Nat.or_zero]
theorem fr_ar {t g : Bool} {d : Nat} (h : t.toNat ≤ d) : nI d + (nI g.toNat - nI t.toNat) = nI (d - t.toNat + g.toNat) := by
  cases t <;> cases g
  · show nI d + (nI 0 - nI 0) = nI (d - 0 + 0)
    rw [show nI 0 - nI 0 = nI 0 from by decide +kernel, nI_add]; rfl
  · show nI d + (nI 1 - nI 0) = nI (d - 0 + 1)
    rw [show nI 1 - nI 0 = nI 1 from by decide +kernel, nI_add]; rfl
  · show nI d + (nI 0 - nI 1) = nI (d - 1 + 0)
    have h1 : 1 ≤ d := h
    rw [show nI 0 - nI 1 = Int32.ofInt (-1) from by decide +kernel, fn_dec h1]; rfl
  · show nI d + (nI 1 - nI 1) = nI (d - 1 + 1)
    have h1 : 1 ≤ d := h
    rw [show nI 1 - nI 1 = nI 0 from by decide +kernel, nI_add, Nat.sub_add_cancel h1]; rfl
theorem fr_can {O : Nat → Nat} {tk : Nat → Nat} {x a : Nat} (h : fr_T tk x) : fs_all (fun p => !(fs_tak O a (fr_cp p)) || decide (0 < tk p)) 16 = fs_can O x a := by
  apply Bool.eq_iff_iff.mpr
  rw [fs_all_iff, fs_can_iff]
  constructor
  · intro q
    refine fr_cp_all (P := fun j => fs_tak O a j = true → 0 < fm_dg x j) (fun p hp t => ?_)
    have h1 := q p hp
    rw [t, h p hp] at h1
    simpa using h1
  · intro q p hp
    cases t : fs_tak O a (fr_cp p) with
    | false => rfl
    | true =>
      have h1 := q (fr_cp p) (fr_cp_lt hp) t
      rw [h p hp]
      simp [h1]
theorem fr_I0 (mc mi mla : Nat → Nat) (q : Nat) : fr_I mc mi mla q 0 = 0 := rfl
