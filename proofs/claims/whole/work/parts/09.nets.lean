/-! a net's places in the class's order: the source, the sink, the inner ones; O j takes from j, I j puts into j -/
theorem fn_lxor {a b : Nat} (ha : a < 2 ^ 64) (hb : b < 2 ^ 64) : lN a ^^^ lN b = lN (a ^^^ b) := by
  apply fn_linj
  rw [Int64.toBitVec_xor, fn_tb, fn_tb, fn_tb]
  apply BitVec.eq_of_toNat_eq
  rw [BitVec.toNat_xor, BitVec.toNat_ofNat, BitVec.toNat_ofNat, BitVec.toNat_ofNat, Nat.mod_eq_of_lt ha, Nat.mod_eq_of_lt hb, Nat.mod_eq_of_lt (Nat.xor_lt_two_pow ha hb)]
def fs_O (cnt : Nat) (outs : Nat → Nat) (fi j : Nat) : Nat := if j = 0 then fi else if j = 1 then 0 else if j < cnt + 2 then outs (j - 2) else 0
def fs_I (cnt : Nat) (ins : Nat → Nat) (la j : Nat) : Nat := if j = 0 then 0 else if j = 1 then la else if j < cnt + 2 then ins (j - 2) else 0
def fs_mem (lo fi la : Nat) (ins outs : Nat → Nat) : Nat → Nat
  | 0 => (lo ||| (0 ||| fi)) ||| (la ||| 0)
  | k + 1 => fs_mem lo fi la ins outs k ||| (ins k ||| outs k)
theorem fs_mem_lt {lo fi la : Nat} {ins outs : Nat → Nat} (h1 : lo < 128) (h2 : fi < 128) (h3 : la < 128) : ∀ {k : Nat}, (∀ j, j < k → ins j < 128 ∧ outs j < 128) → fs_mem lo fi la ins outs k < 128
  | 0, _ => fb_or_lt (fb_or_lt h1 (fb_or_lt (by decide) h2)) (fb_or_lt h3 (by decide))
  | k + 1, h => fb_or_lt (fs_mem_lt h1 h2 h3 (fun j hj => h j (by omega))) (fb_or_lt (h k (by omega)).1 (h k (by omega)).2)
theorem fs_O_s (outs : Nat → Nat) (fi : Nat) {k : Nat} (hk : k < 14) (a : Nat) : ∀ j, j < 16 → fs_tak (fs_O (k + 1) outs fi) a j = (fs_tak (fs_O k outs fi) a j || (decide (j = k + 2) && (outs k).testBit a)) := by
  intro j hj
  unfold fs_tak fs_O
  by_cases h0 : j = 0
  · subst h0
    rw [if_pos rfl, if_pos rfl, decide_eq_false (by omega), Bool.false_and, Bool.or_false]
  · by_cases h1 : j = 1
    · subst h1
      rw [if_neg (by omega), if_pos rfl, if_neg (by omega), if_pos rfl, decide_eq_false (by omega), Bool.false_and, Bool.or_false]
    · rw [if_neg h0, if_neg h1, if_neg h0, if_neg h1]
      by_cases h2 : j = k + 2
      · subst h2
        rw [if_pos (by omega), if_neg (by omega), decide_eq_true rfl, Bool.true_and, Nat.zero_testBit, Bool.false_or, show k + 2 - 2 = k by omega]
      · rw [decide_eq_false h2, Bool.false_and, Bool.or_false]
        by_cases h3 : j < k + 2
        · rw [if_pos (by omega), if_pos h3]
        · rw [if_neg (by omega), if_neg h3]
theorem fs_I_s (ins : Nat → Nat) (la : Nat) {k : Nat} (hk : k < 14) (a : Nat) : ∀ j, j < 16 → fs_tak (fs_I (k + 1) ins la) a j = (fs_tak (fs_I k ins la) a j || (decide (j = k + 2) && (ins k).testBit a)) := by
  intro j hj
  unfold fs_tak fs_I
  by_cases h0 : j = 0
  · subst h0
    rw [if_pos rfl, if_pos rfl, decide_eq_false (by omega), Bool.false_and, Bool.or_false]
  · by_cases h1 : j = 1
    · subst h1
      rw [if_neg (by omega), if_pos rfl, if_neg (by omega), if_pos rfl, decide_eq_false (by omega), Bool.false_and, Bool.or_false]
    · rw [if_neg h0, if_neg h1, if_neg h0, if_neg h1]
      by_cases h2 : j = k + 2
      · subst h2
        rw [if_pos (by omega), if_neg (by omega), decide_eq_true rfl, Bool.true_and, Nat.zero_testBit, Bool.false_or, show k + 2 - 2 = k by omega]
      · rw [decide_eq_false h2, Bool.false_and, Bool.or_false]
        by_cases h3 : j < k + 2
        · rw [if_pos (by omega), if_pos h3]
        · rw [if_neg (by omega), if_neg h3]
theorem fm_mk_congr {f g : Nat → Bool} (h : ∀ j, j < 16 → f j = g j) : fm_mk f = fm_mk g := fm_enc_congr (fun j hj => by rw [h j hj])
/-- a mark more where the bit says so -/
theorem fm_mk_if {f g : Nat → Bool} {k : Nat} {b : Bool} (hk : k < 16) (hg : ∀ j, j < 16 → g j = (f j || (decide (j = k) && b))) : (if b = true then fm_mk f ||| 2 ^ (4 * k) else fm_mk f) = fm_mk g := by
  cases b with
  | true =>
    rw [if_pos rfl]
    exact fm_mk_or hk (fun j hj => by rw [hg j hj, Bool.and_true])
  | false =>
    rw [if_neg (by decide)]
    exact fm_mk_congr (fun j hj => by rw [hg j hj, Bool.and_false, Bool.or_false])
theorem fs_tk0 (outs : Nat → Nat) (fi a : Nat) : (if fi.testBit a = true then 0 ||| 1 else 0) = fm_mk (fs_tak (fs_O 0 outs fi) a) := by
  have h := fm_mk_if (f := fun _ => false) (g := fs_tak (fs_O 0 outs fi) a) (k := 0) (b := fi.testBit a) (by decide) (fun j hj => by
    unfold fs_tak fs_O
    by_cases h0 : j = 0
    · subst h0; simp
    · by_cases h1 : j = 1
      · subst h1; simp
      · rw [if_neg h0, if_neg h1, if_neg (by omega), decide_eq_false h0]; simp)
  rw [fm_mk0 (f := fun _ => false) (fun _ _ => rfl)] at h
  exact h
theorem fs_pu0 (ins : Nat → Nat) (la a : Nat) : (if la.testBit a = true then 0 ||| 16 else 0) = fm_mk (fs_tak (fs_I 0 ins la) a) := by
  have h := fm_mk_if (f := fun _ => false) (g := fs_tak (fs_I 0 ins la) a) (k := 1) (b := la.testBit a) (by decide) (fun j hj => by
    unfold fs_tak fs_I
    by_cases h0 : j = 0
    · subst h0; simp
    · by_cases h1 : j = 1
      · subst h1; simp
      · rw [if_neg h0, if_neg h1, if_neg (by omega), decide_eq_false h1]; simp)
  rw [fm_mk0 (f := fun _ => false) (fun _ _ => rfl)] at h
  exact h
theorem fs_tks (outs : Nat → Nat) (fi a : Nat) {k : Nat} (hk : k < 14) : (if (outs k).testBit a = true then fm_mk (fs_tak (fs_O k outs fi) a) ||| 2 ^ (4 * (k + 2)) else fm_mk (fs_tak (fs_O k outs fi) a)) = fm_mk (fs_tak (fs_O (k + 1) outs fi) a) := fm_mk_if (by omega) (fs_O_s outs fi hk a)
theorem fs_pus (ins : Nat → Nat) (la a : Nat) {k : Nat} (hk : k < 14) : (if (ins k).testBit a = true then fm_mk (fs_tak (fs_I k ins la) a) ||| 2 ^ (4 * (k + 2)) else fm_mk (fs_tak (fs_I k ins la) a)) = fm_mk (fs_tak (fs_I (k + 1) ins la) a) := fm_mk_if (by omega) (fs_I_s ins la hk a)
theorem fs_can_en {O : Nat → Nat} {x a : Nat} : fm_mk (fs_tak O a) &&& (fm_held x ^^^ 18446744073709551615) = 0 ↔ fs_can O x a = true := (fm_en _ _).trans fs_can_iff.symm
theorem fm_held_lt (x : Nat) : fm_held x < 2 ^ 64 := Nat.lt_of_le_of_lt Nat.and_le_right (by decide)
theorem fm_div_lt {x k : Nat} (h : x < 2 ^ 64) : x / 2 ^ k < 2 ^ 64 := Nat.lt_of_le_of_lt (Nat.div_le_self _ _) h
theorem fm_pow_lt {k : Nat} (h : k < 64) : 2 ^ k < 2 ^ 64 := Nat.pow_lt_pow_right (show 1 < 2 by decide) h
theorem fm_or_lt {a b : Nat} (ha : a < 2 ^ 64) (hb : b < 2 ^ 64) : a ||| b < 2 ^ 64 := Nat.or_lt_two_pow ha hb
/-- how many bits a set has -/
def fs_bc : Nat → Nat → Nat
  | _, 0 => 0
  | s, n + 1 => fs_bc s n + (s.testBit n).toNat
theorem fs_two : ∀ s, s < 128 → (2 ≤ fs_bc s 7 ↔ ∃ a, a < 7 ∧ ∃ b, b < 7 ∧ a ≠ b ∧ s.testBit a = true ∧ s.testBit b = true) := by decide +kernel
/-! the bits counted as the library counts them -/
def fs_b1 (v : Nat) : Nat := v - (v / 2 ^ 1 &&& 1431655765)
def fs_b2 (u : Nat) : Nat := (u &&& 858993459) + (u / 2 ^ 2 &&& 858993459)
def fs_b3 (u : Nat) : Nat := (u + u / 2 ^ 4) &&& 252645135
def fs_b4 (u : Nat) : Nat := u + u / 2 ^ 8
def fs_b5 (u : Nat) : Nat := u + u / 2 ^ 16
theorem fs_bc_eq : ∀ v, v < 128 → fs_b5 (fs_b4 (fs_b3 (fs_b2 (fs_b1 v)))) &&& 63 = fs_bc v 7 := by decide +kernel
theorem fs_b_le : ∀ v, v < 128 → v / 2 ^ 1 &&& 1431655765 ≤ v ∧ fs_b1 v < 2 ^ 31 ∧ fs_b2 (fs_b1 v) < 2 ^ 31 ∧ fs_b3 (fs_b2 (fs_b1 v)) < 2 ^ 31 ∧ fs_b4 (fs_b3 (fs_b2 (fs_b1 v))) < 2 ^ 31 := by decide +kernel
theorem fs_bc_lt : ∀ v, v < 128 → fs_bc v 7 < 8 := by decide +kernel
theorem fk_ldcw {E : fk_E} {M : fk_M} {K : fk_K} {n : Nat × Nat} {w : va_W} {pc : Nat} {lv : List (Nat × Value)} {st : List Value} {i : Nat} {v : Int32} (d : decode M.1 pc = .ok (.ldc_w i, 3)) (hv : Cond.constant M.2.1 i v ∈ fk_G) (kk : fk_V E M K n w (pc + 3) lv (.int v :: st)) : fk_V E M K n w pc lv st := by
  obtain ⟨p, l, e, s, m, args, below, meth, c, Q, A⟩ := K
  intro F h1 h2 H locs ls hl hP hD hS
  exact lv_ldcw F.1 F.2.1 F.2.2.2.1 (F.2.2.2.2.1 _ hv) d (kk F h1 h2 H locs ls hl hP hD hS)
/-! shapes -/
def fs_sh (ins outs : Nat → Nat) (p q : Nat) : Bool := decide (outs p &&& ins q ≠ 0) && (decide (outs q &&& ins p ≠ 0) && decide (2 ≤ fs_bc ((outs p &&& ins q) ||| (outs q &&& ins p)) 7))
def fs_ch (cnt : Nat) (outs : Nat → Nat) (fi p : Nat) : Nat := if p = cnt then fi else outs p
def fs_shr (cnt : Nat) (outs : Nat → Nat) (fi p c : Nat) : Bool := fs_any (fun q => decide (q ≠ p) && decide (c &&& fs_ch cnt outs fi q ≠ 0)) (cnt + 1)
def fs_mix (cnt : Nat) (outs : Nat → Nat) (fi p : Nat) : Bool := decide (2 ≤ fs_bc (fs_ch cnt outs fi p) 7) && fs_shr cnt outs fi p (fs_ch cnt outs fi p)
theorem fs_lt_s {f : Nat → Bool} {k : Nat} (h : ∀ j, j < k → f j = false) (h1 : f k = false) : ∀ j, j < k + 1 → f j = false := fun j hj => by
  rcases Nat.lt_or_ge j k with q | q
  · exact h j q
  · rw [show j = k by omega]; exact h1
theorem fs_lt_t {f : Nat → Bool} {k : Nat} (h : ∀ j, j < k → f j = true) (h1 : f k = true) : ∀ j, j < k + 1 → f j = true := fun j hj => by
  rcases Nat.lt_or_ge j k with q | q
  · exact h j q
  · rw [show j = k by omega]; exact h1
theorem fs_lt_0 {f : Nat → Bool} {b : Bool} : ∀ j, j < 0 → f j = b := fun j hj => absurd hj (Nat.not_lt_zero j)
