/-! sets of activities as numbers -/
theorem fb_and {s a : Nat} : s &&& 2 ^ a = 0 ↔ s.testBit a = false := by
  rw [fm_and0]
  constructor
  · intro h
    have h1 := h a
    rw [Nat.testBit_two_pow_self, Bool.and_true] at h1
    exact h1
  · intro h i
    rw [Nat.testBit_two_pow]
    by_cases e : a = i
    · subst e
      rw [h, Bool.false_and]
    · rw [decide_eq_false e, Bool.and_false]
theorem fb_and_ne {s a : Nat} : s &&& 2 ^ a ≠ 0 ↔ s.testBit a = true := by
  rw [Ne, fb_and]
  cases s.testBit a <;> simp
theorem fb_big {s a : Nat} (h : s < 128) (ha : 7 ≤ a) : s.testBit a = false := Nat.testBit_lt_two_pow (Nat.lt_of_lt_of_le h (show 2 ^ 7 ≤ 2 ^ a from Nat.pow_le_pow_right (by decide) ha))
theorem fb_ext {s t : Nat} (hs : s < 128) (ht : t < 128) (h : ∀ a, a < 7 → s.testBit a = t.testBit a) : s = t := by
  apply Nat.eq_of_testBit_eq
  intro i
  rcases Nat.lt_or_ge i 7 with hi | hi
  · exact h i hi
  · rw [fb_big hs hi, fb_big ht hi]
theorem fb_or_lt {a b : Nat} (ha : a < 128) (hb : b < 128) : a ||| b < 128 := Nat.or_lt_two_pow (n := 7) ha hb
theorem fb_and_lt {a b : Nat} (hb : b < 128) : a &&& b < 128 := Nat.and_lt_two_pow (n := 7) a hb
theorem fb_and_lt' {a b : Nat} (ha : a < 128) : a &&& b < 128 := Nat.lt_of_le_of_lt Nat.and_le_left ha
theorem fb_pow_lt {a : Nat} (h : a < 7) : 2 ^ a < 128 := Nat.pow_lt_pow_right (show 1 < 2 by decide) h
theorem fb_pow31 {a : Nat} (h : a < 31) : 2 ^ a < 2 ^ 31 := Nat.pow_lt_pow_right (show 1 < 2 by decide) h
/-- the set of those below n that f names -/
def fs_set (f : Nat → Bool) : Nat → Nat
  | 0 => 0
  | n + 1 => fs_set f n ||| (if f n then 2 ^ n else 0)
theorem fs_set_bit (f : Nat → Bool) : ∀ n a, (fs_set f n).testBit a = (decide (a < n) && f a)
  | 0, a => by
    show (0 : Nat).testBit a = _
    simp
  | n + 1, a => by
    show (fs_set f n ||| (if f n then 2 ^ n else 0)).testBit a = _
    rw [Nat.testBit_or, fs_set_bit f n a]
    by_cases h : f n = true
    · rw [if_pos h, Nat.testBit_two_pow]
      by_cases e : n = a
      · subst e
        simp [h]
      · rw [decide_eq_false e, Bool.or_false]
        by_cases l : a < n
        · rw [decide_eq_true l, decide_eq_true (show a < n + 1 by omega)]
        · rw [decide_eq_false l, decide_eq_false (show ¬ a < n + 1 by omega)]
    · rw [if_neg h, Nat.zero_testBit, Bool.or_false]
      by_cases e : n = a
      · subst e
        simp [h]
      · by_cases l : a < n
        · rw [decide_eq_true l, decide_eq_true (show a < n + 1 by omega)]
        · rw [decide_eq_false l, decide_eq_false (show ¬ a < n + 1 by omega)]
theorem fs_set_lt (f : Nat → Bool) {n : Nat} (h : n ≤ 7) : fs_set f n < 128 := by
  apply Nat.lt_pow_two_of_testBit (n := 7)
  intro i hi
  rw [fs_set_bit, decide_eq_false (by omega), Bool.false_and]
theorem fs_set_t {f : Nat → Bool} {n : Nat} (h : f n = true) : fs_set f n ||| 2 ^ n = fs_set f (n + 1) := by
  show _ = fs_set f n ||| (if f n then 2 ^ n else 0)
  rw [if_pos h]
theorem fs_set_f {f : Nat → Bool} {n : Nat} (h : f n = false) : fs_set f n = fs_set f (n + 1) := by
  show _ = fs_set f n ||| (if f n then 2 ^ n else 0)
  rw [h, if_neg (by decide), Nat.or_zero]
/-- for all below n, as a truth value -/
def fs_all (f : Nat → Bool) : Nat → Bool
  | 0 => true
  | n + 1 => fs_all f n && f n
theorem fs_all_iff {f : Nat → Bool} : ∀ {n : Nat}, fs_all f n = true ↔ ∀ j, j < n → f j = true
  | 0 => ⟨fun _ j h => absurd h (Nat.not_lt_zero j), fun _ => rfl⟩
  | n + 1 => by
    show (fs_all f n && f n) = true ↔ _
    rw [Bool.and_eq_true, fs_all_iff]
    constructor
    · intro ⟨h1, h2⟩ j hj
      rcases Nat.lt_or_ge j n with h | h
      · exact h1 j h
      · rw [show j = n by omega]; exact h2
    · intro h
      exact ⟨fun j hj => h j (by omega), h n (by omega)⟩
def fs_any (f : Nat → Bool) : Nat → Bool
  | 0 => false
  | n + 1 => fs_any f n || f n
theorem fs_any_iff {f : Nat → Bool} : ∀ {n : Nat}, fs_any f n = true ↔ ∃ j, j < n ∧ f j = true
  | 0 => ⟨fun h => by simp [fs_any] at h, fun ⟨j, h, _⟩ => absurd h (Nat.not_lt_zero j)⟩
  | n + 1 => by
    show (fs_any f n || f n) = true ↔ _
    rw [Bool.or_eq_true, fs_any_iff]
    constructor
    · intro h
      rcases h with ⟨j, hj, h⟩ | h
      · exact ⟨j, by omega, h⟩
      · exact ⟨n, by omega, h⟩
    · intro ⟨j, hj, h⟩
      rcases Nat.lt_or_ge j n with h1 | h1
      · exact Or.inl ⟨j, h1, h⟩
      · right
        rw [show n = j by omega]; exact h
theorem fs_any_f {f : Nat → Bool} {n : Nat} : fs_any f n = false ↔ ∀ j, j < n → f j = false := by
  constructor
  · intro h j hj
    cases hf : f j with
    | false => rfl
    | true => exact absurd (fs_any_iff.mpr ⟨j, hj, hf⟩) (by rw [h]; decide)
  · intro h
    cases hf : fs_any f n with
    | false => rfl
    | true =>
      obtain ⟨j, hj, h1⟩ := fs_any_iff.mp hf
      rw [h j hj] at h1
      exact absurd h1 (by decide)
theorem fs_any_t {f : Nat → Bool} {n j : Nat} (hj : j < n) (h : f j = true) : fs_any f n = true := fs_any_iff.mpr ⟨j, hj, h⟩
theorem fs_all_f {f : Nat → Bool} {n j : Nat} (hj : j < n) (h : f j = false) : fs_all f n = false := by
  cases hf : fs_all f n with
  | false => rfl
  | true =>
    rw [fs_all_iff.mp hf j hj] at h
    exact absurd h (by decide)
theorem fs_all_congr {f g : Nat → Bool} {n : Nat} (h : ∀ j, j < n → f j = g j) : fs_all f n = fs_all g n := by
  induction n with
  | zero => rfl
  | succ n ih =>
    show (fs_all f n && f n) = (fs_all g n && g n)
    rw [ih (fun j hj => h j (by omega)), h n (by omega)]
theorem fs_any_congr {f g : Nat → Bool} {n : Nat} (h : ∀ j, j < n → f j = g j) : fs_any f n = fs_any g n := by
  induction n with
  | zero => rfl
  | succ n ih =>
    show (fs_any f n || f n) = (fs_any g n || g n)
    rw [ih (fun j hj => h j (by omega)), h n (by omega)]
theorem fs_set_congr {f g : Nat → Bool} {n : Nat} (h : ∀ j, j < n → f j = g j) : fs_set f n = fs_set g n := by
  induction n with
  | zero => rfl
  | succ n ih =>
    show (fs_set f n ||| (if f n then 2 ^ n else 0)) = (fs_set g n ||| (if g n then 2 ^ n else 0))
    rw [ih (fun j hj => h j (by omega)), h n (by omega)]
/-- may a be fired in the marking x: O j is the set that takes from place j -/
def fs_tak (O : Nat → Nat) (a j : Nat) : Bool := (O j).testBit a
def fs_can (O : Nat → Nat) (x a : Nat) : Bool := fs_all (fun j => !(fs_tak O a j) || decide (0 < fm_dg x j)) 16
def fs_en (O : Nat → Nat) (me x a : Nat) : Bool := me.testBit a && fs_can O x a
theorem fs_can_iff {O : Nat → Nat} {x a : Nat} : fs_can O x a = true ↔ ∀ j, j < 16 → fs_tak O a j = true → 0 < fm_dg x j := by
  unfold fs_can
  rw [fs_all_iff]
  constructor
  · intro h j hj ht
    have h1 := h j hj
    rw [ht] at h1
    simpa using h1
  · intro h j hj
    cases ht : fs_tak O a j with
    | false => rfl
    | true =>
      have h1 := h j hj ht
      simp [h1]
def fs_ens (O : Nat → Nat) (me x : Nat) : Nat := fs_set (fs_en O me x) 7
theorem fs_ens_and {O : Nat → Nat} {me x : Nat} (h : me < 128) : fs_set (fs_can O x) 7 &&& me = fs_ens O me x := by
  refine fb_ext (fb_and_lt h) (fs_set_lt _ (by decide)) (fun a ha => ?_)
  unfold fs_ens
  rw [Nat.testBit_and, fs_set_bit, fs_set_bit]
  unfold fs_en
  cases me.testBit a <;> cases fs_can O x a <;> cases decide (a < 7) <;> rfl
def fs_fire (O I : Nat → Nat) (x a : Nat) : Nat := fm_fire (fs_tak O a) (fs_tak I a) x
