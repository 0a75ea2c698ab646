/-! markings: a number with sixteen digits to the base 16 -/
def fm_enc (t : Nat → Nat) : Nat → Nat
  | 0 => 0
  | n + 1 => fm_enc t n + t n * 16 ^ n
def fm_dg (x j : Nat) : Nat := x / 16 ^ j % 16
theorem fm_dg_lt (x j : Nat) : fm_dg x j < 16 := Nat.mod_lt _ (by decide)
theorem fm_enc_lt {t : Nat → Nat} : ∀ {n : Nat}, (∀ j, j < n → t j < 16) → fm_enc t n < 16 ^ n
  | 0, _ => Nat.zero_lt_one
  | n + 1, h => by
    have h1 := fm_enc_lt (t := t) (n := n) (fun j hj => h j (by omega))
    have h2 := h n (by omega)
    have h3 : t n * 16 ^ n ≤ 15 * 16 ^ n := Nat.mul_le_mul_right _ (by omega)
    show fm_enc t n + t n * 16 ^ n < 16 ^ (n + 1)
    rw [Nat.pow_succ]
    omega
theorem fm_enc_congr {t t' : Nat → Nat} : ∀ {n : Nat}, (∀ j, j < n → t j = t' j) → fm_enc t n = fm_enc t' n
  | 0, _ => rfl
  | n + 1, h => by
    show fm_enc t n + t n * 16 ^ n = fm_enc t' n + t' n * 16 ^ n
    rw [fm_enc_congr (n := n) (fun j hj => h j (by omega)), h n (by omega)]
theorem fm_dig {t : Nat → Nat} : ∀ {n : Nat}, (∀ j, j < n → t j < 16) → ∀ {j : Nat}, j < n → fm_dg (fm_enc t n) j = t j
  | 0, _, _, hj => absurd hj (Nat.not_lt_zero _)
  | n + 1, h, j, hj => by
    have h0 := fm_enc_lt (t := t) (n := n) (fun j hj => h j (by omega))
    have hn := h n (by omega)
    show (fm_enc t n + t n * 16 ^ n) / 16 ^ j % 16 = t j
    rcases Nat.lt_or_ge j n with hl | hl
    · have ih := fm_dig (t := t) (n := n) (fun j hj => h j (by omega)) hl
      obtain ⟨k, hk⟩ : ∃ k, n = j + (k + 1) := ⟨n - j - 1, by omega⟩
      have e : t n * 16 ^ n = 16 ^ j * (16 * (t n * 16 ^ k)) := by
        rw [hk, Nat.pow_add, Nat.pow_succ, Nat.mul_comm (16 ^ k) 16]
        simp only [Nat.mul_assoc, Nat.mul_comm, Nat.mul_left_comm]
      rw [e, Nat.add_mul_div_left _ _ (Nat.pow_pos (by decide)), Nat.add_mul_mod_self_left]
      exact ih
    · have e : j = n := by omega
      subst e
      rw [Nat.add_mul_div_right _ _ (Nat.pow_pos (by decide)), Nat.div_eq_of_lt h0, Nat.zero_add, Nat.mod_eq_of_lt hn]
theorem fm_enc_dg (x : Nat) : ∀ n, fm_enc (fm_dg x) n = x % 16 ^ n
  | 0 => by rw [Nat.pow_zero, Nat.mod_one]; rfl
  | n + 1 => by
    show fm_enc (fm_dg x) n + fm_dg x n * 16 ^ n = _
    rw [fm_enc_dg x n, Nat.pow_succ, Nat.mod_mul, Nat.mul_comm]
    rfl
theorem fm_enc16 {x : Nat} (h : x < 2 ^ 64) : fm_enc (fm_dg x) 16 = x := by
  rw [fm_enc_dg, Nat.mod_eq_of_lt (by rw [show (16 : Nat) ^ 16 = 2 ^ 64 by decide]; exact h)]
theorem fm_ext {x y : Nat} (hx : x < 2 ^ 64) (hy : y < 2 ^ 64) (h : ∀ j, j < 16 → fm_dg x j = fm_dg y j) : x = y := by
  rw [← fm_enc16 hx, ← fm_enc16 hy]
  exact fm_enc_congr h
theorem fm_lt64 {t : Nat → Nat} (h : ∀ j, j < 16 → t j < 16) : fm_enc t 16 < 2 ^ 64 := by
  have h1 := fm_enc_lt (t := t) (n := 16) h
  rw [show (16 : Nat) ^ 16 = 2 ^ 64 by decide] at h1
  exact h1
theorem fm_bit (x j r : Nat) (hr : r < 4) : (fm_dg x j).testBit r = x.testBit (4 * j + r) := by
  unfold fm_dg
  rw [show (16 : Nat) ^ j = 2 ^ (4 * j) by rw [Nat.pow_mul], show (16 : Nat) = 2 ^ 4 by decide, Nat.testBit_mod_two_pow, Nat.testBit_div_two_pow]
  simp [hr, Nat.add_comm]
theorem fm_pos4 : ∀ d, d < 16 → ((d.testBit 0 || d.testBit 1 || d.testBit 2 || d.testBit 3) = decide (0 < d)) := by decide +kernel
theorem fm_pos (x j : Nat) : (x.testBit (4 * j) || x.testBit (4 * j + 1) || x.testBit (4 * j + 2) || x.testBit (4 * j + 3)) = decide (0 < fm_dg x j) := by
  rw [← fm_pos4 _ (fm_dg_lt x j), fm_bit x j 0 (by decide), fm_bit x j 1 (by decide), fm_bit x j 2 (by decide), fm_bit x j 3 (by decide)]
  rfl
theorem fm_b01 : ∀ r, r < 4 → ∀ b : Bool, (b.toNat).testBit r = (b && decide (r = 0)) := by decide +kernel
/-- a mark in each place that f names -/
def fm_mk (f : Nat → Bool) : Nat := fm_enc (fun j => (f j).toNat) 16
theorem fm_b16 (b : Bool) : b.toNat < 16 := by cases b <;> decide
theorem fm_mk_lt (f : Nat → Bool) : fm_mk f < 2 ^ 64 := fm_lt64 (fun j _ => fm_b16 (f j))
theorem fm_mk_dg (f : Nat → Bool) {j : Nat} (hj : j < 16) : fm_dg (fm_mk f) j = (f j).toNat := fm_dig (fun j _ => fm_b16 (f j)) hj
theorem fm_mk_bit (f : Nat → Bool) {j r : Nat} (hj : j < 16) (hr : r < 4) : (fm_mk f).testBit (4 * j + r) = (f j && decide (r = 0)) := by
  rw [← fm_bit _ _ _ hr, fm_mk_dg f hj, fm_b01 r hr]
theorem fm_big {x i : Nat} (hx : x < 2 ^ 64) (hi : 64 ≤ i) : x.testBit i = false := Nat.testBit_lt_two_pow (Nat.lt_of_lt_of_le hx (Nat.pow_le_pow_right (by decide) hi))
theorem fm_one : ∀ i, i < 64 → (1229782938247303441 : Nat).testBit i = decide (i % 4 = 0) := by decide +kernel
theorem fm_ones : ∀ i, i < 64 → (18446744073709551615 : Nat).testBit i = true := by decide +kernel
/-- what is held in at least one, a bit a place -/
def fm_held (x : Nat) : Nat := (((x ||| x / 2 ^ 1) ||| x / 2 ^ 2) ||| x / 2 ^ 3) &&& 1229782938247303441
theorem fm_held_bit (x : Nat) {j r : Nat} (hj : j < 16) (hr : r < 4) : (fm_held x).testBit (4 * j + r) = (decide (0 < fm_dg x j) && decide (r = 0)) := by
  unfold fm_held
  rw [Nat.testBit_and, fm_one _ (by omega)]
  by_cases h : r = 0
  · subst h
    simp only [Nat.testBit_or, Nat.testBit_div_two_pow, Nat.add_zero]
    rw [← fm_pos x j]
    simp [Nat.add_comm]
  · rw [decide_eq_false (show ¬ (4 * j + r) % 4 = 0 by omega), decide_eq_false h, Bool.and_false, Bool.and_false]
theorem fm_and0 {a b : Nat} : a &&& b = 0 ↔ ∀ i, (a.testBit i && b.testBit i) = false := by
  constructor
  · intro h i
    rw [← Nat.testBit_and, h, Nat.zero_testBit]
  · intro h
    apply Nat.eq_of_testBit_eq
    intro i
    rw [Nat.testBit_and, h i, Nat.zero_testBit]
/-- all that is taken is held -/
theorem fm_en (f : Nat → Bool) (x : Nat) : fm_mk f &&& (fm_held x ^^^ 18446744073709551615) = 0 ↔ ∀ j, j < 16 → f j = true → 0 < fm_dg x j := by
  rw [fm_and0]
  constructor
  · intro h j hj hf
    have h1 := h (4 * j + 0)
    rw [Nat.testBit_xor, fm_mk_bit f hj (by decide), fm_held_bit x hj (by decide), fm_ones _ (by omega), hf] at h1
    simpa using h1
  · intro h i
    rcases Nat.lt_or_ge i 64 with hi | hi
    · have e : i = 4 * (i / 4) + i % 4 := by omega
      have hj : i / 4 < 16 := by omega
      have hr : i % 4 < 4 := by omega
      rw [e, Nat.testBit_xor, fm_mk_bit f hj hr, fm_held_bit x hj hr, fm_ones _ (by omega)]
      cases hf : f (i / 4) with
      | false => simp
      | true =>
        have h2 := h _ hj hf
        by_cases hz : i % 4 = 0 <;> simp [hz, h2]
    · rw [fm_big (fm_mk_lt f) hi, Bool.false_and]
/-- firing: what is taken away and what is put -/
def fm_fire (f g : Nat → Bool) (x : Nat) : Nat := fm_enc (fun j => fm_dg x j - (f j).toNat + (g j).toNat) 16
theorem fm_enc_add (s t : Nat → Nat) : ∀ n, fm_enc (fun j => s j + t j) n = fm_enc s n + fm_enc t n
  | 0 => rfl
  | n + 1 => by
    show fm_enc (fun j => s j + t j) n + (s n + t n) * 16 ^ n = (fm_enc s n + s n * 16 ^ n) + (fm_enc t n + t n * 16 ^ n)
    rw [fm_enc_add s t n, Nat.add_mul]
    omega
theorem fm_b_le {b : Bool} {d : Nat} (h : b = true → 0 < d) : b.toNat ≤ d := by
  cases b
  · exact Nat.zero_le _
  · exact h rfl
theorem fm_take_le (f : Nat → Bool) {x : Nat} (hx : x < 2 ^ 64) (h : ∀ j, j < 16 → f j = true → 0 < fm_dg x j) : fm_enc (fun j => fm_dg x j - (f j).toNat) 16 + fm_mk f = x := by
  unfold fm_mk
  rw [← fm_enc_add]
  rw [fm_enc_congr (t' := fm_dg x) (fun j hj => Nat.sub_add_cancel (fm_b_le (h j hj)))]
  exact fm_enc16 hx
theorem fm_fire_eq (f g : Nat → Bool) {x : Nat} (hx : x < 2 ^ 64) (h : ∀ j, j < 16 → f j = true → 0 < fm_dg x j) : x - fm_mk f + fm_mk g = fm_fire f g x := by
  have h1 := fm_take_le f hx h
  unfold fm_fire
  rw [fm_enc_add (fun j => fm_dg x j - (f j).toNat) (fun j => (g j).toNat)]
  show x - fm_mk f + fm_mk g = _ + fm_mk g
  omega
theorem fm_fire_dg (f g : Nat → Bool) {x : Nat} (h : ∀ j, j < 16 → fm_dg x j - (f j).toNat + (g j).toNat < 16) {j : Nat} (hj : j < 16) : fm_dg (fm_fire f g x) j = fm_dg x j - (f j).toNat + (g j).toNat := fm_dig h hj
theorem fm_fire_lt (f g : Nat → Bool) {x : Nat} (h : ∀ j, j < 16 → fm_dg x j - (f j).toNat + (g j).toNat < 16) : fm_fire f g x < 2 ^ 64 := fm_lt64 h
theorem fm_eights : ∀ i, i < 64 → (9838263505978427528 : Nat).testBit i = decide (i % 4 = 3) := by decide +kernel
theorem fm_b3 : ∀ d, d < 16 → d.testBit 3 = decide (8 ≤ d) := by decide +kernel
theorem fm_wide {x : Nat} (hx : x < 2 ^ 64) : x &&& 9838263505978427528 = 0 ↔ ∀ j, j < 16 → fm_dg x j < 8 := by
  rw [fm_and0]
  constructor
  · intro h j hj
    have h1 := h (4 * j + 3)
    rw [fm_eights _ (by omega), ← fm_bit x j 3 (by decide), fm_b3 _ (fm_dg_lt x j), decide_eq_true (show (4 * j + 3) % 4 = 3 by omega), Bool.and_true] at h1
    have := of_decide_eq_false h1
    omega
  · intro h i
    rcases Nat.lt_or_ge i 64 with hi | hi
    · have e : i = 4 * (i / 4) + i % 4 := by omega
      rw [fm_eights _ hi]
      by_cases h3 : i % 4 = 3
      · rw [e, h3, ← fm_bit x (i / 4) 3 (by decide), fm_b3 _ (fm_dg_lt x _), decide_eq_false (by have := h (i / 4) (by omega); omega), Bool.false_and]
      · rw [decide_eq_false h3, Bool.and_false]
    · rw [fm_big hx hi, Bool.false_and]
theorem fm_sinkb : ∀ i, i < 64 → (240 : Nat).testBit i = decide (i / 4 = 1) := by decide +kernel
theorem fm_sink {x : Nat} (hx : x < 2 ^ 64) : x &&& 240 = 0 ↔ fm_dg x 1 = 0 := by
  rw [fm_and0]
  constructor
  · intro h
    have h1 := fm_pos x 1
    have h2 : ∀ r, r < 4 → x.testBit (4 * 1 + r) = false := fun r hr => by
      have := h (4 * 1 + r)
      rw [fm_sinkb _ (by omega), decide_eq_true (show (4 * 1 + r) / 4 = 1 by omega), Bool.and_true] at this
      exact this
    rw [show 4 * 1 = 4 * 1 + 0 from rfl, h2 0 (by decide), show 4 * 1 + 0 + 1 = 4 * 1 + 1 from rfl, h2 1 (by decide), show 4 * 1 + 0 + 2 = 4 * 1 + 2 from rfl, h2 2 (by decide), show 4 * 1 + 0 + 3 = 4 * 1 + 3 from rfl, h2 3 (by decide)] at h1
    have := of_decide_eq_false h1.symm
    omega
  · intro h i
    rcases Nat.lt_or_ge i 64 with hi | hi
    · have e : i = 4 * (i / 4) + i % 4 := by omega
      rw [fm_sinkb _ hi]
      by_cases h3 : i / 4 = 1
      · rw [e, h3, ← fm_bit x 1 (i % 4) (by omega), h, Nat.zero_testBit, Bool.false_and]
      · rw [decide_eq_false h3, Bool.and_false]
    · rw [fm_big hx hi, Bool.false_and]
theorem fm_dg16 : ∀ j, j < 16 → fm_dg 16 j = if j = 1 then 1 else 0 := by decide +kernel
theorem fm_dg1 : ∀ j, j < 16 → fm_dg 1 j = if j = 0 then 1 else 0 := by decide +kernel
theorem fm_final {x : Nat} (hx : x < 2 ^ 64) : x = 16 ↔ fm_dg x 1 = 1 ∧ ∀ j, j < 16 → j ≠ 1 → fm_dg x j = 0 := by
  constructor
  · intro h
    subst h
    refine ⟨by decide, fun j hj h1 => ?_⟩
    rw [fm_dg16 j hj, if_neg h1]
  · intro ⟨h1, h2⟩
    refine fm_ext hx (by decide) (fun j hj => ?_)
    rw [fm_dg16 j hj]
    by_cases h : j = 1
    · rw [if_pos h, h, h1]
    · rw [if_neg h, h2 j hj h]
/-- one mark more -/
theorem fm_mk_or {f g : Nat → Bool} {k : Nat} (hk : k < 16) (hg : ∀ j, j < 16 → g j = (f j || decide (j = k))) : fm_mk f ||| 2 ^ (4 * k) = fm_mk g := by
  apply Nat.eq_of_testBit_eq
  intro i
  rw [Nat.testBit_or, Nat.testBit_two_pow]
  rcases Nat.lt_or_ge i 64 with hi | hi
  · have e : i = 4 * (i / 4) + i % 4 := by omega
    have hj : i / 4 < 16 := by omega
    have hr : i % 4 < 4 := by omega
    have e2 : decide (4 * k = i) = (decide (i / 4 = k) && decide (i % 4 = 0)) := by
      rw [← Bool.decide_and]
      apply decide_eq_decide.mpr
      omega
    rw [e2]
    rw [show (fm_mk f).testBit i = (f (i / 4) && decide (i % 4 = 0)) by rw [← fm_mk_bit f hj hr, ← e], show (fm_mk g).testBit i = (g (i / 4) && decide (i % 4 = 0)) by rw [← fm_mk_bit g hj hr, ← e], hg _ hj]
    cases f (i / 4) <;> cases decide (i / 4 = k) <;> cases decide (i % 4 = 0) <;> rfl
  · rw [fm_big (fm_mk_lt f) hi, fm_big (fm_mk_lt g) hi, decide_eq_false (by omega)]
    rfl
theorem fm_mk0 {f : Nat → Bool} (h : ∀ j, j < 16 → f j = false) : fm_mk f = 0 := by
  refine fm_ext (fm_mk_lt f) (by decide) (fun j hj => ?_)
  rw [fm_mk_dg f hj, h j hj]
  exact ((by decide +kernel : ∀ j, j < 16 → false.toNat = fm_dg 0 j) j hj)
