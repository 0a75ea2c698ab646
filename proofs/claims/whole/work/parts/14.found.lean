/-! the reachable markings, in the order in which they are found -/
def fe_find (seen : Nat → Nat) (y : Nat) : Nat → Nat
  | 0 => 0
  | n + 1 => if fe_find seen y n < n then fe_find seen y n else if seen n = y then n else n + 1
theorem fe_find_le (seen : Nat → Nat) (y : Nat) : ∀ n, fe_find seen y n ≤ n
  | 0 => Nat.le_refl _
  | n + 1 => by
    show (if fe_find seen y n < n then fe_find seen y n else if seen n = y then n else n + 1) ≤ n + 1
    split
    · omega
    · split <;> omega
theorem fe_find_in {seen : Nat → Nat} {y : Nat} : ∀ {n : Nat}, fe_find seen y n < n → seen (fe_find seen y n) = y
  | 0, h => absurd h (Nat.not_lt_zero _)
  | n + 1, h => by
    have e : fe_find seen y (n + 1) = if fe_find seen y n < n then fe_find seen y n else if seen n = y then n else n + 1 := rfl
    rw [e] at h ⊢
    by_cases h1 : fe_find seen y n < n
    · rw [if_pos h1]
      exact fe_find_in h1
    · rw [if_neg h1] at h ⊢
      by_cases h2 : seen n = y
      · rw [if_pos h2]; exact h2
      · rw [if_neg h2] at h
        exact absurd h (Nat.lt_irrefl _)
theorem fe_find_no {seen : Nat → Nat} {y : Nat} : ∀ {n : Nat}, ¬ fe_find seen y n < n → ∀ i, i < n → seen i ≠ y
  | 0, _, i, hi => absurd hi (Nat.not_lt_zero _)
  | n + 1, h, i, hi => by
    have e : fe_find seen y (n + 1) = if fe_find seen y n < n then fe_find seen y n else if seen n = y then n else n + 1 := rfl
    rw [e] at h
    by_cases h1 : fe_find seen y n < n
    · rw [if_pos h1] at h
      exact absurd (Nat.lt_succ_of_lt h1) h
    · rw [if_neg h1] at h
      by_cases h2 : seen n = y
      · rw [if_pos h2] at h
        exact absurd (Nat.lt_succ_self n) h
      · rcases Nat.lt_or_ge i n with q | q
        · exact fe_find_no h1 i q
        · rw [show i = n by omega]; exact h2
theorem fe_find_eq {seen : Nat → Nat} {y n i : Nat} (hinj : ∀ a, a < n → ∀ b, b < n → seen a = seen b → a = b) (hi : i < n) (h : seen i = y) : fe_find seen y n = i := by
  by_cases h1 : fe_find seen y n < n
  · exact hinj _ h1 _ hi ((fe_find_in h1).trans h.symm)
  · exact absurd h (fe_find_no h1 i hi)
theorem fe_find_none {seen : Nat → Nat} {y n : Nat} (h : ∀ i, i < n → seen i ≠ y) : fe_find seen y n = n := by
  by_cases h1 : fe_find seen y n < n
  · exact absurd (fe_find_in h1) (h _ h1)
  · have := fe_find_le seen y n
    omega
theorem fe_find_congr {s t : Nat → Nat} {y : Nat} : ∀ {n : Nat}, (∀ i, i < n → s i = t i) → fe_find s y n = fe_find t y n
  | 0, _ => rfl
  | n + 1, h => by
    show (if fe_find s y n < n then fe_find s y n else if s n = y then n else n + 1) = (if fe_find t y n < n then fe_find t y n else if t n = y then n else n + 1)
    rw [fe_find_congr (n := n) (fun i hi => h i (by omega)), h n (by omega)]
def fe_w8 (y : Nat) : Bool := fs_any (fun j => decide (8 ≤ fm_dg y j)) 16
theorem fe_w8_f {y : Nat} : fe_w8 y = false ↔ ∀ j, j < 16 → fm_dg y j < 8 := by
  unfold fe_w8
  rw [fs_any_f]
  constructor
  · intro h j hj
    have := of_decide_eq_false (h j hj)
    omega
  · intro h j hj
    exact decide_eq_false (by have := h j hj; omega)
abbrev fe_X : Type := Nat × (Nat → Nat) × (Nat → Nat) × Bool
def fe_next (O I : Nat → Nat) (me k : Nat) (c : Nat) (s nx : Nat → Nat) : fe_X :=
  if fs_en O me (s (k / 7)) (k % 7) = true then
    if fe_find s (fs_fire O I (s (k / 7)) (k % 7)) c < c then (c, s, va_up nx k (fe_find s (fs_fire O I (s (k / 7)) (k % 7)) c + 1), false)
    else if fe_w8 (fs_fire O I (s (k / 7)) (k % 7)) = true ∨ c = 200 then (c, s, nx, true)
    else (c + 1, va_up s c (fs_fire O I (s (k / 7)) (k % 7)), va_up nx k (c + 1), false)
  else (c, s, va_up nx k 0, false)
def fe_step (O I : Nat → Nat) (me k : Nat) (X : fe_X) : fe_X := if X.2.2.2 = true ∨ X.1 ≤ k / 7 then X else fe_next O I me k X.1 X.2.1 X.2.2.1
def fe_run (O I : Nat → Nat) (me : Nat) : Nat → fe_X
  | 0 => (1, fun _ => 1, fun _ => 0, false)
  | k + 1 => fe_step O I me k (fe_run O I me k)
theorem fe_wide_s {O I : Nat → Nat} {me k : Nat} (h : (fe_run O I me k).2.2.2 = true) : fe_run O I me (k + 1) = fe_run O I me k := by
  show fe_step O I me k (fe_run O I me k) = _
  unfold fe_step
  rw [if_pos (Or.inl h)]
theorem fe_wide_m {O I : Nat → Nat} {me k m : Nat} (h : (fe_run O I me k).2.2.2 = true) (hm : k ≤ m) : (fe_run O I me m).2.2.2 = true := by
  induction m with
  | zero => rw [show k = 0 by omega] at h; exact h
  | succ m ih =>
    rcases Nat.lt_or_ge k (m + 1) with q | q
    · rw [fe_wide_s (ih (by omega))]; exact ih (by omega)
    · rw [show m + 1 = k by omega]; exact h
theorem fe_done {O I : Nat → Nat} {me k m : Nat} (h : (fe_run O I me k).1 ≤ k / 7) (hm : k ≤ m) : fe_run O I me m = fe_run O I me k := by
  induction m with
  | zero => rw [show k = 0 by omega]
  | succ m ih =>
    rcases Nat.lt_or_ge k (m + 1) with q | q
    · have e := ih (by omega)
      show fe_step O I me m (fe_run O I me m) = _
      rw [e]
      unfold fe_step
      rw [if_pos (Or.inr (Nat.le_trans h (Nat.div_le_div_right (by omega))))]
    · rw [show m + 1 = k by omega]
theorem fe_go {O I : Nat → Nat} {me k : Nat} (h : (fe_run O I me k).2.2.2 = false) (h2 : k / 7 < (fe_run O I me k).1) : fe_run O I me (k + 1) = fe_next O I me k (fe_run O I me k).1 (fe_run O I me k).2.1 (fe_run O I me k).2.2.1 := by
  show fe_step O I me k (fe_run O I me k) = _
  unfold fe_step
  rw [if_neg]
  rintro (q | q)
  · rw [h] at q; exact absurd q (by decide)
  · omega
/-- what a fired marking's digits are -/
theorem fe_fire8 {O I : Nat → Nat} {x a : Nat} (hx : ∀ j, j < 16 → fm_dg x j < 8) : (∀ j, j < 16 → fm_dg (fs_fire O I x a) j = fm_dg x j - (fs_tak O a j).toNat + (fs_tak I a j).toNat) ∧ fs_fire O I x a < 2 ^ 64 := by
  have h : ∀ j, j < 16 → fm_dg x j - (fs_tak O a j).toNat + (fs_tak I a j).toNat < 16 := fun j hj => by
    have h1 := hx j hj
    have h2 : (fs_tak I a j).toNat ≤ 1 := by cases fs_tak I a j <;> decide
    omega
  exact ⟨fun j hj => fm_fire_dg _ _ h hj, fm_fire_lt _ _ h⟩
/-- the class's rows hold what was found before step k -/
def fe_R (O I : Nat → Nat) (me k c : Nat) (s nx : Nat → Nat) : Prop := (fe_run O I me k).2.2.2 = false ∧ c = (fe_run O I me k).1 ∧ (∀ i, i < c → s i = (fe_run O I me k).2.1 i) ∧ (∀ j, j < k → nx j = (fe_run O I me k).2.2.1 j)
/-- what is so of the found markings -/
def fe_V (c : Nat) (s : Nat → Nat) : Prop := c ≤ 200 ∧ (∀ i, i < c → s i < 2 ^ 64 ∧ ∀ j, j < 16 → fm_dg (s i) j < 8) ∧ ∀ a, a < c → ∀ b, b < c → s a = s b → a = b
theorem fe_up_eq {s t : Nat → Nat} {c y : Nat} (h : ∀ i, i < c → s i = t i) : ∀ i, i < c + 1 → va_up s c y i = va_up t c y i := fun i hi => by
  rcases Nat.lt_or_ge i c with q | q
  · rw [va_up_ne _ _ (by omega), va_up_ne _ _ (by omega)]; exact h i q
  · rw [show i = c by omega, va_up_self, va_up_self]
theorem fe_V_add {c y : Nat} {s : Nat → Nat} (h : fe_V c s) (hc : c < 200) (hy : y < 2 ^ 64) (h8 : fe_w8 y = false) (hn : ∀ i, i < c → s i ≠ y) : fe_V (c + 1) (va_up s c y) := by
  obtain ⟨h1, h2, h3⟩ := h
  refine ⟨by omega, fun i hi => ?_, fun a ha b hb e => ?_⟩
  · rcases Nat.lt_or_ge i c with q | q
    · rw [va_up_ne _ _ (by omega)]; exact h2 i q
    · rw [show i = c by omega, va_up_self]; exact ⟨hy, fe_w8_f.mp h8⟩
  · rcases Nat.lt_or_ge a c with qa | qa
    · rcases Nat.lt_or_ge b c with qb | qb
      · rw [va_up_ne _ _ (by omega), va_up_ne _ _ (by omega)] at e
        exact h3 a qa b qb e
      · rw [show b = c by omega, va_up_self, va_up_ne _ _ (by omega)] at e
        exact absurd e (hn a qa)
    · rcases Nat.lt_or_ge b c with qb | qb
      · rw [show a = c by omega, va_up_self, va_up_ne _ _ (by omega)] at e
        exact absurd e.symm (hn b qb)
      · omega
theorem fe_R_no {O I : Nat → Nat} {me i a c : Nat} {s nx : Nat → Nat} (hR : fe_R O I me (7 * i + a) c s nx) (ha : a < 7) (hi : i < c) (he : fs_en O me (s i) a = false) : fe_R O I me (7 * i + a + 1) c s (va_up nx (7 * i + a) 0) := by
  obtain ⟨h1, h2, h3, h4⟩ := hR
  have e1 : (7 * i + a) / 7 = i := by omega
  have e2 : (7 * i + a) % 7 = a := by omega
  have hg := fe_go h1 (by rw [e1, ← h2]; exact hi)
  unfold fe_next at hg
  rw [e1, e2, ← h3 i hi, he, if_neg (by decide)] at hg
  unfold fe_R
  rw [hg]
  refine ⟨rfl, h2, h3, fun j hj => ?_⟩
  rcases Nat.lt_or_ge j (7 * i + a) with q | q
  · show va_up nx _ _ j = va_up _ _ _ j
    rw [va_up_ne _ _ (by omega), va_up_ne _ _ (by omega)]; exact h4 j q
  · show va_up nx _ _ j = va_up _ _ _ j
    rw [show j = 7 * i + a by omega, va_up_self, va_up_self]
theorem fe_R_old {O I : Nat → Nat} {me i a c : Nat} {s nx : Nat → Nat} (hR : fe_R O I me (7 * i + a) c s nx) (ha : a < 7) (hi : i < c) (he : fs_en O me (s i) a = true) (hf : fe_find s (fs_fire O I (s i) a) c < c) : fe_R O I me (7 * i + a + 1) c s (va_up nx (7 * i + a) (fe_find s (fs_fire O I (s i) a) c + 1)) := by
  obtain ⟨h1, h2, h3, h4⟩ := hR
  have e1 : (7 * i + a) / 7 = i := by omega
  have e2 : (7 * i + a) % 7 = a := by omega
  have hg := fe_go h1 (by rw [e1, ← h2]; exact hi)
  unfold fe_next at hg
  rw [e1, e2, ← h3 i hi, he, if_pos rfl, ← h2, ← fe_find_congr h3, if_pos hf] at hg
  unfold fe_R
  rw [hg]
  refine ⟨rfl, rfl, h3, fun j hj => ?_⟩
  rcases Nat.lt_or_ge j (7 * i + a) with q | q
  · show va_up nx _ _ j = va_up _ _ _ j
    rw [va_up_ne _ _ (by omega), va_up_ne _ _ (by omega)]; exact h4 j q
  · show va_up nx _ _ j = va_up _ _ _ j
    rw [show j = 7 * i + a by omega, va_up_self, va_up_self]
theorem fe_R_new {O I : Nat → Nat} {me i a c : Nat} {s nx : Nat → Nat} (hR : fe_R O I me (7 * i + a) c s nx) (ha : a < 7) (hi : i < c) (he : fs_en O me (s i) a = true) (hf : ¬ fe_find s (fs_fire O I (s i) a) c < c) (hc : c < 200) (h8 : fe_w8 (fs_fire O I (s i) a) = false) : fe_R O I me (7 * i + a + 1) (c + 1) (va_up s c (fs_fire O I (s i) a)) (va_up nx (7 * i + a) (c + 1)) := by
  obtain ⟨h1, h2, h3, h4⟩ := hR
  have e1 : (7 * i + a) / 7 = i := by omega
  have e2 : (7 * i + a) % 7 = a := by omega
  have hg := fe_go h1 (by rw [e1, ← h2]; exact hi)
  unfold fe_next at hg
  rw [e1, e2, ← h3 i hi, he, if_pos rfl, ← h2, ← fe_find_congr h3, if_neg hf, if_neg (by rw [h8]; simp; omega)] at hg
  unfold fe_R
  rw [hg]
  refine ⟨rfl, rfl, fe_up_eq h3, fun j hj => ?_⟩
  rcases Nat.lt_or_ge j (7 * i + a) with q | q
  · show va_up nx _ _ j = va_up _ _ _ j
    rw [va_up_ne _ _ (by omega), va_up_ne _ _ (by omega)]; exact h4 j q
  · show va_up nx _ _ j = va_up _ _ _ j
    rw [show j = 7 * i + a by omega, va_up_self, va_up_self]
theorem fe_R_wide {O I : Nat → Nat} {me i a c : Nat} {s nx : Nat → Nat} (hR : fe_R O I me (7 * i + a) c s nx) (ha : a < 7) (hi : i < c) (he : fs_en O me (s i) a = true) (hf : ¬ fe_find s (fs_fire O I (s i) a) c < c) (hw : fe_w8 (fs_fire O I (s i) a) = true ∨ c = 200) {m : Nat} (hm : 7 * i + a < m) : (fe_run O I me m).2.2.2 = true := by
  obtain ⟨h1, h2, h3, h4⟩ := hR
  have e1 : (7 * i + a) / 7 = i := by omega
  have e2 : (7 * i + a) % 7 = a := by omega
  have hg := fe_go h1 (by rw [e1, ← h2]; exact hi)
  unfold fe_next at hg
  rw [e1, e2, ← h3 i hi, he, if_pos rfl, ← h2, ← fe_find_congr h3, if_neg hf, if_pos hw] at hg
  exact fe_wide_m (k := 7 * i + a + 1) (by rw [hg]) (by omega)
/-- open hashing -/
def fe_h (y : Nat) : Nat := y * 11400714819323198485 % 2 ^ 64 / 2 ^ 55
theorem fe_h_lt (y : Nat) : fe_h y < 512 := by
  unfold fe_h
  have := Nat.mod_lt (y * 11400714819323198485) (show 0 < 2 ^ 64 by decide)
  omega
theorem fn_lmod (n : Nat) : lN n = lN (n % 2 ^ 64) := fn_linj (by rw [fn_tb, fn_tb]; apply BitVec.eq_of_toNat_eq; rw [BitVec.toNat_ofNat, BitVec.toNat_ofNat, Nat.mod_mod])
theorem fn_jn {a : Nat} (h : 0 < a) : nI a - 1 = nI (a - 1) := by
  obtain ⟨k, rfl⟩ : ∃ k, a = k + 1 := ⟨a - 1, by omega⟩
  rw [nI_pred, Nat.add_sub_cancel]
def fe_cn (sl : Nat → Nat) : Nat → Nat
  | 0 => 0
  | n + 1 => fe_cn sl n + (if sl n = 0 then 0 else 1)
theorem fe_cn_up (sl : Nat → Nat) (p v : Nat) : ∀ n, fe_cn (va_up sl p v) n ≤ fe_cn sl n + (if p < n then 1 else 0)
  | 0 => Nat.zero_le _
  | n + 1 => by
    have ih := fe_cn_up sl p v n
    show fe_cn (va_up sl p v) n + (if va_up sl p v n = 0 then 0 else 1) ≤ fe_cn sl n + (if sl n = 0 then 0 else 1) + (if p < n + 1 then 1 else 0)
    by_cases e : n = p
    · subst e
      rw [if_neg (Nat.lt_irrefl _)] at ih
      rw [if_pos (Nat.lt_succ_self _)]
      split <;> split <;> omega
    · rw [va_up_ne _ _ e]
      by_cases q : p < n
      · rw [if_pos q] at ih
        rw [if_pos (show p < n + 1 by omega)]
        omega
      · rw [if_neg q] at ih
        rw [if_neg (show ¬ p < n + 1 by omega)]
        omega
theorem fe_cn_full {sl : Nat → Nat} : ∀ {n : Nat}, (∀ p, p < n → sl p ≠ 0) → fe_cn sl n = n
  | 0, _ => rfl
  | n + 1, h => by
    show fe_cn sl n + (if sl n = 0 then 0 else 1) = n + 1
    rw [fe_cn_full (fun p hp => h p (by omega)), if_neg (h n (by omega))]
theorem fe_cn_none {sl : Nat → Nat} : ∀ {n : Nat}, (∀ p, p < n → sl p = 0) → fe_cn sl n = 0
  | 0, _ => rfl
  | n + 1, h => by
    show fe_cn sl n + (if sl n = 0 then 0 else 1) = 0
    rw [fe_cn_none (fun p hp => h p (by omega)), if_pos (h n (by omega))]
def fe_H (c : Nat) (s sl : Nat → Nat) : Prop := (∀ p, p < 512 → sl p ≤ c) ∧ (∀ i, i < c → ∃ d, d < 512 ∧ sl ((fe_h (s i) + d) % 512) = i + 1 ∧ ∀ e, e < d → sl ((fe_h (s i) + e) % 512) ≠ 0) ∧ fe_cn sl 512 ≤ c
theorem fe_H_0 {s sl : Nat → Nat} (h : ∀ p, p < 512 → sl p = 0) : fe_H 0 s sl := ⟨fun p hp => by rw [h p hp]; exact Nat.le_refl _, fun i hi => absurd hi (Nat.not_lt_zero i), by rw [fe_cn_none h]; exact Nat.le_refl _⟩
theorem fe_H_none {c y d : Nat} {s sl : Nat → Nat} (h : fe_H c s sl) (hd : ∀ e, e < d → sl ((fe_h y + e) % 512) ≠ 0 ∧ s (sl ((fe_h y + e) % 512) - 1) ≠ y) (h0 : sl ((fe_h y + d) % 512) = 0) : ∀ i, i < c → s i ≠ y := by
  intro i hi e
  obtain ⟨d', hd', h1, h2⟩ := h.2.1 i hi
  rw [e] at h1 h2
  rcases Nat.lt_trichotomy d' d with q | q | q
  · have h3 := (hd d' q).2
    rw [h1, Nat.add_sub_cancel] at h3
    exact h3 e
  · subst q
    rw [h0] at h1
    omega
  · exact h2 d q h0
theorem fe_H_add {c y d : Nat} {s sl : Nat → Nat} (h : fe_H c s sl) (hd : ∀ e, e < d → sl ((fe_h y + e) % 512) ≠ 0 ∧ s (sl ((fe_h y + e) % 512) - 1) ≠ y) (hd5 : d < 512) (h0 : sl ((fe_h y + d) % 512) = 0) : fe_H (c + 1) (va_up s c y) (va_up sl ((fe_h y + d) % 512) (c + 1)) := by
  obtain ⟨h1, h2, h3⟩ := h
  refine ⟨fun p hp => ?_, fun i hi => ?_, ?_⟩
  · by_cases e : p = (fe_h y + d) % 512
    · rw [e, va_up_self]; exact Nat.le_refl _
    · rw [va_up_ne _ _ e]
      have := h1 p hp
      omega
  · rcases Nat.lt_or_ge i c with q | q
    · obtain ⟨d', hd', g1, g2⟩ := h2 i q
      rw [va_up_ne _ _ (show i ≠ c by omega)]
      refine ⟨d', hd', ?_, fun e he => ?_⟩
      · rw [va_up_ne]
        · exact g1
        · intro z
          rw [z, h0] at g1
          omega
      · by_cases z : (fe_h (s i) + e) % 512 = (fe_h y + d) % 512
        · rw [z, va_up_self]; omega
        · rw [va_up_ne _ _ z]; exact g2 e he
    · rw [show i = c by omega, va_up_self]
      refine ⟨d, hd5, va_up_self _ _ _, fun e he => ?_⟩
      by_cases z : (fe_h y + e) % 512 = (fe_h y + d) % 512
      · rw [z, va_up_self]; omega
      · rw [va_up_ne _ _ z]; exact (hd e he).1
  · have := fe_cn_up sl ((fe_h y + d) % 512) (c + 1) 512
    split at this <;> omega
theorem fe_H_end {c y : Nat} {s sl : Nat → Nat} (h : fe_H c s sl) (hc : c ≤ 200) (hd : ∀ e, e < 512 → sl ((fe_h y + e) % 512) ≠ 0) : False := by
  have h1 : fe_cn sl 512 = 512 := fe_cn_full (fun p hp => by
    have h2 := hd ((p + 512 - fe_h y) % 512) (Nat.mod_lt _ (by decide))
    have h3 := fe_h_lt y
    rw [show (fe_h y + (p + 512 - fe_h y) % 512) % 512 = p by omega] at h2
    exact h2)
  have := h.2.2
  omega
theorem fe_find_lt {seen : Nat → Nat} {y : Nat} : ∀ {n i : Nat}, i < fe_find seen y n → seen i ≠ y
  | 0, i, h => absurd h (Nat.not_lt_zero _)
  | n + 1, i, h => by
    have e : fe_find seen y (n + 1) = if fe_find seen y n < n then fe_find seen y n else if seen n = y then n else n + 1 := rfl
    rw [e] at h
    by_cases h1 : fe_find seen y n < n
    · rw [if_pos h1] at h
      exact fe_find_lt h
    · rw [if_neg h1] at h
      have h3 := fe_find_no h1
      by_cases h2 : seen n = y
      · rw [if_pos h2] at h
        exact h3 i h
      · rcases Nat.lt_or_ge i n with q | q
        · exact h3 i q
        · rw [if_neg h2] at h
          rw [show i = n by omega]; exact h2
/-! what indexOf gives, used -/
def fe_ix (c : Nat) (sn sl : Nat → Nat) (y rr c9 : Nat) (sn9 sl9 : Nat → Nat) : Prop := (fe_find sn y c < c → rr = fe_find sn y c + 1 ∧ c9 = c ∧ sn9 = sn ∧ sl9 = sl) ∧ (¬ fe_find sn y c < c → (c = 200 → rr = 0) ∧ (c < 200 → rr = c + 1 ∧ c9 = c + 1 ∧ sn9 = va_up sn c y ∧ fe_H (c + 1) (va_up sn c y) sl9))
theorem fe_w8_and {y : Nat} (hy : y < 2 ^ 64) : y &&& 9838263505978427528 = 0 ↔ fe_w8 y = false := (fm_wide hy).trans fe_w8_f.symm
theorem fe_w8_ne {y : Nat} (hy : y < 2 ^ 64) (h : y &&& 9838263505978427528 ≠ 0) : fe_w8 y = true := by
  cases q : fe_w8 y with
  | true => rfl
  | false => exact absurd ((fe_w8_and hy).mpr q) h
theorem fe_w8_new {c y : Nat} {s : Nat → Nat} (hV : fe_V c s) (h : fe_w8 y = true) : ¬ fe_find s y c < c := fun hf => by
  have h1 := fe_w8_f.mpr (hV.2.1 _ hf).2
  rw [fe_find_in hf, h] at h1
  exact absurd h1 (by decide)
/-- the state of the class's rows between two steps -/
def fe_Z (O I : Nat → Nat) (me k c : Nat) (s sl nx : Nat → Nat) : Prop := fe_R O I me k c s nx ∧ fe_V c s ∧ fe_H c s sl
theorem fe_ix_use {O I : Nat → Nat} {me i a c rr c9 : Nat} {s sl nx sn9 sl9 : Nat → Nat} (hZ : fe_Z O I me (7 * i + a) c s sl nx) (ha : a < 7) (hi : i < c) (he : fs_en O me (s i) a = true) (h8 : fe_w8 (fs_fire O I (s i) a) = false) (hx : fe_ix c s sl (fs_fire O I (s i) a) rr c9 sn9 sl9) (hr : rr ≠ 0) :
    fe_Z O I me (7 * i + a + 1) c9 sn9 sl9 (va_up nx (7 * i + a) rr) ∧ c ≤ c9 ∧ ∀ z, z < c → sn9 z = s z := by
  obtain ⟨hR, hV, hH⟩ := hZ
  by_cases hf : fe_find s (fs_fire O I (s i) a) c < c
  · obtain ⟨e1, e2, e3, e4⟩ := hx.1 hf
    subst e1 e2 e3 e4
    exact ⟨⟨fe_R_old hR ha hi he hf, hV, hH⟩, Nat.le_refl _, fun _ _ => rfl⟩
  · have h1 := hx.2 hf
    have hc : c < 200 := by
      rcases Nat.lt_or_ge c 200 with q | q
      · exact q
      · exact absurd (h1.1 (by have := hV.1; omega)) hr
    obtain ⟨e1, e2, e3, e4⟩ := h1.2 hc
    subst e1 e2 e3
    exact ⟨⟨fe_R_new hR ha hi he hf hc h8, fe_V_add hV hc (fe_fire8 (hV.2.1 i hi).2).2 h8 (fe_find_no hf), e4⟩, by omega, fun z hz => va_up_ne _ _ (by omega)⟩
theorem fe_ix_0 {O I : Nat → Nat} {me i a c rr c9 : Nat} {s sl nx sn9 sl9 : Nat → Nat} (hZ : fe_Z O I me (7 * i + a) c s sl nx) (ha : a < 7) (hi : i < c) (he : fs_en O me (s i) a = true) (hx : fe_ix c s sl (fs_fire O I (s i) a) rr c9 sn9 sl9) (hr : rr = 0) : (fe_run O I me (7 * (i + 1))).2.2.2 = true := by
  obtain ⟨hR, hV, hH⟩ := hZ
  by_cases hf : fe_find s (fs_fire O I (s i) a) c < c
  · have := (hx.1 hf).1
    omega
  · refine fe_R_wide hR ha hi he hf (Or.inr ?_) (by omega)
    rcases Nat.lt_or_ge c 200 with q | q
    · have := ((hx.2 hf).2 q).1
      omega
    · have := hV.1
      omega
theorem fe_en_bit {O : Nat → Nat} {me x a : Nat} (ha : a < 7) : (fs_ens O me x).testBit a = fs_en O me x a := by
  unfold fs_ens
  rw [fs_set_bit, decide_eq_true ha, Bool.true_and]
theorem fs_en_can {O : Nat → Nat} {me x a : Nat} (h : fs_en O me x a = true) : fs_can O x a = true := by
  unfold fs_en at h
  rw [Bool.and_eq_true] at h
  exact h.2
theorem fs_ens_lt (O : Nat → Nat) (me x : Nat) : fs_ens O me x < 128 := fs_set_lt _ (by decide)
/-- all that was found, and what was ever enabled -/
def fe_F (O I : Nat → Nat) (me c : Nat) (s nx : Nat → Nat) (ev : Nat) : Prop := (fe_run O I me 1400).2.2.2 = false ∧ c = (fe_run O I me 1400).1 ∧ (∀ i, i < c → s i = (fe_run O I me 1400).2.1 i) ∧ (∀ j, j < 7 * c → nx j = (fe_run O I me 1400).2.2.1 j) ∧ ev < 128 ∧ ∀ a, ev.testBit a = fs_any (fun m => (fs_ens O me (s m)).testBit a) c
theorem fe_F_of {O I : Nat → Nat} {me c ev : Nat} {s nx : Nat → Nat} (hR : fe_R O I me (7 * c) c s nx) (hc : c ≤ 200) (h1 : ev < 128) (h2 : ∀ a, ev.testBit a = fs_any (fun m => (fs_ens O me (s m)).testBit a) c) : fe_F O I me c s nx ev := by
  obtain ⟨g1, g2, g3, g4⟩ := hR
  have e := fe_done (O := O) (I := I) (me := me) (k := 7 * c) (m := 1400) (by rw [← g2]; omega) (by omega)
  unfold fe_F
  rw [e]
  exact ⟨g1, g2, g3, g4, h1, h2⟩
theorem fe_F_at {O I : Nat → Nat} {me c i ev : Nat} {s sl nx : Nat → Nat} (hZ : fe_Z O I me (7 * i) c s sl nx) (e : c = i) (h1 : ev < 128) (h2 : ∀ a, ev.testBit a = fs_any (fun m => (fs_ens O me (s m)).testBit a) i) : fe_F O I me c s nx ev ∧ fe_V c s := by
  subst e
  exact ⟨fe_F_of hZ.1 hZ.2.1.1 h1 h2, hZ.2.1⟩
