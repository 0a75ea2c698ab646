/-! rows for the miner -/
theorem fn_xor (a b : Nat) : nI a ^^^ nI b = nI (a ^^^ b) := by
  apply Int32.toBitVec_inj.1
  show BitVec.ofNat 32 a ^^^ BitVec.ofNat 32 b = BitVec.ofNat 32 (a ^^^ b)
  apply BitVec.eq_of_getLsbD_eq
  intro i hi
  simp [hi]
def fg_kn (fl : Nat → Nat → Bool) (a b : Nat) : Bool := fl a b || fl b a
theorem fg_kn_str (fl : Nat → Nat → Bool) (a b : Nat) : fg_kn fl a b = !(fg_str fl a b) := by
  unfold fg_kn fg_str
  cases fl a b <;> cases fl b a <;> rfl
theorem fb_ones : ∀ i, i < 7 → (4294967295 : Nat).testBit i = true := by decide +kernel
theorem fb_sub {r e : Nat} (hr : r < 128) : r &&& (e ^^^ 4294967295) = 0 ↔ fs_all (fun b => !(r.testBit b) || e.testBit b) 7 = true := by
  rw [fm_and0, fs_all_iff]
  constructor
  · intro h b hb
    have h1 := h b
    rw [Nat.testBit_xor, fb_ones b hb] at h1
    cases q : r.testBit b <;> cases z : e.testBit b <;> rw [q, z] at h1 <;> simp at h1 ⊢
  · intro h i
    rcases Nat.lt_or_ge i 7 with hi | hi
    · have h1 := h i hi
      rw [Nat.testBit_xor, fb_ones i hi]
      cases q : r.testBit i <;> cases z : e.testBit i <;> rw [q, z] at h1 <;> simp at h1 ⊢
    · rw [fb_big hr hi, Bool.false_and]
theorem fb_or_pos {l k : Nat} (h : 0 < l) : 0 < l ||| k := Nat.lt_of_lt_of_le h Nat.left_le_or
theorem fg_more_eq {fl : Nat → Nat → Bool} {l r : Nat} (hl : 0 < l) (hr : 0 < r) (a : Nat) : fg_more fl l r a = ((!(l.testBit a) && fg_T fl (l ||| 2 ^ a) r) || (!(r.testBit a) && fg_T fl l (r ||| 2 ^ a))) := by
  unfold fg_more
  rw [fg_C_T (fb_or_pos hl) hr, fg_C_T hl (fb_or_pos hr)]
theorem fg_Q_eq {fl : Nat → Nat → Bool} {l r : Nat} (hr : r < 128) : fg_Q fl (128 * l + r) = (fg_C fl l r && fg_G fl l r) := by
  unfold fg_Q
  rw [show (128 * l + r) / 128 = l by omega, show (128 * l + r) % 128 = r by omega]
theorem fl_left (l m : List Nat) {k : Nat} (h : k < l.length) : (l ++ m).getD k 0 = l.getD k 0 := by
  rw [List.getD_eq_getElem?_getD, List.getD_eq_getElem?_getD, List.getElem?_append_left h]
theorem fl_new (l : List Nat) (x : Nat) : (l ++ [x]).getD l.length 0 = x := by
  rw [List.getD_eq_getElem?_getD, List.getElem?_append_right (Nat.le_refl _), Nat.sub_self]
  rfl
theorem fl_mem (l : List Nat) {k : Nat} (h : k < l.length) : l.getD k 0 ∈ l := by
  rw [List.getD_eq_getElem?_getD, List.getElem?_eq_getElem h]
  exact List.getElem_mem h
/-- the pairs found below n, in their rows -/
def fg_P (fl : Nat → Nat → Bool) (n pr : Nat) (pin pou : Nat → Nat) : Prop := pr = (fg_L fl n).length ∧ pr ≤ 14 ∧ ∀ k, k < pr → pin k = (fg_L fl n).getD k 0 / 128 ∧ pou k = (fg_L fl n).getD k 0 % 128
theorem fg_P_f {fl : Nat → Nat → Bool} {n pr : Nat} {pin pou : Nat → Nat} (h : fg_P fl n pr pin pou) (hq : fg_Q fl n = false) : fg_P fl (n + 1) pr pin pou := by
  unfold fg_P
  rw [fg_L_f hq]
  exact h
theorem fg_P_t {fl : Nat → Nat → Bool} {n pr : Nat} {pin pou : Nat → Nat} (h : fg_P fl n pr pin pou) (hp : pr < 14) (hq : fg_Q fl n = true) : fg_P fl (n + 1) (pr + 1) (va_up pin pr (n / 128)) (va_up pou pr (n % 128)) := by
  obtain ⟨h1, h2, h3⟩ := h
  unfold fg_P
  rw [fg_L_t hq]
  refine ⟨by rw [List.length_append, ← h1]; rfl, by omega, fun k hk => ?_⟩
  rcases Nat.lt_or_ge k pr with q | q
  · rw [va_up_ne _ _ (by omega), va_up_ne _ _ (by omega), fl_left _ _ (by omega)]
    exact h3 k q
  · have e : k = pr := by omega
    subst e
    rw [va_up_self, va_up_self, h1, fl_new]
    exact ⟨rfl, rfl⟩
theorem fg_P_skip {fl : Nat → Nat → Bool} {n m pr : Nat} {pin pou : Nat → Nat} (h : fg_P fl n pr pin pou) (hm : n ≤ m) (hq : ∀ i, n ≤ i → i < m → fg_Q fl i = false) : fg_P fl m pr pin pou := by
  unfold fg_P
  rw [fg_L_skip hm hq]
  exact h
theorem fg_P_full {fl : Nat → Nat → Bool} {n pr : Nat} {pin pou : Nat → Nat} (h : fg_P fl n pr pin pou) (hp : pr = 14) (hq : fg_Q fl n = true) (hn : n < 16384) : 14 < (fg_L fl 16384).length := by
  have h1 := fg_L_mono (fl := fl) (show n + 1 ≤ 16384 by omega)
  rw [fg_L_t hq, List.length_append, ← h.1, hp] at h1
  exact h1
theorem fg_P_lt {fl : Nat → Nat → Bool} {n pr : Nat} {pin pou : Nat → Nat} (h : fg_P fl n pr pin pou) (hn : n ≤ 16384) {k : Nat} (hk : k < pr) : pin k < 128 ∧ pou k < 128 := by
  obtain ⟨h1, _, h3⟩ := h
  have h4 : (fg_L fl n).getD k 0 ∈ fg_L fl n := fl_mem _ (by omega)
  have h5 := List.mem_range.mp (List.mem_filter.mp h4).1
  rw [(h3 k hk).1, (h3 k hk).2]
  omega
theorem fg_noS {fl : Nat → Nat → Bool} {l : Nat} (h : fg_S fl l = false) {i : Nat} (h1 : 128 * l ≤ i) (h2 : i < 128 * (l + 1)) : fg_Q fl i = false := by
  rw [show i = 128 * l + i % 128 by omega, fg_Q_eq (by omega)]
  rcases Nat.eq_zero_or_pos l with z | z
  · subst z; unfold fg_C; simp
  · rcases Nat.eq_zero_or_pos (i % 128) with y | y
    · rw [y]; unfold fg_C; simp
    · rw [fg_C_T z y]; unfold fg_T; rw [h]; rfl
theorem fb_some : ∀ r, r < 128 → 0 < r → ∃ b, b < 7 ∧ r.testBit b = true := by decide +kernel
theorem fg_noE {fl : Nat → Nat → Bool} {l : Nat} (h : fg_E fl l = 0) {i : Nat} (h1 : 128 * l ≤ i) (h2 : i < 128 * (l + 1)) : fg_Q fl i = false := by
  rw [show i = 128 * l + i % 128 by omega, fg_Q_eq (by omega)]
  rcases Nat.eq_zero_or_pos l with z | z
  · subst z; unfold fg_C; simp
  · rcases Nat.eq_zero_or_pos (i % 128) with y | y
    · rw [y]; unfold fg_C; simp
    · rw [fg_C_T z y]
      obtain ⟨b, hb, hq⟩ := fb_some (i % 128) (by omega) y
      unfold fg_T
      rw [fs_all_f hb (by rw [hq, h, Nat.zero_testBit]; rfl), Bool.and_false, Bool.false_and]
theorem fb_add_or {r a : Nat} (h : r < 2 ^ a) : r ||| 2 ^ a = 2 ^ a + r := by
  have h1 := Nat.two_pow_add_eq_or_of_lt h 1
  rw [Nat.mul_one] at h1
  rw [h1, Nat.or_comm]
theorem fb_pow_le {a : Nat} (h : a < 7) : 2 ^ a + 2 ^ a ≤ 128 := by
  have h1 : 2 ^ (a + 1) ≤ 2 ^ 7 := Nat.pow_le_pow_right (by decide) (by omega)
  rw [Nat.pow_succ] at h1
  omega
