/-! rows for the reference's mine and play -/
theorem fn_sar {a k : Nat} (ha : a < 2 ^ 64) (hk : k ≤ 42) : (lN a >>> ((nI k).toInt64 &&& 63)) &&& lN 7 = lN (a / 2 ^ k % 8) := by
  rw [fn_cc k (by omega)]
  apply fn_linj
  rw [Int64.toBitVec_and, Int64.toBitVec_shiftRight, fn_tb, fn_tb, fn_tb, fn_tb, fn_sm k (by omega)]
  apply BitVec.eq_of_getLsbD_eq
  intro i hi
  rw [BitVec.getLsbD_and]
  have e7 : (BitVec.ofNat 64 7).getLsbD i = decide (i < 3) := (by decide +kernel : ∀ i, i < 64 → (BitVec.ofNat 64 7).getLsbD i = decide (i < 3)) i hi
  have e8 : (BitVec.ofNat 64 (a / 2 ^ k % 8)).getLsbD i = (decide (i < 3) && a.testBit (k + i)) := by
    rw [BitVec.getLsbD_ofNat, decide_eq_true hi, Bool.true_and, show (8 : Nat) = 2 ^ 3 by decide, Nat.testBit_mod_two_pow, Nat.testBit_div_two_pow, Nat.add_comm]
  rw [e7, e8]
  by_cases q : i < 3
  · rw [decide_eq_true q, Bool.and_true, Bool.true_and]
    have e9 : (BitVec.ofNat 64 k).toNat = k := by rw [BitVec.toNat_ofNat, Nat.mod_eq_of_lt (by omega)]
    show ((BitVec.ofNat 64 a).sshiftRight (BitVec.ofNat 64 k).toNat).getLsbD i = _
    rw [e9, BitVec.getLsbD_sshiftRight, decide_eq_false (show ¬ 64 ≤ i by omega), if_pos (by omega), BitVec.getLsbD_ofNat, decide_eq_true (show k + i < 64 by omega)]
    rfl
  · rw [decide_eq_false q, Bool.and_false, Bool.false_and]
theorem fp_pk_e (e f a l : Nat) : fp_pk e (f + 1) a l = if e.testBit a = true then (if l = 0 then a else fp_pk e f (a + 1) (l - 1)) else fp_pk e f (a + 1) l := rfl
theorem fp_bt_e (e f a : Nat) : fp_bt e (f + 1) a = (e.testBit a).toNat + fp_bt e f (a + 1) := rfl
theorem fp_pk_go {e a l g : Nat} (ha : a < 7) (h1 : g = fp_pk e (7 - a) a l) (h2 : l < fp_bt e (7 - a) a) (h3 : e.testBit a = true → 0 < l) : g = fp_pk e (7 - (a + 1)) (a + 1) (l - (e.testBit a).toNat) ∧ l - (e.testBit a).toNat < fp_bt e (7 - (a + 1)) (a + 1) := by
  rw [show 7 - a = (7 - (a + 1)) + 1 by omega] at h1 h2
  rw [fp_pk_e] at h1
  rw [fp_bt_e] at h2
  cases q : e.testBit a with
  | true =>
    rw [q] at h1 h2
    have := h3 q
    rw [if_pos rfl, if_neg (by omega)] at h1
    have h2' : l < 1 + fp_bt e (7 - (a + 1)) (a + 1) := h2
    exact ⟨h1, show l - 1 < _ by omega⟩
  | false =>
    rw [q] at h1 h2
    rw [if_neg (by decide)] at h1
    have h2' : l < 0 + fp_bt e (7 - (a + 1)) (a + 1) := h2
    exact ⟨h1, show l - 0 < _ by omega⟩
theorem fp_pk_at {e a g : Nat} (ha : a < 7) (h1 : g = fp_pk e (7 - a) a 0) (h3 : e.testBit a = true) : a = g := by
  rw [show 7 - a = (7 - (a + 1)) + 1 by omega, fp_pk_e, if_pos h3, if_pos rfl] at h1
  exact h1.symm
theorem fp_bt_pos {e a l : Nat} (h : l < fp_bt e (7 - a) a) : a < 7 := by
  rcases Nat.lt_or_ge a 7 with q | q
  · exact q
  · rw [show 7 - a = 0 by omega] at h
    exact absurd h (Nat.not_lt_zero _)
theorem fs_bc_s (s n : Nat) : fs_bc s (n + 1) = fs_bc s n + (s.testBit n).toNat := rfl
theorem fs_bc_le (s : Nat) : ∀ n, fs_bc s n ≤ n
  | 0 => Nat.le_refl _
  | n + 1 => by
    have h1 := fs_bc_le s n
    have h2 : (s.testBit n).toNat ≤ 1 := by cases s.testBit n <;> decide
    rw [fs_bc_s]
    omega
theorem fs_bc_zero : ∀ e, e < 128 → fs_bc e 7 = 0 → e = 0 := by decide +kernel
/-- the pairs with room for one too many -/
def fr_P (fl : Nat → Nat → Bool) (n pr : Nat) (pin pou : Nat → Nat) : Prop := pr ≤ 15 ∧ (pr < 15 → pr = (fg_L fl n).length ∧ ∀ k, k < pr → pin k = (fg_L fl n).getD k 0 / 128 ∧ pou k = (fg_L fl n).getD k 0 % 128) ∧ (pr = 15 → 14 < (fg_L fl 16384).length)
theorem fr_P_f {fl : Nat → Nat → Bool} {n pr : Nat} {pin pou : Nat → Nat} (h : fr_P fl n pr pin pou) (hq : fg_Q fl n = false) : fr_P fl (n + 1) pr pin pou := by
  unfold fr_P
  rw [fg_L_f hq]
  exact h
theorem fr_P_t {fl : Nat → Nat → Bool} {n pr : Nat} {pin pou : Nat → Nat} (h : fr_P fl n pr pin pou) (hp : pr < 15) (hq : fg_Q fl n = true) (hn : n < 16384) : fr_P fl (n + 1) (pr + 1) (va_up pin pr (n / 128)) (va_up pou pr (n % 128)) := by
  obtain ⟨h1, h3⟩ := h.2.1 hp
  have e : (fg_L fl (n + 1)).length = pr + 1 := by rw [fg_L_t hq, List.length_append, ← h1]; rfl
  refine ⟨by omega, fun _ => ⟨e.symm, fun k hk => ?_⟩, fun z => ?_⟩
  · rw [fg_L_t hq]
    rcases Nat.lt_or_ge k pr with q | q
    · rw [va_up_ne _ _ (by omega), va_up_ne _ _ (by omega), fl_left _ _ (by omega)]
      exact h3 k q
    · have e : k = pr := by omega
      subst e
      rw [va_up_self, va_up_self, h1, fl_new]
      exact ⟨rfl, rfl⟩
  · have := fg_L_mono (fl := fl) (show n + 1 ≤ 16384 by omega)
    omega
theorem fr_P_0 {fl : Nat → Nat → Bool} {pin pou : Nat → Nat} : fr_P fl (128 * 1) 0 pin pou := by
  have e : fg_L fl (128 * 1) = fg_L fl 0 := fg_L_skip (by omega) (fun i _ hi => by
    rw [show i = 128 * 0 + i by omega, fg_Q_eq (by omega)]
    unfold fg_C
    simp)
  refine ⟨by decide, fun _ => ?_, fun z => absurd z (by decide)⟩
  rw [e]
  exact ⟨rfl, fun k hk => absurd hk (Nat.not_lt_zero k)⟩
theorem fr_P_lt {fl : Nat → Nat → Bool} {n pr : Nat} {pin pou : Nat → Nat} (h : fr_P fl n pr pin pou) (hp : pr < 15) (hn : n ≤ 16384) {k : Nat} (hk : k < pr) : pin k < 128 ∧ pou k < 128 := by
  obtain ⟨h1, h3⟩ := h.2.1 hp
  have h4 : (fg_L fl n).getD k 0 ∈ fg_L fl n := fl_mem _ (by omega)
  have h5 := List.mem_range.mp (List.mem_filter.mp h4).1
  rw [(h3 k hk).1, (h3 k hk).2]
  omega
theorem fp_bt_le (e : Nat) : ∀ f a, f ≤ 7 → fp_bt e f a ≤ 7 := by
  have k : ∀ f a, fp_bt e f a ≤ f := by
    intro f
    induction f with
    | zero => exact fun _ => Nat.le_refl _
    | succ f ih =>
      intro a
      have h1 := ih (a + 1)
      have h2 : (e.testBit a).toNat ≤ 1 := by cases e.testBit a <;> decide
      rw [fp_bt_e]
      omega
  exact fun f a h => Nat.le_trans (k f a) h
theorem fr_P_any {fl : Nat → Nat → Bool} {n m pr : Nat} {pin pou : Nat → Nat} (h : fr_P fl n pr pin pou) (hp : 15 ≤ pr) : fr_P fl m pr pin pou := ⟨h.1, fun q => absurd q (by omega), h.2.2⟩
