/-! the pairs of a log: fl a b says that a is followed by b -/
def fg_caus (fl : Nat → Nat → Bool) (a b : Nat) : Bool := fl a b && !(fl b a)
def fg_str (fl : Nat → Nat → Bool) (a b : Nat) : Bool := !(fl a b) && !(fl b a)
def fg_ok (fl : Nat → Nat → Bool) (l r a b : Nat) : Bool := (!(l.testBit a && r.testBit b) || fg_caus fl a b) && (!((l.testBit a && l.testBit b) || (r.testBit a && r.testBit b)) || fg_str fl a b)
def fg_C (fl : Nat → Nat → Bool) (l r : Nat) : Bool := (decide (0 < l) && decide (0 < r)) && fs_all (fun a => fs_all (fun b => fg_ok fl l r a b) 7) 7
def fg_more (fl : Nat → Nat → Bool) (l r a : Nat) : Bool := (!(l.testBit a) && fg_C fl (l ||| 2 ^ a) r) || (!(r.testBit a) && fg_C fl l (r ||| 2 ^ a))
def fg_G (fl : Nat → Nat → Bool) (l r : Nat) : Bool := !(fs_any (fg_more fl l r) 7)
def fg_Q (fl : Nat → Nat → Bool) (i : Nat) : Bool := fg_C fl (i / 128) (i % 128) && fg_G fl (i / 128) (i % 128)
def fg_L (fl : Nat → Nat → Bool) (n : Nat) : List Nat := (List.range n).filter (fg_Q fl)
theorem fg_L_t {fl : Nat → Nat → Bool} {n : Nat} (h : fg_Q fl n = true) : fg_L fl (n + 1) = fg_L fl n ++ [n] := by
  unfold fg_L
  rw [List.range_succ, List.filter_append, List.filter_cons_of_pos h, List.filter_nil]
theorem fg_L_f {fl : Nat → Nat → Bool} {n : Nat} (h : fg_Q fl n = false) : fg_L fl (n + 1) = fg_L fl n := by
  unfold fg_L
  rw [List.range_succ, List.filter_append, List.filter_cons_of_neg (by rw [h]; decide), List.filter_nil, List.append_nil]
theorem fg_L_mono {fl : Nat → Nat → Bool} {n m : Nat} (h : n ≤ m) : (fg_L fl n).length ≤ (fg_L fl m).length := by
  induction m with
  | zero => rw [show n = 0 by omega]; exact Nat.le_refl _
  | succ m ih =>
    rcases Nat.lt_or_ge n (m + 1) with h1 | h1
    · have h2 := ih (by omega)
      cases hq : fg_Q fl m with
      | true => rw [fg_L_t hq, List.length_append]; omega
      | false => rw [fg_L_f hq]; exact h2
    · rw [show n = m + 1 by omega]; exact Nat.le_refl _
theorem fg_L_skip {fl : Nat → Nat → Bool} {n : Nat} : ∀ {m : Nat}, n ≤ m → (∀ i, n ≤ i → i < m → fg_Q fl i = false) → fg_L fl m = fg_L fl n
  | 0, h, _ => by rw [show n = 0 by omega]
  | m + 1, h, hf => by
    rcases Nat.lt_or_ge n (m + 1) with h1 | h1
    · rw [fg_L_f (hf m (by omega) (by omega))]
      exact fg_L_skip (by omega) (fun i hi hm => hf i hi (by omega))
    · rw [show n = m + 1 by omega]
/-- the class's words: no two of a set know each other; what all of a set cause -/
def fg_S (fl : Nat → Nat → Bool) (s : Nat) : Bool := fs_all (fun a => fs_all (fun b => !(s.testBit a && s.testBit b) || fg_str fl a b) 7) 7
def fg_E (fl : Nat → Nat → Bool) (s : Nat) : Nat := fs_set (fun b => fs_all (fun a => !(s.testBit a) || fg_caus fl a b) 7) 7
theorem fg_S_iff {fl : Nat → Nat → Bool} {s : Nat} : fg_S fl s = true ↔ ∀ a, a < 7 → ∀ b, b < 7 → s.testBit a = true → s.testBit b = true → fg_str fl a b = true := by
  unfold fg_S
  rw [fs_all_iff]
  constructor
  · intro h a ha b hb h1 h2
    have h3 := fs_all_iff.mp (h a ha) b hb
    rw [h1, h2] at h3
    simpa using h3
  · intro h a ha
    rw [fs_all_iff]
    intro b hb
    cases h1 : s.testBit a with
    | false => rfl
    | true =>
      cases h2 : s.testBit b with
      | false => rfl
      | true =>
        rw [h a ha b hb h1 h2]
        rfl
theorem fg_E_bit {fl : Nat → Nat → Bool} {s b : Nat} (hb : b < 7) : (fg_E fl s).testBit b = true ↔ ∀ a, a < 7 → s.testBit a = true → fg_caus fl a b = true := by
  unfold fg_E
  rw [fs_set_bit, decide_eq_true hb, Bool.true_and, fs_all_iff]
  constructor
  · intro h a ha h1
    have h2 := h a ha
    rw [h1] at h2
    simpa using h2
  · intro h a ha
    cases h1 : s.testBit a with
    | false => rfl
    | true => rw [h a ha h1]; rfl
theorem fg_E_lt (fl : Nat → Nat → Bool) (s : Nat) : fg_E fl s < 128 := fs_set_lt _ (by decide)
/-- the class's test of a causal pair -/
def fg_T (fl : Nat → Nat → Bool) (l r : Nat) : Bool := (fg_S fl l && fg_S fl r) && fs_all (fun b => !(r.testBit b) || (fg_E fl l).testBit b) 7
theorem fg_ok_iff {fl : Nat → Nat → Bool} {l r a b : Nat} : fg_ok fl l r a b = true ↔ (l.testBit a = true → r.testBit b = true → fg_caus fl a b = true) ∧ (l.testBit a = true → l.testBit b = true → fg_str fl a b = true) ∧ (r.testBit a = true → r.testBit b = true → fg_str fl a b = true) := by
  unfold fg_ok
  cases l.testBit a <;> cases l.testBit b <;> cases r.testBit a <;> cases r.testBit b <;> cases fg_caus fl a b <;> cases fg_str fl a b <;> simp
theorem fg_C_T {fl : Nat → Nat → Bool} {l r : Nat} (hl : 0 < l) (hr : 0 < r) : fg_C fl l r = fg_T fl l r := by
  apply Bool.eq_iff_iff.mpr
  unfold fg_C fg_T
  simp only [decide_eq_true hl, decide_eq_true hr, Bool.and_eq_true, fg_S_iff, fs_all_iff]
  simp only [true_and, and_self]
  constructor
  · intro h
    refine ⟨⟨fun a ha b hb h1 h2 => (fg_ok_iff.mp (h a ha b hb)).2.1 h1 h2, fun a ha b hb h1 h2 => (fg_ok_iff.mp (h a ha b hb)).2.2 h1 h2⟩, fun b hb => ?_⟩
    cases h1 : r.testBit b with
    | false => rfl
    | true =>
      rw [(fg_E_bit hb).mpr (fun a ha h2 => (fg_ok_iff.mp (h a ha b hb)).1 h2 h1)]
      rfl
  · intro ⟨⟨h1, h2⟩, h3⟩
    refine fun a ha b hb => fg_ok_iff.mpr ⟨fun q1 q2 => ?_, h1 a ha b hb, h2 a ha b hb⟩
    have h4 := h3 b hb
    rw [q2] at h4
    exact (fg_E_bit hb).mp (by simpa using h4) a ha q1
theorem fg_str_comm (fl : Nat → Nat → Bool) (a b : Nat) : fg_str fl a b = fg_str fl b a := Bool.and_comm _ _
/-- a set with a new greatest element -/
theorem fg_bit_add {r a : Nat} (hr : r < 2 ^ a) (b : Nat) : (r ||| 2 ^ a).testBit b = (r.testBit b || decide (b = a)) := by
  rw [Nat.testBit_or, Nat.testBit_two_pow]
  congr 1
  apply decide_eq_decide.mpr
  exact ⟨Eq.symm, Eq.symm⟩
theorem fg_E_add {fl : Nat → Nat → Bool} {r a c : Nat} (ha : a < 7) (hr : r < 2 ^ a) (hc : c < 128) (hcb : ∀ b, b < 7 → c.testBit b = fg_caus fl a b) : fg_E fl r &&& c = fg_E fl (r ||| 2 ^ a) := by
  refine fb_ext (fb_and_lt hc) (fg_E_lt _ _) (fun b hb => ?_)
  apply Bool.eq_iff_iff.mpr
  rw [Nat.testBit_and, Bool.and_eq_true, fg_E_bit hb, fg_E_bit hb, hcb b hb]
  constructor
  · intro ⟨h1, h2⟩ d hd hq
    rw [fg_bit_add hr, Bool.or_eq_true] at hq
    rcases hq with hq | hq
    · exact h1 d hd hq
    · rw [of_decide_eq_true hq]; exact h2
  · intro h
    refine ⟨fun d hd hq => h d hd (by rw [fg_bit_add hr, hq]; rfl), h a ha (by rw [fg_bit_add hr]; simp)⟩
theorem fg_S_add {fl : Nat → Nat → Bool} {r a k : Nat} (ha : a < 7) (hr : r < 2 ^ a) (hkb : ∀ b, b < 7 → k.testBit b = !(fg_str fl a b)) (hk : k < 128) : (fg_S fl r && decide (k &&& (r ||| 2 ^ a) = 0)) = fg_S fl (r ||| 2 ^ a) := by
  apply Bool.eq_iff_iff.mpr
  rw [Bool.and_eq_true, fg_S_iff, fg_S_iff, decide_eq_true_iff, fm_and0]
  constructor
  · intro ⟨h1, h2⟩ d hd b hb q1 q2
    have key : ∀ c, c < 7 → (r ||| 2 ^ a).testBit c = true → fg_str fl a c = true := fun c hc q => by
      have h3 := h2 c
      rw [q, hkb c hc, Bool.and_true] at h3
      simpa using h3
    have q1' := q1
    have q2' := q2
    rw [fg_bit_add hr, Bool.or_eq_true] at q1 q2
    rcases q1 with q1 | q1
    · rcases q2 with q2 | q2
      · exact h1 d hd b hb q1 q2
      · rw [of_decide_eq_true q2, fg_str_comm]; exact key d hd q1'
    · rw [of_decide_eq_true q1]; exact key b hb q2'
  · intro h
    refine ⟨fun d hd b hb q1 q2 => h d hd b hb (by rw [fg_bit_add hr, q1]; rfl) (by rw [fg_bit_add hr, q2]; rfl), fun i => ?_⟩
    rcases Nat.lt_or_ge i 7 with hi | hi
    · cases q : (r ||| 2 ^ a).testBit i with
      | false => rw [Bool.and_false]
      | true => rw [hkb i hi, h a ha i hi (by rw [fg_bit_add hr]; simp) q]; rfl
    · rw [fb_big hk hi, Bool.false_and]
theorem fg_E0 (fl : Nat → Nat → Bool) : fg_E fl 0 = 127 := by
  refine fb_ext (fg_E_lt _ _) (by decide) (fun b hb => ?_)
  rw [(fg_E_bit hb).mpr (fun a _ h => by rw [Nat.zero_testBit] at h; exact absurd h (by decide))]
  exact ((by decide +kernel : ∀ b, b < 7 → true = (127 : Nat).testBit b) b hb)
theorem fg_S0 (fl : Nat → Nat → Bool) : fg_S fl 0 = true := fg_S_iff.mpr (fun a _ b _ h _ => by rw [Nat.zero_testBit] at h; exact absurd h (by decide))
theorem fg_Q_0 {fl : Nat → Nat → Bool} {i : Nat} (h : i % 128 = 0) : fg_Q fl i = false := by
  unfold fg_Q fg_C
  rw [h]
  simp
/-- followed, in a log of T traces with lengths len, at 15 places each -/
def fg_fl (T : Nat) (len ev : Nat → Nat) (a b : Nat) : Bool := fs_any (fun t => fs_any (fun i => decide (ev (15 * t + i) = a) && decide (ev (15 * t + i + 1) = b)) (len t - 1)) T
theorem fg_fl_iff {T : Nat} {len ev : Nat → Nat} {a b : Nat} : fg_fl T len ev a b = true ↔ ∃ t i, t < T ∧ i + 1 < len t ∧ ev (15 * t + i) = a ∧ ev (15 * t + i + 1) = b := by
  unfold fg_fl
  rw [fs_any_iff]
  constructor
  · intro ⟨t, ht, h⟩
    obtain ⟨i, hi, h2⟩ := fs_any_iff.mp h
    rw [Bool.and_eq_true, decide_eq_true_iff, decide_eq_true_iff] at h2
    exact ⟨t, i, ht, by omega, h2.1, h2.2⟩
  · intro ⟨t, i, ht, hi, h1, h2⟩
    exact ⟨t, ht, fs_any_iff.mpr ⟨i, by omega, by rw [decide_eq_true h1, decide_eq_true h2]; rfl⟩⟩
/-! what occurs, begins, ends in a log -/
theorem fb_or_bit (s e a : Nat) : (s ||| 2 ^ e).testBit a = (s.testBit a || decide (e = a)) := by rw [Nat.testBit_or, Nat.testBit_two_pow]
def fg_oc (T : Nat) (len ev : Nat → Nat) (a : Nat) : Bool := fs_any (fun t => fs_any (fun i => decide (ev (15 * t + i) = a)) (len t)) T
def fg_be (T : Nat) (len ev : Nat → Nat) (a : Nat) : Bool := fs_any (fun t => decide (0 < len t) && decide (ev (15 * t + 0) = a)) T
def fg_nd (T : Nat) (len ev : Nat → Nat) (a : Nat) : Bool := fs_any (fun t => decide (0 < len t) && decide (ev (15 * t + (len t - 1)) = a)) T
theorem fs_any_s (f : Nat → Bool) (n : Nat) : fs_any f (n + 1) = (fs_any f n || f n) := rfl
theorem fs_all_s (f : Nat → Bool) (n : Nat) : fs_all f (n + 1) = (fs_all f n && f n) := rfl
theorem fs_set_of {s : Nat} {f : Nat → Bool} (hs : s < 128) (h : ∀ a, s.testBit a = f a) : s = fs_set f 7 := by
  refine fb_ext hs (fs_set_lt _ (by decide)) (fun a ha => ?_)
  rw [fs_set_bit, decide_eq_true ha, Bool.true_and, h a]
theorem fg_be_s (t : Nat) (len ev : Nat → Nat) (a : Nat) : fg_be (t + 1) len ev a = (fg_be t len ev a || (decide (0 < len t) && decide (ev (15 * t + 0) = a))) := rfl
theorem fg_nd_s (t : Nat) (len ev : Nat → Nat) (a : Nat) : fg_nd (t + 1) len ev a = (fg_nd t len ev a || (decide (0 < len t) && decide (ev (15 * t + (len t - 1)) = a))) := rfl
theorem fg_oc_s (t : Nat) (len ev : Nat → Nat) (a : Nat) : fg_oc (t + 1) len ev a = (fg_oc t len ev a || fs_any (fun i => decide (ev (15 * t + i) = a)) (len t)) := rfl
