/-! the log as it grows -/
theorem fg_fl_congr {T : Nat} {l1 l2 e1 e2 : Nat → Nat} (hl : ∀ t, t < T → l1 t = l2 t) (he : ∀ t, t < T → ∀ i, i < l2 t → e1 (15 * t + i) = e2 (15 * t + i)) (a b : Nat) : fg_fl T l1 e1 a b = fg_fl T l2 e2 a b := by
  unfold fg_fl
  refine fs_any_congr (fun t ht => ?_)
  rw [hl t ht]
  refine fs_any_congr (fun i hi => ?_)
  rw [he t ht i (by omega), show 15 * t + i + 1 = 15 * t + (i + 1) by omega, he t ht (i + 1) (by omega)]
theorem fg_fl_begin {T : Nat} {len ev : Nat → Nat} (a b : Nat) : fg_fl (T + 1) (va_up len T 0) ev a b = fg_fl T len ev a b := by
  have e : fg_fl (T + 1) (va_up len T 0) ev a b = (fg_fl T (va_up len T 0) ev a b || fs_any (fun i => decide (ev (15 * T + i) = a) && decide (ev (15 * T + i + 1) = b)) (va_up len T 0 T - 1)) := rfl
  rw [e, va_up_self]
  show (_ || false) = _
  rw [Bool.or_false]
  exact fg_fl_congr (fun t ht => va_up_ne _ _ (by omega)) (fun t ht i hi => rfl) a b
theorem fg_fl_0 (len ev : Nat → Nat) (a b : Nat) : fg_fl 0 len ev a b = false := rfl
theorem fg_fl_add {T x : Nat} {len ev : Nat → Nat} (h0 : 0 < T) (hl : ∀ t, t < T → len t ≤ 15) (h15 : len (T - 1) < 15) (a b : Nat) : fg_fl T (va_up len (T - 1) (len (T - 1) + 1)) (va_up ev (15 * (T - 1) + len (T - 1)) x) a b = (fg_fl T len ev a b || (decide (0 < len (T - 1)) && (decide (ev (15 * (T - 1) + (len (T - 1) - 1)) = a) && decide (x = b)))) := by
  obtain ⟨n, rfl⟩ : ∃ n, T = n + 1 := ⟨T - 1, by omega⟩
  simp only [Nat.add_sub_cancel] at h15 ⊢
  have e : ∀ l v, fg_fl (n + 1) l v a b = (fg_fl n l v a b || fs_any (fun i => decide (v (15 * n + i) = a) && decide (v (15 * n + i + 1) = b)) (l n - 1)) := fun _ _ => rfl
  rw [e, e, va_up_self]
  have e1 : fg_fl n (va_up len n (len n + 1)) (va_up ev (15 * n + len n) x) a b = fg_fl n len ev a b := fg_fl_congr (fun t ht => va_up_ne _ _ (by omega)) (fun t ht i hi => va_up_ne _ _ (by have := hl t (by omega); omega)) a b
  rw [e1, Bool.or_assoc]
  congr 1
  rcases Nat.eq_zero_or_pos (len n) with z | z
  · rw [z, decide_eq_false (by decide)]
    rfl
  · rw [decide_eq_true z, Bool.true_and, show len n + 1 - 1 = (len n - 1) + 1 by omega, fs_any_s]
    congr 1
    · exact fs_any_congr (fun i hi => by rw [va_up_ne _ _ (by omega), va_up_ne _ _ (by omega)])
    · rw [va_up_ne _ _ (by omega), show 15 * n + (len n - 1) + 1 = 15 * n + len n by omega, va_up_self]
/-- the followers stay right -/
def fg_fo (T : Nat) (len ev fo : Nat → Nat) : Prop := (∀ k, k < 7 → fo k < 128) ∧ ∀ a, a < 7 → ∀ b, b < 7 → (fo a).testBit b = fg_fl T len ev a b
theorem fg_fo_add {T x : Nat} {len ev fo : Nat → Nat} (h : fg_fo T len ev fo) (h0 : 0 < T) (hl : ∀ t, t < T → len t ≤ 15) (h15 : len (T - 1) < 15) (hx : x < 7) (he : ∀ i, i < len (T - 1) → ev (15 * (T - 1) + i) < 7) :
    fg_fo T (va_up len (T - 1) (len (T - 1) + 1)) (va_up ev (15 * (T - 1) + len (T - 1)) x) (if 0 < len (T - 1) then va_up fo (ev (15 * (T - 1) + (len (T - 1) - 1))) (fo (ev (15 * (T - 1) + (len (T - 1) - 1))) ||| 2 ^ x) else fo) := by
  refine ⟨fun k hk => ?_, fun a ha b hb => ?_⟩
  · by_cases z : 0 < len (T - 1)
    · rw [if_pos z]
      by_cases e : k = ev (15 * (T - 1) + (len (T - 1) - 1))
      · rw [e, va_up_self]
        exact fb_or_lt (h.1 _ (he _ (by omega))) (fb_pow_lt hx)
      · rw [va_up_ne _ _ e]; exact h.1 k hk
    · rw [if_neg z]; exact h.1 k hk
  · rw [fg_fl_add h0 hl h15, ← h.2 a ha b hb]
    by_cases z : 0 < len (T - 1)
    · rw [if_pos z, decide_eq_true z, Bool.true_and]
      by_cases e : a = ev (15 * (T - 1) + (len (T - 1) - 1))
      · rw [e, va_up_self, fb_or_bit, decide_eq_true rfl, Bool.true_and]
      · rw [va_up_ne _ _ e, decide_eq_false (fun q => e q.symm), Bool.false_and, Bool.or_false]
    · rw [if_neg z, decide_eq_false z, Bool.false_and, Bool.or_false]
theorem fg_fo_begin {T : Nat} {len ev fo : Nat → Nat} (h : fg_fo T len ev fo) : fg_fo (T + 1) (va_up len T 0) ev fo := ⟨h.1, fun a ha b hb => by rw [fg_fl_begin]; exact h.2 a ha b hb⟩
theorem fg_fo_0 {len ev fo : Nat → Nat} (h : ∀ k, k < 7 → fo k = 0) : fg_fo 0 len ev fo := ⟨fun k hk => by rw [h k hk]; decide, fun a ha b hb => by rw [h a ha, Nat.zero_testBit]; rfl⟩
