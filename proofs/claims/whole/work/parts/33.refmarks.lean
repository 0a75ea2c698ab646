/-! the reference's marks -/
def fr_M (c : Nat) (mk s : Nat → Nat) : Prop := ∀ m, m < c → ∀ p, p < 16 → mk (16 * m + p) = fm_dg (s m) (fr_cp p)
theorem fr_T_fire8 {O I : Nat → Nat} {t9 : Nat → Nat} {x a : Nat} (hx : ∀ j, j < 16 → fm_dg x j < 8) (h : ∀ p, p < 16 → t9 p = fm_dg x (fr_cp p) - (fs_tak O a (fr_cp p)).toNat + (fs_tak I a (fr_cp p)).toNat) : fr_T t9 (fs_fire O I x a) := fun p hp => by rw [h p hp, (fe_fire8 hx).1 _ (fr_cp_lt hp)]
theorem fr_T_fire {O I : Nat → Nat} {t9 : Nat → Nat} {x a n : Nat} (hI : I 0 = 0) (hb : fp_bd x n) (hn : n < 15) (h : ∀ p, p < 16 → t9 p = fm_dg x (fr_cp p) - (fs_tak O a (fr_cp p)).toNat + (fs_tak I a (fr_cp p)).toNat) : fr_T t9 (fs_fire O I x a) := fun p hp => by rw [h p hp, (fp_fire hI hb hn).2 _ (fr_cp_lt hp)]
theorem fr_M_eq {c m y : Nat} {mk s tk : Nat → Nat} (hM : fr_M c mk s) (hm : m < c) (hT : fr_T tk y) (hs : s m < 2 ^ 64) (hy : y < 2 ^ 64) : fs_all (fun p => decide (mk (16 * m + p) = tk p)) 16 = decide (s m = y) := by
  apply Bool.eq_iff_iff.mpr
  rw [fs_all_iff, decide_eq_true_iff]
  constructor
  · intro h
    refine fm_ext hs hy (fr_cp_all (fun p hp => ?_))
    have h1 := of_decide_eq_true (h p hp)
    rw [hM m hm p hp, hT p hp] at h1
    exact h1
  · intro e p hp
    apply decide_eq_true
    rw [hM m hm p hp, hT p hp, e]
theorem fr_w8 {tk : Nat → Nat} {y : Nat} (hT : fr_T tk y) : fs_any (fun p => decide (7 < tk p)) 16 = fe_w8 y := by
  apply Bool.eq_iff_iff.mpr
  unfold fe_w8
  rw [fs_any_iff, fs_any_iff]
  constructor
  · intro ⟨p, hp, h⟩
    have h1 := of_decide_eq_true h
    rw [hT p hp] at h1
    exact ⟨fr_cp p, fr_cp_lt hp, decide_eq_true (by omega)⟩
  · intro ⟨j, hj, h⟩
    have h1 := of_decide_eq_true h
    by_cases q : j < 2
    · refine ⟨j + 14, by omega, decide_eq_true ?_⟩
      rw [hT (j + 14) (by omega)]
      unfold fr_cp
      rw [if_neg (by omega), Nat.add_sub_cancel]
      omega
    · refine ⟨j - 2, by omega, decide_eq_true ?_⟩
      rw [hT (j - 2) (by omega)]
      unfold fr_cp
      rw [if_pos (by omega), show j - 2 + 2 = j by omega]
      omega
theorem fr_M_add {c y : Nat} {mk m9 s tk : Nat → Nat} (hM : fr_M c mk s) (hT : fr_T tk y) (h1 : ∀ k, k < 16 * c → m9 k = mk k) (h2 : ∀ p, p < 16 → m9 (16 * c + p) = tk p) : fr_M (c + 1) m9 (va_up s c y) := by
  intro m hm p hp
  rcases Nat.lt_or_ge m c with q | q
  · rw [h1 _ (by omega), va_up_ne _ _ (by omega)]
    exact hM m q p hp
  · rw [show m = c by omega, va_up_self, h2 p hp]
    exact hT p hp
/-- what number gives -/
def fr_nu (c : Nat) (w : Bool) (mk s : Nat → Nat) (y c9 : Nat) (w9 : Bool) (m9 : Nat → Nat) : Prop := (fe_find s y c < c → c9 = c ∧ w9 = w ∧ m9 = mk) ∧ (¬ fe_find s y c < c → c9 = c + 1 ∧ w9 = (w || fe_w8 y) ∧ fr_M (c + 1) m9 (va_up s c y))
theorem fe_find_fst {s : Nat → Nat} {y n m : Nat} (h : ∀ i, i < m → s i ≠ y) (hm : m < n) (e : s m = y) : fe_find s y n = m := by
  have q : fe_find s y n < n := by
    rcases Nat.lt_or_ge (fe_find s y n) n with w | w
    · exact w
    · exact absurd e (fe_find_no (Nat.not_lt.mpr w) m hm)
  rcases Nat.lt_trichotomy (fe_find s y n) m with w | w | w
  · exact absurd (fe_find_in q) (h _ w)
  · exact w
  · exact absurd e (fe_find_lt w)
