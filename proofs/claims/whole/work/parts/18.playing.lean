/-! playing and replaying -/
def fp_pk (e : Nat) : Nat → Nat → Nat → Nat
  | 0, _, _ => 0
  | f + 1, a, l => if e.testBit a = true then (if l = 0 then a else fp_pk e f (a + 1) (l - 1)) else fp_pk e f (a + 1) l
def fp_bt (e : Nat) : Nat → Nat → Nat
  | 0, _ => 0
  | f + 1, a => (e.testBit a).toNat + fp_bt e f (a + 1)
theorem fp_bt_bc : ∀ e, e < 128 → fp_bt e 7 0 = fs_bc e 7 := by decide +kernel
theorem fp_pk_in {e : Nat} : ∀ {f a l : Nat}, l < fp_bt e f a → a ≤ fp_pk e f a l ∧ fp_pk e f a l < a + f ∧ e.testBit (fp_pk e f a l) = true
  | 0, _, _, h => absurd h (Nat.not_lt_zero _)
  | f + 1, a, l, h => by
    have h1 : l < (e.testBit a).toNat + fp_bt e f (a + 1) := h
    show a ≤ (if e.testBit a = true then (if l = 0 then a else fp_pk e f (a + 1) (l - 1)) else fp_pk e f (a + 1) l) ∧ _ < _ ∧ e.testBit _ = true
    by_cases q : e.testBit a = true
    · have e9 : fp_pk e (f + 1) a l = if l = 0 then a else fp_pk e f (a + 1) (l - 1) := by
        show (if e.testBit a = true then (if l = 0 then a else fp_pk e f (a + 1) (l - 1)) else fp_pk e f (a + 1) l) = _
        rw [if_pos q]
      rw [e9, if_pos q]
      by_cases z : l = 0
      · rw [if_pos z]
        exact ⟨Nat.le_refl _, by omega, q⟩
      · rw [if_neg z]
        rw [q] at h1
        have h2 := fp_pk_in (e := e) (f := f) (a := a + 1) (l := l - 1) (by simp at h1; omega)
        exact ⟨by omega, by omega, h2.2.2⟩
    · have e9 : fp_pk e (f + 1) a l = fp_pk e f (a + 1) l := by
        show (if e.testBit a = true then (if l = 0 then a else fp_pk e f (a + 1) (l - 1)) else fp_pk e f (a + 1) l) = _
        rw [if_neg q]
      rw [e9, if_neg q]
      have q' : e.testBit a = false := by cases z : e.testBit a <;> simp_all
      rw [q'] at h1
      have h2 := fp_pk_in (e := e) (f := f) (a := a + 1) (l := l) (by simp at h1; omega)
      exact ⟨by omega, by omega, h2.2.2⟩
theorem fs_bc_pos : ∀ e, e < 128 → e ≠ 0 → 0 < fs_bc e 7 := by decide +kernel
theorem fp_pk_ok {e num : Nat} (he : e < 128) (h0 : e ≠ 0) : fp_pk e 7 0 (num % fs_bc e 7) < 7 ∧ e.testBit (fp_pk e 7 0 (num % fs_bc e 7)) = true := by
  have h1 := fp_pk_in (e := e) (f := 7) (a := 0) (l := num % fs_bc e 7) (by rw [fp_bt_bc e he]; exact Nat.mod_lt _ (fs_bc_pos e he h0))
  exact ⟨by omega, h1.2.2⟩
/-- after n firings no place but the source holds more than n -/
def fp_bd (x n : Nat) : Prop := x < 2 ^ 64 ∧ ∀ j, j < 16 → fm_dg x j ≤ if j = 0 then 1 else n
theorem fp_bd_0 : fp_bd 1 0 := ⟨by decide, by decide +kernel⟩
theorem fp_fire {O I : Nat → Nat} {x a n : Nat} (hI : I 0 = 0) (h : fp_bd x n) (hn : n < 15) : fp_bd (fs_fire O I x a) (n + 1) ∧ ∀ j, j < 16 → fm_dg (fs_fire O I x a) j = fm_dg x j - (fs_tak O a j).toNat + (fs_tak I a j).toNat := by
  have k : ∀ j, j < 16 → fm_dg x j - (fs_tak O a j).toNat + (fs_tak I a j).toNat ≤ if j = 0 then 1 else n + 1 := fun j hj => by
    have h1 := h.2 j hj
    by_cases z : j = 0
    · subst z
      rw [if_pos rfl] at h1 ⊢
      have : (fs_tak I a 0).toNat = 0 := by unfold fs_tak; rw [hI, Nat.zero_testBit]; rfl
      omega
    · rw [if_neg z] at h1 ⊢
      have h2 : (fs_tak I a j).toNat ≤ 1 := by cases fs_tak I a j <;> decide
      omega
  have k2 : ∀ j, j < 16 → fm_dg x j - (fs_tak O a j).toNat + (fs_tak I a j).toNat < 16 := fun j hj => by
    have := k j hj
    split at this <;> omega
  have d := fun j (hj : j < 16) => fm_fire_dg (fs_tak O a) (fs_tak I a) k2 hj
  exact ⟨⟨fm_fire_lt _ _ k2, fun j hj => by rw [show fm_dg (fs_fire O I x a) j = _ from d j hj]; exact k j hj⟩, d⟩
abbrev fp_X : Type := Nat × Nat × (Nat → Nat) × Bool
def fp_ch (O : Nat → Nat) (me tp x n : Nat) : Nat := fp_pk (fs_ens O me x) 7 0 (tp / 2 ^ (3 * n) % 8 % fs_bc (fs_ens O me x) 7)
def fp_step (O I : Nat → Nat) (me tp : Nat) (X : fp_X) : fp_X :=
  if X.2.2.2 = true ∨ 15 ≤ X.2.1 ∨ X.1 = 16 then X
  else if fs_ens O me X.1 = 0 then (X.1, X.2.1, X.2.2.1, true)
  else (fs_fire O I X.1 (fp_ch O me tp X.1 X.2.1), X.2.1 + 1, va_up X.2.2.1 X.2.1 (fp_ch O me tp X.1 X.2.1), false)
def fp_run (O I : Nat → Nat) (me tp : Nat) : Nat → fp_X
  | 0 => (1, 0, fun _ => 0, false)
  | k + 1 => fp_step O I me tp (fp_run O I me tp k)
/-- the state after n firings -/
def fp_R (O I : Nat → Nat) (me tp n x : Nat) (fr : Nat → Nat) : Prop := ∃ f : Nat → Nat, fp_run O I me tp n = (x, n, f, false) ∧ ∀ j, j < n → fr j = f j
theorem fp_R_0 (O I : Nat → Nat) (me tp : Nat) (fr : Nat → Nat) : fp_R O I me tp 0 1 fr := ⟨_, rfl, fun j hj => absurd hj (Nat.not_lt_zero j)⟩
theorem fp_R_s {O I : Nat → Nat} {me tp n x : Nat} {fr : Nat → Nat} (h : fp_R O I me tp n x fr) (hn : n < 15) (hx : x ≠ 16) (he : fs_ens O me x ≠ 0) : fp_R O I me tp (n + 1) (fs_fire O I x (fp_ch O me tp x n)) (va_up fr n (fp_ch O me tp x n)) := by
  obtain ⟨f, h1, h2⟩ := h
  refine ⟨va_up f n (fp_ch O me tp x n), ?_, fun j hj => ?_⟩
  · show fp_step O I me tp (fp_run O I me tp n) = _
    rw [h1]
    unfold fp_step
    rw [if_neg (by simp; omega), if_neg he]
  · rcases Nat.lt_or_ge j n with q | q
    · rw [va_up_ne _ _ (by omega), va_up_ne _ _ (by omega)]; exact h2 j q
    · rw [show j = n by omega, va_up_self, va_up_self]
theorem fp_stop {O I : Nat → Nat} {me tp k : Nat} (h : (fp_run O I me tp k).2.2.2 = true ∨ 15 ≤ (fp_run O I me tp k).2.1 ∨ (fp_run O I me tp k).1 = 16) {m : Nat} (hm : k ≤ m) : fp_run O I me tp m = fp_run O I me tp k := by
  induction m with
  | zero => rw [show k = 0 by omega]
  | succ m ih =>
    rcases Nat.lt_or_ge k (m + 1) with q | q
    · have e := ih (by omega)
      show fp_step O I me tp (fp_run O I me tp m) = _
      rw [e]
      unfold fp_step
      rw [if_pos h]
    · rw [show m + 1 = k by omega]
theorem fp_R_end {O I : Nat → Nat} {me tp n x : Nat} {fr : Nat → Nat} (h : fp_R O I me tp n x fr) (hn : n ≤ 15) (hx : 15 ≤ n ∨ x = 16) : (fp_run O I me tp 16).1 = x ∧ (fp_run O I me tp 16).2.1 = n ∧ ∀ j, j < n → fr j = (fp_run O I me tp 16).2.2.1 j := by
  obtain ⟨f, h1, h2⟩ := h
  have e := fp_stop (O := O) (I := I) (me := me) (tp := tp) (k := n) (by rw [h1]; exact Or.inr hx) (m := 16) (by omega)
  rw [e, h1]
  exact ⟨rfl, rfl, h2⟩
theorem fp_R_dead {O I : Nat → Nat} {me tp n x : Nat} {fr : Nat → Nat} (h : fp_R O I me tp n x fr) (hn : n < 15) (hx : x ≠ 16) (he : fs_ens O me x = 0) : (fp_run O I me tp 16).1 ≠ 16 := by
  obtain ⟨f, h1, h2⟩ := h
  have e1 : fp_run O I me tp (n + 1) = (x, n, f, true) := by
    show fp_step O I me tp (fp_run O I me tp n) = _
    rw [h1]
    unfold fp_step
    rw [if_neg (by simp; omega), if_pos he]
  have e := fp_stop (O := O) (I := I) (me := me) (tp := tp) (k := n + 1) (by rw [e1]; exact Or.inl rfl) (m := 16) (by omega)
  rw [e, e1]
  exact hx
/-- replaying the events e 0, e 1 .. -/
def ft_run (O I : Nat → Nat) (me : Nat) (e : Nat → Nat) : Nat → Nat × Bool
  | 0 => (1, true)
  | i + 1 => if (ft_run O I me e i).2 = true ∧ fs_en O me (ft_run O I me e i).1 (e i) = true then (fs_fire O I (ft_run O I me e i).1 (e i), true) else ((ft_run O I me e i).1, false)
theorem ft_e (O I : Nat → Nat) (me : Nat) (e : Nat → Nat) (i : Nat) : ft_run O I me e (i + 1) = if (ft_run O I me e i).2 = true ∧ fs_en O me (ft_run O I me e i).1 (e i) = true then (fs_fire O I (ft_run O I me e i).1 (e i), true) else ((ft_run O I me e i).1, false) := rfl
def ft_ok (O I : Nat → Nat) (me : Nat) (e : Nat → Nat) (n : Nat) : Bool := (ft_run O I me e n).2 && decide ((ft_run O I me e n).1 = 16)
theorem ft_s {O I : Nat → Nat} {me x i : Nat} {e : Nat → Nat} (h : ft_run O I me e i = (x, true)) (he : fs_en O me x (e i) = true) : ft_run O I me e (i + 1) = (fs_fire O I x (e i), true) := by
  show (if (ft_run O I me e i).2 = true ∧ fs_en O me (ft_run O I me e i).1 (e i) = true then _ else _) = _
  rw [h, if_pos ⟨rfl, he⟩]
theorem ft_no {O I : Nat → Nat} {me x i : Nat} {e : Nat → Nat} (h : ft_run O I me e i = (x, true)) (he : fs_en O me x (e i) = false) {n : Nat} (hn : i < n) : (ft_run O I me e n).2 = false := by
  induction n with
  | zero => exact absurd hn (Nat.not_lt_zero _)
  | succ n ih =>
    rw [ft_e]
    rcases Nat.lt_or_ge i n with q | q
    · rw [if_neg (by rw [ih q]; simp)]
    · have e9 : n = i := by omega
      subst e9
      rw [h, if_neg (by rw [he]; simp)]
