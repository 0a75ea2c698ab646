/-! which markings can end -/
def fe_ld (nx : Nat → Nat) (en : Nat → Bool) (m : Nat) : Bool := fs_any (fun a => decide (0 < nx (7 * m + a)) && en (nx (7 * m + a) - 1)) 7
def fe_g (s nx : Nat → Nat) : Nat → Nat → Prop
  | 0, m => s m = 16
  | r + 1, m => fe_g s nx r m ∨ ∃ a, a < 7 ∧ 0 < nx (7 * m + a) ∧ fe_g s nx r (nx (7 * m + a) - 1)
def fe_good (s nx : Nat → Nat) (m : Nat) : Prop := ∃ r, fe_g s nx r m
theorem fe_good_0 {s nx : Nat → Nat} {m : Nat} (h : s m = 16) : fe_good s nx m := ⟨0, h⟩
theorem fe_good_s {s nx : Nat → Nat} {m a : Nat} (ha : a < 7) (h0 : 0 < nx (7 * m + a)) (h : fe_good s nx (nx (7 * m + a) - 1)) : fe_good s nx m := by
  obtain ⟨r, hr⟩ := h
  exact ⟨r + 1, Or.inr ⟨a, ha, h0, hr⟩⟩
noncomputable def fe_all (s nx : Nat → Nat) (c : Nat) : Bool := @decide (∀ m, m < c → fe_good s nx m) (Classical.propDecidable _)
theorem fe_all_t {s nx : Nat → Nat} {c : Nat} (h : ∀ m, m < c → fe_good s nx m) : fe_all s nx c = true := @decide_eq_true _ (Classical.propDecidable _) h
theorem fe_all_f {s nx : Nat → Nat} {c m : Nat} (hm : m < c) (h : ¬ fe_good s nx m) : fe_all s nx c = false := @decide_eq_false _ (Classical.propDecidable _) (fun q => h (q m hm))
def fe_ct (en : Nat → Bool) : Nat → Nat
  | 0 => 0
  | n + 1 => fe_ct en n + (en n).toNat
theorem fe_ct_le (en : Nat → Bool) : ∀ n, fe_ct en n ≤ n
  | 0 => Nat.le_refl _
  | n + 1 => by
    have h1 := fe_ct_le en n
    have h2 : (en n).toNat ≤ 1 := by cases en n <;> decide
    show fe_ct en n + (en n).toNat ≤ n + 1
    omega
theorem fe_ct_all {en : Nat → Bool} : ∀ {n : Nat}, fe_ct en n = n ↔ ∀ m, m < n → en m = true
  | 0 => ⟨fun _ m h => absurd h (Nat.not_lt_zero m), fun _ => rfl⟩
  | n + 1 => by
    have h1 := fe_ct_le en n
    show fe_ct en n + (en n).toNat = n + 1 ↔ _
    constructor
    · intro h m hm
      have h2 : (en n).toNat ≤ 1 := by cases en n <;> decide
      rcases Nat.lt_or_ge m n with q | q
      · exact fe_ct_all.mp (by omega) m q
      · rw [show m = n by omega]
        cases z : en n with
        | true => rfl
        | false => rw [z] at h; simp at h; omega
    · intro h
      rw [fe_ct_all.mpr (fun m hm => h m (by omega)), h n (by omega)]
      rfl
theorem fe_ct_0 {en : Nat → Bool} {n : Nat} (h : fe_ct en n = 0) : ∀ m, m < n → en m = false := by
  induction n with
  | zero => exact fun m hm => absurd hm (Nat.not_lt_zero m)
  | succ n ih =>
    have e : fe_ct en (n + 1) = fe_ct en n + (en n).toNat := rfl
    rw [e] at h
    intro m hm
    rcases Nat.lt_or_ge m n with q | q
    · exact ih (by omega) m q
    · rw [show m = n by omega]
      cases z : en n with
      | false => rfl
      | true => rw [z] at h; simp at h
theorem fe_ct_congr {f g : Nat → Bool} : ∀ {n : Nat}, (∀ m, m < n → f m = g m) → fe_ct f n = fe_ct g n
  | 0, _ => rfl
  | n + 1, h => by
    show fe_ct f n + (f n).toNat = fe_ct g n + (g n).toNat
    rw [fe_ct_congr (fun m hm => h m (by omega)), h n (by omega)]
theorem fe_ct_up {en : Nat → Bool} {m : Nat} (h : en m = false) : ∀ {n : Nat}, m < n → fe_ct (va_up en m true) n = fe_ct en n + 1
  | 0, hm => absurd hm (Nat.not_lt_zero m)
  | n + 1, hm => by
    show fe_ct (va_up en m true) n + (va_up en m true n).toNat = fe_ct en n + (en n).toNat + 1
    rcases Nat.lt_or_ge m n with q | q
    · rw [fe_ct_up h q, va_up_ne _ _ (by omega)]
      omega
    · have e : m = n := by omega
      subst e
      rw [va_up_self, h, fe_ct_congr (fun k hk => va_up_ne en true (show k ≠ m by omega))]
      rfl
theorem fe_ct_upn {en : Nat → Bool} {i : Nat} {b : Bool} : fe_ct (va_up en i b) (i + 1) = fe_ct en i + b.toNat := by
  show fe_ct (va_up en i b) i + (va_up en i b i).toNat = _
  rw [va_up_self, fe_ct_congr (fun k hk => va_up_ne en b (show k ≠ i by omega))]
theorem fe_ld_congr {nx : Nat → Nat} {f g : Nat → Bool} {c m : Nat} (hm : m < c) (hn : ∀ j, j < 7 * c → nx j ≤ c) (h : ∀ k, k < c → f k = g k) : fe_ld nx f m = fe_ld nx g m := by
  unfold fe_ld
  refine fs_any_congr (fun a ha => ?_)
  by_cases q : 0 < nx (7 * m + a)
  · have := hn (7 * m + a) (by omega)
    rw [h _ (by omega)]
  · rw [decide_eq_false q, Bool.false_and, Bool.false_and]
/-- one round of spreading -/
def fe_sp (c : Nat) (nx : Nat → Nat) (en : Nat → Bool) (t nw : Nat) (en9 : Nat → Bool) : Prop :=
  (∀ m, m < c → en m = true → en9 m = true) ∧ (∀ P : Nat → Prop, (∀ m, m < c → en m = true → P m) → (∀ m, m < c → ∀ a, a < 7 → 0 < nx (7 * m + a) → P (nx (7 * m + a) - 1) → P m) → ∀ m, m < c → en9 m = true → P m) ∧ fe_ct en9 c = fe_ct en c + nw ∧ (nw = 0 → (∀ m, m < c → en9 m = en m) ∧ ∀ m, t ≤ m → m < c → en m = false → fe_ld nx en m = false)
theorem fe_sp_0 (c : Nat) (nx : Nat → Nat) (en : Nat → Bool) : fe_sp c nx en c 0 en := ⟨fun _ _ h => h, fun _ h _ => h, rfl, fun _ => ⟨fun _ _ => rfl, fun _ _ _ => by omega⟩⟩
theorem fe_sp_no {c t nw : Nat} {nx : Nat → Nat} {en e1 : Nat → Bool} (h : fe_sp c nx en t nw e1) (ht : 0 < t) (htc : t ≤ c) (hn : ∀ j, j < 7 * c → nx j ≤ c) (hx : e1 (t - 1) = true ∨ fe_ld nx e1 (t - 1) = false) : fe_sp c nx en (t - 1) nw e1 := by
  refine ⟨h.1, h.2.1, h.2.2.1, fun z => ⟨(h.2.2.2 z).1, fun m h1 h2 h3 => ?_⟩⟩
  rcases Nat.lt_or_ge m t with q | q
  · have e : m = t - 1 := by omega
    subst e
    rcases hx with hx | hx
    · rw [(h.2.2.2 z).1 _ h2] at hx
      rw [hx] at h3
      exact absurd h3 (by decide)
    · rw [← hx]
      exact fe_ld_congr h2 hn (fun k hk => ((h.2.2.2 z).1 k hk).symm)
  · exact (h.2.2.2 z).2 m q h2 h3
theorem fe_sp_up {c t nw : Nat} {nx : Nat → Nat} {en e1 : Nat → Bool} (h : fe_sp c nx en t nw e1) (ht : 0 < t) (htc : t ≤ c) (hf : e1 (t - 1) = false) (hn : ∀ j, j < 7 * c → nx j ≤ c) (hl : fe_ld nx e1 (t - 1) = true) : fe_sp c nx en (t - 1) (nw + 1) (va_up e1 (t - 1) true) := by
  refine ⟨fun m hm q => ?_, fun P p1 p2 m hm q => ?_, ?_, fun z => by omega⟩
  · by_cases e : m = t - 1
    · rw [e, va_up_self]
    · rw [va_up_ne _ _ e]; exact h.1 m hm q
  · by_cases e : m = t - 1
    · obtain ⟨a, ha, h1⟩ := fs_any_iff.mp hl
      rw [Bool.and_eq_true, decide_eq_true_iff] at h1
      rw [e]
      have := hn (7 * (t - 1) + a) (by omega)
      exact p2 _ (by omega) a ha h1.1 (h.2.1 P p1 p2 _ (by omega) h1.2)
    · rw [va_up_ne _ _ e] at q
      exact h.2.1 P p1 p2 m hm q
  · rw [fe_ct_up hf (by omega), h.2.2.1]
    omega
/-- between two rounds -/
def fe_rd (c : Nat) (s nx : Nat → Nat) (rd nw ab : Nat) (en : Nat → Bool) : Prop := ab = fe_ct en c ∧ (∀ m, m < c → s m = 16 → en m = true) ∧ (∀ m, m < c → en m = true → fe_good s nx m) ∧ (0 < nw → rd + 1 ≤ ab) ∧ (nw = 0 → ∀ m, m < c → en m = false → fe_ld nx en m = false)
theorem fe_rd_0 {c ab : Nat} {s nx : Nat → Nat} {en : Nat → Bool} (h1 : ab = fe_ct en c) (h2 : ∀ m, m < c → en m = decide (s m = 16)) (hn : ∀ j, j < 7 * c → nx j ≤ c) : fe_rd c s nx 0 ab ab en := by
  refine ⟨h1, fun m hm e => by rw [h2 m hm, decide_eq_true e], fun m hm e => fe_good_0 (of_decide_eq_true ((h2 m hm).symm.trans e)), fun z => by omega, fun z m hm _ => ?_⟩
  have h3 := fe_ct_0 (by rw [← h1]; exact z)
  unfold fe_ld
  refine fs_any_f.mpr (fun a ha => ?_)
  by_cases q : 0 < nx (7 * m + a)
  · have := hn (7 * m + a) (by omega)
    rw [h3 _ (by omega), Bool.and_false]
  · rw [decide_eq_false q, Bool.false_and]
theorem fe_rd_s {c rd nw ab n2 : Nat} {s nx : Nat → Nat} {en e2 : Nat → Bool} (h : fe_rd c s nx rd nw ab en) (h0 : 0 < nw) (hs : fe_sp c nx en 0 n2 e2) (hn : ∀ j, j < 7 * c → nx j ≤ c) : fe_rd c s nx (rd + 1) n2 (ab + n2) e2 := by
  obtain ⟨g1, g2, g3, g4, g5⟩ := h
  refine ⟨by rw [hs.2.2.1, g1], fun m hm e => hs.1 m hm (g2 m hm e), hs.2.1 _ g3 (fun m hm a ha q1 q2 => fe_good_s ha q1 q2), fun z => by have := g4 h0; omega, fun z m hm q => ?_⟩
  have h1 := hs.2.2.2 z
  rw [h1.1 m hm] at q
  rw [← h1.2 m (Nat.zero_le _) hm q]
  exact fe_ld_congr hm hn h1.1
theorem fe_rd_end {c rd nw ab : Nat} {s nx : Nat → Nat} {en : Nat → Bool} (h : fe_rd c s nx rd nw ab en) (hn : ∀ j, j < 7 * c → nx j ≤ c) (hc : c ≤ 200) (hx : 200 ≤ rd ∨ nw = 0) : (ab = c → fe_all s nx c = true) ∧ (ab ≠ c → fe_all s nx c = false) := by
  obtain ⟨g1, g2, g3, g4, g5⟩ := h
  have h0 : nw = 0 := by
    rcases hx with hx | hx
    · rcases Nat.eq_zero_or_pos nw with z | z
      · exact z
      · have := g4 z
        have := fe_ct_le en c
        omega
    · exact hx
  have key : ∀ r m, m < c → fe_g s nx r m → en m = true := by
    intro r
    induction r with
    | zero => exact fun m hm e => g2 m hm e
    | succ r ih =>
      intro m hm e
      rcases e with e | ⟨a, ha, q1, q2⟩
      · exact ih m hm e
      · cases z : en m with
        | true => rfl
        | false =>
          have h1 := g5 h0 m hm z
          have h2 := hn (7 * m + a) (by omega)
          have h3 := fs_any_f.mp h1 a ha
          rw [decide_eq_true q1, ih _ (by omega) q2] at h3
          exact absurd h3 (by decide)
  constructor
  · intro e
    exact fe_all_t (fun m hm => g3 m hm (fe_ct_all.mp (by omega) m hm))
  · intro e
    rcases Classical.em (∀ m, m < c → fe_good s nx m) with q | q
    · exact absurd (g1.trans (fe_ct_all.mpr (fun m hm => by obtain ⟨r, hr⟩ := q m hm; exact key r m hm hr))) e
    · exact @decide_eq_false _ (Classical.propDecidable _) q
def fe_cl (s : Nat → Nat) (c : Nat) : Bool := fs_all (fun m => decide (s m &&& 240 = 0) || decide (s m = 16)) c
/-! soundness, of the run -/
noncomputable def fe_snd (O I : Nat → Nat) (me : Nat) : Bool := decide (fs_set (fun a => fs_any (fun m => (fs_ens O me ((fe_run O I me 1400).2.1 m)).testBit a) (fe_run O I me 1400).1) 7 = me) && (fe_cl (fe_run O I me 1400).2.1 (fe_run O I me 1400).1 && fe_all (fe_run O I me 1400).2.1 (fe_run O I me 1400).2.2.1 (fe_run O I me 1400).1)
theorem fe_g_congr {s t nx ny : Nat → Nat} {c : Nat} (hs : ∀ i, i < c → s i = t i) (hn : ∀ j, j < 7 * c → nx j = ny j) (hc : ∀ j, j < 7 * c → nx j ≤ c) : ∀ r m, m < c → fe_g s nx r m → fe_g t ny r m := by
  intro r
  induction r with
  | zero => exact fun m hm e => (hs m hm).symm.trans e
  | succ r ih =>
    intro m hm e
    rcases e with e | ⟨a, ha, q1, q2⟩
    · exact Or.inl (ih m hm e)
    · have h1 := hn (7 * m + a) (by omega)
      have h2 := hc (7 * m + a) (by omega)
      refine Or.inr ⟨a, ha, by omega, ?_⟩
      rw [← h1]
      exact ih _ (by omega) q2
theorem fe_all_congr {s t nx ny : Nat → Nat} {c : Nat} (hs : ∀ i, i < c → s i = t i) (hn : ∀ j, j < 7 * c → nx j = ny j) (hc : ∀ j, j < 7 * c → nx j ≤ c) : fe_all s nx c = fe_all t ny c := by
  have h1 : (∀ m, m < c → fe_good s nx m) ↔ (∀ m, m < c → fe_good t ny m) := by
    constructor
    · intro h m hm
      obtain ⟨r, hr⟩ := h m hm
      exact ⟨r, fe_g_congr hs hn hc r m hm hr⟩
    · intro h m hm
      obtain ⟨r, hr⟩ := h m hm
      exact ⟨r, fe_g_congr (fun i hi => (hs i hi).symm) (fun j hj => (hn j hj).symm) (fun j hj => by rw [← hn j hj]; exact hc j hj) r m hm hr⟩
  unfold fe_all
  rcases Classical.em (∀ m, m < c → fe_good s nx m) with q | q
  · rw [@decide_eq_true _ (Classical.propDecidable _) q, @decide_eq_true _ (Classical.propDecidable _) (h1.mp q)]
  · rw [@decide_eq_false _ (Classical.propDecidable _) q, @decide_eq_false _ (Classical.propDecidable _) (fun z => q (h1.mpr z))]
theorem fe_step_nx {O I : Nat → Nat} {me k : Nat} {X : fe_X} (h : ∀ j, X.2.2.1 j ≤ X.1) : ∀ j, (fe_step O I me k X).2.2.1 j ≤ (fe_step O I me k X).1 := by
  intro j
  unfold fe_step
  split
  · exact h j
  · unfold fe_next
    have key : ∀ (nx : Nat → Nat) (c v : Nat), (∀ j, nx j ≤ c) → v ≤ c → va_up nx k v j ≤ c := fun nx c v h1 h2 => by
      by_cases e : j = k
      · rw [e, va_up_self]; exact h2
      · rw [va_up_ne _ _ e]; exact h1 j
    split
    · split
      · exact key _ _ _ h (by omega)
      · split
        · exact h j
        · exact key _ _ _ (fun j => Nat.le_succ_of_le (h j)) (Nat.le_refl _)
    · exact key _ _ _ h (Nat.zero_le _)
theorem fe_run_nx (O I : Nat → Nat) (me : Nat) : ∀ k j, (fe_run O I me k).2.2.1 j ≤ (fe_run O I me k).1
  | 0, _ => Nat.zero_le _
  | k + 1, j => fe_step_nx (fe_run_nx O I me k) j
theorem fe_F_nx {O I : Nat → Nat} {me c ev : Nat} {s nx : Nat → Nat} (h : fe_F O I me c s nx ev) (hV : fe_V c s) : ∀ j, j < 7 * c → nx j ≤ c := by
  intro j hj
  rw [h.2.2.2.1 j hj, h.2.1]
  exact fe_run_nx O I me 1400 j
theorem fe_snd_eq {O I : Nat → Nat} {me c ev : Nat} {s nx : Nat → Nat} (h : fe_F O I me c s nx ev) (hV : fe_V c s) (hm : me < 128) : (decide (ev = me) && (fe_cl s c && fe_all s nx c)) = fe_snd O I me := by
  have hx := fe_F_nx h hV
  obtain ⟨h1, h2, h3, h4, h5, h6⟩ := h
  unfold fe_snd
  have e1 : ev = fs_set (fun a => fs_any (fun m => (fs_ens O me ((fe_run O I me 1400).2.1 m)).testBit a) (fe_run O I me 1400).1) 7 := by
    rw [← h2]
    refine fs_set_of h5 (fun a => ?_)
    rw [h6 a]
    exact fs_any_congr (fun m hm => by rw [h3 m hm])
  have e2 : fe_cl s c = fe_cl (fe_run O I me 1400).2.1 (fe_run O I me 1400).1 := by
    rw [← h2]
    unfold fe_cl
    exact fs_all_congr (fun m hm => by rw [h3 m hm])
  have e3 : fe_all s nx c = fe_all (fe_run O I me 1400).2.1 (fe_run O I me 1400).2.2.1 (fe_run O I me 1400).1 := by
    rw [← h2]
    exact fe_all_congr h3 h4 hx
  rw [← e1, e2, e3]
