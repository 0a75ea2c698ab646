/-! the reference's soundness -/
theorem fe_run_en (O I : Nat → Nat) (me : Nat) : ∀ k, (fe_run O I me k).2.2.2 = false → ∀ j, j < k → j / 7 < (fe_run O I me k).1 → decide (0 < (fe_run O I me k).2.2.1 j) = fs_en O me ((fe_run O I me k).2.1 (j / 7)) (j % 7)
  | 0, _, j, hj, _ => absurd hj (Nat.not_lt_zero j)
  | k + 1, hw, j, hj, hc => by
    cases q : (fe_run O I me k).2.2.2 with
    | true =>
      rw [fe_wide_s q, q] at hw
      exact absurd hw (by decide)
    | false =>
      have ih := fe_run_en O I me k q
      rcases Nat.lt_or_ge (k / 7) (fe_run O I me k).1 with h1 | h1
      · have e := fe_go q h1
        rw [e] at hw hc ⊢
        unfold fe_next at hw hc ⊢
        have key : ∀ v, (decide (0 < v) = fs_en O me ((fe_run O I me k).2.1 (k / 7)) (k % 7)) → decide (0 < va_up (fe_run O I me k).2.2.1 k v j) = fs_en O me ((fe_run O I me k).2.1 (j / 7)) (j % 7) := fun v hv => by
          by_cases z : j = k
          · rw [z, va_up_self]; exact hv
          · rw [va_up_ne _ _ z]
            exact ih j (by omega) (Nat.lt_of_le_of_lt (Nat.div_le_div_right (by omega)) h1)
        by_cases g1 : fs_en O me ((fe_run O I me k).2.1 (k / 7)) (k % 7) = true
        · rw [if_pos g1] at hw hc ⊢
          by_cases g2 : fe_find (fe_run O I me k).2.1 (fs_fire O I ((fe_run O I me k).2.1 (k / 7)) (k % 7)) (fe_run O I me k).1 < (fe_run O I me k).1
          · rw [if_pos g2] at hw hc ⊢
            exact key _ (by rw [g1]; simp)
          · rw [if_neg g2] at hw hc ⊢
            by_cases g3 : fe_w8 (fs_fire O I ((fe_run O I me k).2.1 (k / 7)) (k % 7)) = true ∨ (fe_run O I me k).1 = 200
            · rw [if_pos g3] at hw
              exact absurd hw (by simp)
            · rw [if_neg g3] at hw hc ⊢
              have h2 : j / 7 < (fe_run O I me k).1 := Nat.lt_of_le_of_lt (Nat.div_le_div_right (show j ≤ k by omega)) h1
              show decide (0 < va_up (fe_run O I me k).2.2.1 k _ j) = fs_en O me (va_up (fe_run O I me k).2.1 (fe_run O I me k).1 _ (j / 7)) (j % 7)
              rw [va_up_ne _ _ (Nat.ne_of_lt h2)]
              exact key _ (by rw [g1]; simp)
        · rw [if_neg g1] at hw hc ⊢
          have g1' : fs_en O me ((fe_run O I me k).2.1 (k / 7)) (k % 7) = false := by
            cases z : fs_en O me ((fe_run O I me k).2.1 (k / 7)) (k % 7) with
            | false => rfl
            | true => exact absurd z g1
          exact key _ (by rw [g1']; rfl)
      · have e := fe_done (O := O) (I := I) (me := me) h1 (m := k + 1) (by omega)
        rw [e] at hc ⊢
        refine ih j ?_ hc
        rcases Nat.lt_or_ge j k with z | z
        · exact z
        · rw [show j = k by omega] at hc
          omega
/-- the able ones are those ever enabled -/
theorem fr_able {O I : Nat → Nat} {me c : Nat} {nx : Nat → Nat} (hw : (fe_run O I me 1400).2.2.2 = false) (hc : c = (fe_run O I me 1400).1) (hc2 : c ≤ 200) (hn : ∀ j, j < 7 * c → nx j = (fe_run O I me 1400).2.2.1 j) {a : Nat} (ha : a < 7) : fs_any (fun i => decide (0 < nx (7 * i + a))) c = fs_any (fun m => (fs_ens O me ((fe_run O I me 1400).2.1 m)).testBit a) c := by
  refine fs_any_congr (fun i hi => ?_)
  have h1 := fe_run_en O I me 1400 hw (7 * i + a) (by omega) (by rw [← hc]; omega)
  rw [hn _ (by omega), h1, fe_en_bit ha, show (7 * i + a) / 7 = i by omega, show (7 * i + a) % 7 = a by omega]
/-- the state within the reference's rounds: gd at the round's begin, g1 now, up to marking m, activity a -/
def fr_G (c : Nat) (s nx : Nat → Nat) (gd : Nat → Bool) (m a : Nat) (mr : Bool) (g1 : Nat → Bool) : Prop :=
  (∀ i, i < c → gd i = true → g1 i = true) ∧ (∀ i, i < c → g1 i = true → fe_good s nx i) ∧ (mr = true → fe_ct gd c < fe_ct g1 c) ∧ fe_ct gd c ≤ fe_ct g1 c ∧ (mr = false → (∀ i, i < c → g1 i = gd i) ∧ (∀ i, i < m → gd i = false → fe_ld nx gd i = false) ∧ ∀ z, z < a → gd m = false → (decide (0 < nx (7 * m + z)) && gd (nx (7 * m + z) - 1)) = false)
theorem fr_G_0 {c : Nat} {s nx : Nat → Nat} {gd : Nat → Bool} (h : ∀ i, i < c → gd i = true → fe_good s nx i) : fr_G c s nx gd 0 0 false gd := ⟨fun _ _ q => q, h, fun q => absurd q (by decide), Nat.le_refl _, fun _ => ⟨fun _ _ => rfl, fun i hi => absurd hi (Nat.not_lt_zero i), fun z hz => absurd hz (Nat.not_lt_zero z)⟩⟩
theorem fr_G_m {c m : Nat} {s nx : Nat → Nat} {gd g1 : Nat → Bool} {mr : Bool} (h : fr_G c s nx gd m 7 mr g1) : fr_G c s nx gd (m + 1) 0 mr g1 := by
  refine ⟨h.1, h.2.1, h.2.2.1, h.2.2.2.1, fun q => ?_⟩
  obtain ⟨k1, k2, k3⟩ := h.2.2.2.2 q
  refine ⟨k1, fun i hi z => ?_, fun z hz => absurd hz (Nat.not_lt_zero z)⟩
  rcases Nat.lt_or_ge i m with w | w
  · exact k2 i w z
  · have e : i = m := by omega
    subst e
    exact fs_any_f.mpr (fun a ha => k3 a ha z)
theorem fr_G_a {c m a : Nat} {s nx : Nat → Nat} {gd g1 : Nat → Bool} {mr : Bool} (h : fr_G c s nx gd m a mr g1) (hm : m < c) (hn : ∀ j, j < 7 * c → nx j ≤ c) (ha : a < 7) (hx : nx (7 * m + a) = 0 ∨ g1 (nx (7 * m + a) - 1) = false ∨ g1 m = true) : fr_G c s nx gd m (a + 1) mr g1 := by
  refine ⟨h.1, h.2.1, h.2.2.1, h.2.2.2.1, fun q => ?_⟩
  obtain ⟨k1, k2, k3⟩ := h.2.2.2.2 q
  refine ⟨k1, k2, fun z hz w => ?_⟩
  rcases Nat.lt_or_ge z a with v | v
  · exact k3 z v w
  · have e : z = a := by omega
    subst e
    by_cases q0 : 0 < nx (7 * m + z)
    · have h1 := hn (7 * m + z) (by omega)
      rcases hx with hx | hx | hx
      · omega
      · rw [k1 _ (by omega)] at hx
        rw [hx, Bool.and_false]
      · rw [k1 m hm, w] at hx
        exact absurd hx (by decide)
    · rw [decide_eq_false q0, Bool.false_and]
theorem fr_G_t {c m a : Nat} {s nx : Nat → Nat} {gd g1 : Nat → Bool} {mr : Bool} (h : fr_G c s nx gd m a mr g1) (hm : m < c) (hn : ∀ j, j < 7 * c → nx j ≤ c) (ha : a < 7) (h0 : 0 < nx (7 * m + a)) (h1 : g1 (nx (7 * m + a) - 1) = true) (h2 : g1 m = false) : fr_G c s nx gd m (a + 1) true (va_up g1 m true) := by
  have h3 := hn (7 * m + a) (by omega)
  have h4 := fe_ct_up h2 hm
  refine ⟨fun i hi q => ?_, fun i hi q => ?_, fun _ => ?_, ?_, fun q => absurd q (by decide)⟩
  · by_cases e : i = m
    · rw [e, va_up_self]
    · rw [va_up_ne _ _ e]; exact h.1 i hi q
  · by_cases e : i = m
    · rw [e]; exact fe_good_s ha h0 (h.2.1 _ (by omega) h1)
    · rw [va_up_ne _ _ e] at q; exact h.2.1 i hi q
  · have := h.2.2.2.1
    omega
  · have := h.2.2.2.1
    omega
/-- between the rounds -/
def fr_W (c : Nat) (s nx : Nat → Nat) (mr : Bool) (gd : Nat → Bool) : Prop := (∀ i, i < c → s i = 16 → gd i = true) ∧ (∀ i, i < c → gd i = true → fe_good s nx i) ∧ (mr = false → ∀ i, i < c → gd i = false → fe_ld nx gd i = false)
theorem fr_W_s {c m : Nat} {s nx : Nat → Nat} {m0 mr : Bool} {gd g1 : Nat → Bool} (h : fr_W c s nx m0 gd) (hG : fr_G c s nx gd m 0 mr g1) (hm : c ≤ m) (hn : ∀ j, j < 7 * c → nx j ≤ c) : fr_W c s nx mr g1 := by
  refine ⟨fun i hi e => hG.1 i hi (h.1 i hi e), hG.2.1, fun q i hi z => ?_⟩
  obtain ⟨k1, k2, _⟩ := hG.2.2.2.2 q
  rw [k1 i hi] at z
  rw [← k2 i (by omega) z]
  exact fe_ld_congr hi hn k1
theorem fr_W_end {c : Nat} {s nx : Nat → Nat} {gd : Nat → Bool} (h : fr_W c s nx false gd) (hn : ∀ j, j < 7 * c → nx j ≤ c) : fs_all gd c = fe_all s nx c := by
  obtain ⟨g2, g3, g5⟩ := h
  have key : ∀ r m, m < c → fe_g s nx r m → gd m = true := by
    intro r
    induction r with
    | zero => exact fun m hm e => g2 m hm e
    | succ r ih =>
      intro m hm e
      rcases e with e | ⟨a, ha, q1, q2⟩
      · exact ih m hm e
      · cases z : gd m with
        | true => rfl
        | false =>
          have h1 := g5 rfl m hm z
          have h2 := hn (7 * m + a) (by omega)
          have h3 := fs_any_f.mp h1 a ha
          rw [decide_eq_true q1, ih _ (by omega) q2] at h3
          exact absurd h3 (by decide)
  cases q : fs_all gd c with
  | true => exact (fe_all_t (fun m hm => g3 m hm (fs_all_iff.mp q m hm))).symm
  | false =>
    rcases Classical.em (∀ m, m < c → fe_good s nx m) with w | w
    · rw [fs_all_iff.mpr (fun m hm => by obtain ⟨r, hr⟩ := w m hm; exact key r m hm hr)] at q
      exact absurd q (by decide)
    · exact (@decide_eq_false _ (Classical.propDecidable _) w).symm
theorem fr_cl {s : Nat → Nat} {c : Nat} (hs : ∀ i, i < c → s i < 2 ^ 64) : fs_all (fun i => decide (fm_dg (s i) 1 = 0) || decide (s i = 16)) c = fe_cl s c := by
  unfold fe_cl
  refine fs_all_congr (fun i hi => ?_)
  rw [decide_eq_decide.mpr (fm_sink (hs i hi)).symm]
theorem fr_snd {O I : Nat → Nat} {me c ab : Nat} {cl : Bool} {nx : Nat → Nat} {gd : Nat → Bool} (hw : (fe_run O I me 1400).2.2.2 = false) (hc : c = (fe_run O I me 1400).1) (hn : ∀ j, j < 7 * c → nx j = (fe_run O I me 1400).2.2.1 j) (hV : fe_V c (fe_run O I me 1400).2.1) (hab : ab < 128) (h1 : ∀ a, a < 7 → ab.testBit a = fs_any (fun i => decide (0 < nx (7 * i + a))) c) (h2 : cl = fs_all (fun i => decide (fm_dg ((fe_run O I me 1400).2.1 i) 1 = 0) || decide ((fe_run O I me 1400).2.1 i = 16)) c) (h3 : fr_W c (fe_run O I me 1400).2.1 nx false gd) : ((cl && decide (ab = me)) && fs_all gd c) = fe_snd O I me := by
  have hx : ∀ j, j < 7 * c → nx j ≤ c := fun j hj => by rw [hn j hj, hc]; exact fe_run_nx O I me 1400 j
  unfold fe_snd
  have e1 : ab = fs_set (fun a => fs_any (fun m => (fs_ens O me ((fe_run O I me 1400).2.1 m)).testBit a) (fe_run O I me 1400).1) 7 := by
    refine fb_ext hab (fs_set_lt _ (by decide)) (fun a ha => ?_)
    rw [h1 a ha, fs_set_bit, decide_eq_true ha, Bool.true_and, fr_able hw hc hV.1 hn ha, ← hc]
  rw [← e1, h2, fr_cl (fun i hi => (hV.2.1 i hi).1), fr_W_end h3 hx, fe_all_congr (fun _ _ => rfl) hn hx, ← hc]
  cases fe_cl (fe_run O I me 1400).2.1 c <;> cases decide (ab = me) <;> simp
