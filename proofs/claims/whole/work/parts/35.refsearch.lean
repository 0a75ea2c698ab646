/-! the reference's search -/
theorem fn_i2s {a : Nat} (h : a < 256) : (nI a).toInt16.toInt32 = nI a := (by decide +kernel : ∀ a, a < 256 → (nI a).toInt16.toInt32 = nI a) a h
theorem fn_ns {a : Nat} (h : a < 257) : vp_nar .short (nI a - 1) = nI a - 1 := (by decide +kernel : ∀ a, a < 257 → (nI a - 1).toInt16.toInt32 = nI a - 1) a h
def fr_Z (O I : Nat → Nat) (me k m c : Nat) (w : Bool) (mk nx : Nat → Nat) : Prop := (w = true → (fe_run O I me 1400).2.2.2 = true) ∧ (w = false → ∃ s : Nat → Nat, fe_R O I me k c s nx ∧ fe_V c s ∧ fr_M c mk s ∧ m ≤ c)
theorem fr_Z_0 {O I : Nat → Nat} {me : Nat} {mk nx : Nat → Nat} (hM : fr_M 1 mk (va_up (fun _ => 0) 0 1)) : fr_Z O I me (7 * 0) 0 1 false mk nx := by
  refine ⟨fun q => absurd q (by decide), fun _ => ⟨_, ⟨rfl, rfl, fun i hi => ?_, fun j hj => absurd hj (Nat.not_lt_zero j)⟩, ⟨by decide, fun i hi => ?_, fun a ha b hb _ => by omega⟩, hM, by decide⟩⟩
  · rw [show i = 0 by omega, va_up_self]; rfl
  · rw [show i = 0 by omega, va_up_self]; exact ⟨by decide, (by decide +kernel : ∀ j, j < 16 → fm_dg 1 j < 8)⟩
theorem fr_Z_in {O I : Nat → Nat} {me m c : Nat} {w : Bool} {mk nx : Nat → Nat} (h : fr_Z O I me (7 * m) m c w mk nx) (hm : m < c) : fr_Z O I me (7 * m + 0) (m + 1) c w mk nx := ⟨h.1, fun q => by
  obtain ⟨s, h1, h2, h3, h4⟩ := h.2 q
  exact ⟨s, h1, h2, h3, hm⟩⟩
theorem fr_Z_out {O I : Nat → Nat} {me m a c : Nat} {w : Bool} {mk nx : Nat → Nat} (h : fr_Z O I me (7 * m + a) (m + 1) c w mk nx) (ha : a = 7 ∨ w = true) : fr_Z O I me (7 * (m + 1)) (m + 1) c w mk nx := by
  refine ⟨h.1, fun q => ?_⟩
  obtain ⟨s, h1, h2, h3, h4⟩ := h.2 q
  rcases ha with e | e
  · rw [show 7 * (m + 1) = 7 * m + a by omega]
    exact ⟨s, h1, h2, h3, h4⟩
  · rw [q] at e; exact absurd e (by decide)
theorem fr_Z_no {O I : Nat → Nat} {me m a c : Nat} {mk nx s : Nat → Nat} (ha : a < 7) (hR : fe_R O I me (7 * m + a) c s nx) (hV : fe_V c s) (hM : fr_M c mk s) (hm : m + 1 ≤ c) (he : fs_en O me (s m) a = false) : fr_Z O I me (7 * m + (a + 1)) (m + 1) c false mk (va_up nx (7 * m + a) 0) := ⟨fun q => absurd q (by decide), fun _ => ⟨s, fe_R_no hR ha (by omega) he, hV, hM, hm⟩⟩
theorem fr_Z_go {O I : Nat → Nat} {me m a c c9 : Nat} {w9 : Bool} {mk mk9 nx s : Nat → Nat} (ha : a < 7) (hR : fe_R O I me (7 * m + a) c s nx) (hV : fe_V c s) (hM : fr_M c mk s) (hm : m + 1 ≤ c) (he : fs_en O me (s m) a = true) (hn : fr_nu c false mk s (fs_fire O I (s m) a) c9 w9 mk9) (wf : Bool) (hw : wf = (w9 || decide (200 < c9))) : fr_Z O I me (7 * m + (a + 1)) (m + 1) c9 wf mk9 (va_up (va_up nx (7 * m + a) 0) (7 * m + a) (fe_find s (fs_fire O I (s m) a) c + 1)) := by
  have hc := hV.1
  rw [bx_uu, ← Nat.add_assoc]
  by_cases hf : fe_find s (fs_fire O I (s m) a) c < c
  · obtain ⟨e1, e2, e3⟩ := hn.1 hf
    subst e1 e2 e3
    rw [decide_eq_false (by omega)] at hw
    subst hw
    exact ⟨fun q => absurd q (by decide), fun _ => ⟨s, fe_R_old hR ha (by omega) he hf, hV, hM, hm⟩⟩
  · obtain ⟨e1, e2, e3⟩ := hn.2 hf
    subst e1
    rw [Bool.false_or] at e2
    subst e2
    have hfc : fe_find s (fs_fire O I (s m) a) c = c := by
      have := fe_find_le s (fs_fire O I (s m) a) c
      omega
    cases h8 : fe_w8 (fs_fire O I (s m) a) with
    | true =>
      rw [h8, Bool.true_or] at hw
      subst hw
      exact ⟨fun _ => fe_R_wide hR ha (by omega) he hf (Or.inl h8) (by omega), fun q => absurd q (by decide)⟩
    | false =>
      rw [h8, Bool.false_or] at hw
      rcases Nat.lt_or_ge c 200 with q | q
      · rw [decide_eq_false (by omega)] at hw
        subst hw
        rw [hfc]
        exact ⟨fun z => absurd z (by decide), fun _ => ⟨_, fe_R_new hR ha (by omega) he hf q h8, fe_V_add hV q (fe_fire8 (hV.2.1 m (by omega)).2).2 h8 (fe_find_no hf), e3, by omega⟩⟩
      · rw [decide_eq_true (by omega)] at hw
        subst hw
        exact ⟨fun _ => fe_R_wide hR ha (by omega) he hf (Or.inr (by omega)) (by omega), fun z => absurd z (by decide)⟩
/-- the search's end -/
def fr_F (O I : Nat → Nat) (me c : Nat) (w : Bool) (mk nx : Nat → Nat) : Prop := (w = true → (fe_run O I me 1400).2.2.2 = true) ∧ (w = false → (fe_run O I me 1400).2.2.2 = false ∧ c = (fe_run O I me 1400).1 ∧ fr_M c mk (fe_run O I me 1400).2.1 ∧ (∀ j, j < 7 * c → nx j = (fe_run O I me 1400).2.2.1 j) ∧ fe_V c (fe_run O I me 1400).2.1)
theorem fr_F_of {O I : Nat → Nat} {me m c : Nat} {w : Bool} {mk nx : Nat → Nat} (h : fr_Z O I me (7 * m) m c w mk nx) (hx : w = true ∨ c ≤ m) : fr_F O I me c w mk nx := by
  refine ⟨h.1, fun q => ?_⟩
  rcases hx with hx | hx
  · rw [q] at hx; exact absurd hx (by decide)
  · obtain ⟨s, ⟨g1, g2, g3, g4⟩, hV, hM, hm⟩ := h.2 q
    have e : m = c := by omega
    subst e
    have e := fe_done (O := O) (I := I) (me := me) (k := 7 * m) (m := 1400) (by rw [← g2]; omega) (by have := hV.1; omega)
    rw [e]
    refine ⟨g1, g2, fun i hi p hp => by rw [← g3 i hi]; exact hM i hi p hp, g4, hV.1, fun i hi => by rw [← g3 i hi]; exact hV.2.1 i hi, fun a ha b hb z => hV.2.2 a ha b hb (by rw [g3 a ha, g3 b hb]; exact z)⟩
