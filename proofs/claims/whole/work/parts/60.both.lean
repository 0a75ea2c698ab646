/-! class and reference hold the same -/
def rl_log (tr : Nat) (len ev fo : Nat → Nat) (mt : Nat) (mln mev : Nat → Nat) : Prop := mt = tr ∧ tr ≤ 20 ∧ (∀ k, k < 20 → len k ≤ 15) ∧ (∀ k, k < 20 → mln k ≤ 15) ∧ (∀ t, t < tr → mln t = len t) ∧ (∀ t, t < tr → ∀ i, i < len t → mev (15 * t + i) = ev (15 * t + i) ∧ ev (15 * t + i) < 7) ∧ fg_fo tr len ev fo
def rl_net (cnt fi la me : Nat) (ins outs tk pu : Nat → Nat) (q : Nat) (mc mi mu mfi mla mac : Nat → Nat) : Prop := cnt = mc q ∧ fi = mfi q ∧ la = mla q ∧ (∀ k, k < cnt → ins k = mi (14 * q + k) ∧ outs k = mu (14 * q + k)) ∧ me = fr_me mc mi mu mfi mla mac q ∧ ∀ a, a < 7 → tk a = fm_mk (fs_tak (fs_O cnt outs fi) a) ∧ pu a = fm_mk (fs_tak (fs_I cnt ins la) a)
def rl_bd (mc mi mu mfi mla mac : Nat → Nat) : Prop := fr_N mc mi mu mfi mla ∧ mac 1 < 128
theorem rl_O {cnt fi la me q : Nat} {ins outs tk pu mc mi mu mfi mla mac : Nat → Nat} (h : rl_net cnt fi la me ins outs tk pu q mc mi mu mfi mla mac) : fs_O cnt outs fi = fr_O mc mu mfi q := by
  obtain ⟨h1, h2, h3, h4, h5, h6⟩ := h
  funext j
  unfold fr_O fs_O
  rw [h1, h2]
  split
  · rfl
  · split
    · rfl
    · split
      · rw [(h4 (j - 2) (by omega)).2]
      · rfl
theorem rl_I {cnt fi la me q : Nat} {ins outs tk pu mc mi mu mfi mla mac : Nat → Nat} (h : rl_net cnt fi la me ins outs tk pu q mc mi mu mfi mla mac) : fs_I cnt ins la = fr_I mc mi mla q := by
  obtain ⟨h1, h2, h3, h4, h5, h6⟩ := h
  funext j
  unfold fr_I fs_I
  rw [h1, h3]
  split
  · rfl
  · split
    · rfl
    · split
      · rw [(h4 (j - 2) (by omega)).1]
      · rfl
theorem rl_tk {cnt fi la me q : Nat} {ins outs tk pu mc mi mu mfi mla mac : Nat → Nat} (h : rl_net cnt fi la me ins outs tk pu q mc mi mu mfi mla mac) : ∀ a, a < 7 → tk a = fm_mk (fs_tak (fr_O mc mu mfi q) a) := fun a ha => by rw [← rl_O h]; exact (h.2.2.2.2.2 a ha).1
theorem rl_pu {cnt fi la me q : Nat} {ins outs tk pu mc mi mu mfi mla mac : Nat → Nat} (h : rl_net cnt fi la me ins outs tk pu q mc mi mu mfi mla mac) : ∀ a, a < 7 → pu a = fm_mk (fs_tak (fr_I mc mi mla q) a) := fun a ha => by rw [← rl_I h]; exact (h.2.2.2.2.2 a ha).2
theorem rl_me {cnt fi la me q : Nat} {ins outs tk pu mc mi mu mfi mla mac : Nat → Nat} (h : rl_net cnt fi la me ins outs tk pu q mc mi mu mfi mla mac) (hb : rl_bd mc mi mu mfi mla mac) : me < 128 := by
  rw [h.2.2.2.2.1]
  exact fr_me_lt hb.1 hb.2
theorem rl_cnt {cnt fi la me q : Nat} {ins outs tk pu mc mi mu mfi mla mac : Nat → Nat} (h : rl_net cnt fi la me ins outs tk pu q mc mi mu mfi mla mac) (hb : rl_bd mc mi mu mfi mla mac) (hq : q < 2) : cnt ≤ 14 ∧ fi < 128 ∧ la < 128 ∧ ∀ j, j < cnt → ins j < 128 ∧ outs j < 128 := by
  have h1 := hb.1.2 q hq
  refine ⟨by rw [h.1]; exact h1.1, by rw [h.2.1]; exact h1.2.1, by rw [h.2.2.1]; exact h1.2.2, fun j hj => ?_⟩
  have h2 := h.2.2.2.1 j hj
  rw [h2.1, h2.2]
  exact hb.1.1 _ (by have := h.1; omega)
theorem rl_fl {tr mt : Nat} {len ev fo mln mev : Nat → Nat} (h : rl_log tr len ev fo mt mln mev) (a b : Nat) : fg_fl mt mln mev a b = fg_fl tr len ev a b := by
  obtain ⟨h1, h2, h3, h4, h5, h6, h7⟩ := h
  rw [h1]
  exact fg_fl_congr h5 (fun t ht i hi => (h6 t ht i hi).1) a b
theorem rl_ev {tr mt : Nat} {len ev fo mln mev : Nat → Nat} (h : rl_log tr len ev fo mt mln mev) : ∀ t, t < mt → ∀ i, i < mln t → mev (15 * t + i) < 7 := fun t ht i hi => by
  obtain ⟨h1, h2, h3, h4, h5, h6, h7⟩ := h
  have e := h5 t (by omega)
  rw [(h6 t (by omega) i (by omega)).1]
  exact (h6 t (by omega) i (by omega)).2
theorem rl_begin {tr mt : Nat} {len ev fo mln mev : Nat → Nat} (h : rl_log tr len ev fo mt mln mev) (ht : tr < 20) : rl_log (tr + 1) (va_up len tr 0) ev fo (mt + 1) (va_up mln mt 0) mev := by
  obtain ⟨h1, h2, h3, h4, h5, h6, h7⟩ := h
  subst h1
  have up : ∀ f : Nat → Nat, (∀ k, k < 20 → f k ≤ 15) → ∀ k, k < 20 → va_up f mt 0 k ≤ 15 := fun f hf k hk => by
    by_cases e : k = mt
    · rw [e, va_up_self]; decide
    · rw [va_up_ne _ _ e]; exact hf k hk
  refine ⟨rfl, by omega, up _ h3, up _ h4, fun t ht' => ?_, fun t ht' i hi => ?_, fg_fo_begin h7⟩
  · by_cases e : t = mt
    · rw [e, va_up_self, va_up_self]
    · rw [va_up_ne _ _ e, va_up_ne _ _ e]; exact h5 t (by omega)
  · by_cases e : t = mt
    · rw [e, va_up_self] at hi; exact absurd hi (Nat.not_lt_zero _)
    · rw [va_up_ne _ _ e] at hi; exact h6 t (by omega) i hi
theorem rl_event {tr mt a : Nat} {len ev fo mln mev : Nat → Nat} (h : rl_log tr len ev fo mt mln mev) (h0 : 0 < tr) (hl : len (tr - 1) < 15) (ha : a < 7) : rl_log tr (va_up len (tr - 1) (len (tr - 1) + 1)) (va_up ev (15 * (tr - 1) + len (tr - 1)) a) (if 0 < len (tr - 1) then va_up fo (ev (15 * (tr - 1) + (len (tr - 1) - 1))) (fo (ev (15 * (tr - 1) + (len (tr - 1) - 1))) ||| 2 ^ a) else fo) mt (va_up mln (mt - 1) (mln (mt - 1) + 1)) (va_up mev (15 * (mt - 1) + mln (mt - 1)) a) := by
  obtain ⟨h1, h2, h3, h4, h5, h6, h7⟩ := h
  subst h1
  have e5 := h5 (mt - 1) (by omega)
  have up : ∀ f : Nat → Nat, f (mt - 1) < 15 → (∀ k, k < 20 → f k ≤ 15) → ∀ k, k < 20 → va_up f (mt - 1) (f (mt - 1) + 1) k ≤ 15 := fun f hf1 hf k hk => by
    by_cases e : k = mt - 1
    · rw [e, va_up_self]; omega
    · rw [va_up_ne _ _ e]; exact hf k hk
  refine ⟨rfl, h2, up _ hl h3, up _ (by omega) h4, fun t ht' => ?_, fun t ht' i hi => ?_, fg_fo_add h7 h0 (fun t ht' => h3 t (by omega)) hl ha (fun i hi => (h6 _ (by omega) i hi).2)⟩
  · by_cases e : t = mt - 1
    · rw [e, va_up_self, va_up_self, e5]
    · rw [va_up_ne _ _ e, va_up_ne _ _ e]; exact h5 t ht'
  · rw [e5]
    by_cases e : t = mt - 1
    · rw [e, va_up_self] at hi
      rw [e]
      by_cases e2 : i = len (mt - 1)
      · rw [e2, va_up_self, va_up_self]; exact ⟨rfl, ha⟩
      · rw [va_up_ne _ _ (by omega), va_up_ne _ _ (by omega)]
        exact h6 (mt - 1) (by omega) i (by omega)
    · rw [va_up_ne _ _ e] at hi
      have := h3 t (by omega)
      rw [va_up_ne _ _ (by omega), va_up_ne _ _ (by omega)]
      exact h6 t ht' i hi
theorem rl_clear {tr mt : Nat} {len ev fo mln mev g9 : Nat → Nat} (h : rl_log tr len ev fo mt mln mev) (hg : ∀ k, k < 7 → g9 k = 0) : rl_log 0 len ev g9 0 mln mev := ⟨rfl, by decide, h.2.2.1, h.2.2.2.1, fun t ht => absurd ht (Nat.not_lt_zero t), fun t ht => absurd ht (Nat.not_lt_zero t), fg_fo_0 hg⟩
theorem rl_mev {tr mt : Nat} {len ev fo mln mev m9 : Nat → Nat} (h : rl_log tr len ev fo mt mln mev) (hm : ∀ k, k < 15 * mt → m9 k = mev k) : rl_log tr len ev fo mt mln m9 := by
  obtain ⟨h1, h2, h3, h4, h5, h6, h7⟩ := h
  refine ⟨h1, h2, h3, h4, h5, fun t ht i hi => ?_, h7⟩
  have := h3 t (by omega)
  rw [hm _ (by omega)]
  exact h6 t ht i hi
theorem rl_play {tr mt n9 : Nat} {len ev fo mln mev ln9 ev9 fo9 m9 f : Nat → Nat} (h : rl_log tr len ev fo mt mln mev) (ht : tr < 20) (hn : n9 ≤ 15) (k1 : ∀ z, z < 20 → z ≠ tr → ln9 z = len z) (k2 : ln9 tr = n9) (k3 : ∀ z, z < 15 * tr → ev9 z = ev z) (k4 : ∀ z, z < n9 → ev9 (15 * tr + z) = f z ∧ ev9 (15 * tr + z) < 7) (k5 : fg_fo (tr + 1) ln9 ev9 fo9) (k6 : ∀ k, k < 15 * mt → m9 k = mev k) (k7 : ∀ z, z < n9 → m9 (15 * mt + z) = f z ∧ m9 (15 * mt + z) < 7) : rl_log (tr + 1) ln9 ev9 fo9 (mt + 1) (va_up mln mt n9) m9 := by
  obtain ⟨h1, h2, h3, h4, h5, h6, h7⟩ := h
  subst h1
  refine ⟨rfl, by omega, fun k hk => ?_, fun k hk => ?_, fun t ht' => ?_, fun t ht' i hi => ?_, k5⟩
  · by_cases e : k = mt
    · rw [e, k2]; exact hn
    · rw [k1 k hk e]; exact h3 k hk
  · by_cases e : k = mt
    · rw [e, va_up_self]; exact hn
    · rw [va_up_ne _ _ e]; exact h4 k hk
  · by_cases e : t = mt
    · rw [e, va_up_self, k2]
    · rw [va_up_ne _ _ e, k1 t (by omega) e]; exact h5 t (by omega)
  · by_cases e : t = mt
    · subst e
      rw [k2] at hi
      exact ⟨(k7 i hi).1.trans (k4 i hi).1.symm, (k4 i hi).2⟩
    · rw [k1 t (by omega) e] at hi
      have := h3 t (by omega)
      rw [k6 _ (by omega), k3 _ (by omega)]
      exact h6 t (by omega) i hi
