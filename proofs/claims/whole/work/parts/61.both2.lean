/-! both again: what place, ends, reset and mine do to the relation; their answers agree -/
theorem rl_m0 (mc mi mu mfi mla mac : Nat → Nat) : fr_me mc mi mu mfi mla mac 0 = fs_mem 0 (mfi 0) (mla 0) mi mu (mc 0) := by unfold fr_me; rw [if_neg (by decide)]
theorem rl_m1 (mc mi mu mfi mla mac : Nat → Nat) : fr_me mc mi mu mfi mla mac 1 = mac 1 := by unfold fr_me; rw [if_pos rfl]
theorem fs_mem_congr {lo fi la : Nat} {i1 i2 o1 o2 : Nat → Nat} : ∀ {k : Nat}, (∀ j, j < k → i1 j = i2 j ∧ o1 j = o2 j) → fs_mem lo fi la i1 o1 k = fs_mem lo fi la i2 o2 k
  | 0, _ => rfl
  | k + 1, h => by
    show fs_mem lo fi la i1 o1 k ||| (i1 k ||| o1 k) = fs_mem lo fi la i2 o2 k ||| (i2 k ||| o2 k)
    rw [fs_mem_congr (fun j hj => h j (by omega)), (h k (by omega)).1, (h k (by omega)).2]
section RL
variable {cnt fi la me lo : Nat} {ins outs tk pu tk9 pu9 mc mi mu mfi mla mac mc9 mi9 mu9 fi9 la9 ac9 : Nat → Nat}
theorem rl_keep0 (h : rl_net cnt fi la me ins outs tk pu 0 mc mi mu mfi mla mac) (hc : cnt ≤ 14) (e1 : mc9 0 = mc 0) (e2 : fi9 0 = mfi 0) (e3 : la9 0 = mla 0) (e4 : ∀ z, z < 14 → mi9 z = mi z ∧ mu9 z = mu z) : rl_net cnt fi la me ins outs tk pu 0 mc9 mi9 mu9 fi9 la9 ac9 := by
  obtain ⟨h1, h2, h3, h4, h5, h6⟩ := h
  refine ⟨h1.trans e1.symm, h2.trans e2.symm, h3.trans e3.symm, fun k hk => ?_, ?_, h6⟩
  · have q := h4 k hk
    rw [(e4 (14 * 0 + k) (by omega)).1, (e4 (14 * 0 + k) (by omega)).2]
    exact q
  · rw [h5, rl_m0, rl_m0, e1, e2, e3]
    exact fs_mem_congr (fun j hj => ⟨((e4 j (by omega)).1).symm, ((e4 j (by omega)).2).symm⟩)
theorem rl_keep1 (h : rl_net cnt fi la me ins outs tk pu 1 mc mi mu mfi mla mac) (e1 : mc9 1 = mc 1) (e2 : fi9 1 = mfi 1) (e3 : la9 1 = mla 1) (e4 : ∀ z, 14 ≤ z → mi9 z = mi z ∧ mu9 z = mu z) (e5 : ac9 1 = mac 1) : rl_net cnt fi la me ins outs tk pu 1 mc9 mi9 mu9 fi9 la9 ac9 := by
  obtain ⟨h1, h2, h3, h4, h5, h6⟩ := h
  refine ⟨h1.trans e1.symm, h2.trans e2.symm, h3.trans e3.symm, fun k hk => ?_, ?_, h6⟩
  · have q := h4 k hk
    rw [(e4 (14 * 1 + k) (by omega)).1, (e4 (14 * 1 + k) (by omega)).2]
    exact q
  · rw [h5, rl_m1, rl_m1, e5]
theorem rl_placeA {i o : Nat} (h : rl_net cnt fi la me ins outs tk pu 0 mc mi mu mfi mla mac) (hO : lo = 0) (hs : ∀ a, a < 7 → tk9 a = fm_mk (fs_tak (fs_O (cnt + 1) (va_up outs cnt o) fi) a) ∧ pu9 a = fm_mk (fs_tak (fs_I (cnt + 1) (va_up ins cnt i) la) a)) : rl_net (cnt + 1) fi la (fs_mem lo fi la (va_up ins cnt i) (va_up outs cnt o) (cnt + 1)) (va_up ins cnt i) (va_up outs cnt o) tk9 pu9 0 (va_up mc 0 (mc 0 + 1)) (va_up mi (mc 0) i) (va_up mu (mc 0) o) mfi mla mac := by
  obtain ⟨h1, h2, h3, h4, h5, h6⟩ := h
  have key : ∀ k, k < cnt + 1 → va_up ins cnt i k = va_up mi (mc 0) i k ∧ va_up outs cnt o k = va_up mu (mc 0) o k := fun k hk => by
    rw [← h1]
    by_cases e : k = cnt
    · rw [e, va_up_self, va_up_self, va_up_self, va_up_self]; exact ⟨rfl, rfl⟩
    · rw [va_up_ne _ _ e, va_up_ne _ _ e, va_up_ne _ _ e, va_up_ne _ _ e]
      have q := h4 k (by omega)
      rw [Nat.mul_zero, Nat.zero_add] at q
      exact q
  refine ⟨by rw [va_up_self, h1], h2, h3, fun k hk => ?_, ?_, hs⟩
  · rw [Nat.mul_zero, Nat.zero_add]
    exact key k hk
  · rw [rl_m0, va_up_self, hO, ← h2, ← h3, ← h1]
    rw [← h1] at key
    exact fs_mem_congr key
theorem rl_endsA {f l : Nat} (h : rl_net cnt fi la me ins outs tk pu 0 mc mi mu mfi mla mac) (hO : lo = 0) (hs : ∀ a, a < 7 → tk9 a = fm_mk (fs_tak (fs_O cnt outs f) a) ∧ pu9 a = fm_mk (fs_tak (fs_I cnt ins l) a)) : rl_net cnt f l (fs_mem lo f l ins outs cnt) ins outs tk9 pu9 0 mc mi mu (va_up mfi 0 f) (va_up mla 0 l) mac := by
  obtain ⟨h1, h2, h3, h4, h5, h6⟩ := h
  refine ⟨h1, by rw [va_up_self], by rw [va_up_self], h4, ?_, hs⟩
  rw [rl_m0, va_up_self, va_up_self, hO, ← h1]
  exact fs_mem_congr (fun j hj => by
    have q := h4 j hj
    rw [Nat.mul_zero, Nat.zero_add] at q
    exact q)
theorem rl_resetA (hs : ∀ a, a < 7 → tk9 a = fm_mk (fs_tak (fs_O 0 outs 0) a) ∧ pu9 a = fm_mk (fs_tak (fs_I 0 ins 0) a)) : rl_net 0 0 0 0 ins outs tk9 pu9 0 (va_up mc 0 0) mi mu (va_up mfi 0 0) (va_up mla 0 0) mac := by
  refine ⟨by rw [va_up_self], by rw [va_up_self], by rw [va_up_self], fun k hk => absurd hk (Nat.not_lt_zero k), ?_, hs⟩
  rw [rl_m0, va_up_self, va_up_self, va_up_self]
  rfl
theorem rl_up {f : Nat → Nat} {i x B n : Nat} (hf : ∀ k, k < n → f k < B) (hx : x < B) : ∀ k, k < n → va_up f i x k < B := fun k hk => by
  by_cases e : k = i
  · rw [e, va_up_self]; exact hx
  · rw [va_up_ne _ _ e]; exact hf k hk
theorem rl_bd_of (h1 : ∀ k, k < 28 → mi k < 128) (h2 : ∀ k, k < 28 → mu k < 128) (h3 : ∀ q, q < 2 → mc q < 15) (h4 : ∀ q, q < 2 → mfi q < 128) (h5 : ∀ q, q < 2 → mla q < 128) (h6 : mac 1 < 128) : rl_bd mc mi mu mfi mla mac := ⟨⟨fun k hk => ⟨h1 k hk, h2 k hk⟩, fun q hq => ⟨Nat.le_of_lt_succ (h3 q hq), h4 q hq, h5 q hq⟩⟩, h6⟩
theorem rl_bd_to (h : rl_bd mc mi mu mfi mla mac) : (∀ k, k < 28 → mi k < 128) ∧ (∀ k, k < 28 → mu k < 128) ∧ (∀ q, q < 2 → mc q < 15) ∧ (∀ q, q < 2 → mfi q < 128) ∧ (∀ q, q < 2 → mla q < 128) ∧ mac 1 < 128 := ⟨fun k hk => (h.1.1 k hk).1, fun k hk => (h.1.1 k hk).2, fun q hq => Nat.lt_succ_of_le (h.1.2 q hq).1, fun q hq => (h.1.2 q hq).2.1, fun q hq => (h.1.2 q hq).2.2, h.2⟩
theorem rl_placeD {i o : Nat} (h : rl_bd mc mi mu mfi mla mac) (hc : mc 0 < 14) (hi : i < 128) (ho : o < 128) : rl_bd (va_up mc 0 (mc 0 + 1)) (va_up mi (mc 0) i) (va_up mu (mc 0) o) mfi mla mac := by
  obtain ⟨h1, h2, h3, h4, h5, h6⟩ := rl_bd_to h
  exact rl_bd_of (rl_up h1 hi) (rl_up h2 ho) (rl_up h3 (by omega)) h4 h5 h6
theorem rl_endsD {f l : Nat} (h : rl_bd mc mi mu mfi mla mac) (hf : f < 128) (hl : l < 128) : rl_bd mc mi mu (va_up mfi 0 f) (va_up mla 0 l) mac := by
  obtain ⟨h1, h2, h3, h4, h5, h6⟩ := rl_bd_to h
  exact rl_bd_of h1 h2 h3 (rl_up h4 hf) (rl_up h5 hl) h6
theorem rl_resetD (h : rl_bd mc mi mu mfi mla mac) : rl_bd (va_up mc 0 0) mi mu (va_up mfi 0 0) (va_up mla 0 0) mac := by
  obtain ⟨h1, h2, h3, h4, h5, h6⟩ := rl_bd_to h
  exact rl_bd_of h1 h2 (rl_up h3 (by decide)) (rl_up h4 (by decide)) (rl_up h5 (by decide)) h6
theorem rl_hp {i o : Nat} (h : rl_net cnt fi la me ins outs tk pu 0 mc mi mu mfi mla mac) : fs_any (fun z9 => decide (mi z9 = i) && decide (mu z9 = o)) (mc 0) = fs_any (fun z9 => decide (ins z9 = i) && decide (outs z9 = o)) cnt := by
  obtain ⟨h1, h2, h3, h4, h5, h6⟩ := h
  rw [← h1]
  refine fs_any_congr (fun j hj => ?_)
  have q := h4 j hj
  rw [Nat.mul_zero, Nat.zero_add] at q
  rw [q.1, q.2]
theorem rl_shape {q : Nat} (h : rl_net cnt fi la me ins outs tk pu q mc mi mu mfi mla mac) (hb : rl_bd mc mi mu mfi mla mac) (hq : q < 2) : Bool.toNat (fs_any (fun z9 => decide (ins z9 &&& outs z9 ≠ 0)) cnt) + 2 * Bool.toNat (fs_any (fun z9 => fs_any (fs_sh ins outs z9) cnt) cnt) + 4 * Bool.toNat (fs_any (fs_mix cnt outs fi) (cnt + 1)) = Bool.toNat (fs_any (fun z9 => decide (mi (14 * q + z9) &&& mu (14 * q + z9) ≠ 0)) (mc q)) + 2 * Bool.toNat (fr_lp (fr_O mc mu mfi q) (fr_I mc mi mla q)) + 4 * Bool.toNat (fr_mx (fr_O mc mu mfi q)) := by
  obtain ⟨c1, c2, c3, c4⟩ := rl_cnt h hb hq
  rw [← rl_O h, ← rl_I h, fr_lp_eq c1 c4, fr_mx_eq c1 (fun j hj => (c4 j hj).2) c2, ← h.1]
  rw [fs_any_congr (f := fun z9 => decide (ins z9 &&& outs z9 ≠ 0)) (g := fun z9 => decide (mi (14 * q + z9) &&& mu (14 * q + z9) ≠ 0)) (fun j hj => by rw [(h.2.2.2.1 j hj).1, (h.2.2.2.1 j hj).2])]
theorem rl_same {cn2 fi2 la2 me2 : Nat} {in2 ou2 tk2 pu2 : Nat → Nat} (h : rl_net cnt fi la me ins outs tk pu 0 mc mi mu mfi mla mac) (k : rl_net cn2 fi2 la2 me2 in2 ou2 tk2 pu2 1 mc mi mu mfi mla mac) : (decide (me = me2 ∧ fi = fi2 ∧ la = la2 ∧ cnt = cn2) && fs_all (fun z9 => fs_any (fun z8 => decide (in2 z8 = ins z9) && decide (ou2 z8 = outs z9)) cn2) cnt) = (decide (fr_me mc mi mu mfi mla mac 0 = mac 1 ∧ mfi 0 = mfi 1 ∧ mla 0 = mla 1 ∧ mc 0 = mc 1) && fs_all (fun z9 => fs_any (fun z8 => decide (mi (14 + z8) = mi z9) && decide (mu (14 + z8) = mu z9)) (mc 1)) (mc 0)) := by
  obtain ⟨h1, h2, h3, h4, h5, h6⟩ := h
  obtain ⟨k1, k2, k3, k4, k5, k6⟩ := k
  rw [rl_m1] at k5
  rw [← h5, ← k5, ← h2, ← k2, ← h3, ← k3, ← h1, ← k1]
  congr 1
  refine fs_all_congr (fun j hj => fs_any_congr (fun z hz => ?_))
  have q := h4 j hj
  have r := k4 z hz
  rw [Nat.mul_zero, Nat.zero_add] at q
  rw [Nat.mul_one] at r
  rw [q.1, q.2, r.1, r.2]
theorem rl_init {q : Nat} (hq : q < 2) : rl_net 0 0 0 0 (fun _ => 0) (fun _ => 0) (fun _ => 0) (fun _ => 0) q (fun _ => 0) (fun _ => 0) (fun _ => 0) (fun _ => 0) (fun _ => 0) (fun _ => 0) := by
  refine ⟨rfl, rfl, rfl, fun k hk => absurd hk (Nat.not_lt_zero k), ?_, fun a _ => ⟨(fm_mk0 (fun j _ => ?_)).symm, (fm_mk0 (fun j _ => ?_)).symm⟩⟩
  · unfold fr_me
    split <;> rfl
  · unfold fs_tak fs_O
    rw [show (if j = 0 then 0 else if j = 1 then 0 else if j < 0 + 2 then 0 else 0) = 0 by split <;> (try split) <;> (try split) <;> rfl]
    exact Nat.zero_testBit a
  · unfold fs_tak fs_I
    rw [show (if j = 0 then 0 else if j = 1 then 0 else if j < 0 + 2 then 0 else 0) = 0 by split <;> (try split) <;> (try split) <;> rfl]
    exact Nat.zero_testBit a
theorem rl_init_log : rl_log 0 (fun _ => 0) (fun _ => 0) (fun _ => 0) 0 (fun _ => 0) (fun _ => 0) := ⟨rfl, by decide, fun _ _ => Nat.zero_le _, fun _ _ => Nat.zero_le _, fun t ht => absurd ht (Nat.not_lt_zero t), fun t ht => absurd ht (Nat.not_lt_zero t), fg_fo_0 (fun _ _ => rfl)⟩
theorem rl_init_bd : rl_bd (fun _ => 0) (fun _ => 0) (fun _ => 0) (fun _ => 0) (fun _ => 0) (fun _ => 0) := rl_bd_of (fun _ _ => by decide) (fun _ _ => by decide) (fun _ _ => by decide) (fun _ _ => by decide) (fun _ _ => by decide) (by decide)
end RL
theorem ft_run_congr {O I : Nat → Nat} {me : Nat} {e1 e2 : Nat → Nat} : ∀ {n : Nat}, (∀ i, i < n → e1 i = e2 i) → ft_run O I me e1 n = ft_run O I me e2 n
  | 0, _ => rfl
  | n + 1, h => by
    unfold ft_run
    rw [ft_run_congr (fun i hi => h i (by omega)), h n (by omega)]
theorem rl_fits {tr mt t me : Nat} {len ev fo mln mev O I : Nat → Nat} (h : rl_log tr len ev fo mt mln mev) (ht : t < tr) : ft_ok O I me (fun z9 => ev (15 * t + z9)) (len t) = ft_ok O I me (fun z9 => mev (15 * t + z9)) (mln t) := by
  obtain ⟨h1, h2, h3, h4, h5, h6, h7⟩ := h
  unfold ft_ok
  rw [h5 t ht, ft_run_congr (e1 := fun z9 => ev (15 * t + z9)) (e2 := fun z9 => mev (15 * t + z9)) (fun i hi => ((h6 t ht i hi).1).symm)]
/-! mine: what is found has no activity but those of the log -/
theorem rl_sub {a b : Nat} (h : ∀ j, b.testBit j = true → a.testBit j = true) : a ||| b = a := by
  apply Nat.eq_of_testBit_eq
  intro j
  rw [Nat.testBit_or]
  cases q : b.testBit j with
  | false => rw [Bool.or_false]
  | true => rw [h j q]; rfl
theorem rl_be {T a : Nat} {len ev : Nat → Nat} (h : fg_be T len ev a = true) : fg_oc T len ev a = true := by
  obtain ⟨t, ht, q⟩ := fs_any_iff.mp h
  rw [Bool.and_eq_true, decide_eq_true_iff, decide_eq_true_iff] at q
  exact fs_any_t ht (fs_any_t q.1 (decide_eq_true q.2))
theorem rl_nd {T a : Nat} {len ev : Nat → Nat} (h : fg_nd T len ev a = true) : fg_oc T len ev a = true := by
  obtain ⟨t, ht, q⟩ := fs_any_iff.mp h
  rw [Bool.and_eq_true, decide_eq_true_iff, decide_eq_true_iff] at q
  exact fs_any_t ht (fs_any_t (j := len t - 1) (by omega) (decide_eq_true q.2))
theorem rl_fo {T a b : Nat} {len ev : Nat → Nat} (h : fg_fl T len ev a b = true) : fg_oc T len ev a = true ∧ fg_oc T len ev b = true := by
  obtain ⟨t, i, h1, h2, h3, h4⟩ := fg_fl_iff.mp h
  exact ⟨fs_any_t h1 (fs_any_t (j := i) (by omega) (decide_eq_true h3)), fs_any_t h1 (fs_any_t (j := i + 1) h2 (decide_eq_true (by rw [← h4]; rfl)))⟩
theorem rl_ex {l : Nat} (h0 : 0 < l) (h : l < 128) : ∃ a, a < 7 ∧ l.testBit a = true := by
  obtain ⟨a, ha⟩ := Nat.exists_testBit_of_ne_zero (Nat.ne_of_gt h0)
  refine ⟨a, ?_, ha⟩
  rcases Nat.lt_or_ge a 7 with q | q
  · exact q
  · rw [Nat.testBit_lt_two_pow (Nat.lt_of_lt_of_le h (show 128 ≤ 2 ^ a from Nat.pow_le_pow_right (n := 2) (by decide) q))] at ha
    exact absurd ha (by decide)
theorem rl_bit7 {l a : Nat} (h : l < 128) (ha : l.testBit a = true) : a < 7 := by
  rcases Nat.lt_or_ge a 7 with q | q
  · exact q
  · rw [Nat.testBit_lt_two_pow (Nat.lt_of_lt_of_le h (show 128 ≤ 2 ^ a from Nat.pow_le_pow_right (n := 2) (by decide) q))] at ha
    exact absurd ha (by decide)
theorem rl_pair {T l r : Nat} {len ev : Nat → Nat} (hl : l < 128) (hr : r < 128) (h : fg_C (fg_fl T len ev) l r = true) : (∀ a, l.testBit a = true → fg_oc T len ev a = true) ∧ ∀ b, r.testBit b = true → fg_oc T len ev b = true := by
  unfold fg_C at h
  rw [Bool.and_eq_true, Bool.and_eq_true, decide_eq_true_iff, decide_eq_true_iff] at h
  obtain ⟨⟨h1, h2⟩, h3⟩ := h
  have key : ∀ a b, l.testBit a = true → r.testBit b = true → fg_oc T len ev a = true ∧ fg_oc T len ev b = true := fun a b ha hb => by
    have q := fs_all_iff.mp (fs_all_iff.mp h3 a (rl_bit7 hl ha)) b (rl_bit7 hr hb)
    unfold fg_ok at q
    rw [Bool.and_eq_true, ha, hb] at q
    have q1 := q.1
    simp only [Bool.and_self, Bool.not_true, Bool.false_or] at q1
    unfold fg_caus at q1
    rw [Bool.and_eq_true] at q1
    exact rl_fo q1.1
  obtain ⟨a0, _, p0⟩ := rl_ex h1 hl
  obtain ⟨b0, _, p1⟩ := rl_ex h2 hr
  exact ⟨fun a ha => (key a b0 ha p1).1, fun b hb => (key a0 b p0 hb).2⟩
theorem rl_L {T k : Nat} {len ev : Nat → Nat} (hk : k < (fg_L (fg_fl T len ev) 16384).length) : (∀ a, ((fg_L (fg_fl T len ev) 16384).getD k 0 / 128).testBit a = true → fg_oc T len ev a = true) ∧ ∀ a, ((fg_L (fg_fl T len ev) 16384).getD k 0 % 128).testBit a = true → fg_oc T len ev a = true := by
  have hm : (fg_L (fg_fl T len ev) 16384).getD k 0 ∈ fg_L (fg_fl T len ev) 16384 := by
    rw [List.getD_eq_getElem?_getD, List.getElem?_eq_getElem hk]
    exact List.getElem_mem hk
  have h2 := List.mem_filter.mp hm
  have h3 := List.mem_range.mp h2.1
  have h4 := h2.2
  unfold fg_Q at h4
  rw [Bool.and_eq_true] at h4
  exact rl_pair (by omega) (Nat.mod_lt _ (by decide)) h4.1
theorem rl_mem {T n : Nat} {len ev i9 o9 : Nat → Nat} (hn : n ≤ (fg_L (fg_fl T len ev) 16384).length) (h : ∀ z, z < n → i9 z = (fg_L (fg_fl T len ev) 16384).getD z 0 / 128 ∧ o9 z = (fg_L (fg_fl T len ev) 16384).getD z 0 % 128) : fs_mem (fs_set (fg_oc T len ev) 7) (fs_set (fg_be T len ev) 7) (fs_set (fg_nd T len ev) 7) i9 o9 n = fs_set (fg_oc T len ev) 7 := by
  have up : ∀ {f : Nat → Bool}, (∀ a, f a = true → fg_oc T len ev a = true) → ∀ j, (fs_set f 7).testBit j = true → (fs_set (fg_oc T len ev) 7).testBit j = true := fun {f} hf j hj => by
    rw [fs_set_bit, Bool.and_eq_true] at hj
    rw [fs_set_bit, Bool.and_eq_true]
    exact ⟨hj.1, hf j hj.2⟩
  have up2 : ∀ {l : Nat}, l < 128 → (∀ a, l.testBit a = true → fg_oc T len ev a = true) → ∀ j, l.testBit j = true → (fs_set (fg_oc T len ev) 7).testBit j = true := fun {l} hl hf j hj => by
    rw [fs_set_bit, Bool.and_eq_true]
    exact ⟨decide_eq_true (rl_bit7 hl hj), hf j hj⟩
  induction n with
  | zero =>
    show (fs_set (fg_oc T len ev) 7 ||| (0 ||| fs_set (fg_be T len ev) 7)) ||| (fs_set (fg_nd T len ev) 7 ||| 0) = _
    rw [Nat.zero_or, Nat.or_zero, rl_sub (up (fun a => rl_be)), rl_sub (up (fun a => rl_nd))]
  | succ n ih =>
    show fs_mem _ _ _ i9 o9 n ||| (i9 n ||| o9 n) = _
    rw [ih (by omega) (fun z hz => h z (by omega)), ← Nat.or_assoc]
    have q := h n (by omega)
    have r := rl_L (T := T) (len := len) (ev := ev) (k := n) (by omega)
    have hm : (fg_L (fg_fl T len ev) 16384).getD n 0 < 16384 := by
      have hm : (fg_L (fg_fl T len ev) 16384).getD n 0 ∈ fg_L (fg_fl T len ev) 16384 := by
        rw [List.getD_eq_getElem?_getD, List.getElem?_eq_getElem (by omega)]
        exact List.getElem_mem _
      exact List.mem_range.mp (List.mem_filter.mp hm).1
    rw [q.1, q.2, rl_sub (up2 (by omega) r.1), rl_sub (up2 (Nat.mod_lt _ (by decide)) r.2)]
theorem rl_ocs {tr mt : Nat} {len ev fo mln mev : Nat → Nat} (h : rl_log tr len ev fo mt mln mev) : fs_set (fg_be mt mln mev) 7 = fs_set (fg_be tr len ev) 7 ∧ fs_set (fg_nd mt mln mev) 7 = fs_set (fg_nd tr len ev) 7 ∧ fs_set (fg_oc mt mln mev) 7 = fs_set (fg_oc tr len ev) 7 := by
  obtain ⟨h1, h2, h3, h4, h5, h6, h7⟩ := h
  subst h1
  refine ⟨fs_set_congr (fun a _ => fs_any_congr (fun t ht => ?_)), fs_set_congr (fun a _ => fs_any_congr (fun t ht => ?_)), fs_set_congr (fun a _ => fs_any_congr (fun t ht => ?_))⟩
  · rw [h5 t ht]
    by_cases e : 0 < len t
    · rw [(h6 t ht 0 e).1]
    · rw [decide_eq_false e, Bool.false_and, Bool.false_and]
  · rw [h5 t ht]
    by_cases e : 0 < len t
    · rw [(h6 t ht (len t - 1) (by omega)).1]
    · rw [decide_eq_false e, Bool.false_and, Bool.false_and]
  · rw [h5 t ht]
    exact fs_any_congr (fun i hi => by rw [(h6 t ht i hi).1])
theorem rl_flf {tr mt : Nat} {len ev fo mln mev : Nat → Nat} (h : rl_log tr len ev fo mt mln mev) : fg_fl mt mln mev = fg_fl tr len ev := funext (fun a => funext (fun b => rl_fl h a b))
section RM
variable {tr mt pr9 mf9 : Nat} {len ev fo mln mev in9 ou9 tk9 pu9 mc mi mu mfi mla mac mi9 mu9 fi9 la9 ac9 : Nat → Nat}
abbrev rl_MC (tr : Nat) (len ev : Nat → Nat) (pr9 : Nat) (in9 ou9 tk9 pu9 : Nat → Nat) : Prop := pr9 = (fg_L (fg_fl tr len ev) 16384).length ∧ (∀ z, z < pr9 → in9 z = (fg_L (fg_fl tr len ev) 16384).getD z 0 / 128 ∧ ou9 z = (fg_L (fg_fl tr len ev) 16384).getD z 0 % 128) ∧ ∀ z, z < 7 → tk9 z = fm_mk (fs_tak (fs_O pr9 ou9 (fs_set (fg_be tr len ev) 7)) z) ∧ pu9 z = fm_mk (fs_tak (fs_I pr9 in9 (fs_set (fg_nd tr len ev) 7)) z)
abbrev rl_MM (mt : Nat) (mln mev mi mu mfi mla mac : Nat → Nat) (mf9 : Nat) (mi9 mu9 fi9 la9 ac9 : Nat → Nat) : Prop := mf9 = (fg_L (fg_fl mt mln mev) 16384).length ∧ (∀ z, z < 14 → mi9 z = mi z ∧ mu9 z = mu z) ∧ (∀ z, z < mf9 → mi9 (14 + z) = (fg_L (fg_fl mt mln mev) 16384).getD z 0 / 128 ∧ mu9 (14 + z) = (fg_L (fg_fl mt mln mev) 16384).getD z 0 % 128) ∧ (∀ z, z < 28 → mi9 z < 128 ∧ mu9 z < 128) ∧ (ac9 0 = mac 0 ∧ fi9 0 = mfi 0 ∧ la9 0 = mla 0) ∧ fi9 1 = fs_set (fg_be mt mln mev) 7 ∧ la9 1 = fs_set (fg_nd mt mln mev) 7 ∧ ac9 1 = fs_set (fg_oc mt mln mev) 7
theorem rl_mineB (h : rl_log tr len ev fo mt mln mev) (hc : rl_MC tr len ev pr9 in9 ou9 tk9 pu9) (hm : rl_MM mt mln mev mi mu mfi mla mac mf9 mi9 mu9 fi9 la9 ac9) : rl_net pr9 (fs_set (fg_be tr len ev) 7) (fs_set (fg_nd tr len ev) 7) (fs_mem (fs_set (fg_oc tr len ev) 7) (fs_set (fg_be tr len ev) 7) (fs_set (fg_nd tr len ev) 7) in9 ou9 pr9) in9 ou9 tk9 pu9 1 (va_up mc 1 mf9) mi9 mu9 fi9 la9 ac9 := by
  obtain ⟨c1, c2, c3⟩ := hc
  obtain ⟨m1, m2, m3, m4, m5, m6, m7, m8⟩ := hm
  obtain ⟨o1, o2, o3⟩ := rl_ocs h
  rw [rl_flf h] at m1 m3
  have e : pr9 = mf9 := c1.trans m1.symm
  refine ⟨by rw [va_up_self, e], by rw [m6, o1], by rw [m7, o2], fun k hk => ?_, ?_, c3⟩
  · rw [Nat.mul_one, (m3 k (by omega)).1, (m3 k (by omega)).2]
    exact c2 k hk
  · rw [rl_m1, rl_mem (by omega) c2, m8, o3]
theorem rl_mineD (hm : rl_MM mt mln mev mi mu mfi mla mac mf9 mi9 mu9 fi9 la9 ac9) (hs : (fg_L (fg_fl mt mln mev) 16384).length ≤ 14) (h : rl_bd mc mi mu mfi mla mac) : rl_bd (va_up mc 1 mf9) mi9 mu9 fi9 la9 ac9 := by
  obtain ⟨h1, h2, h3, h4, h5, h6⟩ := rl_bd_to h
  obtain ⟨m1, m2, m3, m4, m5, m6, m7, m8⟩ := hm
  refine rl_bd_of (fun k hk => (m4 k hk).1) (fun k hk => (m4 k hk).2) (rl_up h3 (by omega)) (fun q hq => ?_) (fun q hq => ?_) (by rw [m8]; exact fs_set_lt _ (by decide))
  · rcases (show q = 0 ∨ q = 1 by omega) with e | e
    · rw [e, m5.2.1]; exact h4 0 (by decide)
    · rw [e, m6]; exact fs_set_lt _ (by decide)
  · rcases (show q = 0 ∨ q = 1 by omega) with e | e
    · rw [e, m5.2.2]; exact h5 0 (by decide)
    · rw [e, m7]; exact fs_set_lt _ (by decide)
end RM
