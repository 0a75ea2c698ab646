/-! The judgement fk_V: from a symbolic state (world w, program counter, locals lv, stack st) the method comes to its end. Its rows. -/
def fk_isN : Cond → Bool
  | .fieldLinkNest .. => true
  | .methodLinkNest .. => true
  | _ => false
def fk_G : List Cond := lw_tbl.filter goodWord
def fk_N : List Cond := lw_tbl.filter fk_isN
theorem fk_in {w : Cond} (h : w ∈ lw_tbl) (g : goodWord w = true) : w ∈ fk_G := List.mem_filter.mpr ⟨h, g⟩
theorem fk_inN {w : Cond} (h : w ∈ lw_tbl) (g : fk_isN w = true) : w ∈ fk_N := List.mem_filter.mpr ⟨h, g⟩
theorem fk_good : ∀ w ∈ fk_G, (w.onTables && w.keeps) = true ∨ ∃ ty, w = .arrayClass ty := fun _ h => good_of_word (List.mem_filter.mp h).2
theorem fk_nW {s U : State} (hW : s.WarmedH U.vm) : ∀ w ∈ fk_N, va_Nw w s → va_Nw w U := by
  intro w hw h
  have h1 := (List.mem_filter.mp hw).2
  cases w <;> first | exact va_Nw.warmF hW h | exact va_Nw.warmM hW h | (exact absurd h1 (by decide)) | (simp [fk_isN] at h1)
theorem fk_nS {u U : State} (e : u.vm = U.vm) : ∀ w ∈ fk_N, va_Nw w u → va_Nw w U := by
  intro w hw h
  have h1 := (List.mem_filter.mp hw).2
  cases w <;> first | exact va_Nw.same rfl e h | (exact absurd h1 (by decide)) | (simp [fk_isN] at h1)
abbrev fk_E : Type := va_G × (Nat → ClassId)
abbrev fk_ty (E : fk_E) : List (ClassId × FieldType) := [(E.2 0, .int), (E.2 1, .long), (E.2 2, .boolean), (E.2 3, .byte), (E.2 4, .short)]
abbrev fk_M : Type := ByteArray × String × Nat × Room
abbrev fk_rm (d mc ms : Nat) : Room := { frames := d, cells := mc, slots := ms, locals := 40 * d }
abbrev fk_K : Type := Program × Launch × Env × State × MethodId × Array Value × List Frame × Method × Code × (State → Prop) × (Nat → Prop)
def fk_Fix (E : fk_E) (M : fk_M) (K : fk_K) : Prop := match K with
  | (p, _, _, s, m, args, _, _, c, _, A) => p.tables.exec = Jvm.exec ∧ c.code = M.1 ∧ c.maxLocals = M.2.2.1 ∧ s.vm.findClass M.2.1 = some m.cls ∧ (∀ w ∈ fk_G, w.before args s = true) ∧ va_K E.1 fk_cl (fk_ty E) s ∧ (∀ q, s.heap.size ≤ q → A q) ∧ (∀ w ∈ fk_N, va_Nw w s)
def fk_V (E : fk_E) (M : fk_M) (K : fk_K) (n : Nat × Nat) (w : va_W) (pc : Nat) (lv : List (Nat × Value)) (st : List Value) : Prop := match K with
  | (p, l, e, s, m, args, below, meth, c, Q, A) => fk_Fix E M (p, l, e, s, m, args, below, meth, c, Q, A) → n.1 ≤ M.2.2.2.cells → n.2 ≤ M.2.2.2.slots → ∀ (H : Heap) (locs : List Loc) (ls : Array Slot), lv_has ls M.2.2.1 lv → va_P E.1 fk_cl w H → va_D A w → va_S A s.heap H locs → W p l e M.2.2.2 s m args below meth c H locs n.1 n.2 Q (F0 m pc ls st)
section FKV
variable {E : fk_E} {M : fk_M} {K : fk_K} {n : Nat × Nat} {w : va_W} {pc : Nat} {lv : List (Nat × Value)} {st : List Value}
theorem fk_top {x y : Int32} (h : x = y) (kk : fk_V E M K n w pc lv (.int y :: st)) : fk_V E M K n w pc lv (.int x :: st) := h ▸ kk
theorem fk_topl {x y : Int64} (h : x = y) (kk : fk_V E M K n w pc lv (.long y :: st)) : fk_V E M K n w pc lv (.long x :: st) := h ▸ kk
theorem fk_wd {w' : va_W} (h : w = w') (kk : fk_V E M K n w' pc lv st) : fk_V E M K n w pc lv st := h ▸ kk
theorem fk_lv {lv' : List (Nat × Value)} (ks : List Nat) (h : lv_pick lv ks = lv') (kk : fk_V E M K n w pc lv' st) : fk_V E M K n w pc lv st := by
  obtain ⟨p, l, e, s, m, args, below, meth, c, Q, A⟩ := K
  intro F h1 h2 H locs ls hl hP hD hS
  exact kk F h1 h2 H locs ls (lv_sub hl ks h) hP hD hS
theorem fk_ws {w' : va_W} (is : List Nat) (hn : va_nd is = true) (h : is.map (fun i => w[i]?) = w'.map some) (kk : fk_V E M K n w' pc lv st) : fk_V E M K n w pc lv st := by
  obtain ⟨p, l, e, s, m, args, below, meth, c, Q, A⟩ := K
  intro F h1 h2 H locs ls hl hP hD hS
  have hs : is.filterMap (fun i => w[i]?) = w' := by
    have e1 : is.filterMap (fun i => w[i]?) = (is.map (fun i => w[i]?)).filterMap id := by rw [List.filterMap_map]; rfl
    rw [e1, h, List.filterMap_map]
    show List.filterMap (fun x => some x) w' = w'
    exact List.filterMap_some ..
  exact kk F h1 h2 H locs ls hl (hP.sub is hs) (hD.sub is hn h) hS
theorem fk_iconst {k : Int} {v : Int32} (d : decode M.1 pc = .ok (.iconst k, 1)) (hv : Int32.ofInt k = v) (kk : fk_V E M K n w (pc + 1) lv (.int v :: st)) : fk_V E M K n w pc lv st := by
  obtain ⟨p, l, e, s, m, args, below, meth, c, Q, A⟩ := K
  intro F h1 h2 H locs ls hl hP hD hS
  exact lv_iconst F.1 F.2.1 d hv (kk F h1 h2 H locs ls hl hP hD hS)
theorem fk_bipush {k : Int} {v : Int32} (d : decode M.1 pc = .ok (.bipush k, 2)) (hv : (Int8.ofInt k).toInt32 = v) (kk : fk_V E M K n w (pc + 2) lv (.int v :: st)) : fk_V E M K n w pc lv st := by
  obtain ⟨p, l, e, s, m, args, below, meth, c, Q, A⟩ := K
  intro F h1 h2 H locs ls hl hP hD hS
  exact lv_bipush F.1 F.2.1 d hv (kk F h1 h2 H locs ls hl hP hD hS)
theorem fk_sipush {k : Int} {v : Int32} (d : decode M.1 pc = .ok (.sipush k, 3)) (hv : (Int16.ofInt k).toInt32 = v) (kk : fk_V E M K n w (pc + 3) lv (.int v :: st)) : fk_V E M K n w pc lv st := by
  obtain ⟨p, l, e, s, m, args, below, meth, c, Q, A⟩ := K
  intro F h1 h2 H locs ls hl hP hD hS
  exact lv_sipush F.1 F.2.1 d hv (kk F h1 h2 H locs ls hl hP hD hS)
theorem fk_lconst {k : Fin 2} {v : Int64} (d : decode M.1 pc = .ok (.lconst k, 1)) (hv : Int64.ofNat (k : Nat) = v) (kk : fk_V E M K n w (pc + 1) lv (.long v :: st)) : fk_V E M K n w pc lv st := by
  obtain ⟨p, l, e, s, m, args, below, meth, c, Q, A⟩ := K
  intro F h1 h2 H locs ls hl hP hD hS
  exact lv_lconst F.1 F.2.1 d hv (kk F h1 h2 H locs ls hl hP hD hS)
theorem fk_null  (d : decode M.1 pc = .ok (.aconst_null, 1))  (kk : fk_V E M K n w (pc + 1) lv (.null :: st)) : fk_V E M K n w pc lv st := by
  obtain ⟨p, l, e, s, m, args, below, meth, c, Q, A⟩ := K
  intro F h1 h2 H locs ls hl hP hD hS
  exact lv_null F.1 F.2.1 d (kk F h1 h2 H locs ls hl hP hD hS)
theorem fk_ldc {i : Nat} {v : Int32} (d : decode M.1 pc = .ok (.ldc i, 2)) (hv : Cond.constant M.2.1 i v ∈ fk_G) (kk : fk_V E M K n w (pc + 2) lv (.int v :: st)) : fk_V E M K n w pc lv st := by
  obtain ⟨p, l, e, s, m, args, below, meth, c, Q, A⟩ := K
  intro F h1 h2 H locs ls hl hP hD hS
  exact lv_ldc F.1 F.2.1 F.2.2.2.1 (F.2.2.2.2.1 _ hv) d (kk F h1 h2 H locs ls hl hP hD hS)
theorem fk_ldc2 {i : Nat} {v : Int64} (d : decode M.1 pc = .ok (.ldc2_w i, 3)) (hv : Cond.constantLong M.2.1 i v ∈ fk_G) (kk : fk_V E M K n w (pc + 3) lv (.long v :: st)) : fk_V E M K n w pc lv st := by
  obtain ⟨p, l, e, s, m, args, below, meth, c, Q, A⟩ := K
  intro F h1 h2 H locs ls hl hP hD hS
  exact lv_ldc2 F.1 F.2.1 F.2.2.2.1 (F.2.2.2.2.1 _ hv) d (kk F h1 h2 H locs ls hl hP hD hS)
theorem fk_iload_n {k : Fin 4} {x : Int32} (j : Nat) (d : decode M.1 pc = .ok (.iload_n k, 1)) (h : lv[j]? = some ((k : Nat), .int x)) (kk : fk_V E M K n w (pc + 1) lv (.int x :: st)) : fk_V E M K n w pc lv st := by
  obtain ⟨p, l, e, s, m, args, below, meth, c, Q, A⟩ := K
  intro F h1 h2 H locs ls hl hP hD hS
  exact lv_iload_n F.1 F.2.1 d rfl (lv_at hl j h) (kk F h1 h2 H locs ls hl hP hD hS)
theorem fk_iload {i : Nat} {x : Int32} (j : Nat) (d : decode M.1 pc = .ok (.iload i, 2)) (h : lv[j]? = some (i, .int x)) (kk : fk_V E M K n w (pc + 2) lv (.int x :: st)) : fk_V E M K n w pc lv st := by
  obtain ⟨p, l, e, s, m, args, below, meth, c, Q, A⟩ := K
  intro F h1 h2 H locs ls hl hP hD hS
  exact lv_iload F.1 F.2.1 d (lv_at hl j h) (kk F h1 h2 H locs ls hl hP hD hS)
theorem fk_istore_n {k : Fin 4} {i : Nat} {x : Int32} {lv' : List (Nat × Value)} (d : decode M.1 pc = .ok (.istore_n k, 1)) (hi : (k : Nat) = i) (hn : i < M.2.2.1) (ks : List Nat) (h : lv_pick ((i, Value.int x) :: lv.filter (fun q => !(q.1 == i) && !(q.1 + 1 == i && q.2.category == 2))) ks = lv') (kk : fk_V E M K n w (pc + 1) lv' st) : fk_V E M K n w pc lv (.int x :: st) := by
  obtain ⟨p, l, e, s, m, args, below, meth, c, Q, A⟩ := K
  intro F h1 h2 H locs ls hl hP hD hS
  exact lv_istore_n F.1 F.2.1 d hi hl hn rfl (fun ls' hl' => kk F h1 h2 H locs ls' (lv_sub hl' ks h) hP hD hS)
theorem fk_istore {i : Nat} {x : Int32} {lv' : List (Nat × Value)} (d : decode M.1 pc = .ok (.istore i, 2)) (hn : i < M.2.2.1) (ks : List Nat) (h : lv_pick ((i, Value.int x) :: lv.filter (fun q => !(q.1 == i) && !(q.1 + 1 == i && q.2.category == 2))) ks = lv') (kk : fk_V E M K n w (pc + 2) lv' st) : fk_V E M K n w pc lv (.int x :: st) := by
  obtain ⟨p, l, e, s, m, args, below, meth, c, Q, A⟩ := K
  intro F h1 h2 H locs ls hl hP hD hS
  exact lv_istore F.1 F.2.1 d hl hn rfl (fun ls' hl' => kk F h1 h2 H locs ls' (lv_sub hl' ks h) hP hD hS)
theorem fk_lload_n {k : Fin 4} {x : Int64} (j : Nat) (d : decode M.1 pc = .ok (.lload_n k, 1)) (h : lv[j]? = some ((k : Nat), .long x)) (kk : fk_V E M K n w (pc + 1) lv (.long x :: st)) : fk_V E M K n w pc lv st := by
  obtain ⟨p, l, e, s, m, args, below, meth, c, Q, A⟩ := K
  intro F h1 h2 H locs ls hl hP hD hS
  exact lv_lload_n F.1 F.2.1 d rfl (lv_at hl j h) (kk F h1 h2 H locs ls hl hP hD hS)
theorem fk_lload {i : Nat} {x : Int64} (j : Nat) (d : decode M.1 pc = .ok (.lload i, 2)) (h : lv[j]? = some (i, .long x)) (kk : fk_V E M K n w (pc + 2) lv (.long x :: st)) : fk_V E M K n w pc lv st := by
  obtain ⟨p, l, e, s, m, args, below, meth, c, Q, A⟩ := K
  intro F h1 h2 H locs ls hl hP hD hS
  exact lv_lload F.1 F.2.1 d (lv_at hl j h) (kk F h1 h2 H locs ls hl hP hD hS)
theorem fk_lstore_n {k : Fin 4} {i : Nat} {x : Int64} {lv' : List (Nat × Value)} (d : decode M.1 pc = .ok (.lstore_n k, 1)) (hi : (k : Nat) = i) (hn : i + 1 < M.2.2.1) (ks : List Nat) (h : lv_pick ((i, Value.long x) :: lv.filter (fun q => !(q.1 == i) && (!(q.1 == i + 1) && !(q.1 + 1 == i && q.2.category == 2)))) ks = lv') (kk : fk_V E M K n w (pc + 1) lv' st) : fk_V E M K n w pc lv (.long x :: st) := by
  obtain ⟨p, l, e, s, m, args, below, meth, c, Q, A⟩ := K
  intro F h1 h2 H locs ls hl hP hD hS
  exact lv_lstore_n F.1 F.2.1 d hi hl hn rfl (fun ls' hl' => kk F h1 h2 H locs ls' (lv_sub hl' ks h) hP hD hS)
theorem fk_lstore {i : Nat} {x : Int64} {lv' : List (Nat × Value)} (d : decode M.1 pc = .ok (.lstore i, 2)) (hn : i + 1 < M.2.2.1) (ks : List Nat) (h : lv_pick ((i, Value.long x) :: lv.filter (fun q => !(q.1 == i) && (!(q.1 == i + 1) && !(q.1 + 1 == i && q.2.category == 2)))) ks = lv') (kk : fk_V E M K n w (pc + 2) lv' st) : fk_V E M K n w pc lv (.long x :: st) := by
  obtain ⟨p, l, e, s, m, args, below, meth, c, Q, A⟩ := K
  intro F h1 h2 H locs ls hl hP hD hS
  exact lv_lstore F.1 F.2.1 d hl hn rfl (fun ls' hl' => kk F h1 h2 H locs ls' (lv_sub hl' ks h) hP hD hS)
theorem fk_aload_n {k : Fin 4} {x : Nat} (j : Nat) (d : decode M.1 pc = .ok (.aload_n k, 1)) (h : lv[j]? = some ((k : Nat), .ref x)) (kk : fk_V E M K n w (pc + 1) lv (.ref x :: st)) : fk_V E M K n w pc lv st := by
  obtain ⟨p, l, e, s, m, args, below, meth, c, Q, A⟩ := K
  intro F h1 h2 H locs ls hl hP hD hS
  exact lv_aload_n F.1 F.2.1 d rfl (lv_at hl j h) (kk F h1 h2 H locs ls hl hP hD hS)
theorem fk_aload {i : Nat} {x : Nat} (j : Nat) (d : decode M.1 pc = .ok (.aload i, 2)) (h : lv[j]? = some (i, .ref x)) (kk : fk_V E M K n w (pc + 2) lv (.ref x :: st)) : fk_V E M K n w pc lv st := by
  obtain ⟨p, l, e, s, m, args, below, meth, c, Q, A⟩ := K
  intro F h1 h2 H locs ls hl hP hD hS
  exact lv_aload F.1 F.2.1 d (lv_at hl j h) (kk F h1 h2 H locs ls hl hP hD hS)
theorem fk_astore_n {k : Fin 4} {i : Nat} {x : Nat} {lv' : List (Nat × Value)} (d : decode M.1 pc = .ok (.astore_n k, 1)) (hi : (k : Nat) = i) (hn : i < M.2.2.1) (ks : List Nat) (h : lv_pick ((i, Value.ref x) :: lv.filter (fun q => !(q.1 == i) && !(q.1 + 1 == i && q.2.category == 2))) ks = lv') (kk : fk_V E M K n w (pc + 1) lv' st) : fk_V E M K n w pc lv (.ref x :: st) := by
  obtain ⟨p, l, e, s, m, args, below, meth, c, Q, A⟩ := K
  intro F h1 h2 H locs ls hl hP hD hS
  exact lv_astore_n F.1 F.2.1 d hi hl hn rfl (fun ls' hl' => kk F h1 h2 H locs ls' (lv_sub hl' ks h) hP hD hS)
theorem fk_astore {i : Nat} {x : Nat} {lv' : List (Nat × Value)} (d : decode M.1 pc = .ok (.astore i, 2)) (hn : i < M.2.2.1) (ks : List Nat) (h : lv_pick ((i, Value.ref x) :: lv.filter (fun q => !(q.1 == i) && !(q.1 + 1 == i && q.2.category == 2))) ks = lv') (kk : fk_V E M K n w (pc + 2) lv' st) : fk_V E M K n w pc lv (.ref x :: st) := by
  obtain ⟨p, l, e, s, m, args, below, meth, c, Q, A⟩ := K
  intro F h1 h2 H locs ls hl hP hD hS
  exact lv_astore F.1 F.2.1 d hl hn rfl (fun ls' hl' => kk F h1 h2 H locs ls' (lv_sub hl' ks h) hP hD hS)
theorem fk_iinc {i j a : Nat} {k : Int} {lv' : List (Nat × Value)} (b : Nat) (d : decode M.1 pc = .ok (.iinc i k, 3)) (hk : lv[j]? = some (i, .int (nI a))) (hv : nI a + Int32.ofInt k = nI b) (hn : i < M.2.2.1) (ks : List Nat) (h : lv_pick ((i, Value.int (nI b)) :: lv.filter (fun q => !(q.1 == i) && !(q.1 + 1 == i && q.2.category == 2))) ks = lv') (kk : fk_V E M K n w (pc + 3) lv' st) : fk_V E M K n w pc lv st := by
  obtain ⟨p, l, e, s, m, args, below, meth, c, Q, A⟩ := K
  intro F h1 h2 H locs ls hl hP hD hS
  exact lv_iinc F.1 F.2.1 d hl hk hv hn rfl (fun ls' hl' => kk F h1 h2 H locs ls' (lv_sub hl' ks h) hP hD hS)
theorem fk_iaddR {x y : Int32} (d : decode M.1 pc = .ok (.iadd, 1))  (kk : fk_V E M K n w (pc + 1) lv (.int (x + y) :: st)) : fk_V E M K n w pc lv (.int y :: .int x :: st) := by
  obtain ⟨p, l, e, s, m, args, below, meth, c, Q, A⟩ := K
  intro F h1 h2 H locs ls hl hP hD hS
  exact lv_iadd F.1 F.2.1 d (kk F h1 h2 H locs ls hl hP hD hS)
theorem fk_isubR {x y : Int32} (d : decode M.1 pc = .ok (.isub, 1))  (kk : fk_V E M K n w (pc + 1) lv (.int (x - y) :: st)) : fk_V E M K n w pc lv (.int y :: .int x :: st) := by
  obtain ⟨p, l, e, s, m, args, below, meth, c, Q, A⟩ := K
  intro F h1 h2 H locs ls hl hP hD hS
  exact lv_isub F.1 F.2.1 d (kk F h1 h2 H locs ls hl hP hD hS)
theorem fk_imulR {x y : Int32} (d : decode M.1 pc = .ok (.imul, 1))  (kk : fk_V E M K n w (pc + 1) lv (.int (x * y) :: st)) : fk_V E M K n w pc lv (.int y :: .int x :: st) := by
  obtain ⟨p, l, e, s, m, args, below, meth, c, Q, A⟩ := K
  intro F h1 h2 H locs ls hl hP hD hS
  exact lv_imul F.1 F.2.1 d (kk F h1 h2 H locs ls hl hP hD hS)
theorem fk_iandR {x y : Int32} (d : decode M.1 pc = .ok (.iand, 1))  (kk : fk_V E M K n w (pc + 1) lv (.int (x &&& y) :: st)) : fk_V E M K n w pc lv (.int y :: .int x :: st) := by
  obtain ⟨p, l, e, s, m, args, below, meth, c, Q, A⟩ := K
  intro F h1 h2 H locs ls hl hP hD hS
  exact lv_iand F.1 F.2.1 d (kk F h1 h2 H locs ls hl hP hD hS)
theorem fk_iorR {x y : Int32} (d : decode M.1 pc = .ok (.ior, 1))  (kk : fk_V E M K n w (pc + 1) lv (.int (x ||| y) :: st)) : fk_V E M K n w pc lv (.int y :: .int x :: st) := by
  obtain ⟨p, l, e, s, m, args, below, meth, c, Q, A⟩ := K
  intro F h1 h2 H locs ls hl hP hD hS
  exact lv_ior F.1 F.2.1 d (kk F h1 h2 H locs ls hl hP hD hS)
theorem fk_ixorR {x y : Int32} (d : decode M.1 pc = .ok (.ixor, 1))  (kk : fk_V E M K n w (pc + 1) lv (.int (x ^^^ y) :: st)) : fk_V E M K n w pc lv (.int y :: .int x :: st) := by
  obtain ⟨p, l, e, s, m, args, below, meth, c, Q, A⟩ := K
  intro F h1 h2 H locs ls hl hP hD hS
  exact lv_ixor F.1 F.2.1 d (kk F h1 h2 H locs ls hl hP hD hS)
theorem fk_ishlR {x y : Int32} (d : decode M.1 pc = .ok (.ishl, 1))  (kk : fk_V E M K n w (pc + 1) lv (.int (x <<< (y &&& 31)) :: st)) : fk_V E M K n w pc lv (.int y :: .int x :: st) := by
  obtain ⟨p, l, e, s, m, args, below, meth, c, Q, A⟩ := K
  intro F h1 h2 H locs ls hl hP hD hS
  exact lv_ishl F.1 F.2.1 d (kk F h1 h2 H locs ls hl hP hD hS)
theorem fk_ishrR {x y : Int32} (d : decode M.1 pc = .ok (.ishr, 1))  (kk : fk_V E M K n w (pc + 1) lv (.int (x >>> (y &&& 31)) :: st)) : fk_V E M K n w pc lv (.int y :: .int x :: st) := by
  obtain ⟨p, l, e, s, m, args, below, meth, c, Q, A⟩ := K
  intro F h1 h2 H locs ls hl hP hD hS
  exact lv_ishr F.1 F.2.1 d (kk F h1 h2 H locs ls hl hP hD hS)
theorem fk_laddR {x y : Int64} (d : decode M.1 pc = .ok (.ladd, 1))  (kk : fk_V E M K n w (pc + 1) lv (.long (x + y) :: st)) : fk_V E M K n w pc lv (.long y :: .long x :: st) := by
  obtain ⟨p, l, e, s, m, args, below, meth, c, Q, A⟩ := K
  intro F h1 h2 H locs ls hl hP hD hS
  exact lv_ladd F.1 F.2.1 d (kk F h1 h2 H locs ls hl hP hD hS)
theorem fk_lsubR {x y : Int64} (d : decode M.1 pc = .ok (.lsub, 1))  (kk : fk_V E M K n w (pc + 1) lv (.long (x - y) :: st)) : fk_V E M K n w pc lv (.long y :: .long x :: st) := by
  obtain ⟨p, l, e, s, m, args, below, meth, c, Q, A⟩ := K
  intro F h1 h2 H locs ls hl hP hD hS
  exact lv_lsub F.1 F.2.1 d (kk F h1 h2 H locs ls hl hP hD hS)
theorem fk_lmulR {x y : Int64} (d : decode M.1 pc = .ok (.lmul, 1))  (kk : fk_V E M K n w (pc + 1) lv (.long (x * y) :: st)) : fk_V E M K n w pc lv (.long y :: .long x :: st) := by
  obtain ⟨p, l, e, s, m, args, below, meth, c, Q, A⟩ := K
  intro F h1 h2 H locs ls hl hP hD hS
  exact lv_lmul F.1 F.2.1 d (kk F h1 h2 H locs ls hl hP hD hS)
theorem fk_landR {x y : Int64} (d : decode M.1 pc = .ok (.land, 1))  (kk : fk_V E M K n w (pc + 1) lv (.long (x &&& y) :: st)) : fk_V E M K n w pc lv (.long y :: .long x :: st) := by
  obtain ⟨p, l, e, s, m, args, below, meth, c, Q, A⟩ := K
  intro F h1 h2 H locs ls hl hP hD hS
  exact lv_land F.1 F.2.1 d (kk F h1 h2 H locs ls hl hP hD hS)
theorem fk_lorR {x y : Int64} (d : decode M.1 pc = .ok (.lor, 1))  (kk : fk_V E M K n w (pc + 1) lv (.long (x ||| y) :: st)) : fk_V E M K n w pc lv (.long y :: .long x :: st) := by
  obtain ⟨p, l, e, s, m, args, below, meth, c, Q, A⟩ := K
  intro F h1 h2 H locs ls hl hP hD hS
  exact lv_lor F.1 F.2.1 d (kk F h1 h2 H locs ls hl hP hD hS)
theorem fk_lxorR {x y : Int64} (d : decode M.1 pc = .ok (.lxor, 1))  (kk : fk_V E M K n w (pc + 1) lv (.long (x ^^^ y) :: st)) : fk_V E M K n w pc lv (.long y :: .long x :: st) := by
  obtain ⟨p, l, e, s, m, args, below, meth, c, Q, A⟩ := K
  intro F h1 h2 H locs ls hl hP hD hS
  exact lv_lxor F.1 F.2.1 d (kk F h1 h2 H locs ls hl hP hD hS)
theorem fk_iremR {x y : Int32} (d : decode M.1 pc = .ok (.irem, 1)) (hne : ¬ y = 0) (kk : fk_V E M K n w (pc + 1) lv (.int (x - x / y * y) :: st)) : fk_V E M K n w pc lv (.int y :: .int x :: st) := by
  obtain ⟨p, l, e, s, m, args, below, meth, c, Q, A⟩ := K
  intro F h1 h2 H locs ls hl hP hD hS
  exact lv_irem F.1 F.2.1 d hne (kk F h1 h2 H locs ls hl hP hD hS)
theorem fk_idivR {x y : Int32} (d : decode M.1 pc = .ok (.idiv, 1)) (hne : ¬ y = 0) (kk : fk_V E M K n w (pc + 1) lv (.int (x / y) :: st)) : fk_V E M K n w pc lv (.int y :: .int x :: st) := by
  obtain ⟨p, l, e, s, m, args, below, meth, c, Q, A⟩ := K
  intro F h1 h2 H locs ls hl hP hD hS
  exact lv_idiv F.1 F.2.1 d hne (kk F h1 h2 H locs ls hl hP hD hS)
theorem fk_i2l {x : Int32} {v : Int64} (d : decode M.1 pc = .ok (.i2l, 1)) (hv : x.toInt64 = v) (kk : fk_V E M K n w (pc + 1) lv (.long v :: st)) : fk_V E M K n w pc lv (.int x :: st) := by
  obtain ⟨p, l, e, s, m, args, below, meth, c, Q, A⟩ := K
  intro F h1 h2 H locs ls hl hP hD hS
  exact lv_i2l F.1 F.2.1 d hv (kk F h1 h2 H locs ls hl hP hD hS)
theorem fk_l2i {x : Int64} {v : Int32} (d : decode M.1 pc = .ok (.l2i, 1)) (hv : x.toInt32 = v) (kk : fk_V E M K n w (pc + 1) lv (.int v :: st)) : fk_V E M K n w pc lv (.long x :: st) := by
  obtain ⟨p, l, e, s, m, args, below, meth, c, Q, A⟩ := K
  intro F h1 h2 H locs ls hl hP hD hS
  exact lv_l2i F.1 F.2.1 d hv (kk F h1 h2 H locs ls hl hP hD hS)
theorem fk_i2b {x : Int32} {v : Int32} (d : decode M.1 pc = .ok (.i2b, 1)) (hv : x.toInt8.toInt32 = v) (kk : fk_V E M K n w (pc + 1) lv (.int v :: st)) : fk_V E M K n w pc lv (.int x :: st) := by
  obtain ⟨p, l, e, s, m, args, below, meth, c, Q, A⟩ := K
  intro F h1 h2 H locs ls hl hP hD hS
  exact lv_i2b F.1 F.2.1 d hv (kk F h1 h2 H locs ls hl hP hD hS)
theorem fk_i2s {x : Int32} {v : Int32} (d : decode M.1 pc = .ok (.i2s, 1)) (hv : x.toInt16.toInt32 = v) (kk : fk_V E M K n w (pc + 1) lv (.int v :: st)) : fk_V E M K n w pc lv (.int x :: st) := by
  obtain ⟨p, l, e, s, m, args, below, meth, c, Q, A⟩ := K
  intro F h1 h2 H locs ls hl hP hD hS
  exact lv_i2s F.1 F.2.1 d hv (kk F h1 h2 H locs ls hl hP hD hS)
theorem fk_iushr {x y v : Int32} (d : decode M.1 pc = .ok (.iushr, 1)) (hv : (x.toUInt32 >>> (y.toUInt32 &&& Int32.toUInt32 31)).toInt32 = v) (kk : fk_V E M K n w (pc + 1) lv (.int v :: st)) : fk_V E M K n w pc lv (.int y :: .int x :: st) := by
  obtain ⟨p, l, e, s, m, args, below, meth, c, Q, A⟩ := K
  intro F h1 h2 H locs ls hl hP hD hS
  exact lv_iushr F.1 F.2.1 d hv (kk F h1 h2 H locs ls hl hP hD hS)
theorem fk_lushr {x v : Int64} {y : Int32} (d : decode M.1 pc = .ok (.lushr, 1)) (hv : (x.toUInt64 >>> (y.toInt64.toUInt64 &&& Int64.toUInt64 63)).toInt64 = v) (kk : fk_V E M K n w (pc + 1) lv (.long v :: st)) : fk_V E M K n w pc lv (.int y :: .long x :: st) := by
  obtain ⟨p, l, e, s, m, args, below, meth, c, Q, A⟩ := K
  intro F h1 h2 H locs ls hl hP hD hS
  exact lv_lushr F.1 F.2.1 d hv (kk F h1 h2 H locs ls hl hP hD hS)
theorem fk_lshl {x v : Int64} {y : Int32} (d : decode M.1 pc = .ok (.lshl, 1)) (hv : x <<< (y.toInt64 &&& 63) = v) (kk : fk_V E M K n w (pc + 1) lv (.long v :: st)) : fk_V E M K n w pc lv (.int y :: .long x :: st) := by
  obtain ⟨p, l, e, s, m, args, below, meth, c, Q, A⟩ := K
  intro F h1 h2 H locs ls hl hP hD hS
  exact lv_lshl F.1 F.2.1 d hv (kk F h1 h2 H locs ls hl hP hD hS)
theorem fk_lshr {x v : Int64} {y : Int32} (d : decode M.1 pc = .ok (.lshr, 1)) (hv : x >>> (y.toInt64 &&& 63) = v) (kk : fk_V E M K n w (pc + 1) lv (.long v :: st)) : fk_V E M K n w pc lv (.int y :: .long x :: st) := by
  obtain ⟨p, l, e, s, m, args, below, meth, c, Q, A⟩ := K
  intro F h1 h2 H locs ls hl hP hD hS
  exact lv_lshr F.1 F.2.1 d hv (kk F h1 h2 H locs ls hl hP hD hS)
theorem fk_dup {v : Value} (d : decode M.1 pc = .ok (.dup, 1)) (h : v.category = 1) (kk : fk_V E M K n w (pc + 1) lv (v :: v :: st)) : fk_V E M K n w pc lv (v :: st) := by
  obtain ⟨p, l, e, s, m, args, below, meth, c, Q, A⟩ := K
  intro F h1 h2 H locs ls hl hP hD hS
  exact lv_dup F.1 F.2.1 d h (kk F h1 h2 H locs ls hl hP hD hS)
theorem fk_pop {v : Value} (d : decode M.1 pc = .ok (.pop, 1)) (h : v.category = 1) (kk : fk_V E M K n w (pc + 1) lv st) : fk_V E M K n w pc lv (v :: st) := by
  obtain ⟨p, l, e, s, m, args, below, meth, c, Q, A⟩ := K
  intro F h1 h2 H locs ls hl hP hD hS
  exact lv_pop F.1 F.2.1 d h (kk F h1 h2 H locs ls hl hP hD hS)
theorem fk_dup_x1 {v u : Value} (d : decode M.1 pc = .ok (.dup_x1, 1)) (h : v.category = 1) (h9 : u.category = 1) (kk : fk_V E M K n w (pc + 1) lv (v :: u :: v :: st)) : fk_V E M K n w pc lv (v :: u :: st) := by
  obtain ⟨p, l, e, s, m, args, below, meth, c, Q, A⟩ := K
  intro F h1 h2 H locs ls hl hP hD hS
  exact lv_dup_x1 F.1 F.2.1 d h h9 (kk F h1 h2 H locs ls hl hP hD hS)
theorem fk_dup2 {v u : Value} (d : decode M.1 pc = .ok (.dup2, 1)) (h : v.category = 1) (h9 : u.category = 1) (kk : fk_V E M K n w (pc + 1) lv (v :: u :: v :: u :: st)) : fk_V E M K n w pc lv (v :: u :: st) := by
  obtain ⟨p, l, e, s, m, args, below, meth, c, Q, A⟩ := K
  intro F h1 h2 H locs ls hl hP hD hS
  exact lv_dup2_11 F.1 F.2.1 d h h9 (kk F h1 h2 H locs ls hl hP hD hS)
theorem fk_lcmpR {x y : Int64} (d : decode M.1 pc = .ok (.lcmp, 1))  (kk : fk_V E M K n w (pc + 1) lv (.int (lg_cmp x y) :: st)) : fk_V E M K n w pc lv (.long y :: .long x :: st) := by
  obtain ⟨p, l, e, s, m, args, below, meth, c, Q, A⟩ := K
  intro F h1 h2 H locs ls hl hP hD hS
  exact W.lcmp F.1 F.2.1 d (kk F h1 h2 H locs ls hl hP hD hS)
theorem fk_iadd {a b : Nat} (d : decode M.1 pc = .ok (.iadd, 1))  (kk : fk_V E M K n w (pc + 1) lv (.int (nI (a + b)) :: st)) : fk_V E M K n w pc lv (.int (nI b) :: .int (nI a) :: st) := fk_iaddR d (fk_top (nI_add a b) kk)
theorem fk_imul {a b : Nat} (d : decode M.1 pc = .ok (.imul, 1))  (kk : fk_V E M K n w (pc + 1) lv (.int (nI (a * b)) :: st)) : fk_V E M K n w pc lv (.int (nI b) :: .int (nI a) :: st) := fk_imulR d (fk_top (pk_mul a b) kk)
theorem fk_isub {a b : Nat} (d : decode M.1 pc = .ok (.isub, 1)) (h : b ≤ a) (kk : fk_V E M K n w (pc + 1) lv (.int (nI (a - b)) :: st)) : fk_V E M K n w pc lv (.int (nI b) :: .int (nI a) :: st) := fk_isubR d (fk_top (pk_sub h) kk)
theorem fk_iand {a b : Nat} (d : decode M.1 pc = .ok (.iand, 1))  (kk : fk_V E M K n w (pc + 1) lv (.int (nI (a &&& b)) :: st)) : fk_V E M K n w pc lv (.int (nI b) :: .int (nI a) :: st) := fk_iandR d (fk_top (fn_and a b) kk)
theorem fk_ior {a b : Nat} (d : decode M.1 pc = .ok (.ior, 1))  (kk : fk_V E M K n w (pc + 1) lv (.int (nI (a ||| b)) :: st)) : fk_V E M K n w pc lv (.int (nI b) :: .int (nI a) :: st) := fk_iorR d (fk_top (fn_or a b) kk)
theorem fk_irem {a b : Nat} (d : decode M.1 pc = .ok (.irem, 1)) (ha : a < 2 ^ 31) (h0 : 0 < b) (hb : b < 2 ^ 31) (kk : fk_V E M K n w (pc + 1) lv (.int (nI (a % b)) :: st)) : fk_V E M K n w pc lv (.int (nI b) :: .int (nI a) :: st) := fk_iremR d (nI_ne0 h0 hb) (fk_top (pk_rem ha h0 hb) kk)
theorem fk_idiv {a b : Nat} (d : decode M.1 pc = .ok (.idiv, 1)) (ha : a < 2 ^ 31) (h0 : 0 < b) (hb : b < 2 ^ 31) (kk : fk_V E M K n w (pc + 1) lv (.int (nI (a / b)) :: st)) : fk_V E M K n w pc lv (.int (nI b) :: .int (nI a) :: st) := fk_idivR d (nI_ne0 h0 hb) (fk_top (pk_div ha h0 hb) kk)
theorem fk_ishl {a b : Nat} (d : decode M.1 pc = .ok (.ishl, 1)) (hb : b < 32) (h : a * 2 ^ b < 2 ^ 32) (kk : fk_V E M K n w (pc + 1) lv (.int (nI (a * 2 ^ b)) :: st)) : fk_V E M K n w pc lv (.int (nI b) :: .int (nI a) :: st) := fk_ishlR d (fk_top (fn_shl hb h) kk)
theorem fk_ishr {a b : Nat} (d : decode M.1 pc = .ok (.ishr, 1)) (hb : b < 32) (h : a < 2 ^ 31) (kk : fk_V E M K n w (pc + 1) lv (.int (nI (a / 2 ^ b)) :: st)) : fk_V E M K n w pc lv (.int (nI b) :: .int (nI a) :: st) := fk_ishrR d (fk_top (fn_shr hb h) kk)
theorem fk_if_eqR {x : Int32} {off : Int} {tgt : Nat} (d : decode M.1 pc = .ok (.ifCond .eq off, 3)) (ht : (pc : Int) + off = (tgt : Int)) (kt : x = 0 → fk_V E M K n w tgt lv st) (kf : ¬ x = 0 → fk_V E M K n w (pc + 3) lv st) : fk_V E M K n w pc lv (.int x :: st) := by
  obtain ⟨p, l, e, s, m, args, below, meth, c, Q, A⟩ := K
  intro F h1 h2 H locs ls hl hP hD hS
  exact lv_if_eq F.1 F.2.1 d ht (fun q => kt q F h1 h2 H locs ls hl hP hD hS) (fun q => kf q F h1 h2 H locs ls hl hP hD hS)
theorem fk_icmp_eqR {x y : Int32} {off : Int} {tgt : Nat} (d : decode M.1 pc = .ok (.if_icmp .eq off, 3)) (ht : (pc : Int) + off = (tgt : Int)) (kt : x = y → fk_V E M K n w tgt lv st) (kf : ¬ x = y → fk_V E M K n w (pc + 3) lv st) : fk_V E M K n w pc lv (.int y :: .int x :: st) := by
  obtain ⟨p, l, e, s, m, args, below, meth, c, Q, A⟩ := K
  intro F h1 h2 H locs ls hl hP hD hS
  exact lv_icmp_eq F.1 F.2.1 d ht (fun q => kt q F h1 h2 H locs ls hl hP hD hS) (fun q => kf q F h1 h2 H locs ls hl hP hD hS)
theorem fk_if_neR {x : Int32} {off : Int} {tgt : Nat} (d : decode M.1 pc = .ok (.ifCond .ne off, 3)) (ht : (pc : Int) + off = (tgt : Int)) (kt : ¬ x = 0 → fk_V E M K n w tgt lv st) (kf : x = 0 → fk_V E M K n w (pc + 3) lv st) : fk_V E M K n w pc lv (.int x :: st) := by
  obtain ⟨p, l, e, s, m, args, below, meth, c, Q, A⟩ := K
  intro F h1 h2 H locs ls hl hP hD hS
  exact lv_if_ne F.1 F.2.1 d ht (fun q => kt q F h1 h2 H locs ls hl hP hD hS) (fun q => kf q F h1 h2 H locs ls hl hP hD hS)
theorem fk_icmp_neR {x y : Int32} {off : Int} {tgt : Nat} (d : decode M.1 pc = .ok (.if_icmp .ne off, 3)) (ht : (pc : Int) + off = (tgt : Int)) (kt : ¬ x = y → fk_V E M K n w tgt lv st) (kf : x = y → fk_V E M K n w (pc + 3) lv st) : fk_V E M K n w pc lv (.int y :: .int x :: st) := by
  obtain ⟨p, l, e, s, m, args, below, meth, c, Q, A⟩ := K
  intro F h1 h2 H locs ls hl hP hD hS
  exact lv_icmp_ne F.1 F.2.1 d ht (fun q => kt q F h1 h2 H locs ls hl hP hD hS) (fun q => kf q F h1 h2 H locs ls hl hP hD hS)
theorem fk_if_ltR {x : Int32} {off : Int} {tgt : Nat} (d : decode M.1 pc = .ok (.ifCond .lt off, 3)) (ht : (pc : Int) + off = (tgt : Int)) (kt : x < 0 → fk_V E M K n w tgt lv st) (kf : ¬ x < 0 → fk_V E M K n w (pc + 3) lv st) : fk_V E M K n w pc lv (.int x :: st) := by
  obtain ⟨p, l, e, s, m, args, below, meth, c, Q, A⟩ := K
  intro F h1 h2 H locs ls hl hP hD hS
  exact lv_if_lt F.1 F.2.1 d ht (fun q => kt q F h1 h2 H locs ls hl hP hD hS) (fun q => kf q F h1 h2 H locs ls hl hP hD hS)
theorem fk_icmp_ltR {x y : Int32} {off : Int} {tgt : Nat} (d : decode M.1 pc = .ok (.if_icmp .lt off, 3)) (ht : (pc : Int) + off = (tgt : Int)) (kt : x < y → fk_V E M K n w tgt lv st) (kf : ¬ x < y → fk_V E M K n w (pc + 3) lv st) : fk_V E M K n w pc lv (.int y :: .int x :: st) := by
  obtain ⟨p, l, e, s, m, args, below, meth, c, Q, A⟩ := K
  intro F h1 h2 H locs ls hl hP hD hS
  exact lv_icmp_lt F.1 F.2.1 d ht (fun q => kt q F h1 h2 H locs ls hl hP hD hS) (fun q => kf q F h1 h2 H locs ls hl hP hD hS)
theorem fk_if_geR {x : Int32} {off : Int} {tgt : Nat} (d : decode M.1 pc = .ok (.ifCond .ge off, 3)) (ht : (pc : Int) + off = (tgt : Int)) (kt : 0 ≤ x → fk_V E M K n w tgt lv st) (kf : ¬ 0 ≤ x → fk_V E M K n w (pc + 3) lv st) : fk_V E M K n w pc lv (.int x :: st) := by
  obtain ⟨p, l, e, s, m, args, below, meth, c, Q, A⟩ := K
  intro F h1 h2 H locs ls hl hP hD hS
  exact lv_if_ge F.1 F.2.1 d ht (fun q => kt q F h1 h2 H locs ls hl hP hD hS) (fun q => kf q F h1 h2 H locs ls hl hP hD hS)
theorem fk_icmp_geR {x y : Int32} {off : Int} {tgt : Nat} (d : decode M.1 pc = .ok (.if_icmp .ge off, 3)) (ht : (pc : Int) + off = (tgt : Int)) (kt : y ≤ x → fk_V E M K n w tgt lv st) (kf : ¬ y ≤ x → fk_V E M K n w (pc + 3) lv st) : fk_V E M K n w pc lv (.int y :: .int x :: st) := by
  obtain ⟨p, l, e, s, m, args, below, meth, c, Q, A⟩ := K
  intro F h1 h2 H locs ls hl hP hD hS
  exact lv_icmp_ge F.1 F.2.1 d ht (fun q => kt q F h1 h2 H locs ls hl hP hD hS) (fun q => kf q F h1 h2 H locs ls hl hP hD hS)
theorem fk_if_gtR {x : Int32} {off : Int} {tgt : Nat} (d : decode M.1 pc = .ok (.ifCond .gt off, 3)) (ht : (pc : Int) + off = (tgt : Int)) (kt : 0 < x → fk_V E M K n w tgt lv st) (kf : ¬ 0 < x → fk_V E M K n w (pc + 3) lv st) : fk_V E M K n w pc lv (.int x :: st) := by
  obtain ⟨p, l, e, s, m, args, below, meth, c, Q, A⟩ := K
  intro F h1 h2 H locs ls hl hP hD hS
  exact lv_if_gt F.1 F.2.1 d ht (fun q => kt q F h1 h2 H locs ls hl hP hD hS) (fun q => kf q F h1 h2 H locs ls hl hP hD hS)
theorem fk_icmp_gtR {x y : Int32} {off : Int} {tgt : Nat} (d : decode M.1 pc = .ok (.if_icmp .gt off, 3)) (ht : (pc : Int) + off = (tgt : Int)) (kt : y < x → fk_V E M K n w tgt lv st) (kf : ¬ y < x → fk_V E M K n w (pc + 3) lv st) : fk_V E M K n w pc lv (.int y :: .int x :: st) := by
  obtain ⟨p, l, e, s, m, args, below, meth, c, Q, A⟩ := K
  intro F h1 h2 H locs ls hl hP hD hS
  exact lv_icmp_gt F.1 F.2.1 d ht (fun q => kt q F h1 h2 H locs ls hl hP hD hS) (fun q => kf q F h1 h2 H locs ls hl hP hD hS)
theorem fk_if_leR {x : Int32} {off : Int} {tgt : Nat} (d : decode M.1 pc = .ok (.ifCond .le off, 3)) (ht : (pc : Int) + off = (tgt : Int)) (kt : x ≤ 0 → fk_V E M K n w tgt lv st) (kf : ¬ x ≤ 0 → fk_V E M K n w (pc + 3) lv st) : fk_V E M K n w pc lv (.int x :: st) := by
  obtain ⟨p, l, e, s, m, args, below, meth, c, Q, A⟩ := K
  intro F h1 h2 H locs ls hl hP hD hS
  exact lv_if_le F.1 F.2.1 d ht (fun q => kt q F h1 h2 H locs ls hl hP hD hS) (fun q => kf q F h1 h2 H locs ls hl hP hD hS)
theorem fk_icmp_leR {x y : Int32} {off : Int} {tgt : Nat} (d : decode M.1 pc = .ok (.if_icmp .le off, 3)) (ht : (pc : Int) + off = (tgt : Int)) (kt : x ≤ y → fk_V E M K n w tgt lv st) (kf : ¬ x ≤ y → fk_V E M K n w (pc + 3) lv st) : fk_V E M K n w pc lv (.int y :: .int x :: st) := by
  obtain ⟨p, l, e, s, m, args, below, meth, c, Q, A⟩ := K
  intro F h1 h2 H locs ls hl hP hD hS
  exact lv_icmp_le F.1 F.2.1 d ht (fun q => kt q F h1 h2 H locs ls hl hP hD hS) (fun q => kf q F h1 h2 H locs ls hl hP hD hS)
theorem fk_icmp_eq {a b : Nat} {off : Int} {tgt : Nat} (ha : a < 2 ^ 31) (hb : b < 2 ^ 31) (d : decode M.1 pc = .ok (.if_icmp .eq off, 3)) (ht : (pc : Int) + off = (tgt : Int)) (kt : a = b → fk_V E M K n w tgt lv st) (kf : a ≠ b → fk_V E M K n w (pc + 3) lv st) : fk_V E M K n w pc lv (.int (nI b) :: .int (nI a) :: st) :=
  fk_icmp_eqR d ht (fun q => kt ((nI_eq ha hb).mp q)) (fun q => kf (fun z => q ((nI_eq ha hb).mpr z)))
theorem fk_icmp_ne {a b : Nat} {off : Int} {tgt : Nat} (ha : a < 2 ^ 31) (hb : b < 2 ^ 31) (d : decode M.1 pc = .ok (.if_icmp .ne off, 3)) (ht : (pc : Int) + off = (tgt : Int)) (kt : a ≠ b → fk_V E M K n w tgt lv st) (kf : a = b → fk_V E M K n w (pc + 3) lv st) : fk_V E M K n w pc lv (.int (nI b) :: .int (nI a) :: st) :=
  fk_icmp_neR d ht (fun q => kt (fun z => q ((nI_eq ha hb).mpr z))) (fun q => kf ((nI_eq ha hb).mp q))
theorem fk_icmp_lt {a b : Nat} {off : Int} {tgt : Nat} (ha : a < 2 ^ 31) (hb : b < 2 ^ 31) (d : decode M.1 pc = .ok (.if_icmp .lt off, 3)) (ht : (pc : Int) + off = (tgt : Int)) (kt : a < b → fk_V E M K n w tgt lv st) (kf : b ≤ a → fk_V E M K n w (pc + 3) lv st) : fk_V E M K n w pc lv (.int (nI b) :: .int (nI a) :: st) :=
  fk_icmp_ltR d ht (fun q => kt ((nI_ltI ha hb).mp q)) (fun q => kf (Nat.not_lt.mp (fun z => q ((nI_ltI ha hb).mpr z))))
theorem fk_icmp_ge {a b : Nat} {off : Int} {tgt : Nat} (ha : a < 2 ^ 31) (hb : b < 2 ^ 31) (d : decode M.1 pc = .ok (.if_icmp .ge off, 3)) (ht : (pc : Int) + off = (tgt : Int)) (kt : b ≤ a → fk_V E M K n w tgt lv st) (kf : a < b → fk_V E M K n w (pc + 3) lv st) : fk_V E M K n w pc lv (.int (nI b) :: .int (nI a) :: st) :=
  fk_icmp_geR d ht (fun q => kt ((nI_leI hb ha).mp q)) (fun q => kf (Nat.not_le.mp (fun z => q ((nI_leI hb ha).mpr z))))
theorem fk_icmp_gt {a b : Nat} {off : Int} {tgt : Nat} (ha : a < 2 ^ 31) (hb : b < 2 ^ 31) (d : decode M.1 pc = .ok (.if_icmp .gt off, 3)) (ht : (pc : Int) + off = (tgt : Int)) (kt : b < a → fk_V E M K n w tgt lv st) (kf : a ≤ b → fk_V E M K n w (pc + 3) lv st) : fk_V E M K n w pc lv (.int (nI b) :: .int (nI a) :: st) :=
  fk_icmp_gtR d ht (fun q => kt ((nI_ltI hb ha).mp q)) (fun q => kf (Nat.not_lt.mp (fun z => q ((nI_ltI hb ha).mpr z))))
theorem fk_icmp_le {a b : Nat} {off : Int} {tgt : Nat} (ha : a < 2 ^ 31) (hb : b < 2 ^ 31) (d : decode M.1 pc = .ok (.if_icmp .le off, 3)) (ht : (pc : Int) + off = (tgt : Int)) (kt : a ≤ b → fk_V E M K n w tgt lv st) (kf : b < a → fk_V E M K n w (pc + 3) lv st) : fk_V E M K n w pc lv (.int (nI b) :: .int (nI a) :: st) :=
  fk_icmp_leR d ht (fun q => kt ((nI_leI ha hb).mp q)) (fun q => kf (Nat.not_le.mp (fun z => q ((nI_leI ha hb).mpr z))))
theorem fk_if_eq {a : Nat} {off : Int} {tgt : Nat} (ha : a < 2 ^ 31) (d : decode M.1 pc = .ok (.ifCond .eq off, 3)) (ht : (pc : Int) + off = (tgt : Int)) (kt : a = 0 → fk_V E M K n w tgt lv st) (kf : a ≠ 0 → fk_V E M K n w (pc + 3) lv st) : fk_V E M K n w pc lv (.int (nI a) :: st) :=
  fk_if_eqR d ht (fun q => kt (Nat.eq_zero_of_not_pos (fun z => nI_ne0 z ha q))) (fun q => kf (fun z => q (by rw [z]; exact nI_0)))
theorem fk_if_ne {a : Nat} {off : Int} {tgt : Nat} (ha : a < 2 ^ 31) (d : decode M.1 pc = .ok (.ifCond .ne off, 3)) (ht : (pc : Int) + off = (tgt : Int)) (kt : a ≠ 0 → fk_V E M K n w tgt lv st) (kf : a = 0 → fk_V E M K n w (pc + 3) lv st) : fk_V E M K n w pc lv (.int (nI a) :: st) :=
  fk_if_neR d ht (fun q => kt (fun z => q (by rw [z]; exact nI_0))) (fun q => kf (Nat.eq_zero_of_not_pos (fun z => nI_ne0 z ha q)))
theorem fk_if_lt {a : Nat} {off : Int} {tgt : Nat} (ha : a < 2 ^ 31) (d : decode M.1 pc = .ok (.ifCond .lt off, 3)) (ht : (pc : Int) + off = (tgt : Int)) (kf : fk_V E M K n w (pc + 3) lv st) : fk_V E M K n w pc lv (.int (nI a) :: st) :=
  fk_if_ltR d ht (fun q => absurd q (nI_pos ha)) (fun _ => kf)
theorem fk_if_ge {a : Nat} {off : Int} {tgt : Nat} (ha : a < 2 ^ 31) (d : decode M.1 pc = .ok (.ifCond .ge off, 3)) (ht : (pc : Int) + off = (tgt : Int)) (kt : fk_V E M K n w tgt lv st) : fk_V E M K n w pc lv (.int (nI a) :: st) :=
  fk_if_geR d ht (fun _ => kt) (fun q => absurd (nI_pos' ha) q)
theorem fk_if_gt {a : Nat} {off : Int} {tgt : Nat} (ha : a < 2 ^ 31) (d : decode M.1 pc = .ok (.ifCond .gt off, 3)) (ht : (pc : Int) + off = (tgt : Int)) (kt : 0 < a → fk_V E M K n w tgt lv st) (kf : a = 0 → fk_V E M K n w (pc + 3) lv st) : fk_V E M K n w pc lv (.int (nI a) :: st) :=
  fk_if_gtR d ht (fun q => kt (Nat.pos_of_ne_zero (fun z => absurd q (by rw [z]; decide)))) (fun q => kf (Nat.eq_zero_of_not_pos (fun z => q (by rw [← nI_0]; exact nI_lt z ha))))
theorem fk_if_le {a : Nat} {off : Int} {tgt : Nat} (ha : a < 2 ^ 31) (d : decode M.1 pc = .ok (.ifCond .le off, 3)) (ht : (pc : Int) + off = (tgt : Int)) (kt : a = 0 → fk_V E M K n w tgt lv st) (kf : 0 < a → fk_V E M K n w (pc + 3) lv st) : fk_V E M K n w pc lv (.int (nI a) :: st) :=
  fk_if_leR d ht (fun q => kt (Nat.eq_zero_of_not_pos (fun z => nI_nle z ha q))) (fun q => kf (Nat.pos_of_ne_zero (fun z => q (by rw [z]; decide))))
theorem fk_if_eqB {b : Bool} {off : Int} {tgt : Nat} (d : decode M.1 pc = .ok (.ifCond .eq off, 3)) (ht : (pc : Int) + off = (tgt : Int)) (kt : b = false → fk_V E M K n w tgt lv st) (kf : b = true → fk_V E M K n w (pc + 3) lv st) : fk_V E M K n w pc lv (.int (nI b.toNat) :: st) :=
  fk_if_eq (by cases b <;> decide) d ht (fun q => kt (by cases b <;> first | rfl | exact absurd q (by decide))) (fun q => kf (by cases b <;> first | rfl | exact absurd rfl q))
theorem fk_if_neB {b : Bool} {off : Int} {tgt : Nat} (d : decode M.1 pc = .ok (.ifCond .ne off, 3)) (ht : (pc : Int) + off = (tgt : Int)) (kt : b = true → fk_V E M K n w tgt lv st) (kf : b = false → fk_V E M K n w (pc + 3) lv st) : fk_V E M K n w pc lv (.int (nI b.toNat) :: st) :=
  fk_if_ne (by cases b <;> decide) d ht (fun q => kt (by cases b <;> first | rfl | exact absurd rfl q)) (fun q => kf (by cases b <;> first | rfl | exact absurd q (by decide)))
theorem fk_goto {off : Int} {tgt : Nat} (d : decode M.1 pc = .ok (.goto off, 3)) (ht : (pc : Int) + off = (tgt : Int)) (kk : fk_V E M K n w tgt lv st) : fk_V E M K n w pc lv st := by
  obtain ⟨p, l, e, s, m, args, below, meth, c, Q, A⟩ := K
  intro F h1 h2 H locs ls hl hP hD hS
  exact lv_goto F.1 F.2.1 d ht (kk F h1 h2 H locs ls hl hP hD hS)
theorem fk_ifnonnull {x : Nat} {off : Int} {tgt : Nat} (d : decode M.1 pc = .ok (.ifnonnull off, 3)) (ht : (pc : Int) + off = (tgt : Int)) (kk : fk_V E M K n w tgt lv st) : fk_V E M K n w pc lv (.ref x :: st) := by
  obtain ⟨p, l, e, s, m, args, below, meth, c, Q, A⟩ := K
  intro F h1 h2 H locs ls hl hP hD hS
  exact lv_ifnonnull F.1 F.2.1 d ht (kk F h1 h2 H locs ls hl hP hD hS)
theorem fk_ifnullN {off : Int} {tgt : Nat} (d : decode M.1 pc = .ok (.ifnull off, 3)) (ht : (pc : Int) + off = (tgt : Int)) (kk : fk_V E M K n w tgt lv st) : fk_V E M K n w pc lv (.null :: st) := by
  obtain ⟨p, l, e, s, m, args, below, meth, c, Q, A⟩ := K
  intro F h1 h2 H locs ls hl hP hD hS
  exact lv_ifnullN F.1 F.2.1 d ht (kk F h1 h2 H locs ls hl hP hD hS)
theorem fk_ifnull {x : Nat} {off : Int} (d : decode M.1 pc = .ok (.ifnull off, 3)) (kk : fk_V E M K n w (pc + 3) lv st) : fk_V E M K n w pc lv (.ref x :: st) := by
  obtain ⟨p, l, e, s, m, args, below, meth, c, Q, A⟩ := K
  intro F h1 h2 H locs ls hl hP hD hS
  exact lv_ifnull F.1 F.2.1 d (kk F h1 h2 H locs ls hl hP hD hS)
theorem fk_ifnonnullN {off : Int} (d : decode M.1 pc = .ok (.ifnonnull off, 3)) (kk : fk_V E M K n w (pc + 3) lv st) : fk_V E M K n w pc lv (.null :: st) := by
  obtain ⟨p, l, e, s, m, args, below, meth, c, Q, A⟩ := K
  intro F h1 h2 H locs ls hl hP hD hS
  exact lv_ifnonnullN F.1 F.2.1 d (kk F h1 h2 H locs ls hl hP hD hS)
theorem fk_tabOut {dflt lo hi : Int} {offs : Array Int} {len : Nat} {x : Int32} {tgt : Nat} (d : decode M.1 pc = .ok (.tableswitch dflt lo hi offs, len)) (h : x.toInt < lo ∨ hi < x.toInt) (ht : (pc : Int) + dflt = (tgt : Int)) (kk : fk_V E M K n w tgt lv st) : fk_V E M K n w pc lv (.int x :: st) := by
  obtain ⟨p, l, e, s, m, args, below, meth, c, Q, A⟩ := K
  intro F h1 h2 H locs ls hl hP hD hS
  exact lv_tableOut F.1 F.2.1 d h ht (kk F h1 h2 H locs ls hl hP hD hS)
theorem fk_tabIn {dflt lo hi : Int} {offs : Array Int} {len : Nat} {x : Int32} {off : Int} {tgt : Nat} (d : decode M.1 pc = .ok (.tableswitch dflt lo hi offs, len)) (q1 : ¬ x.toInt < lo) (q2 : ¬ hi < x.toInt) (ho : offs[(x.toInt - lo).toNat]? = some off) (ht : (pc : Int) + off = (tgt : Int)) (kk : fk_V E M K n w tgt lv st) : fk_V E M K n w pc lv (.int x :: st) := by
  obtain ⟨p, l, e, s, m, args, below, meth, c, Q, A⟩ := K
  intro F h1 h2 H locs ls hl hP hD hS
  exact lv_tableIn F.1 F.2.1 d q1 q2 ho ht (kk F h1 h2 H locs ls hl hP hD hS)
theorem fk_icmp_eqJ {a b : Nat} {off : Int} {tgt : Nat} (ha : a < 2 ^ 31) (hb : b < 2 ^ 31) (d : decode M.1 pc = .ok (.if_icmp .eq off, 3)) (ht : (pc : Int) + off = (tgt : Int)) (kt : a = b → fk_V E M K n w tgt lv st) (kf : a ≠ b → fk_V E M K n w (pc + 3) lv st) : fk_V E M K n w pc lv (.int (nI b - 1) :: .int (nI a - 1) :: st) :=
  fk_icmp_eqR d ht (fun q => kt ((fn_eqJ ha hb).mp q)) (fun q => kf (fun z => q ((fn_eqJ ha hb).mpr z)))
theorem fk_icmp_neJ {a b : Nat} {off : Int} {tgt : Nat} (ha : a < 2 ^ 31) (hb : b < 2 ^ 31) (d : decode M.1 pc = .ok (.if_icmp .ne off, 3)) (ht : (pc : Int) + off = (tgt : Int)) (kt : a ≠ b → fk_V E M K n w tgt lv st) (kf : a = b → fk_V E M K n w (pc + 3) lv st) : fk_V E M K n w pc lv (.int (nI b - 1) :: .int (nI a - 1) :: st) :=
  fk_icmp_neR d ht (fun q => kt (fun z => q ((fn_eqJ ha hb).mpr z))) (fun q => kf ((fn_eqJ ha hb).mp q))
theorem fk_if_ltJ {a : Nat} {off : Int} {tgt : Nat} (ha : a < 2 ^ 31) (d : decode M.1 pc = .ok (.ifCond .lt off, 3)) (ht : (pc : Int) + off = (tgt : Int)) (kt : a = 0 → fk_V E M K n w tgt lv st) (kf : 0 < a → fk_V E M K n w (pc + 3) lv st) : fk_V E M K n w pc lv (.int (nI a - 1) :: st) :=
  fk_if_ltR d ht (fun q => kt ((fn_ltJ ha).mp q)) (fun q => kf (Nat.pos_of_ne_zero (fun z => q ((fn_ltJ ha).mpr z))))
theorem fk_if_geJ {a : Nat} {off : Int} {tgt : Nat} (ha : a < 2 ^ 31) (d : decode M.1 pc = .ok (.ifCond .ge off, 3)) (ht : (pc : Int) + off = (tgt : Int)) (kt : 0 < a → fk_V E M K n w tgt lv st) (kf : a = 0 → fk_V E M K n w (pc + 3) lv st) : fk_V E M K n w pc lv (.int (nI a - 1) :: st) :=
  fk_if_geR d ht (fun q => kt ((fn_geJ ha).mp q)) (fun q => kf (Nat.eq_zero_of_not_pos (fun z => q ((fn_geJ ha).mpr z))))
theorem fk_cmp_eq {a b : Nat} {off : Int} {tgt : Nat} (ha : a < 2 ^ 64) (hb : b < 2 ^ 64) (d : decode M.1 pc = .ok (.ifCond .eq off, 3)) (ht : (pc : Int) + off = (tgt : Int)) (kt : a = b → fk_V E M K n w tgt lv st) (kf : a ≠ b → fk_V E M K n w (pc + 3) lv st) : fk_V E M K n w pc lv (.int (lg_cmp (lN a) (lN b)) :: st) :=
  fk_if_eqR d ht (fun q => kt ((fn_cmp ha hb).mp q)) (fun q => kf (fun z => q ((fn_cmp ha hb).mpr z)))
theorem fk_cmp_ne {a b : Nat} {off : Int} {tgt : Nat} (ha : a < 2 ^ 64) (hb : b < 2 ^ 64) (d : decode M.1 pc = .ok (.ifCond .ne off, 3)) (ht : (pc : Int) + off = (tgt : Int)) (kt : a ≠ b → fk_V E M K n w tgt lv st) (kf : a = b → fk_V E M K n w (pc + 3) lv st) : fk_V E M K n w pc lv (.int (lg_cmp (lN a) (lN b)) :: st) :=
  fk_if_neR d ht (fun q => kt (fun z => q ((fn_cmp ha hb).mpr z))) (fun q => kf ((fn_cmp ha hb).mp q))
theorem fk_aloadN_n {k : Fin 4} (j : Nat) (d : decode M.1 pc = .ok (.aload_n k, 1)) (h : lv[j]? = some ((k : Nat), .null)) (kk : fk_V E M K n w (pc + 1) lv (.null :: st)) : fk_V E M K n w pc lv st := by
  obtain ⟨p, l, e, s, m, args, below, meth, c, Q, A⟩ := K
  intro F h1 h2 H locs ls hl hP hD hS
  exact lv_aload_nN F.1 F.2.1 d rfl (lv_at hl j h) (kk F h1 h2 H locs ls hl hP hD hS)
theorem fk_aloadN {i : Nat} (j : Nat) (d : decode M.1 pc = .ok (.aload i, 2)) (h : lv[j]? = some (i, .null)) (kk : fk_V E M K n w (pc + 2) lv (.null :: st)) : fk_V E M K n w pc lv st := by
  obtain ⟨p, l, e, s, m, args, below, meth, c, Q, A⟩ := K
  intro F h1 h2 H locs ls hl hP hD hS
  exact lv_aloadN F.1 F.2.1 d (lv_at hl j h) (kk F h1 h2 H locs ls hl hP hD hS)
theorem fk_astoreN_n {k : Fin 4} {i : Nat} {lv' : List (Nat × Value)} (d : decode M.1 pc = .ok (.astore_n k, 1)) (hi : (k : Nat) = i) (hn : i < M.2.2.1) (ks : List Nat) (h : lv_pick ((i, Value.null) :: lv.filter (fun q => !(q.1 == i) && !(q.1 + 1 == i && q.2.category == 2))) ks = lv') (kk : fk_V E M K n w (pc + 1) lv' st) : fk_V E M K n w pc lv (.null :: st) := by
  obtain ⟨p, l, e, s, m, args, below, meth, c, Q, A⟩ := K
  intro F h1 h2 H locs ls hl hP hD hS
  exact lv_astore_nN F.1 F.2.1 d hi hl hn rfl (fun ls' hl' => kk F h1 h2 H locs ls' (lv_sub hl' ks h) hP hD hS)
theorem fk_get {a ci index : Nat} {C : String} {T : u_T} {N : Nat} {fs : List Value} {v : Value} (q0 k : Nat) (he : w[q0]? = some (a, .inr (ci, fs))) (hc : fk_cl[ci]? = some (C, T, N)) (hin : ∀ x ∈ u_ws C T N, x ∈ fk_G) (hk : k < N) (hlink : Cond.fieldLink M.2.1 index (T k).1 (T k).2.1 (T k).2.2.1 ∈ fk_G) (hv : fs[k]? = some v) (d : decode M.1 pc = .ok (.getfield index, 3)) (kk : fk_V E M K n w (pc + 3) lv (v :: st)) : fk_V E M K n w pc lv (.ref a :: st) := by
  obtain ⟨p, l, e, s, m, args, below, meth, c, Q, A⟩ := K
  intro F h1 h2 H locs ls hl hP hD hS
  exact va_get F.1 F.2.1 F.2.2.2.2.1 hin F.2.2.2.1 F.2.2.2.2.2.1 hP q0 he hc k hk (F.2.2.2.2.1 _ hlink) (fun _ h => h) hv d (kk F h1 h2 H locs ls hl hP hD hS)
theorem fk_put {a ci index : Nat} {C : String} {T : u_T} {N : Nat} {fs : List Value} {v : Value} {ty : FieldType} {w' : va_W} (q0 k : Nat) (ty0 : Nat → FieldType) (hty : ∀ k, k < N → parseFieldDescriptor (T k).2.2.1 = some (ty0 k)) (hnm : ∀ a, a < N → ∀ b, b < N → a ≠ b → (T a).2.1 ≠ (T b).2.1) (he : w[q0]? = some (a, .inr (ci, fs))) (hc : fk_cl[ci]? = some (C, T, N)) (hin : ∀ x ∈ u_ws C T N, x ∈ fk_G) (hk : k < N) (hlink : Cond.fieldLink M.2.1 index (T k).1 (T k).2.1 (T k).2.2.1 ∈ fk_G) (hfin : (T k).2.2.2 = false) (hd : parseFieldDescriptor (T k).2.2.1 = some ty) (hn : narrow ty v = v) (hfit : fits ty v = true) (hl0 : k < fs.length) (d : decode M.1 pc = .ok (.putfield index, 3)) (hw : w.set q0 (a, .inr (ci, fs.set k v)) = w') (kk : fk_V E M K n w' (pc + 3) lv st) : fk_V E M K n w pc lv (v :: .ref a :: st) := by
  obtain ⟨p, l, e, s, m, args, below, meth, c, Q, A⟩ := K
  intro F h1 h2 H locs ls hl hP hD hS
  exact va_put F.1 F.2.1 F.2.2.2.2.1 hin ty0 hty hnm F.2.2.2.1 F.2.2.2.2.2.1 hP hD hS q0 he hc k hk (F.2.2.2.2.1 _ hlink) (fun _ h => h) hfin hd hn hfit hl0 d (fun H1 locs1 hP1 hD1 hS1 => kk F h1 h2 H1 locs1 ls hl (hw ▸ hP1) (hw ▸ hD1) hS1)
def fk_isInit (K : fk_K) : Prop := match K with
  | (_, _, _, _, _, _, _, meth, _, _, _) => meth.name = "<init>"
theorem fk_putF {a ci index : Nat} {C : String} {T : u_T} {N : Nat} {fs : List Value} {v : Value} {ty : FieldType} {w' : va_W} (hini : fk_isInit K) (q0 k : Nat) (ty0 : Nat → FieldType) (hty : ∀ k, k < N → parseFieldDescriptor (T k).2.2.1 = some (ty0 k)) (hnm : ∀ a, a < N → ∀ b, b < N → a ≠ b → (T a).2.1 ≠ (T b).2.1) (he : w[q0]? = some (a, .inr (ci, fs))) (hc : fk_cl[ci]? = some (C, T, N)) (hin : ∀ x ∈ u_ws C T N, x ∈ fk_G) (hk : k < N) (hlink : Cond.fieldLink M.2.1 index (T k).1 (T k).2.1 (T k).2.2.1 ∈ fk_G) (hfin : (T k).2.2.2 = true) (hdecl : (T k).1 = M.2.1) (hd : parseFieldDescriptor (T k).2.2.1 = some ty) (hn : narrow ty v = v) (hfit : fits ty v = true) (hl0 : k < fs.length) (d : decode M.1 pc = .ok (.putfield index, 3)) (hw : w.set q0 (a, .inr (ci, fs.set k v)) = w') (kk : fk_V E M K n w' (pc + 3) lv st) : fk_V E M K n w pc lv (v :: .ref a :: st) := by
  obtain ⟨p, l, e, s, m, args, below, meth, c, Q, A⟩ := K
  intro F h1 h2 H locs ls hl hP hD hS
  exact va_putF F.1 F.2.1 F.2.2.2.2.1 hin ty0 hty hnm F.2.2.2.1 F.2.2.2.2.2.1 hP hD hS q0 he hc k hk (F.2.2.2.2.1 _ hlink) (fun _ h => h) hfin hini hdecl hd hn hfit hl0 d (fun H1 locs1 hP1 hD1 hS1 => kk F h1 h2 H1 locs1 ls hl (hw ▸ hP1) (hw ▸ hD1) hS1)
/-- arrays in cells: ints, longs, booleans, bytes by naturals; ints and shorts that may be -1 by a number one greater -/
abbrev fk_ai (E : fk_E) (a N : Nat) (g : Nat → Nat) : Nat × va_E := (a, .inl (E.2 0, N, .inl (fun k => nI (g k))))
abbrev fk_al (E : fk_E) (a N : Nat) (g : Nat → Nat) : Nat × va_E := (a, .inl (E.2 1, N, .inr (.inl (fun k => lN (g k)))))
abbrev fk_az (E : fk_E) (a N : Nat) (g : Nat → Bool) : Nat × va_E := (a, .inl (E.2 2, N, .inl (fun k => nI (g k).toNat)))
abbrev fk_ab (E : fk_E) (a N : Nat) (g : Nat → Nat) : Nat × va_E := (a, .inl (E.2 3, N, .inl (fun k => nI (g k))))
abbrev fk_aj (E : fk_E) (a N : Nat) (g : Nat → Nat) : Nat × va_E := (a, .inl (E.2 0, N, .inl (fun k => nI (g k) - 1)))
abbrev fk_as (E : fk_E) (a N : Nat) (g : Nat → Nat) : Nat × va_E := (a, .inl (E.2 4, N, .inl (fun k => nI (g k) - 1)))
theorem fk_ld_ai {a N i : Nat} {g : Nat → Nat} (q0 : Nat) (he : w[q0]? = some (fk_ai E a N g)) (hi : i < N) (hN : N < 2 ^ 31) (d : decode M.1 pc = .ok (.iaload, 1)) (kk : fk_V E M K n w (pc + 1) lv (.int (nI (g i)) :: st)) : fk_V E M K n w pc lv (.int (nI i) :: .ref a :: st) := by
  obtain ⟨p, l, e, s, m, args, below, meth, c, Q, A⟩ := K
  intro F h1 h2 H locs ls hl hP hD hS
  refine va_iald F.1 F.2.1 F.2.2.2.2.2.1 hP q0 0 he rfl (vp_in_nI hi hN) d ?_
  rw [nI_clamp (show i < 2 ^ 31 by omega)]
  exact kk F h1 h2 H locs ls hl hP hD hS
theorem fk_ld_aj {a N i : Nat} {g : Nat → Nat} (q0 : Nat) (he : w[q0]? = some (fk_aj E a N g)) (hi : i < N) (hN : N < 2 ^ 31) (d : decode M.1 pc = .ok (.iaload, 1)) (kk : fk_V E M K n w (pc + 1) lv (.int (nI (g i) - 1) :: st)) : fk_V E M K n w pc lv (.int (nI i) :: .ref a :: st) := by
  obtain ⟨p, l, e, s, m, args, below, meth, c, Q, A⟩ := K
  intro F h1 h2 H locs ls hl hP hD hS
  refine va_iald F.1 F.2.1 F.2.2.2.2.2.1 hP q0 0 he rfl (vp_in_nI hi hN) d ?_
  rw [nI_clamp (show i < 2 ^ 31 by omega)]
  exact kk F h1 h2 H locs ls hl hP hD hS
theorem fk_ld_al {a N i : Nat} {g : Nat → Nat} (q0 : Nat) (he : w[q0]? = some (fk_al E a N g)) (hi : i < N) (hN : N < 2 ^ 31) (d : decode M.1 pc = .ok (.laload, 1)) (kk : fk_V E M K n w (pc + 1) lv (.long (lN (g i)) :: st)) : fk_V E M K n w pc lv (.int (nI i) :: .ref a :: st) := by
  obtain ⟨p, l, e, s, m, args, below, meth, c, Q, A⟩ := K
  intro F h1 h2 H locs ls hl hP hD hS
  refine va_lald F.1 F.2.1 F.2.2.2.2.2.1 hP q0 1 he rfl (vp_in_nI hi hN) d ?_
  rw [nI_clamp (show i < 2 ^ 31 by omega)]
  exact kk F h1 h2 H locs ls hl hP hD hS
theorem fk_ld_az {a N i : Nat} {g : Nat → Bool} (q0 : Nat) (he : w[q0]? = some (fk_az E a N g)) (hi : i < N) (hN : N < 2 ^ 31) (d : decode M.1 pc = .ok (.baload, 1)) (kk : fk_V E M K n w (pc + 1) lv (.int (nI (g i).toNat) :: st)) : fk_V E M K n w pc lv (.int (nI i) :: .ref a :: st) := by
  obtain ⟨p, l, e, s, m, args, below, meth, c, Q, A⟩ := K
  intro F h1 h2 H locs ls hl hP hD hS
  refine va_zald F.1 F.2.1 F.2.2.2.2.2.1 hP q0 2 he rfl (vp_in_nI hi hN) d ?_
  rw [nI_clamp (show i < 2 ^ 31 by omega)]
  exact kk F h1 h2 H locs ls hl hP hD hS
theorem fk_ld_ab {a N i : Nat} {g : Nat → Nat} (q0 : Nat) (he : w[q0]? = some (fk_ab E a N g)) (hi : i < N) (hN : N < 2 ^ 31) (d : decode M.1 pc = .ok (.baload, 1)) (kk : fk_V E M K n w (pc + 1) lv (.int (nI (g i)) :: st)) : fk_V E M K n w pc lv (.int (nI i) :: .ref a :: st) := by
  obtain ⟨p, l, e, s, m, args, below, meth, c, Q, A⟩ := K
  intro F h1 h2 H locs ls hl hP hD hS
  refine va_bald F.1 F.2.1 F.2.2.2.2.2.1 hP q0 3 he rfl (vp_in_nI hi hN) d ?_
  rw [nI_clamp (show i < 2 ^ 31 by omega)]
  exact kk F h1 h2 H locs ls hl hP hD hS
theorem fk_ld_as {a N i : Nat} {g : Nat → Nat} (q0 : Nat) (he : w[q0]? = some (fk_as E a N g)) (hi : i < N) (hN : N < 2 ^ 31) (d : decode M.1 pc = .ok (.saload, 1)) (kk : fk_V E M K n w (pc + 1) lv (.int (nI (g i) - 1) :: st)) : fk_V E M K n w pc lv (.int (nI i) :: .ref a :: st) := by
  obtain ⟨p, l, e, s, m, args, below, meth, c, Q, A⟩ := K
  intro F h1 h2 H locs ls hl hP hD hS
  refine va_sald F.1 F.2.1 F.2.2.2.2.2.1 hP q0 4 he rfl (vp_in_nI hi hN) d ?_
  rw [nI_clamp (show i < 2 ^ 31 by omega)]
  exact kk F h1 h2 H locs ls hl hP hD hS
theorem fk_up {g : Nat → Nat} {i x : Nat} : upd (fun k => nI (g k)) i (nI x) = fun k => nI (va_up g i x k) := by
  funext k
  simp only [upd, va_up]
  split <;> rfl
theorem fk_upj {g : Nat → Nat} {i x : Nat} : upd (fun k => nI (g k) - 1) i (nI x - 1) = fun k => nI (va_up g i x k) - 1 := by
  funext k
  simp only [upd, va_up]
  split <;> rfl
theorem fk_upz {g : Nat → Bool} {i : Nat} {x : Bool} : upd (fun k => nI (g k).toNat) i (nI x.toNat) = fun k => nI (va_up g i x k).toNat := by
  funext k
  simp only [upd, va_up]
  split <;> rfl
theorem fk_upl {g : Nat → Nat} {i x : Nat} : vp_updL (fun k => lN (g k)) i (lN x) = fun k => lN (va_up g i x k) := by
  funext k
  simp only [vp_updL, va_up]
  split <;> rfl
theorem fk_st_ai {a N i : Nat} {x : Nat} {g : Nat → Nat} {w' : va_W} (q0 : Nat) (he : w[q0]? = some (fk_ai E a N g)) (hi : i < N) (hN : N < 2 ^ 31) (d : decode M.1 pc = .ok (.iastore, 1)) (hw : w.set q0 (fk_ai E a N (va_up g i x)) = w') (kk : fk_V E M K n w' (pc + 1) lv st) : fk_V E M K n w pc lv (.int (nI x) :: .int (nI i) :: .ref a :: st) := by
  obtain ⟨p, l, e, s, m, args, below, meth, c, Q, A⟩ := K
  intro F h1 h2 H locs ls hl hP hD hS
  refine va_iast F.1 F.2.1 F.2.2.2.2.2.1 hP hD hS q0 0 he rfl (vp_in_nI hi hN) d (fun H1 locs1 hP1 hD1 hS1 => ?_)
  rw [nI_clamp (show i < 2 ^ 31 by omega)] at hP1 hD1
  rw [fk_up] at hP1 hD1
  exact kk F h1 h2 H1 locs1 ls hl (hw ▸ hP1) (hw ▸ hD1) hS1
theorem fk_st_aj {a N i : Nat} {x : Nat} {g : Nat → Nat} {w' : va_W} (q0 : Nat) (he : w[q0]? = some (fk_aj E a N g)) (hi : i < N) (hN : N < 2 ^ 31) (d : decode M.1 pc = .ok (.iastore, 1)) (hw : w.set q0 (fk_aj E a N (va_up g i x)) = w') (kk : fk_V E M K n w' (pc + 1) lv st) : fk_V E M K n w pc lv (.int (nI x - 1) :: .int (nI i) :: .ref a :: st) := by
  obtain ⟨p, l, e, s, m, args, below, meth, c, Q, A⟩ := K
  intro F h1 h2 H locs ls hl hP hD hS
  refine va_iast F.1 F.2.1 F.2.2.2.2.2.1 hP hD hS q0 0 he rfl (vp_in_nI hi hN) d (fun H1 locs1 hP1 hD1 hS1 => ?_)
  rw [nI_clamp (show i < 2 ^ 31 by omega)] at hP1 hD1
  rw [fk_upj] at hP1 hD1
  exact kk F h1 h2 H1 locs1 ls hl (hw ▸ hP1) (hw ▸ hD1) hS1
theorem fk_st_al {a N i : Nat} {x : Nat} {g : Nat → Nat} {w' : va_W} (q0 : Nat) (he : w[q0]? = some (fk_al E a N g)) (hi : i < N) (hN : N < 2 ^ 31) (d : decode M.1 pc = .ok (.lastore, 1)) (hw : w.set q0 (fk_al E a N (va_up g i x)) = w') (kk : fk_V E M K n w' (pc + 1) lv st) : fk_V E M K n w pc lv (.long (lN x) :: .int (nI i) :: .ref a :: st) := by
  obtain ⟨p, l, e, s, m, args, below, meth, c, Q, A⟩ := K
  intro F h1 h2 H locs ls hl hP hD hS
  refine va_last F.1 F.2.1 F.2.2.2.2.2.1 hP hD hS q0 1 he rfl (vp_in_nI hi hN) d (fun H1 locs1 hP1 hD1 hS1 => ?_)
  rw [nI_clamp (show i < 2 ^ 31 by omega)] at hP1 hD1
  rw [fk_upl] at hP1 hD1
  exact kk F h1 h2 H1 locs1 ls hl (hw ▸ hP1) (hw ▸ hD1) hS1
theorem fk_st_az {a N i : Nat} {x : Bool} {g : Nat → Bool} {w' : va_W} (q0 : Nat) (he : w[q0]? = some (fk_az E a N g)) (hi : i < N) (hN : N < 2 ^ 31) (d : decode M.1 pc = .ok (.bastore, 1)) (hw : w.set q0 (fk_az E a N (va_up g i x)) = w') (kk : fk_V E M K n w' (pc + 1) lv st) : fk_V E M K n w pc lv (.int (nI x.toNat) :: .int (nI i) :: .ref a :: st) := by
  obtain ⟨p, l, e, s, m, args, below, meth, c, Q, A⟩ := K
  intro F h1 h2 H locs ls hl hP hD hS
  refine va_zast F.1 F.2.1 F.2.2.2.2.2.1 hP hD hS q0 2 he rfl (vp_in_nI hi hN) d (fun H1 locs1 hP1 hD1 hS1 => ?_)
  rw [nI_clamp (show i < 2 ^ 31 by omega)] at hP1 hD1
  rw [show vp_nar .boolean (nI x.toNat) = nI x.toNat by cases x <;> rfl] at hP1 hD1
  rw [fk_upz] at hP1 hD1
  exact kk F h1 h2 H1 locs1 ls hl (hw ▸ hP1) (hw ▸ hD1) hS1
theorem fk_st_ab {a N i : Nat} {x : Nat} {g : Nat → Nat} {w' : va_W} (q0 : Nat) (he : w[q0]? = some (fk_ab E a N g)) (hi : i < N) (hN : N < 2 ^ 31) (hx : vp_nar .byte (nI x) = nI x) (d : decode M.1 pc = .ok (.bastore, 1)) (hw : w.set q0 (fk_ab E a N (va_up g i x)) = w') (kk : fk_V E M K n w' (pc + 1) lv st) : fk_V E M K n w pc lv (.int (nI x) :: .int (nI i) :: .ref a :: st) := by
  obtain ⟨p, l, e, s, m, args, below, meth, c, Q, A⟩ := K
  intro F h1 h2 H locs ls hl hP hD hS
  refine va_bast F.1 F.2.1 F.2.2.2.2.2.1 hP hD hS q0 3 he rfl (vp_in_nI hi hN) d (fun H1 locs1 hP1 hD1 hS1 => ?_)
  rw [nI_clamp (show i < 2 ^ 31 by omega)] at hP1 hD1
  rw [hx] at hP1 hD1
  rw [fk_up] at hP1 hD1
  exact kk F h1 h2 H1 locs1 ls hl (hw ▸ hP1) (hw ▸ hD1) hS1
theorem fk_st_as {a N i : Nat} {x : Nat} {g : Nat → Nat} {w' : va_W} (q0 : Nat) (he : w[q0]? = some (fk_as E a N g)) (hi : i < N) (hN : N < 2 ^ 31) (hx : vp_nar .short (nI x - 1) = nI x - 1) (d : decode M.1 pc = .ok (.sastore, 1)) (hw : w.set q0 (fk_as E a N (va_up g i x)) = w') (kk : fk_V E M K n w' (pc + 1) lv st) : fk_V E M K n w pc lv (.int (nI x - 1) :: .int (nI i) :: .ref a :: st) := by
  obtain ⟨p, l, e, s, m, args, below, meth, c, Q, A⟩ := K
  intro F h1 h2 H locs ls hl hP hD hS
  refine va_sast F.1 F.2.1 F.2.2.2.2.2.1 hP hD hS q0 4 he rfl (vp_in_nI hi hN) d (fun H1 locs1 hP1 hD1 hS1 => ?_)
  rw [nI_clamp (show i < 2 ^ 31 by omega)] at hP1 hD1
  rw [hx] at hP1 hD1
  rw [fk_upj] at hP1 hD1
  exact kk F h1 h2 H1 locs1 ls hl (hw ▸ hP1) (hw ▸ hD1) hS1
theorem fk_alen {a t0 : Nat} {cA : ClassId} {x : vp_A} {ty : FieldType} (q0 : Nat) (he : w[q0]? = some (a, .inl (cA, x))) (ht : (fk_ty E)[t0]? = some (cA, ty)) (d : decode M.1 pc = .ok (.arraylength, 1)) (kk : fk_V E M K n w (pc + 1) lv (.int (nI x.1) :: st)) : fk_V E M K n w pc lv (.ref a :: st) := by
  obtain ⟨p, l, e, s, m, args, below, meth, c, Q, A⟩ := K
  intro F h1 h2 H locs ls hl hP hD hS
  exact va_alen F.1 F.2.1 F.2.2.2.2.2.1 hP q0 t0 he ht rfl d (kk F h1 h2 H locs ls hl hP hD hS)
end FKV
/-! contracts in one form: args as, world w, then for some u with post u: answer r u, world w' u -/
def fk_Pre (E : fk_E) (as : List Value) (w : va_W) (sz : Nat) : Array Value → State → Prop := va_Pc as (fun U => U.heap.size = sz ∧ va_P E.1 fk_cl w U.heap ∧ va_K E.1 fk_cl (fk_ty E) U ∧ va_D (fun _ => True) w ∧ ∀ q ∈ fk_N, va_Nw q U)
def fk_B (E : fk_E) (A : Nat → Prop) (w : va_W) (t : State) : Prop := va_P E.1 fk_cl w t.heap ∧ va_K E.1 fk_cl (fk_ty E) t ∧ va_D A w
def fk_Q {S : Type} (r : S → Option Value) (post : S → Prop) (B : S → State → Prop) (A : Nat → Prop) : Array Value → State → Outcome → State → Prop := fun _ st oc t => (∃ u : S, oc = .returned (r u) ∧ post u ∧ B u t) ∧ va_F A st t
def fk_C (E : fk_E) (y : MethodName) (cc : ByteArray) (nL : Nat) (ret : Option FieldType) (d mc ms : Nat) (as : List Value) (w : va_W) {S : Type} (r : S → Option Value) (post : S → Prop) (w' : S → va_W) : Prop :=
  ∀ (l : Launch) (sz : Nat), Met l y (Cond.code y cc nL ret :: fk_G) (fk_rm d mc ms) (fk_Pre E as w sz) (fk_Q r post (fun u => fk_B E (va_A w sz) (w' u)) (va_A w sz)) mc ms (va_A w sz)
theorem fk_pre {s : State} {H : Heap} {E : fk_E} {as : List Value} {wc : va_W} {A : Nat → Prop} (hP : va_P E.1 fk_cl wc H) (hK : va_K E.1 fk_cl (fk_ty E) s) (hD : va_D A wc) (hN : ∀ q ∈ fk_N, va_Nw q s) : PreS s H (fk_Pre E as wc H.size) as :=
  ⟨fun a U g mk q => by
    obtain ⟨q0, q1, qP, qK, qD, qN⟩ := q
    exact ⟨q0, q1, qP, va_K.moved (u := U) (U := U.calling g mk a) (Vm.Alike.refl U.vm) qK, qD, fun x hx => fk_nS (u := U) (U := U.calling g mk a) rfl x hx (qN x hx)⟩,
   fun U hU hW => ⟨rfl, by rw [hU], by rw [hU]; exact hP, va_K.moved hW.alike hK, hD.weaken (fun _ _ _ _ => trivial), fun q hq => fk_nW hW q hq (hN q hq)⟩⟩
section FKC
variable {p : Program} {l : Launch} {e : Env} {R : Room} {s : State} {m : MethodId} {args : Array Value} {below : List Frame} {meth : Method} {c : Code} {H : Heap} {locs : List Loc} {cells slots : Nat} {Q : State → Prop}
variable {pc : Nat} {ls : Array Slot} {rest st0 : List Value} {a : Array Value} {A0 A1 : Nat → Prop} {H0 : Heap} {mc ms : Nat} {free : Addr → Prop}
theorem fk_go {S : Type} {r : S → Option Value} {post : S → Prop} {B : S → State → Prop} (hr : va_Run p l e R s m args below meth c H locs cells slots mc ms (F0 m pc ls st0) rest (fk_Q r post B A1 a) free) (hS : va_S A0 H0 H locs) (hA : ∀ q, q < H.size → A1 q → A0 q) (hf : ∀ q, free q → A0 q)
    (kk : ∀ (u : S) (t : State) (H1 : Heap) (locs1 : List Loc), t.heap = H1 → s.vm.Alike t.vm → post u → B u t → H.size ≤ H1.size → (∀ q : Nat, q < H.size → ¬ A1 q → H1[q]? = H[q]?) → va_S A0 H0 H1 locs1 → W p l e R s m args below meth c H1 locs1 (cells + mc) (slots + ms) Q (F0 m (pc + 3) ls ((r u).toList ++ rest))) : W p l e R s m args below meth c H locs cells slots Q (F0 m pc ls st0) := by
  intro T hT X
  obtain ⟨v, st₀, t, T', L, h0, X', hL, e1, e2, ⟨⟨u, hv, hp, hb⟩, hz, hk⟩, st⟩ := hr T hT X
  cases hv
  rw [h0] at hz hk
  have hS1 : va_S A0 H0 T'.heap (locs ++ L) := ⟨Nat.le_trans hS.1 (by rw [e1]; exact hz), fun q h1 h2 => by
      rw [e1, hk q (Nat.lt_of_lt_of_le h1 hS.1) (fun z => h2 (hA q (Nat.lt_of_lt_of_le h1 hS.1) z))]
      exact hS.2.1 q h1 h2, fun q hq => by
      rcases List.mem_append.mp hq with h | h
      · exact hS.2.2 q h
      · exact hf _ (hL q h)⟩
  obtain ⟨t2, a1, b1⟩ := kk u t T'.heap (locs ++ L) e1.symm (by rw [← e2]; exact X'.warmed.alike) hp hb (by rw [e1]; exact hz) (fun q h1 h2 => by rw [e1]; exact hk q h1 h2) hS1 T' rfl X'
  exact ⟨t2, st t2 a1, b1⟩
theorem fk_core {E : fk_E} {A : Nat → Prop} {w wc wr : va_W} {S : Type} {r : S → Option Value} {post : S → Prop} {w1 w2 : S → va_W} {is ir ip : List Nat}
    (hr : va_Run p l e R s m args below meth c H locs cells slots mc ms (F0 m pc ls st0) rest (fk_Q r post (fun u => fk_B E (va_A wc H.size) (w1 u)) (va_A wc H.size) a) (va_A wc H.size))
    (hA : ∀ q, s.heap.size ≤ q → A q) (hP : va_P E.1 fk_cl w H) (hD : va_D A w) (hS : va_S A s.heap H locs)
    (hC : is.map (fun i => w[i]?) = wc.map some) (hR : ir.map (fun i => w[i]?) = wr.map some) (hn : va_nd ir = true) (hd : ∀ i ∈ ir, i ∉ is) (hp : ∀ u, ip.map (fun i => (wr ++ w1 u)[i]?) = (w2 u).map some) (hq : va_nd ip = true)
    (kk : ∀ u, post u → ∀ (H1 : Heap) (locs1 : List Loc), va_P E.1 fk_cl (w2 u) H1 → va_D A (w2 u) → va_S A s.heap H1 locs1 → W p l e R s m args below meth c H1 locs1 (cells + mc) (slots + ms) Q (F0 m (pc + 3) ls ((r u).toList ++ rest))) :
    W p l e R s m args below meth c H locs cells slots Q (F0 m pc ls st0) := by
  have hF := va_free (wc := wc) hD hS hA is hC
  refine fk_go hr hS (fun q _ h => hF q h) hF (fun u t H1 locs1 ht hvm hpu hB hz hk hS1 => ?_)
  obtain ⟨hP1, hK1, hD1⟩ := hB
  rw [ht] at hP1
  obtain ⟨hP2, hD2⟩ := va_join hP hD is ir hC hR hn hd hk hF hP1 hD1
  have hs : ip.filterMap (fun i => (wr ++ w1 u)[i]?) = w2 u := by
    have e1 : ip.filterMap (fun i => (wr ++ w1 u)[i]?) = (ip.map (fun i => (wr ++ w1 u)[i]?)).filterMap id := by rw [List.filterMap_map]; rfl
    rw [e1, hp u, List.filterMap_map]
    show List.filterMap (fun x => some x) (w2 u) = w2 u
    exact List.filterMap_some ..
  exact kk u hpu H1 locs1 (hP2.sub ip hs) (hD2.sub ip hq (hp u)) hS1
end FKC
section FKD
variable {E : fk_E} {M : fk_M} {K : fk_K} {n : Nat × Nat} {w : va_W} {pc : Nat} {lv : List (Nat × Value)} {st : List Value}
variable {y : MethodName} {cc : ByteArray} {nL d mc ms index : Nat} {ret : Option FieldType} {As rest : List Value} {wc wr : va_W} {S : Type} {r : S → Option Value} {post : S → Prop} {w1 w2 : S → va_W} {is ir ip : List Nat} {b : Nat} {host : String}
/-- a method is called rightly: its descriptor has k parameters, its code is known, its class ready -/
def fk_Y (y : MethodName) (cc : ByteArray) (nL : Nat) (ret : Option FieldType) (k : Nat) : Prop := Cond.code y cc nL ret ∈ fk_G ∧ Cond.initialized y.cls ∈ fk_G ∧ y.cls ≠ "java/lang/invoke/MethodHandle" ∧ y.cls ≠ "java/lang/invoke/VarHandle" ∧ (parseMethodDescriptor y.desc).map (fun d => d.parameters.length) = some k
/-- the places: callee's cells is, the rest ir, the order behind the call ip -/
def fk_Pl (w wc wr : va_W) {S : Type} (w1 w2 : S → va_W) (is ir ip : List Nat) : Prop := is.map (fun i => w[i]?) = wc.map some ∧ ir.map (fun i => w[i]?) = wr.map some ∧ va_nd is = true ∧ va_nd ir = true ∧ (∀ i ∈ ir, i ∉ is) ∧ (∀ u, ip.map (fun i => (wr ++ w1 u)[i]?) = (w2 u).map some) ∧ va_nd ip = true
theorem fk_goodC (hY : Cond.code y cc nL ret ∈ fk_G) : GoodIn fk_G (Cond.code y cc nL ret :: fk_G) := fun w hw => by
  rcases List.mem_cons.mp hw with h | h
  · exact ⟨h ▸ hY, fk_good _ (h ▸ hY)⟩
  · exact ⟨h, fk_good _ h⟩
theorem fk_subP {w wc : va_W} {H : Heap} {is : List Nat} (hP : va_P E.1 fk_cl w H) (h : is.map (fun i => w[i]?) = wc.map some) : va_P E.1 fk_cl wc H := by
  refine hP.sub is ?_
  have e1 : is.filterMap (fun i => w[i]?) = (is.map (fun i => w[i]?)).filterMap id := by rw [List.filterMap_map]; rfl
  rw [e1, h, List.filterMap_map]
  show List.filterMap (fun x => some x) wc = wc
  exact List.filterMap_some ..
theorem fk_callS (hC : fk_C E y cc nL ret d mc ms As wc r post w1) (dc : decode M.1 pc = .ok (.invokestatic index, 3)) (hY : fk_Y y cc nL ret As.length) (hL : Cond.methodLink M.2.1 index y ∈ fk_G) (hs : Cond.static y ∈ fk_G) (hR : d + 1 ≤ M.2.2.2.frames ∧ 8 + (nL + 11) + 40 * d ≤ M.2.2.2.locals) (hst : st = As.reverse ++ rest) (hrm : (rest.map fun v => v.category).sum ≤ 8) (hf : n.1 + mc ≤ M.2.2.2.cells ∧ n.2 + ms ≤ M.2.2.2.slots) (hpl : fk_Pl w wc wr w1 w2 is ir ip) (kk : ∀ u, post u → fk_V E M K (n.1 + mc, n.2 + ms) (w2 u) (pc + 3) lv ((r u).toList ++ rest)) : fk_V E M K n w pc lv st := by
  obtain ⟨p, l, e, s, m, args, below, meth, c, Q, A⟩ := K
  intro F h1 h2 H locs ls hl hP hD hS
  obtain ⟨p1, p2, p3, p4, p5, p6, p7⟩ := hpl
  have hPc := fk_subP hP p1
  have hDc := hD.sub is p3 p1
  have hPre : PreS s H (fk_Pre E As wc H.size) As := fk_pre hPc F.2.2.2.2.2.1 hDc F.2.2.2.2.2.2.2
  have hG := fk_goodC hY.1
  have hin := F.2.2.2.2.1
  have hrun : va_Run p l e M.2.2.2 s m args below meth c H locs n.1 n.2 mc ms (F0 m pc ls st) rest _ _ := va_runS ⟨F.1, F.2.1, F.2.2.1, F.2.2.2.1, hin⟩ (hC l H.size) ⟨callB_of As.length hin hG rfl rfl rfl (hin _ hY.2.1) (hin _ hL) ⟨hY.2.2.1, hY.2.2.2.1, hY.2.2.2.2⟩ hR, hin _ hs⟩ hPre rfl rfl hl.1 hst (lv_room hrm) dc hf
  exact fk_core hrun F.2.2.2.2.2.2.1 hP hD hS p1 p2 p4 p5 p6 p7 (fun u hu H1 locs1 hP1 hD1 hS1 => kk u hu F hf.1 hf.2 H1 locs1 ls hl hP1 hD1 hS1)
theorem fk_callSN (hC : fk_C E y cc nL ret d mc ms As wc r post w1) (dc : decode M.1 pc = .ok (.invokestatic index, 3)) (hY : fk_Y y cc nL ret As.length) (hL : Cond.methodLinkNest M.2.1 index y host ∈ fk_N) (hs : Cond.static y ∈ fk_G) (hR : d + 1 ≤ M.2.2.2.frames ∧ 8 + (nL + 11) + 40 * d ≤ M.2.2.2.locals) (hst : st = As.reverse ++ rest) (hrm : (rest.map fun v => v.category).sum ≤ 8) (hf : n.1 + mc ≤ M.2.2.2.cells ∧ n.2 + ms ≤ M.2.2.2.slots) (hpl : fk_Pl w wc wr w1 w2 is ir ip) (kk : ∀ u, post u → fk_V E M K (n.1 + mc, n.2 + ms) (w2 u) (pc + 3) lv ((r u).toList ++ rest)) : fk_V E M K n w pc lv st := by
  obtain ⟨p, l, e, s, m, args, below, meth, c, Q, A⟩ := K
  intro F h1 h2 H locs ls hl hP hD hS
  obtain ⟨p1, p2, p3, p4, p5, p6, p7⟩ := hpl
  have hPc := fk_subP hP p1
  have hDc := hD.sub is p3 p1
  have hPre : PreS s H (fk_Pre E As wc H.size) As := fk_pre hPc F.2.2.2.2.2.1 hDc F.2.2.2.2.2.2.2
  have hG := fk_goodC hY.1
  have hin := F.2.2.2.2.1
  have hrun : va_Run p l e M.2.2.2 s m args below meth c H locs n.1 n.2 mc ms (F0 m pc ls st) rest _ _ := va_runSN ⟨F.1, F.2.1, F.2.2.1, F.2.2.2.1, hin⟩ (hC l H.size) ⟨va_cnB As.length hin hG rfl rfl rfl (F.2.2.2.2.2.2.2 _ hL) (hin _ hY.2.1) ⟨hY.2.2.1, hY.2.2.2.1, hY.2.2.2.2⟩ hR, hin _ hs, trivial⟩ hPre rfl rfl hl.1 hst (lv_room hrm) dc hf
  exact fk_core hrun F.2.2.2.2.2.2.1 hP hD hS p1 p2 p4 p5 p6 p7 (fun u hu H1 locs1 hP1 hD1 hS1 => kk u hu F hf.1 hf.2 H1 locs1 ls hl hP1 hD1 hS1)
theorem fk_callV (hC : fk_C E y cc nL ret d mc ms (.ref b :: As) wc r post w1) (dc : decode M.1 pc = .ok (.invokevirtual index, 3)) (hY : fk_Y y cc nL ret As.length) (hL : Cond.methodLink M.2.1 index y ∈ fk_G) {q0 ci : Nat} {fs : List Value} {C : String} {T : u_T} {N : Nat} (hb : w[q0]? = some (b, .inr (ci, fs))) (hc : fk_cl[ci]? = some (C, T, N)) (hi : Cond.instanceMethod y ∈ fk_G) (hs : Cond.selects C y y ∈ fk_G) (hR : d + 1 ≤ M.2.2.2.frames ∧ 8 + (nL + 11) + 40 * d ≤ M.2.2.2.locals) (hst : st = As.reverse ++ .ref b :: rest) (hrm : (rest.map fun v => v.category).sum ≤ 8) (hf : n.1 + mc ≤ M.2.2.2.cells ∧ n.2 + ms ≤ M.2.2.2.slots) (hpl : fk_Pl w wc wr w1 w2 is ir ip) (kk : ∀ u, post u → fk_V E M K (n.1 + mc, n.2 + ms) (w2 u) (pc + 3) lv ((r u).toList ++ rest)) : fk_V E M K n w pc lv st := by
  obtain ⟨p, l, e, s, m, args, below, meth, c, Q, A⟩ := K
  intro F h1 h2 H locs ls hl hP hD hS
  obtain ⟨p1, p2, p3, p4, p5, p6, p7⟩ := hpl
  have hPc := fk_subP hP p1
  have hDc := hD.sub is p3 p1
  have hPre : PreS s H (fk_Pre E (.ref b :: As) wc H.size) (.ref b :: As) := fk_pre hPc F.2.2.2.2.2.1 hDc F.2.2.2.2.2.2.2
  have hG := fk_goodC hY.1
  have hin := F.2.2.2.2.1
  have hrun : va_Run p l e M.2.2.2 s m args below meth c H locs n.1 n.2 mc ms (F0 m pc ls st) rest _ _ := va_runV (C := C) ⟨F.1, F.2.1, F.2.2.1, F.2.2.2.1, hin⟩ (hC l H.size) ⟨callB_of As.length hin hG rfl rfl rfl (hin _ hY.2.1) (hin _ hL) ⟨hY.2.2.1, hY.2.2.2.1, hY.2.2.2.2⟩ hR, hin _ hi, hin _ hs⟩ ⟨hPre.1, va_recv F.2.2.2.2.2.1 hP hc hb, hPre.2⟩ rfl rfl hl.1 hst (lv_room hrm) dc hf
  exact fk_core hrun F.2.2.2.2.2.2.1 hP hD hS p1 p2 p4 p5 p6 p7 (fun u hu H1 locs1 hP1 hD1 hS1 => kk u hu F hf.1 hf.2 H1 locs1 ls hl hP1 hD1 hS1)
theorem fk_callVN (hC : fk_C E y cc nL ret d mc ms (.ref b :: As) wc r post w1) (dc : decode M.1 pc = .ok (.invokevirtual index, 3)) (hY : fk_Y y cc nL ret As.length) (hL : Cond.methodLinkNest M.2.1 index y host ∈ fk_N) {q0 ci : Nat} {fs : List Value} {C : String} {T : u_T} {N : Nat} (hb : w[q0]? = some (b, .inr (ci, fs))) (hc : fk_cl[ci]? = some (C, T, N)) (hi : Cond.instanceMethod y ∈ fk_G) (hs : Cond.selects C y y ∈ fk_G) (hR : d + 1 ≤ M.2.2.2.frames ∧ 8 + (nL + 11) + 40 * d ≤ M.2.2.2.locals) (hst : st = As.reverse ++ .ref b :: rest) (hrm : (rest.map fun v => v.category).sum ≤ 8) (hf : n.1 + mc ≤ M.2.2.2.cells ∧ n.2 + ms ≤ M.2.2.2.slots) (hpl : fk_Pl w wc wr w1 w2 is ir ip) (kk : ∀ u, post u → fk_V E M K (n.1 + mc, n.2 + ms) (w2 u) (pc + 3) lv ((r u).toList ++ rest)) : fk_V E M K n w pc lv st := by
  obtain ⟨p, l, e, s, m, args, below, meth, c, Q, A⟩ := K
  intro F h1 h2 H locs ls hl hP hD hS
  obtain ⟨p1, p2, p3, p4, p5, p6, p7⟩ := hpl
  have hPc := fk_subP hP p1
  have hDc := hD.sub is p3 p1
  have hPre : PreS s H (fk_Pre E (.ref b :: As) wc H.size) (.ref b :: As) := fk_pre hPc F.2.2.2.2.2.1 hDc F.2.2.2.2.2.2.2
  have hG := fk_goodC hY.1
  have hin := F.2.2.2.2.1
  have hrun : va_Run p l e M.2.2.2 s m args below meth c H locs n.1 n.2 mc ms (F0 m pc ls st) rest _ _ := va_runVN (C := C) ⟨F.1, F.2.1, F.2.2.1, F.2.2.2.1, hin⟩ (hC l H.size) ⟨va_cnB As.length hin hG rfl rfl rfl (F.2.2.2.2.2.2.2 _ hL) (hin _ hY.2.1) ⟨hY.2.2.1, hY.2.2.2.1, hY.2.2.2.2⟩ hR, hin _ hi, hin _ hs⟩ ⟨hPre.1, va_recv F.2.2.2.2.2.1 hP hc hb, hPre.2⟩ rfl rfl hl.1 hst (lv_room hrm) dc hf
  exact fk_core hrun F.2.2.2.2.2.2.1 hP hD hS p1 p2 p4 p5 p6 p7 (fun u hu H1 locs1 hP1 hD1 hS1 => kk u hu F hf.1 hf.2 H1 locs1 ls hl hP1 hD1 hS1)
end FKD
section FKI
variable {E : fk_E} {M : fk_M} {K : fk_K} {n : Nat × Nat} {w : va_W} {pc : Nat} {lv : List (Nat × Value)} {st : List Value}
variable {y : MethodName} {cc : ByteArray} {nL d mc ms index : Nat} {As rest : List Value} {wc wr : va_W} {S : Type} {r : S → Option Value} {post : S → Prop} {w1 w2 : S → va_W} {is ir ip : List Nat} {b : Nat} {host : String}
theorem fk_callI (hC : fk_C E y cc nL none d mc ms (.ref b :: As) wc r post w1) (dc : decode M.1 pc = .ok (.invokespecial index, 3)) (hY : fk_Y y cc nL none As.length) (hL : Cond.methodLink M.2.1 index y ∈ fk_G) (hnm : y.name = "<init>") (hi : Cond.instanceMethod y ∈ fk_G) (hR : d + 1 ≤ M.2.2.2.frames ∧ 8 + (nL + 11) + 40 * d ≤ M.2.2.2.locals) (hst : st = As.reverse ++ .ref b :: rest) (hrm : (rest.map fun v => v.category).sum ≤ 8) (hf : n.1 + mc ≤ M.2.2.2.cells ∧ n.2 + ms ≤ M.2.2.2.slots) (hpl : fk_Pl w wc wr w1 w2 is ir ip) (kk : ∀ u, post u → fk_V E M K (n.1 + mc, n.2 + ms) (w2 u) (pc + 3) lv ((r u).toList ++ rest)) : fk_V E M K n w pc lv st := by
  obtain ⟨p, l, e, s, m, args, below, meth, c, Q, A⟩ := K
  intro F h1 h2 H locs ls hl hP hD hS
  obtain ⟨p1, p2, p3, p4, p5, p6, p7⟩ := hpl
  have hPc := fk_subP hP p1
  have hDc := hD.sub is p3 p1
  have hPre : PreS s H (fk_Pre E (.ref b :: As) wc H.size) (.ref b :: As) := fk_pre hPc F.2.2.2.2.2.1 hDc F.2.2.2.2.2.2.2
  have hG := fk_goodC hY.1
  have hin := F.2.2.2.2.1
  have hrun : va_Run p l e M.2.2.2 s m args below meth c H locs n.1 n.2 mc ms (F0 m pc ls st) rest _ _ := va_runI ⟨F.1, F.2.1, F.2.2.1, F.2.2.2.1, hin⟩ (hC l H.size) ⟨callB_of As.length hin hG rfl rfl rfl (hin _ hY.2.1) (hin _ hL) ⟨hY.2.2.1, hY.2.2.2.1, hY.2.2.2.2⟩ hR, hnm, hin _ hi⟩ hPre rfl rfl hl.1 hst (lv_room hrm) dc hf
  exact fk_core hrun F.2.2.2.2.2.2.1 hP hD hS p1 p2 p4 p5 p6 p7 (fun u hu H1 locs1 hP1 hD1 hS1 => kk u hu F hf.1 hf.2 H1 locs1 ls hl hP1 hD1 hS1)
end FKI
theorem fk_enterI {E : fk_E} {y : MethodName} {cc : ByteArray} {nL d mc ms : Nat} {as : List Value} {w : va_W} {S : Type} {v : S → Int32} {post : S → Prop} {w' : S → va_W} {lv0 : List (Nat × Value)} (hy : plainName y.cls = true) (hlen : (lg_sl as).length ≤ nL) (hlv : lv_args 0 as = lv0)
    (body : ∀ K : fk_K, (y.name = "<init>" → fk_isInit K) → (∀ (n : Nat × Nat) (w : va_W) (pc : Nat) (lv : List (Nat × Value)) (u : S), decode cc pc = .ok (.ireturn, 1) → post u → w = w' u → fk_V E (cc, y.cls, nL, fk_rm d mc ms) K n w pc lv [.int (v u)]) → fk_V E (cc, y.cls, nL, fk_rm d mc ms) K (0, 0) w 0 lv0 []) :
    fk_C E y cc nL (some .int) d mc ms as w (fun u => some (.int (v u))) post w' := by
  intro l sz
  refine Met.ofW (cc := cc) (maxL := nL) (ret := (some .int)) hy rfl ?_
  intro p e s m args below meth c s₁ B hml hv
  obtain ⟨rfl, hsz, hP, hK, hD0, hN⟩ := hv
  subst hsz
  have hts := atoms_spec (ws := Cond.code y cc nL (some .int) :: fk_G) B.pre
  have hown : s.vm.findClass y.cls = some m.cls := findClass_of_methodNamed B.named
  have hlocks := B.notSynchronized
  have hD := hD0.self (sz := s.heap.size)
  have hl := lv_entry as (n := nL) hlen
  rw [hlv] at hl
  rw [lg_entry_eq]
  refine body (p, l, e, s, m, as.toArray, below, meth, c, MQ below (fk_Q (fun u => some (.int (v u))) post (fun u => fk_B E (va_A w s.heap.size) (w' u)) (va_A w s.heap.size)) as.toArray s mc ms (va_A w s.heap.size), va_A w s.heap.size) (fun h => by show meth.name = "<init>"; rw [← h]; exact (name_of_methodNamed B.named B.method).1) ?_ ⟨B.exec, B.bytes, hml, hown, fun q hq => hts q (List.mem_cons_of_mem _ hq), hK, fun q hq => Or.inr hq, hN⟩ (Nat.zero_le _) (Nat.zero_le _) s.heap [] _ hl hP hD va_S.rf
  intro n w9 pc lv u hdg hu hw F h1 h2 H locs ls hl hP hD hS
  subst hw
  refine W.widen (k := mc) (n := ms) h1 h2 ?_
  exact W.iret F.1 F.2.1 B.returns (fun t ht hW => ⟨⟨u, rfl, hu, by rw [ht]; exact hP, va_K.moved hW.alike F.2.2.2.2.2.1, hD⟩, hS.F ht⟩) hS.2.2 hdg
theorem fk_enterZ {E : fk_E} {y : MethodName} {cc : ByteArray} {nL d mc ms : Nat} {as : List Value} {w : va_W} {S : Type} {v : S → Bool} {post : S → Prop} {w' : S → va_W} {lv0 : List (Nat × Value)} (hy : plainName y.cls = true) (hlen : (lg_sl as).length ≤ nL) (hlv : lv_args 0 as = lv0)
    (body : ∀ K : fk_K, (y.name = "<init>" → fk_isInit K) → (∀ (n : Nat × Nat) (w : va_W) (pc : Nat) (lv : List (Nat × Value)) (u : S), decode cc pc = .ok (.ireturn, 1) → post u → w = w' u → fk_V E (cc, y.cls, nL, fk_rm d mc ms) K n w pc lv [.int (nI (v u).toNat)]) → fk_V E (cc, y.cls, nL, fk_rm d mc ms) K (0, 0) w 0 lv0 []) :
    fk_C E y cc nL (some .boolean) d mc ms as w (fun u => some (.int (nI (v u).toNat))) post w' := by
  intro l sz
  refine Met.ofW (cc := cc) (maxL := nL) (ret := (some .boolean)) hy rfl ?_
  intro p e s m args below meth c s₁ B hml hv
  obtain ⟨rfl, hsz, hP, hK, hD0, hN⟩ := hv
  subst hsz
  have hts := atoms_spec (ws := Cond.code y cc nL (some .boolean) :: fk_G) B.pre
  have hown : s.vm.findClass y.cls = some m.cls := findClass_of_methodNamed B.named
  have hlocks := B.notSynchronized
  have hD := hD0.self (sz := s.heap.size)
  have hl := lv_entry as (n := nL) hlen
  rw [hlv] at hl
  rw [lg_entry_eq]
  refine body (p, l, e, s, m, as.toArray, below, meth, c, MQ below (fk_Q (fun u => some (.int (nI (v u).toNat))) post (fun u => fk_B E (va_A w s.heap.size) (w' u)) (va_A w s.heap.size)) as.toArray s mc ms (va_A w s.heap.size), va_A w s.heap.size) (fun h => by show meth.name = "<init>"; rw [← h]; exact (name_of_methodNamed B.named B.method).1) ?_ ⟨B.exec, B.bytes, hml, hown, fun q hq => hts q (List.mem_cons_of_mem _ hq), hK, fun q hq => Or.inr hq, hN⟩ (Nat.zero_le _) (Nat.zero_le _) s.heap [] _ hl hP hD va_S.rf
  intro n w9 pc lv u hdg hu hw F h1 h2 H locs ls hl hP hD hS
  subst hw
  refine W.widen (k := mc) (n := ms) h1 h2 ?_
  exact W.zret F.1 F.2.1 B.returns (by cases v u <;> rfl) (fun t ht hW => ⟨⟨u, rfl, hu, by rw [ht]; exact hP, va_K.moved hW.alike F.2.2.2.2.2.1, hD⟩, hS.F ht⟩) hS.2.2 hdg
theorem fk_enterL {E : fk_E} {y : MethodName} {cc : ByteArray} {nL d mc ms : Nat} {as : List Value} {w : va_W} {S : Type} {v : S → Int64} {post : S → Prop} {w' : S → va_W} {lv0 : List (Nat × Value)} (hy : plainName y.cls = true) (hlen : (lg_sl as).length ≤ nL) (hlv : lv_args 0 as = lv0)
    (body : ∀ K : fk_K, (y.name = "<init>" → fk_isInit K) → (∀ (n : Nat × Nat) (w : va_W) (pc : Nat) (lv : List (Nat × Value)) (u : S), decode cc pc = .ok (.lreturn, 1) → post u → w = w' u → fk_V E (cc, y.cls, nL, fk_rm d mc ms) K n w pc lv [.long (v u)]) → fk_V E (cc, y.cls, nL, fk_rm d mc ms) K (0, 0) w 0 lv0 []) :
    fk_C E y cc nL (some .long) d mc ms as w (fun u => some (.long (v u))) post w' := by
  intro l sz
  refine Met.ofW (cc := cc) (maxL := nL) (ret := (some .long)) hy rfl ?_
  intro p e s m args below meth c s₁ B hml hv
  obtain ⟨rfl, hsz, hP, hK, hD0, hN⟩ := hv
  subst hsz
  have hts := atoms_spec (ws := Cond.code y cc nL (some .long) :: fk_G) B.pre
  have hown : s.vm.findClass y.cls = some m.cls := findClass_of_methodNamed B.named
  have hlocks := B.notSynchronized
  have hD := hD0.self (sz := s.heap.size)
  have hl := lv_entry as (n := nL) hlen
  rw [hlv] at hl
  rw [lg_entry_eq]
  refine body (p, l, e, s, m, as.toArray, below, meth, c, MQ below (fk_Q (fun u => some (.long (v u))) post (fun u => fk_B E (va_A w s.heap.size) (w' u)) (va_A w s.heap.size)) as.toArray s mc ms (va_A w s.heap.size), va_A w s.heap.size) (fun h => by show meth.name = "<init>"; rw [← h]; exact (name_of_methodNamed B.named B.method).1) ?_ ⟨B.exec, B.bytes, hml, hown, fun q hq => hts q (List.mem_cons_of_mem _ hq), hK, fun q hq => Or.inr hq, hN⟩ (Nat.zero_le _) (Nat.zero_le _) s.heap [] _ hl hP hD va_S.rf
  intro n w9 pc lv u hdg hu hw F h1 h2 H locs ls hl hP hD hS
  subst hw
  refine W.widen (k := mc) (n := ms) h1 h2 ?_
  exact W.lret F.1 F.2.1 B.returns (fun t ht hW => ⟨⟨u, rfl, hu, by rw [ht]; exact hP, va_K.moved hW.alike F.2.2.2.2.2.1, hD⟩, hS.F ht⟩) hS.2.2 hdg
theorem fk_enterV {E : fk_E} {y : MethodName} {cc : ByteArray} {nL d mc ms : Nat} {as : List Value} {w : va_W} {S : Type} {post : S → Prop} {w' : S → va_W} {lv0 : List (Nat × Value)} (hy : plainName y.cls = true) (hlen : (lg_sl as).length ≤ nL) (hlv : lv_args 0 as = lv0)
    (body : ∀ K : fk_K, (y.name = "<init>" → fk_isInit K) → (∀ (n : Nat × Nat) (w : va_W) (pc : Nat) (lv : List (Nat × Value)) (u : S), decode cc pc = .ok (.return_, 1) → post u → w = w' u → fk_V E (cc, y.cls, nL, fk_rm d mc ms) K n w pc lv []) → fk_V E (cc, y.cls, nL, fk_rm d mc ms) K (0, 0) w 0 lv0 []) :
    fk_C E y cc nL none d mc ms as w (fun _ => none) post w' := by
  intro l sz
  refine Met.ofW (cc := cc) (maxL := nL) (ret := none) hy rfl ?_
  intro p e s m args below meth c s₁ B hml hv
  obtain ⟨rfl, hsz, hP, hK, hD0, hN⟩ := hv
  subst hsz
  have hts := atoms_spec (ws := Cond.code y cc nL none :: fk_G) B.pre
  have hown : s.vm.findClass y.cls = some m.cls := findClass_of_methodNamed B.named
  have hlocks := B.notSynchronized
  have hD := hD0.self (sz := s.heap.size)
  have hl := lv_entry as (n := nL) hlen
  rw [hlv] at hl
  rw [lg_entry_eq]
  refine body (p, l, e, s, m, as.toArray, below, meth, c, MQ below (fk_Q (fun _ => none) post (fun u => fk_B E (va_A w s.heap.size) (w' u)) (va_A w s.heap.size)) as.toArray s mc ms (va_A w s.heap.size), va_A w s.heap.size) (fun h => by show meth.name = "<init>"; rw [← h]; exact (name_of_methodNamed B.named B.method).1) ?_ ⟨B.exec, B.bytes, hml, hown, fun q hq => hts q (List.mem_cons_of_mem _ hq), hK, fun q hq => Or.inr hq, hN⟩ (Nat.zero_le _) (Nat.zero_le _) s.heap [] _ hl hP hD va_S.rf
  intro n w9 pc lv u hdg hu hw F h1 h2 H locs ls hl hP hD hS
  subst hw
  refine W.widen (k := mc) (n := ms) h1 h2 ?_
  exact W.vret F.1 F.2.1 B.returns (fun t ht hW => ⟨⟨u, rfl, hu, by rw [ht]; exact hP, va_K.moved hW.alike F.2.2.2.2.2.1, hD⟩, hS.F ht⟩) hS.2.2 hdg
theorem fk_enterA {E : fk_E} {y : MethodName} {cc : ByteArray} {nL d mc ms : Nat} {as : List Value} {w : va_W} {S : Type} {v : S → Value} {C : String} {post : S → Prop} {w' : S → va_W} {lv0 : List (Nat × Value)} (hv9 : ∀ u, v u = .null ∨ ∃ a, v u = .ref a) (hy : plainName y.cls = true) (hlen : (lg_sl as).length ≤ nL) (hlv : lv_args 0 as = lv0)
    (body : ∀ K : fk_K, (y.name = "<init>" → fk_isInit K) → (∀ (n : Nat × Nat) (w : va_W) (pc : Nat) (lv : List (Nat × Value)) (u : S), decode cc pc = .ok (.areturn, 1) → post u → w = w' u → fk_V E (cc, y.cls, nL, fk_rm d mc ms) K n w pc lv [v u]) → fk_V E (cc, y.cls, nL, fk_rm d mc ms) K (0, 0) w 0 lv0 []) :
    fk_C E y cc nL (some (.object C)) d mc ms as w (fun u => some (v u)) post w' := by
  intro l sz
  refine Met.ofW (cc := cc) (maxL := nL) (ret := (some (.object C))) hy rfl ?_
  intro p e s m args below meth c s₁ B hml hv
  obtain ⟨rfl, hsz, hP, hK, hD0, hN⟩ := hv
  subst hsz
  have hts := atoms_spec (ws := Cond.code y cc nL (some (.object C)) :: fk_G) B.pre
  have hown : s.vm.findClass y.cls = some m.cls := findClass_of_methodNamed B.named
  have hlocks := B.notSynchronized
  have hD := hD0.self (sz := s.heap.size)
  have hl := lv_entry as (n := nL) hlen
  rw [hlv] at hl
  rw [lg_entry_eq]
  refine body (p, l, e, s, m, as.toArray, below, meth, c, MQ below (fk_Q (fun u => some (v u)) post (fun u => fk_B E (va_A w s.heap.size) (w' u)) (va_A w s.heap.size)) as.toArray s mc ms (va_A w s.heap.size), va_A w s.heap.size) (fun h => by show meth.name = "<init>"; rw [← h]; exact (name_of_methodNamed B.named B.method).1) ?_ ⟨B.exec, B.bytes, hml, hown, fun q hq => hts q (List.mem_cons_of_mem _ hq), hK, fun q hq => Or.inr hq, hN⟩ (Nat.zero_le _) (Nat.zero_le _) s.heap [] _ hl hP hD va_S.rf
  intro n w9 pc lv u hdg hu hw F h1 h2 H locs ls hl hP hD hS
  subst hw
  refine W.widen (k := mc) (n := ms) h1 h2 ?_
  exact W.aret F.1 F.2.1 B.returns (Or.inl ⟨_, rfl⟩) (hv9 u) (fun t ht hW => ⟨⟨u, rfl, hu, by rw [ht]; exact hP, va_K.moved hW.alike F.2.2.2.2.2.1, hD⟩, hS.F ht⟩) hS.2.2 hdg
