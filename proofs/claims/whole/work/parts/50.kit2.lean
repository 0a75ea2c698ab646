/-! making objects and arrays; the script; array classes -/
theorem fk_acls {args : Array Value} {s : State} {ty : FieldType} (hp : va_RA s 0 ty = (s.vm.findClass ("[" ++ ty.toString) = some 0)) (h : (Cond.arrayClass ty).before args s = true) : ∃ cA : ClassId, ArrOfT s cA ty ∧ s.vm.findClass ("[" ++ ty.toString) = some cA := by
  obtain ⟨cA, kA, comp, h1, h2, h3⟩ := Cond.arrayClass_spec h
  exact ⟨cA, fun n z => ⟨fun k h => (by cases h), kA, h2, comp, h3⟩, h1⟩
section FK2
variable {E : fk_E} {M : fk_M} {K : fk_K} {n : Nat × Nat} {w : va_W} {pc : Nat} {lv : List (Nat × Value)} {st : List Value}
theorem fk_objInit {a idx : Nat} (d : decode M.1 pc = .ok (.invokespecial idx, 3)) (hl0 : Cond.methodLink M.2.1 idx Lib.objectInit ∈ fk_G) (hi : Cond.instanceMethod Lib.objectInit ∈ fk_G) (hcode : Cond.code Lib.objectInit ⟨#[0xb1]⟩ 1 none ∈ fk_G) (hf : 1 ≤ M.2.2.2.frames) (hr : (st.map fun v => v.category).sum + 12 ≤ M.2.2.2.locals) (kk : fk_V E M K n w (pc + 3) lv st) : fk_V E M K n w pc lv (.ref a :: st) := by
  obtain ⟨p, l, e, s, m, args, below, meth, c, Q, A⟩ := K
  intro F h1 h2 H locs ls hl hP hD hS
  refine W.objInit F.1 F.2.1 F.2.2.2.1 (F.2.2.2.2.1 _ hl0) (F.2.2.2.2.1 _ hi) (F.2.2.2.2.1 _ hcode) rfl (by rw [F.2.2.1]; exact hl.1) rfl d hf (by show 2 * 0 + _ + 12 ≤ _; omega) ?_
  exact W.eq (g2 := F0 m (pc + 3) ls st) rfl (kk F h1 h2 H locs ls hl hP hD hS)
theorem fk_new {ci index N : Nat} {C : String} {T : u_T} {fs : List Value} (ty0 : Nat → FieldType) (hty : ∀ k, k < N → parseFieldDescriptor (T k).2.2.1 = some (ty0 k)) (hc : fk_cl[ci]? = some (C, T, N)) (hin : ∀ x ∈ u_ws C T N, x ∈ fk_G) (hcl : Cond.classLink M.2.1 index C ∈ fk_G) (hinst : Cond.instantiable C N ∈ fk_G) (hini : Cond.initialized C ∈ fk_G) (hfs : ∀ j, j < N → defaultValue (ty0 j) = vp_V fs j) (hcells : n.1 + 1 ≤ M.2.2.2.cells) (hslots : n.2 + N ≤ M.2.2.2.slots) (d : decode M.1 pc = .ok (.new index, 3))
    (kk : ∀ q : Nat, fk_V E M K (n.1 + 1, n.2 + N) (w ++ [(q, .inr (ci, fs))]) (pc + 3) lv (.ref q :: st)) : fk_V E M K n w pc lv st := by
  obtain ⟨p, l, e, s, m, args, below, meth, c, Q, A⟩ := K
  intro F h1 h2 H locs ls hl hP hD hS
  exact va_new F.1 F.2.1 F.2.2.2.2.1 hin ty0 hty F.2.2.2.1 (F.2.2.2.2.1 _ hcl) (F.2.2.2.2.1 _ hinst) (F.2.2.2.2.1 _ hini) F.2.2.2.2.2.1 hP hD hS F.2.2.2.2.2.2.1 hc hfs hcells hslots d (fun q H1 hP1 hD1 hS1 => kk q F hcells hslots H1 locs ls hl hP1 hD1 hS1)
theorem fk_newR {at0 : ArrayType} {ty : FieldType} {N t0 : Nat} {a0 : vp_A} (hty : newarray.typeOf at0 = ty) (ht : (fk_ty E)[t0]? = some (E.2 t0, ty)) (hra : ∀ (U : State) (c1 c2 : ClassId), va_RA U c1 ty → va_RA U c2 ty → c1 = c2) (harr : Cond.arrayClass (newarray.typeOf at0) ∈ fk_G) (ha : ∀ cA : ClassId, vp_cell cA a0 = arrV cA N (fun _ => defaultValue ty)) (hN : N < 2 ^ 31) (hb : N * componentBytes ty ≤ 536870912) (hcells : n.1 + 1 ≤ M.2.2.2.cells) (hslots : n.2 + N ≤ M.2.2.2.slots) (d : decode M.1 pc = .ok (.newarray at0, 2))
    (kk : ∀ q : Nat, fk_V E M K (n.1 + 1, n.2 + N) (w ++ [(q, .inl (E.2 t0, a0))]) (pc + 2) lv (.ref q :: st)) : fk_V E M K n w pc lv (.int (nI N) :: st) := by
  obtain ⟨p, l, e, s, m, args, below, meth, c, Q, A⟩ := K
  intro F h1 h2 H locs ls hl hP hD hS
  refine va_newa F.1 F.2.1 (F.2.2.2.2.1 _ harr) hty F.2.2.2.2.2.1 hP hD hS F.2.2.2.2.2.2.1 ha (nI_pos hN) (nI_clamp hN) hb hcells hslots d (fun q cA H1 hK1 hP1 hD1 hS1 => ?_)
  have e1 : cA = E.2 t0 := hra s _ _ (hK1.2 5 (cA, ty) rfl).2 (F.2.2.2.2.2.1.2 t0 _ ht).2
  subst e1
  exact kk q F hcells hslots H1 locs ls hl hP1 hD1 hS1
theorem fk_cell0 {cA : ClassId} {N : Nat} {v : Value} {g : Nat → Value} (h : ∀ k, g k = v) : arrV cA N g = arrV cA N (fun _ => v) := by rw [show g = fun _ => v from funext h]
theorem fk_new_ai {N : Nat} (harr : Cond.arrayClass .int ∈ fk_G) (hN : N < 2 ^ 31) (hb : N * componentBytes .int ≤ 536870912) (hcells : n.1 + 1 ≤ M.2.2.2.cells) (hslots : n.2 + N ≤ M.2.2.2.slots) (d : decode M.1 pc = .ok (.newarray .int, 2)) (kk : ∀ q : Nat, fk_V E M K (n.1 + 1, n.2 + N) (w ++ [fk_ai E q N (fun _ => 0)]) (pc + 2) lv (.ref q :: st)) : fk_V E M K n w pc lv (.int (nI N) :: st) :=
  fk_newR (at0 := .int) (ty := .int) (a0 := (N, .inl (fun _ => nI 0))) (t0 := 0) rfl rfl (fun U c1 c2 (h1 : U.vm.findClass ("[" ++ FieldType.int.toString) = some c1) (h2 : U.vm.findClass ("[" ++ FieldType.int.toString) = some c2) => Option.some.inj (h1.symm.trans h2)) harr (fun cA => by show arrV cA N (fun _ => Value.int (nI 0)) = arrV cA N (fun _ => Value.int 0); rw [nI_0]) hN hb hcells hslots d kk
theorem fk_new_aj {N : Nat} (harr : Cond.arrayClass .int ∈ fk_G) (hN : N < 2 ^ 31) (hb : N * componentBytes .int ≤ 536870912) (hcells : n.1 + 1 ≤ M.2.2.2.cells) (hslots : n.2 + N ≤ M.2.2.2.slots) (d : decode M.1 pc = .ok (.newarray .int, 2)) (kk : ∀ q : Nat, fk_V E M K (n.1 + 1, n.2 + N) (w ++ [fk_aj E q N (fun _ => 1)]) (pc + 2) lv (.ref q :: st)) : fk_V E M K n w pc lv (.int (nI N) :: st) :=
  fk_newR (at0 := .int) (ty := .int) (a0 := (N, .inl (fun _ => nI 1 - 1))) (t0 := 0) rfl rfl (fun U c1 c2 (h1 : U.vm.findClass ("[" ++ FieldType.int.toString) = some c1) (h2 : U.vm.findClass ("[" ++ FieldType.int.toString) = some c2) => Option.some.inj (h1.symm.trans h2)) harr (fun cA => by show arrV cA N (fun _ => Value.int (nI 1 - 1)) = arrV cA N (fun _ => Value.int 0); rw [show nI 1 - 1 = 0 from by decide +kernel]) hN hb hcells hslots d kk
theorem fk_new_al {N : Nat} (harr : Cond.arrayClass .long ∈ fk_G) (hN : N < 2 ^ 31) (hb : N * componentBytes .long ≤ 536870912) (hcells : n.1 + 1 ≤ M.2.2.2.cells) (hslots : n.2 + N ≤ M.2.2.2.slots) (d : decode M.1 pc = .ok (.newarray .long, 2)) (kk : ∀ q : Nat, fk_V E M K (n.1 + 1, n.2 + N) (w ++ [fk_al E q N (fun _ => 0)]) (pc + 2) lv (.ref q :: st)) : fk_V E M K n w pc lv (.int (nI N) :: st) :=
  fk_newR (at0 := .long) (ty := .long) (a0 := (N, .inr (.inl (fun _ => lN 0)))) (t0 := 1) rfl rfl (fun U c1 c2 (h1 : U.vm.findClass ("[" ++ FieldType.long.toString) = some c1) (h2 : U.vm.findClass ("[" ++ FieldType.long.toString) = some c2) => Option.some.inj (h1.symm.trans h2)) harr (fun cA => by show arrV cA N (fun _ => Value.long (lN 0)) = arrV cA N (fun _ => Value.long 0); rw [show lN 0 = 0 from by decide +kernel]) hN hb hcells hslots d kk
theorem fk_new_az {N : Nat} (harr : Cond.arrayClass .boolean ∈ fk_G) (hN : N < 2 ^ 31) (hb : N * componentBytes .boolean ≤ 536870912) (hcells : n.1 + 1 ≤ M.2.2.2.cells) (hslots : n.2 + N ≤ M.2.2.2.slots) (d : decode M.1 pc = .ok (.newarray .boolean, 2)) (kk : ∀ q : Nat, fk_V E M K (n.1 + 1, n.2 + N) (w ++ [fk_az E q N (fun _ => false)]) (pc + 2) lv (.ref q :: st)) : fk_V E M K n w pc lv (.int (nI N) :: st) :=
  fk_newR (at0 := .boolean) (ty := .boolean) (a0 := (N, .inl (fun _ => nI (Bool.toNat false)))) (t0 := 2) rfl rfl (fun U c1 c2 (h1 : U.vm.findClass ("[" ++ FieldType.boolean.toString) = some c1) (h2 : U.vm.findClass ("[" ++ FieldType.boolean.toString) = some c2) => Option.some.inj (h1.symm.trans h2)) harr (fun cA => by show arrV cA N (fun _ => Value.int (nI 0)) = arrV cA N (fun _ => Value.int 0); rw [nI_0]) hN hb hcells hslots d kk
theorem fk_new_ab {N : Nat} (harr : Cond.arrayClass .byte ∈ fk_G) (hN : N < 2 ^ 31) (hb : N * componentBytes .byte ≤ 536870912) (hcells : n.1 + 1 ≤ M.2.2.2.cells) (hslots : n.2 + N ≤ M.2.2.2.slots) (d : decode M.1 pc = .ok (.newarray .byte, 2)) (kk : ∀ q : Nat, fk_V E M K (n.1 + 1, n.2 + N) (w ++ [fk_ab E q N (fun _ => 0)]) (pc + 2) lv (.ref q :: st)) : fk_V E M K n w pc lv (.int (nI N) :: st) :=
  fk_newR (at0 := .byte) (ty := .byte) (a0 := (N, .inl (fun _ => nI 0))) (t0 := 3) rfl rfl (fun U c1 c2 (h1 : U.vm.findClass ("[" ++ FieldType.byte.toString) = some c1) (h2 : U.vm.findClass ("[" ++ FieldType.byte.toString) = some c2) => Option.some.inj (h1.symm.trans h2)) harr (fun cA => by show arrV cA N (fun _ => Value.int (nI 0)) = arrV cA N (fun _ => Value.int 0); rw [nI_0]) hN hb hcells hslots d kk
theorem fk_new_as {N : Nat} (harr : Cond.arrayClass .short ∈ fk_G) (hN : N < 2 ^ 31) (hb : N * componentBytes .short ≤ 536870912) (hcells : n.1 + 1 ≤ M.2.2.2.cells) (hslots : n.2 + N ≤ M.2.2.2.slots) (d : decode M.1 pc = .ok (.newarray .short, 2)) (kk : ∀ q : Nat, fk_V E M K (n.1 + 1, n.2 + N) (w ++ [fk_as E q N (fun _ => 1)]) (pc + 2) lv (.ref q :: st)) : fk_V E M K n w pc lv (.int (nI N) :: st) :=
  fk_newR (at0 := .short) (ty := .short) (a0 := (N, .inl (fun _ => nI 1 - 1))) (t0 := 4) rfl rfl (fun U c1 c2 (h1 : U.vm.findClass ("[" ++ FieldType.short.toString) = some c1) (h2 : U.vm.findClass ("[" ++ FieldType.short.toString) = some c2) => Option.some.inj (h1.symm.trans h2)) harr (fun cA => by show arrV cA N (fun _ => Value.int (nI 1 - 1)) = arrV cA N (fun _ => Value.int 0); rw [show nI 1 - 1 = 0 from by decide +kernel]) hN hb hcells hslots d kk
def fk_scr (K : fk_K) (b L : Nat) (xs : Nat → Int32) : Prop := match K with
  | (_, _, _, s, _, _, _, _, _, _, A) => va_X b L xs s s.heap ∧ b < s.heap.size ∧ ¬ A b
theorem fk_sld {b L i : Nat} {xs : Nat → Int32} (hX : fk_scr K b L xs) (hi : i < L) (hL : L < 2 ^ 31) (d : decode M.1 pc = .ok (.iaload, 1)) (kk : fk_V E M K n w (pc + 1) lv (.int (xs i) :: st)) : fk_V E M K n w pc lv (.int (nI i) :: .ref b :: st) := by
  obtain ⟨p, l, e, s, m, args, below, meth, c, Q, A⟩ := K
  intro F h1 h2 H locs ls hl hP hD hS
  refine va_sld F.1 F.2.1 hX.1 hX.2.1 hX.2.2 hS (vp_in_nI hi hL) d ?_
  rw [nI_clamp (show i < 2 ^ 31 by omega)]
  exact kk F h1 h2 H locs ls hl hP hD hS
theorem fk_slen {b L : Nat} {xs : Nat → Int32} (hX : fk_scr K b L xs) (d : decode M.1 pc = .ok (.arraylength, 1)) (kk : fk_V E M K n w (pc + 1) lv (.int (nI L) :: st)) : fk_V E M K n w pc lv (.ref b :: st) := by
  obtain ⟨p, l, e, s, m, args, below, meth, c, Q, A⟩ := K
  intro F h1 h2 H locs ls hl hP hD hS
  exact va_slen F.1 F.2.1 hX.1 hX.2.1 hX.2.2 hS d (kk F h1 h2 H locs ls hl hP hD hS)
end FK2
