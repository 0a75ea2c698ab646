theorem lw_nest {args : Array Value} {s : State} (hts : ∀ w ∈ lw_tbl, w.before args s = true) : ∀ w ∈ fk_N, va_Nw w s := by
  intro w hw
  have h1 := (List.mem_filter.mp hw).2
  have h := hts w (List.mem_filter.mp hw).1
  cases w <;> first | exact va_Nw.of rfl h | (simp [fk_isN] at h1)
theorem lw_env {args : Array Value} {s : State} (hG : ∀ w ∈ fk_G, w.before args s = true) : ∃ E : fk_E, va_K E.1 fk_cl (fk_ty E) s := by
  obtain ⟨k0, i0, K0⟩ := u_known (T := fF_F) (N := 6) hG fh_F (hG _ fw_11)
  obtain ⟨k1, i1, K1⟩ := u_known (T := fF_Lg) (N := 4) hG fh_Lg (hG _ fw_19)
  obtain ⟨k2, i2, K2⟩ := u_known (T := fF_Nt) (N := 9) hG fh_Nt (hG _ fw_39)
  obtain ⟨k3, i3, K3⟩ := u_known (T := fF_Mi) (N := 5) hG fh_Mi (hG _ fw_74)
  obtain ⟨k4, i4, K4⟩ := u_known (T := fF_Re) (N := 6) hG fh_Re (hG _ fw_97)
  obtain ⟨k5, i5, K5⟩ := u_known (T := fF_Pl) (N := 2) hG fh_Pl (hG _ fw_122)
  obtain ⟨k6, i6, K6⟩ := u_known (T := fF_Md) (N := 19) hG fh_Md (hG _ fw_502)
  obtain ⟨t0, A0, R0⟩ := fk_acls (ty := .int) rfl (hG _ fw_37)
  obtain ⟨t1, A1, R1⟩ := fk_acls (ty := .long) rfl (hG _ fw_72)
  obtain ⟨t2, A2, R2⟩ := fk_acls (ty := .boolean) rfl (hG _ fw_95)
  obtain ⟨t3, A3, R3⟩ := fk_acls (ty := .byte) rfl (hG _ fw_565)
  obtain ⟨t4, A4, R4⟩ := fk_acls (ty := .short) rfl (hG _ fw_566)
  refine ⟨((fun k => match k with | 0 => k0 | 1 => k1 | 2 => k2 | 3 => k3 | 4 => k4 | 5 => k5 | _ => k6, fun k => match k with | 0 => i0 | 1 => i1 | 2 => i2 | 3 => i3 | 4 => i4 | 5 => i5 | _ => i6), fun k => match k with | 0 => t0 | 1 => t1 | 2 => t2 | 3 => t3 | _ => t4), ?_, ?_⟩
  · intro c q hq
    rcases c with _ | _ | _ | _ | _ | _ | _ | c
    · have e : ((fR_F, fF_F, 6) : vw_C) = q := Option.some.inj hq
      subst e
      exact K0
    · have e : ((fR_Lg, fF_Lg, 4) : vw_C) = q := Option.some.inj hq
      subst e
      exact K1
    · have e : ((fR_Nt, fF_Nt, 9) : vw_C) = q := Option.some.inj hq
      subst e
      exact K2
    · have e : ((fR_Mi, fF_Mi, 5) : vw_C) = q := Option.some.inj hq
      subst e
      exact K3
    · have e : ((fR_Re, fF_Re, 6) : vw_C) = q := Option.some.inj hq
      subst e
      exact K4
    · have e : ((fR_Pl, fF_Pl, 2) : vw_C) = q := Option.some.inj hq
      subst e
      exact K5
    · have e : ((fR_Md, fF_Md, 19) : vw_C) = q := Option.some.inj hq
      subst e
      exact K6
    · have e : (none : Option vw_C) = some q := hq
      cases e
  · intro c q hq
    rcases c with _ | _ | _ | _ | _ | c
    · have e : ((t0, .int) : ClassId × FieldType) = q := Option.some.inj hq
      subst e
      exact ⟨A0, R0⟩
    · have e : ((t1, .long) : ClassId × FieldType) = q := Option.some.inj hq
      subst e
      exact ⟨A1, R1⟩
    · have e : ((t2, .boolean) : ClassId × FieldType) = q := Option.some.inj hq
      subst e
      exact ⟨A2, R2⟩
    · have e : ((t3, .byte) : ClassId × FieldType) = q := Option.some.inj hq
      subst e
      exact ⟨A3, R3⟩
    · have e : ((t4, .short) : ClassId × FieldType) = q := Option.some.inj hq
      subst e
      exact ⟨A4, R4⟩
    · have e : (none : Option (ClassId × FieldType)) = some q := hq
      cases e
