theorem wd_33 : Cond.initialized R_Ch ∈ lw_g := wd_in (i := 33) (by decide +kernel) (by decide +kernel)
theorem wd_153 : Cond.fieldLink R_Ch 25 R_Pr "instructions" "[J" ∈ lw_g := wd_in (i := 153) (by decide +kernel) (by decide +kernel)
theorem wd_156 : Cond.fieldLink R_Ch 17 R_Pr "count" "I" ∈ lw_g := wd_in (i := 156) (by decide +kernel) (by decide +kernel)
theorem wd_171 : Cond.fieldLink R_Ch 11 R_Ch "surelyStored" "[I" ∈ lw_g := wd_in (i := 171) (by decide +kernel) (by decide +kernel)
theorem wd_363 : Cond.methodLink R_Ch 29 y_In_codeOf ∈ lw_g := wd_in (i := 363) (by decide +kernel) (by decide +kernel)
theorem wd_367 : Cond.methodLink R_Ch 43 y_In_isKnown ∈ lw_g := wd_in (i := 367) (by decide +kernel) (by decide +kernel)
theorem wd_368 : Cond.static y_In_isKnown ∈ lw_g := wd_in (i := 368) (by decide +kernel) (by decide +kernel)
theorem wd_369 : Cond.code y_In_isKnown prog_6_method_6_code 1 (Option.some Jvm.ClassFile.FieldType.boolean) ∈ lw_g := wd_in (i := 369) (by decide +kernel) (by decide +kernel)
theorem wd_382 : Cond.methodLink R_Ch 50 y_Ch_isOperandFit ∈ lw_g := wd_in (i := 382) (by decide +kernel) (by decide +kernel)
theorem wd_383 : Cond.static y_Ch_isOperandFit ∈ lw_g := wd_in (i := 383) (by decide +kernel) (by decide +kernel)
theorem wd_384 : Cond.code y_Ch_isOperandFit prog_4_method_4_code 3 (Option.some Jvm.ClassFile.FieldType.boolean) ∈ lw_g := wd_in (i := 384) (by decide +kernel) (by decide +kernel)
theorem wd_395 : Cond.methodLink R_Ch 54 y_Ch_longestSkip ∈ lw_g := wd_in (i := 395) (by decide +kernel) (by decide +kernel)
theorem wd_396 : Cond.static y_Ch_longestSkip ∈ lw_g := wd_in (i := 396) (by decide +kernel) (by decide +kernel)
theorem wd_397 : Cond.code y_Ch_longestSkip prog_4_method_5_code 5 (Option.some Jvm.ClassFile.FieldType.long) ∈ lw_g := wd_in (i := 397) (by decide +kernel) (by decide +kernel)
theorem wd_409 : Cond.methodLink R_Ch 35 y_In_endsRun ∈ lw_g := wd_in (i := 409) (by decide +kernel) (by decide +kernel)
theorem d_Ch_ownFault_0 : decode b_Ch_ownFault 0 = .ok (.aload_n 0, 1) := by decide +kernel
theorem d_Ch_ownFault_1 : decode b_Ch_ownFault 1 = .ok (.getfield 25, 3) := by decide +kernel
theorem d_Ch_ownFault_4 : decode b_Ch_ownFault 4 = .ok (.iload_n 1, 1) := by decide +kernel
theorem d_Ch_ownFault_5 : decode b_Ch_ownFault 5 = .ok (.laload, 1) := by decide +kernel
theorem d_Ch_ownFault_6 : decode b_Ch_ownFault 6 = .ok (.lstore_n 2, 1) := by decide +kernel
theorem d_Ch_ownFault_7 : decode b_Ch_ownFault 7 = .ok (.lload_n 2, 1) := by decide +kernel
theorem d_Ch_ownFault_8 : decode b_Ch_ownFault 8 = .ok (.invokestatic 29, 3) := by decide +kernel
theorem d_Ch_ownFault_11 : decode b_Ch_ownFault 11 = .ok (.istore 4, 2) := by decide +kernel
theorem d_Ch_ownFault_13 : decode b_Ch_ownFault 13 = .ok (.iload 4, 2) := by decide +kernel
theorem d_Ch_ownFault_15 : decode b_Ch_ownFault 15 = .ok (.invokestatic 43, 3) := by decide +kernel
theorem d_Ch_ownFault_18 : decode b_Ch_ownFault 18 = .ok (.ifCond .ne 5, 3) := by decide +kernel
theorem d_Ch_ownFault_21 : decode b_Ch_ownFault 21 = .ok (.iconst 2, 1) := by decide +kernel
theorem d_Ch_ownFault_22 : decode b_Ch_ownFault 22 = .ok (.ireturn, 1) := by decide +kernel
theorem d_Ch_ownFault_23 : decode b_Ch_ownFault 23 = .ok (.iload 4, 2) := by decide +kernel
theorem d_Ch_ownFault_25 : decode b_Ch_ownFault 25 = .ok (.lload_n 2, 1) := by decide +kernel
theorem d_Ch_ownFault_26 : decode b_Ch_ownFault 26 = .ok (.invokestatic 46, 3) := by decide +kernel
theorem d_Ch_ownFault_29 : decode b_Ch_ownFault 29 = .ok (.invokestatic 50, 3) := by decide +kernel
theorem d_Ch_ownFault_32 : decode b_Ch_ownFault 32 = .ok (.ifCond .ne 5, 3) := by decide +kernel
theorem d_Ch_ownFault_35 : decode b_Ch_ownFault 35 = .ok (.iconst 3, 1) := by decide +kernel
theorem d_Ch_ownFault_36 : decode b_Ch_ownFault 36 = .ok (.ireturn, 1) := by decide +kernel
theorem d_Ch_ownFault_37 : decode b_Ch_ownFault 37 = .ok (.iload 4, 2) := by decide +kernel
theorem d_Ch_ownFault_39 : decode b_Ch_ownFault 39 = .ok (.lload_n 2, 1) := by decide +kernel
theorem d_Ch_ownFault_40 : decode b_Ch_ownFault 40 = .ok (.invokestatic 54, 3) := by decide +kernel
theorem d_Ch_ownFault_43 : decode b_Ch_ownFault 43 = .ok (.aload_n 0, 1) := by decide +kernel
theorem d_Ch_ownFault_44 : decode b_Ch_ownFault 44 = .ok (.getfield 17, 3) := by decide +kernel
theorem d_Ch_ownFault_47 : decode b_Ch_ownFault 47 = .ok (.iconst 1, 1) := by decide +kernel
theorem d_Ch_ownFault_48 : decode b_Ch_ownFault 48 = .ok (.isub, 1) := by decide +kernel
theorem d_Ch_ownFault_49 : decode b_Ch_ownFault 49 = .ok (.iload_n 1, 1) := by decide +kernel
theorem d_Ch_ownFault_50 : decode b_Ch_ownFault 50 = .ok (.isub, 1) := by decide +kernel
theorem d_Ch_ownFault_51 : decode b_Ch_ownFault 51 = .ok (.i2l, 1) := by decide +kernel
theorem d_Ch_ownFault_52 : decode b_Ch_ownFault 52 = .ok (.lcmp, 1) := by decide +kernel
theorem d_Ch_ownFault_53 : decode b_Ch_ownFault 53 = .ok (.ifCond .le 7, 3) := by decide +kernel
theorem d_Ch_ownFault_56 : decode b_Ch_ownFault 56 = .ok (.iconst 4, 1) := by decide +kernel
theorem d_Ch_ownFault_57 : decode b_Ch_ownFault 57 = .ok (.goto 4, 3) := by decide +kernel
theorem d_Ch_ownFault_60 : decode b_Ch_ownFault 60 = .ok (.iconst 0, 1) := by decide +kernel
theorem d_Ch_ownFault_61 : decode b_Ch_ownFault 61 = .ok (.ireturn, 1) := by decide +kernel
theorem d_Ch_passOn_0 : decode b_Ch_passOn 0 = .ok (.lload_n 1, 1) := by decide +kernel
theorem d_Ch_passOn_1 : decode b_Ch_passOn 1 = .ok (.invokestatic 29, 3) := by decide +kernel
theorem d_Ch_passOn_4 : decode b_Ch_passOn 4 = .ok (.istore 5, 2) := by decide +kernel
theorem d_Ch_passOn_6 : decode b_Ch_passOn 6 = .ok (.iload 5, 2) := by decide +kernel
theorem d_Ch_passOn_8 : decode b_Ch_passOn 8 = .ok (.iconst 5, 1) := by decide +kernel
theorem d_Ch_passOn_9 : decode b_Ch_passOn 9 = .ok (.if_icmp .ne 23, 3) := by decide +kernel
theorem d_Ch_passOn_12 : decode b_Ch_passOn 12 = .ok (.aload_n 0, 1) := by decide +kernel
theorem d_Ch_passOn_13 : decode b_Ch_passOn 13 = .ok (.getfield 11, 3) := by decide +kernel
theorem d_Ch_passOn_16 : decode b_Ch_passOn 16 = .ok (.iload_n 3, 1) := by decide +kernel
theorem d_Ch_passOn_17 : decode b_Ch_passOn 17 = .ok (.lload_n 1, 1) := by decide +kernel
theorem d_Ch_passOn_18 : decode b_Ch_passOn 18 = .ok (.invokestatic 46, 3) := by decide +kernel
theorem d_Ch_passOn_21 : decode b_Ch_passOn 21 = .ok (.l2i, 1) := by decide +kernel
theorem d_Ch_passOn_22 : decode b_Ch_passOn 22 = .ok (.iadd, 1) := by decide +kernel
theorem d_Ch_passOn_23 : decode b_Ch_passOn 23 = .ok (.dup2, 1) := by decide +kernel
theorem d_Ch_passOn_24 : decode b_Ch_passOn 24 = .ok (.iaload, 1) := by decide +kernel
theorem d_Ch_passOn_25 : decode b_Ch_passOn 25 = .ok (.iload 4, 2) := by decide +kernel
theorem d_Ch_passOn_27 : decode b_Ch_passOn 27 = .ok (.iand, 1) := by decide +kernel
theorem d_Ch_passOn_28 : decode b_Ch_passOn 28 = .ok (.iastore, 1) := by decide +kernel
theorem d_Ch_passOn_29 : decode b_Ch_passOn 29 = .ok (.goto 65, 3) := by decide +kernel
theorem d_Ch_passOn_32 : decode b_Ch_passOn 32 = .ok (.iload 5, 2) := by decide +kernel
theorem d_Ch_passOn_34 : decode b_Ch_passOn 34 = .ok (.invokestatic 76, 3) := by decide +kernel
theorem d_Ch_passOn_37 : decode b_Ch_passOn 37 = .ok (.ifCond .eq 38, 3) := by decide +kernel
theorem d_Ch_passOn_40 : decode b_Ch_passOn 40 = .ok (.aload_n 0, 1) := by decide +kernel
theorem d_Ch_passOn_41 : decode b_Ch_passOn 41 = .ok (.getfield 11, 3) := by decide +kernel
theorem d_Ch_passOn_44 : decode b_Ch_passOn 44 = .ok (.iload_n 3, 1) := by decide +kernel
theorem d_Ch_passOn_45 : decode b_Ch_passOn 45 = .ok (.lload_n 1, 1) := by decide +kernel
theorem d_Ch_passOn_46 : decode b_Ch_passOn 46 = .ok (.invokestatic 79, 3) := by decide +kernel
theorem d_Ch_passOn_49 : decode b_Ch_passOn 49 = .ok (.iadd, 1) := by decide +kernel
theorem d_Ch_passOn_50 : decode b_Ch_passOn 50 = .ok (.dup2, 1) := by decide +kernel
theorem d_Ch_passOn_51 : decode b_Ch_passOn 51 = .ok (.iaload, 1) := by decide +kernel
theorem d_Ch_passOn_52 : decode b_Ch_passOn 52 = .ok (.iload 4, 2) := by decide +kernel
theorem d_Ch_passOn_54 : decode b_Ch_passOn 54 = .ok (.iand, 1) := by decide +kernel
theorem d_Ch_passOn_55 : decode b_Ch_passOn 55 = .ok (.iastore, 1) := by decide +kernel
theorem d_Ch_passOn_56 : decode b_Ch_passOn 56 = .ok (.aload_n 0, 1) := by decide +kernel
theorem d_Ch_passOn_57 : decode b_Ch_passOn 57 = .ok (.getfield 11, 3) := by decide +kernel
theorem d_Ch_passOn_60 : decode b_Ch_passOn 60 = .ok (.iload_n 3, 1) := by decide +kernel
theorem d_Ch_passOn_61 : decode b_Ch_passOn 61 = .ok (.lload_n 1, 1) := by decide +kernel
theorem d_Ch_passOn_62 : decode b_Ch_passOn 62 = .ok (.invokestatic 82, 3) := by decide +kernel
theorem d_Ch_passOn_65 : decode b_Ch_passOn 65 = .ok (.iadd, 1) := by decide +kernel
theorem d_Ch_passOn_66 : decode b_Ch_passOn 66 = .ok (.dup2, 1) := by decide +kernel
theorem d_Ch_passOn_67 : decode b_Ch_passOn 67 = .ok (.iaload, 1) := by decide +kernel
theorem d_Ch_passOn_68 : decode b_Ch_passOn 68 = .ok (.iload 4, 2) := by decide +kernel
theorem d_Ch_passOn_70 : decode b_Ch_passOn 70 = .ok (.iand, 1) := by decide +kernel
theorem d_Ch_passOn_71 : decode b_Ch_passOn 71 = .ok (.iastore, 1) := by decide +kernel
theorem d_Ch_passOn_72 : decode b_Ch_passOn 72 = .ok (.goto 22, 3) := by decide +kernel
theorem d_Ch_passOn_75 : decode b_Ch_passOn 75 = .ok (.iload 5, 2) := by decide +kernel
theorem d_Ch_passOn_77 : decode b_Ch_passOn 77 = .ok (.invokestatic 35, 3) := by decide +kernel
theorem d_Ch_passOn_80 : decode b_Ch_passOn 80 = .ok (.ifCond .ne 14, 3) := by decide +kernel
theorem d_Ch_passOn_83 : decode b_Ch_passOn 83 = .ok (.aload_n 0, 1) := by decide +kernel
theorem d_Ch_passOn_84 : decode b_Ch_passOn 84 = .ok (.getfield 11, 3) := by decide +kernel
theorem d_Ch_passOn_87 : decode b_Ch_passOn 87 = .ok (.iload_n 3, 1) := by decide +kernel
theorem d_Ch_passOn_88 : decode b_Ch_passOn 88 = .ok (.dup2, 1) := by decide +kernel
theorem d_Ch_passOn_89 : decode b_Ch_passOn 89 = .ok (.iaload, 1) := by decide +kernel
theorem d_Ch_passOn_90 : decode b_Ch_passOn 90 = .ok (.iload 4, 2) := by decide +kernel
theorem d_Ch_passOn_92 : decode b_Ch_passOn 92 = .ok (.iand, 1) := by decide +kernel
theorem d_Ch_passOn_93 : decode b_Ch_passOn 93 = .ok (.iastore, 1) := by decide +kernel
theorem d_Ch_passOn_94 : decode b_Ch_passOn 94 = .ok (.return_, 1) := by decide +kernel
def m_Ch_ownFault (g : GT) (i : Int32) : Int32 := if (m_In_isKnown (m_In_codeOf (g.2 i.toNatClampNeg))) = (0 : Int32) then (2 : Int32) else if (m_Ch_isOperandFit (m_In_codeOf (g.2 i.toNatClampNeg)) (m_In_operandOf (g.2 i.toNatClampNeg))) = (0 : Int32) then (3 : Int32) else if (lg_cmp (m_Ch_longestSkip (m_In_codeOf (g.2 i.toNatClampNeg)) (g.2 i.toNatClampNeg)) (((g.1 - (1 : Int32)) - i).toInt64)) ≤ (0 : Int32) then (0 : Int32) else (4 : Int32)
set_option maxHeartbeats 4000000 in
set_option maxRecDepth 100000 in
theorem c_Ch_ownFault (l : Launch) (D : va_G) (dA : Nat → ClassId) (ad : Nat → Nat) (w : Nat → Int32) (P : PT) (g : GT) (ss : Nat → Int32) (M : MT) (i : Int32) (hi : vp_in i 64) : Met l y_Ch_ownFault (mW y_Ch_ownFault b_Ch_ownFault 5 (some .int)) { frames := 2, cells := 0, slots := 0, locals := 45 } (va_Pc [.ref (ad 7), .int i] (fun U => CG D dA ad w P g ss M U)) (vp_Si (fun r => r = m_Ch_ownFault g i)) 0 0 (fun _ => False) := by
  refine Met.ofW (cc := b_Ch_ownFault) (maxL := 5) (ret := (some .int)) (by decide) rfl ?_
  intro p e s m args below meth c s₁ B hml hv
  obtain ⟨rfl, hP, hK, hN⟩ := hv
  have hx := B.exec
  have hb := B.bytes
  have hr := B.returns
  have hlocks := B.notSynchronized
  have hts := fun (w : Cond) (h : w ∈ lw_g) => atoms_spec (ws := mW y_Ch_ownFault b_Ch_ownFault 5 (some .int)) B.pre w (List.mem_cons_of_mem _ h)
  have hown : s.vm.findClass R_Ch = some m.cls := findClass_of_methodNamed B.named
  have hl := lv_entry ([.ref (ad 7), .int i]) (n := 5) (Nat.le_of_ble_eq_true rfl)
  rw [lg_entry_eq]
  generalize (lg_sl ([.ref (ad 7), .int i]) ++ List.replicate (5 - (lg_sl ([.ref (ad 7), .int i])).length) Slot.unset).toArray = ls at hl ⊢
  have hl : lv_has ls 5 [(0, .ref (ad 7)), (1, .int i)] := hl
  refine lv_aload_n hx hb d_Ch_ownFault_0 rfl (lv_at hl 0 rfl) ?_
  refine va_get (D := D) (ci := 6) (v := .ref (ad 8)) (C := R_Pr) (T := F_Pr) (N := 2) hx hb hts in_Pr hown hK hP 7 rfl rfl 0 (by decide) (hts _ wd_153) (fun _ h9 => h9) rfl d_Ch_ownFault_1 ?_
  refine lv_iload_n hx hb d_Ch_ownFault_4 rfl (lv_at hl 1 rfl) ?_
  refine va_lald (n := 64) (f := g.2) hx hb hK hP 8 1 rfl rfl hi d_Ch_ownFault_5 ?_
  refine lv_lstore_n hx hb d_Ch_ownFault_6 rfl hl (by decide) rfl (fun ls hl => ?_)
  have hl : lv_has ls 5 [(2, .long (g.2 i.toNatClampNeg)), (0, .ref (ad 7)), (1, .int i)] := hl
  refine lv_lload_n hx hb d_Ch_ownFault_7 rfl (lv_at hl 0 rfl) ?_
  refine vp_callSi (va_Run.run (va_runS (As := [.long (g.2 i.toNatClampNeg)]) (rest := []) ⟨hx, hb, hml, hown, hts⟩ (c_In_codeOf l (g.2 i.toNatClampNeg)) (va_cwS 1 hts (g_S wd_363 wd_364 wd_36 wd_365) rfl rfl rfl (by decide +kernel) ⟨Nat.le_of_ble_eq_true rfl, Nat.le_of_ble_eq_true rfl⟩) ⟨fun _ _ _ _ q => q, fun _ _ _ => ⟨rfl, trivial⟩⟩ rfl rfl hl.1 rfl (lv_room (Nat.le_of_ble_eq_true rfl)) d_Ch_ownFault_8 ⟨Nat.le_of_ble_eq_true rfl, Nat.le_of_ble_eq_true rfl⟩)) (fun r1 e1 => ?_)
  subst e1
  refine lv_istore hx hb d_Ch_ownFault_11 hl (by decide) rfl (fun ls hl => ?_)
  have hl : lv_has ls 5 [(4, .int (m_In_codeOf (g.2 i.toNatClampNeg))), (2, .long (g.2 i.toNatClampNeg)), (0, .ref (ad 7)), (1, .int i)] := hl
  refine lv_iload hx hb d_Ch_ownFault_13 (lv_at hl 0 rfl) ?_
  refine vp_callSi (va_Run.run (va_runS (As := [.int (m_In_codeOf (g.2 i.toNatClampNeg))]) (rest := []) ⟨hx, hb, hml, hown, hts⟩ (c_In_isKnown l (m_In_codeOf (g.2 i.toNatClampNeg))) (va_cwS 1 hts (g_S wd_367 wd_368 wd_36 wd_369) rfl rfl rfl (by decide +kernel) ⟨Nat.le_of_ble_eq_true rfl, Nat.le_of_ble_eq_true rfl⟩) ⟨fun _ _ _ _ q => q, fun _ _ _ => ⟨rfl, trivial⟩⟩ rfl rfl hl.1 rfl (lv_room (Nat.le_of_ble_eq_true rfl)) d_Ch_ownFault_15 ⟨Nat.le_of_ble_eq_true rfl, Nat.le_of_ble_eq_true rfl⟩)) (fun r2 e2 => ?_)
  subst e2
  refine lv_if_ne (tgt := 23) hx hb d_Ch_ownFault_18 (by decide) (fun h1 => ?_) (fun h1 => ?_)
  · refine lv_iload hx hb d_Ch_ownFault_23 (lv_at hl 0 rfl) ?_
    refine lv_lload_n hx hb d_Ch_ownFault_25 rfl (lv_at hl 1 rfl) ?_
    refine vp_callSl (va_Run.run (va_runS (As := [.long (g.2 i.toNatClampNeg)]) (rest := [.int (m_In_codeOf (g.2 i.toNatClampNeg))]) ⟨hx, hb, hml, hown, hts⟩ (c_In_operandOf l (g.2 i.toNatClampNeg)) (va_cwS 1 hts (g_S wd_379 wd_380 wd_36 wd_381) rfl rfl rfl (by decide +kernel) ⟨Nat.le_of_ble_eq_true rfl, Nat.le_of_ble_eq_true rfl⟩) ⟨fun _ _ _ _ q => q, fun _ _ _ => ⟨rfl, trivial⟩⟩ rfl rfl hl.1 rfl (lv_room (Nat.le_of_ble_eq_true rfl)) d_Ch_ownFault_26 ⟨Nat.le_of_ble_eq_true rfl, Nat.le_of_ble_eq_true rfl⟩)) (fun r3 e3 => ?_)
    subst e3
    refine vp_callSi (va_Run.run (va_runS (As := [.int (m_In_codeOf (g.2 i.toNatClampNeg)), .long (m_In_operandOf (g.2 i.toNatClampNeg))]) (rest := []) ⟨hx, hb, hml, hown, hts⟩ (c_Ch_isOperandFit l (m_In_codeOf (g.2 i.toNatClampNeg)) (m_In_operandOf (g.2 i.toNatClampNeg))) (va_cwS 2 hts (g_S wd_382 wd_383 wd_33 wd_384) rfl rfl rfl (by decide +kernel) ⟨Nat.le_of_ble_eq_true rfl, Nat.le_of_ble_eq_true rfl⟩) ⟨fun _ _ _ _ q => q, fun _ _ _ => ⟨rfl, trivial⟩⟩ rfl rfl hl.1 rfl (lv_room (Nat.le_of_ble_eq_true rfl)) d_Ch_ownFault_29 ⟨Nat.le_of_ble_eq_true rfl, Nat.le_of_ble_eq_true rfl⟩)) (fun r4 e4 => ?_)
    subst e4
    refine lv_if_ne (tgt := 37) hx hb d_Ch_ownFault_32 (by decide) (fun h2 => ?_) (fun h2 => ?_)
    · refine lv_iload hx hb d_Ch_ownFault_37 (lv_at hl 0 rfl) ?_
      refine lv_lload_n hx hb d_Ch_ownFault_39 rfl (lv_at hl 1 rfl) ?_
      refine vp_callSl (va_Run.run (va_runS (As := [.int (m_In_codeOf (g.2 i.toNatClampNeg)), .long (g.2 i.toNatClampNeg)]) (rest := []) ⟨hx, hb, hml, hown, hts⟩ (c_Ch_longestSkip l (m_In_codeOf (g.2 i.toNatClampNeg)) (g.2 i.toNatClampNeg)) (va_cwS 2 hts (g_S wd_395 wd_396 wd_33 wd_397) rfl rfl rfl (by decide +kernel) ⟨Nat.le_of_ble_eq_true rfl, Nat.le_of_ble_eq_true rfl⟩) ⟨fun _ _ _ _ q => q, fun _ _ _ => ⟨rfl, trivial⟩⟩ rfl rfl hl.1 rfl (lv_room (Nat.le_of_ble_eq_true rfl)) d_Ch_ownFault_40 ⟨Nat.le_of_ble_eq_true rfl, Nat.le_of_ble_eq_true rfl⟩)) (fun r5 e5 => ?_)
      subst e5
      refine lv_aload_n hx hb d_Ch_ownFault_43 rfl (lv_at hl 2 rfl) ?_
      refine va_get (D := D) (ci := 6) (v := .int g.1) (C := R_Pr) (T := F_Pr) (N := 2) hx hb hts in_Pr hown hK hP 7 rfl rfl 1 (by decide) (hts _ wd_156) (fun _ h9 => h9) rfl d_Ch_ownFault_44 ?_
      refine lv_iconst (v := 1) hx hb d_Ch_ownFault_47 (by decide) ?_
      refine lv_isub hx hb d_Ch_ownFault_48 ?_
      refine lv_iload_n hx hb d_Ch_ownFault_49 rfl (lv_at hl 3 rfl) ?_
      refine lv_isub hx hb d_Ch_ownFault_50 ?_
      refine lv_i2l hx hb d_Ch_ownFault_51 rfl ?_
      refine W.lcmp hx hb d_Ch_ownFault_52 ?_
      refine lv_if_le (tgt := 60) hx hb d_Ch_ownFault_53 (by decide) (fun h3 => ?_) (fun h3 => ?_)
      · refine lv_iconst (v := 0) hx hb d_Ch_ownFault_60 (by decide) ?_
        exact W.iret hx hb hr (fun t ht hW => ⟨_, rfl, (by rw [m_Ch_ownFault, if_neg h1, if_neg h2, if_pos h3]), ht⟩) (fun _ h => by cases h) d_Ch_ownFault_61
      refine lv_iconst (v := 4) hx hb d_Ch_ownFault_56 (by decide) ?_
      refine lv_goto (tgt := 61) hx hb d_Ch_ownFault_57 (by decide) ?_
      exact W.iret hx hb hr (fun t ht hW => ⟨_, rfl, (by rw [m_Ch_ownFault, if_neg h1, if_neg h2, if_neg h3]), ht⟩) (fun _ h => by cases h) d_Ch_ownFault_61
    refine lv_iconst (v := 3) hx hb d_Ch_ownFault_35 (by decide) ?_
    exact W.iret hx hb hr (fun t ht hW => ⟨_, rfl, (by rw [m_Ch_ownFault, if_neg h1, if_pos h2]), ht⟩) (fun _ h => by cases h) d_Ch_ownFault_36
  refine lv_iconst (v := 2) hx hb d_Ch_ownFault_21 (by decide) ?_
  exact W.iret hx hb hr (fun t ht hW => ⟨_, rfl, (by rw [m_Ch_ownFault, if_pos h1]), ht⟩) (fun _ h => by cases h) d_Ch_ownFault_22
def m_Ch_passOn (ss : Nat → Int32) (z : Int64) (nx : Int32) (sd : Int32) : (Nat → Int32) := if (m_In_codeOf z) = (5 : Int32) then (upd ss (nx + ((m_In_operandOf z).toInt32)).toNatClampNeg ((ss (nx + ((m_In_operandOf z).toInt32)).toNatClampNeg) &&& sd)) else if (m_In_isConditional (m_In_codeOf z)) = (0 : Int32) then if (m_In_endsRun (m_In_codeOf z)) = (0 : Int32) then (upd ss nx.toNatClampNeg ((ss nx.toNatClampNeg) &&& sd)) else ss else (upd (upd ss (nx + (m_In_distanceIfTrue z)).toNatClampNeg ((ss (nx + (m_In_distanceIfTrue z)).toNatClampNeg) &&& sd)) (nx + (m_In_distanceIfFalse z)).toNatClampNeg (((upd ss (nx + (m_In_distanceIfTrue z)).toNatClampNeg ((ss (nx + (m_In_distanceIfTrue z)).toNatClampNeg) &&& sd)) (nx + (m_In_distanceIfFalse z)).toNatClampNeg) &&& sd))
set_option maxHeartbeats 4000000 in
set_option maxRecDepth 100000 in
theorem c_Ch_passOn (l : Launch) (D : va_G) (dA : Nat → ClassId) (ad : Nat → Nat) (A : Nat → Prop) (hAd : AdOK 49 ad A) (w : Nat → Int32) (P : PT) (g : GT) (ss : Nat → Int32) (M : MT) (z : Int64) (nx : Int32) (sd : Int32) (hz : OKp z nx) : Met l y_Ch_passOn (mW y_Ch_passOn b_Ch_passOn 6 none) { frames := 1, cells := 0, slots := 0, locals := 21 } (va_Pc [.ref (ad 9), .long z, .int nx, .int sd] (fun U => CG D dA ad w P g ss M U)) (va_Qv (fun u : (Nat → Int32) => u = m_Ch_passOn ss z nx sd) (fun u t => CG D dA ad w P g u M t) A) 0 0 A := by
  refine Met.ofW (cc := b_Ch_passOn) (maxL := 6) (ret := none) (by decide) rfl ?_
  intro p e s m args below meth c s₁ B hml hv
  obtain ⟨rfl, hP, hK, hN⟩ := hv
  have hx := B.exec
  have hb := B.bytes
  have hr := B.returns
  have hlocks := B.notSynchronized
  have hts := fun (w : Cond) (h : w ∈ lw_g) => atoms_spec (ws := mW y_Ch_passOn b_Ch_passOn 6 none) B.pre w (List.mem_cons_of_mem _ h)
  have hown : s.vm.findClass R_Ch = some m.cls := findClass_of_methodNamed B.named
  have hS : va_S A s.heap s.heap [] := va_S.rf
  have hl := lv_entry ([.ref (ad 9), .long z, .int nx, .int sd]) (n := 6) (Nat.le_of_ble_eq_true rfl)
  rw [lg_entry_eq]
  generalize (lg_sl ([.ref (ad 9), .long z, .int nx, .int sd]) ++ List.replicate (6 - (lg_sl ([.ref (ad 9), .long z, .int nx, .int sd])).length) Slot.unset).toArray = ls at hl ⊢
  have hl : lv_has ls 6 [(0, .ref (ad 9)), (1, .long z), (3, .int nx), (4, .int sd)] := hl
  refine lv_lload_n hx hb d_Ch_passOn_0 rfl (lv_at hl 1 rfl) ?_
  refine vp_callSi (va_Run.run (va_runS (As := [.long z]) (rest := []) ⟨hx, hb, hml, hown, hts⟩ (c_In_codeOf l z) (va_cwS 1 hts (g_S wd_363 wd_364 wd_36 wd_365) rfl rfl rfl (by decide +kernel) ⟨Nat.le_of_ble_eq_true rfl, Nat.le_of_ble_eq_true rfl⟩) ⟨fun _ _ _ _ q => q, fun _ _ _ => ⟨rfl, trivial⟩⟩ rfl rfl hl.1 rfl (lv_room (Nat.le_of_ble_eq_true rfl)) d_Ch_passOn_1 ⟨Nat.le_of_ble_eq_true rfl, Nat.le_of_ble_eq_true rfl⟩)) (fun r1 e1 => ?_)
  subst e1
  refine lv_istore hx hb d_Ch_passOn_4 hl (by decide) rfl (fun ls hl => ?_)
  have hl : lv_has ls 6 [(5, .int (m_In_codeOf z)), (0, .ref (ad 9)), (1, .long z), (3, .int nx), (4, .int sd)] := hl
  refine lv_iload hx hb d_Ch_passOn_6 (lv_at hl 0 rfl) ?_
  refine lv_iconst (v := 5) hx hb d_Ch_passOn_8 (by decide) ?_
  refine lv_icmp_ne (tgt := 32) hx hb d_Ch_passOn_9 (by decide) (fun h1 => ?_) (fun h1 => ?_)
  · refine lv_iload hx hb d_Ch_passOn_32 (lv_at hl 0 rfl) ?_
    refine vp_callSi (va_Run.run (va_runS (As := [.int (m_In_codeOf z)]) (rest := []) ⟨hx, hb, hml, hown, hts⟩ (c_In_isConditional l (m_In_codeOf z)) (va_cwS 1 hts (g_S wd_398 wd_374 wd_36 wd_375) rfl rfl rfl (by decide +kernel) ⟨Nat.le_of_ble_eq_true rfl, Nat.le_of_ble_eq_true rfl⟩) ⟨fun _ _ _ _ q => q, fun _ _ _ => ⟨rfl, trivial⟩⟩ rfl rfl hl.1 rfl (lv_room (Nat.le_of_ble_eq_true rfl)) d_Ch_passOn_34 ⟨Nat.le_of_ble_eq_true rfl, Nat.le_of_ble_eq_true rfl⟩)) (fun r2 e2 => ?_)
    subst e2
    refine lv_if_eq (tgt := 75) hx hb d_Ch_passOn_37 (by decide) (fun h2 => ?_) (fun h2 => ?_)
    · refine lv_iload hx hb d_Ch_passOn_75 (lv_at hl 0 rfl) ?_
      refine vp_callSi (va_Run.run (va_runS (As := [.int (m_In_codeOf z)]) (rest := []) ⟨hx, hb, hml, hown, hts⟩ (c_In_endsRun l (m_In_codeOf z)) (va_cwS 1 hts (g_S wd_409 wd_377 wd_36 wd_378) rfl rfl rfl (by decide +kernel) ⟨Nat.le_of_ble_eq_true rfl, Nat.le_of_ble_eq_true rfl⟩) ⟨fun _ _ _ _ q => q, fun _ _ _ => ⟨rfl, trivial⟩⟩ rfl rfl hl.1 rfl (lv_room (Nat.le_of_ble_eq_true rfl)) d_Ch_passOn_77 ⟨Nat.le_of_ble_eq_true rfl, Nat.le_of_ble_eq_true rfl⟩)) (fun r3 e3 => ?_)
      subst e3
      refine lv_if_ne (tgt := 94) hx hb d_Ch_passOn_80 (by decide) (fun h3 => ?_) (fun h3 => ?_)
      · exact W.vret hx hb hr (fun t ht hW => ⟨⟨_, rfl, (by rw [m_Ch_passOn, if_neg h1, if_pos h2, if_neg h3]), CG_at hP hK hN ht hW⟩, hS.F ht⟩) hS.2.2 d_Ch_passOn_94
      refine lv_aload_n hx hb d_Ch_passOn_83 rfl (lv_at hl 1 rfl) ?_
      refine va_get (D := D) (ci := 2) (v := .ref (ad 10)) (C := R_Ch) (T := F_Ch) (N := 1) hx hb hts in_Ch hown hK hP 9 rfl rfl 0 (by decide) (hts _ wd_171) (fun _ h9 => h9) rfl d_Ch_passOn_84 ?_
      refine lv_iload_n hx hb d_Ch_passOn_87 rfl (lv_at hl 3 rfl) ?_
      refine lv_dup2_11 hx hb d_Ch_passOn_88 rfl rfl ?_
      refine va_iald (n := 64) (f := ss) hx hb hK hP 10 0 rfl rfl (okp_n hz (by assumption) (by assumption) (by assumption)) d_Ch_passOn_89 ?_
      refine lv_iload hx hb d_Ch_passOn_90 (lv_at hl 4 rfl) ?_
      refine lv_iand hx hb d_Ch_passOn_92 ?_
      refine va_iast (n := 64) (f := ss) hx hb hK hP (wC_D hAd) hS 10 0 rfl rfl (okp_n hz (by assumption) (by assumption) (by assumption)) d_Ch_passOn_93 (fun H locs hP _ hS => ?_)
      have hP : va_P D cls (wC ad dA w P g (upd ss nx.toNatClampNeg ((ss nx.toNatClampNeg) &&& sd)) M) H := hP
      exact W.vret hx hb hr (fun t ht hW => ⟨⟨_, rfl, (by rw [m_Ch_passOn, if_neg h1, if_pos h2, if_pos h3]), CG_at hP hK hN ht hW⟩, hS.F ht⟩) hS.2.2 d_Ch_passOn_94
    refine lv_aload_n hx hb d_Ch_passOn_40 rfl (lv_at hl 1 rfl) ?_
    refine va_get (D := D) (ci := 2) (v := .ref (ad 10)) (C := R_Ch) (T := F_Ch) (N := 1) hx hb hts in_Ch hown hK hP 9 rfl rfl 0 (by decide) (hts _ wd_171) (fun _ h9 => h9) rfl d_Ch_passOn_41 ?_
    refine lv_iload_n hx hb d_Ch_passOn_44 rfl (lv_at hl 3 rfl) ?_
    refine lv_lload_n hx hb d_Ch_passOn_45 rfl (lv_at hl 2 rfl) ?_
    refine vp_callSi (va_Run.run (va_runS (As := [.long z]) (rest := [.int nx, .ref (ad 10)]) ⟨hx, hb, hml, hown, hts⟩ (c_In_distanceIfTrue l z) (va_cwS 1 hts (g_S wd_399 wd_400 wd_36 wd_401) rfl rfl rfl (by decide +kernel) ⟨Nat.le_of_ble_eq_true rfl, Nat.le_of_ble_eq_true rfl⟩) ⟨fun _ _ _ _ q => q, fun _ _ _ => ⟨rfl, trivial⟩⟩ rfl rfl hl.1 rfl (lv_room (Nat.le_of_ble_eq_true rfl)) d_Ch_passOn_46 ⟨Nat.le_of_ble_eq_true rfl, Nat.le_of_ble_eq_true rfl⟩)) (fun r4 e4 => ?_)
    subst e4
    refine lv_iadd hx hb d_Ch_passOn_49 ?_
    refine lv_dup2_11 hx hb d_Ch_passOn_50 rfl rfl ?_
    refine va_iald (n := 64) (f := ss) hx hb hK hP 10 0 rfl rfl (okp_t hz (by assumption) (by assumption)) d_Ch_passOn_51 ?_
    refine lv_iload hx hb d_Ch_passOn_52 (lv_at hl 4 rfl) ?_
    refine lv_iand hx hb d_Ch_passOn_54 ?_
    refine va_iast (n := 64) (f := ss) hx hb hK hP (wC_D hAd) hS 10 0 rfl rfl (okp_t hz (by assumption) (by assumption)) d_Ch_passOn_55 (fun H locs hP _ hS => ?_)
    have hP : va_P D cls (wC ad dA w P g (upd ss (nx + (m_In_distanceIfTrue z)).toNatClampNeg ((ss (nx + (m_In_distanceIfTrue z)).toNatClampNeg) &&& sd)) M) H := hP
    refine lv_aload_n hx hb d_Ch_passOn_56 rfl (lv_at hl 1 rfl) ?_
    refine va_get (D := D) (ci := 2) (v := .ref (ad 10)) (C := R_Ch) (T := F_Ch) (N := 1) hx hb hts in_Ch hown hK hP 9 rfl rfl 0 (by decide) (hts _ wd_171) (fun _ h9 => h9) rfl d_Ch_passOn_57 ?_
    refine lv_iload_n hx hb d_Ch_passOn_60 rfl (lv_at hl 3 rfl) ?_
    refine lv_lload_n hx hb d_Ch_passOn_61 rfl (lv_at hl 2 rfl) ?_
    refine vp_callSi (va_Run.run (va_runS (As := [.long z]) (rest := [.int nx, .ref (ad 10)]) ⟨hx, hb, hml, hown, hts⟩ (c_In_distanceIfFalse l z) (va_cwS 1 hts (g_S wd_403 wd_404 wd_36 wd_405) rfl rfl rfl (by decide +kernel) ⟨Nat.le_of_ble_eq_true rfl, Nat.le_of_ble_eq_true rfl⟩) ⟨fun _ _ _ _ q => q, fun _ _ _ => ⟨rfl, trivial⟩⟩ rfl rfl hl.1 rfl (lv_room (Nat.le_of_ble_eq_true rfl)) d_Ch_passOn_62 ⟨Nat.le_of_ble_eq_true rfl, Nat.le_of_ble_eq_true rfl⟩)) (fun r5 e5 => ?_)
    subst e5
    refine lv_iadd hx hb d_Ch_passOn_65 ?_
    refine lv_dup2_11 hx hb d_Ch_passOn_66 rfl rfl ?_
    refine va_iald (n := 64) (f := upd ss (nx + (m_In_distanceIfTrue z)).toNatClampNeg ((ss (nx + (m_In_distanceIfTrue z)).toNatClampNeg) &&& sd)) hx hb hK hP 10 0 rfl rfl (okp_f hz (by assumption) (by assumption)) d_Ch_passOn_67 ?_
    refine lv_iload hx hb d_Ch_passOn_68 (lv_at hl 4 rfl) ?_
    refine lv_iand hx hb d_Ch_passOn_70 ?_
    refine va_iast (n := 64) (f := upd ss (nx + (m_In_distanceIfTrue z)).toNatClampNeg ((ss (nx + (m_In_distanceIfTrue z)).toNatClampNeg) &&& sd)) hx hb hK hP (wC_D hAd) hS 10 0 rfl rfl (okp_f hz (by assumption) (by assumption)) d_Ch_passOn_71 (fun H locs hP _ hS => ?_)
    have hP : va_P D cls (wC ad dA w P g (upd (upd ss (nx + (m_In_distanceIfTrue z)).toNatClampNeg ((ss (nx + (m_In_distanceIfTrue z)).toNatClampNeg) &&& sd)) (nx + (m_In_distanceIfFalse z)).toNatClampNeg (((upd ss (nx + (m_In_distanceIfTrue z)).toNatClampNeg ((ss (nx + (m_In_distanceIfTrue z)).toNatClampNeg) &&& sd)) (nx + (m_In_distanceIfFalse z)).toNatClampNeg) &&& sd)) M) H := hP
    refine lv_goto (tgt := 94) hx hb d_Ch_passOn_72 (by decide) ?_
    exact W.vret hx hb hr (fun t ht hW => ⟨⟨_, rfl, (by rw [m_Ch_passOn, if_neg h1, if_neg h2]), CG_at hP hK hN ht hW⟩, hS.F ht⟩) hS.2.2 d_Ch_passOn_94
  refine lv_aload_n hx hb d_Ch_passOn_12 rfl (lv_at hl 1 rfl) ?_
  refine va_get (D := D) (ci := 2) (v := .ref (ad 10)) (C := R_Ch) (T := F_Ch) (N := 1) hx hb hts in_Ch hown hK hP 9 rfl rfl 0 (by decide) (hts _ wd_171) (fun _ h9 => h9) rfl d_Ch_passOn_13 ?_
  refine lv_iload_n hx hb d_Ch_passOn_16 rfl (lv_at hl 3 rfl) ?_
  refine lv_lload_n hx hb d_Ch_passOn_17 rfl (lv_at hl 2 rfl) ?_
  refine vp_callSl (va_Run.run (va_runS (As := [.long z]) (rest := [.int nx, .ref (ad 10)]) ⟨hx, hb, hml, hown, hts⟩ (c_In_operandOf l z) (va_cwS 1 hts (g_S wd_379 wd_380 wd_36 wd_381) rfl rfl rfl (by decide +kernel) ⟨Nat.le_of_ble_eq_true rfl, Nat.le_of_ble_eq_true rfl⟩) ⟨fun _ _ _ _ q => q, fun _ _ _ => ⟨rfl, trivial⟩⟩ rfl rfl hl.1 rfl (lv_room (Nat.le_of_ble_eq_true rfl)) d_Ch_passOn_18 ⟨Nat.le_of_ble_eq_true rfl, Nat.le_of_ble_eq_true rfl⟩)) (fun r6 e6 => ?_)
  subst e6
  refine lv_l2i hx hb d_Ch_passOn_21 rfl ?_
  refine lv_iadd hx hb d_Ch_passOn_22 ?_
  refine lv_dup2_11 hx hb d_Ch_passOn_23 rfl rfl ?_
  refine va_iald (n := 64) (f := ss) hx hb hK hP 10 0 rfl rfl (okp_k hz (by assumption)) d_Ch_passOn_24 ?_
  refine lv_iload hx hb d_Ch_passOn_25 (lv_at hl 4 rfl) ?_
  refine lv_iand hx hb d_Ch_passOn_27 ?_
  refine va_iast (n := 64) (f := ss) hx hb hK hP (wC_D hAd) hS 10 0 rfl rfl (okp_k hz (by assumption)) d_Ch_passOn_28 (fun H locs hP _ hS => ?_)
  have hP : va_P D cls (wC ad dA w P g (upd ss (nx + ((m_In_operandOf z).toInt32)).toNatClampNeg ((ss (nx + ((m_In_operandOf z).toInt32)).toNatClampNeg) &&& sd)) M) H := hP
  refine lv_goto (tgt := 94) hx hb d_Ch_passOn_29 (by decide) ?_
  exact W.vret hx hb hr (fun t ht hW => ⟨⟨_, rfl, (by rw [m_Ch_passOn, if_pos h1]), CG_at hP hK hN ht hW⟩, hS.F ht⟩) hS.2.2 d_Ch_passOn_94
