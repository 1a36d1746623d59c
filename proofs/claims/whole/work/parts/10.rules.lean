theorem chl_rng {w : Nat → Int32} {P : PT} (hn : iN P.2.1 ≤ 6) : ∀ (n : Nat) (ch : Int32) (i : Nat), 6 - i < n → i ≤ 6 → (¬ ch = (-1 : Int32) → vp_in ch 6) → ¬ m_Po_chooseFor_l1 w P n ch i = (-1 : Int32) → vp_in (m_Po_chooseFor_l1 w P n ch i) 6 := by
  intro n
  induction n with
  | zero => intro ch i h; exact absurd h (Nat.not_lt_zero _)
  | succ n ih =>
    intro ch i h hi hc
    rw [m_Po_chooseFor_l1]
    by_cases h1 : P.2.1 ≤ nI i
    · rw [if_pos h1]
      exact hc
    · rw [if_neg h1]
      have hil : i < 6 := Nat.lt_of_lt_of_le (nj_lt hn (by decide) hi h1) hn
      by_cases h2 : m_Ru_matches w P i = (0 : Int32)
      · rw [if_pos h2]
        exact ih ch (i + 1) (by omega) (by omega) hc
      · rw [if_neg h2]
        by_cases h3 : m_Po_isStricter P i ch = (0 : Int32)
        · rw [if_pos h3]
          exact ih ch (i + 1) (by omega) (by omega) hc
        · rw [if_neg h3]
          exact ih (nI i) (i + 1) (by omega) (by omega) (fun _ => vp_in_nI hil (by decide))
theorem choose_rng {w : Nat → Int32} {P : PT} (hn : iN P.2.1 ≤ 6) (_hc : ∀ i, i < 6 → iN (P.2.2.2.2 i).1 ≤ 3) (h1 : ¬ m_Po_chooseFor w P = (-2 : Int32)) (h2 : ¬ m_Po_chooseFor w P = (-1 : Int32)) : vp_in (m_Po_chooseFor w P) 6 := by
  unfold m_Po_chooseFor at h1 h2 ⊢
  by_cases h : m_Ca_isForeignTo w P.1 = (0 : Int32)
  · rw [if_pos h] at h1 h2 ⊢
    exact chl_rng hn 7 (-1) 0 (by decide) (by decide) (fun q => absurd rfl q) h2
  · rw [if_neg h] at h1
    exact absurd rfl h1
theorem wd_111 : Cond.fieldLink R_F 82 R_Ru "count" "I" ∈ lw_g := wd_in (i := 111) (by decide +kernel) (by decide +kernel)
theorem wd_127 : Cond.fieldLink R_F 92 R_Po "defaultAction" "LCallFilter$Action;" ∈ lw_g := wd_in (i := 127) (by decide +kernel) (by decide +kernel)
theorem wd_129 : Cond.fieldLink R_F 88 R_Po "foreignAction" "LCallFilter$Action;" ∈ lw_g := wd_in (i := 129) (by decide +kernel) (by decide +kernel)
theorem wd_131 : Cond.fieldLink R_F 78 R_Po "rules" "[LCallFilter$Rule;" ∈ lw_g := wd_in (i := 131) (by decide +kernel) (by decide +kernel)
theorem wd_243 : Cond.constant R_F 58 1073741824 ∈ lw_g := wd_in (i := 243) (by decide +kernel) (by decide +kernel)
theorem wd_244 : Cond.methodLink R_F 59 y_Ac_isPossible ∈ lw_g := wd_in (i := 244) (by decide +kernel) (by decide +kernel)
theorem wd_245 : Cond.static y_Ac_isPossible ∈ lw_g := wd_in (i := 245) (by decide +kernel) (by decide +kernel)
theorem wd_246 : Cond.code y_Ac_isPossible prog_2_method_2_code 2 (Option.some Jvm.ClassFile.FieldType.boolean) ∈ lw_g := wd_in (i := 246) (by decide +kernel) (by decide +kernel)
theorem wd_248 : Cond.methodLink R_F 69 y_Po_add ∈ lw_g := wd_in (i := 248) (by decide +kernel) (by decide +kernel)
theorem wd_249 : Cond.instanceMethod y_Po_add ∈ lw_g := wd_in (i := 249) (by decide +kernel) (by decide +kernel)
theorem wd_250 : Cond.selects R_Po y_Po_add y_Po_add ∈ lw_g := wd_in (i := 250) (by decide +kernel) (by decide +kernel)
theorem wd_251 : Cond.code y_Po_add prog_8_method_2_code 5 (Option.some Jvm.ClassFile.FieldType.int) ∈ lw_g := wd_in (i := 251) (by decide +kernel) (by decide +kernel)
theorem wd_264 : Cond.methodLink R_F 73 y_Co_isOperator ∈ lw_g := wd_in (i := 264) (by decide +kernel) (by decide +kernel)
theorem wd_265 : Cond.static y_Co_isOperator ∈ lw_g := wd_in (i := 265) (by decide +kernel) (by decide +kernel)
theorem wd_266 : Cond.code y_Co_isOperator prog_5_method_2_code 1 (Option.some Jvm.ClassFile.FieldType.boolean) ∈ lw_g := wd_in (i := 266) (by decide +kernel) (by decide +kernel)
theorem wd_267 : Cond.methodLink R_F 85 y_Ru_add ∈ lw_g := wd_in (i := 267) (by decide +kernel) (by decide +kernel)
theorem wd_268 : Cond.instanceMethod y_Ru_add ∈ lw_g := wd_in (i := 268) (by decide +kernel) (by decide +kernel)
theorem wd_269 : Cond.selects R_Ru y_Ru_add y_Ru_add ∈ lw_g := wd_in (i := 269) (by decide +kernel) (by decide +kernel)
theorem wd_270 : Cond.code y_Ru_add prog_10_method_3_code 7 (Option.none : Option Jvm.ClassFile.FieldType) ∈ lw_g := wd_in (i := 270) (by decide +kernel) (by decide +kernel)
theorem wd_279 : Cond.methodLink R_F 95 y_Ac_become ∈ lw_g := wd_in (i := 279) (by decide +kernel) (by decide +kernel)
theorem wd_288 : Cond.methodLink R_F 99 y_Po_chooseFor ∈ lw_g := wd_in (i := 288) (by decide +kernel) (by decide +kernel)
theorem wd_289 : Cond.instanceMethod y_Po_chooseFor ∈ lw_g := wd_in (i := 289) (by decide +kernel) (by decide +kernel)
theorem wd_290 : Cond.selects R_Po y_Po_chooseFor y_Po_chooseFor ∈ lw_g := wd_in (i := 290) (by decide +kernel) (by decide +kernel)
theorem wd_291 : Cond.code y_Po_chooseFor prog_8_method_3_code 4 (Option.some Jvm.ClassFile.FieldType.int) ∈ lw_g := wd_in (i := 291) (by decide +kernel) (by decide +kernel)
theorem wd_326 : Cond.methodLink R_F 103 y_Po_actionOf ∈ lw_g := wd_in (i := 326) (by decide +kernel) (by decide +kernel)
theorem wd_327 : Cond.instanceMethod y_Po_actionOf ∈ lw_g := wd_in (i := 327) (by decide +kernel) (by decide +kernel)
theorem wd_328 : Cond.selects R_Po y_Po_actionOf y_Po_actionOf ∈ lw_g := wd_in (i := 328) (by decide +kernel) (by decide +kernel)
theorem wd_329 : Cond.code y_Po_actionOf prog_8_method_5_code 2 (Option.some (Jvm.ClassFile.FieldType.object "CallFilter$Action")) ∈ lw_g := wd_in (i := 329) (by decide +kernel) (by decide +kernel)
theorem wd_330 : Cond.methodLink R_F 107 y_Ac_asWord ∈ lw_g := wd_in (i := 330) (by decide +kernel) (by decide +kernel)
theorem wd_331 : Cond.instanceMethod y_Ac_asWord ∈ lw_g := wd_in (i := 331) (by decide +kernel) (by decide +kernel)
theorem wd_332 : Cond.selects R_Ac y_Ac_asWord y_Ac_asWord ∈ lw_g := wd_in (i := 332) (by decide +kernel) (by decide +kernel)
theorem wd_333 : Cond.code y_Ac_asWord prog_2_method_4_code 2 (Option.some Jvm.ClassFile.FieldType.long) ∈ lw_g := wd_in (i := 333) (by decide +kernel) (by decide +kernel)
theorem d_F_rule_0 : decode b_F_rule 0 = .ok (.iconst 0, 1) := by decide +kernel
theorem d_F_rule_1 : decode b_F_rule 1 = .ok (.iload_n 1, 1) := by decide +kernel
theorem d_F_rule_2 : decode b_F_rule 2 = .ok (.if_icmp .gt 18, 3) := by decide +kernel
theorem d_F_rule_5 : decode b_F_rule 5 = .ok (.iload_n 1, 1) := by decide +kernel
theorem d_F_rule_6 : decode b_F_rule 6 = .ok (.iload_n 2, 1) := by decide +kernel
theorem d_F_rule_7 : decode b_F_rule 7 = .ok (.if_icmp .gt 13, 3) := by decide +kernel
theorem d_F_rule_10 : decode b_F_rule 10 = .ok (.iload_n 2, 1) := by decide +kernel
theorem d_F_rule_11 : decode b_F_rule 11 = .ok (.ldc 58, 2) := by decide +kernel
theorem d_F_rule_13 : decode b_F_rule 13 = .ok (.if_icmp .ge 7, 3) := by decide +kernel
theorem d_F_rule_16 : decode b_F_rule 16 = .ok (.iconst 1, 1) := by decide +kernel
theorem d_F_rule_17 : decode b_F_rule 17 = .ok (.goto 4, 3) := by decide +kernel
theorem d_F_rule_20 : decode b_F_rule 20 = .ok (.iconst 0, 1) := by decide +kernel
theorem d_F_rule_21 : decode b_F_rule 21 = .ok (.istore 5, 2) := by decide +kernel
theorem d_F_rule_23 : decode b_F_rule 23 = .ok (.iload 5, 2) := by decide +kernel
theorem d_F_rule_25 : decode b_F_rule 25 = .ok (.ifCond .eq 24, 3) := by decide +kernel
theorem d_F_rule_28 : decode b_F_rule 28 = .ok (.iload_n 3, 1) := by decide +kernel
theorem d_F_rule_29 : decode b_F_rule 29 = .ok (.iload 4, 2) := by decide +kernel
theorem d_F_rule_31 : decode b_F_rule 31 = .ok (.invokestatic 59, 3) := by decide +kernel
theorem d_F_rule_34 : decode b_F_rule 34 = .ok (.ifCond .eq 15, 3) := by decide +kernel
theorem d_F_rule_37 : decode b_F_rule 37 = .ok (.aload_n 0, 1) := by decide +kernel
theorem d_F_rule_38 : decode b_F_rule 38 = .ok (.getfield 21, 3) := by decide +kernel
theorem d_F_rule_41 : decode b_F_rule 41 = .ok (.getfield 65, 3) := by decide +kernel
theorem d_F_rule_44 : decode b_F_rule 44 = .ok (.bipush 6, 2) := by decide +kernel
theorem d_F_rule_46 : decode b_F_rule 46 = .ok (.if_icmp .lt 5, 3) := by decide +kernel
theorem d_F_rule_49 : decode b_F_rule 49 = .ok (.iconst (-1), 1) := by decide +kernel
theorem d_F_rule_50 : decode b_F_rule 50 = .ok (.ireturn, 1) := by decide +kernel
theorem d_F_rule_51 : decode b_F_rule 51 = .ok (.aload_n 0, 1) := by decide +kernel
theorem d_F_rule_52 : decode b_F_rule 52 = .ok (.getfield 21, 3) := by decide +kernel
theorem d_F_rule_55 : decode b_F_rule 55 = .ok (.iload_n 1, 1) := by decide +kernel
theorem d_F_rule_56 : decode b_F_rule 56 = .ok (.iload_n 2, 1) := by decide +kernel
theorem d_F_rule_57 : decode b_F_rule 57 = .ok (.iload_n 3, 1) := by decide +kernel
theorem d_F_rule_58 : decode b_F_rule 58 = .ok (.iload 4, 2) := by decide +kernel
theorem d_F_rule_60 : decode b_F_rule 60 = .ok (.invokevirtual 69, 3) := by decide +kernel
theorem d_F_rule_63 : decode b_F_rule 63 = .ok (.ireturn, 1) := by decide +kernel
theorem d_F_condition_0 : decode b_F_condition 0 = .ok (.iload_n 1, 1) := by decide +kernel
theorem d_F_condition_1 : decode b_F_condition 1 = .ok (.invokestatic 50, 3) := by decide +kernel
theorem d_F_condition_4 : decode b_F_condition 4 = .ok (.ifCond .eq 20, 3) := by decide +kernel
theorem d_F_condition_7 : decode b_F_condition 7 = .ok (.iload_n 2, 1) := by decide +kernel
theorem d_F_condition_8 : decode b_F_condition 8 = .ok (.invokestatic 73, 3) := by decide +kernel
theorem d_F_condition_11 : decode b_F_condition 11 = .ok (.ifCond .eq 13, 3) := by decide +kernel
theorem d_F_condition_14 : decode b_F_condition 14 = .ok (.aload_n 0, 1) := by decide +kernel
theorem d_F_condition_15 : decode b_F_condition 15 = .ok (.getfield 21, 3) := by decide +kernel
theorem d_F_condition_18 : decode b_F_condition 18 = .ok (.getfield 65, 3) := by decide +kernel
theorem d_F_condition_21 : decode b_F_condition 21 = .ok (.ifCond .ne 5, 3) := by decide +kernel
theorem d_F_condition_24 : decode b_F_condition 24 = .ok (.iconst 0, 1) := by decide +kernel
theorem d_F_condition_25 : decode b_F_condition 25 = .ok (.ireturn, 1) := by decide +kernel
theorem d_F_condition_26 : decode b_F_condition 26 = .ok (.aload_n 0, 1) := by decide +kernel
theorem d_F_condition_27 : decode b_F_condition 27 = .ok (.getfield 21, 3) := by decide +kernel
theorem d_F_condition_30 : decode b_F_condition 30 = .ok (.getfield 78, 3) := by decide +kernel
theorem d_F_condition_33 : decode b_F_condition 33 = .ok (.aload_n 0, 1) := by decide +kernel
theorem d_F_condition_34 : decode b_F_condition 34 = .ok (.getfield 21, 3) := by decide +kernel
theorem d_F_condition_37 : decode b_F_condition 37 = .ok (.getfield 65, 3) := by decide +kernel
theorem d_F_condition_40 : decode b_F_condition 40 = .ok (.iconst 1, 1) := by decide +kernel
theorem d_F_condition_41 : decode b_F_condition 41 = .ok (.isub, 1) := by decide +kernel
theorem d_F_condition_42 : decode b_F_condition 42 = .ok (.aaload, 1) := by decide +kernel
theorem d_F_condition_43 : decode b_F_condition 43 = .ok (.astore 7, 2) := by decide +kernel
theorem d_F_condition_45 : decode b_F_condition 45 = .ok (.aload 7, 2) := by decide +kernel
theorem d_F_condition_47 : decode b_F_condition 47 = .ok (.getfield 82, 3) := by decide +kernel
theorem d_F_condition_50 : decode b_F_condition 50 = .ok (.iconst 3, 1) := by decide +kernel
theorem d_F_condition_51 : decode b_F_condition 51 = .ok (.if_icmp .lt 5, 3) := by decide +kernel
theorem d_F_condition_54 : decode b_F_condition 54 = .ok (.iconst 0, 1) := by decide +kernel
theorem d_F_condition_55 : decode b_F_condition 55 = .ok (.ireturn, 1) := by decide +kernel
theorem d_F_condition_56 : decode b_F_condition 56 = .ok (.aload 7, 2) := by decide +kernel
theorem d_F_condition_58 : decode b_F_condition 58 = .ok (.iload_n 1, 1) := by decide +kernel
theorem d_F_condition_59 : decode b_F_condition 59 = .ok (.iload_n 2, 1) := by decide +kernel
theorem d_F_condition_60 : decode b_F_condition 60 = .ok (.lload_n 3, 1) := by decide +kernel
theorem d_F_condition_61 : decode b_F_condition 61 = .ok (.lload 5, 2) := by decide +kernel
theorem d_F_condition_63 : decode b_F_condition 63 = .ok (.invokevirtual 85, 3) := by decide +kernel
theorem d_F_condition_66 : decode b_F_condition 66 = .ok (.iconst 1, 1) := by decide +kernel
theorem d_F_condition_67 : decode b_F_condition 67 = .ok (.ireturn, 1) := by decide +kernel
theorem d_F_otherwise_0 : decode b_F_otherwise 0 = .ok (.iload_n 2, 1) := by decide +kernel
theorem d_F_otherwise_1 : decode b_F_otherwise 1 = .ok (.iload_n 3, 1) := by decide +kernel
theorem d_F_otherwise_2 : decode b_F_otherwise 2 = .ok (.invokestatic 59, 3) := by decide +kernel
theorem d_F_otherwise_5 : decode b_F_otherwise 5 = .ok (.ifCond .ne 5, 3) := by decide +kernel
theorem d_F_otherwise_8 : decode b_F_otherwise 8 = .ok (.iconst 0, 1) := by decide +kernel
theorem d_F_otherwise_9 : decode b_F_otherwise 9 = .ok (.ireturn, 1) := by decide +kernel
theorem d_F_otherwise_10 : decode b_F_otherwise 10 = .ok (.iload_n 1, 1) := by decide +kernel
theorem d_F_otherwise_11 : decode b_F_otherwise 11 = .ok (.ifCond .eq 13, 3) := by decide +kernel
theorem d_F_otherwise_14 : decode b_F_otherwise 14 = .ok (.aload_n 0, 1) := by decide +kernel
theorem d_F_otherwise_15 : decode b_F_otherwise 15 = .ok (.getfield 21, 3) := by decide +kernel
theorem d_F_otherwise_18 : decode b_F_otherwise 18 = .ok (.getfield 88, 3) := by decide +kernel
theorem d_F_otherwise_21 : decode b_F_otherwise 21 = .ok (.goto 10, 3) := by decide +kernel
theorem d_F_otherwise_24 : decode b_F_otherwise 24 = .ok (.aload_n 0, 1) := by decide +kernel
theorem d_F_otherwise_25 : decode b_F_otherwise 25 = .ok (.getfield 21, 3) := by decide +kernel
theorem d_F_otherwise_28 : decode b_F_otherwise 28 = .ok (.getfield 92, 3) := by decide +kernel
theorem d_F_otherwise_31 : decode b_F_otherwise 31 = .ok (.astore 4, 2) := by decide +kernel
theorem d_F_otherwise_33 : decode b_F_otherwise 33 = .ok (.aload 4, 2) := by decide +kernel
theorem d_F_otherwise_35 : decode b_F_otherwise 35 = .ok (.iload_n 2, 1) := by decide +kernel
theorem d_F_otherwise_36 : decode b_F_otherwise 36 = .ok (.iload_n 3, 1) := by decide +kernel
theorem d_F_otherwise_37 : decode b_F_otherwise 37 = .ok (.invokevirtual 95, 3) := by decide +kernel
theorem d_F_otherwise_40 : decode b_F_otherwise 40 = .ok (.iconst 1, 1) := by decide +kernel
theorem d_F_otherwise_41 : decode b_F_otherwise 41 = .ok (.ireturn, 1) := by decide +kernel
theorem d_F_ruling_0 : decode b_F_ruling 0 = .ok (.aload_n 0, 1) := by decide +kernel
theorem d_F_ruling_1 : decode b_F_ruling 1 = .ok (.getfield 21, 3) := by decide +kernel
theorem d_F_ruling_4 : decode b_F_ruling 4 = .ok (.aload_n 0, 1) := by decide +kernel
theorem d_F_ruling_5 : decode b_F_ruling 5 = .ok (.getfield 10, 3) := by decide +kernel
theorem d_F_ruling_8 : decode b_F_ruling 8 = .ok (.invokevirtual 99, 3) := by decide +kernel
theorem d_F_ruling_11 : decode b_F_ruling 11 = .ok (.ireturn, 1) := by decide +kernel
theorem d_F_decide_0 : decode b_F_decide 0 = .ok (.aload_n 0, 1) := by decide +kernel
theorem d_F_decide_1 : decode b_F_decide 1 = .ok (.getfield 21, 3) := by decide +kernel
theorem d_F_decide_4 : decode b_F_decide 4 = .ok (.aload_n 0, 1) := by decide +kernel
theorem d_F_decide_5 : decode b_F_decide 5 = .ok (.getfield 21, 3) := by decide +kernel
theorem d_F_decide_8 : decode b_F_decide 8 = .ok (.aload_n 0, 1) := by decide +kernel
theorem d_F_decide_9 : decode b_F_decide 9 = .ok (.getfield 10, 3) := by decide +kernel
theorem d_F_decide_12 : decode b_F_decide 12 = .ok (.invokevirtual 99, 3) := by decide +kernel
theorem d_F_decide_15 : decode b_F_decide 15 = .ok (.invokevirtual 103, 3) := by decide +kernel
theorem d_F_decide_18 : decode b_F_decide 18 = .ok (.invokevirtual 107, 3) := by decide +kernel
theorem d_F_decide_21 : decode b_F_decide 21 = .ok (.lreturn, 1) := by decide +kernel
def m_F_rule (P : PT) (fr : Int32) (to : Int32) (kd : Int32) (dt : Int32) : Int32 × PT := if fr < (0 : Int32) then ((-1 : Int32), P) else if to < fr then ((-1 : Int32), P) else if (1073741824 : Int32) ≤ to then ((-1 : Int32), P) else if (m_Ac_isPossible kd dt) = (0 : Int32) then ((-1 : Int32), P) else if P.2.1 < (6 : Int32) then ((m_Po_add P fr to kd dt).1, ((m_Po_add P fr to kd dt).2)) else ((-1 : Int32), P)
set_option maxHeartbeats 4000000 in
set_option maxRecDepth 100000 in
theorem c_F_rule (l : Launch) (D : va_G) (dA : Nat → ClassId) (ad : Nat → Nat) (A : Nat → Prop) (hAd : AdOK 49 ad A) (w : Nat → Int32) (P : PT) (g : GT) (ss : Nat → Int32) (M : MT) (fr : Int32) (to : Int32) (kd : Int32) (dt : Int32) (hn : iN P.2.1 ≤ 6) : Met l y_F_rule (mW y_F_rule b_F_rule 6 (some .int)) { frames := 3, cells := 0, slots := 0, locals := 70 } (va_Pc [.ref (ad 0), .int fr, .int to, .int kd, .int dt] (fun U => CG D dA ad w P g ss M U)) (va_Qi (fun (r : Int32) (u : PT) => r = (m_F_rule P fr to kd dt).1 ∧ u = (m_F_rule P fr to kd dt).2) (fun u t => CG D dA ad w u g ss M t) A) 0 0 A := by
  refine Met.ofW (cc := b_F_rule) (maxL := 6) (ret := (some .int)) (by decide) rfl ?_
  intro p e s m args below meth c s₁ B hml hv
  obtain ⟨rfl, hP, hK, hN⟩ := hv
  have hx := B.exec
  have hb := B.bytes
  have hr := B.returns
  have hlocks := B.notSynchronized
  have hts := fun (w : Cond) (h : w ∈ lw_g) => atoms_spec (ws := mW y_F_rule b_F_rule 6 (some .int)) B.pre w (List.mem_cons_of_mem _ h)
  have hown : s.vm.findClass R_F = some m.cls := findClass_of_methodNamed B.named
  have hS : va_S A s.heap s.heap [] := va_S.rf
  have hl := lv_entry ([.ref (ad 0), .int fr, .int to, .int kd, .int dt]) (n := 6) (Nat.le_of_ble_eq_true rfl)
  rw [lg_entry_eq]
  generalize (lg_sl ([.ref (ad 0), .int fr, .int to, .int kd, .int dt]) ++ List.replicate (6 - (lg_sl ([.ref (ad 0), .int fr, .int to, .int kd, .int dt])).length) Slot.unset).toArray = ls at hl ⊢
  have hl : lv_has ls 6 [(0, .ref (ad 0)), (1, .int fr), (2, .int to), (3, .int kd), (4, .int dt)] := hl
  refine lv_iconst (v := 0) hx hb d_F_rule_0 (by decide) ?_
  refine lv_iload_n hx hb d_F_rule_1 rfl (lv_at hl 1 rfl) ?_
  refine lv_icmp_gt (tgt := 20) hx hb d_F_rule_2 (by decide) (fun h1 => ?_) (fun h1 => ?_)
  · refine lv_iconst (v := 0) hx hb d_F_rule_20 (by decide) ?_
    refine lv_istore hx hb d_F_rule_21 hl (by decide) rfl (fun ls hl => ?_)
    have hl : lv_has ls 6 [(5, .int (0 : Int32)), (0, .ref (ad 0)), (1, .int fr), (2, .int to), (3, .int kd), (4, .int dt)] := hl
    refine lv_iload hx hb d_F_rule_23 (lv_at hl 0 rfl) ?_
    refine lv_if_eq (tgt := 49) hx hb d_F_rule_25 (by decide) (fun _ => ?_) (fun h => absurd h (by decide))
    refine lv_iconst (v := -1) hx hb d_F_rule_49 (by decide) ?_
    exact W.iret hx hb hr (fun t ht hW => ⟨⟨_, _, rfl, ⟨(by rw [m_F_rule, if_pos h1]), (by rw [m_F_rule, if_pos h1])⟩, CG_at hP hK hN ht hW⟩, hS.F ht⟩) hS.2.2 d_F_rule_50
  refine lv_iload_n hx hb d_F_rule_5 rfl (lv_at hl 1 rfl) ?_
  refine lv_iload_n hx hb d_F_rule_6 rfl (lv_at hl 2 rfl) ?_
  refine lv_icmp_gt (tgt := 20) hx hb d_F_rule_7 (by decide) (fun h2 => ?_) (fun h2 => ?_)
  · refine lv_iconst (v := 0) hx hb d_F_rule_20 (by decide) ?_
    refine lv_istore hx hb d_F_rule_21 hl (by decide) rfl (fun ls hl => ?_)
    have hl : lv_has ls 6 [(5, .int (0 : Int32)), (0, .ref (ad 0)), (1, .int fr), (2, .int to), (3, .int kd), (4, .int dt)] := hl
    refine lv_iload hx hb d_F_rule_23 (lv_at hl 0 rfl) ?_
    refine lv_if_eq (tgt := 49) hx hb d_F_rule_25 (by decide) (fun _ => ?_) (fun h => absurd h (by decide))
    refine lv_iconst (v := -1) hx hb d_F_rule_49 (by decide) ?_
    exact W.iret hx hb hr (fun t ht hW => ⟨⟨_, _, rfl, ⟨(by rw [m_F_rule, if_neg h1, if_pos h2]), (by rw [m_F_rule, if_neg h1, if_pos h2])⟩, CG_at hP hK hN ht hW⟩, hS.F ht⟩) hS.2.2 d_F_rule_50
  refine lv_iload_n hx hb d_F_rule_10 rfl (lv_at hl 2 rfl) ?_
  refine lv_ldc (v := 1073741824) hx hb hown (hts _ wd_243) d_F_rule_11 ?_
  refine lv_icmp_ge (tgt := 20) hx hb d_F_rule_13 (by decide) (fun h3 => ?_) (fun h3 => ?_)
  · refine lv_iconst (v := 0) hx hb d_F_rule_20 (by decide) ?_
    refine lv_istore hx hb d_F_rule_21 hl (by decide) rfl (fun ls hl => ?_)
    have hl : lv_has ls 6 [(5, .int (0 : Int32)), (0, .ref (ad 0)), (1, .int fr), (2, .int to), (3, .int kd), (4, .int dt)] := hl
    refine lv_iload hx hb d_F_rule_23 (lv_at hl 0 rfl) ?_
    refine lv_if_eq (tgt := 49) hx hb d_F_rule_25 (by decide) (fun _ => ?_) (fun h => absurd h (by decide))
    refine lv_iconst (v := -1) hx hb d_F_rule_49 (by decide) ?_
    exact W.iret hx hb hr (fun t ht hW => ⟨⟨_, _, rfl, ⟨(by rw [m_F_rule, if_neg h1, if_neg h2, if_pos h3]), (by rw [m_F_rule, if_neg h1, if_neg h2, if_pos h3])⟩, CG_at hP hK hN ht hW⟩, hS.F ht⟩) hS.2.2 d_F_rule_50
  refine lv_iconst (v := 1) hx hb d_F_rule_16 (by decide) ?_
  refine lv_goto (tgt := 21) hx hb d_F_rule_17 (by decide) ?_
  refine lv_istore hx hb d_F_rule_21 hl (by decide) rfl (fun ls hl => ?_)
  have hl : lv_has ls 6 [(5, .int (1 : Int32)), (0, .ref (ad 0)), (1, .int fr), (2, .int to), (3, .int kd), (4, .int dt)] := hl
  refine lv_iload hx hb d_F_rule_23 (lv_at hl 0 rfl) ?_
  refine lv_if_eq (tgt := 49) hx hb d_F_rule_25 (by decide) (fun h => absurd h (by decide)) (fun _ => ?_)
  refine lv_iload_n hx hb d_F_rule_28 rfl (lv_at hl 4 rfl) ?_
  refine lv_iload hx hb d_F_rule_29 (lv_at hl 5 rfl) ?_
  refine vp_callSi (va_Run.run (va_runS (As := [.int kd, .int dt]) (rest := []) ⟨hx, hb, hml, hown, hts⟩ (c_Ac_isPossible l kd dt) (va_cwS 2 hts (g_S wd_244 wd_245 wd_29 wd_246) rfl rfl rfl (by decide +kernel) ⟨Nat.le_of_ble_eq_true rfl, Nat.le_of_ble_eq_true rfl⟩) ⟨fun _ _ _ _ q => q, fun _ _ _ => ⟨rfl, trivial⟩⟩ rfl rfl hl.1 rfl (lv_room (Nat.le_of_ble_eq_true rfl)) d_F_rule_31 ⟨Nat.le_of_ble_eq_true rfl, Nat.le_of_ble_eq_true rfl⟩)) (fun r1 e1 => ?_)
  subst e1
  refine lv_if_eq (tgt := 49) hx hb d_F_rule_34 (by decide) (fun h4 => ?_) (fun h4 => ?_)
  · refine lv_iconst (v := -1) hx hb d_F_rule_49 (by decide) ?_
    exact W.iret hx hb hr (fun t ht hW => ⟨⟨_, _, rfl, ⟨(by rw [m_F_rule, if_neg h1, if_neg h2, if_neg h3, if_pos h4]), (by rw [m_F_rule, if_neg h1, if_neg h2, if_neg h3, if_pos h4])⟩, CG_at hP hK hN ht hW⟩, hS.F ht⟩) hS.2.2 d_F_rule_50
  refine lv_aload_n hx hb d_F_rule_37 rfl (lv_at hl 1 rfl) ?_
  refine va_get (D := D) (ci := 8) (v := .ref (ad 3)) (C := R_F) (T := F_F) (N := 5) hx hb hts in_F hown hK hP 0 rfl rfl 1 (by decide) (hts _ wd_209) (fun _ h9 => h9) rfl d_F_rule_38 ?_
  refine va_get (D := D) (ci := 5) (v := .int P.2.1) (C := R_Po) (T := F_Po) (N := 5) hx hb hts in_Po hown hK hP 3 rfl rfl 3 (by decide) (hts _ wd_133) (fun _ h9 => h9) rfl d_F_rule_41 ?_
  refine lv_bipush (v := 6) hx hb d_F_rule_44 (by decide) ?_
  refine lv_icmp_lt (tgt := 51) hx hb d_F_rule_46 (by decide) (fun h5 => ?_) (fun h5 => ?_)
  · refine lv_aload_n hx hb d_F_rule_51 rfl (lv_at hl 1 rfl) ?_
    refine va_get (D := D) (ci := 8) (v := .ref (ad 3)) (C := R_F) (T := F_F) (N := 5) hx hb hts in_F hown hK hP 0 rfl rfl 1 (by decide) (hts _ wd_209) (fun _ h9 => h9) rfl d_F_rule_52 ?_
    refine lv_iload_n hx hb d_F_rule_55 rfl (lv_at hl 2 rfl) ?_
    refine lv_iload_n hx hb d_F_rule_56 rfl (lv_at hl 3 rfl) ?_
    refine lv_iload_n hx hb d_F_rule_57 rfl (lv_at hl 4 rfl) ?_
    refine lv_iload hx hb d_F_rule_58 (lv_at hl 5 rfl) ?_
    refine va_calli (va_runV (As := [.int fr, .int to, .int kd, .int dt]) (rest := []) ⟨hx, hb, hml, hown, hts⟩ (c_Po_add l D dA ad A hAd w P g ss M fr to kd dt (ix_rules hn (by assumption))) (cwV 4 hts (g_V wd_248 wd_249 wd_250 wd_28 wd_251) rfl rfl rfl (by decide +kernel) ⟨Nat.le_of_ble_eq_true rfl, Nat.le_of_ble_eq_true rfl⟩) ⟨CG_fb, (va_recv (ci := 5) (q := (R_Po, F_Po, 5)) (q0 := 3) hK hP rfl rfl), fun U hU hW => ⟨rfl, CG_at hP hK hN hU hW⟩⟩ rfl rfl hl.1 rfl (lv_room (Nat.le_of_ble_eq_true rfl)) d_F_rule_60 ⟨Nat.le_of_ble_eq_true rfl, Nat.le_of_ble_eq_true rfl⟩) hS (fun _ _ h => h) (fun _ h => h) (fun r2 u1 t H locs ht hvm hu hB hz hk hS => ?_)
    obtain ⟨rfl, rfl⟩ := hu
    obtain ⟨hP, -⟩ := hB
    rw [ht] at hP
    have hP : va_P D cls (wC ad dA w ((m_Po_add P fr to kd dt).2) g ss M) H := hP
    exact W.iret hx hb hr (fun t ht hW => ⟨⟨_, _, rfl, ⟨(by rw [m_F_rule, if_neg h1, if_neg h2, if_neg h3, if_neg h4, if_pos h5]), (by rw [m_F_rule, if_neg h1, if_neg h2, if_neg h3, if_neg h4, if_pos h5])⟩, CG_at hP hK hN ht hW⟩, hS.F ht⟩) hS.2.2 d_F_rule_63
  refine lv_iconst (v := -1) hx hb d_F_rule_49 (by decide) ?_
  exact W.iret hx hb hr (fun t ht hW => ⟨⟨_, _, rfl, ⟨(by rw [m_F_rule, if_neg h1, if_neg h2, if_neg h3, if_neg h4, if_neg h5]), (by rw [m_F_rule, if_neg h1, if_neg h2, if_neg h3, if_neg h4, if_neg h5])⟩, CG_at hP hK hN ht hW⟩, hS.F ht⟩) hS.2.2 d_F_rule_50
def m_F_condition (P : PT) (i : Int32) (op : Int32) (va : Int64) (mk : Int64) : Int32 × PT := if (m_Ca_hasArgument i) = (0 : Int32) then ((0 : Int32), P) else if (m_Co_isOperator op) = (0 : Int32) then ((0 : Int32), P) else if P.2.1 = (0 : Int32) then ((0 : Int32), P) else if ((P.2.2.2.2 ((P.2.1 - (1 : Int32)).toNatClampNeg)).1) < (3 : Int32) then ((1 : Int32), (m_Ru_add P ((P.2.1 - (1 : Int32)).toNatClampNeg) i op va mk)) else ((0 : Int32), P)
set_option maxHeartbeats 4000000 in
set_option maxRecDepth 100000 in
theorem c_F_condition (l : Launch) (D : va_G) (dA : Nat → ClassId) (ad : Nat → Nat) (A : Nat → Prop) (hAd : AdOK 49 ad A) (w : Nat → Int32) (P : PT) (g : GT) (ss : Nat → Int32) (M : MT) (i : Int32) (op : Int32) (va : Int64) (mk : Int64) (hn : iN P.2.1 ≤ 6) (hc : ∀ i, i < 6 → iN (P.2.2.2.2 i).1 ≤ 3) : Met l y_F_condition (mW y_F_condition b_F_condition 8 (some .boolean)) { frames := 2, cells := 0, slots := 0, locals := 52 } (va_Pc [.ref (ad 0), .int i, .int op, .long va, .long mk] (fun U => CG D dA ad w P g ss M U)) (va_Qi (fun (r : Int32) (u : PT) => r = (m_F_condition P i op va mk).1 ∧ u = (m_F_condition P i op va mk).2) (fun u t => CG D dA ad w u g ss M t) A) 0 0 A := by
  refine Met.ofW (cc := b_F_condition) (maxL := 8) (ret := (some .boolean)) (by decide) rfl ?_
  intro p e s m args below meth c s₁ B hml hv
  obtain ⟨rfl, hP, hK, hN⟩ := hv
  have hx := B.exec
  have hb := B.bytes
  have hr := B.returns
  have hlocks := B.notSynchronized
  have hts := fun (w : Cond) (h : w ∈ lw_g) => atoms_spec (ws := mW y_F_condition b_F_condition 8 (some .boolean)) B.pre w (List.mem_cons_of_mem _ h)
  have hown : s.vm.findClass R_F = some m.cls := findClass_of_methodNamed B.named
  have hS : va_S A s.heap s.heap [] := va_S.rf
  have hl := lv_entry ([.ref (ad 0), .int i, .int op, .long va, .long mk]) (n := 8) (Nat.le_of_ble_eq_true rfl)
  rw [lg_entry_eq]
  generalize (lg_sl ([.ref (ad 0), .int i, .int op, .long va, .long mk]) ++ List.replicate (8 - (lg_sl ([.ref (ad 0), .int i, .int op, .long va, .long mk])).length) Slot.unset).toArray = ls at hl ⊢
  have hl : lv_has ls 8 [(0, .ref (ad 0)), (1, .int i), (2, .int op), (3, .long va), (5, .long mk)] := hl
  refine lv_iload_n hx hb d_F_condition_0 rfl (lv_at hl 1 rfl) ?_
  refine vp_callSi (va_Run.run (va_runS (As := [.int i]) (rest := []) ⟨hx, hb, hml, hown, hts⟩ (c_Ca_hasArgument l i) (va_cwS 1 hts (g_S wd_232 wd_233 wd_27 wd_234) rfl rfl rfl (by decide +kernel) ⟨Nat.le_of_ble_eq_true rfl, Nat.le_of_ble_eq_true rfl⟩) ⟨fun _ _ _ _ q => q, fun _ _ _ => ⟨rfl, trivial⟩⟩ rfl rfl hl.1 rfl (lv_room (Nat.le_of_ble_eq_true rfl)) d_F_condition_1 ⟨Nat.le_of_ble_eq_true rfl, Nat.le_of_ble_eq_true rfl⟩)) (fun r1 e1 => ?_)
  subst e1
  refine lv_if_eq (tgt := 24) hx hb d_F_condition_4 (by decide) (fun h1 => ?_) (fun h1 => ?_)
  · refine lv_iconst (v := 0) hx hb d_F_condition_24 (by decide) ?_
    exact W.zret hx hb hr rfl (fun t ht hW => ⟨⟨_, _, rfl, ⟨(by rw [m_F_condition, if_pos h1]), (by rw [m_F_condition, if_pos h1])⟩, CG_at hP hK hN ht hW⟩, hS.F ht⟩) hS.2.2 d_F_condition_25
  refine lv_iload_n hx hb d_F_condition_7 rfl (lv_at hl 2 rfl) ?_
  refine vp_callSi (va_Run.run (va_runS (As := [.int op]) (rest := []) ⟨hx, hb, hml, hown, hts⟩ (c_Co_isOperator l op) (va_cwS 1 hts (g_S wd_264 wd_265 wd_31 wd_266) rfl rfl rfl (by decide +kernel) ⟨Nat.le_of_ble_eq_true rfl, Nat.le_of_ble_eq_true rfl⟩) ⟨fun _ _ _ _ q => q, fun _ _ _ => ⟨rfl, trivial⟩⟩ rfl rfl hl.1 rfl (lv_room (Nat.le_of_ble_eq_true rfl)) d_F_condition_8 ⟨Nat.le_of_ble_eq_true rfl, Nat.le_of_ble_eq_true rfl⟩)) (fun r2 e2 => ?_)
  subst e2
  refine lv_if_eq (tgt := 24) hx hb d_F_condition_11 (by decide) (fun h2 => ?_) (fun h2 => ?_)
  · refine lv_iconst (v := 0) hx hb d_F_condition_24 (by decide) ?_
    exact W.zret hx hb hr rfl (fun t ht hW => ⟨⟨_, _, rfl, ⟨(by rw [m_F_condition, if_neg h1, if_pos h2]), (by rw [m_F_condition, if_neg h1, if_pos h2])⟩, CG_at hP hK hN ht hW⟩, hS.F ht⟩) hS.2.2 d_F_condition_25
  refine lv_aload_n hx hb d_F_condition_14 rfl (lv_at hl 0 rfl) ?_
  refine va_get (D := D) (ci := 8) (v := .ref (ad 3)) (C := R_F) (T := F_F) (N := 5) hx hb hts in_F hown hK hP 0 rfl rfl 1 (by decide) (hts _ wd_209) (fun _ h9 => h9) rfl d_F_condition_15 ?_
  refine va_get (D := D) (ci := 5) (v := .int P.2.1) (C := R_Po) (T := F_Po) (N := 5) hx hb hts in_Po hown hK hP 3 rfl rfl 3 (by decide) (hts _ wd_133) (fun _ h9 => h9) rfl d_F_condition_18 ?_
  refine lv_if_ne (tgt := 26) hx hb d_F_condition_21 (by decide) (fun h3 => ?_) (fun h3 => ?_)
  · refine lv_aload_n hx hb d_F_condition_26 rfl (lv_at hl 0 rfl) ?_
    refine va_get (D := D) (ci := 8) (v := .ref (ad 3)) (C := R_F) (T := F_F) (N := 5) hx hb hts in_F hown hK hP 0 rfl rfl 1 (by decide) (hts _ wd_209) (fun _ h9 => h9) rfl d_F_condition_27 ?_
    refine va_get (D := D) (ci := 5) (v := .ref (ad 6)) (C := R_Po) (T := F_Po) (N := 5) hx hb hts in_Po hown hK hP 3 rfl rfl 2 (by decide) (hts _ wd_131) (fun _ h9 => h9) rfl d_F_condition_30 ?_
    refine lv_aload_n hx hb d_F_condition_33 rfl (lv_at hl 0 rfl) ?_
    refine va_get (D := D) (ci := 8) (v := .ref (ad 3)) (C := R_F) (T := F_F) (N := 5) hx hb hts in_F hown hK hP 0 rfl rfl 1 (by decide) (hts _ wd_209) (fun _ h9 => h9) rfl d_F_condition_34 ?_
    refine va_get (D := D) (ci := 5) (v := .int P.2.1) (C := R_Po) (T := F_Po) (N := 5) hx hb hts in_Po hown hK hP 3 rfl rfl 3 (by decide) (hts _ wd_133) (fun _ h9 => h9) rfl d_F_condition_37 ?_
    refine lv_iconst (v := 1) hx hb d_F_condition_40 (by decide) ?_
    refine lv_isub hx hb d_F_condition_41 ?_
    have hq1 : ((P.2.1 - (1 : Int32)).toNatClampNeg) < 6 := (vp_cl (ix_last hn (by assumption)))
    refine va_aldq (n := 6) (f := rfs ad 6 13 6) hx hb hK hP 6 2 rfl rfl (ix_last hn (by assumption)) d_F_condition_42 ?_
    refine W.eq (g2 := F0 m 43 ls [.ref (ad (13 + 6 * ((P.2.1 - (1 : Int32)).toNatClampNeg)))]) (by rw [rf_at (vp_cl (ix_last hn (by assumption)))]) ?_
    refine lv_astore hx hb d_F_condition_43 hl (by decide) rfl (fun ls hl => ?_)
    have hl : lv_has ls 8 [(7, .ref (ad (13 + 6 * ((P.2.1 - (1 : Int32)).toNatClampNeg)))), (0, .ref (ad 0)), (1, .int i), (2, .int op), (3, .long va), (5, .long mk)] := hl
    refine lv_aload hx hb d_F_condition_45 (lv_at hl 0 rfl) ?_
    refine va_get (D := D) (ci := 7) (v := .int ((P.2.2.2.2 ((P.2.1 - (1 : Int32)).toNatClampNeg)).1)) (C := R_Ru) (T := F_Ru) (N := 5) hx hb hts in_Ru hown hK hP (13 + 6 * ((P.2.1 - (1 : Int32)).toNatClampNeg) + 0) (wC_ru (by omega)) rfl 1 (by decide) (hts _ wd_111) (fun _ h9 => h9) rfl d_F_condition_47 ?_
    refine lv_iconst (v := 3) hx hb d_F_condition_50 (by decide) ?_
    refine lv_icmp_lt (tgt := 56) hx hb d_F_condition_51 (by decide) (fun h4 => ?_) (fun h4 => ?_)
    · refine lv_aload hx hb d_F_condition_56 (lv_at hl 0 rfl) ?_
      refine lv_iload_n hx hb d_F_condition_58 rfl (lv_at hl 2 rfl) ?_
      refine lv_iload_n hx hb d_F_condition_59 rfl (lv_at hl 3 rfl) ?_
      refine lv_lload_n hx hb d_F_condition_60 rfl (lv_at hl 4 rfl) ?_
      refine lv_lload hx hb d_F_condition_61 (lv_at hl 5 rfl) ?_
      refine va_callv (va_runV (As := [.int i, .int op, .long va, .long mk]) (rest := []) ⟨hx, hb, hml, hown, hts⟩ (c_Ru_add l D dA ad A hAd w P g ss M ((P.2.1 - (1 : Int32)).toNatClampNeg) i op va mk (by assumption) (ix_conds (hc _ (by assumption)) (by assumption))) (cwV 4 hts (g_V wd_267 wd_268 wd_269 wd_30 wd_270) rfl rfl rfl (by decide +kernel) ⟨Nat.le_of_ble_eq_true rfl, Nat.le_of_ble_eq_true rfl⟩) ⟨CG_fb, (va_recv (ci := 7) (q := (R_Ru, F_Ru, 5)) (q0 := (13 + 6 * ((P.2.1 - (1 : Int32)).toNatClampNeg) + 0)) hK hP rfl (wC_ru (by omega))), fun U hU hW => ⟨rfl, CG_at hP hK hN hU hW⟩⟩ rfl rfl hl.1 rfl (lv_room (Nat.le_of_ble_eq_true rfl)) d_F_condition_63 ⟨Nat.le_of_ble_eq_true rfl, Nat.le_of_ble_eq_true rfl⟩) hS (fun _ _ h => h) (fun _ h => h) (fun u1 t H locs ht hvm hu hB hz hk hS => ?_)
      subst hu
      obtain ⟨hP, -⟩ := hB
      rw [ht] at hP
      have hP : va_P D cls (wC ad dA w (m_Ru_add P ((P.2.1 - (1 : Int32)).toNatClampNeg) i op va mk) g ss M) H := hP
      refine lv_iconst (v := 1) hx hb d_F_condition_66 (by decide) ?_
      exact W.zret hx hb hr rfl (fun t ht hW => ⟨⟨_, _, rfl, ⟨(by rw [m_F_condition, if_neg h1, if_neg h2, if_neg h3, if_pos h4]), (by rw [m_F_condition, if_neg h1, if_neg h2, if_neg h3, if_pos h4])⟩, CG_at hP hK hN ht hW⟩, hS.F ht⟩) hS.2.2 d_F_condition_67
    refine lv_iconst (v := 0) hx hb d_F_condition_54 (by decide) ?_
    exact W.zret hx hb hr rfl (fun t ht hW => ⟨⟨_, _, rfl, ⟨(by rw [m_F_condition, if_neg h1, if_neg h2, if_neg h3, if_neg h4]), (by rw [m_F_condition, if_neg h1, if_neg h2, if_neg h3, if_neg h4])⟩, CG_at hP hK hN ht hW⟩, hS.F ht⟩) hS.2.2 d_F_condition_55
  refine lv_iconst (v := 0) hx hb d_F_condition_24 (by decide) ?_
  exact W.zret hx hb hr rfl (fun t ht hW => ⟨⟨_, _, rfl, ⟨(by rw [m_F_condition, if_neg h1, if_neg h2, if_pos h3]), (by rw [m_F_condition, if_neg h1, if_neg h2, if_pos h3])⟩, CG_at hP hK hN ht hW⟩, hS.F ht⟩) hS.2.2 d_F_condition_25
def m_F_otherwise (P : PT) (fg : Int32) (kd : Int32) (dt : Int32) : Int32 × PT := if (m_Ac_isPossible kd dt) = (0 : Int32) then ((0 : Int32), P) else if fg = (0 : Int32) then ((1 : Int32), (m_Ac_become_d P kd dt)) else ((1 : Int32), (m_Ac_become_f P kd dt))
set_option maxHeartbeats 4000000 in
set_option maxRecDepth 100000 in
theorem c_F_otherwise (l : Launch) (D : va_G) (dA : Nat → ClassId) (ad : Nat → Nat) (A : Nat → Prop) (hAd : AdOK 49 ad A) (w : Nat → Int32) (P : PT) (g : GT) (ss : Nat → Int32) (M : MT) (fg : Int32) (kd : Int32) (dt : Int32) : Met l y_F_otherwise (mW y_F_otherwise b_F_otherwise 5 (some .boolean)) { frames := 1, cells := 0, slots := 0, locals := 22 } (va_Pc [.ref (ad 0), .int fg, .int kd, .int dt] (fun U => CG D dA ad w P g ss M U)) (va_Qi (fun (r : Int32) (u : PT) => r = (m_F_otherwise P fg kd dt).1 ∧ u = (m_F_otherwise P fg kd dt).2) (fun u t => CG D dA ad w u g ss M t) A) 0 0 A := by
  refine Met.ofW (cc := b_F_otherwise) (maxL := 5) (ret := (some .boolean)) (by decide) rfl ?_
  intro p e s m args below meth c s₁ B hml hv
  obtain ⟨rfl, hP, hK, hN⟩ := hv
  have hx := B.exec
  have hb := B.bytes
  have hr := B.returns
  have hlocks := B.notSynchronized
  have hts := fun (w : Cond) (h : w ∈ lw_g) => atoms_spec (ws := mW y_F_otherwise b_F_otherwise 5 (some .boolean)) B.pre w (List.mem_cons_of_mem _ h)
  have hown : s.vm.findClass R_F = some m.cls := findClass_of_methodNamed B.named
  have hS : va_S A s.heap s.heap [] := va_S.rf
  have hl := lv_entry ([.ref (ad 0), .int fg, .int kd, .int dt]) (n := 5) (Nat.le_of_ble_eq_true rfl)
  rw [lg_entry_eq]
  generalize (lg_sl ([.ref (ad 0), .int fg, .int kd, .int dt]) ++ List.replicate (5 - (lg_sl ([.ref (ad 0), .int fg, .int kd, .int dt])).length) Slot.unset).toArray = ls at hl ⊢
  have hl : lv_has ls 5 [(0, .ref (ad 0)), (1, .int fg), (2, .int kd), (3, .int dt)] := hl
  refine lv_iload_n hx hb d_F_otherwise_0 rfl (lv_at hl 2 rfl) ?_
  refine lv_iload_n hx hb d_F_otherwise_1 rfl (lv_at hl 3 rfl) ?_
  refine vp_callSi (va_Run.run (va_runS (As := [.int kd, .int dt]) (rest := []) ⟨hx, hb, hml, hown, hts⟩ (c_Ac_isPossible l kd dt) (va_cwS 2 hts (g_S wd_244 wd_245 wd_29 wd_246) rfl rfl rfl (by decide +kernel) ⟨Nat.le_of_ble_eq_true rfl, Nat.le_of_ble_eq_true rfl⟩) ⟨fun _ _ _ _ q => q, fun _ _ _ => ⟨rfl, trivial⟩⟩ rfl rfl hl.1 rfl (lv_room (Nat.le_of_ble_eq_true rfl)) d_F_otherwise_2 ⟨Nat.le_of_ble_eq_true rfl, Nat.le_of_ble_eq_true rfl⟩)) (fun r1 e1 => ?_)
  subst e1
  refine lv_if_ne (tgt := 10) hx hb d_F_otherwise_5 (by decide) (fun h1 => ?_) (fun h1 => ?_)
  · refine lv_iload_n hx hb d_F_otherwise_10 rfl (lv_at hl 1 rfl) ?_
    refine lv_if_eq (tgt := 24) hx hb d_F_otherwise_11 (by decide) (fun h2 => ?_) (fun h2 => ?_)
    · refine lv_aload_n hx hb d_F_otherwise_24 rfl (lv_at hl 0 rfl) ?_
      refine va_get (D := D) (ci := 8) (v := .ref (ad 3)) (C := R_F) (T := F_F) (N := 5) hx hb hts in_F hown hK hP 0 rfl rfl 1 (by decide) (hts _ wd_209) (fun _ h9 => h9) rfl d_F_otherwise_25 ?_
      refine va_get (D := D) (ci := 5) (v := .ref (ad 4)) (C := R_Po) (T := F_Po) (N := 5) hx hb hts in_Po hown hK hP 3 rfl rfl 0 (by decide) (hts _ wd_127) (fun _ h9 => h9) rfl d_F_otherwise_28 ?_
      refine lv_astore hx hb d_F_otherwise_31 hl (by decide) rfl (fun ls hl => ?_)
      have hl : lv_has ls 5 [(4, .ref (ad 4)), (0, .ref (ad 0)), (1, .int fg), (2, .int kd), (3, .int dt)] := hl
      refine lv_aload hx hb d_F_otherwise_33 (lv_at hl 0 rfl) ?_
      refine lv_iload_n hx hb d_F_otherwise_35 rfl (lv_at hl 3 rfl) ?_
      refine lv_iload_n hx hb d_F_otherwise_36 rfl (lv_at hl 4 rfl) ?_
      refine va_callv (va_runV (As := [.int kd, .int dt]) (rest := []) ⟨hx, hb, hml, hown, hts⟩ (c_Ac_become_d l D dA ad A hAd w P g ss M kd dt) (cwV 2 hts (g_V wd_279 wd_257 wd_258 wd_29 wd_259) rfl rfl rfl (by decide +kernel) ⟨Nat.le_of_ble_eq_true rfl, Nat.le_of_ble_eq_true rfl⟩) ⟨CG_fb, (va_recv (ci := 0) (q := (R_Ac, F_Ac, 2)) (q0 := 4) hK hP rfl rfl), fun U hU hW => ⟨rfl, CG_at hP hK hN hU hW⟩⟩ rfl rfl hl.1 rfl (lv_room (Nat.le_of_ble_eq_true rfl)) d_F_otherwise_37 ⟨Nat.le_of_ble_eq_true rfl, Nat.le_of_ble_eq_true rfl⟩) hS (fun _ _ h => h) (fun _ h => h) (fun u1 t H locs ht hvm hu hB hz hk hS => ?_)
      subst hu
      obtain ⟨hP, -⟩ := hB
      rw [ht] at hP
      have hP : va_P D cls (wC ad dA w (m_Ac_become_d P kd dt) g ss M) H := hP
      refine lv_iconst (v := 1) hx hb d_F_otherwise_40 (by decide) ?_
      exact W.zret hx hb hr rfl (fun t ht hW => ⟨⟨_, _, rfl, ⟨(by rw [m_F_otherwise, if_neg h1, if_pos h2]), (by rw [m_F_otherwise, if_neg h1, if_pos h2])⟩, CG_at hP hK hN ht hW⟩, hS.F ht⟩) hS.2.2 d_F_otherwise_41
    refine lv_aload_n hx hb d_F_otherwise_14 rfl (lv_at hl 0 rfl) ?_
    refine va_get (D := D) (ci := 8) (v := .ref (ad 3)) (C := R_F) (T := F_F) (N := 5) hx hb hts in_F hown hK hP 0 rfl rfl 1 (by decide) (hts _ wd_209) (fun _ h9 => h9) rfl d_F_otherwise_15 ?_
    refine va_get (D := D) (ci := 5) (v := .ref (ad 5)) (C := R_Po) (T := F_Po) (N := 5) hx hb hts in_Po hown hK hP 3 rfl rfl 1 (by decide) (hts _ wd_129) (fun _ h9 => h9) rfl d_F_otherwise_18 ?_
    refine lv_goto (tgt := 31) hx hb d_F_otherwise_21 (by decide) ?_
    refine lv_astore hx hb d_F_otherwise_31 hl (by decide) rfl (fun ls hl => ?_)
    have hl : lv_has ls 5 [(4, .ref (ad 5)), (0, .ref (ad 0)), (1, .int fg), (2, .int kd), (3, .int dt)] := hl
    refine lv_aload hx hb d_F_otherwise_33 (lv_at hl 0 rfl) ?_
    refine lv_iload_n hx hb d_F_otherwise_35 rfl (lv_at hl 3 rfl) ?_
    refine lv_iload_n hx hb d_F_otherwise_36 rfl (lv_at hl 4 rfl) ?_
    refine va_callv (va_runV (As := [.int kd, .int dt]) (rest := []) ⟨hx, hb, hml, hown, hts⟩ (c_Ac_become_f l D dA ad A hAd w P g ss M kd dt) (cwV 2 hts (g_V wd_279 wd_257 wd_258 wd_29 wd_259) rfl rfl rfl (by decide +kernel) ⟨Nat.le_of_ble_eq_true rfl, Nat.le_of_ble_eq_true rfl⟩) ⟨CG_fb, (va_recv (ci := 0) (q := (R_Ac, F_Ac, 2)) (q0 := 5) hK hP rfl rfl), fun U hU hW => ⟨rfl, CG_at hP hK hN hU hW⟩⟩ rfl rfl hl.1 rfl (lv_room (Nat.le_of_ble_eq_true rfl)) d_F_otherwise_37 ⟨Nat.le_of_ble_eq_true rfl, Nat.le_of_ble_eq_true rfl⟩) hS (fun _ _ h => h) (fun _ h => h) (fun u2 t H locs ht hvm hu hB hz hk hS => ?_)
    subst hu
    obtain ⟨hP, -⟩ := hB
    rw [ht] at hP
    have hP : va_P D cls (wC ad dA w (m_Ac_become_f P kd dt) g ss M) H := hP
    refine lv_iconst (v := 1) hx hb d_F_otherwise_40 (by decide) ?_
    exact W.zret hx hb hr rfl (fun t ht hW => ⟨⟨_, _, rfl, ⟨(by rw [m_F_otherwise, if_neg h1, if_neg h2]), (by rw [m_F_otherwise, if_neg h1, if_neg h2])⟩, CG_at hP hK hN ht hW⟩, hS.F ht⟩) hS.2.2 d_F_otherwise_41
  refine lv_iconst (v := 0) hx hb d_F_otherwise_8 (by decide) ?_
  exact W.zret hx hb hr rfl (fun t ht hW => ⟨⟨_, _, rfl, ⟨(by rw [m_F_otherwise, if_pos h1]), (by rw [m_F_otherwise, if_pos h1])⟩, CG_at hP hK hN ht hW⟩, hS.F ht⟩) hS.2.2 d_F_otherwise_9
def m_F_ruling (w : Nat → Int32) (P : PT) : Int32 := m_Po_chooseFor w P
set_option maxHeartbeats 4000000 in
set_option maxRecDepth 100000 in
theorem c_F_ruling (l : Launch) (D : va_G) (dA : Nat → ClassId) (ad : Nat → Nat) (w : Nat → Int32) (P : PT) (g : GT) (ss : Nat → Int32) (M : MT) (hn : iN P.2.1 ≤ 6) (hc : ∀ i, i < 6 → iN (P.2.2.2.2 i).1 ≤ 3) (hp : ∀ i, i < 6 → ∀ j, j < 3 → vp_in ((P.2.2.2.2 i).2.2.2.2.2 j).1 6) : Met l y_F_ruling (mW y_F_ruling b_F_ruling 1 (some .int)) { frames := 5, cells := 0, slots := 0, locals := 110 } (va_Pc [.ref (ad 0)] (fun U => CG D dA ad w P g ss M U)) (vp_Si (fun r => r = m_F_ruling w P)) 0 0 (fun _ => False) := by
  refine Met.ofW (cc := b_F_ruling) (maxL := 1) (ret := (some .int)) (by decide) rfl ?_
  intro p e s m args below meth c s₁ B hml hv
  obtain ⟨rfl, hP, hK, hN⟩ := hv
  have hx := B.exec
  have hb := B.bytes
  have hr := B.returns
  have hlocks := B.notSynchronized
  have hts := fun (w : Cond) (h : w ∈ lw_g) => atoms_spec (ws := mW y_F_ruling b_F_ruling 1 (some .int)) B.pre w (List.mem_cons_of_mem _ h)
  have hown : s.vm.findClass R_F = some m.cls := findClass_of_methodNamed B.named
  have hl := lv_entry ([.ref (ad 0)]) (n := 1) (Nat.le_of_ble_eq_true rfl)
  rw [lg_entry_eq]
  generalize (lg_sl ([.ref (ad 0)]) ++ List.replicate (1 - (lg_sl ([.ref (ad 0)])).length) Slot.unset).toArray = ls at hl ⊢
  have hl : lv_has ls 1 [(0, .ref (ad 0))] := hl
  refine lv_aload_n hx hb d_F_ruling_0 rfl (lv_at hl 0 rfl) ?_
  refine va_get (D := D) (ci := 8) (v := .ref (ad 3)) (C := R_F) (T := F_F) (N := 5) hx hb hts in_F hown hK hP 0 rfl rfl 1 (by decide) (hts _ wd_209) (fun _ h9 => h9) rfl d_F_ruling_1 ?_
  refine lv_aload_n hx hb d_F_ruling_4 rfl (lv_at hl 0 rfl) ?_
  refine va_get (D := D) (ci := 8) (v := .ref (ad 1)) (C := R_F) (T := F_F) (N := 5) hx hb hts in_F hown hK hP 0 rfl rfl 0 (by decide) (hts _ wd_208) (fun _ h9 => h9) rfl d_F_ruling_5 ?_
  refine vp_callSi (va_Run.run (va_runV (As := [.ref (ad 1)]) (rest := []) ⟨hx, hb, hml, hown, hts⟩ (c_Po_chooseFor l D dA ad w P g ss M hn hc hp) (cwV 1 hts (g_V wd_288 wd_289 wd_290 wd_28 wd_291) rfl rfl rfl (by decide +kernel) ⟨Nat.le_of_ble_eq_true rfl, Nat.le_of_ble_eq_true rfl⟩) ⟨CG_fb, (va_recv (ci := 5) (q := (R_Po, F_Po, 5)) (q0 := 3) hK hP rfl rfl), fun U hU hW => ⟨rfl, CG_at hP hK hN hU hW⟩⟩ rfl rfl hl.1 rfl (lv_room (Nat.le_of_ble_eq_true rfl)) d_F_ruling_8 ⟨Nat.le_of_ble_eq_true rfl, Nat.le_of_ble_eq_true rfl⟩)) (fun r1 e1 => ?_)
  subst e1
  exact W.iret hx hb hr (fun t ht hW => ⟨_, rfl, (by rw [m_F_ruling]), ht⟩) (fun _ h => by cases h) d_F_ruling_11
def m_F_decide (w : Nat → Int32) (P : PT) : Int64 := if (m_Po_chooseFor w P) = (-2 : Int32) then m_Ac_asWord_f P else if (m_Po_chooseFor w P) = (-1 : Int32) then m_Ac_asWord_d P else m_Ac_asWord_r P ((m_Po_chooseFor w P).toNatClampNeg)
set_option maxHeartbeats 4000000 in
set_option maxRecDepth 100000 in
theorem c_F_decide (l : Launch) (D : va_G) (dA : Nat → ClassId) (ad : Nat → Nat) (kt : Nat) (w : Nat → Int32) (P : PT) (g : GT) (ss : Nat → Int32) (M : MT) (hn : iN P.2.1 ≤ 6) (hc : ∀ i, i < 6 → iN (P.2.2.2.2 i).1 ≤ 3) (hp : ∀ i, i < 6 → ∀ j, j < 3 → vp_in ((P.2.2.2.2 i).2.2.2.2.2 j).1 6) (hkd : vp_in P.2.2.1.1 7) (hkf : vp_in P.2.2.2.1.1 7) (hkr : ∀ i, i < 6 → vp_in (P.2.2.2.2 i).2.2.2.1 7) : Met l y_F_decide (mW y_F_decide b_F_decide 1 (some .long)) { frames := 5, cells := 0, slots := 0, locals := 110 } (va_Pc [.ref (ad 0)] (fun U => CG D dA ad w P g ss M U ∧ KW kt U)) (vp_Sl (fun r => r = m_F_decide w P)) 0 0 (fun _ => False) := by
  refine Met.ofW (cc := b_F_decide) (maxL := 1) (ret := (some .long)) (by decide) rfl ?_
  intro p e s m args below meth c s₁ B hml hv
  obtain ⟨rfl, ⟨hP, hK, hN⟩, hkw⟩ := hv
  have hx := B.exec
  have hb := B.bytes
  have hr := B.returns
  have hlocks := B.notSynchronized
  have hts := fun (w : Cond) (h : w ∈ lw_g) => atoms_spec (ws := mW y_F_decide b_F_decide 1 (some .long)) B.pre w (List.mem_cons_of_mem _ h)
  have hown : s.vm.findClass R_F = some m.cls := findClass_of_methodNamed B.named
  have hZ := hkw.1
  have hT := hkw.2
  have hl := lv_entry ([.ref (ad 0)]) (n := 1) (Nat.le_of_ble_eq_true rfl)
  rw [lg_entry_eq]
  generalize (lg_sl ([.ref (ad 0)]) ++ List.replicate (1 - (lg_sl ([.ref (ad 0)])).length) Slot.unset).toArray = ls at hl ⊢
  have hl : lv_has ls 1 [(0, .ref (ad 0))] := hl
  refine lv_aload_n hx hb d_F_decide_0 rfl (lv_at hl 0 rfl) ?_
  refine va_get (D := D) (ci := 8) (v := .ref (ad 3)) (C := R_F) (T := F_F) (N := 5) hx hb hts in_F hown hK hP 0 rfl rfl 1 (by decide) (hts _ wd_209) (fun _ h9 => h9) rfl d_F_decide_1 ?_
  refine lv_aload_n hx hb d_F_decide_4 rfl (lv_at hl 0 rfl) ?_
  refine va_get (D := D) (ci := 8) (v := .ref (ad 3)) (C := R_F) (T := F_F) (N := 5) hx hb hts in_F hown hK hP 0 rfl rfl 1 (by decide) (hts _ wd_209) (fun _ h9 => h9) rfl d_F_decide_5 ?_
  refine lv_aload_n hx hb d_F_decide_8 rfl (lv_at hl 0 rfl) ?_
  refine va_get (D := D) (ci := 8) (v := .ref (ad 1)) (C := R_F) (T := F_F) (N := 5) hx hb hts in_F hown hK hP 0 rfl rfl 0 (by decide) (hts _ wd_208) (fun _ h9 => h9) rfl d_F_decide_9 ?_
  refine vp_callSi (va_Run.run (va_runV (As := [.ref (ad 1)]) (rest := [.ref (ad 3)]) ⟨hx, hb, hml, hown, hts⟩ (c_Po_chooseFor l D dA ad w P g ss M hn hc hp) (cwV 1 hts (g_V wd_288 wd_289 wd_290 wd_28 wd_291) rfl rfl rfl (by decide +kernel) ⟨Nat.le_of_ble_eq_true rfl, Nat.le_of_ble_eq_true rfl⟩) ⟨CG_fb, (va_recv (ci := 5) (q := (R_Po, F_Po, 5)) (q0 := 3) hK hP rfl rfl), fun U hU hW => ⟨rfl, CG_at hP hK hN hU hW⟩⟩ rfl rfl hl.1 rfl (lv_room (Nat.le_of_ble_eq_true rfl)) d_F_decide_12 ⟨Nat.le_of_ble_eq_true rfl, Nat.le_of_ble_eq_true rfl⟩)) (fun r1 e1 => ?_)
  subst e1
  refine vp_callSr (va_Run.run (va_runV (As := [.int (m_Po_chooseFor w P)]) (rest := []) ⟨hx, hb, hml, hown, hts⟩ (c_Po_actionOf l D dA ad w P g ss M (m_Po_chooseFor w P) (choose_rng hn hc)) (cwV 1 hts (g_V wd_326 wd_327 wd_328 wd_28 wd_329) rfl rfl rfl (by decide +kernel) ⟨Nat.le_of_ble_eq_true rfl, Nat.le_of_ble_eq_true rfl⟩) ⟨CG_fb, (va_recv (ci := 5) (q := (R_Po, F_Po, 5)) (q0 := 3) hK hP rfl rfl), fun U hU hW => ⟨rfl, CG_at hP hK hN hU hW⟩⟩ rfl rfl hl.1 rfl (lv_room (Nat.le_of_ble_eq_true rfl)) d_F_decide_15 ⟨Nat.le_of_ble_eq_true rfl, Nat.le_of_ble_eq_true rfl⟩)) (fun r2 e2 => ?_)
  subst e2
  by_cases hA1 : m_Po_chooseFor w P = (-2 : Int32)
  · refine W.eq (g2 := F0 m 18 ls [.ref (ad 5)]) (by rw [m_Po_actionOf, if_pos hA1]) ?_
    refine vp_callSl (va_Run.run (va_runV (As := []) (rest := []) ⟨hx, hb, hml, hown, hts⟩ (c_Ac_asWord_f l D dA ad kt w P g ss M hkf) (cwV 0 hts (g_V wd_330 wd_331 wd_332 wd_29 wd_333) rfl rfl rfl (by decide +kernel) ⟨Nat.le_of_ble_eq_true rfl, Nat.le_of_ble_eq_true rfl⟩) ⟨CGk_fb, (va_recv (ci := 0) (q := (R_Ac, F_Ac, 2)) (q0 := 5) hK hP rfl rfl), fun U hU hW => ⟨rfl, CG_at hP hK hN hU hW, KW_at hkw hU hW⟩⟩ rfl rfl hl.1 rfl (lv_room (Nat.le_of_ble_eq_true rfl)) d_F_decide_18 ⟨Nat.le_of_ble_eq_true rfl, Nat.le_of_ble_eq_true rfl⟩)) (fun r3 e3 => ?_)
    subst e3
    exact W.lret hx hb hr (fun t ht hW => ⟨_, rfl, (by rw [m_F_decide, if_pos hA1]), ht⟩) (fun _ h => by cases h) d_F_decide_21
  by_cases hB1 : m_Po_chooseFor w P = (-1 : Int32)
  · refine W.eq (g2 := F0 m 18 ls [.ref (ad 4)]) (by rw [m_Po_actionOf, if_neg hA1, if_pos hB1]) ?_
    refine vp_callSl (va_Run.run (va_runV (As := []) (rest := []) ⟨hx, hb, hml, hown, hts⟩ (c_Ac_asWord_d l D dA ad kt w P g ss M hkd) (cwV 0 hts (g_V wd_330 wd_331 wd_332 wd_29 wd_333) rfl rfl rfl (by decide +kernel) ⟨Nat.le_of_ble_eq_true rfl, Nat.le_of_ble_eq_true rfl⟩) ⟨CGk_fb, (va_recv (ci := 0) (q := (R_Ac, F_Ac, 2)) (q0 := 4) hK hP rfl rfl), fun U hU hW => ⟨rfl, CG_at hP hK hN hU hW, KW_at hkw hU hW⟩⟩ rfl rfl hl.1 rfl (lv_room (Nat.le_of_ble_eq_true rfl)) d_F_decide_18 ⟨Nat.le_of_ble_eq_true rfl, Nat.le_of_ble_eq_true rfl⟩)) (fun r4 e4 => ?_)
    subst e4
    exact W.lret hx hb hr (fun t ht hW => ⟨_, rfl, (by rw [m_F_decide, if_neg hA1, if_pos hB1]), ht⟩) (fun _ h => by cases h) d_F_decide_21
  have hv1 : ((m_Po_chooseFor w P).toNatClampNeg) < 6 := vp_cl (choose_rng hn hc hA1 hB1)
  refine W.eq (g2 := F0 m 18 ls [.ref (ad (14 + 6 * ((m_Po_chooseFor w P).toNatClampNeg)))]) (by rw [m_Po_actionOf, if_neg hA1, if_neg hB1]) ?_
  refine vp_callSl (va_Run.run (va_runV (As := []) (rest := []) ⟨hx, hb, hml, hown, hts⟩ (c_Ac_asWord_r l D dA ad kt w P g ss M ((m_Po_chooseFor w P).toNatClampNeg) (by assumption) (hkr _ (by assumption))) (cwV 0 hts (g_V wd_330 wd_331 wd_332 wd_29 wd_333) rfl rfl rfl (by decide +kernel) ⟨Nat.le_of_ble_eq_true rfl, Nat.le_of_ble_eq_true rfl⟩) ⟨CGk_fb, (va_recv (ci := 0) (q := (R_Ac, F_Ac, 2)) (q0 := (13 + 6 * ((m_Po_chooseFor w P).toNatClampNeg) + 1)) hK hP rfl (wC_ra (by omega))), fun U hU hW => ⟨rfl, CG_at hP hK hN hU hW, KW_at hkw hU hW⟩⟩ rfl rfl hl.1 rfl (lv_room (Nat.le_of_ble_eq_true rfl)) d_F_decide_18 ⟨Nat.le_of_ble_eq_true rfl, Nat.le_of_ble_eq_true rfl⟩)) (fun r5 e5 => ?_)
  subst e5
  exact W.lret hx hb hr (fun t ht hW => ⟨_, rfl, (by rw [m_F_decide, if_neg hA1, if_neg hB1]), ht⟩) (fun _ h => by cases h) d_F_decide_21
