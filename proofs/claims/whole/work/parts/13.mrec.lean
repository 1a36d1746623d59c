theorem wd_596 : Cond.constantLong R_M 58 4294967295 ∈ lw_g := wd_in (i := 596) (by decide +kernel) (by decide +kernel)
theorem d_M_below_0 : decode b_M_below 0 = .ok (.lload_n 0, 1) := by decide +kernel
theorem d_M_below_1 : decode b_M_below 1 = .ok (.bipush 32, 2) := by decide +kernel
theorem d_M_below_3 : decode b_M_below 3 = .ok (.lushr, 1) := by decide +kernel
theorem d_M_below_4 : decode b_M_below 4 = .ok (.lstore 4, 2) := by decide +kernel
theorem d_M_below_6 : decode b_M_below 6 = .ok (.lload_n 2, 1) := by decide +kernel
theorem d_M_below_7 : decode b_M_below 7 = .ok (.bipush 32, 2) := by decide +kernel
theorem d_M_below_9 : decode b_M_below 9 = .ok (.lushr, 1) := by decide +kernel
theorem d_M_below_10 : decode b_M_below 10 = .ok (.lstore 6, 2) := by decide +kernel
theorem d_M_below_12 : decode b_M_below 12 = .ok (.lload 4, 2) := by decide +kernel
theorem d_M_below_14 : decode b_M_below 14 = .ok (.lload 6, 2) := by decide +kernel
theorem d_M_below_16 : decode b_M_below 16 = .ok (.lcmp, 1) := by decide +kernel
theorem d_M_below_17 : decode b_M_below 17 = .ok (.ifCond .lt 25, 3) := by decide +kernel
theorem d_M_below_20 : decode b_M_below 20 = .ok (.lload 4, 2) := by decide +kernel
theorem d_M_below_22 : decode b_M_below 22 = .ok (.lload 6, 2) := by decide +kernel
theorem d_M_below_24 : decode b_M_below 24 = .ok (.lcmp, 1) := by decide +kernel
theorem d_M_below_25 : decode b_M_below 25 = .ok (.ifCond .ne 21, 3) := by decide +kernel
theorem d_M_below_28 : decode b_M_below 28 = .ok (.lload_n 0, 1) := by decide +kernel
theorem d_M_below_29 : decode b_M_below 29 = .ok (.ldc2_w 58, 3) := by decide +kernel
theorem d_M_below_32 : decode b_M_below 32 = .ok (.land, 1) := by decide +kernel
theorem d_M_below_33 : decode b_M_below 33 = .ok (.lload_n 2, 1) := by decide +kernel
theorem d_M_below_34 : decode b_M_below 34 = .ok (.ldc2_w 58, 3) := by decide +kernel
theorem d_M_below_37 : decode b_M_below 37 = .ok (.land, 1) := by decide +kernel
theorem d_M_below_38 : decode b_M_below 38 = .ok (.lcmp, 1) := by decide +kernel
theorem d_M_below_39 : decode b_M_below 39 = .ok (.ifCond .ge 7, 3) := by decide +kernel
theorem d_M_below_42 : decode b_M_below 42 = .ok (.iconst 1, 1) := by decide +kernel
theorem d_M_below_43 : decode b_M_below 43 = .ok (.goto 4, 3) := by decide +kernel
theorem d_M_below_46 : decode b_M_below 46 = .ok (.iconst 0, 1) := by decide +kernel
theorem d_M_below_47 : decode b_M_below 47 = .ok (.ireturn, 1) := by decide +kernel
theorem d_M_operation_0 : decode b_M_operation 0 = .ok (.iload_n 0, 1) := by decide +kernel
theorem d_M_operation_1 : decode b_M_operation 1 = .ok (.bipush (-9), 2) := by decide +kernel
theorem d_M_operation_3 : decode b_M_operation 3 = .ok (.iand, 1) := by decide +kernel
theorem d_M_operation_4 : decode b_M_operation 4 = .ok (.istore_n 1, 1) := by decide +kernel
theorem d_M_operation_5 : decode b_M_operation 5 = .ok (.iload_n 1, 1) := by decide +kernel
theorem d_M_operation_6 : decode b_M_operation 6 = .ok (.iconst 4, 1) := by decide +kernel
theorem d_M_operation_7 : decode b_M_operation 7 = .ok (.if_icmp .eq 52, 3) := by decide +kernel
theorem d_M_operation_10 : decode b_M_operation 10 = .ok (.iload_n 1, 1) := by decide +kernel
theorem d_M_operation_11 : decode b_M_operation 11 = .ok (.bipush 20, 2) := by decide +kernel
theorem d_M_operation_13 : decode b_M_operation 13 = .ok (.if_icmp .eq 46, 3) := by decide +kernel
theorem d_M_operation_16 : decode b_M_operation 16 = .ok (.iload_n 1, 1) := by decide +kernel
theorem d_M_operation_17 : decode b_M_operation 17 = .ok (.bipush 36, 2) := by decide +kernel
theorem d_M_operation_19 : decode b_M_operation 19 = .ok (.if_icmp .eq 40, 3) := by decide +kernel
theorem d_M_operation_22 : decode b_M_operation 22 = .ok (.iload_n 1, 1) := by decide +kernel
theorem d_M_operation_23 : decode b_M_operation 23 = .ok (.bipush 52, 2) := by decide +kernel
theorem d_M_operation_25 : decode b_M_operation 25 = .ok (.if_icmp .eq 34, 3) := by decide +kernel
theorem d_M_operation_28 : decode b_M_operation 28 = .ok (.iload_n 1, 1) := by decide +kernel
theorem d_M_operation_29 : decode b_M_operation 29 = .ok (.bipush 68, 2) := by decide +kernel
theorem d_M_operation_31 : decode b_M_operation 31 = .ok (.if_icmp .eq 28, 3) := by decide +kernel
theorem d_M_operation_34 : decode b_M_operation 34 = .ok (.iload_n 1, 1) := by decide +kernel
theorem d_M_operation_35 : decode b_M_operation 35 = .ok (.bipush 84, 2) := by decide +kernel
theorem d_M_operation_37 : decode b_M_operation 37 = .ok (.if_icmp .eq 22, 3) := by decide +kernel
theorem d_M_operation_40 : decode b_M_operation 40 = .ok (.iload_n 1, 1) := by decide +kernel
theorem d_M_operation_41 : decode b_M_operation 41 = .ok (.bipush 100, 2) := by decide +kernel
theorem d_M_operation_43 : decode b_M_operation 43 = .ok (.if_icmp .eq 16, 3) := by decide +kernel
theorem d_M_operation_46 : decode b_M_operation 46 = .ok (.iload_n 1, 1) := by decide +kernel
theorem d_M_operation_47 : decode b_M_operation 47 = .ok (.bipush 116, 2) := by decide +kernel
theorem d_M_operation_49 : decode b_M_operation 49 = .ok (.if_icmp .eq 10, 3) := by decide +kernel
theorem d_M_operation_52 : decode b_M_operation 52 = .ok (.iload_n 1, 1) := by decide +kernel
theorem d_M_operation_53 : decode b_M_operation 53 = .ok (.sipush 164, 3) := by decide +kernel
theorem d_M_operation_56 : decode b_M_operation 56 = .ok (.if_icmp .ne 7, 3) := by decide +kernel
theorem d_M_operation_59 : decode b_M_operation 59 = .ok (.iconst 1, 1) := by decide +kernel
theorem d_M_operation_60 : decode b_M_operation 60 = .ok (.goto 4, 3) := by decide +kernel
theorem d_M_operation_63 : decode b_M_operation 63 = .ok (.iconst 0, 1) := by decide +kernel
theorem d_M_operation_64 : decode b_M_operation 64 = .ok (.ireturn, 1) := by decide +kernel
theorem d_M_branch_0 : decode b_M_branch 0 = .ok (.iload_n 0, 1) := by decide +kernel
theorem d_M_branch_1 : decode b_M_branch 1 = .ok (.bipush (-9), 2) := by decide +kernel
theorem d_M_branch_3 : decode b_M_branch 3 = .ok (.iand, 1) := by decide +kernel
theorem d_M_branch_4 : decode b_M_branch 4 = .ok (.istore_n 1, 1) := by decide +kernel
theorem d_M_branch_5 : decode b_M_branch 5 = .ok (.iload_n 1, 1) := by decide +kernel
theorem d_M_branch_6 : decode b_M_branch 6 = .ok (.bipush 21, 2) := by decide +kernel
theorem d_M_branch_8 : decode b_M_branch 8 = .ok (.if_icmp .eq 21, 3) := by decide +kernel
theorem d_M_branch_11 : decode b_M_branch 11 = .ok (.iload_n 1, 1) := by decide +kernel
theorem d_M_branch_12 : decode b_M_branch 12 = .ok (.bipush 37, 2) := by decide +kernel
theorem d_M_branch_14 : decode b_M_branch 14 = .ok (.if_icmp .eq 15, 3) := by decide +kernel
theorem d_M_branch_17 : decode b_M_branch 17 = .ok (.iload_n 1, 1) := by decide +kernel
theorem d_M_branch_18 : decode b_M_branch 18 = .ok (.bipush 53, 2) := by decide +kernel
theorem d_M_branch_20 : decode b_M_branch 20 = .ok (.if_icmp .eq 9, 3) := by decide +kernel
theorem d_M_branch_23 : decode b_M_branch 23 = .ok (.iload_n 1, 1) := by decide +kernel
theorem d_M_branch_24 : decode b_M_branch 24 = .ok (.bipush 69, 2) := by decide +kernel
theorem d_M_branch_26 : decode b_M_branch 26 = .ok (.if_icmp .ne 7, 3) := by decide +kernel
theorem d_M_branch_29 : decode b_M_branch 29 = .ok (.iconst 1, 1) := by decide +kernel
theorem d_M_branch_30 : decode b_M_branch 30 = .ok (.goto 4, 3) := by decide +kernel
theorem d_M_branch_33 : decode b_M_branch 33 = .ok (.iconst 0, 1) := by decide +kernel
theorem d_M_branch_34 : decode b_M_branch 34 = .ok (.ireturn, 1) := by decide +kernel
theorem d_M_plainCode_0 : decode b_M_plainCode 0 = .ok (.iload_n 0, 1) := by decide +kernel
theorem d_M_plainCode_1 : decode b_M_plainCode 1 = .ok (.ifCond .eq 40, 3) := by decide +kernel
theorem d_M_plainCode_4 : decode b_M_plainCode 4 = .ok (.iload_n 0, 1) := by decide +kernel
theorem d_M_plainCode_5 : decode b_M_plainCode 5 = .ok (.bipush 32, 2) := by decide +kernel
theorem d_M_plainCode_7 : decode b_M_plainCode 7 = .ok (.if_icmp .eq 34, 3) := by decide +kernel
theorem d_M_plainCode_10 : decode b_M_plainCode 10 = .ok (.iload_n 0, 1) := by decide +kernel
theorem d_M_plainCode_11 : decode b_M_plainCode 11 = .ok (.bipush 96, 2) := by decide +kernel
theorem d_M_plainCode_13 : decode b_M_plainCode 13 = .ok (.if_icmp .eq 28, 3) := by decide +kernel
theorem d_M_plainCode_16 : decode b_M_plainCode 16 = .ok (.iload_n 0, 1) := by decide +kernel
theorem d_M_plainCode_17 : decode b_M_plainCode 17 = .ok (.sipush 128, 3) := by decide +kernel
theorem d_M_plainCode_20 : decode b_M_plainCode 20 = .ok (.if_icmp .eq 21, 3) := by decide +kernel
theorem d_M_plainCode_23 : decode b_M_plainCode 23 = .ok (.iload_n 0, 1) := by decide +kernel
theorem d_M_plainCode_24 : decode b_M_plainCode 24 = .ok (.iconst 1, 1) := by decide +kernel
theorem d_M_plainCode_25 : decode b_M_plainCode 25 = .ok (.if_icmp .eq 16, 3) := by decide +kernel
theorem d_M_plainCode_28 : decode b_M_plainCode 28 = .ok (.iload_n 0, 1) := by decide +kernel
theorem d_M_plainCode_29 : decode b_M_plainCode 29 = .ok (.bipush 97, 2) := by decide +kernel
theorem d_M_plainCode_31 : decode b_M_plainCode 31 = .ok (.if_icmp .eq 10, 3) := by decide +kernel
theorem d_M_plainCode_34 : decode b_M_plainCode 34 = .ok (.iload_n 0, 1) := by decide +kernel
theorem d_M_plainCode_35 : decode b_M_plainCode 35 = .ok (.sipush 129, 3) := by decide +kernel
theorem d_M_plainCode_38 : decode b_M_plainCode 38 = .ok (.if_icmp .ne 7, 3) := by decide +kernel
theorem d_M_plainCode_41 : decode b_M_plainCode 41 = .ok (.iconst 1, 1) := by decide +kernel
theorem d_M_plainCode_42 : decode b_M_plainCode 42 = .ok (.goto 4, 3) := by decide +kernel
theorem d_M_plainCode_45 : decode b_M_plainCode 45 = .ok (.iconst 0, 1) := by decide +kernel
theorem d_M_plainCode_46 : decode b_M_plainCode 46 = .ok (.istore_n 1, 1) := by decide +kernel
theorem d_M_plainCode_47 : decode b_M_plainCode 47 = .ok (.iload_n 1, 1) := by decide +kernel
theorem d_M_plainCode_48 : decode b_M_plainCode 48 = .ok (.ifCond .ne 50, 3) := by decide +kernel
theorem d_M_plainCode_51 : decode b_M_plainCode 51 = .ok (.iload_n 0, 1) := by decide +kernel
theorem d_M_plainCode_52 : decode b_M_plainCode 52 = .ok (.iconst 2, 1) := by decide +kernel
theorem d_M_plainCode_53 : decode b_M_plainCode 53 = .ok (.if_icmp .eq 45, 3) := by decide +kernel
theorem d_M_plainCode_56 : decode b_M_plainCode 56 = .ok (.iload_n 0, 1) := by decide +kernel
theorem d_M_plainCode_57 : decode b_M_plainCode 57 = .ok (.iconst 3, 1) := by decide +kernel
theorem d_M_plainCode_58 : decode b_M_plainCode 58 = .ok (.if_icmp .eq 40, 3) := by decide +kernel
theorem d_M_plainCode_61 : decode b_M_plainCode 61 = .ok (.iload_n 0, 1) := by decide +kernel
theorem d_M_plainCode_62 : decode b_M_plainCode 62 = .ok (.bipush 7, 2) := by decide +kernel
theorem d_M_plainCode_64 : decode b_M_plainCode 64 = .ok (.if_icmp .eq 34, 3) := by decide +kernel
theorem d_M_plainCode_67 : decode b_M_plainCode 67 = .ok (.iload_n 0, 1) := by decide +kernel
theorem d_M_plainCode_68 : decode b_M_plainCode 68 = .ok (.sipush 135, 3) := by decide +kernel
theorem d_M_plainCode_71 : decode b_M_plainCode 71 = .ok (.if_icmp .eq 27, 3) := by decide +kernel
theorem d_M_plainCode_74 : decode b_M_plainCode 74 = .ok (.iload_n 0, 1) := by decide +kernel
theorem d_M_plainCode_75 : decode b_M_plainCode 75 = .ok (.sipush 132, 3) := by decide +kernel
theorem d_M_plainCode_78 : decode b_M_plainCode 78 = .ok (.if_icmp .eq 20, 3) := by decide +kernel
theorem d_M_plainCode_81 : decode b_M_plainCode 81 = .ok (.iload_n 0, 1) := by decide +kernel
theorem d_M_plainCode_82 : decode b_M_plainCode 82 = .ok (.iconst 5, 1) := by decide +kernel
theorem d_M_plainCode_83 : decode b_M_plainCode 83 = .ok (.if_icmp .eq 15, 3) := by decide +kernel
theorem d_M_plainCode_86 : decode b_M_plainCode 86 = .ok (.iload_n 0, 1) := by decide +kernel
theorem d_M_plainCode_87 : decode b_M_plainCode 87 = .ok (.bipush 6, 2) := by decide +kernel
theorem d_M_plainCode_89 : decode b_M_plainCode 89 = .ok (.if_icmp .eq 9, 3) := by decide +kernel
theorem d_M_plainCode_92 : decode b_M_plainCode 92 = .ok (.iload_n 0, 1) := by decide +kernel
theorem d_M_plainCode_93 : decode b_M_plainCode 93 = .ok (.bipush 22, 2) := by decide +kernel
theorem d_M_plainCode_95 : decode b_M_plainCode 95 = .ok (.if_icmp .ne 7, 3) := by decide +kernel
theorem d_M_plainCode_98 : decode b_M_plainCode 98 = .ok (.iconst 1, 1) := by decide +kernel
theorem d_M_plainCode_99 : decode b_M_plainCode 99 = .ok (.goto 4, 3) := by decide +kernel
theorem d_M_plainCode_102 : decode b_M_plainCode 102 = .ok (.iconst 0, 1) := by decide +kernel
theorem d_M_plainCode_103 : decode b_M_plainCode 103 = .ok (.ireturn, 1) := by decide +kernel
theorem d_M_scratchCode_0 : decode b_M_scratchCode 0 = .ok (.iload_n 0, 1) := by decide +kernel
theorem d_M_scratchCode_1 : decode b_M_scratchCode 1 = .ok (.bipush 96, 2) := by decide +kernel
theorem d_M_scratchCode_3 : decode b_M_scratchCode 3 = .ok (.if_icmp .eq 19, 3) := by decide +kernel
theorem d_M_scratchCode_6 : decode b_M_scratchCode 6 = .ok (.iload_n 0, 1) := by decide +kernel
theorem d_M_scratchCode_7 : decode b_M_scratchCode 7 = .ok (.bipush 97, 2) := by decide +kernel
theorem d_M_scratchCode_9 : decode b_M_scratchCode 9 = .ok (.if_icmp .eq 13, 3) := by decide +kernel
theorem d_M_scratchCode_12 : decode b_M_scratchCode 12 = .ok (.iload_n 0, 1) := by decide +kernel
theorem d_M_scratchCode_13 : decode b_M_scratchCode 13 = .ok (.iconst 2, 1) := by decide +kernel
theorem d_M_scratchCode_14 : decode b_M_scratchCode 14 = .ok (.if_icmp .eq 8, 3) := by decide +kernel
theorem d_M_scratchCode_17 : decode b_M_scratchCode 17 = .ok (.iload_n 0, 1) := by decide +kernel
theorem d_M_scratchCode_18 : decode b_M_scratchCode 18 = .ok (.iconst 3, 1) := by decide +kernel
theorem d_M_scratchCode_19 : decode b_M_scratchCode 19 = .ok (.if_icmp .ne 7, 3) := by decide +kernel
theorem d_M_scratchCode_22 : decode b_M_scratchCode 22 = .ok (.iconst 1, 1) := by decide +kernel
theorem d_M_scratchCode_23 : decode b_M_scratchCode 23 = .ok (.goto 4, 3) := by decide +kernel
theorem d_M_scratchCode_26 : decode b_M_scratchCode 26 = .ok (.iconst 0, 1) := by decide +kernel
theorem d_M_scratchCode_27 : decode b_M_scratchCode 27 = .ok (.ireturn, 1) := by decide +kernel
def m_M_below (u : Int64) (v : Int64) : Int32 := if (lg_cmp ((u.toUInt64 >>> ((32 : Int32).toInt64.toUInt64 &&& Int64.toUInt64 63)).toInt64) ((v.toUInt64 >>> ((32 : Int32).toInt64.toUInt64 &&& Int64.toUInt64 63)).toInt64)) < (0 : Int32) then (1 : Int32) else if (lg_cmp ((u.toUInt64 >>> ((32 : Int32).toInt64.toUInt64 &&& Int64.toUInt64 63)).toInt64) ((v.toUInt64 >>> ((32 : Int32).toInt64.toUInt64 &&& Int64.toUInt64 63)).toInt64)) = (0 : Int32) then if (0 : Int32) ≤ (lg_cmp (u &&& (4294967295 : Int64)) (v &&& (4294967295 : Int64))) then (0 : Int32) else (1 : Int32) else (0 : Int32)
set_option maxHeartbeats 4000000 in
set_option maxRecDepth 100000 in
theorem c_M_below (l : Launch) (u : Int64) (v : Int64) : Met l y_M_below (mW y_M_below b_M_below 8 (some .boolean)) { frames := 0, cells := 0, slots := 0, locals := 0 } (va_Pc [.long u, .long v] (fun _ => True)) (vp_Si (fun r => r = m_M_below u v)) 0 0 (fun _ => False) := by
  refine Met.ofW (cc := b_M_below) (maxL := 8) (ret := (some .boolean)) (by decide) rfl ?_
  intro p e s m args below meth c s₁ B hml hv
  obtain ⟨rfl, -⟩ := hv
  have hx := B.exec
  have hb := B.bytes
  have hr := B.returns
  have hlocks := B.notSynchronized
  have hts := fun (w : Cond) (h : w ∈ lw_g) => atoms_spec (ws := mW y_M_below b_M_below 8 (some .boolean)) B.pre w (List.mem_cons_of_mem _ h)
  have hown : s.vm.findClass R_M = some m.cls := findClass_of_methodNamed B.named
  have hl := lv_entry ([.long u, .long v]) (n := 8) (Nat.le_of_ble_eq_true rfl)
  rw [lg_entry_eq]
  generalize (lg_sl ([.long u, .long v]) ++ List.replicate (8 - (lg_sl ([.long u, .long v])).length) Slot.unset).toArray = ls at hl ⊢
  have hl : lv_has ls 8 [(0, .long u), (2, .long v)] := hl
  refine lv_lload_n hx hb d_M_below_0 rfl (lv_at hl 0 rfl) ?_
  refine lv_bipush (v := 32) hx hb d_M_below_1 (by decide) ?_
  refine lv_lushr hx hb d_M_below_3 rfl ?_
  refine lv_lstore hx hb d_M_below_4 hl (by decide) rfl (fun ls hl => ?_)
  have hl : lv_has ls 8 [(4, .long ((u.toUInt64 >>> ((32 : Int32).toInt64.toUInt64 &&& Int64.toUInt64 63)).toInt64)), (0, .long u), (2, .long v)] := hl
  refine lv_lload_n hx hb d_M_below_6 rfl (lv_at hl 2 rfl) ?_
  refine lv_bipush (v := 32) hx hb d_M_below_7 (by decide) ?_
  refine lv_lushr hx hb d_M_below_9 rfl ?_
  refine lv_lstore hx hb d_M_below_10 hl (by decide) rfl (fun ls hl => ?_)
  have hl : lv_has ls 8 [(6, .long ((v.toUInt64 >>> ((32 : Int32).toInt64.toUInt64 &&& Int64.toUInt64 63)).toInt64)), (4, .long ((u.toUInt64 >>> ((32 : Int32).toInt64.toUInt64 &&& Int64.toUInt64 63)).toInt64)), (0, .long u), (2, .long v)] := hl
  refine lv_lload hx hb d_M_below_12 (lv_at hl 1 rfl) ?_
  refine lv_lload hx hb d_M_below_14 (lv_at hl 0 rfl) ?_
  refine W.lcmp hx hb d_M_below_16 ?_
  refine lv_if_lt (tgt := 42) hx hb d_M_below_17 (by decide) (fun h1 => ?_) (fun h1 => ?_)
  · refine lv_iconst (v := 1) hx hb d_M_below_42 (by decide) ?_
    refine lv_goto (tgt := 47) hx hb d_M_below_43 (by decide) ?_
    exact W.zret hx hb hr rfl (fun t ht hW => ⟨_, rfl, (by rw [m_M_below, if_pos h1]), ht⟩) (fun _ h => by cases h) d_M_below_47
  refine lv_lload hx hb d_M_below_20 (lv_at hl 1 rfl) ?_
  refine lv_lload hx hb d_M_below_22 (lv_at hl 0 rfl) ?_
  refine W.lcmp hx hb d_M_below_24 ?_
  refine lv_if_ne (tgt := 46) hx hb d_M_below_25 (by decide) (fun h2 => ?_) (fun h2 => ?_)
  · refine lv_iconst (v := 0) hx hb d_M_below_46 (by decide) ?_
    exact W.zret hx hb hr rfl (fun t ht hW => ⟨_, rfl, (by rw [m_M_below, if_neg h1, if_neg h2]), ht⟩) (fun _ h => by cases h) d_M_below_47
  refine lv_lload_n hx hb d_M_below_28 rfl (lv_at hl 2 rfl) ?_
  refine lv_ldc2 (v := 4294967295) hx hb hown (hts _ wd_596) d_M_below_29 ?_
  refine lv_land hx hb d_M_below_32 ?_
  refine lv_lload_n hx hb d_M_below_33 rfl (lv_at hl 3 rfl) ?_
  refine lv_ldc2 (v := 4294967295) hx hb hown (hts _ wd_596) d_M_below_34 ?_
  refine lv_land hx hb d_M_below_37 ?_
  refine W.lcmp hx hb d_M_below_38 ?_
  refine lv_if_ge (tgt := 46) hx hb d_M_below_39 (by decide) (fun h3 => ?_) (fun h3 => ?_)
  · refine lv_iconst (v := 0) hx hb d_M_below_46 (by decide) ?_
    exact W.zret hx hb hr rfl (fun t ht hW => ⟨_, rfl, (by rw [m_M_below, if_neg h1, if_pos h2, if_pos h3]), ht⟩) (fun _ h => by cases h) d_M_below_47
  refine lv_iconst (v := 1) hx hb d_M_below_42 (by decide) ?_
  refine lv_goto (tgt := 47) hx hb d_M_below_43 (by decide) ?_
  exact W.zret hx hb hr rfl (fun t ht hW => ⟨_, rfl, (by rw [m_M_below, if_neg h1, if_pos h2, if_neg h3]), ht⟩) (fun _ h => by cases h) d_M_below_47
def m_M_operation (cd : Int32) : Int32 := if (cd &&& (-9 : Int32)) = (4 : Int32) then (1 : Int32) else if (cd &&& (-9 : Int32)) = (20 : Int32) then (1 : Int32) else if (cd &&& (-9 : Int32)) = (36 : Int32) then (1 : Int32) else if (cd &&& (-9 : Int32)) = (52 : Int32) then (1 : Int32) else if (cd &&& (-9 : Int32)) = (68 : Int32) then (1 : Int32) else if (cd &&& (-9 : Int32)) = (84 : Int32) then (1 : Int32) else if (cd &&& (-9 : Int32)) = (100 : Int32) then (1 : Int32) else if (cd &&& (-9 : Int32)) = (116 : Int32) then (1 : Int32) else if (cd &&& (-9 : Int32)) = (164 : Int32) then (1 : Int32) else (0 : Int32)
set_option maxHeartbeats 4000000 in
set_option maxRecDepth 100000 in
theorem c_M_operation (l : Launch) (cd : Int32) : Met l y_M_operation (mW y_M_operation b_M_operation 2 (some .boolean)) { frames := 0, cells := 0, slots := 0, locals := 0 } (va_Pc [.int cd] (fun _ => True)) (vp_Si (fun r => r = m_M_operation cd)) 0 0 (fun _ => False) := by
  refine Met.ofW (cc := b_M_operation) (maxL := 2) (ret := (some .boolean)) (by decide) rfl ?_
  intro p e s m args below meth c s₁ B hml hv
  obtain ⟨rfl, -⟩ := hv
  have hx := B.exec
  have hb := B.bytes
  have hr := B.returns
  have hlocks := B.notSynchronized
  have hts := fun (w : Cond) (h : w ∈ lw_g) => atoms_spec (ws := mW y_M_operation b_M_operation 2 (some .boolean)) B.pre w (List.mem_cons_of_mem _ h)
  have hown : s.vm.findClass R_M = some m.cls := findClass_of_methodNamed B.named
  have hl := lv_entry ([.int cd]) (n := 2) (Nat.le_of_ble_eq_true rfl)
  rw [lg_entry_eq]
  generalize (lg_sl ([.int cd]) ++ List.replicate (2 - (lg_sl ([.int cd])).length) Slot.unset).toArray = ls at hl ⊢
  have hl : lv_has ls 2 [(0, .int cd)] := hl
  refine lv_iload_n hx hb d_M_operation_0 rfl (lv_at hl 0 rfl) ?_
  refine lv_bipush (v := -9) hx hb d_M_operation_1 (by decide) ?_
  refine lv_iand hx hb d_M_operation_3 ?_
  refine lv_istore_n hx hb d_M_operation_4 rfl hl (by decide) rfl (fun ls hl => ?_)
  have hl : lv_has ls 2 [(1, .int (cd &&& (-9 : Int32))), (0, .int cd)] := hl
  refine lv_iload_n hx hb d_M_operation_5 rfl (lv_at hl 0 rfl) ?_
  refine lv_iconst (v := 4) hx hb d_M_operation_6 (by decide) ?_
  refine lv_icmp_eq (tgt := 59) hx hb d_M_operation_7 (by decide) (fun h1 => ?_) (fun h1 => ?_)
  · refine lv_iconst (v := 1) hx hb d_M_operation_59 (by decide) ?_
    refine lv_goto (tgt := 64) hx hb d_M_operation_60 (by decide) ?_
    exact W.zret hx hb hr rfl (fun t ht hW => ⟨_, rfl, (by rw [m_M_operation, if_pos h1]), ht⟩) (fun _ h => by cases h) d_M_operation_64
  refine lv_iload_n hx hb d_M_operation_10 rfl (lv_at hl 0 rfl) ?_
  refine lv_bipush (v := 20) hx hb d_M_operation_11 (by decide) ?_
  refine lv_icmp_eq (tgt := 59) hx hb d_M_operation_13 (by decide) (fun h2 => ?_) (fun h2 => ?_)
  · refine lv_iconst (v := 1) hx hb d_M_operation_59 (by decide) ?_
    refine lv_goto (tgt := 64) hx hb d_M_operation_60 (by decide) ?_
    exact W.zret hx hb hr rfl (fun t ht hW => ⟨_, rfl, (by rw [m_M_operation, if_neg h1, if_pos h2]), ht⟩) (fun _ h => by cases h) d_M_operation_64
  refine lv_iload_n hx hb d_M_operation_16 rfl (lv_at hl 0 rfl) ?_
  refine lv_bipush (v := 36) hx hb d_M_operation_17 (by decide) ?_
  refine lv_icmp_eq (tgt := 59) hx hb d_M_operation_19 (by decide) (fun h3 => ?_) (fun h3 => ?_)
  · refine lv_iconst (v := 1) hx hb d_M_operation_59 (by decide) ?_
    refine lv_goto (tgt := 64) hx hb d_M_operation_60 (by decide) ?_
    exact W.zret hx hb hr rfl (fun t ht hW => ⟨_, rfl, (by rw [m_M_operation, if_neg h1, if_neg h2, if_pos h3]), ht⟩) (fun _ h => by cases h) d_M_operation_64
  refine lv_iload_n hx hb d_M_operation_22 rfl (lv_at hl 0 rfl) ?_
  refine lv_bipush (v := 52) hx hb d_M_operation_23 (by decide) ?_
  refine lv_icmp_eq (tgt := 59) hx hb d_M_operation_25 (by decide) (fun h4 => ?_) (fun h4 => ?_)
  · refine lv_iconst (v := 1) hx hb d_M_operation_59 (by decide) ?_
    refine lv_goto (tgt := 64) hx hb d_M_operation_60 (by decide) ?_
    exact W.zret hx hb hr rfl (fun t ht hW => ⟨_, rfl, (by rw [m_M_operation, if_neg h1, if_neg h2, if_neg h3, if_pos h4]), ht⟩) (fun _ h => by cases h) d_M_operation_64
  refine lv_iload_n hx hb d_M_operation_28 rfl (lv_at hl 0 rfl) ?_
  refine lv_bipush (v := 68) hx hb d_M_operation_29 (by decide) ?_
  refine lv_icmp_eq (tgt := 59) hx hb d_M_operation_31 (by decide) (fun h5 => ?_) (fun h5 => ?_)
  · refine lv_iconst (v := 1) hx hb d_M_operation_59 (by decide) ?_
    refine lv_goto (tgt := 64) hx hb d_M_operation_60 (by decide) ?_
    exact W.zret hx hb hr rfl (fun t ht hW => ⟨_, rfl, (by rw [m_M_operation, if_neg h1, if_neg h2, if_neg h3, if_neg h4, if_pos h5]), ht⟩) (fun _ h => by cases h) d_M_operation_64
  refine lv_iload_n hx hb d_M_operation_34 rfl (lv_at hl 0 rfl) ?_
  refine lv_bipush (v := 84) hx hb d_M_operation_35 (by decide) ?_
  refine lv_icmp_eq (tgt := 59) hx hb d_M_operation_37 (by decide) (fun h6 => ?_) (fun h6 => ?_)
  · refine lv_iconst (v := 1) hx hb d_M_operation_59 (by decide) ?_
    refine lv_goto (tgt := 64) hx hb d_M_operation_60 (by decide) ?_
    exact W.zret hx hb hr rfl (fun t ht hW => ⟨_, rfl, (by rw [m_M_operation, if_neg h1, if_neg h2, if_neg h3, if_neg h4, if_neg h5, if_pos h6]), ht⟩) (fun _ h => by cases h) d_M_operation_64
  refine lv_iload_n hx hb d_M_operation_40 rfl (lv_at hl 0 rfl) ?_
  refine lv_bipush (v := 100) hx hb d_M_operation_41 (by decide) ?_
  refine lv_icmp_eq (tgt := 59) hx hb d_M_operation_43 (by decide) (fun h7 => ?_) (fun h7 => ?_)
  · refine lv_iconst (v := 1) hx hb d_M_operation_59 (by decide) ?_
    refine lv_goto (tgt := 64) hx hb d_M_operation_60 (by decide) ?_
    exact W.zret hx hb hr rfl (fun t ht hW => ⟨_, rfl, (by rw [m_M_operation, if_neg h1, if_neg h2, if_neg h3, if_neg h4, if_neg h5, if_neg h6, if_pos h7]), ht⟩) (fun _ h => by cases h) d_M_operation_64
  refine lv_iload_n hx hb d_M_operation_46 rfl (lv_at hl 0 rfl) ?_
  refine lv_bipush (v := 116) hx hb d_M_operation_47 (by decide) ?_
  refine lv_icmp_eq (tgt := 59) hx hb d_M_operation_49 (by decide) (fun h8 => ?_) (fun h8 => ?_)
  · refine lv_iconst (v := 1) hx hb d_M_operation_59 (by decide) ?_
    refine lv_goto (tgt := 64) hx hb d_M_operation_60 (by decide) ?_
    exact W.zret hx hb hr rfl (fun t ht hW => ⟨_, rfl, (by rw [m_M_operation, if_neg h1, if_neg h2, if_neg h3, if_neg h4, if_neg h5, if_neg h6, if_neg h7, if_pos h8]), ht⟩) (fun _ h => by cases h) d_M_operation_64
  refine lv_iload_n hx hb d_M_operation_52 rfl (lv_at hl 0 rfl) ?_
  refine lv_sipush (v := 164) hx hb d_M_operation_53 (by decide) ?_
  refine lv_icmp_ne (tgt := 63) hx hb d_M_operation_56 (by decide) (fun h9 => ?_) (fun h9 => ?_)
  · refine lv_iconst (v := 0) hx hb d_M_operation_63 (by decide) ?_
    exact W.zret hx hb hr rfl (fun t ht hW => ⟨_, rfl, (by rw [m_M_operation, if_neg h1, if_neg h2, if_neg h3, if_neg h4, if_neg h5, if_neg h6, if_neg h7, if_neg h8, if_neg h9]), ht⟩) (fun _ h => by cases h) d_M_operation_64
  refine lv_iconst (v := 1) hx hb d_M_operation_59 (by decide) ?_
  refine lv_goto (tgt := 64) hx hb d_M_operation_60 (by decide) ?_
  exact W.zret hx hb hr rfl (fun t ht hW => ⟨_, rfl, (by rw [m_M_operation, if_neg h1, if_neg h2, if_neg h3, if_neg h4, if_neg h5, if_neg h6, if_neg h7, if_neg h8, if_pos h9]), ht⟩) (fun _ h => by cases h) d_M_operation_64
def m_M_branch (cd : Int32) : Int32 := if (cd &&& (-9 : Int32)) = (21 : Int32) then (1 : Int32) else if (cd &&& (-9 : Int32)) = (37 : Int32) then (1 : Int32) else if (cd &&& (-9 : Int32)) = (53 : Int32) then (1 : Int32) else if (cd &&& (-9 : Int32)) = (69 : Int32) then (1 : Int32) else (0 : Int32)
set_option maxHeartbeats 4000000 in
set_option maxRecDepth 100000 in
theorem c_M_branch (l : Launch) (cd : Int32) : Met l y_M_branch (mW y_M_branch b_M_branch 2 (some .boolean)) { frames := 0, cells := 0, slots := 0, locals := 0 } (va_Pc [.int cd] (fun _ => True)) (vp_Si (fun r => r = m_M_branch cd)) 0 0 (fun _ => False) := by
  refine Met.ofW (cc := b_M_branch) (maxL := 2) (ret := (some .boolean)) (by decide) rfl ?_
  intro p e s m args below meth c s₁ B hml hv
  obtain ⟨rfl, -⟩ := hv
  have hx := B.exec
  have hb := B.bytes
  have hr := B.returns
  have hlocks := B.notSynchronized
  have hts := fun (w : Cond) (h : w ∈ lw_g) => atoms_spec (ws := mW y_M_branch b_M_branch 2 (some .boolean)) B.pre w (List.mem_cons_of_mem _ h)
  have hown : s.vm.findClass R_M = some m.cls := findClass_of_methodNamed B.named
  have hl := lv_entry ([.int cd]) (n := 2) (Nat.le_of_ble_eq_true rfl)
  rw [lg_entry_eq]
  generalize (lg_sl ([.int cd]) ++ List.replicate (2 - (lg_sl ([.int cd])).length) Slot.unset).toArray = ls at hl ⊢
  have hl : lv_has ls 2 [(0, .int cd)] := hl
  refine lv_iload_n hx hb d_M_branch_0 rfl (lv_at hl 0 rfl) ?_
  refine lv_bipush (v := -9) hx hb d_M_branch_1 (by decide) ?_
  refine lv_iand hx hb d_M_branch_3 ?_
  refine lv_istore_n hx hb d_M_branch_4 rfl hl (by decide) rfl (fun ls hl => ?_)
  have hl : lv_has ls 2 [(1, .int (cd &&& (-9 : Int32))), (0, .int cd)] := hl
  refine lv_iload_n hx hb d_M_branch_5 rfl (lv_at hl 0 rfl) ?_
  refine lv_bipush (v := 21) hx hb d_M_branch_6 (by decide) ?_
  refine lv_icmp_eq (tgt := 29) hx hb d_M_branch_8 (by decide) (fun h1 => ?_) (fun h1 => ?_)
  · refine lv_iconst (v := 1) hx hb d_M_branch_29 (by decide) ?_
    refine lv_goto (tgt := 34) hx hb d_M_branch_30 (by decide) ?_
    exact W.zret hx hb hr rfl (fun t ht hW => ⟨_, rfl, (by rw [m_M_branch, if_pos h1]), ht⟩) (fun _ h => by cases h) d_M_branch_34
  refine lv_iload_n hx hb d_M_branch_11 rfl (lv_at hl 0 rfl) ?_
  refine lv_bipush (v := 37) hx hb d_M_branch_12 (by decide) ?_
  refine lv_icmp_eq (tgt := 29) hx hb d_M_branch_14 (by decide) (fun h2 => ?_) (fun h2 => ?_)
  · refine lv_iconst (v := 1) hx hb d_M_branch_29 (by decide) ?_
    refine lv_goto (tgt := 34) hx hb d_M_branch_30 (by decide) ?_
    exact W.zret hx hb hr rfl (fun t ht hW => ⟨_, rfl, (by rw [m_M_branch, if_neg h1, if_pos h2]), ht⟩) (fun _ h => by cases h) d_M_branch_34
  refine lv_iload_n hx hb d_M_branch_17 rfl (lv_at hl 0 rfl) ?_
  refine lv_bipush (v := 53) hx hb d_M_branch_18 (by decide) ?_
  refine lv_icmp_eq (tgt := 29) hx hb d_M_branch_20 (by decide) (fun h3 => ?_) (fun h3 => ?_)
  · refine lv_iconst (v := 1) hx hb d_M_branch_29 (by decide) ?_
    refine lv_goto (tgt := 34) hx hb d_M_branch_30 (by decide) ?_
    exact W.zret hx hb hr rfl (fun t ht hW => ⟨_, rfl, (by rw [m_M_branch, if_neg h1, if_neg h2, if_pos h3]), ht⟩) (fun _ h => by cases h) d_M_branch_34
  refine lv_iload_n hx hb d_M_branch_23 rfl (lv_at hl 0 rfl) ?_
  refine lv_bipush (v := 69) hx hb d_M_branch_24 (by decide) ?_
  refine lv_icmp_ne (tgt := 33) hx hb d_M_branch_26 (by decide) (fun h4 => ?_) (fun h4 => ?_)
  · refine lv_iconst (v := 0) hx hb d_M_branch_33 (by decide) ?_
    exact W.zret hx hb hr rfl (fun t ht hW => ⟨_, rfl, (by rw [m_M_branch, if_neg h1, if_neg h2, if_neg h3, if_neg h4]), ht⟩) (fun _ h => by cases h) d_M_branch_34
  refine lv_iconst (v := 1) hx hb d_M_branch_29 (by decide) ?_
  refine lv_goto (tgt := 34) hx hb d_M_branch_30 (by decide) ?_
  exact W.zret hx hb hr rfl (fun t ht hW => ⟨_, rfl, (by rw [m_M_branch, if_neg h1, if_neg h2, if_neg h3, if_pos h4]), ht⟩) (fun _ h => by cases h) d_M_branch_34
def m_M_plainCode (cd : Int32) : Int32 := if cd = (0 : Int32) then (1 : Int32) else if cd = (32 : Int32) then (1 : Int32) else if cd = (96 : Int32) then (1 : Int32) else if cd = (128 : Int32) then (1 : Int32) else if cd = (1 : Int32) then (1 : Int32) else if cd = (97 : Int32) then (1 : Int32) else if cd = (129 : Int32) then (1 : Int32) else if cd = (2 : Int32) then (1 : Int32) else if cd = (3 : Int32) then (1 : Int32) else if cd = (7 : Int32) then (1 : Int32) else if cd = (135 : Int32) then (1 : Int32) else if cd = (132 : Int32) then (1 : Int32) else if cd = (5 : Int32) then (1 : Int32) else if cd = (6 : Int32) then (1 : Int32) else if cd = (22 : Int32) then (1 : Int32) else (0 : Int32)
set_option maxHeartbeats 4000000 in
set_option maxRecDepth 100000 in
theorem c_M_plainCode (l : Launch) (cd : Int32) : Met l y_M_plainCode (mW y_M_plainCode b_M_plainCode 2 (some .boolean)) { frames := 0, cells := 0, slots := 0, locals := 0 } (va_Pc [.int cd] (fun _ => True)) (vp_Si (fun r => r = m_M_plainCode cd)) 0 0 (fun _ => False) := by
  refine Met.ofW (cc := b_M_plainCode) (maxL := 2) (ret := (some .boolean)) (by decide) rfl ?_
  intro p e s m args below meth c s₁ B hml hv
  obtain ⟨rfl, -⟩ := hv
  have hx := B.exec
  have hb := B.bytes
  have hr := B.returns
  have hlocks := B.notSynchronized
  have hts := fun (w : Cond) (h : w ∈ lw_g) => atoms_spec (ws := mW y_M_plainCode b_M_plainCode 2 (some .boolean)) B.pre w (List.mem_cons_of_mem _ h)
  have hown : s.vm.findClass R_M = some m.cls := findClass_of_methodNamed B.named
  have hl := lv_entry ([.int cd]) (n := 2) (Nat.le_of_ble_eq_true rfl)
  rw [lg_entry_eq]
  generalize (lg_sl ([.int cd]) ++ List.replicate (2 - (lg_sl ([.int cd])).length) Slot.unset).toArray = ls at hl ⊢
  have hl : lv_has ls 2 [(0, .int cd)] := hl
  refine lv_iload_n hx hb d_M_plainCode_0 rfl (lv_at hl 0 rfl) ?_
  refine lv_if_eq (tgt := 41) hx hb d_M_plainCode_1 (by decide) (fun h1 => ?_) (fun h1 => ?_)
  · refine lv_iconst (v := 1) hx hb d_M_plainCode_41 (by decide) ?_
    refine lv_goto (tgt := 46) hx hb d_M_plainCode_42 (by decide) ?_
    refine lv_istore_n hx hb d_M_plainCode_46 rfl hl (by decide) rfl (fun ls hl => ?_)
    have hl : lv_has ls 2 [(1, .int (1 : Int32)), (0, .int cd)] := hl
    refine lv_iload_n hx hb d_M_plainCode_47 rfl (lv_at hl 0 rfl) ?_
    refine lv_if_ne (tgt := 98) hx hb d_M_plainCode_48 (by decide) (fun _ => ?_) (fun h => absurd h (by decide))
    refine lv_iconst (v := 1) hx hb d_M_plainCode_98 (by decide) ?_
    refine lv_goto (tgt := 103) hx hb d_M_plainCode_99 (by decide) ?_
    exact W.zret hx hb hr rfl (fun t ht hW => ⟨_, rfl, (by rw [m_M_plainCode, if_pos h1]), ht⟩) (fun _ h => by cases h) d_M_plainCode_103
  refine lv_iload_n hx hb d_M_plainCode_4 rfl (lv_at hl 0 rfl) ?_
  refine lv_bipush (v := 32) hx hb d_M_plainCode_5 (by decide) ?_
  refine lv_icmp_eq (tgt := 41) hx hb d_M_plainCode_7 (by decide) (fun h2 => ?_) (fun h2 => ?_)
  · refine lv_iconst (v := 1) hx hb d_M_plainCode_41 (by decide) ?_
    refine lv_goto (tgt := 46) hx hb d_M_plainCode_42 (by decide) ?_
    refine lv_istore_n hx hb d_M_plainCode_46 rfl hl (by decide) rfl (fun ls hl => ?_)
    have hl : lv_has ls 2 [(1, .int (1 : Int32)), (0, .int cd)] := hl
    refine lv_iload_n hx hb d_M_plainCode_47 rfl (lv_at hl 0 rfl) ?_
    refine lv_if_ne (tgt := 98) hx hb d_M_plainCode_48 (by decide) (fun _ => ?_) (fun h => absurd h (by decide))
    refine lv_iconst (v := 1) hx hb d_M_plainCode_98 (by decide) ?_
    refine lv_goto (tgt := 103) hx hb d_M_plainCode_99 (by decide) ?_
    exact W.zret hx hb hr rfl (fun t ht hW => ⟨_, rfl, (by rw [m_M_plainCode, if_neg h1, if_pos h2]), ht⟩) (fun _ h => by cases h) d_M_plainCode_103
  refine lv_iload_n hx hb d_M_plainCode_10 rfl (lv_at hl 0 rfl) ?_
  refine lv_bipush (v := 96) hx hb d_M_plainCode_11 (by decide) ?_
  refine lv_icmp_eq (tgt := 41) hx hb d_M_plainCode_13 (by decide) (fun h3 => ?_) (fun h3 => ?_)
  · refine lv_iconst (v := 1) hx hb d_M_plainCode_41 (by decide) ?_
    refine lv_goto (tgt := 46) hx hb d_M_plainCode_42 (by decide) ?_
    refine lv_istore_n hx hb d_M_plainCode_46 rfl hl (by decide) rfl (fun ls hl => ?_)
    have hl : lv_has ls 2 [(1, .int (1 : Int32)), (0, .int cd)] := hl
    refine lv_iload_n hx hb d_M_plainCode_47 rfl (lv_at hl 0 rfl) ?_
    refine lv_if_ne (tgt := 98) hx hb d_M_plainCode_48 (by decide) (fun _ => ?_) (fun h => absurd h (by decide))
    refine lv_iconst (v := 1) hx hb d_M_plainCode_98 (by decide) ?_
    refine lv_goto (tgt := 103) hx hb d_M_plainCode_99 (by decide) ?_
    exact W.zret hx hb hr rfl (fun t ht hW => ⟨_, rfl, (by rw [m_M_plainCode, if_neg h1, if_neg h2, if_pos h3]), ht⟩) (fun _ h => by cases h) d_M_plainCode_103
  refine lv_iload_n hx hb d_M_plainCode_16 rfl (lv_at hl 0 rfl) ?_
  refine lv_sipush (v := 128) hx hb d_M_plainCode_17 (by decide) ?_
  refine lv_icmp_eq (tgt := 41) hx hb d_M_plainCode_20 (by decide) (fun h4 => ?_) (fun h4 => ?_)
  · refine lv_iconst (v := 1) hx hb d_M_plainCode_41 (by decide) ?_
    refine lv_goto (tgt := 46) hx hb d_M_plainCode_42 (by decide) ?_
    refine lv_istore_n hx hb d_M_plainCode_46 rfl hl (by decide) rfl (fun ls hl => ?_)
    have hl : lv_has ls 2 [(1, .int (1 : Int32)), (0, .int cd)] := hl
    refine lv_iload_n hx hb d_M_plainCode_47 rfl (lv_at hl 0 rfl) ?_
    refine lv_if_ne (tgt := 98) hx hb d_M_plainCode_48 (by decide) (fun _ => ?_) (fun h => absurd h (by decide))
    refine lv_iconst (v := 1) hx hb d_M_plainCode_98 (by decide) ?_
    refine lv_goto (tgt := 103) hx hb d_M_plainCode_99 (by decide) ?_
    exact W.zret hx hb hr rfl (fun t ht hW => ⟨_, rfl, (by rw [m_M_plainCode, if_neg h1, if_neg h2, if_neg h3, if_pos h4]), ht⟩) (fun _ h => by cases h) d_M_plainCode_103
  refine lv_iload_n hx hb d_M_plainCode_23 rfl (lv_at hl 0 rfl) ?_
  refine lv_iconst (v := 1) hx hb d_M_plainCode_24 (by decide) ?_
  refine lv_icmp_eq (tgt := 41) hx hb d_M_plainCode_25 (by decide) (fun h5 => ?_) (fun h5 => ?_)
  · refine lv_iconst (v := 1) hx hb d_M_plainCode_41 (by decide) ?_
    refine lv_goto (tgt := 46) hx hb d_M_plainCode_42 (by decide) ?_
    refine lv_istore_n hx hb d_M_plainCode_46 rfl hl (by decide) rfl (fun ls hl => ?_)
    have hl : lv_has ls 2 [(1, .int (1 : Int32)), (0, .int cd)] := hl
    refine lv_iload_n hx hb d_M_plainCode_47 rfl (lv_at hl 0 rfl) ?_
    refine lv_if_ne (tgt := 98) hx hb d_M_plainCode_48 (by decide) (fun _ => ?_) (fun h => absurd h (by decide))
    refine lv_iconst (v := 1) hx hb d_M_plainCode_98 (by decide) ?_
    refine lv_goto (tgt := 103) hx hb d_M_plainCode_99 (by decide) ?_
    exact W.zret hx hb hr rfl (fun t ht hW => ⟨_, rfl, (by rw [m_M_plainCode, if_neg h1, if_neg h2, if_neg h3, if_neg h4, if_pos h5]), ht⟩) (fun _ h => by cases h) d_M_plainCode_103
  refine lv_iload_n hx hb d_M_plainCode_28 rfl (lv_at hl 0 rfl) ?_
  refine lv_bipush (v := 97) hx hb d_M_plainCode_29 (by decide) ?_
  refine lv_icmp_eq (tgt := 41) hx hb d_M_plainCode_31 (by decide) (fun h6 => ?_) (fun h6 => ?_)
  · refine lv_iconst (v := 1) hx hb d_M_plainCode_41 (by decide) ?_
    refine lv_goto (tgt := 46) hx hb d_M_plainCode_42 (by decide) ?_
    refine lv_istore_n hx hb d_M_plainCode_46 rfl hl (by decide) rfl (fun ls hl => ?_)
    have hl : lv_has ls 2 [(1, .int (1 : Int32)), (0, .int cd)] := hl
    refine lv_iload_n hx hb d_M_plainCode_47 rfl (lv_at hl 0 rfl) ?_
    refine lv_if_ne (tgt := 98) hx hb d_M_plainCode_48 (by decide) (fun _ => ?_) (fun h => absurd h (by decide))
    refine lv_iconst (v := 1) hx hb d_M_plainCode_98 (by decide) ?_
    refine lv_goto (tgt := 103) hx hb d_M_plainCode_99 (by decide) ?_
    exact W.zret hx hb hr rfl (fun t ht hW => ⟨_, rfl, (by rw [m_M_plainCode, if_neg h1, if_neg h2, if_neg h3, if_neg h4, if_neg h5, if_pos h6]), ht⟩) (fun _ h => by cases h) d_M_plainCode_103
  refine lv_iload_n hx hb d_M_plainCode_34 rfl (lv_at hl 0 rfl) ?_
  refine lv_sipush (v := 129) hx hb d_M_plainCode_35 (by decide) ?_
  refine lv_icmp_ne (tgt := 45) hx hb d_M_plainCode_38 (by decide) (fun h7 => ?_) (fun h7 => ?_)
  · refine lv_iconst (v := 0) hx hb d_M_plainCode_45 (by decide) ?_
    refine lv_istore_n hx hb d_M_plainCode_46 rfl hl (by decide) rfl (fun ls hl => ?_)
    have hl : lv_has ls 2 [(1, .int (0 : Int32)), (0, .int cd)] := hl
    refine lv_iload_n hx hb d_M_plainCode_47 rfl (lv_at hl 0 rfl) ?_
    refine lv_if_ne (tgt := 98) hx hb d_M_plainCode_48 (by decide) (fun h => absurd h (by decide)) (fun _ => ?_)
    refine lv_iload_n hx hb d_M_plainCode_51 rfl (lv_at hl 1 rfl) ?_
    refine lv_iconst (v := 2) hx hb d_M_plainCode_52 (by decide) ?_
    refine lv_icmp_eq (tgt := 98) hx hb d_M_plainCode_53 (by decide) (fun h8 => ?_) (fun h8 => ?_)
    · refine lv_iconst (v := 1) hx hb d_M_plainCode_98 (by decide) ?_
      refine lv_goto (tgt := 103) hx hb d_M_plainCode_99 (by decide) ?_
      exact W.zret hx hb hr rfl (fun t ht hW => ⟨_, rfl, (by rw [m_M_plainCode, if_neg h1, if_neg h2, if_neg h3, if_neg h4, if_neg h5, if_neg h6, if_neg h7, if_pos h8]), ht⟩) (fun _ h => by cases h) d_M_plainCode_103
    refine lv_iload_n hx hb d_M_plainCode_56 rfl (lv_at hl 1 rfl) ?_
    refine lv_iconst (v := 3) hx hb d_M_plainCode_57 (by decide) ?_
    refine lv_icmp_eq (tgt := 98) hx hb d_M_plainCode_58 (by decide) (fun h9 => ?_) (fun h9 => ?_)
    · refine lv_iconst (v := 1) hx hb d_M_plainCode_98 (by decide) ?_
      refine lv_goto (tgt := 103) hx hb d_M_plainCode_99 (by decide) ?_
      exact W.zret hx hb hr rfl (fun t ht hW => ⟨_, rfl, (by rw [m_M_plainCode, if_neg h1, if_neg h2, if_neg h3, if_neg h4, if_neg h5, if_neg h6, if_neg h7, if_neg h8, if_pos h9]), ht⟩) (fun _ h => by cases h) d_M_plainCode_103
    refine lv_iload_n hx hb d_M_plainCode_61 rfl (lv_at hl 1 rfl) ?_
    refine lv_bipush (v := 7) hx hb d_M_plainCode_62 (by decide) ?_
    refine lv_icmp_eq (tgt := 98) hx hb d_M_plainCode_64 (by decide) (fun h10 => ?_) (fun h10 => ?_)
    · refine lv_iconst (v := 1) hx hb d_M_plainCode_98 (by decide) ?_
      refine lv_goto (tgt := 103) hx hb d_M_plainCode_99 (by decide) ?_
      exact W.zret hx hb hr rfl (fun t ht hW => ⟨_, rfl, (by rw [m_M_plainCode, if_neg h1, if_neg h2, if_neg h3, if_neg h4, if_neg h5, if_neg h6, if_neg h7, if_neg h8, if_neg h9, if_pos h10]), ht⟩) (fun _ h => by cases h) d_M_plainCode_103
    refine lv_iload_n hx hb d_M_plainCode_67 rfl (lv_at hl 1 rfl) ?_
    refine lv_sipush (v := 135) hx hb d_M_plainCode_68 (by decide) ?_
    refine lv_icmp_eq (tgt := 98) hx hb d_M_plainCode_71 (by decide) (fun h11 => ?_) (fun h11 => ?_)
    · refine lv_iconst (v := 1) hx hb d_M_plainCode_98 (by decide) ?_
      refine lv_goto (tgt := 103) hx hb d_M_plainCode_99 (by decide) ?_
      exact W.zret hx hb hr rfl (fun t ht hW => ⟨_, rfl, (by rw [m_M_plainCode, if_neg h1, if_neg h2, if_neg h3, if_neg h4, if_neg h5, if_neg h6, if_neg h7, if_neg h8, if_neg h9, if_neg h10, if_pos h11]), ht⟩) (fun _ h => by cases h) d_M_plainCode_103
    refine lv_iload_n hx hb d_M_plainCode_74 rfl (lv_at hl 1 rfl) ?_
    refine lv_sipush (v := 132) hx hb d_M_plainCode_75 (by decide) ?_
    refine lv_icmp_eq (tgt := 98) hx hb d_M_plainCode_78 (by decide) (fun h12 => ?_) (fun h12 => ?_)
    · refine lv_iconst (v := 1) hx hb d_M_plainCode_98 (by decide) ?_
      refine lv_goto (tgt := 103) hx hb d_M_plainCode_99 (by decide) ?_
      exact W.zret hx hb hr rfl (fun t ht hW => ⟨_, rfl, (by rw [m_M_plainCode, if_neg h1, if_neg h2, if_neg h3, if_neg h4, if_neg h5, if_neg h6, if_neg h7, if_neg h8, if_neg h9, if_neg h10, if_neg h11, if_pos h12]), ht⟩) (fun _ h => by cases h) d_M_plainCode_103
    refine lv_iload_n hx hb d_M_plainCode_81 rfl (lv_at hl 1 rfl) ?_
    refine lv_iconst (v := 5) hx hb d_M_plainCode_82 (by decide) ?_
    refine lv_icmp_eq (tgt := 98) hx hb d_M_plainCode_83 (by decide) (fun h13 => ?_) (fun h13 => ?_)
    · refine lv_iconst (v := 1) hx hb d_M_plainCode_98 (by decide) ?_
      refine lv_goto (tgt := 103) hx hb d_M_plainCode_99 (by decide) ?_
      exact W.zret hx hb hr rfl (fun t ht hW => ⟨_, rfl, (by rw [m_M_plainCode, if_neg h1, if_neg h2, if_neg h3, if_neg h4, if_neg h5, if_neg h6, if_neg h7, if_neg h8, if_neg h9, if_neg h10, if_neg h11, if_neg h12, if_pos h13]), ht⟩) (fun _ h => by cases h) d_M_plainCode_103
    refine lv_iload_n hx hb d_M_plainCode_86 rfl (lv_at hl 1 rfl) ?_
    refine lv_bipush (v := 6) hx hb d_M_plainCode_87 (by decide) ?_
    refine lv_icmp_eq (tgt := 98) hx hb d_M_plainCode_89 (by decide) (fun h14 => ?_) (fun h14 => ?_)
    · refine lv_iconst (v := 1) hx hb d_M_plainCode_98 (by decide) ?_
      refine lv_goto (tgt := 103) hx hb d_M_plainCode_99 (by decide) ?_
      exact W.zret hx hb hr rfl (fun t ht hW => ⟨_, rfl, (by rw [m_M_plainCode, if_neg h1, if_neg h2, if_neg h3, if_neg h4, if_neg h5, if_neg h6, if_neg h7, if_neg h8, if_neg h9, if_neg h10, if_neg h11, if_neg h12, if_neg h13, if_pos h14]), ht⟩) (fun _ h => by cases h) d_M_plainCode_103
    refine lv_iload_n hx hb d_M_plainCode_92 rfl (lv_at hl 1 rfl) ?_
    refine lv_bipush (v := 22) hx hb d_M_plainCode_93 (by decide) ?_
    refine lv_icmp_ne (tgt := 102) hx hb d_M_plainCode_95 (by decide) (fun h15 => ?_) (fun h15 => ?_)
    · refine lv_iconst (v := 0) hx hb d_M_plainCode_102 (by decide) ?_
      exact W.zret hx hb hr rfl (fun t ht hW => ⟨_, rfl, (by rw [m_M_plainCode, if_neg h1, if_neg h2, if_neg h3, if_neg h4, if_neg h5, if_neg h6, if_neg h7, if_neg h8, if_neg h9, if_neg h10, if_neg h11, if_neg h12, if_neg h13, if_neg h14, if_neg h15]), ht⟩) (fun _ h => by cases h) d_M_plainCode_103
    refine lv_iconst (v := 1) hx hb d_M_plainCode_98 (by decide) ?_
    refine lv_goto (tgt := 103) hx hb d_M_plainCode_99 (by decide) ?_
    exact W.zret hx hb hr rfl (fun t ht hW => ⟨_, rfl, (by rw [m_M_plainCode, if_neg h1, if_neg h2, if_neg h3, if_neg h4, if_neg h5, if_neg h6, if_neg h7, if_neg h8, if_neg h9, if_neg h10, if_neg h11, if_neg h12, if_neg h13, if_neg h14, if_pos h15]), ht⟩) (fun _ h => by cases h) d_M_plainCode_103
  refine lv_iconst (v := 1) hx hb d_M_plainCode_41 (by decide) ?_
  refine lv_goto (tgt := 46) hx hb d_M_plainCode_42 (by decide) ?_
  refine lv_istore_n hx hb d_M_plainCode_46 rfl hl (by decide) rfl (fun ls hl => ?_)
  have hl : lv_has ls 2 [(1, .int (1 : Int32)), (0, .int cd)] := hl
  refine lv_iload_n hx hb d_M_plainCode_47 rfl (lv_at hl 0 rfl) ?_
  refine lv_if_ne (tgt := 98) hx hb d_M_plainCode_48 (by decide) (fun _ => ?_) (fun h => absurd h (by decide))
  refine lv_iconst (v := 1) hx hb d_M_plainCode_98 (by decide) ?_
  refine lv_goto (tgt := 103) hx hb d_M_plainCode_99 (by decide) ?_
  exact W.zret hx hb hr rfl (fun t ht hW => ⟨_, rfl, (by rw [m_M_plainCode, if_neg h1, if_neg h2, if_neg h3, if_neg h4, if_neg h5, if_neg h6, if_pos h7]), ht⟩) (fun _ h => by cases h) d_M_plainCode_103
def m_M_scratchCode (cd : Int32) : Int32 := if cd = (96 : Int32) then (1 : Int32) else if cd = (97 : Int32) then (1 : Int32) else if cd = (2 : Int32) then (1 : Int32) else if cd = (3 : Int32) then (1 : Int32) else (0 : Int32)
set_option maxHeartbeats 4000000 in
set_option maxRecDepth 100000 in
theorem c_M_scratchCode (l : Launch) (cd : Int32) : Met l y_M_scratchCode (mW y_M_scratchCode b_M_scratchCode 1 (some .boolean)) { frames := 0, cells := 0, slots := 0, locals := 0 } (va_Pc [.int cd] (fun _ => True)) (vp_Si (fun r => r = m_M_scratchCode cd)) 0 0 (fun _ => False) := by
  refine Met.ofW (cc := b_M_scratchCode) (maxL := 1) (ret := (some .boolean)) (by decide) rfl ?_
  intro p e s m args below meth c s₁ B hml hv
  obtain ⟨rfl, -⟩ := hv
  have hx := B.exec
  have hb := B.bytes
  have hr := B.returns
  have hlocks := B.notSynchronized
  have hts := fun (w : Cond) (h : w ∈ lw_g) => atoms_spec (ws := mW y_M_scratchCode b_M_scratchCode 1 (some .boolean)) B.pre w (List.mem_cons_of_mem _ h)
  have hown : s.vm.findClass R_M = some m.cls := findClass_of_methodNamed B.named
  have hl := lv_entry ([.int cd]) (n := 1) (Nat.le_of_ble_eq_true rfl)
  rw [lg_entry_eq]
  generalize (lg_sl ([.int cd]) ++ List.replicate (1 - (lg_sl ([.int cd])).length) Slot.unset).toArray = ls at hl ⊢
  have hl : lv_has ls 1 [(0, .int cd)] := hl
  refine lv_iload_n hx hb d_M_scratchCode_0 rfl (lv_at hl 0 rfl) ?_
  refine lv_bipush (v := 96) hx hb d_M_scratchCode_1 (by decide) ?_
  refine lv_icmp_eq (tgt := 22) hx hb d_M_scratchCode_3 (by decide) (fun h1 => ?_) (fun h1 => ?_)
  · refine lv_iconst (v := 1) hx hb d_M_scratchCode_22 (by decide) ?_
    refine lv_goto (tgt := 27) hx hb d_M_scratchCode_23 (by decide) ?_
    exact W.zret hx hb hr rfl (fun t ht hW => ⟨_, rfl, (by rw [m_M_scratchCode, if_pos h1]), ht⟩) (fun _ h => by cases h) d_M_scratchCode_27
  refine lv_iload_n hx hb d_M_scratchCode_6 rfl (lv_at hl 0 rfl) ?_
  refine lv_bipush (v := 97) hx hb d_M_scratchCode_7 (by decide) ?_
  refine lv_icmp_eq (tgt := 22) hx hb d_M_scratchCode_9 (by decide) (fun h2 => ?_) (fun h2 => ?_)
  · refine lv_iconst (v := 1) hx hb d_M_scratchCode_22 (by decide) ?_
    refine lv_goto (tgt := 27) hx hb d_M_scratchCode_23 (by decide) ?_
    exact W.zret hx hb hr rfl (fun t ht hW => ⟨_, rfl, (by rw [m_M_scratchCode, if_neg h1, if_pos h2]), ht⟩) (fun _ h => by cases h) d_M_scratchCode_27
  refine lv_iload_n hx hb d_M_scratchCode_12 rfl (lv_at hl 0 rfl) ?_
  refine lv_iconst (v := 2) hx hb d_M_scratchCode_13 (by decide) ?_
  refine lv_icmp_eq (tgt := 22) hx hb d_M_scratchCode_14 (by decide) (fun h3 => ?_) (fun h3 => ?_)
  · refine lv_iconst (v := 1) hx hb d_M_scratchCode_22 (by decide) ?_
    refine lv_goto (tgt := 27) hx hb d_M_scratchCode_23 (by decide) ?_
    exact W.zret hx hb hr rfl (fun t ht hW => ⟨_, rfl, (by rw [m_M_scratchCode, if_neg h1, if_neg h2, if_pos h3]), ht⟩) (fun _ h => by cases h) d_M_scratchCode_27
  refine lv_iload_n hx hb d_M_scratchCode_17 rfl (lv_at hl 0 rfl) ?_
  refine lv_iconst (v := 3) hx hb d_M_scratchCode_18 (by decide) ?_
  refine lv_icmp_ne (tgt := 26) hx hb d_M_scratchCode_19 (by decide) (fun h4 => ?_) (fun h4 => ?_)
  · refine lv_iconst (v := 0) hx hb d_M_scratchCode_26 (by decide) ?_
    exact W.zret hx hb hr rfl (fun t ht hW => ⟨_, rfl, (by rw [m_M_scratchCode, if_neg h1, if_neg h2, if_neg h3, if_neg h4]), ht⟩) (fun _ h => by cases h) d_M_scratchCode_27
  refine lv_iconst (v := 1) hx hb d_M_scratchCode_22 (by decide) ?_
  refine lv_goto (tgt := 27) hx hb d_M_scratchCode_23 (by decide) ?_
  exact W.zret hx hb hr rfl (fun t ht hW => ⟨_, rfl, (by rw [m_M_scratchCode, if_neg h1, if_neg h2, if_neg h3, if_pos h4]), ht⟩) (fun _ h => by cases h) d_M_scratchCode_27
/-! The reference: booleans and bounds -/
def b01 (x : Int32) : Prop := x = 0 ∨ x = 1
theorem z_b01 {x : Int32} (h : b01 x) : narrow .boolean (.int x) = .int x := by
  rcases h with rfl | rfl <;> rfl
theorem b01_upd {f : Nat → Int32} {k : Nat} {x : Int32} (h : ∀ i, b01 (f i)) (hx : b01 x := by first | exact Or.inl rfl | exact Or.inr rfl) : ∀ i, b01 (upd f k x i) := by
  intro i
  unfold upd
  split
  · exact hx
  · exact h i
theorem z_belowM (u v : Int64) : narrow .boolean (.int (m_M_below u v)) = .int (m_M_below u v) := by
  unfold m_M_below
  repeat' split
  all_goals rfl
theorem ix_w {x : Int32} (h1 : ¬ x < 0) (h2 : ¬ (15 : Int32) < x) : vp_in x 16 := by
  rw [vp_in_iff]
  rw [Int32.lt_iff_toInt_lt] at h1 h2
  have h0 : (0 : Int32).toInt = 0 := rfl
  have h15 : (15 : Int32).toInt = 15 := rfl
  omega
theorem ix_w2 {x : Int32} (h1 : ¬ x < 0) (h2 : x ≤ (15 : Int32)) : vp_in x 16 := by
  rw [vp_in_iff]
  rw [Int32.lt_iff_toInt_lt] at h1
  rw [Int32.le_iff_toInt_le] at h2
  have h0 : (0 : Int32).toInt = 0 := rfl
  have h15 : (15 : Int32).toInt = 15 := rfl
  omega
theorem in6 {x : Int32} (h1 : ¬ x < 0) (h2 : x ≤ (5 : Int32)) : vp_in x 6 := by
  rw [vp_in_iff]
  rw [Int32.lt_iff_toInt_lt] at h1
  rw [Int32.le_iff_toInt_le] at h2
  have h0 : (0 : Int32).toInt = 0 := rfl
  have h15 : (5 : Int32).toInt = 5 := rfl
  omega
theorem ix_p5 {i : Int32} (h : vp_in i 6) : vp_in ((5 : Int32) + (2 : Int32) * i) 16 := by
  obtain ⟨j, hj, rfl⟩ := vp_in_of h (by decide)
  show vp_in (nI 5 + nI 2 * nI j) 16
  rw [nI_mul, nI_add]
  exact vp_in_nI (by omega) (by decide)
theorem ix_a4 {x : Int32} (h1 : ¬ x < 0) (h2 : x ≤ (5 : Int32)) : vp_in ((4 : Int32) + (2 : Int32) * x) 16 := ix_4 (in6 h1 h2)
theorem ix_a5 {x : Int32} (h1 : ¬ x < 0) (h2 : x ≤ (5 : Int32)) : vp_in ((5 : Int32) + (2 : Int32) * x) 16 := ix_p5 (in6 h1 h2)
theorem ix_ru {x : Int32} (hn : iN x ≤ 6) (h : ¬ x = (6 : Int32)) : vp_in x 6 := by
  have h0 : ¬ iN x = 6 := fun q => h (iN_inj q)
  exact in_iN (by decide) (by omega)
theorem ix_ru8 {x : Int32} (hn : iN x ≤ 6) (h : ¬ x = (6 : Int32)) : vp_in x 8 := in_iN (by decide) (by omega)
theorem ix_r1 {x : Int32} (hn : iN x ≤ 6) (h : ¬ x = (0 : Int32)) : vp_in (x - (1 : Int32)) 6 := ix_last hn h
theorem ix_cc {x : Int32} {f : Nat → Int32} (hn : iN x ≤ 6) (hc : ∀ i, i < 6 → iN (f i) ≤ 3) (h0 : ¬ x = (0 : Int32)) (h3 : ¬ f (x - (1 : Int32)).toNatClampNeg = (3 : Int32)) : vp_in ((3 : Int32) * (x - (1 : Int32)) + f (x - (1 : Int32)).toNatClampNeg) 18 := by
  have e := iN_pred h0
  have hp := n_pos h0
  have e2 := iN_clamp (x := x - (1 : Int32)) (by omega)
  have hl := hc (x - (1 : Int32)).toNatClampNeg (by omega)
  have h4 : ¬ iN (f (x - (1 : Int32)).toNatClampNeg) = 3 := fun q => h3 (iN_inj q)
  refine in_iN (by decide) ?_
  generalize f (x - (1 : Int32)).toNatClampNeg = y at hl h4 ⊢
  rw [iN_add, iN_mul, e, show iN (3 : Int32) = 3 from rfl, Nat.mod_eq_of_lt (show 3 * (iN x - 1) < 4294967296 by omega), Nat.mod_eq_of_lt (by omega)]
  omega
theorem mt_lt {x : Int32} {i c : Nat} (hi : i < 6) (hx : iN x ≤ 3) (hcl : c ≤ 3 * i + 3) (h : ¬ (3 : Int32) * nI i + x ≤ nI c) : c < 3 * i + 3 := by
  have e1 : iN (nI c) = c := by rw [iN_nI]; omega
  have e2 : iN ((3 : Int32) * nI i + x) = 3 * i + iN x := by
    rw [iN_add, iN_mul, iN_nI, show iN (3 : Int32) = 3 from rfl]
    omega
  rw [le_n (by omega) (by omega), e1, e2] at h
  omega
theorem n7_lt {k : Nat} (hk : k ≤ 7) (h : ¬ (7 : Int32) ≤ nI k) : k < 7 := by
  have e1 : iN (nI k) = k := by rw [iN_nI]; omega
  have e : iN (7 : Int32) = 7 := rfl
  rw [le_n (by decide) (by omega), e1] at h
  omega
theorem nt_lt {to : Int32} {i : Nat} (ht : iN to < 64) (hi : i ≤ iN to) (h : ¬ to ≤ nI i) : i < iN to := nj_lt (Nat.le_refl _) (by omega) hi h
theorem to_in {to x : Int32} (hx : iN x ≤ 64) (h : iN to < iN x) : vp_in to 64 := in_iN (by decide) (by omega)
theorem ix_pg {x : Int32} (hn : iN x ≤ 64) (h : ¬ x = (64 : Int32)) : vp_in x 64 := by
  have h0 : ¬ iN x = 64 := fun q => h (iN_inj q)
  exact in_iN (by decide) (by omega)
theorem wd_501 : Cond.fieldLink R_M 7 R_M "wordsOf" "[I" ∈ lw_g := wd_in (i := 501) (by decide +kernel) (by decide +kernel)
theorem wd_502 : Cond.fieldLink R_M 62 R_M "rules" "I" ∈ lw_g := wd_in (i := 502) (by decide +kernel) (by decide +kernel)
theorem wd_503 : Cond.fieldLink R_M 13 R_M "low" "[I" ∈ lw_g := wd_in (i := 503) (by decide +kernel) (by decide +kernel)
theorem wd_504 : Cond.fieldLink R_M 16 R_M "high" "[I" ∈ lw_g := wd_in (i := 504) (by decide +kernel) (by decide +kernel)
theorem wd_505 : Cond.fieldLink R_M 19 R_M "kinds" "[I" ∈ lw_g := wd_in (i := 505) (by decide +kernel) (by decide +kernel)
theorem wd_506 : Cond.fieldLink R_M 22 R_M "extra" "[I" ∈ lw_g := wd_in (i := 506) (by decide +kernel) (by decide +kernel)
theorem wd_507 : Cond.fieldLink R_M 25 R_M "conditions" "[I" ∈ lw_g := wd_in (i := 507) (by decide +kernel) (by decide +kernel)
theorem wd_508 : Cond.fieldLink R_M 28 R_M "which" "[I" ∈ lw_g := wd_in (i := 508) (by decide +kernel) (by decide +kernel)
theorem wd_509 : Cond.fieldLink R_M 31 R_M "how" "[I" ∈ lw_g := wd_in (i := 509) (by decide +kernel) (by decide +kernel)
theorem wd_510 : Cond.fieldLink R_M 34 R_M "values" "[J" ∈ lw_g := wd_in (i := 510) (by decide +kernel) (by decide +kernel)
theorem wd_511 : Cond.fieldLink R_M 38 R_M "masks" "[J" ∈ lw_g := wd_in (i := 511) (by decide +kernel) (by decide +kernel)
theorem wd_512 : Cond.fieldLink R_M 100 R_M "size" "I" ∈ lw_g := wd_in (i := 512) (by decide +kernel) (by decide +kernel)
theorem wd_513 : Cond.fieldLink R_M 41 R_M "program" "[J" ∈ lw_g := wd_in (i := 513) (by decide +kernel) (by decide +kernel)
theorem wd_515 : Cond.fieldLink R_M 159 R_M "done" "I" ∈ lw_g := wd_in (i := 515) (by decide +kernel) (by decide +kernel)
theorem wd_518 : Cond.fieldLink R_M 48 R_M "cells" "[J" ∈ lw_g := wd_in (i := 518) (by decide +kernel) (by decide +kernel)
theorem wd_519 : Cond.fieldLink R_M 51 R_M "stored" "[Z" ∈ lw_g := wd_in (i := 519) (by decide +kernel) (by decide +kernel)
theorem wd_574 : Cond.constant R_M 60 1073741824 ∈ lw_g := wd_in (i := 574) (by decide +kernel) (by decide +kernel)
theorem wd_575 : Cond.constant R_M 61 65535 ∈ lw_g := wd_in (i := 575) (by decide +kernel) (by decide +kernel)
theorem wd_684 : Cond.constantLong R_M 165 (-1) ∈ lw_g := wd_in (i := 684) (by decide +kernel) (by decide +kernel)
theorem d_M_word_0 : decode b_M_word 0 = .ok (.iload_n 1, 1) := by decide +kernel
theorem d_M_word_1 : decode b_M_word 1 = .ok (.ifCond .lt 9, 3) := by decide +kernel
theorem d_M_word_4 : decode b_M_word 4 = .ok (.iload_n 1, 1) := by decide +kernel
theorem d_M_word_5 : decode b_M_word 5 = .ok (.bipush 15, 2) := by decide +kernel
theorem d_M_word_7 : decode b_M_word 7 = .ok (.if_icmp .le 5, 3) := by decide +kernel
theorem d_M_word_10 : decode b_M_word 10 = .ok (.iconst 0, 1) := by decide +kernel
theorem d_M_word_11 : decode b_M_word 11 = .ok (.ireturn, 1) := by decide +kernel
theorem d_M_word_12 : decode b_M_word 12 = .ok (.aload_n 0, 1) := by decide +kernel
theorem d_M_word_13 : decode b_M_word 13 = .ok (.getfield 7, 3) := by decide +kernel
theorem d_M_word_16 : decode b_M_word 16 = .ok (.iload_n 1, 1) := by decide +kernel
theorem d_M_word_17 : decode b_M_word 17 = .ok (.iload_n 2, 1) := by decide +kernel
theorem d_M_word_18 : decode b_M_word 18 = .ok (.iastore, 1) := by decide +kernel
theorem d_M_word_19 : decode b_M_word 19 = .ok (.iconst 1, 1) := by decide +kernel
theorem d_M_word_20 : decode b_M_word 20 = .ok (.ireturn, 1) := by decide +kernel
theorem d_M_argument_0 : decode b_M_argument 0 = .ok (.iload_n 1, 1) := by decide +kernel
theorem d_M_argument_1 : decode b_M_argument 1 = .ok (.ifCond .lt 8, 3) := by decide +kernel
theorem d_M_argument_4 : decode b_M_argument 4 = .ok (.iload_n 1, 1) := by decide +kernel
theorem d_M_argument_5 : decode b_M_argument 5 = .ok (.iconst 5, 1) := by decide +kernel
theorem d_M_argument_6 : decode b_M_argument 6 = .ok (.if_icmp .le 5, 3) := by decide +kernel
theorem d_M_argument_9 : decode b_M_argument 9 = .ok (.iconst 0, 1) := by decide +kernel
theorem d_M_argument_10 : decode b_M_argument 10 = .ok (.ireturn, 1) := by decide +kernel
theorem d_M_argument_11 : decode b_M_argument 11 = .ok (.aload_n 0, 1) := by decide +kernel
theorem d_M_argument_12 : decode b_M_argument 12 = .ok (.getfield 7, 3) := by decide +kernel
theorem d_M_argument_15 : decode b_M_argument 15 = .ok (.iconst 4, 1) := by decide +kernel
theorem d_M_argument_16 : decode b_M_argument 16 = .ok (.iconst 2, 1) := by decide +kernel
theorem d_M_argument_17 : decode b_M_argument 17 = .ok (.iload_n 1, 1) := by decide +kernel
theorem d_M_argument_18 : decode b_M_argument 18 = .ok (.imul, 1) := by decide +kernel
theorem d_M_argument_19 : decode b_M_argument 19 = .ok (.iadd, 1) := by decide +kernel
theorem d_M_argument_20 : decode b_M_argument 20 = .ok (.lload_n 2, 1) := by decide +kernel
theorem d_M_argument_21 : decode b_M_argument 21 = .ok (.l2i, 1) := by decide +kernel
theorem d_M_argument_22 : decode b_M_argument 22 = .ok (.iastore, 1) := by decide +kernel
theorem d_M_argument_23 : decode b_M_argument 23 = .ok (.aload_n 0, 1) := by decide +kernel
theorem d_M_argument_24 : decode b_M_argument 24 = .ok (.getfield 7, 3) := by decide +kernel
theorem d_M_argument_27 : decode b_M_argument 27 = .ok (.iconst 5, 1) := by decide +kernel
theorem d_M_argument_28 : decode b_M_argument 28 = .ok (.iconst 2, 1) := by decide +kernel
theorem d_M_argument_29 : decode b_M_argument 29 = .ok (.iload_n 1, 1) := by decide +kernel
theorem d_M_argument_30 : decode b_M_argument 30 = .ok (.imul, 1) := by decide +kernel
theorem d_M_argument_31 : decode b_M_argument 31 = .ok (.iadd, 1) := by decide +kernel
theorem d_M_argument_32 : decode b_M_argument 32 = .ok (.lload_n 2, 1) := by decide +kernel
theorem d_M_argument_33 : decode b_M_argument 33 = .ok (.bipush 32, 2) := by decide +kernel
theorem d_M_argument_35 : decode b_M_argument 35 = .ok (.lshr, 1) := by decide +kernel
theorem d_M_argument_36 : decode b_M_argument 36 = .ok (.l2i, 1) := by decide +kernel
theorem d_M_argument_37 : decode b_M_argument 37 = .ok (.iastore, 1) := by decide +kernel
theorem d_M_argument_38 : decode b_M_argument 38 = .ok (.iconst 1, 1) := by decide +kernel
theorem d_M_argument_39 : decode b_M_argument 39 = .ok (.ireturn, 1) := by decide +kernel
theorem d_M_plain_0 : decode b_M_plain 0 = .ok (.aload_n 0, 1) := by decide +kernel
theorem d_M_plain_1 : decode b_M_plain 1 = .ok (.getfield 7, 3) := by decide +kernel
theorem d_M_plain_4 : decode b_M_plain 4 = .ok (.iload_n 1, 1) := by decide +kernel
theorem d_M_plain_5 : decode b_M_plain 5 = .ok (.iaload, 1) := by decide +kernel
theorem d_M_plain_6 : decode b_M_plain 6 = .ok (.i2l, 1) := by decide +kernel
theorem d_M_plain_7 : decode b_M_plain 7 = .ok (.ldc2_w 58, 3) := by decide +kernel
theorem d_M_plain_10 : decode b_M_plain 10 = .ok (.land, 1) := by decide +kernel
theorem d_M_plain_11 : decode b_M_plain 11 = .ok (.lreturn, 1) := by decide +kernel
theorem d_M_rule_0 : decode b_M_rule 0 = .ok (.iload_n 1, 1) := by decide +kernel
theorem d_M_rule_1 : decode b_M_rule 1 = .ok (.ifCond .lt 45, 3) := by decide +kernel
theorem d_M_rule_4 : decode b_M_rule 4 = .ok (.iload_n 1, 1) := by decide +kernel
theorem d_M_rule_5 : decode b_M_rule 5 = .ok (.iload_n 2, 1) := by decide +kernel
theorem d_M_rule_6 : decode b_M_rule 6 = .ok (.if_icmp .gt 40, 3) := by decide +kernel
theorem d_M_rule_9 : decode b_M_rule 9 = .ok (.iload_n 2, 1) := by decide +kernel
theorem d_M_rule_10 : decode b_M_rule 10 = .ok (.ldc 60, 2) := by decide +kernel
theorem d_M_rule_12 : decode b_M_rule 12 = .ok (.if_icmp .ge 34, 3) := by decide +kernel
theorem d_M_rule_15 : decode b_M_rule 15 = .ok (.iload_n 3, 1) := by decide +kernel
theorem d_M_rule_16 : decode b_M_rule 16 = .ok (.ifCond .lt 30, 3) := by decide +kernel
theorem d_M_rule_19 : decode b_M_rule 19 = .ok (.iload_n 3, 1) := by decide +kernel
theorem d_M_rule_20 : decode b_M_rule 20 = .ok (.bipush 6, 2) := by decide +kernel
theorem d_M_rule_22 : decode b_M_rule 22 = .ok (.if_icmp .gt 24, 3) := by decide +kernel
theorem d_M_rule_25 : decode b_M_rule 25 = .ok (.iload 4, 2) := by decide +kernel
theorem d_M_rule_27 : decode b_M_rule 27 = .ok (.ifCond .lt 19, 3) := by decide +kernel
theorem d_M_rule_30 : decode b_M_rule 30 = .ok (.iload 4, 2) := by decide +kernel
theorem d_M_rule_32 : decode b_M_rule 32 = .ok (.ldc 61, 2) := by decide +kernel
theorem d_M_rule_34 : decode b_M_rule 34 = .ok (.if_icmp .gt 12, 3) := by decide +kernel
theorem d_M_rule_37 : decode b_M_rule 37 = .ok (.aload_n 0, 1) := by decide +kernel
theorem d_M_rule_38 : decode b_M_rule 38 = .ok (.getfield 62, 3) := by decide +kernel
theorem d_M_rule_41 : decode b_M_rule 41 = .ok (.bipush 6, 2) := by decide +kernel
theorem d_M_rule_43 : decode b_M_rule 43 = .ok (.if_icmp .ne 5, 3) := by decide +kernel
theorem d_M_rule_46 : decode b_M_rule 46 = .ok (.iconst (-1), 1) := by decide +kernel
theorem d_M_rule_47 : decode b_M_rule 47 = .ok (.ireturn, 1) := by decide +kernel
theorem d_M_rule_48 : decode b_M_rule 48 = .ok (.aload_n 0, 1) := by decide +kernel
theorem d_M_rule_49 : decode b_M_rule 49 = .ok (.getfield 13, 3) := by decide +kernel
theorem d_M_rule_52 : decode b_M_rule 52 = .ok (.aload_n 0, 1) := by decide +kernel
theorem d_M_rule_53 : decode b_M_rule 53 = .ok (.getfield 62, 3) := by decide +kernel
theorem d_M_rule_56 : decode b_M_rule 56 = .ok (.iload_n 1, 1) := by decide +kernel
theorem d_M_rule_57 : decode b_M_rule 57 = .ok (.iastore, 1) := by decide +kernel
theorem d_M_rule_58 : decode b_M_rule 58 = .ok (.aload_n 0, 1) := by decide +kernel
theorem d_M_rule_59 : decode b_M_rule 59 = .ok (.getfield 16, 3) := by decide +kernel
theorem d_M_rule_62 : decode b_M_rule 62 = .ok (.aload_n 0, 1) := by decide +kernel
theorem d_M_rule_63 : decode b_M_rule 63 = .ok (.getfield 62, 3) := by decide +kernel
theorem d_M_rule_66 : decode b_M_rule 66 = .ok (.iload_n 2, 1) := by decide +kernel
theorem d_M_rule_67 : decode b_M_rule 67 = .ok (.iastore, 1) := by decide +kernel
theorem d_M_rule_68 : decode b_M_rule 68 = .ok (.aload_n 0, 1) := by decide +kernel
theorem d_M_rule_69 : decode b_M_rule 69 = .ok (.getfield 19, 3) := by decide +kernel
theorem d_M_rule_72 : decode b_M_rule 72 = .ok (.aload_n 0, 1) := by decide +kernel
theorem d_M_rule_73 : decode b_M_rule 73 = .ok (.getfield 62, 3) := by decide +kernel
theorem d_M_rule_76 : decode b_M_rule 76 = .ok (.iload_n 3, 1) := by decide +kernel
theorem d_M_rule_77 : decode b_M_rule 77 = .ok (.iastore, 1) := by decide +kernel
theorem d_M_rule_78 : decode b_M_rule 78 = .ok (.aload_n 0, 1) := by decide +kernel
theorem d_M_rule_79 : decode b_M_rule 79 = .ok (.getfield 22, 3) := by decide +kernel
theorem d_M_rule_82 : decode b_M_rule 82 = .ok (.aload_n 0, 1) := by decide +kernel
theorem d_M_rule_83 : decode b_M_rule 83 = .ok (.getfield 62, 3) := by decide +kernel
theorem d_M_rule_86 : decode b_M_rule 86 = .ok (.iload 4, 2) := by decide +kernel
theorem d_M_rule_88 : decode b_M_rule 88 = .ok (.iastore, 1) := by decide +kernel
theorem d_M_rule_89 : decode b_M_rule 89 = .ok (.aload_n 0, 1) := by decide +kernel
theorem d_M_rule_90 : decode b_M_rule 90 = .ok (.getfield 25, 3) := by decide +kernel
theorem d_M_rule_93 : decode b_M_rule 93 = .ok (.aload_n 0, 1) := by decide +kernel
theorem d_M_rule_94 : decode b_M_rule 94 = .ok (.getfield 62, 3) := by decide +kernel
theorem d_M_rule_97 : decode b_M_rule 97 = .ok (.iconst 0, 1) := by decide +kernel
theorem d_M_rule_98 : decode b_M_rule 98 = .ok (.iastore, 1) := by decide +kernel
theorem d_M_rule_99 : decode b_M_rule 99 = .ok (.aload_n 0, 1) := by decide +kernel
theorem d_M_rule_100 : decode b_M_rule 100 = .ok (.dup, 1) := by decide +kernel
theorem d_M_rule_101 : decode b_M_rule 101 = .ok (.getfield 62, 3) := by decide +kernel
theorem d_M_rule_104 : decode b_M_rule 104 = .ok (.iconst 1, 1) := by decide +kernel
theorem d_M_rule_105 : decode b_M_rule 105 = .ok (.iadd, 1) := by decide +kernel
theorem d_M_rule_106 : decode b_M_rule 106 = .ok (.putfield 62, 3) := by decide +kernel
theorem d_M_rule_109 : decode b_M_rule 109 = .ok (.aload_n 0, 1) := by decide +kernel
theorem d_M_rule_110 : decode b_M_rule 110 = .ok (.getfield 62, 3) := by decide +kernel
theorem d_M_rule_113 : decode b_M_rule 113 = .ok (.iconst 1, 1) := by decide +kernel
theorem d_M_rule_114 : decode b_M_rule 114 = .ok (.isub, 1) := by decide +kernel
theorem d_M_rule_115 : decode b_M_rule 115 = .ok (.ireturn, 1) := by decide +kernel
theorem d_M_condition_0 : decode b_M_condition 0 = .ok (.aload_n 0, 1) := by decide +kernel
theorem d_M_condition_1 : decode b_M_condition 1 = .ok (.getfield 62, 3) := by decide +kernel
theorem d_M_condition_4 : decode b_M_condition 4 = .ok (.ifCond .eq 37, 3) := by decide +kernel
theorem d_M_condition_7 : decode b_M_condition 7 = .ok (.iload_n 1, 1) := by decide +kernel
theorem d_M_condition_8 : decode b_M_condition 8 = .ok (.ifCond .lt 33, 3) := by decide +kernel
theorem d_M_condition_11 : decode b_M_condition 11 = .ok (.iload_n 1, 1) := by decide +kernel
theorem d_M_condition_12 : decode b_M_condition 12 = .ok (.iconst 5, 1) := by decide +kernel
theorem d_M_condition_13 : decode b_M_condition 13 = .ok (.if_icmp .gt 28, 3) := by decide +kernel
theorem d_M_condition_16 : decode b_M_condition 16 = .ok (.iload_n 2, 1) := by decide +kernel
theorem d_M_condition_17 : decode b_M_condition 17 = .ok (.ifCond .lt 24, 3) := by decide +kernel
theorem d_M_condition_20 : decode b_M_condition 20 = .ok (.iload_n 2, 1) := by decide +kernel
theorem d_M_condition_21 : decode b_M_condition 21 = .ok (.bipush 6, 2) := by decide +kernel
theorem d_M_condition_23 : decode b_M_condition 23 = .ok (.if_icmp .gt 18, 3) := by decide +kernel
theorem d_M_condition_26 : decode b_M_condition 26 = .ok (.aload_n 0, 1) := by decide +kernel
theorem d_M_condition_27 : decode b_M_condition 27 = .ok (.getfield 25, 3) := by decide +kernel
theorem d_M_condition_30 : decode b_M_condition 30 = .ok (.aload_n 0, 1) := by decide +kernel
theorem d_M_condition_31 : decode b_M_condition 31 = .ok (.getfield 62, 3) := by decide +kernel
theorem d_M_condition_34 : decode b_M_condition 34 = .ok (.iconst 1, 1) := by decide +kernel
theorem d_M_condition_35 : decode b_M_condition 35 = .ok (.isub, 1) := by decide +kernel
theorem d_M_condition_36 : decode b_M_condition 36 = .ok (.iaload, 1) := by decide +kernel
theorem d_M_condition_37 : decode b_M_condition 37 = .ok (.iconst 3, 1) := by decide +kernel
theorem d_M_condition_38 : decode b_M_condition 38 = .ok (.if_icmp .ne 5, 3) := by decide +kernel
theorem d_M_condition_41 : decode b_M_condition 41 = .ok (.iconst 0, 1) := by decide +kernel
theorem d_M_condition_42 : decode b_M_condition 42 = .ok (.ireturn, 1) := by decide +kernel
theorem d_M_condition_43 : decode b_M_condition 43 = .ok (.iconst 3, 1) := by decide +kernel
theorem d_M_condition_44 : decode b_M_condition 44 = .ok (.aload_n 0, 1) := by decide +kernel
theorem d_M_condition_45 : decode b_M_condition 45 = .ok (.getfield 62, 3) := by decide +kernel
theorem d_M_condition_48 : decode b_M_condition 48 = .ok (.iconst 1, 1) := by decide +kernel
theorem d_M_condition_49 : decode b_M_condition 49 = .ok (.isub, 1) := by decide +kernel
theorem d_M_condition_50 : decode b_M_condition 50 = .ok (.imul, 1) := by decide +kernel
theorem d_M_condition_51 : decode b_M_condition 51 = .ok (.aload_n 0, 1) := by decide +kernel
theorem d_M_condition_52 : decode b_M_condition 52 = .ok (.getfield 25, 3) := by decide +kernel
theorem d_M_condition_55 : decode b_M_condition 55 = .ok (.aload_n 0, 1) := by decide +kernel
theorem d_M_condition_56 : decode b_M_condition 56 = .ok (.getfield 62, 3) := by decide +kernel
theorem d_M_condition_59 : decode b_M_condition 59 = .ok (.iconst 1, 1) := by decide +kernel
theorem d_M_condition_60 : decode b_M_condition 60 = .ok (.isub, 1) := by decide +kernel
theorem d_M_condition_61 : decode b_M_condition 61 = .ok (.iaload, 1) := by decide +kernel
theorem d_M_condition_62 : decode b_M_condition 62 = .ok (.iadd, 1) := by decide +kernel
theorem d_M_condition_63 : decode b_M_condition 63 = .ok (.istore 7, 2) := by decide +kernel
theorem d_M_condition_65 : decode b_M_condition 65 = .ok (.aload_n 0, 1) := by decide +kernel
theorem d_M_condition_66 : decode b_M_condition 66 = .ok (.getfield 28, 3) := by decide +kernel
theorem d_M_condition_69 : decode b_M_condition 69 = .ok (.iload 7, 2) := by decide +kernel
theorem d_M_condition_71 : decode b_M_condition 71 = .ok (.iload_n 1, 1) := by decide +kernel
theorem d_M_condition_72 : decode b_M_condition 72 = .ok (.iastore, 1) := by decide +kernel
theorem d_M_condition_73 : decode b_M_condition 73 = .ok (.aload_n 0, 1) := by decide +kernel
theorem d_M_condition_74 : decode b_M_condition 74 = .ok (.getfield 31, 3) := by decide +kernel
theorem d_M_condition_77 : decode b_M_condition 77 = .ok (.iload 7, 2) := by decide +kernel
theorem d_M_condition_79 : decode b_M_condition 79 = .ok (.iload_n 2, 1) := by decide +kernel
theorem d_M_condition_80 : decode b_M_condition 80 = .ok (.iastore, 1) := by decide +kernel
theorem d_M_condition_81 : decode b_M_condition 81 = .ok (.aload_n 0, 1) := by decide +kernel
theorem d_M_condition_82 : decode b_M_condition 82 = .ok (.getfield 34, 3) := by decide +kernel
theorem d_M_condition_85 : decode b_M_condition 85 = .ok (.iload 7, 2) := by decide +kernel
theorem d_M_condition_87 : decode b_M_condition 87 = .ok (.lload_n 3, 1) := by decide +kernel
theorem d_M_condition_88 : decode b_M_condition 88 = .ok (.lastore, 1) := by decide +kernel
theorem d_M_condition_89 : decode b_M_condition 89 = .ok (.aload_n 0, 1) := by decide +kernel
theorem d_M_condition_90 : decode b_M_condition 90 = .ok (.getfield 38, 3) := by decide +kernel
theorem d_M_condition_93 : decode b_M_condition 93 = .ok (.iload 7, 2) := by decide +kernel
theorem d_M_condition_95 : decode b_M_condition 95 = .ok (.lload 5, 2) := by decide +kernel
theorem d_M_condition_97 : decode b_M_condition 97 = .ok (.lastore, 1) := by decide +kernel
theorem d_M_condition_98 : decode b_M_condition 98 = .ok (.aload_n 0, 1) := by decide +kernel
theorem d_M_condition_99 : decode b_M_condition 99 = .ok (.getfield 25, 3) := by decide +kernel
theorem d_M_condition_102 : decode b_M_condition 102 = .ok (.aload_n 0, 1) := by decide +kernel
theorem d_M_condition_103 : decode b_M_condition 103 = .ok (.getfield 62, 3) := by decide +kernel
theorem d_M_condition_106 : decode b_M_condition 106 = .ok (.iconst 1, 1) := by decide +kernel
theorem d_M_condition_107 : decode b_M_condition 107 = .ok (.isub, 1) := by decide +kernel
theorem d_M_condition_108 : decode b_M_condition 108 = .ok (.dup2, 1) := by decide +kernel
theorem d_M_condition_109 : decode b_M_condition 109 = .ok (.iaload, 1) := by decide +kernel
theorem d_M_condition_110 : decode b_M_condition 110 = .ok (.iconst 1, 1) := by decide +kernel
theorem d_M_condition_111 : decode b_M_condition 111 = .ok (.iadd, 1) := by decide +kernel
theorem d_M_condition_112 : decode b_M_condition 112 = .ok (.iastore, 1) := by decide +kernel
theorem d_M_condition_113 : decode b_M_condition 113 = .ok (.iconst 1, 1) := by decide +kernel
theorem d_M_condition_114 : decode b_M_condition 114 = .ok (.ireturn, 1) := by decide +kernel
theorem d_M_otherwise_0 : decode b_M_otherwise 0 = .ok (.iload_n 2, 1) := by decide +kernel
theorem d_M_otherwise_1 : decode b_M_otherwise 1 = .ok (.ifCond .lt 19, 3) := by decide +kernel
theorem d_M_otherwise_4 : decode b_M_otherwise 4 = .ok (.iload_n 2, 1) := by decide +kernel
theorem d_M_otherwise_5 : decode b_M_otherwise 5 = .ok (.bipush 6, 2) := by decide +kernel
theorem d_M_otherwise_7 : decode b_M_otherwise 7 = .ok (.if_icmp .gt 13, 3) := by decide +kernel
theorem d_M_otherwise_10 : decode b_M_otherwise 10 = .ok (.iload_n 3, 1) := by decide +kernel
theorem d_M_otherwise_11 : decode b_M_otherwise 11 = .ok (.ifCond .lt 9, 3) := by decide +kernel
theorem d_M_otherwise_14 : decode b_M_otherwise 14 = .ok (.iload_n 3, 1) := by decide +kernel
theorem d_M_otherwise_15 : decode b_M_otherwise 15 = .ok (.ldc 61, 2) := by decide +kernel
theorem d_M_otherwise_17 : decode b_M_otherwise 17 = .ok (.if_icmp .le 5, 3) := by decide +kernel
theorem d_M_otherwise_20 : decode b_M_otherwise 20 = .ok (.iconst 0, 1) := by decide +kernel
theorem d_M_otherwise_21 : decode b_M_otherwise 21 = .ok (.ireturn, 1) := by decide +kernel
theorem d_M_otherwise_22 : decode b_M_otherwise 22 = .ok (.aload_n 0, 1) := by decide +kernel
theorem d_M_otherwise_23 : decode b_M_otherwise 23 = .ok (.getfield 19, 3) := by decide +kernel
theorem d_M_otherwise_26 : decode b_M_otherwise 26 = .ok (.iload_n 1, 1) := by decide +kernel
theorem d_M_otherwise_27 : decode b_M_otherwise 27 = .ok (.ifCond .eq 8, 3) := by decide +kernel
theorem d_M_otherwise_30 : decode b_M_otherwise 30 = .ok (.bipush 7, 2) := by decide +kernel
theorem d_M_otherwise_32 : decode b_M_otherwise 32 = .ok (.goto 5, 3) := by decide +kernel
theorem d_M_otherwise_35 : decode b_M_otherwise 35 = .ok (.bipush 6, 2) := by decide +kernel
theorem d_M_otherwise_37 : decode b_M_otherwise 37 = .ok (.iload_n 2, 1) := by decide +kernel
theorem d_M_otherwise_38 : decode b_M_otherwise 38 = .ok (.iastore, 1) := by decide +kernel
theorem d_M_otherwise_39 : decode b_M_otherwise 39 = .ok (.aload_n 0, 1) := by decide +kernel
theorem d_M_otherwise_40 : decode b_M_otherwise 40 = .ok (.getfield 22, 3) := by decide +kernel
theorem d_M_otherwise_43 : decode b_M_otherwise 43 = .ok (.iload_n 1, 1) := by decide +kernel
theorem d_M_otherwise_44 : decode b_M_otherwise 44 = .ok (.ifCond .eq 8, 3) := by decide +kernel
theorem d_M_otherwise_47 : decode b_M_otherwise 47 = .ok (.bipush 7, 2) := by decide +kernel
theorem d_M_otherwise_49 : decode b_M_otherwise 49 = .ok (.goto 5, 3) := by decide +kernel
theorem d_M_otherwise_52 : decode b_M_otherwise 52 = .ok (.bipush 6, 2) := by decide +kernel
theorem d_M_otherwise_54 : decode b_M_otherwise 54 = .ok (.iload_n 3, 1) := by decide +kernel
theorem d_M_otherwise_55 : decode b_M_otherwise 55 = .ok (.iastore, 1) := by decide +kernel
theorem d_M_otherwise_56 : decode b_M_otherwise 56 = .ok (.iconst 1, 1) := by decide +kernel
theorem d_M_otherwise_57 : decode b_M_otherwise 57 = .ok (.ireturn, 1) := by decide +kernel
theorem d_M_withdraw_0 : decode b_M_withdraw 0 = .ok (.aload_n 0, 1) := by decide +kernel
theorem d_M_withdraw_1 : decode b_M_withdraw 1 = .ok (.getfield 62, 3) := by decide +kernel
theorem d_M_withdraw_4 : decode b_M_withdraw 4 = .ok (.ifCond .ne 5, 3) := by decide +kernel
theorem d_M_withdraw_7 : decode b_M_withdraw 7 = .ok (.iconst (-1), 1) := by decide +kernel
theorem d_M_withdraw_8 : decode b_M_withdraw 8 = .ok (.ireturn, 1) := by decide +kernel
theorem d_M_withdraw_9 : decode b_M_withdraw 9 = .ok (.aload_n 0, 1) := by decide +kernel
theorem d_M_withdraw_10 : decode b_M_withdraw 10 = .ok (.dup, 1) := by decide +kernel
theorem d_M_withdraw_11 : decode b_M_withdraw 11 = .ok (.getfield 62, 3) := by decide +kernel
theorem d_M_withdraw_14 : decode b_M_withdraw 14 = .ok (.iconst 1, 1) := by decide +kernel
theorem d_M_withdraw_15 : decode b_M_withdraw 15 = .ok (.isub, 1) := by decide +kernel
theorem d_M_withdraw_16 : decode b_M_withdraw 16 = .ok (.putfield 62, 3) := by decide +kernel
theorem d_M_withdraw_19 : decode b_M_withdraw 19 = .ok (.aload_n 0, 1) := by decide +kernel
theorem d_M_withdraw_20 : decode b_M_withdraw 20 = .ok (.getfield 62, 3) := by decide +kernel
theorem d_M_withdraw_23 : decode b_M_withdraw 23 = .ok (.ireturn, 1) := by decide +kernel
theorem d_M_put_0 : decode b_M_put 0 = .ok (.aload_n 0, 1) := by decide +kernel
theorem d_M_put_1 : decode b_M_put 1 = .ok (.getfield 100, 3) := by decide +kernel
theorem d_M_put_4 : decode b_M_put 4 = .ok (.bipush 64, 2) := by decide +kernel
theorem d_M_put_6 : decode b_M_put 6 = .ok (.if_icmp .ne 5, 3) := by decide +kernel
theorem d_M_put_9 : decode b_M_put 9 = .ok (.iconst 0, 1) := by decide +kernel
theorem d_M_put_10 : decode b_M_put 10 = .ok (.ireturn, 1) := by decide +kernel
theorem d_M_put_11 : decode b_M_put 11 = .ok (.aload_n 0, 1) := by decide +kernel
theorem d_M_put_12 : decode b_M_put 12 = .ok (.getfield 41, 3) := by decide +kernel
theorem d_M_put_15 : decode b_M_put 15 = .ok (.aload_n 0, 1) := by decide +kernel
theorem d_M_put_16 : decode b_M_put 16 = .ok (.getfield 100, 3) := by decide +kernel
theorem d_M_put_19 : decode b_M_put 19 = .ok (.lload_n 1, 1) := by decide +kernel
theorem d_M_put_20 : decode b_M_put 20 = .ok (.lastore, 1) := by decide +kernel
theorem d_M_put_21 : decode b_M_put 21 = .ok (.aload_n 0, 1) := by decide +kernel
theorem d_M_put_22 : decode b_M_put 22 = .ok (.dup, 1) := by decide +kernel
theorem d_M_put_23 : decode b_M_put 23 = .ok (.getfield 100, 3) := by decide +kernel
theorem d_M_put_26 : decode b_M_put 26 = .ok (.iconst 1, 1) := by decide +kernel
theorem d_M_put_27 : decode b_M_put 27 = .ok (.iadd, 1) := by decide +kernel
theorem d_M_put_28 : decode b_M_put 28 = .ok (.putfield 100, 3) := by decide +kernel
theorem d_M_put_31 : decode b_M_put 31 = .ok (.iconst 1, 1) := by decide +kernel
theorem d_M_put_32 : decode b_M_put 32 = .ok (.ireturn, 1) := by decide +kernel
theorem d_M_cut_0 : decode b_M_cut 0 = .ok (.iload_n 1, 1) := by decide +kernel
theorem d_M_cut_1 : decode b_M_cut 1 = .ok (.ifCond .lt 11, 3) := by decide +kernel
theorem d_M_cut_4 : decode b_M_cut 4 = .ok (.iload_n 1, 1) := by decide +kernel
theorem d_M_cut_5 : decode b_M_cut 5 = .ok (.aload_n 0, 1) := by decide +kernel
theorem d_M_cut_6 : decode b_M_cut 6 = .ok (.getfield 100, 3) := by decide +kernel
theorem d_M_cut_9 : decode b_M_cut 9 = .ok (.if_icmp .le 5, 3) := by decide +kernel
theorem d_M_cut_12 : decode b_M_cut 12 = .ok (.iconst (-1), 1) := by decide +kernel
theorem d_M_cut_13 : decode b_M_cut 13 = .ok (.ireturn, 1) := by decide +kernel
theorem d_M_cut_14 : decode b_M_cut 14 = .ok (.aload_n 0, 1) := by decide +kernel
theorem d_M_cut_15 : decode b_M_cut 15 = .ok (.dup, 1) := by decide +kernel
theorem d_M_cut_16 : decode b_M_cut 16 = .ok (.getfield 100, 3) := by decide +kernel
theorem d_M_cut_19 : decode b_M_cut 19 = .ok (.iload_n 1, 1) := by decide +kernel
theorem d_M_cut_20 : decode b_M_cut 20 = .ok (.isub, 1) := by decide +kernel
theorem d_M_cut_21 : decode b_M_cut 21 = .ok (.putfield 100, 3) := by decide +kernel
theorem d_M_cut_24 : decode b_M_cut 24 = .ok (.aload_n 0, 1) := by decide +kernel
theorem d_M_cut_25 : decode b_M_cut 25 = .ok (.getfield 100, 3) := by decide +kernel
theorem d_M_cut_28 : decode b_M_cut 28 = .ok (.ireturn, 1) := by decide +kernel
theorem d_M_length_0 : decode b_M_length 0 = .ok (.aload_n 0, 1) := by decide +kernel
theorem d_M_length_1 : decode b_M_length 1 = .ok (.getfield 100, 3) := by decide +kernel
theorem d_M_length_4 : decode b_M_length 4 = .ok (.ireturn, 1) := by decide +kernel
theorem d_M_steps_0 : decode b_M_steps 0 = .ok (.aload_n 0, 1) := by decide +kernel
theorem d_M_steps_1 : decode b_M_steps 1 = .ok (.getfield 159, 3) := by decide +kernel
theorem d_M_steps_4 : decode b_M_steps 4 = .ok (.ireturn, 1) := by decide +kernel
theorem d_M_scratch_0 : decode b_M_scratch 0 = .ok (.iload_n 1, 1) := by decide +kernel
theorem d_M_scratch_1 : decode b_M_scratch 1 = .ok (.ifCond .lt 25, 3) := by decide +kernel
theorem d_M_scratch_4 : decode b_M_scratch 4 = .ok (.iload_n 1, 1) := by decide +kernel
theorem d_M_scratch_5 : decode b_M_scratch 5 = .ok (.bipush 15, 2) := by decide +kernel
theorem d_M_scratch_7 : decode b_M_scratch 7 = .ok (.if_icmp .gt 19, 3) := by decide +kernel
theorem d_M_scratch_10 : decode b_M_scratch 10 = .ok (.aload_n 0, 1) := by decide +kernel
theorem d_M_scratch_11 : decode b_M_scratch 11 = .ok (.getfield 159, 3) := by decide +kernel
theorem d_M_scratch_14 : decode b_M_scratch 14 = .ok (.ifCond .eq 12, 3) := by decide +kernel
theorem d_M_scratch_17 : decode b_M_scratch 17 = .ok (.aload_n 0, 1) := by decide +kernel
theorem d_M_scratch_18 : decode b_M_scratch 18 = .ok (.getfield 51, 3) := by decide +kernel
theorem d_M_scratch_21 : decode b_M_scratch 21 = .ok (.iload_n 1, 1) := by decide +kernel
theorem d_M_scratch_22 : decode b_M_scratch 22 = .ok (.baload, 1) := by decide +kernel
theorem d_M_scratch_23 : decode b_M_scratch 23 = .ok (.ifCond .ne 9, 3) := by decide +kernel
theorem d_M_scratch_26 : decode b_M_scratch 26 = .ok (.ldc2_w 165, 3) := by decide +kernel
theorem d_M_scratch_29 : decode b_M_scratch 29 = .ok (.goto 9, 3) := by decide +kernel
theorem d_M_scratch_32 : decode b_M_scratch 32 = .ok (.aload_n 0, 1) := by decide +kernel
theorem d_M_scratch_33 : decode b_M_scratch 33 = .ok (.getfield 48, 3) := by decide +kernel
theorem d_M_scratch_36 : decode b_M_scratch 36 = .ok (.iload_n 1, 1) := by decide +kernel
theorem d_M_scratch_37 : decode b_M_scratch 37 = .ok (.laload, 1) := by decide +kernel
theorem d_M_scratch_38 : decode b_M_scratch 38 = .ok (.lreturn, 1) := by decide +kernel
def m_M_word (wo : Nat → Int32) (i : Int32) (v : Int32) : Int32 × (Nat → Int32) := if i < (0 : Int32) then ((0 : Int32), wo) else if i ≤ (15 : Int32) then ((1 : Int32), (upd wo i.toNatClampNeg v)) else ((0 : Int32), wo)
set_option maxHeartbeats 4000000 in
set_option maxRecDepth 100000 in
theorem c_M_word (l : Launch) (D : va_G) (dA : Nat → ClassId) (ad : Nat → Nat) (A : Nat → Prop) (hAd : AdOK 15 ad A) (ho : Int32) (wo : Nat → Int32) (Q : QT) (G : GT) (mk : Nat → Int32) (X : XT) (i : Int32) (v : Int32) : Met l y_M_word (mW y_M_word b_M_word 3 (some .boolean)) { frames := 0, cells := 0, slots := 0, locals := 0 } (va_Pc [.ref (ad 0), .int i, .int v] (fun U => MG D dA ad ho wo Q G mk X U)) (va_Qi (fun (r : Int32) (u : (Nat → Int32)) => r = (m_M_word wo i v).1 ∧ u = (m_M_word wo i v).2) (fun u t => MG D dA ad ho u Q G mk X t) A) 0 0 A := by
  refine Met.ofW (cc := b_M_word) (maxL := 3) (ret := (some .boolean)) (by decide) rfl ?_
  intro p e s m args below meth c s₁ B hml hv
  obtain ⟨rfl, hP, hK⟩ := hv
  have hx := B.exec
  have hb := B.bytes
  have hr := B.returns
  have hlocks := B.notSynchronized
  have hts := fun (w : Cond) (h : w ∈ lw_g) => atoms_spec (ws := mW y_M_word b_M_word 3 (some .boolean)) B.pre w (List.mem_cons_of_mem _ h)
  have hown : s.vm.findClass R_M = some m.cls := findClass_of_methodNamed B.named
  have hS : va_S A s.heap s.heap [] := va_S.rf
  have hl := lv_entry ([.ref (ad 0), .int i, .int v]) (n := 3) (Nat.le_of_ble_eq_true rfl)
  rw [lg_entry_eq]
  generalize (lg_sl ([.ref (ad 0), .int i, .int v]) ++ List.replicate (3 - (lg_sl ([.ref (ad 0), .int i, .int v])).length) Slot.unset).toArray = ls at hl ⊢
  have hl : lv_has ls 3 [(0, .ref (ad 0)), (1, .int i), (2, .int v)] := hl
  refine lv_iload_n hx hb d_M_word_0 rfl (lv_at hl 1 rfl) ?_
  refine lv_if_lt (tgt := 10) hx hb d_M_word_1 (by decide) (fun h1 => ?_) (fun h1 => ?_)
  · refine lv_iconst (v := 0) hx hb d_M_word_10 (by decide) ?_
    exact W.zret hx hb hr rfl (fun t ht hW => ⟨⟨_, _, rfl, ⟨(by rw [m_M_word, if_pos h1]), (by rw [m_M_word, if_pos h1])⟩, MG_at hP hK ht hW⟩, hS.F ht⟩) hS.2.2 d_M_word_11
  refine lv_iload_n hx hb d_M_word_4 rfl (lv_at hl 1 rfl) ?_
  refine lv_bipush (v := 15) hx hb d_M_word_5 (by decide) ?_
  refine lv_icmp_le (tgt := 12) hx hb d_M_word_7 (by decide) (fun h2 => ?_) (fun h2 => ?_)
  · refine lv_aload_n hx hb d_M_word_12 rfl (lv_at hl 0 rfl) ?_
    refine va_get (D := D) (ci := 9) (v := .ref (ad 1)) (C := R_M) (T := F_M) (N := 20) hx hb hts in_M hown hK hP 0 rfl rfl 1 (by decide) (hts _ wd_501) (fun _ h9 => h9) rfl d_M_word_13 ?_
    refine lv_iload_n hx hb d_M_word_16 rfl (lv_at hl 1 rfl) ?_
    refine lv_iload_n hx hb d_M_word_17 rfl (lv_at hl 2 rfl) ?_
    refine va_iast (n := 16) (f := wo) hx hb hK hP (wM_D hAd) hS 1 0 rfl rfl (ix_w2 (by assumption) (by assumption)) d_M_word_18 (fun H locs hP _ hS => ?_)
    have hP : va_P D cls (wM ad dA ho (upd wo i.toNatClampNeg v) Q G mk X) H := hP
    refine lv_iconst (v := 1) hx hb d_M_word_19 (by decide) ?_
    exact W.zret hx hb hr rfl (fun t ht hW => ⟨⟨_, _, rfl, ⟨(by rw [m_M_word, if_neg h1, if_pos h2]), (by rw [m_M_word, if_neg h1, if_pos h2])⟩, MG_at hP hK ht hW⟩, hS.F ht⟩) hS.2.2 d_M_word_20
  refine lv_iconst (v := 0) hx hb d_M_word_10 (by decide) ?_
  exact W.zret hx hb hr rfl (fun t ht hW => ⟨⟨_, _, rfl, ⟨(by rw [m_M_word, if_neg h1, if_neg h2]), (by rw [m_M_word, if_neg h1, if_neg h2])⟩, MG_at hP hK ht hW⟩, hS.F ht⟩) hS.2.2 d_M_word_11
def m_M_argument (wo : Nat → Int32) (i : Int32) (v : Int64) : Int32 × (Nat → Int32) := if i < (0 : Int32) then ((0 : Int32), wo) else if i ≤ (5 : Int32) then ((1 : Int32), (upd (upd wo ((4 : Int32) + ((2 : Int32) * i)).toNatClampNeg v.toInt32) ((5 : Int32) + ((2 : Int32) * i)).toNatClampNeg ((v >>> ((32 : Int32).toInt64 &&& 63)).toInt32))) else ((0 : Int32), wo)
set_option maxHeartbeats 4000000 in
set_option maxRecDepth 100000 in
theorem c_M_argument (l : Launch) (D : va_G) (dA : Nat → ClassId) (ad : Nat → Nat) (A : Nat → Prop) (hAd : AdOK 15 ad A) (ho : Int32) (wo : Nat → Int32) (Q : QT) (G : GT) (mk : Nat → Int32) (X : XT) (i : Int32) (v : Int64) : Met l y_M_argument (mW y_M_argument b_M_argument 4 (some .boolean)) { frames := 0, cells := 0, slots := 0, locals := 0 } (va_Pc [.ref (ad 0), .int i, .long v] (fun U => MG D dA ad ho wo Q G mk X U)) (va_Qi (fun (r : Int32) (u : (Nat → Int32)) => r = (m_M_argument wo i v).1 ∧ u = (m_M_argument wo i v).2) (fun u t => MG D dA ad ho u Q G mk X t) A) 0 0 A := by
  refine Met.ofW (cc := b_M_argument) (maxL := 4) (ret := (some .boolean)) (by decide) rfl ?_
  intro p e s m args below meth c s₁ B hml hv
  obtain ⟨rfl, hP, hK⟩ := hv
  have hx := B.exec
  have hb := B.bytes
  have hr := B.returns
  have hlocks := B.notSynchronized
  have hts := fun (w : Cond) (h : w ∈ lw_g) => atoms_spec (ws := mW y_M_argument b_M_argument 4 (some .boolean)) B.pre w (List.mem_cons_of_mem _ h)
  have hown : s.vm.findClass R_M = some m.cls := findClass_of_methodNamed B.named
  have hS : va_S A s.heap s.heap [] := va_S.rf
  have hl := lv_entry ([.ref (ad 0), .int i, .long v]) (n := 4) (Nat.le_of_ble_eq_true rfl)
  rw [lg_entry_eq]
  generalize (lg_sl ([.ref (ad 0), .int i, .long v]) ++ List.replicate (4 - (lg_sl ([.ref (ad 0), .int i, .long v])).length) Slot.unset).toArray = ls at hl ⊢
  have hl : lv_has ls 4 [(0, .ref (ad 0)), (1, .int i), (2, .long v)] := hl
  refine lv_iload_n hx hb d_M_argument_0 rfl (lv_at hl 1 rfl) ?_
  refine lv_if_lt (tgt := 9) hx hb d_M_argument_1 (by decide) (fun h1 => ?_) (fun h1 => ?_)
  · refine lv_iconst (v := 0) hx hb d_M_argument_9 (by decide) ?_
    exact W.zret hx hb hr rfl (fun t ht hW => ⟨⟨_, _, rfl, ⟨(by rw [m_M_argument, if_pos h1]), (by rw [m_M_argument, if_pos h1])⟩, MG_at hP hK ht hW⟩, hS.F ht⟩) hS.2.2 d_M_argument_10
  refine lv_iload_n hx hb d_M_argument_4 rfl (lv_at hl 1 rfl) ?_
  refine lv_iconst (v := 5) hx hb d_M_argument_5 (by decide) ?_
  refine lv_icmp_le (tgt := 11) hx hb d_M_argument_6 (by decide) (fun h2 => ?_) (fun h2 => ?_)
  · refine lv_aload_n hx hb d_M_argument_11 rfl (lv_at hl 0 rfl) ?_
    refine va_get (D := D) (ci := 9) (v := .ref (ad 1)) (C := R_M) (T := F_M) (N := 20) hx hb hts in_M hown hK hP 0 rfl rfl 1 (by decide) (hts _ wd_501) (fun _ h9 => h9) rfl d_M_argument_12 ?_
    refine lv_iconst (v := 4) hx hb d_M_argument_15 (by decide) ?_
    refine lv_iconst (v := 2) hx hb d_M_argument_16 (by decide) ?_
    refine lv_iload_n hx hb d_M_argument_17 rfl (lv_at hl 1 rfl) ?_
    refine lv_imul hx hb d_M_argument_18 ?_
    refine lv_iadd hx hb d_M_argument_19 ?_
    refine lv_lload_n hx hb d_M_argument_20 rfl (lv_at hl 2 rfl) ?_
    refine lv_l2i hx hb d_M_argument_21 rfl ?_
    refine va_iast (n := 16) (f := wo) hx hb hK hP (wM_D hAd) hS 1 0 rfl rfl (ix_a4 (by assumption) (by assumption)) d_M_argument_22 (fun H locs hP _ hS => ?_)
    have hP : va_P D cls (wM ad dA ho (upd wo ((4 : Int32) + ((2 : Int32) * i)).toNatClampNeg v.toInt32) Q G mk X) H := hP
    refine lv_aload_n hx hb d_M_argument_23 rfl (lv_at hl 0 rfl) ?_
    refine va_get (D := D) (ci := 9) (v := .ref (ad 1)) (C := R_M) (T := F_M) (N := 20) hx hb hts in_M hown hK hP 0 rfl rfl 1 (by decide) (hts _ wd_501) (fun _ h9 => h9) rfl d_M_argument_24 ?_
    refine lv_iconst (v := 5) hx hb d_M_argument_27 (by decide) ?_
    refine lv_iconst (v := 2) hx hb d_M_argument_28 (by decide) ?_
    refine lv_iload_n hx hb d_M_argument_29 rfl (lv_at hl 1 rfl) ?_
    refine lv_imul hx hb d_M_argument_30 ?_
    refine lv_iadd hx hb d_M_argument_31 ?_
    refine lv_lload_n hx hb d_M_argument_32 rfl (lv_at hl 2 rfl) ?_
    refine lv_bipush (v := 32) hx hb d_M_argument_33 (by decide) ?_
    refine lv_lshr hx hb d_M_argument_35 rfl ?_
    refine lv_l2i hx hb d_M_argument_36 rfl ?_
    refine va_iast (n := 16) (f := upd wo ((4 : Int32) + ((2 : Int32) * i)).toNatClampNeg v.toInt32) hx hb hK hP (wM_D hAd) hS 1 0 rfl rfl (ix_a5 (by assumption) (by assumption)) d_M_argument_37 (fun H locs hP _ hS => ?_)
    have hP : va_P D cls (wM ad dA ho (upd (upd wo ((4 : Int32) + ((2 : Int32) * i)).toNatClampNeg v.toInt32) ((5 : Int32) + ((2 : Int32) * i)).toNatClampNeg ((v >>> ((32 : Int32).toInt64 &&& 63)).toInt32)) Q G mk X) H := hP
    refine lv_iconst (v := 1) hx hb d_M_argument_38 (by decide) ?_
    exact W.zret hx hb hr rfl (fun t ht hW => ⟨⟨_, _, rfl, ⟨(by rw [m_M_argument, if_neg h1, if_pos h2]), (by rw [m_M_argument, if_neg h1, if_pos h2])⟩, MG_at hP hK ht hW⟩, hS.F ht⟩) hS.2.2 d_M_argument_39
  refine lv_iconst (v := 0) hx hb d_M_argument_9 (by decide) ?_
  exact W.zret hx hb hr rfl (fun t ht hW => ⟨⟨_, _, rfl, ⟨(by rw [m_M_argument, if_neg h1, if_neg h2]), (by rw [m_M_argument, if_neg h1, if_neg h2])⟩, MG_at hP hK ht hW⟩, hS.F ht⟩) hS.2.2 d_M_argument_10
def m_M_plain (wo : Nat → Int32) (i : Int32) : Int64 := ((wo i.toNatClampNeg).toInt64) &&& (4294967295 : Int64)
set_option maxHeartbeats 4000000 in
set_option maxRecDepth 100000 in
theorem c_M_plain (l : Launch) (D : va_G) (dA : Nat → ClassId) (ad : Nat → Nat) (ho : Int32) (wo : Nat → Int32) (Q : QT) (G : GT) (mk : Nat → Int32) (X : XT) (i : Int32) (hi : vp_in i 16) : Met l y_M_plain (mW y_M_plain b_M_plain 2 (some .long)) { frames := 0, cells := 0, slots := 0, locals := 0 } (va_Pc [.ref (ad 0), .int i] (fun U => MG D dA ad ho wo Q G mk X U)) (vp_Sl (fun r => r = m_M_plain wo i)) 0 0 (fun _ => False) := by
  refine Met.ofW (cc := b_M_plain) (maxL := 2) (ret := (some .long)) (by decide) rfl ?_
  intro p e s m args below meth c s₁ B hml hv
  obtain ⟨rfl, hP, hK⟩ := hv
  have hx := B.exec
  have hb := B.bytes
  have hr := B.returns
  have hlocks := B.notSynchronized
  have hts := fun (w : Cond) (h : w ∈ lw_g) => atoms_spec (ws := mW y_M_plain b_M_plain 2 (some .long)) B.pre w (List.mem_cons_of_mem _ h)
  have hown : s.vm.findClass R_M = some m.cls := findClass_of_methodNamed B.named
  have hl := lv_entry ([.ref (ad 0), .int i]) (n := 2) (Nat.le_of_ble_eq_true rfl)
  rw [lg_entry_eq]
  generalize (lg_sl ([.ref (ad 0), .int i]) ++ List.replicate (2 - (lg_sl ([.ref (ad 0), .int i])).length) Slot.unset).toArray = ls at hl ⊢
  have hl : lv_has ls 2 [(0, .ref (ad 0)), (1, .int i)] := hl
  refine lv_aload_n hx hb d_M_plain_0 rfl (lv_at hl 0 rfl) ?_
  refine va_get (D := D) (ci := 9) (v := .ref (ad 1)) (C := R_M) (T := F_M) (N := 20) hx hb hts in_M hown hK hP 0 rfl rfl 1 (by decide) (hts _ wd_501) (fun _ h9 => h9) rfl d_M_plain_1 ?_
  refine lv_iload_n hx hb d_M_plain_4 rfl (lv_at hl 1 rfl) ?_
  refine va_iald (n := 16) (f := wo) hx hb hK hP 1 0 rfl rfl hi d_M_plain_5 ?_
  refine lv_i2l hx hb d_M_plain_6 rfl ?_
  refine lv_ldc2 (v := 4294967295) hx hb hown (hts _ wd_596) d_M_plain_7 ?_
  refine lv_land hx hb d_M_plain_10 ?_
  exact W.lret hx hb hr (fun t ht hW => ⟨_, rfl, (by rw [m_M_plain]), ht⟩) (fun _ h => by cases h) d_M_plain_11
def m_M_rule (Q : QT) (fr : Int32) (to : Int32) (kd : Int32) (dt : Int32) : Int32 × QT := if fr < (0 : Int32) then ((-1 : Int32), Q) else if to < fr then ((-1 : Int32), Q) else if (1073741824 : Int32) ≤ to then ((-1 : Int32), Q) else if kd < (0 : Int32) then ((-1 : Int32), Q) else if (6 : Int32) < kd then ((-1 : Int32), Q) else if dt < (0 : Int32) then ((-1 : Int32), Q) else if (65535 : Int32) < dt then ((-1 : Int32), Q) else if Q.1 = (6 : Int32) then ((-1 : Int32), Q) else ((Q.1 + (1 : Int32)) - (1 : Int32), (Q.1 + (1 : Int32), upd Q.2.1 Q.1.toNatClampNeg fr, upd Q.2.2.1 Q.1.toNatClampNeg to, upd Q.2.2.2.1 Q.1.toNatClampNeg kd, upd Q.2.2.2.2.1 Q.1.toNatClampNeg dt, upd Q.2.2.2.2.2.1 Q.1.toNatClampNeg (0 : Int32), Q.2.2.2.2.2.2.1, Q.2.2.2.2.2.2.2.1, Q.2.2.2.2.2.2.2.2.1, Q.2.2.2.2.2.2.2.2.2))
set_option maxHeartbeats 4000000 in
set_option maxRecDepth 100000 in
theorem c_M_rule (l : Launch) (D : va_G) (dA : Nat → ClassId) (ad : Nat → Nat) (A : Nat → Prop) (hAd : AdOK 15 ad A) (ho : Int32) (wo : Nat → Int32) (Q : QT) (G : GT) (mk : Nat → Int32) (X : XT) (fr : Int32) (to : Int32) (kd : Int32) (dt : Int32) (hn : iN Q.1 ≤ 6) : Met l y_M_rule (mW y_M_rule b_M_rule 5 (some .int)) { frames := 0, cells := 0, slots := 0, locals := 0 } (va_Pc [.ref (ad 0), .int fr, .int to, .int kd, .int dt] (fun U => MG D dA ad ho wo Q G mk X U)) (va_Qi (fun (r : Int32) (u : QT) => r = (m_M_rule Q fr to kd dt).1 ∧ u = (m_M_rule Q fr to kd dt).2) (fun u t => MG D dA ad ho wo u G mk X t) A) 0 0 A := by
  refine Met.ofW (cc := b_M_rule) (maxL := 5) (ret := (some .int)) (by decide) rfl ?_
  intro p e s m args below meth c s₁ B hml hv
  obtain ⟨rfl, hP, hK⟩ := hv
  have hx := B.exec
  have hb := B.bytes
  have hr := B.returns
  have hlocks := B.notSynchronized
  have hts := fun (w : Cond) (h : w ∈ lw_g) => atoms_spec (ws := mW y_M_rule b_M_rule 5 (some .int)) B.pre w (List.mem_cons_of_mem _ h)
  have hown : s.vm.findClass R_M = some m.cls := findClass_of_methodNamed B.named
  have hS : va_S A s.heap s.heap [] := va_S.rf
  have hl := lv_entry ([.ref (ad 0), .int fr, .int to, .int kd, .int dt]) (n := 5) (Nat.le_of_ble_eq_true rfl)
  rw [lg_entry_eq]
  generalize (lg_sl ([.ref (ad 0), .int fr, .int to, .int kd, .int dt]) ++ List.replicate (5 - (lg_sl ([.ref (ad 0), .int fr, .int to, .int kd, .int dt])).length) Slot.unset).toArray = ls at hl ⊢
  have hl : lv_has ls 5 [(0, .ref (ad 0)), (1, .int fr), (2, .int to), (3, .int kd), (4, .int dt)] := hl
  refine lv_iload_n hx hb d_M_rule_0 rfl (lv_at hl 1 rfl) ?_
  refine lv_if_lt (tgt := 46) hx hb d_M_rule_1 (by decide) (fun h1 => ?_) (fun h1 => ?_)
  · refine lv_iconst (v := -1) hx hb d_M_rule_46 (by decide) ?_
    exact W.iret hx hb hr (fun t ht hW => ⟨⟨_, _, rfl, ⟨(by rw [m_M_rule, if_pos h1]), (by rw [m_M_rule, if_pos h1])⟩, MG_at hP hK ht hW⟩, hS.F ht⟩) hS.2.2 d_M_rule_47
  refine lv_iload_n hx hb d_M_rule_4 rfl (lv_at hl 1 rfl) ?_
  refine lv_iload_n hx hb d_M_rule_5 rfl (lv_at hl 2 rfl) ?_
  refine lv_icmp_gt (tgt := 46) hx hb d_M_rule_6 (by decide) (fun h2 => ?_) (fun h2 => ?_)
  · refine lv_iconst (v := -1) hx hb d_M_rule_46 (by decide) ?_
    exact W.iret hx hb hr (fun t ht hW => ⟨⟨_, _, rfl, ⟨(by rw [m_M_rule, if_neg h1, if_pos h2]), (by rw [m_M_rule, if_neg h1, if_pos h2])⟩, MG_at hP hK ht hW⟩, hS.F ht⟩) hS.2.2 d_M_rule_47
  refine lv_iload_n hx hb d_M_rule_9 rfl (lv_at hl 2 rfl) ?_
  refine lv_ldc (v := 1073741824) hx hb hown (hts _ wd_574) d_M_rule_10 ?_
  refine lv_icmp_ge (tgt := 46) hx hb d_M_rule_12 (by decide) (fun h3 => ?_) (fun h3 => ?_)
  · refine lv_iconst (v := -1) hx hb d_M_rule_46 (by decide) ?_
    exact W.iret hx hb hr (fun t ht hW => ⟨⟨_, _, rfl, ⟨(by rw [m_M_rule, if_neg h1, if_neg h2, if_pos h3]), (by rw [m_M_rule, if_neg h1, if_neg h2, if_pos h3])⟩, MG_at hP hK ht hW⟩, hS.F ht⟩) hS.2.2 d_M_rule_47
  refine lv_iload_n hx hb d_M_rule_15 rfl (lv_at hl 3 rfl) ?_
  refine lv_if_lt (tgt := 46) hx hb d_M_rule_16 (by decide) (fun h4 => ?_) (fun h4 => ?_)
  · refine lv_iconst (v := -1) hx hb d_M_rule_46 (by decide) ?_
    exact W.iret hx hb hr (fun t ht hW => ⟨⟨_, _, rfl, ⟨(by rw [m_M_rule, if_neg h1, if_neg h2, if_neg h3, if_pos h4]), (by rw [m_M_rule, if_neg h1, if_neg h2, if_neg h3, if_pos h4])⟩, MG_at hP hK ht hW⟩, hS.F ht⟩) hS.2.2 d_M_rule_47
  refine lv_iload_n hx hb d_M_rule_19 rfl (lv_at hl 3 rfl) ?_
  refine lv_bipush (v := 6) hx hb d_M_rule_20 (by decide) ?_
  refine lv_icmp_gt (tgt := 46) hx hb d_M_rule_22 (by decide) (fun h5 => ?_) (fun h5 => ?_)
  · refine lv_iconst (v := -1) hx hb d_M_rule_46 (by decide) ?_
    exact W.iret hx hb hr (fun t ht hW => ⟨⟨_, _, rfl, ⟨(by rw [m_M_rule, if_neg h1, if_neg h2, if_neg h3, if_neg h4, if_pos h5]), (by rw [m_M_rule, if_neg h1, if_neg h2, if_neg h3, if_neg h4, if_pos h5])⟩, MG_at hP hK ht hW⟩, hS.F ht⟩) hS.2.2 d_M_rule_47
  refine lv_iload hx hb d_M_rule_25 (lv_at hl 4 rfl) ?_
  refine lv_if_lt (tgt := 46) hx hb d_M_rule_27 (by decide) (fun h6 => ?_) (fun h6 => ?_)
  · refine lv_iconst (v := -1) hx hb d_M_rule_46 (by decide) ?_
    exact W.iret hx hb hr (fun t ht hW => ⟨⟨_, _, rfl, ⟨(by rw [m_M_rule, if_neg h1, if_neg h2, if_neg h3, if_neg h4, if_neg h5, if_pos h6]), (by rw [m_M_rule, if_neg h1, if_neg h2, if_neg h3, if_neg h4, if_neg h5, if_pos h6])⟩, MG_at hP hK ht hW⟩, hS.F ht⟩) hS.2.2 d_M_rule_47
  refine lv_iload hx hb d_M_rule_30 (lv_at hl 4 rfl) ?_
  refine lv_ldc (v := 65535) hx hb hown (hts _ wd_575) d_M_rule_32 ?_
  refine lv_icmp_gt (tgt := 46) hx hb d_M_rule_34 (by decide) (fun h7 => ?_) (fun h7 => ?_)
  · refine lv_iconst (v := -1) hx hb d_M_rule_46 (by decide) ?_
    exact W.iret hx hb hr (fun t ht hW => ⟨⟨_, _, rfl, ⟨(by rw [m_M_rule, if_neg h1, if_neg h2, if_neg h3, if_neg h4, if_neg h5, if_neg h6, if_pos h7]), (by rw [m_M_rule, if_neg h1, if_neg h2, if_neg h3, if_neg h4, if_neg h5, if_neg h6, if_pos h7])⟩, MG_at hP hK ht hW⟩, hS.F ht⟩) hS.2.2 d_M_rule_47
  refine lv_aload_n hx hb d_M_rule_37 rfl (lv_at hl 0 rfl) ?_
  refine va_get (D := D) (ci := 9) (v := .int Q.1) (C := R_M) (T := F_M) (N := 20) hx hb hts in_M hown hK hP 0 rfl rfl 2 (by decide) (hts _ wd_502) (fun _ h9 => h9) rfl d_M_rule_38 ?_
  refine lv_bipush (v := 6) hx hb d_M_rule_41 (by decide) ?_
  refine lv_icmp_ne (tgt := 48) hx hb d_M_rule_43 (by decide) (fun h8 => ?_) (fun h8 => ?_)
  · refine lv_aload_n hx hb d_M_rule_48 rfl (lv_at hl 0 rfl) ?_
    refine va_get (D := D) (ci := 9) (v := .ref (ad 2)) (C := R_M) (T := F_M) (N := 20) hx hb hts in_M hown hK hP 0 rfl rfl 3 (by decide) (hts _ wd_503) (fun _ h9 => h9) rfl d_M_rule_49 ?_
    refine lv_aload_n hx hb d_M_rule_52 rfl (lv_at hl 0 rfl) ?_
    refine va_get (D := D) (ci := 9) (v := .int Q.1) (C := R_M) (T := F_M) (N := 20) hx hb hts in_M hown hK hP 0 rfl rfl 2 (by decide) (hts _ wd_502) (fun _ h9 => h9) rfl d_M_rule_53 ?_
    refine lv_iload_n hx hb d_M_rule_56 rfl (lv_at hl 1 rfl) ?_
    refine va_iast (n := 6) (f := Q.2.1) hx hb hK hP (wM_D hAd) hS 2 0 rfl rfl (ix_ru hn (by assumption)) d_M_rule_57 (fun H locs hP _ hS => ?_)
    have hP : va_P D cls (wM ad dA ho wo (Q.1, upd Q.2.1 Q.1.toNatClampNeg fr, Q.2.2.1, Q.2.2.2.1, Q.2.2.2.2.1, Q.2.2.2.2.2.1, Q.2.2.2.2.2.2.1, Q.2.2.2.2.2.2.2.1, Q.2.2.2.2.2.2.2.2.1, Q.2.2.2.2.2.2.2.2.2) G mk X) H := hP
    refine lv_aload_n hx hb d_M_rule_58 rfl (lv_at hl 0 rfl) ?_
    refine va_get (D := D) (ci := 9) (v := .ref (ad 3)) (C := R_M) (T := F_M) (N := 20) hx hb hts in_M hown hK hP 0 rfl rfl 4 (by decide) (hts _ wd_504) (fun _ h9 => h9) rfl d_M_rule_59 ?_
    refine lv_aload_n hx hb d_M_rule_62 rfl (lv_at hl 0 rfl) ?_
    refine va_get (D := D) (ci := 9) (v := .int Q.1) (C := R_M) (T := F_M) (N := 20) hx hb hts in_M hown hK hP 0 rfl rfl 2 (by decide) (hts _ wd_502) (fun _ h9 => h9) rfl d_M_rule_63 ?_
    refine lv_iload_n hx hb d_M_rule_66 rfl (lv_at hl 2 rfl) ?_
    refine va_iast (n := 6) (f := Q.2.2.1) hx hb hK hP (wM_D hAd) hS 3 0 rfl rfl (ix_ru hn (by assumption)) d_M_rule_67 (fun H locs hP _ hS => ?_)
    have hP : va_P D cls (wM ad dA ho wo (Q.1, upd Q.2.1 Q.1.toNatClampNeg fr, upd Q.2.2.1 Q.1.toNatClampNeg to, Q.2.2.2.1, Q.2.2.2.2.1, Q.2.2.2.2.2.1, Q.2.2.2.2.2.2.1, Q.2.2.2.2.2.2.2.1, Q.2.2.2.2.2.2.2.2.1, Q.2.2.2.2.2.2.2.2.2) G mk X) H := hP
    refine lv_aload_n hx hb d_M_rule_68 rfl (lv_at hl 0 rfl) ?_
    refine va_get (D := D) (ci := 9) (v := .ref (ad 4)) (C := R_M) (T := F_M) (N := 20) hx hb hts in_M hown hK hP 0 rfl rfl 5 (by decide) (hts _ wd_505) (fun _ h9 => h9) rfl d_M_rule_69 ?_
    refine lv_aload_n hx hb d_M_rule_72 rfl (lv_at hl 0 rfl) ?_
    refine va_get (D := D) (ci := 9) (v := .int Q.1) (C := R_M) (T := F_M) (N := 20) hx hb hts in_M hown hK hP 0 rfl rfl 2 (by decide) (hts _ wd_502) (fun _ h9 => h9) rfl d_M_rule_73 ?_
    refine lv_iload_n hx hb d_M_rule_76 rfl (lv_at hl 3 rfl) ?_
    refine va_iast (n := 8) (f := Q.2.2.2.1) hx hb hK hP (wM_D hAd) hS 4 0 rfl rfl (ix_ru8 hn (by assumption)) d_M_rule_77 (fun H locs hP _ hS => ?_)
    have hP : va_P D cls (wM ad dA ho wo (Q.1, upd Q.2.1 Q.1.toNatClampNeg fr, upd Q.2.2.1 Q.1.toNatClampNeg to, upd Q.2.2.2.1 Q.1.toNatClampNeg kd, Q.2.2.2.2.1, Q.2.2.2.2.2.1, Q.2.2.2.2.2.2.1, Q.2.2.2.2.2.2.2.1, Q.2.2.2.2.2.2.2.2.1, Q.2.2.2.2.2.2.2.2.2) G mk X) H := hP
    refine lv_aload_n hx hb d_M_rule_78 rfl (lv_at hl 0 rfl) ?_
    refine va_get (D := D) (ci := 9) (v := .ref (ad 5)) (C := R_M) (T := F_M) (N := 20) hx hb hts in_M hown hK hP 0 rfl rfl 6 (by decide) (hts _ wd_506) (fun _ h9 => h9) rfl d_M_rule_79 ?_
    refine lv_aload_n hx hb d_M_rule_82 rfl (lv_at hl 0 rfl) ?_
    refine va_get (D := D) (ci := 9) (v := .int Q.1) (C := R_M) (T := F_M) (N := 20) hx hb hts in_M hown hK hP 0 rfl rfl 2 (by decide) (hts _ wd_502) (fun _ h9 => h9) rfl d_M_rule_83 ?_
    refine lv_iload hx hb d_M_rule_86 (lv_at hl 4 rfl) ?_
    refine va_iast (n := 8) (f := Q.2.2.2.2.1) hx hb hK hP (wM_D hAd) hS 5 0 rfl rfl (ix_ru8 hn (by assumption)) d_M_rule_88 (fun H locs hP _ hS => ?_)
    have hP : va_P D cls (wM ad dA ho wo (Q.1, upd Q.2.1 Q.1.toNatClampNeg fr, upd Q.2.2.1 Q.1.toNatClampNeg to, upd Q.2.2.2.1 Q.1.toNatClampNeg kd, upd Q.2.2.2.2.1 Q.1.toNatClampNeg dt, Q.2.2.2.2.2.1, Q.2.2.2.2.2.2.1, Q.2.2.2.2.2.2.2.1, Q.2.2.2.2.2.2.2.2.1, Q.2.2.2.2.2.2.2.2.2) G mk X) H := hP
    refine lv_aload_n hx hb d_M_rule_89 rfl (lv_at hl 0 rfl) ?_
    refine va_get (D := D) (ci := 9) (v := .ref (ad 6)) (C := R_M) (T := F_M) (N := 20) hx hb hts in_M hown hK hP 0 rfl rfl 7 (by decide) (hts _ wd_507) (fun _ h9 => h9) rfl d_M_rule_90 ?_
    refine lv_aload_n hx hb d_M_rule_93 rfl (lv_at hl 0 rfl) ?_
    refine va_get (D := D) (ci := 9) (v := .int Q.1) (C := R_M) (T := F_M) (N := 20) hx hb hts in_M hown hK hP 0 rfl rfl 2 (by decide) (hts _ wd_502) (fun _ h9 => h9) rfl d_M_rule_94 ?_
    refine lv_iconst (v := 0) hx hb d_M_rule_97 (by decide) ?_
    refine va_iast (n := 6) (f := Q.2.2.2.2.2.1) hx hb hK hP (wM_D hAd) hS 6 0 rfl rfl (ix_ru hn (by assumption)) d_M_rule_98 (fun H locs hP _ hS => ?_)
    have hP : va_P D cls (wM ad dA ho wo (Q.1, upd Q.2.1 Q.1.toNatClampNeg fr, upd Q.2.2.1 Q.1.toNatClampNeg to, upd Q.2.2.2.1 Q.1.toNatClampNeg kd, upd Q.2.2.2.2.1 Q.1.toNatClampNeg dt, upd Q.2.2.2.2.2.1 Q.1.toNatClampNeg (0 : Int32), Q.2.2.2.2.2.2.1, Q.2.2.2.2.2.2.2.1, Q.2.2.2.2.2.2.2.2.1, Q.2.2.2.2.2.2.2.2.2) G mk X) H := hP
    refine lv_aload_n hx hb d_M_rule_99 rfl (lv_at hl 0 rfl) ?_
    refine lv_dup hx hb d_M_rule_100 rfl ?_
    refine va_get (D := D) (ci := 9) (v := .int Q.1) (C := R_M) (T := F_M) (N := 20) hx hb hts in_M hown hK hP 0 rfl rfl 2 (by decide) (hts _ wd_502) (fun _ h9 => h9) rfl d_M_rule_101 ?_
    refine lv_iconst (v := 1) hx hb d_M_rule_104 (by decide) ?_
    refine lv_iadd hx hb d_M_rule_105 ?_
    refine va_put (D := D) (ci := 9) (v := .int (Q.1 + (1 : Int32))) (ty := .int) (C := R_M) (T := F_M) (N := 20) hx hb hts in_M t_M k_M n_M hown hK hP (wM_D hAd) hS 0 rfl rfl 2 (by decide) (hts _ wd_502) (fun _ h9 => h9) rfl (by decide +kernel) rfl rfl (Nat.le_of_ble_eq_true rfl) d_M_rule_106 (fun H locs hP _ hS => ?_)
    have hP : va_P D cls (wM ad dA ho wo (Q.1 + (1 : Int32), upd Q.2.1 Q.1.toNatClampNeg fr, upd Q.2.2.1 Q.1.toNatClampNeg to, upd Q.2.2.2.1 Q.1.toNatClampNeg kd, upd Q.2.2.2.2.1 Q.1.toNatClampNeg dt, upd Q.2.2.2.2.2.1 Q.1.toNatClampNeg (0 : Int32), Q.2.2.2.2.2.2.1, Q.2.2.2.2.2.2.2.1, Q.2.2.2.2.2.2.2.2.1, Q.2.2.2.2.2.2.2.2.2) G mk X) H := hP
    refine lv_aload_n hx hb d_M_rule_109 rfl (lv_at hl 0 rfl) ?_
    refine va_get (D := D) (ci := 9) (v := .int (Q.1 + (1 : Int32))) (C := R_M) (T := F_M) (N := 20) hx hb hts in_M hown hK hP 0 rfl rfl 2 (by decide) (hts _ wd_502) (fun _ h9 => h9) rfl d_M_rule_110 ?_
    refine lv_iconst (v := 1) hx hb d_M_rule_113 (by decide) ?_
    refine lv_isub hx hb d_M_rule_114 ?_
    exact W.iret hx hb hr (fun t ht hW => ⟨⟨_, _, rfl, ⟨(by rw [m_M_rule, if_neg h1, if_neg h2, if_neg h3, if_neg h4, if_neg h5, if_neg h6, if_neg h7, if_neg h8]), (by rw [m_M_rule, if_neg h1, if_neg h2, if_neg h3, if_neg h4, if_neg h5, if_neg h6, if_neg h7, if_neg h8])⟩, MG_at hP hK ht hW⟩, hS.F ht⟩) hS.2.2 d_M_rule_115
  refine lv_iconst (v := -1) hx hb d_M_rule_46 (by decide) ?_
  exact W.iret hx hb hr (fun t ht hW => ⟨⟨_, _, rfl, ⟨(by rw [m_M_rule, if_neg h1, if_neg h2, if_neg h3, if_neg h4, if_neg h5, if_neg h6, if_neg h7, if_pos h8]), (by rw [m_M_rule, if_neg h1, if_neg h2, if_neg h3, if_neg h4, if_neg h5, if_neg h6, if_neg h7, if_pos h8])⟩, MG_at hP hK ht hW⟩, hS.F ht⟩) hS.2.2 d_M_rule_47
def m_M_condition (Q : QT) (i : Int32) (op : Int32) (va : Int64) (ms : Int64) : Int32 × QT := if Q.1 = (0 : Int32) then ((0 : Int32), Q) else if i < (0 : Int32) then ((0 : Int32), Q) else if (5 : Int32) < i then ((0 : Int32), Q) else if op < (0 : Int32) then ((0 : Int32), Q) else if (6 : Int32) < op then ((0 : Int32), Q) else if (Q.2.2.2.2.2.1 (Q.1 - (1 : Int32)).toNatClampNeg) = (3 : Int32) then ((0 : Int32), Q) else ((1 : Int32), (Q.1, Q.2.1, Q.2.2.1, Q.2.2.2.1, Q.2.2.2.2.1, upd Q.2.2.2.2.2.1 (Q.1 - (1 : Int32)).toNatClampNeg ((Q.2.2.2.2.2.1 (Q.1 - (1 : Int32)).toNatClampNeg) + (1 : Int32)), upd Q.2.2.2.2.2.2.1 (((3 : Int32) * (Q.1 - (1 : Int32))) + (Q.2.2.2.2.2.1 (Q.1 - (1 : Int32)).toNatClampNeg)).toNatClampNeg i, upd Q.2.2.2.2.2.2.2.1 (((3 : Int32) * (Q.1 - (1 : Int32))) + (Q.2.2.2.2.2.1 (Q.1 - (1 : Int32)).toNatClampNeg)).toNatClampNeg op, vp_updL Q.2.2.2.2.2.2.2.2.1 (((3 : Int32) * (Q.1 - (1 : Int32))) + (Q.2.2.2.2.2.1 (Q.1 - (1 : Int32)).toNatClampNeg)).toNatClampNeg va, vp_updL Q.2.2.2.2.2.2.2.2.2 (((3 : Int32) * (Q.1 - (1 : Int32))) + (Q.2.2.2.2.2.1 (Q.1 - (1 : Int32)).toNatClampNeg)).toNatClampNeg ms))
set_option maxHeartbeats 4000000 in
set_option maxRecDepth 100000 in
theorem c_M_condition (l : Launch) (D : va_G) (dA : Nat → ClassId) (ad : Nat → Nat) (A : Nat → Prop) (hAd : AdOK 15 ad A) (ho : Int32) (wo : Nat → Int32) (Q : QT) (G : GT) (mk : Nat → Int32) (X : XT) (i : Int32) (op : Int32) (va : Int64) (ms : Int64) (hn : iN Q.1 ≤ 6) (hc : ∀ i, i < 6 → iN (Q.2.2.2.2.2.1 i) ≤ 3) : Met l y_M_condition (mW y_M_condition b_M_condition 8 (some .boolean)) { frames := 0, cells := 0, slots := 0, locals := 0 } (va_Pc [.ref (ad 0), .int i, .int op, .long va, .long ms] (fun U => MG D dA ad ho wo Q G mk X U)) (va_Qi (fun (r : Int32) (u : QT) => r = (m_M_condition Q i op va ms).1 ∧ u = (m_M_condition Q i op va ms).2) (fun u t => MG D dA ad ho wo u G mk X t) A) 0 0 A := by
  refine Met.ofW (cc := b_M_condition) (maxL := 8) (ret := (some .boolean)) (by decide) rfl ?_
  intro p e s m args below meth c s₁ B hml hv
  obtain ⟨rfl, hP, hK⟩ := hv
  have hx := B.exec
  have hb := B.bytes
  have hr := B.returns
  have hlocks := B.notSynchronized
  have hts := fun (w : Cond) (h : w ∈ lw_g) => atoms_spec (ws := mW y_M_condition b_M_condition 8 (some .boolean)) B.pre w (List.mem_cons_of_mem _ h)
  have hown : s.vm.findClass R_M = some m.cls := findClass_of_methodNamed B.named
  have hS : va_S A s.heap s.heap [] := va_S.rf
  have hl := lv_entry ([.ref (ad 0), .int i, .int op, .long va, .long ms]) (n := 8) (Nat.le_of_ble_eq_true rfl)
  rw [lg_entry_eq]
  generalize (lg_sl ([.ref (ad 0), .int i, .int op, .long va, .long ms]) ++ List.replicate (8 - (lg_sl ([.ref (ad 0), .int i, .int op, .long va, .long ms])).length) Slot.unset).toArray = ls at hl ⊢
  have hl : lv_has ls 8 [(0, .ref (ad 0)), (1, .int i), (2, .int op), (3, .long va), (5, .long ms)] := hl
  refine lv_aload_n hx hb d_M_condition_0 rfl (lv_at hl 0 rfl) ?_
  refine va_get (D := D) (ci := 9) (v := .int Q.1) (C := R_M) (T := F_M) (N := 20) hx hb hts in_M hown hK hP 0 rfl rfl 2 (by decide) (hts _ wd_502) (fun _ h9 => h9) rfl d_M_condition_1 ?_
  refine lv_if_eq (tgt := 41) hx hb d_M_condition_4 (by decide) (fun h1 => ?_) (fun h1 => ?_)
  · refine lv_iconst (v := 0) hx hb d_M_condition_41 (by decide) ?_
    exact W.zret hx hb hr rfl (fun t ht hW => ⟨⟨_, _, rfl, ⟨(by rw [m_M_condition, if_pos h1]), (by rw [m_M_condition, if_pos h1])⟩, MG_at hP hK ht hW⟩, hS.F ht⟩) hS.2.2 d_M_condition_42
  refine lv_iload_n hx hb d_M_condition_7 rfl (lv_at hl 1 rfl) ?_
  refine lv_if_lt (tgt := 41) hx hb d_M_condition_8 (by decide) (fun h2 => ?_) (fun h2 => ?_)
  · refine lv_iconst (v := 0) hx hb d_M_condition_41 (by decide) ?_
    exact W.zret hx hb hr rfl (fun t ht hW => ⟨⟨_, _, rfl, ⟨(by rw [m_M_condition, if_neg h1, if_pos h2]), (by rw [m_M_condition, if_neg h1, if_pos h2])⟩, MG_at hP hK ht hW⟩, hS.F ht⟩) hS.2.2 d_M_condition_42
  refine lv_iload_n hx hb d_M_condition_11 rfl (lv_at hl 1 rfl) ?_
  refine lv_iconst (v := 5) hx hb d_M_condition_12 (by decide) ?_
  refine lv_icmp_gt (tgt := 41) hx hb d_M_condition_13 (by decide) (fun h3 => ?_) (fun h3 => ?_)
  · refine lv_iconst (v := 0) hx hb d_M_condition_41 (by decide) ?_
    exact W.zret hx hb hr rfl (fun t ht hW => ⟨⟨_, _, rfl, ⟨(by rw [m_M_condition, if_neg h1, if_neg h2, if_pos h3]), (by rw [m_M_condition, if_neg h1, if_neg h2, if_pos h3])⟩, MG_at hP hK ht hW⟩, hS.F ht⟩) hS.2.2 d_M_condition_42
  refine lv_iload_n hx hb d_M_condition_16 rfl (lv_at hl 2 rfl) ?_
  refine lv_if_lt (tgt := 41) hx hb d_M_condition_17 (by decide) (fun h4 => ?_) (fun h4 => ?_)
  · refine lv_iconst (v := 0) hx hb d_M_condition_41 (by decide) ?_
    exact W.zret hx hb hr rfl (fun t ht hW => ⟨⟨_, _, rfl, ⟨(by rw [m_M_condition, if_neg h1, if_neg h2, if_neg h3, if_pos h4]), (by rw [m_M_condition, if_neg h1, if_neg h2, if_neg h3, if_pos h4])⟩, MG_at hP hK ht hW⟩, hS.F ht⟩) hS.2.2 d_M_condition_42
  refine lv_iload_n hx hb d_M_condition_20 rfl (lv_at hl 2 rfl) ?_
  refine lv_bipush (v := 6) hx hb d_M_condition_21 (by decide) ?_
  refine lv_icmp_gt (tgt := 41) hx hb d_M_condition_23 (by decide) (fun h5 => ?_) (fun h5 => ?_)
  · refine lv_iconst (v := 0) hx hb d_M_condition_41 (by decide) ?_
    exact W.zret hx hb hr rfl (fun t ht hW => ⟨⟨_, _, rfl, ⟨(by rw [m_M_condition, if_neg h1, if_neg h2, if_neg h3, if_neg h4, if_pos h5]), (by rw [m_M_condition, if_neg h1, if_neg h2, if_neg h3, if_neg h4, if_pos h5])⟩, MG_at hP hK ht hW⟩, hS.F ht⟩) hS.2.2 d_M_condition_42
  refine lv_aload_n hx hb d_M_condition_26 rfl (lv_at hl 0 rfl) ?_
  refine va_get (D := D) (ci := 9) (v := .ref (ad 6)) (C := R_M) (T := F_M) (N := 20) hx hb hts in_M hown hK hP 0 rfl rfl 7 (by decide) (hts _ wd_507) (fun _ h9 => h9) rfl d_M_condition_27 ?_
  refine lv_aload_n hx hb d_M_condition_30 rfl (lv_at hl 0 rfl) ?_
  refine va_get (D := D) (ci := 9) (v := .int Q.1) (C := R_M) (T := F_M) (N := 20) hx hb hts in_M hown hK hP 0 rfl rfl 2 (by decide) (hts _ wd_502) (fun _ h9 => h9) rfl d_M_condition_31 ?_
  refine lv_iconst (v := 1) hx hb d_M_condition_34 (by decide) ?_
  refine lv_isub hx hb d_M_condition_35 ?_
  refine va_iald (n := 6) (f := Q.2.2.2.2.2.1) hx hb hK hP 6 0 rfl rfl (ix_r1 hn (by assumption)) d_M_condition_36 ?_
  refine lv_iconst (v := 3) hx hb d_M_condition_37 (by decide) ?_
  refine lv_icmp_ne (tgt := 43) hx hb d_M_condition_38 (by decide) (fun h6 => ?_) (fun h6 => ?_)
  · refine lv_iconst (v := 3) hx hb d_M_condition_43 (by decide) ?_
    refine lv_aload_n hx hb d_M_condition_44 rfl (lv_at hl 0 rfl) ?_
    refine va_get (D := D) (ci := 9) (v := .int Q.1) (C := R_M) (T := F_M) (N := 20) hx hb hts in_M hown hK hP 0 rfl rfl 2 (by decide) (hts _ wd_502) (fun _ h9 => h9) rfl d_M_condition_45 ?_
    refine lv_iconst (v := 1) hx hb d_M_condition_48 (by decide) ?_
    refine lv_isub hx hb d_M_condition_49 ?_
    refine lv_imul hx hb d_M_condition_50 ?_
    refine lv_aload_n hx hb d_M_condition_51 rfl (lv_at hl 0 rfl) ?_
    refine va_get (D := D) (ci := 9) (v := .ref (ad 6)) (C := R_M) (T := F_M) (N := 20) hx hb hts in_M hown hK hP 0 rfl rfl 7 (by decide) (hts _ wd_507) (fun _ h9 => h9) rfl d_M_condition_52 ?_
    refine lv_aload_n hx hb d_M_condition_55 rfl (lv_at hl 0 rfl) ?_
    refine va_get (D := D) (ci := 9) (v := .int Q.1) (C := R_M) (T := F_M) (N := 20) hx hb hts in_M hown hK hP 0 rfl rfl 2 (by decide) (hts _ wd_502) (fun _ h9 => h9) rfl d_M_condition_56 ?_
    refine lv_iconst (v := 1) hx hb d_M_condition_59 (by decide) ?_
    refine lv_isub hx hb d_M_condition_60 ?_
    refine va_iald (n := 6) (f := Q.2.2.2.2.2.1) hx hb hK hP 6 0 rfl rfl (ix_r1 hn (by assumption)) d_M_condition_61 ?_
    refine lv_iadd hx hb d_M_condition_62 ?_
    refine lv_istore hx hb d_M_condition_63 hl (by decide) rfl (fun ls hl => ?_)
    have hl : lv_has ls 8 [(7, .int (((3 : Int32) * (Q.1 - (1 : Int32))) + (Q.2.2.2.2.2.1 (Q.1 - (1 : Int32)).toNatClampNeg))), (0, .ref (ad 0)), (1, .int i), (2, .int op), (3, .long va), (5, .long ms)] := hl
    refine lv_aload_n hx hb d_M_condition_65 rfl (lv_at hl 1 rfl) ?_
    refine va_get (D := D) (ci := 9) (v := .ref (ad 7)) (C := R_M) (T := F_M) (N := 20) hx hb hts in_M hown hK hP 0 rfl rfl 8 (by decide) (hts _ wd_508) (fun _ h9 => h9) rfl d_M_condition_66 ?_
    refine lv_iload hx hb d_M_condition_69 (lv_at hl 0 rfl) ?_
    refine lv_iload_n hx hb d_M_condition_71 rfl (lv_at hl 2 rfl) ?_
    refine va_iast (n := 18) (f := Q.2.2.2.2.2.2.1) hx hb hK hP (wM_D hAd) hS 7 0 rfl rfl (ix_cc hn hc (by assumption) (by assumption)) d_M_condition_72 (fun H locs hP _ hS => ?_)
    have hP : va_P D cls (wM ad dA ho wo (Q.1, Q.2.1, Q.2.2.1, Q.2.2.2.1, Q.2.2.2.2.1, Q.2.2.2.2.2.1, upd Q.2.2.2.2.2.2.1 (((3 : Int32) * (Q.1 - (1 : Int32))) + (Q.2.2.2.2.2.1 (Q.1 - (1 : Int32)).toNatClampNeg)).toNatClampNeg i, Q.2.2.2.2.2.2.2.1, Q.2.2.2.2.2.2.2.2.1, Q.2.2.2.2.2.2.2.2.2) G mk X) H := hP
    refine lv_aload_n hx hb d_M_condition_73 rfl (lv_at hl 1 rfl) ?_
    refine va_get (D := D) (ci := 9) (v := .ref (ad 8)) (C := R_M) (T := F_M) (N := 20) hx hb hts in_M hown hK hP 0 rfl rfl 9 (by decide) (hts _ wd_509) (fun _ h9 => h9) rfl d_M_condition_74 ?_
    refine lv_iload hx hb d_M_condition_77 (lv_at hl 0 rfl) ?_
    refine lv_iload_n hx hb d_M_condition_79 rfl (lv_at hl 3 rfl) ?_
    refine va_iast (n := 18) (f := Q.2.2.2.2.2.2.2.1) hx hb hK hP (wM_D hAd) hS 8 0 rfl rfl (ix_cc hn hc (by assumption) (by assumption)) d_M_condition_80 (fun H locs hP _ hS => ?_)
    have hP : va_P D cls (wM ad dA ho wo (Q.1, Q.2.1, Q.2.2.1, Q.2.2.2.1, Q.2.2.2.2.1, Q.2.2.2.2.2.1, upd Q.2.2.2.2.2.2.1 (((3 : Int32) * (Q.1 - (1 : Int32))) + (Q.2.2.2.2.2.1 (Q.1 - (1 : Int32)).toNatClampNeg)).toNatClampNeg i, upd Q.2.2.2.2.2.2.2.1 (((3 : Int32) * (Q.1 - (1 : Int32))) + (Q.2.2.2.2.2.1 (Q.1 - (1 : Int32)).toNatClampNeg)).toNatClampNeg op, Q.2.2.2.2.2.2.2.2.1, Q.2.2.2.2.2.2.2.2.2) G mk X) H := hP
    refine lv_aload_n hx hb d_M_condition_81 rfl (lv_at hl 1 rfl) ?_
    refine va_get (D := D) (ci := 9) (v := .ref (ad 9)) (C := R_M) (T := F_M) (N := 20) hx hb hts in_M hown hK hP 0 rfl rfl 10 (by decide) (hts _ wd_510) (fun _ h9 => h9) rfl d_M_condition_82 ?_
    refine lv_iload hx hb d_M_condition_85 (lv_at hl 0 rfl) ?_
    refine lv_lload_n hx hb d_M_condition_87 rfl (lv_at hl 4 rfl) ?_
    refine va_last (n := 18) (f := Q.2.2.2.2.2.2.2.2.1) hx hb hK hP (wM_D hAd) hS 9 1 rfl rfl (ix_cc hn hc (by assumption) (by assumption)) d_M_condition_88 (fun H locs hP _ hS => ?_)
    have hP : va_P D cls (wM ad dA ho wo (Q.1, Q.2.1, Q.2.2.1, Q.2.2.2.1, Q.2.2.2.2.1, Q.2.2.2.2.2.1, upd Q.2.2.2.2.2.2.1 (((3 : Int32) * (Q.1 - (1 : Int32))) + (Q.2.2.2.2.2.1 (Q.1 - (1 : Int32)).toNatClampNeg)).toNatClampNeg i, upd Q.2.2.2.2.2.2.2.1 (((3 : Int32) * (Q.1 - (1 : Int32))) + (Q.2.2.2.2.2.1 (Q.1 - (1 : Int32)).toNatClampNeg)).toNatClampNeg op, vp_updL Q.2.2.2.2.2.2.2.2.1 (((3 : Int32) * (Q.1 - (1 : Int32))) + (Q.2.2.2.2.2.1 (Q.1 - (1 : Int32)).toNatClampNeg)).toNatClampNeg va, Q.2.2.2.2.2.2.2.2.2) G mk X) H := hP
    refine lv_aload_n hx hb d_M_condition_89 rfl (lv_at hl 1 rfl) ?_
    refine va_get (D := D) (ci := 9) (v := .ref (ad 10)) (C := R_M) (T := F_M) (N := 20) hx hb hts in_M hown hK hP 0 rfl rfl 11 (by decide) (hts _ wd_511) (fun _ h9 => h9) rfl d_M_condition_90 ?_
    refine lv_iload hx hb d_M_condition_93 (lv_at hl 0 rfl) ?_
    refine lv_lload hx hb d_M_condition_95 (lv_at hl 5 rfl) ?_
    refine va_last (n := 18) (f := Q.2.2.2.2.2.2.2.2.2) hx hb hK hP (wM_D hAd) hS 10 1 rfl rfl (ix_cc hn hc (by assumption) (by assumption)) d_M_condition_97 (fun H locs hP _ hS => ?_)
    have hP : va_P D cls (wM ad dA ho wo (Q.1, Q.2.1, Q.2.2.1, Q.2.2.2.1, Q.2.2.2.2.1, Q.2.2.2.2.2.1, upd Q.2.2.2.2.2.2.1 (((3 : Int32) * (Q.1 - (1 : Int32))) + (Q.2.2.2.2.2.1 (Q.1 - (1 : Int32)).toNatClampNeg)).toNatClampNeg i, upd Q.2.2.2.2.2.2.2.1 (((3 : Int32) * (Q.1 - (1 : Int32))) + (Q.2.2.2.2.2.1 (Q.1 - (1 : Int32)).toNatClampNeg)).toNatClampNeg op, vp_updL Q.2.2.2.2.2.2.2.2.1 (((3 : Int32) * (Q.1 - (1 : Int32))) + (Q.2.2.2.2.2.1 (Q.1 - (1 : Int32)).toNatClampNeg)).toNatClampNeg va, vp_updL Q.2.2.2.2.2.2.2.2.2 (((3 : Int32) * (Q.1 - (1 : Int32))) + (Q.2.2.2.2.2.1 (Q.1 - (1 : Int32)).toNatClampNeg)).toNatClampNeg ms) G mk X) H := hP
    refine lv_aload_n hx hb d_M_condition_98 rfl (lv_at hl 1 rfl) ?_
    refine va_get (D := D) (ci := 9) (v := .ref (ad 6)) (C := R_M) (T := F_M) (N := 20) hx hb hts in_M hown hK hP 0 rfl rfl 7 (by decide) (hts _ wd_507) (fun _ h9 => h9) rfl d_M_condition_99 ?_
    refine lv_aload_n hx hb d_M_condition_102 rfl (lv_at hl 1 rfl) ?_
    refine va_get (D := D) (ci := 9) (v := .int Q.1) (C := R_M) (T := F_M) (N := 20) hx hb hts in_M hown hK hP 0 rfl rfl 2 (by decide) (hts _ wd_502) (fun _ h9 => h9) rfl d_M_condition_103 ?_
    refine lv_iconst (v := 1) hx hb d_M_condition_106 (by decide) ?_
    refine lv_isub hx hb d_M_condition_107 ?_
    refine lv_dup2_11 hx hb d_M_condition_108 rfl rfl ?_
    refine va_iald (n := 6) (f := Q.2.2.2.2.2.1) hx hb hK hP 6 0 rfl rfl (ix_r1 hn (by assumption)) d_M_condition_109 ?_
    refine lv_iconst (v := 1) hx hb d_M_condition_110 (by decide) ?_
    refine lv_iadd hx hb d_M_condition_111 ?_
    refine va_iast (n := 6) (f := Q.2.2.2.2.2.1) hx hb hK hP (wM_D hAd) hS 6 0 rfl rfl (ix_r1 hn (by assumption)) d_M_condition_112 (fun H locs hP _ hS => ?_)
    have hP : va_P D cls (wM ad dA ho wo (Q.1, Q.2.1, Q.2.2.1, Q.2.2.2.1, Q.2.2.2.2.1, upd Q.2.2.2.2.2.1 (Q.1 - (1 : Int32)).toNatClampNeg ((Q.2.2.2.2.2.1 (Q.1 - (1 : Int32)).toNatClampNeg) + (1 : Int32)), upd Q.2.2.2.2.2.2.1 (((3 : Int32) * (Q.1 - (1 : Int32))) + (Q.2.2.2.2.2.1 (Q.1 - (1 : Int32)).toNatClampNeg)).toNatClampNeg i, upd Q.2.2.2.2.2.2.2.1 (((3 : Int32) * (Q.1 - (1 : Int32))) + (Q.2.2.2.2.2.1 (Q.1 - (1 : Int32)).toNatClampNeg)).toNatClampNeg op, vp_updL Q.2.2.2.2.2.2.2.2.1 (((3 : Int32) * (Q.1 - (1 : Int32))) + (Q.2.2.2.2.2.1 (Q.1 - (1 : Int32)).toNatClampNeg)).toNatClampNeg va, vp_updL Q.2.2.2.2.2.2.2.2.2 (((3 : Int32) * (Q.1 - (1 : Int32))) + (Q.2.2.2.2.2.1 (Q.1 - (1 : Int32)).toNatClampNeg)).toNatClampNeg ms) G mk X) H := hP
    refine lv_iconst (v := 1) hx hb d_M_condition_113 (by decide) ?_
    exact W.zret hx hb hr rfl (fun t ht hW => ⟨⟨_, _, rfl, ⟨(by rw [m_M_condition, if_neg h1, if_neg h2, if_neg h3, if_neg h4, if_neg h5, if_neg h6]), (by rw [m_M_condition, if_neg h1, if_neg h2, if_neg h3, if_neg h4, if_neg h5, if_neg h6])⟩, MG_at hP hK ht hW⟩, hS.F ht⟩) hS.2.2 d_M_condition_114
  refine lv_iconst (v := 0) hx hb d_M_condition_41 (by decide) ?_
  exact W.zret hx hb hr rfl (fun t ht hW => ⟨⟨_, _, rfl, ⟨(by rw [m_M_condition, if_neg h1, if_neg h2, if_neg h3, if_neg h4, if_neg h5, if_pos h6]), (by rw [m_M_condition, if_neg h1, if_neg h2, if_neg h3, if_neg h4, if_neg h5, if_pos h6])⟩, MG_at hP hK ht hW⟩, hS.F ht⟩) hS.2.2 d_M_condition_42
def m_M_otherwise (Q : QT) (fg : Int32) (kd : Int32) (dt : Int32) : Int32 × QT := if kd < (0 : Int32) then ((0 : Int32), Q) else if (6 : Int32) < kd then ((0 : Int32), Q) else if dt < (0 : Int32) then ((0 : Int32), Q) else if dt ≤ (65535 : Int32) then if fg = (0 : Int32) then if fg = (0 : Int32) then ((1 : Int32), (Q.1, Q.2.1, Q.2.2.1, upd Q.2.2.2.1 6 kd, upd Q.2.2.2.2.1 6 dt, Q.2.2.2.2.2.1, Q.2.2.2.2.2.2.1, Q.2.2.2.2.2.2.2.1, Q.2.2.2.2.2.2.2.2.1, Q.2.2.2.2.2.2.2.2.2)) else ((1 : Int32), (Q.1, Q.2.1, Q.2.2.1, upd Q.2.2.2.1 6 kd, upd Q.2.2.2.2.1 7 dt, Q.2.2.2.2.2.1, Q.2.2.2.2.2.2.1, Q.2.2.2.2.2.2.2.1, Q.2.2.2.2.2.2.2.2.1, Q.2.2.2.2.2.2.2.2.2)) else if fg = (0 : Int32) then ((1 : Int32), (Q.1, Q.2.1, Q.2.2.1, upd Q.2.2.2.1 7 kd, upd Q.2.2.2.2.1 6 dt, Q.2.2.2.2.2.1, Q.2.2.2.2.2.2.1, Q.2.2.2.2.2.2.2.1, Q.2.2.2.2.2.2.2.2.1, Q.2.2.2.2.2.2.2.2.2)) else ((1 : Int32), (Q.1, Q.2.1, Q.2.2.1, upd Q.2.2.2.1 7 kd, upd Q.2.2.2.2.1 7 dt, Q.2.2.2.2.2.1, Q.2.2.2.2.2.2.1, Q.2.2.2.2.2.2.2.1, Q.2.2.2.2.2.2.2.2.1, Q.2.2.2.2.2.2.2.2.2)) else ((0 : Int32), Q)
set_option maxHeartbeats 4000000 in
set_option maxRecDepth 100000 in
theorem c_M_otherwise (l : Launch) (D : va_G) (dA : Nat → ClassId) (ad : Nat → Nat) (A : Nat → Prop) (hAd : AdOK 15 ad A) (ho : Int32) (wo : Nat → Int32) (Q : QT) (G : GT) (mk : Nat → Int32) (X : XT) (fg : Int32) (kd : Int32) (dt : Int32) : Met l y_M_otherwise (mW y_M_otherwise b_M_otherwise 4 (some .boolean)) { frames := 0, cells := 0, slots := 0, locals := 0 } (va_Pc [.ref (ad 0), .int fg, .int kd, .int dt] (fun U => MG D dA ad ho wo Q G mk X U)) (va_Qi (fun (r : Int32) (u : QT) => r = (m_M_otherwise Q fg kd dt).1 ∧ u = (m_M_otherwise Q fg kd dt).2) (fun u t => MG D dA ad ho wo u G mk X t) A) 0 0 A := by
  refine Met.ofW (cc := b_M_otherwise) (maxL := 4) (ret := (some .boolean)) (by decide) rfl ?_
  intro p e s m args below meth c s₁ B hml hv
  obtain ⟨rfl, hP, hK⟩ := hv
  have hx := B.exec
  have hb := B.bytes
  have hr := B.returns
  have hlocks := B.notSynchronized
  have hts := fun (w : Cond) (h : w ∈ lw_g) => atoms_spec (ws := mW y_M_otherwise b_M_otherwise 4 (some .boolean)) B.pre w (List.mem_cons_of_mem _ h)
  have hown : s.vm.findClass R_M = some m.cls := findClass_of_methodNamed B.named
  have hS : va_S A s.heap s.heap [] := va_S.rf
  have hl := lv_entry ([.ref (ad 0), .int fg, .int kd, .int dt]) (n := 4) (Nat.le_of_ble_eq_true rfl)
  rw [lg_entry_eq]
  generalize (lg_sl ([.ref (ad 0), .int fg, .int kd, .int dt]) ++ List.replicate (4 - (lg_sl ([.ref (ad 0), .int fg, .int kd, .int dt])).length) Slot.unset).toArray = ls at hl ⊢
  have hl : lv_has ls 4 [(0, .ref (ad 0)), (1, .int fg), (2, .int kd), (3, .int dt)] := hl
  refine lv_iload_n hx hb d_M_otherwise_0 rfl (lv_at hl 2 rfl) ?_
  refine lv_if_lt (tgt := 20) hx hb d_M_otherwise_1 (by decide) (fun h1 => ?_) (fun h1 => ?_)
  · refine lv_iconst (v := 0) hx hb d_M_otherwise_20 (by decide) ?_
    exact W.zret hx hb hr rfl (fun t ht hW => ⟨⟨_, _, rfl, ⟨(by rw [m_M_otherwise, if_pos h1]), (by rw [m_M_otherwise, if_pos h1])⟩, MG_at hP hK ht hW⟩, hS.F ht⟩) hS.2.2 d_M_otherwise_21
  refine lv_iload_n hx hb d_M_otherwise_4 rfl (lv_at hl 2 rfl) ?_
  refine lv_bipush (v := 6) hx hb d_M_otherwise_5 (by decide) ?_
  refine lv_icmp_gt (tgt := 20) hx hb d_M_otherwise_7 (by decide) (fun h2 => ?_) (fun h2 => ?_)
  · refine lv_iconst (v := 0) hx hb d_M_otherwise_20 (by decide) ?_
    exact W.zret hx hb hr rfl (fun t ht hW => ⟨⟨_, _, rfl, ⟨(by rw [m_M_otherwise, if_neg h1, if_pos h2]), (by rw [m_M_otherwise, if_neg h1, if_pos h2])⟩, MG_at hP hK ht hW⟩, hS.F ht⟩) hS.2.2 d_M_otherwise_21
  refine lv_iload_n hx hb d_M_otherwise_10 rfl (lv_at hl 3 rfl) ?_
  refine lv_if_lt (tgt := 20) hx hb d_M_otherwise_11 (by decide) (fun h3 => ?_) (fun h3 => ?_)
  · refine lv_iconst (v := 0) hx hb d_M_otherwise_20 (by decide) ?_
    exact W.zret hx hb hr rfl (fun t ht hW => ⟨⟨_, _, rfl, ⟨(by rw [m_M_otherwise, if_neg h1, if_neg h2, if_pos h3]), (by rw [m_M_otherwise, if_neg h1, if_neg h2, if_pos h3])⟩, MG_at hP hK ht hW⟩, hS.F ht⟩) hS.2.2 d_M_otherwise_21
  refine lv_iload_n hx hb d_M_otherwise_14 rfl (lv_at hl 3 rfl) ?_
  refine lv_ldc (v := 65535) hx hb hown (hts _ wd_575) d_M_otherwise_15 ?_
  refine lv_icmp_le (tgt := 22) hx hb d_M_otherwise_17 (by decide) (fun h4 => ?_) (fun h4 => ?_)
  · refine lv_aload_n hx hb d_M_otherwise_22 rfl (lv_at hl 0 rfl) ?_
    refine va_get (D := D) (ci := 9) (v := .ref (ad 4)) (C := R_M) (T := F_M) (N := 20) hx hb hts in_M hown hK hP 0 rfl rfl 5 (by decide) (hts _ wd_505) (fun _ h9 => h9) rfl d_M_otherwise_23 ?_
    refine lv_iload_n hx hb d_M_otherwise_26 rfl (lv_at hl 1 rfl) ?_
    refine lv_if_eq (tgt := 35) hx hb d_M_otherwise_27 (by decide) (fun h5 => ?_) (fun h5 => ?_)
    · refine lv_bipush (v := 6) hx hb d_M_otherwise_35 (by decide) ?_
      refine lv_iload_n hx hb d_M_otherwise_37 rfl (lv_at hl 2 rfl) ?_
      refine va_iast (n := 8) (f := Q.2.2.2.1) hx hb hK hP (wM_D hAd) hS 4 0 rfl rfl (vp_in_nI (n := 6) (by decide) (by decide)) d_M_otherwise_38 (fun H locs hP _ hS => ?_)
      have hP : va_P D cls (wM ad dA ho wo (Q.1, Q.2.1, Q.2.2.1, upd Q.2.2.2.1 6 kd, Q.2.2.2.2.1, Q.2.2.2.2.2.1, Q.2.2.2.2.2.2.1, Q.2.2.2.2.2.2.2.1, Q.2.2.2.2.2.2.2.2.1, Q.2.2.2.2.2.2.2.2.2) G mk X) H := hP
      refine lv_aload_n hx hb d_M_otherwise_39 rfl (lv_at hl 0 rfl) ?_
      refine va_get (D := D) (ci := 9) (v := .ref (ad 5)) (C := R_M) (T := F_M) (N := 20) hx hb hts in_M hown hK hP 0 rfl rfl 6 (by decide) (hts _ wd_506) (fun _ h9 => h9) rfl d_M_otherwise_40 ?_
      refine lv_iload_n hx hb d_M_otherwise_43 rfl (lv_at hl 1 rfl) ?_
      refine lv_if_eq (tgt := 52) hx hb d_M_otherwise_44 (by decide) (fun h6 => ?_) (fun h6 => ?_)
      · refine lv_bipush (v := 6) hx hb d_M_otherwise_52 (by decide) ?_
        refine lv_iload_n hx hb d_M_otherwise_54 rfl (lv_at hl 3 rfl) ?_
        refine va_iast (n := 8) (f := Q.2.2.2.2.1) hx hb hK hP (wM_D hAd) hS 5 0 rfl rfl (vp_in_nI (n := 6) (by decide) (by decide)) d_M_otherwise_55 (fun H locs hP _ hS => ?_)
        have hP : va_P D cls (wM ad dA ho wo (Q.1, Q.2.1, Q.2.2.1, upd Q.2.2.2.1 6 kd, upd Q.2.2.2.2.1 6 dt, Q.2.2.2.2.2.1, Q.2.2.2.2.2.2.1, Q.2.2.2.2.2.2.2.1, Q.2.2.2.2.2.2.2.2.1, Q.2.2.2.2.2.2.2.2.2) G mk X) H := hP
        refine lv_iconst (v := 1) hx hb d_M_otherwise_56 (by decide) ?_
        exact W.zret hx hb hr rfl (fun t ht hW => ⟨⟨_, _, rfl, ⟨(by rw [m_M_otherwise, if_neg h1, if_neg h2, if_neg h3, if_pos h4, if_pos h5, if_pos h6]), (by rw [m_M_otherwise, if_neg h1, if_neg h2, if_neg h3, if_pos h4, if_pos h5, if_pos h6])⟩, MG_at hP hK ht hW⟩, hS.F ht⟩) hS.2.2 d_M_otherwise_57
      refine lv_bipush (v := 7) hx hb d_M_otherwise_47 (by decide) ?_
      refine lv_goto (tgt := 54) hx hb d_M_otherwise_49 (by decide) ?_
      refine lv_iload_n hx hb d_M_otherwise_54 rfl (lv_at hl 3 rfl) ?_
      refine va_iast (n := 8) (f := Q.2.2.2.2.1) hx hb hK hP (wM_D hAd) hS 5 0 rfl rfl (vp_in_nI (n := 7) (by decide) (by decide)) d_M_otherwise_55 (fun H locs hP _ hS => ?_)
      have hP : va_P D cls (wM ad dA ho wo (Q.1, Q.2.1, Q.2.2.1, upd Q.2.2.2.1 6 kd, upd Q.2.2.2.2.1 7 dt, Q.2.2.2.2.2.1, Q.2.2.2.2.2.2.1, Q.2.2.2.2.2.2.2.1, Q.2.2.2.2.2.2.2.2.1, Q.2.2.2.2.2.2.2.2.2) G mk X) H := hP
      refine lv_iconst (v := 1) hx hb d_M_otherwise_56 (by decide) ?_
      exact W.zret hx hb hr rfl (fun t ht hW => ⟨⟨_, _, rfl, ⟨(by rw [m_M_otherwise, if_neg h1, if_neg h2, if_neg h3, if_pos h4, if_pos h5, if_neg h6]), (by rw [m_M_otherwise, if_neg h1, if_neg h2, if_neg h3, if_pos h4, if_pos h5, if_neg h6])⟩, MG_at hP hK ht hW⟩, hS.F ht⟩) hS.2.2 d_M_otherwise_57
    refine lv_bipush (v := 7) hx hb d_M_otherwise_30 (by decide) ?_
    refine lv_goto (tgt := 37) hx hb d_M_otherwise_32 (by decide) ?_
    refine lv_iload_n hx hb d_M_otherwise_37 rfl (lv_at hl 2 rfl) ?_
    refine va_iast (n := 8) (f := Q.2.2.2.1) hx hb hK hP (wM_D hAd) hS 4 0 rfl rfl (vp_in_nI (n := 7) (by decide) (by decide)) d_M_otherwise_38 (fun H locs hP _ hS => ?_)
    have hP : va_P D cls (wM ad dA ho wo (Q.1, Q.2.1, Q.2.2.1, upd Q.2.2.2.1 7 kd, Q.2.2.2.2.1, Q.2.2.2.2.2.1, Q.2.2.2.2.2.2.1, Q.2.2.2.2.2.2.2.1, Q.2.2.2.2.2.2.2.2.1, Q.2.2.2.2.2.2.2.2.2) G mk X) H := hP
    refine lv_aload_n hx hb d_M_otherwise_39 rfl (lv_at hl 0 rfl) ?_
    refine va_get (D := D) (ci := 9) (v := .ref (ad 5)) (C := R_M) (T := F_M) (N := 20) hx hb hts in_M hown hK hP 0 rfl rfl 6 (by decide) (hts _ wd_506) (fun _ h9 => h9) rfl d_M_otherwise_40 ?_
    refine lv_iload_n hx hb d_M_otherwise_43 rfl (lv_at hl 1 rfl) ?_
    refine lv_if_eq (tgt := 52) hx hb d_M_otherwise_44 (by decide) (fun h7 => ?_) (fun h7 => ?_)
    · refine lv_bipush (v := 6) hx hb d_M_otherwise_52 (by decide) ?_
      refine lv_iload_n hx hb d_M_otherwise_54 rfl (lv_at hl 3 rfl) ?_
      refine va_iast (n := 8) (f := Q.2.2.2.2.1) hx hb hK hP (wM_D hAd) hS 5 0 rfl rfl (vp_in_nI (n := 6) (by decide) (by decide)) d_M_otherwise_55 (fun H locs hP _ hS => ?_)
      have hP : va_P D cls (wM ad dA ho wo (Q.1, Q.2.1, Q.2.2.1, upd Q.2.2.2.1 7 kd, upd Q.2.2.2.2.1 6 dt, Q.2.2.2.2.2.1, Q.2.2.2.2.2.2.1, Q.2.2.2.2.2.2.2.1, Q.2.2.2.2.2.2.2.2.1, Q.2.2.2.2.2.2.2.2.2) G mk X) H := hP
      refine lv_iconst (v := 1) hx hb d_M_otherwise_56 (by decide) ?_
      exact W.zret hx hb hr rfl (fun t ht hW => ⟨⟨_, _, rfl, ⟨(by rw [m_M_otherwise, if_neg h1, if_neg h2, if_neg h3, if_pos h4, if_neg h5, if_pos h7]), (by rw [m_M_otherwise, if_neg h1, if_neg h2, if_neg h3, if_pos h4, if_neg h5, if_pos h7])⟩, MG_at hP hK ht hW⟩, hS.F ht⟩) hS.2.2 d_M_otherwise_57
    refine lv_bipush (v := 7) hx hb d_M_otherwise_47 (by decide) ?_
    refine lv_goto (tgt := 54) hx hb d_M_otherwise_49 (by decide) ?_
    refine lv_iload_n hx hb d_M_otherwise_54 rfl (lv_at hl 3 rfl) ?_
    refine va_iast (n := 8) (f := Q.2.2.2.2.1) hx hb hK hP (wM_D hAd) hS 5 0 rfl rfl (vp_in_nI (n := 7) (by decide) (by decide)) d_M_otherwise_55 (fun H locs hP _ hS => ?_)
    have hP : va_P D cls (wM ad dA ho wo (Q.1, Q.2.1, Q.2.2.1, upd Q.2.2.2.1 7 kd, upd Q.2.2.2.2.1 7 dt, Q.2.2.2.2.2.1, Q.2.2.2.2.2.2.1, Q.2.2.2.2.2.2.2.1, Q.2.2.2.2.2.2.2.2.1, Q.2.2.2.2.2.2.2.2.2) G mk X) H := hP
    refine lv_iconst (v := 1) hx hb d_M_otherwise_56 (by decide) ?_
    exact W.zret hx hb hr rfl (fun t ht hW => ⟨⟨_, _, rfl, ⟨(by rw [m_M_otherwise, if_neg h1, if_neg h2, if_neg h3, if_pos h4, if_neg h5, if_neg h7]), (by rw [m_M_otherwise, if_neg h1, if_neg h2, if_neg h3, if_pos h4, if_neg h5, if_neg h7])⟩, MG_at hP hK ht hW⟩, hS.F ht⟩) hS.2.2 d_M_otherwise_57
  refine lv_iconst (v := 0) hx hb d_M_otherwise_20 (by decide) ?_
  exact W.zret hx hb hr rfl (fun t ht hW => ⟨⟨_, _, rfl, ⟨(by rw [m_M_otherwise, if_neg h1, if_neg h2, if_neg h3, if_neg h4]), (by rw [m_M_otherwise, if_neg h1, if_neg h2, if_neg h3, if_neg h4])⟩, MG_at hP hK ht hW⟩, hS.F ht⟩) hS.2.2 d_M_otherwise_21
def m_M_withdraw (Q : QT) : Int32 × QT := if Q.1 = (0 : Int32) then ((-1 : Int32), Q) else (Q.1 - (1 : Int32), (Q.1 - (1 : Int32), Q.2.1, Q.2.2.1, Q.2.2.2.1, Q.2.2.2.2.1, Q.2.2.2.2.2.1, Q.2.2.2.2.2.2.1, Q.2.2.2.2.2.2.2.1, Q.2.2.2.2.2.2.2.2.1, Q.2.2.2.2.2.2.2.2.2))
set_option maxHeartbeats 4000000 in
set_option maxRecDepth 100000 in
theorem c_M_withdraw (l : Launch) (D : va_G) (dA : Nat → ClassId) (ad : Nat → Nat) (A : Nat → Prop) (hAd : AdOK 15 ad A) (ho : Int32) (wo : Nat → Int32) (Q : QT) (G : GT) (mk : Nat → Int32) (X : XT) : Met l y_M_withdraw (mW y_M_withdraw b_M_withdraw 1 (some .int)) { frames := 0, cells := 0, slots := 0, locals := 0 } (va_Pc [.ref (ad 0)] (fun U => MG D dA ad ho wo Q G mk X U)) (va_Qi (fun (r : Int32) (u : QT) => r = (m_M_withdraw Q).1 ∧ u = (m_M_withdraw Q).2) (fun u t => MG D dA ad ho wo u G mk X t) A) 0 0 A := by
  refine Met.ofW (cc := b_M_withdraw) (maxL := 1) (ret := (some .int)) (by decide) rfl ?_
  intro p e s m args below meth c s₁ B hml hv
  obtain ⟨rfl, hP, hK⟩ := hv
  have hx := B.exec
  have hb := B.bytes
  have hr := B.returns
  have hlocks := B.notSynchronized
  have hts := fun (w : Cond) (h : w ∈ lw_g) => atoms_spec (ws := mW y_M_withdraw b_M_withdraw 1 (some .int)) B.pre w (List.mem_cons_of_mem _ h)
  have hown : s.vm.findClass R_M = some m.cls := findClass_of_methodNamed B.named
  have hS : va_S A s.heap s.heap [] := va_S.rf
  have hl := lv_entry ([.ref (ad 0)]) (n := 1) (Nat.le_of_ble_eq_true rfl)
  rw [lg_entry_eq]
  generalize (lg_sl ([.ref (ad 0)]) ++ List.replicate (1 - (lg_sl ([.ref (ad 0)])).length) Slot.unset).toArray = ls at hl ⊢
  have hl : lv_has ls 1 [(0, .ref (ad 0))] := hl
  refine lv_aload_n hx hb d_M_withdraw_0 rfl (lv_at hl 0 rfl) ?_
  refine va_get (D := D) (ci := 9) (v := .int Q.1) (C := R_M) (T := F_M) (N := 20) hx hb hts in_M hown hK hP 0 rfl rfl 2 (by decide) (hts _ wd_502) (fun _ h9 => h9) rfl d_M_withdraw_1 ?_
  refine lv_if_ne (tgt := 9) hx hb d_M_withdraw_4 (by decide) (fun h1 => ?_) (fun h1 => ?_)
  · refine lv_aload_n hx hb d_M_withdraw_9 rfl (lv_at hl 0 rfl) ?_
    refine lv_dup hx hb d_M_withdraw_10 rfl ?_
    refine va_get (D := D) (ci := 9) (v := .int Q.1) (C := R_M) (T := F_M) (N := 20) hx hb hts in_M hown hK hP 0 rfl rfl 2 (by decide) (hts _ wd_502) (fun _ h9 => h9) rfl d_M_withdraw_11 ?_
    refine lv_iconst (v := 1) hx hb d_M_withdraw_14 (by decide) ?_
    refine lv_isub hx hb d_M_withdraw_15 ?_
    refine va_put (D := D) (ci := 9) (v := .int (Q.1 - (1 : Int32))) (ty := .int) (C := R_M) (T := F_M) (N := 20) hx hb hts in_M t_M k_M n_M hown hK hP (wM_D hAd) hS 0 rfl rfl 2 (by decide) (hts _ wd_502) (fun _ h9 => h9) rfl (by decide +kernel) rfl rfl (Nat.le_of_ble_eq_true rfl) d_M_withdraw_16 (fun H locs hP _ hS => ?_)
    have hP : va_P D cls (wM ad dA ho wo (Q.1 - (1 : Int32), Q.2.1, Q.2.2.1, Q.2.2.2.1, Q.2.2.2.2.1, Q.2.2.2.2.2.1, Q.2.2.2.2.2.2.1, Q.2.2.2.2.2.2.2.1, Q.2.2.2.2.2.2.2.2.1, Q.2.2.2.2.2.2.2.2.2) G mk X) H := hP
    refine lv_aload_n hx hb d_M_withdraw_19 rfl (lv_at hl 0 rfl) ?_
    refine va_get (D := D) (ci := 9) (v := .int (Q.1 - (1 : Int32))) (C := R_M) (T := F_M) (N := 20) hx hb hts in_M hown hK hP 0 rfl rfl 2 (by decide) (hts _ wd_502) (fun _ h9 => h9) rfl d_M_withdraw_20 ?_
    exact W.iret hx hb hr (fun t ht hW => ⟨⟨_, _, rfl, ⟨(by rw [m_M_withdraw, if_neg h1]), (by rw [m_M_withdraw, if_neg h1])⟩, MG_at hP hK ht hW⟩, hS.F ht⟩) hS.2.2 d_M_withdraw_23
  refine lv_iconst (v := -1) hx hb d_M_withdraw_7 (by decide) ?_
  exact W.iret hx hb hr (fun t ht hW => ⟨⟨_, _, rfl, ⟨(by rw [m_M_withdraw, if_pos h1]), (by rw [m_M_withdraw, if_pos h1])⟩, MG_at hP hK ht hW⟩, hS.F ht⟩) hS.2.2 d_M_withdraw_8
def m_M_put (G : GT) (z : Int64) : Int32 × GT := if G.1 = (64 : Int32) then ((0 : Int32), G) else ((1 : Int32), (G.1 + (1 : Int32), vp_updL G.2 G.1.toNatClampNeg z))
set_option maxHeartbeats 4000000 in
set_option maxRecDepth 100000 in
theorem c_M_put (l : Launch) (D : va_G) (dA : Nat → ClassId) (ad : Nat → Nat) (A : Nat → Prop) (hAd : AdOK 15 ad A) (ho : Int32) (wo : Nat → Int32) (Q : QT) (G : GT) (mk : Nat → Int32) (X : XT) (z : Int64) (hG : iN G.1 ≤ 64) : Met l y_M_put (mW y_M_put b_M_put 3 (some .boolean)) { frames := 0, cells := 0, slots := 0, locals := 0 } (va_Pc [.ref (ad 0), .long z] (fun U => MG D dA ad ho wo Q G mk X U)) (va_Qi (fun (r : Int32) (u : GT) => r = (m_M_put G z).1 ∧ u = (m_M_put G z).2) (fun u t => MG D dA ad ho wo Q u mk X t) A) 0 0 A := by
  refine Met.ofW (cc := b_M_put) (maxL := 3) (ret := (some .boolean)) (by decide) rfl ?_
  intro p e s m args below meth c s₁ B hml hv
  obtain ⟨rfl, hP, hK⟩ := hv
  have hx := B.exec
  have hb := B.bytes
  have hr := B.returns
  have hlocks := B.notSynchronized
  have hts := fun (w : Cond) (h : w ∈ lw_g) => atoms_spec (ws := mW y_M_put b_M_put 3 (some .boolean)) B.pre w (List.mem_cons_of_mem _ h)
  have hown : s.vm.findClass R_M = some m.cls := findClass_of_methodNamed B.named
  have hS : va_S A s.heap s.heap [] := va_S.rf
  have hl := lv_entry ([.ref (ad 0), .long z]) (n := 3) (Nat.le_of_ble_eq_true rfl)
  rw [lg_entry_eq]
  generalize (lg_sl ([.ref (ad 0), .long z]) ++ List.replicate (3 - (lg_sl ([.ref (ad 0), .long z])).length) Slot.unset).toArray = ls at hl ⊢
  have hl : lv_has ls 3 [(0, .ref (ad 0)), (1, .long z)] := hl
  refine lv_aload_n hx hb d_M_put_0 rfl (lv_at hl 0 rfl) ?_
  refine va_get (D := D) (ci := 9) (v := .int G.1) (C := R_M) (T := F_M) (N := 20) hx hb hts in_M hown hK hP 0 rfl rfl 12 (by decide) (hts _ wd_512) (fun _ h9 => h9) rfl d_M_put_1 ?_
  refine lv_bipush (v := 64) hx hb d_M_put_4 (by decide) ?_
  refine lv_icmp_ne (tgt := 11) hx hb d_M_put_6 (by decide) (fun h1 => ?_) (fun h1 => ?_)
  · refine lv_aload_n hx hb d_M_put_11 rfl (lv_at hl 0 rfl) ?_
    refine va_get (D := D) (ci := 9) (v := .ref (ad 11)) (C := R_M) (T := F_M) (N := 20) hx hb hts in_M hown hK hP 0 rfl rfl 13 (by decide) (hts _ wd_513) (fun _ h9 => h9) rfl d_M_put_12 ?_
    refine lv_aload_n hx hb d_M_put_15 rfl (lv_at hl 0 rfl) ?_
    refine va_get (D := D) (ci := 9) (v := .int G.1) (C := R_M) (T := F_M) (N := 20) hx hb hts in_M hown hK hP 0 rfl rfl 12 (by decide) (hts _ wd_512) (fun _ h9 => h9) rfl d_M_put_16 ?_
    refine lv_lload_n hx hb d_M_put_19 rfl (lv_at hl 1 rfl) ?_
    refine va_last (n := 64) (f := G.2) hx hb hK hP (wM_D hAd) hS 11 1 rfl rfl (ix_pg hG (by assumption)) d_M_put_20 (fun H locs hP _ hS => ?_)
    have hP : va_P D cls (wM ad dA ho wo Q (G.1, vp_updL G.2 G.1.toNatClampNeg z) mk X) H := hP
    refine lv_aload_n hx hb d_M_put_21 rfl (lv_at hl 0 rfl) ?_
    refine lv_dup hx hb d_M_put_22 rfl ?_
    refine va_get (D := D) (ci := 9) (v := .int G.1) (C := R_M) (T := F_M) (N := 20) hx hb hts in_M hown hK hP 0 rfl rfl 12 (by decide) (hts _ wd_512) (fun _ h9 => h9) rfl d_M_put_23 ?_
    refine lv_iconst (v := 1) hx hb d_M_put_26 (by decide) ?_
    refine lv_iadd hx hb d_M_put_27 ?_
    refine va_put (D := D) (ci := 9) (v := .int (G.1 + (1 : Int32))) (ty := .int) (C := R_M) (T := F_M) (N := 20) hx hb hts in_M t_M k_M n_M hown hK hP (wM_D hAd) hS 0 rfl rfl 12 (by decide) (hts _ wd_512) (fun _ h9 => h9) rfl (by decide +kernel) rfl rfl (Nat.le_of_ble_eq_true rfl) d_M_put_28 (fun H locs hP _ hS => ?_)
    have hP : va_P D cls (wM ad dA ho wo Q (G.1 + (1 : Int32), vp_updL G.2 G.1.toNatClampNeg z) mk X) H := hP
    refine lv_iconst (v := 1) hx hb d_M_put_31 (by decide) ?_
    exact W.zret hx hb hr rfl (fun t ht hW => ⟨⟨_, _, rfl, ⟨(by rw [m_M_put, if_neg h1]), (by rw [m_M_put, if_neg h1])⟩, MG_at hP hK ht hW⟩, hS.F ht⟩) hS.2.2 d_M_put_32
  refine lv_iconst (v := 0) hx hb d_M_put_9 (by decide) ?_
  exact W.zret hx hb hr rfl (fun t ht hW => ⟨⟨_, _, rfl, ⟨(by rw [m_M_put, if_pos h1]), (by rw [m_M_put, if_pos h1])⟩, MG_at hP hK ht hW⟩, hS.F ht⟩) hS.2.2 d_M_put_10
def m_M_cut (G : GT) (n : Int32) : Int32 × GT := if n < (0 : Int32) then ((-1 : Int32), G) else if n ≤ G.1 then (G.1 - n, (G.1 - n, G.2)) else ((-1 : Int32), G)
set_option maxHeartbeats 4000000 in
set_option maxRecDepth 100000 in
theorem c_M_cut (l : Launch) (D : va_G) (dA : Nat → ClassId) (ad : Nat → Nat) (A : Nat → Prop) (hAd : AdOK 15 ad A) (ho : Int32) (wo : Nat → Int32) (Q : QT) (G : GT) (mk : Nat → Int32) (X : XT) (n : Int32) : Met l y_M_cut (mW y_M_cut b_M_cut 2 (some .int)) { frames := 0, cells := 0, slots := 0, locals := 0 } (va_Pc [.ref (ad 0), .int n] (fun U => MG D dA ad ho wo Q G mk X U)) (va_Qi (fun (r : Int32) (u : GT) => r = (m_M_cut G n).1 ∧ u = (m_M_cut G n).2) (fun u t => MG D dA ad ho wo Q u mk X t) A) 0 0 A := by
  refine Met.ofW (cc := b_M_cut) (maxL := 2) (ret := (some .int)) (by decide) rfl ?_
  intro p e s m args below meth c s₁ B hml hv
  obtain ⟨rfl, hP, hK⟩ := hv
  have hx := B.exec
  have hb := B.bytes
  have hr := B.returns
  have hlocks := B.notSynchronized
  have hts := fun (w : Cond) (h : w ∈ lw_g) => atoms_spec (ws := mW y_M_cut b_M_cut 2 (some .int)) B.pre w (List.mem_cons_of_mem _ h)
  have hown : s.vm.findClass R_M = some m.cls := findClass_of_methodNamed B.named
  have hS : va_S A s.heap s.heap [] := va_S.rf
  have hl := lv_entry ([.ref (ad 0), .int n]) (n := 2) (Nat.le_of_ble_eq_true rfl)
  rw [lg_entry_eq]
  generalize (lg_sl ([.ref (ad 0), .int n]) ++ List.replicate (2 - (lg_sl ([.ref (ad 0), .int n])).length) Slot.unset).toArray = ls at hl ⊢
  have hl : lv_has ls 2 [(0, .ref (ad 0)), (1, .int n)] := hl
  refine lv_iload_n hx hb d_M_cut_0 rfl (lv_at hl 1 rfl) ?_
  refine lv_if_lt (tgt := 12) hx hb d_M_cut_1 (by decide) (fun h1 => ?_) (fun h1 => ?_)
  · refine lv_iconst (v := -1) hx hb d_M_cut_12 (by decide) ?_
    exact W.iret hx hb hr (fun t ht hW => ⟨⟨_, _, rfl, ⟨(by rw [m_M_cut, if_pos h1]), (by rw [m_M_cut, if_pos h1])⟩, MG_at hP hK ht hW⟩, hS.F ht⟩) hS.2.2 d_M_cut_13
  refine lv_iload_n hx hb d_M_cut_4 rfl (lv_at hl 1 rfl) ?_
  refine lv_aload_n hx hb d_M_cut_5 rfl (lv_at hl 0 rfl) ?_
  refine va_get (D := D) (ci := 9) (v := .int G.1) (C := R_M) (T := F_M) (N := 20) hx hb hts in_M hown hK hP 0 rfl rfl 12 (by decide) (hts _ wd_512) (fun _ h9 => h9) rfl d_M_cut_6 ?_
  refine lv_icmp_le (tgt := 14) hx hb d_M_cut_9 (by decide) (fun h2 => ?_) (fun h2 => ?_)
  · refine lv_aload_n hx hb d_M_cut_14 rfl (lv_at hl 0 rfl) ?_
    refine lv_dup hx hb d_M_cut_15 rfl ?_
    refine va_get (D := D) (ci := 9) (v := .int G.1) (C := R_M) (T := F_M) (N := 20) hx hb hts in_M hown hK hP 0 rfl rfl 12 (by decide) (hts _ wd_512) (fun _ h9 => h9) rfl d_M_cut_16 ?_
    refine lv_iload_n hx hb d_M_cut_19 rfl (lv_at hl 1 rfl) ?_
    refine lv_isub hx hb d_M_cut_20 ?_
    refine va_put (D := D) (ci := 9) (v := .int (G.1 - n)) (ty := .int) (C := R_M) (T := F_M) (N := 20) hx hb hts in_M t_M k_M n_M hown hK hP (wM_D hAd) hS 0 rfl rfl 12 (by decide) (hts _ wd_512) (fun _ h9 => h9) rfl (by decide +kernel) rfl rfl (Nat.le_of_ble_eq_true rfl) d_M_cut_21 (fun H locs hP _ hS => ?_)
    have hP : va_P D cls (wM ad dA ho wo Q (G.1 - n, G.2) mk X) H := hP
    refine lv_aload_n hx hb d_M_cut_24 rfl (lv_at hl 0 rfl) ?_
    refine va_get (D := D) (ci := 9) (v := .int (G.1 - n)) (C := R_M) (T := F_M) (N := 20) hx hb hts in_M hown hK hP 0 rfl rfl 12 (by decide) (hts _ wd_512) (fun _ h9 => h9) rfl d_M_cut_25 ?_
    exact W.iret hx hb hr (fun t ht hW => ⟨⟨_, _, rfl, ⟨(by rw [m_M_cut, if_neg h1, if_pos h2]), (by rw [m_M_cut, if_neg h1, if_pos h2])⟩, MG_at hP hK ht hW⟩, hS.F ht⟩) hS.2.2 d_M_cut_28
  refine lv_iconst (v := -1) hx hb d_M_cut_12 (by decide) ?_
  exact W.iret hx hb hr (fun t ht hW => ⟨⟨_, _, rfl, ⟨(by rw [m_M_cut, if_neg h1, if_neg h2]), (by rw [m_M_cut, if_neg h1, if_neg h2])⟩, MG_at hP hK ht hW⟩, hS.F ht⟩) hS.2.2 d_M_cut_13
def m_M_length (G : GT) : Int32 := G.1
set_option maxHeartbeats 4000000 in
set_option maxRecDepth 100000 in
theorem c_M_length (l : Launch) (D : va_G) (dA : Nat → ClassId) (ad : Nat → Nat) (ho : Int32) (wo : Nat → Int32) (Q : QT) (G : GT) (mk : Nat → Int32) (X : XT) : Met l y_M_length (mW y_M_length b_M_length 1 (some .int)) { frames := 0, cells := 0, slots := 0, locals := 0 } (va_Pc [.ref (ad 0)] (fun U => MG D dA ad ho wo Q G mk X U)) (vp_Si (fun r => r = m_M_length G)) 0 0 (fun _ => False) := by
  refine Met.ofW (cc := b_M_length) (maxL := 1) (ret := (some .int)) (by decide) rfl ?_
  intro p e s m args below meth c s₁ B hml hv
  obtain ⟨rfl, hP, hK⟩ := hv
  have hx := B.exec
  have hb := B.bytes
  have hr := B.returns
  have hlocks := B.notSynchronized
  have hts := fun (w : Cond) (h : w ∈ lw_g) => atoms_spec (ws := mW y_M_length b_M_length 1 (some .int)) B.pre w (List.mem_cons_of_mem _ h)
  have hown : s.vm.findClass R_M = some m.cls := findClass_of_methodNamed B.named
  have hl := lv_entry ([.ref (ad 0)]) (n := 1) (Nat.le_of_ble_eq_true rfl)
  rw [lg_entry_eq]
  generalize (lg_sl ([.ref (ad 0)]) ++ List.replicate (1 - (lg_sl ([.ref (ad 0)])).length) Slot.unset).toArray = ls at hl ⊢
  have hl : lv_has ls 1 [(0, .ref (ad 0))] := hl
  refine lv_aload_n hx hb d_M_length_0 rfl (lv_at hl 0 rfl) ?_
  refine va_get (D := D) (ci := 9) (v := .int G.1) (C := R_M) (T := F_M) (N := 20) hx hb hts in_M hown hK hP 0 rfl rfl 12 (by decide) (hts _ wd_512) (fun _ h9 => h9) rfl d_M_length_1 ?_
  exact W.iret hx hb hr (fun t ht hW => ⟨_, rfl, (by rw [m_M_length]), ht⟩) (fun _ h => by cases h) d_M_length_4
def m_M_steps (X : XT) : Int32 := X.1
set_option maxHeartbeats 4000000 in
set_option maxRecDepth 100000 in
theorem c_M_steps (l : Launch) (D : va_G) (dA : Nat → ClassId) (ad : Nat → Nat) (ho : Int32) (wo : Nat → Int32) (Q : QT) (G : GT) (mk : Nat → Int32) (X : XT) : Met l y_M_steps (mW y_M_steps b_M_steps 1 (some .int)) { frames := 0, cells := 0, slots := 0, locals := 0 } (va_Pc [.ref (ad 0)] (fun U => MG D dA ad ho wo Q G mk X U)) (vp_Si (fun r => r = m_M_steps X)) 0 0 (fun _ => False) := by
  refine Met.ofW (cc := b_M_steps) (maxL := 1) (ret := (some .int)) (by decide) rfl ?_
  intro p e s m args below meth c s₁ B hml hv
  obtain ⟨rfl, hP, hK⟩ := hv
  have hx := B.exec
  have hb := B.bytes
  have hr := B.returns
  have hlocks := B.notSynchronized
  have hts := fun (w : Cond) (h : w ∈ lw_g) => atoms_spec (ws := mW y_M_steps b_M_steps 1 (some .int)) B.pre w (List.mem_cons_of_mem _ h)
  have hown : s.vm.findClass R_M = some m.cls := findClass_of_methodNamed B.named
  have hl := lv_entry ([.ref (ad 0)]) (n := 1) (Nat.le_of_ble_eq_true rfl)
  rw [lg_entry_eq]
  generalize (lg_sl ([.ref (ad 0)]) ++ List.replicate (1 - (lg_sl ([.ref (ad 0)])).length) Slot.unset).toArray = ls at hl ⊢
  have hl : lv_has ls 1 [(0, .ref (ad 0))] := hl
  refine lv_aload_n hx hb d_M_steps_0 rfl (lv_at hl 0 rfl) ?_
  refine va_get (D := D) (ci := 9) (v := .int X.1) (C := R_M) (T := F_M) (N := 20) hx hb hts in_M hown hK hP 0 rfl rfl 15 (by decide) (hts _ wd_515) (fun _ h9 => h9) rfl d_M_steps_1 ?_
  exact W.iret hx hb hr (fun t ht hW => ⟨_, rfl, (by rw [m_M_steps]), ht⟩) (fun _ h => by cases h) d_M_steps_4
def m_M_scratch (X : XT) (i : Int32) : Int64 := if i < (0 : Int32) then (-1 : Int64) else if (15 : Int32) < i then (-1 : Int64) else if X.1 = (0 : Int32) then (-1 : Int64) else if (X.2.2.2.2 i.toNatClampNeg) = (0 : Int32) then (-1 : Int64) else X.2.2.2.1 i.toNatClampNeg
set_option maxHeartbeats 4000000 in
set_option maxRecDepth 100000 in
theorem c_M_scratch (l : Launch) (D : va_G) (dA : Nat → ClassId) (ad : Nat → Nat) (ho : Int32) (wo : Nat → Int32) (Q : QT) (G : GT) (mk : Nat → Int32) (X : XT) (i : Int32) : Met l y_M_scratch (mW y_M_scratch b_M_scratch 2 (some .long)) { frames := 0, cells := 0, slots := 0, locals := 0 } (va_Pc [.ref (ad 0), .int i] (fun U => MG D dA ad ho wo Q G mk X U)) (vp_Sl (fun r => r = m_M_scratch X i)) 0 0 (fun _ => False) := by
  refine Met.ofW (cc := b_M_scratch) (maxL := 2) (ret := (some .long)) (by decide) rfl ?_
  intro p e s m args below meth c s₁ B hml hv
  obtain ⟨rfl, hP, hK⟩ := hv
  have hx := B.exec
  have hb := B.bytes
  have hr := B.returns
  have hlocks := B.notSynchronized
  have hts := fun (w : Cond) (h : w ∈ lw_g) => atoms_spec (ws := mW y_M_scratch b_M_scratch 2 (some .long)) B.pre w (List.mem_cons_of_mem _ h)
  have hown : s.vm.findClass R_M = some m.cls := findClass_of_methodNamed B.named
  have hl := lv_entry ([.ref (ad 0), .int i]) (n := 2) (Nat.le_of_ble_eq_true rfl)
  rw [lg_entry_eq]
  generalize (lg_sl ([.ref (ad 0), .int i]) ++ List.replicate (2 - (lg_sl ([.ref (ad 0), .int i])).length) Slot.unset).toArray = ls at hl ⊢
  have hl : lv_has ls 2 [(0, .ref (ad 0)), (1, .int i)] := hl
  refine lv_iload_n hx hb d_M_scratch_0 rfl (lv_at hl 1 rfl) ?_
  refine lv_if_lt (tgt := 26) hx hb d_M_scratch_1 (by decide) (fun h1 => ?_) (fun h1 => ?_)
  · refine lv_ldc2 (v := -1) hx hb hown (hts _ wd_684) d_M_scratch_26 ?_
    refine lv_goto (tgt := 38) hx hb d_M_scratch_29 (by decide) ?_
    exact W.lret hx hb hr (fun t ht hW => ⟨_, rfl, (by rw [m_M_scratch, if_pos h1]), ht⟩) (fun _ h => by cases h) d_M_scratch_38
  refine lv_iload_n hx hb d_M_scratch_4 rfl (lv_at hl 1 rfl) ?_
  refine lv_bipush (v := 15) hx hb d_M_scratch_5 (by decide) ?_
  refine lv_icmp_gt (tgt := 26) hx hb d_M_scratch_7 (by decide) (fun h2 => ?_) (fun h2 => ?_)
  · refine lv_ldc2 (v := -1) hx hb hown (hts _ wd_684) d_M_scratch_26 ?_
    refine lv_goto (tgt := 38) hx hb d_M_scratch_29 (by decide) ?_
    exact W.lret hx hb hr (fun t ht hW => ⟨_, rfl, (by rw [m_M_scratch, if_neg h1, if_pos h2]), ht⟩) (fun _ h => by cases h) d_M_scratch_38
  refine lv_aload_n hx hb d_M_scratch_10 rfl (lv_at hl 0 rfl) ?_
  refine va_get (D := D) (ci := 9) (v := .int X.1) (C := R_M) (T := F_M) (N := 20) hx hb hts in_M hown hK hP 0 rfl rfl 15 (by decide) (hts _ wd_515) (fun _ h9 => h9) rfl d_M_scratch_11 ?_
  refine lv_if_eq (tgt := 26) hx hb d_M_scratch_14 (by decide) (fun h3 => ?_) (fun h3 => ?_)
  · refine lv_ldc2 (v := -1) hx hb hown (hts _ wd_684) d_M_scratch_26 ?_
    refine lv_goto (tgt := 38) hx hb d_M_scratch_29 (by decide) ?_
    exact W.lret hx hb hr (fun t ht hW => ⟨_, rfl, (by rw [m_M_scratch, if_neg h1, if_neg h2, if_pos h3]), ht⟩) (fun _ h => by cases h) d_M_scratch_38
  refine lv_aload_n hx hb d_M_scratch_17 rfl (lv_at hl 0 rfl) ?_
  refine va_get (D := D) (ci := 9) (v := .ref (ad 14)) (C := R_M) (T := F_M) (N := 20) hx hb hts in_M hown hK hP 0 rfl rfl 19 (by decide) (hts _ wd_519) (fun _ h9 => h9) rfl d_M_scratch_18 ?_
  refine lv_iload_n hx hb d_M_scratch_21 rfl (lv_at hl 1 rfl) ?_
  refine va_zald (n := 16) (f := X.2.2.2.2) hx hb hK hP 14 4 rfl rfl (ix_w (by assumption) (by assumption)) d_M_scratch_22 ?_
  refine lv_if_ne (tgt := 32) hx hb d_M_scratch_23 (by decide) (fun h4 => ?_) (fun h4 => ?_)
  · refine lv_aload_n hx hb d_M_scratch_32 rfl (lv_at hl 0 rfl) ?_
    refine va_get (D := D) (ci := 9) (v := .ref (ad 13)) (C := R_M) (T := F_M) (N := 20) hx hb hts in_M hown hK hP 0 rfl rfl 18 (by decide) (hts _ wd_518) (fun _ h9 => h9) rfl d_M_scratch_33 ?_
    refine lv_iload_n hx hb d_M_scratch_36 rfl (lv_at hl 1 rfl) ?_
    refine va_lald (n := 16) (f := X.2.2.2.1) hx hb hK hP 13 1 rfl rfl (ix_w (by assumption) (by assumption)) d_M_scratch_37 ?_
    exact W.lret hx hb hr (fun t ht hW => ⟨_, rfl, (by rw [m_M_scratch, if_neg h1, if_neg h2, if_neg h3, if_neg h4]), ht⟩) (fun _ h => by cases h) d_M_scratch_38
  refine lv_ldc2 (v := -1) hx hb hown (hts _ wd_684) d_M_scratch_26 ?_
  refine lv_goto (tgt := 38) hx hb d_M_scratch_29 (by decide) ?_
  exact W.lret hx hb hr (fun t ht hW => ⟨_, rfl, (by rw [m_M_scratch, if_neg h1, if_neg h2, if_neg h3, if_pos h4]), ht⟩) (fun _ h => by cases h) d_M_scratch_38
