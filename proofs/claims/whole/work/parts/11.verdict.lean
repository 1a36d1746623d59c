/-! What a faultless instruction gives -/
theorem iN_clamp {x : Int32} (h : iN x < 2147483648) : x.toNatClampNeg = iN x := by
  have e := nI_iN x
  generalize iN x = k at h e
  subst e
  exact nI_clamp (by omega)
theorem in_iN {x : Int32} {n : Nat} (hn : n < 2147483648) (h : iN x < n) : vp_in x n := by
  rw [vp_in_iff, iN_int]
  omega
theorem iN_in {x : Int32} {n : Nat} (hn : n < 2147483648) (h : vp_in x n) : iN x < n := by
  rw [vp_in_iff, iN_int] at h
  have := iN_lt x
  omega
theorem iN_nIs {n : Nat} (h : n < 4294967296) : iN (nI n) = n := by
  rw [iN_nI]
  omega
theorem iN_pred {x : Int32} (h : ¬ x = (0 : Int32)) : iN (x - (1 : Int32)) = iN x - 1 := by
  have h0 : ¬ iN x = 0 := fun q => h (iN_inj q)
  have := iN_lt x
  rw [iN_sub, show iN (1 : Int32) = 1 from rfl]
  omega
theorem of_ok {g : GT} {i : Int32} (h : m_Ch_ownFault g i = 0) : ¬ m_In_isKnown (m_In_codeOf (g.2 i.toNatClampNeg)) = (0 : Int32) ∧ ¬ m_Ch_isOperandFit (m_In_codeOf (g.2 i.toNatClampNeg)) (m_In_operandOf (g.2 i.toNatClampNeg)) = (0 : Int32) ∧ m_Ch_longestSkip (m_In_codeOf (g.2 i.toNatClampNeg)) (g.2 i.toNatClampNeg) ≤ (g.1 - (1 : Int32) - i).toInt64 := by
  unfold m_Ch_ownFault at h
  by_cases h1 : m_In_isKnown (m_In_codeOf (g.2 i.toNatClampNeg)) = (0 : Int32)
  · rw [if_pos h1] at h
    exact absurd h (by decide)
  · rw [if_neg h1] at h
    by_cases h2 : m_Ch_isOperandFit (m_In_codeOf (g.2 i.toNatClampNeg)) (m_In_operandOf (g.2 i.toNatClampNeg)) = (0 : Int32)
    · rw [if_pos h2] at h
      exact absurd h (by decide)
    · rw [if_neg h2] at h
      refine ⟨h1, h2, (cmp_le _ _).mp ?_⟩
      by_cases h3 : lg_cmp (m_Ch_longestSkip (m_In_codeOf (g.2 i.toNatClampNeg)) (g.2 i.toNatClampNeg)) (((g.1 - (1 : Int32)) - i).toInt64) ≤ (0 : Int32)
      · exact h3
      · rw [if_neg h3] at h
        exact absurd h (by decide)
theorem kl_w : ∀ cd ∈ KL, (cd &&& (7 : Int32) = (0 : Int32) ∨ cd &&& (7 : Int32) = (1 : Int32)) → cd &&& (240 : Int32) = (32 : Int32) → cd = 32 := by decide +kernel
theorem kl_c : ∀ cd ∈ KL, (cd &&& (7 : Int32) = (0 : Int32) ∨ cd &&& (7 : Int32) = (1 : Int32)) → cd &&& (240 : Int32) = (96 : Int32) → cd = 96 ∨ cd = 97 := by decide +kernel
theorem kl_s : ∀ cd ∈ KL, (cd &&& (7 : Int32) = (2 : Int32) ∨ cd &&& (7 : Int32) = (3 : Int32)) → cd = 2 ∨ cd = 3 := by decide +kernel
theorem kl_j : ∀ cd ∈ KL, cd &&& (7 : Int32) = (5 : Int32) → cd = 5 ∨ ¬ m_In_isConditional cd = (0 : Int32) := by decide +kernel
theorem opnd_lt (z : Int64) : uN (m_In_operandOf z) < 4294967296 := by
  rw [opnd_n]
  have := uN_lt z
  omega
theorem fit_cell {cd : Int32} {k : Int64} (hk : uN k < 4294967296) (hc : cd = 96 ∨ cd = 97 ∨ cd = 2 ∨ cd = 3) (h : ¬ m_Ch_isOperandFit cd k = (0 : Int32)) : uN k < 16 := by
  have e : m_Ch_isOperandFit cd k = if (0 : Int32) ≤ lg_cmp k 16 then 0 else 1 := by
    unfold m_Ch_isOperandFit
    rcases hc with rfl | rfl | rfl | rfl
    · rw [if_neg (by decide)]
    · rw [if_neg (by decide)]
    · rw [if_pos (by decide), if_neg (by decide)]
    · rw [if_pos (by decide), if_neg (by decide)]
  rw [e] at h
  by_cases q : (0 : Int32) ≤ lg_cmp k 16
  · rw [if_pos q] at h
    exact absurd rfl h
  · rw [cmp_ge, leL_n (by decide) (by omega)] at q
    have e16 : uN 16 = 16 := rfl
    omega
theorem fit_rec {k : Int64} (hk : uN k < 4294967296) (h : ¬ m_Ch_isOperandFit 32 k = (0 : Int32)) : uN k % 4 = 0 ∧ uN k < 64 := by
  have e : m_Ch_isOperandFit 32 k = if lg_cmp (k - k / (4 : Int64) * (4 : Int64)) (0 : Int64) = (0 : Int32) then if (0 : Int32) ≤ lg_cmp k 64 then 0 else 1 else 0 := by
    unfold m_Ch_isOperandFit
    rw [if_pos (by decide), if_pos (by decide), if_pos rfl]
  rw [e] at h
  by_cases q1 : lg_cmp (k - k / (4 : Int64) * (4 : Int64)) (0 : Int64) = (0 : Int32)
  · rw [if_pos q1] at h
    by_cases q : (0 : Int32) ≤ lg_cmp k 64
    · rw [if_pos q] at h
      exact absurd rfl h
    · rw [cmp_ge, leL_n (by decide) (by omega)] at q
      have e64 : uN 64 = 64 := rfl
      have e4 := uN_r4 hk
      rw [cmp_eq] at q1
      rw [q1] at e4
      have e0 : uN 0 = 0 := rfl
      omega
  · rw [if_neg q1] at h
    exact absurd rfl h
theorem okz_of {g : GT} (hg : iN g.1 ≤ 64) (hok : ∀ i, i < iN g.1 → m_Ch_ownFault g (nI i) = 0) {x : Int32} (hx : iN x < iN g.1) : OKz (g.2 x.toNatClampNeg) := by
  have h := hok (iN x) hx
  rw [nI_iN] at h
  obtain ⟨h1, h2, -⟩ := of_ok h
  have hk := known_in h1
  generalize g.2 x.toNatClampNeg = z at h1 h2 hk
  have hl := opnd_lt z
  have et : iN (m_In_operandOf z).toInt32 = uN (m_In_operandOf z) := by rw [iN_tr]; omega
  refine ⟨fun c1 c2 => ?_, fun c1 c2 => ?_, fun c1 => ?_⟩
  · have hc := kl_w _ hk c1 c2
    rw [hc] at h2
    have hf := fit_rec hl h2
    refine in_iN (by decide) ?_
    rw [iN_d4 (by omega), et]
    omega
  · have hc := kl_c _ hk c1 c2
    have hf := fit_cell hl (by rcases hc with q | q; exact Or.inl q; exact Or.inr (Or.inl q)) h2
    exact in_iN (by decide) (by omega)
  · have hc := kl_s _ hk c1
    have hf := fit_cell hl (by rcases hc with q | q; exact Or.inr (Or.inr (Or.inl q)); exact Or.inr (Or.inr (Or.inr q))) h2
    exact in_iN (by decide) (by omega)
/-- how far an instruction may go -/
theorem far_of {g : GT} (hg : iN g.1 ≤ 64) (hok : ∀ i, i < iN g.1 → m_Ch_ownFault g (nI i) = 0) {x : Int32} (hx : iN x < iN g.1) : (m_In_codeOf (g.2 x.toNatClampNeg) = (5 : Int32) → iN x + 1 + uN (m_In_operandOf (g.2 x.toNatClampNeg)) < iN g.1) ∧ (¬ m_In_isConditional (m_In_codeOf (g.2 x.toNatClampNeg)) = (0 : Int32) → ¬ m_In_codeOf (g.2 x.toNatClampNeg) = (5 : Int32) → iN x + 1 + iN (m_In_distanceIfTrue (g.2 x.toNatClampNeg)) < iN g.1 ∧ iN x + 1 + iN (m_In_distanceIfFalse (g.2 x.toNatClampNeg)) < iN g.1) := by
  have h := hok (iN x) hx
  rw [nI_iN] at h
  obtain ⟨-, -, h3⟩ := of_ok h
  generalize g.2 x.toNatClampNeg = z at h3
  have e1 : iN (g.1 - (1 : Int32) - x) = iN g.1 - 1 - iN x := by
    rw [iN_sub, iN_sub, show iN (1 : Int32) = 1 from rfl]
    omega
  have e2 : uN (g.1 - (1 : Int32) - x).toInt64 = iN g.1 - 1 - iN x := by rw [uN_i2l (by omega), e1]
  have hl := opnd_lt z
  have hT := dT_n z
  have hF := dF_n z
  refine ⟨fun hc => ?_, fun hc hn => ?_⟩
  · unfold m_Ch_longestSkip at h3
    rw [if_pos hc] at h3
    have e3 : uN ((1 : Int64) + m_In_operandOf z) = 1 + uN (m_In_operandOf z) := by
      rw [uN_add, show uN (1 : Int64) = 1 from rfl]
      omega
    rw [leL_n (by omega) (by omega), e2, e3] at h3
    omega
  · unfold m_Ch_longestSkip at h3
    rw [if_neg hn, if_neg hc] at h3
    have key : ∀ y : Int32, iN y < 256 → uN ((1 : Int32) + y).toInt64 = 1 + iN y := by
      intro y hy
      have e5 : iN ((1 : Int32) + y) = 1 + iN y := by
        rw [iN_add, show iN (1 : Int32) = 1 from rfl]
        omega
      rw [uN_i2l (by omega), e5]
    have bT : iN (m_In_distanceIfTrue z) < 256 := by omega
    have bF : iN (m_In_distanceIfFalse z) < 256 := by omega
    by_cases hlt : m_In_distanceIfTrue z < m_In_distanceIfFalse z
    · rw [if_pos hlt, leL_n (by rw [key _ bF]; omega) (by omega), e2, key _ bF] at h3
      rw [lt_n (by omega) (by omega)] at hlt
      omega
    · rw [if_neg hlt, leL_n (by rw [key _ bT]; omega) (by omega), e2, key _ bT] at h3
      rw [lt_n (by omega) (by omega)] at hlt
      omega
theorem ok_step {g : GT} {j : Nat} (hok : ∀ i, i < j → m_Ch_ownFault g (nI i) = 0) (h : m_Ch_ownFault g (nI j) = (0 : Int32)) : ∀ i, i < j + 1 → m_Ch_ownFault g (nI i) = 0 := by
  intro i hi
  by_cases e : i = j
  · rw [e]
    exact h
  · exact hok i (by omega)
theorem ok_all {g : GT} {j : Nat} (hg : iN g.1 ≤ 64) (hj : j ≤ 64) (hok : ∀ i, i < j → m_Ch_ownFault g (nI i) = 0) (h : g.1 ≤ nI j) : ∀ i, i < iN g.1 → m_Ch_ownFault g (nI i) = 0 := by
  have e := iN_nIs (n := j) (by omega)
  rw [le_n (by omega) (by omega), e] at h
  exact fun i hi => hok i (by omega)
theorem end_of {g : GT} (hg : iN g.1 ≤ 64) (h0 : ¬ g.1 = (0 : Int32)) (h : ¬ m_In_endsRun (m_In_codeOf (g.2 (g.1 - (1 : Int32)).toNatClampNeg)) = (0 : Int32)) : ¬ m_In_endsRun (m_In_codeOf (g.2 (iN g.1 - 1))) = 0 := by
  have e := iN_pred h0
  rw [iN_clamp (by omega), e] at h
  exact h
theorem okp_of {g : GT} (hg : iN g.1 ≤ 64) (hok : ∀ i, i < iN g.1 → m_Ch_ownFault g (nI i) = 0) (hend : ¬ m_In_endsRun (m_In_codeOf (g.2 (iN g.1 - 1))) = 0) {i : Nat} (hi : i < iN g.1) : OKp (g.2 (nI i).toNatClampNeg) ((nI i) + (1 : Int32)) := by
  have e := iN_nIs (n := i) (by omega)
  have hf := far_of hg hok (x := nI i) (by omega)
  have e1 : iN ((nI i) + (1 : Int32)) = i + 1 := by
    rw [iN_add, e, show iN (1 : Int32) = 1 from rfl]
    omega
  have hcl : (nI i).toNatClampNeg = i := nI_clamp (by omega)
  rw [hcl] at hf ⊢
  have hl := opnd_lt (g.2 i)
  have et : iN (m_In_operandOf (g.2 i)).toInt32 = uN (m_In_operandOf (g.2 i)) := by rw [iN_tr]; omega
  refine ⟨fun c => ?_, fun c1 c2 => ⟨?_, ?_⟩, fun c1 c2 c3 => ?_⟩
  · have := hf.1 c
    refine in_iN (by decide) ?_
    rw [iN_add, e1, et]
    omega
  · have := hf.2 c2 c1
    refine in_iN (by decide) ?_
    rw [iN_add, e1]
    omega
  · have := hf.2 c2 c1
    refine in_iN (by decide) ?_
    rw [iN_add, e1]
    omega
  · refine in_iN (by decide) ?_
    rw [e1]
    by_cases q : i = iN g.1 - 1
    · rw [q] at c3
      exact absurd c3 hend
    · omega
theorem wd_1 : Cond.selects R_Ch y_Ch_leastUnset y_Ch_leastUnset ∈ lw_g := wd_in (i := 1) (by decide +kernel) (by decide +kernel)
theorem wd_2 : Cond.selects R_Ch y_Ch_passOn y_Ch_passOn ∈ lw_g := wd_in (i := 2) (by decide +kernel) (by decide +kernel)
theorem wd_211 : Cond.fieldLink R_F 35 R_F "checker" "LCallFilter$Checker;" ∈ lw_g := wd_in (i := 211) (by decide +kernel) (by decide +kernel)
theorem wd_356 : Cond.methodLink R_F 116 y_Ch_verdictOn ∈ lw_g := wd_in (i := 356) (by decide +kernel) (by decide +kernel)
theorem wd_357 : Cond.instanceMethod y_Ch_verdictOn ∈ lw_g := wd_in (i := 357) (by decide +kernel) (by decide +kernel)
theorem wd_358 : Cond.selects R_Ch y_Ch_verdictOn y_Ch_verdictOn ∈ lw_g := wd_in (i := 358) (by decide +kernel) (by decide +kernel)
theorem wd_359 : Cond.code y_Ch_verdictOn prog_4_method_2_code 4 (Option.some Jvm.ClassFile.FieldType.int) ∈ lw_g := wd_in (i := 359) (by decide +kernel) (by decide +kernel)
theorem wd_360 : Cond.methodLink R_Ch 21 y_Ch_ownFault ∈ lw_g := wd_in (i := 360) (by decide +kernel) (by decide +kernel)
theorem wd_361 : Cond.static y_Ch_ownFault ∈ lw_g := wd_in (i := 361) (by decide +kernel) (by decide +kernel)
theorem wd_362 : Cond.code y_Ch_ownFault prog_4_method_3_code 5 (Option.some Jvm.ClassFile.FieldType.int) ∈ lw_g := wd_in (i := 362) (by decide +kernel) (by decide +kernel)
theorem wd_410 : Cond.methodLink R_Ch 39 y_Ch_leastUnset ∈ lw_g := wd_in (i := 410) (by decide +kernel) (by decide +kernel)
theorem wd_412 : Cond.instanceMethod y_Ch_leastUnset ∈ lw_g := wd_in (i := 412) (by decide +kernel) (by decide +kernel)
theorem wd_413 : Cond.code y_Ch_leastUnset prog_4_method_6_code 8 (Option.some Jvm.ClassFile.FieldType.int) ∈ lw_g := wd_in (i := 413) (by decide +kernel) (by decide +kernel)
theorem wd_414 : Cond.constant R_Ch 91 65535 ∈ lw_g := wd_in (i := 414) (by decide +kernel) (by decide +kernel)
theorem wd_415 : Cond.methodLink R_Ch 92 y_Ch_passOn ∈ lw_g := wd_in (i := 415) (by decide +kernel) (by decide +kernel)
theorem wd_417 : Cond.instanceMethod y_Ch_passOn ∈ lw_g := wd_in (i := 417) (by decide +kernel) (by decide +kernel)
theorem wd_418 : Cond.code y_Ch_passOn prog_4_method_7_code 6 (Option.none : Option Jvm.ClassFile.FieldType) ∈ lw_g := wd_in (i := 418) (by decide +kernel) (by decide +kernel)
theorem d_Ch_leastUnset_0 : decode b_Ch_leastUnset 0 = .ok (.iconst 0, 1) := by decide +kernel
theorem d_Ch_leastUnset_1 : decode b_Ch_leastUnset 1 = .ok (.istore_n 2, 1) := by decide +kernel
theorem d_Ch_leastUnset_2 : decode b_Ch_leastUnset 2 = .ok (.iload_n 2, 1) := by decide +kernel
theorem d_Ch_leastUnset_3 : decode b_Ch_leastUnset 3 = .ok (.aload_n 1, 1) := by decide +kernel
theorem d_Ch_leastUnset_4 : decode b_Ch_leastUnset 4 = .ok (.getfield 17, 3) := by decide +kernel
theorem d_Ch_leastUnset_7 : decode b_Ch_leastUnset 7 = .ok (.if_icmp .ge 17, 3) := by decide +kernel
theorem d_Ch_leastUnset_10 : decode b_Ch_leastUnset 10 = .ok (.aload_n 0, 1) := by decide +kernel
theorem d_Ch_leastUnset_11 : decode b_Ch_leastUnset 11 = .ok (.getfield 11, 3) := by decide +kernel
theorem d_Ch_leastUnset_14 : decode b_Ch_leastUnset 14 = .ok (.iload_n 2, 1) := by decide +kernel
theorem d_Ch_leastUnset_15 : decode b_Ch_leastUnset 15 = .ok (.ldc 91, 2) := by decide +kernel
theorem d_Ch_leastUnset_17 : decode b_Ch_leastUnset 17 = .ok (.iastore, 1) := by decide +kernel
theorem d_Ch_leastUnset_18 : decode b_Ch_leastUnset 18 = .ok (.iinc 2 1, 3) := by decide +kernel
theorem d_Ch_leastUnset_21 : decode b_Ch_leastUnset 21 = .ok (.goto (-19), 3) := by decide +kernel
theorem d_Ch_leastUnset_24 : decode b_Ch_leastUnset 24 = .ok (.aload_n 0, 1) := by decide +kernel
theorem d_Ch_leastUnset_25 : decode b_Ch_leastUnset 25 = .ok (.getfield 11, 3) := by decide +kernel
theorem d_Ch_leastUnset_28 : decode b_Ch_leastUnset 28 = .ok (.iconst 0, 1) := by decide +kernel
theorem d_Ch_leastUnset_29 : decode b_Ch_leastUnset 29 = .ok (.iconst 0, 1) := by decide +kernel
theorem d_Ch_leastUnset_30 : decode b_Ch_leastUnset 30 = .ok (.iastore, 1) := by decide +kernel
theorem d_Ch_leastUnset_31 : decode b_Ch_leastUnset 31 = .ok (.iconst 0, 1) := by decide +kernel
theorem d_Ch_leastUnset_32 : decode b_Ch_leastUnset 32 = .ok (.istore_n 2, 1) := by decide +kernel
theorem d_Ch_leastUnset_33 : decode b_Ch_leastUnset 33 = .ok (.iload_n 2, 1) := by decide +kernel
theorem d_Ch_leastUnset_34 : decode b_Ch_leastUnset 34 = .ok (.aload_n 1, 1) := by decide +kernel
theorem d_Ch_leastUnset_35 : decode b_Ch_leastUnset 35 = .ok (.getfield 17, 3) := by decide +kernel
theorem d_Ch_leastUnset_38 : decode b_Ch_leastUnset 38 = .ok (.if_icmp .ge 86, 3) := by decide +kernel
theorem d_Ch_leastUnset_41 : decode b_Ch_leastUnset 41 = .ok (.aload_n 1, 1) := by decide +kernel
theorem d_Ch_leastUnset_42 : decode b_Ch_leastUnset 42 = .ok (.getfield 25, 3) := by decide +kernel
theorem d_Ch_leastUnset_45 : decode b_Ch_leastUnset 45 = .ok (.iload_n 2, 1) := by decide +kernel
theorem d_Ch_leastUnset_46 : decode b_Ch_leastUnset 46 = .ok (.laload, 1) := by decide +kernel
theorem d_Ch_leastUnset_47 : decode b_Ch_leastUnset 47 = .ok (.lstore_n 3, 1) := by decide +kernel
theorem d_Ch_leastUnset_48 : decode b_Ch_leastUnset 48 = .ok (.lload_n 3, 1) := by decide +kernel
theorem d_Ch_leastUnset_49 : decode b_Ch_leastUnset 49 = .ok (.invokestatic 29, 3) := by decide +kernel
theorem d_Ch_leastUnset_52 : decode b_Ch_leastUnset 52 = .ok (.istore 5, 2) := by decide +kernel
theorem d_Ch_leastUnset_54 : decode b_Ch_leastUnset 54 = .ok (.iconst 1, 1) := by decide +kernel
theorem d_Ch_leastUnset_55 : decode b_Ch_leastUnset 55 = .ok (.lload_n 3, 1) := by decide +kernel
theorem d_Ch_leastUnset_56 : decode b_Ch_leastUnset 56 = .ok (.invokestatic 46, 3) := by decide +kernel
theorem d_Ch_leastUnset_59 : decode b_Ch_leastUnset 59 = .ok (.l2i, 1) := by decide +kernel
theorem d_Ch_leastUnset_60 : decode b_Ch_leastUnset 60 = .ok (.ishl, 1) := by decide +kernel
theorem d_Ch_leastUnset_61 : decode b_Ch_leastUnset 61 = .ok (.istore 6, 2) := by decide +kernel
theorem d_Ch_leastUnset_63 : decode b_Ch_leastUnset 63 = .ok (.iload 5, 2) := by decide +kernel
theorem d_Ch_leastUnset_65 : decode b_Ch_leastUnset 65 = .ok (.invokestatic 58, 3) := by decide +kernel
theorem d_Ch_leastUnset_68 : decode b_Ch_leastUnset 68 = .ok (.ifCond .eq 17, 3) := by decide +kernel
theorem d_Ch_leastUnset_71 : decode b_Ch_leastUnset 71 = .ok (.aload_n 0, 1) := by decide +kernel
theorem d_Ch_leastUnset_72 : decode b_Ch_leastUnset 72 = .ok (.getfield 11, 3) := by decide +kernel
theorem d_Ch_leastUnset_75 : decode b_Ch_leastUnset 75 = .ok (.iload_n 2, 1) := by decide +kernel
theorem d_Ch_leastUnset_76 : decode b_Ch_leastUnset 76 = .ok (.iaload, 1) := by decide +kernel
theorem d_Ch_leastUnset_77 : decode b_Ch_leastUnset 77 = .ok (.iload 6, 2) := by decide +kernel
theorem d_Ch_leastUnset_79 : decode b_Ch_leastUnset 79 = .ok (.iand, 1) := by decide +kernel
theorem d_Ch_leastUnset_80 : decode b_Ch_leastUnset 80 = .ok (.ifCond .ne 5, 3) := by decide +kernel
theorem d_Ch_leastUnset_83 : decode b_Ch_leastUnset 83 = .ok (.iload_n 2, 1) := by decide +kernel
theorem d_Ch_leastUnset_84 : decode b_Ch_leastUnset 84 = .ok (.ireturn, 1) := by decide +kernel
theorem d_Ch_leastUnset_85 : decode b_Ch_leastUnset 85 = .ok (.aload_n 0, 1) := by decide +kernel
theorem d_Ch_leastUnset_86 : decode b_Ch_leastUnset 86 = .ok (.getfield 11, 3) := by decide +kernel
theorem d_Ch_leastUnset_89 : decode b_Ch_leastUnset 89 = .ok (.iload_n 2, 1) := by decide +kernel
theorem d_Ch_leastUnset_90 : decode b_Ch_leastUnset 90 = .ok (.iaload, 1) := by decide +kernel
theorem d_Ch_leastUnset_91 : decode b_Ch_leastUnset 91 = .ok (.iload 5, 2) := by decide +kernel
theorem d_Ch_leastUnset_93 : decode b_Ch_leastUnset 93 = .ok (.invokestatic 61, 3) := by decide +kernel
theorem d_Ch_leastUnset_96 : decode b_Ch_leastUnset 96 = .ok (.ifCond .eq 8, 3) := by decide +kernel
theorem d_Ch_leastUnset_99 : decode b_Ch_leastUnset 99 = .ok (.iload 6, 2) := by decide +kernel
theorem d_Ch_leastUnset_101 : decode b_Ch_leastUnset 101 = .ok (.goto 4, 3) := by decide +kernel
theorem d_Ch_leastUnset_104 : decode b_Ch_leastUnset 104 = .ok (.iconst 0, 1) := by decide +kernel
theorem d_Ch_leastUnset_105 : decode b_Ch_leastUnset 105 = .ok (.ior, 1) := by decide +kernel
theorem d_Ch_leastUnset_106 : decode b_Ch_leastUnset 106 = .ok (.istore 7, 2) := by decide +kernel
theorem d_Ch_leastUnset_108 : decode b_Ch_leastUnset 108 = .ok (.aload_n 0, 1) := by decide +kernel
theorem d_Ch_leastUnset_109 : decode b_Ch_leastUnset 109 = .ok (.lload_n 3, 1) := by decide +kernel
theorem d_Ch_leastUnset_110 : decode b_Ch_leastUnset 110 = .ok (.iload_n 2, 1) := by decide +kernel
theorem d_Ch_leastUnset_111 : decode b_Ch_leastUnset 111 = .ok (.iconst 1, 1) := by decide +kernel
theorem d_Ch_leastUnset_112 : decode b_Ch_leastUnset 112 = .ok (.iadd, 1) := by decide +kernel
theorem d_Ch_leastUnset_113 : decode b_Ch_leastUnset 113 = .ok (.iload 7, 2) := by decide +kernel
theorem d_Ch_leastUnset_115 : decode b_Ch_leastUnset 115 = .ok (.invokevirtual 92, 3) := by decide +kernel
theorem d_Ch_leastUnset_118 : decode b_Ch_leastUnset 118 = .ok (.iinc 2 1, 3) := by decide +kernel
theorem d_Ch_leastUnset_121 : decode b_Ch_leastUnset 121 = .ok (.goto (-88), 3) := by decide +kernel
theorem d_Ch_leastUnset_124 : decode b_Ch_leastUnset 124 = .ok (.iconst (-1), 1) := by decide +kernel
theorem d_Ch_leastUnset_125 : decode b_Ch_leastUnset 125 = .ok (.ireturn, 1) := by decide +kernel
theorem d_Ch_verdictOn_0 : decode b_Ch_verdictOn 0 = .ok (.aload_n 1, 1) := by decide +kernel
theorem d_Ch_verdictOn_1 : decode b_Ch_verdictOn 1 = .ok (.getfield 17, 3) := by decide +kernel
theorem d_Ch_verdictOn_4 : decode b_Ch_verdictOn 4 = .ok (.ifCond .ne 6, 3) := by decide +kernel
theorem d_Ch_verdictOn_7 : decode b_Ch_verdictOn 7 = .ok (.bipush 100, 2) := by decide +kernel
theorem d_Ch_verdictOn_9 : decode b_Ch_verdictOn 9 = .ok (.ireturn, 1) := by decide +kernel
theorem d_Ch_verdictOn_10 : decode b_Ch_verdictOn 10 = .ok (.iconst 0, 1) := by decide +kernel
theorem d_Ch_verdictOn_11 : decode b_Ch_verdictOn 11 = .ok (.istore_n 2, 1) := by decide +kernel
theorem d_Ch_verdictOn_12 : decode b_Ch_verdictOn 12 = .ok (.iload_n 2, 1) := by decide +kernel
theorem d_Ch_verdictOn_13 : decode b_Ch_verdictOn 13 = .ok (.aload_n 1, 1) := by decide +kernel
theorem d_Ch_verdictOn_14 : decode b_Ch_verdictOn 14 = .ok (.getfield 17, 3) := by decide +kernel
theorem d_Ch_verdictOn_17 : decode b_Ch_verdictOn 17 = .ok (.if_icmp .ge 26, 3) := by decide +kernel
theorem d_Ch_verdictOn_20 : decode b_Ch_verdictOn 20 = .ok (.aload_n 1, 1) := by decide +kernel
theorem d_Ch_verdictOn_21 : decode b_Ch_verdictOn 21 = .ok (.iload_n 2, 1) := by decide +kernel
theorem d_Ch_verdictOn_22 : decode b_Ch_verdictOn 22 = .ok (.invokestatic 21, 3) := by decide +kernel
theorem d_Ch_verdictOn_25 : decode b_Ch_verdictOn 25 = .ok (.istore_n 3, 1) := by decide +kernel
theorem d_Ch_verdictOn_26 : decode b_Ch_verdictOn 26 = .ok (.iload_n 3, 1) := by decide +kernel
theorem d_Ch_verdictOn_27 : decode b_Ch_verdictOn 27 = .ok (.ifCond .eq 10, 3) := by decide +kernel
theorem d_Ch_verdictOn_30 : decode b_Ch_verdictOn 30 = .ok (.bipush 100, 2) := by decide +kernel
theorem d_Ch_verdictOn_32 : decode b_Ch_verdictOn 32 = .ok (.iload_n 3, 1) := by decide +kernel
theorem d_Ch_verdictOn_33 : decode b_Ch_verdictOn 33 = .ok (.imul, 1) := by decide +kernel
theorem d_Ch_verdictOn_34 : decode b_Ch_verdictOn 34 = .ok (.iload_n 2, 1) := by decide +kernel
theorem d_Ch_verdictOn_35 : decode b_Ch_verdictOn 35 = .ok (.iadd, 1) := by decide +kernel
theorem d_Ch_verdictOn_36 : decode b_Ch_verdictOn 36 = .ok (.ireturn, 1) := by decide +kernel
theorem d_Ch_verdictOn_37 : decode b_Ch_verdictOn 37 = .ok (.iinc 2 1, 3) := by decide +kernel
theorem d_Ch_verdictOn_40 : decode b_Ch_verdictOn 40 = .ok (.goto (-28), 3) := by decide +kernel
theorem d_Ch_verdictOn_43 : decode b_Ch_verdictOn 43 = .ok (.aload_n 1, 1) := by decide +kernel
theorem d_Ch_verdictOn_44 : decode b_Ch_verdictOn 44 = .ok (.getfield 17, 3) := by decide +kernel
theorem d_Ch_verdictOn_47 : decode b_Ch_verdictOn 47 = .ok (.iconst 1, 1) := by decide +kernel
theorem d_Ch_verdictOn_48 : decode b_Ch_verdictOn 48 = .ok (.isub, 1) := by decide +kernel
theorem d_Ch_verdictOn_49 : decode b_Ch_verdictOn 49 = .ok (.istore_n 2, 1) := by decide +kernel
theorem d_Ch_verdictOn_50 : decode b_Ch_verdictOn 50 = .ok (.aload_n 1, 1) := by decide +kernel
theorem d_Ch_verdictOn_51 : decode b_Ch_verdictOn 51 = .ok (.getfield 25, 3) := by decide +kernel
theorem d_Ch_verdictOn_54 : decode b_Ch_verdictOn 54 = .ok (.iload_n 2, 1) := by decide +kernel
theorem d_Ch_verdictOn_55 : decode b_Ch_verdictOn 55 = .ok (.laload, 1) := by decide +kernel
theorem d_Ch_verdictOn_56 : decode b_Ch_verdictOn 56 = .ok (.invokestatic 29, 3) := by decide +kernel
theorem d_Ch_verdictOn_59 : decode b_Ch_verdictOn 59 = .ok (.invokestatic 35, 3) := by decide +kernel
theorem d_Ch_verdictOn_62 : decode b_Ch_verdictOn 62 = .ok (.ifCond .ne 9, 3) := by decide +kernel
theorem d_Ch_verdictOn_65 : decode b_Ch_verdictOn 65 = .ok (.sipush 500, 3) := by decide +kernel
theorem d_Ch_verdictOn_68 : decode b_Ch_verdictOn 68 = .ok (.iload_n 2, 1) := by decide +kernel
theorem d_Ch_verdictOn_69 : decode b_Ch_verdictOn 69 = .ok (.iadd, 1) := by decide +kernel
theorem d_Ch_verdictOn_70 : decode b_Ch_verdictOn 70 = .ok (.ireturn, 1) := by decide +kernel
theorem d_Ch_verdictOn_71 : decode b_Ch_verdictOn 71 = .ok (.aload_n 0, 1) := by decide +kernel
theorem d_Ch_verdictOn_72 : decode b_Ch_verdictOn 72 = .ok (.aload_n 1, 1) := by decide +kernel
theorem d_Ch_verdictOn_73 : decode b_Ch_verdictOn 73 = .ok (.invokevirtual 39, 3) := by decide +kernel
theorem d_Ch_verdictOn_76 : decode b_Ch_verdictOn 76 = .ok (.istore_n 3, 1) := by decide +kernel
theorem d_Ch_verdictOn_77 : decode b_Ch_verdictOn 77 = .ok (.iload_n 3, 1) := by decide +kernel
theorem d_Ch_verdictOn_78 : decode b_Ch_verdictOn 78 = .ok (.iconst (-1), 1) := by decide +kernel
theorem d_Ch_verdictOn_79 : decode b_Ch_verdictOn 79 = .ok (.if_icmp .ne 7, 3) := by decide +kernel
theorem d_Ch_verdictOn_82 : decode b_Ch_verdictOn 82 = .ok (.iconst 0, 1) := by decide +kernel
theorem d_Ch_verdictOn_83 : decode b_Ch_verdictOn 83 = .ok (.goto 8, 3) := by decide +kernel
theorem d_Ch_verdictOn_86 : decode b_Ch_verdictOn 86 = .ok (.sipush 600, 3) := by decide +kernel
theorem d_Ch_verdictOn_89 : decode b_Ch_verdictOn 89 = .ok (.iload_n 3, 1) := by decide +kernel
theorem d_Ch_verdictOn_90 : decode b_Ch_verdictOn 90 = .ok (.iadd, 1) := by decide +kernel
theorem d_Ch_verdictOn_91 : decode b_Ch_verdictOn 91 = .ok (.ireturn, 1) := by decide +kernel
theorem d_F_check_0 : decode b_F_check 0 = .ok (.aload_n 0, 1) := by decide +kernel
theorem d_F_check_1 : decode b_F_check 1 = .ok (.getfield 35, 3) := by decide +kernel
theorem d_F_check_4 : decode b_F_check 4 = .ok (.aload_n 0, 1) := by decide +kernel
theorem d_F_check_5 : decode b_F_check 5 = .ok (.getfield 28, 3) := by decide +kernel
theorem d_F_check_8 : decode b_F_check 8 = .ok (.invokevirtual 116, 3) := by decide +kernel
theorem d_F_check_11 : decode b_F_check 11 = .ok (.ireturn, 1) := by decide +kernel
def m_Ch_leastUnset_l2 (g : GT) (ss : Nat → Int32) : Nat → Nat → (Nat → Int32) → Int32 × (Nat → Int32)
  | 0, _, _ => (0, ss)
  | n2 + 1, i, s2 => if g.1 ≤ (nI i) then ((-1 : Int32), s2) else if (m_In_loadsCell (m_In_codeOf (g.2 (nI i).toNatClampNeg))) = (0 : Int32) then if (m_In_storesCell (m_In_codeOf (g.2 (nI i).toNatClampNeg))) = (0 : Int32) then m_Ch_leastUnset_l2 g ss n2 (i + 1) (m_Ch_passOn s2 (g.2 (nI i).toNatClampNeg) ((nI i) + (1 : Int32)) ((s2 (nI i).toNatClampNeg) ||| (0 : Int32))) else m_Ch_leastUnset_l2 g ss n2 (i + 1) (m_Ch_passOn s2 (g.2 (nI i).toNatClampNeg) ((nI i) + (1 : Int32)) ((s2 (nI i).toNatClampNeg) ||| ((1 : Int32) <<< (((m_In_operandOf (g.2 (nI i).toNatClampNeg)).toInt32) &&& 31)))) else if ((s2 (nI i).toNatClampNeg) &&& ((1 : Int32) <<< (((m_In_operandOf (g.2 (nI i).toNatClampNeg)).toInt32) &&& 31))) = (0 : Int32) then (nI i, s2) else if (m_In_storesCell (m_In_codeOf (g.2 (nI i).toNatClampNeg))) = (0 : Int32) then m_Ch_leastUnset_l2 g ss n2 (i + 1) (m_Ch_passOn s2 (g.2 (nI i).toNatClampNeg) ((nI i) + (1 : Int32)) ((s2 (nI i).toNatClampNeg) ||| (0 : Int32))) else m_Ch_leastUnset_l2 g ss n2 (i + 1) (m_Ch_passOn s2 (g.2 (nI i).toNatClampNeg) ((nI i) + (1 : Int32)) ((s2 (nI i).toNatClampNeg) ||| ((1 : Int32) <<< (((m_In_operandOf (g.2 (nI i).toNatClampNeg)).toInt32) &&& 31))))
def m_Ch_leastUnset_l1 (g : GT) (ss : Nat → Int32) : Nat → Nat → (Nat → Int32) → Int32 × (Nat → Int32)
  | 0, _, _ => (0, ss)
  | n1 + 1, j, s1 => if g.1 ≤ (nI j) then m_Ch_leastUnset_l2 g ss (65) 0 (upd s1 0 (0 : Int32)) else m_Ch_leastUnset_l1 g ss n1 (j + 1) (upd s1 (nI j).toNatClampNeg (65535 : Int32))
def m_Ch_leastUnset (g : GT) (ss : Nat → Int32) : Int32 × (Nat → Int32) := m_Ch_leastUnset_l1 g ss (65) 0 ss
set_option maxHeartbeats 4000000 in
set_option maxRecDepth 100000 in
theorem c_Ch_leastUnset (l : Launch) (D : va_G) (dA : Nat → ClassId) (ad : Nat → Nat) (A : Nat → Prop) (hAd : AdOK 49 ad A) (w : Nat → Int32) (P : PT) (g : GT) (ss : Nat → Int32) (M : MT) (hg : iN g.1 ≤ 64) (h0 : 0 < iN g.1) (hok : ∀ i, i < iN g.1 → m_Ch_ownFault g (nI i) = 0) (hend : ¬ m_In_endsRun (m_In_codeOf (g.2 (iN g.1 - 1))) = 0) : Met l y_Ch_leastUnset (mW y_Ch_leastUnset b_Ch_leastUnset 8 (some .int)) { frames := 2, cells := 0, slots := 0, locals := 46 } (va_Pc [.ref (ad 9), .ref (ad 7)] (fun U => CG D dA ad w P g ss M U)) (va_Qi (fun (r : Int32) (u : (Nat → Int32)) => r = (m_Ch_leastUnset g ss).1 ∧ u = (m_Ch_leastUnset g ss).2) (fun u t => CG D dA ad w P g u M t) A) 0 0 A := by
  refine Met.ofW (cc := b_Ch_leastUnset) (maxL := 8) (ret := (some .int)) (by decide) rfl ?_
  intro p e s m args below meth c s₁ B hml hv
  obtain ⟨rfl, hP, hK, hN⟩ := hv
  have hx := B.exec
  have hb := B.bytes
  have hr := B.returns
  have hlocks := B.notSynchronized
  have hts := fun (w : Cond) (h : w ∈ lw_g) => atoms_spec (ws := mW y_Ch_leastUnset b_Ch_leastUnset 8 (some .int)) B.pre w (List.mem_cons_of_mem _ h)
  have hown : s.vm.findClass R_Ch = some m.cls := findClass_of_methodNamed B.named
  have hS : va_S A s.heap s.heap [] := va_S.rf
  have hl := lv_entry ([.ref (ad 9), .ref (ad 7)]) (n := 8) (Nat.le_of_ble_eq_true rfl)
  rw [lg_entry_eq]
  generalize (lg_sl ([.ref (ad 9), .ref (ad 7)]) ++ List.replicate (8 - (lg_sl ([.ref (ad 9), .ref (ad 7)])).length) Slot.unset).toArray = ls at hl ⊢
  have hl : lv_has ls 8 [(0, .ref (ad 9)), (1, .ref (ad 7))] := hl
  refine lv_iconst (v := 0) hx hb d_Ch_leastUnset_0 (by decide) ?_
  refine lv_istore_n hx hb d_Ch_leastUnset_1 rfl hl (by decide) rfl (fun ls hl => ?_)
  have hl : lv_has ls 8 [(2, .int (0 : Int32)), (0, .ref (ad 9)), (1, .ref (ad 7))] := hl
  refine W_loop2 (X := fun (n1 : Nat) (j : Nat) (s1 : Nat → Int32) (H : Heap) (locs : List Loc) (ls : Array Slot) => 64 - j < n1 ∧ m_Ch_leastUnset g ss = m_Ch_leastUnset_l1 g ss n1 j s1 ∧ lv_has ls 8 [(2, .int (nI j)), (0, .ref (ad 9)), (1, .ref (ad 7))] ∧ va_P D cls (wC ad dA w P g s1 M) H ∧ va_S A s.heap H locs ∧ j ≤ 64) (65) 0 ss ⟨(by decide), (by rw [m_Ch_leastUnset]), (lv_sub hl [0, 1, 2] rfl), hP, hS, (by decide)⟩ (fun _ _ _ _ _ h => absurd h.1 (Nat.not_lt_zero _)) (fun n1 ih1 j s1 H locs ls h => ?_)
  obtain ⟨hn1, hm1, hl, hP, hS, hj⟩ := h
  refine lv_iload_n hx hb d_Ch_leastUnset_2 rfl (lv_at hl 0 rfl) ?_
  refine lv_aload_n hx hb d_Ch_leastUnset_3 rfl (lv_at hl 2 rfl) ?_
  refine va_get (D := D) (ci := 6) (v := .int g.1) (C := R_Pr) (T := F_Pr) (N := 2) hx hb hts in_Pr hown hK hP 7 rfl rfl 1 (by decide) (hts _ wd_156) (fun _ h9 => h9) rfl d_Ch_leastUnset_4 ?_
  refine lv_icmp_ge (tgt := 24) hx hb d_Ch_leastUnset_7 (by decide) (fun h1 => ?_) (fun h1 => ?_)
  · refine lv_aload_n hx hb d_Ch_leastUnset_24 rfl (lv_at hl 1 rfl) ?_
    refine va_get (D := D) (ci := 2) (v := .ref (ad 10)) (C := R_Ch) (T := F_Ch) (N := 1) hx hb hts in_Ch hown hK hP 9 rfl rfl 0 (by decide) (hts _ wd_171) (fun _ h9 => h9) rfl d_Ch_leastUnset_25 ?_
    refine lv_iconst (v := 0) hx hb d_Ch_leastUnset_28 (by decide) ?_
    refine lv_iconst (v := 0) hx hb d_Ch_leastUnset_29 (by decide) ?_
    refine va_iast (n := 64) (f := s1) hx hb hK hP (wC_D hAd) hS 10 0 rfl rfl (vp_in_nI (n := 0) (by decide) (by decide)) d_Ch_leastUnset_30 (fun H locs hP _ hS => ?_)
    have hP : va_P D cls (wC ad dA w P g (upd s1 0 (0 : Int32)) M) H := hP
    refine lv_iconst (v := 0) hx hb d_Ch_leastUnset_31 (by decide) ?_
    refine lv_istore_n hx hb d_Ch_leastUnset_32 rfl hl (by decide) rfl (fun ls hl => ?_)
    have hl : lv_has ls 8 [(2, .int (0 : Int32)), (0, .ref (ad 9)), (1, .ref (ad 7))] := hl
    refine W_loop2 (X := fun (n2 : Nat) (i : Nat) (s2 : Nat → Int32) (H : Heap) (locs : List Loc) (ls : Array Slot) => 64 - i < n2 ∧ m_Ch_leastUnset g ss = m_Ch_leastUnset_l2 g ss n2 i s2 ∧ lv_has ls 8 [(2, .int (nI i)), (0, .ref (ad 9)), (1, .ref (ad 7))] ∧ va_P D cls (wC ad dA w P g s2 M) H ∧ va_S A s.heap H locs ∧ i ≤ 64) (65) 0 (upd s1 0 (0 : Int32)) ⟨(by decide), (by rw [hm1, m_Ch_leastUnset_l1, if_pos h1]), (lv_sub hl [0, 1, 2] rfl), hP, hS, (by decide)⟩ (fun _ _ _ _ _ h => absurd h.1 (Nat.not_lt_zero _)) (fun n2 ih2 i s2 H locs ls h => ?_)
    obtain ⟨hn2, hm2, hl, hP, hS, hi⟩ := h
    refine lv_iload_n hx hb d_Ch_leastUnset_33 rfl (lv_at hl 0 rfl) ?_
    refine lv_aload_n hx hb d_Ch_leastUnset_34 rfl (lv_at hl 2 rfl) ?_
    refine va_get (D := D) (ci := 6) (v := .int g.1) (C := R_Pr) (T := F_Pr) (N := 2) hx hb hts in_Pr hown hK hP 7 rfl rfl 1 (by decide) (hts _ wd_156) (fun _ h9 => h9) rfl d_Ch_leastUnset_35 ?_
    refine lv_icmp_ge (tgt := 124) hx hb d_Ch_leastUnset_38 (by decide) (fun h2 => ?_) (fun h2 => ?_)
    · refine lv_iconst (v := -1) hx hb d_Ch_leastUnset_124 (by decide) ?_
      exact W.iret hx hb hr (fun t ht hW => ⟨⟨_, _, rfl, ⟨(by rw [hm2, m_Ch_leastUnset_l2, if_pos h2]), (by rw [hm2, m_Ch_leastUnset_l2, if_pos h2])⟩, CG_at hP hK hN ht hW⟩, hS.F ht⟩) hS.2.2 d_Ch_leastUnset_125
    have hil : i < iN g.1 := nj_lt hg (by decide) hi h2
    refine lv_aload_n hx hb d_Ch_leastUnset_41 rfl (lv_at hl 2 rfl) ?_
    refine va_get (D := D) (ci := 6) (v := .ref (ad 8)) (C := R_Pr) (T := F_Pr) (N := 2) hx hb hts in_Pr hown hK hP 7 rfl rfl 0 (by decide) (hts _ wd_153) (fun _ h9 => h9) rfl d_Ch_leastUnset_42 ?_
    refine lv_iload_n hx hb d_Ch_leastUnset_45 rfl (lv_at hl 0 rfl) ?_
    refine va_lald (n := 64) (f := g.2) hx hb hK hP 8 1 rfl rfl (vp_in_nI (by omega) (by decide)) d_Ch_leastUnset_46 ?_
    refine lv_lstore_n hx hb d_Ch_leastUnset_47 rfl hl (by decide) rfl (fun ls hl => ?_)
    have hl : lv_has ls 8 [(3, .long (g.2 (nI i).toNatClampNeg)), (2, .int (nI i)), (0, .ref (ad 9)), (1, .ref (ad 7))] := hl
    refine lv_lload_n hx hb d_Ch_leastUnset_48 rfl (lv_at hl 0 rfl) ?_
    refine vp_callSi (va_Run.run (va_runS (As := [.long (g.2 (nI i).toNatClampNeg)]) (rest := []) ⟨hx, hb, hml, hown, hts⟩ (c_In_codeOf l (g.2 (nI i).toNatClampNeg)) (va_cwS 1 hts (g_S wd_363 wd_364 wd_36 wd_365) rfl rfl rfl (by decide +kernel) ⟨Nat.le_of_ble_eq_true rfl, Nat.le_of_ble_eq_true rfl⟩) ⟨fun _ _ _ _ q => q, fun _ _ _ => ⟨rfl, trivial⟩⟩ rfl rfl hl.1 rfl (lv_room (Nat.le_of_ble_eq_true rfl)) d_Ch_leastUnset_49 ⟨Nat.le_of_ble_eq_true rfl, Nat.le_of_ble_eq_true rfl⟩)) (fun r1 e1 => ?_)
    subst e1
    refine lv_istore hx hb d_Ch_leastUnset_52 hl (by decide) rfl (fun ls hl => ?_)
    have hl : lv_has ls 8 [(5, .int (m_In_codeOf (g.2 (nI i).toNatClampNeg))), (3, .long (g.2 (nI i).toNatClampNeg)), (2, .int (nI i)), (0, .ref (ad 9)), (1, .ref (ad 7))] := hl
    refine lv_iconst (v := 1) hx hb d_Ch_leastUnset_54 (by decide) ?_
    refine lv_lload_n hx hb d_Ch_leastUnset_55 rfl (lv_at hl 1 rfl) ?_
    refine vp_callSl (va_Run.run (va_runS (As := [.long (g.2 (nI i).toNatClampNeg)]) (rest := [.int (1 : Int32)]) ⟨hx, hb, hml, hown, hts⟩ (c_In_operandOf l (g.2 (nI i).toNatClampNeg)) (va_cwS 1 hts (g_S wd_379 wd_380 wd_36 wd_381) rfl rfl rfl (by decide +kernel) ⟨Nat.le_of_ble_eq_true rfl, Nat.le_of_ble_eq_true rfl⟩) ⟨fun _ _ _ _ q => q, fun _ _ _ => ⟨rfl, trivial⟩⟩ rfl rfl hl.1 rfl (lv_room (Nat.le_of_ble_eq_true rfl)) d_Ch_leastUnset_56 ⟨Nat.le_of_ble_eq_true rfl, Nat.le_of_ble_eq_true rfl⟩)) (fun r2 e2 => ?_)
    subst e2
    refine lv_l2i hx hb d_Ch_leastUnset_59 rfl ?_
    refine lv_ishl hx hb d_Ch_leastUnset_60 ?_
    refine lv_istore hx hb d_Ch_leastUnset_61 hl (by decide) rfl (fun ls hl => ?_)
    have hl : lv_has ls 8 [(6, .int ((1 : Int32) <<< (((m_In_operandOf (g.2 (nI i).toNatClampNeg)).toInt32) &&& 31))), (5, .int (m_In_codeOf (g.2 (nI i).toNatClampNeg))), (3, .long (g.2 (nI i).toNatClampNeg)), (2, .int (nI i)), (0, .ref (ad 9)), (1, .ref (ad 7))] := hl
    refine lv_iload hx hb d_Ch_leastUnset_63 (lv_at hl 1 rfl) ?_
    refine vp_callSi (va_Run.run (va_runS (As := [.int (m_In_codeOf (g.2 (nI i).toNatClampNeg))]) (rest := []) ⟨hx, hb, hml, hown, hts⟩ (c_In_loadsCell l (m_In_codeOf (g.2 (nI i).toNatClampNeg))) (va_cwS 1 hts (g_S wd_385 wd_386 wd_36 wd_387) rfl rfl rfl (by decide +kernel) ⟨Nat.le_of_ble_eq_true rfl, Nat.le_of_ble_eq_true rfl⟩) ⟨fun _ _ _ _ q => q, fun _ _ _ => ⟨rfl, trivial⟩⟩ rfl rfl hl.1 rfl (lv_room (Nat.le_of_ble_eq_true rfl)) d_Ch_leastUnset_65 ⟨Nat.le_of_ble_eq_true rfl, Nat.le_of_ble_eq_true rfl⟩)) (fun r3 e3 => ?_)
    subst e3
    refine lv_if_eq (tgt := 85) hx hb d_Ch_leastUnset_68 (by decide) (fun h3 => ?_) (fun h3 => ?_)
    · refine lv_aload_n hx hb d_Ch_leastUnset_85 rfl (lv_at hl 4 rfl) ?_
      refine va_get (D := D) (ci := 2) (v := .ref (ad 10)) (C := R_Ch) (T := F_Ch) (N := 1) hx hb hts in_Ch hown hK hP 9 rfl rfl 0 (by decide) (hts _ wd_171) (fun _ h9 => h9) rfl d_Ch_leastUnset_86 ?_
      refine lv_iload_n hx hb d_Ch_leastUnset_89 rfl (lv_at hl 3 rfl) ?_
      refine va_iald (n := 64) (f := s2) hx hb hK hP 10 0 rfl rfl (vp_in_nI (by omega) (by decide)) d_Ch_leastUnset_90 ?_
      refine lv_iload hx hb d_Ch_leastUnset_91 (lv_at hl 1 rfl) ?_
      refine vp_callSi (va_Run.run (va_runS (As := [.int (m_In_codeOf (g.2 (nI i).toNatClampNeg))]) (rest := [.int (s2 (nI i).toNatClampNeg)]) ⟨hx, hb, hml, hown, hts⟩ (c_In_storesCell l (m_In_codeOf (g.2 (nI i).toNatClampNeg))) (va_cwS 1 hts (g_S wd_388 wd_389 wd_36 wd_390) rfl rfl rfl (by decide +kernel) ⟨Nat.le_of_ble_eq_true rfl, Nat.le_of_ble_eq_true rfl⟩) ⟨fun _ _ _ _ q => q, fun _ _ _ => ⟨rfl, trivial⟩⟩ rfl rfl hl.1 rfl (lv_room (Nat.le_of_ble_eq_true rfl)) d_Ch_leastUnset_93 ⟨Nat.le_of_ble_eq_true rfl, Nat.le_of_ble_eq_true rfl⟩)) (fun r4 e4 => ?_)
      subst e4
      refine lv_if_eq (tgt := 104) hx hb d_Ch_leastUnset_96 (by decide) (fun h4 => ?_) (fun h4 => ?_)
      · refine lv_iconst (v := 0) hx hb d_Ch_leastUnset_104 (by decide) ?_
        refine lv_ior hx hb d_Ch_leastUnset_105 ?_
        refine lv_istore hx hb d_Ch_leastUnset_106 hl (by decide) rfl (fun ls hl => ?_)
        have hl : lv_has ls 8 [(7, .int ((s2 (nI i).toNatClampNeg) ||| (0 : Int32))), (6, .int ((1 : Int32) <<< (((m_In_operandOf (g.2 (nI i).toNatClampNeg)).toInt32) &&& 31))), (5, .int (m_In_codeOf (g.2 (nI i).toNatClampNeg))), (3, .long (g.2 (nI i).toNatClampNeg)), (2, .int (nI i)), (0, .ref (ad 9)), (1, .ref (ad 7))] := hl
        refine lv_aload_n hx hb d_Ch_leastUnset_108 rfl (lv_at hl 5 rfl) ?_
        refine lv_lload_n hx hb d_Ch_leastUnset_109 rfl (lv_at hl 3 rfl) ?_
        refine lv_iload_n hx hb d_Ch_leastUnset_110 rfl (lv_at hl 4 rfl) ?_
        refine lv_iconst (v := 1) hx hb d_Ch_leastUnset_111 (by decide) ?_
        refine lv_iadd hx hb d_Ch_leastUnset_112 ?_
        refine lv_iload hx hb d_Ch_leastUnset_113 (lv_at hl 0 rfl) ?_
        refine va_callv (va_runV (As := [.long (g.2 (nI i).toNatClampNeg), .int ((nI i) + (1 : Int32)), .int ((s2 (nI i).toNatClampNeg) ||| (0 : Int32))]) (rest := []) ⟨hx, hb, hml, hown, hts⟩ (c_Ch_passOn l D dA ad A hAd w P g s2 M (g.2 (nI i).toNatClampNeg) ((nI i) + (1 : Int32)) ((s2 (nI i).toNatClampNeg) ||| (0 : Int32)) (okp_of hg hok hend hil)) (cwV 3 hts (g_V wd_415 wd_417 wd_2 wd_33 wd_418) rfl rfl rfl (by decide +kernel) ⟨Nat.le_of_ble_eq_true rfl, Nat.le_of_ble_eq_true rfl⟩) ⟨CG_fb, (va_recv (ci := 2) (q := (R_Ch, F_Ch, 1)) (q0 := 9) hK hP rfl rfl), fun U hU hW => ⟨rfl, CG_at hP hK hN hU hW⟩⟩ rfl rfl hl.1 rfl (lv_room (Nat.le_of_ble_eq_true rfl)) d_Ch_leastUnset_115 ⟨Nat.le_of_ble_eq_true rfl, Nat.le_of_ble_eq_true rfl⟩) hS (fun _ _ h => h) (fun _ h => h) (fun u1 t H locs ht hvm hu hB hz hk hS => ?_)
        subst hu
        obtain ⟨hP, -⟩ := hB
        rw [ht] at hP
        have hP : va_P D cls (wC ad dA w P g (m_Ch_passOn s2 (g.2 (nI i).toNatClampNeg) ((nI i) + (1 : Int32)) ((s2 (nI i).toNatClampNeg) ||| (0 : Int32))) M) H := hP
        refine lv_iinc (v := (nI i) + 1) hx hb d_Ch_leastUnset_118 hl (k := 4) rfl rfl (by decide) rfl (fun ls hl => ?_)
        have hl : lv_has ls 8 [(2, .int ((nI i) + 1)), (7, .int ((s2 (nI i).toNatClampNeg) ||| (0 : Int32))), (6, .int ((1 : Int32) <<< (((m_In_operandOf (g.2 (nI i).toNatClampNeg)).toInt32) &&& 31))), (5, .int (m_In_codeOf (g.2 (nI i).toNatClampNeg))), (3, .long (g.2 (nI i).toNatClampNeg)), (0, .ref (ad 9)), (1, .ref (ad 7))] := hl
        refine lv_goto (tgt := 33) hx hb d_Ch_leastUnset_121 (by decide) ?_
        exact ih2 (i + 1) (m_Ch_passOn s2 (g.2 (nI i).toNatClampNeg) ((nI i) + (1 : Int32)) ((s2 (nI i).toNatClampNeg) ||| (0 : Int32))) _ _ _ ⟨(by omega), (by rw [hm2, m_Ch_leastUnset_l2, if_neg h2, if_pos h3, if_pos h4]), (by have h9 := lv_sub hl [0, 5, 6] rfl; rw [nI_1] at h9; exact h9), hP, hS, (by omega)⟩
      refine lv_iload hx hb d_Ch_leastUnset_99 (lv_at hl 0 rfl) ?_
      refine lv_goto (tgt := 105) hx hb d_Ch_leastUnset_101 (by decide) ?_
      refine lv_ior hx hb d_Ch_leastUnset_105 ?_
      refine lv_istore hx hb d_Ch_leastUnset_106 hl (by decide) rfl (fun ls hl => ?_)
      have hl : lv_has ls 8 [(7, .int ((s2 (nI i).toNatClampNeg) ||| ((1 : Int32) <<< (((m_In_operandOf (g.2 (nI i).toNatClampNeg)).toInt32) &&& 31)))), (6, .int ((1 : Int32) <<< (((m_In_operandOf (g.2 (nI i).toNatClampNeg)).toInt32) &&& 31))), (5, .int (m_In_codeOf (g.2 (nI i).toNatClampNeg))), (3, .long (g.2 (nI i).toNatClampNeg)), (2, .int (nI i)), (0, .ref (ad 9)), (1, .ref (ad 7))] := hl
      refine lv_aload_n hx hb d_Ch_leastUnset_108 rfl (lv_at hl 5 rfl) ?_
      refine lv_lload_n hx hb d_Ch_leastUnset_109 rfl (lv_at hl 3 rfl) ?_
      refine lv_iload_n hx hb d_Ch_leastUnset_110 rfl (lv_at hl 4 rfl) ?_
      refine lv_iconst (v := 1) hx hb d_Ch_leastUnset_111 (by decide) ?_
      refine lv_iadd hx hb d_Ch_leastUnset_112 ?_
      refine lv_iload hx hb d_Ch_leastUnset_113 (lv_at hl 0 rfl) ?_
      refine va_callv (va_runV (As := [.long (g.2 (nI i).toNatClampNeg), .int ((nI i) + (1 : Int32)), .int ((s2 (nI i).toNatClampNeg) ||| ((1 : Int32) <<< (((m_In_operandOf (g.2 (nI i).toNatClampNeg)).toInt32) &&& 31)))]) (rest := []) ⟨hx, hb, hml, hown, hts⟩ (c_Ch_passOn l D dA ad A hAd w P g s2 M (g.2 (nI i).toNatClampNeg) ((nI i) + (1 : Int32)) ((s2 (nI i).toNatClampNeg) ||| ((1 : Int32) <<< (((m_In_operandOf (g.2 (nI i).toNatClampNeg)).toInt32) &&& 31))) (okp_of hg hok hend hil)) (cwV 3 hts (g_V wd_415 wd_417 wd_2 wd_33 wd_418) rfl rfl rfl (by decide +kernel) ⟨Nat.le_of_ble_eq_true rfl, Nat.le_of_ble_eq_true rfl⟩) ⟨CG_fb, (va_recv (ci := 2) (q := (R_Ch, F_Ch, 1)) (q0 := 9) hK hP rfl rfl), fun U hU hW => ⟨rfl, CG_at hP hK hN hU hW⟩⟩ rfl rfl hl.1 rfl (lv_room (Nat.le_of_ble_eq_true rfl)) d_Ch_leastUnset_115 ⟨Nat.le_of_ble_eq_true rfl, Nat.le_of_ble_eq_true rfl⟩) hS (fun _ _ h => h) (fun _ h => h) (fun u2 t H locs ht hvm hu hB hz hk hS => ?_)
      subst hu
      obtain ⟨hP, -⟩ := hB
      rw [ht] at hP
      have hP : va_P D cls (wC ad dA w P g (m_Ch_passOn s2 (g.2 (nI i).toNatClampNeg) ((nI i) + (1 : Int32)) ((s2 (nI i).toNatClampNeg) ||| ((1 : Int32) <<< (((m_In_operandOf (g.2 (nI i).toNatClampNeg)).toInt32) &&& 31)))) M) H := hP
      refine lv_iinc (v := (nI i) + 1) hx hb d_Ch_leastUnset_118 hl (k := 4) rfl rfl (by decide) rfl (fun ls hl => ?_)
      have hl : lv_has ls 8 [(2, .int ((nI i) + 1)), (7, .int ((s2 (nI i).toNatClampNeg) ||| ((1 : Int32) <<< (((m_In_operandOf (g.2 (nI i).toNatClampNeg)).toInt32) &&& 31)))), (6, .int ((1 : Int32) <<< (((m_In_operandOf (g.2 (nI i).toNatClampNeg)).toInt32) &&& 31))), (5, .int (m_In_codeOf (g.2 (nI i).toNatClampNeg))), (3, .long (g.2 (nI i).toNatClampNeg)), (0, .ref (ad 9)), (1, .ref (ad 7))] := hl
      refine lv_goto (tgt := 33) hx hb d_Ch_leastUnset_121 (by decide) ?_
      exact ih2 (i + 1) (m_Ch_passOn s2 (g.2 (nI i).toNatClampNeg) ((nI i) + (1 : Int32)) ((s2 (nI i).toNatClampNeg) ||| ((1 : Int32) <<< (((m_In_operandOf (g.2 (nI i).toNatClampNeg)).toInt32) &&& 31)))) _ _ _ ⟨(by omega), (by rw [hm2, m_Ch_leastUnset_l2, if_neg h2, if_pos h3, if_neg h4]), (by have h9 := lv_sub hl [0, 5, 6] rfl; rw [nI_1] at h9; exact h9), hP, hS, (by omega)⟩
    refine lv_aload_n hx hb d_Ch_leastUnset_71 rfl (lv_at hl 4 rfl) ?_
    refine va_get (D := D) (ci := 2) (v := .ref (ad 10)) (C := R_Ch) (T := F_Ch) (N := 1) hx hb hts in_Ch hown hK hP 9 rfl rfl 0 (by decide) (hts _ wd_171) (fun _ h9 => h9) rfl d_Ch_leastUnset_72 ?_
    refine lv_iload_n hx hb d_Ch_leastUnset_75 rfl (lv_at hl 3 rfl) ?_
    refine va_iald (n := 64) (f := s2) hx hb hK hP 10 0 rfl rfl (vp_in_nI (by omega) (by decide)) d_Ch_leastUnset_76 ?_
    refine lv_iload hx hb d_Ch_leastUnset_77 (lv_at hl 0 rfl) ?_
    refine lv_iand hx hb d_Ch_leastUnset_79 ?_
    refine lv_if_ne (tgt := 85) hx hb d_Ch_leastUnset_80 (by decide) (fun h5 => ?_) (fun h5 => ?_)
    · refine lv_aload_n hx hb d_Ch_leastUnset_85 rfl (lv_at hl 4 rfl) ?_
      refine va_get (D := D) (ci := 2) (v := .ref (ad 10)) (C := R_Ch) (T := F_Ch) (N := 1) hx hb hts in_Ch hown hK hP 9 rfl rfl 0 (by decide) (hts _ wd_171) (fun _ h9 => h9) rfl d_Ch_leastUnset_86 ?_
      refine lv_iload_n hx hb d_Ch_leastUnset_89 rfl (lv_at hl 3 rfl) ?_
      refine va_iald (n := 64) (f := s2) hx hb hK hP 10 0 rfl rfl (vp_in_nI (by omega) (by decide)) d_Ch_leastUnset_90 ?_
      refine lv_iload hx hb d_Ch_leastUnset_91 (lv_at hl 1 rfl) ?_
      refine vp_callSi (va_Run.run (va_runS (As := [.int (m_In_codeOf (g.2 (nI i).toNatClampNeg))]) (rest := [.int (s2 (nI i).toNatClampNeg)]) ⟨hx, hb, hml, hown, hts⟩ (c_In_storesCell l (m_In_codeOf (g.2 (nI i).toNatClampNeg))) (va_cwS 1 hts (g_S wd_388 wd_389 wd_36 wd_390) rfl rfl rfl (by decide +kernel) ⟨Nat.le_of_ble_eq_true rfl, Nat.le_of_ble_eq_true rfl⟩) ⟨fun _ _ _ _ q => q, fun _ _ _ => ⟨rfl, trivial⟩⟩ rfl rfl hl.1 rfl (lv_room (Nat.le_of_ble_eq_true rfl)) d_Ch_leastUnset_93 ⟨Nat.le_of_ble_eq_true rfl, Nat.le_of_ble_eq_true rfl⟩)) (fun r5 e5 => ?_)
      subst e5
      refine lv_if_eq (tgt := 104) hx hb d_Ch_leastUnset_96 (by decide) (fun h6 => ?_) (fun h6 => ?_)
      · refine lv_iconst (v := 0) hx hb d_Ch_leastUnset_104 (by decide) ?_
        refine lv_ior hx hb d_Ch_leastUnset_105 ?_
        refine lv_istore hx hb d_Ch_leastUnset_106 hl (by decide) rfl (fun ls hl => ?_)
        have hl : lv_has ls 8 [(7, .int ((s2 (nI i).toNatClampNeg) ||| (0 : Int32))), (6, .int ((1 : Int32) <<< (((m_In_operandOf (g.2 (nI i).toNatClampNeg)).toInt32) &&& 31))), (5, .int (m_In_codeOf (g.2 (nI i).toNatClampNeg))), (3, .long (g.2 (nI i).toNatClampNeg)), (2, .int (nI i)), (0, .ref (ad 9)), (1, .ref (ad 7))] := hl
        refine lv_aload_n hx hb d_Ch_leastUnset_108 rfl (lv_at hl 5 rfl) ?_
        refine lv_lload_n hx hb d_Ch_leastUnset_109 rfl (lv_at hl 3 rfl) ?_
        refine lv_iload_n hx hb d_Ch_leastUnset_110 rfl (lv_at hl 4 rfl) ?_
        refine lv_iconst (v := 1) hx hb d_Ch_leastUnset_111 (by decide) ?_
        refine lv_iadd hx hb d_Ch_leastUnset_112 ?_
        refine lv_iload hx hb d_Ch_leastUnset_113 (lv_at hl 0 rfl) ?_
        refine va_callv (va_runV (As := [.long (g.2 (nI i).toNatClampNeg), .int ((nI i) + (1 : Int32)), .int ((s2 (nI i).toNatClampNeg) ||| (0 : Int32))]) (rest := []) ⟨hx, hb, hml, hown, hts⟩ (c_Ch_passOn l D dA ad A hAd w P g s2 M (g.2 (nI i).toNatClampNeg) ((nI i) + (1 : Int32)) ((s2 (nI i).toNatClampNeg) ||| (0 : Int32)) (okp_of hg hok hend hil)) (cwV 3 hts (g_V wd_415 wd_417 wd_2 wd_33 wd_418) rfl rfl rfl (by decide +kernel) ⟨Nat.le_of_ble_eq_true rfl, Nat.le_of_ble_eq_true rfl⟩) ⟨CG_fb, (va_recv (ci := 2) (q := (R_Ch, F_Ch, 1)) (q0 := 9) hK hP rfl rfl), fun U hU hW => ⟨rfl, CG_at hP hK hN hU hW⟩⟩ rfl rfl hl.1 rfl (lv_room (Nat.le_of_ble_eq_true rfl)) d_Ch_leastUnset_115 ⟨Nat.le_of_ble_eq_true rfl, Nat.le_of_ble_eq_true rfl⟩) hS (fun _ _ h => h) (fun _ h => h) (fun u3 t H locs ht hvm hu hB hz hk hS => ?_)
        subst hu
        obtain ⟨hP, -⟩ := hB
        rw [ht] at hP
        have hP : va_P D cls (wC ad dA w P g (m_Ch_passOn s2 (g.2 (nI i).toNatClampNeg) ((nI i) + (1 : Int32)) ((s2 (nI i).toNatClampNeg) ||| (0 : Int32))) M) H := hP
        refine lv_iinc (v := (nI i) + 1) hx hb d_Ch_leastUnset_118 hl (k := 4) rfl rfl (by decide) rfl (fun ls hl => ?_)
        have hl : lv_has ls 8 [(2, .int ((nI i) + 1)), (7, .int ((s2 (nI i).toNatClampNeg) ||| (0 : Int32))), (6, .int ((1 : Int32) <<< (((m_In_operandOf (g.2 (nI i).toNatClampNeg)).toInt32) &&& 31))), (5, .int (m_In_codeOf (g.2 (nI i).toNatClampNeg))), (3, .long (g.2 (nI i).toNatClampNeg)), (0, .ref (ad 9)), (1, .ref (ad 7))] := hl
        refine lv_goto (tgt := 33) hx hb d_Ch_leastUnset_121 (by decide) ?_
        exact ih2 (i + 1) (m_Ch_passOn s2 (g.2 (nI i).toNatClampNeg) ((nI i) + (1 : Int32)) ((s2 (nI i).toNatClampNeg) ||| (0 : Int32))) _ _ _ ⟨(by omega), (by rw [hm2, m_Ch_leastUnset_l2, if_neg h2, if_neg h3, if_neg h5, if_pos h6]), (by have h9 := lv_sub hl [0, 5, 6] rfl; rw [nI_1] at h9; exact h9), hP, hS, (by omega)⟩
      refine lv_iload hx hb d_Ch_leastUnset_99 (lv_at hl 0 rfl) ?_
      refine lv_goto (tgt := 105) hx hb d_Ch_leastUnset_101 (by decide) ?_
      refine lv_ior hx hb d_Ch_leastUnset_105 ?_
      refine lv_istore hx hb d_Ch_leastUnset_106 hl (by decide) rfl (fun ls hl => ?_)
      have hl : lv_has ls 8 [(7, .int ((s2 (nI i).toNatClampNeg) ||| ((1 : Int32) <<< (((m_In_operandOf (g.2 (nI i).toNatClampNeg)).toInt32) &&& 31)))), (6, .int ((1 : Int32) <<< (((m_In_operandOf (g.2 (nI i).toNatClampNeg)).toInt32) &&& 31))), (5, .int (m_In_codeOf (g.2 (nI i).toNatClampNeg))), (3, .long (g.2 (nI i).toNatClampNeg)), (2, .int (nI i)), (0, .ref (ad 9)), (1, .ref (ad 7))] := hl
      refine lv_aload_n hx hb d_Ch_leastUnset_108 rfl (lv_at hl 5 rfl) ?_
      refine lv_lload_n hx hb d_Ch_leastUnset_109 rfl (lv_at hl 3 rfl) ?_
      refine lv_iload_n hx hb d_Ch_leastUnset_110 rfl (lv_at hl 4 rfl) ?_
      refine lv_iconst (v := 1) hx hb d_Ch_leastUnset_111 (by decide) ?_
      refine lv_iadd hx hb d_Ch_leastUnset_112 ?_
      refine lv_iload hx hb d_Ch_leastUnset_113 (lv_at hl 0 rfl) ?_
      refine va_callv (va_runV (As := [.long (g.2 (nI i).toNatClampNeg), .int ((nI i) + (1 : Int32)), .int ((s2 (nI i).toNatClampNeg) ||| ((1 : Int32) <<< (((m_In_operandOf (g.2 (nI i).toNatClampNeg)).toInt32) &&& 31)))]) (rest := []) ⟨hx, hb, hml, hown, hts⟩ (c_Ch_passOn l D dA ad A hAd w P g s2 M (g.2 (nI i).toNatClampNeg) ((nI i) + (1 : Int32)) ((s2 (nI i).toNatClampNeg) ||| ((1 : Int32) <<< (((m_In_operandOf (g.2 (nI i).toNatClampNeg)).toInt32) &&& 31))) (okp_of hg hok hend hil)) (cwV 3 hts (g_V wd_415 wd_417 wd_2 wd_33 wd_418) rfl rfl rfl (by decide +kernel) ⟨Nat.le_of_ble_eq_true rfl, Nat.le_of_ble_eq_true rfl⟩) ⟨CG_fb, (va_recv (ci := 2) (q := (R_Ch, F_Ch, 1)) (q0 := 9) hK hP rfl rfl), fun U hU hW => ⟨rfl, CG_at hP hK hN hU hW⟩⟩ rfl rfl hl.1 rfl (lv_room (Nat.le_of_ble_eq_true rfl)) d_Ch_leastUnset_115 ⟨Nat.le_of_ble_eq_true rfl, Nat.le_of_ble_eq_true rfl⟩) hS (fun _ _ h => h) (fun _ h => h) (fun u4 t H locs ht hvm hu hB hz hk hS => ?_)
      subst hu
      obtain ⟨hP, -⟩ := hB
      rw [ht] at hP
      have hP : va_P D cls (wC ad dA w P g (m_Ch_passOn s2 (g.2 (nI i).toNatClampNeg) ((nI i) + (1 : Int32)) ((s2 (nI i).toNatClampNeg) ||| ((1 : Int32) <<< (((m_In_operandOf (g.2 (nI i).toNatClampNeg)).toInt32) &&& 31)))) M) H := hP
      refine lv_iinc (v := (nI i) + 1) hx hb d_Ch_leastUnset_118 hl (k := 4) rfl rfl (by decide) rfl (fun ls hl => ?_)
      have hl : lv_has ls 8 [(2, .int ((nI i) + 1)), (7, .int ((s2 (nI i).toNatClampNeg) ||| ((1 : Int32) <<< (((m_In_operandOf (g.2 (nI i).toNatClampNeg)).toInt32) &&& 31)))), (6, .int ((1 : Int32) <<< (((m_In_operandOf (g.2 (nI i).toNatClampNeg)).toInt32) &&& 31))), (5, .int (m_In_codeOf (g.2 (nI i).toNatClampNeg))), (3, .long (g.2 (nI i).toNatClampNeg)), (0, .ref (ad 9)), (1, .ref (ad 7))] := hl
      refine lv_goto (tgt := 33) hx hb d_Ch_leastUnset_121 (by decide) ?_
      exact ih2 (i + 1) (m_Ch_passOn s2 (g.2 (nI i).toNatClampNeg) ((nI i) + (1 : Int32)) ((s2 (nI i).toNatClampNeg) ||| ((1 : Int32) <<< (((m_In_operandOf (g.2 (nI i).toNatClampNeg)).toInt32) &&& 31)))) _ _ _ ⟨(by omega), (by rw [hm2, m_Ch_leastUnset_l2, if_neg h2, if_neg h3, if_neg h5, if_neg h6]), (by have h9 := lv_sub hl [0, 5, 6] rfl; rw [nI_1] at h9; exact h9), hP, hS, (by omega)⟩
    refine lv_iload_n hx hb d_Ch_leastUnset_83 rfl (lv_at hl 3 rfl) ?_
    exact W.iret hx hb hr (fun t ht hW => ⟨⟨_, _, rfl, ⟨(by rw [hm2, m_Ch_leastUnset_l2, if_neg h2, if_neg h3, if_pos h5]), (by rw [hm2, m_Ch_leastUnset_l2, if_neg h2, if_neg h3, if_pos h5])⟩, CG_at hP hK hN ht hW⟩, hS.F ht⟩) hS.2.2 d_Ch_leastUnset_84
  have hjl : j < 64 := Nat.lt_of_lt_of_le (nj_lt hg (by decide) hj h1) hg
  refine lv_aload_n hx hb d_Ch_leastUnset_10 rfl (lv_at hl 1 rfl) ?_
  refine va_get (D := D) (ci := 2) (v := .ref (ad 10)) (C := R_Ch) (T := F_Ch) (N := 1) hx hb hts in_Ch hown hK hP 9 rfl rfl 0 (by decide) (hts _ wd_171) (fun _ h9 => h9) rfl d_Ch_leastUnset_11 ?_
  refine lv_iload_n hx hb d_Ch_leastUnset_14 rfl (lv_at hl 0 rfl) ?_
  refine lv_ldc (v := 65535) hx hb hown (hts _ wd_414) d_Ch_leastUnset_15 ?_
  refine va_iast (n := 64) (f := s1) hx hb hK hP (wC_D hAd) hS 10 0 rfl rfl (vp_in_nI (by omega) (by decide)) d_Ch_leastUnset_17 (fun H locs hP _ hS => ?_)
  have hP : va_P D cls (wC ad dA w P g (upd s1 (nI j).toNatClampNeg (65535 : Int32)) M) H := hP
  refine lv_iinc (v := (nI j) + 1) hx hb d_Ch_leastUnset_18 hl (k := 0) rfl rfl (by decide) rfl (fun ls hl => ?_)
  have hl : lv_has ls 8 [(2, .int ((nI j) + 1)), (0, .ref (ad 9)), (1, .ref (ad 7))] := hl
  refine lv_goto (tgt := 2) hx hb d_Ch_leastUnset_21 (by decide) ?_
  exact ih1 (j + 1) (upd s1 (nI j).toNatClampNeg (65535 : Int32)) _ _ _ ⟨(by omega), (by rw [hm1, m_Ch_leastUnset_l1, if_neg h1]), (by have h9 := lv_sub hl [0, 1, 2] rfl; rw [nI_1] at h9; exact h9), hP, hS, (by omega)⟩
def m_Ch_verdictOn_l1 (g : GT) (ss : Nat → Int32) : Nat → Nat → Int32 × (Nat → Int32)
  | 0, _ => (0, ss)
  | n1 + 1, j => if g.1 ≤ (nI j) then if (m_In_endsRun (m_In_codeOf (g.2 (g.1 - (1 : Int32)).toNatClampNeg))) = (0 : Int32) then ((500 : Int32) + (g.1 - (1 : Int32)), ss) else if ((m_Ch_leastUnset g ss).1) = (-1 : Int32) then ((0 : Int32), ((m_Ch_leastUnset g ss).2)) else ((600 : Int32) + ((m_Ch_leastUnset g ss).1), ((m_Ch_leastUnset g ss).2)) else if (m_Ch_ownFault g (nI j)) = (0 : Int32) then m_Ch_verdictOn_l1 g ss n1 (j + 1) else (((100 : Int32) * (m_Ch_ownFault g (nI j))) + (nI j), ss)
def m_Ch_verdictOn (g : GT) (ss : Nat → Int32) : Int32 × (Nat → Int32) := if g.1 = (0 : Int32) then ((100 : Int32), ss) else m_Ch_verdictOn_l1 g ss (65) 0
set_option maxHeartbeats 4000000 in
set_option maxRecDepth 100000 in
theorem c_Ch_verdictOn (l : Launch) (D : va_G) (dA : Nat → ClassId) (ad : Nat → Nat) (A : Nat → Prop) (hAd : AdOK 49 ad A) (w : Nat → Int32) (P : PT) (g : GT) (ss : Nat → Int32) (M : MT) (hg : iN g.1 ≤ 64) : Met l y_Ch_verdictOn (mW y_Ch_verdictOn b_Ch_verdictOn 4 (some .int)) { frames := 3, cells := 0, slots := 0, locals := 73 } (va_Pc [.ref (ad 9), .ref (ad 7)] (fun U => CG D dA ad w P g ss M U)) (va_Qi (fun (r : Int32) (u : (Nat → Int32)) => r = (m_Ch_verdictOn g ss).1 ∧ u = (m_Ch_verdictOn g ss).2) (fun u t => CG D dA ad w P g u M t) A) 0 0 A := by
  refine Met.ofW (cc := b_Ch_verdictOn) (maxL := 4) (ret := (some .int)) (by decide) rfl ?_
  intro p e s m args below meth c s₁ B hml hv
  obtain ⟨rfl, hP, hK, hN⟩ := hv
  have hx := B.exec
  have hb := B.bytes
  have hr := B.returns
  have hlocks := B.notSynchronized
  have hts := fun (w : Cond) (h : w ∈ lw_g) => atoms_spec (ws := mW y_Ch_verdictOn b_Ch_verdictOn 4 (some .int)) B.pre w (List.mem_cons_of_mem _ h)
  have hown : s.vm.findClass R_Ch = some m.cls := findClass_of_methodNamed B.named
  have hS : va_S A s.heap s.heap [] := va_S.rf
  have hl := lv_entry ([.ref (ad 9), .ref (ad 7)]) (n := 4) (Nat.le_of_ble_eq_true rfl)
  rw [lg_entry_eq]
  generalize (lg_sl ([.ref (ad 9), .ref (ad 7)]) ++ List.replicate (4 - (lg_sl ([.ref (ad 9), .ref (ad 7)])).length) Slot.unset).toArray = ls at hl ⊢
  have hl : lv_has ls 4 [(0, .ref (ad 9)), (1, .ref (ad 7))] := hl
  refine lv_aload_n hx hb d_Ch_verdictOn_0 rfl (lv_at hl 1 rfl) ?_
  refine va_get (D := D) (ci := 6) (v := .int g.1) (C := R_Pr) (T := F_Pr) (N := 2) hx hb hts in_Pr hown hK hP 7 rfl rfl 1 (by decide) (hts _ wd_156) (fun _ h9 => h9) rfl d_Ch_verdictOn_1 ?_
  refine lv_if_ne (tgt := 10) hx hb d_Ch_verdictOn_4 (by decide) (fun h1 => ?_) (fun h1 => ?_)
  · refine lv_iconst (v := 0) hx hb d_Ch_verdictOn_10 (by decide) ?_
    refine lv_istore_n hx hb d_Ch_verdictOn_11 rfl hl (by decide) rfl (fun ls hl => ?_)
    have hl : lv_has ls 4 [(2, .int (0 : Int32)), (0, .ref (ad 9)), (1, .ref (ad 7))] := hl
    refine W_loop1 (X := fun (n1 : Nat) (j : Nat) (H : Heap) (locs : List Loc) (ls : Array Slot) => 64 - j < n1 ∧ m_Ch_verdictOn g ss = m_Ch_verdictOn_l1 g ss n1 j ∧ lv_has ls 4 [(2, .int (nI j)), (0, .ref (ad 9)), (1, .ref (ad 7))] ∧ va_P D cls (wC ad dA w P g ss M) H ∧ va_S A s.heap H locs ∧ j ≤ 64 ∧ (∀ i, i < j → m_Ch_ownFault g (nI i) = 0)) (65) 0 ⟨(by decide), (by rw [m_Ch_verdictOn, if_neg h1]), (lv_sub hl [0, 1, 2] rfl), hP, hS, (by decide), (fun i h => absurd h (Nat.not_lt_zero i))⟩ (fun _ _ _ _ h => absurd h.1 (Nat.not_lt_zero _)) (fun n1 ih1 j H locs ls h => ?_)
    obtain ⟨hn1, hm1, hl, hP, hS, hj, hok⟩ := h
    refine lv_iload_n hx hb d_Ch_verdictOn_12 rfl (lv_at hl 0 rfl) ?_
    refine lv_aload_n hx hb d_Ch_verdictOn_13 rfl (lv_at hl 2 rfl) ?_
    refine va_get (D := D) (ci := 6) (v := .int g.1) (C := R_Pr) (T := F_Pr) (N := 2) hx hb hts in_Pr hown hK hP 7 rfl rfl 1 (by decide) (hts _ wd_156) (fun _ h9 => h9) rfl d_Ch_verdictOn_14 ?_
    refine lv_icmp_ge (tgt := 43) hx hb d_Ch_verdictOn_17 (by decide) (fun h2 => ?_) (fun h2 => ?_)
    · refine lv_aload_n hx hb d_Ch_verdictOn_43 rfl (lv_at hl 2 rfl) ?_
      refine va_get (D := D) (ci := 6) (v := .int g.1) (C := R_Pr) (T := F_Pr) (N := 2) hx hb hts in_Pr hown hK hP 7 rfl rfl 1 (by decide) (hts _ wd_156) (fun _ h9 => h9) rfl d_Ch_verdictOn_44 ?_
      refine lv_iconst (v := 1) hx hb d_Ch_verdictOn_47 (by decide) ?_
      refine lv_isub hx hb d_Ch_verdictOn_48 ?_
      refine lv_istore_n hx hb d_Ch_verdictOn_49 rfl hl (by decide) rfl (fun ls hl => ?_)
      have hl : lv_has ls 4 [(2, .int (g.1 - (1 : Int32))), (0, .ref (ad 9)), (1, .ref (ad 7))] := hl
      refine lv_aload_n hx hb d_Ch_verdictOn_50 rfl (lv_at hl 2 rfl) ?_
      refine va_get (D := D) (ci := 6) (v := .ref (ad 8)) (C := R_Pr) (T := F_Pr) (N := 2) hx hb hts in_Pr hown hK hP 7 rfl rfl 0 (by decide) (hts _ wd_153) (fun _ h9 => h9) rfl d_Ch_verdictOn_51 ?_
      refine lv_iload_n hx hb d_Ch_verdictOn_54 rfl (lv_at hl 0 rfl) ?_
      refine va_lald (n := 64) (f := g.2) hx hb hK hP 8 1 rfl rfl (ix_lastI hg (by assumption)) d_Ch_verdictOn_55 ?_
      refine vp_callSi (va_Run.run (va_runS (As := [.long (g.2 (g.1 - (1 : Int32)).toNatClampNeg)]) (rest := []) ⟨hx, hb, hml, hown, hts⟩ (c_In_codeOf l (g.2 (g.1 - (1 : Int32)).toNatClampNeg)) (va_cwS 1 hts (g_S wd_363 wd_364 wd_36 wd_365) rfl rfl rfl (by decide +kernel) ⟨Nat.le_of_ble_eq_true rfl, Nat.le_of_ble_eq_true rfl⟩) ⟨fun _ _ _ _ q => q, fun _ _ _ => ⟨rfl, trivial⟩⟩ rfl rfl hl.1 rfl (lv_room (Nat.le_of_ble_eq_true rfl)) d_Ch_verdictOn_56 ⟨Nat.le_of_ble_eq_true rfl, Nat.le_of_ble_eq_true rfl⟩)) (fun r1 e1 => ?_)
      subst e1
      refine vp_callSi (va_Run.run (va_runS (As := [.int (m_In_codeOf (g.2 (g.1 - (1 : Int32)).toNatClampNeg))]) (rest := []) ⟨hx, hb, hml, hown, hts⟩ (c_In_endsRun l (m_In_codeOf (g.2 (g.1 - (1 : Int32)).toNatClampNeg))) (va_cwS 1 hts (g_S wd_409 wd_377 wd_36 wd_378) rfl rfl rfl (by decide +kernel) ⟨Nat.le_of_ble_eq_true rfl, Nat.le_of_ble_eq_true rfl⟩) ⟨fun _ _ _ _ q => q, fun _ _ _ => ⟨rfl, trivial⟩⟩ rfl rfl hl.1 rfl (lv_room (Nat.le_of_ble_eq_true rfl)) d_Ch_verdictOn_59 ⟨Nat.le_of_ble_eq_true rfl, Nat.le_of_ble_eq_true rfl⟩)) (fun r2 e2 => ?_)
      subst e2
      refine lv_if_ne (tgt := 71) hx hb d_Ch_verdictOn_62 (by decide) (fun h3 => ?_) (fun h3 => ?_)
      · refine lv_aload_n hx hb d_Ch_verdictOn_71 rfl (lv_at hl 1 rfl) ?_
        refine lv_aload_n hx hb d_Ch_verdictOn_72 rfl (lv_at hl 2 rfl) ?_
        refine va_calli (va_runV (As := [.ref (ad 7)]) (rest := []) ⟨hx, hb, hml, hown, hts⟩ (c_Ch_leastUnset l D dA ad A hAd w P g ss M hg (n_pos (by assumption)) (ok_all hg hj hok (by assumption)) (end_of hg (by assumption) (by assumption))) (cwV 1 hts (g_V wd_410 wd_412 wd_1 wd_33 wd_413) rfl rfl rfl (by decide +kernel) ⟨Nat.le_of_ble_eq_true rfl, Nat.le_of_ble_eq_true rfl⟩) ⟨CG_fb, (va_recv (ci := 2) (q := (R_Ch, F_Ch, 1)) (q0 := 9) hK hP rfl rfl), fun U hU hW => ⟨rfl, CG_at hP hK hN hU hW⟩⟩ rfl rfl hl.1 rfl (lv_room (Nat.le_of_ble_eq_true rfl)) d_Ch_verdictOn_73 ⟨Nat.le_of_ble_eq_true rfl, Nat.le_of_ble_eq_true rfl⟩) hS (fun _ _ h => h) (fun _ h => h) (fun r3 u1 t H locs ht hvm hu hB hz hk hS => ?_)
        obtain ⟨rfl, rfl⟩ := hu
        obtain ⟨hP, -⟩ := hB
        rw [ht] at hP
        have hP : va_P D cls (wC ad dA w P g ((m_Ch_leastUnset g ss).2) M) H := hP
        refine lv_istore_n hx hb d_Ch_verdictOn_76 rfl hl (by decide) rfl (fun ls hl => ?_)
        have hl : lv_has ls 4 [(3, .int ((m_Ch_leastUnset g ss).1)), (2, .int (g.1 - (1 : Int32))), (0, .ref (ad 9)), (1, .ref (ad 7))] := hl
        refine lv_iload_n hx hb d_Ch_verdictOn_77 rfl (lv_at hl 0 rfl) ?_
        refine lv_iconst (v := -1) hx hb d_Ch_verdictOn_78 (by decide) ?_
        refine lv_icmp_ne (tgt := 86) hx hb d_Ch_verdictOn_79 (by decide) (fun h4 => ?_) (fun h4 => ?_)
        · refine lv_sipush (v := 600) hx hb d_Ch_verdictOn_86 (by decide) ?_
          refine lv_iload_n hx hb d_Ch_verdictOn_89 rfl (lv_at hl 0 rfl) ?_
          refine lv_iadd hx hb d_Ch_verdictOn_90 ?_
          exact W.iret hx hb hr (fun t ht hW => ⟨⟨_, _, rfl, ⟨(by rw [hm1, m_Ch_verdictOn_l1, if_pos h2, if_neg h3, if_neg h4]), (by rw [hm1, m_Ch_verdictOn_l1, if_pos h2, if_neg h3, if_neg h4])⟩, CG_at hP hK hN ht hW⟩, hS.F ht⟩) hS.2.2 d_Ch_verdictOn_91
        refine lv_iconst (v := 0) hx hb d_Ch_verdictOn_82 (by decide) ?_
        refine lv_goto (tgt := 91) hx hb d_Ch_verdictOn_83 (by decide) ?_
        exact W.iret hx hb hr (fun t ht hW => ⟨⟨_, _, rfl, ⟨(by rw [hm1, m_Ch_verdictOn_l1, if_pos h2, if_neg h3, if_pos h4]), (by rw [hm1, m_Ch_verdictOn_l1, if_pos h2, if_neg h3, if_pos h4])⟩, CG_at hP hK hN ht hW⟩, hS.F ht⟩) hS.2.2 d_Ch_verdictOn_91
      refine lv_sipush (v := 500) hx hb d_Ch_verdictOn_65 (by decide) ?_
      refine lv_iload_n hx hb d_Ch_verdictOn_68 rfl (lv_at hl 0 rfl) ?_
      refine lv_iadd hx hb d_Ch_verdictOn_69 ?_
      exact W.iret hx hb hr (fun t ht hW => ⟨⟨_, _, rfl, ⟨(by rw [hm1, m_Ch_verdictOn_l1, if_pos h2, if_pos h3]), (by rw [hm1, m_Ch_verdictOn_l1, if_pos h2, if_pos h3])⟩, CG_at hP hK hN ht hW⟩, hS.F ht⟩) hS.2.2 d_Ch_verdictOn_70
    have hjl : j < iN g.1 := nj_lt hg (by decide) hj h2
    refine lv_aload_n hx hb d_Ch_verdictOn_20 rfl (lv_at hl 2 rfl) ?_
    refine lv_iload_n hx hb d_Ch_verdictOn_21 rfl (lv_at hl 0 rfl) ?_
    refine vp_callSi (va_Run.run (va_runS (As := [.ref (ad 7), .int (nI j)]) (rest := []) ⟨hx, hb, hml, hown, hts⟩ (c_Ch_ownFault l D dA ad w P g ss M (nI j) (vp_in_nI (by omega) (by decide))) (va_cwS 2 hts (g_S wd_360 wd_361 wd_33 wd_362) rfl rfl rfl (by decide +kernel) ⟨Nat.le_of_ble_eq_true rfl, Nat.le_of_ble_eq_true rfl⟩) ⟨CG_fb, fun U hU hW => ⟨rfl, CG_at hP hK hN hU hW⟩⟩ rfl rfl hl.1 rfl (lv_room (Nat.le_of_ble_eq_true rfl)) d_Ch_verdictOn_22 ⟨Nat.le_of_ble_eq_true rfl, Nat.le_of_ble_eq_true rfl⟩)) (fun r4 e3 => ?_)
    subst e3
    refine lv_istore_n hx hb d_Ch_verdictOn_25 rfl hl (by decide) rfl (fun ls hl => ?_)
    have hl : lv_has ls 4 [(3, .int (m_Ch_ownFault g (nI j))), (2, .int (nI j)), (0, .ref (ad 9)), (1, .ref (ad 7))] := hl
    refine lv_iload_n hx hb d_Ch_verdictOn_26 rfl (lv_at hl 0 rfl) ?_
    refine lv_if_eq (tgt := 37) hx hb d_Ch_verdictOn_27 (by decide) (fun h5 => ?_) (fun h5 => ?_)
    · refine lv_iinc (v := (nI j) + 1) hx hb d_Ch_verdictOn_37 hl (k := 1) rfl rfl (by decide) rfl (fun ls hl => ?_)
      have hl : lv_has ls 4 [(2, .int ((nI j) + 1)), (3, .int (m_Ch_ownFault g (nI j))), (0, .ref (ad 9)), (1, .ref (ad 7))] := hl
      refine lv_goto (tgt := 12) hx hb d_Ch_verdictOn_40 (by decide) ?_
      exact ih1 (j + 1) _ _ _ ⟨(by omega), (by rw [hm1, m_Ch_verdictOn_l1, if_neg h2, if_pos h5]), (by have h9 := lv_sub hl [0, 2, 3] rfl; rw [nI_1] at h9; exact h9), hP, hS, (by omega), (ok_step hok h5)⟩
    refine lv_bipush (v := 100) hx hb d_Ch_verdictOn_30 (by decide) ?_
    refine lv_iload_n hx hb d_Ch_verdictOn_32 rfl (lv_at hl 0 rfl) ?_
    refine lv_imul hx hb d_Ch_verdictOn_33 ?_
    refine lv_iload_n hx hb d_Ch_verdictOn_34 rfl (lv_at hl 1 rfl) ?_
    refine lv_iadd hx hb d_Ch_verdictOn_35 ?_
    exact W.iret hx hb hr (fun t ht hW => ⟨⟨_, _, rfl, ⟨(by rw [hm1, m_Ch_verdictOn_l1, if_neg h2, if_neg h5]), (by rw [hm1, m_Ch_verdictOn_l1, if_neg h2, if_neg h5])⟩, CG_at hP hK hN ht hW⟩, hS.F ht⟩) hS.2.2 d_Ch_verdictOn_36
  refine lv_bipush (v := 100) hx hb d_Ch_verdictOn_7 (by decide) ?_
  exact W.iret hx hb hr (fun t ht hW => ⟨⟨_, _, rfl, ⟨(by rw [m_Ch_verdictOn, if_pos h1]), (by rw [m_Ch_verdictOn, if_pos h1])⟩, CG_at hP hK hN ht hW⟩, hS.F ht⟩) hS.2.2 d_Ch_verdictOn_9
def m_F_check (g : GT) (ss : Nat → Int32) : Int32 × (Nat → Int32) := ((m_Ch_verdictOn g ss).1, ((m_Ch_verdictOn g ss).2))
set_option maxHeartbeats 4000000 in
set_option maxRecDepth 100000 in
theorem c_F_check (l : Launch) (D : va_G) (dA : Nat → ClassId) (ad : Nat → Nat) (A : Nat → Prop) (hAd : AdOK 49 ad A) (w : Nat → Int32) (P : PT) (g : GT) (ss : Nat → Int32) (M : MT) (hg : iN g.1 ≤ 64) : Met l y_F_check (mW y_F_check b_F_check 1 (some .int)) { frames := 4, cells := 0, slots := 0, locals := 96 } (va_Pc [.ref (ad 0)] (fun U => CG D dA ad w P g ss M U)) (va_Qi (fun (r : Int32) (u : (Nat → Int32)) => r = (m_F_check g ss).1 ∧ u = (m_F_check g ss).2) (fun u t => CG D dA ad w P g u M t) A) 0 0 A := by
  refine Met.ofW (cc := b_F_check) (maxL := 1) (ret := (some .int)) (by decide) rfl ?_
  intro p e s m args below meth c s₁ B hml hv
  obtain ⟨rfl, hP, hK, hN⟩ := hv
  have hx := B.exec
  have hb := B.bytes
  have hr := B.returns
  have hlocks := B.notSynchronized
  have hts := fun (w : Cond) (h : w ∈ lw_g) => atoms_spec (ws := mW y_F_check b_F_check 1 (some .int)) B.pre w (List.mem_cons_of_mem _ h)
  have hown : s.vm.findClass R_F = some m.cls := findClass_of_methodNamed B.named
  have hS : va_S A s.heap s.heap [] := va_S.rf
  have hl := lv_entry ([.ref (ad 0)]) (n := 1) (Nat.le_of_ble_eq_true rfl)
  rw [lg_entry_eq]
  generalize (lg_sl ([.ref (ad 0)]) ++ List.replicate (1 - (lg_sl ([.ref (ad 0)])).length) Slot.unset).toArray = ls at hl ⊢
  have hl : lv_has ls 1 [(0, .ref (ad 0))] := hl
  refine lv_aload_n hx hb d_F_check_0 rfl (lv_at hl 0 rfl) ?_
  refine va_get (D := D) (ci := 8) (v := .ref (ad 9)) (C := R_F) (T := F_F) (N := 5) hx hb hts in_F hown hK hP 0 rfl rfl 3 (by decide) (hts _ wd_211) (fun _ h9 => h9) rfl d_F_check_1 ?_
  refine lv_aload_n hx hb d_F_check_4 rfl (lv_at hl 0 rfl) ?_
  refine va_get (D := D) (ci := 8) (v := .ref (ad 7)) (C := R_F) (T := F_F) (N := 5) hx hb hts in_F hown hK hP 0 rfl rfl 2 (by decide) (hts _ wd_210) (fun _ h9 => h9) rfl d_F_check_5 ?_
  refine va_calli (va_runV (As := [.ref (ad 7)]) (rest := []) ⟨hx, hb, hml, hown, hts⟩ (c_Ch_verdictOn l D dA ad A hAd w P g ss M hg) (cwV 1 hts (g_V wd_356 wd_357 wd_358 wd_33 wd_359) rfl rfl rfl (by decide +kernel) ⟨Nat.le_of_ble_eq_true rfl, Nat.le_of_ble_eq_true rfl⟩) ⟨CG_fb, (va_recv (ci := 2) (q := (R_Ch, F_Ch, 1)) (q0 := 9) hK hP rfl rfl), fun U hU hW => ⟨rfl, CG_at hP hK hN hU hW⟩⟩ rfl rfl hl.1 rfl (lv_room (Nat.le_of_ble_eq_true rfl)) d_F_check_8 ⟨Nat.le_of_ble_eq_true rfl, Nat.le_of_ble_eq_true rfl⟩) hS (fun _ _ h => h) (fun _ h => h) (fun r1 u1 t H locs ht hvm hu hB hz hk hS => ?_)
  obtain ⟨rfl, rfl⟩ := hu
  obtain ⟨hP, -⟩ := hB
  rw [ht] at hP
  have hP : va_P D cls (wC ad dA w P g ((m_Ch_verdictOn g ss).2) M) H := hP
  exact W.iret hx hb hr (fun t ht hW => ⟨⟨_, _, rfl, ⟨(by rw [m_F_check]), (by rw [m_F_check])⟩, CG_at hP hK hN ht hW⟩, hS.F ht⟩) hS.2.2 d_F_check_11
