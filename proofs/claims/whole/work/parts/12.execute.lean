/-! A verdict without fault -/
theorem own_rng (g : GT) (i : Int32) : m_Ch_ownFault g i = 0 ∨ m_Ch_ownFault g i = 2 ∨ m_Ch_ownFault g i = 3 ∨ m_Ch_ownFault g i = 4 := by
  unfold m_Ch_ownFault
  by_cases h1 : m_In_isKnown (m_In_codeOf (g.2 i.toNatClampNeg)) = (0 : Int32)
  · rw [if_pos h1]
    exact Or.inr (Or.inl rfl)
  · rw [if_neg h1]
    by_cases h2 : m_Ch_isOperandFit (m_In_codeOf (g.2 i.toNatClampNeg)) (m_In_operandOf (g.2 i.toNatClampNeg)) = (0 : Int32)
    · rw [if_pos h2]
      exact Or.inr (Or.inr (Or.inl rfl))
    · rw [if_neg h2]
      by_cases h3 : lg_cmp (m_Ch_longestSkip (m_In_codeOf (g.2 i.toNatClampNeg)) (g.2 i.toNatClampNeg)) (((g.1 - (1 : Int32)) - i).toInt64) ≤ (0 : Int32)
      · rw [if_pos h3]
        exact Or.inl rfl
      · rw [if_neg h3]
        exact Or.inr (Or.inr (Or.inr rfl))
theorem own_ne {g : GT} {j : Nat} (hj : j ≤ 64) (h : ¬ m_Ch_ownFault g (nI j) = (0 : Int32)) : ¬ ((100 : Int32) * m_Ch_ownFault g (nI j)) + nI j = (0 : Int32) := by
  intro q
  have e := congrArg iN q
  rw [iN_add, iN_mul, iN_nIs (by omega), show iN (100 : Int32) = 100 from rfl, show iN (0 : Int32) = 0 from rfl] at e
  rcases own_rng g (nI j) with h1 | h1 | h1 | h1
  · exact h h1
  · rw [h1, show iN (2 : Int32) = 2 from rfl] at e; omega
  · rw [h1, show iN (3 : Int32) = 3 from rfl] at e; omega
  · rw [h1, show iN (4 : Int32) = 4 from rfl] at e; omega
theorem vdl {g : GT} {ss : Nat → Int32} (hg : iN g.1 ≤ 64) (h0 : ¬ g.1 = (0 : Int32)) : ∀ n j : Nat, 64 - j < n → j ≤ 64 → (m_Ch_verdictOn_l1 g ss n j).1 = (0 : Int32) → (∀ i, j ≤ i → i < iN g.1 → m_Ch_ownFault g (nI i) = 0) ∧ ¬ m_In_endsRun (m_In_codeOf (g.2 (g.1 - (1 : Int32)).toNatClampNeg)) = (0 : Int32) := by
  intro n
  induction n with
  | zero => intro j h; exact absurd h (Nat.not_lt_zero _)
  | succ n ih =>
    intro j h hj
    rw [m_Ch_verdictOn_l1]
    by_cases h1 : g.1 ≤ nI j
    · rw [if_pos h1]
      have e := iN_nIs (n := j) (by omega)
      rw [le_n (by omega) (by omega), e] at h1
      by_cases h2 : m_In_endsRun (m_In_codeOf (g.2 (g.1 - (1 : Int32)).toNatClampNeg)) = (0 : Int32)
      · rw [if_pos h2]
        intro q
        have e2 := congrArg iN q
        dsimp only at e2
        rw [iN_add, iN_pred h0, show iN (500 : Int32) = 500 from rfl, show iN (0 : Int32) = 0 from rfl] at e2
        omega
      · intro _
        exact ⟨fun i hi hl => by omega, h2⟩
    · rw [if_neg h1]
      have hjl : j < iN g.1 := nj_lt hg (by decide) hj h1
      by_cases h2 : m_Ch_ownFault g (nI j) = (0 : Int32)
      · rw [if_pos h2]
        intro q
        obtain ⟨a, b⟩ := ih (j + 1) (by omega) (by omega) q
        refine ⟨fun i hi hl => ?_, b⟩
        by_cases e : i = j
        · rw [e]
          exact h2
        · exact a i (by omega) hl
      · rw [if_neg h2]
        intro q
        exact absurd q (own_ne hj h2)
theorem vd_all {g : GT} {ss : Nat → Int32} (hg : iN g.1 ≤ 64) (h : (m_Ch_verdictOn g ss).1 = (0 : Int32)) : ¬ g.1 = (0 : Int32) ∧ (∀ i, i < iN g.1 → m_Ch_ownFault g (nI i) = 0) ∧ ¬ m_In_endsRun (m_In_codeOf (g.2 (iN g.1 - 1))) = 0 := by
  unfold m_Ch_verdictOn at h
  by_cases h0 : g.1 = (0 : Int32)
  · rw [if_pos h0] at h
    have h : (100 : Int32) = 0 := h
    exact absurd h (by decide)
  · rw [if_neg h0] at h
    obtain ⟨a, b⟩ := vdl hg h0 65 0 (by decide) (by decide) h
    exact ⟨h0, fun i hi => a i (Nat.zero_le _) hi, end_of hg h0 b⟩
theorem vd_ok {g : GT} {ss : Nat → Int32} (hg : iN g.1 ≤ 64) (h : (m_Ch_verdictOn g ss).1 = (0 : Int32)) : ∀ i, i < iN g.1 → m_Ch_ownFault g (nI i) = 0 := (vd_all hg h).2.1
theorem vd_end {g : GT} {ss : Nat → Int32} (hg : iN g.1 ≤ 64) (h : (m_Ch_verdictOn g ss).1 = (0 : Int32)) : ¬ m_In_endsRun (m_In_codeOf (g.2 (iN g.1 - 1))) = 0 := (vd_all hg h).2.2
/-! What an instruction leaves alone -/
theorem cm_done (M : MT) (op v : Int32) : (m_Ma_compute M op v).2.1 = M.2.1 ∧ (m_Ma_compute M op v).2.2.2.2.2.1 = M.2.2.2.2.2.1 := by
  unfold m_Ma_compute m_Ma_divide m_Ma_end
  repeat' split
  all_goals exact ⟨rfl, rfl⟩
theorem cp_done (M : MT) (cd : Int32) : (m_Ma_copy M cd).2.1 = M.2.1 ∧ (m_Ma_copy M cd).2.2.2.2.2.1 = M.2.2.2.2.2.1 := by
  unfold m_Ma_copy
  split <;> exact ⟨rfl, rfl⟩
theorem jp_done (M : MT) (z : Int64) (cd v : Int32) : (m_Ma_jump M z cd v).2.1 = M.2.1 := by
  unfold m_Ma_jump
  repeat' split
  all_goals rfl
theorem jp_next (M : MT) (z : Int64) (cd v : Int32) : (cd = (5 : Int32) → (m_Ma_jump M z cd v).2.2.2.2.2.1 = M.2.2.2.2.2.1 + v) ∧ (¬ cd = (5 : Int32) → (m_Ma_jump M z cd v).2.2.2.2.2.1 = M.2.2.2.2.2.1 + m_In_distanceIfFalse z ∨ (m_Ma_jump M z cd v).2.2.2.2.2.1 = M.2.2.2.2.2.1 + m_In_distanceIfTrue z) := by
  unfold m_Ma_jump
  refine ⟨fun h => by rw [if_pos h], fun h => ?_⟩
  rw [if_neg h]
  split
  · exact Or.inl rfl
  · exact Or.inr rfl
theorem pf_done (w : Nat → Int32) (M : MT) (z : Int64) : (m_Ma_perform w M z).2.1 = M.2.1 := by
  unfold m_Ma_perform
  repeat' split
  all_goals first | rfl | exact (cm_done _ _ _).1 | exact (cp_done _ _).1 | exact jp_done _ _ _ _
theorem pf_next (w : Nat → Int32) (M : MT) (z : Int64) : (m_In_codeOf z &&& (7 : Int32) = (5 : Int32) → m_In_codeOf z &&& (8 : Int32) = (0 : Int32) → (m_Ma_perform w M z).2.2.2.2.2.1 = (m_Ma_jump M z (m_In_codeOf z) (m_In_operandOf z).toInt32).2.2.2.2.2.1) ∧ (m_In_codeOf z &&& (7 : Int32) = (5 : Int32) → ¬ m_In_codeOf z &&& (8 : Int32) = (0 : Int32) → (m_Ma_perform w M z).2.2.2.2.2.1 = (m_Ma_jump M z (m_In_codeOf z) M.2.2.2.2.1).2.2.2.2.2.1) ∧ (¬ m_In_codeOf z &&& (7 : Int32) = (5 : Int32) → (m_Ma_perform w M z).2.2.2.2.2.1 = M.2.2.2.2.2.1) := by
  unfold m_Ma_perform
  generalize m_In_codeOf z = cd
  refine ⟨fun h1 h2 => ?_, fun h1 h2 => ?_, fun h1 => ?_⟩
  · rw [if_pos h2, h1]
    rfl
  · rw [if_neg h2, h1]
    rfl
  · repeat' split
    all_goals first | rfl | exact (cm_done _ _ _).2 | exact (cp_done _ _).2 | exact absurd (by assumption) h1
theorem ex_l {g : GT} {M1 : MT} (hg : iN g.1 ≤ 64) (hJ : iN M1.2.2.2.2.2.1 ≤ 64) (h : ¬ g.1 ≤ M1.2.2.2.2.2.1) : iN M1.2.2.2.2.2.1 < iN g.1 := by
  rw [le_n (by omega) (by omega)] at h
  omega
theorem ex_i {g : GT} {M1 : MT} (hg : iN g.1 ≤ 64) (hJ : iN M1.2.2.2.2.2.1 ≤ 64) (h : ¬ g.1 ≤ M1.2.2.2.2.2.1) : vp_in M1.2.2.2.2.2.1 64 := by
  have := ex_l hg hJ h
  exact in_iN (by decide) (by omega)
theorem in_1 {x : Int32} (h : iN x ≤ 64) : iN (x + (1 : Int32)) = iN x + 1 := by
  rw [iN_add, show iN (1 : Int32) = 1 from rfl]
  omega
theorem ex_n {g : GT} {M1 : MT} {w : Nat → Int32} {z : Int64} {n : Nat} {a : Nat → Int32} {b c d nx f r : Int32} (hg : iN g.1 ≤ 64) (hd : iN M1.2.1 ≤ 64) (h : ¬ g.1 ≤ M1.2.1) (hn : 64 - iN M1.2.1 < n + 1) : 64 - iN (m_Ma_perform w (a, M1.2.1 + (1 : Int32), b, c, d, nx, f, r) z).2.1 < n := by
  rw [le_n (by omega) (by omega)] at h
  rw [pf_done]
  show 64 - iN (M1.2.1 + (1 : Int32)) < n
  rw [in_1 hd]
  omega
theorem ex_d {g : GT} {M1 : MT} {w : Nat → Int32} {z : Int64} {a : Nat → Int32} {b c d nx f r : Int32} (hg : iN g.1 ≤ 64) (hd : iN M1.2.1 ≤ 64) (h : ¬ g.1 ≤ M1.2.1) : iN (m_Ma_perform w (a, M1.2.1 + (1 : Int32), b, c, d, nx, f, r) z).2.1 ≤ 64 := by
  rw [le_n (by omega) (by omega)] at h
  rw [pf_done]
  show iN (M1.2.1 + (1 : Int32)) ≤ 64
  rw [in_1 hd]
  omega
theorem ex_j {g : GT} {M1 : MT} {w : Nat → Int32} {a : Nat → Int32} {b0 b c d f r : Int32} (hg : iN g.1 ≤ 64) (hok : ∀ i, i < iN g.1 → m_Ch_ownFault g (nI i) = 0) (hJ : iN M1.2.2.2.2.2.1 ≤ 64) (h : ¬ g.1 ≤ M1.2.2.2.2.2.1) : iN (m_Ma_perform w (a, b0, b, c, d, M1.2.2.2.2.2.1 + (1 : Int32), f, r) (g.2 M1.2.2.2.2.2.1.toNatClampNeg)).2.2.2.2.2.1 ≤ 64 := by
  have hl := ex_l hg hJ h
  generalize M1.2.2.2.2.2.1 = x at hJ h hl
  have hf := far_of hg hok hl
  have hk := hok (iN x) hl
  rw [nI_iN] at hk
  have hkl := known_in (of_ok hk).1
  have e1 := in_1 hJ
  generalize g.2 x.toNatClampNeg = z at hf hkl
  have hol := opnd_lt z
  have et : iN (m_In_operandOf z).toInt32 = uN (m_In_operandOf z) := by rw [iN_tr]; omega
  obtain ⟨p1, p2, p3⟩ := pf_next w (a, b0, b, c, d, x + (1 : Int32), f, r) z
  by_cases h5 : m_In_codeOf z &&& (7 : Int32) = (5 : Int32)
  · by_cases hc5 : m_In_codeOf z = (5 : Int32)
    · rw [p1 h5 (by rw [hc5]; decide), (jp_next _ _ _ _).1 hc5]
      show iN (x + (1 : Int32) + (m_In_operandOf z).toInt32) ≤ 64
      have := hf.1 hc5
      rw [iN_add, e1, et]
      omega
    · have hcd := (kl_j _ hkl h5).resolve_left hc5
      obtain ⟨f1, f2⟩ := hf.2 hcd hc5
      have key : ∀ v : Int32, iN (m_Ma_jump (a, b0, b, c, d, x + (1 : Int32), f, r) z (m_In_codeOf z) v).2.2.2.2.2.1 ≤ 64 := by
        intro v
        rcases (jp_next (a, b0, b, c, d, x + (1 : Int32), f, r) z (m_In_codeOf z) v).2 hc5 with q | q
        · rw [q]
          show iN (x + (1 : Int32) + m_In_distanceIfFalse z) ≤ 64
          rw [iN_add, e1]
          omega
        · rw [q]
          show iN (x + (1 : Int32) + m_In_distanceIfTrue z) ≤ 64
          rw [iN_add, e1]
          omega
      by_cases h8 : m_In_codeOf z &&& (8 : Int32) = (0 : Int32)
      · rw [p1 h5 h8]
        exact key _
      · rw [p2 h5 h8]
        exact key _
  · rw [p3 h5]
    show iN (x + (1 : Int32)) ≤ 64
    rw [e1]
    omega
theorem bg_n (M : MT) : 64 - iN (m_Ma_begin M).2.1 < 65 := by
  show 64 - iN (0 : Int32) < 65
  decide
theorem bg_d (M : MT) : iN (m_Ma_begin M).2.1 ≤ 64 := by
  show iN (0 : Int32) ≤ 64
  decide
theorem bg_j (M : MT) : iN (m_Ma_begin M).2.2.2.2.2.1 ≤ 64 := by
  show iN (0 : Int32) ≤ 64
  decide
theorem wd_3 : Cond.selects R_Ma y_Ma_begin y_Ma_begin ∈ lw_g := wd_in (i := 3) (by decide +kernel) (by decide +kernel)
theorem wd_4 : Cond.selects R_Ma y_Ma_perform y_Ma_perform ∈ lw_g := wd_in (i := 4) (by decide +kernel) (by decide +kernel)
theorem wd_154 : Cond.fieldLink R_Ma 35 R_Pr "instructions" "[J" ∈ lw_g := wd_in (i := 154) (by decide +kernel) (by decide +kernel)
theorem wd_157 : Cond.fieldLink R_Ma 27 R_Pr "count" "I" ∈ lw_g := wd_in (i := 157) (by decide +kernel) (by decide +kernel)
theorem wd_423 : Cond.methodLink R_F 120 y_Ma_forget ∈ lw_g := wd_in (i := 423) (by decide +kernel) (by decide +kernel)
theorem wd_428 : Cond.methodLink R_F 125 y_Ma_execute ∈ lw_g := wd_in (i := 428) (by decide +kernel) (by decide +kernel)
theorem wd_429 : Cond.instanceMethod y_Ma_execute ∈ lw_g := wd_in (i := 429) (by decide +kernel) (by decide +kernel)
theorem wd_430 : Cond.selects R_Ma y_Ma_execute y_Ma_execute ∈ lw_g := wd_in (i := 430) (by decide +kernel) (by decide +kernel)
theorem wd_431 : Cond.code y_Ma_execute prog_7_method_4_code 5 (Option.some Jvm.ClassFile.FieldType.long) ∈ lw_g := wd_in (i := 431) (by decide +kernel) (by decide +kernel)
theorem wd_432 : Cond.methodLink R_Ma 20 y_Ma_begin ∈ lw_g := wd_in (i := 432) (by decide +kernel) (by decide +kernel)
theorem wd_434 : Cond.instanceMethod y_Ma_begin ∈ lw_g := wd_in (i := 434) (by decide +kernel) (by decide +kernel)
theorem wd_435 : Cond.code y_Ma_begin prog_7_method_5_code 1 (Option.none : Option Jvm.ClassFile.FieldType) ∈ lw_g := wd_in (i := 435) (by decide +kernel) (by decide +kernel)
theorem wd_437 : Cond.methodLink R_Ma 39 y_Ma_perform ∈ lw_g := wd_in (i := 437) (by decide +kernel) (by decide +kernel)
theorem wd_439 : Cond.instanceMethod y_Ma_perform ∈ lw_g := wd_in (i := 439) (by decide +kernel) (by decide +kernel)
theorem wd_440 : Cond.code y_Ma_perform prog_7_method_6_code 7 (Option.none : Option Jvm.ClassFile.FieldType) ∈ lw_g := wd_in (i := 440) (by decide +kernel) (by decide +kernel)
theorem d_Ma_execute_0 : decode b_Ma_execute 0 = .ok (.aload_n 0, 1) := by decide +kernel
theorem d_Ma_execute_1 : decode b_Ma_execute 1 = .ok (.invokevirtual 20, 3) := by decide +kernel
theorem d_Ma_execute_4 : decode b_Ma_execute 4 = .ok (.aload_n 0, 1) := by decide +kernel
theorem d_Ma_execute_5 : decode b_Ma_execute 5 = .ok (.getfield 23, 3) := by decide +kernel
theorem d_Ma_execute_8 : decode b_Ma_execute 8 = .ok (.ifCond .ne 64, 3) := by decide +kernel
theorem d_Ma_execute_11 : decode b_Ma_execute 11 = .ok (.aload_n 0, 1) := by decide +kernel
theorem d_Ma_execute_12 : decode b_Ma_execute 12 = .ok (.getfield 13, 3) := by decide +kernel
theorem d_Ma_execute_15 : decode b_Ma_execute 15 = .ok (.aload_n 1, 1) := by decide +kernel
theorem d_Ma_execute_16 : decode b_Ma_execute 16 = .ok (.getfield 27, 3) := by decide +kernel
theorem d_Ma_execute_19 : decode b_Ma_execute 19 = .ok (.if_icmp .ge 53, 3) := by decide +kernel
theorem d_Ma_execute_22 : decode b_Ma_execute 22 = .ok (.aload_n 0, 1) := by decide +kernel
theorem d_Ma_execute_23 : decode b_Ma_execute 23 = .ok (.getfield 32, 3) := by decide +kernel
theorem d_Ma_execute_26 : decode b_Ma_execute 26 = .ok (.aload_n 1, 1) := by decide +kernel
theorem d_Ma_execute_27 : decode b_Ma_execute 27 = .ok (.getfield 27, 3) := by decide +kernel
theorem d_Ma_execute_30 : decode b_Ma_execute 30 = .ok (.if_icmp .ge 42, 3) := by decide +kernel
theorem d_Ma_execute_33 : decode b_Ma_execute 33 = .ok (.aload_n 1, 1) := by decide +kernel
theorem d_Ma_execute_34 : decode b_Ma_execute 34 = .ok (.getfield 35, 3) := by decide +kernel
theorem d_Ma_execute_37 : decode b_Ma_execute 37 = .ok (.aload_n 0, 1) := by decide +kernel
theorem d_Ma_execute_38 : decode b_Ma_execute 38 = .ok (.getfield 32, 3) := by decide +kernel
theorem d_Ma_execute_41 : decode b_Ma_execute 41 = .ok (.laload, 1) := by decide +kernel
theorem d_Ma_execute_42 : decode b_Ma_execute 42 = .ok (.lstore_n 3, 1) := by decide +kernel
theorem d_Ma_execute_43 : decode b_Ma_execute 43 = .ok (.aload_n 0, 1) := by decide +kernel
theorem d_Ma_execute_44 : decode b_Ma_execute 44 = .ok (.dup, 1) := by decide +kernel
theorem d_Ma_execute_45 : decode b_Ma_execute 45 = .ok (.getfield 32, 3) := by decide +kernel
theorem d_Ma_execute_48 : decode b_Ma_execute 48 = .ok (.iconst 1, 1) := by decide +kernel
theorem d_Ma_execute_49 : decode b_Ma_execute 49 = .ok (.iadd, 1) := by decide +kernel
theorem d_Ma_execute_50 : decode b_Ma_execute 50 = .ok (.putfield 32, 3) := by decide +kernel
theorem d_Ma_execute_53 : decode b_Ma_execute 53 = .ok (.aload_n 0, 1) := by decide +kernel
theorem d_Ma_execute_54 : decode b_Ma_execute 54 = .ok (.dup, 1) := by decide +kernel
theorem d_Ma_execute_55 : decode b_Ma_execute 55 = .ok (.getfield 13, 3) := by decide +kernel
theorem d_Ma_execute_58 : decode b_Ma_execute 58 = .ok (.iconst 1, 1) := by decide +kernel
theorem d_Ma_execute_59 : decode b_Ma_execute 59 = .ok (.iadd, 1) := by decide +kernel
theorem d_Ma_execute_60 : decode b_Ma_execute 60 = .ok (.putfield 13, 3) := by decide +kernel
theorem d_Ma_execute_63 : decode b_Ma_execute 63 = .ok (.aload_n 0, 1) := by decide +kernel
theorem d_Ma_execute_64 : decode b_Ma_execute 64 = .ok (.lload_n 3, 1) := by decide +kernel
theorem d_Ma_execute_65 : decode b_Ma_execute 65 = .ok (.aload_n 2, 1) := by decide +kernel
theorem d_Ma_execute_66 : decode b_Ma_execute 66 = .ok (.invokevirtual 39, 3) := by decide +kernel
theorem d_Ma_execute_69 : decode b_Ma_execute 69 = .ok (.goto (-65), 3) := by decide +kernel
theorem d_Ma_execute_72 : decode b_Ma_execute 72 = .ok (.aload_n 0, 1) := by decide +kernel
theorem d_Ma_execute_73 : decode b_Ma_execute 73 = .ok (.getfield 43, 3) := by decide +kernel
theorem d_Ma_execute_76 : decode b_Ma_execute 76 = .ok (.invokestatic 46, 3) := by decide +kernel
theorem d_Ma_execute_79 : decode b_Ma_execute 79 = .ok (.lreturn, 1) := by decide +kernel
theorem d_F_run_0 : decode b_F_run 0 = .ok (.aload_n 0, 1) := by decide +kernel
theorem d_F_run_1 : decode b_F_run 1 = .ok (.getfield 35, 3) := by decide +kernel
theorem d_F_run_4 : decode b_F_run 4 = .ok (.aload_n 0, 1) := by decide +kernel
theorem d_F_run_5 : decode b_F_run 5 = .ok (.getfield 28, 3) := by decide +kernel
theorem d_F_run_8 : decode b_F_run 8 = .ok (.invokevirtual 116, 3) := by decide +kernel
theorem d_F_run_11 : decode b_F_run 11 = .ok (.ifCond .eq 14, 3) := by decide +kernel
theorem d_F_run_14 : decode b_F_run 14 = .ok (.aload_n 0, 1) := by decide +kernel
theorem d_F_run_15 : decode b_F_run 15 = .ok (.getfield 42, 3) := by decide +kernel
theorem d_F_run_18 : decode b_F_run 18 = .ok (.invokevirtual 120, 3) := by decide +kernel
theorem d_F_run_21 : decode b_F_run 21 = .ok (.ldc2_w 123, 3) := by decide +kernel
theorem d_F_run_24 : decode b_F_run 24 = .ok (.lreturn, 1) := by decide +kernel
theorem d_F_run_25 : decode b_F_run 25 = .ok (.aload_n 0, 1) := by decide +kernel
theorem d_F_run_26 : decode b_F_run 26 = .ok (.getfield 42, 3) := by decide +kernel
theorem d_F_run_29 : decode b_F_run 29 = .ok (.aload_n 0, 1) := by decide +kernel
theorem d_F_run_30 : decode b_F_run 30 = .ok (.getfield 28, 3) := by decide +kernel
theorem d_F_run_33 : decode b_F_run 33 = .ok (.aload_n 0, 1) := by decide +kernel
theorem d_F_run_34 : decode b_F_run 34 = .ok (.getfield 10, 3) := by decide +kernel
theorem d_F_run_37 : decode b_F_run 37 = .ok (.invokevirtual 125, 3) := by decide +kernel
theorem d_F_run_40 : decode b_F_run 40 = .ok (.lreturn, 1) := by decide +kernel
def m_Ma_execute_l1 (w : Nat → Int32) (g : GT) (M : MT) : Nat → MT → Int64 × MT
  | 0, _ => (0, M)
  | n1 + 1, M1 => if M1.2.2.2.2.2.2.1 = (0 : Int32) then if g.1 ≤ M1.2.1 then (m_F_unsigned M1.2.2.2.2.2.2.2, M1) else if g.1 ≤ M1.2.2.2.2.2.1 then (m_F_unsigned M1.2.2.2.2.2.2.2, M1) else m_Ma_execute_l1 w g M n1 (m_Ma_perform w (M1.1, M1.2.1 + (1 : Int32), M1.2.2.1, M1.2.2.2.1, M1.2.2.2.2.1, M1.2.2.2.2.2.1 + (1 : Int32), M1.2.2.2.2.2.2.1, M1.2.2.2.2.2.2.2) (g.2 M1.2.2.2.2.2.1.toNatClampNeg)) else (m_F_unsigned M1.2.2.2.2.2.2.2, M1)
def m_Ma_execute (w : Nat → Int32) (g : GT) (M : MT) : Int64 × MT := m_Ma_execute_l1 w g M (65) (m_Ma_begin M)
set_option maxHeartbeats 4000000 in
set_option maxRecDepth 100000 in
theorem c_Ma_execute (l : Launch) (D : va_G) (dA : Nat → ClassId) (ad : Nat → Nat) (A : Nat → Prop) (hAd : AdOK 49 ad A) (w : Nat → Int32) (P : PT) (g : GT) (ss : Nat → Int32) (M : MT) (hg : iN g.1 ≤ 64) (hok : ∀ i, i < iN g.1 → m_Ch_ownFault g (nI i) = 0) (hend : ¬ m_In_endsRun (m_In_codeOf (g.2 (iN g.1 - 1))) = 0) : Met l y_Ma_execute (mW y_Ma_execute b_Ma_execute 5 (some .long)) { frames := 4, cells := 0, slots := 0, locals := 92 } (va_Pc [.ref (ad 11), .ref (ad 7), .ref (ad 1)] (fun U => CG D dA ad w P g ss M U)) (va_Ql (fun (r : Int64) (u : MT) => r = (m_Ma_execute w g M).1 ∧ u = (m_Ma_execute w g M).2) (fun u t => CG D dA ad w P g ss u t) A) 0 0 A := by
  refine Met.ofW (cc := b_Ma_execute) (maxL := 5) (ret := (some .long)) (by decide) rfl ?_
  intro p e s m args below meth c s₁ B hml hv
  obtain ⟨rfl, hP, hK, hN⟩ := hv
  have hx := B.exec
  have hb := B.bytes
  have hr := B.returns
  have hlocks := B.notSynchronized
  have hts := fun (w : Cond) (h : w ∈ lw_g) => atoms_spec (ws := mW y_Ma_execute b_Ma_execute 5 (some .long)) B.pre w (List.mem_cons_of_mem _ h)
  have hown : s.vm.findClass R_Ma = some m.cls := findClass_of_methodNamed B.named
  have hS : va_S A s.heap s.heap [] := va_S.rf
  have hl := lv_entry ([.ref (ad 11), .ref (ad 7), .ref (ad 1)]) (n := 5) (Nat.le_of_ble_eq_true rfl)
  rw [lg_entry_eq]
  generalize (lg_sl ([.ref (ad 11), .ref (ad 7), .ref (ad 1)]) ++ List.replicate (5 - (lg_sl ([.ref (ad 11), .ref (ad 7), .ref (ad 1)])).length) Slot.unset).toArray = ls at hl ⊢
  have hl : lv_has ls 5 [(0, .ref (ad 11)), (1, .ref (ad 7)), (2, .ref (ad 1))] := hl
  refine lv_aload_n hx hb d_Ma_execute_0 rfl (lv_at hl 0 rfl) ?_
  refine va_callv (va_runV (As := []) (rest := []) ⟨hx, hb, hml, hown, hts⟩ (c_Ma_begin l D dA ad A hAd w P g ss M) (cwV 0 hts (g_V wd_432 wd_434 wd_3 wd_34 wd_435) rfl rfl rfl (by decide +kernel) ⟨Nat.le_of_ble_eq_true rfl, Nat.le_of_ble_eq_true rfl⟩) ⟨CG_fb, (va_recv (ci := 4) (q := (R_Ma, F_Ma, 8)) (q0 := 11) hK hP rfl rfl), fun U hU hW => ⟨rfl, CG_at hP hK hN hU hW⟩⟩ rfl rfl hl.1 rfl (lv_room (Nat.le_of_ble_eq_true rfl)) d_Ma_execute_1 ⟨Nat.le_of_ble_eq_true rfl, Nat.le_of_ble_eq_true rfl⟩) hS (fun _ _ h => h) (fun _ h => h) (fun u1 t H locs ht hvm hu hB hz hk hS => ?_)
  subst hu
  obtain ⟨hP, -⟩ := hB
  rw [ht] at hP
  have hP : va_P D cls (wC ad dA w P g ss (m_Ma_begin M)) H := hP
  refine W_loop1 (X := fun (n1 : Nat) (M1 : MT) (H : Heap) (locs : List Loc) (ls : Array Slot) => 64 - iN M1.2.1 < n1 ∧ m_Ma_execute w g M = m_Ma_execute_l1 w g M n1 M1 ∧ lv_has ls 5 [(0, .ref (ad 11)), (1, .ref (ad 7)), (2, .ref (ad 1))] ∧ va_P D cls (wC ad dA w P g ss M1) H ∧ va_S A s.heap H locs ∧ iN M1.2.1 ≤ 64 ∧ iN M1.2.2.2.2.2.1 ≤ 64) (65) (m_Ma_begin M) ⟨(bg_n M), (by rw [m_Ma_execute]), (lv_sub hl [0, 1, 2] rfl), hP, hS, (bg_d M), (bg_j M)⟩ (fun _ _ _ _ h => absurd h.1 (Nat.not_lt_zero _)) (fun n1 ih1 M1 H locs ls h => ?_)
  obtain ⟨hn1, hm1, hl, hP, hS, hd, hJ⟩ := h
  refine lv_aload_n hx hb d_Ma_execute_4 rfl (lv_at hl 0 rfl) ?_
  refine va_get (D := D) (ci := 4) (v := .int M1.2.2.2.2.2.2.1) (C := R_Ma) (T := F_Ma) (N := 8) hx hb hts in_Ma hown hK hP 11 rfl rfl 6 (by decide) (hts _ wd_189) (fun _ h9 => h9) rfl d_Ma_execute_5 ?_
  refine lv_if_ne (tgt := 72) hx hb d_Ma_execute_8 (by decide) (fun h1 => ?_) (fun h1 => ?_)
  · refine lv_aload_n hx hb d_Ma_execute_72 rfl (lv_at hl 0 rfl) ?_
    refine va_get (D := D) (ci := 4) (v := .int M1.2.2.2.2.2.2.2) (C := R_Ma) (T := F_Ma) (N := 8) hx hb hts in_Ma hown hK hP 11 rfl rfl 7 (by decide) (hts _ wd_190) (fun _ h9 => h9) rfl d_Ma_execute_73 ?_
    refine vp_callSl (va_Run.run (va_runSN (As := [.int M1.2.2.2.2.2.2.2]) (rest := []) ⟨hx, hb, hml, hown, hts⟩ (c_F_unsigned l M1.2.2.2.2.2.2.2) ⟨va_cnB 1 hts (g_in wd_302) rfl rfl rfl hN.2.2.2.2.2.2.1 (hts _ wd_26) (by decide +kernel) ⟨Nat.le_of_ble_eq_true rfl, Nat.le_of_ble_eq_true rfl⟩, hts _ wd_301, trivial⟩ ⟨fun _ _ _ _ q => q, fun _ _ _ => ⟨rfl, trivial⟩⟩ rfl rfl hl.1 rfl (lv_room (Nat.le_of_ble_eq_true rfl)) d_Ma_execute_76 ⟨Nat.le_of_ble_eq_true rfl, Nat.le_of_ble_eq_true rfl⟩)) (fun r1 e1 => ?_)
    subst e1
    exact W.lret hx hb hr (fun t ht hW => ⟨⟨_, _, rfl, ⟨(by rw [hm1, m_Ma_execute_l1, if_neg h1]), (by rw [hm1, m_Ma_execute_l1, if_neg h1])⟩, CG_at hP hK hN ht hW⟩, hS.F ht⟩) hS.2.2 d_Ma_execute_79
  refine lv_aload_n hx hb d_Ma_execute_11 rfl (lv_at hl 0 rfl) ?_
  refine va_get (D := D) (ci := 4) (v := .int M1.2.1) (C := R_Ma) (T := F_Ma) (N := 8) hx hb hts in_Ma hown hK hP 11 rfl rfl 1 (by decide) (hts _ wd_183) (fun _ h9 => h9) rfl d_Ma_execute_12 ?_
  refine lv_aload_n hx hb d_Ma_execute_15 rfl (lv_at hl 1 rfl) ?_
  refine va_get (D := D) (ci := 6) (v := .int g.1) (C := R_Pr) (T := F_Pr) (N := 2) hx hb hts in_Pr hown hK hP 7 rfl rfl 1 (by decide) (hts _ wd_157) (fun _ h9 => h9) rfl d_Ma_execute_16 ?_
  refine lv_icmp_ge (tgt := 72) hx hb d_Ma_execute_19 (by decide) (fun h2 => ?_) (fun h2 => ?_)
  · refine lv_aload_n hx hb d_Ma_execute_72 rfl (lv_at hl 0 rfl) ?_
    refine va_get (D := D) (ci := 4) (v := .int M1.2.2.2.2.2.2.2) (C := R_Ma) (T := F_Ma) (N := 8) hx hb hts in_Ma hown hK hP 11 rfl rfl 7 (by decide) (hts _ wd_190) (fun _ h9 => h9) rfl d_Ma_execute_73 ?_
    refine vp_callSl (va_Run.run (va_runSN (As := [.int M1.2.2.2.2.2.2.2]) (rest := []) ⟨hx, hb, hml, hown, hts⟩ (c_F_unsigned l M1.2.2.2.2.2.2.2) ⟨va_cnB 1 hts (g_in wd_302) rfl rfl rfl hN.2.2.2.2.2.2.1 (hts _ wd_26) (by decide +kernel) ⟨Nat.le_of_ble_eq_true rfl, Nat.le_of_ble_eq_true rfl⟩, hts _ wd_301, trivial⟩ ⟨fun _ _ _ _ q => q, fun _ _ _ => ⟨rfl, trivial⟩⟩ rfl rfl hl.1 rfl (lv_room (Nat.le_of_ble_eq_true rfl)) d_Ma_execute_76 ⟨Nat.le_of_ble_eq_true rfl, Nat.le_of_ble_eq_true rfl⟩)) (fun r2 e2 => ?_)
    subst e2
    exact W.lret hx hb hr (fun t ht hW => ⟨⟨_, _, rfl, ⟨(by rw [hm1, m_Ma_execute_l1, if_pos h1, if_pos h2]), (by rw [hm1, m_Ma_execute_l1, if_pos h1, if_pos h2])⟩, CG_at hP hK hN ht hW⟩, hS.F ht⟩) hS.2.2 d_Ma_execute_79
  refine lv_aload_n hx hb d_Ma_execute_22 rfl (lv_at hl 0 rfl) ?_
  refine va_get (D := D) (ci := 4) (v := .int M1.2.2.2.2.2.1) (C := R_Ma) (T := F_Ma) (N := 8) hx hb hts in_Ma hown hK hP 11 rfl rfl 5 (by decide) (hts _ wd_188) (fun _ h9 => h9) rfl d_Ma_execute_23 ?_
  refine lv_aload_n hx hb d_Ma_execute_26 rfl (lv_at hl 1 rfl) ?_
  refine va_get (D := D) (ci := 6) (v := .int g.1) (C := R_Pr) (T := F_Pr) (N := 2) hx hb hts in_Pr hown hK hP 7 rfl rfl 1 (by decide) (hts _ wd_157) (fun _ h9 => h9) rfl d_Ma_execute_27 ?_
  refine lv_icmp_ge (tgt := 72) hx hb d_Ma_execute_30 (by decide) (fun h3 => ?_) (fun h3 => ?_)
  · refine lv_aload_n hx hb d_Ma_execute_72 rfl (lv_at hl 0 rfl) ?_
    refine va_get (D := D) (ci := 4) (v := .int M1.2.2.2.2.2.2.2) (C := R_Ma) (T := F_Ma) (N := 8) hx hb hts in_Ma hown hK hP 11 rfl rfl 7 (by decide) (hts _ wd_190) (fun _ h9 => h9) rfl d_Ma_execute_73 ?_
    refine vp_callSl (va_Run.run (va_runSN (As := [.int M1.2.2.2.2.2.2.2]) (rest := []) ⟨hx, hb, hml, hown, hts⟩ (c_F_unsigned l M1.2.2.2.2.2.2.2) ⟨va_cnB 1 hts (g_in wd_302) rfl rfl rfl hN.2.2.2.2.2.2.1 (hts _ wd_26) (by decide +kernel) ⟨Nat.le_of_ble_eq_true rfl, Nat.le_of_ble_eq_true rfl⟩, hts _ wd_301, trivial⟩ ⟨fun _ _ _ _ q => q, fun _ _ _ => ⟨rfl, trivial⟩⟩ rfl rfl hl.1 rfl (lv_room (Nat.le_of_ble_eq_true rfl)) d_Ma_execute_76 ⟨Nat.le_of_ble_eq_true rfl, Nat.le_of_ble_eq_true rfl⟩)) (fun r3 e3 => ?_)
    subst e3
    exact W.lret hx hb hr (fun t ht hW => ⟨⟨_, _, rfl, ⟨(by rw [hm1, m_Ma_execute_l1, if_pos h1, if_neg h2, if_pos h3]), (by rw [hm1, m_Ma_execute_l1, if_pos h1, if_neg h2, if_pos h3])⟩, CG_at hP hK hN ht hW⟩, hS.F ht⟩) hS.2.2 d_Ma_execute_79
  refine lv_aload_n hx hb d_Ma_execute_33 rfl (lv_at hl 1 rfl) ?_
  refine va_get (D := D) (ci := 6) (v := .ref (ad 8)) (C := R_Pr) (T := F_Pr) (N := 2) hx hb hts in_Pr hown hK hP 7 rfl rfl 0 (by decide) (hts _ wd_154) (fun _ h9 => h9) rfl d_Ma_execute_34 ?_
  refine lv_aload_n hx hb d_Ma_execute_37 rfl (lv_at hl 0 rfl) ?_
  refine va_get (D := D) (ci := 4) (v := .int M1.2.2.2.2.2.1) (C := R_Ma) (T := F_Ma) (N := 8) hx hb hts in_Ma hown hK hP 11 rfl rfl 5 (by decide) (hts _ wd_188) (fun _ h9 => h9) rfl d_Ma_execute_38 ?_
  refine va_lald (n := 64) (f := g.2) hx hb hK hP 8 1 rfl rfl (ex_i hg hJ (by assumption)) d_Ma_execute_41 ?_
  refine lv_lstore_n hx hb d_Ma_execute_42 rfl hl (by decide) rfl (fun ls hl => ?_)
  have hl : lv_has ls 5 [(3, .long (g.2 M1.2.2.2.2.2.1.toNatClampNeg)), (0, .ref (ad 11)), (1, .ref (ad 7)), (2, .ref (ad 1))] := hl
  refine lv_aload_n hx hb d_Ma_execute_43 rfl (lv_at hl 1 rfl) ?_
  refine lv_dup hx hb d_Ma_execute_44 rfl ?_
  refine va_get (D := D) (ci := 4) (v := .int M1.2.2.2.2.2.1) (C := R_Ma) (T := F_Ma) (N := 8) hx hb hts in_Ma hown hK hP 11 rfl rfl 5 (by decide) (hts _ wd_188) (fun _ h9 => h9) rfl d_Ma_execute_45 ?_
  refine lv_iconst (v := 1) hx hb d_Ma_execute_48 (by decide) ?_
  refine lv_iadd hx hb d_Ma_execute_49 ?_
  refine va_put (D := D) (ci := 4) (v := .int (M1.2.2.2.2.2.1 + (1 : Int32))) (ty := .int) (C := R_Ma) (T := F_Ma) (N := 8) hx hb hts in_Ma t_Ma k_Ma n_Ma hown hK hP (wC_D hAd) hS 11 rfl rfl 5 (by decide) (hts _ wd_188) (fun _ h9 => h9) rfl (by decide +kernel) rfl rfl (Nat.le_of_ble_eq_true rfl) d_Ma_execute_50 (fun H locs hP _ hS => ?_)
  have hP : va_P D cls (wC ad dA w P g ss (M1.1, M1.2.1, M1.2.2.1, M1.2.2.2.1, M1.2.2.2.2.1, M1.2.2.2.2.2.1 + (1 : Int32), M1.2.2.2.2.2.2.1, M1.2.2.2.2.2.2.2)) H := hP
  refine lv_aload_n hx hb d_Ma_execute_53 rfl (lv_at hl 1 rfl) ?_
  refine lv_dup hx hb d_Ma_execute_54 rfl ?_
  refine va_get (D := D) (ci := 4) (v := .int M1.2.1) (C := R_Ma) (T := F_Ma) (N := 8) hx hb hts in_Ma hown hK hP 11 rfl rfl 1 (by decide) (hts _ wd_183) (fun _ h9 => h9) rfl d_Ma_execute_55 ?_
  refine lv_iconst (v := 1) hx hb d_Ma_execute_58 (by decide) ?_
  refine lv_iadd hx hb d_Ma_execute_59 ?_
  refine va_put (D := D) (ci := 4) (v := .int (M1.2.1 + (1 : Int32))) (ty := .int) (C := R_Ma) (T := F_Ma) (N := 8) hx hb hts in_Ma t_Ma k_Ma n_Ma hown hK hP (wC_D hAd) hS 11 rfl rfl 1 (by decide) (hts _ wd_183) (fun _ h9 => h9) rfl (by decide +kernel) rfl rfl (Nat.le_of_ble_eq_true rfl) d_Ma_execute_60 (fun H locs hP _ hS => ?_)
  have hP : va_P D cls (wC ad dA w P g ss (M1.1, M1.2.1 + (1 : Int32), M1.2.2.1, M1.2.2.2.1, M1.2.2.2.2.1, M1.2.2.2.2.2.1 + (1 : Int32), M1.2.2.2.2.2.2.1, M1.2.2.2.2.2.2.2)) H := hP
  refine lv_aload_n hx hb d_Ma_execute_63 rfl (lv_at hl 1 rfl) ?_
  refine lv_lload_n hx hb d_Ma_execute_64 rfl (lv_at hl 0 rfl) ?_
  refine lv_aload_n hx hb d_Ma_execute_65 rfl (lv_at hl 3 rfl) ?_
  refine va_callv (va_runV (As := [.long (g.2 M1.2.2.2.2.2.1.toNatClampNeg), .ref (ad 1)]) (rest := []) ⟨hx, hb, hml, hown, hts⟩ (c_Ma_perform l D dA ad A hAd w P g ss (M1.1, M1.2.1 + (1 : Int32), M1.2.2.1, M1.2.2.2.1, M1.2.2.2.2.1, M1.2.2.2.2.2.1 + (1 : Int32), M1.2.2.2.2.2.2.1, M1.2.2.2.2.2.2.2) (g.2 M1.2.2.2.2.2.1.toNatClampNeg) (okz_of hg hok (ex_l hg hJ (by assumption)))) (cwV 2 hts (g_V wd_437 wd_439 wd_4 wd_34 wd_440) rfl rfl rfl (by decide +kernel) ⟨Nat.le_of_ble_eq_true rfl, Nat.le_of_ble_eq_true rfl⟩) ⟨CG_fb, (va_recv (ci := 4) (q := (R_Ma, F_Ma, 8)) (q0 := 11) hK hP rfl rfl), fun U hU hW => ⟨rfl, CG_at hP hK hN hU hW⟩⟩ rfl rfl hl.1 rfl (lv_room (Nat.le_of_ble_eq_true rfl)) d_Ma_execute_66 ⟨Nat.le_of_ble_eq_true rfl, Nat.le_of_ble_eq_true rfl⟩) hS (fun _ _ h => h) (fun _ h => h) (fun u2 t H locs ht hvm hu hB hz hk hS => ?_)
  subst hu
  obtain ⟨hP, -⟩ := hB
  rw [ht] at hP
  have hP : va_P D cls (wC ad dA w P g ss (m_Ma_perform w (M1.1, M1.2.1 + (1 : Int32), M1.2.2.1, M1.2.2.2.1, M1.2.2.2.2.1, M1.2.2.2.2.2.1 + (1 : Int32), M1.2.2.2.2.2.2.1, M1.2.2.2.2.2.2.2) (g.2 M1.2.2.2.2.2.1.toNatClampNeg))) H := hP
  refine lv_goto (tgt := 4) hx hb d_Ma_execute_69 (by decide) ?_
  exact ih1 (m_Ma_perform w (M1.1, M1.2.1 + (1 : Int32), M1.2.2.1, M1.2.2.2.1, M1.2.2.2.2.1, M1.2.2.2.2.2.1 + (1 : Int32), M1.2.2.2.2.2.2.1, M1.2.2.2.2.2.2.2) (g.2 M1.2.2.2.2.2.1.toNatClampNeg)) _ _ _ ⟨(ex_n hg hd (by assumption) hn1), (by rw [hm1, m_Ma_execute_l1, if_pos h1, if_neg h2, if_neg h3]), (lv_sub hl [1, 2, 3] rfl), hP, hS, (ex_d hg hd (by assumption)), (ex_j hg hok hJ (by assumption))⟩
def m_F_run (w : Nat → Int32) (g : GT) (ss : Nat → Int32) (M : MT) : Int64 × (Nat → Int32) × MT := if ((m_Ch_verdictOn g ss).1) = (0 : Int32) then ((m_Ma_execute w g M).1, ((m_Ch_verdictOn g ss).2), ((m_Ma_execute w g M).2)) else ((-1 : Int64), ((m_Ch_verdictOn g ss).2), (m_Ma_forget M))
set_option maxHeartbeats 4000000 in
set_option maxRecDepth 100000 in
theorem c_F_run (l : Launch) (D : va_G) (dA : Nat → ClassId) (ad : Nat → Nat) (A : Nat → Prop) (hAd : AdOK 49 ad A) (w : Nat → Int32) (P : PT) (g : GT) (ss : Nat → Int32) (M : MT) (hg : iN g.1 ≤ 64) : Met l y_F_run (mW y_F_run b_F_run 1 (some .long)) { frames := 5, cells := 0, slots := 0, locals := 116 } (va_Pc [.ref (ad 0)] (fun U => CG D dA ad w P g ss M U)) (va_Ql (fun (r : Int64) (u : (Nat → Int32) × MT) => r = (m_F_run w g ss M).1 ∧ u = (m_F_run w g ss M).2) (fun u t => CG D dA ad w P g u.1 u.2 t) A) 0 0 A := by
  refine Met.ofW (cc := b_F_run) (maxL := 1) (ret := (some .long)) (by decide) rfl ?_
  intro p e s m args below meth c s₁ B hml hv
  obtain ⟨rfl, hP, hK, hN⟩ := hv
  have hx := B.exec
  have hb := B.bytes
  have hr := B.returns
  have hlocks := B.notSynchronized
  have hts := fun (w : Cond) (h : w ∈ lw_g) => atoms_spec (ws := mW y_F_run b_F_run 1 (some .long)) B.pre w (List.mem_cons_of_mem _ h)
  have hown : s.vm.findClass R_F = some m.cls := findClass_of_methodNamed B.named
  have hS : va_S A s.heap s.heap [] := va_S.rf
  have hl := lv_entry ([.ref (ad 0)]) (n := 1) (Nat.le_of_ble_eq_true rfl)
  rw [lg_entry_eq]
  generalize (lg_sl ([.ref (ad 0)]) ++ List.replicate (1 - (lg_sl ([.ref (ad 0)])).length) Slot.unset).toArray = ls at hl ⊢
  have hl : lv_has ls 1 [(0, .ref (ad 0))] := hl
  refine lv_aload_n hx hb d_F_run_0 rfl (lv_at hl 0 rfl) ?_
  refine va_get (D := D) (ci := 8) (v := .ref (ad 9)) (C := R_F) (T := F_F) (N := 5) hx hb hts in_F hown hK hP 0 rfl rfl 3 (by decide) (hts _ wd_211) (fun _ h9 => h9) rfl d_F_run_1 ?_
  refine lv_aload_n hx hb d_F_run_4 rfl (lv_at hl 0 rfl) ?_
  refine va_get (D := D) (ci := 8) (v := .ref (ad 7)) (C := R_F) (T := F_F) (N := 5) hx hb hts in_F hown hK hP 0 rfl rfl 2 (by decide) (hts _ wd_210) (fun _ h9 => h9) rfl d_F_run_5 ?_
  refine va_calli (va_runV (As := [.ref (ad 7)]) (rest := []) ⟨hx, hb, hml, hown, hts⟩ (c_Ch_verdictOn l D dA ad A hAd w P g ss M hg) (cwV 1 hts (g_V wd_356 wd_357 wd_358 wd_33 wd_359) rfl rfl rfl (by decide +kernel) ⟨Nat.le_of_ble_eq_true rfl, Nat.le_of_ble_eq_true rfl⟩) ⟨CG_fb, (va_recv (ci := 2) (q := (R_Ch, F_Ch, 1)) (q0 := 9) hK hP rfl rfl), fun U hU hW => ⟨rfl, CG_at hP hK hN hU hW⟩⟩ rfl rfl hl.1 rfl (lv_room (Nat.le_of_ble_eq_true rfl)) d_F_run_8 ⟨Nat.le_of_ble_eq_true rfl, Nat.le_of_ble_eq_true rfl⟩) hS (fun _ _ h => h) (fun _ h => h) (fun r1 u1 t H locs ht hvm hu hB hz hk hS => ?_)
  obtain ⟨rfl, rfl⟩ := hu
  obtain ⟨hP, -⟩ := hB
  rw [ht] at hP
  have hP : va_P D cls (wC ad dA w P g ((m_Ch_verdictOn g ss).2) M) H := hP
  refine lv_if_eq (tgt := 25) hx hb d_F_run_11 (by decide) (fun h1 => ?_) (fun h1 => ?_)
  · refine lv_aload_n hx hb d_F_run_25 rfl (lv_at hl 0 rfl) ?_
    refine va_get (D := D) (ci := 8) (v := .ref (ad 11)) (C := R_F) (T := F_F) (N := 5) hx hb hts in_F hown hK hP 0 rfl rfl 4 (by decide) (hts _ wd_212) (fun _ h9 => h9) rfl d_F_run_26 ?_
    refine lv_aload_n hx hb d_F_run_29 rfl (lv_at hl 0 rfl) ?_
    refine va_get (D := D) (ci := 8) (v := .ref (ad 7)) (C := R_F) (T := F_F) (N := 5) hx hb hts in_F hown hK hP 0 rfl rfl 2 (by decide) (hts _ wd_210) (fun _ h9 => h9) rfl d_F_run_30 ?_
    refine lv_aload_n hx hb d_F_run_33 rfl (lv_at hl 0 rfl) ?_
    refine va_get (D := D) (ci := 8) (v := .ref (ad 1)) (C := R_F) (T := F_F) (N := 5) hx hb hts in_F hown hK hP 0 rfl rfl 0 (by decide) (hts _ wd_208) (fun _ h9 => h9) rfl d_F_run_34 ?_
    refine va_calll (va_runV (As := [.ref (ad 7), .ref (ad 1)]) (rest := []) ⟨hx, hb, hml, hown, hts⟩ (c_Ma_execute l D dA ad A hAd w P g ((m_Ch_verdictOn g ss).2) M hg (vd_ok hg (by assumption)) (vd_end hg (by assumption))) (cwV 2 hts (g_V wd_428 wd_429 wd_430 wd_34 wd_431) rfl rfl rfl (by decide +kernel) ⟨Nat.le_of_ble_eq_true rfl, Nat.le_of_ble_eq_true rfl⟩) ⟨CG_fb, (va_recv (ci := 4) (q := (R_Ma, F_Ma, 8)) (q0 := 11) hK hP rfl rfl), fun U hU hW => ⟨rfl, CG_at hP hK hN hU hW⟩⟩ rfl rfl hl.1 rfl (lv_room (Nat.le_of_ble_eq_true rfl)) d_F_run_37 ⟨Nat.le_of_ble_eq_true rfl, Nat.le_of_ble_eq_true rfl⟩) hS (fun _ _ h => h) (fun _ h => h) (fun r2 u2 t H locs ht hvm hu hB hz hk hS => ?_)
    obtain ⟨rfl, rfl⟩ := hu
    obtain ⟨hP, -⟩ := hB
    rw [ht] at hP
    have hP : va_P D cls (wC ad dA w P g ((m_Ch_verdictOn g ss).2) ((m_Ma_execute w g M).2)) H := hP
    exact W.lret hx hb hr (fun t ht hW => ⟨⟨_, _, rfl, ⟨(by rw [m_F_run, if_pos h1]), (by rw [m_F_run, if_pos h1])⟩, CG_at hP hK hN ht hW⟩, hS.F ht⟩) hS.2.2 d_F_run_40
  refine lv_aload_n hx hb d_F_run_14 rfl (lv_at hl 0 rfl) ?_
  refine va_get (D := D) (ci := 8) (v := .ref (ad 11)) (C := R_F) (T := F_F) (N := 5) hx hb hts in_F hown hK hP 0 rfl rfl 4 (by decide) (hts _ wd_212) (fun _ h9 => h9) rfl d_F_run_15 ?_
  refine va_callv (va_runV (As := []) (rest := []) ⟨hx, hb, hml, hown, hts⟩ (c_Ma_forget l D dA ad A hAd w P g ((m_Ch_verdictOn g ss).2) M) (cwV 0 hts (g_V wd_423 wd_424 wd_425 wd_34 wd_426) rfl rfl rfl (by decide +kernel) ⟨Nat.le_of_ble_eq_true rfl, Nat.le_of_ble_eq_true rfl⟩) ⟨CG_fb, (va_recv (ci := 4) (q := (R_Ma, F_Ma, 8)) (q0 := 11) hK hP rfl rfl), fun U hU hW => ⟨rfl, CG_at hP hK hN hU hW⟩⟩ rfl rfl hl.1 rfl (lv_room (Nat.le_of_ble_eq_true rfl)) d_F_run_18 ⟨Nat.le_of_ble_eq_true rfl, Nat.le_of_ble_eq_true rfl⟩) hS (fun _ _ h => h) (fun _ h => h) (fun u3 t H locs ht hvm hu hB hz hk hS => ?_)
  subst hu
  obtain ⟨hP, -⟩ := hB
  rw [ht] at hP
  have hP : va_P D cls (wC ad dA w P g ((m_Ch_verdictOn g ss).2) (m_Ma_forget M)) H := hP
  refine lv_ldc2 (v := -1) hx hb hown (hts _ wd_427) d_F_run_21 ?_
  exact W.lret hx hb hr (fun t ht hW => ⟨⟨_, _, rfl, ⟨(by rw [m_F_run, if_neg h1]), (by rw [m_F_run, if_neg h1])⟩, CG_at hP hK hN ht hW⟩, hS.F ht⟩) hS.2.2 d_F_run_24
