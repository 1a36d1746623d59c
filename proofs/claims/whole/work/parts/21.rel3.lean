/-! The checker's row of bits and the reference's marks -/
def tb (x : Int32) (c : Nat) : Bool := (iN x).testBit c
theorem tb_and (x y : Int32) (c : Nat) : tb (x &&& y) c = (tb x c && tb y c) := by unfold tb; rw [iN_and, Nat.testBit_and]
theorem tb_or (x y : Int32) (c : Nat) : tb (x ||| y) c = (tb x c || tb y c) := by unfold tb; rw [iN_or, Nat.testBit_or]
theorem tb_af (x y : Int32) (c : Nat) : tb (x &&& y) c = false ↔ tb x c = false ∨ tb y c = false := by
  rw [tb_and]
  cases tb x c <;> cases tb y c <;> simp
theorem tb_0 (c : Nat) : tb (0 : Int32) c = false := Nat.zero_testBit c
theorem bit_n {y : Int32} (h : iN y < 16) : iN ((1 : Int32) <<< (y &&& 31)) = 2 ^ iN y := by
  rw [iN_shl, show iN (1 : Int32) = 1 from rfl, Nat.one_mul, Nat.mod_eq_of_lt (show iN y < 32 by omega)]
  exact Nat.mod_eq_of_lt (Nat.lt_of_le_of_lt (Nat.pow_le_pow_right (by decide) (show iN y ≤ 15 by omega)) (by decide))
theorem tb_bit {y : Int32} (h : iN y < 16) (c : Nat) : tb ((1 : Int32) <<< (y &&& 31)) c = decide (iN y = c) := by
  unfold tb
  rw [bit_n h, Nat.testBit_two_pow]
theorem and_bit {x y : Int32} (h : iN y < 16) : x &&& ((1 : Int32) <<< (y &&& 31)) = (0 : Int32) ↔ tb x (iN y) = false := by
  constructor
  · intro q
    have e : tb (x &&& ((1 : Int32) <<< (y &&& 31))) (iN y) = false := by rw [q]; exact tb_0 _
    rw [tb_and, tb_bit h] at e
    simpa using e
  · intro q
    apply iN_inj
    apply Nat.eq_of_testBit_eq
    intro c
    have e : tb (x &&& ((1 : Int32) <<< (y &&& 31))) c = false := by
      rw [tb_and, tb_bit h]
      by_cases hc : iN y = c
      · rw [← hc, q]; rfl
      · simp [hc]
    exact e.trans (tb_0 c).symm
/-- where an instruction may go -/
def suc (G : GT) (i t : Nat) : Prop :=
  (m_In_codeOf (G.2 i) = (5 : Int32) ∧ t = i + 1 + uN (m_In_operandOf (G.2 i))) ∨
  (¬ m_In_codeOf (G.2 i) = (5 : Int32) ∧ ¬ m_In_isConditional (m_In_codeOf (G.2 i)) = (0 : Int32) ∧ (t = i + 1 + iN (m_In_distanceIfTrue (G.2 i)) ∨ t = i + 1 + iN (m_In_distanceIfFalse (G.2 i)))) ∨
  (¬ m_In_codeOf (G.2 i) = (5 : Int32) ∧ m_In_isConditional (m_In_codeOf (G.2 i)) = (0 : Int32) ∧ m_In_endsRun (m_In_codeOf (G.2 i)) = (0 : Int32) ∧ t = i + 1)
section CK
variable {G : GT}
theorem far_n (hG : iN G.1 ≤ 64) (hok : ∀ i, i < iN G.1 → m_Ch_ownFault G (nI i) = 0) {i : Nat} (hi : i < iN G.1) : (m_In_codeOf (G.2 i) = (5 : Int32) → i + 1 + uN (m_In_operandOf (G.2 i)) < iN G.1) ∧ (¬ m_In_isConditional (m_In_codeOf (G.2 i)) = (0 : Int32) → ¬ m_In_codeOf (G.2 i) = (5 : Int32) → i + 1 + iN (m_In_distanceIfTrue (G.2 i)) < iN G.1 ∧ i + 1 + iN (m_In_distanceIfFalse (G.2 i)) < iN G.1) := by
  have e := iN_nIs (n := i) (by omega)
  have hf := far_of hG hok (x := nI i) (by omega)
  rw [nI_clamp (show i < 2 ^ 31 by omega), e] at hf
  exact hf
theorem cl_k (hG : iN G.1 ≤ 64) {i : Nat} (hi : i < iN G.1) {y : Int32} {n : Nat} (hy : iN y = n) (hl : i + 1 + n < iN G.1) : (((nI i) + (1 : Int32)) + y).toNatClampNeg = i + 1 + n := by
  have e : iN (((nI i) + (1 : Int32)) + y) = i + 1 + n := by
    rw [iN_add, in_1 (by rw [iN_nIs (by omega)]; omega), iN_nIs (by omega), hy]
    omega
  rw [iN_clamp (by omega), e]
theorem cl_1 {i : Nat} (hi : i < 64) : ((nI i) + (1 : Int32)).toNatClampNeg = i + 1 := by
  rw [nI_1]
  exact nI_clamp (by omega)
theorem k_n (z : Int64) : iN (m_In_operandOf z).toInt32 = uN (m_In_operandOf z) := by
  have := opnd_lt z
  rw [iN_tr]
  omega
theorem pass_bit (hG : iN G.1 ≤ 64) (hok : ∀ i, i < iN G.1 → m_Ch_ownFault G (nI i) = 0) {i : Nat} (hi : i < iN G.1) (ss : Nat → Int32) (sd : Int32) (c t : Nat) : tb (m_Ch_passOn ss (G.2 i) ((nI i) + (1 : Int32)) sd t) c = false ↔ tb (ss t) c = false ∨ (suc G i t ∧ tb sd c = false) := by
  obtain ⟨f1, f2⟩ := far_n hG hok hi
  unfold m_Ch_passOn suc
  by_cases h5 : m_In_codeOf (G.2 i) = (5 : Int32)
  · rw [if_pos h5, cl_k hG hi (k_n _) (f1 h5)]
    have hs : ((m_In_codeOf (G.2 i) = (5 : Int32) ∧ t = i + 1 + uN (m_In_operandOf (G.2 i))) ∨ (¬ m_In_codeOf (G.2 i) = (5 : Int32) ∧ ¬ m_In_isConditional (m_In_codeOf (G.2 i)) = (0 : Int32) ∧ (t = i + 1 + iN (m_In_distanceIfTrue (G.2 i)) ∨ t = i + 1 + iN (m_In_distanceIfFalse (G.2 i)))) ∨ (¬ m_In_codeOf (G.2 i) = (5 : Int32) ∧ m_In_isConditional (m_In_codeOf (G.2 i)) = (0 : Int32) ∧ m_In_endsRun (m_In_codeOf (G.2 i)) = (0 : Int32) ∧ t = i + 1)) ↔ t = i + 1 + uN (m_In_operandOf (G.2 i)) := by simp [h5]
    rw [hs]
    by_cases e : t = i + 1 + uN (m_In_operandOf (G.2 i))
    · rw [e, upd_at, tb_af]; simp
    · rw [upd_ne e]; simp [e]
  · rw [if_neg h5]
    by_cases hc : m_In_isConditional (m_In_codeOf (G.2 i)) = (0 : Int32)
    · rw [if_pos hc]
      by_cases he : m_In_endsRun (m_In_codeOf (G.2 i)) = (0 : Int32)
      · rw [if_pos he, cl_1 (by omega)]
        by_cases e : t = i + 1
        · rw [e, upd_at, tb_af]; simp [h5, hc, he]
        · rw [upd_ne e]; simp [h5, hc, e]
      · rw [if_neg he]; simp [h5, hc, he]
    · rw [if_neg hc]
      obtain ⟨g1, g2⟩ := f2 hc h5
      rw [cl_k hG hi rfl g1, cl_k hG hi rfl g2]
      generalize i + 1 + iN (m_In_distanceIfTrue (G.2 i)) = T at g1
      generalize i + 1 + iN (m_In_distanceIfFalse (G.2 i)) = F at g2
      have key : tb (upd (upd ss T (ss T &&& sd)) F ((upd ss T (ss T &&& sd) F) &&& sd) t) c = false ↔ tb (ss t) c = false ∨ ((t = T ∨ t = F) ∧ tb sd c = false) := by
        by_cases eF : t = F
        · subst eF
          rw [upd_at, tb_af]
          by_cases eT : t = T
          · subst eT
            rw [upd_at, tb_af]
            simp
          · rw [upd_ne eT]; simp
        · rw [upd_ne eF]
          by_cases eT : t = T
          · subst eT
            rw [upd_at, tb_af]; simp
          · rw [upd_ne eT]; simp [eF, eT]
      rw [key]
      simp [h5, hc]
/-- one step of the reference's marks -/
def stM (G : GT) (cell : Int64) (i : Nat) (m2 : Nat → Int32) : Nat → Int32 :=
  if (m_M_code G (nI i) = (2 : Int32) ∨ m_M_code G (nI i) = (3 : Int32)) ∧ lg_cmp (m_M_k G (nI i)) cell = (0 : Int32) then m2 else if m2 i = (0 : Int32) then m2 else if m_M_ends G (nI i) = (0 : Int32) then if m_M_branch (m_M_code G (nI i)) = (0 : Int32) then if m_M_code G (nI i) = (5 : Int32) then upd m2 (((nI i) + (1 : Int32)) + ((m_M_k G (nI i)).toInt32)).toNatClampNeg (1 : Int32) else upd m2 ((nI i) + (1 : Int32)).toNatClampNeg (1 : Int32) else upd (upd m2 (((nI i) + (1 : Int32)) + (m_M_jump G (nI i) (1 : Int32))).toNatClampNeg (1 : Int32)) (((nI i) + (1 : Int32)) + (m_M_jump G (nI i) (0 : Int32))).toNatClampNeg (1 : Int32) else m2
theorem bare_st {mk : Nat → Int32} {to : Int32} {cell : Int64} {n i : Nat} (hi : i < 64) {m2 : Nat → Int32} : m_M_bare_l2 G mk to cell (n + 1) i m2 = if to ≤ (nI i) then (m2 to.toNatClampNeg, m2) else m_M_bare_l2 G mk to cell n (i + 1) (stM G cell i m2) := by
  rw [m_M_bare_l2, nI_clamp (show i < 2 ^ 31 by omega)]
  unfold stM
  by_cases h0 : to ≤ nI i
  · rw [if_pos h0, if_pos h0]
  rw [if_neg h0, if_neg h0]
  have tail : (if m2 i = (0 : Int32) then m_M_bare_l2 G mk to cell n (i + 1) m2 else if (m_M_ends G (nI i)) = (0 : Int32) then if (m_M_branch (m_M_code G (nI i))) = (0 : Int32) then if (m_M_code G (nI i)) = (5 : Int32) then m_M_bare_l2 G mk to cell n (i + 1) (upd m2 (((nI i) + (1 : Int32)) + ((m_M_k G (nI i)).toInt32)).toNatClampNeg (1 : Int32)) else m_M_bare_l2 G mk to cell n (i + 1) (upd m2 ((nI i) + (1 : Int32)).toNatClampNeg (1 : Int32)) else m_M_bare_l2 G mk to cell n (i + 1) (upd (upd m2 (((nI i) + (1 : Int32)) + (m_M_jump G (nI i) (1 : Int32))).toNatClampNeg (1 : Int32)) (((nI i) + (1 : Int32)) + (m_M_jump G (nI i) (0 : Int32))).toNatClampNeg (1 : Int32)) else m_M_bare_l2 G mk to cell n (i + 1) m2) = m_M_bare_l2 G mk to cell n (i + 1) (if m2 i = (0 : Int32) then m2 else if m_M_ends G (nI i) = (0 : Int32) then if m_M_branch (m_M_code G (nI i)) = (0 : Int32) then if m_M_code G (nI i) = (5 : Int32) then upd m2 (((nI i) + (1 : Int32)) + ((m_M_k G (nI i)).toInt32)).toNatClampNeg (1 : Int32) else upd m2 ((nI i) + (1 : Int32)).toNatClampNeg (1 : Int32) else upd (upd m2 (((nI i) + (1 : Int32)) + (m_M_jump G (nI i) (1 : Int32))).toNatClampNeg (1 : Int32)) (((nI i) + (1 : Int32)) + (m_M_jump G (nI i) (0 : Int32))).toNatClampNeg (1 : Int32) else m2) := by
    by_cases a1 : m2 i = (0 : Int32)
    · rw [if_pos a1, if_pos a1]
    rw [if_neg a1, if_neg a1]
    by_cases a2 : m_M_ends G (nI i) = (0 : Int32)
    · rw [if_pos a2, if_pos a2]
      by_cases a3 : m_M_branch (m_M_code G (nI i)) = (0 : Int32)
      · rw [if_pos a3, if_pos a3]
        by_cases a4 : m_M_code G (nI i) = (5 : Int32)
        · rw [if_pos a4, if_pos a4]
        · rw [if_neg a4, if_neg a4]
      · rw [if_neg a3, if_neg a3]
    · rw [if_neg a2, if_neg a2]
  by_cases hq : ((m_M_code G (nI i) = (2 : Int32) ∨ m_M_code G (nI i) = (3 : Int32)) ∧ lg_cmp (m_M_k G (nI i)) cell = (0 : Int32))
  · rw [if_pos hq]
    by_cases h2 : m_M_code G (nI i) = (2 : Int32)
    · rw [if_pos h2, if_pos hq.2, ite_self]
    · rw [if_neg h2, if_pos (hq.1.resolve_left h2), if_pos hq.2, ite_self]
  · rw [if_neg hq, ← tail]
    by_cases h2 : m_M_code G (nI i) = (2 : Int32)
    · rw [if_pos h2, if_neg (show ¬ lg_cmp (m_M_k G (nI i)) cell = (0 : Int32) from fun z => hq ⟨Or.inl h2, z⟩)]
    · rw [if_neg h2]
      by_cases h3 : m_M_code G (nI i) = (3 : Int32)
      · rw [if_pos h3, if_neg (show ¬ lg_cmp (m_M_k G (nI i)) cell = (0 : Int32) from fun z => hq ⟨Or.inr h3, z⟩)]
      · rw [if_neg h3]
theorem en_cd {cd : Int32} (h : ¬ m_In_endsRun cd = (0 : Int32)) : ¬ cd = (5 : Int32) ∧ m_In_isConditional cd = (0 : Int32) ∧ ¬ cd = (2 : Int32) ∧ ¬ cd = (3 : Int32) := by
  unfold m_In_endsRun at h
  by_cases h6 : cd = (6 : Int32)
  · subst h6; decide
  · rw [if_neg h6] at h
    by_cases h22 : cd = (22 : Int32)
    · subst h22; decide
    · rw [if_neg h22] at h
      exact absurd rfl h
theorem st_mark (hG : iN G.1 ≤ 64) (hok : ∀ i, i < iN G.1 → m_Ch_ownFault G (nI i) = 0) {i : Nat} (hi : i < iN G.1) (cell : Int64) (m2 : Nat → Int32) (t : Nat) : ¬ stM G cell i m2 t = (0 : Int32) ↔ ¬ m2 t = (0 : Int32) ∨ (suc G i t ∧ ¬ m2 i = (0 : Int32) ∧ ¬ ((m_In_codeOf (G.2 i) = (2 : Int32) ∨ m_In_codeOf (G.2 i) = (3 : Int32)) ∧ m_In_operandOf (G.2 i) = cell)) := by
  obtain ⟨f1, f2⟩ := far_n hG hok hi
  have ecl : (nI i).toNatClampNeg = i := nI_clamp (by omega)
  have e1 : m_M_code G (nI i) = m_In_codeOf (G.2 i) := by rw [code_eq, ecl]
  have e2 : m_M_k G (nI i) = m_In_operandOf (G.2 i) := by rw [k_eq, ecl]
  have e3 : m_M_ends G (nI i) = m_In_endsRun (m_In_codeOf (G.2 i)) := by rw [en_eq, ecl]
  have e4 : m_M_jump G (nI i) 1 = m_In_distanceIfTrue (G.2 i) := by rw [jT_eq, ecl]
  have e5 : m_M_jump G (nI i) 0 = m_In_distanceIfFalse (G.2 i) := by rw [jF_eq, ecl]
  unfold stM
  rw [e1, e2, e3, e4, e5]
  by_cases hst : (m_In_codeOf (G.2 i) = (2 : Int32) ∨ m_In_codeOf (G.2 i) = (3 : Int32)) ∧ m_In_operandOf (G.2 i) = cell
  · rw [if_pos ⟨hst.1, (cmp_eq _ _).mpr hst.2⟩]
    exact ⟨fun q => Or.inl q, fun q => by rcases q with q | q; exact q; exact absurd hst q.2.2⟩
  rw [if_neg (fun q => hst ⟨q.1, (cmp_eq _ _).mp q.2⟩)]
  by_cases hm : m2 i = (0 : Int32)
  · rw [if_pos hm]
    exact ⟨fun q => Or.inl q, fun q => by rcases q with q | q; exact q; exact absurd hm q.2.1⟩
  rw [if_neg hm]
  have red : (suc G i t ∧ ¬ m2 i = (0 : Int32) ∧ ¬ ((m_In_codeOf (G.2 i) = (2 : Int32) ∨ m_In_codeOf (G.2 i) = (3 : Int32)) ∧ m_In_operandOf (G.2 i) = cell)) ↔ suc G i t := ⟨fun q => q.1, fun q => ⟨q, hm, hst⟩⟩
  rw [red]
  by_cases he : m_In_endsRun (m_In_codeOf (G.2 i)) = (0 : Int32)
  · rw [if_pos he]
    by_cases hc : m_In_isConditional (m_In_codeOf (G.2 i)) = (0 : Int32)
    · rw [if_pos ((br_eq _).mpr hc)]
      by_cases h5 : m_In_codeOf (G.2 i) = (5 : Int32)
      · rw [if_pos h5, cl_k hG hi (k_n _) (f1 h5)]
        have hs : suc G i t ↔ t = i + 1 + uN (m_In_operandOf (G.2 i)) := by unfold suc; simp [h5]
        rw [hs]
        by_cases e : t = i + 1 + uN (m_In_operandOf (G.2 i))
        · rw [e, upd_at]; simp
        · rw [upd_ne e]; simp [e]
      · rw [if_neg h5, cl_1 (by omega)]
        have hs : suc G i t ↔ t = i + 1 := by unfold suc; simp [h5, hc, he]
        rw [hs]
        by_cases e : t = i + 1
        · rw [e, upd_at]; simp
        · rw [upd_ne e]; simp [e]
    · rw [if_neg (fun q => hc ((br_eq _).mp q))]
      have h5 : ¬ m_In_codeOf (G.2 i) = (5 : Int32) := by
        intro q
        rw [q] at hc
        exact hc (by decide)
      obtain ⟨g1, g2⟩ := f2 hc h5
      have hs : suc G i t ↔ (t = i + 1 + iN (m_In_distanceIfTrue (G.2 i)) ∨ t = i + 1 + iN (m_In_distanceIfFalse (G.2 i))) := by unfold suc; simp [h5, hc]
      rw [hs, cl_k hG hi rfl g1, cl_k hG hi rfl g2]
      generalize i + 1 + iN (m_In_distanceIfTrue (G.2 i)) = T at g1
      generalize i + 1 + iN (m_In_distanceIfFalse (G.2 i)) = F at g2
      by_cases eF : t = F
      · subst eF
        rw [upd_at]; simp
      · rw [upd_ne eF]
        by_cases eT : t = T
        · subst eT
          rw [upd_at]; simp
        · rw [upd_ne eT]; simp [eF, eT]
  · rw [if_neg he]
    obtain ⟨h5, hc, -, -⟩ := en_cd he
    have hs : ¬ suc G i t := by unfold suc; simp [h5, hc, he]
    exact ⟨fun q => Or.inl q, fun q => by rcases q with q | q; exact q; exact absurd q hs⟩
/-- one step of the checker's row -/
def stC (G : GT) (i : Nat) (ss : Nat → Int32) : Nat → Int32 := m_Ch_passOn ss (G.2 i) ((nI i) + (1 : Int32)) (if m_In_storesCell (m_In_codeOf (G.2 i)) = (0 : Int32) then ss i ||| (0 : Int32) else ss i ||| ((1 : Int32) <<< (((m_In_operandOf (G.2 i)).toInt32) &&& 31)))
theorem st_cell (cd : Int32) : ¬ m_In_storesCell cd = (0 : Int32) ↔ cd = (2 : Int32) ∨ cd = (3 : Int32) := by
  unfold m_In_storesCell
  by_cases h2 : cd = (2 : Int32)
  · rw [if_pos h2]; simp [h2]
  · rw [if_neg h2]
    by_cases h3 : cd = (3 : Int32)
    · rw [if_pos h3]; simp [h3]
    · rw [if_neg h3]; simp [h2, h3]
theorem ld_cell (cd : Int32) : ¬ m_In_loadsCell cd = (0 : Int32) ↔ cd = (96 : Int32) ∨ cd = (97 : Int32) := by
  unfold m_In_loadsCell
  by_cases h2 : cd = (96 : Int32)
  · rw [if_pos h2]; simp [h2]
  · rw [if_neg h2]
    by_cases h3 : cd = (97 : Int32)
    · rw [if_pos h3]; simp [h3]
    · rw [if_neg h3]; simp [h2, h3]
theorem cell_lt (hG : iN G.1 ≤ 64) (hok : ∀ i, i < iN G.1 → m_Ch_ownFault G (nI i) = 0) {i : Nat} (hi : i < iN G.1) (h : m_In_codeOf (G.2 i) = 96 ∨ m_In_codeOf (G.2 i) = 97 ∨ m_In_codeOf (G.2 i) = 2 ∨ m_In_codeOf (G.2 i) = 3) : uN (m_In_operandOf (G.2 i)) < 16 := by
  have h2 := (of_ok (hok i hi)).2.1
  rw [nI_clamp (show i < 2 ^ 31 by omega)] at h2
  exact fit_cell (opnd_lt _) h h2
def IV (G : GT) (c : Nat) (ss m2 : Nat → Int32) : Prop := ∀ t, t < iN G.1 → (tb (ss t) c = false ↔ ¬ m2 t = (0 : Int32))
theorem iv_step (hG : iN G.1 ≤ 64) (hok : ∀ i, i < iN G.1 → m_Ch_ownFault G (nI i) = 0) {i : Nat} (hi : i < iN G.1) {cell : Int64} {ss m2 : Nat → Int32} (h : IV G (uN cell) ss m2) : IV G (uN cell) (stC G i ss) (stM G cell i m2) := by
  intro t ht
  unfold stC
  rw [pass_bit hG hok hi, st_mark hG hok hi, h t ht]
  have hsd : tb (if m_In_storesCell (m_In_codeOf (G.2 i)) = (0 : Int32) then ss i ||| (0 : Int32) else ss i ||| ((1 : Int32) <<< (((m_In_operandOf (G.2 i)).toInt32) &&& 31))) (uN cell) = false ↔ ¬ m2 i = (0 : Int32) ∧ ¬ ((m_In_codeOf (G.2 i) = (2 : Int32) ∨ m_In_codeOf (G.2 i) = (3 : Int32)) ∧ m_In_operandOf (G.2 i) = cell) := by
    rw [← h i hi]
    by_cases hs : m_In_storesCell (m_In_codeOf (G.2 i)) = (0 : Int32)
    · rw [if_pos hs, tb_or, tb_0, Bool.or_false]
      have hn : ¬ (m_In_codeOf (G.2 i) = (2 : Int32) ∨ m_In_codeOf (G.2 i) = (3 : Int32)) := fun q => (st_cell _).mpr q hs
      exact ⟨fun q => ⟨q, fun z => hn z.1⟩, fun q => q.1⟩
    · rw [if_neg hs]
      have hy := (st_cell _).mp hs
      have hl := cell_lt hG hok hi (by rcases hy with q | q; exact Or.inr (Or.inr (Or.inl q)); exact Or.inr (Or.inr (Or.inr q)))
      rw [tb_or, tb_bit (by rw [k_n]; exact hl), k_n]
      have he : uN (m_In_operandOf (G.2 i)) = uN cell ↔ m_In_operandOf (G.2 i) = cell := uN_eq.symm
      by_cases hk : m_In_operandOf (G.2 i) = cell
      · rw [decide_eq_true (he.mpr hk), Bool.or_true]
        exact ⟨fun q => (by cases q), fun q => absurd ⟨hy, hk⟩ q.2⟩
      · rw [decide_eq_false (fun q => hk (he.mp q)), Bool.or_false]
        exact ⟨fun q => ⟨q, fun z => hk z.2⟩, fun q => q.1⟩
  rw [hsd]
def itC (G : GT) (s0 : Nat → Int32) : Nat → Nat → Int32
  | 0 => s0
  | i + 1 => stC G i (itC G s0 i)
def itM (G : GT) (cell : Int64) (m0 : Nat → Int32) : Nat → Nat → Int32
  | 0 => m0
  | i + 1 => stM G cell i (itM G cell m0 i)
def iniC (G : GT) (s0 : Nat → Int32) : Prop := ∀ t, t < iN G.1 → s0 t = if t = 0 then (0 : Int32) else 65535
def iniM (G : GT) (m0 : Nat → Int32) : Prop := ∀ t, t < iN G.1 → m0 t = if t = 0 then (1 : Int32) else 0
theorem iv_all (hG : iN G.1 ≤ 64) (hok : ∀ i, i < iN G.1 → m_Ch_ownFault G (nI i) = 0) {cell : Int64} (hc : uN cell < 16) {s0 m0 : Nat → Int32} (h1 : iniC G s0) (h2 : iniM G m0) : ∀ i, i ≤ iN G.1 → IV G (uN cell) (itC G s0 i) (itM G cell m0 i) := by
  intro i
  induction i with
  | zero =>
    intro _ t ht
    show tb (s0 t) _ = false ↔ ¬ m0 t = 0
    rw [h1 t ht, h2 t ht]
    by_cases e : t = 0
    · rw [if_pos e, if_pos e]
      exact ⟨fun _ => by decide, fun _ => tb_0 _⟩
    · rw [if_neg e, if_neg e]
      have hb : ∀ c, c < 16 → tb (65535 : Int32) c = true := by decide +kernel
      rw [hb _ hc]
      exact ⟨fun q => (by cases q), fun q => absurd rfl q⟩
  | succ i ih =>
    intro hi
    exact iv_step hG hok (by omega) (ih (by omega))
theorem bare_it {mk : Nat → Int32} {to : Int32} {cell : Int64} {m0 : Nat → Int32} (ht : iN to < 64) : ∀ n i : Nat, 64 - i < n → i ≤ iN to → (m_M_bare_l2 G mk to cell n i (itM G cell m0 i)).1 = itM G cell m0 (iN to) (iN to) := by
  intro n
  induction n with
  | zero => intro i h; exact absurd h (Nat.not_lt_zero _)
  | succ n ih =>
    intro i h hi
    rw [bare_st (by omega)]
    by_cases h1 : to ≤ nI i
    · rw [if_pos h1]
      rw [le_n (by omega) (by rw [iN_nIs (by omega)]; omega), iN_nIs (by omega)] at h1
      have e : i = iN to := by omega
      subst e
      rw [iN_clamp (by omega)]
    · rw [if_neg h1]
      have hl := nt_lt ht hi h1
      exact ih (i + 1) (by omega) (by omega)
theorem bare_in {mk : Nat → Int32} {to : Int32} {cell : Int64} (hG : iN G.1 ≤ 64) : ∀ (n j : Nat) (m1 : Nat → Int32), 64 - j < n → j ≤ iN G.1 → (∀ t, t < j → m1 t = if t = 0 then (1 : Int32) else 0) → ∃ m0, iniM G m0 ∧ m_M_bare_l1 G mk to cell n j m1 = m_M_bare_l2 G mk to cell 65 0 m0 := by
  intro n
  induction n with
  | zero => intro j m1 h; exact absurd h (Nat.not_lt_zero _)
  | succ n ih =>
    intro j m1 h hj hm
    rw [m_M_bare_l1]
    by_cases h1 : G.1 ≤ nI j
    · rw [if_pos h1]
      rw [le_n (by omega) (by rw [iN_nIs (by omega)]; omega), iN_nIs (by omega)] at h1
      exact ⟨m1, fun t ht => hm t (by omega), rfl⟩
    · rw [if_neg h1, nI_clamp (show j < 2 ^ 31 by omega)]
      have hl := nj_lt hG (by decide) (show j ≤ 64 by omega) h1
      by_cases h2 : nI j = (0 : Int32)
      · rw [if_pos h2]
        have e0 : j = 0 := by
          have := congrArg iN h2
          rw [iN_nIs (by omega), show iN (0 : Int32) = 0 from rfl] at this
          exact this
        refine ih (j + 1) _ (by omega) (by omega) (fun t ht => ?_)
        by_cases e : t = j
        · rw [e, upd_at, if_pos e0]
        · omega
      · rw [if_neg h2]
        refine ih (j + 1) _ (by omega) (by omega) (fun t ht => ?_)
        by_cases e : t = j
        · rw [e, upd_at, if_neg (fun q => h2 (by rw [q]; rfl))]
        · rw [upd_ne e]
          exact hm t (by omega)
theorem bare_val {mk : Nat → Int32} {to : Int32} {cell : Int64} (hG : iN G.1 ≤ 64) (ht : iN to < iN G.1) : ∃ m0, iniM G m0 ∧ (m_M_bare G mk to cell).1 = itM G cell m0 (iN to) (iN to) := by
  obtain ⟨m0, a, b⟩ := bare_in (mk := mk) (to := to) (cell := cell) hG 65 0 mk (by decide) (Nat.zero_le _) (fun t h => absurd h (Nat.not_lt_zero _))
  refine ⟨m0, a, ?_⟩
  unfold m_M_bare
  rw [b]
  exact bare_it (m0 := m0) (by omega) 65 0 (by decide) (Nat.zero_le _)
theorem lu_in {ss : Nat → Int32} (hG : iN G.1 ≤ 64) (h0 : 0 < iN G.1) : ∀ (n j : Nat) (s1 : Nat → Int32), 64 - j < n → j ≤ iN G.1 → (∀ t, t < j → s1 t = 65535) → ∃ s0, iniC G s0 ∧ m_Ch_leastUnset_l1 G ss n j s1 = m_Ch_leastUnset_l2 G ss 65 0 s0 := by
  intro n
  induction n with
  | zero => intro j m1 h; exact absurd h (Nat.not_lt_zero _)
  | succ n ih =>
    intro j s1 h hj hm
    rw [m_Ch_leastUnset_l1]
    by_cases h1 : G.1 ≤ nI j
    · rw [if_pos h1]
      rw [le_n (by omega) (by rw [iN_nIs (by omega)]; omega), iN_nIs (by omega)] at h1
      refine ⟨_, fun t ht => ?_, rfl⟩
      by_cases e : t = 0
      · rw [e, upd_at, if_pos rfl]
      · rw [upd_ne e, if_neg e]
        exact hm t (by omega)
    · rw [if_neg h1, nI_clamp (show j < 2 ^ 31 by omega)]
      have hl := nj_lt hG (by decide) (show j ≤ 64 by omega) h1
      refine ih (j + 1) _ (by omega) (by omega) (fun t ht => ?_)
      by_cases e : t = j
      · rw [e, upd_at]
      · rw [upd_ne e]
        exact hm t (by omega)
theorem lu_ck {ss s0 mk : Nat → Int32} (hG : iN G.1 ≤ 64) (hok : ∀ i, i < iN G.1 → m_Ch_ownFault G (nI i) = 0) (hs : iniC G s0) : ∀ (n i : Nat) (m2 : Nat → Int32), 64 - i < n → i ≤ iN G.1 → (m_M_check_l2 G mk n i m2).1 = if (m_Ch_leastUnset_l2 G ss n i (itC G s0 i)).1 = (-1 : Int32) then (0 : Int32) else (600 : Int32) + (m_Ch_leastUnset_l2 G ss n i (itC G s0 i)).1 := by
  intro n
  induction n with
  | zero => intro i m2 h; exact absurd h (Nat.not_lt_zero _)
  | succ n ih =>
    intro i m2 h hi
    rw [m_M_check_l2, m_Ch_leastUnset_l2]
    by_cases h1 : G.1 ≤ nI i
    · rw [if_pos h1, if_pos h1, if_pos rfl]
    rw [if_neg h1, if_neg h1, nI_clamp (show i < 2 ^ 31 by omega)]
    have hl := nj_lt hG (by decide) (show i ≤ 64 by omega) h1
    have ecl : (nI i).toNatClampNeg = i := nI_clamp (by omega)
    have e1 : m_M_code G (nI i) = m_In_codeOf (G.2 i) := by rw [code_eq, ecl]
    have e2 : m_M_k G (nI i) = m_In_operandOf (G.2 i) := by rw [k_eq, ecl]
    have en := iN_nIs (n := i) (by omega)
    rw [e1, e2]
    have st : (if m_In_storesCell (m_In_codeOf (G.2 i)) = (0 : Int32) then m_Ch_leastUnset_l2 G ss n (i + 1) (m_Ch_passOn (itC G s0 i) (G.2 i) ((nI i) + (1 : Int32)) ((itC G s0 i i) ||| (0 : Int32))) else m_Ch_leastUnset_l2 G ss n (i + 1) (m_Ch_passOn (itC G s0 i) (G.2 i) ((nI i) + (1 : Int32)) ((itC G s0 i i) ||| ((1 : Int32) <<< (((m_In_operandOf (G.2 i)).toInt32) &&& 31))))) = m_Ch_leastUnset_l2 G ss n (i + 1) (itC G s0 (i + 1)) := by
      show _ = m_Ch_leastUnset_l2 G ss n (i + 1) (stC G i (itC G s0 i))
      unfold stC
      by_cases q : m_In_storesCell (m_In_codeOf (G.2 i)) = (0 : Int32)
      · rw [if_pos q, if_pos q]
      · rw [if_neg q, if_neg q]
    rw [st]
    by_cases hld : m_In_loadsCell (m_In_codeOf (G.2 i)) = (0 : Int32)
    · rw [if_pos hld]
      have n96 : ¬ m_In_codeOf (G.2 i) = (96 : Int32) := fun q => (ld_cell _).mpr (Or.inl q) hld
      have n97 : ¬ m_In_codeOf (G.2 i) = (97 : Int32) := fun q => (ld_cell _).mpr (Or.inr q) hld
      rw [if_neg n96, if_neg n97]
      exact ih (i + 1) m2 (by omega) (by omega)
    · rw [if_neg hld]
      have hy := (ld_cell _).mp hld
      have hc := cell_lt hG hok hl (by rcases hy with q | q; exact Or.inl q; exact Or.inr (Or.inl q))
      obtain ⟨m0, a, b⟩ := bare_val (mk := m2) (to := nI i) (cell := m_In_operandOf (G.2 i)) hG (by omega)
      rw [en] at b
      have iv := iv_all hG hok hc hs a i (by omega) i hl
      have hbit : (itC G s0 i i) &&& ((1 : Int32) <<< (((m_In_operandOf (G.2 i)).toInt32) &&& 31)) = (0 : Int32) ↔ ¬ (m_M_bare G m2 (nI i) (m_In_operandOf (G.2 i))).1 = (0 : Int32) := by
        rw [and_bit (by rw [k_n]; exact hc), k_n, iv, b]
      have hcd : (if m_In_codeOf (G.2 i) = (96 : Int32) then if (m_M_bare G m2 (nI i) (m_In_operandOf (G.2 i))).1 = (0 : Int32) then m_M_check_l2 G mk n (i + 1) (m_M_bare G m2 (nI i) (m_In_operandOf (G.2 i))).2 else ((600 : Int32) + (nI i), (m_M_bare G m2 (nI i) (m_In_operandOf (G.2 i))).2) else if m_In_codeOf (G.2 i) = (97 : Int32) then if (m_M_bare G m2 (nI i) (m_In_operandOf (G.2 i))).1 = (0 : Int32) then m_M_check_l2 G mk n (i + 1) (m_M_bare G m2 (nI i) (m_In_operandOf (G.2 i))).2 else ((600 : Int32) + (nI i), (m_M_bare G m2 (nI i) (m_In_operandOf (G.2 i))).2) else m_M_check_l2 G mk n (i + 1) m2) = if (m_M_bare G m2 (nI i) (m_In_operandOf (G.2 i))).1 = (0 : Int32) then m_M_check_l2 G mk n (i + 1) (m_M_bare G m2 (nI i) (m_In_operandOf (G.2 i))).2 else ((600 : Int32) + (nI i), (m_M_bare G m2 (nI i) (m_In_operandOf (G.2 i))).2) := by
        rcases hy with q | q
        · rw [if_pos q]
        · rw [if_neg (by rw [q]; decide), if_pos q]
      rw [hcd]
      by_cases hb : (itC G s0 i i) &&& ((1 : Int32) <<< (((m_In_operandOf (G.2 i)).toInt32) &&& 31)) = (0 : Int32)
      · rw [if_pos hb, if_neg (hbit.mp hb), if_neg]
        intro q
        have q : nI i = (-1 : Int32) := q
        have := congrArg iN q
        rw [en, show iN (-1 : Int32) = 4294967295 from rfl] at this
        omega
      · rw [if_neg hb, if_pos (Classical.byContradiction (fun q => hb (hbit.mpr q)))]
        exact ih (i + 1) _ (by omega) (by omega)
theorem vc_l {ss mk : Nat → Int32} (hG : iN G.1 ≤ 64) (h0 : ¬ G.1 = (0 : Int32)) : ∀ n j : Nat, 64 - j < n → j ≤ iN G.1 → (∀ i, i < j → m_Ch_ownFault G (nI i) = 0) → (m_Ch_verdictOn_l1 G ss n j).1 = (m_M_check_l1 G mk n j).1 := by
  intro n
  induction n with
  | zero => intro j h; exact absurd h (Nat.not_lt_zero _)
  | succ n ih =>
    intro j h hj hok
    rw [m_Ch_verdictOn_l1, m_M_check_l1]
    by_cases h1 : G.1 ≤ nI j
    · rw [if_pos h1, if_pos h1]
      have hall := ok_all hG (show j ≤ 64 by omega) hok h1
      have ee : m_M_ends G (G.1 - (1 : Int32)) = m_In_endsRun (m_In_codeOf (G.2 (G.1 - (1 : Int32)).toNatClampNeg)) := rfl
      rw [ee]
      by_cases h2 : m_In_endsRun (m_In_codeOf (G.2 (G.1 - (1 : Int32)).toNatClampNeg)) = (0 : Int32)
      · rw [if_pos h2, if_pos h2]
        show (500 : Int32) + (G.1 - (1 : Int32)) = ((500 : Int32) + G.1) - (1 : Int32)
        apply iN_inj
        have hp := n_pos h0
        rw [iN_add, iN_pred h0, iN_sub, iN_add, show iN (500 : Int32) = 500 from rfl, show iN (1 : Int32) = 1 from rfl]
        omega
      · rw [if_neg h2, if_neg h2]
        obtain ⟨s0, a, b⟩ := lu_in (ss := ss) hG (n_pos h0) 65 0 ss (by decide) (Nat.zero_le _) (fun t q => absurd q (Nat.not_lt_zero _))
        have hl := lu_ck (ss := ss) (mk := mk) hG hall a 65 0 mk (by decide) (Nat.zero_le _)
        rw [hl]
        have eb : m_Ch_leastUnset G ss = m_Ch_leastUnset_l2 G ss 65 0 (itC G s0 0) := by
          unfold m_Ch_leastUnset
          exact b
        rw [eb]
        by_cases q : (m_Ch_leastUnset_l2 G ss 65 0 (itC G s0 0)).1 = (-1 : Int32)
        · rw [if_pos q, if_pos q]
        · rw [if_neg q, if_neg q]
    · rw [if_neg h1, if_neg h1]
      have hl := nj_lt hG (by decide) (show j ≤ 64 by omega) h1
      rw [fault_eq hG (by rw [iN_nIs (by omega)]; exact hl)]
      by_cases h2 : m_Ch_ownFault G (nI j) = (0 : Int32)
      · rw [if_pos h2, if_pos h2]
        exact ih (j + 1) (by omega) (by omega) (ok_step hok h2)
      · rw [if_neg h2, if_neg h2]
theorem check_eq (hG : iN G.1 ≤ 64) (ss mk : Nat → Int32) : (m_Ch_verdictOn G ss).1 = (m_M_check G mk).1 := by
  unfold m_Ch_verdictOn m_M_check
  by_cases h0 : G.1 = (0 : Int32)
  · rw [if_pos h0, if_pos h0]
  · rw [if_neg h0, if_neg h0]
    exact vc_l hG h0 65 0 (by decide) (Nat.zero_le _) (fun i q => absurd q (Nat.not_lt_zero _))
end CK
theorem cl2_b {G : GT} {mk : Nat → Int32} (h0 : ∀ i, b01 (mk i)) : ∀ (n i : Nat) (m2 : Nat → Int32), (∀ i, b01 (m2 i)) → ∀ j, b01 ((m_M_check_l2 G mk n i m2).2 j) := by
  intro n
  induction n with
  | zero => intro i m2 h; exact h0
  | succ n ih =>
    intro i m2 h
    rw [m_M_check_l2]
    repeat' split
    all_goals first | exact h | exact ih _ _ h | exact ih _ _ (bare_b h) | exact bare_b h
theorem cl1_b {G : GT} {mk : Nat → Int32} (h0 : ∀ i, b01 (mk i)) : ∀ n j : Nat, ∀ k, b01 ((m_M_check_l1 G mk n j).2 k) := by
  intro n
  induction n with
  | zero => intro j; exact h0
  | succ n ih =>
    intro j
    rw [m_M_check_l1]
    repeat' split
    all_goals first | exact h0 | exact ih _ | exact cl2_b h0 _ _ _ h0
theorem check_b {G : GT} {mk : Nat → Int32} (h : ∀ i, b01 (mk i)) : ∀ k, b01 ((m_M_check G mk).2 k) := by
  unfold m_M_check
  split
  · exact h
  · exact cl1_b h _ _
