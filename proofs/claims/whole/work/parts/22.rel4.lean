/-! A run goes alike -/
theorem hs_tb (M : MT) {i : Nat} (hi : i < 16) : m_Ma_hasStored M (nI i) = (0 : Int32) ↔ tb M.2.2.1 i = false := by
  have e : iN ((M.2.2.1.toUInt32 >>> ((nI i).toUInt32 &&& Int32.toUInt32 31)).toInt32 &&& (1 : Int32)) = iN M.2.2.1 / 2 ^ i % 2 := by
    rw [iN_and, iN_ushr, iN_nIs (by omega), Nat.mod_eq_of_lt (show i < 32 by omega), show iN (1 : Int32) = 1 from rfl, Nat.and_one_is_mod]
  have ht : tb M.2.2.1 i = decide (iN M.2.2.1 / 2 ^ i % 2 = 1) := Nat.testBit_eq_decide_div_mod_eq
  unfold m_Ma_hasStored
  rw [ht]
  by_cases q : (M.2.2.1.toUInt32 >>> ((nI i).toUInt32 &&& Int32.toUInt32 31)).toInt32 &&& (1 : Int32) = (0 : Int32)
  · rw [if_pos q]
    rw [q, show iN (0 : Int32) = 0 from rfl] at e
    exact ⟨fun _ => decide_eq_false (by omega), fun _ => rfl⟩
  · rw [if_neg q]
    have h0 : ¬ iN M.2.2.1 / 2 ^ i % 2 = 0 := fun z => q (iN_inj (e.trans z))
    refine ⟨fun z => absurd z (by decide), fun z => ?_⟩
    have := of_decide_eq_false z
    omega
theorem un_inj {a b : Int32} (h : m_F_unsigned a = m_F_unsigned b) : a = b := iN_inj (by rw [← un_n, ← un_n, h])
theorem un_lt (a : Int32) : uN (m_F_unsigned a) < 4294967296 := by
  rw [un_n]
  exact iN_lt a
theorem un_k (z : Int64) : m_F_unsigned (m_In_operandOf z).toInt32 = m_In_operandOf z := uN_inj (by rw [un_n, k_n])
/-! The operations on numbers -/
theorem al_add (a y : Int32) : m_F_unsigned (a + y) = (m_F_unsigned a + m_F_unsigned y) &&& (4294967295 : Int64) := uN_inj (by
  rw [un_n, uN_lo, uN_add, un_n, un_n, iN_add]
  omega)
theorem al_sub (a y : Int32) : m_F_unsigned (a - y) = (m_F_unsigned a - m_F_unsigned y) &&& (4294967295 : Int64) := uN_inj (by
  rw [un_n, uN_lo, uN_sub, un_n, un_n, iN_sub]
  have := iN_lt a
  have := iN_lt y
  omega)
theorem al_mul (a y : Int32) : m_F_unsigned (a * y) = (m_F_unsigned a * m_F_unsigned y) &&& (4294967295 : Int64) := uN_inj (by
  rw [un_n, uN_lo, uN_mul, un_n, un_n, iN_mul]
  generalize iN a * iN y = p
  omega)
theorem al_div {a y : Int32} (h : ¬ y = (0 : Int32)) : m_F_unsigned (m_F_unsigned a / m_F_unsigned y).toInt32 = m_F_unsigned a / m_F_unsigned y := uN_inj (by
  have hy := n_pos h
  have h1 := un_lt a
  have h2 := un_lt y
  rw [un_n, iN_tr, uN_div (by omega) (by omega) (by rw [un_n]; exact hy)]
  exact Nat.mod_eq_of_lt (Nat.lt_of_le_of_lt (Nat.div_le_self _ _) h1))
theorem al_or (a y : Int32) : m_F_unsigned (a ||| y) = m_F_unsigned a ||| m_F_unsigned y := uN_inj (by rw [un_n, uN_orr, un_n, un_n, iN_or])
theorem al_and (a y : Int32) : m_F_unsigned (a &&& y) = m_F_unsigned a &&& m_F_unsigned y := uN_inj (by rw [un_n, uN_and, un_n, un_n, iN_and])
theorem al_xor (a y : Int32) : m_F_unsigned (a ^^^ y) = m_F_unsigned a ^^^ m_F_unsigned y := uN_inj (by rw [un_n, uN_xorr, un_n, un_n, iN_xor])
theorem cnt_n (y : Int32) : iN ((m_F_unsigned y - m_F_unsigned y / (32 : Int64) * (32 : Int64)).toInt32) = iN y % 32 := by
  rw [iN_tr, uN_r32 (un_lt y), un_n]
  omega
theorem al_shl (a y : Int32) : m_F_unsigned (a <<< ((y &&& (31 : Int32)) &&& 31)) = (m_F_unsigned a <<< (((m_F_unsigned y - m_F_unsigned y / (32 : Int64) * (32 : Int64)).toInt32).toInt64 &&& 63)) &&& (4294967295 : Int64) := uN_inj (by
  rw [un_n, uN_lo, uN_lshl _ (by rw [cnt_n]; omega), cnt_n, un_n, iN_shl, iN_m5, Nat.mod_mod]
  generalize iN a * 2 ^ (iN y % 32) = p
  omega)
theorem al_shr (a y : Int32) : m_F_unsigned (a.toUInt32 >>> ((y &&& (31 : Int32)).toUInt32 &&& Int32.toUInt32 31)).toInt32 = m_F_unsigned a >>> (((m_F_unsigned y - m_F_unsigned y / (32 : Int64) * (32 : Int64)).toInt32).toInt64 &&& 63) := uN_inj (by
  have h := un_lt a
  rw [un_n, uN_lshr (by omega) (by rw [cnt_n]; omega), cnt_n, un_n, iN_ushr, iN_m5, Nat.mod_mod])
theorem al_neg (a : Int32) : m_F_unsigned (-a) = ((0 : Int64) - m_F_unsigned a) &&& (4294967295 : Int64) := uN_inj (by
  rw [un_n, uN_lo, uN_sub, un_n, iN_neg, show uN (0 : Int64) = 0 from rfl]
  have := iN_lt a
  omega)
/-! Families of codes -/
theorem kl_op : ∀ cd ∈ KL, ¬ m_M_operation cd = (0 : Int32) → cd &&& (7 : Int32) = (4 : Int32) ∧ ((cd &&& (240 : Int32) = 0 ∧ cd &&& (-9 : Int32) = 4) ∨ (cd &&& (240 : Int32) = 16 ∧ cd &&& (-9 : Int32) = 20) ∨ (cd &&& (240 : Int32) = 32 ∧ cd &&& (-9 : Int32) = 36) ∨ (cd &&& (240 : Int32) = 48 ∧ cd &&& (-9 : Int32) = 52) ∨ (cd &&& (240 : Int32) = 64 ∧ cd &&& (-9 : Int32) = 68) ∨ (cd &&& (240 : Int32) = 80 ∧ cd &&& (-9 : Int32) = 84) ∨ (cd &&& (240 : Int32) = 96 ∧ cd &&& (-9 : Int32) = 100) ∨ (cd &&& (240 : Int32) = 112 ∧ cd &&& (-9 : Int32) = 116) ∨ (cd &&& (240 : Int32) = 160 ∧ cd &&& (-9 : Int32) = 164)) := by decide +kernel
theorem kl_br : ∀ cd ∈ KL, ¬ m_M_branch cd = (0 : Int32) → cd &&& (7 : Int32) = (5 : Int32) ∧ ¬ cd = (5 : Int32) ∧ ((cd &&& (240 : Int32) = 16 ∧ cd &&& (-9 : Int32) = 21) ∨ (cd &&& (240 : Int32) = 32 ∧ cd &&& (-9 : Int32) = 37) ∨ (cd &&& (240 : Int32) = 48 ∧ cd &&& (-9 : Int32) = 53) ∨ (cd &&& (240 : Int32) = 64 ∧ cd &&& (-9 : Int32) = 69)) := by decide +kernel
theorem kl_mv : ∀ cd ∈ KL, m_In_endsRun cd = (0 : Int32) → m_M_operation cd = (0 : Int32) → m_M_branch cd = (0 : Int32) → ¬ cd = (5 : Int32) → cd = 0 ∨ cd = 32 ∨ cd = 96 ∨ cd = 128 ∨ cd = 1 ∨ cd = 97 ∨ cd = 129 ∨ cd = 2 ∨ cd = 3 ∨ cd = 7 ∨ cd = 135 ∨ cd = 132 := by decide +kernel
/-! What the class does, family by family -/
section PF
variable {w : Nat → Int32} {M : MT} {z : Int64}
theorem pf4 (h : m_In_codeOf z &&& (7 : Int32) = (4 : Int32)) : m_Ma_perform w M z = m_Ma_compute M (m_In_codeOf z &&& (240 : Int32)) (if m_In_codeOf z &&& (8 : Int32) = (0 : Int32) then (m_In_operandOf z).toInt32 else M.2.2.2.2.1) := by
  unfold m_Ma_perform
  generalize m_In_codeOf z = cd at h ⊢
  by_cases h8 : cd &&& (8 : Int32) = (0 : Int32)
  · rw [if_pos h8, if_pos h8, h]
    rfl
  · rw [if_neg h8, if_neg h8, h]
    rfl
theorem pf5 (h : m_In_codeOf z &&& (7 : Int32) = (5 : Int32)) : m_Ma_perform w M z = m_Ma_jump M z (m_In_codeOf z) (if m_In_codeOf z &&& (8 : Int32) = (0 : Int32) then (m_In_operandOf z).toInt32 else M.2.2.2.2.1) := by
  unfold m_Ma_perform
  generalize m_In_codeOf z = cd at h ⊢
  by_cases h8 : cd &&& (8 : Int32) = (0 : Int32)
  · rw [if_pos h8, if_pos h8, h]
    rfl
  · rw [if_neg h8, if_neg h8, h]
    rfl
theorem pf_lit {cd : Int32} (h : m_In_codeOf z = cd) : m_Ma_perform w M z = (if (cd &&& (8 : Int32)) = (0 : Int32) then if (cd &&& (7 : Int32)) = (0 : Int32) then (M.1, M.2.1, M.2.2.1, m_Ma_load w M cd ((m_In_operandOf z).toInt32), M.2.2.2.2.1, M.2.2.2.2.2.1, M.2.2.2.2.2.2.1, M.2.2.2.2.2.2.2) else if (cd &&& (7 : Int32)) = (1 : Int32) then (M.1, M.2.1, M.2.2.1, M.2.2.2.1, m_Ma_load w M cd ((m_In_operandOf z).toInt32), M.2.2.2.2.2.1, M.2.2.2.2.2.2.1, M.2.2.2.2.2.2.2) else if (cd &&& (7 : Int32)) = (2 : Int32) then (m_Ma_store M ((m_In_operandOf z).toInt32) M.2.2.2.1) else if (cd &&& (7 : Int32)) = (3 : Int32) then (m_Ma_store M ((m_In_operandOf z).toInt32) M.2.2.2.2.1) else if (cd &&& (7 : Int32)) = (4 : Int32) then (m_Ma_compute M (cd &&& (240 : Int32)) ((m_In_operandOf z).toInt32)) else if (cd &&& (7 : Int32)) = (5 : Int32) then (m_Ma_jump M z cd ((m_In_operandOf z).toInt32)) else if (cd &&& (7 : Int32)) = (6 : Int32) then if cd = (6 : Int32) then (m_Ma_end M ((m_In_operandOf z).toInt32)) else (m_Ma_end M M.2.2.2.1) else (m_Ma_copy M cd) else m_Ma_perform w M z) := by
  by_cases h8 : (cd &&& (8 : Int32)) = (0 : Int32)
  · rw [if_pos h8, ← h]
    unfold m_Ma_perform
    rw [if_pos (by rw [h]; exact h8)]
  · rw [if_neg h8]
end PF
/-- the cells and what is stored, alike -/
def SimC (cl : Nat → Int32) (st : Int32) (cX : Nat → Int64) (sX : Nat → Int32) : Prop := (∀ i, i < 16 → cX i = m_F_unsigned (cl i)) ∧ ∀ i, i < 16 → (tb st i = false ↔ sX i = 0)
theorem simC_store {cl : Nat → Int32} {st : Int32} {cX : Nat → Int64} {sX : Nat → Int32} (h : SimC cl st cX sX) {k v : Int32} (hk : iN k < 16) : SimC (upd cl (iN k) v) (st ||| ((1 : Int32) <<< (k &&& 31))) (vp_updL cX (iN k) (m_F_unsigned v)) (upd sX (iN k) 1) := by
  refine ⟨fun i hi => ?_, fun i hi => ?_⟩
  · by_cases e : i = iN k
    · rw [e, updL_at, upd_at]
    · rw [updL_ne e, upd_ne e]
      exact h.1 i hi
  · rw [tb_or, tb_bit hk]
    by_cases e : i = iN k
    · rw [e, upd_at, decide_eq_true rfl, Bool.or_true]
      exact ⟨fun q => (by cases q), fun q => absurd q (by decide)⟩
    · rw [upd_ne e, decide_eq_false (fun q => e q.symm), Bool.or_false]
      exact h.2 i hi
theorem sim_rel {cl : Nat → Int32} {st a x nx en rs : Int32} {cX : Nat → Int64} {sX : Nat → Int32} {aX xX : Int64} {sp : Nat} (h : SimC cl st cX sX) (h1 : 1 ≤ sp) (h2 : sp ≤ 64) : RelM (cl, nI sp, st, a, x, nx, en, rs) (nI sp, aX, xX, cX, sX) := by
  have hn : ¬ nI sp = (0 : Int32) := nI_ne0 (by omega) (by omega)
  exact ⟨rfl, fun q => absurd q hn, h.1, fun _ i hi => (hs_tb _ hi).trans (h.2 i hi)⟩
theorem add_swap (x d : Int32) : x + (1 : Int32) + d = x + d + 1 := by
  apply iN_inj
  rw [iN_add, iN_add, iN_add, iN_add, show iN (1 : Int32) = 1 from rfl]
  omega
section RUN
variable {w : Nat → Int32} {G : GT} {mk : Nat → Int32} {X : XT} {M : MT}
theorem alu {cl : Nat → Int32} {dn st a x nx rs y : Int32} {cX : Nat → Int64} {sX : Nat → Int32} {dX : Int32} {xX : Int64} {op q : Int32} (hq : ((op = 0 ∧ q = 4) ∨ (op = 16 ∧ q = 20) ∨ (op = 32 ∧ q = 36) ∨ (op = 48 ∧ q = 52) ∨ (op = 64 ∧ q = 68) ∨ (op = 80 ∧ q = 84) ∨ (op = 96 ∧ q = 100) ∨ (op = 112 ∧ q = 116) ∨ (op = 160 ∧ q = 164))) (h0 : q = (52 : Int32) → ¬ y = (0 : Int32)) : ∃ A, m_Ma_compute (cl, dn, st, a, x, nx, (0 : Int32), rs) op y = (cl, dn, st, A, x, nx, (0 : Int32), rs) ∧ m_M_combine (dX, m_F_unsigned a, xX, cX, sX) q (m_F_unsigned y) = m_F_unsigned A := by
  unfold m_Ma_compute m_M_combine
  rcases hq with ⟨rfl, rfl⟩ | ⟨rfl, rfl⟩ | ⟨rfl, rfl⟩ | ⟨rfl, rfl⟩ | ⟨rfl, rfl⟩ | ⟨rfl, rfl⟩ | ⟨rfl, rfl⟩ | ⟨rfl, rfl⟩ | ⟨rfl, rfl⟩
  · exact ⟨_, rfl, (al_add a y).symm⟩
  · exact ⟨_, rfl, (al_sub a y).symm⟩
  · exact ⟨_, rfl, (al_mul a y).symm⟩
  · refine ⟨(m_F_unsigned a / m_F_unsigned y).toInt32, ?_, (al_div (h0 rfl)).symm⟩
    show m_Ma_divide _ y = _
    unfold m_Ma_divide
    rw [if_neg (h0 rfl)]
  · exact ⟨_, rfl, (al_or a y).symm⟩
  · exact ⟨_, rfl, (al_and a y).symm⟩
  · exact ⟨_, rfl, (al_shl a y).symm⟩
  · exact ⟨_, rfl, (al_shr a y).symm⟩
  · exact ⟨_, rfl, (al_xor a y).symm⟩
theorem asks_eq {cl : Nat → Int32} {dn st a x nx en rs y : Int32} {cX : Nat → Int64} {sX : Nat → Int32} {dX : Int32} {xX : Int64} {op q : Int32} (hq : ((op = 16 ∧ q = 21) ∨ (op = 32 ∧ q = 37) ∨ (op = 48 ∧ q = 53) ∨ (op = 64 ∧ q = 69))) : m_Ma_passes (cl, dn, st, a, x, nx, en, rs) op y = m_M_asks (dX, m_F_unsigned a, xX, cX, sX) q (m_F_unsigned y) := by
  have e1 : lg_cmp (m_F_unsigned a) (m_F_unsigned y) = (0 : Int32) ↔ a = y := by
    rw [cmp_eq]
    exact ⟨un_inj, fun h => by rw [h]⟩
  have e2 : lg_cmp (m_F_unsigned a &&& m_F_unsigned y) (0 : Int64) = (0 : Int32) ↔ a &&& y = (0 : Int32) := by
    rw [cmp_eq, ← al_and, show (0 : Int64) = m_F_unsigned 0 from rfl]
    exact ⟨un_inj, fun h => by rw [h]⟩
  rcases hq with ⟨rfl, rfl⟩ | ⟨rfl, rfl⟩ | ⟨rfl, rfl⟩ | ⟨rfl, rfl⟩
  · show (if a = y then (1 : Int32) else 0) = (if lg_cmp (m_F_unsigned a) (m_F_unsigned y) = (0 : Int32) then 1 else 0)
    by_cases h : a = y
    · rw [if_pos h, if_pos (e1.mpr h)]
    · rw [if_neg h, if_neg (fun z => h (e1.mp z))]
  · rfl
  · rfl
  · show (if a &&& y = (0 : Int32) then (0 : Int32) else 1) = (if lg_cmp (m_F_unsigned a &&& m_F_unsigned y) (0 : Int64) = (0 : Int32) then 0 else 1)
    by_cases h : a &&& y = (0 : Int32)
    · rw [if_pos h, if_pos (e2.mpr h)]
    · rw [if_neg h, if_neg (fun z => h (e2.mp z))]
theorem move_eq {cl : Nat → Int32} {dn st a x nx rs : Int32} {cX : Nat → Int64} {sX : Nat → Int32} {dX : Int32} {z : Int64} (h : SimC cl st cX sX) (hz : OKz z) (hcd : m_In_codeOf z = 0 ∨ m_In_codeOf z = 32 ∨ m_In_codeOf z = 96 ∨ m_In_codeOf z = 128 ∨ m_In_codeOf z = 1 ∨ m_In_codeOf z = 97 ∨ m_In_codeOf z = 129 ∨ m_In_codeOf z = 2 ∨ m_In_codeOf z = 3 ∨ m_In_codeOf z = 7 ∨ m_In_codeOf z = 135 ∨ m_In_codeOf z = 132) : ∃ cl' st' a' x' cX' sX', m_Ma_perform w (cl, dn, st, a, x, nx, (0 : Int32), rs) z = (cl', dn, st', a', x', nx, (0 : Int32), rs) ∧ m_M_move w (dX, m_F_unsigned a, m_F_unsigned x, cX, sX) (m_In_codeOf z) (m_In_operandOf z) = (dX, m_F_unsigned a', m_F_unsigned x', cX', sX') ∧ SimC cl' st' cX' sX' := by
  have hk := un_k z
  have cell : vp_in (m_In_operandOf z).toInt32 16 → iN (m_In_operandOf z).toInt32 < 16 ∧ (m_In_operandOf z).toInt32.toNatClampNeg = iN (m_In_operandOf z).toInt32 := fun q => by
    have q2 := iN_in (by decide) q
    exact ⟨q2, iN_clamp (by omega)⟩
  obtain ⟨z1, z2, z3⟩ := hz
  unfold m_M_move
  rcases hcd with q | q | q | q | q | q | q | q | q | q | q | q
  · rw [pf_lit q, q]
    exact ⟨cl, st, (m_In_operandOf z).toInt32, x, cX, sX, rfl, by rw [hk]; rfl, h⟩
  · rw [pf_lit q, q]
    exact ⟨cl, st, w ((m_In_operandOf z).toInt32 / (4 : Int32)).toNatClampNeg, x, cX, sX, rfl, rfl, h⟩
  · obtain ⟨c1, c2⟩ := cell (z2 (by rw [q]; decide) (by rw [q]; decide))
    rw [pf_lit q, q, c2]
    refine ⟨cl, st, cl (iN (m_In_operandOf z).toInt32), x, cX, sX, ?_, ?_, h⟩
    · show (cl, dn, st, cl (m_In_operandOf z).toInt32.toNatClampNeg, x, nx, (0 : Int32), rs) = _
      rw [c2]
    · show (dX, cX (iN (m_In_operandOf z).toInt32), m_F_unsigned x, cX, sX) = _
      rw [h.1 _ c1]
  · rw [pf_lit q, q]
    exact ⟨cl, st, 64, x, cX, sX, rfl, rfl, h⟩
  · rw [pf_lit q, q]
    exact ⟨cl, st, a, (m_In_operandOf z).toInt32, cX, sX, rfl, by rw [hk]; rfl, h⟩
  · obtain ⟨c1, c2⟩ := cell (z2 (by rw [q]; decide) (by rw [q]; decide))
    rw [pf_lit q, q, c2]
    refine ⟨cl, st, a, cl (iN (m_In_operandOf z).toInt32), cX, sX, ?_, ?_, h⟩
    · show (cl, dn, st, a, cl (m_In_operandOf z).toInt32.toNatClampNeg, nx, (0 : Int32), rs) = _
      rw [c2]
    · show (dX, m_F_unsigned a, cX (iN (m_In_operandOf z).toInt32), cX, sX) = _
      rw [h.1 _ c1]
  · rw [pf_lit q, q]
    exact ⟨cl, st, a, 64, cX, sX, rfl, rfl, h⟩
  · obtain ⟨c1, c2⟩ := cell (z3 (by rw [q]; decide))
    rw [pf_lit q, q, c2]
    refine ⟨_, _, a, x, _, _, ?_, rfl, simC_store h c1⟩
    show m_Ma_store (cl, dn, st, a, x, nx, (0 : Int32), rs) (m_In_operandOf z).toInt32 a = _
    unfold m_Ma_store
    rw [c2]
  · obtain ⟨c1, c2⟩ := cell (z3 (by rw [q]; decide))
    rw [pf_lit q, q, c2]
    refine ⟨_, _, a, x, _, _, ?_, rfl, simC_store h c1⟩
    show m_Ma_store (cl, dn, st, a, x, nx, (0 : Int32), rs) (m_In_operandOf z).toInt32 x = _
    unfold m_Ma_store
    rw [c2]
  · rw [pf_lit q, q]
    exact ⟨cl, st, a, a, cX, sX, rfl, rfl, h⟩
  · rw [pf_lit q, q]
    exact ⟨cl, st, x, x, cX, sX, rfl, rfl, h⟩
  · rw [pf_lit q, q]
    exact ⟨cl, st, -a, x, cX, sX, rfl, by rw [al_neg]; rfl, h⟩
theorem run_sim (hG : iN G.1 ≤ 64) (hok : ∀ i, i < iN G.1 → m_Ch_ownFault G (nI i) = 0) (hend : ¬ m_M_ends G (nI (iN G.1 - 1)) = 0) : ∀ (n2 n1 : Nat) (at_ : Int32) (sp : Nat) (cl : Nat → Int32) (st a x rs : Int32) (dX : Int32) (cX : Nat → Int64) (sX : Nat → Int32), 65 - sp < n2 → 65 - sp < n1 → iN at_ < iN G.1 → 1 ≤ sp → sp ≤ iN at_ + 1 → SimC cl st cX sX →
    (m_Ma_execute_l1 w G M n1 (cl, nI (sp - 1), st, a, x, at_, (0 : Int32), rs)).1 = (m_M_run_l2 w G mk X n2 at_ sp (dX, m_F_unsigned a, m_F_unsigned x, cX, sX)).1 ∧ RelM (m_Ma_execute_l1 w G M n1 (cl, nI (sp - 1), st, a, x, at_, (0 : Int32), rs)).2 (m_M_run_l2 w G mk X n2 at_ sp (dX, m_F_unsigned a, m_F_unsigned x, cX, sX)).2.2 := by
  have hokM : ∀ i, i < iN G.1 → m_M_fault G (nI i) = 0 := fun i hi => by
    rw [fault_eq hG (by rw [iN_nIs (by omega)]; exact hi)]
    exact hok i hi
  intro n2
  induction n2 with
  | zero => intro n1 at_ sp cl st a x rs dX cX sX h; exact absurd h (Nat.not_lt_zero _)
  | succ n2 ih =>
    intro n1 at_ sp cl st a x rs dX cX sX h2 h1 hat hs1 hs2 hC
    obtain ⟨m1, rfl⟩ : ∃ m1, n1 = m1 + 1 + 1 := ⟨n1 - 2, by omega⟩
    rw [m_M_run_l2, m_Ma_execute_l1]
    have t1 : ¬ (64 : Int32) < nI sp := by
      rw [lt_n (by decide) (by rw [iN_nIs (by omega)]; omega), iN_nIs (by omega), show iN (64 : Int32) = 64 from rfl]
      omega
    have t2 : ¬ G.1 ≤ nI (sp - 1) := by
      rw [le_n (by omega) (by rw [iN_nIs (by omega)]; omega), iN_nIs (by omega)]
      omega
    have t3 : ¬ G.1 ≤ at_ := by
      rw [le_n (by omega) (by omega)]
      omega
    have ed : nI (sp - 1) + (1 : Int32) = nI sp := by
      rw [nI_1, Nat.sub_add_cancel hs1]
    dsimp only
    rw [if_neg t1, if_pos rfl, if_neg t2, if_neg t3, ed]
    have hz := okz_of hG hok hat
    have hkl : m_In_codeOf (G.2 at_.toNatClampNeg) ∈ KL := by
      have hk := hok (iN at_) hat
      rw [nI_iN] at hk
      exact known_in (of_ok hk).1
    have hfar := farM hG hokM hat
    rw [code_eq, k_eq] at hfar
    rw [code_eq, k_eq]
    generalize hzz : G.2 at_.toNatClampNeg = z at hz hkl hfar
    have e1 : at_ + (1 : Int32) = at_ + 1 := rfl
    -- the next step, wherever it goes
    have go : ∀ (at2 : Int32) (cl' : Nat → Int32) (st' a' x' : Int32) (cX' : Nat → Int64) (sX' : Nat → Int32), iN at2 < iN G.1 → iN at_ + 1 ≤ iN at2 → SimC cl' st' cX' sX' → (m_Ma_execute_l1 w G M (m1 + 1) (cl', nI sp, st', a', x', at2, (0 : Int32), rs)).1 = (m_M_run_l2 w G mk X n2 at2 (sp + 1) (nI sp, m_F_unsigned a', m_F_unsigned x', cX', sX')).1 ∧ RelM (m_Ma_execute_l1 w G M (m1 + 1) (cl', nI sp, st', a', x', at2, (0 : Int32), rs)).2 (m_M_run_l2 w G mk X n2 at2 (sp + 1) (nI sp, m_F_unsigned a', m_F_unsigned x', cX', sX')).2.2 := by
      intro at2 cl' st' a' x' cX' sX' g1 g2 g3
      have := ih (m1 + 1) at2 (sp + 1) cl' st' a' x' rs (nI sp) cX' sX' (by omega) (by omega) g1 (by omega) (by omega) g3
      rw [Nat.add_sub_cancel] at this
      exact this
    -- an end, with a value
    have fin : ∀ v : Int32, m_Ma_execute_l1 w G M (m1 + 1) (m_Ma_end (cl, nI sp, st, a, x, at_ + (1 : Int32), (0 : Int32), rs) v) = (m_F_unsigned v, (cl, nI sp, st, a, x, at_ + (1 : Int32), (1 : Int32), v)) := by
      intro v
      rw [m_Ma_execute_l1]
      rfl
    have ends_eq : m_M_ends G at_ = m_In_endsRun (m_In_codeOf z) := by rw [en_eq, hzz]
    have j99 : m_M_run_j99 w G mk X at_ sp (dX, m_F_unsigned a, m_F_unsigned x, cX, sX) = m_F_unsigned (if m_In_codeOf z &&& (8 : Int32) = (0 : Int32) then (m_In_operandOf z).toInt32 else x) := by
      unfold m_M_run_j99
      rw [code_eq, k_eq, hzz]
      by_cases h8 : m_In_codeOf z &&& (8 : Int32) = (0 : Int32)
      · rw [if_pos h8, if_pos h8, un_k]
      · rw [if_neg h8, if_neg h8]
    rw [j99]
    by_cases he : m_M_ends G at_ = (0 : Int32)
    · rw [if_pos he]
      have hnx : iN (at_ + (1 : Int32)) < iN G.1 := rn_n hG hend hat he
      have hn1 : iN (at_ + (1 : Int32)) = iN at_ + 1 := in_1 (by omega)
      by_cases hop : m_M_operation (m_In_codeOf z) = (0 : Int32)
      · rw [if_pos hop]
        by_cases hbr : m_M_branch (m_In_codeOf z) = (0 : Int32)
        · rw [if_pos hbr]
          by_cases h5 : m_In_codeOf z = (5 : Int32)
          · rw [if_pos h5, pf_lit h5]
            have hf := hfar.1 h5
            have ek := k_n z
            have el : iN ((at_ + (m_In_operandOf z).toInt32) + 1) = iN at_ + 1 + uN (m_In_operandOf z) := by
              rw [← add_swap, iN_add, hn1, ek]
              omega
            have ej : (if ((5 : Int32) &&& (8 : Int32)) = (0 : Int32) then if ((5 : Int32) &&& (7 : Int32)) = (0 : Int32) then ((cl, nI sp, st, a, x, at_ + (1 : Int32), (0 : Int32), rs) : MT) else (cl, nI sp, st, a, x, at_ + (1 : Int32) + (m_In_operandOf z).toInt32, (0 : Int32), rs) else (cl, nI sp, st, a, x, at_ + (1 : Int32), (0 : Int32), rs)) = (cl, nI sp, st, a, x, at_ + (1 : Int32) + (m_In_operandOf z).toInt32, (0 : Int32), rs) := rfl
            show (m_Ma_execute_l1 w G M (m1 + 1) (cl, nI sp, st, a, x, at_ + (1 : Int32) + (m_In_operandOf z).toInt32, (0 : Int32), rs)).1 = _ ∧ RelM (m_Ma_execute_l1 w G M (m1 + 1) (cl, nI sp, st, a, x, at_ + (1 : Int32) + (m_In_operandOf z).toInt32, (0 : Int32), rs)).2 _
            rw [add_swap]
            exact go _ cl st a x cX sX (by omega) (by omega) hC
          · rw [if_neg h5]
            obtain ⟨cl', st', a', x', cX', sX', p1, p2, p3⟩ := move_eq (w := w) (dn := nI sp) (nx := at_ + (1 : Int32)) (rs := rs) (a := a) (x := x) (dX := nI sp) hC hz (kl_mv _ hkl (by rw [← ends_eq]; exact he) hop hbr h5)
            rw [p1, p2]
            exact go _ cl' st' a' x' cX' sX' hnx (by omega) p3
        · rw [if_neg hbr]
          obtain ⟨b1, b2, b3⟩ := kl_br _ hkl hbr
          rw [pf5 b1]
          have hfb := hfar.2 hbr
          have ap := asks_eq (cl := cl) (dn := nI sp) (st := st) (a := a) (x := x) (nx := at_ + (1 : Int32)) (en := 0) (rs := rs) (y := if m_In_codeOf z &&& (8 : Int32) = (0 : Int32) then (m_In_operandOf z).toInt32 else x) (cX := cX) (sX := sX) (dX := nI sp) (xX := m_F_unsigned x) b3
          rw [← ap]
          unfold m_Ma_jump
          rw [if_neg b2]
          by_cases hp : m_Ma_passes (cl, nI sp, st, a, x, at_ + (1 : Int32), (0 : Int32), rs) (m_In_codeOf z &&& (240 : Int32)) (if m_In_codeOf z &&& (8 : Int32) = (0 : Int32) then (m_In_operandOf z).toInt32 else x) = (0 : Int32)
          · rw [if_pos hp, hp, jF_eq, hzz]
            have hfz : iN at_ + 1 + iN (m_In_distanceIfFalse z) < iN G.1 := by
              have := hfb.2
              rw [jF_eq, hzz] at this
              exact this
            have el : iN ((at_ + m_In_distanceIfFalse z) + 1) = iN at_ + 1 + iN (m_In_distanceIfFalse z) := by
              rw [← add_swap, iN_add, hn1]
              omega
            dsimp only
            rw [add_swap]
            exact go _ cl st a x cX sX (by omega) (by omega) hC
          · have hj : m_M_jump G at_ (m_Ma_passes (cl, nI sp, st, a, x, at_ + (1 : Int32), (0 : Int32), rs) (m_In_codeOf z &&& (240 : Int32)) (if m_In_codeOf z &&& (8 : Int32) = (0 : Int32) then (m_In_operandOf z).toInt32 else x)) = m_In_distanceIfTrue z := by
              have e : m_M_jump G at_ (m_Ma_passes (cl, nI sp, st, a, x, at_ + (1 : Int32), (0 : Int32), rs) (m_In_codeOf z &&& (240 : Int32)) (if m_In_codeOf z &&& (8 : Int32) = (0 : Int32) then (m_In_operandOf z).toInt32 else x)) = m_M_jump G at_ 1 := by
                unfold m_M_jump
                rw [if_neg hp, if_neg (by decide)]
              rw [e, jT_eq, hzz]
            rw [if_neg hp, hj]
            have hfz : iN at_ + 1 + iN (m_In_distanceIfTrue z) < iN G.1 := by
              have := hfb.1
              rw [jT_eq, hzz] at this
              exact this
            have el : iN ((at_ + m_In_distanceIfTrue z) + 1) = iN at_ + 1 + iN (m_In_distanceIfTrue z) := by
              rw [← add_swap, iN_add, hn1]
              omega
            dsimp only
            rw [add_swap]
            exact go _ cl st a x cX sX (by omega) (by omega) hC
      · rw [if_neg hop]
        obtain ⟨b1, b3⟩ := kl_op _ hkl hop
        rw [pf4 b1]
        dsimp only
        generalize (if m_In_codeOf z &&& (8 : Int32) = (0 : Int32) then (m_In_operandOf z).toInt32 else x) = y
        have ey : lg_cmp (m_F_unsigned y) (0 : Int64) = (0 : Int32) ↔ y = (0 : Int32) := by
          rw [cmp_eq, show (0 : Int64) = m_F_unsigned 0 from rfl]
          exact ⟨un_inj, fun h => by rw [h]⟩
        by_cases hd : m_In_codeOf z &&& (-9 : Int32) = (52 : Int32) ∧ y = (0 : Int32)
        · rw [if_pos hd.1, if_pos (ey.mpr hd.2)]
          have e48 : m_In_codeOf z &&& (240 : Int32) = 48 := by
            rcases b3 with q | q | q | q | q | q | q | q | q <;> first | exact q.1 | (rw [hd.1] at q; exact absurd q.2 (by decide))
          have ec : m_Ma_compute (cl, nI sp, st, a, x, at_ + (1 : Int32), (0 : Int32), rs) (m_In_codeOf z &&& (240 : Int32)) y = m_Ma_end (cl, nI sp, st, a, x, at_ + (1 : Int32), (0 : Int32), rs) (0 : Int32) := by
            rw [e48, hd.2]
            rfl
          rw [ec, fin]
          exact ⟨rfl, sim_rel hC hs1 (by omega)⟩
        · obtain ⟨A, p1, p2⟩ := alu (cl := cl) (dn := nI sp) (st := st) (a := a) (x := x) (nx := at_ + (1 : Int32)) (rs := rs) (y := y) (cX := cX) (sX := sX) (dX := nI sp) (xX := m_F_unsigned x) b3 (fun q z => hd ⟨q, z⟩)
          rw [p1, p2]
          have hg := go (at_ + 1) cl st A x cX sX hnx (by omega) hC
          by_cases hq : m_In_codeOf z &&& (-9 : Int32) = (52 : Int32)
          · rw [if_pos hq, if_neg (fun q => hd ⟨hq, ey.mp q⟩)]
            exact hg
          · rw [if_neg hq]
            exact hg
    · rw [if_neg he]
      have he2 : ¬ m_In_endsRun (m_In_codeOf z) = (0 : Int32) := by rw [← ends_eq]; exact he
      by_cases h6 : m_In_codeOf z = (6 : Int32)
      · rw [if_pos h6, pf_lit h6]
        show (m_Ma_execute_l1 w G M (m1 + 1) (m_Ma_end (cl, nI sp, st, a, x, at_ + (1 : Int32), (0 : Int32), rs) (m_In_operandOf z).toInt32)).1 = m_In_operandOf z ∧ RelM (m_Ma_execute_l1 w G M (m1 + 1) (m_Ma_end (cl, nI sp, st, a, x, at_ + (1 : Int32), (0 : Int32), rs) (m_In_operandOf z).toInt32)).2 _
        rw [fin]
        exact ⟨un_k z, sim_rel hC hs1 (by omega)⟩
      · have h22 : m_In_codeOf z = (22 : Int32) := by
          unfold m_In_endsRun at he2
          rw [if_neg h6] at he2
          exact Classical.byContradiction (fun q => he2 (by rw [if_neg q]))
        rw [if_neg h6, pf_lit h22]
        show (m_Ma_execute_l1 w G M (m1 + 1) (m_Ma_end (cl, nI sp, st, a, x, at_ + (1 : Int32), (0 : Int32), rs) a)).1 = m_F_unsigned a ∧ RelM (m_Ma_execute_l1 w G M (m1 + 1) (m_Ma_end (cl, nI sp, st, a, x, at_ + (1 : Int32), (0 : Int32), rs) a)).2 _
        rw [fin]
        exact ⟨rfl, sim_rel hC hs1 (by omega)⟩
theorem run_in : ∀ (n q : Nat) (X1 : XT), 16 - q < n → q ≤ 16 → (∀ t, t < q → X1.2.2.2.2 t = 0) → ∃ sX, (∀ t, t < 16 → sX t = (0 : Int32)) ∧ m_M_run_l1 w G mk X n q X1 = m_M_run_l2 w G mk X 65 0 1 (X1.1, X1.2.1, X1.2.2.1, X1.2.2.2.1, sX) := by
  intro n
  induction n with
  | zero => intro q X1 h; exact absurd h (Nat.not_lt_zero _)
  | succ n ih =>
    intro q X1 h hq hm
    rw [m_M_run_l1]
    by_cases h1 : (16 : Int32) ≤ nI q
    · rw [if_pos h1]
      rw [le_n (by decide) (by rw [iN_nIs (by omega)]; omega), iN_nIs (by omega), show iN (16 : Int32) = 16 from rfl] at h1
      exact ⟨X1.2.2.2.2, fun t ht => hm t (by omega), rfl⟩
    · rw [if_neg h1, nI_clamp (show q < 2 ^ 31 by omega)]
      have hl := n16_lt hq h1
      obtain ⟨sX, a, b⟩ := ih (q + 1) (X1.1, X1.2.1, X1.2.2.1, X1.2.2.2.1, upd X1.2.2.2.2 q (0 : Int32)) (by omega) (by omega) (fun t ht => by
        show upd X1.2.2.2.2 q (0 : Int32) t = 0
        by_cases e : t = q
        · rw [e, upd_at]
        · rw [upd_ne e]
          exact hm t (by omega))
      exact ⟨sX, a, b⟩
theorem run_eq {ss : Nat → Int32} (hG : iN G.1 ≤ 64) (hR : RelM M X) : (m_F_run w G ss M).1 = (m_M_run w G mk X).1 ∧ RelM (m_F_run w G ss M).2.2 (m_M_run w G mk X).2.2 := by
  obtain ⟨r1, r2, r3, r4⟩ := hR
  unfold m_F_run m_M_run
  rw [← check_eq hG ss mk]
  by_cases hv : (m_Ch_verdictOn G ss).1 = (0 : Int32)
  · rw [if_pos hv, if_pos hv]
    obtain ⟨v0, v1, v2⟩ := vd_all hG hv
    obtain ⟨sX, a, b⟩ := run_in (w := w) (G := G) (mk := mk) (X := X) 17 0 ((0 : Int32), (0 : Int64), (0 : Int64), X.2.2.2.1, X.2.2.2.2) (by decide) (by decide) (fun t h => absurd h (Nat.not_lt_zero _))
    rw [b]
    have hend : ¬ m_M_ends G (nI (iN G.1 - 1)) = 0 := by
      rw [en_eq, nI_clamp (by omega)]
      exact v2
    have hS := run_sim (w := w) (G := G) (mk := mk) (X := X) (M := M) hG v1 hend 65 65 0 1 M.1 0 0 0 0 0 X.2.2.2.1 sX (by decide) (by decide) (n_pos v0) (by decide) (by decide) ⟨r3, fun i hi => ⟨fun _ => a i hi, fun _ => tb_0 i⟩⟩
    exact hS
  · rw [if_neg hv, if_neg hv]
    exact ⟨rfl, rfl, fun _ => rfl, r3, fun q => absurd rfl q⟩
end RUN
