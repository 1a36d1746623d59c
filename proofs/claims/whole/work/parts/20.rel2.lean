/-! The rule that is taken: the least kind, and the first of that kind -/
def best (k : Nat → Nat) (m : Nat → Bool) : Nat → Option Nat
  | 0 => none
  | n + 1 => match best k m n with
    | none => if m n = true then some n else none
    | some b => if m n = true ∧ k n < k b then some n else some b
theorem best_none {k : Nat → Nat} {m : Nat → Bool} {n : Nat} (h : best k m n = none) : ∀ r, r < n → m r = false := by
  induction n with
  | zero => intro r hr; exact absurd hr (Nat.not_lt_zero r)
  | succ n ih =>
    intro r hr
    unfold best at h
    cases hb : best k m n with
    | none =>
      rw [hb] at h
      dsimp only at h
      by_cases hm : m n = true
      · rw [if_pos hm] at h; cases h
      · by_cases e : r = n
        · rw [e]
          cases hx : m n with
          | false => rfl
          | true => exact absurd hx hm
        · exact ih hb r (by omega)
    | some b =>
      rw [hb] at h
      dsimp only at h
      split at h <;> cases h
theorem best_some {k : Nat → Nat} {m : Nat → Bool} {n b : Nat} (h : best k m n = some b) : b < n ∧ m b = true ∧ ∀ r, r < n → m r = true → k b ≤ k r ∧ (k r = k b → b ≤ r) := by
  induction n generalizing b with
  | zero => cases h
  | succ n ih =>
    unfold best at h
    cases hb : best k m n with
    | none =>
      rw [hb] at h
      dsimp only at h
      by_cases hm : m n = true
      · rw [if_pos hm] at h
        cases h
        refine ⟨Nat.lt_succ_self _, hm, fun r hr hmr => ?_⟩
        by_cases e : r = n
        · subst e; exact ⟨Nat.le_refl _, fun _ => Nat.le_refl _⟩
        · have := best_none hb r (by omega)
          rw [this] at hmr
          cases hmr
      · rw [if_neg hm] at h; cases h
    | some b0 =>
      rw [hb] at h
      dsimp only at h
      obtain ⟨h1, h2, h3⟩ := ih hb
      by_cases hc : m n = true ∧ k n < k b0
      · rw [if_pos hc] at h
        cases h
        refine ⟨Nat.lt_succ_self _, hc.1, fun r hr hmr => ?_⟩
        by_cases e : r = n
        · subst e; exact ⟨Nat.le_refl _, fun _ => Nat.le_refl _⟩
        · have h4 := (h3 r (by omega) hmr).1
          have h5 := hc.2
          exact ⟨by omega, fun q => by omega⟩
      · rw [if_neg hc] at h
        cases h
        refine ⟨by omega, h2, fun r hr hmr => ?_⟩
        by_cases e : r = n
        · subst e
          have h4 : ¬ k r < k b := fun q => hc ⟨hmr, q⟩
          exact ⟨by omega, fun _ => by omega⟩
        · exact h3 r (by omega) hmr
def enc (b : Option Nat) : Int32 := match b with
  | none => -1
  | some b => nI b
/-! A condition holds alike -/
theorem arg_pack (w : Nat → Int32) (p : Int32) : m_Ca_getArgument w p = ((m_M_plain w ((5 : Int32) + ((2 : Int32) * p))) * (4294967296 : Int64)) + (m_M_plain w ((4 : Int32) + ((2 : Int32) * p))) := by
  unfold m_Ca_getArgument
  rw [arg_i]
  show m_M_plain w ((4 : Int32) + ((2 : Int32) * p)) ||| m_M_plain w ((5 : Int32) + ((2 : Int32) * p)) <<< ((32 : Int32).toInt64 &&& 63) = _
  have hl : uN (m_M_plain w ((4 : Int32) + ((2 : Int32) * p))) < 4294967296 := by
    unfold m_M_plain
    rw [uN_ext]
    exact iN_lt _
  have hh : uN (m_M_plain w ((5 : Int32) + ((2 : Int32) * p))) < 4294967296 := by
    unfold m_M_plain
    rw [uN_ext]
    exact iN_lt _
  generalize m_M_plain w ((4 : Int32) + ((2 : Int32) * p)) = lo at hl ⊢
  generalize m_M_plain w ((5 : Int32) + ((2 : Int32) * p)) = hi at hh ⊢
  apply uN_inj
  rw [uN_pack hl hh, uN_add, uN_mul, show uN (4294967296 : Int64) = 4294967296 from rfl]
  omega
theorem below_eq (u v : Int64) : m_Co_isBelow u v = m_M_below u v := by
  unfold m_Co_isBelow m_M_below
  have hu := uN_lt u
  have hv := uN_lt v
  have c1 : (0 : Int32) ≤ lg_cmp (u ^^^ (-9223372036854775808 : Int64)) (v ^^^ (-9223372036854775808 : Int64)) ↔ uN v ≤ uN u := by rw [cmp_ge, uN_le]
  have c2 : lg_cmp ((u.toUInt64 >>> ((32 : Int32).toInt64.toUInt64 &&& Int64.toUInt64 63)).toInt64) ((v.toUInt64 >>> ((32 : Int32).toInt64.toUInt64 &&& Int64.toUInt64 63)).toInt64) < (0 : Int32) ↔ uN u / 4294967296 < uN v / 4294967296 := by
    rw [cmp_lt, ltL_n (by rw [uN_s32]; omega) (by rw [uN_s32]; omega), uN_s32, uN_s32]
  have c3 : lg_cmp ((u.toUInt64 >>> ((32 : Int32).toInt64.toUInt64 &&& Int64.toUInt64 63)).toInt64) ((v.toUInt64 >>> ((32 : Int32).toInt64.toUInt64 &&& Int64.toUInt64 63)).toInt64) = (0 : Int32) ↔ uN u / 4294967296 = uN v / 4294967296 := by
    rw [cmpn_eq, uN_s32, uN_s32]
  have c4 : (0 : Int32) ≤ lg_cmp (u &&& (4294967295 : Int64)) (v &&& (4294967295 : Int64)) ↔ uN v % 4294967296 ≤ uN u % 4294967296 := by
    rw [cmp_ge, leL_n (by rw [uN_lo]; omega) (by rw [uN_lo]; omega), uN_lo, uN_lo]
  by_cases h : uN v ≤ uN u
  · rw [if_pos (c1.mpr h)]
    rw [if_neg (fun q => by have := c2.mp q; omega)]
    by_cases h3 : uN u / 4294967296 = uN v / 4294967296
    · rw [if_pos (c3.mpr h3), if_pos (c4.mpr (by omega))]
    · rw [if_neg (fun q => h3 (c3.mp q))]
  · rw [if_neg (fun q => h (c1.mp q))]
    by_cases h2 : uN u / 4294967296 < uN v / 4294967296
    · rw [if_pos (c2.mpr h2)]
    · rw [if_neg (fun q => h2 (c2.mp q)), if_pos (c3.mpr (by omega)), if_neg (fun q => by have := c4.mp q; omega)]
theorem holds_eq {w : Nat → Int32} {P : PT} {Q : QT} {i j : Nat} (hi : i < 6) (hj : j < 3) (h : RelR (P.2.2.2.2 i) Q i) : m_M_holds w Q (nI (3 * i + j)) = m_Co_holdsFor w P i j := by
  obtain ⟨-, -, -, -, -, q⟩ := h
  unfold m_M_holds m_Co_holdsFor
  rw [q j hj, nI_clamp (show 3 * i + j < 2 ^ 31 by omega)]
  dsimp only
  rw [arg_pack, below_eq, below_eq]
/-! A rule matches alike -/
theorem ml_0 {w : Nat → Int32} {Q : QT} {i : Nat} (hi : i < 6) (hc : iN (Q.2.2.2.2.2.1 i) ≤ 3) : ∀ n c : Nat, 3 * i + 3 - c < n → 3 * i ≤ c → c ≤ 3 * i + 3 → m_M_matches_l1 w Q i n 0 c = 0 := by
  intro n
  induction n with
  | zero => intro c h; exact absurd h (Nat.not_lt_zero _)
  | succ n ih =>
    intro c h h1 h2
    rw [m_M_matches_l1]
    by_cases ht : (((3 : Int32) * (nI i)) + (Q.2.2.2.2.2.1 (nI i).toNatClampNeg)) ≤ (nI c)
    · rw [if_pos ht]
    · rw [if_neg ht, if_pos rfl]
      have hl := mt_lt hi (by rw [nI_clamp (show i < 2 ^ 31 by omega)]; exact hc) h2 ht
      exact ih (c + 1) (by omega) (by omega) (by omega)
theorem ml_1 {w : Nat → Int32} {P : PT} {Q : QT} {i : Nat} (hi : i < 6) (hc : iN (Q.2.2.2.2.2.1 i) ≤ 3) (hR : RelR (P.2.2.2.2 i) Q i) : ∀ n j : Nat, 3 - j < n → j ≤ 3 → m_M_matches_l1 w Q i n 1 (3 * i + j) = m_Ru_matches_l1 w P i n j := by
  intro n
  induction n with
  | zero => intro c h; exact absurd h (Nat.not_lt_zero _)
  | succ n ih =>
    intro j h h1
    rw [m_M_matches_l1, m_Ru_matches_l1]
    have e1 : iN (nI (3 * i + j)) = 3 * i + j := iN_nIs (by omega)
    have e2 : iN (nI j) = j := iN_nIs (by omega)
    have ecl : (nI i).toNatClampNeg = i := nI_clamp (by omega)
    have e3 : iN (((3 : Int32) * (nI i)) + (Q.2.2.2.2.2.1 (nI i).toNatClampNeg)) = 3 * i + iN (Q.2.2.2.2.2.1 i) := by
      rw [ecl, iN_add, iN_mul, iN_nIs (show i < 4294967296 by omega), show iN (3 : Int32) = 3 from rfl]
      omega
    have tst : (((3 : Int32) * (nI i)) + (Q.2.2.2.2.2.1 (nI i).toNatClampNeg)) ≤ (nI (3 * i + j)) ↔ (P.2.2.2.2 i).1 ≤ nI j := by
      rw [hR.1, le_n (by omega) (by omega), le_n (by omega) (by omega), e1, e2, e3]
      omega
    by_cases ht : (P.2.2.2.2 i).1 ≤ nI j
    · rw [if_pos ht, if_pos (tst.mpr ht)]
    · rw [if_neg ht, if_neg (fun q => ht (tst.mp q)), if_neg (by decide)]
      have hl : j < 3 := by
        have := nj_lt (by rw [hR.1]; exact hc) (by decide) h1 ht
        rw [hR.1] at this
        omega
      rw [holds_eq hi hl hR]
      by_cases hh : m_Co_holdsFor w P i j = (0 : Int32)
      · rw [if_pos hh, if_pos hh]
        exact ml_0 hi hc n (3 * i + j + 1) (by omega) (by omega) (by omega)
      · rw [if_neg hh, if_neg hh]
        exact ih (j + 1) (by omega) (by omega)
theorem matches_eq {w : Nat → Int32} {P : PT} {Q : QT} {i : Nat} (hi : i < 6) (hc : iN (Q.2.2.2.2.2.1 i) ≤ 3) (hR : RelR (P.2.2.2.2 i) Q i) (hw : iN (w 0) < 1073741824) : m_M_matches w Q i = m_Ru_matches w P i := by
  have hR' := hR
  obtain ⟨-, q2, q3, -, -, -⟩ := hR
  have ecl : (nI i).toNatClampNeg = i := nI_clamp (by omega)
  have ep : (m_M_plain w (0 : Int32)).toInt = (w 0).toInt := by
    have h1 : uN (m_M_plain w (0 : Int32)) = iN (w 0) := uN_ext (w 0)
    rw [uN_int, iN_int, h1]
    omega
  have t1 : lg_cmp (m_M_plain w (0 : Int32)) ((Q.2.1 (nI i).toNatClampNeg).toInt64) < (0 : Int32) ↔ m_Ca_number w < (P.2.2.2.2 i).2.1 := by
    rw [cmp_lt, Int64.lt_iff_toInt_lt, Int32.lt_iff_toInt_lt, ep, ecl, Int32.toInt_toInt64, q2]
    exact Iff.rfl
  have t2 : (0 : Int32) < lg_cmp (m_M_plain w (0 : Int32)) ((Q.2.2.1 (nI i).toNatClampNeg).toInt64) ↔ ¬ m_Ca_number w ≤ (P.2.2.2.2 i).2.2.1 := by
    rw [cmp_gt, Int64.lt_iff_toInt_lt, Int32.le_iff_toInt_le, ep, ecl, Int32.toInt_toInt64, q3]
    show _ ↔ ¬ (w 0).toInt ≤ _
    omega
  have z := ml_0 (w := w) hi hc 4 (3 * i) (by omega) (by omega) (by omega)
  have o := ml_1 (w := w) hi hc hR' 4 0 (by decide) (by decide)
  unfold m_M_matches m_Ru_matches
  by_cases a1 : m_Ca_number w < (P.2.2.2.2 i).2.1
  · rw [if_pos a1, if_pos (t1.mpr a1)]
    exact z
  · rw [if_neg a1, if_neg (fun q => a1 (t1.mp q))]
    by_cases a2 : m_Ca_number w ≤ (P.2.2.2.2 i).2.2.1
    · rw [if_pos a2, if_neg (fun q => t2.mp q a2)]
      exact o
    · rw [if_neg a2, if_pos (t2.mpr a2)]
      exact z
/-! The same rule is taken -/
theorem enc_ne {b : Nat} (hb : b < 6) : ¬ nI b = (-1 : Int32) := by
  intro q
  have := congrArg iN q
  rw [iN_nIs (by omega), show iN (-1 : Int32) = 4294967295 from rfl] at this
  omega
theorem best_eq (k : Nat → Nat) (m : Nat → Bool) (n : Nat) : best k m (n + 1) = match best k m n with
    | none => if m n = true then some n else none
    | some b => if m n = true ∧ k n < k b then some n else some b := rfl
theorem ch_l {w : Nat → Int32} {P : PT} (hn : iN P.2.1 ≤ 6) (hk : ∀ r, r < 6 → vp_in (P.2.2.2.2 r).2.2.2.1 7) : ∀ (n : Nat) (ch : Int32) (i : Nat), 6 - i < n → i ≤ iN P.2.1 → ch = enc (best (fun r => iN (P.2.2.2.2 r).2.2.2.1) (fun r => decide (¬ m_Ru_matches w P r = (0 : Int32))) i) → m_Po_chooseFor_l1 w P n ch i = enc (best (fun r => iN (P.2.2.2.2 r).2.2.2.1) (fun r => decide (¬ m_Ru_matches w P r = (0 : Int32))) (iN P.2.1)) := by
  intro n
  induction n with
  | zero => intro ch i h; exact absurd h (Nat.not_lt_zero _)
  | succ n ih =>
    intro ch i h hi hc
    rw [m_Po_chooseFor_l1]
    by_cases h1 : P.2.1 ≤ nI i
    · rw [if_pos h1, hc]
      rw [le_n (by omega) (by rw [iN_nIs (by omega)]; omega), iN_nIs (by omega)] at h1
      rw [show i = iN P.2.1 by omega]
    · rw [if_neg h1]
      have hil := nj_lt hn (by decide) (show i ≤ 6 by omega) h1
      have be := best_eq (fun r => iN (P.2.2.2.2 r).2.2.2.1) (fun r => decide (¬ m_Ru_matches w P r = (0 : Int32))) i
      by_cases h2 : m_Ru_matches w P i = (0 : Int32)
      · rw [if_pos h2]
        refine ih ch (i + 1) (by omega) (by omega) ?_
        rw [hc, be]
        cases hb : best (fun r => iN (P.2.2.2.2 r).2.2.2.1) (fun r => decide (¬ m_Ru_matches w P r = (0 : Int32))) i with
        | none => simp [h2]
        | some b => simp [h2]
      · rw [if_neg h2]
        have hm : decide (¬ m_Ru_matches w P i = (0 : Int32)) = true := decide_eq_true h2
        cases hb : best (fun r => iN (P.2.2.2.2 r).2.2.2.1) (fun r => decide (¬ m_Ru_matches w P r = (0 : Int32))) i with
        | none =>
          rw [hb] at hc be
          have hc : ch = -1 := hc
          have h3 : ¬ m_Po_isStricter P i ch = (0 : Int32) := by
            unfold m_Po_isStricter
            rw [if_pos hc]
            decide
          rw [if_neg h3]
          refine ih (nI i) (i + 1) (by omega) (by omega) ?_
          rw [be]
          dsimp only
          rw [if_pos hm]
          rfl
        | some b =>
          rw [hb] at hc be
          have hc : ch = nI b := hc
          obtain ⟨b1, b2, b3⟩ := best_some hb
          have hcn : ¬ ch = (-1 : Int32) := by rw [hc]; exact enc_ne (by omega)
          have hcl : ch.toNatClampNeg = b := by rw [hc]; exact nI_clamp (by omega)
          have k1 := iN_in (by decide) (hk i (by omega))
          have k2 := iN_in (by decide) (hk b (by omega))
          have hs : m_Po_isStricter P i ch = (0 : Int32) ↔ ¬ iN (P.2.2.2.2 i).2.2.2.1 < iN (P.2.2.2.2 b).2.2.2.1 := by
            unfold m_Po_isStricter
            rw [if_neg hcn, hcl]
            by_cases q : (P.2.2.2.2 b).2.2.2.1 ≤ (P.2.2.2.2 i).2.2.2.1
            · rw [if_pos q]
              rw [le_n (by omega) (by omega)] at q
              exact ⟨fun _ => by omega, fun _ => rfl⟩
            · rw [if_neg q]
              rw [le_n (by omega) (by omega)] at q
              exact ⟨fun z => absurd z (by decide), fun z => absurd (by omega) z⟩
          by_cases h3 : m_Po_isStricter P i ch = (0 : Int32)
          · rw [if_pos h3]
            refine ih ch (i + 1) (by omega) (by omega) ?_
            rw [be, hc]
            dsimp only
            rw [if_neg (fun q => hs.mp h3 q.2)]
            rfl
          · rw [if_neg h3]
            refine ih (nI i) (i + 1) (by omega) (by omega) ?_
            rw [be]
            dsimp only
            rw [if_pos ⟨hm, Classical.byContradiction (fun q => h3 (hs.mpr q))⟩]
            rfl
section RL
variable {ho : Int32} {w : Nat → Int32} {Q : QT}
theorem r2_none {kd : Nat} {d : Int32} (hn : iN Q.1 ≤ 6) : ∀ n r : Nat, 6 - r < n → r ≤ 6 → (∀ r', r ≤ r' → r' < iN Q.1 → ¬ (Q.2.2.2.1 r' = nI kd ∧ ¬ m_M_matches w Q r' = (0 : Int32))) → m_M_ruling_l2 ho w Q kd d n r = d := by
  intro n
  induction n with
  | zero => intro r h; exact absurd h (Nat.not_lt_zero _)
  | succ n ih =>
    intro r h hr hx
    rw [m_M_ruling_l2]
    by_cases h1 : Q.1 ≤ nI r
    · rw [if_pos h1]
    · rw [if_neg h1, nI_clamp (show r < 2 ^ 31 by omega)]
      have hrl := nj_lt hn (by decide) hr h1
      have go := ih (r + 1) (by omega) (by omega) (fun r' a b => hx r' (by omega) b)
      by_cases h2 : Q.2.2.2.1 r = nI kd
      · rw [if_pos h2]
        by_cases h3 : m_M_matches w Q r = (0 : Int32)
        · rw [if_pos h3]; exact go
        · exact absurd ⟨h2, h3⟩ (hx r (Nat.le_refl _) hrl)
      · rw [if_neg h2]; exact go
theorem r2_some {kd b : Nat} {d : Int32} (hn : iN Q.1 ≤ 6) (hb : b < iN Q.1) (hk : Q.2.2.2.1 b = nI kd) (hm : ¬ m_M_matches w Q b = (0 : Int32)) : ∀ n r : Nat, 6 - r < n → r ≤ b → (∀ r', r ≤ r' → r' < b → ¬ (Q.2.2.2.1 r' = nI kd ∧ ¬ m_M_matches w Q r' = (0 : Int32))) → m_M_ruling_l2 ho w Q kd d n r = nI b := by
  intro n
  induction n with
  | zero => intro r h; exact absurd h (Nat.not_lt_zero _)
  | succ n ih =>
    intro r h hr hx
    rw [m_M_ruling_l2]
    have h1 : ¬ Q.1 ≤ nI r := by
      rw [le_n (by omega) (by rw [iN_nIs (by omega)]; omega), iN_nIs (by omega)]
      omega
    rw [if_neg h1, nI_clamp (show r < 2 ^ 31 by omega)]
    by_cases e : r = b
    · subst e
      rw [if_pos hk, if_neg hm]
    · have go := ih (r + 1) (by omega) (by omega) (fun r' a c => hx r' (by omega) c)
      by_cases h2 : Q.2.2.2.1 r = nI kd
      · rw [if_pos h2]
        by_cases h3 : m_M_matches w Q r = (0 : Int32)
        · rw [if_pos h3]; exact go
        · exact absurd ⟨h2, h3⟩ (hx r (Nat.le_refl _) (by omega))
      · rw [if_neg h2]; exact go
theorem r1_none (hn : iN Q.1 ≤ 6) (hx : ∀ r, r < iN Q.1 → m_M_matches w Q r = (0 : Int32)) : ∀ n kd : Nat, 7 - kd < n → kd ≤ 7 → m_M_ruling_l1 ho w Q n kd = -1 := by
  intro n
  induction n with
  | zero => intro r h; exact absurd h (Nat.not_lt_zero _)
  | succ n ih =>
    intro kd h hk
    rw [m_M_ruling_l1]
    by_cases h1 : (7 : Int32) ≤ nI kd
    · rw [if_pos h1]
    · rw [if_neg h1]
      have hkl := n7_lt hk h1
      rw [r2_none hn 7 0 (by decide) (by decide) (fun r' _ b q => q.2 (hx r' b))]
      exact ih (kd + 1) (by omega) (by omega)
theorem r1_some {b : Nat} (hn : iN Q.1 ≤ 6) (hK : ∀ k, k < 8 → vp_in (Q.2.2.2.1 k) 7) (hb : b < iN Q.1) (hm : ¬ m_M_matches w Q b = (0 : Int32)) (hx : ∀ r, r < iN Q.1 → ¬ m_M_matches w Q r = (0 : Int32) → iN (Q.2.2.2.1 b) ≤ iN (Q.2.2.2.1 r) ∧ (iN (Q.2.2.2.1 r) = iN (Q.2.2.2.1 b) → b ≤ r)) : ∀ n kd : Nat, 7 - kd < n → kd ≤ iN (Q.2.2.2.1 b) → m_M_ruling_l1 ho w Q n kd = nI b := by
  have k7 := iN_in (by decide) (hK b (by omega))
  intro n
  induction n with
  | zero => intro r h; exact absurd h (Nat.not_lt_zero _)
  | succ n ih =>
    intro kd h hk
    rw [m_M_ruling_l1]
    have h1 : ¬ (7 : Int32) ≤ nI kd := by
      rw [le_n (by decide) (by rw [iN_nIs (by omega)]; omega), iN_nIs (by omega), show iN (7 : Int32) = 7 from rfl]
      omega
    rw [if_neg h1]
    by_cases e : kd = iN (Q.2.2.2.1 b)
    · refine r2_some hn hb (by rw [e, nI_iN]) hm 7 0 (by decide) (Nat.zero_le _) (fun r' _ c q => ?_)
      have := (hx r' (by omega) q.2).2 (by rw [q.1, e, nI_iN])
      omega
    · rw [r2_none hn 7 0 (by decide) (by decide) (fun r' _ c q => ?_)]
      · exact ih (kd + 1) (by omega) (by omega)
      · have h3 := (hx r' c q.2).1
        rw [q.1, iN_nIs (by omega)] at h3
        omega
end RL
theorem ruling_eq {w : Nat → Int32} {P : PT} {ho : Int32} {Q : QT} (hR : RelP P ho Q) (hI : InvQ Q) : m_F_ruling w P = m_M_ruling ho w Q := by
  obtain ⟨r1, r2, r3, r4, r5⟩ := hR
  obtain ⟨i1, i2, i3, i4⟩ := hI
  unfold m_F_ruling m_Po_chooseFor m_M_ruling m_Ca_isForeignTo
  rw [r1]
  by_cases a1 : w 1 = ho
  · rw [if_pos a1, if_pos a1]
    have e : m_F_unsigned (m_Ca_number w) = m_M_plain w (0 : Int32) := rfl
    rw [e]
    by_cases a2 : lg_cmp (m_M_plain w (0 : Int32)) (1073741824 : Int64) < (0 : Int32)
    · rw [if_pos a2, if_pos rfl, if_pos a2]
      have hw : iN (w 0) < 1073741824 := by
        have h1 : uN (m_M_plain w (0 : Int32)) = iN (w 0) := uN_ext (w 0)
        have h2 := iN_lt (w 0)
        rw [cmp_lt, ltL_n (by omega) (by decide), h1, show uN (1073741824 : Int64) = 1073741824 from rfl] at a2
        exact a2
      have hkk : ∀ r, r < 6 → vp_in (P.2.2.2.2 r).2.2.2.1 7 := fun r hr => by
        rw [(r5 r hr).2.2.2.1]
        exact i4 r (by omega)
      have hL := ch_l (w := w) (P := P) (by rw [r2]; exact i1) hkk 7 (-1) 0 (by decide) (Nat.zero_le _) rfl
      rw [hL, r2]
      have hmt : ∀ r, r < 6 → m_M_matches w Q r = m_Ru_matches w P r := fun r hr => matches_eq hr (i2 r hr) (r5 r hr) hw
      have hkd : ∀ r, r < 6 → (P.2.2.2.2 r).2.2.2.1 = Q.2.2.2.1 r := fun r hr => (r5 r hr).2.2.2.1
      cases hb : best (fun r => iN (P.2.2.2.2 r).2.2.2.1) (fun r => decide (¬ m_Ru_matches w P r = (0 : Int32))) (iN Q.1) with
      | none =>
        have hx := best_none hb
        rw [r1_none i1 (fun r hr => ?_) 8 0 (by decide) (by decide)]
        · rfl
        · have := hx r hr
          rw [hmt r (by omega)]
          exact Classical.byContradiction (fun q => by rw [decide_eq_true q] at this; cases this)
      | some b =>
        obtain ⟨b1, b2, b3⟩ := best_some hb
        have b2 : ¬ m_Ru_matches w P b = (0 : Int32) := of_decide_eq_true b2
        rw [r1_some i1 i4 b1 (by rw [hmt b (by omega)]; exact b2) (fun r hr q => ?_) 8 0 (by decide) (Nat.zero_le _)]
        · rfl
        · rw [hmt r (by omega)] at q
          have := b3 r hr (decide_eq_true q)
          rw [hkd b (by omega), hkd r (by omega)] at this
          exact this
    · rw [if_neg a2, if_neg (by decide), if_neg a2]
  · rw [if_neg a1, if_neg a1, if_neg (by decide)]
theorem asw {kd : Int32} (h : vp_in kd 7) (dt : Int32) : (if kd < (2 : Int32) then (kwf kd.toNatClampNeg) + ((0 : Int32).toInt64) else if (4 : Int32) < kd then (kwf kd.toNatClampNeg) + ((0 : Int32).toInt64) else (kwf kd.toNatClampNeg) + dt.toInt64) = (if kd = (0 : Int32) then (2147483648 : Int64) else if kd = (1 : Int32) then (0 : Int64) else if kd = (2 : Int32) then (196608 : Int64) + dt.toInt64 else if kd = (3 : Int32) then (327680 : Int64) + dt.toInt64 else if kd = (4 : Int32) then (2146435072 : Int64) + dt.toInt64 else if kd = (5 : Int32) then (2147221504 : Int64) else (2147418112 : Int64)) := by
  obtain ⟨j, hj, rfl⟩ := vp_in_of h (by decide)
  rcases (show j = 0 ∨ j = 1 ∨ j = 2 ∨ j = 3 ∨ j = 4 ∨ j = 5 ∨ j = 6 by omega) with rfl | rfl | rfl | rfl | rfl | rfl | rfl <;> rfl
theorem decide_eq {w : Nat → Int32} {P : PT} {ho : Int32} {Q : QT} (hR : RelP P ho Q) (hI : InvQ Q) : m_F_decide w P = m_M_decide ho w Q := by
  have hr := ruling_eq (w := w) hR hI
  have hr : m_Po_chooseFor w P = m_M_ruling ho w Q := hr
  have hrng := rul_rng (ho := ho) (wo := w) hI.1
  obtain ⟨r1, r2, r3, r4, r5⟩ := hR
  obtain ⟨i1, i2, i3, i4⟩ := hI
  have hc : ∀ h1 h2, vp_in (m_Po_chooseFor w P) 6 := choose_rng (w := w) (P := P) (by rw [r2]; exact i1) (fun i hi => by rw [(r5 i hi).1]; exact i2 i hi)
  rw [hr] at hc
  unfold m_F_decide m_M_decide
  rw [hr]
  generalize m_M_ruling ho w Q = r at hc hrng
  by_cases h1 : r = (-2 : Int32)
  · rw [if_pos h1, if_pos h1]
    unfold m_Ac_asWord_f
    rw [r4]
    exact asw (i4 7 (by decide)) _
  · rw [if_neg h1, if_neg h1]
    by_cases h2 : r = (-1 : Int32)
    · rw [if_pos h2, if_pos h2]
      unfold m_Ac_asWord_d
      rw [r3]
      exact asw (i4 6 (by decide)) _
    · rw [if_neg h2, if_neg h2]
      have hv := vp_cl (hc h1 h2)
      obtain ⟨-, -, -, q4, q5, -⟩ := r5 r.toNatClampNeg hv
      unfold m_Ac_asWord_r
      rw [q4, q5]
      exact asw (i4 r.toNatClampNeg (by omega)) _
