/-! The two states beside each other -/
def RelR (r : RT) (Q : QT) (i : Nat) : Prop := r.1 = Q.2.2.2.2.2.1 i ∧ r.2.1 = Q.2.1 i ∧ r.2.2.1 = Q.2.2.1 i ∧ r.2.2.2.1 = Q.2.2.2.1 i ∧ r.2.2.2.2.1 = Q.2.2.2.2.1 i ∧ ∀ j, j < 3 → r.2.2.2.2.2 j = (Q.2.2.2.2.2.2.1 (3 * i + j), Q.2.2.2.2.2.2.2.1 (3 * i + j), Q.2.2.2.2.2.2.2.2.1 (3 * i + j), Q.2.2.2.2.2.2.2.2.2 (3 * i + j))
def RelP (P : PT) (ho : Int32) (Q : QT) : Prop := P.1 = ho ∧ P.2.1 = Q.1 ∧ P.2.2.1 = (Q.2.2.2.1 6, Q.2.2.2.2.1 6) ∧ P.2.2.2.1 = (Q.2.2.2.1 7, Q.2.2.2.2.1 7) ∧ ∀ i, i < 6 → RelR (P.2.2.2.2 i) Q i
def InvQ (Q : QT) : Prop := iN Q.1 ≤ 6 ∧ (∀ i, i < 6 → iN (Q.2.2.2.2.2.1 i) ≤ 3) ∧ (∀ c, c < 18 → vp_in (Q.2.2.2.2.2.2.1 c) 6) ∧ ∀ k, k < 8 → vp_in (Q.2.2.2.1 k) 7
def RelM (M : MT) (X : XT) : Prop := M.2.1 = X.1 ∧ (X.1 = 0 → M.2.2.1 = 0) ∧ (∀ i, i < 16 → X.2.2.2.1 i = m_F_unsigned (M.1 i)) ∧ (¬ X.1 = 0 → ∀ i, i < 16 → (m_Ma_hasStored M (nI i) = 0 ↔ X.2.2.2.2 i = 0))
theorem upd_at {f : Nat → Int32} {k : Nat} {x : Int32} : upd f k x k = x := by simp [upd]
theorem upd_ne {f : Nat → Int32} {k j : Nat} {x : Int32} (h : ¬ j = k) : upd f k x j = f j := by simp [upd, h]
theorem updL_at {f : Nat → Int64} {k : Nat} {x : Int64} : vp_updL f k x k = x := by simp [vp_updL]
theorem updL_ne {f : Nat → Int64} {k j : Nat} {x : Int64} (h : ¬ j = k) : vp_updL f k x j = f j := by simp [vp_updL, h]
theorem lt_le {x M N : Int32} (h : M.toInt = N.toInt + 1) : x < M ↔ x ≤ N := by
  rw [Int32.lt_iff_toInt_lt, Int32.le_iff_toInt_le]
  omega
theorem nle_lt {x M : Int32} : ¬ M ≤ x ↔ x < M := by
  rw [Int32.lt_iff_toInt_lt, Int32.le_iff_toInt_le]
  omega
theorem le_nlt {x M : Int32} : M ≤ x ↔ ¬ x < M := by
  rw [Int32.lt_iff_toInt_lt, Int32.le_iff_toInt_le]
  omega
theorem lt_nle {x M : Int32} : x < M ↔ ¬ M ≤ x := nle_lt.symm
theorem word_eq (w : Nat → Int32) (i v : Int32) : m_F_word w i v = m_M_word w i v := by
  unfold m_F_word m_M_word
  simp only [lt_le (x := i) (M := 16) (N := 15) rfl]
theorem arg_i (i : Int32) : ((4 : Int32) + ((2 : Int32) * i)) + (1 : Int32) = (5 : Int32) + ((2 : Int32) * i) := by
  apply iN_inj
  rw [iN_add, iN_add, iN_add, show iN (4 : Int32) = 4 from rfl, show iN (1 : Int32) = 1 from rfl, show iN (5 : Int32) = 5 from rfl]
  have := iN_lt ((2 : Int32) * i)
  omega
theorem arg_v (v : Int64) : ((v.toUInt64 >>> ((32 : Int32).toInt64.toUInt64 &&& Int64.toUInt64 63)).toInt64).toInt32 = (v >>> ((32 : Int32).toInt64 &&& 63)).toInt32 := by
  apply iN_inj
  rw [iN_tr, iN_tr, uN_s32]
  have h := uN_sar v (c := 32) (j := 32) (by decide) (by decide)
  rw [show (2 : Nat) ^ 32 = 4294967296 from rfl, show iN (32 : Int32) = 32 from rfl, show (2 : Nat) ^ 32 = 4294967296 from rfl] at h
  rw [h]
theorem has_arg (i : Int32) : m_Ca_hasArgument i = (0 : Int32) ↔ i < (0 : Int32) ∨ ¬ i ≤ (5 : Int32) := by
  unfold m_Ca_hasArgument
  have e : (6 : Int32) ≤ i ↔ ¬ i ≤ (5 : Int32) := by
    rw [Int32.le_iff_toInt_le, Int32.le_iff_toInt_le, show (6 : Int32).toInt = 6 from rfl, show (5 : Int32).toInt = 5 from rfl]
    omega
  by_cases h1 : i < (0 : Int32)
  · rw [if_pos h1]
    exact ⟨fun _ => Or.inl h1, fun _ => rfl⟩
  · rw [if_neg h1]
    by_cases h2 : (6 : Int32) ≤ i
    · rw [if_pos h2]
      exact ⟨fun _ => Or.inr (e.mp h2), fun _ => rfl⟩
    · rw [if_neg h2]
      exact ⟨fun q => absurd q (by decide), fun q => by rcases q with q | q; exact absurd q h1; exact absurd (e.mpr q) h2⟩
theorem argument_eq (w : Nat → Int32) (i : Int32) (v : Int64) : m_F_argument w i v = m_M_argument w i v := by
  unfold m_F_argument m_M_argument m_Ca_setArgument
  rw [arg_i, arg_v]
  by_cases h1 : i < (0 : Int32)
  · rw [if_pos ((has_arg i).mpr (Or.inl h1)), if_pos h1]
  · by_cases h2 : i ≤ (5 : Int32)
    · rw [if_neg (fun q => by rcases (has_arg i).mp q with q | q; exact h1 q; exact q h2), if_neg h1, if_pos h2]
    · rw [if_pos ((has_arg i).mpr (Or.inr h2)), if_neg h1, if_neg h2]
theorem put_eq {g : GT} (hg : iN g.1 ≤ 64) (z : Int64) : m_F_put g z = m_M_put g z := by
  unfold m_F_put m_M_put
  by_cases h : g.1 = (64 : Int32)
  · rw [if_pos h, if_neg (by rw [h]; decide)]
  · rw [if_neg h, if_pos]
    have h0 : ¬ iN g.1 = 64 := fun q => h (iN_inj q)
    rw [lt_n (by omega) (by decide), show iN (64 : Int32) = 64 from rfl]
    omega
theorem cut_eq (g : GT) (n : Int32) : m_F_cut g n = m_M_cut g n := rfl
theorem put_inv {g : GT} (hg : iN g.1 ≤ 64) (z : Int64) : iN (m_M_put g z).2.1 ≤ 64 := by
  unfold m_M_put
  by_cases h : g.1 = (64 : Int32)
  · rw [if_pos h]
    exact hg
  · rw [if_neg h]
    have h0 : ¬ iN g.1 = 64 := fun q => h (iN_inj q)
    show iN (g.1 + (1 : Int32)) ≤ 64
    rw [in_1 hg]
    omega
theorem cut_inv {g : GT} (hg : iN g.1 ≤ 64) (n : Int32) : iN (m_M_cut g n).2.1 ≤ 64 := by
  unfold m_M_cut
  by_cases h1 : n < (0 : Int32)
  · rw [if_pos h1]
    exact hg
  · rw [if_neg h1]
    by_cases h2 : n ≤ g.1
    · rw [if_pos h2]
      show iN (g.1 - n) ≤ 64
      have e1 := iN_int g.1
      have e2 := iN_int n
      have e3 := iN_lt n
      rw [Int32.lt_iff_toInt_lt, show (0 : Int32).toInt = 0 from rfl] at h1
      rw [Int32.le_iff_toInt_le] at h2
      rw [iN_sub]
      omega
    · rw [if_neg h2]
      exact hg
/-! The policy -/
theorem possible (kd dt : Int32) : m_Ac_isPossible kd dt = (0 : Int32) ↔ kd < (0 : Int32) ∨ (6 : Int32) < kd ∨ dt < (0 : Int32) ∨ (65535 : Int32) < dt := by
  unfold m_Ac_isPossible
  by_cases h1 : kd < (0 : Int32)
  · rw [if_pos h1]; exact ⟨fun _ => Or.inl h1, fun _ => rfl⟩
  · rw [if_neg h1]
    by_cases h2 : (6 : Int32) < kd
    · rw [if_pos h2]; exact ⟨fun _ => Or.inr (Or.inl h2), fun _ => rfl⟩
    · rw [if_neg h2]
      by_cases h3 : dt < (0 : Int32)
      · rw [if_pos h3]; exact ⟨fun _ => Or.inr (Or.inr (Or.inl h3)), fun _ => rfl⟩
      · rw [if_neg h3]
        by_cases h4 : (65535 : Int32) < dt
        · rw [if_pos h4]; exact ⟨fun _ => Or.inr (Or.inr (Or.inr h4)), fun _ => rfl⟩
        · rw [if_neg h4]
          refine ⟨fun q => absurd q (by decide), fun q => ?_⟩
          rcases q with q | q | q | q
          · exact absurd q h1
          · exact absurd q h2
          · exact absurd q h3
          · exact absurd q h4
theorem kd_in {kd : Int32} (h1 : ¬ kd < (0 : Int32)) (h2 : ¬ (6 : Int32) < kd) : vp_in kd 7 := by
  rw [vp_in_iff]
  rw [Int32.lt_iff_toInt_lt] at h1 h2
  have h0 : (0 : Int32).toInt = 0 := rfl
  have h15 : (6 : Int32).toInt = 6 := rfl
  omega
theorem rel_rule {P : PT} {ho : Int32} {Q : QT} (hR : RelP P ho Q) (hI : InvQ Q) (fr to kd dt : Int32) : (m_F_rule P fr to kd dt).1 = (m_M_rule Q fr to kd dt).1 ∧ RelP (m_F_rule P fr to kd dt).2 ho (m_M_rule Q fr to kd dt).2 ∧ InvQ (m_M_rule Q fr to kd dt).2 := by
  have hno : ((-1 : Int32), P).1 = ((-1 : Int32), Q).1 ∧ RelP ((-1 : Int32), P).2 ho ((-1 : Int32), Q).2 ∧ InvQ ((-1 : Int32), Q).2 := ⟨rfl, hR, hI⟩
  unfold m_F_rule m_M_rule
  by_cases a1 : fr < (0 : Int32)
  · rw [if_pos a1, if_pos a1]; exact hno
  rw [if_neg a1, if_neg a1]
  by_cases a2 : to < fr
  · rw [if_pos a2, if_pos a2]; exact hno
  rw [if_neg a2, if_neg a2]
  by_cases a3 : (1073741824 : Int32) ≤ to
  · rw [if_pos a3, if_pos a3]; exact hno
  rw [if_neg a3, if_neg a3]
  by_cases b1 : kd < (0 : Int32)
  · rw [if_pos b1, if_pos ((possible kd dt).mpr (Or.inl b1))]; exact hno
  rw [if_neg b1]
  by_cases b2 : (6 : Int32) < kd
  · rw [if_pos b2, if_pos ((possible kd dt).mpr (Or.inr (Or.inl b2)))]; exact hno
  rw [if_neg b2]
  by_cases b3 : dt < (0 : Int32)
  · rw [if_pos b3, if_pos ((possible kd dt).mpr (Or.inr (Or.inr (Or.inl b3))))]; exact hno
  rw [if_neg b3]
  by_cases b4 : (65535 : Int32) < dt
  · rw [if_pos b4, if_pos ((possible kd dt).mpr (Or.inr (Or.inr (Or.inr b4))))]; exact hno
  rw [if_neg b4, if_neg (fun q => by rcases (possible kd dt).mp q with q | q | q | q; exact b1 q; exact b2 q; exact b3 q; exact b4 q)]
  obtain ⟨r1, r2, r3, r4, r5⟩ := hR
  obtain ⟨i1, i2, i3, i4⟩ := hI
  by_cases c1 : Q.1 = (6 : Int32)
  · rw [if_pos c1, if_neg (by rw [r2, c1]; decide)]
    exact ⟨rfl, ⟨r1, r2, r3, r4, r5⟩, i1, i2, i3, i4⟩
  have h6 : ¬ iN Q.1 = 6 := fun q => c1 (iN_inj q)
  have hlt : P.2.1 < (6 : Int32) := by
    rw [r2, lt_n (by omega) (by decide), show iN (6 : Int32) = 6 from rfl]
    omega
  rw [if_neg c1, if_pos hlt]
  have hcl : Q.1.toNatClampNeg = iN Q.1 := iN_clamp (by omega)
  unfold m_Po_add m_Ru_become
  dsimp only
  rw [r2, hcl]
  have hn : iN Q.1 < 6 := by omega
  generalize iN Q.1 = n at hn
  refine ⟨rfl, ⟨r1, rfl, ?_, ?_, fun i hi => ?_⟩, ?_, fun i hi => ?_, i3, fun k hk => ?_⟩
  · show P.2.2.1 = (upd Q.2.2.2.1 n kd 6, upd Q.2.2.2.2.1 n dt 6)
    rw [upd_ne (by omega), upd_ne (by omega)]
    exact r3
  · show P.2.2.2.1 = (upd Q.2.2.2.1 n kd 7, upd Q.2.2.2.2.1 n dt 7)
    rw [upd_ne (by omega), upd_ne (by omega)]
    exact r4
  · show RelR (updR P.2.2.2.2 n _ i) _ i
    by_cases e : i = n
    · subst e
      rw [updR_at]
      obtain ⟨-, -, -, -, -, q⟩ := r5 i hi
      exact ⟨upd_at.symm, upd_at.symm, upd_at.symm, upd_at.symm, upd_at.symm, q⟩
    · rw [updR_ne e]
      obtain ⟨q1, q2, q3, q4, q5, q6⟩ := r5 i hi
      refine ⟨?_, ?_, ?_, ?_, ?_, q6⟩
      · rw [q1]; exact (upd_ne e).symm
      · rw [q2]; exact (upd_ne e).symm
      · rw [q3]; exact (upd_ne e).symm
      · rw [q4]; exact (upd_ne e).symm
      · rw [q5]; exact (upd_ne e).symm
  · show iN (Q.1 + (1 : Int32)) ≤ 6
    rw [in_1 (by omega)]
    omega
  · show iN (upd Q.2.2.2.2.2.1 n (0 : Int32) i) ≤ 3
    by_cases e : i = n
    · subst e
      rw [upd_at]
      decide
    · rw [upd_ne e]
      exact i2 i hi
  · show vp_in (upd Q.2.2.2.1 n kd k) 7
    by_cases e : k = n
    · subst e
      rw [upd_at]
      exact kd_in b1 b2
    · rw [upd_ne e]
      exact i4 k hk
theorem rel_withdraw {P : PT} {ho : Int32} {Q : QT} (hR : RelP P ho Q) (hI : InvQ Q) : (m_F_withdraw P).1 = (m_M_withdraw Q).1 ∧ RelP (m_F_withdraw P).2 ho (m_M_withdraw Q).2 ∧ InvQ (m_M_withdraw Q).2 := by
  obtain ⟨r1, r2, r3, r4, r5⟩ := hR
  obtain ⟨i1, i2, i3, i4⟩ := hI
  unfold m_F_withdraw m_M_withdraw
  rw [r2]
  by_cases c1 : Q.1 = (0 : Int32)
  · rw [if_pos c1, if_pos c1]
    exact ⟨rfl, ⟨r1, r2, r3, r4, r5⟩, i1, i2, i3, i4⟩
  · rw [if_neg c1, if_neg c1]
    refine ⟨rfl, ⟨r1, rfl, r3, r4, r5⟩, ?_, i2, i3, i4⟩
    show iN (Q.1 - (1 : Int32)) ≤ 6
    rw [iN_pred c1]
    omega
theorem rel_otherwise {P : PT} {ho : Int32} {Q : QT} (hR : RelP P ho Q) (hI : InvQ Q) (fg kd dt : Int32) : (m_F_otherwise P fg kd dt).1 = (m_M_otherwise Q fg kd dt).1 ∧ RelP (m_F_otherwise P fg kd dt).2 ho (m_M_otherwise Q fg kd dt).2 ∧ InvQ (m_M_otherwise Q fg kd dt).2 := by
  have hno : ((0 : Int32), P).1 = ((0 : Int32), Q).1 ∧ RelP ((0 : Int32), P).2 ho ((0 : Int32), Q).2 ∧ InvQ ((0 : Int32), Q).2 := ⟨rfl, hR, hI⟩
  unfold m_F_otherwise m_M_otherwise
  by_cases b1 : kd < (0 : Int32)
  · rw [if_pos b1, if_pos ((possible kd dt).mpr (Or.inl b1))]; exact hno
  rw [if_neg b1]
  by_cases b2 : (6 : Int32) < kd
  · rw [if_pos b2, if_pos ((possible kd dt).mpr (Or.inr (Or.inl b2)))]; exact hno
  rw [if_neg b2]
  by_cases b3 : dt < (0 : Int32)
  · rw [if_pos b3, if_pos ((possible kd dt).mpr (Or.inr (Or.inr (Or.inl b3))))]; exact hno
  rw [if_neg b3]
  by_cases b4 : (65535 : Int32) < dt
  · rw [if_pos ((possible kd dt).mpr (Or.inr (Or.inr (Or.inr b4)))), if_neg (lt_nle.mp b4)]; exact hno
  rw [if_neg (fun q => by rcases (possible kd dt).mp q with q | q | q | q; exact b1 q; exact b2 q; exact b3 q; exact b4 q), if_pos (show dt ≤ (65535 : Int32) by rw [le_nlt]; exact b4)]
  obtain ⟨r1, r2, r3, r4, r5⟩ := hR
  obtain ⟨i1, i2, i3, i4⟩ := hI
  by_cases c1 : fg = (0 : Int32)
  · rw [if_pos c1, if_pos c1, if_pos c1]
    unfold m_Ac_become_d
    refine ⟨rfl, ⟨r1, r2, ?_, ?_, fun i hi => ?_⟩, i1, i2, i3, fun k hk => ?_⟩
    · show (kd, dt) = (upd Q.2.2.2.1 6 kd 6, upd Q.2.2.2.2.1 6 dt 6)
      rw [upd_at, upd_at]
    · show P.2.2.2.1 = (upd Q.2.2.2.1 6 kd 7, upd Q.2.2.2.2.1 6 dt 7)
      rw [upd_ne (by omega), upd_ne (by omega)]
      exact r4
    · obtain ⟨q1, q2, q3, q4, q5, q6⟩ := r5 i hi
      refine ⟨q1, q2, q3, ?_, ?_, q6⟩
      · rw [q4]; exact (upd_ne (by omega)).symm
      · rw [q5]; exact (upd_ne (by omega)).symm
    · show vp_in (upd Q.2.2.2.1 6 kd k) 7
      by_cases e : k = 6
      · subst e
        rw [upd_at]
        exact kd_in b1 b2
      · rw [upd_ne e]
        exact i4 k hk
  · rw [if_neg c1, if_neg c1, if_neg c1]
    unfold m_Ac_become_f
    refine ⟨rfl, ⟨r1, r2, ?_, ?_, fun i hi => ?_⟩, i1, i2, i3, fun k hk => ?_⟩
    · show P.2.2.1 = (upd Q.2.2.2.1 7 kd 6, upd Q.2.2.2.2.1 7 dt 6)
      rw [upd_ne (by omega), upd_ne (by omega)]
      exact r3
    · show (kd, dt) = (upd Q.2.2.2.1 7 kd 7, upd Q.2.2.2.2.1 7 dt 7)
      rw [upd_at, upd_at]
    · obtain ⟨q1, q2, q3, q4, q5, q6⟩ := r5 i hi
      refine ⟨q1, q2, q3, ?_, ?_, q6⟩
      · rw [q4]; exact (upd_ne (by omega)).symm
      · rw [q5]; exact (upd_ne (by omega)).symm
    · show vp_in (upd Q.2.2.2.1 7 kd k) 7
      by_cases e : k = 7
      · subst e
        rw [upd_at]
        exact kd_in b1 b2
      · rw [upd_ne e]
        exact i4 k hk
theorem is_op (op : Int32) : m_Co_isOperator op = (0 : Int32) ↔ op < (0 : Int32) ∨ (6 : Int32) < op := by
  unfold m_Co_isOperator
  have e : (7 : Int32) ≤ op ↔ (6 : Int32) < op := by
    rw [Int32.lt_iff_toInt_lt, Int32.le_iff_toInt_le, show (7 : Int32).toInt = 7 from rfl, show (6 : Int32).toInt = 6 from rfl]
    omega
  by_cases h1 : op < (0 : Int32)
  · rw [if_pos h1]; exact ⟨fun _ => Or.inl h1, fun _ => rfl⟩
  · rw [if_neg h1]
    by_cases h2 : (7 : Int32) ≤ op
    · rw [if_pos h2]; exact ⟨fun _ => Or.inr (e.mp h2), fun _ => rfl⟩
    · rw [if_neg h2]
      refine ⟨fun q => absurd q (by decide), fun q => ?_⟩
      rcases q with q | q
      · exact absurd q h1
      · exact absurd (e.mpr q) h2
theorem rel_condition {P : PT} {ho : Int32} {Q : QT} (hR : RelP P ho Q) (hI : InvQ Q) (i op : Int32) (va ms : Int64) : (m_F_condition P i op va ms).1 = (m_M_condition Q i op va ms).1 ∧ RelP (m_F_condition P i op va ms).2 ho (m_M_condition Q i op va ms).2 ∧ InvQ (m_M_condition Q i op va ms).2 := by
  have hno : ((0 : Int32), P).1 = ((0 : Int32), Q).1 ∧ RelP ((0 : Int32), P).2 ho ((0 : Int32), Q).2 ∧ InvQ ((0 : Int32), Q).2 := ⟨rfl, hR, hI⟩
  obtain ⟨r1, r2, r3, r4, r5⟩ := hR
  obtain ⟨i1, i2, i3, i4⟩ := hI
  unfold m_F_condition m_M_condition
  rw [r2]
  have flip : ∀ {c : Prop} [Decidable c] {α : Type} (x : α), (if c then x else x) = x := fun x => ite_self x
  by_cases c0 : Q.1 = (0 : Int32)
  · rw [if_pos c0, if_pos c0, flip, flip]
    exact hno
  rw [if_neg c0, if_neg c0]
  by_cases a1 : i < (0 : Int32)
  · rw [if_pos a1, if_pos ((has_arg i).mpr (Or.inl a1))]; exact hno
  rw [if_neg a1]
  by_cases a2 : (5 : Int32) < i
  · rw [if_pos a2, if_pos ((has_arg i).mpr (Or.inr (lt_nle.mp a2)))]; exact hno
  have a2' : i ≤ (5 : Int32) := le_nlt.mpr a2
  rw [if_neg a2, if_neg (fun q => by rcases (has_arg i).mp q with q | q; exact a1 q; exact q a2')]
  by_cases b1 : op < (0 : Int32)
  · rw [if_pos b1, if_pos ((is_op op).mpr (Or.inl b1))]; exact hno
  rw [if_neg b1]
  by_cases b2 : (6 : Int32) < op
  · rw [if_pos b2, if_pos ((is_op op).mpr (Or.inr b2))]; exact hno
  rw [if_neg b2, if_neg (fun q => by rcases (is_op op).mp q with q | q; exact b1 q; exact b2 q)]
  have ep := iN_pred c0
  have hpos := n_pos c0
  have hcl : (Q.1 - (1 : Int32)).toNatClampNeg = iN Q.1 - 1 := by rw [iN_clamp (by omega), ep]
  have hr : iN Q.1 - 1 < 6 := by omega
  rw [hcl]
  generalize hrn : iN Q.1 - 1 = r at hr hcl
  obtain ⟨q1, q2, q3, q4, q5, q6⟩ := r5 r hr
  have hc3 := i2 r hr
  rw [q1]
  by_cases d1 : Q.2.2.2.2.2.1 r = (3 : Int32)
  · rw [if_pos d1, if_neg (by rw [d1]; decide)]
    exact hno
  have d2 : ¬ iN (Q.2.2.2.2.2.1 r) = 3 := fun q => d1 (iN_inj q)
  have d3 : Q.2.2.2.2.2.1 r < (3 : Int32) := by
    rw [lt_n (by omega) (by decide), show iN (3 : Int32) = 3 from rfl]
    omega
  rw [if_neg d1, if_pos d3]
  have hcc : (Q.2.2.2.2.2.1 r).toNatClampNeg = iN (Q.2.2.2.2.2.1 r) := iN_clamp (by omega)
  have hidx : (((3 : Int32) * (Q.1 - (1 : Int32))) + (Q.2.2.2.2.2.1 r)).toNatClampNeg = 3 * r + iN (Q.2.2.2.2.2.1 r) := by
    have e : iN (((3 : Int32) * (Q.1 - (1 : Int32))) + (Q.2.2.2.2.2.1 r)) = 3 * r + iN (Q.2.2.2.2.2.1 r) := by
      rw [iN_add, iN_mul, ep, hrn, show iN (3 : Int32) = 3 from rfl, Nat.mod_eq_of_lt (show 3 * r < 4294967296 by omega), Nat.mod_eq_of_lt (by omega)]
    rw [iN_clamp (by omega), e]
  unfold m_Ru_add
  dsimp only
  rw [q1, hcc, hidx]
  generalize hcn : iN (Q.2.2.2.2.2.1 r) = cc at hc3 d2
  refine ⟨rfl, ⟨r1, r2, r3, r4, fun k hk => ?_⟩, i1, fun k hk => ?_, fun k hk => ?_, i4⟩
  · show RelR (updR P.2.2.2.2 r _ k) _ k
    by_cases e : k = r
    · subst e
      rw [updR_at]
      refine ⟨upd_at.symm, q2, q3, q4, q5, fun j hj => ?_⟩
      show updC (P.2.2.2.2 k).2.2.2.2.2 cc (i, op, va, ms) j = (upd Q.2.2.2.2.2.2.1 (3 * k + cc) i (3 * k + j), upd Q.2.2.2.2.2.2.2.1 (3 * k + cc) op (3 * k + j), vp_updL Q.2.2.2.2.2.2.2.2.1 (3 * k + cc) va (3 * k + j), vp_updL Q.2.2.2.2.2.2.2.2.2 (3 * k + cc) ms (3 * k + j))
      by_cases ej : j = cc
      · subst ej
        rw [updC_at, upd_at, upd_at, updL_at, updL_at]
      · rw [updC_ne ej, upd_ne (by omega), upd_ne (by omega), updL_ne (by omega), updL_ne (by omega)]
        exact q6 j hj
    · rw [updR_ne e]
      obtain ⟨p1, p2, p3, p4, p5, p6⟩ := r5 k hk
      refine ⟨?_, p2, p3, p4, p5, fun j hj => ?_⟩
      · rw [p1]; exact (upd_ne e).symm
      · show (P.2.2.2.2 k).2.2.2.2.2 j = (upd Q.2.2.2.2.2.2.1 (3 * r + cc) i (3 * k + j), upd Q.2.2.2.2.2.2.2.1 (3 * r + cc) op (3 * k + j), vp_updL Q.2.2.2.2.2.2.2.2.1 (3 * r + cc) va (3 * k + j), vp_updL Q.2.2.2.2.2.2.2.2.2 (3 * r + cc) ms (3 * k + j))
        rw [upd_ne (by omega), upd_ne (by omega), updL_ne (by omega), updL_ne (by omega)]
        exact p6 j hj
  · show iN (upd Q.2.2.2.2.2.1 r (Q.2.2.2.2.2.1 r + (1 : Int32)) k) ≤ 3
    by_cases e : k = r
    · subst e
      rw [upd_at, in_1 (by omega)]
      omega
    · rw [upd_ne e]
      exact i2 k hk
  · show vp_in (upd Q.2.2.2.2.2.2.1 (3 * r + cc) i k) 6
    by_cases e : k = 3 * r + cc
    · rw [e, upd_at]
      exact in6 a1 a2'
    · rw [upd_ne e]
      exact i3 k hk
/-! What the machine shows -/
theorem rel_scratch {M : MT} {X : XT} (h : RelM M X) (i : Int32) : m_F_scratch M i = m_M_scratch X i := by
  obtain ⟨h1, h2, h4, h3⟩ := h
  unfold m_F_scratch m_M_scratch
  by_cases a1 : i < (0 : Int32)
  · rw [if_pos a1, if_pos a1]
  rw [if_neg a1, if_neg a1]
  have e16 : (16 : Int32) ≤ i ↔ (15 : Int32) < i := by
    rw [Int32.lt_iff_toInt_lt, Int32.le_iff_toInt_le, show (16 : Int32).toInt = 16 from rfl, show (15 : Int32).toInt = 15 from rfl]
    omega
  by_cases a2 : (15 : Int32) < i
  · rw [if_pos a2, if_pos (e16.mpr a2)]
  rw [if_neg a2, if_neg (fun q => a2 (e16.mp q))]
  obtain ⟨j, hj, rfl⟩ := vp_in_of (ix_w a1 a2) (by decide)
  rw [nI_clamp (by omega)]
  by_cases a3 : X.1 = (0 : Int32)
  · have hs : m_Ma_hasStored M (nI j) = (0 : Int32) := by
      unfold m_Ma_hasStored
      rw [if_pos]
      apply iN_inj
      rw [iN_and, iN_ushr, h2 a3, show iN (0 : Int32) = 0 from rfl, Nat.zero_div, Nat.zero_and]
    rw [if_pos a3, if_pos hs]
  · have p := h3 a3 j hj
    rw [if_neg a3]
    by_cases a4 : X.2.2.2.2 j = (0 : Int32)
    · rw [if_pos a4, if_pos (p.mpr a4)]
    · rw [if_neg a4, if_neg (fun z => a4 (p.mp z)), h4 j hj]
