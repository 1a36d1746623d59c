/-! For the law's loop -/
theorem nI_7 (i : Nat) : nI i + 7 = nI (i + 7) := nI_add i 7
theorem sc_c {k : Int32} {L : Nat} (hL : L < 2147483648) (h1 : ¬ k < 0) (h2 : ¬ Int32.ofNat L ≤ k) : vp_in k L := by
  have e : (Int32.ofNat L).toInt = (L : Int) := nI_toInt (show L < 2 ^ 31 by omega)
  rw [Int32.le_iff_toInt_le, e] at h2
  rw [Int32.lt_iff_toInt_lt, show (0 : Int32).toInt = 0 from rfl] at h1
  rw [vp_in_iff]
  omega
theorem sc_in {i L k : Nat} (h : i + 7 ≤ L) (hL : L < 2147483648) (hk : k < 7) : vp_in (nI i + nI k) L := by
  rw [nI_add]
  exact vp_in_nI (by omega) (by omega)
theorem lw_i {i L : Nat} (hL : L ≤ 3585) (hi : 1 ≤ i ∧ i ≤ 3592) (h : ¬ Int32.ofNat L - (7 : Int32) < nI i) : i + 7 ≤ L := by
  have e1 : iN (nI i) = i := iN_nIs (by omega)
  have e2 : iN (Int32.ofNat L) = L := iN_nIs (n := L) (by omega)
  have e3 : iN (Int32.ofNat L - (7 : Int32)) = (4294967296 - 7 + L) % 4294967296 := by rw [iN_sub, e2]; rfl
  rw [Int32.lt_iff_toInt_lt, iN_int, iN_int, e1, e3] at h
  omega
def A49 (ad : Nat → Nat) : Nat → Prop := fun q => ∃ k, k < 49 ∧ q = ad k
def A15 (ae : Nat → Nat) : Nat → Prop := fun q => ∃ k, k < 15 ∧ q = ae k
theorem keep {D : va_G} {ws : va_W} {H H1 : Heap} {A1 : Nat → Prop} (hP : va_P D cls ws H) (hk : ∀ q : Nat, q < H.size → ¬ A1 q → H1[q]? = H[q]?) (hd : ∀ (k : Nat) (q : Nat × va_E), ws[k]? = some q → ¬ A1 q.1) : va_P D cls ws H1 := hP.kept (fun k q hq => hk q.1 ((hP k q hq).lt) (hd k q hq))
theorem disM {ad ae : Nat → Nat} (h : ∀ j k, j < 49 → k < 15 → ¬ ad j = ae k) {dA : Nat → ClassId} {ho : Int32} {wo : Nat → Int32} {Q : QT} {G : GT} {mk : Nat → Int32} {X : XT} : ∀ (k : Nat) (q : Nat × va_E), (wM ae dA ho wo Q G mk X)[k]? = some q → ¬ A49 ad q.1 := by
  intro k q hq z
  obtain ⟨h1, h2⟩ := wM_adr hq
  obtain ⟨j, z1, z2⟩ := z
  exact h j k z1 h1 (by rw [← z2, h2])
theorem disC {ad ae : Nat → Nat} (h : ∀ j k, j < 49 → k < 15 → ¬ ad j = ae k) {dA : Nat → ClassId} {w : Nat → Int32} {P : PT} {g : GT} {ss : Nat → Int32} {M : MT} : ∀ (k : Nat) (q : Nat × va_E), (wC ad dA w P g ss M)[k]? = some q → ¬ A15 ae q.1 := by
  intro k q hq z
  obtain ⟨h1, h2⟩ := wC_adr hq
  obtain ⟨j, z1, z2⟩ := z
  exact h k j h1 z1 (by rw [← z2, h2])
theorem KW_law {s U : State} {H : Heap} {locs : List Loc} {A : Nat → Prop} {kt : Nat} (h : va_Z "CallFilter$Action" "KIND_WORDS" "[J" (.ref kt) A s s.heap ∧ va_T .long kt 7 (fun j => .long (kwf j)) A s s.heap) (hS : va_S A s.heap H locs) (hU : U.heap = H) (hW : s.WarmedH U.vm) : KW kt U := by
  refine ⟨?_, ?_⟩
  · rw [hU]
    exact va_Z.moved hW.alike ((h.1.kept hS.2.1).narrow (fun _ q => q.elim))
  · rw [hU]
    exact va_T.moved hW.alike ((h.2.kept hS.2.1).narrow (fun _ q => q.elim))
theorem X_law {s U : State} {H : Heap} {locs : List Loc} {A : Nat → Prop} {b L : Nat} {xs : Nat → Int32} (hX : va_X b L xs s s.heap) (hbl : b < s.heap.size) (hbA : ¬ A b) (hS : va_S A s.heap H locs) (hU : U.heap = H) (hW : s.WarmedH U.vm) : va_X b L xs U U.heap ∧ b < U.heap.size := by
  rw [hU]
  exact ⟨va_X.moved hW.alike (hX.kept (hS.2.1 b hbl hbA)), Nat.lt_of_lt_of_le hbl hS.1⟩
theorem P_left {D : va_G} {w1 w2 : va_W} {H : Heap} (h : va_P D cls (w1 ++ w2) H) : va_P D cls w1 H := fun k q hq => h k q (by rw [List.getElem?_append_left ((List.getElem?_eq_some_iff.mp hq).1)]; exact hq)
theorem P_right {D : va_G} {w1 w2 : va_W} {H : Heap} (h : va_P D cls (w1 ++ w2) H) : va_P D cls w2 H := fun k q hq => h (w1.length + k) q (by rw [List.getElem?_append_right (Nat.le_add_right _ _), Nat.add_sub_cancel_left]; exact hq)
theorem wC_at {ad : Nat → Nat} {dA : Nat → ClassId} {w : Nat → Int32} {P : PT} {g : GT} {ss : Nat → Int32} {M : MT} {k : Nat} (hk : k < 49) : ∃ e, (wC ad dA w P g ss M)[k]? = some (ad k, e) := by
  have hl : k < (wC ad dA w P g ss M).length := hk
  refine ⟨((wC ad dA w P g ss M)[k]).2, ?_⟩
  have h := List.getElem?_eq_getElem hl
  have h2 := wC_adr h
  rw [h, ← h2.2]
theorem wM_at {ad : Nat → Nat} {dA : Nat → ClassId} {ho : Int32} {wo : Nat → Int32} {Q : QT} {G : GT} {mk : Nat → Int32} {X : XT} {k : Nat} (hk : k < 15) : ∃ e, (wM ad dA ho wo Q G mk X)[k]? = some (ad k, e) := by
  have hl : k < (wM ad dA ho wo Q G mk X).length := hk
  refine ⟨((wM ad dA ho wo Q G mk X)[k]).2, ?_⟩
  have h := List.getElem?_eq_getElem hl
  have h2 := wM_adr h
  rw [h, ← h2.2]
section LD
variable {A : Nat → Prop} {ad ae : Nat → Nat} {dA : Nat → ClassId} {w : Nat → Int32} {P : PT} {g : GT} {ss : Nat → Int32} {M : MT} {ho : Int32} {wo : Nat → Int32} {Q : QT} {G : GT} {mk : Nat → Int32} {X : XT}
theorem two_at1 {k : Nat} (hk : k < 49) : ∃ e, (wC ad dA w P g ss M ++ wM ae dA ho wo Q G mk X)[k]? = some (ad k, e) := by
  obtain ⟨e, h⟩ := wC_at (ad := ad) (dA := dA) (w := w) (P := P) (g := g) (ss := ss) (M := M) hk
  exact ⟨e, by rw [List.getElem?_append_left (show k < (wC ad dA w P g ss M).length from hk)]; exact h⟩
theorem two_at2 {k : Nat} (hk : k < 15) : ∃ e, (wC ad dA w P g ss M ++ wM ae dA ho wo Q G mk X)[49 + k]? = some (ae k, e) := by
  obtain ⟨e, h⟩ := wM_at (ad := ae) (dA := dA) (ho := ho) (wo := wo) (Q := Q) (G := G) (mk := mk) (X := X) hk
  refine ⟨e, ?_⟩
  have hl : (wC ad dA w P g ss M).length = 49 := rfl
  rw [List.getElem?_append_right (by rw [hl]; omega), hl, Nat.add_sub_cancel_left]
  exact h
theorem law_ad (hD : va_D A (wC ad dA w P g ss M ++ wM ae dA ho wo Q G mk X)) : AdOK 49 ad (A49 ad) ∧ AdOK 15 ae (A15 ae) ∧ (∀ j k, j < 49 → k < 15 → ¬ ad j = ae k) ∧ (∀ q, A49 ad q → A q) ∧ ∀ q, A15 ae q → A q := by
  refine ⟨⟨fun i j hi hj e => ?_, fun k hk => ⟨k, hk, rfl⟩⟩, ⟨fun i j hi hj e => ?_, fun k hk => ⟨k, hk, rfl⟩⟩, fun j k hj hk e => ?_, fun q hq => ?_, fun q hq => ?_⟩
  · obtain ⟨x, hx⟩ := two_at1 (ad := ad) (ae := ae) (dA := dA) (w := w) (P := P) (g := g) (ss := ss) (M := M) (ho := ho) (wo := wo) (Q := Q) (G := G) (mk := mk) (X := X) hi
    obtain ⟨y, hy⟩ := two_at1 (ad := ad) (ae := ae) (dA := dA) (w := w) (P := P) (g := g) (ss := ss) (M := M) (ho := ho) (wo := wo) (Q := Q) (G := G) (mk := mk) (X := X) hj
    exact hD.1 i j _ _ hx hy e
  · obtain ⟨x, hx⟩ := two_at2 (ad := ad) (ae := ae) (dA := dA) (w := w) (P := P) (g := g) (ss := ss) (M := M) (ho := ho) (wo := wo) (Q := Q) (G := G) (mk := mk) (X := X) hi
    obtain ⟨y, hy⟩ := two_at2 (ad := ad) (ae := ae) (dA := dA) (w := w) (P := P) (g := g) (ss := ss) (M := M) (ho := ho) (wo := wo) (Q := Q) (G := G) (mk := mk) (X := X) hj
    have := hD.1 (49 + i) (49 + j) _ _ hx hy e
    omega
  · obtain ⟨x, hx⟩ := two_at1 (ad := ad) (ae := ae) (dA := dA) (w := w) (P := P) (g := g) (ss := ss) (M := M) (ho := ho) (wo := wo) (Q := Q) (G := G) (mk := mk) (X := X) hj
    obtain ⟨y, hy⟩ := two_at2 (ad := ad) (ae := ae) (dA := dA) (w := w) (P := P) (g := g) (ss := ss) (M := M) (ho := ho) (wo := wo) (Q := Q) (G := G) (mk := mk) (X := X) hk
    have := hD.1 j (49 + k) _ _ hx hy e
    omega
  · obtain ⟨k, hk, rfl⟩ := hq
    obtain ⟨x, hx⟩ := two_at1 (ad := ad) (ae := ae) (dA := dA) (w := w) (P := P) (g := g) (ss := ss) (M := M) (ho := ho) (wo := wo) (Q := Q) (G := G) (mk := mk) (X := X) hk
    exact hD.2 k _ hx
  · obtain ⟨k, hk, rfl⟩ := hq
    obtain ⟨x, hx⟩ := two_at2 (ad := ad) (ae := ae) (dA := dA) (w := w) (P := P) (g := g) (ss := ss) (M := M) (ho := ho) (wo := wo) (Q := Q) (G := G) (mk := mk) (X := X) hk
    exact hD.2 (49 + k) _ hx
end LD
section RP
variable {P : PT} {ho : Int32} {Q : QT}
theorem rp_n (h : RelP P ho Q) (hI : InvQ Q) : iN P.2.1 ≤ 6 := by rw [h.2.1]; exact hI.1
theorem rp_c (h : RelP P ho Q) (hI : InvQ Q) : ∀ i, i < 6 → iN (P.2.2.2.2 i).1 ≤ 3 := fun i hi => by rw [(h.2.2.2.2 i hi).1]; exact hI.2.1 i hi
theorem rp_p (h : RelP P ho Q) (hI : InvQ Q) : ∀ i, i < 6 → ∀ j, j < 3 → vp_in ((P.2.2.2.2 i).2.2.2.2.2 j).1 6 := fun i hi j hj => by rw [(h.2.2.2.2 i hi).2.2.2.2.2 j hj]; exact hI.2.2.1 (3 * i + j) (by omega)
theorem rp_d (h : RelP P ho Q) (hI : InvQ Q) : vp_in P.2.2.1.1 7 := by rw [h.2.2.1]; exact hI.2.2.2 6 (by decide)
theorem rp_f (h : RelP P ho Q) (hI : InvQ Q) : vp_in P.2.2.2.1.1 7 := by rw [h.2.2.2.1]; exact hI.2.2.2 7 (by decide)
theorem rp_r (h : RelP P ho Q) (hI : InvQ Q) : ∀ i, i < 6 → vp_in (P.2.2.2.2 i).2.2.2.1 7 := fun i hi => by rw [(h.2.2.2.2 i hi).2.2.2.1]; exact hI.2.2.2 i (by omega)
end RP
theorem g_pos {g : GT} (h : iN g.1 ≤ 64) : (0 : Int32) ≤ g.1 := by
  rw [le_n (by decide) (by omega)]
  exact Nat.zero_le _
theorem rl2_b {w : Nat → Int32} {G : GT} {mk : Nat → Int32} {X : XT} (h : ∀ i, b01 (mk i)) : ∀ (n : Nat) (at_ : Int32) (sp : Nat) (X2 : XT) (k : Nat), b01 ((m_M_run_l2 w G mk X n at_ sp X2).2.1 k) := by
  intro n
  induction n with
  | zero => intro at_ sp X2 k; exact h k
  | succ n ih =>
    intro at_ sp X2 k
    rw [m_M_run_l2]
    repeat' split
    all_goals first | exact check_b h k | exact ih _ _ _ k
theorem rl1_b {w : Nat → Int32} {G : GT} {mk : Nat → Int32} {X : XT} (h : ∀ i, b01 (mk i)) : ∀ (n q : Nat) (X1 : XT) (k : Nat), b01 ((m_M_run_l1 w G mk X n q X1).2.1 k) := by
  intro n
  induction n with
  | zero => intro q X1 k; exact h k
  | succ n ih =>
    intro q X1 k
    rw [m_M_run_l1]
    split
    · exact rl2_b h _ _ _ _ k
    · exact ih _ _ k
theorem run_b {w : Nat → Int32} {G : GT} {mk : Nat → Int32} {X : XT} (h : ∀ i, b01 (mk i)) : ∀ k, b01 ((m_M_run w G mk X).2.1 k) := by
  intro k
  unfold m_M_run
  split
  · exact rl1_b h _ _ _ k
  · exact check_b h k
theorem rel_init (ar : Int32) : RelP (ar, 0, (6, 0), (0, 0), fun _ => (0, 0, 0, 0, 0, fun _ => (0, 0, 0, 0))) ar (0, (fun _ => 0), (fun _ => 0), upd (fun _ => 0) 6 6, (fun _ => 0), (fun _ => 0), (fun _ => 0), (fun _ => 0), (fun _ => 0), fun _ => 0) ∧ InvQ (0, (fun _ => 0), (fun _ => 0), upd (fun _ => 0) 6 6, (fun _ => 0), (fun _ => 0), (fun _ => 0), (fun _ => 0), (fun _ => 0), fun _ => 0) ∧ RelM ((fun _ => 0), 0, 0, 0, 0, 0, 0, 0) (0, 0, 0, (fun _ => 0), fun _ => 0) := by
  refine ⟨⟨rfl, rfl, rfl, rfl, fun i hi => ⟨rfl, rfl, rfl, ?_, rfl, fun j hj => rfl⟩⟩, ⟨by decide, fun i hi => (show iN (0 : Int32) ≤ 3 by decide), fun c hc => vp_in_nI (n := 0) (by decide) (by decide), fun k hk => ?_⟩, rfl, fun _ => rfl, fun i hi => (show (0 : Int64) = m_F_unsigned 0 from rfl), fun q => absurd rfl q⟩
  · show (0 : Int32) = upd (fun _ => 0) 6 6 i
    rw [upd_ne (by omega)]
  · show vp_in (upd (fun _ => 0) 6 6 k) 7
    by_cases e : k = 6
    · rw [e, upd_at]
      exact vp_in_nI (n := 6) (by decide) (by decide)
    · rw [upd_ne e]
      exact vp_in_nI (n := 0) (by decide) (by decide)
theorem wd_39 : Cond.instantiable R_F 5 ∈ lw_g := wd_in (i := 39) (by decide +kernel) (by decide +kernel)
theorem wd_495 : Cond.instantiable R_M 20 ∈ lw_g := wd_in (i := 495) (by decide +kernel) (by decide +kernel)
theorem d_L_cell_0 : decode b_L_cell 0 = .ok (.iload_n 1, 1) := by decide +kernel
theorem d_L_cell_1 : decode b_L_cell 1 = .ok (.aload_n 0, 1) := by decide +kernel
theorem d_L_cell_2 : decode b_L_cell 2 = .ok (.arraylength, 1) := by decide +kernel
theorem d_L_cell_3 : decode b_L_cell 3 = .ok (.if_icmp .ge 9, 3) := by decide +kernel
theorem d_L_cell_6 : decode b_L_cell 6 = .ok (.aload_n 0, 1) := by decide +kernel
theorem d_L_cell_7 : decode b_L_cell 7 = .ok (.iload_n 1, 1) := by decide +kernel
theorem d_L_cell_8 : decode b_L_cell 8 = .ok (.iaload, 1) := by decide +kernel
theorem d_L_cell_9 : decode b_L_cell 9 = .ok (.goto 4, 3) := by decide +kernel
theorem d_L_cell_12 : decode b_L_cell 12 = .ok (.iconst 0, 1) := by decide +kernel
theorem d_L_cell_13 : decode b_L_cell 13 = .ok (.ireturn, 1) := by decide +kernel
theorem nwd_48 : Cond.methodLinkNest R_F 9 y_Ca_init R_F ∈ lw_tbl := List.mem_of_getElem? (i := 48) (by decide +kernel)
theorem nwd_91 : Cond.methodLinkNest R_Ru 24 y_Co_init R_F ∈ lw_tbl := List.mem_of_getElem? (i := 91) (by decide +kernel)
theorem nwd_148 : Cond.methodLinkNest R_F 27 y_Pr_init R_F ∈ lw_tbl := List.mem_of_getElem? (i := 148) (by decide +kernel)
theorem nwd_167 : Cond.methodLinkNest R_F 34 y_Ch_init R_F ∈ lw_tbl := List.mem_of_getElem? (i := 167) (by decide +kernel)
theorem nwd_177 : Cond.methodLinkNest R_F 41 y_Ma_init R_F ∈ lw_tbl := List.mem_of_getElem? (i := 177) (by decide +kernel)
theorem nwd_300 : Cond.methodLinkNest R_Ca 13 y_F_unsigned R_F ∈ lw_tbl := List.mem_of_getElem? (i := 300) (by decide +kernel)
theorem nwd_463 : Cond.methodLinkNest R_Ma 46 y_F_unsigned R_F ∈ lw_tbl := List.mem_of_getElem? (i := 463) (by decide +kernel)
theorem nwd_80 : Cond.arrayOver (Jvm.ClassFile.FieldType.object "CallFilter$Rule") ∈ lw_tbl := List.mem_of_getElem? (i := 80) (by decide +kernel)
theorem nwd_89 : Cond.arrayOver (Jvm.ClassFile.FieldType.object "CallFilter$Condition") ∈ lw_tbl := List.mem_of_getElem? (i := 89) (by decide +kernel)
theorem nwd_335 : Cond.laysStatic R_Ac "KIND_WORDS" "[J" ∈ lw_tbl := List.mem_of_getElem? (i := 335) (by decide +kernel)
theorem nw_of {b : Nat} {s : State} (hts0 : ∀ w ∈ lw_tbl, w.before #[Value.ref b] s = true) : NW s := ⟨va_Nw.of rfl (hts0 _ nwd_48), va_Nw.of rfl (hts0 _ nwd_91), va_Nw.of rfl (hts0 _ nwd_148), va_Nw.of rfl (hts0 _ nwd_167), va_Nw.of rfl (hts0 _ nwd_177), va_Nw.of rfl (hts0 _ nwd_300), va_Nw.of rfl (hts0 _ nwd_463), va_AO.of (hts0 _ nwd_80), va_AO.of (hts0 _ nwd_89)⟩
theorem kw_of {b : Nat} {s : State} {A : Nat → Prop} (hts0 : ∀ w ∈ lw_tbl, w.before #[Value.ref b] s = true) (hgv : (Jvm.Cond.and given_1 narrow_1).before #[Value.ref b] s = true) (hA : ∀ a : Nat, a < s.heap.size → ¬ A a) : ∃ kt : Nat, va_Z "CallFilter$Action" "KIND_WORDS" "[J" (.ref kt) A s s.heap ∧ va_T .long kt 7 (fun j => .long (kwf j)) A s s.heap := by
  have hs := flat_of_before _ hgv
  have harr : (Cond.arrayOf (Term.static "CallFilter$Action" "KIND_WORDS" "[J") .long).before #[Value.ref b] s = true := hs _ (by decide +kernel)
  have hlen := va_eqt (hs (Cond.eq (Term.length (Term.static "CallFilter$Action" "KIND_WORDS" "[J")) (Term.int 7)) (by decide +kernel))
  have e0 := va_eqtl (hs (Cond.eq (Term.elem (Term.static "CallFilter$Action" "KIND_WORDS" "[J") (Term.int 0)) (Term.long 2147483648)) (by decide +kernel))
  have e1 := va_eqtl (hs (Cond.eq (Term.elem (Term.static "CallFilter$Action" "KIND_WORDS" "[J") (Term.int 1)) (Term.long 0)) (by decide +kernel))
  have e2 := va_eqtl (hs (Cond.eq (Term.elem (Term.static "CallFilter$Action" "KIND_WORDS" "[J") (Term.int 2)) (Term.long 196608)) (by decide +kernel))
  have e3 := va_eqtl (hs (Cond.eq (Term.elem (Term.static "CallFilter$Action" "KIND_WORDS" "[J") (Term.int 3)) (Term.long 327680)) (by decide +kernel))
  have e4 := va_eqtl (hs (Cond.eq (Term.elem (Term.static "CallFilter$Action" "KIND_WORDS" "[J") (Term.int 4)) (Term.long 2146435072)) (by decide +kernel))
  have e5 := va_eqtl (hs (Cond.eq (Term.elem (Term.static "CallFilter$Action" "KIND_WORDS" "[J") (Term.int 5)) (Term.long 2147221504)) (by decide +kernel))
  have e6 := va_eqtl (hs (Cond.eq (Term.elem (Term.static "CallFilter$Action" "KIND_WORDS" "[J") (Term.int 6)) (Term.long 2147418112)) (by decide +kernel))
  obtain ⟨t, h1, h2⟩ := va_Tof (A := A) (N := 7) (f := fun j => .long (kwf j)) (by decide) harr hlen (fun j hj => by
    rcases (show j = 0 ∨ j = 1 ∨ j = 2 ∨ j = 3 ∨ j = 4 ∨ j = 5 ∨ j = 6 by omega) with rfl | rfl | rfl | rfl | rfl | rfl | rfl
    · exact e0
    · exact e1
    · exact e2
    · exact e3
    · exact e4
    · exact e5
    · exact e6) hA
  exact ⟨t, va_Zref (hts0 _ nwd_335) (hts0 _ (List.mem_filter.mp wd_29).1) h1 hA, h2⟩
theorem k_of {b : Nat} {s : State} (hts0 : ∀ w ∈ lw_tbl, w.before #[Value.ref b] s = true) : ∃ (D : va_G) (dA : Nat → ClassId), va_K D cls (tysA dA) s := by
  have hts := fun (w : Cond) (h : w ∈ lw_g) => hts0 w (List.mem_filter.mp h).1
  obtain ⟨c0, i0, k0⟩ := u_known (ws := lw_g) (C := R_Ac) (T := F_Ac) (N := 2) hts in_Ac (hts _ wd_66)
  obtain ⟨c1, i1, k1⟩ := u_known (ws := lw_g) (C := R_Ca) (T := F_Ca) (N := 1) hts in_Ca (hts _ wd_47)
  obtain ⟨c2, i2, k2⟩ := u_known (ws := lw_g) (C := R_Ch) (T := F_Ch) (N := 1) hts in_Ch (hts _ wd_166)
  obtain ⟨c3, i3, k3⟩ := u_known (ws := lw_g) (C := R_Co) (T := F_Co) (N := 4) hts in_Co (hts _ wd_90)
  obtain ⟨c4, i4, k4⟩ := u_known (ws := lw_g) (C := R_Ma) (T := F_Ma) (N := 8) hts in_Ma (hts _ wd_176)
  obtain ⟨c5, i5, k5⟩ := u_known (ws := lw_g) (C := R_Po) (T := F_Po) (N := 5) hts in_Po (hts _ wd_60)
  obtain ⟨c6, i6, k6⟩ := u_known (ws := lw_g) (C := R_Pr) (T := F_Pr) (N := 2) hts in_Pr (hts _ wd_147)
  obtain ⟨c7, i7, k7⟩ := u_known (ws := lw_g) (C := R_Ru) (T := F_Ru) (N := 5) hts in_Ru (hts _ wd_81)
  obtain ⟨c8, i8, k8⟩ := u_known (ws := lw_g) (C := R_F) (T := F_F) (N := 5) hts in_F (hts _ wd_39)
  obtain ⟨c9, i9, k9⟩ := u_known (ws := lw_g) (C := R_M) (T := F_M) (N := 20) hts in_M (hts _ wd_495)
  obtain ⟨a0, y0, z0, f0, g0, d0⟩ := Cond.arrayClass_spec (hts _ wd_58)
  obtain ⟨a1, y1, z1, f1, g1, d1⟩ := Cond.arrayClass_spec (hts _ wd_164)
  obtain ⟨a4, y4, z4, f4, g4, d4⟩ := Cond.arrayClass_spec (hts _ wd_561)
  obtain ⟨z2, a2, y2, f2, -, g2, d2, p2⟩ := Cond.arrayOver_spec (hts0 _ nwd_80)
  obtain ⟨z3, a3, y3, f3, -, g3, d3, p3⟩ := Cond.arrayOver_spec (hts0 _ nwd_89)
  refine ⟨(fun c => ([c0, c1, c2, c3, c4, c5, c6, c7, c8, c9] : List ClassId).getD c 0, fun c => ([i0, i1, i2, i3, i4, i5, i6, i7, i8, i9] : List (Nat → Nat)).getD c (fun _ => 0)), fun k => ([a0, a1, a2, a3, a4] : List ClassId).getD k 0, fun c q hq => ?_, fun k q hq => ?_⟩
  · have hc : c < 10 := (List.getElem?_eq_some_iff.mp hq).1
    rcases (show c = 0 ∨ c = 1 ∨ c = 2 ∨ c = 3 ∨ c = 4 ∨ c = 5 ∨ c = 6 ∨ c = 7 ∨ c = 8 ∨ c = 9 by omega) with rfl | rfl | rfl | rfl | rfl | rfl | rfl | rfl | rfl | rfl
    · obtain rfl : (R_Ac, F_Ac, 2) = q := Option.some.inj hq
      exact k0
    · obtain rfl : (R_Ca, F_Ca, 1) = q := Option.some.inj hq
      exact k1
    · obtain rfl : (R_Ch, F_Ch, 1) = q := Option.some.inj hq
      exact k2
    · obtain rfl : (R_Co, F_Co, 4) = q := Option.some.inj hq
      exact k3
    · obtain rfl : (R_Ma, F_Ma, 8) = q := Option.some.inj hq
      exact k4
    · obtain rfl : (R_Po, F_Po, 5) = q := Option.some.inj hq
      exact k5
    · obtain rfl : (R_Pr, F_Pr, 2) = q := Option.some.inj hq
      exact k6
    · obtain rfl : (R_Ru, F_Ru, 5) = q := Option.some.inj hq
      exact k7
    · obtain rfl : (R_F, F_F, 5) = q := Option.some.inj hq
      exact k8
    · obtain rfl : (R_M, F_M, 20) = q := Option.some.inj hq
      exact k9
  · have hc : k < 5 := (List.getElem?_eq_some_iff.mp hq).1
    rcases (show k = 0 ∨ k = 1 ∨ k = 2 ∨ k = 3 ∨ k = 4 by omega) with rfl | rfl | rfl | rfl | rfl
    · obtain rfl : (a0, FieldType.int) = q := Option.some.inj hq
      exact ⟨fun n z => ⟨fun k h => (by cases h), y0, g0, z0, d0⟩, f0⟩
    · obtain rfl : (a1, FieldType.long) = q := Option.some.inj hq
      exact ⟨fun n z => ⟨fun k h => (by cases h), y1, g1, z1, d1⟩, f1⟩
    · obtain rfl : (a2, FieldType.object "CallFilter$Rule") = q := Option.some.inj hq
      exact ⟨fun n z => ⟨fun k h => (by cases h), y2, g2, z2, d2⟩, y2, z2, g2, d2, f2, p2⟩
    · obtain rfl : (a3, FieldType.object "CallFilter$Condition") = q := Option.some.inj hq
      exact ⟨fun n z => ⟨fun k h => (by cases h), y3, g3, z3, d3⟩, y3, z3, g3, d3, f3, p3⟩
    · obtain rfl : (a4, FieldType.boolean) = q := Option.some.inj hq
      exact ⟨fun n z => ⟨fun k h => (by cases h), y4, g4, z4, d4⟩, f4⟩
set_option maxHeartbeats 4000000 in
set_option maxRecDepth 100000 in
theorem c_L_cell (l : Launch) (b L : Nat) (xs : Nat → Int32) (k : Int32) (hk : ¬ k < 0) (hL : L < 2147483648) : Met l y_L_cell (mW y_L_cell b_L_cell 2 (some .int)) { frames := 0, cells := 0, slots := 0, locals := 0 } (va_Pc [.ref b, .int k] (fun U => va_X b L xs U U.heap ∧ b < U.heap.size)) (vp_Si (fun r => r = if Int32.ofNat L ≤ k then 0 else xs k.toNatClampNeg)) 0 0 (fun _ => False) := by
  refine Met.ofW (cc := b_L_cell) (maxL := 2) (ret := some .int) (by decide) rfl ?_
  intro p e s m args below meth c s₁ B hml hv
  obtain ⟨rfl, hX, hbl⟩ := hv
  have hx := B.exec
  have hb := B.bytes
  have hr := B.returns
  have hlocks := B.notSynchronized
  have hl := lv_entry ([.ref b, .int k]) (n := 2) (Nat.le_of_ble_eq_true rfl)
  rw [lg_entry_eq]
  generalize (lg_sl ([.ref b, .int k]) ++ List.replicate (2 - (lg_sl ([.ref b, .int k])).length) Slot.unset).toArray = ls at hl ⊢
  have hl : lv_has ls 2 [(0, .ref b), (1, .int k)] := hl
  refine lv_iload_n hx hb d_L_cell_0 rfl (lv_at hl 1 rfl) ?_
  refine lv_aload_n hx hb d_L_cell_1 rfl (lv_at hl 0 rfl) ?_
  refine va_slen (A := fun _ => False) hx hb hX hbl (fun h => h) va_S.rf d_L_cell_2 ?_
  refine lv_icmp_ge (tgt := 12) hx hb d_L_cell_3 (by decide) (fun h1 => ?_) (fun h1 => ?_)
  · refine lv_iconst (v := 0) hx hb d_L_cell_12 (by decide) ?_
    exact W.iret hx hb hr (fun t ht hW => ⟨_, rfl, (by rw [if_pos h1]), ht⟩) (fun _ h => by cases h) d_L_cell_13
  refine lv_aload_n hx hb d_L_cell_6 rfl (lv_at hl 0 rfl) ?_
  refine lv_iload_n hx hb d_L_cell_7 rfl (lv_at hl 1 rfl) ?_
  refine va_sld (A := fun _ => False) hx hb hX hbl (fun h => h) va_S.rf (sc_c hL hk h1) d_L_cell_8 ?_
  refine lv_goto (tgt := 13) hx hb d_L_cell_9 (by decide) ?_
  exact W.iret hx hb hr (fun t ht hW => ⟨_, rfl, (by rw [if_neg h1]), ht⟩) (fun _ h => by cases h) d_L_cell_13
