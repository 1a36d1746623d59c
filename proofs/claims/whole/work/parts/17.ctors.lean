/-! Array classes are one a name -/
section DA
variable {D : va_G} {dA : Nat → ClassId} {cA : ClassId} {s : State}
theorem dA_0 (h : va_K D cls (tysA dA ++ [(cA, .int)]) s) : cA = dA 0 := by
  have h1 : s.vm.findClass ("[" ++ FieldType.int.toString) = some (dA 0) := (h.2 0 _ rfl).2
  have h2 : s.vm.findClass ("[" ++ FieldType.int.toString) = some cA := (h.2 5 _ rfl).2
  exact Option.some.inj (h2.symm.trans h1)
theorem dA_1 (h : va_K D cls (tysA dA ++ [(cA, .long)]) s) : cA = dA 1 := by
  have h1 : s.vm.findClass ("[" ++ FieldType.long.toString) = some (dA 1) := (h.2 1 _ rfl).2
  have h2 : s.vm.findClass ("[" ++ FieldType.long.toString) = some cA := (h.2 5 _ rfl).2
  exact Option.some.inj (h2.symm.trans h1)
theorem dA_4 (h : va_K D cls (tysA dA ++ [(cA, .boolean)]) s) : cA = dA 4 := by
  have h1 : s.vm.findClass ("[" ++ FieldType.boolean.toString) = some (dA 4) := (h.2 4 _ rfl).2
  have h2 : s.vm.findClass ("[" ++ FieldType.boolean.toString) = some cA := (h.2 5 _ rfl).2
  exact Option.some.inj (h2.symm.trans h1)
theorem dA_2 (h : va_K D cls (tysA dA ++ [(cA, .object "CallFilter$Rule")]) s) : cA = dA 2 := by
  obtain ⟨_, _, _, _, _, h1⟩ := (h.2 2 _ rfl).2
  obtain ⟨_, _, _, _, _, h2⟩ := (h.2 5 _ rfl).2
  exact Option.some.inj (h2.symm.trans h1)
theorem dA_3 (h : va_K D cls (tysA dA ++ [(cA, .object "CallFilter$Condition")]) s) : cA = dA 3 := by
  obtain ⟨_, _, _, _, _, h1⟩ := (h.2 3 _ rfl).2
  obtain ⟨_, _, _, _, _, h2⟩ := (h.2 5 _ rfl).2
  exact Option.some.inj (h2.symm.trans h1)
end DA
/-- a new rule's cells -/
def wU (dA : Nat → ClassId) (q : Nat) (u : Nat → Nat) : va_W :=
  [(q, .inr (7, [.ref (u 0), .int 0, .int 0, .int 0, .ref (u 1)])), (u 0, .inr (0, [.int 0, .int 0])), (u 1, .inl (dA 3, 3, .inr (.inr (.inr (.inr (rfs u 3 2 1)))))),
   (u 2, .inr (3, [.int 0, .int 0, .long 0, .long 0])), (u 3, .inr (3, [.int 0, .int 0, .long 0, .long 0])), (u 4, .inr (3, [.int 0, .int 0, .long 0, .long 0]))]
theorem rfs_congr {u v : Nat → Nat} {n o o' s : Nat} (h : ∀ j, j < n → u (o + s * j) = v (o' + s * j)) : rfs u n o s = rfs v n o' s := by
  funext j
  unfold rfs
  by_cases hj : j < n
  · rw [if_pos hj, if_pos hj, h j hj]
  · rw [if_neg hj, if_neg hj]
theorem wU_congr {dA : Nat → ClassId} {q q' : Nat} {u v : Nat → Nat} (hq : q = q') (h : ∀ k, k < 5 → u k = v k) : wU dA q u = wU dA q' v := by
  subst hq
  unfold wU
  rw [h 0 (by decide), h 1 (by decide), h 2 (by decide), h 3 (by decide), h 4 (by decide), rfs_congr (u := u) (v := v) (o' := 2) (fun j hj => h _ (by omega))]
theorem va_up3 (u : Nat → Nat) : va_up (va_up (va_up (fun _ => none) 0 (some (u 2))) 1 (some (u 3))) 2 (some (u 4)) = rfs u 3 2 1 := by
  funext j
  unfold rfs
  by_cases h : j < 3
  · rcases (show j = 0 ∨ j = 1 ∨ j = 2 by omega) with rfl | rfl | rfl <;> rfl
  · have h0 : ¬ j = 0 := by omega
    have h1 : ¬ j = 1 := by omega
    have h2 : ¬ j = 2 := by omega
    simp [va_up, h, h0, h1, h2]
theorem va_up6 (u : Nat → Nat) : va_up (va_up (va_up (va_up (va_up (va_up (fun _ => none) 0 (some (u 3))) 1 (some (u 9))) 2 (some (u 15))) 3 (some (u 21))) 4 (some (u 27))) 5 (some (u 33)) = rfs u 6 3 6 := by
  funext j
  unfold rfs
  by_cases h : j < 6
  · rcases (show j = 0 ∨ j = 1 ∨ j = 2 ∨ j = 3 ∨ j = 4 ∨ j = 5 by omega) with rfl | rfl | rfl | rfl | rfl | rfl <;> rfl
  · have h0 : ¬ j = 0 := by omega
    have h1 : ¬ j = 1 := by omega
    have h2 : ¬ j = 2 := by omega
    have h3 : ¬ j = 3 := by omega
    have h4 : ¬ j = 4 := by omega
    have h5 : ¬ j = 5 := by omega
    simp [va_up, h, h0, h1, h2, h3, h4, h5]
/-- a new policy's cells -/
def wPo (dA : Nat → ClassId) (q : Nat) (ar : Int32) (u : Nat → Nat) : va_W :=
  [(q, .inr (5, [.ref (u 0), .ref (u 1), .ref (u 2), .int 0, .int ar])), (u 0, .inr (0, [.int 6, .int 0])), (u 1, .inr (0, [.int 0, .int 0])), (u 2, .inl (dA 2, 6, .inr (.inr (.inr (.inr (rfs u 6 3 6))))))] ++
  (wU dA (u 3) (fun k => u (4 + k))) ++ (wU dA (u 9) (fun k => u (10 + k))) ++ (wU dA (u 15) (fun k => u (16 + k))) ++ (wU dA (u 21) (fun k => u (22 + k))) ++ (wU dA (u 27) (fun k => u (28 + k))) ++ (wU dA (u 33) (fun k => u (34 + k)))

def uPo (a b c : Nat) (qs : List Nat) (us : List (Nat → Nat)) : Nat → Nat := fun k => if k < 3 then ([a, b, c] : List Nat).getD k 0 else if (k - 3) % 6 = 0 then qs.getD ((k - 3) / 6) 0 else (us.getD ((k - 3) / 6) (fun _ => 0)) ((k - 3) % 6 - 1)
def uF (l : List Nat) (uP : Nat → Nat) : Nat → Nat := fun k => if k < 13 then l.getD k 0 else uP (k - 10)
theorem uF_at (l : List Nat) (uP : Nat → Nat) (j : Nat) : uP (3 + 6 * j) = uF l uP (13 + 6 * j) := by
  unfold uF
  rw [if_neg (by omega)]
  congr 1
  omega
theorem wU_wR {ad : Nat → Nat} {dA : Nat → ClassId} {q i : Nat} {u : Nat → Nat} (hq : q = ad (13 + 6 * i)) (h : ∀ k, k < 5 → u k = ad (14 + 6 * i + k)) : wU dA q u = wR ad dA i (0, 0, 0, 0, 0, fun _ => (0, 0, 0, 0)) := by
  unfold wU wR
  have e0 : u 0 = ad (14 + 6 * i) := h 0 (by decide)
  have e1 : u 1 = ad (15 + 6 * i) := by rw [h 1 (by decide)]; congr 1; omega
  have e2 : u 2 = ad (16 + 6 * i + 0) := by rw [h 2 (by decide)]; congr 1; omega
  have e3 : u 3 = ad (16 + 6 * i + 1) := by rw [h 3 (by decide)]; congr 1; omega
  have e4 : u 4 = ad (16 + 6 * i + 2) := by rw [h 4 (by decide)]; congr 1; omega
  have er : rfs u 3 2 1 = rfs ad 3 (16 + 6 * i) 1 := rfs_congr (fun j hj => by
    rw [h _ (by omega)]
    congr 1
    omega)
  rw [e0, e1, e2, e3, e4, er, hq]
theorem wd_44 : Cond.instanceMethod objectInit ∈ lw_g := wd_in (i := 44) (by decide +kernel) (by decide +kernel)
theorem wd_45 : Cond.code objectInit object_method_1_code 1 (Option.none : Option Jvm.ClassFile.FieldType) ∈ lw_g := wd_in (i := 45) (by decide +kernel) (by decide +kernel)
theorem wd_51 : Cond.methodLink R_Ca 1 objectInit ∈ lw_g := wd_in (i := 51) (by decide +kernel) (by decide +kernel)
theorem wd_58 : Cond.arrayClass Jvm.ClassFile.FieldType.int ∈ lw_g := wd_in (i := 58) (by decide +kernel) (by decide +kernel)
theorem wd_64 : Cond.methodLink R_Po 3 objectInit ∈ lw_g := wd_in (i := 64) (by decide +kernel) (by decide +kernel)
theorem wd_65 : Cond.classLink R_Po 9 R_Ac ∈ lw_g := wd_in (i := 65) (by decide +kernel) (by decide +kernel)
theorem wd_66 : Cond.instantiable R_Ac 2 ∈ lw_g := wd_in (i := 66) (by decide +kernel) (by decide +kernel)
theorem wd_67 : Cond.methodLink R_Po 11 y_Ac_init ∈ lw_g := wd_in (i := 67) (by decide +kernel) (by decide +kernel)
theorem wd_68 : Cond.instanceMethod y_Ac_init ∈ lw_g := wd_in (i := 68) (by decide +kernel) (by decide +kernel)
theorem wd_69 : Cond.code y_Ac_init prog_2_method_1_code 2 (Option.none : Option Jvm.ClassFile.FieldType) ∈ lw_g := wd_in (i := 69) (by decide +kernel) (by decide +kernel)
theorem wd_70 : Cond.methodLink R_Ac 1 objectInit ∈ lw_g := wd_in (i := 70) (by decide +kernel) (by decide +kernel)
theorem wd_79 : Cond.classLink R_Po 23 R_Ru ∈ lw_g := wd_in (i := 79) (by decide +kernel) (by decide +kernel)
theorem wd_81 : Cond.instantiable R_Ru 5 ∈ lw_g := wd_in (i := 81) (by decide +kernel) (by decide +kernel)
theorem wd_82 : Cond.methodLink R_Po 33 y_Ru_init ∈ lw_g := wd_in (i := 82) (by decide +kernel) (by decide +kernel)
theorem wd_83 : Cond.instanceMethod y_Ru_init ∈ lw_g := wd_in (i := 83) (by decide +kernel) (by decide +kernel)
theorem wd_84 : Cond.code y_Ru_init prog_10_method_1_code 2 (Option.none : Option Jvm.ClassFile.FieldType) ∈ lw_g := wd_in (i := 84) (by decide +kernel) (by decide +kernel)
theorem wd_85 : Cond.methodLink R_Ru 1 objectInit ∈ lw_g := wd_in (i := 85) (by decide +kernel) (by decide +kernel)
theorem wd_86 : Cond.classLink R_Ru 7 R_Ac ∈ lw_g := wd_in (i := 86) (by decide +kernel) (by decide +kernel)
theorem wd_87 : Cond.methodLink R_Ru 9 y_Ac_init ∈ lw_g := wd_in (i := 87) (by decide +kernel) (by decide +kernel)
theorem wd_88 : Cond.classLink R_Ru 18 R_Co ∈ lw_g := wd_in (i := 88) (by decide +kernel) (by decide +kernel)
theorem wd_90 : Cond.instantiable R_Co 4 ∈ lw_g := wd_in (i := 90) (by decide +kernel) (by decide +kernel)
theorem wd_92 : Cond.instanceMethod y_Co_init ∈ lw_g := wd_in (i := 92) (by decide +kernel) (by decide +kernel)
theorem wd_93 : Cond.code y_Co_init prog_5_method_1_code 1 (Option.none : Option Jvm.ClassFile.FieldType) ∈ lw_g := wd_in (i := 93) (by decide +kernel) (by decide +kernel)
theorem wd_94 : Cond.methodLink R_Co 1 objectInit ∈ lw_g := wd_in (i := 94) (by decide +kernel) (by decide +kernel)
theorem wd_151 : Cond.methodLink R_Pr 1 objectInit ∈ lw_g := wd_in (i := 151) (by decide +kernel) (by decide +kernel)
theorem wd_152 : Cond.fieldLink R_Pr 9 R_Pr "instructions" "[J" ∈ lw_g := wd_in (i := 152) (by decide +kernel) (by decide +kernel)
theorem wd_164 : Cond.arrayClass Jvm.ClassFile.FieldType.long ∈ lw_g := wd_in (i := 164) (by decide +kernel) (by decide +kernel)
theorem wd_170 : Cond.methodLink R_Ch 3 objectInit ∈ lw_g := wd_in (i := 170) (by decide +kernel) (by decide +kernel)
theorem wd_180 : Cond.methodLink R_Ma 1 objectInit ∈ lw_g := wd_in (i := 180) (by decide +kernel) (by decide +kernel)
theorem d_Ac_init_0 : decode b_Ac_init 0 = .ok (.aload_n 0, 1) := by decide +kernel
theorem d_Ac_init_1 : decode b_Ac_init 1 = .ok (.invokespecial 1, 3) := by decide +kernel
theorem d_Ac_init_4 : decode b_Ac_init 4 = .ok (.aload_n 0, 1) := by decide +kernel
theorem d_Ac_init_5 : decode b_Ac_init 5 = .ok (.iload_n 1, 1) := by decide +kernel
theorem d_Ac_init_6 : decode b_Ac_init 6 = .ok (.putfield 7, 3) := by decide +kernel
theorem d_Ac_init_9 : decode b_Ac_init 9 = .ok (.return_, 1) := by decide +kernel
theorem d_Co_init_0 : decode b_Co_init 0 = .ok (.aload_n 0, 1) := by decide +kernel
theorem d_Co_init_1 : decode b_Co_init 1 = .ok (.invokespecial 1, 3) := by decide +kernel
theorem d_Co_init_4 : decode b_Co_init 4 = .ok (.return_, 1) := by decide +kernel
theorem d_Ca_init_0 : decode b_Ca_init 0 = .ok (.aload_n 0, 1) := by decide +kernel
theorem d_Ca_init_1 : decode b_Ca_init 1 = .ok (.invokespecial 1, 3) := by decide +kernel
theorem d_Ca_init_4 : decode b_Ca_init 4 = .ok (.aload_n 0, 1) := by decide +kernel
theorem d_Ca_init_5 : decode b_Ca_init 5 = .ok (.bipush 16, 2) := by decide +kernel
theorem d_Ca_init_7 : decode b_Ca_init 7 = .ok (.newarray .int, 2) := by decide +kernel
theorem d_Ca_init_9 : decode b_Ca_init 9 = .ok (.putfield 9, 3) := by decide +kernel
theorem d_Ca_init_12 : decode b_Ca_init 12 = .ok (.return_, 1) := by decide +kernel
theorem d_Pr_init_0 : decode b_Pr_init 0 = .ok (.aload_n 0, 1) := by decide +kernel
theorem d_Pr_init_1 : decode b_Pr_init 1 = .ok (.invokespecial 1, 3) := by decide +kernel
theorem d_Pr_init_4 : decode b_Pr_init 4 = .ok (.aload_n 0, 1) := by decide +kernel
theorem d_Pr_init_5 : decode b_Pr_init 5 = .ok (.bipush 64, 2) := by decide +kernel
theorem d_Pr_init_7 : decode b_Pr_init 7 = .ok (.newarray .long, 2) := by decide +kernel
theorem d_Pr_init_9 : decode b_Pr_init 9 = .ok (.putfield 9, 3) := by decide +kernel
theorem d_Pr_init_12 : decode b_Pr_init 12 = .ok (.return_, 1) := by decide +kernel
theorem d_Ch_init_0 : decode b_Ch_init 0 = .ok (.aload_n 0, 1) := by decide +kernel
theorem d_Ch_init_1 : decode b_Ch_init 1 = .ok (.invokespecial 3, 3) := by decide +kernel
theorem d_Ch_init_4 : decode b_Ch_init 4 = .ok (.aload_n 0, 1) := by decide +kernel
theorem d_Ch_init_5 : decode b_Ch_init 5 = .ok (.bipush 64, 2) := by decide +kernel
theorem d_Ch_init_7 : decode b_Ch_init 7 = .ok (.newarray .int, 2) := by decide +kernel
theorem d_Ch_init_9 : decode b_Ch_init 9 = .ok (.putfield 11, 3) := by decide +kernel
theorem d_Ch_init_12 : decode b_Ch_init 12 = .ok (.return_, 1) := by decide +kernel
theorem d_Ma_init_0 : decode b_Ma_init 0 = .ok (.aload_n 0, 1) := by decide +kernel
theorem d_Ma_init_1 : decode b_Ma_init 1 = .ok (.invokespecial 1, 3) := by decide +kernel
theorem d_Ma_init_4 : decode b_Ma_init 4 = .ok (.aload_n 0, 1) := by decide +kernel
theorem d_Ma_init_5 : decode b_Ma_init 5 = .ok (.bipush 16, 2) := by decide +kernel
theorem d_Ma_init_7 : decode b_Ma_init 7 = .ok (.newarray .int, 2) := by decide +kernel
theorem d_Ma_init_9 : decode b_Ma_init 9 = .ok (.putfield 9, 3) := by decide +kernel
theorem d_Ma_init_12 : decode b_Ma_init 12 = .ok (.return_, 1) := by decide +kernel
theorem d_Ru_init_0 : decode b_Ru_init 0 = .ok (.aload_n 0, 1) := by decide +kernel
theorem d_Ru_init_1 : decode b_Ru_init 1 = .ok (.invokespecial 1, 3) := by decide +kernel
theorem d_Ru_init_4 : decode b_Ru_init 4 = .ok (.aload_n 0, 1) := by decide +kernel
theorem d_Ru_init_5 : decode b_Ru_init 5 = .ok (.new 7, 3) := by decide +kernel
theorem d_Ru_init_8 : decode b_Ru_init 8 = .ok (.dup, 1) := by decide +kernel
theorem d_Ru_init_9 : decode b_Ru_init 9 = .ok (.iconst 0, 1) := by decide +kernel
theorem d_Ru_init_10 : decode b_Ru_init 10 = .ok (.invokespecial 9, 3) := by decide +kernel
theorem d_Ru_init_13 : decode b_Ru_init 13 = .ok (.putfield 12, 3) := by decide +kernel
theorem d_Ru_init_16 : decode b_Ru_init 16 = .ok (.aload_n 0, 1) := by decide +kernel
theorem d_Ru_init_17 : decode b_Ru_init 17 = .ok (.iconst 3, 1) := by decide +kernel
theorem d_Ru_init_18 : decode b_Ru_init 18 = .ok (.anewarray 18, 3) := by decide +kernel
theorem d_Ru_init_21 : decode b_Ru_init 21 = .ok (.putfield 20, 3) := by decide +kernel
theorem d_Ru_init_24 : decode b_Ru_init 24 = .ok (.iconst 0, 1) := by decide +kernel
theorem d_Ru_init_25 : decode b_Ru_init 25 = .ok (.istore_n 1, 1) := by decide +kernel
theorem d_Ru_init_26 : decode b_Ru_init 26 = .ok (.iload_n 1, 1) := by decide +kernel
theorem d_Ru_init_27 : decode b_Ru_init 27 = .ok (.iconst 3, 1) := by decide +kernel
theorem d_Ru_init_28 : decode b_Ru_init 28 = .ok (.if_icmp .ge 22, 3) := by decide +kernel
theorem d_Ru_init_31 : decode b_Ru_init 31 = .ok (.aload_n 0, 1) := by decide +kernel
theorem d_Ru_init_32 : decode b_Ru_init 32 = .ok (.getfield 20, 3) := by decide +kernel
theorem d_Ru_init_35 : decode b_Ru_init 35 = .ok (.iload_n 1, 1) := by decide +kernel
theorem d_Ru_init_36 : decode b_Ru_init 36 = .ok (.new 18, 3) := by decide +kernel
theorem d_Ru_init_39 : decode b_Ru_init 39 = .ok (.dup, 1) := by decide +kernel
theorem d_Ru_init_40 : decode b_Ru_init 40 = .ok (.invokespecial 24, 3) := by decide +kernel
theorem d_Ru_init_43 : decode b_Ru_init 43 = .ok (.aastore, 1) := by decide +kernel
theorem d_Ru_init_44 : decode b_Ru_init 44 = .ok (.iinc 1 1, 3) := by decide +kernel
theorem d_Ru_init_47 : decode b_Ru_init 47 = .ok (.goto (-21), 3) := by decide +kernel
theorem d_Ru_init_50 : decode b_Ru_init 50 = .ok (.return_, 1) := by decide +kernel
theorem d_Po_init_0 : decode b_Po_init 0 = .ok (.aload_n 0, 1) := by decide +kernel
theorem d_Po_init_1 : decode b_Po_init 1 = .ok (.invokespecial 3, 3) := by decide +kernel
theorem d_Po_init_4 : decode b_Po_init 4 = .ok (.aload_n 0, 1) := by decide +kernel
theorem d_Po_init_5 : decode b_Po_init 5 = .ok (.new 9, 3) := by decide +kernel
theorem d_Po_init_8 : decode b_Po_init 8 = .ok (.dup, 1) := by decide +kernel
theorem d_Po_init_9 : decode b_Po_init 9 = .ok (.bipush 6, 2) := by decide +kernel
theorem d_Po_init_11 : decode b_Po_init 11 = .ok (.invokespecial 11, 3) := by decide +kernel
theorem d_Po_init_14 : decode b_Po_init 14 = .ok (.putfield 14, 3) := by decide +kernel
theorem d_Po_init_17 : decode b_Po_init 17 = .ok (.aload_n 0, 1) := by decide +kernel
theorem d_Po_init_18 : decode b_Po_init 18 = .ok (.new 9, 3) := by decide +kernel
theorem d_Po_init_21 : decode b_Po_init 21 = .ok (.dup, 1) := by decide +kernel
theorem d_Po_init_22 : decode b_Po_init 22 = .ok (.iconst 0, 1) := by decide +kernel
theorem d_Po_init_23 : decode b_Po_init 23 = .ok (.invokespecial 11, 3) := by decide +kernel
theorem d_Po_init_26 : decode b_Po_init 26 = .ok (.putfield 20, 3) := by decide +kernel
theorem d_Po_init_29 : decode b_Po_init 29 = .ok (.aload_n 0, 1) := by decide +kernel
theorem d_Po_init_30 : decode b_Po_init 30 = .ok (.bipush 6, 2) := by decide +kernel
theorem d_Po_init_32 : decode b_Po_init 32 = .ok (.anewarray 23, 3) := by decide +kernel
theorem d_Po_init_35 : decode b_Po_init 35 = .ok (.putfield 25, 3) := by decide +kernel
theorem d_Po_init_38 : decode b_Po_init 38 = .ok (.aload_n 0, 1) := by decide +kernel
theorem d_Po_init_39 : decode b_Po_init 39 = .ok (.iload_n 1, 1) := by decide +kernel
theorem d_Po_init_40 : decode b_Po_init 40 = .ok (.putfield 29, 3) := by decide +kernel
theorem d_Po_init_43 : decode b_Po_init 43 = .ok (.iconst 0, 1) := by decide +kernel
theorem d_Po_init_44 : decode b_Po_init 44 = .ok (.istore_n 2, 1) := by decide +kernel
theorem d_Po_init_45 : decode b_Po_init 45 = .ok (.iload_n 2, 1) := by decide +kernel
theorem d_Po_init_46 : decode b_Po_init 46 = .ok (.bipush 6, 2) := by decide +kernel
theorem d_Po_init_48 : decode b_Po_init 48 = .ok (.if_icmp .ge 22, 3) := by decide +kernel
theorem d_Po_init_51 : decode b_Po_init 51 = .ok (.aload_n 0, 1) := by decide +kernel
theorem d_Po_init_52 : decode b_Po_init 52 = .ok (.getfield 25, 3) := by decide +kernel
theorem d_Po_init_55 : decode b_Po_init 55 = .ok (.iload_n 2, 1) := by decide +kernel
theorem d_Po_init_56 : decode b_Po_init 56 = .ok (.new 23, 3) := by decide +kernel
theorem d_Po_init_59 : decode b_Po_init 59 = .ok (.dup, 1) := by decide +kernel
theorem d_Po_init_60 : decode b_Po_init 60 = .ok (.invokespecial 33, 3) := by decide +kernel
theorem d_Po_init_63 : decode b_Po_init 63 = .ok (.aastore, 1) := by decide +kernel
theorem d_Po_init_64 : decode b_Po_init 64 = .ok (.iinc 2 1, 3) := by decide +kernel
theorem d_Po_init_67 : decode b_Po_init 67 = .ok (.goto (-22), 3) := by decide +kernel
theorem d_Po_init_70 : decode b_Po_init 70 = .ok (.return_, 1) := by decide +kernel
set_option maxHeartbeats 4000000 in
set_option maxRecDepth 100000 in
theorem c_Ac_init (l : Launch) (D : va_G) (dA : Nat → ClassId) (h0 sz : Nat) (kd : Int32) : Met l y_Ac_init (mW y_Ac_init b_Ac_init 2 none) { frames := 1, cells := 0, slots := 0, locals := 12 } (va_Pc [.ref h0, .int kd] (fun U => U.heap.size = sz ∧ va_P D cls [(h0, .inr (0, [.int 0, .int 0]))] U.heap ∧ va_K D cls (tysA dA) U ∧ va_D (fun _ => True) [(h0, .inr (0, [.int 0, .int 0]))] ∧ NW U)) (va_Qv (fun _ : Nat → Nat => True) (fun u t => va_P D cls ([(h0, .inr (0, [.int kd, .int 0]))]) t.heap ∧ va_K D cls (tysA dA) t ∧ va_D (va_A [(h0, .inr (0, [.int 0, .int 0]))] sz) ([(h0, .inr (0, [.int kd, .int 0]))])) (va_A [(h0, .inr (0, [.int 0, .int 0]))] sz)) 0 0 (va_A [(h0, .inr (0, [.int 0, .int 0]))] sz) := by
  refine Met.ofW (cc := b_Ac_init) (maxL := 2) (ret := none) (by decide) rfl ?_
  intro p e s m args below meth c s₁ B hml hv
  obtain ⟨rfl, hsz, hP, hK, hD0, hN⟩ := hv
  have hx := B.exec
  have hb := B.bytes
  have hr := B.returns
  have hlocks := B.notSynchronized
  have hts := fun (w : Cond) (h : w ∈ lw_g) => atoms_spec (ws := mW y_Ac_init b_Ac_init 2 none) B.pre w (List.mem_cons_of_mem _ h)
  have hown : s.vm.findClass R_Ac = some m.cls := findClass_of_methodNamed B.named
  have hin : meth.name = "<init>" := (name_of_methodNamed B.named B.method).1
  subst hsz
  have hD := hD0.self (sz := s.heap.size)
  generalize hAe : va_A [(h0, .inr (0, [.int 0, .int 0]))] s.heap.size = A at hD ⊢
  have hA : ∀ q : Nat, s.heap.size ≤ q → A q := fun q h => by rw [← hAe]; exact Or.inr h
  have hS : va_S A s.heap s.heap [] := va_S.rf
  have hl := lv_entry ([.ref h0, .int kd]) (n := 2) (Nat.le_of_ble_eq_true rfl)
  rw [lg_entry_eq]
  generalize (lg_sl ([.ref h0, .int kd]) ++ List.replicate (2 - (lg_sl ([.ref h0, .int kd])).length) Slot.unset).toArray = ls at hl ⊢
  have hl : lv_has ls 2 [(0, .ref h0), (1, .int kd)] := hl
  refine lv_aload_n hx hb d_Ac_init_0 rfl (lv_at hl 0 rfl) ?_
  refine W.objInit hx hb hown (hts _ wd_70) (hts _ wd_44) (hts _ wd_45) rfl (by rw [hml]; exact hl.1) rfl d_Ac_init_1 (Nat.le_of_ble_eq_true rfl) (Nat.le_of_ble_eq_true rfl) ?_
  refine W.eq (g2 := F0 m 4 ls []) rfl ?_
  refine lv_aload_n hx hb d_Ac_init_4 rfl (lv_at hl 0 rfl) ?_
  refine lv_iload_n hx hb d_Ac_init_5 rfl (lv_at hl 1 rfl) ?_
  refine va_put (D := D) (ci := 0) (v := .int kd) (ty := .int) (C := R_Ac) (T := F_Ac) (N := 2) hx hb hts in_Ac t_Ac k_Ac n_Ac hown hK hP hD hS 0 rfl rfl 0 (by decide) (hts _ wd_71) (fun _ h9 => h9) rfl (by decide +kernel) rfl rfl (Nat.le_of_ble_eq_true rfl) d_Ac_init_6 (fun H locs hP hD hS => ?_)
  have hP : va_P D cls ([(h0, .inr (0, [.int kd, .int 0]))]) H := hP
  have hD : va_D A ([(h0, .inr (0, [.int kd, .int 0]))]) := hD
  exact W.vret hx hb hr (fun t ht hW => ⟨⟨fun k => ([] : List Nat).getD k 0, rfl, trivial, by rw [ht]; exact hP, va_K.moved hW.alike hK, hD⟩, hS.F ht⟩) hS.2.2 d_Ac_init_9
set_option maxHeartbeats 4000000 in
set_option maxRecDepth 100000 in
theorem c_Co_init (l : Launch) (D : va_G) (dA : Nat → ClassId) (h0 sz : Nat) : Met l y_Co_init (mW y_Co_init b_Co_init 1 none) { frames := 1, cells := 0, slots := 0, locals := 12 } (va_Pc [.ref h0] (fun U => U.heap.size = sz ∧ va_P D cls [(h0, .inr (3, [.int 0, .int 0, .long 0, .long 0]))] U.heap ∧ va_K D cls (tysA dA) U ∧ va_D (fun _ => True) [(h0, .inr (3, [.int 0, .int 0, .long 0, .long 0]))] ∧ NW U)) (va_Qv (fun _ : Nat → Nat => True) (fun u t => va_P D cls ([(h0, .inr (3, [.int 0, .int 0, .long 0, .long 0]))]) t.heap ∧ va_K D cls (tysA dA) t ∧ va_D (va_A [(h0, .inr (3, [.int 0, .int 0, .long 0, .long 0]))] sz) ([(h0, .inr (3, [.int 0, .int 0, .long 0, .long 0]))])) (va_A [(h0, .inr (3, [.int 0, .int 0, .long 0, .long 0]))] sz)) 0 0 (va_A [(h0, .inr (3, [.int 0, .int 0, .long 0, .long 0]))] sz) := by
  refine Met.ofW (cc := b_Co_init) (maxL := 1) (ret := none) (by decide) rfl ?_
  intro p e s m args below meth c s₁ B hml hv
  obtain ⟨rfl, hsz, hP, hK, hD0, hN⟩ := hv
  have hx := B.exec
  have hb := B.bytes
  have hr := B.returns
  have hlocks := B.notSynchronized
  have hts := fun (w : Cond) (h : w ∈ lw_g) => atoms_spec (ws := mW y_Co_init b_Co_init 1 none) B.pre w (List.mem_cons_of_mem _ h)
  have hown : s.vm.findClass R_Co = some m.cls := findClass_of_methodNamed B.named
  have hin : meth.name = "<init>" := (name_of_methodNamed B.named B.method).1
  subst hsz
  have hD := hD0.self (sz := s.heap.size)
  generalize hAe : va_A [(h0, .inr (3, [.int 0, .int 0, .long 0, .long 0]))] s.heap.size = A at hD ⊢
  have hA : ∀ q : Nat, s.heap.size ≤ q → A q := fun q h => by rw [← hAe]; exact Or.inr h
  have hS : va_S A s.heap s.heap [] := va_S.rf
  have hl := lv_entry ([.ref h0]) (n := 1) (Nat.le_of_ble_eq_true rfl)
  rw [lg_entry_eq]
  generalize (lg_sl ([.ref h0]) ++ List.replicate (1 - (lg_sl ([.ref h0])).length) Slot.unset).toArray = ls at hl ⊢
  have hl : lv_has ls 1 [(0, .ref h0)] := hl
  refine lv_aload_n hx hb d_Co_init_0 rfl (lv_at hl 0 rfl) ?_
  refine W.objInit hx hb hown (hts _ wd_94) (hts _ wd_44) (hts _ wd_45) rfl (by rw [hml]; exact hl.1) rfl d_Co_init_1 (Nat.le_of_ble_eq_true rfl) (Nat.le_of_ble_eq_true rfl) ?_
  refine W.eq (g2 := F0 m 4 ls []) rfl ?_
  exact W.vret hx hb hr (fun t ht hW => ⟨⟨fun k => ([] : List Nat).getD k 0, rfl, trivial, by rw [ht]; exact hP, va_K.moved hW.alike hK, hD⟩, hS.F ht⟩) hS.2.2 d_Co_init_4
set_option maxHeartbeats 4000000 in
set_option maxRecDepth 100000 in
theorem c_Ca_init (l : Launch) (D : va_G) (dA : Nat → ClassId) (h0 sz : Nat) : Met l y_Ca_init (mW y_Ca_init b_Ca_init 1 none) { frames := 1, cells := 1, slots := 16, locals := 12 } (va_Pc [.ref h0] (fun U => U.heap.size = sz ∧ va_P D cls [(h0, .inr (1, [.null]))] U.heap ∧ va_K D cls (tysA dA) U ∧ va_D (fun _ => True) [(h0, .inr (1, [.null]))] ∧ NW U)) (va_Qv (fun _ : Nat → Nat => True) (fun u t => va_P D cls ([(h0, .inr (1, [.ref (u 0)])), ((u 0), .inl (dA 0, 16, .inl (fun _ => 0)))]) t.heap ∧ va_K D cls (tysA dA) t ∧ va_D (va_A [(h0, .inr (1, [.null]))] sz) ([(h0, .inr (1, [.ref (u 0)])), ((u 0), .inl (dA 0, 16, .inl (fun _ => 0)))])) (va_A [(h0, .inr (1, [.null]))] sz)) 1 16 (va_A [(h0, .inr (1, [.null]))] sz) := by
  refine Met.ofW (cc := b_Ca_init) (maxL := 1) (ret := none) (by decide) rfl ?_
  intro p e s m args below meth c s₁ B hml hv
  obtain ⟨rfl, hsz, hP, hK, hD0, hN⟩ := hv
  have hx := B.exec
  have hb := B.bytes
  have hr := B.returns
  have hlocks := B.notSynchronized
  have hts := fun (w : Cond) (h : w ∈ lw_g) => atoms_spec (ws := mW y_Ca_init b_Ca_init 1 none) B.pre w (List.mem_cons_of_mem _ h)
  have hown : s.vm.findClass R_Ca = some m.cls := findClass_of_methodNamed B.named
  have hin : meth.name = "<init>" := (name_of_methodNamed B.named B.method).1
  subst hsz
  have hD := hD0.self (sz := s.heap.size)
  generalize hAe : va_A [(h0, .inr (1, [.null]))] s.heap.size = A at hD ⊢
  have hA : ∀ q : Nat, s.heap.size ≤ q → A q := fun q h => by rw [← hAe]; exact Or.inr h
  have hS : va_S A s.heap s.heap [] := va_S.rf
  have hl := lv_entry ([.ref h0]) (n := 1) (Nat.le_of_ble_eq_true rfl)
  rw [lg_entry_eq]
  generalize (lg_sl ([.ref h0]) ++ List.replicate (1 - (lg_sl ([.ref h0])).length) Slot.unset).toArray = ls at hl ⊢
  have hl : lv_has ls 1 [(0, .ref h0)] := hl
  refine lv_aload_n hx hb d_Ca_init_0 rfl (lv_at hl 0 rfl) ?_
  refine W.objInit hx hb hown (hts _ wd_51) (hts _ wd_44) (hts _ wd_45) rfl (by rw [hml]; exact hl.1) rfl d_Ca_init_1 (Nat.le_of_ble_eq_true rfl) (Nat.le_of_ble_eq_true rfl) ?_
  refine W.eq (g2 := F0 m 4 ls []) rfl ?_
  refine lv_aload_n hx hb d_Ca_init_4 rfl (lv_at hl 0 rfl) ?_
  refine lv_bipush (v := 16) hx hb d_Ca_init_5 (by decide) ?_
  refine va_newa (a0 := (16, .inl (fun _ => 0))) (atype := .int) hx hb (hts _ wd_58) (ty := .int) rfl hK hP hD hS hA (fun _ => rfl) (by decide) rfl (by decide) (Nat.le_of_ble_eq_true rfl) (Nat.le_of_ble_eq_true rfl) d_Ca_init_7 (fun q7 cA H hK hP hD hS => ?_)
  obtain rfl : cA = dA 0 := dA_0 hK
  have hK := hK.sub (tys' := tysA dA) [0, 1, 2, 3, 4] rfl
  have hP : va_P D cls ([(h0, .inr (1, [.null])), (q7, .inl (dA 0, 16, .inl (fun _ => 0)))]) H := hP
  have hD : va_D A ([(h0, .inr (1, [.null])), (q7, .inl (dA 0, 16, .inl (fun _ => 0)))]) := hD
  refine W.widen (k := 1) (n := 16) (Nat.le_of_ble_eq_true rfl) (Nat.le_of_ble_eq_true rfl) ?_
  refine va_putF (D := D) (ci := 1) (v := .ref q7) (ty := .array .int) (C := R_Ca) (T := F_Ca) (N := 1) hx hb hts in_Ca t_Ca k_Ca n_Ca hown hK hP hD hS 0 rfl rfl 0 (by decide) (hts _ wd_52) (fun _ h9 => h9) rfl hin rfl (by decide +kernel) rfl rfl (Nat.le_of_ble_eq_true rfl) d_Ca_init_9 (fun H locs hP hD hS => ?_)
  have hP : va_P D cls ([(h0, .inr (1, [.ref q7])), (q7, .inl (dA 0, 16, .inl (fun _ => 0)))]) H := hP
  have hD : va_D A ([(h0, .inr (1, [.ref q7])), (q7, .inl (dA 0, 16, .inl (fun _ => 0)))]) := hD
  exact W.vret hx hb hr (fun t ht hW => ⟨⟨fun k => ([q7] : List Nat).getD k 0, rfl, trivial, by rw [ht]; exact hP, va_K.moved hW.alike hK, hD⟩, hS.F ht⟩) hS.2.2 d_Ca_init_12
set_option maxHeartbeats 4000000 in
set_option maxRecDepth 100000 in
theorem c_Pr_init (l : Launch) (D : va_G) (dA : Nat → ClassId) (h0 sz : Nat) : Met l y_Pr_init (mW y_Pr_init b_Pr_init 1 none) { frames := 1, cells := 1, slots := 64, locals := 12 } (va_Pc [.ref h0] (fun U => U.heap.size = sz ∧ va_P D cls [(h0, .inr (6, [.null, .int 0]))] U.heap ∧ va_K D cls (tysA dA) U ∧ va_D (fun _ => True) [(h0, .inr (6, [.null, .int 0]))] ∧ NW U)) (va_Qv (fun _ : Nat → Nat => True) (fun u t => va_P D cls ([(h0, .inr (6, [.ref (u 0), .int 0])), ((u 0), .inl (dA 1, 64, .inr (.inl (fun _ => 0))))]) t.heap ∧ va_K D cls (tysA dA) t ∧ va_D (va_A [(h0, .inr (6, [.null, .int 0]))] sz) ([(h0, .inr (6, [.ref (u 0), .int 0])), ((u 0), .inl (dA 1, 64, .inr (.inl (fun _ => 0))))])) (va_A [(h0, .inr (6, [.null, .int 0]))] sz)) 1 64 (va_A [(h0, .inr (6, [.null, .int 0]))] sz) := by
  refine Met.ofW (cc := b_Pr_init) (maxL := 1) (ret := none) (by decide) rfl ?_
  intro p e s m args below meth c s₁ B hml hv
  obtain ⟨rfl, hsz, hP, hK, hD0, hN⟩ := hv
  have hx := B.exec
  have hb := B.bytes
  have hr := B.returns
  have hlocks := B.notSynchronized
  have hts := fun (w : Cond) (h : w ∈ lw_g) => atoms_spec (ws := mW y_Pr_init b_Pr_init 1 none) B.pre w (List.mem_cons_of_mem _ h)
  have hown : s.vm.findClass R_Pr = some m.cls := findClass_of_methodNamed B.named
  have hin : meth.name = "<init>" := (name_of_methodNamed B.named B.method).1
  subst hsz
  have hD := hD0.self (sz := s.heap.size)
  generalize hAe : va_A [(h0, .inr (6, [.null, .int 0]))] s.heap.size = A at hD ⊢
  have hA : ∀ q : Nat, s.heap.size ≤ q → A q := fun q h => by rw [← hAe]; exact Or.inr h
  have hS : va_S A s.heap s.heap [] := va_S.rf
  have hl := lv_entry ([.ref h0]) (n := 1) (Nat.le_of_ble_eq_true rfl)
  rw [lg_entry_eq]
  generalize (lg_sl ([.ref h0]) ++ List.replicate (1 - (lg_sl ([.ref h0])).length) Slot.unset).toArray = ls at hl ⊢
  have hl : lv_has ls 1 [(0, .ref h0)] := hl
  refine lv_aload_n hx hb d_Pr_init_0 rfl (lv_at hl 0 rfl) ?_
  refine W.objInit hx hb hown (hts _ wd_151) (hts _ wd_44) (hts _ wd_45) rfl (by rw [hml]; exact hl.1) rfl d_Pr_init_1 (Nat.le_of_ble_eq_true rfl) (Nat.le_of_ble_eq_true rfl) ?_
  refine W.eq (g2 := F0 m 4 ls []) rfl ?_
  refine lv_aload_n hx hb d_Pr_init_4 rfl (lv_at hl 0 rfl) ?_
  refine lv_bipush (v := 64) hx hb d_Pr_init_5 (by decide) ?_
  refine va_newa (a0 := (64, .inr (.inl (fun _ => 0)))) (atype := .long) hx hb (hts _ wd_164) (ty := .long) rfl hK hP hD hS hA (fun _ => rfl) (by decide) rfl (by decide) (Nat.le_of_ble_eq_true rfl) (Nat.le_of_ble_eq_true rfl) d_Pr_init_7 (fun q7 cA H hK hP hD hS => ?_)
  obtain rfl : cA = dA 1 := dA_1 hK
  have hK := hK.sub (tys' := tysA dA) [0, 1, 2, 3, 4] rfl
  have hP : va_P D cls ([(h0, .inr (6, [.null, .int 0])), (q7, .inl (dA 1, 64, .inr (.inl (fun _ => 0))))]) H := hP
  have hD : va_D A ([(h0, .inr (6, [.null, .int 0])), (q7, .inl (dA 1, 64, .inr (.inl (fun _ => 0))))]) := hD
  refine W.widen (k := 1) (n := 64) (Nat.le_of_ble_eq_true rfl) (Nat.le_of_ble_eq_true rfl) ?_
  refine va_putF (D := D) (ci := 6) (v := .ref q7) (ty := .array .long) (C := R_Pr) (T := F_Pr) (N := 2) hx hb hts in_Pr t_Pr k_Pr n_Pr hown hK hP hD hS 0 rfl rfl 0 (by decide) (hts _ wd_152) (fun _ h9 => h9) rfl hin rfl (by decide +kernel) rfl rfl (Nat.le_of_ble_eq_true rfl) d_Pr_init_9 (fun H locs hP hD hS => ?_)
  have hP : va_P D cls ([(h0, .inr (6, [.ref q7, .int 0])), (q7, .inl (dA 1, 64, .inr (.inl (fun _ => 0))))]) H := hP
  have hD : va_D A ([(h0, .inr (6, [.ref q7, .int 0])), (q7, .inl (dA 1, 64, .inr (.inl (fun _ => 0))))]) := hD
  exact W.vret hx hb hr (fun t ht hW => ⟨⟨fun k => ([q7] : List Nat).getD k 0, rfl, trivial, by rw [ht]; exact hP, va_K.moved hW.alike hK, hD⟩, hS.F ht⟩) hS.2.2 d_Pr_init_12
set_option maxHeartbeats 4000000 in
set_option maxRecDepth 100000 in
theorem c_Ch_init (l : Launch) (D : va_G) (dA : Nat → ClassId) (h0 sz : Nat) : Met l y_Ch_init (mW y_Ch_init b_Ch_init 1 none) { frames := 1, cells := 1, slots := 64, locals := 12 } (va_Pc [.ref h0] (fun U => U.heap.size = sz ∧ va_P D cls [(h0, .inr (2, [.null]))] U.heap ∧ va_K D cls (tysA dA) U ∧ va_D (fun _ => True) [(h0, .inr (2, [.null]))] ∧ NW U)) (va_Qv (fun _ : Nat → Nat => True) (fun u t => va_P D cls ([(h0, .inr (2, [.ref (u 0)])), ((u 0), .inl (dA 0, 64, .inl (fun _ => 0)))]) t.heap ∧ va_K D cls (tysA dA) t ∧ va_D (va_A [(h0, .inr (2, [.null]))] sz) ([(h0, .inr (2, [.ref (u 0)])), ((u 0), .inl (dA 0, 64, .inl (fun _ => 0)))])) (va_A [(h0, .inr (2, [.null]))] sz)) 1 64 (va_A [(h0, .inr (2, [.null]))] sz) := by
  refine Met.ofW (cc := b_Ch_init) (maxL := 1) (ret := none) (by decide) rfl ?_
  intro p e s m args below meth c s₁ B hml hv
  obtain ⟨rfl, hsz, hP, hK, hD0, hN⟩ := hv
  have hx := B.exec
  have hb := B.bytes
  have hr := B.returns
  have hlocks := B.notSynchronized
  have hts := fun (w : Cond) (h : w ∈ lw_g) => atoms_spec (ws := mW y_Ch_init b_Ch_init 1 none) B.pre w (List.mem_cons_of_mem _ h)
  have hown : s.vm.findClass R_Ch = some m.cls := findClass_of_methodNamed B.named
  have hin : meth.name = "<init>" := (name_of_methodNamed B.named B.method).1
  subst hsz
  have hD := hD0.self (sz := s.heap.size)
  generalize hAe : va_A [(h0, .inr (2, [.null]))] s.heap.size = A at hD ⊢
  have hA : ∀ q : Nat, s.heap.size ≤ q → A q := fun q h => by rw [← hAe]; exact Or.inr h
  have hS : va_S A s.heap s.heap [] := va_S.rf
  have hl := lv_entry ([.ref h0]) (n := 1) (Nat.le_of_ble_eq_true rfl)
  rw [lg_entry_eq]
  generalize (lg_sl ([.ref h0]) ++ List.replicate (1 - (lg_sl ([.ref h0])).length) Slot.unset).toArray = ls at hl ⊢
  have hl : lv_has ls 1 [(0, .ref h0)] := hl
  refine lv_aload_n hx hb d_Ch_init_0 rfl (lv_at hl 0 rfl) ?_
  refine W.objInit hx hb hown (hts _ wd_170) (hts _ wd_44) (hts _ wd_45) rfl (by rw [hml]; exact hl.1) rfl d_Ch_init_1 (Nat.le_of_ble_eq_true rfl) (Nat.le_of_ble_eq_true rfl) ?_
  refine W.eq (g2 := F0 m 4 ls []) rfl ?_
  refine lv_aload_n hx hb d_Ch_init_4 rfl (lv_at hl 0 rfl) ?_
  refine lv_bipush (v := 64) hx hb d_Ch_init_5 (by decide) ?_
  refine va_newa (a0 := (64, .inl (fun _ => 0))) (atype := .int) hx hb (hts _ wd_58) (ty := .int) rfl hK hP hD hS hA (fun _ => rfl) (by decide) rfl (by decide) (Nat.le_of_ble_eq_true rfl) (Nat.le_of_ble_eq_true rfl) d_Ch_init_7 (fun q7 cA H hK hP hD hS => ?_)
  obtain rfl : cA = dA 0 := dA_0 hK
  have hK := hK.sub (tys' := tysA dA) [0, 1, 2, 3, 4] rfl
  have hP : va_P D cls ([(h0, .inr (2, [.null])), (q7, .inl (dA 0, 64, .inl (fun _ => 0)))]) H := hP
  have hD : va_D A ([(h0, .inr (2, [.null])), (q7, .inl (dA 0, 64, .inl (fun _ => 0)))]) := hD
  refine W.widen (k := 1) (n := 64) (Nat.le_of_ble_eq_true rfl) (Nat.le_of_ble_eq_true rfl) ?_
  refine va_putF (D := D) (ci := 2) (v := .ref q7) (ty := .array .int) (C := R_Ch) (T := F_Ch) (N := 1) hx hb hts in_Ch t_Ch k_Ch n_Ch hown hK hP hD hS 0 rfl rfl 0 (by decide) (hts _ wd_171) (fun _ h9 => h9) rfl hin rfl (by decide +kernel) rfl rfl (Nat.le_of_ble_eq_true rfl) d_Ch_init_9 (fun H locs hP hD hS => ?_)
  have hP : va_P D cls ([(h0, .inr (2, [.ref q7])), (q7, .inl (dA 0, 64, .inl (fun _ => 0)))]) H := hP
  have hD : va_D A ([(h0, .inr (2, [.ref q7])), (q7, .inl (dA 0, 64, .inl (fun _ => 0)))]) := hD
  exact W.vret hx hb hr (fun t ht hW => ⟨⟨fun k => ([q7] : List Nat).getD k 0, rfl, trivial, by rw [ht]; exact hP, va_K.moved hW.alike hK, hD⟩, hS.F ht⟩) hS.2.2 d_Ch_init_12
set_option maxHeartbeats 4000000 in
set_option maxRecDepth 100000 in
theorem c_Ma_init (l : Launch) (D : va_G) (dA : Nat → ClassId) (h0 sz : Nat) : Met l y_Ma_init (mW y_Ma_init b_Ma_init 1 none) { frames := 1, cells := 1, slots := 16, locals := 12 } (va_Pc [.ref h0] (fun U => U.heap.size = sz ∧ va_P D cls [(h0, .inr (4, [.null, .int 0, .int 0, .int 0, .int 0, .int 0, .int 0, .int 0]))] U.heap ∧ va_K D cls (tysA dA) U ∧ va_D (fun _ => True) [(h0, .inr (4, [.null, .int 0, .int 0, .int 0, .int 0, .int 0, .int 0, .int 0]))] ∧ NW U)) (va_Qv (fun _ : Nat → Nat => True) (fun u t => va_P D cls ([(h0, .inr (4, [.ref (u 0), .int 0, .int 0, .int 0, .int 0, .int 0, .int 0, .int 0])), ((u 0), .inl (dA 0, 16, .inl (fun _ => 0)))]) t.heap ∧ va_K D cls (tysA dA) t ∧ va_D (va_A [(h0, .inr (4, [.null, .int 0, .int 0, .int 0, .int 0, .int 0, .int 0, .int 0]))] sz) ([(h0, .inr (4, [.ref (u 0), .int 0, .int 0, .int 0, .int 0, .int 0, .int 0, .int 0])), ((u 0), .inl (dA 0, 16, .inl (fun _ => 0)))])) (va_A [(h0, .inr (4, [.null, .int 0, .int 0, .int 0, .int 0, .int 0, .int 0, .int 0]))] sz)) 1 16 (va_A [(h0, .inr (4, [.null, .int 0, .int 0, .int 0, .int 0, .int 0, .int 0, .int 0]))] sz) := by
  refine Met.ofW (cc := b_Ma_init) (maxL := 1) (ret := none) (by decide) rfl ?_
  intro p e s m args below meth c s₁ B hml hv
  obtain ⟨rfl, hsz, hP, hK, hD0, hN⟩ := hv
  have hx := B.exec
  have hb := B.bytes
  have hr := B.returns
  have hlocks := B.notSynchronized
  have hts := fun (w : Cond) (h : w ∈ lw_g) => atoms_spec (ws := mW y_Ma_init b_Ma_init 1 none) B.pre w (List.mem_cons_of_mem _ h)
  have hown : s.vm.findClass R_Ma = some m.cls := findClass_of_methodNamed B.named
  have hin : meth.name = "<init>" := (name_of_methodNamed B.named B.method).1
  subst hsz
  have hD := hD0.self (sz := s.heap.size)
  generalize hAe : va_A [(h0, .inr (4, [.null, .int 0, .int 0, .int 0, .int 0, .int 0, .int 0, .int 0]))] s.heap.size = A at hD ⊢
  have hA : ∀ q : Nat, s.heap.size ≤ q → A q := fun q h => by rw [← hAe]; exact Or.inr h
  have hS : va_S A s.heap s.heap [] := va_S.rf
  have hl := lv_entry ([.ref h0]) (n := 1) (Nat.le_of_ble_eq_true rfl)
  rw [lg_entry_eq]
  generalize (lg_sl ([.ref h0]) ++ List.replicate (1 - (lg_sl ([.ref h0])).length) Slot.unset).toArray = ls at hl ⊢
  have hl : lv_has ls 1 [(0, .ref h0)] := hl
  refine lv_aload_n hx hb d_Ma_init_0 rfl (lv_at hl 0 rfl) ?_
  refine W.objInit hx hb hown (hts _ wd_180) (hts _ wd_44) (hts _ wd_45) rfl (by rw [hml]; exact hl.1) rfl d_Ma_init_1 (Nat.le_of_ble_eq_true rfl) (Nat.le_of_ble_eq_true rfl) ?_
  refine W.eq (g2 := F0 m 4 ls []) rfl ?_
  refine lv_aload_n hx hb d_Ma_init_4 rfl (lv_at hl 0 rfl) ?_
  refine lv_bipush (v := 16) hx hb d_Ma_init_5 (by decide) ?_
  refine va_newa (a0 := (16, .inl (fun _ => 0))) (atype := .int) hx hb (hts _ wd_58) (ty := .int) rfl hK hP hD hS hA (fun _ => rfl) (by decide) rfl (by decide) (Nat.le_of_ble_eq_true rfl) (Nat.le_of_ble_eq_true rfl) d_Ma_init_7 (fun q7 cA H hK hP hD hS => ?_)
  obtain rfl : cA = dA 0 := dA_0 hK
  have hK := hK.sub (tys' := tysA dA) [0, 1, 2, 3, 4] rfl
  have hP : va_P D cls ([(h0, .inr (4, [.null, .int 0, .int 0, .int 0, .int 0, .int 0, .int 0, .int 0])), (q7, .inl (dA 0, 16, .inl (fun _ => 0)))]) H := hP
  have hD : va_D A ([(h0, .inr (4, [.null, .int 0, .int 0, .int 0, .int 0, .int 0, .int 0, .int 0])), (q7, .inl (dA 0, 16, .inl (fun _ => 0)))]) := hD
  refine W.widen (k := 1) (n := 16) (Nat.le_of_ble_eq_true rfl) (Nat.le_of_ble_eq_true rfl) ?_
  refine va_putF (D := D) (ci := 4) (v := .ref q7) (ty := .array .int) (C := R_Ma) (T := F_Ma) (N := 8) hx hb hts in_Ma t_Ma k_Ma n_Ma hown hK hP hD hS 0 rfl rfl 0 (by decide) (hts _ wd_181) (fun _ h9 => h9) rfl hin rfl (by decide +kernel) rfl rfl (Nat.le_of_ble_eq_true rfl) d_Ma_init_9 (fun H locs hP hD hS => ?_)
  have hP : va_P D cls ([(h0, .inr (4, [.ref q7, .int 0, .int 0, .int 0, .int 0, .int 0, .int 0, .int 0])), (q7, .inl (dA 0, 16, .inl (fun _ => 0)))]) H := hP
  have hD : va_D A ([(h0, .inr (4, [.ref q7, .int 0, .int 0, .int 0, .int 0, .int 0, .int 0, .int 0])), (q7, .inl (dA 0, 16, .inl (fun _ => 0)))]) := hD
  exact W.vret hx hb hr (fun t ht hW => ⟨⟨fun k => ([q7] : List Nat).getD k 0, rfl, trivial, by rw [ht]; exact hP, va_K.moved hW.alike hK, hD⟩, hS.F ht⟩) hS.2.2 d_Ma_init_12
set_option maxHeartbeats 4000000 in
set_option maxRecDepth 100000 in
theorem c_Ru_init (l : Launch) (D : va_G) (dA : Nat → ClassId) (h0 sz : Nat) : Met l y_Ru_init (mW y_Ru_init b_Ru_init 2 none) { frames := 2, cells := 5, slots := 17, locals := 33 } (va_Pc [.ref h0] (fun U => U.heap.size = sz ∧ va_P D cls [(h0, .inr (7, [.null, .int 0, .int 0, .int 0, .null]))] U.heap ∧ va_K D cls (tysA dA) U ∧ va_D (fun _ => True) [(h0, .inr (7, [.null, .int 0, .int 0, .int 0, .null]))] ∧ NW U)) (va_Qv (fun _ : Nat → Nat => True) (fun u t => va_P D cls ((wU dA h0 u)) t.heap ∧ va_K D cls (tysA dA) t ∧ va_D (va_A [(h0, .inr (7, [.null, .int 0, .int 0, .int 0, .null]))] sz) ((wU dA h0 u))) (va_A [(h0, .inr (7, [.null, .int 0, .int 0, .int 0, .null]))] sz)) 5 17 (va_A [(h0, .inr (7, [.null, .int 0, .int 0, .int 0, .null]))] sz) := by
  refine Met.ofW (cc := b_Ru_init) (maxL := 2) (ret := none) (by decide) rfl ?_
  intro p e s m args below meth c s₁ B hml hv
  obtain ⟨rfl, hsz, hP, hK, hD0, hN⟩ := hv
  have hx := B.exec
  have hb := B.bytes
  have hr := B.returns
  have hlocks := B.notSynchronized
  have hts := fun (w : Cond) (h : w ∈ lw_g) => atoms_spec (ws := mW y_Ru_init b_Ru_init 2 none) B.pre w (List.mem_cons_of_mem _ h)
  have hown : s.vm.findClass R_Ru = some m.cls := findClass_of_methodNamed B.named
  have hin : meth.name = "<init>" := (name_of_methodNamed B.named B.method).1
  subst hsz
  have hD := hD0.self (sz := s.heap.size)
  generalize hAe : va_A [(h0, .inr (7, [.null, .int 0, .int 0, .int 0, .null]))] s.heap.size = A at hD ⊢
  have hA : ∀ q : Nat, s.heap.size ≤ q → A q := fun q h => by rw [← hAe]; exact Or.inr h
  have hS : va_S A s.heap s.heap [] := va_S.rf
  have hl := lv_entry ([.ref h0]) (n := 2) (Nat.le_of_ble_eq_true rfl)
  rw [lg_entry_eq]
  generalize (lg_sl ([.ref h0]) ++ List.replicate (2 - (lg_sl ([.ref h0])).length) Slot.unset).toArray = ls at hl ⊢
  have hl : lv_has ls 2 [(0, .ref h0)] := hl
  refine lv_aload_n hx hb d_Ru_init_0 rfl (lv_at hl 0 rfl) ?_
  refine W.objInit hx hb hown (hts _ wd_85) (hts _ wd_44) (hts _ wd_45) rfl (by rw [hml]; exact hl.1) rfl d_Ru_init_1 (Nat.le_of_ble_eq_true rfl) (Nat.le_of_ble_eq_true rfl) ?_
  refine W.eq (g2 := F0 m 4 ls []) rfl ?_
  refine lv_aload_n hx hb d_Ru_init_4 rfl (lv_at hl 0 rfl) ?_
  refine va_new (ci := 0) (fs := [.int 0, .int 0]) (C := R_Ac) (T := F_Ac) (N := 2) hx hb hts in_Ac t_Ac k_Ac hown (hts _ wd_86) (hts _ wd_66) (hts _ wd_29) hK hP hD hS hA rfl (fun j hj => by rcases (show j = 0 ∨ j = 1 by omega) with rfl | rfl <;> rfl) (Nat.le_of_ble_eq_true rfl) (Nat.le_of_ble_eq_true rfl) d_Ru_init_5 (fun q5 H hP hD hS => ?_)
  have hP : va_P D cls ([(h0, .inr (7, [.null, .int 0, .int 0, .int 0, .null])), (q5, .inr (0, [.int 0, .int 0]))]) H := hP
  have hD : va_D A ([(h0, .inr (7, [.null, .int 0, .int 0, .int 0, .null])), (q5, .inr (0, [.int 0, .int 0]))]) := hD
  refine W.widen (k := 1) (n := 2) (Nat.le_of_ble_eq_true rfl) (Nat.le_of_ble_eq_true rfl) ?_
  refine lv_dup hx hb d_Ru_init_8 rfl ?_
  refine lv_iconst (v := 0) hx hb d_Ru_init_9 (by decide) ?_
  have hPc := hP.sub (ws' := [(q5, .inr (0, [.int 0, .int 0]))]) [1] rfl
  have hDc := hD.sub (ws' := [(q5, .inr (0, [.int 0, .int 0]))]) [1] (by decide) rfl
  have hFc := va_free (wc := [(q5, .inr (0, [.int 0, .int 0]))]) hD hS hA [1] rfl
  refine va_callv (va_runI (As := [.int (0 : Int32)]) (rest := [.ref q5, .ref h0]) ⟨hx, hb, hml, hown, hts⟩ (c_Ac_init l D dA q5 H.size (0 : Int32)) (cwI 1 hts (g_in wd_69) rfl rfl rfl (hts _ wd_29) (hts _ wd_87) (hts _ wd_68) rfl (by decide +kernel) ⟨Nat.le_of_ble_eq_true rfl, Nat.le_of_ble_eq_true rfl⟩) ⟨fun a U g mk q => by obtain ⟨q0, q1, qP, qK, qD, qN⟩ := q; exact ⟨q0, q1, qP, va_K.moved (u := U) (U := U.calling g mk a) (Vm.Alike.refl U.vm) qK, qD, NW_same rfl qN⟩, fun U hU hW => ⟨rfl, by rw [hU], by rw [hU]; exact hPc, va_K.moved hW.alike hK, hDc.weaken (fun _ _ _ _ => trivial), NW_warm hW hN⟩⟩ rfl rfl hl.1 rfl (lv_room (Nat.le_of_ble_eq_true rfl)) d_Ru_init_10 ⟨Nat.le_of_ble_eq_true rfl, Nat.le_of_ble_eq_true rfl⟩) hS (fun q _ h => hFc q h) hFc (fun u10 t H1 locs ht hvm h5 hB hz1 hk1 hS => ?_)
  obtain ⟨hP1, -, hD1⟩ := hB
  rw [ht] at hP1
  obtain ⟨hP, hD⟩ := va_join (wr := [(h0, .inr (7, [.null, .int 0, .int 0, .int 0, .null]))]) (w1 := [(q5, .inr (0, [.int (0 : Int32), .int 0]))]) hP hD [1] [0] rfl rfl (by decide) (by decide) hk1 hFc hP1 hD1
  generalize H1 = H at hP hS ⊢
  have hP : va_P D cls ([(h0, .inr (7, [.null, .int 0, .int 0, .int 0, .null])), (q5, .inr (0, [.int (0 : Int32), .int 0]))]) H := hP
  have hD : va_D A ([(h0, .inr (7, [.null, .int 0, .int 0, .int 0, .null])), (q5, .inr (0, [.int (0 : Int32), .int 0]))]) := hD
  refine W.widen (k := 1) (n := 2) (Nat.le_of_ble_eq_true rfl) (Nat.le_of_ble_eq_true rfl) ?_
  refine va_putF (D := D) (ci := 7) (v := .ref q5) (ty := .object "CallFilter$Action") (C := R_Ru) (T := F_Ru) (N := 5) hx hb hts in_Ru t_Ru k_Ru n_Ru hown hK hP hD hS 0 rfl rfl 0 (by decide) (hts _ wd_108) (fun _ h9 => h9) rfl hin rfl (by decide +kernel) rfl rfl (Nat.le_of_ble_eq_true rfl) d_Ru_init_13 (fun H locs hP hD hS => ?_)
  have hP : va_P D cls ([(h0, .inr (7, [.ref q5, .int 0, .int 0, .int 0, .null])), (q5, .inr (0, [.int (0 : Int32), .int 0]))]) H := hP
  have hD : va_D A ([(h0, .inr (7, [.ref q5, .int 0, .int 0, .int 0, .null])), (q5, .inr (0, [.int (0 : Int32), .int 0]))]) := hD
  refine lv_aload_n hx hb d_Ru_init_16 rfl (lv_at hl 0 rfl) ?_
  refine lv_iconst (v := 3) hx hb d_Ru_init_17 (by decide) ?_
  refine va_newq hx hb hown (hts _ wd_88) hN.2.2.2.2.2.2.2.2 hK hP hD hS hA (by decide) rfl (by decide) (Nat.le_of_ble_eq_true rfl) (Nat.le_of_ble_eq_true rfl) d_Ru_init_18 (fun q18 cA H hK hP hD hS => ?_)
  obtain rfl : cA = dA 3 := dA_3 hK
  have hK := hK.sub (tys' := tysA dA) [0, 1, 2, 3, 4] rfl
  have hP : va_P D cls ([(h0, .inr (7, [.ref q5, .int 0, .int 0, .int 0, .null])), (q5, .inr (0, [.int (0 : Int32), .int 0])), (q18, .inl (dA 3, 3, .inr (.inr (.inr (.inr (fun _ => none))))))]) H := hP
  have hD : va_D A ([(h0, .inr (7, [.ref q5, .int 0, .int 0, .int 0, .null])), (q5, .inr (0, [.int (0 : Int32), .int 0])), (q18, .inl (dA 3, 3, .inr (.inr (.inr (.inr (fun _ => none))))))]) := hD
  refine W.widen (k := 2) (n := 5) (Nat.le_of_ble_eq_true rfl) (Nat.le_of_ble_eq_true rfl) ?_
  refine va_putF (D := D) (ci := 7) (v := .ref q18) (ty := .array (.object "CallFilter$Condition")) (C := R_Ru) (T := F_Ru) (N := 5) hx hb hts in_Ru t_Ru k_Ru n_Ru hown hK hP hD hS 0 rfl rfl 4 (by decide) (hts _ wd_114) (fun _ h9 => h9) rfl hin rfl (by decide +kernel) rfl rfl (Nat.le_of_ble_eq_true rfl) d_Ru_init_21 (fun H locs hP hD hS => ?_)
  have hP : va_P D cls ([(h0, .inr (7, [.ref q5, .int 0, .int 0, .int 0, .ref q18])), (q5, .inr (0, [.int (0 : Int32), .int 0])), (q18, .inl (dA 3, 3, .inr (.inr (.inr (.inr (fun _ => none))))))]) H := hP
  have hD : va_D A ([(h0, .inr (7, [.ref q5, .int 0, .int 0, .int 0, .ref q18])), (q5, .inr (0, [.int (0 : Int32), .int 0])), (q18, .inl (dA 3, 3, .inr (.inr (.inr (.inr (fun _ => none))))))]) := hD
  refine lv_iconst (v := 0) hx hb d_Ru_init_24 (by decide) ?_
  refine lv_istore_n hx hb d_Ru_init_25 rfl hl (by decide) rfl (fun ls hl => ?_)
  have hl : lv_has ls 2 [(1, .int (0 : Int32)), (0, .ref h0)] := hl
  refine lv_iload_n hx hb d_Ru_init_26 rfl (lv_at hl 0 rfl) ?_
  refine lv_iconst (v := 3) hx hb d_Ru_init_27 (by decide) ?_
  refine lv_icmp_ge (tgt := 50) hx hb d_Ru_init_28 (by decide) (fun h => absurd h (by decide)) (fun _ => ?_)
  refine lv_aload_n hx hb d_Ru_init_31 rfl (lv_at hl 1 rfl) ?_
  refine va_get (D := D) (ci := 7) (v := .ref q18) (C := R_Ru) (T := F_Ru) (N := 5) hx hb hts in_Ru hown hK hP 0 rfl rfl 4 (by decide) (hts _ wd_114) (fun _ h9 => h9) rfl d_Ru_init_32 ?_
  refine lv_iload_n hx hb d_Ru_init_35 rfl (lv_at hl 0 rfl) ?_
  refine va_new (ci := 3) (fs := [.int 0, .int 0, .long 0, .long 0]) (C := R_Co) (T := F_Co) (N := 4) hx hb hts in_Co t_Co k_Co hown (hts _ wd_88) (hts _ wd_90) (hts _ wd_31) hK hP hD hS hA rfl (fun j hj => by rcases (show j = 0 ∨ j = 1 ∨ j = 2 ∨ j = 3 by omega) with rfl | rfl | rfl | rfl <;> rfl) (Nat.le_of_ble_eq_true rfl) (Nat.le_of_ble_eq_true rfl) d_Ru_init_36 (fun q36 H hP hD hS => ?_)
  have hP : va_P D cls ([(h0, .inr (7, [.ref q5, .int 0, .int 0, .int 0, .ref q18])), (q5, .inr (0, [.int (0 : Int32), .int 0])), (q18, .inl (dA 3, 3, .inr (.inr (.inr (.inr (fun _ => none)))))), (q36, .inr (3, [.int 0, .int 0, .long 0, .long 0]))]) H := hP
  have hD : va_D A ([(h0, .inr (7, [.ref q5, .int 0, .int 0, .int 0, .ref q18])), (q5, .inr (0, [.int (0 : Int32), .int 0])), (q18, .inl (dA 3, 3, .inr (.inr (.inr (.inr (fun _ => none)))))), (q36, .inr (3, [.int 0, .int 0, .long 0, .long 0]))]) := hD
  refine W.widen (k := 3) (n := 9) (Nat.le_of_ble_eq_true rfl) (Nat.le_of_ble_eq_true rfl) ?_
  refine lv_dup hx hb d_Ru_init_39 rfl ?_
  have hPc := hP.sub (ws' := [(q36, .inr (3, [.int 0, .int 0, .long 0, .long 0]))]) [3] rfl
  have hDc := hD.sub (ws' := [(q36, .inr (3, [.int 0, .int 0, .long 0, .long 0]))]) [3] (by decide) rfl
  have hFc := va_free (wc := [(q36, .inr (3, [.int 0, .int 0, .long 0, .long 0]))]) hD hS hA [3] rfl
  refine va_callv (va_runIN (As := []) (rest := [.ref q36, .int (0 : Int32), .ref q18]) ⟨hx, hb, hml, hown, hts⟩ (c_Co_init l D dA q36 H.size ) ⟨va_cnB 0 hts (g_in wd_93) rfl rfl rfl hN.2.1 (hts _ wd_31) (by decide +kernel) ⟨Nat.le_of_ble_eq_true rfl, Nat.le_of_ble_eq_true rfl⟩, rfl, hts _ wd_92⟩ ⟨fun a U g mk q => by obtain ⟨q0, q1, qP, qK, qD, qN⟩ := q; exact ⟨q0, q1, qP, va_K.moved (u := U) (U := U.calling g mk a) (Vm.Alike.refl U.vm) qK, qD, NW_same rfl qN⟩, fun U hU hW => ⟨rfl, by rw [hU], by rw [hU]; exact hPc, va_K.moved hW.alike hK, hDc.weaken (fun _ _ _ _ => trivial), NW_warm hW hN⟩⟩ rfl rfl hl.1 rfl (lv_room (Nat.le_of_ble_eq_true rfl)) d_Ru_init_40 ⟨Nat.le_of_ble_eq_true rfl, Nat.le_of_ble_eq_true rfl⟩) hS (fun q _ h => hFc q h) hFc (fun u40 t H1 locs ht hvm h5 hB hz1 hk1 hS => ?_)
  obtain ⟨hP1, -, hD1⟩ := hB
  rw [ht] at hP1
  obtain ⟨hP, hD⟩ := va_join (wr := [(h0, .inr (7, [.ref q5, .int 0, .int 0, .int 0, .ref q18])), (q5, .inr (0, [.int (0 : Int32), .int 0])), (q18, .inl (dA 3, 3, .inr (.inr (.inr (.inr (fun _ => none))))))]) (w1 := [(q36, .inr (3, [.int 0, .int 0, .long 0, .long 0]))]) hP hD [3] [0, 1, 2] rfl rfl (by decide) (by decide) hk1 hFc hP1 hD1
  generalize H1 = H at hP hS ⊢
  have hP : va_P D cls ([(h0, .inr (7, [.ref q5, .int 0, .int 0, .int 0, .ref q18])), (q5, .inr (0, [.int (0 : Int32), .int 0])), (q18, .inl (dA 3, 3, .inr (.inr (.inr (.inr (fun _ => none)))))), (q36, .inr (3, [.int 0, .int 0, .long 0, .long 0]))]) H := hP
  have hD : va_D A ([(h0, .inr (7, [.ref q5, .int 0, .int 0, .int 0, .ref q18])), (q5, .inr (0, [.int (0 : Int32), .int 0])), (q18, .inl (dA 3, 3, .inr (.inr (.inr (.inr (fun _ => none)))))), (q36, .inr (3, [.int 0, .int 0, .long 0, .long 0]))]) := hD
  refine W.widen (k := 3) (n := 9) (Nat.le_of_ble_eq_true rfl) (Nat.le_of_ble_eq_true rfl) ?_
  refine va_astq (n := 3) (r := (R_Co, F_Co, 4)) hx hb hK hP hD hS 2 3 3 3 rfl rfl rfl rfl (vp_in_nI (n := 0) (by decide) (by decide)) d_Ru_init_43 (fun H locs hP hD hS => ?_)
  have hP : va_P D cls ([(h0, .inr (7, [.ref q5, .int 0, .int 0, .int 0, .ref q18])), (q5, .inr (0, [.int (0 : Int32), .int 0])), (q18, .inl (dA 3, 3, .inr (.inr (.inr (.inr (va_up (fun _ => none) 0 (some q36))))))), (q36, .inr (3, [.int 0, .int 0, .long 0, .long 0]))]) H := hP
  have hD : va_D A ([(h0, .inr (7, [.ref q5, .int 0, .int 0, .int 0, .ref q18])), (q5, .inr (0, [.int (0 : Int32), .int 0])), (q18, .inl (dA 3, 3, .inr (.inr (.inr (.inr (va_up (fun _ => none) 0 (some q36))))))), (q36, .inr (3, [.int 0, .int 0, .long 0, .long 0]))]) := hD
  refine lv_iinc (v := (1 : Int32)) hx hb d_Ru_init_44 hl (k := 0) rfl rfl (by decide) rfl (fun ls hl => ?_)
  have hl : lv_has ls 2 [(1, .int (1 : Int32)), (0, .ref h0)] := hl
  refine lv_goto (tgt := 26) hx hb d_Ru_init_47 (by decide) ?_
  refine lv_iload_n hx hb d_Ru_init_26 rfl (lv_at hl 0 rfl) ?_
  refine lv_iconst (v := 3) hx hb d_Ru_init_27 (by decide) ?_
  refine lv_icmp_ge (tgt := 50) hx hb d_Ru_init_28 (by decide) (fun h => absurd h (by decide)) (fun _ => ?_)
  refine lv_aload_n hx hb d_Ru_init_31 rfl (lv_at hl 1 rfl) ?_
  refine va_get (D := D) (ci := 7) (v := .ref q18) (C := R_Ru) (T := F_Ru) (N := 5) hx hb hts in_Ru hown hK hP 0 rfl rfl 4 (by decide) (hts _ wd_114) (fun _ h9 => h9) rfl d_Ru_init_32 ?_
  refine lv_iload_n hx hb d_Ru_init_35 rfl (lv_at hl 0 rfl) ?_
  refine va_new (ci := 3) (fs := [.int 0, .int 0, .long 0, .long 0]) (C := R_Co) (T := F_Co) (N := 4) hx hb hts in_Co t_Co k_Co hown (hts _ wd_88) (hts _ wd_90) (hts _ wd_31) hK hP hD hS hA rfl (fun j hj => by rcases (show j = 0 ∨ j = 1 ∨ j = 2 ∨ j = 3 by omega) with rfl | rfl | rfl | rfl <;> rfl) (Nat.le_of_ble_eq_true rfl) (Nat.le_of_ble_eq_true rfl) d_Ru_init_36 (fun q36_3 H hP hD hS => ?_)
  have hP : va_P D cls ([(h0, .inr (7, [.ref q5, .int 0, .int 0, .int 0, .ref q18])), (q5, .inr (0, [.int (0 : Int32), .int 0])), (q18, .inl (dA 3, 3, .inr (.inr (.inr (.inr (va_up (fun _ => none) 0 (some q36))))))), (q36, .inr (3, [.int 0, .int 0, .long 0, .long 0])), (q36_3, .inr (3, [.int 0, .int 0, .long 0, .long 0]))]) H := hP
  have hD : va_D A ([(h0, .inr (7, [.ref q5, .int 0, .int 0, .int 0, .ref q18])), (q5, .inr (0, [.int (0 : Int32), .int 0])), (q18, .inl (dA 3, 3, .inr (.inr (.inr (.inr (va_up (fun _ => none) 0 (some q36))))))), (q36, .inr (3, [.int 0, .int 0, .long 0, .long 0])), (q36_3, .inr (3, [.int 0, .int 0, .long 0, .long 0]))]) := hD
  refine W.widen (k := 4) (n := 13) (Nat.le_of_ble_eq_true rfl) (Nat.le_of_ble_eq_true rfl) ?_
  refine lv_dup hx hb d_Ru_init_39 rfl ?_
  have hPc := hP.sub (ws' := [(q36_3, .inr (3, [.int 0, .int 0, .long 0, .long 0]))]) [4] rfl
  have hDc := hD.sub (ws' := [(q36_3, .inr (3, [.int 0, .int 0, .long 0, .long 0]))]) [4] (by decide) rfl
  have hFc := va_free (wc := [(q36_3, .inr (3, [.int 0, .int 0, .long 0, .long 0]))]) hD hS hA [4] rfl
  refine va_callv (va_runIN (As := []) (rest := [.ref q36_3, .int (1 : Int32), .ref q18]) ⟨hx, hb, hml, hown, hts⟩ (c_Co_init l D dA q36_3 H.size ) ⟨va_cnB 0 hts (g_in wd_93) rfl rfl rfl hN.2.1 (hts _ wd_31) (by decide +kernel) ⟨Nat.le_of_ble_eq_true rfl, Nat.le_of_ble_eq_true rfl⟩, rfl, hts _ wd_92⟩ ⟨fun a U g mk q => by obtain ⟨q0, q1, qP, qK, qD, qN⟩ := q; exact ⟨q0, q1, qP, va_K.moved (u := U) (U := U.calling g mk a) (Vm.Alike.refl U.vm) qK, qD, NW_same rfl qN⟩, fun U hU hW => ⟨rfl, by rw [hU], by rw [hU]; exact hPc, va_K.moved hW.alike hK, hDc.weaken (fun _ _ _ _ => trivial), NW_warm hW hN⟩⟩ rfl rfl hl.1 rfl (lv_room (Nat.le_of_ble_eq_true rfl)) d_Ru_init_40 ⟨Nat.le_of_ble_eq_true rfl, Nat.le_of_ble_eq_true rfl⟩) hS (fun q _ h => hFc q h) hFc (fun u40_2 t H1 locs ht hvm h5 hB hz1 hk1 hS => ?_)
  obtain ⟨hP1, -, hD1⟩ := hB
  rw [ht] at hP1
  obtain ⟨hP, hD⟩ := va_join (wr := [(h0, .inr (7, [.ref q5, .int 0, .int 0, .int 0, .ref q18])), (q5, .inr (0, [.int (0 : Int32), .int 0])), (q18, .inl (dA 3, 3, .inr (.inr (.inr (.inr (va_up (fun _ => none) 0 (some q36))))))), (q36, .inr (3, [.int 0, .int 0, .long 0, .long 0]))]) (w1 := [(q36_3, .inr (3, [.int 0, .int 0, .long 0, .long 0]))]) hP hD [4] [0, 1, 2, 3] rfl rfl (by decide) (by decide) hk1 hFc hP1 hD1
  generalize H1 = H at hP hS ⊢
  have hP : va_P D cls ([(h0, .inr (7, [.ref q5, .int 0, .int 0, .int 0, .ref q18])), (q5, .inr (0, [.int (0 : Int32), .int 0])), (q18, .inl (dA 3, 3, .inr (.inr (.inr (.inr (va_up (fun _ => none) 0 (some q36))))))), (q36, .inr (3, [.int 0, .int 0, .long 0, .long 0])), (q36_3, .inr (3, [.int 0, .int 0, .long 0, .long 0]))]) H := hP
  have hD : va_D A ([(h0, .inr (7, [.ref q5, .int 0, .int 0, .int 0, .ref q18])), (q5, .inr (0, [.int (0 : Int32), .int 0])), (q18, .inl (dA 3, 3, .inr (.inr (.inr (.inr (va_up (fun _ => none) 0 (some q36))))))), (q36, .inr (3, [.int 0, .int 0, .long 0, .long 0])), (q36_3, .inr (3, [.int 0, .int 0, .long 0, .long 0]))]) := hD
  refine W.widen (k := 4) (n := 13) (Nat.le_of_ble_eq_true rfl) (Nat.le_of_ble_eq_true rfl) ?_
  refine va_astq (n := 3) (r := (R_Co, F_Co, 4)) hx hb hK hP hD hS 2 3 4 3 rfl rfl rfl rfl (vp_in_nI (n := 1) (by decide) (by decide)) d_Ru_init_43 (fun H locs hP hD hS => ?_)
  have hP : va_P D cls ([(h0, .inr (7, [.ref q5, .int 0, .int 0, .int 0, .ref q18])), (q5, .inr (0, [.int (0 : Int32), .int 0])), (q18, .inl (dA 3, 3, .inr (.inr (.inr (.inr (va_up (va_up (fun _ => none) 0 (some q36)) 1 (some q36_3))))))), (q36, .inr (3, [.int 0, .int 0, .long 0, .long 0])), (q36_3, .inr (3, [.int 0, .int 0, .long 0, .long 0]))]) H := hP
  have hD : va_D A ([(h0, .inr (7, [.ref q5, .int 0, .int 0, .int 0, .ref q18])), (q5, .inr (0, [.int (0 : Int32), .int 0])), (q18, .inl (dA 3, 3, .inr (.inr (.inr (.inr (va_up (va_up (fun _ => none) 0 (some q36)) 1 (some q36_3))))))), (q36, .inr (3, [.int 0, .int 0, .long 0, .long 0])), (q36_3, .inr (3, [.int 0, .int 0, .long 0, .long 0]))]) := hD
  refine lv_iinc (v := (2 : Int32)) hx hb d_Ru_init_44 hl (k := 0) rfl rfl (by decide) rfl (fun ls hl => ?_)
  have hl : lv_has ls 2 [(1, .int (2 : Int32)), (0, .ref h0)] := hl
  refine lv_goto (tgt := 26) hx hb d_Ru_init_47 (by decide) ?_
  refine lv_iload_n hx hb d_Ru_init_26 rfl (lv_at hl 0 rfl) ?_
  refine lv_iconst (v := 3) hx hb d_Ru_init_27 (by decide) ?_
  refine lv_icmp_ge (tgt := 50) hx hb d_Ru_init_28 (by decide) (fun h => absurd h (by decide)) (fun _ => ?_)
  refine lv_aload_n hx hb d_Ru_init_31 rfl (lv_at hl 1 rfl) ?_
  refine va_get (D := D) (ci := 7) (v := .ref q18) (C := R_Ru) (T := F_Ru) (N := 5) hx hb hts in_Ru hown hK hP 0 rfl rfl 4 (by decide) (hts _ wd_114) (fun _ h9 => h9) rfl d_Ru_init_32 ?_
  refine lv_iload_n hx hb d_Ru_init_35 rfl (lv_at hl 0 rfl) ?_
  refine va_new (ci := 3) (fs := [.int 0, .int 0, .long 0, .long 0]) (C := R_Co) (T := F_Co) (N := 4) hx hb hts in_Co t_Co k_Co hown (hts _ wd_88) (hts _ wd_90) (hts _ wd_31) hK hP hD hS hA rfl (fun j hj => by rcases (show j = 0 ∨ j = 1 ∨ j = 2 ∨ j = 3 by omega) with rfl | rfl | rfl | rfl <;> rfl) (Nat.le_of_ble_eq_true rfl) (Nat.le_of_ble_eq_true rfl) d_Ru_init_36 (fun q36_4 H hP hD hS => ?_)
  have hP : va_P D cls ([(h0, .inr (7, [.ref q5, .int 0, .int 0, .int 0, .ref q18])), (q5, .inr (0, [.int (0 : Int32), .int 0])), (q18, .inl (dA 3, 3, .inr (.inr (.inr (.inr (va_up (va_up (fun _ => none) 0 (some q36)) 1 (some q36_3))))))), (q36, .inr (3, [.int 0, .int 0, .long 0, .long 0])), (q36_3, .inr (3, [.int 0, .int 0, .long 0, .long 0])), (q36_4, .inr (3, [.int 0, .int 0, .long 0, .long 0]))]) H := hP
  have hD : va_D A ([(h0, .inr (7, [.ref q5, .int 0, .int 0, .int 0, .ref q18])), (q5, .inr (0, [.int (0 : Int32), .int 0])), (q18, .inl (dA 3, 3, .inr (.inr (.inr (.inr (va_up (va_up (fun _ => none) 0 (some q36)) 1 (some q36_3))))))), (q36, .inr (3, [.int 0, .int 0, .long 0, .long 0])), (q36_3, .inr (3, [.int 0, .int 0, .long 0, .long 0])), (q36_4, .inr (3, [.int 0, .int 0, .long 0, .long 0]))]) := hD
  refine W.widen (k := 5) (n := 17) (Nat.le_of_ble_eq_true rfl) (Nat.le_of_ble_eq_true rfl) ?_
  refine lv_dup hx hb d_Ru_init_39 rfl ?_
  have hPc := hP.sub (ws' := [(q36_4, .inr (3, [.int 0, .int 0, .long 0, .long 0]))]) [5] rfl
  have hDc := hD.sub (ws' := [(q36_4, .inr (3, [.int 0, .int 0, .long 0, .long 0]))]) [5] (by decide) rfl
  have hFc := va_free (wc := [(q36_4, .inr (3, [.int 0, .int 0, .long 0, .long 0]))]) hD hS hA [5] rfl
  refine va_callv (va_runIN (As := []) (rest := [.ref q36_4, .int (2 : Int32), .ref q18]) ⟨hx, hb, hml, hown, hts⟩ (c_Co_init l D dA q36_4 H.size ) ⟨va_cnB 0 hts (g_in wd_93) rfl rfl rfl hN.2.1 (hts _ wd_31) (by decide +kernel) ⟨Nat.le_of_ble_eq_true rfl, Nat.le_of_ble_eq_true rfl⟩, rfl, hts _ wd_92⟩ ⟨fun a U g mk q => by obtain ⟨q0, q1, qP, qK, qD, qN⟩ := q; exact ⟨q0, q1, qP, va_K.moved (u := U) (U := U.calling g mk a) (Vm.Alike.refl U.vm) qK, qD, NW_same rfl qN⟩, fun U hU hW => ⟨rfl, by rw [hU], by rw [hU]; exact hPc, va_K.moved hW.alike hK, hDc.weaken (fun _ _ _ _ => trivial), NW_warm hW hN⟩⟩ rfl rfl hl.1 rfl (lv_room (Nat.le_of_ble_eq_true rfl)) d_Ru_init_40 ⟨Nat.le_of_ble_eq_true rfl, Nat.le_of_ble_eq_true rfl⟩) hS (fun q _ h => hFc q h) hFc (fun u40_3 t H1 locs ht hvm h5 hB hz1 hk1 hS => ?_)
  obtain ⟨hP1, -, hD1⟩ := hB
  rw [ht] at hP1
  obtain ⟨hP, hD⟩ := va_join (wr := [(h0, .inr (7, [.ref q5, .int 0, .int 0, .int 0, .ref q18])), (q5, .inr (0, [.int (0 : Int32), .int 0])), (q18, .inl (dA 3, 3, .inr (.inr (.inr (.inr (va_up (va_up (fun _ => none) 0 (some q36)) 1 (some q36_3))))))), (q36, .inr (3, [.int 0, .int 0, .long 0, .long 0])), (q36_3, .inr (3, [.int 0, .int 0, .long 0, .long 0]))]) (w1 := [(q36_4, .inr (3, [.int 0, .int 0, .long 0, .long 0]))]) hP hD [5] [0, 1, 2, 3, 4] rfl rfl (by decide) (by decide) hk1 hFc hP1 hD1
  generalize H1 = H at hP hS ⊢
  have hP : va_P D cls ([(h0, .inr (7, [.ref q5, .int 0, .int 0, .int 0, .ref q18])), (q5, .inr (0, [.int (0 : Int32), .int 0])), (q18, .inl (dA 3, 3, .inr (.inr (.inr (.inr (va_up (va_up (fun _ => none) 0 (some q36)) 1 (some q36_3))))))), (q36, .inr (3, [.int 0, .int 0, .long 0, .long 0])), (q36_3, .inr (3, [.int 0, .int 0, .long 0, .long 0])), (q36_4, .inr (3, [.int 0, .int 0, .long 0, .long 0]))]) H := hP
  have hD : va_D A ([(h0, .inr (7, [.ref q5, .int 0, .int 0, .int 0, .ref q18])), (q5, .inr (0, [.int (0 : Int32), .int 0])), (q18, .inl (dA 3, 3, .inr (.inr (.inr (.inr (va_up (va_up (fun _ => none) 0 (some q36)) 1 (some q36_3))))))), (q36, .inr (3, [.int 0, .int 0, .long 0, .long 0])), (q36_3, .inr (3, [.int 0, .int 0, .long 0, .long 0])), (q36_4, .inr (3, [.int 0, .int 0, .long 0, .long 0]))]) := hD
  refine W.widen (k := 5) (n := 17) (Nat.le_of_ble_eq_true rfl) (Nat.le_of_ble_eq_true rfl) ?_
  refine va_astq (n := 3) (r := (R_Co, F_Co, 4)) hx hb hK hP hD hS 2 3 5 3 rfl rfl rfl rfl (vp_in_nI (n := 2) (by decide) (by decide)) d_Ru_init_43 (fun H locs hP hD hS => ?_)
  have hP : va_P D cls ([(h0, .inr (7, [.ref q5, .int 0, .int 0, .int 0, .ref q18])), (q5, .inr (0, [.int (0 : Int32), .int 0])), (q18, .inl (dA 3, 3, .inr (.inr (.inr (.inr (va_up (va_up (va_up (fun _ => none) 0 (some q36)) 1 (some q36_3)) 2 (some q36_4))))))), (q36, .inr (3, [.int 0, .int 0, .long 0, .long 0])), (q36_3, .inr (3, [.int 0, .int 0, .long 0, .long 0])), (q36_4, .inr (3, [.int 0, .int 0, .long 0, .long 0]))]) H := hP
  have hD : va_D A ([(h0, .inr (7, [.ref q5, .int 0, .int 0, .int 0, .ref q18])), (q5, .inr (0, [.int (0 : Int32), .int 0])), (q18, .inl (dA 3, 3, .inr (.inr (.inr (.inr (va_up (va_up (va_up (fun _ => none) 0 (some q36)) 1 (some q36_3)) 2 (some q36_4))))))), (q36, .inr (3, [.int 0, .int 0, .long 0, .long 0])), (q36_3, .inr (3, [.int 0, .int 0, .long 0, .long 0])), (q36_4, .inr (3, [.int 0, .int 0, .long 0, .long 0]))]) := hD
  refine lv_iinc (v := (3 : Int32)) hx hb d_Ru_init_44 hl (k := 0) rfl rfl (by decide) rfl (fun ls hl => ?_)
  have hl : lv_has ls 2 [(1, .int (3 : Int32)), (0, .ref h0)] := hl
  refine lv_goto (tgt := 26) hx hb d_Ru_init_47 (by decide) ?_
  refine lv_iload_n hx hb d_Ru_init_26 rfl (lv_at hl 0 rfl) ?_
  refine lv_iconst (v := 3) hx hb d_Ru_init_27 (by decide) ?_
  refine lv_icmp_ge (tgt := 50) hx hb d_Ru_init_28 (by decide) (fun _ => ?_) (fun h => absurd h (by decide))
  rw [show va_up (va_up (va_up (fun _ => none) 0 (some q36)) 1 (some q36_3)) 2 (some q36_4) = rfs (fun k => ([q5, q18, q36, q36_3, q36_4] : List Nat).getD k 0) 3 2 1 from va_up3 (fun k => ([q5, q18, q36, q36_3, q36_4] : List Nat).getD k 0)] at hP hD
  exact W.vret hx hb hr (fun t ht hW => ⟨⟨fun k => ([q5, q18, q36, q36_3, q36_4] : List Nat).getD k 0, rfl, trivial, by rw [ht]; exact hP, va_K.moved hW.alike hK, hD⟩, hS.F ht⟩) hS.2.2 d_Ru_init_50
set_option maxHeartbeats 4000000 in
set_option maxRecDepth 100000 in
theorem c_Po_init (l : Launch) (D : va_G) (dA : Nat → ClassId) (h0 sz : Nat) (ar : Int32) : Met l y_Po_init (mW y_Po_init b_Po_init 3 none) { frames := 3, cells := 39, slots := 142, locals := 54 } (va_Pc [.ref h0, .int ar] (fun U => U.heap.size = sz ∧ va_P D cls [(h0, .inr (5, [.null, .null, .null, .int 0, .int 0]))] U.heap ∧ va_K D cls (tysA dA) U ∧ va_D (fun _ => True) [(h0, .inr (5, [.null, .null, .null, .int 0, .int 0]))] ∧ NW U)) (va_Qv (fun _ : Nat → Nat => True) (fun u t => va_P D cls ((wPo dA h0 ar u)) t.heap ∧ va_K D cls (tysA dA) t ∧ va_D (va_A [(h0, .inr (5, [.null, .null, .null, .int 0, .int 0]))] sz) ((wPo dA h0 ar u))) (va_A [(h0, .inr (5, [.null, .null, .null, .int 0, .int 0]))] sz)) 39 142 (va_A [(h0, .inr (5, [.null, .null, .null, .int 0, .int 0]))] sz) := by
  refine Met.ofW (cc := b_Po_init) (maxL := 3) (ret := none) (by decide) rfl ?_
  intro p e s m args below meth c s₁ B hml hv
  obtain ⟨rfl, hsz, hP, hK, hD0, hN⟩ := hv
  have hx := B.exec
  have hb := B.bytes
  have hr := B.returns
  have hlocks := B.notSynchronized
  have hts := fun (w : Cond) (h : w ∈ lw_g) => atoms_spec (ws := mW y_Po_init b_Po_init 3 none) B.pre w (List.mem_cons_of_mem _ h)
  have hown : s.vm.findClass R_Po = some m.cls := findClass_of_methodNamed B.named
  have hin : meth.name = "<init>" := (name_of_methodNamed B.named B.method).1
  subst hsz
  have hD := hD0.self (sz := s.heap.size)
  generalize hAe : va_A [(h0, .inr (5, [.null, .null, .null, .int 0, .int 0]))] s.heap.size = A at hD ⊢
  have hA : ∀ q : Nat, s.heap.size ≤ q → A q := fun q h => by rw [← hAe]; exact Or.inr h
  have hS : va_S A s.heap s.heap [] := va_S.rf
  have hl := lv_entry ([.ref h0, .int ar]) (n := 3) (Nat.le_of_ble_eq_true rfl)
  rw [lg_entry_eq]
  generalize (lg_sl ([.ref h0, .int ar]) ++ List.replicate (3 - (lg_sl ([.ref h0, .int ar])).length) Slot.unset).toArray = ls at hl ⊢
  have hl : lv_has ls 3 [(0, .ref h0), (1, .int ar)] := hl
  refine lv_aload_n hx hb d_Po_init_0 rfl (lv_at hl 0 rfl) ?_
  refine W.objInit hx hb hown (hts _ wd_64) (hts _ wd_44) (hts _ wd_45) rfl (by rw [hml]; exact hl.1) rfl d_Po_init_1 (Nat.le_of_ble_eq_true rfl) (Nat.le_of_ble_eq_true rfl) ?_
  refine W.eq (g2 := F0 m 4 ls []) rfl ?_
  refine lv_aload_n hx hb d_Po_init_4 rfl (lv_at hl 0 rfl) ?_
  refine va_new (ci := 0) (fs := [.int 0, .int 0]) (C := R_Ac) (T := F_Ac) (N := 2) hx hb hts in_Ac t_Ac k_Ac hown (hts _ wd_65) (hts _ wd_66) (hts _ wd_29) hK hP hD hS hA rfl (fun j hj => by rcases (show j = 0 ∨ j = 1 by omega) with rfl | rfl <;> rfl) (Nat.le_of_ble_eq_true rfl) (Nat.le_of_ble_eq_true rfl) d_Po_init_5 (fun q5 H hP hD hS => ?_)
  have hP : va_P D cls ([(h0, .inr (5, [.null, .null, .null, .int 0, .int 0])), (q5, .inr (0, [.int 0, .int 0]))]) H := hP
  have hD : va_D A ([(h0, .inr (5, [.null, .null, .null, .int 0, .int 0])), (q5, .inr (0, [.int 0, .int 0]))]) := hD
  refine W.widen (k := 1) (n := 2) (Nat.le_of_ble_eq_true rfl) (Nat.le_of_ble_eq_true rfl) ?_
  refine lv_dup hx hb d_Po_init_8 rfl ?_
  refine lv_bipush (v := 6) hx hb d_Po_init_9 (by decide) ?_
  have hPc := hP.sub (ws' := [(q5, .inr (0, [.int 0, .int 0]))]) [1] rfl
  have hDc := hD.sub (ws' := [(q5, .inr (0, [.int 0, .int 0]))]) [1] (by decide) rfl
  have hFc := va_free (wc := [(q5, .inr (0, [.int 0, .int 0]))]) hD hS hA [1] rfl
  refine va_callv (va_runI (As := [.int (6 : Int32)]) (rest := [.ref q5, .ref h0]) ⟨hx, hb, hml, hown, hts⟩ (c_Ac_init l D dA q5 H.size (6 : Int32)) (cwI 1 hts (g_in wd_69) rfl rfl rfl (hts _ wd_29) (hts _ wd_67) (hts _ wd_68) rfl (by decide +kernel) ⟨Nat.le_of_ble_eq_true rfl, Nat.le_of_ble_eq_true rfl⟩) ⟨fun a U g mk q => by obtain ⟨q0, q1, qP, qK, qD, qN⟩ := q; exact ⟨q0, q1, qP, va_K.moved (u := U) (U := U.calling g mk a) (Vm.Alike.refl U.vm) qK, qD, NW_same rfl qN⟩, fun U hU hW => ⟨rfl, by rw [hU], by rw [hU]; exact hPc, va_K.moved hW.alike hK, hDc.weaken (fun _ _ _ _ => trivial), NW_warm hW hN⟩⟩ rfl rfl hl.1 rfl (lv_room (Nat.le_of_ble_eq_true rfl)) d_Po_init_11 ⟨Nat.le_of_ble_eq_true rfl, Nat.le_of_ble_eq_true rfl⟩) hS (fun q _ h => hFc q h) hFc (fun u11 t H1 locs ht hvm h5 hB hz1 hk1 hS => ?_)
  obtain ⟨hP1, -, hD1⟩ := hB
  rw [ht] at hP1
  obtain ⟨hP, hD⟩ := va_join (wr := [(h0, .inr (5, [.null, .null, .null, .int 0, .int 0]))]) (w1 := [(q5, .inr (0, [.int (6 : Int32), .int 0]))]) hP hD [1] [0] rfl rfl (by decide) (by decide) hk1 hFc hP1 hD1
  generalize H1 = H at hP hS ⊢
  have hP : va_P D cls ([(h0, .inr (5, [.null, .null, .null, .int 0, .int 0])), (q5, .inr (0, [.int (6 : Int32), .int 0]))]) H := hP
  have hD : va_D A ([(h0, .inr (5, [.null, .null, .null, .int 0, .int 0])), (q5, .inr (0, [.int (6 : Int32), .int 0]))]) := hD
  refine W.widen (k := 1) (n := 2) (Nat.le_of_ble_eq_true rfl) (Nat.le_of_ble_eq_true rfl) ?_
  refine va_putF (D := D) (ci := 5) (v := .ref q5) (ty := .object "CallFilter$Action") (C := R_Po) (T := F_Po) (N := 5) hx hb hts in_Po t_Po k_Po n_Po hown hK hP hD hS 0 rfl rfl 0 (by decide) (hts _ wd_126) (fun _ h9 => h9) rfl hin rfl (by decide +kernel) rfl rfl (Nat.le_of_ble_eq_true rfl) d_Po_init_14 (fun H locs hP hD hS => ?_)
  have hP : va_P D cls ([(h0, .inr (5, [.ref q5, .null, .null, .int 0, .int 0])), (q5, .inr (0, [.int (6 : Int32), .int 0]))]) H := hP
  have hD : va_D A ([(h0, .inr (5, [.ref q5, .null, .null, .int 0, .int 0])), (q5, .inr (0, [.int (6 : Int32), .int 0]))]) := hD
  refine lv_aload_n hx hb d_Po_init_17 rfl (lv_at hl 0 rfl) ?_
  refine va_new (ci := 0) (fs := [.int 0, .int 0]) (C := R_Ac) (T := F_Ac) (N := 2) hx hb hts in_Ac t_Ac k_Ac hown (hts _ wd_65) (hts _ wd_66) (hts _ wd_29) hK hP hD hS hA rfl (fun j hj => by rcases (show j = 0 ∨ j = 1 by omega) with rfl | rfl <;> rfl) (Nat.le_of_ble_eq_true rfl) (Nat.le_of_ble_eq_true rfl) d_Po_init_18 (fun q18 H hP hD hS => ?_)
  have hP : va_P D cls ([(h0, .inr (5, [.ref q5, .null, .null, .int 0, .int 0])), (q5, .inr (0, [.int (6 : Int32), .int 0])), (q18, .inr (0, [.int 0, .int 0]))]) H := hP
  have hD : va_D A ([(h0, .inr (5, [.ref q5, .null, .null, .int 0, .int 0])), (q5, .inr (0, [.int (6 : Int32), .int 0])), (q18, .inr (0, [.int 0, .int 0]))]) := hD
  refine W.widen (k := 2) (n := 4) (Nat.le_of_ble_eq_true rfl) (Nat.le_of_ble_eq_true rfl) ?_
  refine lv_dup hx hb d_Po_init_21 rfl ?_
  refine lv_iconst (v := 0) hx hb d_Po_init_22 (by decide) ?_
  have hPc := hP.sub (ws' := [(q18, .inr (0, [.int 0, .int 0]))]) [2] rfl
  have hDc := hD.sub (ws' := [(q18, .inr (0, [.int 0, .int 0]))]) [2] (by decide) rfl
  have hFc := va_free (wc := [(q18, .inr (0, [.int 0, .int 0]))]) hD hS hA [2] rfl
  refine va_callv (va_runI (As := [.int (0 : Int32)]) (rest := [.ref q18, .ref h0]) ⟨hx, hb, hml, hown, hts⟩ (c_Ac_init l D dA q18 H.size (0 : Int32)) (cwI 1 hts (g_in wd_69) rfl rfl rfl (hts _ wd_29) (hts _ wd_67) (hts _ wd_68) rfl (by decide +kernel) ⟨Nat.le_of_ble_eq_true rfl, Nat.le_of_ble_eq_true rfl⟩) ⟨fun a U g mk q => by obtain ⟨q0, q1, qP, qK, qD, qN⟩ := q; exact ⟨q0, q1, qP, va_K.moved (u := U) (U := U.calling g mk a) (Vm.Alike.refl U.vm) qK, qD, NW_same rfl qN⟩, fun U hU hW => ⟨rfl, by rw [hU], by rw [hU]; exact hPc, va_K.moved hW.alike hK, hDc.weaken (fun _ _ _ _ => trivial), NW_warm hW hN⟩⟩ rfl rfl hl.1 rfl (lv_room (Nat.le_of_ble_eq_true rfl)) d_Po_init_23 ⟨Nat.le_of_ble_eq_true rfl, Nat.le_of_ble_eq_true rfl⟩) hS (fun q _ h => hFc q h) hFc (fun u23 t H1 locs ht hvm h5 hB hz1 hk1 hS => ?_)
  obtain ⟨hP1, -, hD1⟩ := hB
  rw [ht] at hP1
  obtain ⟨hP, hD⟩ := va_join (wr := [(h0, .inr (5, [.ref q5, .null, .null, .int 0, .int 0])), (q5, .inr (0, [.int (6 : Int32), .int 0]))]) (w1 := [(q18, .inr (0, [.int (0 : Int32), .int 0]))]) hP hD [2] [0, 1] rfl rfl (by decide) (by decide) hk1 hFc hP1 hD1
  generalize H1 = H at hP hS ⊢
  have hP : va_P D cls ([(h0, .inr (5, [.ref q5, .null, .null, .int 0, .int 0])), (q5, .inr (0, [.int (6 : Int32), .int 0])), (q18, .inr (0, [.int (0 : Int32), .int 0]))]) H := hP
  have hD : va_D A ([(h0, .inr (5, [.ref q5, .null, .null, .int 0, .int 0])), (q5, .inr (0, [.int (6 : Int32), .int 0])), (q18, .inr (0, [.int (0 : Int32), .int 0]))]) := hD
  refine W.widen (k := 2) (n := 4) (Nat.le_of_ble_eq_true rfl) (Nat.le_of_ble_eq_true rfl) ?_
  refine va_putF (D := D) (ci := 5) (v := .ref q18) (ty := .object "CallFilter$Action") (C := R_Po) (T := F_Po) (N := 5) hx hb hts in_Po t_Po k_Po n_Po hown hK hP hD hS 0 rfl rfl 1 (by decide) (hts _ wd_128) (fun _ h9 => h9) rfl hin rfl (by decide +kernel) rfl rfl (Nat.le_of_ble_eq_true rfl) d_Po_init_26 (fun H locs hP hD hS => ?_)
  have hP : va_P D cls ([(h0, .inr (5, [.ref q5, .ref q18, .null, .int 0, .int 0])), (q5, .inr (0, [.int (6 : Int32), .int 0])), (q18, .inr (0, [.int (0 : Int32), .int 0]))]) H := hP
  have hD : va_D A ([(h0, .inr (5, [.ref q5, .ref q18, .null, .int 0, .int 0])), (q5, .inr (0, [.int (6 : Int32), .int 0])), (q18, .inr (0, [.int (0 : Int32), .int 0]))]) := hD
  refine lv_aload_n hx hb d_Po_init_29 rfl (lv_at hl 0 rfl) ?_
  refine lv_bipush (v := 6) hx hb d_Po_init_30 (by decide) ?_
  refine va_newq hx hb hown (hts _ wd_79) hN.2.2.2.2.2.2.2.1 hK hP hD hS hA (by decide) rfl (by decide) (Nat.le_of_ble_eq_true rfl) (Nat.le_of_ble_eq_true rfl) d_Po_init_32 (fun q32 cA H hK hP hD hS => ?_)
  obtain rfl : cA = dA 2 := dA_2 hK
  have hK := hK.sub (tys' := tysA dA) [0, 1, 2, 3, 4] rfl
  have hP : va_P D cls ([(h0, .inr (5, [.ref q5, .ref q18, .null, .int 0, .int 0])), (q5, .inr (0, [.int (6 : Int32), .int 0])), (q18, .inr (0, [.int (0 : Int32), .int 0])), (q32, .inl (dA 2, 6, .inr (.inr (.inr (.inr (fun _ => none))))))]) H := hP
  have hD : va_D A ([(h0, .inr (5, [.ref q5, .ref q18, .null, .int 0, .int 0])), (q5, .inr (0, [.int (6 : Int32), .int 0])), (q18, .inr (0, [.int (0 : Int32), .int 0])), (q32, .inl (dA 2, 6, .inr (.inr (.inr (.inr (fun _ => none))))))]) := hD
  refine W.widen (k := 3) (n := 10) (Nat.le_of_ble_eq_true rfl) (Nat.le_of_ble_eq_true rfl) ?_
  refine va_putF (D := D) (ci := 5) (v := .ref q32) (ty := .array (.object "CallFilter$Rule")) (C := R_Po) (T := F_Po) (N := 5) hx hb hts in_Po t_Po k_Po n_Po hown hK hP hD hS 0 rfl rfl 2 (by decide) (hts _ wd_130) (fun _ h9 => h9) rfl hin rfl (by decide +kernel) rfl rfl (Nat.le_of_ble_eq_true rfl) d_Po_init_35 (fun H locs hP hD hS => ?_)
  have hP : va_P D cls ([(h0, .inr (5, [.ref q5, .ref q18, .ref q32, .int 0, .int 0])), (q5, .inr (0, [.int (6 : Int32), .int 0])), (q18, .inr (0, [.int (0 : Int32), .int 0])), (q32, .inl (dA 2, 6, .inr (.inr (.inr (.inr (fun _ => none))))))]) H := hP
  have hD : va_D A ([(h0, .inr (5, [.ref q5, .ref q18, .ref q32, .int 0, .int 0])), (q5, .inr (0, [.int (6 : Int32), .int 0])), (q18, .inr (0, [.int (0 : Int32), .int 0])), (q32, .inl (dA 2, 6, .inr (.inr (.inr (.inr (fun _ => none))))))]) := hD
  refine lv_aload_n hx hb d_Po_init_38 rfl (lv_at hl 0 rfl) ?_
  refine lv_iload_n hx hb d_Po_init_39 rfl (lv_at hl 1 rfl) ?_
  refine va_putF (D := D) (ci := 5) (v := .int ar) (ty := .int) (C := R_Po) (T := F_Po) (N := 5) hx hb hts in_Po t_Po k_Po n_Po hown hK hP hD hS 0 rfl rfl 4 (by decide) (hts _ wd_134) (fun _ h9 => h9) rfl hin rfl (by decide +kernel) rfl rfl (Nat.le_of_ble_eq_true rfl) d_Po_init_40 (fun H locs hP hD hS => ?_)
  have hP : va_P D cls ([(h0, .inr (5, [.ref q5, .ref q18, .ref q32, .int 0, .int ar])), (q5, .inr (0, [.int (6 : Int32), .int 0])), (q18, .inr (0, [.int (0 : Int32), .int 0])), (q32, .inl (dA 2, 6, .inr (.inr (.inr (.inr (fun _ => none))))))]) H := hP
  have hD : va_D A ([(h0, .inr (5, [.ref q5, .ref q18, .ref q32, .int 0, .int ar])), (q5, .inr (0, [.int (6 : Int32), .int 0])), (q18, .inr (0, [.int (0 : Int32), .int 0])), (q32, .inl (dA 2, 6, .inr (.inr (.inr (.inr (fun _ => none))))))]) := hD
  refine lv_iconst (v := 0) hx hb d_Po_init_43 (by decide) ?_
  refine lv_istore_n hx hb d_Po_init_44 rfl hl (by decide) rfl (fun ls hl => ?_)
  have hl : lv_has ls 3 [(2, .int (0 : Int32)), (0, .ref h0), (1, .int ar)] := hl
  refine lv_iload_n hx hb d_Po_init_45 rfl (lv_at hl 0 rfl) ?_
  refine lv_bipush (v := 6) hx hb d_Po_init_46 (by decide) ?_
  refine lv_icmp_ge (tgt := 70) hx hb d_Po_init_48 (by decide) (fun h => absurd h (by decide)) (fun _ => ?_)
  refine lv_aload_n hx hb d_Po_init_51 rfl (lv_at hl 1 rfl) ?_
  refine va_get (D := D) (ci := 5) (v := .ref q32) (C := R_Po) (T := F_Po) (N := 5) hx hb hts in_Po hown hK hP 0 rfl rfl 2 (by decide) (hts _ wd_130) (fun _ h9 => h9) rfl d_Po_init_52 ?_
  refine lv_iload_n hx hb d_Po_init_55 rfl (lv_at hl 0 rfl) ?_
  refine va_new (ci := 7) (fs := [.null, .int 0, .int 0, .int 0, .null]) (C := R_Ru) (T := F_Ru) (N := 5) hx hb hts in_Ru t_Ru k_Ru hown (hts _ wd_79) (hts _ wd_81) (hts _ wd_30) hK hP hD hS hA rfl (fun j hj => by rcases (show j = 0 ∨ j = 1 ∨ j = 2 ∨ j = 3 ∨ j = 4 by omega) with rfl | rfl | rfl | rfl | rfl <;> rfl) (Nat.le_of_ble_eq_true rfl) (Nat.le_of_ble_eq_true rfl) d_Po_init_56 (fun q56 H hP hD hS => ?_)
  have hP : va_P D cls ([(h0, .inr (5, [.ref q5, .ref q18, .ref q32, .int 0, .int ar])), (q5, .inr (0, [.int (6 : Int32), .int 0])), (q18, .inr (0, [.int (0 : Int32), .int 0])), (q32, .inl (dA 2, 6, .inr (.inr (.inr (.inr (fun _ => none)))))), (q56, .inr (7, [.null, .int 0, .int 0, .int 0, .null]))]) H := hP
  have hD : va_D A ([(h0, .inr (5, [.ref q5, .ref q18, .ref q32, .int 0, .int ar])), (q5, .inr (0, [.int (6 : Int32), .int 0])), (q18, .inr (0, [.int (0 : Int32), .int 0])), (q32, .inl (dA 2, 6, .inr (.inr (.inr (.inr (fun _ => none)))))), (q56, .inr (7, [.null, .int 0, .int 0, .int 0, .null]))]) := hD
  refine W.widen (k := 4) (n := 15) (Nat.le_of_ble_eq_true rfl) (Nat.le_of_ble_eq_true rfl) ?_
  refine lv_dup hx hb d_Po_init_59 rfl ?_
  have hPc := hP.sub (ws' := [(q56, .inr (7, [.null, .int 0, .int 0, .int 0, .null]))]) [4] rfl
  have hDc := hD.sub (ws' := [(q56, .inr (7, [.null, .int 0, .int 0, .int 0, .null]))]) [4] (by decide) rfl
  have hFc := va_free (wc := [(q56, .inr (7, [.null, .int 0, .int 0, .int 0, .null]))]) hD hS hA [4] rfl
  refine va_callv (va_runI (As := []) (rest := [.ref q56, .int (0 : Int32), .ref q32]) ⟨hx, hb, hml, hown, hts⟩ (c_Ru_init l D dA q56 H.size ) (cwI 0 hts (g_in wd_84) rfl rfl rfl (hts _ wd_30) (hts _ wd_82) (hts _ wd_83) rfl (by decide +kernel) ⟨Nat.le_of_ble_eq_true rfl, Nat.le_of_ble_eq_true rfl⟩) ⟨fun a U g mk q => by obtain ⟨q0, q1, qP, qK, qD, qN⟩ := q; exact ⟨q0, q1, qP, va_K.moved (u := U) (U := U.calling g mk a) (Vm.Alike.refl U.vm) qK, qD, NW_same rfl qN⟩, fun U hU hW => ⟨rfl, by rw [hU], by rw [hU]; exact hPc, va_K.moved hW.alike hK, hDc.weaken (fun _ _ _ _ => trivial), NW_warm hW hN⟩⟩ rfl rfl hl.1 rfl (lv_room (Nat.le_of_ble_eq_true rfl)) d_Po_init_60 ⟨Nat.le_of_ble_eq_true rfl, Nat.le_of_ble_eq_true rfl⟩) hS (fun q _ h => hFc q h) hFc (fun u60 t H1 locs ht hvm h5 hB hz1 hk1 hS => ?_)
  obtain ⟨hP1, -, hD1⟩ := hB
  rw [ht] at hP1
  obtain ⟨hP, hD⟩ := va_join (wr := [(h0, .inr (5, [.ref q5, .ref q18, .ref q32, .int 0, .int ar])), (q5, .inr (0, [.int (6 : Int32), .int 0])), (q18, .inr (0, [.int (0 : Int32), .int 0])), (q32, .inl (dA 2, 6, .inr (.inr (.inr (.inr (fun _ => none))))))]) (w1 := (wU dA q56 u60)) hP hD [4] [0, 1, 2, 3] rfl rfl (by decide) (by decide) hk1 hFc hP1 hD1
  generalize H1 = H at hP hS ⊢
  have hP : va_P D cls ([(h0, .inr (5, [.ref q5, .ref q18, .ref q32, .int 0, .int ar])), (q5, .inr (0, [.int (6 : Int32), .int 0])), (q18, .inr (0, [.int (0 : Int32), .int 0])), (q32, .inl (dA 2, 6, .inr (.inr (.inr (.inr (fun _ => none))))))] ++ (wU dA q56 u60)) H := hP
  have hD : va_D A ([(h0, .inr (5, [.ref q5, .ref q18, .ref q32, .int 0, .int ar])), (q5, .inr (0, [.int (6 : Int32), .int 0])), (q18, .inr (0, [.int (0 : Int32), .int 0])), (q32, .inl (dA 2, 6, .inr (.inr (.inr (.inr (fun _ => none))))))] ++ (wU dA q56 u60)) := hD
  refine W.widen (k := 9) (n := 32) (Nat.le_of_ble_eq_true rfl) (Nat.le_of_ble_eq_true rfl) ?_
  refine va_astq (n := 6) (r := (R_Ru, F_Ru, 5)) hx hb hK hP hD hS 3 2 4 7 rfl rfl rfl rfl (vp_in_nI (n := 0) (by decide) (by decide)) d_Po_init_63 (fun H locs hP hD hS => ?_)
  have hP : va_P D cls ([(h0, .inr (5, [.ref q5, .ref q18, .ref q32, .int 0, .int ar])), (q5, .inr (0, [.int (6 : Int32), .int 0])), (q18, .inr (0, [.int (0 : Int32), .int 0])), (q32, .inl (dA 2, 6, .inr (.inr (.inr (.inr (va_up (fun _ => none) 0 (some q56)))))))] ++ (wU dA q56 u60)) H := hP
  have hD : va_D A ([(h0, .inr (5, [.ref q5, .ref q18, .ref q32, .int 0, .int ar])), (q5, .inr (0, [.int (6 : Int32), .int 0])), (q18, .inr (0, [.int (0 : Int32), .int 0])), (q32, .inl (dA 2, 6, .inr (.inr (.inr (.inr (va_up (fun _ => none) 0 (some q56)))))))] ++ (wU dA q56 u60)) := hD
  refine lv_iinc (v := (1 : Int32)) hx hb d_Po_init_64 hl (k := 0) rfl rfl (by decide) rfl (fun ls hl => ?_)
  have hl : lv_has ls 3 [(2, .int (1 : Int32)), (0, .ref h0), (1, .int ar)] := hl
  refine lv_goto (tgt := 45) hx hb d_Po_init_67 (by decide) ?_
  refine lv_iload_n hx hb d_Po_init_45 rfl (lv_at hl 0 rfl) ?_
  refine lv_bipush (v := 6) hx hb d_Po_init_46 (by decide) ?_
  refine lv_icmp_ge (tgt := 70) hx hb d_Po_init_48 (by decide) (fun h => absurd h (by decide)) (fun _ => ?_)
  refine lv_aload_n hx hb d_Po_init_51 rfl (lv_at hl 1 rfl) ?_
  refine va_get (D := D) (ci := 5) (v := .ref q32) (C := R_Po) (T := F_Po) (N := 5) hx hb hts in_Po hown hK hP 0 rfl rfl 2 (by decide) (hts _ wd_130) (fun _ h9 => h9) rfl d_Po_init_52 ?_
  refine lv_iload_n hx hb d_Po_init_55 rfl (lv_at hl 0 rfl) ?_
  refine va_new (ci := 7) (fs := [.null, .int 0, .int 0, .int 0, .null]) (C := R_Ru) (T := F_Ru) (N := 5) hx hb hts in_Ru t_Ru k_Ru hown (hts _ wd_79) (hts _ wd_81) (hts _ wd_30) hK hP hD hS hA rfl (fun j hj => by rcases (show j = 0 ∨ j = 1 ∨ j = 2 ∨ j = 3 ∨ j = 4 by omega) with rfl | rfl | rfl | rfl | rfl <;> rfl) (Nat.le_of_ble_eq_true rfl) (Nat.le_of_ble_eq_true rfl) d_Po_init_56 (fun q56_4 H hP hD hS => ?_)
  have hP : va_P D cls ([(h0, .inr (5, [.ref q5, .ref q18, .ref q32, .int 0, .int ar])), (q5, .inr (0, [.int (6 : Int32), .int 0])), (q18, .inr (0, [.int (0 : Int32), .int 0])), (q32, .inl (dA 2, 6, .inr (.inr (.inr (.inr (va_up (fun _ => none) 0 (some q56)))))))] ++ (wU dA q56 u60) ++ [(q56_4, .inr (7, [.null, .int 0, .int 0, .int 0, .null]))]) H := hP
  have hD : va_D A ([(h0, .inr (5, [.ref q5, .ref q18, .ref q32, .int 0, .int ar])), (q5, .inr (0, [.int (6 : Int32), .int 0])), (q18, .inr (0, [.int (0 : Int32), .int 0])), (q32, .inl (dA 2, 6, .inr (.inr (.inr (.inr (va_up (fun _ => none) 0 (some q56)))))))] ++ (wU dA q56 u60) ++ [(q56_4, .inr (7, [.null, .int 0, .int 0, .int 0, .null]))]) := hD
  refine W.widen (k := 10) (n := 37) (Nat.le_of_ble_eq_true rfl) (Nat.le_of_ble_eq_true rfl) ?_
  refine lv_dup hx hb d_Po_init_59 rfl ?_
  have hPc := hP.sub (ws' := [(q56_4, .inr (7, [.null, .int 0, .int 0, .int 0, .null]))]) [10] rfl
  have hDc := hD.sub (ws' := [(q56_4, .inr (7, [.null, .int 0, .int 0, .int 0, .null]))]) [10] (by decide) rfl
  have hFc := va_free (wc := [(q56_4, .inr (7, [.null, .int 0, .int 0, .int 0, .null]))]) hD hS hA [10] rfl
  refine va_callv (va_runI (As := []) (rest := [.ref q56_4, .int (1 : Int32), .ref q32]) ⟨hx, hb, hml, hown, hts⟩ (c_Ru_init l D dA q56_4 H.size ) (cwI 0 hts (g_in wd_84) rfl rfl rfl (hts _ wd_30) (hts _ wd_82) (hts _ wd_83) rfl (by decide +kernel) ⟨Nat.le_of_ble_eq_true rfl, Nat.le_of_ble_eq_true rfl⟩) ⟨fun a U g mk q => by obtain ⟨q0, q1, qP, qK, qD, qN⟩ := q; exact ⟨q0, q1, qP, va_K.moved (u := U) (U := U.calling g mk a) (Vm.Alike.refl U.vm) qK, qD, NW_same rfl qN⟩, fun U hU hW => ⟨rfl, by rw [hU], by rw [hU]; exact hPc, va_K.moved hW.alike hK, hDc.weaken (fun _ _ _ _ => trivial), NW_warm hW hN⟩⟩ rfl rfl hl.1 rfl (lv_room (Nat.le_of_ble_eq_true rfl)) d_Po_init_60 ⟨Nat.le_of_ble_eq_true rfl, Nat.le_of_ble_eq_true rfl⟩) hS (fun q _ h => hFc q h) hFc (fun u60_3 t H1 locs ht hvm h5 hB hz1 hk1 hS => ?_)
  obtain ⟨hP1, -, hD1⟩ := hB
  rw [ht] at hP1
  obtain ⟨hP, hD⟩ := va_join (wr := [(h0, .inr (5, [.ref q5, .ref q18, .ref q32, .int 0, .int ar])), (q5, .inr (0, [.int (6 : Int32), .int 0])), (q18, .inr (0, [.int (0 : Int32), .int 0])), (q32, .inl (dA 2, 6, .inr (.inr (.inr (.inr (va_up (fun _ => none) 0 (some q56)))))))] ++ (wU dA q56 u60)) (w1 := (wU dA q56_4 u60_3)) hP hD [10] [0, 1, 2, 3, 4, 5, 6, 7, 8, 9] rfl rfl (by decide) (by decide) hk1 hFc hP1 hD1
  generalize H1 = H at hP hS ⊢
  have hP : va_P D cls ([(h0, .inr (5, [.ref q5, .ref q18, .ref q32, .int 0, .int ar])), (q5, .inr (0, [.int (6 : Int32), .int 0])), (q18, .inr (0, [.int (0 : Int32), .int 0])), (q32, .inl (dA 2, 6, .inr (.inr (.inr (.inr (va_up (fun _ => none) 0 (some q56)))))))] ++ (wU dA q56 u60) ++ (wU dA q56_4 u60_3)) H := hP
  have hD : va_D A ([(h0, .inr (5, [.ref q5, .ref q18, .ref q32, .int 0, .int ar])), (q5, .inr (0, [.int (6 : Int32), .int 0])), (q18, .inr (0, [.int (0 : Int32), .int 0])), (q32, .inl (dA 2, 6, .inr (.inr (.inr (.inr (va_up (fun _ => none) 0 (some q56)))))))] ++ (wU dA q56 u60) ++ (wU dA q56_4 u60_3)) := hD
  refine W.widen (k := 15) (n := 54) (Nat.le_of_ble_eq_true rfl) (Nat.le_of_ble_eq_true rfl) ?_
  refine va_astq (n := 6) (r := (R_Ru, F_Ru, 5)) hx hb hK hP hD hS 3 2 10 7 rfl rfl rfl rfl (vp_in_nI (n := 1) (by decide) (by decide)) d_Po_init_63 (fun H locs hP hD hS => ?_)
  have hP : va_P D cls ([(h0, .inr (5, [.ref q5, .ref q18, .ref q32, .int 0, .int ar])), (q5, .inr (0, [.int (6 : Int32), .int 0])), (q18, .inr (0, [.int (0 : Int32), .int 0])), (q32, .inl (dA 2, 6, .inr (.inr (.inr (.inr (va_up (va_up (fun _ => none) 0 (some q56)) 1 (some q56_4)))))))] ++ (wU dA q56 u60) ++ (wU dA q56_4 u60_3)) H := hP
  have hD : va_D A ([(h0, .inr (5, [.ref q5, .ref q18, .ref q32, .int 0, .int ar])), (q5, .inr (0, [.int (6 : Int32), .int 0])), (q18, .inr (0, [.int (0 : Int32), .int 0])), (q32, .inl (dA 2, 6, .inr (.inr (.inr (.inr (va_up (va_up (fun _ => none) 0 (some q56)) 1 (some q56_4)))))))] ++ (wU dA q56 u60) ++ (wU dA q56_4 u60_3)) := hD
  refine lv_iinc (v := (2 : Int32)) hx hb d_Po_init_64 hl (k := 0) rfl rfl (by decide) rfl (fun ls hl => ?_)
  have hl : lv_has ls 3 [(2, .int (2 : Int32)), (0, .ref h0), (1, .int ar)] := hl
  refine lv_goto (tgt := 45) hx hb d_Po_init_67 (by decide) ?_
  refine lv_iload_n hx hb d_Po_init_45 rfl (lv_at hl 0 rfl) ?_
  refine lv_bipush (v := 6) hx hb d_Po_init_46 (by decide) ?_
  refine lv_icmp_ge (tgt := 70) hx hb d_Po_init_48 (by decide) (fun h => absurd h (by decide)) (fun _ => ?_)
  refine lv_aload_n hx hb d_Po_init_51 rfl (lv_at hl 1 rfl) ?_
  refine va_get (D := D) (ci := 5) (v := .ref q32) (C := R_Po) (T := F_Po) (N := 5) hx hb hts in_Po hown hK hP 0 rfl rfl 2 (by decide) (hts _ wd_130) (fun _ h9 => h9) rfl d_Po_init_52 ?_
  refine lv_iload_n hx hb d_Po_init_55 rfl (lv_at hl 0 rfl) ?_
  refine va_new (ci := 7) (fs := [.null, .int 0, .int 0, .int 0, .null]) (C := R_Ru) (T := F_Ru) (N := 5) hx hb hts in_Ru t_Ru k_Ru hown (hts _ wd_79) (hts _ wd_81) (hts _ wd_30) hK hP hD hS hA rfl (fun j hj => by rcases (show j = 0 ∨ j = 1 ∨ j = 2 ∨ j = 3 ∨ j = 4 by omega) with rfl | rfl | rfl | rfl | rfl <;> rfl) (Nat.le_of_ble_eq_true rfl) (Nat.le_of_ble_eq_true rfl) d_Po_init_56 (fun q56_5 H hP hD hS => ?_)
  have hP : va_P D cls ([(h0, .inr (5, [.ref q5, .ref q18, .ref q32, .int 0, .int ar])), (q5, .inr (0, [.int (6 : Int32), .int 0])), (q18, .inr (0, [.int (0 : Int32), .int 0])), (q32, .inl (dA 2, 6, .inr (.inr (.inr (.inr (va_up (va_up (fun _ => none) 0 (some q56)) 1 (some q56_4)))))))] ++ (wU dA q56 u60) ++ (wU dA q56_4 u60_3) ++ [(q56_5, .inr (7, [.null, .int 0, .int 0, .int 0, .null]))]) H := hP
  have hD : va_D A ([(h0, .inr (5, [.ref q5, .ref q18, .ref q32, .int 0, .int ar])), (q5, .inr (0, [.int (6 : Int32), .int 0])), (q18, .inr (0, [.int (0 : Int32), .int 0])), (q32, .inl (dA 2, 6, .inr (.inr (.inr (.inr (va_up (va_up (fun _ => none) 0 (some q56)) 1 (some q56_4)))))))] ++ (wU dA q56 u60) ++ (wU dA q56_4 u60_3) ++ [(q56_5, .inr (7, [.null, .int 0, .int 0, .int 0, .null]))]) := hD
  refine W.widen (k := 16) (n := 59) (Nat.le_of_ble_eq_true rfl) (Nat.le_of_ble_eq_true rfl) ?_
  refine lv_dup hx hb d_Po_init_59 rfl ?_
  have hPc := hP.sub (ws' := [(q56_5, .inr (7, [.null, .int 0, .int 0, .int 0, .null]))]) [16] rfl
  have hDc := hD.sub (ws' := [(q56_5, .inr (7, [.null, .int 0, .int 0, .int 0, .null]))]) [16] (by decide) rfl
  have hFc := va_free (wc := [(q56_5, .inr (7, [.null, .int 0, .int 0, .int 0, .null]))]) hD hS hA [16] rfl
  refine va_callv (va_runI (As := []) (rest := [.ref q56_5, .int (2 : Int32), .ref q32]) ⟨hx, hb, hml, hown, hts⟩ (c_Ru_init l D dA q56_5 H.size ) (cwI 0 hts (g_in wd_84) rfl rfl rfl (hts _ wd_30) (hts _ wd_82) (hts _ wd_83) rfl (by decide +kernel) ⟨Nat.le_of_ble_eq_true rfl, Nat.le_of_ble_eq_true rfl⟩) ⟨fun a U g mk q => by obtain ⟨q0, q1, qP, qK, qD, qN⟩ := q; exact ⟨q0, q1, qP, va_K.moved (u := U) (U := U.calling g mk a) (Vm.Alike.refl U.vm) qK, qD, NW_same rfl qN⟩, fun U hU hW => ⟨rfl, by rw [hU], by rw [hU]; exact hPc, va_K.moved hW.alike hK, hDc.weaken (fun _ _ _ _ => trivial), NW_warm hW hN⟩⟩ rfl rfl hl.1 rfl (lv_room (Nat.le_of_ble_eq_true rfl)) d_Po_init_60 ⟨Nat.le_of_ble_eq_true rfl, Nat.le_of_ble_eq_true rfl⟩) hS (fun q _ h => hFc q h) hFc (fun u60_4 t H1 locs ht hvm h5 hB hz1 hk1 hS => ?_)
  obtain ⟨hP1, -, hD1⟩ := hB
  rw [ht] at hP1
  obtain ⟨hP, hD⟩ := va_join (wr := [(h0, .inr (5, [.ref q5, .ref q18, .ref q32, .int 0, .int ar])), (q5, .inr (0, [.int (6 : Int32), .int 0])), (q18, .inr (0, [.int (0 : Int32), .int 0])), (q32, .inl (dA 2, 6, .inr (.inr (.inr (.inr (va_up (va_up (fun _ => none) 0 (some q56)) 1 (some q56_4)))))))] ++ (wU dA q56 u60) ++ (wU dA q56_4 u60_3)) (w1 := (wU dA q56_5 u60_4)) hP hD [16] [0, 1, 2, 3, 4, 5, 6, 7, 8, 9, 10, 11, 12, 13, 14, 15] rfl rfl (by decide) (by decide) hk1 hFc hP1 hD1
  generalize H1 = H at hP hS ⊢
  have hP : va_P D cls ([(h0, .inr (5, [.ref q5, .ref q18, .ref q32, .int 0, .int ar])), (q5, .inr (0, [.int (6 : Int32), .int 0])), (q18, .inr (0, [.int (0 : Int32), .int 0])), (q32, .inl (dA 2, 6, .inr (.inr (.inr (.inr (va_up (va_up (fun _ => none) 0 (some q56)) 1 (some q56_4)))))))] ++ (wU dA q56 u60) ++ (wU dA q56_4 u60_3) ++ (wU dA q56_5 u60_4)) H := hP
  have hD : va_D A ([(h0, .inr (5, [.ref q5, .ref q18, .ref q32, .int 0, .int ar])), (q5, .inr (0, [.int (6 : Int32), .int 0])), (q18, .inr (0, [.int (0 : Int32), .int 0])), (q32, .inl (dA 2, 6, .inr (.inr (.inr (.inr (va_up (va_up (fun _ => none) 0 (some q56)) 1 (some q56_4)))))))] ++ (wU dA q56 u60) ++ (wU dA q56_4 u60_3) ++ (wU dA q56_5 u60_4)) := hD
  refine W.widen (k := 21) (n := 76) (Nat.le_of_ble_eq_true rfl) (Nat.le_of_ble_eq_true rfl) ?_
  refine va_astq (n := 6) (r := (R_Ru, F_Ru, 5)) hx hb hK hP hD hS 3 2 16 7 rfl rfl rfl rfl (vp_in_nI (n := 2) (by decide) (by decide)) d_Po_init_63 (fun H locs hP hD hS => ?_)
  have hP : va_P D cls ([(h0, .inr (5, [.ref q5, .ref q18, .ref q32, .int 0, .int ar])), (q5, .inr (0, [.int (6 : Int32), .int 0])), (q18, .inr (0, [.int (0 : Int32), .int 0])), (q32, .inl (dA 2, 6, .inr (.inr (.inr (.inr (va_up (va_up (va_up (fun _ => none) 0 (some q56)) 1 (some q56_4)) 2 (some q56_5)))))))] ++ (wU dA q56 u60) ++ (wU dA q56_4 u60_3) ++ (wU dA q56_5 u60_4)) H := hP
  have hD : va_D A ([(h0, .inr (5, [.ref q5, .ref q18, .ref q32, .int 0, .int ar])), (q5, .inr (0, [.int (6 : Int32), .int 0])), (q18, .inr (0, [.int (0 : Int32), .int 0])), (q32, .inl (dA 2, 6, .inr (.inr (.inr (.inr (va_up (va_up (va_up (fun _ => none) 0 (some q56)) 1 (some q56_4)) 2 (some q56_5)))))))] ++ (wU dA q56 u60) ++ (wU dA q56_4 u60_3) ++ (wU dA q56_5 u60_4)) := hD
  refine lv_iinc (v := (3 : Int32)) hx hb d_Po_init_64 hl (k := 0) rfl rfl (by decide) rfl (fun ls hl => ?_)
  have hl : lv_has ls 3 [(2, .int (3 : Int32)), (0, .ref h0), (1, .int ar)] := hl
  refine lv_goto (tgt := 45) hx hb d_Po_init_67 (by decide) ?_
  refine lv_iload_n hx hb d_Po_init_45 rfl (lv_at hl 0 rfl) ?_
  refine lv_bipush (v := 6) hx hb d_Po_init_46 (by decide) ?_
  refine lv_icmp_ge (tgt := 70) hx hb d_Po_init_48 (by decide) (fun h => absurd h (by decide)) (fun _ => ?_)
  refine lv_aload_n hx hb d_Po_init_51 rfl (lv_at hl 1 rfl) ?_
  refine va_get (D := D) (ci := 5) (v := .ref q32) (C := R_Po) (T := F_Po) (N := 5) hx hb hts in_Po hown hK hP 0 rfl rfl 2 (by decide) (hts _ wd_130) (fun _ h9 => h9) rfl d_Po_init_52 ?_
  refine lv_iload_n hx hb d_Po_init_55 rfl (lv_at hl 0 rfl) ?_
  refine va_new (ci := 7) (fs := [.null, .int 0, .int 0, .int 0, .null]) (C := R_Ru) (T := F_Ru) (N := 5) hx hb hts in_Ru t_Ru k_Ru hown (hts _ wd_79) (hts _ wd_81) (hts _ wd_30) hK hP hD hS hA rfl (fun j hj => by rcases (show j = 0 ∨ j = 1 ∨ j = 2 ∨ j = 3 ∨ j = 4 by omega) with rfl | rfl | rfl | rfl | rfl <;> rfl) (Nat.le_of_ble_eq_true rfl) (Nat.le_of_ble_eq_true rfl) d_Po_init_56 (fun q56_6 H hP hD hS => ?_)
  have hP : va_P D cls ([(h0, .inr (5, [.ref q5, .ref q18, .ref q32, .int 0, .int ar])), (q5, .inr (0, [.int (6 : Int32), .int 0])), (q18, .inr (0, [.int (0 : Int32), .int 0])), (q32, .inl (dA 2, 6, .inr (.inr (.inr (.inr (va_up (va_up (va_up (fun _ => none) 0 (some q56)) 1 (some q56_4)) 2 (some q56_5)))))))] ++ (wU dA q56 u60) ++ (wU dA q56_4 u60_3) ++ (wU dA q56_5 u60_4) ++ [(q56_6, .inr (7, [.null, .int 0, .int 0, .int 0, .null]))]) H := hP
  have hD : va_D A ([(h0, .inr (5, [.ref q5, .ref q18, .ref q32, .int 0, .int ar])), (q5, .inr (0, [.int (6 : Int32), .int 0])), (q18, .inr (0, [.int (0 : Int32), .int 0])), (q32, .inl (dA 2, 6, .inr (.inr (.inr (.inr (va_up (va_up (va_up (fun _ => none) 0 (some q56)) 1 (some q56_4)) 2 (some q56_5)))))))] ++ (wU dA q56 u60) ++ (wU dA q56_4 u60_3) ++ (wU dA q56_5 u60_4) ++ [(q56_6, .inr (7, [.null, .int 0, .int 0, .int 0, .null]))]) := hD
  refine W.widen (k := 22) (n := 81) (Nat.le_of_ble_eq_true rfl) (Nat.le_of_ble_eq_true rfl) ?_
  refine lv_dup hx hb d_Po_init_59 rfl ?_
  have hPc := hP.sub (ws' := [(q56_6, .inr (7, [.null, .int 0, .int 0, .int 0, .null]))]) [22] rfl
  have hDc := hD.sub (ws' := [(q56_6, .inr (7, [.null, .int 0, .int 0, .int 0, .null]))]) [22] (by decide) rfl
  have hFc := va_free (wc := [(q56_6, .inr (7, [.null, .int 0, .int 0, .int 0, .null]))]) hD hS hA [22] rfl
  refine va_callv (va_runI (As := []) (rest := [.ref q56_6, .int (3 : Int32), .ref q32]) ⟨hx, hb, hml, hown, hts⟩ (c_Ru_init l D dA q56_6 H.size ) (cwI 0 hts (g_in wd_84) rfl rfl rfl (hts _ wd_30) (hts _ wd_82) (hts _ wd_83) rfl (by decide +kernel) ⟨Nat.le_of_ble_eq_true rfl, Nat.le_of_ble_eq_true rfl⟩) ⟨fun a U g mk q => by obtain ⟨q0, q1, qP, qK, qD, qN⟩ := q; exact ⟨q0, q1, qP, va_K.moved (u := U) (U := U.calling g mk a) (Vm.Alike.refl U.vm) qK, qD, NW_same rfl qN⟩, fun U hU hW => ⟨rfl, by rw [hU], by rw [hU]; exact hPc, va_K.moved hW.alike hK, hDc.weaken (fun _ _ _ _ => trivial), NW_warm hW hN⟩⟩ rfl rfl hl.1 rfl (lv_room (Nat.le_of_ble_eq_true rfl)) d_Po_init_60 ⟨Nat.le_of_ble_eq_true rfl, Nat.le_of_ble_eq_true rfl⟩) hS (fun q _ h => hFc q h) hFc (fun u60_5 t H1 locs ht hvm h5 hB hz1 hk1 hS => ?_)
  obtain ⟨hP1, -, hD1⟩ := hB
  rw [ht] at hP1
  obtain ⟨hP, hD⟩ := va_join (wr := [(h0, .inr (5, [.ref q5, .ref q18, .ref q32, .int 0, .int ar])), (q5, .inr (0, [.int (6 : Int32), .int 0])), (q18, .inr (0, [.int (0 : Int32), .int 0])), (q32, .inl (dA 2, 6, .inr (.inr (.inr (.inr (va_up (va_up (va_up (fun _ => none) 0 (some q56)) 1 (some q56_4)) 2 (some q56_5)))))))] ++ (wU dA q56 u60) ++ (wU dA q56_4 u60_3) ++ (wU dA q56_5 u60_4)) (w1 := (wU dA q56_6 u60_5)) hP hD [22] [0, 1, 2, 3, 4, 5, 6, 7, 8, 9, 10, 11, 12, 13, 14, 15, 16, 17, 18, 19, 20, 21] rfl rfl (by decide) (by decide) hk1 hFc hP1 hD1
  generalize H1 = H at hP hS ⊢
  have hP : va_P D cls ([(h0, .inr (5, [.ref q5, .ref q18, .ref q32, .int 0, .int ar])), (q5, .inr (0, [.int (6 : Int32), .int 0])), (q18, .inr (0, [.int (0 : Int32), .int 0])), (q32, .inl (dA 2, 6, .inr (.inr (.inr (.inr (va_up (va_up (va_up (fun _ => none) 0 (some q56)) 1 (some q56_4)) 2 (some q56_5)))))))] ++ (wU dA q56 u60) ++ (wU dA q56_4 u60_3) ++ (wU dA q56_5 u60_4) ++ (wU dA q56_6 u60_5)) H := hP
  have hD : va_D A ([(h0, .inr (5, [.ref q5, .ref q18, .ref q32, .int 0, .int ar])), (q5, .inr (0, [.int (6 : Int32), .int 0])), (q18, .inr (0, [.int (0 : Int32), .int 0])), (q32, .inl (dA 2, 6, .inr (.inr (.inr (.inr (va_up (va_up (va_up (fun _ => none) 0 (some q56)) 1 (some q56_4)) 2 (some q56_5)))))))] ++ (wU dA q56 u60) ++ (wU dA q56_4 u60_3) ++ (wU dA q56_5 u60_4) ++ (wU dA q56_6 u60_5)) := hD
  refine W.widen (k := 27) (n := 98) (Nat.le_of_ble_eq_true rfl) (Nat.le_of_ble_eq_true rfl) ?_
  refine va_astq (n := 6) (r := (R_Ru, F_Ru, 5)) hx hb hK hP hD hS 3 2 22 7 rfl rfl rfl rfl (vp_in_nI (n := 3) (by decide) (by decide)) d_Po_init_63 (fun H locs hP hD hS => ?_)
  have hP : va_P D cls ([(h0, .inr (5, [.ref q5, .ref q18, .ref q32, .int 0, .int ar])), (q5, .inr (0, [.int (6 : Int32), .int 0])), (q18, .inr (0, [.int (0 : Int32), .int 0])), (q32, .inl (dA 2, 6, .inr (.inr (.inr (.inr (va_up (va_up (va_up (va_up (fun _ => none) 0 (some q56)) 1 (some q56_4)) 2 (some q56_5)) 3 (some q56_6)))))))] ++ (wU dA q56 u60) ++ (wU dA q56_4 u60_3) ++ (wU dA q56_5 u60_4) ++ (wU dA q56_6 u60_5)) H := hP
  have hD : va_D A ([(h0, .inr (5, [.ref q5, .ref q18, .ref q32, .int 0, .int ar])), (q5, .inr (0, [.int (6 : Int32), .int 0])), (q18, .inr (0, [.int (0 : Int32), .int 0])), (q32, .inl (dA 2, 6, .inr (.inr (.inr (.inr (va_up (va_up (va_up (va_up (fun _ => none) 0 (some q56)) 1 (some q56_4)) 2 (some q56_5)) 3 (some q56_6)))))))] ++ (wU dA q56 u60) ++ (wU dA q56_4 u60_3) ++ (wU dA q56_5 u60_4) ++ (wU dA q56_6 u60_5)) := hD
  refine lv_iinc (v := (4 : Int32)) hx hb d_Po_init_64 hl (k := 0) rfl rfl (by decide) rfl (fun ls hl => ?_)
  have hl : lv_has ls 3 [(2, .int (4 : Int32)), (0, .ref h0), (1, .int ar)] := hl
  refine lv_goto (tgt := 45) hx hb d_Po_init_67 (by decide) ?_
  refine lv_iload_n hx hb d_Po_init_45 rfl (lv_at hl 0 rfl) ?_
  refine lv_bipush (v := 6) hx hb d_Po_init_46 (by decide) ?_
  refine lv_icmp_ge (tgt := 70) hx hb d_Po_init_48 (by decide) (fun h => absurd h (by decide)) (fun _ => ?_)
  refine lv_aload_n hx hb d_Po_init_51 rfl (lv_at hl 1 rfl) ?_
  refine va_get (D := D) (ci := 5) (v := .ref q32) (C := R_Po) (T := F_Po) (N := 5) hx hb hts in_Po hown hK hP 0 rfl rfl 2 (by decide) (hts _ wd_130) (fun _ h9 => h9) rfl d_Po_init_52 ?_
  refine lv_iload_n hx hb d_Po_init_55 rfl (lv_at hl 0 rfl) ?_
  refine va_new (ci := 7) (fs := [.null, .int 0, .int 0, .int 0, .null]) (C := R_Ru) (T := F_Ru) (N := 5) hx hb hts in_Ru t_Ru k_Ru hown (hts _ wd_79) (hts _ wd_81) (hts _ wd_30) hK hP hD hS hA rfl (fun j hj => by rcases (show j = 0 ∨ j = 1 ∨ j = 2 ∨ j = 3 ∨ j = 4 by omega) with rfl | rfl | rfl | rfl | rfl <;> rfl) (Nat.le_of_ble_eq_true rfl) (Nat.le_of_ble_eq_true rfl) d_Po_init_56 (fun q56_7 H hP hD hS => ?_)
  have hP : va_P D cls ([(h0, .inr (5, [.ref q5, .ref q18, .ref q32, .int 0, .int ar])), (q5, .inr (0, [.int (6 : Int32), .int 0])), (q18, .inr (0, [.int (0 : Int32), .int 0])), (q32, .inl (dA 2, 6, .inr (.inr (.inr (.inr (va_up (va_up (va_up (va_up (fun _ => none) 0 (some q56)) 1 (some q56_4)) 2 (some q56_5)) 3 (some q56_6)))))))] ++ (wU dA q56 u60) ++ (wU dA q56_4 u60_3) ++ (wU dA q56_5 u60_4) ++ (wU dA q56_6 u60_5) ++ [(q56_7, .inr (7, [.null, .int 0, .int 0, .int 0, .null]))]) H := hP
  have hD : va_D A ([(h0, .inr (5, [.ref q5, .ref q18, .ref q32, .int 0, .int ar])), (q5, .inr (0, [.int (6 : Int32), .int 0])), (q18, .inr (0, [.int (0 : Int32), .int 0])), (q32, .inl (dA 2, 6, .inr (.inr (.inr (.inr (va_up (va_up (va_up (va_up (fun _ => none) 0 (some q56)) 1 (some q56_4)) 2 (some q56_5)) 3 (some q56_6)))))))] ++ (wU dA q56 u60) ++ (wU dA q56_4 u60_3) ++ (wU dA q56_5 u60_4) ++ (wU dA q56_6 u60_5) ++ [(q56_7, .inr (7, [.null, .int 0, .int 0, .int 0, .null]))]) := hD
  refine W.widen (k := 28) (n := 103) (Nat.le_of_ble_eq_true rfl) (Nat.le_of_ble_eq_true rfl) ?_
  refine lv_dup hx hb d_Po_init_59 rfl ?_
  have hPc := hP.sub (ws' := [(q56_7, .inr (7, [.null, .int 0, .int 0, .int 0, .null]))]) [28] rfl
  have hDc := hD.sub (ws' := [(q56_7, .inr (7, [.null, .int 0, .int 0, .int 0, .null]))]) [28] (by decide) rfl
  have hFc := va_free (wc := [(q56_7, .inr (7, [.null, .int 0, .int 0, .int 0, .null]))]) hD hS hA [28] rfl
  refine va_callv (va_runI (As := []) (rest := [.ref q56_7, .int (4 : Int32), .ref q32]) ⟨hx, hb, hml, hown, hts⟩ (c_Ru_init l D dA q56_7 H.size ) (cwI 0 hts (g_in wd_84) rfl rfl rfl (hts _ wd_30) (hts _ wd_82) (hts _ wd_83) rfl (by decide +kernel) ⟨Nat.le_of_ble_eq_true rfl, Nat.le_of_ble_eq_true rfl⟩) ⟨fun a U g mk q => by obtain ⟨q0, q1, qP, qK, qD, qN⟩ := q; exact ⟨q0, q1, qP, va_K.moved (u := U) (U := U.calling g mk a) (Vm.Alike.refl U.vm) qK, qD, NW_same rfl qN⟩, fun U hU hW => ⟨rfl, by rw [hU], by rw [hU]; exact hPc, va_K.moved hW.alike hK, hDc.weaken (fun _ _ _ _ => trivial), NW_warm hW hN⟩⟩ rfl rfl hl.1 rfl (lv_room (Nat.le_of_ble_eq_true rfl)) d_Po_init_60 ⟨Nat.le_of_ble_eq_true rfl, Nat.le_of_ble_eq_true rfl⟩) hS (fun q _ h => hFc q h) hFc (fun u60_6 t H1 locs ht hvm h5 hB hz1 hk1 hS => ?_)
  obtain ⟨hP1, -, hD1⟩ := hB
  rw [ht] at hP1
  obtain ⟨hP, hD⟩ := va_join (wr := [(h0, .inr (5, [.ref q5, .ref q18, .ref q32, .int 0, .int ar])), (q5, .inr (0, [.int (6 : Int32), .int 0])), (q18, .inr (0, [.int (0 : Int32), .int 0])), (q32, .inl (dA 2, 6, .inr (.inr (.inr (.inr (va_up (va_up (va_up (va_up (fun _ => none) 0 (some q56)) 1 (some q56_4)) 2 (some q56_5)) 3 (some q56_6)))))))] ++ (wU dA q56 u60) ++ (wU dA q56_4 u60_3) ++ (wU dA q56_5 u60_4) ++ (wU dA q56_6 u60_5)) (w1 := (wU dA q56_7 u60_6)) hP hD [28] [0, 1, 2, 3, 4, 5, 6, 7, 8, 9, 10, 11, 12, 13, 14, 15, 16, 17, 18, 19, 20, 21, 22, 23, 24, 25, 26, 27] rfl rfl (by decide) (by decide) hk1 hFc hP1 hD1
  generalize H1 = H at hP hS ⊢
  have hP : va_P D cls ([(h0, .inr (5, [.ref q5, .ref q18, .ref q32, .int 0, .int ar])), (q5, .inr (0, [.int (6 : Int32), .int 0])), (q18, .inr (0, [.int (0 : Int32), .int 0])), (q32, .inl (dA 2, 6, .inr (.inr (.inr (.inr (va_up (va_up (va_up (va_up (fun _ => none) 0 (some q56)) 1 (some q56_4)) 2 (some q56_5)) 3 (some q56_6)))))))] ++ (wU dA q56 u60) ++ (wU dA q56_4 u60_3) ++ (wU dA q56_5 u60_4) ++ (wU dA q56_6 u60_5) ++ (wU dA q56_7 u60_6)) H := hP
  have hD : va_D A ([(h0, .inr (5, [.ref q5, .ref q18, .ref q32, .int 0, .int ar])), (q5, .inr (0, [.int (6 : Int32), .int 0])), (q18, .inr (0, [.int (0 : Int32), .int 0])), (q32, .inl (dA 2, 6, .inr (.inr (.inr (.inr (va_up (va_up (va_up (va_up (fun _ => none) 0 (some q56)) 1 (some q56_4)) 2 (some q56_5)) 3 (some q56_6)))))))] ++ (wU dA q56 u60) ++ (wU dA q56_4 u60_3) ++ (wU dA q56_5 u60_4) ++ (wU dA q56_6 u60_5) ++ (wU dA q56_7 u60_6)) := hD
  refine W.widen (k := 33) (n := 120) (Nat.le_of_ble_eq_true rfl) (Nat.le_of_ble_eq_true rfl) ?_
  refine va_astq (n := 6) (r := (R_Ru, F_Ru, 5)) hx hb hK hP hD hS 3 2 28 7 rfl rfl rfl rfl (vp_in_nI (n := 4) (by decide) (by decide)) d_Po_init_63 (fun H locs hP hD hS => ?_)
  have hP : va_P D cls ([(h0, .inr (5, [.ref q5, .ref q18, .ref q32, .int 0, .int ar])), (q5, .inr (0, [.int (6 : Int32), .int 0])), (q18, .inr (0, [.int (0 : Int32), .int 0])), (q32, .inl (dA 2, 6, .inr (.inr (.inr (.inr (va_up (va_up (va_up (va_up (va_up (fun _ => none) 0 (some q56)) 1 (some q56_4)) 2 (some q56_5)) 3 (some q56_6)) 4 (some q56_7)))))))] ++ (wU dA q56 u60) ++ (wU dA q56_4 u60_3) ++ (wU dA q56_5 u60_4) ++ (wU dA q56_6 u60_5) ++ (wU dA q56_7 u60_6)) H := hP
  have hD : va_D A ([(h0, .inr (5, [.ref q5, .ref q18, .ref q32, .int 0, .int ar])), (q5, .inr (0, [.int (6 : Int32), .int 0])), (q18, .inr (0, [.int (0 : Int32), .int 0])), (q32, .inl (dA 2, 6, .inr (.inr (.inr (.inr (va_up (va_up (va_up (va_up (va_up (fun _ => none) 0 (some q56)) 1 (some q56_4)) 2 (some q56_5)) 3 (some q56_6)) 4 (some q56_7)))))))] ++ (wU dA q56 u60) ++ (wU dA q56_4 u60_3) ++ (wU dA q56_5 u60_4) ++ (wU dA q56_6 u60_5) ++ (wU dA q56_7 u60_6)) := hD
  refine lv_iinc (v := (5 : Int32)) hx hb d_Po_init_64 hl (k := 0) rfl rfl (by decide) rfl (fun ls hl => ?_)
  have hl : lv_has ls 3 [(2, .int (5 : Int32)), (0, .ref h0), (1, .int ar)] := hl
  refine lv_goto (tgt := 45) hx hb d_Po_init_67 (by decide) ?_
  refine lv_iload_n hx hb d_Po_init_45 rfl (lv_at hl 0 rfl) ?_
  refine lv_bipush (v := 6) hx hb d_Po_init_46 (by decide) ?_
  refine lv_icmp_ge (tgt := 70) hx hb d_Po_init_48 (by decide) (fun h => absurd h (by decide)) (fun _ => ?_)
  refine lv_aload_n hx hb d_Po_init_51 rfl (lv_at hl 1 rfl) ?_
  refine va_get (D := D) (ci := 5) (v := .ref q32) (C := R_Po) (T := F_Po) (N := 5) hx hb hts in_Po hown hK hP 0 rfl rfl 2 (by decide) (hts _ wd_130) (fun _ h9 => h9) rfl d_Po_init_52 ?_
  refine lv_iload_n hx hb d_Po_init_55 rfl (lv_at hl 0 rfl) ?_
  refine va_new (ci := 7) (fs := [.null, .int 0, .int 0, .int 0, .null]) (C := R_Ru) (T := F_Ru) (N := 5) hx hb hts in_Ru t_Ru k_Ru hown (hts _ wd_79) (hts _ wd_81) (hts _ wd_30) hK hP hD hS hA rfl (fun j hj => by rcases (show j = 0 ∨ j = 1 ∨ j = 2 ∨ j = 3 ∨ j = 4 by omega) with rfl | rfl | rfl | rfl | rfl <;> rfl) (Nat.le_of_ble_eq_true rfl) (Nat.le_of_ble_eq_true rfl) d_Po_init_56 (fun q56_8 H hP hD hS => ?_)
  have hP : va_P D cls ([(h0, .inr (5, [.ref q5, .ref q18, .ref q32, .int 0, .int ar])), (q5, .inr (0, [.int (6 : Int32), .int 0])), (q18, .inr (0, [.int (0 : Int32), .int 0])), (q32, .inl (dA 2, 6, .inr (.inr (.inr (.inr (va_up (va_up (va_up (va_up (va_up (fun _ => none) 0 (some q56)) 1 (some q56_4)) 2 (some q56_5)) 3 (some q56_6)) 4 (some q56_7)))))))] ++ (wU dA q56 u60) ++ (wU dA q56_4 u60_3) ++ (wU dA q56_5 u60_4) ++ (wU dA q56_6 u60_5) ++ (wU dA q56_7 u60_6) ++ [(q56_8, .inr (7, [.null, .int 0, .int 0, .int 0, .null]))]) H := hP
  have hD : va_D A ([(h0, .inr (5, [.ref q5, .ref q18, .ref q32, .int 0, .int ar])), (q5, .inr (0, [.int (6 : Int32), .int 0])), (q18, .inr (0, [.int (0 : Int32), .int 0])), (q32, .inl (dA 2, 6, .inr (.inr (.inr (.inr (va_up (va_up (va_up (va_up (va_up (fun _ => none) 0 (some q56)) 1 (some q56_4)) 2 (some q56_5)) 3 (some q56_6)) 4 (some q56_7)))))))] ++ (wU dA q56 u60) ++ (wU dA q56_4 u60_3) ++ (wU dA q56_5 u60_4) ++ (wU dA q56_6 u60_5) ++ (wU dA q56_7 u60_6) ++ [(q56_8, .inr (7, [.null, .int 0, .int 0, .int 0, .null]))]) := hD
  refine W.widen (k := 34) (n := 125) (Nat.le_of_ble_eq_true rfl) (Nat.le_of_ble_eq_true rfl) ?_
  refine lv_dup hx hb d_Po_init_59 rfl ?_
  have hPc := hP.sub (ws' := [(q56_8, .inr (7, [.null, .int 0, .int 0, .int 0, .null]))]) [34] rfl
  have hDc := hD.sub (ws' := [(q56_8, .inr (7, [.null, .int 0, .int 0, .int 0, .null]))]) [34] (by decide) rfl
  have hFc := va_free (wc := [(q56_8, .inr (7, [.null, .int 0, .int 0, .int 0, .null]))]) hD hS hA [34] rfl
  refine va_callv (va_runI (As := []) (rest := [.ref q56_8, .int (5 : Int32), .ref q32]) ⟨hx, hb, hml, hown, hts⟩ (c_Ru_init l D dA q56_8 H.size ) (cwI 0 hts (g_in wd_84) rfl rfl rfl (hts _ wd_30) (hts _ wd_82) (hts _ wd_83) rfl (by decide +kernel) ⟨Nat.le_of_ble_eq_true rfl, Nat.le_of_ble_eq_true rfl⟩) ⟨fun a U g mk q => by obtain ⟨q0, q1, qP, qK, qD, qN⟩ := q; exact ⟨q0, q1, qP, va_K.moved (u := U) (U := U.calling g mk a) (Vm.Alike.refl U.vm) qK, qD, NW_same rfl qN⟩, fun U hU hW => ⟨rfl, by rw [hU], by rw [hU]; exact hPc, va_K.moved hW.alike hK, hDc.weaken (fun _ _ _ _ => trivial), NW_warm hW hN⟩⟩ rfl rfl hl.1 rfl (lv_room (Nat.le_of_ble_eq_true rfl)) d_Po_init_60 ⟨Nat.le_of_ble_eq_true rfl, Nat.le_of_ble_eq_true rfl⟩) hS (fun q _ h => hFc q h) hFc (fun u60_7 t H1 locs ht hvm h5 hB hz1 hk1 hS => ?_)
  obtain ⟨hP1, -, hD1⟩ := hB
  rw [ht] at hP1
  obtain ⟨hP, hD⟩ := va_join (wr := [(h0, .inr (5, [.ref q5, .ref q18, .ref q32, .int 0, .int ar])), (q5, .inr (0, [.int (6 : Int32), .int 0])), (q18, .inr (0, [.int (0 : Int32), .int 0])), (q32, .inl (dA 2, 6, .inr (.inr (.inr (.inr (va_up (va_up (va_up (va_up (va_up (fun _ => none) 0 (some q56)) 1 (some q56_4)) 2 (some q56_5)) 3 (some q56_6)) 4 (some q56_7)))))))] ++ (wU dA q56 u60) ++ (wU dA q56_4 u60_3) ++ (wU dA q56_5 u60_4) ++ (wU dA q56_6 u60_5) ++ (wU dA q56_7 u60_6)) (w1 := (wU dA q56_8 u60_7)) hP hD [34] [0, 1, 2, 3, 4, 5, 6, 7, 8, 9, 10, 11, 12, 13, 14, 15, 16, 17, 18, 19, 20, 21, 22, 23, 24, 25, 26, 27, 28, 29, 30, 31, 32, 33] rfl rfl (by decide) (by decide) hk1 hFc hP1 hD1
  generalize H1 = H at hP hS ⊢
  have hP : va_P D cls ([(h0, .inr (5, [.ref q5, .ref q18, .ref q32, .int 0, .int ar])), (q5, .inr (0, [.int (6 : Int32), .int 0])), (q18, .inr (0, [.int (0 : Int32), .int 0])), (q32, .inl (dA 2, 6, .inr (.inr (.inr (.inr (va_up (va_up (va_up (va_up (va_up (fun _ => none) 0 (some q56)) 1 (some q56_4)) 2 (some q56_5)) 3 (some q56_6)) 4 (some q56_7)))))))] ++ (wU dA q56 u60) ++ (wU dA q56_4 u60_3) ++ (wU dA q56_5 u60_4) ++ (wU dA q56_6 u60_5) ++ (wU dA q56_7 u60_6) ++ (wU dA q56_8 u60_7)) H := hP
  have hD : va_D A ([(h0, .inr (5, [.ref q5, .ref q18, .ref q32, .int 0, .int ar])), (q5, .inr (0, [.int (6 : Int32), .int 0])), (q18, .inr (0, [.int (0 : Int32), .int 0])), (q32, .inl (dA 2, 6, .inr (.inr (.inr (.inr (va_up (va_up (va_up (va_up (va_up (fun _ => none) 0 (some q56)) 1 (some q56_4)) 2 (some q56_5)) 3 (some q56_6)) 4 (some q56_7)))))))] ++ (wU dA q56 u60) ++ (wU dA q56_4 u60_3) ++ (wU dA q56_5 u60_4) ++ (wU dA q56_6 u60_5) ++ (wU dA q56_7 u60_6) ++ (wU dA q56_8 u60_7)) := hD
  refine W.widen (k := 39) (n := 142) (Nat.le_of_ble_eq_true rfl) (Nat.le_of_ble_eq_true rfl) ?_
  refine va_astq (n := 6) (r := (R_Ru, F_Ru, 5)) hx hb hK hP hD hS 3 2 34 7 rfl rfl rfl rfl (vp_in_nI (n := 5) (by decide) (by decide)) d_Po_init_63 (fun H locs hP hD hS => ?_)
  have hP : va_P D cls ([(h0, .inr (5, [.ref q5, .ref q18, .ref q32, .int 0, .int ar])), (q5, .inr (0, [.int (6 : Int32), .int 0])), (q18, .inr (0, [.int (0 : Int32), .int 0])), (q32, .inl (dA 2, 6, .inr (.inr (.inr (.inr (va_up (va_up (va_up (va_up (va_up (va_up (fun _ => none) 0 (some q56)) 1 (some q56_4)) 2 (some q56_5)) 3 (some q56_6)) 4 (some q56_7)) 5 (some q56_8)))))))] ++ (wU dA q56 u60) ++ (wU dA q56_4 u60_3) ++ (wU dA q56_5 u60_4) ++ (wU dA q56_6 u60_5) ++ (wU dA q56_7 u60_6) ++ (wU dA q56_8 u60_7)) H := hP
  have hD : va_D A ([(h0, .inr (5, [.ref q5, .ref q18, .ref q32, .int 0, .int ar])), (q5, .inr (0, [.int (6 : Int32), .int 0])), (q18, .inr (0, [.int (0 : Int32), .int 0])), (q32, .inl (dA 2, 6, .inr (.inr (.inr (.inr (va_up (va_up (va_up (va_up (va_up (va_up (fun _ => none) 0 (some q56)) 1 (some q56_4)) 2 (some q56_5)) 3 (some q56_6)) 4 (some q56_7)) 5 (some q56_8)))))))] ++ (wU dA q56 u60) ++ (wU dA q56_4 u60_3) ++ (wU dA q56_5 u60_4) ++ (wU dA q56_6 u60_5) ++ (wU dA q56_7 u60_6) ++ (wU dA q56_8 u60_7)) := hD
  refine lv_iinc (v := (6 : Int32)) hx hb d_Po_init_64 hl (k := 0) rfl rfl (by decide) rfl (fun ls hl => ?_)
  have hl : lv_has ls 3 [(2, .int (6 : Int32)), (0, .ref h0), (1, .int ar)] := hl
  refine lv_goto (tgt := 45) hx hb d_Po_init_67 (by decide) ?_
  refine lv_iload_n hx hb d_Po_init_45 rfl (lv_at hl 0 rfl) ?_
  refine lv_bipush (v := 6) hx hb d_Po_init_46 (by decide) ?_
  refine lv_icmp_ge (tgt := 70) hx hb d_Po_init_48 (by decide) (fun _ => ?_) (fun h => absurd h (by decide))
  rw [show va_up (va_up (va_up (va_up (va_up (va_up (fun _ => none) 0 (some q56)) 1 (some q56_4)) 2 (some q56_5)) 3 (some q56_6)) 4 (some q56_7)) 5 (some q56_8) = rfs (uPo q5 q18 q32 [q56, q56_4, q56_5, q56_6, q56_7, q56_8] [u60, u60_3, u60_4, u60_5, u60_6, u60_7]) 6 3 6 from va_up6 (uPo q5 q18 q32 [q56, q56_4, q56_5, q56_6, q56_7, q56_8] [u60, u60_3, u60_4, u60_5, u60_6, u60_7])] at hP hD
  rw [show wU dA q56 u60 = wU dA ((uPo q5 q18 q32 [q56, q56_4, q56_5, q56_6, q56_7, q56_8] [u60, u60_3, u60_4, u60_5, u60_6, u60_7]) 3) (fun k => (uPo q5 q18 q32 [q56, q56_4, q56_5, q56_6, q56_7, q56_8] [u60, u60_3, u60_4, u60_5, u60_6, u60_7]) (4 + k)) from wU_congr rfl (by intro k hk; rcases (show k = 0 ∨ k = 1 ∨ k = 2 ∨ k = 3 ∨ k = 4 by omega) with rfl | rfl | rfl | rfl | rfl <;> rfl)] at hP hD
  rw [show wU dA q56_4 u60_3 = wU dA ((uPo q5 q18 q32 [q56, q56_4, q56_5, q56_6, q56_7, q56_8] [u60, u60_3, u60_4, u60_5, u60_6, u60_7]) 9) (fun k => (uPo q5 q18 q32 [q56, q56_4, q56_5, q56_6, q56_7, q56_8] [u60, u60_3, u60_4, u60_5, u60_6, u60_7]) (10 + k)) from wU_congr rfl (by intro k hk; rcases (show k = 0 ∨ k = 1 ∨ k = 2 ∨ k = 3 ∨ k = 4 by omega) with rfl | rfl | rfl | rfl | rfl <;> rfl)] at hP hD
  rw [show wU dA q56_5 u60_4 = wU dA ((uPo q5 q18 q32 [q56, q56_4, q56_5, q56_6, q56_7, q56_8] [u60, u60_3, u60_4, u60_5, u60_6, u60_7]) 15) (fun k => (uPo q5 q18 q32 [q56, q56_4, q56_5, q56_6, q56_7, q56_8] [u60, u60_3, u60_4, u60_5, u60_6, u60_7]) (16 + k)) from wU_congr rfl (by intro k hk; rcases (show k = 0 ∨ k = 1 ∨ k = 2 ∨ k = 3 ∨ k = 4 by omega) with rfl | rfl | rfl | rfl | rfl <;> rfl)] at hP hD
  rw [show wU dA q56_6 u60_5 = wU dA ((uPo q5 q18 q32 [q56, q56_4, q56_5, q56_6, q56_7, q56_8] [u60, u60_3, u60_4, u60_5, u60_6, u60_7]) 21) (fun k => (uPo q5 q18 q32 [q56, q56_4, q56_5, q56_6, q56_7, q56_8] [u60, u60_3, u60_4, u60_5, u60_6, u60_7]) (22 + k)) from wU_congr rfl (by intro k hk; rcases (show k = 0 ∨ k = 1 ∨ k = 2 ∨ k = 3 ∨ k = 4 by omega) with rfl | rfl | rfl | rfl | rfl <;> rfl)] at hP hD
  rw [show wU dA q56_7 u60_6 = wU dA ((uPo q5 q18 q32 [q56, q56_4, q56_5, q56_6, q56_7, q56_8] [u60, u60_3, u60_4, u60_5, u60_6, u60_7]) 27) (fun k => (uPo q5 q18 q32 [q56, q56_4, q56_5, q56_6, q56_7, q56_8] [u60, u60_3, u60_4, u60_5, u60_6, u60_7]) (28 + k)) from wU_congr rfl (by intro k hk; rcases (show k = 0 ∨ k = 1 ∨ k = 2 ∨ k = 3 ∨ k = 4 by omega) with rfl | rfl | rfl | rfl | rfl <;> rfl)] at hP hD
  rw [show wU dA q56_8 u60_7 = wU dA ((uPo q5 q18 q32 [q56, q56_4, q56_5, q56_6, q56_7, q56_8] [u60, u60_3, u60_4, u60_5, u60_6, u60_7]) 33) (fun k => (uPo q5 q18 q32 [q56, q56_4, q56_5, q56_6, q56_7, q56_8] [u60, u60_3, u60_4, u60_5, u60_6, u60_7]) (34 + k)) from wU_congr rfl (by intro k hk; rcases (show k = 0 ∨ k = 1 ∨ k = 2 ∨ k = 3 ∨ k = 4 by omega) with rfl | rfl | rfl | rfl | rfl <;> rfl)] at hP hD
  exact W.vret hx hb hr (fun t ht hW => ⟨⟨(uPo q5 q18 q32 [q56, q56_4, q56_5, q56_6, q56_7, q56_8] [u60, u60_3, u60_4, u60_5, u60_6, u60_7]), rfl, trivial, by rw [ht]; exact hP, va_K.moved hW.alike hK, hD⟩, hS.F ht⟩) hS.2.2 d_Po_init_70
