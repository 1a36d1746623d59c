/-- what the calls of nest mates and the arrays of references need of the tables -/
def NW (U : State) : Prop := va_Nw (Cond.methodLinkNest R_F 9 y_Ca_init R_F) U ∧ va_Nw (Cond.methodLinkNest R_Ru 24 y_Co_init R_F) U ∧ va_Nw (Cond.methodLinkNest R_F 27 y_Pr_init R_F) U ∧ va_Nw (Cond.methodLinkNest R_F 34 y_Ch_init R_F) U ∧ va_Nw (Cond.methodLinkNest R_F 41 y_Ma_init R_F) U ∧ va_Nw (Cond.methodLinkNest R_Ca 13 y_F_unsigned R_F) U ∧ va_Nw (Cond.methodLinkNest R_Ma 46 y_F_unsigned R_F) U ∧ va_AO "CallFilter$Rule" U ∧ va_AO "CallFilter$Condition" U
theorem NW_warm {s U : State} (hW : s.WarmedH U.vm) (h : NW s) : NW U := ⟨va_Nw.warmM hW h.1, va_Nw.warmM hW h.2.1, va_Nw.warmM hW h.2.2.1, va_Nw.warmM hW h.2.2.2.1, va_Nw.warmM hW h.2.2.2.2.1, va_Nw.warmM hW h.2.2.2.2.2.1, va_Nw.warmM hW h.2.2.2.2.2.2.1, va_AO.moved hW.alike h.2.2.2.2.2.2.2.1, va_AO.moved hW.alike h.2.2.2.2.2.2.2.2⟩
theorem NW_same {s U : State} (hv : s.vm = U.vm) (h : NW s) : NW U := ⟨va_tabs rfl hv h.1, va_tabs rfl hv h.2.1, va_tabs rfl hv h.2.2.1, va_tabs rfl hv h.2.2.2.1, va_tabs rfl hv h.2.2.2.2.1, va_tabs rfl hv h.2.2.2.2.2.1, va_tabs rfl hv h.2.2.2.2.2.2.1, va_AO.moved (by rw [hv]; exact Vm.Alike.refl _) h.2.2.2.2.2.2.2.1, va_AO.moved (by rw [hv]; exact Vm.Alike.refl _) h.2.2.2.2.2.2.2.2⟩
/-- an answer that is a place, and nothing changed -/
def vp_Sr (post : Nat → Prop) : Array Value → State → Outcome → State → Prop := fun _ st o t => ∃ r : Nat, o = .returned (some (.ref r)) ∧ post r ∧ t.heap = st.heap
theorem vp_cl {x : Int32} {n : Nat} (h : vp_in x n) : x.toNatClampNeg < n := Nat.lt_of_not_le (fun q => h (Or.inr q))
section WL
variable {p : Program} {l : Launch} {e : Env} {R : Room} {s : State} {m : MethodId} {args : Array Value} {below : List Frame} {meth : Method} {c : Code} {H : Heap} {locs : List Loc} {cells slots : Nat} {Q : State → Prop} {pc : Nat} {ls : Array Slot}
theorem W_join {pc' : Nat} {st : List Value} {v : Value} {rest : List Value} (h : W p l e R s m args below meth c H locs cells slots Q (F0 m pc' ls (v :: rest)) → W p l e R s m args below meth c H locs cells slots Q (F0 m pc ls st)) (k : W p l e R s m args below meth c H locs cells slots Q (F0 m pc' ls (v :: rest))) : W p l e R s m args below meth c H locs cells slots Q (F0 m pc ls st) := h k
theorem W_cut {E : Prop} {pc' : Nat} {st : List Value} (h : (E → W p l e R s m args below meth c H locs cells slots Q (F0 m pc' ls st)) → W p l e R s m args below meth c H locs cells slots Q (F0 m pc ls st)) (k : E → W p l e R s m args below meth c H locs cells slots Q (F0 m pc' ls st)) : W p l e R s m args below meth c H locs cells slots Q (F0 m pc ls st) := h k
theorem W_loopR1 {α1 : Type} (X : Nat → α1 → Array Slot → Prop) (n : Nat) (a1 : α1) (h : X n a1 ls) (hz : ∀ (a1 : α1) (ls : Array Slot), ¬ X 0 a1 ls) (hs : ∀ n : Nat, (∀ (a1 : α1) (ls : Array Slot), X n a1 ls → W p l e R s m args below meth c H locs cells slots Q (F0 m pc ls [])) → ∀ (a1 : α1) (ls : Array Slot), X (n + 1) a1 ls → W p l e R s m args below meth c H locs cells slots Q (F0 m pc ls [])) : W p l e R s m args below meth c H locs cells slots Q (F0 m pc ls []) := by
  have key : ∀ (n : Nat) (a1 : α1) (ls : Array Slot), X n a1 ls → W p l e R s m args below meth c H locs cells slots Q (F0 m pc ls []) := by
    intro n
    induction n with
    | zero => intro a1 ls h; exact absurd h (hz a1 ls)
    | succ n ih => exact hs n ih
  exact key n a1 ls h
theorem W_loop1 {α1 : Type} (X : Nat → α1 → Heap → List Loc → Array Slot → Prop) (n : Nat) (a1 : α1) (h : X n a1 H locs ls) (hz : ∀ (a1 : α1) (H : Heap) (locs : List Loc) (ls : Array Slot), ¬ X 0 a1 H locs ls) (hs : ∀ n : Nat, (∀ (a1 : α1) (H : Heap) (locs : List Loc) (ls : Array Slot), X n a1 H locs ls → W p l e R s m args below meth c H locs cells slots Q (F0 m pc ls [])) → ∀ (a1 : α1) (H : Heap) (locs : List Loc) (ls : Array Slot), X (n + 1) a1 H locs ls → W p l e R s m args below meth c H locs cells slots Q (F0 m pc ls [])) : W p l e R s m args below meth c H locs cells slots Q (F0 m pc ls []) := by
  have key : ∀ (n : Nat) (a1 : α1) (H : Heap) (locs : List Loc) (ls : Array Slot), X n a1 H locs ls → W p l e R s m args below meth c H locs cells slots Q (F0 m pc ls []) := by
    intro n
    induction n with
    | zero => intro a1 H locs ls h; exact absurd h (hz a1 H locs ls)
    | succ n ih => exact hs n ih
  exact key n a1 H locs ls h
theorem W_loopR2 {α1 : Type} {α2 : Type} (X : Nat → α1 → α2 → Array Slot → Prop) (n : Nat) (a1 : α1) (a2 : α2) (h : X n a1 a2 ls) (hz : ∀ (a1 : α1) (a2 : α2) (ls : Array Slot), ¬ X 0 a1 a2 ls) (hs : ∀ n : Nat, (∀ (a1 : α1) (a2 : α2) (ls : Array Slot), X n a1 a2 ls → W p l e R s m args below meth c H locs cells slots Q (F0 m pc ls [])) → ∀ (a1 : α1) (a2 : α2) (ls : Array Slot), X (n + 1) a1 a2 ls → W p l e R s m args below meth c H locs cells slots Q (F0 m pc ls [])) : W p l e R s m args below meth c H locs cells slots Q (F0 m pc ls []) := by
  have key : ∀ (n : Nat) (a1 : α1) (a2 : α2) (ls : Array Slot), X n a1 a2 ls → W p l e R s m args below meth c H locs cells slots Q (F0 m pc ls []) := by
    intro n
    induction n with
    | zero => intro a1 a2 ls h; exact absurd h (hz a1 a2 ls)
    | succ n ih => exact hs n ih
  exact key n a1 a2 ls h
theorem W_loop2 {α1 : Type} {α2 : Type} (X : Nat → α1 → α2 → Heap → List Loc → Array Slot → Prop) (n : Nat) (a1 : α1) (a2 : α2) (h : X n a1 a2 H locs ls) (hz : ∀ (a1 : α1) (a2 : α2) (H : Heap) (locs : List Loc) (ls : Array Slot), ¬ X 0 a1 a2 H locs ls) (hs : ∀ n : Nat, (∀ (a1 : α1) (a2 : α2) (H : Heap) (locs : List Loc) (ls : Array Slot), X n a1 a2 H locs ls → W p l e R s m args below meth c H locs cells slots Q (F0 m pc ls [])) → ∀ (a1 : α1) (a2 : α2) (H : Heap) (locs : List Loc) (ls : Array Slot), X (n + 1) a1 a2 H locs ls → W p l e R s m args below meth c H locs cells slots Q (F0 m pc ls [])) : W p l e R s m args below meth c H locs cells slots Q (F0 m pc ls []) := by
  have key : ∀ (n : Nat) (a1 : α1) (a2 : α2) (H : Heap) (locs : List Loc) (ls : Array Slot), X n a1 a2 H locs ls → W p l e R s m args below meth c H locs cells slots Q (F0 m pc ls []) := by
    intro n
    induction n with
    | zero => intro a1 a2 H locs ls h; exact absurd h (hz a1 a2 H locs ls)
    | succ n ih => exact hs n ih
  exact key n a1 a2 H locs ls h
theorem W_loopR3 {α1 : Type} {α2 : Type} {α3 : Type} (X : Nat → α1 → α2 → α3 → Array Slot → Prop) (n : Nat) (a1 : α1) (a2 : α2) (a3 : α3) (h : X n a1 a2 a3 ls) (hz : ∀ (a1 : α1) (a2 : α2) (a3 : α3) (ls : Array Slot), ¬ X 0 a1 a2 a3 ls) (hs : ∀ n : Nat, (∀ (a1 : α1) (a2 : α2) (a3 : α3) (ls : Array Slot), X n a1 a2 a3 ls → W p l e R s m args below meth c H locs cells slots Q (F0 m pc ls [])) → ∀ (a1 : α1) (a2 : α2) (a3 : α3) (ls : Array Slot), X (n + 1) a1 a2 a3 ls → W p l e R s m args below meth c H locs cells slots Q (F0 m pc ls [])) : W p l e R s m args below meth c H locs cells slots Q (F0 m pc ls []) := by
  have key : ∀ (n : Nat) (a1 : α1) (a2 : α2) (a3 : α3) (ls : Array Slot), X n a1 a2 a3 ls → W p l e R s m args below meth c H locs cells slots Q (F0 m pc ls []) := by
    intro n
    induction n with
    | zero => intro a1 a2 a3 ls h; exact absurd h (hz a1 a2 a3 ls)
    | succ n ih => exact hs n ih
  exact key n a1 a2 a3 ls h
theorem W_loop3 {α1 : Type} {α2 : Type} {α3 : Type} (X : Nat → α1 → α2 → α3 → Heap → List Loc → Array Slot → Prop) (n : Nat) (a1 : α1) (a2 : α2) (a3 : α3) (h : X n a1 a2 a3 H locs ls) (hz : ∀ (a1 : α1) (a2 : α2) (a3 : α3) (H : Heap) (locs : List Loc) (ls : Array Slot), ¬ X 0 a1 a2 a3 H locs ls) (hs : ∀ n : Nat, (∀ (a1 : α1) (a2 : α2) (a3 : α3) (H : Heap) (locs : List Loc) (ls : Array Slot), X n a1 a2 a3 H locs ls → W p l e R s m args below meth c H locs cells slots Q (F0 m pc ls [])) → ∀ (a1 : α1) (a2 : α2) (a3 : α3) (H : Heap) (locs : List Loc) (ls : Array Slot), X (n + 1) a1 a2 a3 H locs ls → W p l e R s m args below meth c H locs cells slots Q (F0 m pc ls [])) : W p l e R s m args below meth c H locs cells slots Q (F0 m pc ls []) := by
  have key : ∀ (n : Nat) (a1 : α1) (a2 : α2) (a3 : α3) (H : Heap) (locs : List Loc) (ls : Array Slot), X n a1 a2 a3 H locs ls → W p l e R s m args below meth c H locs cells slots Q (F0 m pc ls []) := by
    intro n
    induction n with
    | zero => intro a1 a2 a3 H locs ls h; exact absurd h (hz a1 a2 a3 H locs ls)
    | succ n ih => exact hs n ih
  exact key n a1 a2 a3 H locs ls h
theorem W_loopR4 {α1 : Type} {α2 : Type} {α3 : Type} {α4 : Type} (X : Nat → α1 → α2 → α3 → α4 → Array Slot → Prop) (n : Nat) (a1 : α1) (a2 : α2) (a3 : α3) (a4 : α4) (h : X n a1 a2 a3 a4 ls) (hz : ∀ (a1 : α1) (a2 : α2) (a3 : α3) (a4 : α4) (ls : Array Slot), ¬ X 0 a1 a2 a3 a4 ls) (hs : ∀ n : Nat, (∀ (a1 : α1) (a2 : α2) (a3 : α3) (a4 : α4) (ls : Array Slot), X n a1 a2 a3 a4 ls → W p l e R s m args below meth c H locs cells slots Q (F0 m pc ls [])) → ∀ (a1 : α1) (a2 : α2) (a3 : α3) (a4 : α4) (ls : Array Slot), X (n + 1) a1 a2 a3 a4 ls → W p l e R s m args below meth c H locs cells slots Q (F0 m pc ls [])) : W p l e R s m args below meth c H locs cells slots Q (F0 m pc ls []) := by
  have key : ∀ (n : Nat) (a1 : α1) (a2 : α2) (a3 : α3) (a4 : α4) (ls : Array Slot), X n a1 a2 a3 a4 ls → W p l e R s m args below meth c H locs cells slots Q (F0 m pc ls []) := by
    intro n
    induction n with
    | zero => intro a1 a2 a3 a4 ls h; exact absurd h (hz a1 a2 a3 a4 ls)
    | succ n ih => exact hs n ih
  exact key n a1 a2 a3 a4 ls h
theorem W_loop4 {α1 : Type} {α2 : Type} {α3 : Type} {α4 : Type} (X : Nat → α1 → α2 → α3 → α4 → Heap → List Loc → Array Slot → Prop) (n : Nat) (a1 : α1) (a2 : α2) (a3 : α3) (a4 : α4) (h : X n a1 a2 a3 a4 H locs ls) (hz : ∀ (a1 : α1) (a2 : α2) (a3 : α3) (a4 : α4) (H : Heap) (locs : List Loc) (ls : Array Slot), ¬ X 0 a1 a2 a3 a4 H locs ls) (hs : ∀ n : Nat, (∀ (a1 : α1) (a2 : α2) (a3 : α3) (a4 : α4) (H : Heap) (locs : List Loc) (ls : Array Slot), X n a1 a2 a3 a4 H locs ls → W p l e R s m args below meth c H locs cells slots Q (F0 m pc ls [])) → ∀ (a1 : α1) (a2 : α2) (a3 : α3) (a4 : α4) (H : Heap) (locs : List Loc) (ls : Array Slot), X (n + 1) a1 a2 a3 a4 H locs ls → W p l e R s m args below meth c H locs cells slots Q (F0 m pc ls [])) : W p l e R s m args below meth c H locs cells slots Q (F0 m pc ls []) := by
  have key : ∀ (n : Nat) (a1 : α1) (a2 : α2) (a3 : α3) (a4 : α4) (H : Heap) (locs : List Loc) (ls : Array Slot), X n a1 a2 a3 a4 H locs ls → W p l e R s m args below meth c H locs cells slots Q (F0 m pc ls []) := by
    intro n
    induction n with
    | zero => intro a1 a2 a3 a4 H locs ls h; exact absurd h (hz a1 a2 a3 a4 H locs ls)
    | succ n ih => exact hs n ih
  exact key n a1 a2 a3 a4 H locs ls h
theorem W_loopR5 {α1 : Type} {α2 : Type} {α3 : Type} {α4 : Type} {α5 : Type} (X : Nat → α1 → α2 → α3 → α4 → α5 → Array Slot → Prop) (n : Nat) (a1 : α1) (a2 : α2) (a3 : α3) (a4 : α4) (a5 : α5) (h : X n a1 a2 a3 a4 a5 ls) (hz : ∀ (a1 : α1) (a2 : α2) (a3 : α3) (a4 : α4) (a5 : α5) (ls : Array Slot), ¬ X 0 a1 a2 a3 a4 a5 ls) (hs : ∀ n : Nat, (∀ (a1 : α1) (a2 : α2) (a3 : α3) (a4 : α4) (a5 : α5) (ls : Array Slot), X n a1 a2 a3 a4 a5 ls → W p l e R s m args below meth c H locs cells slots Q (F0 m pc ls [])) → ∀ (a1 : α1) (a2 : α2) (a3 : α3) (a4 : α4) (a5 : α5) (ls : Array Slot), X (n + 1) a1 a2 a3 a4 a5 ls → W p l e R s m args below meth c H locs cells slots Q (F0 m pc ls [])) : W p l e R s m args below meth c H locs cells slots Q (F0 m pc ls []) := by
  have key : ∀ (n : Nat) (a1 : α1) (a2 : α2) (a3 : α3) (a4 : α4) (a5 : α5) (ls : Array Slot), X n a1 a2 a3 a4 a5 ls → W p l e R s m args below meth c H locs cells slots Q (F0 m pc ls []) := by
    intro n
    induction n with
    | zero => intro a1 a2 a3 a4 a5 ls h; exact absurd h (hz a1 a2 a3 a4 a5 ls)
    | succ n ih => exact hs n ih
  exact key n a1 a2 a3 a4 a5 ls h
theorem W_loop5 {α1 : Type} {α2 : Type} {α3 : Type} {α4 : Type} {α5 : Type} (X : Nat → α1 → α2 → α3 → α4 → α5 → Heap → List Loc → Array Slot → Prop) (n : Nat) (a1 : α1) (a2 : α2) (a3 : α3) (a4 : α4) (a5 : α5) (h : X n a1 a2 a3 a4 a5 H locs ls) (hz : ∀ (a1 : α1) (a2 : α2) (a3 : α3) (a4 : α4) (a5 : α5) (H : Heap) (locs : List Loc) (ls : Array Slot), ¬ X 0 a1 a2 a3 a4 a5 H locs ls) (hs : ∀ n : Nat, (∀ (a1 : α1) (a2 : α2) (a3 : α3) (a4 : α4) (a5 : α5) (H : Heap) (locs : List Loc) (ls : Array Slot), X n a1 a2 a3 a4 a5 H locs ls → W p l e R s m args below meth c H locs cells slots Q (F0 m pc ls [])) → ∀ (a1 : α1) (a2 : α2) (a3 : α3) (a4 : α4) (a5 : α5) (H : Heap) (locs : List Loc) (ls : Array Slot), X (n + 1) a1 a2 a3 a4 a5 H locs ls → W p l e R s m args below meth c H locs cells slots Q (F0 m pc ls [])) : W p l e R s m args below meth c H locs cells slots Q (F0 m pc ls []) := by
  have key : ∀ (n : Nat) (a1 : α1) (a2 : α2) (a3 : α3) (a4 : α4) (a5 : α5) (H : Heap) (locs : List Loc) (ls : Array Slot), X n a1 a2 a3 a4 a5 H locs ls → W p l e R s m args below meth c H locs cells slots Q (F0 m pc ls []) := by
    intro n
    induction n with
    | zero => intro a1 a2 a3 a4 a5 H locs ls h; exact absurd h (hz a1 a2 a3 a4 a5 H locs ls)
    | succ n ih => exact hs n ih
  exact key n a1 a2 a3 a4 a5 H locs ls h
theorem vp_callSr {post : Nat → Prop} {a : Array Value} {st0 rest : List Value} (hr : CallRun p l e R s m args below meth c H locs cells slots 0 0 (F0 m pc ls st0) rest (vp_Sr post a) (fun _ => False))
    (kk : ∀ r : Nat, post r → W p l e R s m args below meth c H locs cells slots Q (F0 m (pc + 3) ls (.ref r :: rest))) : W p l e R s m args below meth c H locs cells slots Q (F0 m pc ls st0) := by
  intro T hT X
  obtain ⟨v, st₀, t, T', L, h0, X', hL, e1, ⟨r, hv, hp, hh⟩, st⟩ := hr T hT X
  cases hv
  obtain ⟨t2, a1, b1⟩ := kk r hp T' (by rw [e1, hh, h0]) (Stand.forget X' (fun q h => (hL q h).elim))
  exact ⟨t2, st t2 a1, b1⟩
end WL
/-! The tables' words: one list for every method. -/
/-- the words that a callee may be handed -/
def lw_g : List Cond := lw_tbl.filter goodWord
theorem tw_good (w : Cond) (h : w ∈ lw_g) : (w.onTables && w.keeps) = true ∨ ∃ ty, w = .arrayClass ty := good_of_word (List.mem_filter.mp h).2
theorem wd_in {w : Cond} {i : Nat} (h : lw_tbl[i]? = some w) (hg : goodWord w = true) : w ∈ lw_g := List.mem_filter.mpr ⟨List.mem_of_getElem? h, hg⟩
abbrev mW (y : MethodName) (b : ByteArray) (n : Nat) (r : Option FieldType) : List Cond := Cond.code y b n r :: lw_g
theorem g_in {y : MethodName} {b : ByteArray} {n : Nat} {r : Option FieldType} (h : Cond.code y b n r ∈ lw_g) : GoodIn lw_g (mW y b n r) := by
  intro w hw
  have hm : w ∈ lw_g := by
    rcases List.mem_cons.mp hw with e | h1
    · rw [e]; exact h
    · exact h1
  exact ⟨hm, tw_good w hm⟩
theorem g_S {own : String} {idx : Nat} {y : MethodName} {b : ByteArray} {n : Nat} {r : Option FieldType} (h1 : Cond.methodLink own idx y ∈ lw_g) (h2 : Cond.static y ∈ lw_g) (h3 : Cond.initialized y.cls ∈ lw_g) (h4 : Cond.code y b n r ∈ lw_g) : GoodIn lw_g (va_wsS own idx y (mW y b n r)) := by
  intro w hw
  have hm : w ∈ lw_g := by
    rcases List.mem_append.mp hw with h | h
    · rcases List.mem_cons.mp h with e | h
      · rw [e]; exact h1
      · rcases List.mem_cons.mp h with e | h
        · rw [e]; exact h2
        · rcases List.mem_cons.mp h with e | h
          · rw [e]; exact h3
          · cases h
    · exact (g_in h4 w h).1
  exact ⟨hm, tw_good w hm⟩
theorem g_V {own : String} {idx : Nat} {C : String} {y : MethodName} {b : ByteArray} {n : Nat} {r : Option FieldType} (h1 : Cond.methodLink own idx y ∈ lw_g) (h2 : Cond.instanceMethod y ∈ lw_g) (h3 : Cond.selects C y y ∈ lw_g) (h4 : Cond.initialized C ∈ lw_g) (h5 : Cond.code y b n r ∈ lw_g) : GoodIn lw_g (wsV own idx C y (mW y b n r)) := by
  intro w hw
  have hm : w ∈ lw_g := by
    rcases List.mem_append.mp hw with h | h
    · rcases List.mem_cons.mp h with e | h
      · rw [e]; exact h1
      · rcases List.mem_cons.mp h with e | h
        · rw [e]; exact h2
        · rcases List.mem_cons.mp h with e | h
          · rw [e]; exact h3
          · rcases List.mem_cons.mp h with e | h
            · rw [e]; exact h4
            · cases h
    · exact (g_in h5 w h).1
  exact ⟨hm, tw_good w hm⟩
/-! The classes whose objects the worlds hold -/
abbrev cls : List vw_C := [(R_Ac, F_Ac, 2), (R_Ca, F_Ca, 1), (R_Ch, F_Ch, 1), (R_Co, F_Co, 4), (R_Ma, F_Ma, 8), (R_Po, F_Po, 5), (R_Pr, F_Pr, 2), (R_Ru, F_Ru, 5), (R_F, F_F, 5), (R_M, F_M, 20)]
abbrev tysA (dA : Nat → ClassId) : List (ClassId × FieldType) := [(dA 0, .int), (dA 1, .long), (dA 2, .object "CallFilter$Rule"), (dA 3, .object "CallFilter$Condition"), (dA 4, .boolean)]
theorem in_Ac : ∀ w ∈ u_ws R_Ac F_Ac 2, w ∈ lw_g := by decide +kernel
theorem in_Ca : ∀ w ∈ u_ws R_Ca F_Ca 1, w ∈ lw_g := by decide +kernel
theorem in_Ch : ∀ w ∈ u_ws R_Ch F_Ch 1, w ∈ lw_g := by decide +kernel
theorem in_Co : ∀ w ∈ u_ws R_Co F_Co 4, w ∈ lw_g := by decide +kernel
theorem in_Ma : ∀ w ∈ u_ws R_Ma F_Ma 8, w ∈ lw_g := by decide +kernel
theorem in_Po : ∀ w ∈ u_ws R_Po F_Po 5, w ∈ lw_g := by decide +kernel
theorem in_Pr : ∀ w ∈ u_ws R_Pr F_Pr 2, w ∈ lw_g := by decide +kernel
theorem in_Ru : ∀ w ∈ u_ws R_Ru F_Ru 5, w ∈ lw_g := by decide +kernel
theorem in_F : ∀ w ∈ u_ws R_F F_F 5, w ∈ lw_g := by decide +kernel
theorem in_M : ∀ w ∈ u_ws R_M F_M 20, w ∈ lw_g := by decide +kernel
/-! The class's state: a condition (place, operator, value, mask); a rule (count, from, to, kind, data, conditions); the policy (architecture, count, default, foreign, rules); the program (count, instructions); the machine (cells, done, stored, a, x, next, ended, result) -/
abbrev CT : Type := Int32 × Int32 × Int64 × Int64
abbrev RT : Type := Int32 × Int32 × Int32 × Int32 × Int32 × (Nat → CT)
abbrev PT : Type := Int32 × Int32 × (Int32 × Int32) × (Int32 × Int32) × (Nat → RT)
abbrev GT : Type := Int32 × (Nat → Int64)
abbrev MT : Type := (Nat → Int32) × Int32 × Int32 × Int32 × Int32 × Int32 × Int32 × Int32
def rfs (ad : Nat → Nat) (n o s : Nat) : Nat → Option Nat := fun j => if j < n then some (ad (o + s * j)) else none
def wR (ad : Nat → Nat) (dA : Nat → ClassId) (i : Nat) (r : RT) : va_W :=
  [(ad (13 + 6 * i), .inr (7, [.ref (ad (14 + 6 * i)), .int r.1, .int r.2.1, .int r.2.2.1, .ref (ad (15 + 6 * i))])),
   (ad (14 + 6 * i), .inr (0, [.int r.2.2.2.1, .int r.2.2.2.2.1])),
   (ad (15 + 6 * i), .inl (dA 3, 3, .inr (.inr (.inr (.inr (rfs ad 3 (16 + 6 * i) 1)))))),
   (ad (16 + 6 * i + 0), .inr (3, [.int (r.2.2.2.2.2 0).1, .int (r.2.2.2.2.2 0).2.1, .long (r.2.2.2.2.2 0).2.2.1, .long (r.2.2.2.2.2 0).2.2.2])),
   (ad (16 + 6 * i + 1), .inr (3, [.int (r.2.2.2.2.2 1).1, .int (r.2.2.2.2.2 1).2.1, .long (r.2.2.2.2.2 1).2.2.1, .long (r.2.2.2.2.2 1).2.2.2])),
   (ad (16 + 6 * i + 2), .inr (3, [.int (r.2.2.2.2.2 2).1, .int (r.2.2.2.2.2 2).2.1, .long (r.2.2.2.2.2 2).2.2.1, .long (r.2.2.2.2.2 2).2.2.2]))]
def wC (ad : Nat → Nat) (dA : Nat → ClassId) (w : Nat → Int32) (P : PT) (g : GT) (ss : Nat → Int32) (M : MT) : va_W :=
  [(ad 0, .inr (8, [.ref (ad 1), .ref (ad 3), .ref (ad 7), .ref (ad 9), .ref (ad 11)])),
   (ad 1, .inr (1, [.ref (ad 2)])),
   (ad 2, .inl (dA 0, 16, .inl w)),
   (ad 3, .inr (5, [.ref (ad 4), .ref (ad 5), .ref (ad 6), .int P.2.1, .int P.1])),
   (ad 4, .inr (0, [.int P.2.2.1.1, .int P.2.2.1.2])),
   (ad 5, .inr (0, [.int P.2.2.2.1.1, .int P.2.2.2.1.2])),
   (ad 6, .inl (dA 2, 6, .inr (.inr (.inr (.inr (rfs ad 6 13 6)))))),
   (ad 7, .inr (6, [.ref (ad 8), .int g.1])),
   (ad 8, .inl (dA 1, 64, .inr (.inl g.2))),
   (ad 9, .inr (2, [.ref (ad 10)])),
   (ad 10, .inl (dA 0, 64, .inl ss)),
   (ad 11, .inr (4, [.ref (ad 12), .int M.2.1, .int M.2.2.1, .int M.2.2.2.1, .int M.2.2.2.2.1, .int M.2.2.2.2.2.1, .int M.2.2.2.2.2.2.1, .int M.2.2.2.2.2.2.2])),
   (ad 12, .inl (dA 0, 16, .inl M.1))] ++
  (wR ad dA 0 (P.2.2.2.2 0) ++ (wR ad dA 1 (P.2.2.2.2 1) ++ (wR ad dA 2 (P.2.2.2.2 2) ++ (wR ad dA 3 (P.2.2.2.2 3) ++ (wR ad dA 4 (P.2.2.2.2 4) ++ wR ad dA 5 (P.2.2.2.2 5))))))
/-- the n addresses are apart and lie in A -/
def AdOK (n : Nat) (ad : Nat → Nat) (A : Nat → Prop) : Prop := (∀ i j, i < n → j < n → ad i = ad j → i = j) ∧ ∀ k, k < n → A (ad k)
theorem wC_fst (ad : Nat → Nat) (dA : Nat → ClassId) (w : Nat → Int32) (P : PT) (g : GT) (ss : Nat → Int32) (M : MT) : (wC ad dA w P g ss M).map Prod.fst = (List.range 49).map ad := rfl
theorem wC_adr {ad : Nat → Nat} {dA : Nat → ClassId} {w : Nat → Int32} {P : PT} {g : GT} {ss : Nat → Int32} {M : MT} {k : Nat} {q : Nat × va_E} (h : (wC ad dA w P g ss M)[k]? = some q) : k < 49 ∧ q.1 = ad k := by
  have h1 : ((wC ad dA w P g ss M).map Prod.fst)[k]? = some q.1 := by rw [List.getElem?_map, h]; rfl
  rw [wC_fst, List.getElem?_map] at h1
  have hk : k < 49 := by
    have := (List.getElem?_eq_some_iff.mp h).1
    exact this
  rw [List.getElem?_range hk] at h1
  exact ⟨hk, (Option.some.inj h1).symm⟩
theorem wC_D {ad : Nat → Nat} {A : Nat → Prop} (h : AdOK 49 ad A) {dA : Nat → ClassId} {w : Nat → Int32} {P : PT} {g : GT} {ss : Nat → Int32} {M : MT} : va_D A (wC ad dA w P g ss M) := by
  refine ⟨fun i j p q hp hq e => ?_, fun k q hq => ?_⟩
  · obtain ⟨h1, h2⟩ := wC_adr hp
    obtain ⟨h3, h4⟩ := wC_adr hq
    exact h.1 i j h1 h3 (by rw [← h2, ← h4]; exact e)
  · obtain ⟨h1, h2⟩ := wC_adr hq
    rw [h2]
    exact h.2 k h1
/-- a method's start and end, over the whole world of the class -/
abbrev CG (D : va_G) (dA : Nat → ClassId) (ad : Nat → Nat) (w : Nat → Int32) (P : PT) (g : GT) (ss : Nat → Int32) (M : MT) (U : State) : Prop := va_P D cls (wC ad dA w P g ss M) U.heap ∧ va_K D cls (tysA dA) U ∧ NW U
theorem CG_fb {av : List Value} {D : va_G} {dA : Nat → ClassId} {ad : Nat → Nat} {w : Nat → Int32} {P : PT} {g : GT} {ss : Nat → Int32} {M : MT} : FrameBlind (va_Pc av (fun U => CG D dA ad w P g ss M U)) :=
  fun a U _ _ q => ⟨q.1, q.2.1, va_K.moved (Vm.Alike.refl U.vm) q.2.2.1, NW_same rfl q.2.2.2⟩
theorem CG_at {s U : State} {H : Heap} {D : va_G} {dA : Nat → ClassId} {ad : Nat → Nat} {w : Nat → Int32} {P : PT} {g : GT} {ss : Nat → Int32} {M : MT} (hP : va_P D cls (wC ad dA w P g ss M) H) (hK : va_K D cls (tysA dA) s) (hN : NW s) (hU : U.heap = H) (hW : s.WarmedH U.vm) : CG D dA ad w P g ss M U :=
  ⟨by rw [hU]; exact hP, va_K.moved hW.alike hK, NW_warm hW hN⟩
/-! A rule by its number -/
def updR (R : Nat → RT) (i : Nat) (r : RT) : Nat → RT := fun j => if j = i then r else R j
def updC (c : Nat → CT) (j : Nat) (x : CT) : Nat → CT := fun k => if k = j then x else c k
theorem rf_at {ad : Nat → Nat} {n o s j : Nat} (h : j < n) : va_rf (rfs ad n o s j) = .ref (ad (o + s * j)) := by simp [rfs, h, va_rf]
section Rules
variable {ad : Nat → Nat} {dA : Nat → ClassId} {w : Nat → Int32} {P : PT} {g : GT} {ss : Nat → Int32} {M : MT} {i : Nat}
theorem wC_ix (hi : i < 6) (k : Nat) (hk : k < 6) : (wC ad dA w P g ss M)[13 + 6 * i + k]? = (wR ad dA i (P.2.2.2.2 i))[k]? := by
  rcases (show i = 0 ∨ i = 1 ∨ i = 2 ∨ i = 3 ∨ i = 4 ∨ i = 5 by omega) with rfl | rfl | rfl | rfl | rfl | rfl <;> rcases (show k = 0 ∨ k = 1 ∨ k = 2 ∨ k = 3 ∨ k = 4 ∨ k = 5 by omega) with rfl | rfl | rfl | rfl | rfl | rfl <;> rfl
theorem wC_ru (hi : i < 6) : (wC ad dA w P g ss M)[13 + 6 * i + 0]? = some (ad (13 + 6 * i), .inr (7, [.ref (ad (14 + 6 * i)), .int (P.2.2.2.2 i).1, .int (P.2.2.2.2 i).2.1, .int (P.2.2.2.2 i).2.2.1, .ref (ad (15 + 6 * i))])) := wC_ix hi 0 (by decide)
theorem wC_ra (hi : i < 6) : (wC ad dA w P g ss M)[13 + 6 * i + 1]? = some (ad (14 + 6 * i), .inr (0, [.int (P.2.2.2.2 i).2.2.2.1, .int (P.2.2.2.2 i).2.2.2.2.1])) := wC_ix hi 1 (by decide)
theorem wC_cs (hi : i < 6) : (wC ad dA w P g ss M)[13 + 6 * i + 2]? = some (ad (15 + 6 * i), .inl (dA 3, 3, .inr (.inr (.inr (.inr (rfs ad 3 (16 + 6 * i) 1)))))) := wC_ix hi 2 (by decide)
theorem wC_co {j : Nat} (hi : i < 6) (hj : j < 3) : (wC ad dA w P g ss M)[13 + 6 * i + (3 + j)]? = some (ad (16 + 6 * i + j), .inr (3, [.int ((P.2.2.2.2 i).2.2.2.2.2 j).1, .int ((P.2.2.2.2 i).2.2.2.2.2 j).2.1, .long ((P.2.2.2.2 i).2.2.2.2.2 j).2.2.1, .long ((P.2.2.2.2 i).2.2.2.2.2 j).2.2.2])) := by
  rw [wC_ix hi (3 + j) (by omega)]
  rcases (show j = 0 ∨ j = 1 ∨ j = 2 by omega) with rfl | rfl | rfl <;> rfl
theorem wC_set (hi : i < 6) (k : Nat) (hk : k < 6) {x : Nat × va_E} {r : RT} (h : (wR ad dA i (P.2.2.2.2 i)).set k x = wR ad dA i r) : (wC ad dA w P g ss M).set (13 + 6 * i + k) x = wC ad dA w (P.1, P.2.1, P.2.2.1, P.2.2.2.1, updR P.2.2.2.2 i r) g ss M := by
  apply List.ext_getElem?
  intro n
  rw [List.getElem?_set]
  by_cases hn : 13 + 6 * i + k = n
  · subst hn
    have hl : 13 + 6 * i + k < (wC ad dA w P g ss M).length := by show _ < 49; omega
    rw [if_pos rfl, if_pos hl, wC_ix hi k hk]
    show some x = (wR ad dA i (updR P.2.2.2.2 i r i))[k]?
    rw [show updR P.2.2.2.2 i r i = r by simp [updR], ← h, List.getElem?_set, if_pos rfl, if_pos (by show k < 6; exact hk)]
  · rw [if_neg hn]
    by_cases h1 : n < 13
    · rcases (show n = 0 ∨ n = 1 ∨ n = 2 ∨ n = 3 ∨ n = 4 ∨ n = 5 ∨ n = 6 ∨ n = 7 ∨ n = 8 ∨ n = 9 ∨ n = 10 ∨ n = 11 ∨ n = 12 by omega) with rfl | rfl | rfl | rfl | rfl | rfl | rfl | rfl | rfl | rfl | rfl | rfl | rfl <;> rfl
    · by_cases h2 : n < 49
      · obtain ⟨a, b, ha, hb, rfl⟩ : ∃ a b, a < 6 ∧ b < 6 ∧ n = 13 + 6 * a + b := ⟨(n - 13) / 6, (n - 13) % 6, by omega, by omega, by omega⟩
        rw [wC_ix ha b hb, wC_ix ha b hb]
        show (wR ad dA a (P.2.2.2.2 a))[b]? = (wR ad dA a (updR P.2.2.2.2 i r a))[b]?
        by_cases he : a = i
        · subst he
          rw [show updR P.2.2.2.2 a r a = r by simp [updR], ← h, List.getElem?_set, if_neg (by omega)]
        · rw [show updR P.2.2.2.2 i r a = P.2.2.2.2 a by simp [updR, he]]
      · rw [List.getElem?_eq_none (by show 49 ≤ n; omega), List.getElem?_eq_none (by show 49 ≤ n; omega)]
theorem updR_at {R : Nat → RT} {r : RT} : updR R i r i = r := by simp [updR]
theorem updR_ne {R : Nat → RT} {r : RT} {j : Nat} (h : ¬ j = i) : updR R i r j = R j := by simp [updR, h]
theorem updR_self {R : Nat → RT} : updR R i (R i) = R := by
  funext j
  by_cases h : j = i
  · rw [h, updR_at]
  · rw [updR_ne h]
theorem updR_two {R : Nat → RT} {r r2 : RT} : updR (updR R i r) i r2 = updR R i r2 := by
  funext j
  by_cases h : j = i
  · rw [h, updR_at, updR_at]
  · rw [updR_ne h, updR_ne h, updR_ne h]
theorem updC_at {cs : Nat → CT} {x : CT} : updC cs i x i = x := by simp [updC]
theorem updC_ne {cs : Nat → CT} {x : CT} {j : Nat} (h : ¬ j = i) : updC cs i x j = cs j := by simp [updC, h]
theorem updC_two {cs : Nat → CT} {x x2 : CT} : updC (updC cs i x) i x2 = updC cs i x2 := by
  funext j
  by_cases h : j = i
  · rw [h, updC_at, updC_at]
  · rw [updC_ne h, updC_ne h, updC_ne h]
variable {a b : Int32} {c d : Int32 × Int32} {R0 : Nat → RT} {r : RT} {D : va_G} {H : Heap}
theorem wF_in (h : va_P D cls (wC ad dA w P g ss M) H) : va_P D cls (wC ad dA w (P.1, P.2.1, P.2.2.1, P.2.2.2.1, updR P.2.2.2.2 i (P.2.2.2.2 i)) g ss M) H := by
  rw [updR_self]
  exact h
theorem wF_ru (hi : i < 6) : (wC ad dA w (a, b, c, d, updR R0 i r) g ss M)[13 + 6 * i + 0]? = some (ad (13 + 6 * i), .inr (7, [.ref (ad (14 + 6 * i)), .int r.1, .int r.2.1, .int r.2.2.1, .ref (ad (15 + 6 * i))])) := by
  have h := wC_ru (ad := ad) (dA := dA) (w := w) (P := (a, b, c, d, updR R0 i r)) (g := g) (ss := ss) (M := M) hi
  rw [h]
  show some (_, Sum.inr (7, [_, Value.int (updR R0 i r i).1, Value.int (updR R0 i r i).2.1, Value.int (updR R0 i r i).2.2.1, _])) = _
  rw [updR_at]
theorem wF_ra (hi : i < 6) : (wC ad dA w (a, b, c, d, updR R0 i r) g ss M)[13 + 6 * i + 1]? = some (ad (14 + 6 * i), .inr (0, [.int r.2.2.2.1, .int r.2.2.2.2.1])) := by
  have h := wC_ra (ad := ad) (dA := dA) (w := w) (P := (a, b, c, d, updR R0 i r)) (g := g) (ss := ss) (M := M) hi
  rw [h]
  show some (_, Sum.inr (0, [Value.int (updR R0 i r i).2.2.2.1, Value.int (updR R0 i r i).2.2.2.2.1])) = _
  rw [updR_at]
theorem wF_cs (hi : i < 6) : (wC ad dA w (a, b, c, d, updR R0 i r) g ss M)[13 + 6 * i + 2]? = some (ad (15 + 6 * i), .inl (dA 3, 3, .inr (.inr (.inr (.inr (rfs ad 3 (16 + 6 * i) 1)))))) := wC_cs hi
theorem wF_co {j : Nat} (hi : i < 6) (hj : j < 3) : (wC ad dA w (a, b, c, d, updR R0 i r) g ss M)[13 + 6 * i + (3 + j)]? = some (ad (16 + 6 * i + j), .inr (3, [.int (r.2.2.2.2.2 j).1, .int (r.2.2.2.2.2 j).2.1, .long (r.2.2.2.2.2 j).2.2.1, .long (r.2.2.2.2.2 j).2.2.2])) := by
  have h := wC_co (ad := ad) (dA := dA) (w := w) (P := (a, b, c, d, updR R0 i r)) (g := g) (ss := ss) (M := M) hi hj
  rw [h]
  show some (_, Sum.inr (3, [Value.int ((updR R0 i r i).2.2.2.2.2 j).1, Value.int ((updR R0 i r i).2.2.2.2.2 j).2.1, Value.long ((updR R0 i r i).2.2.2.2.2 j).2.2.1, Value.long ((updR R0 i r i).2.2.2.2.2 j).2.2.2])) = _
  rw [updR_at]
theorem wF_put {ro : RT} {x : Nat × va_E} (hi : i < 6) (k : Nat) (hk : k < 6) (h : (wR ad dA i ro).set k x = wR ad dA i r) (hP : va_P D cls ((wC ad dA w (a, b, c, d, updR R0 i ro) g ss M).set (13 + 6 * i + k) x) H) : va_P D cls (wC ad dA w (a, b, c, d, updR R0 i r) g ss M) H := by
  rw [wC_set (P := (a, b, c, d, updR R0 i ro)) (r := r) hi k hk (by show (wR ad dA i (updR R0 i ro i)).set k x = _; rw [updR_at]; exact h)] at hP
  rw [← updR_two (r := ro)]
  exact hP
theorem wR_co {j : Nat} {r1 r2 r3 r4 r5 : Int32} {cs cs' : Nat → CT} {fs : List Value} (hj : j < 3) (h1 : ∀ k, ¬ k = j → cs' k = cs k) (h2 : fs = [.int (cs' j).1, .int (cs' j).2.1, .long (cs' j).2.2.1, .long (cs' j).2.2.2]) : (wR ad dA i (r1, r2, r3, r4, r5, cs)).set (3 + j) (ad (16 + 6 * i + j), .inr (3, fs)) = wR ad dA i (r1, r2, r3, r4, r5, cs') := by
  subst h2
  rcases (show j = 0 ∨ j = 1 ∨ j = 2 by omega) with rfl | rfl | rfl
  · have e1 := h1 1 (by decide); have e2 := h1 2 (by decide)
    unfold wR
    simp only [e1, e2]
    rfl
  · have e1 := h1 0 (by decide); have e2 := h1 2 (by decide)
    unfold wR
    simp only [e1, e2]
    rfl
  · have e1 := h1 0 (by decide); have e2 := h1 1 (by decide)
    unfold wR
    simp only [e1, e2]
    rfl
end Rules
/-! The reference's state: rules and their arrays; the program; done, a, x, cells, stored -/
abbrev QT : Type := Int32 × (Nat → Int32) × (Nat → Int32) × (Nat → Int32) × (Nat → Int32) × (Nat → Int32) × (Nat → Int32) × (Nat → Int32) × (Nat → Int64) × (Nat → Int64)
abbrev XT : Type := Int32 × Int64 × Int64 × (Nat → Int64) × (Nat → Int32)
def wM (ad : Nat → Nat) (dA : Nat → ClassId) (ho : Int32) (wo : Nat → Int32) (Q : QT) (G : GT) (mk : Nat → Int32) (X : XT) : va_W :=
  [(ad 0, .inr (9, [.int ho, .ref (ad 1), .int Q.1, .ref (ad 2), .ref (ad 3), .ref (ad 4), .ref (ad 5), .ref (ad 6), .ref (ad 7), .ref (ad 8), .ref (ad 9), .ref (ad 10), .int G.1, .ref (ad 11), .ref (ad 12), .int X.1, .long X.2.1, .long X.2.2.1, .ref (ad 13), .ref (ad 14)])),
   (ad 1, .inl (dA 0, 16, .inl wo)),
   (ad 2, .inl (dA 0, 6, .inl Q.2.1)),
   (ad 3, .inl (dA 0, 6, .inl Q.2.2.1)),
   (ad 4, .inl (dA 0, 8, .inl Q.2.2.2.1)),
   (ad 5, .inl (dA 0, 8, .inl Q.2.2.2.2.1)),
   (ad 6, .inl (dA 0, 6, .inl Q.2.2.2.2.2.1)),
   (ad 7, .inl (dA 0, 18, .inl Q.2.2.2.2.2.2.1)),
   (ad 8, .inl (dA 0, 18, .inl Q.2.2.2.2.2.2.2.1)),
   (ad 9, .inl (dA 1, 18, .inr (.inl Q.2.2.2.2.2.2.2.2.1))),
   (ad 10, .inl (dA 1, 18, .inr (.inl Q.2.2.2.2.2.2.2.2.2))),
   (ad 11, .inl (dA 1, 64, .inr (.inl G.2))),
   (ad 12, .inl (dA 4, 64, .inl mk)),
   (ad 13, .inl (dA 1, 16, .inr (.inl X.2.2.2.1))),
   (ad 14, .inl (dA 4, 16, .inl X.2.2.2.2))]
theorem wM_fst (ad : Nat → Nat) (dA : Nat → ClassId) (ho : Int32) (wo : Nat → Int32) (Q : QT) (G : GT) (mk : Nat → Int32) (X : XT) : (wM ad dA ho wo Q G mk X).map Prod.fst = (List.range 15).map ad := rfl
theorem wM_adr {ad : Nat → Nat} {dA : Nat → ClassId} {ho : Int32} {wo : Nat → Int32} {Q : QT} {G : GT} {mk : Nat → Int32} {X : XT} {k : Nat} {q : Nat × va_E} (h : (wM ad dA ho wo Q G mk X)[k]? = some q) : k < 15 ∧ q.1 = ad k := by
  have h1 : ((wM ad dA ho wo Q G mk X).map Prod.fst)[k]? = some q.1 := by rw [List.getElem?_map, h]; rfl
  rw [wM_fst, List.getElem?_map] at h1
  have hk : k < 15 := by
    have := (List.getElem?_eq_some_iff.mp h).1
    exact this
  rw [List.getElem?_range hk] at h1
  exact ⟨hk, (Option.some.inj h1).symm⟩
theorem wM_D {ad : Nat → Nat} {A : Nat → Prop} (h : AdOK 15 ad A) {dA : Nat → ClassId} {ho : Int32} {wo : Nat → Int32} {Q : QT} {G : GT} {mk : Nat → Int32} {X : XT} : va_D A (wM ad dA ho wo Q G mk X) := by
  refine ⟨fun i j p q hp hq e => ?_, fun k q hq => ?_⟩
  · obtain ⟨h1, h2⟩ := wM_adr hp
    obtain ⟨h3, h4⟩ := wM_adr hq
    exact h.1 i j h1 h3 (by rw [← h2, ← h4]; exact e)
  · obtain ⟨h1, h2⟩ := wM_adr hq
    rw [h2]
    exact h.2 k h1
abbrev MG (D : va_G) (dA : Nat → ClassId) (ad : Nat → Nat) (ho : Int32) (wo : Nat → Int32) (Q : QT) (G : GT) (mk : Nat → Int32) (X : XT) (U : State) : Prop := va_P D cls (wM ad dA ho wo Q G mk X) U.heap ∧ va_K D cls (tysA dA) U
theorem MG_fb {av : List Value} {D : va_G} {dA : Nat → ClassId} {ad : Nat → Nat} {ho : Int32} {wo : Nat → Int32} {Q : QT} {G : GT} {mk : Nat → Int32} {X : XT} : FrameBlind (va_Pc av (fun U => MG D dA ad ho wo Q G mk X U)) :=
  fun a U _ _ q => ⟨q.1, q.2.1, va_K.moved (Vm.Alike.refl U.vm) q.2.2⟩
theorem MG_at {s U : State} {H : Heap} {D : va_G} {dA : Nat → ClassId} {ad : Nat → Nat} {ho : Int32} {wo : Nat → Int32} {Q : QT} {G : GT} {mk : Nat → Int32} {X : XT} (hP : va_P D cls (wM ad dA ho wo Q G mk X) H) (hK : va_K D cls (tysA dA) s) (hU : U.heap = H) (hW : s.WarmedH U.vm) : MG D dA ad ho wo Q G mk X U :=
  ⟨by rw [hU]; exact hP, va_K.moved hW.alike hK⟩
/-! The table of the kinds' words -/
def kwf (j : Nat) : Int64 := match j with
  | 0 => 2147483648
  | 1 => 0
  | 2 => 196608
  | 3 => 327680
  | 4 => 2146435072
  | 5 => 2147221504
  | _ => 2147418112
abbrev KW (kt : Nat) (U : State) : Prop := va_Z "CallFilter$Action" "KIND_WORDS" "[J" (.ref kt) (fun _ => False) U U.heap ∧ va_T .long kt 7 (fun j => .long (kwf j)) (fun _ => False) U U.heap
theorem KW_at {s U : State} {kt : Nat} (h : KW kt s) (hU : U.heap = s.heap) (hW : s.WarmedH U.vm) : KW kt U :=
  ⟨by rw [hU]; exact va_Z.moved hW.alike h.1, by rw [hU]; exact va_T.moved hW.alike h.2⟩
theorem CGk_fb {av : List Value} {D : va_G} {dA : Nat → ClassId} {ad : Nat → Nat} {w : Nat → Int32} {P : PT} {g : GT} {ss : Nat → Int32} {M : MT} {kt : Nat} : FrameBlind (va_Pc av (fun U => CG D dA ad w P g ss M U ∧ KW kt U)) :=
  fun a U _ _ q => ⟨q.1, ⟨q.2.1.1, va_K.moved (Vm.Alike.refl U.vm) q.2.1.2.1, NW_same rfl q.2.1.2.2⟩, va_Z.moved (Vm.Alike.refl U.vm) q.2.2.1, va_T.moved (Vm.Alike.refl U.vm) q.2.2.2⟩
/-! Numbers -/
theorem nI_mul (a b : Nat) : nI a * nI b = nI (a * b) := (Int32.ofNat_mul a b).symm
theorem ix_4 {i : Int32} (h : vp_in i 6) : vp_in ((4 : Int32) + (2 : Int32) * i) 16 := by
  obtain ⟨j, hj, rfl⟩ := vp_in_of h (by decide)
  show vp_in (nI 4 + nI 2 * nI j) 16
  rw [nI_mul, nI_add]
  exact vp_in_nI (by omega) (by decide)
theorem ix_5 {i : Int32} (h : vp_in i 6) : vp_in (((4 : Int32) + (2 : Int32) * i) + (1 : Int32)) 16 := by
  obtain ⟨j, hj, rfl⟩ := vp_in_of h (by decide)
  show vp_in (nI 4 + nI 2 * nI j + nI 1) 16
  rw [nI_mul, nI_add, nI_add]
  exact vp_in_nI (by omega) (by decide)
theorem ix_b {x M : Int32} {n : Nat} (hM : M.toInt = (n : Int)) (h1 : ¬ x < 0) (h2 : ¬ M ≤ x) : vp_in x n := by
  rw [vp_in_iff]
  rw [Int32.lt_iff_toInt_lt] at h1
  rw [Int32.le_iff_toInt_le] at h2
  have h0 : (0 : Int32).toInt = 0 := rfl
  omega
theorem ix_of {x : Int32} (h1 : ¬ x < 0) (h2 : ¬ (16 : Int32) ≤ x) : vp_in x 16 := ix_b (M := 16) rfl h1 h2
theorem ix_c {x M : Int32} {n : Nat} (hM : M.toInt = (n : Int)) (h1 : ¬ x < 0) (h2 : x < M) : vp_in x n := by
  rw [vp_in_iff]
  rw [Int32.lt_iff_toInt_lt] at h1 h2
  have h0 : (0 : Int32).toInt = 0 := rfl
  omega
theorem ix_of2 {x : Int32} (h1 : ¬ x < 0) (h2 : x < (16 : Int32)) : vp_in x 16 := ix_c (M := 16) rfl h1 h2
theorem ix_put {x : Int32} (h1 : (0 : Int32) ≤ x) (h2 : x < (64 : Int32)) : vp_in x 64 := ix_c (M := 64) rfl (by
  rw [Int32.lt_iff_toInt_lt]
  rw [Int32.le_iff_toInt_le] at h1
  omega) h2
