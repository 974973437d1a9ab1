/-! ===== the words that every method may use ===== -/
def wAll : List Cond := lw_tbl.filter goodWord
theorem wIn {w : Cond} (i : Nat) (h : lw_tbl[i]? = some w) (hg : goodWord w = true) : w ∈ wAll := List.mem_filter.mpr ⟨List.mem_of_getElem? h, hg⟩
theorem wAll_good : GoodIn wAll wAll := fun _ hw => ⟨hw, good_of_word (List.mem_filter.mp hw).2⟩
/-! ===== a run's fixed things: classes, array classes, the first own address, statics, what is only read, the text constants ===== -/
abbrev wE : Type := va_G × (Nat → ClassId) × Nat × (Nat → Value) × (Nat → Option (FieldType × Nat × (Nat → Value))) × (Nat → Nat) × (Nat → Nat)
abbrev wD (E : wE) : va_G := E.1
abbrev wcA (E : wE) : Nat → ClassId := E.2.1
abbrev wb (E : wE) : Nat := E.2.2.1
abbrev wsv (E : wE) : Nat → Value := E.2.2.2.1
abbrev wro (E : wE) : Nat → Option (FieldType × Nat × (Nat → Value)) := E.2.2.2.2.1
abbrev waK (E : wE) : Nat → Nat := E.2.2.2.2.2.1
abbrev waV (E : wE) : Nat → Nat := E.2.2.2.2.2.2
def wA (E : wE) : Nat → Prop := fun q => wb E ≤ q
abbrev wTys (E : wE) : List (ClassId × FieldType) := [(wcA E 0, .int), (wcA E 1, .long), (wcA E 2, .int), (wcA E 3, .char), (wcA E 4, .boolean), (wcA E 5, .array .int), (wcA E 6, .object RX0), (wcA E 7, .object RX3), (wcA E 8, .object RX2)]
abbrev wSts : List (String × String × String) := [("StandingPayments", "LEAST_SETTINGS", "[I"), ("StandingPayments", "MOST_SETTINGS", "[I"), ("StandingPayments$Calendar", "MONTH_STARTS", "[I")]
abbrev wNM : List (String × Nat × MethodName × String) := [("StandingPayments", 32, yX4_init, "StandingPayments"), ("StandingPayments$Calendar", 46, yX6_isBetween, "StandingPayments"), ("StandingPayments$House", 11, yX1_init, "StandingPayments"), ("StandingPayments$House", 32, yX5_init, "StandingPayments"), ("StandingPayments$House", 47, yX0_init, "StandingPayments"), ("StandingPayments$House", 48, yX3_init, "StandingPayments"), ("StandingPayments$House", 77, yX6_isBetween, "StandingPayments")]
abbrev wNF : List (String × Nat × String × String × String × String) := [("StandingPayments$House", 81, "StandingPayments", "LEAST_SETTINGS", "[I", "StandingPayments"), ("StandingPayments$House", 85, "StandingPayments", "MOST_SETTINGS", "[I", "StandingPayments")]
/-- arrays of int arrays: their class, and its component -/
def wAI (E : wE) (s : State) : Prop := (Cond.arrayOver (.array .int)).before #[] s = true ∧ ∃ kA : Class, s.vm.classes[wcA E 5]? = some kA ∧ kA.kind = .array (wcA E 0) (.array .int)
theorem w_AOspec {s : State} (h : (Cond.arrayOver (.array .int)).before #[] s = true) : ∃ comp c k, s.vm.findClass (FieldType.array .int).toString = some comp ∧ (s.vm.classes.findIdx? fun (x : Class) => match x.kind with | .array component _ => component == comp | _ => false) = some c ∧ s.vm.classes[c]? = some k ∧ k.kind = .array comp (.array .int) ∧ s.vm.findClass ("[" ++ (FieldType.array .int).toString) = some c := by
  simp only [Cond.before, Cond.holds, Cond.value, beq_iff_eq] at h
  cases hc : s.vm.findClass (FieldType.array .int).toString with
  | none => simp [hc] at h
  | some comp =>
    simp only [hc, Option.bind_some, Option.bind_eq_some_iff, Option.map_eq_some_iff] at h
    obtain ⟨c, hi, k, hk, hb⟩ := h
    obtain ⟨hlt, hp, -⟩ := Array.findIdx?_eq_some_iff_getElem.mp hi
    have hkk : s.vm.classes[c] = k := (Array.getElem?_eq_some_iff.mp hk).2
    rw [hkk] at hp
    cases hkind : k.kind with
    | array component ty =>
      rw [hkind] at hb hp
      simp at hb hp
      exact ⟨comp, c, k, rfl, hi, hk, by rw [hkind, hp, hb.1], hb.2⟩
    | _ => rw [hkind] at hb; simp at hb
theorem wAI.moved {E : wE} {u U : State} (hvm : u.vm.Alike U.vm) (h : wAI E u) : wAI E U := by
  obtain ⟨h, kA, g1, g2⟩ := h
  refine ⟨?_, ?_⟩
  · obtain ⟨comp, c, k, h1, h2, h3, h4, h5⟩ := w_AOspec h
    obtain ⟨k', hk', he⟩ := hvm.2.2 _ _ h3
    have hi : (U.vm.classes.findIdx? fun (x : Class) => match x.kind with | .array component _ => component == comp | _ => false) = some c := by
      have e3 : U.vm.bare = u.vm.bare := by first | exact hvm.bare_eq | exact hvm.bare_eq.symm
      have e1 := va_idx_bare U.vm comp
      rw [e3] at e1
      exact e1.symm.trans ((va_idx_bare u.vm comp).trans h2)
    have hkind : k'.kind = .array comp (.array .int) := by rw [he]; exact h4
    have f1 : U.vm.findClass (FieldType.array .int).toString = some comp := by rw [hvm.findClass]; exact h1
    have f2 : U.vm.findClass ("[" ++ (FieldType.array .int).toString) = some c := by rw [hvm.findClass]; exact h5
    unfold Cond.before Cond.holds
    simp only [Cond.value]
    rw [f1, Option.bind_some]
    refine (congrArg (fun o : Option Nat => (o.bind (fun c => (U.vm.classes[c]?).map fun (k : Class) => match k.kind with | .array _ ty => decide (ty = FieldType.array .int) && decide (U.vm.findClass ("[" ++ (FieldType.array .int).toString) = some c) | _ => false) == some true)) hi).trans ?_
    simp [hk', hkind, f2]
  · obtain ⟨k', hk', he⟩ := hvm.2.2 _ _ g1
    exact ⟨k', hk', by rw [he]; exact g2⟩
def wK (E : wE) (s : State) : Prop :=
  va_K (wD E) vwCl (wTys E) s ∧
  (∀ (k : Nat) (q : String × String × String), wSts[k]? = some q → va_Z q.1 q.2.1 q.2.2 (wsv E k) (wA E) s s.heap) ∧
  (∀ (a : Nat) (ty : FieldType) (N : Nat) (f : Nat → Value), wro E a = some (ty, N, f) → va_T ty a N f (wA E) s s.heap) ∧
  True ∧ True ∧
  (∀ q ∈ wNM, va_Nw (.methodLinkNest q.1 q.2.1 q.2.2.1 q.2.2.2) s) ∧
  (∀ q ∈ wNF, va_Nw (.fieldLinkNest q.1 q.2.1 q.2.2.1 q.2.2.2.1 q.2.2.2.2.1 q.2.2.2.2.2) s) ∧
  (va_AO RX0 s ∧ va_AO RX3 s ∧ va_AO RX2 s ∧ wAI E s)
/-- the same things known in another state of the run: warmed tables, nothing outside written -/
theorem wK.on {E : wE} {s U : State} {H : Heap} {locs : List Loc} (h : wK E s) (hS : va_S (wA E) s.heap H locs) (hU : U.heap = H) (hW : s.WarmedH U.vm) : wK E U := by
  obtain ⟨h1, h2, h3, h4, h5, h6, h7, h8, h9, h10, h11⟩ := h
  have hq : ∀ a : Nat, a < s.heap.size → ¬ wA E a → U.heap[a]? = s.heap[a]? := by rw [hU]; exact hS.2.1
  have hvm := hW.alike
  exact ⟨h1.moved hvm, fun k q hk => ((h2 k q hk).kept hq).moved hvm, fun a ty N f ha => ((h3 a ty N f ha).kept hq).moved hvm, h4, h5, fun q hq => (h6 q hq).warmM hW, fun q hq => (h7 q hq).warmF hW, h8.moved hvm, h9.moved hvm, h10.moved hvm, h11.moved hvm⟩
theorem wK.calling {E : wE} {U : State} (h : wK E U) (g : JFrame) (mk : MethodId) (a : Array Value) : wK E (U.calling g mk a) := by
  obtain ⟨h1, h2, h3, h4, h5, h6, h7, h8, h9, h10, h11⟩ := h
  have hv : (U.calling g mk a).vm = U.vm := rfl
  have hvm : U.vm.Alike (U.calling g mk a).vm := Vm.Alike.refl U.vm
  exact ⟨h1.moved (u := U) (U := U.calling g mk a) hvm, fun k q hk => (h2 k q hk).moved (u := U) (U := U.calling g mk a) hvm, fun a' ty N f ha => (h3 a' ty N f ha).moved (u := U) (U := U.calling g mk a) hvm, h4, h5, fun q hq => (h6 q hq).same rfl hv.symm, fun q hq => (h7 q hq).same rfl hv.symm, h8.moved (u := U) (U := U.calling g mk a) hvm, h9.moved (u := U) (U := U.calling g mk a) hvm, h10.moved (u := U) (U := U.calling g mk a) hvm, h11.moved (u := U) (U := U.calling g mk a) hvm⟩
/-! ===== the heap as a function; the locals as a function ===== -/
theorem w_bF {a b : Nat} (h : ¬ a = b) : Nat.beq a b = false := by
  cases hb : Nat.beq a b with
  | false => rfl
  | true => exact absurd (Nat.eq_of_beq_eq_true hb) h
abbrev hW : Type := (Nat → Option va_E) × Nat
def wUp (h : hW) (a : Nat) (e : va_E) : hW := (fun q => bif Nat.beq q a then some e else h.1 q, h.2)
def wRep (E : wE) (h : hW) (H : Heap) : Prop := H.size = h.2 ∧ ∀ (a : Nat) (e : va_E), h.1 a = some e → wb E ≤ a ∧ va_at (wD E) vwCl (a, e) H
theorem wRep.put {E : wE} {h : hW} {H H1 : Heap} {a : Nat} {e0 e : va_E} (hr : wRep E h H) (ha : h.1 a = some e0) (z : H1.size = H.size) (oq : ∀ q : Nat, q ≠ a → H1[q]? = H[q]?) (he : va_at (wD E) vwCl (a, e) H1) : wRep E (wUp h a e) H1 := by
  refine ⟨z.trans hr.1, fun q e' hq => ?_⟩
  by_cases hqa : q = a
  · subst hqa
    simp only [wUp, Nat.beq_refl, cond_true, Option.some.injEq] at hq
    subst hq
    exact ⟨(hr.2 q e0 ha).1, he⟩
  · have hb : Nat.beq q a = false := w_bF hqa
    simp only [wUp, hb, cond_false] at hq
    obtain ⟨h1, h2⟩ := hr.2 q e' hq
    exact ⟨h1, h2.kept (oq q hqa)⟩
theorem wRep.one {E : wE} {h : hW} {H : Heap} {a : Nat} {e : va_E} (hr : wRep E h H) (ha : h.1 a = some e) : va_P (wD E) vwCl [(a, e)] H := by
  intro k q hk
  have h0 : k < 1 := (List.getElem?_eq_some_iff.mp hk).1
  rw [show k = 0 by omega] at hk
  cases hk
  exact (hr.2 a e ha).2
/-- one more cell at the end -/
def wPush (h : hW) (e : va_E) : hW := (fun q => bif Nat.beq q h.2 then some e else h.1 q, h.2 + 1)
theorem wRep.push {E : wE} {h : hW} {H H1 : Heap} {e : va_E} (hr : wRep E h H) (hb : wb E ≤ h.2) (z : H1.size = H.size + 1) (oq : ∀ q : Nat, q < H.size → H1[q]? = H[q]?) (he : va_at (wD E) vwCl (H.size, e) H1) : wRep E (wPush h e) H1 := by
  refine ⟨by rw [z, hr.1]; rfl, fun q e' hq => ?_⟩
  by_cases hqa : q = h.2
  · subst hqa
    simp only [wPush, Nat.beq_refl, cond_true, Option.some.injEq] at hq
    subst hq
    rw [hr.1] at he
    exact ⟨hb, he⟩
  · have hb : Nat.beq q h.2 = false := w_bF hqa
    simp only [wPush, hb, cond_false] at hq
    obtain ⟨h1, h2⟩ := hr.2 q e' hq
    exact ⟨h1, h2.kept (oq q h2.lt)⟩
def wC2 : Option Value → Option Value
  | some (.long _) => none
  | some (.double _) => none
  | o => o
abbrev wLoc : Type := Nat → Option Value
def wSt (ls : wLoc) (i : Nat) (v : Value) : wLoc := fun k => bif Nat.beq k i then some v else bif Nat.beq (k + 1) i then wC2 (ls k) else ls k
def wSt2 (ls : wLoc) (i : Nat) (v : Value) : wLoc := fun k => bif Nat.beq k i then some v else bif Nat.beq k (i + 1) then none else bif Nat.beq (k + 1) i then wC2 (ls k) else ls k
def wFind : List (Nat × Value) → wLoc
  | [], _ => none
  | q :: l, k => bif Nat.beq q.1 k then some q.2 else wFind l k
def wArgs (vs : List Value) : wLoc := wFind (lv_args 0 vs)
/-- a loop's locals, written out -/
def wLs (l : List (Option Value)) : wLoc := fun k => (l[k]?).getD none
def wL (ls : wLoc) (lsa : Array Slot) (n : Nat) : Prop := lsa.size = n ∧ lv_wf lsa ∧ ∀ (k : Nat) (v : Value), ls k = some v → lsa[k]? = some (.val v)
def wLst (ls : wLoc) (n : Nat) : List (Nat × Value) := (List.range n).filterMap (fun k => (ls k).map fun v => (k, v))
theorem wC2_some {o : Option Value} {w : Value} (h : wC2 o = some w) : o = some w ∧ ¬ w.category = 2 := by
  cases o with
  | none => cases h
  | some v => cases v <;> first | (cases h; done) | (cases h; exact ⟨rfl, by decide⟩) | (cases h; exact ⟨rfl, by simp [Value.category]⟩)
theorem wL.has {ls : wLoc} {lsa : Array Slot} {n : Nat} (h : wL ls lsa n) : lv_has lsa n (wLst ls n) := ⟨h.1, h.2.1, fun q hq => by
  obtain ⟨k, -, hk⟩ := List.mem_filterMap.mp hq
  cases hv : ls k with
  | none => rw [hv] at hk; cases hk
  | some v => rw [hv] at hk; cases hk; exact h.2.2 k v hv⟩
theorem wL.mem {ls : wLoc} {lsa : Array Slot} {n k : Nat} {v : Value} (h : wL ls lsa n) (hk : ls k = some v) : (k, v) ∈ wLst ls n := by
  have h1 : k < lsa.size := lv_lt (h.2.2 k v hk)
  rw [h.1] at h1
  exact List.mem_filterMap.mpr ⟨k, List.mem_range.mpr h1, by rw [hk]; rfl⟩
theorem wL.st1 {ls : wLoc} {lsa lsb : Array Slot} {n i : Nat} {v : Value} (h : wL ls lsa n) (h' : lv_has lsb n ((i, v) :: (wLst ls n).filter (fun q => !(q.1 == i) && !(q.1 + 1 == i && q.2.category == 2)))) : wL (wSt ls i v) lsb n := by
  refine ⟨h'.1, h'.2.1, fun k w hk => ?_⟩
  unfold wSt at hk
  by_cases h1 : k = i
  · subst h1
    simp only [Nat.beq_refl, cond_true, Option.some.injEq] at hk
    subst hk
    exact h'.2.2 _ List.mem_cons_self
  · rw [w_bF h1, cond_false] at hk
    have key : ls k = some w ∧ ¬ (k + 1 = i ∧ w.category = 2) := by
      by_cases h2 : k + 1 = i
      · subst h2
        rw [Nat.beq_refl, cond_true] at hk
        exact ⟨(wC2_some hk).1, fun q => (wC2_some hk).2 q.2⟩
      · rw [w_bF h2, cond_false] at hk
        exact ⟨hk, fun q => h2 q.1⟩
    refine h'.2.2 (k, w) (List.mem_cons_of_mem _ (List.mem_filter.mpr ⟨h.mem key.1, ?_⟩))
    have := key.2
    simp only [Bool.and_eq_true, Bool.not_eq_true', beq_eq_false_iff_ne, ne_eq, Bool.and_eq_false_iff]
    refine ⟨h1, ?_⟩
    by_cases h2 : k + 1 = i
    · exact Or.inr (fun q => this ⟨h2, q⟩)
    · exact Or.inl h2
theorem wL.st2 {ls : wLoc} {lsa lsb : Array Slot} {n i : Nat} {v : Value} (h : wL ls lsa n) (h' : lv_has lsb n ((i, v) :: (wLst ls n).filter (fun q => !(q.1 == i) && (!(q.1 == i + 1) && !(q.1 + 1 == i && q.2.category == 2))))) : wL (wSt2 ls i v) lsb n := by
  refine ⟨h'.1, h'.2.1, fun k w hk => ?_⟩
  unfold wSt2 at hk
  by_cases h1 : k = i
  · subst h1
    simp only [Nat.beq_refl, cond_true, Option.some.injEq] at hk
    subst hk
    exact h'.2.2 _ List.mem_cons_self
  · rw [w_bF h1, cond_false] at hk
    by_cases h3 : k = i + 1
    · subst h3
      rw [Nat.beq_refl, cond_true] at hk
      cases hk
    · rw [w_bF h3, cond_false] at hk
      have key : ls k = some w ∧ ¬ (k + 1 = i ∧ w.category = 2) := by
        by_cases h2 : k + 1 = i
        · subst h2
          rw [Nat.beq_refl, cond_true] at hk
          exact ⟨(wC2_some hk).1, fun q => (wC2_some hk).2 q.2⟩
        · rw [w_bF h2, cond_false] at hk
          exact ⟨hk, fun q => h2 q.1⟩
      refine h'.2.2 (k, w) (List.mem_cons_of_mem _ (List.mem_filter.mpr ⟨h.mem key.1, ?_⟩))
      have := key.2
      simp only [Bool.and_eq_true, Bool.not_eq_true', beq_eq_false_iff_ne, ne_eq, Bool.and_eq_false_iff]
      refine ⟨h1, h3, ?_⟩
      by_cases h2 : k + 1 = i
      · exact Or.inr (fun q => this ⟨h2, q⟩)
      · exact Or.inl h2
theorem wFind_mem : ∀ (l : List (Nat × Value)) (k : Nat) (v : Value), wFind l k = some v → (k, v) ∈ l
  | [], _, _, h => by cases h
  | q :: l, k, v, h => by
    unfold wFind at h
    by_cases hq : q.1 = k
    · subst hq
      rw [Nat.beq_refl, cond_true] at h
      cases h
      exact List.mem_cons_self
    · rw [w_bF hq, cond_false] at h
      exact List.mem_cons_of_mem _ (wFind_mem l k v h)
/-! ===== the weakest precondition of a place in a method ===== -/
def wCx (E : wE) (n : Nat) (y : MethodName) (cc : ByteArray) (ml : Nat) (rt : Option FieldType) (p : Program) (R : Room) (s : State) (m : MethodId) (args : Array Value) (meth : Method) (c : Code) : Prop :=
  p.tables.exec = Jvm.exec ∧ c.code = cc ∧ c.maxLocals = ml ∧ meth.sig.returnType = rt ∧ s.vm.findClass y.cls = some m.cls ∧ (∀ w ∈ wAll, w.before args s = true) ∧ meth.locks = false ∧ n ≤ R.frames ∧ 38 * n ≤ R.locals ∧ wK E s ∧ meth.name = y.name
def wRI : Option Value → Instr
  | none => .return_
  | some (.int _) => .ireturn
  | some (.long _) => .lreturn
  | some (.double _) => .dreturn
  | some (.float _) => .freturn
  | _ => .areturn
def wNar (rt : Option FieldType) : Option Value → Prop
  | none => rt = none
  | some (.int x) => ∃ ty, rt = some ty ∧ narrow ty (.int x) = .int x
  | some (.long _) => rt = some .long
  | some (.double _) => rt = some .double
  | some (.ref _) => ∃ ty, rt = some (.array ty)
  | _ => False
def wRet (E : wE) (cc : ByteArray) (rt : Option FieldType) (p : Program) (l : Launch) (e : Env) (R : Room) (s : State) (m : MethodId) (args : Array Value) (below : List Frame) (meth : Method) (c : Code) (Z : State → Prop) (CB SB : Nat) (v : Option Value) (h1 : hW) : Prop :=
  ∀ (H1 : Heap) (locs1 : List Loc) (cells1 slots1 pc : Nat) (lsa : Array Slot), wRep E h1 H1 → va_S (wA E) s.heap H1 locs1 → cells1 ≤ CB → slots1 ≤ SB → decode cc pc = .ok (wRI v, 1) → wNar rt v → W p l e R s m args below meth c H1 locs1 cells1 slots1 Z (F0 m pc lsa v.toList)
def WP (E : wE) (n : Nat) (y : MethodName) (cc : ByteArray) (ml : Nat) (rt : Option FieldType) (pc : Nat) (ls : wLoc) (st : List Value) (h : hW) (bc bs : Nat) (Q : Option Value → hW → Prop) : Prop :=
  ∀ (p : Program) (l : Launch) (e : Env) (R : Room) (s : State) (m : MethodId) (args : Array Value) (below : List Frame) (meth : Method) (c : Code) (H : Heap) (locs : List Loc) (cells slots : Nat) (lsa : Array Slot) (Z : State → Prop),
    wCx E n y cc ml rt p R s m args meth c → wRep E h H → va_S (wA E) s.heap H locs → wL ls lsa ml → cells + bc ≤ R.cells → slots + bs ≤ R.slots →
    (∀ (v : Option Value) (h1 : hW), Q v h1 → wRet E cc rt p l e R s m args below meth c Z (cells + bc) (slots + bs) v h1) →
    W p l e R s m args below meth c H locs cells slots Z (F0 m pc lsa st)
section WPB
variable {E : wE} {n : Nat} {y : MethodName} {cc : ByteArray} {ml : Nat} {rt : Option FieldType} {pc : Nat} {ls : wLoc} {st : List Value} {h : hW} {bc bs : Nat} {Q : Option Value → hW → Prop}
theorem WP.post {Q' : Option Value → hW → Prop} (k : WP E n y cc ml rt pc ls st h bc bs Q') (hq : ∀ v h1, Q' v h1 → Q v h1) : WP E n y cc ml rt pc ls st h bc bs Q :=
  fun p l e R s m args below meth c H locs cells slots lsa Z C hr hs hl hc1 hc2 hz => k p l e R s m args below meth c H locs cells slots lsa Z C hr hs hl hc1 hc2 (fun v h1 q => hz v h1 (hq v h1 q))
/-- fewer locals known -/
theorem WP.loc {ls' : wLoc} (hl' : ∀ (k : Nat) (v : Value), ls' k = some v → ls k = some v) (k : WP E n y cc ml rt pc ls' st h bc bs Q) : WP E n y cc ml rt pc ls st h bc bs Q :=
  fun p l e R s m args below meth c H locs cells slots lsa Z C hr hs hl hc1 hc2 hz => k p l e R s m args below meth c H locs cells slots lsa Z C hr hs ⟨hl.1, hl.2.1, fun j v hj => hl.2.2 j v (hl' j v hj)⟩ hc1 hc2 hz
theorem WP.room {bc' bs' : Nat} (h1 : bc' ≤ bc) (h2 : bs' ≤ bs) (k : WP E n y cc ml rt pc ls st h bc' bs' Q) : WP E n y cc ml rt pc ls st h bc bs Q :=
  fun p l e R s m args below meth c H locs cells slots lsa Z C hr hs hl hc1 hc2 hz => k p l e R s m args below meth c H locs cells slots lsa Z C hr hs hl (by omega) (by omega) (fun v h3 q H1 locs1 cells1 slots1 pc1 lsa1 a1 a2 a3 a4 => hz v h3 q H1 locs1 cells1 slots1 pc1 lsa1 a1 a2 (by omega) (by omega))
theorem WP.deep {n' : Nat} (h1 : n' ≤ n) (k : WP E n' y cc ml rt pc ls st h bc bs Q) : WP E n y cc ml rt pc ls st h bc bs Q :=
  fun p l e R s m args below meth c H locs cells slots lsa Z C hr hs hl hc1 hc2 hz => k p l e R s m args below meth c H locs cells slots lsa Z (by
    obtain ⟨a1, a2, a3, a4, a5, a6, a7, a8, a9, a10⟩ := C
    exact ⟨a1, a2, a3, a4, a5, a6, a7, by omega, by omega, a10⟩) hr hs hl hc1 hc2 hz
end WPB
/-! ===== a method's contract out of its walk ===== -/
def wWs (y : MethodName) (cc : ByteArray) (ml : Nat) (rt : Option FieldType) : List Cond := Cond.code y cc ml rt :: wAll
def wRm (n mc ms : Nat) : Room := { frames := n, cells := mc, slots := ms, locals := 38 * n }
def wPc (E : wE) (As : List Value) (h : hW) : Array Value → State → Prop := fun v U => v = As.toArray ∧ wK E U ∧ wRep E h U.heap
def wQc (E : wE) (Q : Option Value → hW → Prop) : Array Value → State → Outcome → State → Prop := fun _ st o t => (∃ v h1, o = .returned v ∧ Q v h1 ∧ wRep E h1 t.heap) ∧ va_F (wA E) st t
/-- a method's contract: from these arguments and this heap it returns so -/
abbrev WM (E : wE) (n : Nat) (y : MethodName) (cc : ByteArray) (ml : Nat) (rt : Option FieldType) (As : List Value) (h : hW) (mc ms : Nat) (Q : Option Value → hW → Prop) : Prop := WP E n y cc ml rt 0 (wArgs As) [] h mc ms Q
theorem wMet {E : wE} {n : Nat} {y : MethodName} {cc : ByteArray} {ml : Nat} {rt : Option FieldType} {As : List Value} {h : hW} {mc ms : Nat} {Q : Option Value → hW → Prop} (hy : plainName y.cls = true) (hn : (lg_sl As).length ≤ ml) (hW : WM E n y cc ml rt As h mc ms Q) (l : Launch) :
    Met l y (wWs y cc ml rt) (wRm n mc ms) (wPc E As h) (wQc E Q) mc ms (wA E) := by
  refine Met.ofW hy rfl ?_
  intro p e s m args below meth c s₁ B hml hP
  obtain ⟨rfl, hK, hr⟩ := hP
  have hpre := atoms_spec (ws := wWs y cc ml rt) B.pre
  have hl := lv_entry As (n := ml) hn
  rw [lg_entry_eq]
  refine hW p l e _ s m As.toArray below meth c s.heap [] 0 0 _ _ ⟨B.exec, B.bytes, hml, B.returns, findClass_of_methodNamed B.named, fun w hw => hpre w (List.mem_cons_of_mem _ hw), B.notSynchronized, Nat.le_refl _, Nat.le_refl _, hK, (name_of_methodNamed B.named B.method).1⟩ hr va_S.rf ⟨hl.1, hl.2.1, fun k v hk => hl.2.2 (k, v) (wFind_mem _ k v hk)⟩ (by show 0 + mc ≤ mc; omega) (by show 0 + ms ≤ ms; omega) ?_
  intro v h1 hq H1 locs1 cells1 slots1 pc lsa hr1 hS1 hc1 hs1 hd hnar
  refine W.widen (k := mc) (n := ms) (by omega) (by omega) ?_
  have hpost : ∀ t : State, t.heap = H1 → s.WarmedH t.vm → wQc E Q As.toArray s (.returned v) t := fun t ht _ => ⟨⟨v, h1, rfl, hq, by rw [ht]; exact hr1⟩, hS1.F ht⟩
  have hf : ∀ q ∈ locs1, wA E q.base := hS1.2.2
  have hlocks := B.notSynchronized
  match v, hpost, hd, hnar with
  | none, hpost, hd, hnar => exact W.vret B.exec B.bytes (B.returns.trans hnar) hpost hf hd hlocks
  | some (.int x), hpost, hd, hnar =>
    obtain ⟨ty, h2, h3⟩ := hnar
    exact W.zret B.exec B.bytes (B.returns.trans h2) h3 hpost hf hd hlocks
  | some (.long x), hpost, hd, hnar => exact W.lret B.exec B.bytes (B.returns.trans hnar) hpost hf hd hlocks
  | some (.double x), hpost, hd, hnar => exact W.dret B.exec B.bytes (B.returns.trans hnar) hpost hf hd hlocks
  | some (.ref x), hpost, hd, hnar =>
    obtain ⟨ty, h2⟩ := hnar
    exact W.aret B.exec B.bytes (B.returns.trans h2) (Or.inr ⟨ty, rfl⟩) (Or.inr ⟨x, rfl⟩) hpost hf hd hlocks
