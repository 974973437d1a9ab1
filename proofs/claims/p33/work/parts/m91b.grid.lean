/-! ===== a grid of five rows of 64 ints ===== -/
def gdO (cA : ClassId) (z i : Nat) : Cell := arrV cA 5 (fun j => if j < i then .ref (z + 1 + j) else .null)
def gdI (cI : ClassId) : Cell := arrV cI 64 (fun _ => .int 0)
def gdS (T : State) (cA cI : ClassId) : Nat → State
  | 0 => T.pushCell (gdO cA T.heap.size 0)
  | i + 1 => ((gdS T cA cI i).pushCell (gdI cI)).setCell T.heap.size (gdO cA T.heap.size (i + 1))
theorem gdO_store (cA : ClassId) (z i : Nat) : (gdO cA z i).setSlot i (.ref (z + 1 + i)) = gdO cA z (i + 1) := by
  unfold gdO
  rw [arrV_store]
  congr 1
  funext j
  unfold updV
  by_cases q : j = i
  · subst q
    simp
  · by_cases q2 : j < i
    · simp [q, q2, show j < i + 1 by omega]
    · simp [q, q2, show ¬ j < i + 1 by omega]
theorem gdS_facts (T : State) (cA cI : ClassId) : ∀ i, (gdS T cA cI i).heap.size = T.heap.size + 1 + i ∧ (gdS T cA cI i).heap[T.heap.size]? = some (gdO cA T.heap.size i) ∧ (gdS T cA cI i).vm = T.vm ∧ (gdS T cA cI i).slotsUsed = T.slotsUsed + 5 + i * 64 ∧ (∀ a, a < T.heap.size → (gdS T cA cI i).heap[a]? = T.heap[a]?) ∧ ∀ j, j < i → (gdS T cA cI i).heap[T.heap.size + 1 + j]? = some (gdI cI)
  | 0 => ⟨by simp [gdS], by simp [gdS], rfl, by simp [gdS, gdO, arrV_size], fun a ha => State.heap_pushCell_of_lt _ _ ha, fun j hj => absurd hj (Nat.not_lt_zero j)⟩
  | i + 1 => by
    obtain ⟨f1, f2, f3, f4, f5, f6⟩ := gdS_facts T cA cI i
    have h0 : T.heap.size < (gdS T cA cI i).heap.size := by omega
    have hb : ((gdS T cA cI i).pushCell (gdI cI)).heap[T.heap.size]? = some (gdO cA T.heap.size i) := by rw [State.heap_pushCell_of_lt (h := h0)]; exact f2
    refine ⟨?_, State.heap_setCell_self hb, by simp [gdS, f3], ?_, fun a ha => ?_, fun j hj => ?_⟩
    · simp [gdS, State.setCell, f1]
      omega
    · simp [gdS, f4, gdI, arrV_size]
      omega
    · show (((gdS T cA cI i).pushCell (gdI cI)).setCell T.heap.size _).heap[a]? = _
      have ha2 : a < (gdS T cA cI i).heap.size := by omega
      rw [State.heap_setCell_other (show T.heap.size ≠ a by omega), State.heap_pushCell_of_lt (h := ha2)]
      exact f5 a ha
    · show (((gdS T cA cI i).pushCell (gdI cI)).setCell T.heap.size _).heap[T.heap.size + 1 + j]? = _
      rw [State.heap_setCell_other (show T.heap.size ≠ T.heap.size + 1 + j by omega)]
      rcases Nat.lt_or_ge j i with q | q
      · have ha2 : T.heap.size + 1 + j < (gdS T cA cI i).heap.size := by omega
        rw [State.heap_pushCell_of_lt (h := ha2)]
        exact f6 j q
      · rw [show T.heap.size + 1 + j = (gdS T cA cI i).heap.size by omega]
        exact State.heap_pushCell_size _ _
theorem gdS_top (T : State) (f : JFrame) (cA cI : ClassId) : ∀ i, gdS (T.setTop f) cA cI i = (gdS T cA cI i).setTop f
  | 0 => rfl
  | i + 1 => by
    simp only [gdS, gdS_top T f cA cI i, State.heap_setTop, State.pushCell_setTop, State.setCell_setTop]
section GDW
variable {E : CtlPost} {e : Env} {d : Bool} {acts : List Action} {s : State}
theorem gd_new {c comp : ClassId} {k : Class} {ty : FieldType} {len : Nat} {v : Value} (hk : s.vm.classes[c]? = some k) (hkind : k.kind = .array comp ty) (h1 : len ≤ e.platform.arrayLengthLimit) (h2 : len * componentBytes ty ≤ e.platform.maxHeapBytes) (hfit : fits ty v = true) (hdef : v.isDefault = true) {Q : Addr → Pre} (h3 : s.heap.size < e.platform.maxCells) (h4 : s.slotsUsed + len ≤ e.platform.maxSlots)
    (hq : Q s.heap.size d acts (s.pushCell (arrV c len (fun _ => v)))) : wp (Jvm.newArray c len v) Q E e d acts s := by
  have hall : ((Array.replicate len v).all (·.isDefault)) = true := by
    rw [Array.all_replicate]
    split <;> simp [hdef]
  have hda : allocActs (Array.replicate len v) s.heap.size acts = acts := by
    unfold allocActs
    rw [if_pos hall]
  have hf : ∀ i w, (Array.replicate len v)[i]? = some w → s.fitsSlot c .none i w = true := by
    intro i w hw
    rw [Array.getElem?_replicate] at hw
    split at hw
    · cases hw
      simp [State.fitsSlot, State.slotType?, hk, hkind, hfit]
    · cases hw
  have e1 : ¬ len > e.platform.arrayLengthLimit := by omega
  have e2 : ¬ len * componentBytes ty > e.platform.maxHeapBytes := by omega
  rw [← arrV_new] at hq
  simp only [Jvm.newArray, Jvm.arrayFits, wp_bind', W.ask, W.ite, e1, if_false, wp_pure', W.theClass, hk, hkind, e2, W.alloc, W.stop, Option.some.injEq, exists_eq_left', Array.size_replicate, hda]
  rw [if_neg (by omega)]
  exact ⟨h3, h4, hf, hq⟩
theorem gd_inner {cI cc : ClassId} {kc : Class} (hkc : s.vm.classes[cI]? = some kc) (hkind : kc.kind = .array cc .int) (h1 : 64 ≤ e.platform.arrayLengthLimit) (h2 : 256 ≤ e.platform.maxHeapBytes) (h3 : s.heap.size < e.platform.maxCells) (h4 : s.slotsUsed + 64 ≤ e.platform.maxSlots) {Q : Addr → Pre} (hq : Q s.heap.size d acts (s.pushCell (gdI cI))) : wp (Op.multianewarray.make cI [(64 : Int32)]) Q E e d acts s := by
  have hm : ¬ (64 : Int32) < 0 := by decide
  rw [Op.multianewarray.make]
  simp only [wp_bind', W.ite, hm, if_false, wp_pure', W.theClass, hkc, hkind, Option.some.injEq, exists_eq_left']
  exact gd_new (len := 64) hkc hkind h1 h2 rfl rfl h3 h4 hq
theorem gd_outer {cA cI cc : ClassId} {k kc : Class} (hk : s.vm.classes[cA]? = some k) (hkind : k.kind = .array cI (.array .int)) (hkc : s.vm.classes[cI]? = some kc) (hkindc : kc.kind = .array cc .int) (h1 : 64 ≤ e.platform.arrayLengthLimit) (h2 : 256 ≤ e.platform.maxHeapBytes) (h3 : s.heap.size + 6 ≤ e.platform.maxCells) (h4 : s.slotsUsed + 325 ≤ e.platform.maxSlots) {Q : Addr → Pre} (hq : ∀ d' acts', Q s.heap.size d' acts' (gdS s cA cI 5)) : wp (Op.multianewarray.make cA [(5 : Int32), (64 : Int32)]) Q E e d acts s := by
  have hn : ¬ (5 : Int32) < 0 := by decide
  have hfind : ([(64 : Int32)].find? (· < 0)) = none := by decide
  rw [Op.multianewarray.make]
  simp only [wp_bind', W.ite, hn, if_false, wp_pure', W.theClass, hk, hkind, Option.some.injEq, exists_eq_left']
  refine gd_new (len := 5) hk hkind (by omega) (by show 5 * 4 ≤ _; omega) rfl rfl (by omega) (by omega) ?_
  simp only [hfind]
  rw [ite_self, wp_bind', Std.Legacy.Range.forIn_eq_forIn_range']
  show wp (forIn (List.range' 0 5 1) PUnit.unit _) _ E e d acts _
  refine wp_forIn_inv (fun rest s' => ∃ i, i ≤ 5 ∧ rest = List.range' i (5 - i) ∧ s' = gdS s cA cI i) _ _ ⟨0, by omega, rfl, rfl⟩ ?_ ?_
  · rintro x rest s' d' acts' Q' ⟨i, hi, hl, rfl⟩ hnext
    have hlt : i < 5 := by
      rcases Nat.lt_or_ge i 5 with q | q
      · exact q
      · rw [show 5 - i = 0 by omega] at hl
        cases hl
    rw [show 5 - i = (5 - (i + 1)) + 1 by omega, List.range'_succ] at hl
    cases hl
    obtain ⟨f1, f2, f3, f4, f5, f6⟩ := gdS_facts s cA cI x
    simp only [wp_bind']
    refine gd_inner (by rw [f3]; exact hkc) hkindc h1 h2 (by omega) (by omega) ?_
    simp only [wp_bind', W.writeLoc, wp_pure']
    have ha2 : s.heap.size < (gdS s cA cI x).heap.size := by omega
    refine ⟨gdO cA s.heap.size x, by rw [State.heap_pushCell_of_lt (h := ha2)]; exact f2, by simp [gdO, arrV], by rw [gdO, arrV_size]; exact hlt, ?_, hnext _ _ _ ⟨x + 1, hlt, rfl, ?_⟩⟩
    · simp [gdO, arrV, State.fitsSlot, State.slotType?, f3, hk, hkind, fits]
    · rw [f1]
      show _ = ((gdS s cA cI x).pushCell (gdI cI)).setCell s.heap.size (gdO cA s.heap.size (x + 1))
      rw [gdO_store]
  · rintro s' d' acts' ⟨i, hi, hl, rfl⟩
    have hi5 : i = 5 := by
      rcases Nat.lt_or_ge i 5 with q | q
      · rw [show 5 - i = (5 - (i + 1)) + 1 by omega, List.range'_succ] at hl
        cases hl
      · omega
    subst hi5
    simp only [wp_pure']
    exact hq _ _
end GDW
section GDX
variable {p : Program} {l : Launch} {e : Env} {R : Room} {s : State} {m : MethodId} {args : Array Value} {below : List Frame} {meth : Method} {c : Code} {locs : List Loc} {cells slots : Nat}
theorem gdS_stand {T : State} (X : Stand p l e R s m args below meth c T locs cells slots) (cA cI : ClassId) : ∀ i, Stand p l e R s m args below meth c (gdS T cA cI i) (locs ++ (List.range i).map fun j => ⟨T.heap.size, j⟩) (cells + 1 + i) (slots + 5 + i * 64)
  | 0 => by
    have h := X.pushed (gdO cA T.heap.size 0)
    rw [show (gdO cA T.heap.size 0).slots.size = 5 from arrV_size _ _ _] at h
    simpa [gdS] using h
  | i + 1 => by
    have Xi := gdS_stand X cA cI i
    obtain ⟨f1, f2, f3, f4, f5, f6⟩ := gdS_facts T cA cI i
    have ha2 : T.heap.size < (gdS T cA cI i).heap.size := by omega
    have hcell : ((gdS T cA cI i).pushCell (gdI cI)).heap[T.heap.size]? = some (gdO cA T.heap.size i) := by rw [State.heap_pushCell_of_lt (h := ha2)]; exact f2
    have h := (Xi.pushed (gdI cI)).stored hcell i (.ref (T.heap.size + 1 + i))
    rw [show (gdI cI).slots.size = 64 from arrV_size _ _ _, gdO_store] at h
    have e2 : (locs ++ (List.range (i + 1)).map fun j => (⟨T.heap.size, j⟩ : Loc)) = (locs ++ (List.range i).map fun j => (⟨T.heap.size, j⟩ : Loc)) ++ [⟨T.heap.size, i⟩] := by simp [List.range_succ, List.append_assoc]
    rw [e2, show slots + 5 + (i + 1) * 64 = slots + 5 + i * 64 + 64 by omega]
    exact h
theorem gd_step {T : State} (X : Stand p l e R s m args below meth c T locs cells slots) (hexec : p.tables.exec = Jvm.exec) {own : String} {index : Nat} {cA cI cc : ClassId} {kA kC : Class} (hown : s.vm.findClass own = some m.cls) (hclink : (Cond.classLink own index "[[I").before args s = true) (hnm : s.vm.findClass "[[I" = some cA) (hkA : s.vm.classes[cA]? = some kA) (hkindA : kA.kind = .array cI (.array .int)) (hkC : s.vm.classes[cI]? = some kC) (hkindC : kC.kind = .array cc .int)
    {g : JFrame} (hg : g.method = m) (hdg : decode c.code g.pc = .ok (.multianewarray index 2, 4)) {rest : List Value} (hstack : g.stack = .int 64 :: .int 5 :: rest) (hcells : cells + 6 ≤ R.cells) (hslots : slots + 325 ≤ R.slots) :
    ∃ vm₁ : Vm, s.WarmedH vm₁ ∧ Stand p l e R s m args below meth c (gdS (T.setVm vm₁) cA cI 5) (locs ++ (List.range 5).map fun j => ⟨T.heap.size, j⟩) (cells + 1 + 5) (slots + 5 + 5 * 64) ∧ ∀ target, Steps p.tables e below ((gdS (T.setVm vm₁) cA cI 5).setTop { g with pc := g.pc + 4, stack := .ref T.heap.size :: rest }) target → Steps p.tables e below (T.setTop g) target := by
  subst hg
  have hpl : e.platform.magicAccessors = ({} : Platform).magicAccessors := by rw [X.admits.platform]
  obtain ⟨c0, hfc0, hcl⟩ := Cond.classLink_spec hown hclink e.platform hpl
  cases hnm.symm.trans hfc0
  obtain ⟨hg₁, hwarm₁, hready₁⟩ := State.classEntry (e := e) X.warmed hcl
  generalize T.vm.noted g.method.cls index (.cls cA) = vm₁ at hg₁ hwarm₁ hready₁
  have hal : s.vm.Alike vm₁ := hwarm₁.alike
  obtain ⟨kA₁, hkA₁, heA⟩ := hal.2.2 _ _ hkA
  obtain ⟨kC₁, hkC₁, heC⟩ := hal.2.2 _ _ hkC
  have hkindA₁ : kA₁.kind = .array cI (.array .int) := by rw [heA]; exact hkindA
  have hkindC₁ : kC₁.kind = .array cc .int := by rw [heC]; exact hkindC
  have X₁ := X.noted hwarm₁
  obtain ⟨hr1, hr2⟩ := X.roomAbove hcells hslots
  refine ⟨vm₁, hwarm₁, gdS_stand X₁ cA cI 5, fun target hrest => ?_⟩
  have hl1 : 64 ≤ e.platform.arrayLengthLimit := by rw [Launch.admits_arrayLengthLimit X.admits]; omega
  have hl2 : 256 ≤ e.platform.maxHeapBytes := by rw [Launch.admits_maxHeapBytes X.admits]; omega
  jvm_step X.here [hexec, hdg]
  simp only [Op.multianewarray.sem, wp_bind', W.resolveClassAt_links (State.method?_setTop g X.here.top) hg₁]
  rw [W.popN, if_neg (by decide)]
  refine ⟨g, State.topJava?_setTop' (s := T.setVm vm₁) g X.here.top, [.int 5, .int 64], rest, rfl, hstack, ?_⟩
  simp only [List.mapM_cons, List.mapM_nil, wp_bind', wp_pure']
  refine gd_outer (k := kA₁) (kc := kC₁) (cc := cc) hkA₁ hkindA₁ hkC₁ hkindC₁ hl1 hl2 (by show T.heap.size + 6 ≤ _; omega) (by show T.slotsUsed + 325 ≤ _; omega) (fun d' acts' => ?_)
  have XF := gdS_stand X₁ cA cI 5
  have eS : ((T.setTop g).setVm vm₁).setTop { g with stack := rest } = (T.setVm vm₁).setTop { g with stack := rest } := by
    show ((T.setVm vm₁).setTop g).setTop _ = _
    rw [State.setTop_setTop]
  rw [eS, gdS_top]
  simp only [wp_bind', W.mark, W.pushRef, State.topJava?_setTop' _ XF.here.top, Option.some.injEq, exists_eq_left', State.setTop_setTop, State.heap_setTop]
  intro acts
  simp [jvm, XF.here.top]
  exact hrest
end GDX
