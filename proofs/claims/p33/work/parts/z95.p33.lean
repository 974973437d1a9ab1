/-! THE CLAIM OUT OF ONE WALK OF THE LAW'S BODY. Your part is whole_start (and what it stands on); all else here is the same for every law, but numbers. -/
def R_law : String := "StandingPaymentsLaw"
def lw_P (b : Addr) (xs : List Int32) (args : Array Value) (s : State) : Prop := args = #[.ref b] ∧ s.IntsAt b xs ∧ xs.length ≤ 260 ∧ (Jvm.Cond.and given_1 narrow_1).before args s = true
/-- what a walk over the start with the record d0 says of its end, said of the start itself -/
theorem lw_closed {s t : State} {o : Outcome} {d0 : Drawn} {L : List Loc} {k n : Nat} (hd0 : s.drawn.sameBut d0 lw_cs) (hv : ∃ v, o = .returned v) (hW : (s.setDrawn d0).WarmedH t.vm) (hs : (s.setDrawn d0).sameButNew ({ t with vm := s.vm } : State) L k n) : State.butDraws s t lw_cs (fun t1 => Framed s o t1 L k n) := by
  have h2 : t.drawn = d0 := congrArg State.drawn hs.1
  refine ⟨⟨hv, hW, State.sameButNew.setDrawn hs s.drawn⟩, ?_, by decide⟩
  rw [h2]
  exact hd0
def lw_Q (_ : Array Value) (s : State) (o : Outcome) (t : State) : Prop := o = .returned (some (.int 1)) ∧ State.butDraws s t lw_cs (fun t1 => Framed s o t1 [] 600000 7302250)
def lw_Z (below : List Frame) (a : Array Value) (s : State) : State → Prop := fun t => ∃ o, t.status = .running ∧ Ended t below o ∧ lw_Q a s o t
/-- the law's own end, with 1 on the stack, nothing written that was there before, its room as the claim has it; d0: the record of draws at this point (at the entry s.drawn: begin with 'refine W.base ?_' and 'have hd0 := Drawn.sameBut.refl s.drawn lw_cs') -/
theorem lw_ret {p : Program} {l : Launch} {e : Env} {s : State} {m : MethodId} {below : List Frame} {meth : Method} {c : Code} {b : Nat} {d0 : Drawn} (hd0 : s.drawn.sameBut d0 lw_cs) (hx : p.tables.exec = Jvm.exec) (hb : c.code = code) (hr : meth.sig.returnType = ret) (hlocks : meth.locks = false) {pc : Nat} {H : Heap} {ls : Array Slot} (hdg : decode code pc = .ok (.ireturn, 1)) : W p l e room_1 (s.setDrawn d0) m #[Value.ref b] below meth c H [] 600000 7302250 (lw_Z below #[Value.ref b] s) (F0 m pc ls [.int 1]) := by
  intro T hT X
  obtain ⟨fs, hret, hrun, hended, hW, hframe⟩ := X.leave (v := some (.int 1)) (hlocks := hlocks) (fun h => by rw [hr] at h; cases h)
  have hmeth' : T.vm.method? m = some meth := X.method'
  refine ⟨T.setFrames fs, ?_, .returned (some (.int 1)), hrun, hended, rfl, lw_closed hd0 ⟨_, rfl⟩ hW hframe⟩
  jvm_step X.here [X.here.top, hx, hb, hdg, hmeth', hr, ret, narrow_b1]
  (try refine ⟨rfl, ?_⟩); (try refine ⟨rfl, ?_⟩)
  first | (intro acts; rw [hret _ acts rfl rfl rfl]) | rw [hret _ _ rfl rfl rfl]
  exact Steps.refl _
/-- what holds at the law's entry: the machine, the code, the tables' words (any of lw_tbl by 'hts w (by decide +kernel)'), the script of L ints xs at the cell b, what the Statement gives of the start (any of its parts by flat_of_before) -/
def lw_At (p : Program) (s : State) (m : MethodId) (meth : Method) (c : Code) (b L : Nat) (xs : Nat → Int32) : Prop :=
  p.tables.exec = Jvm.exec ∧ c.code = code ∧ meth.sig.returnType = ret ∧ c.maxLocals = 13 ∧ s.vm.findClass R_law = some m.cls ∧ (∀ w ∈ lw_tbl, w.before #[Value.ref b] s = true) ∧ va_X b L xs s s.heap ∧ b < s.heap.size ∧ meth.locks = false ∧ (Jvm.Cond.and given_1 narrow_1).before #[Value.ref b] s = true ∧ meth.name = x.name
theorem ws_arr {s : State} {args : Array Value} {ty : FieldType} (h : (Cond.arrayClass ty).before args s = true) : ∃ c : ClassId, ArrOfT s c ty ∧ s.vm.findClass ("[" ++ ty.toString) = some c := by
  obtain ⟨c, k, comp, h1, h2, h3⟩ := Cond.arrayClass_spec h
  exact ⟨c, fun n z => ⟨fun k h => (by cases h), k, h2, comp, h3⟩, h1⟩
theorem ws_over {s : State} {args : Array Value} {C : String} (h : (Cond.arrayOver (.object C)).before args s = true) : ∃ c : ClassId, ArrOfT s c (.object C) ∧ va_RA s c (.object C) := by
  obtain ⟨comp, c, k, h1, -, h2, h3, h4⟩ := Cond.arrayOver_spec h
  exact ⟨c, fun n z => ⟨fun k h => (by cases h), k, h2, comp, h3⟩, k, comp, h2, h3, h1, h4⟩
theorem ws_ne {args : Array Value} {s : State} {t u : Term} {a b : Nat} (h : (Cond.not (Cond.eq t u)).before args s = true) (ht : t.eval args s none [] s = some (.ref a)) (hu : u.eval args s none [] s = some (.ref b)) : ¬ a = b := va_neR h ht hu
abbrev wsT (k : Nat) : Term := match k with
  | 0 => .static "StandingPayments" "LEAST_SETTINGS" "[I"
  | 1 => .static "StandingPayments" "MOST_SETTINGS" "[I"
  | _ => .static "StandingPayments$Calendar" "MONTH_STARTS" "[I"
abbrev wsN (k : Nat) : Nat := match k with
  | 0 => 4
  | 1 => 4
  | _ => 13
theorem ws_fl : ∀ k : Nat, k < 3 → (Cond.arrayOf (wsT k) .int) ∈ flatC (Jvm.Cond.and given_1 narrow_1) ∧ (Cond.eq (.length (wsT k)) (.int (Int32.ofNat (wsN k)))) ∈ flatC (Jvm.Cond.and given_1 narrow_1) ∧ ∀ j : Nat, j < wsN k → (Cond.eq (.elem (wsT k) (.int (Int32.ofNat j))) (.int (iI (sRow k j)))) ∈ flatC (Jvm.Cond.and given_1 narrow_1) := by decide +kernel
theorem ws_ref {args : Array Value} {s : State} {A : Nat → Prop} (hgv : (Jvm.Cond.and given_1 narrow_1).before args s = true) (hA : ∀ a : Nat, a < s.heap.size → ¬ A a) (k : Nat) (hk : k < 3) : ∃ t : Nat, (wsT k).eval args s none [] s = some (.ref t) ∧ va_T .int t (wsN k) (fun j : Nat => .int (iI (sRow k j))) A s s.heap := by
  have hf := flat_of_before _ hgv
  obtain ⟨h1, h2, h3⟩ := ws_fl k hk
  refine va_Tof (by rcases k with _ | _ | k <;> simp [wsN]) (hf _ h1) (va_eqt (hf _ h2)) (fun j hj => va_eqt (hf _ (h3 j hj))) hA
theorem ws_K {b L : Nat} {xs : Nat → Int32} {s : State} (hts : ∀ w ∈ lw_tbl, w.before #[Value.ref b] s = true) (hX : va_X b L xs s s.heap) (hbl : b < s.heap.size) (hgv : (Jvm.Cond.and given_1 narrow_1).before #[Value.ref b] s = true) : ∃ E : wE, wb E = s.heap.size ∧ wK E s ∧ wGE E ∧ wro E b = some (.int, L, fun j : Nat => .int (xs j)) := by
  have hf := flat_of_before _ hgv
  have hall : ∀ w ∈ wAll, w.before #[Value.ref b] s = true := fun w hw => hts w ((List.mem_filter.mp hw).1)
  have hA : ∀ a : Nat, a < s.heap.size → ¬ s.heap.size ≤ a := fun a h => by omega
  have tw : ∀ (i : Nat) (w : Cond), lw_tbl[i]? = some w → w.before #[Value.ref b] s = true := fun i w h => hts w (List.mem_of_getElem? h)
  obtain ⟨c0, i0, k0⟩ := u_known hall inW0 (tw 85 (Cond.instantiable RX0 13) (by decide +kernel))
  obtain ⟨c1, i1, k1⟩ := u_known hall inW1 (tw 40 (Cond.instantiable RX1 3) (by decide +kernel))
  obtain ⟨c2, i2, k2⟩ := u_known hall inW2 (tw 34 (Cond.instantiable RX2 12) (by decide +kernel))
  obtain ⟨c3, i3, k3⟩ := u_known hall inW3 (tw 144 (Cond.instantiable RX3 20) (by decide +kernel))
  obtain ⟨c4, i4, k4⟩ := u_known hall inW4 (tw 274 (Cond.instantiable RX4 11) (by decide +kernel))
  obtain ⟨c5, i5, k5⟩ := u_known hall inW5 (tw 63 (Cond.instantiable RX5 3) (by decide +kernel))
  obtain ⟨c6, i6, k6⟩ := u_known hall inW6 (tw 26 (Cond.instantiable RX6 8) (by decide +kernel))
  obtain ⟨a0, p0, q0⟩ := ws_arr (tw 84 (Cond.arrayClass .int) (by decide +kernel))
  obtain ⟨a1, p1, q1⟩ := ws_arr (tw 57 (Cond.arrayClass .long) (by decide +kernel))
  obtain ⟨a3, p3, q3⟩ := ws_arr (tw 305 (Cond.arrayClass .char) (by decide +kernel))
  obtain ⟨a4, p4, q4⟩ := ws_arr (tw 304 (Cond.arrayClass .boolean) (by decide +kernel))
  have v5 : (Cond.arrayOver (.array .int)).before #[Value.ref b] s = true := tw 69 _ (by decide +kernel)
  obtain ⟨o5, a5, m5, f5, -, g5, e5, q5⟩ := w_AOspec v5
  have p5 : ArrOfT s a5 (.array .int) := fun n z => ⟨fun k h => (by cases h), m5, g5, o5, e5⟩
  obtain ⟨a6, p6, q6⟩ := ws_over (tw 59 (Cond.arrayOver (.object RX0)) (by decide +kernel))
  obtain ⟨a7, p7, q7⟩ := ws_over (tw 61 (Cond.arrayOver (.object RX3)) (by decide +kernel))
  obtain ⟨a8, p8, q8⟩ := ws_over (tw 272 (Cond.arrayOver (.object RX2)) (by decide +kernel))
  obtain ⟨t0, r0, z0⟩ := ws_ref (A := fun q => s.heap.size ≤ q) hgv hA 0 (by decide)
  obtain ⟨t1, r1, z1⟩ := ws_ref (A := fun q => s.heap.size ≤ q) hgv hA 1 (by decide)
  obtain ⟨t2, r2, z2⟩ := ws_ref (A := fun q => s.heap.size ≤ q) hgv hA 2 (by decide)
  have hb0 : ¬ b = t0 := ws_ne (hf _ (by decide +kernel : (Cond.not (Cond.eq (.arg 0) (wsT 0))) ∈ flatC (Jvm.Cond.and given_1 narrow_1))) rfl r0
  have hb1 : ¬ b = t1 := ws_ne (hf _ (by decide +kernel : (Cond.not (Cond.eq (.arg 0) (wsT 1))) ∈ flatC (Jvm.Cond.and given_1 narrow_1))) rfl r1
  have hb2 : ¬ b = t2 := ws_ne (hf _ (by decide +kernel : (Cond.not (Cond.eq (.arg 0) (wsT 2))) ∈ flatC (Jvm.Cond.and given_1 narrow_1))) rfl r2
  have hd : ∀ {i j : Nat} {N M : Nat} {f g : Nat → Value}, va_T .int i N f (fun q => s.heap.size ≤ q) s s.heap → va_T .int j M g (fun q => s.heap.size ≤ q) s s.heap → 0 < N → 0 < M → f 0 ≠ g 0 → ¬ i = j := by
    intro i j N M f g hi hj hN hM hne e
    subst e
    obtain ⟨ci, w1, -, -, -, -, w2, -⟩ := hi
    obtain ⟨cj, w3, -, -, -, -, w4, -⟩ := hj
    rw [w1] at w3
    cases w3
    have := (w2 0 hN).symm.trans (w4 0 hM)
    exact hne (Option.some.inj this)
  have hv : ∀ x y : Int32, x ≠ y → Value.int x ≠ Value.int y := fun x y h e => h (Value.int.inj e)
  have h10 : ¬ t1 = t0 := hd z1 z0 (by decide) (by decide) (hv _ _ (by decide +kernel))
  have h20 : ¬ t2 = t0 := hd z2 z0 (by decide) (by decide) (hv _ _ (by decide +kernel))
  have h21 : ¬ t2 = t1 := hd z2 z1 (by decide) (by decide) (hv _ _ (by decide +kernel))
  let dC : Nat → ClassId := fun c => match c with | 0 => c0 | 1 => c1 | 2 => c2 | 3 => c3 | 4 => c4 | 5 => c5 | _ => c6
  let dI : Nat → Nat → Nat := fun c => match c with | 0 => i0 | 1 => i1 | 2 => i2 | 3 => i3 | 4 => i4 | 5 => i5 | _ => i6
  let ar : Nat → ClassId := fun c => match c with | 0 => a0 | 1 => a1 | 2 => a0 | 3 => a3 | 4 => a4 | 5 => a5 | 6 => a6 | 7 => a7 | _ => a8
  let sv : Nat → Value := fun k => match k with | 0 => .ref t0 | 1 => .ref t1 | _ => .ref t2
  let ro : Nat → Option (FieldType × Nat × (Nat → Value)) := fun a => if a = b then some (.int, L, fun j => .int (xs j)) else if a = t0 then some (.int, 4, fun j : Nat => .int (iI (sRow 0 j))) else if a = t1 then some (.int, 4, fun j : Nat => .int (iI (sRow 1 j))) else if a = t2 then some (.int, 13, fun j : Nat => .int (iI (sRow 2 j))) else none
  refine ⟨((dC, dI), ar, s.heap.size, sv, ro, fun _ => 0, fun _ => 0), rfl, ⟨⟨?_, ?_⟩, ?_, ?_, trivial, trivial, ?_, ?_, ?_, ?_, ?_, ?_⟩, ?_, ?_⟩
  · intro c q hq
    rcases c with _ | _ | _ | _ | _ | _ | _ | c
    · cases hq; exact k0
    · cases hq; exact k1
    · cases hq; exact k2
    · cases hq; exact k3
    · cases hq; exact k4
    · cases hq; exact k5
    · cases hq; exact k6
    · simp [vwCl] at hq
  · intro c q hq
    rcases c with _ | _ | _ | _ | _ | _ | _ | _ | _ | c
    · cases hq; exact ⟨p0, q0⟩
    · cases hq; exact ⟨p1, q1⟩
    · cases hq; exact ⟨p0, q0⟩
    · cases hq; exact ⟨p3, q3⟩
    · cases hq; exact ⟨p4, q4⟩
    · cases hq; exact ⟨p5, q5⟩
    · cases hq; exact ⟨p6, q6⟩
    · cases hq; exact ⟨p7, q7⟩
    · cases hq; exact ⟨p8, q8⟩
    · simp [wTys] at hq
  · intro k q hq
    rcases k with _ | _ | _ | k
    · cases hq; exact va_Zof (tw 518 _ (by decide +kernel)) (tw 15 _ (by decide +kernel)) r0 hA
    · cases hq; exact va_Zof (tw 520 _ (by decide +kernel)) (tw 15 _ (by decide +kernel)) r1 hA
    · cases hq; exact va_Zof (tw 408 _ (by decide +kernel)) (tw 17 _ (by decide +kernel)) r2 hA
    · simp [wSts] at hq
  · intro a ty N f ha
    change ro a = _ at ha
    by_cases e0 : a = b
    · simp only [ro] at ha
      rw [if_pos e0] at ha
      cases ha
      subst e0
      obtain ⟨scr, g1, g2, g3, g4, g5⟩ := hX
      exact ⟨scr, g1, g2, g3, by omega, by rw [g4], g5, hA _ hbl⟩
    · by_cases e1 : a = t0
      · simp only [ro] at ha
        rw [if_neg e0, if_pos e1] at ha
        cases ha
        exact e1 ▸ z0
      · by_cases e2 : a = t1
        · simp only [ro] at ha
          rw [if_neg e0, if_neg e1, if_pos e2] at ha
          cases ha
          exact e2 ▸ z1
        · by_cases e3 : a = t2
          · simp only [ro] at ha
            rw [if_neg e0, if_neg e1, if_neg e2, if_pos e3] at ha
            cases ha
            exact e3 ▸ z2
          · simp only [ro] at ha
            rw [if_neg e0, if_neg e1, if_neg e2, if_neg e3] at ha
            cases ha
  · exact List.forall_mem_cons.mpr ⟨va_Nw.of rfl (tw 275 _ (by decide +kernel)), List.forall_mem_cons.mpr ⟨va_Nw.of rfl (tw 536 _ (by decide +kernel)), List.forall_mem_cons.mpr ⟨va_Nw.of rfl (tw 41 _ (by decide +kernel)), List.forall_mem_cons.mpr ⟨va_Nw.of rfl (tw 64 _ (by decide +kernel)), List.forall_mem_cons.mpr ⟨va_Nw.of rfl (tw 86 _ (by decide +kernel)), List.forall_mem_cons.mpr ⟨va_Nw.of rfl (tw 145 _ (by decide +kernel)), List.forall_mem_cons.mpr ⟨va_Nw.of rfl (tw 516 _ (by decide +kernel)), fun _ h => absurd h List.not_mem_nil⟩⟩⟩⟩⟩⟩⟩
  · exact List.forall_mem_cons.mpr ⟨va_Nw.of rfl (tw 517 _ (by decide +kernel)), List.forall_mem_cons.mpr ⟨va_Nw.of rfl (tw 519 _ (by decide +kernel)), fun _ h => absurd h List.not_mem_nil⟩⟩
  · exact va_AO.of (tw 59 (Cond.arrayOver (.object RX0)) (by decide +kernel))
  · exact va_AO.of (tw 61 (Cond.arrayOver (.object RX3)) (by decide +kernel))
  · exact va_AO.of (tw 272 (Cond.arrayOver (.object RX2)) (by decide +kernel))
  · refine ⟨v5, m5, g5, ?_⟩
    have ho : o5 = a0 := Option.some.inj (f5.symm.trans q0)
    show m5.kind = .array a0 (.array .int)
    rw [← ho]
    exact e5
  · refine ⟨⟨rfl, ?_⟩, ⟨rfl, ?_⟩, ⟨rfl, ?_⟩, trivial⟩
    · show ro t0 = _
      exact (if_neg (fun h => hb0 h.symm)).trans (if_pos rfl)
    · show ro t1 = _
      exact (if_neg (fun h => hb1 h.symm)).trans ((if_neg h10).trans (if_pos rfl))
    · show ro t2 = _
      exact (if_neg (fun h => hb2 h.symm)).trans ((if_neg h20).trans ((if_neg h21).trans (if_pos rfl)))
  · show ro b = _
    exact if_pos rfl
/-- from the entry, for every script of at most 260 ints, the law comes to its end with true -/
theorem whole_start {p : Program} {e : Env} {s : State} {m : MethodId} {below : List Frame} {meth : Method} {c : Code} (l : Launch) (hflags : l.flags = flags0) {b L : Nat} {xs : Nat → Int32} (hL : L ≤ 260) (C0 : lw_At p s m meth c b L xs) : W p l e room_1 s m #[Value.ref b] below meth c s.heap [] 0 0 (lw_Z below #[Value.ref b] s) (entryFrame m ([Value.ref b] : List Value).toArray 13) := by
  obtain ⟨hx, hb, hr, hml, hown, hts, hX, hbl, hlocks, hgv, hname⟩ := C0
  obtain ⟨E, hE0, hK, hGE, hro⟩ := ws_K hts hX hbl hgv
  obtain ⟨G', hB, hphi⟩ := law_true L (fun z => (xs z.toNat).toInt) hL (fun j => ⟨(xs j.toNat).le_toInt, by have := (xs j.toNat).toInt_lt; omega⟩)
  have hro' : wro E b = some (.int, L, fun j : Nat => .int (iI ((fun z : Int => (xs z.toNat).toInt) j))) := by
    rw [hro]
    congr 3
    funext j
    show Value.int (xs j) = Value.int (iI (xs (j : Int).toNat).toInt)
    rw [Int.toNat_natCast, ← iI_of]
  have hw := law_walk (n := 0) hGE hro' hL hB hphi
  have hd0 := Drawn.sameBut.refl s.drawn lw_cs
  refine W.base ?_
  rw [lg_entry_eq]
  have hl := lv_entry [Value.ref b] (n := 13) (Nat.le_of_ble_eq_true rfl)
  have hRep : wRep E (hNil E) s.heap := ⟨hE0.symm, fun a e h => by cases h⟩
  refine hw p l e room_1 (s.setDrawn s.drawn) m #[Value.ref b] below meth c s.heap [] 0 0 _ (lw_Z below #[Value.ref b] s) ⟨hx, hb, hml, hr, hown, fun w h => hts w ((List.mem_filter.mp h).1), hlocks, by decide, by decide, hK, hname⟩ hRep va_S.rf ⟨hl.1, hl.2.1, fun k v hk => hl.2.2 (k, v) (wFind_mem _ k v hk)⟩ (by decide) (by decide) ?_
  intro v h1 q H1 locs1 cells1 slots1 pc lsa hr1 hS1 hc1 hs1 hd hnar
  subst q
  refine va_forget (fun q hq => ?_) (W.widen (k := 600000) (n := 7302250) (by omega) (by omega) (lw_ret hd0 hx hb hr hlocks hd))
  have := hS1.2.2 q hq
  show s.heap.size ≤ q.base
  rw [← hE0]
  exact this
set_option maxHeartbeats 4000000 in
theorem lw_walk (l : Launch) (hflags : l.flags = flags0) (b : Addr) (xs : List Int32) : MetFree l x (headSpec (Jvm.Cond.code x code maxLocals ret :: tables_1) room_1) (lw_P b xs) (fun _ _ _ _ _ => True) lw_Q := by
  refine MetFree.of_bodyS (code := code) (maxLocals := maxLocals) (ret := ret) (by decide) ?_ ?_
  · intro args s m h hn
    obtain ⟨meth, c, h1, h2, h3, h4, h5, h6, -, -⟩ := Cond.code_spec hn (atoms_spec (ws := Jvm.Cond.code x code maxLocals ret :: tables_1) h _ List.mem_cons_self)
    exact ⟨meth, c, h1, h2, h3, h4, h5, h6⟩
  · intro p e s m args below meth c s₁ B hml0 hP _
    obtain ⟨rfl, hx, hbd, hgv⟩ := hP
    obtain ⟨scr, harrAt, hlist, hof, hsmall⟩ := hx
    obtain ⟨hcb, hkn, -, -⟩ := State.arrayAt?_spec harrAt
    have hown : s.vm.findClass R_law = some m.cls := findClass_of_methodNamed B.named
    have hts0 : ∀ c ∈ (Jvm.Cond.code x code maxLocals ret :: tables_1), c.before #[Value.ref b] s = true := atoms_spec (ws := Jvm.Cond.code x code maxLocals ret :: tables_1) B.pre
    have hts : ∀ w ∈ lw_tbl, w.before #[Value.ref b] s = true := k2_hts_sels lw_privs (fun w hw => hts0 w (List.mem_cons_of_mem _ hw)) lw_privs_ok
    have hml : c.maxLocals = 13 := B.maxLocals_eq (hts0 _ List.mem_cons_self)
    have X₀ : Stand p l e room_1 s m #[Value.ref b] below meth c s₁ [] 0 0 := Stand.of_body B
    have hh0 : s₁.heap = s.heap := by rw [B.state]; rfl
    have hsz : scr.slots.size = xs.length := by rw [← Array.length_toList, hlist, List.length_map]
    have hval : ∀ j : Nat, j < xs.length → scr.slots[j]? = some (.int (xs.getD j 0)) := fun j hj => by
      rw [← Array.getElem?_toList, hlist]
      simp [hj]
    have hbl : b < s.heap.size := (Array.getElem?_eq_some_iff.mp hcb).1
    have hX : va_X b xs.length (fun j => xs.getD j 0) s s.heap := ⟨scr, hcb, hof, hkn, hsz, hval⟩
    have K : W p l e room_1 s m #[Value.ref b] below meth c s₁.heap [] 0 0 (lw_Z below #[Value.ref b] s) (entryFrame m ([Value.ref b] : List Value).toArray 13) := by
      rw [hh0]
      exact whole_start l hflags hbd ⟨B.exec, B.bytes, B.returns, hml, hown, hts, hX, hbl, B.notSynchronized, hgv, (name_of_methodNamed B.named B.method).1⟩
    obtain ⟨t, a1, o, b1, b2, b3⟩ := K s₁ rfl X₀
    exact ⟨t, o, a1, b1, b2, b3⟩
theorem lw_pre_spec {args : Array Value} {s : State} (h : (Jvm.Cond.and given_1 narrow_1).before args s = true) (hr : rest_1_c.before args s = true) : ∃ (b : Addr) (xs : List Int32), lw_P b xs args s := by
  have hs := flat_of_before _ h
  have hq := flat_of_before _ hr
  have hc : (Cond.count 1).before args s = true := hs _ (by decide +kernel)
  have harr : (Cond.arrayOf (.arg 0) .int).before args s = true := hs _ (by decide +kernel)
  have hle : (Cond.le (.length (.arg 0)) (.int 260)).before args s = true := hs _ (by decide +kernel)
  have hlen : (Cond.isInt (.length (.arg 0))).before args s = true := hq _ (by decide +kernel)
  have hall : (Cond.all (.arg 0) (.isInt (.elem (.arg 0) (.index 0)))).before args s = true := hq _ (by decide +kernel)
  obtain ⟨b, xs, hb, hx⟩ := State.ints_of_pre rfl harr hlen hall
  have hsm : xs.length < 2 ^ 31 := hx.choose_spec.2.2.2
  have hev : (Term.length (.arg 0)).eval args s none [] s = some (.int xs.length.toInt32) := hx.length_eval hb
  have hv := Cond.le_ints hev (show (Term.int 260).eval args s none [] s = some (.int 260) from rfl)
  have hd : xs.length.toInt32 ≤ 260 := by
    simpa [Cond.before, Cond.holds, hv] using hle
  have hN : xs.length ≤ 260 := (Int32.ofNat_le_ofNat hsm (by decide)).mp (show Int32.ofNat xs.length ≤ Int32.ofNat 260 from hd)
  exact ⟨b, xs, Cond.one_arg hc (show args[0]? = some (.ref b) from hb), hx, hN, h⟩
theorem lw_comes (l : Launch) (hflags : l.flags = flags0) : Comes l x (Jvm.Cond.code x code maxLocals ret :: tables_1) room_1 (fun tb e args s => Calls_1 tb e args s ∧ rest_1 tb e args s ∧ Pre_1 tb e args s)
    (fun _ _ args s o t => lw_Q args s o t) := by
  intro p e ha hc hk s m args below hf hfit hheap happ hpre
  obtain ⟨b, xs, hP⟩ := lw_pre_spec hpre.2.2 hpre.2.1
  obtain ⟨k, o, h1, h2, h3, hQ⟩ := lw_walk l hflags b xs p e ha hc hk s m args below hf ((Spec.applies_iff_loose hf).mp happ).1 hP trivial
  exact ⟨k, o, h1, h2, h3, hQ⟩
theorem lw_frame {s t : State} {o : Outcome} {args : Array Value} (h : State.butDraws s t lw_cs (fun t1 => Framed s o t1 [] 600000 7302250)) :
    State.butDraws s t [Jvm.Choice.named "NaN.bits"] (fun t1 => Framed s o t1 (fieldLocs frame_1_writes args s ++ arrayLocs frame_1_arrays args s ++ staticLocs frame_1_statics s) 600000 7302250) := h
theorem lw_limb (L : Cond) (hL : ∀ (args : Array Value) (s t : State), L.after args s (.returned (some (.int 1))) t = true) :
    ArmFor flags0 classFile x code maxLocals ret World_1 tables_1 room_1 Calls_1 rest_1 Pre_1
      (fun tb e a s o t => postC L tb e a s o t ∧ State.butDraws s t [Jvm.Choice.named "NaN.bits"] (fun t1 => Framed s o t1 (fieldLocs frame_1_writes a s ++ arrayLocs frame_1_arrays a s ++ staticLocs frame_1_statics s) 600000 7302250)) := by
  intro l hflags _ _ p e ha hc hk s m args below hf hfit hheap happ hpre
  obtain ⟨k, o, h1, h2, h3, rfl, hF⟩ := lw_comes l hflags p e ha hc hk s m args below hf hfit hheap happ hpre
  exact ⟨k, _, h1, h2, h3, hL args s _, lw_frame hF⟩
theorem i_vc : Claimed_1_1 ∧ Claimed_1_2 := ⟨lw_limb limb_1_1 (fun args s t => by simp [limb_1_1, Cond.after, Cond.holds, Cond.value]), lw_limb limb_1_2 (fun args s t => Cond.after_iff.mpr (by
  first | (rw [show limb_1_2 = Cond.eq .result (.int 1) from rfl, Cond.eq_ints (x := 1) (y := 1) rfl rfl]; simp; done) | (simp [limb_1_2, Cond.value, Term.eval]; done)))⟩
