/-! ===== fields ===== -/
section WQM
variable {E : wE} {n : Nat} {y : MethodName} {cc : ByteArray} {ml : Nat} {rt : Option FieldType} {pc : Nat} {ls : wLoc} {st : List Value} {h : hW} {bc bs : Nat} {Q : Option Value → hW → Prop}
theorem wq_get {idx ci k a : Nat} {fs : List Value} {v : Value} (hdg : decode cc pc = .ok (.getfield idx, 3)) (hf : wF y.cls idx ci k) (he : h.1 a = some (.inr (ci, fs))) (hv : fs[k]? = some v) (kk : WP E n y cc ml rt (pc + 3) ls (v :: st) h bc bs Q) : WP E n y cc ml rt pc ls (.ref a :: st) h bc bs Q := by
  intro p l e R s m args below meth c H locs cells slots lsa Z C hr hs hl hc1 hc2 hz
  obtain ⟨Cn, T, N, h1, h2, h3, h4⟩ := hf
  exact va_get C.1 C.2.1 C.2.2.2.2.2.1 h4 C.2.2.2.2.1 C.2.2.2.2.2.2.2.2.2.1.1 (hr.one he) 0 rfl h1 k h2 (C.2.2.2.2.2.1 _ h3) (fun _ q => q) hv hdg (kk p l e R s m args below meth c H locs cells slots lsa Z C hr hs hl hc1 hc2 hz)
theorem wRep.at_ {E : wE} {h : hW} {H : Heap} {a : Nat} {e : va_E} (hr : wRep E h H) (ha : h.1 a = some e) : wA E a ∧ va_at (wD E) vwCl (a, e) H := hr.2 a e ha
theorem wq_put {idx ci k a : Nat} {fs : List Value} {v : Value} {ty : FieldType} (hdg : decode cc pc = .ok (.putfield idx, 3)) (hf : wFP y.cls idx ci k false ty) (he : h.1 a = some (.inr (ci, fs))) (hlen : k < fs.length) (hn : narrow ty v = v) (hfit : fits ty v = true) (kk : WP E n y cc ml rt (pc + 3) ls st (wUp h a (.inr (ci, fs.set k v))) bc bs Q) : WP E n y cc ml rt pc ls (v :: .ref a :: st) h bc bs Q := by
  intro p l e R s m args below meth c H locs cells slots lsa Z C hr hs hl hc1 hc2 hz
  obtain ⟨Cn, T, N, tys, hc, hk, h3, hin, hfin, hty, hty', hnm, -⟩ := hf
  have hts := C.2.2.2.2.2.1
  have hown := C.2.2.2.2.1
  have hK := C.2.2.2.2.2.2.2.2.2.1.1
  have hap := va_apart (own := y.cls) hts hin tys hty' hnm hK hc
  obtain ⟨hA, r, h1, cell, q1, q2, q3, q4⟩ := hr.2 a _ he
  have hr1 : r = (Cn, T, N) := Option.some.inj (h1.symm.trans hc)
  subst hr1
  obtain ⟨hS, hfc, kC, hkC, hkind⟩ := hK.1 ci _ hc
  obtain ⟨cf, kf, fi, f, hi, hsl⟩ := hS k hk
  have hlay := hts _ (hin _ (u_in_lay hk))
  unfold u_lay at hlay
  rw [if_neg (by rw [hfin]; decide)] at hlay
  have hst := (u_facts hfc hkC (u_lays hts hin hk) hi).1
  have h6 := u_store hfc hkC hkind hlay hi (ty := ty) (by rw [← hty]; exact hty' k hk) hn hfit
  refine W.putK C.1 C.2.1 (f := f) ⟨hown, hts _ h3, ⟨_, _, _, hi⟩, hst⟩ (by rw [q2]; exact h6) q1 q3 (by rw [hsl]; exact k2_hasslot (q4 k hk)) rfl rfl hdg fun H' e1 e2 e3 => ?_
  rw [hsl] at e1 ⊢
  exact kk p l e R s m args below meth c H' _ cells slots lsa Z C (hr.put he e2 e3 ⟨_, hc, t_OB.to (V := updV (vp_V fs) k v) ⟨_, e1, q2, q3, t_set q4 hap hk v⟩ (fun j _ => vp_updV_set hlen v j)⟩) (hs.put e2 e3 hA) hl hc1 hc2 hz
theorem wq_putF {idx ci k a : Nat} {fs : List Value} {v : Value} {ty : FieldType} (hdg : decode cc pc = .ok (.putfield idx, 3)) (hf : wFP y.cls idx ci k true ty) (hyn : y.name = "<init>") (he : h.1 a = some (.inr (ci, fs))) (hlen : k < fs.length) (hn : narrow ty v = v) (hfit : fits ty v = true) (kk : WP E n y cc ml rt (pc + 3) ls st (wUp h a (.inr (ci, fs.set k v))) bc bs Q) : WP E n y cc ml rt pc ls (v :: .ref a :: st) h bc bs Q := by
  intro p l e R s m args below meth c H locs cells slots lsa Z C hr hs hl hc1 hc2 hz
  obtain ⟨Cn, T, N, tys, hc, hk, h3, hin, hfin, hty, hty', hnm, hdecl⟩ := hf
  have hdecl := hdecl rfl
  have hts := C.2.2.2.2.2.1
  have hown := C.2.2.2.2.1
  have hK := C.2.2.2.2.2.2.2.2.2.1.1
  have hin2 : meth.name = "<init>" := C.2.2.2.2.2.2.2.2.2.2.trans hyn
  have hap := va_apart (own := y.cls) hts hin tys hty' hnm hK hc
  obtain ⟨hA, r, h1, cell, q1, q2, q3, q4⟩ := hr.2 a _ he
  have hr1 : r = (Cn, T, N) := Option.some.inj (h1.symm.trans hc)
  subst hr1
  obtain ⟨hS, hfc, kC, hkC, hkind⟩ := hK.1 ci _ hc
  obtain ⟨cf, kf, fi, f, hi, hsl⟩ := hS k hk
  have hlay := hts _ (hin _ (u_in_lay hk))
  unfold u_lay at hlay
  rw [if_pos hfin] at hlay
  have hst := (u_facts hfc hkC (u_lays hts hin hk) hi).1
  have hcf : m.cls = cf := by
    obtain ⟨_, _, c', _, _, _, -, -, hf', -, -, -, hown2, -⟩ := Cond.laysFinal_spec hlay
    have e1 : c' = cf := by have := hi.symm.trans hf'; simp at this; exact this.1.symm
    rw [hdecl] at hown2
    rw [← e1]; exact Option.some.inj (hown.symm.trans hown2)
  have h6 := u_fits hfc hkC hkind (Or.inr hlay) hi (ty := ty) (by rw [← hty]; exact hty' k hk) hn hfit
  refine W.putFinK C.1 C.2.1 hown (hts _ h3) hi hst hcf hin2 (by rw [q2]; exact h6) q1 q3 (by rw [hsl]; exact k2_hasslot (q4 k hk)) rfl rfl hdg fun H' e1 e2 e3 => ?_
  rw [hsl] at e1 ⊢
  exact kk p l e R s m args below meth c H' _ cells slots lsa Z C (hr.put he e2 e3 ⟨_, hc, t_OB.to (V := updV (vp_V fs) k v) ⟨_, e1, q2, q3, t_set q4 hap hk v⟩ (fun j _ => vp_updV_set hlen v j)⟩) (hs.put e2 e3 hA) hl hc1 hc2 hz
/-! ===== statics and what is only read ===== -/
theorem wq_gets {idx k : Nat} {q : String × String × String} (hdg : decode cc pc = .ok (.getstatic idx, 3)) (hk : wSts[k]? = some q) (hl0 : Cond.fieldLink y.cls idx q.1 q.2.1 q.2.2 ∈ wAll) (kk : WP E n y cc ml rt (pc + 3) ls (wsv E k :: st) h bc bs Q) : WP E n y cc ml rt pc ls st h bc bs Q := by
  intro p l e R s m args below meth c H locs cells slots lsa Z C hr hs hl hc1 hc2 hz
  exact va_gets C.1 C.2.1 (C.2.2.2.2.2.2.2.2.2.1.2.1 k q hk) hs C.2.2.2.2.1 (C.2.2.2.2.2.1 _ hl0) (fun _ q => q) hdg (kk p l e R s m args below meth c H locs cells slots lsa Z C hr hs hl hc1 hc2 hz)
theorem wq_getsN {idx k : Nat} {q : String × String × String} {host : String} (hdg : decode cc pc = .ok (.getstatic idx, 3)) (hk : wSts[k]? = some q) (hl0 : (y.cls, idx, q.1, q.2.1, q.2.2, host) ∈ wNF) (kk : WP E n y cc ml rt (pc + 3) ls (wsv E k :: st) h bc bs Q) : WP E n y cc ml rt pc ls st h bc bs Q := by
  intro p l e R s m args below meth c H locs cells slots lsa Z C hr hs hl hc1 hc2 hz
  exact va_getsN C.1 C.2.1 (C.2.2.2.2.2.2.2.2.2.1.2.1 k q hk) hs C.2.2.2.2.1 (va_Nw.use rfl (C.2.2.2.2.2.2.2.2.2.1.2.2.2.2.2.2.1 _ hl0)) (fun _ q => q) hdg (kk p l e R s m args below meth c H locs cells slots lsa Z C hr hs hl hc1 hc2 hz)
theorem w_in {z : Int} {N : Nat} (h : 0 ≤ z ∧ z < N) (hN : N ≤ 2147483647) : vp_in (iI z) N := by
  have hz : wR z := by omega
  rintro (q | q)
  · rw [iI_0, iI_lt hz (by decide)] at q
    omega
  · rw [iI_nat hz] at q
    omega
theorem wq_roi {a N : Nat} {z : Int} {f : Nat → Value} {v : Value} (hdg : decode cc pc = .ok (.iaload, 1)) (he : wro E a = some (.int, N, f)) (hi : 0 ≤ z ∧ z < N) (hv : f z.toNat = v) (kk : WP E n y cc ml rt (pc + 1) ls (v :: st) h bc bs Q) (hN : N ≤ 2147483647 := by omega) : WP E n y cc ml rt pc ls (.int (iI z) :: .ref a :: st) h bc bs Q := by
  intro p l e R s m args below meth c H locs cells slots lsa Z C hr hs hl hc1 hc2 hz
  exact va_ti C.1 C.2.1 (C.2.2.2.2.2.2.2.2.2.1.2.2.1 a _ _ _ he) hs (w_in hi hN) (by rw [iI_nat (by omega)]; exact hv) hdg (kk p l e R s m args below meth c H locs cells slots lsa Z C hr hs hl hc1 hc2 hz)
end WQM
/-! ===== arrays ===== -/
abbrev eI (E : wE) (N : Nat) (f : Nat → Int32) : va_E := .inl (wcA E 0, N, .inl f)
abbrev eC (E : wE) (N : Nat) (f : Nat → Int32) : va_E := .inl (wcA E 3, N, .inl f)
abbrev eZ (E : wE) (N : Nat) (f : Nat → Int32) : va_E := .inl (wcA E 4, N, .inl f)
abbrev eL (E : wE) (N : Nat) (f : Nat → Int64) : va_E := .inl (wcA E 1, N, .inr (.inl f))
abbrev eD (E : wE) (N : Nat) (f : Nat → UInt64) : va_E := .inl (wcA E 2, N, .inr (.inr (.inr (.inl f))))
abbrev eQ (E : wE) (k N : Nat) (f : Nat → Option Nat) : va_E := .inl (wcA E k, N, .inr (.inr (.inr (.inr f))))
section WQA
variable {E : wE} {n : Nat} {y : MethodName} {cc : ByteArray} {ml : Nat} {rt : Option FieldType} {pc : Nat} {ls : wLoc} {st : List Value} {h : hW} {bc bs : Nat} {Q : Option Value → hW → Prop}
theorem wq_iald {a N : Nat} {z : Int} {f : Nat → Int32} (hdg : decode cc pc = .ok (.iaload, 1)) (he : h.1 a = some (eI E N f)) (hi : 0 ≤ z ∧ z < N) (kk : WP E n y cc ml rt (pc + 1) ls (.int (f z.toNat) :: st) h bc bs Q) (hN : N ≤ 2147483647 := by decide) : WP E n y cc ml rt pc ls (.int (iI z) :: .ref a :: st) h bc bs Q := by
  intro p l e R s m args below meth c H locs cells slots lsa Z C hr hs hl hc1 hc2 hz
  have ez := iI_nat (a := z) (by omega)
  exact va_iald C.1 C.2.1 C.2.2.2.2.2.2.2.2.2.1.1 (hr.one he) 0 0 rfl rfl (w_in hi hN) hdg (by rw [ez]; exact kk p l e R s m args below meth c H locs cells slots lsa Z C hr hs hl hc1 hc2 hz)
theorem wq_cald {a N : Nat} {z : Int} {f : Nat → Int32} (hdg : decode cc pc = .ok (.caload, 1)) (he : h.1 a = some (eC E N f)) (hi : 0 ≤ z ∧ z < N) (kk : WP E n y cc ml rt (pc + 1) ls (.int (f z.toNat) :: st) h bc bs Q) (hN : N ≤ 2147483647 := by decide) : WP E n y cc ml rt pc ls (.int (iI z) :: .ref a :: st) h bc bs Q := by
  intro p l e R s m args below meth c H locs cells slots lsa Z C hr hs hl hc1 hc2 hz
  have ez := iI_nat (a := z) (by omega)
  exact va_cald C.1 C.2.1 C.2.2.2.2.2.2.2.2.2.1.1 (hr.one he) 0 3 rfl rfl (w_in hi hN) hdg (by rw [ez]; exact kk p l e R s m args below meth c H locs cells slots lsa Z C hr hs hl hc1 hc2 hz)
theorem wq_zald {a N : Nat} {z : Int} {f : Nat → Int32} (hdg : decode cc pc = .ok (.baload, 1)) (he : h.1 a = some (eZ E N f)) (hi : 0 ≤ z ∧ z < N) (kk : WP E n y cc ml rt (pc + 1) ls (.int (f z.toNat) :: st) h bc bs Q) (hN : N ≤ 2147483647 := by decide) : WP E n y cc ml rt pc ls (.int (iI z) :: .ref a :: st) h bc bs Q := by
  intro p l e R s m args below meth c H locs cells slots lsa Z C hr hs hl hc1 hc2 hz
  have ez := iI_nat (a := z) (by omega)
  exact va_zald C.1 C.2.1 C.2.2.2.2.2.2.2.2.2.1.1 (hr.one he) 0 4 rfl rfl (w_in hi hN) hdg (by rw [ez]; exact kk p l e R s m args below meth c H locs cells slots lsa Z C hr hs hl hc1 hc2 hz)
theorem wq_lald {a N : Nat} {z : Int} {f : Nat → Int64} (hdg : decode cc pc = .ok (.laload, 1)) (he : h.1 a = some (eL E N f)) (hi : 0 ≤ z ∧ z < N) (kk : WP E n y cc ml rt (pc + 1) ls (.long (f z.toNat) :: st) h bc bs Q) (hN : N ≤ 2147483647 := by decide) : WP E n y cc ml rt pc ls (.int (iI z) :: .ref a :: st) h bc bs Q := by
  intro p l e R s m args below meth c H locs cells slots lsa Z C hr hs hl hc1 hc2 hz
  have ez := iI_nat (a := z) (by omega)
  exact va_lald C.1 C.2.1 C.2.2.2.2.2.2.2.2.2.1.1 (hr.one he) 0 1 rfl rfl (w_in hi hN) hdg (by rw [ez]; exact kk p l e R s m args below meth c H locs cells slots lsa Z C hr hs hl hc1 hc2 hz)
theorem wq_iast {a N : Nat} {z : Int} {f : Nat → Int32} {v : Int32} (hdg : decode cc pc = .ok (.iastore, 1)) (he : h.1 a = some (eI E N f)) (hi : 0 ≤ z ∧ z < N) (kk : WP E n y cc ml rt (pc + 1) ls st (wUp h a (eI E N (va_up f z.toNat v))) bc bs Q) (hN : N ≤ 2147483647 := by decide) : WP E n y cc ml rt pc ls (.int v :: .int (iI z) :: .ref a :: st) h bc bs Q := by
  intro p l e0 R s m args below meth c H locs cells slots lsa Z C hr hs hl hc1 hc2 hz
  have e := iI_nat (a := z) (by omega)
  have ha := (hr.2 a _ he).2
  refine W.iast C.1 C.2.1 ha ((C.2.2.2.2.2.2.2.2.2.1.1.2 0 _ rfl).1 N (fun j => .int (f j))) (fun q => by cases q) (by show ¬ (_ ∨ (arrV _ _ _).slots.size ≤ _); rw [arrV_size]; exact w_in hi hN) rfl rfl hdg fun H1 e1 e2 oq => ?_
  refine kk p l e0 R s m args below meth c H1 _ cells slots lsa Z C (hr.put he e2 oq ?_) (hs.put e2 oq (hr.2 a _ he).1) hl hc1 hc2 hz
  show H1[a]? = some (vp_cell _ _)
  rw [e1, vp_cell_i, vp_cell_i, arrV_store, e]
  congr 2
  funext q
  by_cases hq : q = z.toNat
  · subst hq
    simp [updV, va_up]
  · simp [updV, va_up, hq]
theorem wq_last {a N : Nat} {z : Int} {f : Nat → Int64} {v : Int64} (hdg : decode cc pc = .ok (.lastore, 1)) (he : h.1 a = some (eL E N f)) (hi : 0 ≤ z ∧ z < N) (kk : WP E n y cc ml rt (pc + 1) ls st (wUp h a (eL E N (va_up f z.toNat v))) bc bs Q) (hN : N ≤ 2147483647 := by decide) : WP E n y cc ml rt pc ls (.long v :: .int (iI z) :: .ref a :: st) h bc bs Q := by
  intro p l e0 R s m args below meth c H locs cells slots lsa Z C hr hs hl hc1 hc2 hz
  have e := iI_nat (a := z) (by omega)
  have ha := (hr.2 a _ he).2
  refine W.last C.1 C.2.1 ha ((C.2.2.2.2.2.2.2.2.2.1.1.2 1 _ rfl).1 N (fun j => .long (f j))) (fun q => by cases q) (by show ¬ (_ ∨ (arrV _ _ _).slots.size ≤ _); rw [arrV_size]; exact w_in hi hN) rfl rfl hdg fun H1 e1 e2 oq => ?_
  refine kk p l e0 R s m args below meth c H1 _ cells slots lsa Z C (hr.put he e2 oq ?_) (hs.put e2 oq (hr.2 a _ he).1) hl hc1 hc2 hz
  show H1[a]? = some (vp_cell _ _)
  rw [e1, vp_cell_l, vp_cell_l, arrV_store, e]
  congr 2
  funext q
  by_cases hq : q = z.toNat
  · subst hq
    simp [updV, va_up]
  · simp [updV, va_up, hq]
theorem wq_cast {a N : Nat} {z : Int} {f : Nat → Int32} {v : Int32} (hdg : decode cc pc = .ok (.castore, 1)) (he : h.1 a = some (eC E N f)) (hi : 0 ≤ z ∧ z < N) (hn : narrow .char (.int v) = .int v) (kk : WP E n y cc ml rt (pc + 1) ls st (wUp h a (eC E N (va_up f z.toNat v))) bc bs Q) (hN : N ≤ 2147483647 := by decide) : WP E n y cc ml rt pc ls (.int v :: .int (iI z) :: .ref a :: st) h bc bs Q := by
  intro p l e0 R s m args below meth c H locs cells slots lsa Z C hr hs hl hc1 hc2 hz
  have e := iI_nat (a := z) (by omega)
  have ha := (hr.2 a _ he).2
  refine W.cast C.1 C.2.1 ha ((C.2.2.2.2.2.2.2.2.2.1.1.2 3 _ rfl).1 N (fun j => .int (f j))) (fun q => by cases q) (by show ¬ (_ ∨ (arrV _ _ _).slots.size ≤ _); rw [arrV_size]; exact w_in hi hN) rfl rfl hdg fun H1 e1 e2 oq => ?_
  refine kk p l e0 R s m args below meth c H1 _ cells slots lsa Z C (hr.put he e2 oq ?_) (hs.put e2 oq (hr.2 a _ he).1) hl hc1 hc2 hz
  show H1[a]? = some (vp_cell _ _)
  rw [e1, hn, vp_cell_i, vp_cell_i, arrV_store, e]
  congr 2
  funext q
  by_cases hq : q = z.toNat
  · subst hq
    simp [updV, va_up]
  · simp [updV, va_up, hq]
theorem wq_zast {a N : Nat} {z : Int} {f : Nat → Int32} {v : Int32} (hdg : decode cc pc = .ok (.bastore, 1)) (he : h.1 a = some (eZ E N f)) (hi : 0 ≤ z ∧ z < N) (hn : narrow .boolean (.int v) = .int v) (kk : WP E n y cc ml rt (pc + 1) ls st (wUp h a (eZ E N (va_up f z.toNat v))) bc bs Q) (hN : N ≤ 2147483647 := by decide) : WP E n y cc ml rt pc ls (.int v :: .int (iI z) :: .ref a :: st) h bc bs Q := by
  intro p l e0 R s m args below meth c H locs cells slots lsa Z C hr hs hl hc1 hc2 hz
  have e := iI_nat (a := z) (by omega)
  have ha := (hr.2 a _ he).2
  refine W.zast C.1 C.2.1 ha ((C.2.2.2.2.2.2.2.2.2.1.1.2 4 _ rfl).1 N (fun j => .int (f j))) (fun q => by cases q) (by show ¬ (_ ∨ (arrV _ _ _).slots.size ≤ _); rw [arrV_size]; exact w_in hi hN) rfl rfl hdg fun H1 e1 e2 oq => ?_
  refine kk p l e0 R s m args below meth c H1 _ cells slots lsa Z C (hr.put he e2 oq ?_) (hs.put e2 oq (hr.2 a _ he).1) hl hc1 hc2 hz
  show H1[a]? = some (vp_cell _ _)
  rw [e1, hn, vp_cell_i, vp_cell_i, arrV_store, e]
  congr 2
  funext q
  by_cases hq : q = z.toNat
  · subst hq
    simp [updV, va_up]
  · simp [updV, va_up, hq]
theorem wq_aald {a N b t : Nat} {z : Int} {f : Nat → Option Nat} {ty : FieldType} (hdg : decode cc pc = .ok (.aaload, 1)) (he : h.1 a = some (eQ E t N f)) (ht : (wTys E)[t]? = some (wcA E t, ty)) (hty : ty.isReference = true) (hi : 0 ≤ z ∧ z < N) (hv : f z.toNat = some b) (kk : WP E n y cc ml rt (pc + 1) ls (.ref b :: st) h bc bs Q) (hN : N ≤ 2147483647 := by decide) : WP E n y cc ml rt pc ls (.int (iI z) :: .ref a :: st) h bc bs Q := by
  intro p l e0 R s m args below meth c H locs cells slots lsa Z C hr hs hl hc1 hc2 hz
  have e := iI_nat (a := z) (by omega)
  have ha := (hr.2 a _ he).2
  have hlt : z.toNat < N := by omega
  exact W.aald (v := .ref b) (ty := ty) C.1 C.2.1 ha ((C.2.2.2.2.2.2.2.2.2.1.1.2 t _ ht).1 N (fun j => va_rf (f j))) hty (fun q => by cases q) (by show ¬ (_ ∨ (arrV _ _ _).slots.size ≤ _); rw [arrV_size]; exact w_in hi hN) (by show (arrV _ _ _).slots[_]? = _; rw [e, arrV_read _ _ hlt, hv]; rfl) rfl rfl hdg (kk p l e0 R s m args below meth c H locs cells slots lsa Z C hr hs hl hc1 hc2 hz)
/-- a world of two cells -/
theorem wRep.two {E : wE} {h : hW} {H : Heap} {a b : Nat} {e f : va_E} (hr : wRep E h H) (ha : h.1 a = some e) (hb : h.1 b = some f) : va_P (wD E) vwCl [(a, e), (b, f)] H := by
  intro k q hk
  have h0 : k < 2 := (List.getElem?_eq_some_iff.mp hk).1
  rcases (show k = 0 ∨ k = 1 by omega) with rfl | rfl
  · cases hk
    exact (hr.2 a e ha).2
  · cases hk
    exact (hr.2 b f hb).2
theorem wq_aast {a b t ci N : Nat} {z : Int} {f : Nat → Option Nat} {r : vw_C} {vs : List Value} (hdg : decode cc pc = .ok (.aastore, 1)) (he : h.1 a = some (eQ E t N f)) (ht : (wTys E)[t]? = some (wcA E t, .object r.1)) (hb : h.1 b = some (.inr (ci, vs))) (hc : vwCl[ci]? = some r) (hi : 0 ≤ z ∧ z < N) (kk : WP E n y cc ml rt (pc + 1) ls st (wUp h a (eQ E t N (va_up f z.toNat (some b)))) bc bs Q) (hN : N ≤ 2147483647 := by decide) : WP E n y cc ml rt pc ls (.ref b :: .int (iI z) :: .ref a :: st) h bc bs Q := by
  intro p l e0 R s m args below meth c H locs cells slots lsa Z C hr hs hl hc1 hc2 hz
  have e := iI_nat (a := z) (by omega)
  have hK := C.2.2.2.2.2.2.2.2.2.1.1
  have ha := (hr.2 a _ he).2
  have hlt : z.toNat < N := by omega
  have h0 : ¬ iI z < 0 := fun q => w_in hi hN (Or.inl q)
  obtain ⟨r', hr', cellV, g1, g2, g3, -⟩ := (hr.2 b _ hb).2
  have hcls := (hK.1 ci r hc).2
  obtain ⟨kA, comp, k1, k2, k3, -⟩ := (hK.2 t _ ht).2
  have hcomp : comp = (wD E).1 ci := Option.some.inj (k3.symm.trans hcls.1)
  subst hcomp
  obtain ⟨kC, hkC, -⟩ := hcls.2
  refine W.aast C.1 C.2.1 ha (fun q h => by cases h) (fun h => by cases h) k1 k2 rfl hkC ⟨h0, by show _ < (arrV _ _ _).slots.size; rw [arrV_size, e]; exact hlt⟩ g1 (fun q h => by rw [g3] at h; cases h) (by rw [g2]; exact hkC) (by rw [g2]; exact va_assign hcls) rfl rfl hdg fun H1 e1 e2 oq => ?_
  refine kk p l e0 R s m args below meth c H1 _ cells slots lsa Z C (hr.put he e2 oq ?_) (hs.put e2 oq (hr.2 a _ he).1) hl hc1 hc2 hz
  show H1[a]? = some (vp_cell _ _)
  rw [e1, vp_cell_q, vp_cell_q, arrV_store, e]
  congr 2
  funext q
  by_cases hq : q = z.toNat
  · subst hq
    simp [updV, va_up, va_rf]
  · simp [updV, va_up, hq]
theorem w_assignA {s : State} {c comp : ClassId} {k : Class} {ty : FieldType} (hk : s.vm.classes[c]? = some k) (hkind : k.kind = .array comp ty) : s.vm.assignable c c = true := by
  show s.vm.assignableAux (255 + 1) c c = true
  rw [Vm.assignableAux]
  simp
/-- an int array into an array of int arrays -/
theorem wq_aastI {a b N M : Nat} {z : Int} {f : Nat → Option Nat} {g : Nat → Int32} (hdg : decode cc pc = .ok (.aastore, 1)) (he : h.1 a = some (eQ E 5 N f)) (hb : h.1 b = some (eI E M g)) (hi : 0 ≤ z ∧ z < N) (kk : WP E n y cc ml rt (pc + 1) ls st (wUp h a (eQ E 5 N (va_up f z.toNat (some b)))) bc bs Q) (hN : N ≤ 2147483647 := by decide) : WP E n y cc ml rt pc ls (.ref b :: .int (iI z) :: .ref a :: st) h bc bs Q := by
  intro p l e0 R s m args below meth c H locs cells slots lsa Z C hr hs hl hc1 hc2 hz
  have e := iI_nat (a := z) (by omega)
  have hK := C.2.2.2.2.2.2.2.2.2.1.1
  obtain ⟨-, kA, k1, k2⟩ := C.2.2.2.2.2.2.2.2.2.1.2.2.2.2.2.2.2.2.2.2
  have ha := (hr.2 a _ he).2
  have hbb := (hr.2 b _ hb).2
  have hlt : z.toNat < N := by omega
  have h0 : ¬ iI z < 0 := fun q => w_in hi hN (Or.inl q)
  obtain ⟨-, kC, hkC, cm, hkC2⟩ := (hK.2 0 _ rfl).1 M (fun j => .int (g j))
  refine W.aast C.1 C.2.1 ha (fun q h => by cases h) (fun h => by cases h) k1 k2 rfl hkC ⟨h0, by show _ < (arrV _ _ _).slots.size; rw [arrV_size, e]; exact hlt⟩ hbb (fun q h => by cases h) hkC (w_assignA hkC hkC2) rfl rfl hdg fun H1 e1 e2 oq => ?_
  refine kk p l e0 R s m args below meth c H1 _ cells slots lsa Z C (hr.put he e2 oq ?_) (hs.put e2 oq (hr.2 a _ he).1) hl hc1 hc2 hz
  show H1[a]? = some (vp_cell _ _)
  rw [e1, vp_cell_q, vp_cell_q, arrV_store, e]
  congr 2
  funext q
  by_cases hq : q = z.toNat
  · subst hq
    simp [updV, va_up, va_rf]
  · simp [updV, va_up, hq]
/-! ===== new ===== -/
theorem va_S.push {A : Nat → Prop} {H0 H H1 : Heap} {locs : List Loc} (hS : va_S A H0 H locs) (z : H1.size = H.size + 1) (oq : ∀ q : Nat, q < H.size → H1[q]? = H[q]?) : va_S A H0 H1 locs :=
  ⟨Nat.le_trans hS.1 (by omega), fun x h1 h2 => (oq x (Nat.lt_of_lt_of_le h1 hS.1)).trans (hS.2.1 x h1 h2), hS.2.2⟩
theorem wq_new {idx ci N : Nat} {fs : List Value} (hdg : decode cc pc = .ok (.new idx, 3)) (hw : wNew y.cls idx ci N fs) (hb : wb E ≤ h.2) (kk : WP E n y cc ml rt (pc + 3) ls (.ref h.2 :: st) (wPush h (.inr (ci, fs))) bc bs Q) : WP E n y cc ml rt pc ls st h (bc + 1) (bs + N) Q := by
  intro p l e0 R s m args below meth c H locs cells slots lsa Z C hr hs hl hc1 hc2 hz
  obtain ⟨Cn, T, tys, hc, h1, h2, h3, h4, h5, h6⟩ := hw
  have hts := C.2.2.2.2.2.1
  have hK := C.2.2.2.2.2.2.2.2.2.1.1
  have hKn := hK.1 ci _ hc
  refine W.newcK C.1 C.2.1 C.2.2.2.2.1 (hts _ h1) (hts _ h2) (hts _ h3) rfl hdg (by omega) (by omega) hKn.2.1 hr.1 fun H1 kC hkC e1 z1 o1 => ?_
  have o1 : ∀ q : Nat, q < H.size → H1[q]? = H[q]? := fun q hq => o1 q (by rw [← hr.1]; exact hq)
  have z1 : H1.size = H.size + 1 := by rw [z1, hr.1]
  have e1 : H1[H.size]? = some (blank ((wD E).1 ci) kC) := by rw [hr.1]; exact e1
  exact kk p l e0 R s m args below meth c H1 locs (cells + 1) (slots + N) lsa Z C (hr.push hb z1 o1 ⟨_, hc, (u_born tys hts h4 hKn hkC e1 h5).to h6⟩) (hs.push z1 o1) hl (by omega) (by omega) (fun v h3 q => by
    have h9 := hz v h3 q
    rw [show cells + (bc + 1) = cells + 1 + bc by omega, show slots + (bs + N) = slots + N + bs by omega] at h9
    exact h9)
theorem wq_newI {z : Int} (N : Nat) (hdg : decode cc pc = .ok (.newarray .int, 2)) (hw : Cond.arrayClass .int ∈ wAll) (hb : wb E ≤ h.2) (hz0 : z = (N : Int)) (kk : WP E n y cc ml rt (pc + 2) ls (.ref h.2 :: st) (wPush h (eI E N (fun _ => 0))) bc bs Q) (hN : N ≤ 60000000 := by decide) : WP E n y cc ml rt pc ls (.int (iI z) :: st) h (bc + 1) (bs + N) Q := by
  intro p l e0 R s m args below meth c H locs cells slots lsa Z C hr hs hl hc1 hc2 hz
  have hts := C.2.2.2.2.2.1
  have hK := C.2.2.2.2.2.2.2.2.2.1.1
  have hR : wR z := by omega
  have hlt0 : ¬ iI z < 0 := by rw [iI_0, iI_lt hR (by decide)]; omega
  have hcn : (iI z).toNatClampNeg = N := by rw [iI_nat hR]; omega
  refine va_newaK C.1 C.2.1 (atype := .int) (hts _ hw) rfl hdg rfl hlt0 hcn (by show N * _ ≤ _; simp [componentBytes, newarray.typeOf]; omega) (by omega) (by omega) hr.1 fun H1 cA e1 z1 o1 hAr hNm => ?_
  have hcA : cA = wcA E 0 := Option.some.inj (hNm.symm.trans (hK.2 0 _ rfl).2)
  subst hcA
  have o1 : ∀ q : Nat, q < H.size → H1[q]? = H[q]? := fun q hq => o1 q (by rw [← hr.1]; exact hq)
  have z1 : H1.size = H.size + 1 := by rw [z1, hr.1]
  refine kk p l e0 R s m args below meth c H1 locs (cells + 1) (slots + N) lsa Z C (hr.push hb z1 o1 ?_) (hs.push z1 o1) hl (by omega) (by omega) (fun v h3 q => by
    have h9 := hz v h3 q
    rw [show cells + (bc + 1) = cells + 1 + bc by omega, show slots + (bs + N) = slots + N + bs by omega] at h9
    exact h9)
  show H1[H.size]? = some (vp_cell _ _)
  rw [hr.1, e1, vp_cell_i]
  rfl
theorem wq_newL {z : Int} (N : Nat) (hdg : decode cc pc = .ok (.newarray .long, 2)) (hw : Cond.arrayClass .long ∈ wAll) (hb : wb E ≤ h.2) (hz0 : z = (N : Int)) (kk : WP E n y cc ml rt (pc + 2) ls (.ref h.2 :: st) (wPush h (eL E N (fun _ => 0))) bc bs Q) (hN : N ≤ 60000000 := by decide) : WP E n y cc ml rt pc ls (.int (iI z) :: st) h (bc + 1) (bs + N) Q := by
  intro p l e0 R s m args below meth c H locs cells slots lsa Z C hr hs hl hc1 hc2 hz
  have hts := C.2.2.2.2.2.1
  have hK := C.2.2.2.2.2.2.2.2.2.1.1
  have hR : wR z := by omega
  have hlt0 : ¬ iI z < 0 := by rw [iI_0, iI_lt hR (by decide)]; omega
  have hcn : (iI z).toNatClampNeg = N := by rw [iI_nat hR]; omega
  refine va_newaK C.1 C.2.1 (atype := .long) (hts _ hw) rfl hdg rfl hlt0 hcn (by show N * _ ≤ _; simp [componentBytes, newarray.typeOf]; omega) (by omega) (by omega) hr.1 fun H1 cA e1 z1 o1 hAr hNm => ?_
  have hcA : cA = wcA E 1 := Option.some.inj (hNm.symm.trans (hK.2 1 _ rfl).2)
  subst hcA
  have o1 : ∀ q : Nat, q < H.size → H1[q]? = H[q]? := fun q hq => o1 q (by rw [← hr.1]; exact hq)
  have z1 : H1.size = H.size + 1 := by rw [z1, hr.1]
  refine kk p l e0 R s m args below meth c H1 locs (cells + 1) (slots + N) lsa Z C (hr.push hb z1 o1 ?_) (hs.push z1 o1) hl (by omega) (by omega) (fun v h3 q => by
    have h9 := hz v h3 q
    rw [show cells + (bc + 1) = cells + 1 + bc by omega, show slots + (bs + N) = slots + N + bs by omega] at h9
    exact h9)
  show H1[H.size]? = some (vp_cell _ _)
  rw [hr.1, e1, vp_cell_l]
  rfl
theorem wq_newC {z : Int} (N : Nat) (hdg : decode cc pc = .ok (.newarray .char, 2)) (hw : Cond.arrayClass .char ∈ wAll) (hb : wb E ≤ h.2) (hz0 : z = (N : Int)) (kk : WP E n y cc ml rt (pc + 2) ls (.ref h.2 :: st) (wPush h (eC E N (fun _ => 0))) bc bs Q) (hN : N ≤ 60000000 := by decide) : WP E n y cc ml rt pc ls (.int (iI z) :: st) h (bc + 1) (bs + N) Q := by
  intro p l e0 R s m args below meth c H locs cells slots lsa Z C hr hs hl hc1 hc2 hz
  have hts := C.2.2.2.2.2.1
  have hK := C.2.2.2.2.2.2.2.2.2.1.1
  have hR : wR z := by omega
  have hlt0 : ¬ iI z < 0 := by rw [iI_0, iI_lt hR (by decide)]; omega
  have hcn : (iI z).toNatClampNeg = N := by rw [iI_nat hR]; omega
  refine va_newaK C.1 C.2.1 (atype := .char) (hts _ hw) rfl hdg rfl hlt0 hcn (by show N * _ ≤ _; simp [componentBytes, newarray.typeOf]; omega) (by omega) (by omega) hr.1 fun H1 cA e1 z1 o1 hAr hNm => ?_
  have hcA : cA = wcA E 3 := Option.some.inj (hNm.symm.trans (hK.2 3 _ rfl).2)
  subst hcA
  have o1 : ∀ q : Nat, q < H.size → H1[q]? = H[q]? := fun q hq => o1 q (by rw [← hr.1]; exact hq)
  have z1 : H1.size = H.size + 1 := by rw [z1, hr.1]
  refine kk p l e0 R s m args below meth c H1 locs (cells + 1) (slots + N) lsa Z C (hr.push hb z1 o1 ?_) (hs.push z1 o1) hl (by omega) (by omega) (fun v h3 q => by
    have h9 := hz v h3 q
    rw [show cells + (bc + 1) = cells + 1 + bc by omega, show slots + (bs + N) = slots + N + bs by omega] at h9
    exact h9)
  show H1[H.size]? = some (vp_cell _ _)
  rw [hr.1, e1, vp_cell_i]
  rfl
theorem wq_newZ {z : Int} (N : Nat) (hdg : decode cc pc = .ok (.newarray .boolean, 2)) (hw : Cond.arrayClass .boolean ∈ wAll) (hb : wb E ≤ h.2) (hz0 : z = (N : Int)) (kk : WP E n y cc ml rt (pc + 2) ls (.ref h.2 :: st) (wPush h (eZ E N (fun _ => 0))) bc bs Q) (hN : N ≤ 60000000 := by decide) : WP E n y cc ml rt pc ls (.int (iI z) :: st) h (bc + 1) (bs + N) Q := by
  intro p l e0 R s m args below meth c H locs cells slots lsa Z C hr hs hl hc1 hc2 hz
  have hts := C.2.2.2.2.2.1
  have hK := C.2.2.2.2.2.2.2.2.2.1.1
  have hR : wR z := by omega
  have hlt0 : ¬ iI z < 0 := by rw [iI_0, iI_lt hR (by decide)]; omega
  have hcn : (iI z).toNatClampNeg = N := by rw [iI_nat hR]; omega
  refine va_newaK C.1 C.2.1 (atype := .boolean) (hts _ hw) rfl hdg rfl hlt0 hcn (by show N * _ ≤ _; simp [componentBytes, newarray.typeOf]; omega) (by omega) (by omega) hr.1 fun H1 cA e1 z1 o1 hAr hNm => ?_
  have hcA : cA = wcA E 4 := Option.some.inj (hNm.symm.trans (hK.2 4 _ rfl).2)
  subst hcA
  have o1 : ∀ q : Nat, q < H.size → H1[q]? = H[q]? := fun q hq => o1 q (by rw [← hr.1]; exact hq)
  have z1 : H1.size = H.size + 1 := by rw [z1, hr.1]
  refine kk p l e0 R s m args below meth c H1 locs (cells + 1) (slots + N) lsa Z C (hr.push hb z1 o1 ?_) (hs.push z1 o1) hl (by omega) (by omega) (fun v h3 q => by
    have h9 := hz v h3 q
    rw [show cells + (bc + 1) = cells + 1 + bc by omega, show slots + (bs + N) = slots + N + bs by omega] at h9
    exact h9)
  show H1[H.size]? = some (vp_cell _ _)
  rw [hr.1, e1, vp_cell_i]
  rfl
theorem wq_newQ {idx t : Nat} {z : Int} {Cn : String} (N : Nat) (hdg : decode cc pc = .ok (.anewarray idx, 3)) (hw : Cond.classLink y.cls idx Cn ∈ wAll) (ht : (wTys E)[t]? = some (wcA E t, .object Cn)) (hAO : ∀ s : State, wK E s → va_AO Cn s) (hb : wb E ≤ h.2) (hz0 : z = (N : Int)) (kk : WP E n y cc ml rt (pc + 3) ls (.ref h.2 :: st) (wPush h (eQ E t N (fun _ => none))) bc bs Q) (hN : N ≤ 60000000 := by decide) : WP E n y cc ml rt pc ls (.int (iI z) :: st) h (bc + 1) (bs + N) Q := by
  intro p l e0 R s m args below meth c H locs cells slots lsa Z C hr hs hl hc1 hc2 hz
  have hts := C.2.2.2.2.2.1
  have hK := C.2.2.2.2.2.2.2.2.2.1.1
  have hR : wR z := by omega
  have hlt0 : ¬ iI z < 0 := by rw [iI_0, iI_lt hR (by decide)]; omega
  have hcn : (iI z).toNatClampNeg = N := by rw [iI_nat hR]; omega
  refine W.anew C.1 C.2.1 C.2.2.2.2.1 (hts _ hw) (va_AO.use (hAO s C.2.2.2.2.2.2.2.2.2.1)) rfl hdg rfl hlt0 (by rw [hcn]; omega) (by omega) (by rw [hcn]; omega) fun cA kA comp f1 f2 f3 f4 => ?_
  rw [hcn]
  obtain ⟨kA', comp', -, -, -, k4⟩ := (hK.2 t _ ht).2
  have hcA : cA = wcA E t := Option.some.inj (f1.symm.trans k4)
  subst hcA
  generalize hH1 : H.push ({ cls := wcA E t, slots := Array.replicate N .null, vm := .none } : Cell) = H1
  have z1 : H1.size = H.size + 1 := by rw [← hH1, Array.size_push]
  have e1 : H1[H.size]? = some (arrV (wcA E t) N (fun _ => .null)) := by rw [← hH1, Array.getElem?_push_size, ← arrV_new]
  have o1 : ∀ q : Nat, q < H.size → H1[q]? = H[q]? := fun q hq => by rw [← hH1, Array.getElem?_push, if_neg (Nat.ne_of_lt hq)]
  have k9 := kk p l e0 R s m args below meth c H1 locs (cells + 1) (slots + N) lsa Z C (hr.push hb z1 o1 (show H1[H.size]? = some (vp_cell _ _) by rw [e1, vp_cell_q]; rfl)) (hs.push z1 o1) hl (by omega) (by omega) (fun v h3 q => by
    have h9 := hz v h3 q
    rw [show cells + (bc + 1) = cells + 1 + bc by omega, show slots + (bs + N) = slots + N + bs by omega] at h9
    exact h9)
  rw [← hr.1] at k9
  exact k9
/-- the constructor of Object -/
theorem wq_obj {idx a : Nat} (hdg : decode cc pc = .ok (.invokespecial idx, 3)) (hw : Cond.methodLink y.cls idx objectInit ∈ wAll) (hi : Cond.instanceMethod objectInit ∈ wAll) (hcd : Cond.code objectInit ⟨#[0xb1]⟩ 1 none ∈ wAll) (hst : (st.map fun v => v.category).sum ≤ 8) (kk : WP E (n + 1) y cc ml rt (pc + 3) ls st h bc bs Q) : WP E (n + 1) y cc ml rt pc ls (.ref a :: st) h bc bs Q := by
  intro p l e0 R s m args below meth c H locs cells slots lsa Z C hr hs hl hc1 hc2 hz
  have hts := C.2.2.2.2.2.1
  refine W.objInit C.1 C.2.1 C.2.2.2.2.1 (hts _ hw) (hts _ hi) (hts _ hcd) rfl (by rw [C.2.2.1]; exact hl.1) rfl hdg (by have := C.2.2.2.2.2.2.2.1; omega) (by have := C.2.2.2.2.2.2.2.2.1; show 2 * 0 + _ + 12 ≤ _; omega) ?_
  exact kk p l e0 R s m args below meth c H locs cells slots lsa Z C hr hs hl hc1 hc2 hz
theorem wq_copyI {idx a0 a n0 n1 : Nat} {sp dp k : Int} {f g : Nat → Int32} (hdg : decode cc pc = .ok (.invokestatic idx, 3)) (hw : Cond.methodLink y.cls idx arraycopyName ∈ wAll) (hnat : Cond.native arraycopyName ∈ wAll) (hsta : Cond.static arraycopyName ∈ wAll) (hini : Cond.initialized "java/lang/System" ∈ wAll) (he0 : h.1 a0 = some (eI E n0 f)) (he : h.1 a = some (eI E n1 g)) (hrg : 0 ≤ sp ∧ 0 ≤ dp ∧ 0 ≤ k ∧ sp + k ≤ n0 ∧ dp + k ≤ n1 ∧ (n0 : Int) ≤ 2147483647 ∧ (n1 : Int) ≤ 2147483647) (hst : (st.map fun v => v.category).sum ≤ 8) (kk : WP E (n + 1) y cc ml rt (pc + 3) ls st (wUp h a (eI E n1 (va_cpy f g sp.toNat dp.toNat k.toNat))) bc bs Q) : WP E (n + 1) y cc ml rt pc ls (.int (iI k) :: .int (iI dp) :: .ref a :: .int (iI sp) :: .ref a0 :: st) h bc bs Q := by
  intro p l e0 R s m args below meth c H locs cells slots lsa Z C hr hs hl hc1 hc2 hz
  have hts := C.2.2.2.2.2.1
  have hK := C.2.2.2.2.2.2.2.2.2.1.1
  have hsp : wR sp := by omega
  have hdp : wR dp := by omega
  have hk : wR k := by omega
  have hnn : ∀ z : Int, wR z → 0 ≤ z → ¬ iI z < 0 := fun z hz h0 => by rw [iI_0, iI_lt hz (by decide)]; omega
  intro T hT X
  have hc0 : H[a0]? = some (vp_cell (wcA E 0) (n0, .inl f)) := (hr.2 a0 _ he0).2
  have hc1' : H[a]? = some (vp_cell (wcA E 0) (n1, .inl g)) := (hr.2 a _ he).2
  obtain ⟨-, k0, hk0, cm0, hkk0⟩ := (hK.2 0 _ rfl).1 n0 (fun j => .int (f j))
  obtain ⟨-, k1, hk1, cm1, hkk1⟩ := (hK.2 0 _ rfl).1 n1 (fun j => .int (g j))
  have esp := iI_nat hsp
  have edp := iI_nat hdp
  have ek := iI_nat hk
  have hroom : 2 * (F0 m pc lsa (.int (iI k) :: .int (iI dp) :: .ref a :: .int (iI sp) :: .ref a0 :: st)).monitorRoom + (st.map fun v => v.category).sum + (nativeFrameWords "java/lang/System" "arraycopy" 5 + 11) ≤ R.locals := by
    have h9 := C.2.2.2.2.2.2.2.2.1
    have e9 : nativeFrameWords "java/lang/System" "arraycopy" 5 + 11 ≤ 30 := by decide
    show 2 * 0 + _ + _ ≤ _
    omega
  obtain ⟨vm', X', step⟩ := X.arraycopy C.1 C.2.2.2.2.1 (hts _ hw) (hts _ hnat) (hts _ hsta) (hts _ hini) (src := a0) (dst := a) (cs := vp_cell (wcA E 0) (n0, .inl f)) (cd := vp_cell (wcA E 0) (n1, .inl g)) (srcPos := iI sp) (destPos := iI dp) (n := iI k) (by rw [hT]; exact hc0) (by rw [hT]; exact hc1')
    (fun _ h => by cases h) (fun _ h => by cases h) (fun h => by cases h) (fun h => by cases h) hk0 hk1 hkk0 hkk1 (by simp [refKind]) (hnn sp hsp hrg.1) (hnn dp hdp hrg.2.1) (hnn k hk hrg.2.2.1)
    (by rw [iI_toInt hsp, iI_toInt hk]; show ¬ _ > ((arrV (wcA E 0) n0 (fun j => .int (f j))).slots.size : Int); rw [arrV_size]; omega)
    (by rw [iI_toInt hdp, iI_toInt hk]; show ¬ _ > ((arrV (wcA E 0) n1 (fun j => .int (g j))).slots.size : Int); rw [arrV_size]; omega)
    (fun vm₁ _ i hi => by
      rw [ek] at hi
      have ev : (vp_cell (wcA E 0) (n0, .inl f)).slots.getD ((iI sp).toNatClampNeg + i) .null = .int (f ((iI sp).toNatClampNeg + i)) := by
        show (arrV (wcA E 0) n0 (fun j => .int (f j))).slots.getD _ _ = _
        rw [Array.getD_eq_getD_getElem?, arrV_read _ _ (by rw [esp]; omega)]
        rfl
      refine ⟨?_, ?_⟩
      · rw [ev]
        rfl
      · rw [ev]
        exact trivial)
    (g := F0 m pc lsa (.int (iI k) :: .int (iI dp) :: .ref a :: .int (iI sp) :: .ref a0 :: st)) rfl (by rw [C.2.2.1]; exact hl.1) (rest := st) rfl (by rw [C.2.1]; exact hdg) (by have := C.2.2.2.2.2.2.2.1; omega) hroom
  have e1 : copied (vp_cell (wcA E 0) (n0, .inl f)) (vp_cell (wcA E 0) (n1, .inl g)) (iI sp) (iI dp) (iI k) = vp_cell (wcA E 0) (n1, .inl (va_cpy f g (iI sp).toNatClampNeg (iI dp).toNatClampNeg (iI k).toNatClampNeg)) := va_copied (fun z => .int z) (wcA E 0) (wcA E 0) f g (by rw [esp, ek]; omega)
  rw [e1, esp, edp, ek] at X' step
  have hlt : a < H.size := (Array.getElem?_eq_some_iff.mp hc1').1
  have oq : ∀ (cell : Cell) (q : Nat), q ≠ a → (H.setIfInBounds a cell)[q]? = H[q]? := fun cell q hq => by simp [Array.getElem?_setIfInBounds, Ne.symm hq]
  have hS' : ∀ L : List Loc, (∀ q ∈ L, wA E q.base) → va_S (wA E) s.heap (H.setIfInBounds a (vp_cell (wcA E 0) (n1, .inl (va_cpy f g sp.toNat dp.toNat k.toNat)))) (locs ++ L) := fun L hL => ⟨by simp; exact hs.1, fun q g1 g2 => by
      rw [oq _ q (fun e => g2 (by rw [e]; exact (hr.2 a _ he).1))]
      exact hs.2.1 q g1 g2, fun q hq => (List.mem_append.mp hq).elim (hs.2.2 q) (hL q)⟩
  obtain ⟨t, a1, b1⟩ := kk p l e0 R s m args below meth c _ _ cells slots lsa Z C (hr.put he (H1 := H.setIfInBounds a (vp_cell (wcA E 0) (n1, .inl (va_cpy f g sp.toNat dp.toNat k.toNat)))) (by simp) (oq _) (show (H.setIfInBounds a _)[a]? = some _ by simp [Array.getElem?_setIfInBounds, hlt])) (hS' _ (fun q hq => by
    obtain ⟨z, -, hz⟩ := List.mem_map.mp hq
    rw [← hz]
    exact (hr.2 a _ he).1)) hl hc1 hc2 hz _ (by rw [← hT]; rfl) X'
  exact ⟨t, step t a1, b1⟩
theorem wq_copyL {idx a0 a n0 n1 : Nat} {sp dp k : Int} {f g : Nat → Int64} (hdg : decode cc pc = .ok (.invokestatic idx, 3)) (hw : Cond.methodLink y.cls idx arraycopyName ∈ wAll) (hnat : Cond.native arraycopyName ∈ wAll) (hsta : Cond.static arraycopyName ∈ wAll) (hini : Cond.initialized "java/lang/System" ∈ wAll) (he0 : h.1 a0 = some (eL E n0 f)) (he : h.1 a = some (eL E n1 g)) (hrg : 0 ≤ sp ∧ 0 ≤ dp ∧ 0 ≤ k ∧ sp + k ≤ n0 ∧ dp + k ≤ n1 ∧ (n0 : Int) ≤ 2147483647 ∧ (n1 : Int) ≤ 2147483647) (hst : (st.map fun v => v.category).sum ≤ 8) (kk : WP E (n + 1) y cc ml rt (pc + 3) ls st (wUp h a (eL E n1 (va_cpy f g sp.toNat dp.toNat k.toNat))) bc bs Q) : WP E (n + 1) y cc ml rt pc ls (.int (iI k) :: .int (iI dp) :: .ref a :: .int (iI sp) :: .ref a0 :: st) h bc bs Q := by
  intro p l e0 R s m args below meth c H locs cells slots lsa Z C hr hs hl hc1 hc2 hz
  have hts := C.2.2.2.2.2.1
  have hK := C.2.2.2.2.2.2.2.2.2.1.1
  have hsp : wR sp := by omega
  have hdp : wR dp := by omega
  have hk : wR k := by omega
  have hnn : ∀ z : Int, wR z → 0 ≤ z → ¬ iI z < 0 := fun z hz h0 => by rw [iI_0, iI_lt hz (by decide)]; omega
  intro T hT X
  have hc0 : H[a0]? = some (vp_cell (wcA E 1) (n0, .inr (.inl f))) := (hr.2 a0 _ he0).2
  have hc1' : H[a]? = some (vp_cell (wcA E 1) (n1, .inr (.inl g))) := (hr.2 a _ he).2
  obtain ⟨-, k0, hk0, cm0, hkk0⟩ := (hK.2 1 _ rfl).1 n0 (fun j => .long (f j))
  obtain ⟨-, k1, hk1, cm1, hkk1⟩ := (hK.2 1 _ rfl).1 n1 (fun j => .long (g j))
  have esp := iI_nat hsp
  have edp := iI_nat hdp
  have ek := iI_nat hk
  have hroom : 2 * (F0 m pc lsa (.int (iI k) :: .int (iI dp) :: .ref a :: .int (iI sp) :: .ref a0 :: st)).monitorRoom + (st.map fun v => v.category).sum + (nativeFrameWords "java/lang/System" "arraycopy" 5 + 11) ≤ R.locals := by
    have h9 := C.2.2.2.2.2.2.2.2.1
    have e9 : nativeFrameWords "java/lang/System" "arraycopy" 5 + 11 ≤ 30 := by decide
    show 2 * 0 + _ + _ ≤ _
    omega
  obtain ⟨vm', X', step⟩ := X.arraycopy C.1 C.2.2.2.2.1 (hts _ hw) (hts _ hnat) (hts _ hsta) (hts _ hini) (src := a0) (dst := a) (cs := vp_cell (wcA E 1) (n0, .inr (.inl f))) (cd := vp_cell (wcA E 1) (n1, .inr (.inl g))) (srcPos := iI sp) (destPos := iI dp) (n := iI k) (by rw [hT]; exact hc0) (by rw [hT]; exact hc1')
    (fun _ h => by cases h) (fun _ h => by cases h) (fun h => by cases h) (fun h => by cases h) hk0 hk1 hkk0 hkk1 (by simp [refKind]) (hnn sp hsp hrg.1) (hnn dp hdp hrg.2.1) (hnn k hk hrg.2.2.1)
    (by rw [iI_toInt hsp, iI_toInt hk]; show ¬ _ > ((arrV (wcA E 1) n0 (fun j => .long (f j))).slots.size : Int); rw [arrV_size]; omega)
    (by rw [iI_toInt hdp, iI_toInt hk]; show ¬ _ > ((arrV (wcA E 1) n1 (fun j => .long (g j))).slots.size : Int); rw [arrV_size]; omega)
    (fun vm₁ _ i hi => by
      rw [ek] at hi
      have ev : (vp_cell (wcA E 1) (n0, .inr (.inl f))).slots.getD ((iI sp).toNatClampNeg + i) .null = .long (f ((iI sp).toNatClampNeg + i)) := by
        show (arrV (wcA E 1) n0 (fun j => .long (f j))).slots.getD _ _ = _
        rw [Array.getD_eq_getD_getElem?, arrV_read _ _ (by rw [esp]; omega)]
        rfl
      refine ⟨?_, ?_⟩
      · rw [ev]
        rfl
      · rw [ev]
        exact trivial)
    (g := F0 m pc lsa (.int (iI k) :: .int (iI dp) :: .ref a :: .int (iI sp) :: .ref a0 :: st)) rfl (by rw [C.2.2.1]; exact hl.1) (rest := st) rfl (by rw [C.2.1]; exact hdg) (by have := C.2.2.2.2.2.2.2.1; omega) hroom
  have e1 : copied (vp_cell (wcA E 1) (n0, .inr (.inl f))) (vp_cell (wcA E 1) (n1, .inr (.inl g))) (iI sp) (iI dp) (iI k) = vp_cell (wcA E 1) (n1, .inr (.inl (va_cpy f g (iI sp).toNatClampNeg (iI dp).toNatClampNeg (iI k).toNatClampNeg))) := va_copied (fun z => .long z) (wcA E 1) (wcA E 1) f g (by rw [esp, ek]; omega)
  rw [e1, esp, edp, ek] at X' step
  have hlt : a < H.size := (Array.getElem?_eq_some_iff.mp hc1').1
  have oq : ∀ (cell : Cell) (q : Nat), q ≠ a → (H.setIfInBounds a cell)[q]? = H[q]? := fun cell q hq => by simp [Array.getElem?_setIfInBounds, Ne.symm hq]
  have hS' : ∀ L : List Loc, (∀ q ∈ L, wA E q.base) → va_S (wA E) s.heap (H.setIfInBounds a (vp_cell (wcA E 1) (n1, .inr (.inl (va_cpy f g sp.toNat dp.toNat k.toNat))))) (locs ++ L) := fun L hL => ⟨by simp; exact hs.1, fun q g1 g2 => by
      rw [oq _ q (fun e => g2 (by rw [e]; exact (hr.2 a _ he).1))]
      exact hs.2.1 q g1 g2, fun q hq => (List.mem_append.mp hq).elim (hs.2.2 q) (hL q)⟩
  obtain ⟨t, a1, b1⟩ := kk p l e0 R s m args below meth c _ _ cells slots lsa Z C (hr.put he (H1 := H.setIfInBounds a (vp_cell (wcA E 1) (n1, .inr (.inl (va_cpy f g sp.toNat dp.toNat k.toNat))))) (by simp) (oq _) (show (H.setIfInBounds a _)[a]? = some _ by simp [Array.getElem?_setIfInBounds, hlt])) (hS' _ (fun q hq => by
    obtain ⟨z, -, hz⟩ := List.mem_map.mp hq
    rw [← hz]
    exact (hr.2 a _ he).1)) hl hc1 hc2 hz _ (by rw [← hT]; rfl) X'
  exact ⟨t, step t a1, b1⟩
end WQA
