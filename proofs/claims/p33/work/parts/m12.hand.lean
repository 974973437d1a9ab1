/-! ===== what the program does not lay: statics, narrow fields, copies, writes out of the class's own methods ===== -/
theorem wLs_ok {l : List (Option Value)} {ls : wLoc} (h : ∀ i, i < l.length → ∀ v, l[i]? = some (some v) → ls i = some v) : ∀ (k : Nat) (v : Value), wLs l k = some v → ls k = some v := by
  intro k v hk
  unfold wLs at hk
  cases hl : l[k]? with
  | none => rw [hl] at hk; cases hk
  | some o =>
    rw [hl] at hk
    cases hk
    exact h k (List.getElem?_eq_some_iff.mp hl).1 v hl
/-- a list of locals against the known ones -/
def wChk (ls : wLoc) : Nat → List (Option Value) → Prop
  | _, [] => True
  | i, none :: l => wChk ls (i + 1) l
  | i, some v :: l => ls i = some v ∧ wChk ls (i + 1) l
theorem wChk_at {ls : wLoc} : ∀ (l : List (Option Value)) (i j : Nat) (v : Value), wChk ls i l → l[j]? = some (some v) → ls (i + j) = some v
  | [], _, _, _, _, h => by cases h
  | none :: l, i, 0, v, _, h => by cases h
  | none :: l, i, j + 1, v, hc, h => by
    have := wChk_at l (i + 1) j v hc h
    rw [← this]
    congr 1
    omega
  | some w :: l, i, 0, v, hc, h => by cases h; exact hc.1
  | some w :: l, i, j + 1, v, hc, h => by
    have := wChk_at l (i + 1) j v hc.2 h
    rw [← this]
    congr 1
    omega
theorem wLs_sub {ls : wLoc} {l : List (Option Value)} (h : wChk ls 0 l) : ∀ (k : Nat) (v : Value), wLs l k = some v → ls k = some v :=
  wLs_ok (fun i _ v hv => by have := wChk_at l 0 i v h hv; rwa [Nat.zero_add] at this)
section AT
variable {E : wE} {n : Nat} {y : MethodName} {cc : ByteArray} {ml : Nat} {rt : Option FieldType} {S R : Type} {vt : R → Option Value} {L : S → gR} {ca : caT} {pc : Nat} {ls : wLoc} {st : List Value} {s : S} {h : hW} {o : Option (R × S)} {u : Option R} {l : List (Option Value)}
theorem wr_at (k : WR E n y cc ml rt vt h pc (wLs l) st u) (hc : wChk ls 0 l) : WR E n y cc ml rt vt h pc ls st u := wr_loc (wLs_sub hc) k
theorem wf_at (k : WF E n y cc ml rt vt L ca pc (wLs l) st s o) (hc : wChk ls 0 l) : WF E n y cc ml rt vt L ca pc ls st s o := wf_loc (wLs_sub hc) k
end AT
def aSt (E : wE) (k : Nat) : Nat := match wsv E k with
  | .ref a => a
  | _ => 0
def wGE (E : wE) : Prop := (wsv E 0 = .ref (aSt E 0) ∧ wro E (aSt E 0) = some (.int, 4, fun j : Nat => .int (iI (sRow 0 j)))) ∧ (wsv E 1 = .ref (aSt E 1) ∧ wro E (aSt E 1) = some (.int, 4, fun j : Nat => .int (iI (sRow 1 j)))) ∧ (wsv E 2 = .ref (aSt E 2) ∧ wro E (aSt E 2) = some (.int, 13, fun j : Nat => .int (iI (sRow 2 j)))) ∧ True
theorem nar_z {v : Int} (h : v = 0 ∨ v = 1) : narrow .boolean (.int (iI v)) = .int (iI v) := by
  rcases h with rfl | rfl <;> rfl
theorem nar_c {v : Int} (h : 0 ≤ v ∧ v ≤ 65535) : narrow .char (.int (iI v)) = .int (iI v) := by
  show Value.int ((iI v).toUInt32.toUInt16.toUInt32.toInt32) = Value.int (iI v)
  congr 1
  apply Int32.toBitVec_inj.mp
  apply BitVec.eq_of_toNat_eq
  have e : (iI v).toBitVec.toNat = v.toNat := by
    show (BitVec.ofInt 32 v).toNat = _
    rw [BitVec.toNat_ofInt]
    omega
  have e2 : (iI v).toUInt32.toUInt16.toUInt32.toInt32.toBitVec.toNat = (iI v).toBitVec.toNat % 65536 := by
    simp
  rw [e2, e]
  omega
theorem fit_z {v : Int} (h : v = 0 ∨ v = 1) : fits .boolean (.int (iI v)) = true := by
  rcases h with rfl | rfl <;> rfl
theorem fit_c {v : Int} (h : 0 ≤ v ∧ v ≤ 65535) : fits .char (.int (iI v)) = true := by
  have h0 : (0 : Int32) ≤ iI v := by
    rw [iI_0, iI_le (by decide) (by omega)]
    exact h.1
  have h1 : iI v ≤ (65535 : Int32) := by
    rw [show (65535 : Int32) = iI 65535 from rfl, iI_le (by omega) (by decide)]
    exact h.2
  simp [fits, h0, h1]
theorem lk_none {ps : List (Int × Int)} {dflt z : Int} (h : ∀ q ∈ ps, q.1 ≠ z) : Op.lookupswitch.offset ps dflt z = dflt := by
  apply Op.lookupswitch.offset_none
  rw [List.find?_eq_none]
  intro q hq
  simpa using h q hq
theorem cpy_va {α : Type} {β : Type} {w : α → β} {f g : Int → α} {k : Int} : (va_cpy (fun j : Nat => w (f j)) (fun j : Nat => w (g j)) (0 : Int).toNat (0 : Int).toNat k.toNat) = fun j : Nat => w (cpy f g 0 0 k j) := by
  funext j
  unfold va_cpy cpy
  by_cases q : (j : Int) < k
  · rw [if_pos (by constructor <;> omega), if_pos (by omega)]
    simp
  · rw [if_neg (by omega), if_neg (by omega)]
section HR
variable {E : wE} {n : Nat} {y : MethodName} {cc : ByteArray} {ml : Nat} {rt : Option FieldType} {R : Type} {vt : R → Option Value} {ca : caT} {pc : Nat} {ls : wLoc} {st : List Value} {G : gR} {k k2 : Int} {H H2 : hR} {K : hR → Option (R × hR)} {idx : Nat}
theorem wf_cpyB (hdg : decode cc pc = .ok (.invokestatic idx, 3)) (hw : Cond.methodLink y.cls idx arraycopyName ∈ wAll) (hk : 0 ≤ k ∧ k < 11) (hk2 : 0 ≤ k2 ∧ k2 < 11) (hne : ¬ k2 = k) (hH2 : G.1.1 k2 = H2) (hst : (st.map fun v => v.category).sum ≤ 8) (kk : ∀ s1, WF E (n + 1) y cc ml rt vt (setH G k) ca (pc + 3) ls st s1 (K s1)) : WF E (n + 1) y cc ml rt vt (setH G k) ca pc ls (.int (iI 18) :: .int (iI 0) :: .ref (aBits E k) :: .int (iI 0) :: .ref (aBits E k2) :: st) H (bnd (hBits H (cpy (fun j => H2.1 6 j 0) (fun j => H.1 6 j 0) 0 0 18)) K) := fun x s' ho => by
  obtain ⟨h1, h2⟩ := kk _ x s' ho
  have hp : phi (setH G k (hBits H (cpy (fun j => H2.1 6 j 0) (fun j => H.1 6 j 0) 0 0 18))) = phi (setH G k H) := phi_same (by simp [hBits])
  rw [hp] at h1 h2
  refine ⟨h1, fun h hr => wq_copyL hdg hw cp_nat cp_sta cp_ini (rd_bits hr ((setH_ne hne).trans hH2) hk2) (rd_bits hr setH_at hk) (by decide) hst (h2 _ ?_)⟩
  rw [cpy_va (w := jL) (f := fun j => H2.1 6 j 0) (g := fun j => H.1 6 j 0) (k := 18)]
  exact wr_bitsF hr hk (fun j _ => rfl) (fun j _ => rfl)
theorem wf_cpyC {c c2 z : Int} (hdg : decode cc pc = .ok (.invokestatic idx, 3)) (hw : Cond.methodLink y.cls idx arraycopyName ∈ wAll) (hk : 0 ≤ k ∧ k < 11) (hk2 : 0 ≤ k2 ∧ k2 < 11) (hne : ¬ k2 = k) (hH2 : G.1.1 k2 = H2) (hc2 : 0 ≤ c2 ∧ c2 < 5) (hc : 0 ≤ c ∧ c < 5) (hg : 0 ≤ z ∧ z ≤ H2.1 4 1 0 ∧ z ≤ H.1 4 1 0 ∧ H2.1 4 1 0 ≤ 2147483647 ∧ H.1 4 1 0 ≤ 2147483647) (hst : (st.map fun v => v.category).sum ≤ 8) (kk : ∀ s1, WF E (n + 1) y cc ml rt vt (setH G k) ca (pc + 3) ls st s1 (K s1)) : WF E (n + 1) y cc ml rt vt (setH G k) ca pc ls (.int (iI z) :: .int (iI 0) :: .ref (ca k.toNat c.toNat) :: .int (iI 0) :: .ref (ca k2.toNat c2.toNat) :: st) H (bnd (hCol H c (cpy (fun j => H2.1 5 c2 j) (fun j => H.1 5 c j) 0 0 z)) K) := fun x s' ho => by
  obtain ⟨h1, h2⟩ := kk _ x s' ho
  have hp : phi (setH G k (hCol H c (cpy (fun j => H2.1 5 c2 j) (fun j => H.1 5 c j) 0 0 z))) = phi (setH G k H) := phi_same (by simp [hCol])
  rw [hp] at h1 h2
  refine ⟨h1, fun h hr => wq_copyI hdg hw cp_nat cp_sta cp_ini (rd_col hr ((setH_ne hne).trans hH2) hk2 hc2) (rd_col hr setH_at hk hc) (by unfold rmN; omega) hst (h2 _ ?_)⟩
  rw [cpy_va (w := iI) (f := fun j => H2.1 5 c2 j) (g := fun j => H.1 5 c j) (k := z)]
  exact wr_colF hr hk hc (fun j => rfl)
end HR
theorem va_ldcwF {p : Program} {l : Launch} {e : Env} {R : Room} {s : State} {m : MethodId} {args : Array Value} {below : List Frame} {meth : Method} {c : Code} {locs : List Loc} {cells slots : Nat} {T : State} (X : Stand p l e R s m args below meth c T locs cells slots) (hexec : p.tables.exec = Jvm.exec) {own : String} {index : Nat} {v : UInt32} (hown : s.vm.findClass own = some m.cls)
    (hconst : (Cond.constantFloat own index v).before args s = true) {g : JFrame} (hg : g.method = m) (hdg : decode c.code g.pc = .ok (.ldc_w index, 3)) :
    ∀ target, Steps p.tables e below (T.setTop { g with pc := g.pc + 3, stack := .float v :: g.stack }) target → Steps p.tables e below (T.setTop g) target := by
  obtain ⟨k, cf, hk, hcf, hcp⟩ := Cond.constantFloat_spec hown hconst
  obtain ⟨k', hk', he⟩ := X.warmed.alike.2.2 _ _ hk
  intro target hrest
  subst hg
  jvm_step X.here [hexec, hdg, ldc_w.wp_float (s := T) (f := g) X.here.top hk' (by rw [he]; exact hcf) hcp]
  exact hrest
section LW
variable {E : wE} {n : Nat} {y : MethodName} {cc : ByteArray} {ml : Nat} {rt : Option FieldType} {pc : Nat} {ls : wLoc} {st : List Value} {h : hW} {bc bs : Nat} {Q : Option Value → hW → Prop}
theorem wq_ldcwf {i : Nat} {v : UInt32} (hdg : decode cc pc = .ok (.ldc_w i, 3)) (hw : Cond.constantFloat y.cls i v ∈ wAll) (k : WP E n y cc ml rt (pc + 3) ls (.float v :: st) h bc bs Q) : WP E n y cc ml rt pc ls st h bc bs Q := by
  intro p l e R s m args below meth c H locs cells slots lsa Z C hr hs hl hc1 hc2 hz
  intro T hT X
  obtain ⟨t, a, b⟩ := k p l e R s m args below meth c H locs cells slots lsa Z C hr hs hl hc1 hc2 hz T hT X
  exact ⟨t, va_ldcwF X C.1 C.2.2.2.2.1 (C.2.2.2.2.2.1 _ hw) (g := F0 m pc lsa st) rfl (by rw [C.2.1]; exact hdg) t a, b⟩
variable {S R : Type} {vt : R → Option Value} {L : S → gR} {ca : caT} {s : S} {o : Option (R × S)}
theorem wf_ldcwf {i : Nat} {v : UInt32} (hdg : decode cc pc = .ok (.ldc_w i, 3)) (hw : Cond.constantFloat y.cls i v ∈ wAll) (kk : WF E n y cc ml rt vt L ca (pc + 3) ls (.float v :: st) s o) : WF E n y cc ml rt vt L ca pc ls st s o := fun x s' ho => ⟨(kk x s' ho).1, fun h hr => wq_ldcwf hdg hw ((kk x s' ho).2 h hr)⟩
end LW
section LQ
variable {E : wE} {n : Nat} {y : MethodName} {cc : ByteArray} {ml : Nat} {rt : Option FieldType} {pc : Nat} {ls : wLoc} {st : List Value} {h : hW} {bc bs : Nat} {Q : Option Value → hW → Prop}
theorem wq_icmp_eqL {a b off : Int} (tgt : Nat) (hdg : decode cc pc = .ok (.if_icmp .eq off, 3)) (hg : a = b) (k : WP E n y cc ml rt tgt ls st h bc bs Q) (ht : (pc : Int) + off = (tgt : Int)) : WP E n y cc ml rt pc ls (.int (iI b) :: .int (iI a) :: st) h bc bs Q := by
  subst hg
  intro p l e R s m args below meth c H locs cells slots lsa Z C hr hs hl hc1 hc2 hz
  exact lv_icmp_eq C.1 C.2.1 hdg ht (fun q => k p l e R s m args below meth c H locs cells slots lsa Z C hr hs hl hc1 hc2 hz) (fun q => absurd rfl q)
theorem wq_jcmp_eqL {a b off : Int} (tgt : Nat) (hd1 : decode cc pc = .ok (.lcmp, 1)) (hd2 : decode cc (pc + 1) = .ok (.ifCond .eq off, 3)) (hg : a = b) (k : WP E n y cc ml rt tgt ls st h bc bs Q) (ht : (pc : Int) + 1 + off = (tgt : Int)) : WP E n y cc ml rt pc ls (.long (jL b) :: .long (jL a) :: st) h bc bs Q := by
  subst hg
  exact wq_lcmp_eq tgt hd1 hd2 (fun _ => k) (fun q => absurd rfl q) ht
theorem wq_rolen {a N : Nat} {f : Nat → Value} {ty : FieldType} (hdg : decode cc pc = .ok (.arraylength, 1)) (he : wro E a = some (ty, N, f)) (k : WP E n y cc ml rt (pc + 1) ls (.int (iI (N : Int)) :: st) h bc bs Q) : WP E n y cc ml rt pc ls (.ref a :: st) h bc bs Q := by
  intro p l e R s m args below meth c H locs cells slots lsa Z C hr hs hl hc1 hc2 hz
  exact va_tlen C.1 C.2.1 (C.2.2.2.2.2.2.2.2.2.1.2.2.1 a _ _ _ he) hs (v := iI (N : Int)) (by show Int32.ofNat N = Int32.ofInt (N : Int); rfl) hdg (k p l e R s m args below meth c H locs cells slots lsa Z C hr hs hl hc1 hc2 hz)
variable {S R : Type} {vt : R → Option Value} {L : S → gR} {ca : caT} {s : S} {o : Option (R × S)}
theorem wf_icmp_eqL {a b off : Int} (tgt : Nat) (hdg : decode cc pc = .ok (.if_icmp .eq off, 3)) (hg : a = b) (kk : WF E n y cc ml rt vt L ca tgt ls st s o) (ht : (pc : Int) + off = (tgt : Int) := by decide) : WF E n y cc ml rt vt L ca pc ls (.int (iI b) :: .int (iI a) :: st) s o := fun x s' ho => ⟨(kk x s' ho).1, fun h hr => wq_icmp_eqL tgt hdg hg ((kk x s' ho).2 h hr) ht⟩
theorem wf_jcmp_eqL {a b off : Int} (tgt : Nat) (hd1 : decode cc pc = .ok (.lcmp, 1)) (hd2 : decode cc (pc + 1) = .ok (.ifCond .eq off, 3)) (hg : a = b) (kk : WF E n y cc ml rt vt L ca tgt ls st s o) (ht : (pc : Int) + 1 + off = (tgt : Int) := by decide) : WF E n y cc ml rt vt L ca pc ls (.long (jL b) :: .long (jL a) :: st) s o := fun x s' ho => ⟨(kk x s' ho).1, fun h hr => wq_jcmp_eqL tgt hd1 hd2 hg ((kk x s' ho).2 h hr) ht⟩
theorem wf_rolen {a N : Nat} {f : Nat → Value} {ty : FieldType} (hdg : decode cc pc = .ok (.arraylength, 1)) (he : wro E a = some (ty, N, f)) (kk : WF E n y cc ml rt vt L ca (pc + 1) ls (.int (iI (N : Int)) :: st) s o) : WF E n y cc ml rt vt L ca pc ls (.ref a :: st) s o := fun x s' ho => ⟨(kk x s' ho).1, fun h hr => wq_rolen hdg he ((kk x s' ho).2 h hr)⟩
end LQ
section HC
variable {E : wE} {n : Nat} {y : MethodName} {cc : ByteArray} {ml : Nat} {rt : Option FieldType} {R : Type} {vt : R → Option Value} {ca : caT} {pc : Nat} {ls : wLoc} {st : List Value} {M : mR} {s : cR} {K : cR → Option (R × cR)} {idx : Nat}
theorem wf_pc_padf {f : Nat} {v : Int} {ty : FieldType} (hdg : decode cc pc = .ok (.putfield idx, 3)) (hf : wFP y.cls idx 4 f false ty) (kk : ∀ s1, WF E n y cc ml rt vt (fun c : cR => (c, M)) ca (pc + 3) ls st s1 (K s1)) (hn : narrow ty (.int (iI v)) = .int (iI v) := by rfl) (hfit : fits ty (.int (iI v)) = true := by rfl) (hff : f = 1 ∨ f = 2 ∨ f = 3 ∨ f = 4 ∨ f = 5 ∨ f = 6 ∨ f = 7 ∨ f = 8 ∨ f = 9 ∨ f = 10 := by decide) : WF E n y cc ml rt vt (fun c : cR => (c, M)) ca pc ls (.int (iI v) :: .ref (aPad E) :: st) s (bnd (cP s (pS s.2.2 0 f v)) K) := fun x s' ho => by
  obtain ⟨h1, h2⟩ := kk _ x s' ho
  exact ⟨h1, fun h hr => wq_put hdg hf (rd_pad hr) (by show f < 11; omega) hn hfit (h2 _ (wr_padf (c := s) (p := s.2.2) hr hff))⟩
theorem wf_pc_accl {k i : Int} {f : Nat} {v : Int} {ty : FieldType} (hdg : decode cc pc = .ok (.putfield idx, 3)) (hf : wFP y.cls idx 0 f false ty) (hk : 0 ≤ k ∧ k < 11) (hi : 0 ≤ i ∧ i < 8) (kk : ∀ s1, WF E n y cc ml rt vt (fun c : cR => (c, M)) ca (pc + 3) ls st s1 (K s1)) (hn : narrow ty (.long (jL v)) = .long (jL v) := by rfl) (hfit : fits ty (.long (jL v)) = true := by rfl) (hff : f = 3 ∨ f = 4 ∨ f = 5 ∨ f = 6 ∨ f = 7 ∨ f = 8 ∨ f = 9 ∨ f = 10 ∨ f = 11 := by decide) : WF E n y cc ml rt vt (fun c : cR => (c, M)) ca pc ls (.long (jL v) :: .ref (aAcc E k i) :: st) s (bnd (cH s k (hS (s.1 k) 2 i f v)) K) := fun x s' ho => by
  obtain ⟨h1, h2⟩ := kk _ x s' ho
  have hp : phi ((fun c : cR => ((c, M) : gR)) (cH s k (hS (s.1 k) 2 i f v))) = phi ((fun c : cR => ((c, M) : gR)) s) := by
    have h9 := phi_hS (G := (s, M)) (k := k) (H := s.1 k) (t := 2) (a := i) (b := f) (v := v) (fun q => absurd q.1 (by decide))
    exact h9.trans (congrArg phi (setH_self (G := (s, M)) (k := k)))
  rw [hp] at h1 h2
  exact ⟨h1, fun h hr => wq_put hdg hf (rd_acc hr rfl hk hi) (by show f < 13; omega) hn hfit (h2 _ (wr_accl (G := (s, M)) (H := s.1 k) (by rw [setH_self]; exact hr) hk hi hff))⟩
end HC
/-! ===== rows that the law of p33 wants ===== -/
section WQRI
variable {E : wE} {n : Nat} {y : MethodName} {cc : ByteArray} {ml : Nat} {rt : Option FieldType} {pc : Nat} {ls : wLoc} {st : List Value} {h : hW} {bc bs : Nat} {Q : Option Value → hW → Prop}
theorem wq_icmpR_eq {v w : Int32} {off : Int} (tgt : Nat) (hdg : decode cc pc = .ok (.if_icmp .eq off, 3)) (kt : v = w → WP E n y cc ml rt tgt ls st h bc bs Q) (kf : ¬ v = w → WP E n y cc ml rt (pc + 3) ls st h bc bs Q) (ht : (pc : Int) + off = (tgt : Int) := by decide) : WP E n y cc ml rt pc ls (.int w :: .int v :: st) h bc bs Q := fun p l e R s m args below meth c H locs cells slots lsa Z C hr hs hl hc1 hc2 hz => lv_icmp_eq C.1 C.2.1 hdg ht (fun q => kt q p l e R s m args below meth c H locs cells slots lsa Z C hr hs hl hc1 hc2 hz) (fun q => kf q p l e R s m args below meth c H locs cells slots lsa Z C hr hs hl hc1 hc2 hz)
theorem wq_icmpR_ne {v w : Int32} {off : Int} (tgt : Nat) (hdg : decode cc pc = .ok (.if_icmp .ne off, 3)) (kt : ¬ v = w → WP E n y cc ml rt tgt ls st h bc bs Q) (kf : v = w → WP E n y cc ml rt (pc + 3) ls st h bc bs Q) (ht : (pc : Int) + off = (tgt : Int) := by decide) : WP E n y cc ml rt pc ls (.int w :: .int v :: st) h bc bs Q := fun p l e R s m args below meth c H locs cells slots lsa Z C hr hs hl hc1 hc2 hz => lv_icmp_ne C.1 C.2.1 hdg ht (fun q => kt q p l e R s m args below meth c H locs cells slots lsa Z C hr hs hl hc1 hc2 hz) (fun q => kf q p l e R s m args below meth c H locs cells slots lsa Z C hr hs hl hc1 hc2 hz)
end WQRI
section HP33
variable {E : wE} {n : Nat} {y : MethodName} {cc : ByteArray} {ml : Nat} {rt : Option FieldType} {S R : Type} {vt : R → Option Value} {L : S → gR} {ca : caT} {pc : Nat} {ls : wLoc} {st : List Value} {s : S} {h : hW} {o : Option (R × S)} {u : Option R}
theorem jL_w64 (z : Int) : jL (w64I z) = jL z := (jL_of (jL z)).symm
theorem wf_w64 {z : Int} (kk : WF E n y cc ml rt vt L ca pc ls (.long (jL (w64I z)) :: st) s o) : WF E n y cc ml rt vt L ca pc ls (.long (jL z) :: st) s o := by
  rw [jL_w64] at kk
  exact kk
theorem wr_rolen {a N : Nat} {f : Nat → Value} {ty : FieldType} (hdg : decode cc pc = .ok (.arraylength, 1)) (he : wro E a = some (ty, N, f)) (kk : WR E n y cc ml rt vt h (pc + 1) ls (.int (iI (N : Int)) :: st) u) : WR E n y cc ml rt vt h pc ls (.ref a :: st) u := fun x ho => wq_rolen hdg he (kk x ho)
theorem wr_icmpR_eq {a b off : Int} {u1 u2 : Option R} (tgt : Nat) (hdg : decode cc pc = .ok (.if_icmp .eq off, 3)) (kt : iI a = iI b → WR E n y cc ml rt vt h tgt ls st u1) (kf : ¬ iI a = iI b → WR E n y cc ml rt vt h (pc + 3) ls st u2) (ht : (pc : Int) + off = (tgt : Int) := by decide) : WR E n y cc ml rt vt h pc ls (.int (iI b) :: .int (iI a) :: st) (if iI a = iI b then u1 else u2) := fun x ho => wq_icmpR_eq tgt hdg (fun q => kt q x (by rw [if_pos q] at ho; exact ho)) (fun q => kf q x (by rw [if_neg q] at ho; exact ho)) ht
theorem wr_icmpR_ne {a b off : Int} {u1 u2 : Option R} (tgt : Nat) (hdg : decode cc pc = .ok (.if_icmp .ne off, 3)) (kt : ¬ iI a = iI b → WR E n y cc ml rt vt h tgt ls st u2) (kf : iI a = iI b → WR E n y cc ml rt vt h (pc + 3) ls st u1) (ht : (pc : Int) + off = (tgt : Int) := by decide) : WR E n y cc ml rt vt h pc ls (.int (iI b) :: .int (iI a) :: st) (if iI a = iI b then u1 else u2) := fun x ho => wq_icmpR_ne tgt hdg (fun q => kt q x (by rw [if_neg q] at ho; exact ho)) (fun q => kf q x (by rw [if_pos q] at ho; exact ho)) ht
theorem wr_jcmpR_eq {a b off : Int} {u1 u2 : Option R} (tgt : Nat) (hdg : decode cc pc = .ok (.lcmp, 1)) (hd2 : decode cc (pc + 1) = .ok (.ifCond .eq off, 3)) (kt : jL a = jL b → WR E n y cc ml rt vt h tgt ls st u1) (kf : ¬ jL a = jL b → WR E n y cc ml rt vt h (pc + 1 + 3) ls st u2) (ht : (pc : Int) + 1 + off = (tgt : Int) := by decide) : WR E n y cc ml rt vt h pc ls (.long (jL b) :: .long (jL a) :: st) (if jL a = jL b then u1 else u2) := fun x ho => wq_lcmp_eq tgt hdg hd2 (fun q => kt q x (by rw [if_pos q] at ho; exact ho)) (fun q => kf q x (by rw [if_neg q] at ho; exact ho)) ht
theorem wr_jcmpR_ne {a b off : Int} {u1 u2 : Option R} (tgt : Nat) (hdg : decode cc pc = .ok (.lcmp, 1)) (hd2 : decode cc (pc + 1) = .ok (.ifCond .ne off, 3)) (kt : ¬ jL a = jL b → WR E n y cc ml rt vt h tgt ls st u2) (kf : jL a = jL b → WR E n y cc ml rt vt h (pc + 1 + 3) ls st u1) (ht : (pc : Int) + 1 + off = (tgt : Int) := by decide) : WR E n y cc ml rt vt h pc ls (.long (jL b) :: .long (jL a) :: st) (if jL a = jL b then u1 else u2) := fun x ho => wq_lcmp_ne tgt hdg hd2 (fun q => kt q x (by rw [if_neg q] at ho; exact ho)) (fun q => kf q x (by rw [if_pos q] at ho; exact ho)) ht
theorem wf_icmpR_eq {a b off : Int} {o1 o2 : Option (R × S)} (tgt : Nat) (hdg : decode cc pc = .ok (.if_icmp .eq off, 3)) (kt : iI a = iI b → WF E n y cc ml rt vt L ca tgt ls st s o1) (kf : ¬ iI a = iI b → WF E n y cc ml rt vt L ca (pc + 3) ls st s o2) (ht : (pc : Int) + off = (tgt : Int) := by decide) : WF E n y cc ml rt vt L ca pc ls (.int (iI b) :: .int (iI a) :: st) s (if iI a = iI b then o1 else o2) := by
  by_cases g : iI a = iI b
  · rw [if_pos g]
    exact fun x s' ho => ⟨(kt g x s' ho).1, fun h hr => wq_icmpR_eq tgt hdg (fun q => (kt g x s' ho).2 h hr) (fun q => absurd g q) ht⟩
  · rw [if_neg g]
    exact fun x s' ho => ⟨(kf g x s' ho).1, fun h hr => wq_icmpR_eq tgt hdg (fun q => absurd q g) (fun q => (kf g x s' ho).2 h hr) ht⟩
theorem wf_icmpR_ne {a b off : Int} {o1 o2 : Option (R × S)} (tgt : Nat) (hdg : decode cc pc = .ok (.if_icmp .ne off, 3)) (kt : ¬ iI a = iI b → WF E n y cc ml rt vt L ca tgt ls st s o2) (kf : iI a = iI b → WF E n y cc ml rt vt L ca (pc + 3) ls st s o1) (ht : (pc : Int) + off = (tgt : Int) := by decide) : WF E n y cc ml rt vt L ca pc ls (.int (iI b) :: .int (iI a) :: st) s (if iI a = iI b then o1 else o2) := by
  by_cases g : iI a = iI b
  · rw [if_pos g]
    exact fun x s' ho => ⟨(kf g x s' ho).1, fun h hr => wq_icmpR_ne tgt hdg (fun q => absurd g q) (fun q => (kf g x s' ho).2 h hr) ht⟩
  · rw [if_neg g]
    exact fun x s' ho => ⟨(kt g x s' ho).1, fun h hr => wq_icmpR_ne tgt hdg (fun q => (kt g x s' ho).2 h hr) (fun q => absurd q g) ht⟩
theorem wf_jcmpR_eq {a b off : Int} {o1 o2 : Option (R × S)} (tgt : Nat) (hdg : decode cc pc = .ok (.lcmp, 1)) (hd2 : decode cc (pc + 1) = .ok (.ifCond .eq off, 3)) (kt : jL a = jL b → WF E n y cc ml rt vt L ca tgt ls st s o1) (kf : ¬ jL a = jL b → WF E n y cc ml rt vt L ca (pc + 1 + 3) ls st s o2) (ht : (pc : Int) + 1 + off = (tgt : Int) := by decide) : WF E n y cc ml rt vt L ca pc ls (.long (jL b) :: .long (jL a) :: st) s (if jL a = jL b then o1 else o2) := by
  by_cases g : jL a = jL b
  · rw [if_pos g]
    exact fun x s' ho => ⟨(kt g x s' ho).1, fun h hr => wq_lcmp_eq tgt hdg hd2 (fun q => (kt g x s' ho).2 h hr) (fun q => absurd g q) ht⟩
  · rw [if_neg g]
    exact fun x s' ho => ⟨(kf g x s' ho).1, fun h hr => wq_lcmp_eq tgt hdg hd2 (fun q => absurd q g) (fun q => (kf g x s' ho).2 h hr) ht⟩
theorem wf_jcmpR_ne {a b off : Int} {o1 o2 : Option (R × S)} (tgt : Nat) (hdg : decode cc pc = .ok (.lcmp, 1)) (hd2 : decode cc (pc + 1) = .ok (.ifCond .ne off, 3)) (kt : ¬ jL a = jL b → WF E n y cc ml rt vt L ca tgt ls st s o2) (kf : jL a = jL b → WF E n y cc ml rt vt L ca (pc + 1 + 3) ls st s o1) (ht : (pc : Int) + 1 + off = (tgt : Int) := by decide) : WF E n y cc ml rt vt L ca pc ls (.long (jL b) :: .long (jL a) :: st) s (if jL a = jL b then o1 else o2) := by
  by_cases g : jL a = jL b
  · rw [if_pos g]
    exact fun x s' ho => ⟨(kf g x s' ho).1, fun h hr => wq_lcmp_ne tgt hdg hd2 (fun q => absurd g q) (fun q => (kf g x s' ho).2 h hr) ht⟩
  · rw [if_neg g]
    exact fun x s' ho => ⟨(kt g x s' ho).1, fun h hr => wq_lcmp_ne tgt hdg hd2 (fun q => (kt g x s' ho).2 h hr) (fun q => absurd q g) ht⟩
end HP33
