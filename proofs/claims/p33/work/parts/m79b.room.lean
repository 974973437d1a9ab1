/-! ===== more room for those that wait ===== -/
section MR
variable {E : wE} {n : Nat} {y : MethodName} {cc : ByteArray} {ml : Nat} {rt : Option FieldType} {pc : Nat} {ls : wLoc} {st : List Value} {h : hW} {bc bs : Nat} {Q : Option Value → hW → Prop}
theorem wq_alenI {a N : Nat} {f : Nat → Int32} (hdg : decode cc pc = .ok (.arraylength, 1)) (he : h.1 a = some (eI E N f)) (kk : WP E n y cc ml rt (pc + 1) ls (.int (iI N) :: st) h bc bs Q) : WP E n y cc ml rt pc ls (.ref a :: st) h bc bs Q := by
  intro p l e0 R s m args below meth c H locs cells slots lsa Z C hr hs hl hc1 hc2 hz
  exact va_alen C.1 C.2.1 C.2.2.2.2.2.2.2.2.2.1.1 (hr.one he) 0 0 rfl rfl (v := iI N) (by show Int32.ofNat N = Int32.ofInt (N : Int); rfl) hdg (kk p l e0 R s m args below meth c H locs cells slots lsa Z C hr hs hl hc1 hc2 hz)
end MR
/-- a row and noughts behind it -/
def gro (f : Nat → Int32) (n0 : Nat) : Nat → Int32 := fun j => if j < n0 then f j else 0
theorem up_push {h : hW} {e e' : va_E} : wUp (wPush h e) h.2 e' = wPush h e' := by
  refine Prod.ext (funext fun q => ?_) rfl
  show (bif Nat.beq q h.2 then _ else (bif Nat.beq q h.2 then _ else _)) = (bif Nat.beq q h.2 then _ else _)
  cases Nat.beq q h.2 <;> rfl
theorem push_old {h : hW} {e : va_E} {a : Nat} (ha : a < h.2) : (wPush h e).1 a = h.1 a := by
  show (bif Nat.beq a h.2 then _ else _) = _
  rw [w_bF (by omega), cond_false]
theorem push_new {h : hW} {e : va_E} : (wPush h e).1 h.2 = some e := by
  show (bif Nat.beq h.2 h.2 then _ else _) = _
  rw [Nat.beq_refl, cond_true]
set_option maxRecDepth 100000 in
set_option maxHeartbeats 4000000 in
theorem pJ7_copyOf {E : wE} {n : Nat} {h : hW} {a0 n0 w : Nat} {f : Nat → Int32} (he : h.1 a0 = some (eI E n0 f)) (ha : a0 < h.2) (hb : wb E ≤ h.2) (hn : n0 < w) (hw : w ≤ 60000000) : WM E (n + 1) yJ7_copyOf_59c91 cJ7_copyOf_59c91 3 (some (.array .int)) [.ref a0, .int (iI (w : Int))] h 1 w (fun v h' => v = some (.ref h.2) ∧ h' = wPush h (eI E w (gro f n0))) := by
  refine wq_iload_n dJ7_copyOf_59c91_0 rfl ?_
  refine wq_aload_n dJ7_copyOf_59c91_1 rfl ?_
  refine wq_alenI dJ7_copyOf_59c91_2 he ?_
  refine wq_icmp_ne 14 dJ7_copyOf_59c91_3 (fun h3 => ?_) (fun h3 => absurd h3 (by omega)) (by omega) (by omega)
  refine wq_iload_n dJ7_copyOf_59c91_14 rfl ?_
  refine WP.room (bc' := 0 + 1) (bs' := 0 + w) (by omega) (by omega) (wq_newI (bc := 0) (bs := 0) w dJ7_copyOf_59c91_15 ac_int hb rfl ?_ hw)
  refine wq_astore_n dJ7_copyOf_59c91_17 ?_
  refine wq_aload_n dJ7_copyOf_59c91_18 rfl ?_
  refine wq_iconst dJ7_copyOf_59c91_19 ?_
  refine wq_aload_n dJ7_copyOf_59c91_20 rfl ?_
  refine wq_iconst dJ7_copyOf_59c91_21 ?_
  refine wq_aload_n dJ7_copyOf_59c91_22 rfl ?_
  refine wq_alenI dJ7_copyOf_59c91_23 ((push_old ha).trans he) ?_
  refine wq_iload_n dJ7_copyOf_59c91_24 rfl ?_
  refine wq_mmin dJ7_copyOf_59c91_25 k_RJ7_304 ?_ (by omega) (by omega) (Nat.le_of_ble_eq_true rfl)
  rw [Int.min_eq_left (by omega)]
  refine wq_copyI (n := n) dJ7_copyOf_59c91_28 k_RJ7_150 cp_nat cp_sta cp_ini ((push_old ha).trans he) push_new (by omega) (Nat.le_of_ble_eq_true rfl) ?_
  have e9 : (va_cpy f (fun _ => (0 : Int32)) (0 : Int).toNat (0 : Int).toNat ((n0 : Int)).toNat) = gro f n0 := by
    funext j
    unfold va_cpy gro
    by_cases q : j < n0
    · rw [if_pos (by constructor <;> omega), if_pos q]
      simp
    · rw [if_neg (by omega), if_neg q]
  rw [e9, up_push]
  refine wq_aload_n dJ7_copyOf_59c91_31 rfl ?_
  exact wq_areturn dJ7_copyOf_59c91_32 ⟨rfl, rfl⟩ ⟨_, rfl⟩
/-- some columns of the house k are grown -/
def repX (E : wE) (G : gR) (k : Nat) (H : hR) (w c : Nat) (ca : caT) (h : hW) : Prop := caOK E ca h.2 ∧ (∀ t k' i, t < 10 → k' < 11 → loc (off t k' i) = (t, k', i) → t ≠ 7 → h.1 (wb E + off t k' i) = cellH E ((setH G k H).1.1 k') (ca k') t k' i) ∧ (∀ t, 10 ≤ t → t < 16 → h.1 (wb E + off t 0 0) = cellT E G t) ∧ (∀ k' c', k' < 11 → c' < 5 → h.1 (ca k' c') = some (if k' = k ∧ c' < c then eI E w (gro (fun i => iI (H.1 5 c' i)) (rmN H)) else colE E ((setH G k H).1.1 k') c'))
theorem hGrow_4 {H : hR} {w : Int} : (hGrow H w).1 4 1 0 = w := by simp [hGrow]
theorem colGrow {E : wE} {H : hR} {w : Nat} {c : Nat} (hw : 0 ≤ H.1 4 1 0) : eI E w (gro (fun i => iI (H.1 5 c i)) (rmN H)) = colE E (hGrow H (w : Int)) c := by
  unfold colE rmN
  rw [hGrow_4]
  have : gro (fun i : Nat => iI (H.1 5 c i)) (H.1 4 1 0).toNat = fun i : Nat => iI ((hGrow H (w : Int)).1 5 c i) := by
    funext j
    unfold gro hGrow
    by_cases q : j < (H.1 4 1 0).toNat
    · rw [if_pos q]
      simp
      rw [if_neg (by omega)]
    · rw [if_neg q]
      simp
      rw [if_pos (by omega)]
      rfl
  rw [this]
  rfl
set_option maxRecDepth 100000 in
set_option maxHeartbeats 4000000 in
theorem pX5_makeRoom_loop {E : wE} {n : Nat} {G : gR} {k : Nat} (hk : k < 11) (H : hR) (w : Nat) (h0 : 64 ≤ H.1 4 1 0) (h1 : 2 * H.1 4 1 0 ≤ (w : Int)) (h2 : w ≤ 16384) : ∀ (m c : Nat), c + m = 5 → ∀ (ca : caT) (h : hW), repX E G k H w c ca h → WP E (n + 2) yX5_makeRoom cX5_makeRoom 3 none 11 (wLs [some (.ref (aWait E k)), some (.int (iI (w : Int))), some (.int (iI (c : Int)))]) [] h m (m * w) (fun r h' => r = none ∧ ∃ ca', rep E (setH G k (hGrow H (w : Int))) ca' h') := by
  intro m
  induction m with
  | zero =>
    intro c hc ca h hr
    obtain ⟨r1, r2, r3, r4⟩ := hr
    refine wq_iload_n dX5_makeRoom_11 rfl ?_
    refine wq_iconst dX5_makeRoom_12 ?_
    refine wq_icmp_ge 38 dX5_makeRoom_13 (fun h3 => ?_) (fun h3 => absurd h3 (by omega)) (by omega) (by omega)
    refine wq_aload_n dX5_makeRoom_38 rfl ?_
    refine wq_iload_n dX5_makeRoom_39 rfl ?_
    have hwt : h.1 (aWait E (k : Int)) = some (.inr (5, cWait E H k)) := by
      have h9 := r2 5 k 0 (by decide) hk (lc_h hk (by decide)) (by decide)
      rw [setH_at] at h9
      exact h9
    refine wq_put dX5_makeRoom_40 p_RX5_16 hwt (by show 1 < 3; omega) rfl rfl ?_
    refine wq_return dX5_makeRoom_43 ⟨rfl, ca, ?_⟩ rfl
    refine ⟨r1, fun t k' i q1 q2 q3 q4 => ?_, fun t q1 q2 => ?_, fun k' c' q1 q2 => ?_⟩
    · by_cases hs : t = 5 ∧ k' = k ∧ i = 0
      · obtain ⟨rfl, rfl, rfl⟩ := hs
        show (wUp h (wb E + off 5 _ 0) _).1 _ = _
        rw [Int.toNat_natCast, w_up_eq, setH_at]
        simp [cellH, cWait, hGrow, List.set]
      · show (wUp h (wb E + off 5 _ 0) _).1 _ = _
        rw [w_up_ne (off_ne (lc_h (k := ((k : Int)).toNat) (by omega) (by decide)) q3 (fun q => hs ⟨q.1, by have := q.2.1; omega, q.2.2⟩) _), r2 t k' i q1 q2 q3 q4]
        by_cases hkk : k' = k
        · subst hkk
          rw [setH_at, setH_at]
          have q5 := (loc_v q3 q4).1
          have q6 : t = 0 ∨ t = 1 ∨ t = 2 ∨ t = 3 ∨ t = 4 ∨ t = 5 ∨ t = 6 ∨ t = 8 ∨ t = 9 := by omega
          rcases q6 with rfl | rfl | rfl | rfl | rfl | rfl | rfl | rfl | rfl
          all_goals first | (simp [cellH, cHouse, cCal, cAcc, cOrd, hGrow]; done) | (exact absurd ⟨rfl, rfl, q5 (by decide)⟩ hs)
        · rw [setH_ne (fun q => hkk (by omega)), setH_ne (fun q => hkk (by omega))]
    · show (wUp h (wb E + off 5 _ 0) _).1 _ = _
      rw [w_up_ne (off_ne10 (lc_h (k := ((k : Int)).toNat) (by omega) (by decide)) (by decide) q1 q2 _)]
      exact r3 t q1 q2
    · show (wUp h (wb E + off 5 _ 0) _).1 _ = _
      rw [w_up_ne (ca_ne r1 q1 q2 (lc_h (k := ((k : Int)).toNat) (by omega) (by decide)) (by decide)), r4 k' c' q1 q2]
      by_cases hkk : k' = k
      · subst hkk
        rw [if_pos ⟨rfl, by omega⟩, setH_at, colGrow (by omega)]
      · rw [if_neg (fun q => hkk q.1), setH_ne (fun q => hkk (by omega)), setH_ne (fun q => hkk (by omega))]
  | succ m ih =>
    intro c hc ca h hr
    obtain ⟨r1, r2, r3, r4⟩ := hr
    have hwt : h.1 (aWait E (k : Int)) = some (.inr (5, cWait E H k)) := by
      have h9 := r2 5 k 0 (by decide) hk (lc_h hk (by decide)) (by decide)
      rw [setH_at] at h9
      exact h9
    have hcl : h.1 (aCols E (k : Int)) = some (eQ E 5 5 (fun j => some (ca k j))) := by
      have h9 := r2 6 k 0 (by decide) hk (lc_h hk (by decide)) (by decide)
      exact h9
    have hco : h.1 (ca k c) = some (eI E (rmN H) (fun i => iI (H.1 5 c i))) := by
      have h9 := r4 k c hk (by omega)
      rw [if_neg (by omega), setH_at] at h9
      exact h9
    have hbb : wb E ≤ h.2 := by have := r1.2.2; omega
    have hca := r1.1 k c hk (by omega)
    refine wq_iload_n dX5_makeRoom_11 rfl ?_
    refine wq_iconst dX5_makeRoom_12 ?_
    refine wq_icmp_ge 38 dX5_makeRoom_13 (fun h3 => absurd h3 (by omega)) (fun h3 => ?_) (by omega) (by omega)
    refine wq_aload_n dX5_makeRoom_16 rfl ?_
    refine wq_get dX5_makeRoom_17 f_RX5_13 hwt rfl ?_
    refine wq_iload_n dX5_makeRoom_20 rfl ?_
    refine wq_aload_n dX5_makeRoom_21 rfl ?_
    refine wq_get dX5_makeRoom_22 f_RX5_13 hwt rfl ?_
    refine wq_iload_n dX5_makeRoom_25 rfl ?_
    refine wq_aald (t := 5) dX5_makeRoom_26 hcl rfl rfl (N := 5) (by omega) (show some (ca k ((c : Int)).toNat) = some (ca k c) by rw [Int.toNat_natCast]) ?_
    refine wq_iload_n dX5_makeRoom_27 rfl ?_
    rw [show m + 1 = 1 + m by omega, show (1 + m) * w = w + m * w by rw [Nat.add_mul, Nat.one_mul]]
    refine wq_callS (n := n + 1) (As := [.ref (ca k c), .int (iI (w : Int))]) dX5_makeRoom_28 k_RX5_33 b_yJ7_copyOf_59c91 x_yJ7_copyOf_59c91 (pJ7_copyOf hco hca.2.1 hbb (by unfold rmN; omega) (by omega)) rfl (fun v h' q => ?_) rfl (Nat.le_of_ble_eq_true rfl) (Nat.le_of_ble_eq_true rfl)
    obtain ⟨rfl, rfl⟩ := q
    have hclt : aCols E (k : Int) < h.2 := by
      have h7 := r1.2.2
      have : off 6 k 0 < 402 := by
        unfold off hO
        split <;> split <;> omega
      show wb E + off 6 ((k : Int)).toNat 0 < h.2
      rw [Int.toNat_natCast]
      omega
    refine wq_aastI dX5_makeRoom_31 ((push_old hclt).trans hcl) push_new (by omega) ?_
    refine wq_iinc dX5_makeRoom_32 rfl ?_
    refine wq_goto 11 dX5_makeRoom_35 ?_
    refine WP.loc (wLs_sub (l := [some (.ref (aWait E (k : Int))), some (.int (iI (w : Int))), some (.int (iI ((c + 1 : Nat) : Int)))]) ⟨rfl, rfl, rfl, trivial⟩) (ih (c + 1) (by omega) (fun k' c' => if k' = k ∧ c' = c then h.2 else ca k' c') _ ?_)
    have hc5 : c < 5 := by omega
    have hnew : ∀ k' c', k' < 11 → c' < 5 → ca k' c' ≠ h.2 := fun k' c' q1 q2 q => by have := (r1.1 k' c' q1 q2).2.1; omega
    have hst : ∀ t k' i, loc (off t k' i) = (t, k', i) → t ≠ 7 → wb E + off t k' i < h.2 := by
      intro t k' i q1 q2
      have h7 := r1.2.2
      have : off t k' i < 402 := by
        rcases Nat.lt_or_ge (off t k' i) 402 with q | q
        · exact q
        · exfalso
          have : loc (off t k' i) = (7, 0, 0) := by
            unfold loc
            rw [if_neg (by omega), if_neg (by omega), if_neg (by omega), if_neg (by omega)]
          rw [this] at q1
          simp only [Prod.mk.injEq] at q1
          exact q2 q1.1.symm
      omega
    refine ⟨⟨fun k' c' q1 q2 => ?_, fun k1 c1 k2 c2 q1 q2 q3 q4 q5 => ?_, ?_⟩, fun t k' i q1 q2 q3 q4 => ?_, fun t q1 q2 => ?_, fun k' c' q1 q2 => ?_⟩
    · show wb E ≤ (if _ then _ else _) ∧ (if _ then _ else _) < h.2 + 1 ∧ _
      by_cases hs : k' = k ∧ c' = c
      · simp only [hs, and_self, if_true]
        refine ⟨hbb, by omega, ?_⟩
        have h7 := r1.2.2
        unfold loc
        rw [if_neg (by omega), if_neg (by omega), if_neg (by omega), if_neg (by omega)]
      · simp only [hs, if_false]
        have h8 := r1.1 k' c' q1 q2
        exact ⟨h8.1, by omega, h8.2.2⟩
    · replace q5 : (if k1 = k ∧ c1 = c then h.2 else ca k1 c1) = (if k2 = k ∧ c2 = c then h.2 else ca k2 c2) := q5
      by_cases hs1 : k1 = k ∧ c1 = c
      · by_cases hs2 : k2 = k ∧ c2 = c
        · exact ⟨hs1.1.trans hs2.1.symm, hs1.2.trans hs2.2.symm⟩
        · rw [if_pos hs1, if_neg hs2] at q5
          exact absurd q5.symm (hnew k2 c2 q3 q4)
      · by_cases hs2 : k2 = k ∧ c2 = c
        · rw [if_neg hs1, if_pos hs2] at q5
          exact absurd q5 (hnew k1 c1 q1 q2)
        · rw [if_neg hs1, if_neg hs2] at q5
          exact r1.2.1 k1 c1 k2 c2 q1 q2 q3 q4 q5
    · show wb E + 402 ≤ h.2 + 1
      have := r1.2.2
      omega
    · by_cases hs : t = 6 ∧ k' = k ∧ i = 0
      · obtain ⟨rfl, rfl, rfl⟩ := hs
        show (wUp (wPush h _) (wb E + off 6 ((k' : Int)).toNat 0) _).1 _ = _
        rw [Int.toNat_natCast, w_up_eq]
        simp only [cellH]
        congr 3
        funext j
        unfold va_up
        by_cases q : j = c
        · subst q
          simp
        · rw [if_neg (by omega)]
          simp [q]
      · show (wUp (wPush h _) (wb E + off 6 ((k : Int)).toNat 0) _).1 _ = _
        rw [Int.toNat_natCast, w_up_ne (off_ne (lc_h hk (by decide)) q3 hs _), push_old (hst t k' i q3 q4), r2 t k' i q1 q2 q3 q4]
        by_cases ht : t = 6
        · subst ht
          have hkk : ¬ k' = k := fun q => hs ⟨rfl, q, (loc_v q3 q4).1 (by decide)⟩
          simp [cellH, hkk]
        · have q6 : t = 0 ∨ t = 1 ∨ t = 2 ∨ t = 3 ∨ t = 4 ∨ t = 5 ∨ t = 8 ∨ t = 9 := by omega
          rcases q6 with rfl | rfl | rfl | rfl | rfl | rfl | rfl | rfl <;> rfl
    · show (wUp (wPush h _) (wb E + off 6 ((k : Int)).toNat 0) _).1 _ = _
      rw [Int.toNat_natCast, w_up_ne (off_ne10 (lc_h hk (by decide)) (by decide) q1 q2 _), push_old (hst t 0 0 (lc_t q1 q2) (by omega))]
      exact r3 t q1 q2
    · show (wUp (wPush h _) (wb E + off 6 ((k : Int)).toNat 0) _).1 (if _ then _ else _) = _
      rw [Int.toNat_natCast]
      by_cases hs : k' = k ∧ c' = c
      · rw [if_pos hs]
        have hne : ¬ h.2 = wb E + off 6 k 0 := by
          have := hst 6 k 0 (lc_h hk (by decide)) (by decide)
          omega
        rw [w_up_ne hne, push_new, if_pos ⟨hs.1, by omega⟩, hs.2]
      · rw [if_neg hs, w_up_ne (ca_ne r1 q1 q2 (lc_h hk (by decide)) (by decide)), push_old (r1.1 k' c' q1 q2).2.1, r4 k' c' q1 q2]
        by_cases hx : k' = k ∧ c' < c
        · rw [if_pos hx, if_pos ⟨hx.1, by omega⟩]
        · rw [if_neg hx, if_neg (by omega)]
theorem phi_grow {G : gR} {k : Nat} (hk : k < 11) {H : hR} {w : Nat} (hw : H.1 4 1 0 ≤ (w : Int)) (h0 : 0 ≤ H.1 4 1 0) : phi (setH G k (hGrow H (w : Int))) = phi (setH G k H) + (w - rmN H) := by
  have key : ∀ (l : List Nat), l.Nodup → k ∈ l → (l.map (fun a : Nat => rmN ((setH G k (hGrow H (w : Int))).1.1 a))).sum = (l.map (fun a : Nat => rmN ((setH G k H).1.1 a))).sum + (w - rmN H) := by
    intro l
    induction l with
    | nil => intro _ h; cases h
    | cons a l ih =>
      intro hn hm
      simp only [List.map_cons, List.sum_cons]
      rw [List.nodup_cons] at hn
      by_cases q : a = k
      · subst q
        rw [setH_at, setH_at]
        have hrest : (l.map (fun b : Nat => rmN ((setH G a (hGrow H (w : Int))).1.1 b))) = l.map (fun b : Nat => rmN ((setH G a H).1.1 b)) := by
          refine List.map_congr_left (fun b hb => ?_)
          have : ¬ (b : Int) = (a : Int) := fun e => hn.1 ((show b = a by omega) ▸ hb)
          rw [setH_ne this, setH_ne this]
        rw [hrest]
        have e1 : rmN (hGrow H (w : Int)) = w := by unfold rmN; rw [hGrow_4, Int.toNat_natCast]
        have e2 : rmN H ≤ w := by unfold rmN; omega
        omega
      · have hmk : k ∈ l := by
          rcases List.mem_cons.mp hm with e | e
          · exact absurd e.symm q
          · exact e
        have := ih hn.2 hmk
        rw [setH_ne (k := (k : Int)) (fun e => q (by omega)), setH_ne (k := (k : Int)) (fun e => q (by omega)), this]
        omega
  exact key (List.range 11) List.nodup_range (List.mem_range.mpr hk)
set_option maxRecDepth 100000 in
set_option maxHeartbeats 4000000 in
theorem pX5_makeRoom {E : wE} {n : Nat} (hE : wGE E) {G : gR} {k : Int} (hk : 0 ≤ k ∧ k < 11) (x1 : Int) (H : hR) (ca : caT) : WF E (n + 3) yX5_makeRoom cX5_makeRoom 3 none vV (setH G k) ca 0 (wArgs [.ref (aWait E k), .int (iI x1)]) [] H (fX5_makeRoom x1 H) := by
  intro x s' ho
  unfold fX5_makeRoom at ho
  obtain ⟨g0, ho⟩ := gd_inv ho
  by_cases hle : x1 ≤ H.1 4 1 0
  · rw [if_pos hle] at ho
    cases ho
    refine ⟨Nat.le_refl _, fun h hr => WP.room (bc' := 0) (bs' := 0) (by omega) (by omega) ?_⟩
    refine wq_iload_n dX5_makeRoom_0 rfl ?_
    refine wq_aload_n dX5_makeRoom_1 rfl ?_
    refine wq_get dX5_makeRoom_2 f_RX5_16 (rd_wait hr setH_at hk) rfl ?_
    refine wq_icmp_gt 9 dX5_makeRoom_5 (fun h3 => absurd h3 (by omega)) (fun h3 => ?_) g0.1 g0.2
    exact wq_return dX5_makeRoom_8 ⟨rfl, ca, hr⟩ rfl
  · rw [if_neg hle] at ho
    obtain ⟨g1, ho⟩ := gd_inv ho
    cases ho
    obtain ⟨w, rfl⟩ := Int.eq_ofNat_of_zero_le (show 0 ≤ x1 by omega)
    obtain ⟨k, rfl⟩ := Int.eq_ofNat_of_zero_le hk.1
    have hk' : k < 11 := by omega
    have hp := phi_grow (G := G) hk' (H := H) (w := w) (by omega) (by omega)
    have hrm : rmN H ≤ w ∧ 2 * rmN H ≤ w ∧ 64 ≤ rmN H := by unfold rmN; omega
    refine ⟨by rw [hp]; omega, fun h hr => WP.room (bc' := 5) (bs' := 5 * w) (by rw [hp]; omega) (by rw [hp]; omega) ?_⟩
    refine wq_iload_n dX5_makeRoom_0 rfl ?_
    refine wq_aload_n dX5_makeRoom_1 rfl ?_
    refine wq_get dX5_makeRoom_2 f_RX5_16 (rd_wait hr setH_at hk) rfl ?_
    refine wq_icmp_gt 9 dX5_makeRoom_5 (fun h3 => ?_) (fun h3 => absurd h3 (by omega)) g0.1 g0.2
    refine wq_iconst dX5_makeRoom_9 ?_
    refine wq_istore_n dX5_makeRoom_10 ?_
    refine WP.loc (wLs_sub (l := [some (.ref (aWait E (k : Int))), some (.int (iI (w : Int))), some (.int (iI ((0 : Nat) : Int)))]) ⟨rfl, rfl, rfl, trivial⟩) (WP.deep (n' := n + 2) (by omega) (pX5_makeRoom_loop hk' H w (by omega) (by omega) (by omega) 5 0 rfl ca h ?_))
    obtain ⟨r1, r2, r3, r4⟩ := hr
    exact ⟨r1, r2, r3, fun k' c' q1 q2 => by rw [if_neg (by omega)]; exact r4 k' c' q1 q2⟩
