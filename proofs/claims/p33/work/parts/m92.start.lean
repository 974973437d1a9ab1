/-! ===== the law from its entry to its loop ===== -/
def hNil (E : wE) : hW := (fun _ => none, wb E)
theorem RegNil (E : wE) : Reg (hNil E) (wb E) [] (hNil E) := ⟨rfl, fun _ _ => rfl, fun r e h => by simp at h⟩
section WR9
variable {E : wE} {n : Nat} {y : MethodName} {cc : ByteArray} {ml : Nat} {rt : Option FieldType} {pc : Nat} {ls : wLoc} {st : List Value} {h h' : hW} {bc bs : Nat} {Q : Option Value → hW → Prop}
theorem WP.rep (hh : ∀ H, wRep E h H → wRep E h' H) (k : WP E n y cc ml rt pc ls st h' bc bs Q) : WP E n y cc ml rt pc ls st h bc bs Q :=
  fun p l e R s m args below meth c H locs cells slots lsa Z C hr hs hl hc1 hc2 hz => k p l e R s m args below meth c H locs cells slots lsa Z C (hh H hr) hs hl hc1 hc2 hz
end WR9
theorem phi0 : phi G0 = 704 := by decide +kernel
set_option maxRecDepth 100000 in
set_option maxHeartbeats 4000000 in
theorem law_walk {E : wE} {n : Nat} (hE : wGE E) {a0 ln : Nat} {xs : Int → Int} (hro : wro E a0 = some (.int, ln, fun j : Nat => .int (iI (xs j)))) (hln : ln ≤ 260) {c' : cR} (hB : fL_law_b8 ln xs C0 = some (1, c')) (hphi : phi (c', M0) ≤ 180224) : WP E (n + 12) x cL_law 13 (some .boolean) 0 (wArgs [.ref a0]) [] (hNil E) 600000 7302250 (fun v h' => v = some (.int (iI 1))) := by
  have hloop := pL_law_b8 (n := n) hE hro hln (M := M0) C0 (ca0 E) 1 c' hB
  have hp := phi0
  have hp : phi (C0, M0) = 704 := hp
  refine WP.room (bc' := 180645 + 1) (bs' := 2000000 + 8) (by omega) (by omega) (wz_new dL_law_0 w_RL_14 (RegNil E) (Nat.le_refl _) (fun h1 r1 => ?_))
  have r1 : Reg (hNil E) (wb E) ([] ++ [.inr (6, fs0_6)]) h1 := r1
  refine wq_dup dL_law_3 ?_
  refine WP.room (bc' := 401 + 180233) (bs' := 9001 + 1900000) (by omega) (by omega) (wq_callI (n := n + 11) (As := []) dL_law_4 k_RL_113 b_yX6_init x_yX6_init (WP.deep (n' := n + 3) (by omega) (cX6_make (Nat.le_refl _) r1.last)) rfl rfl (fun v h2 q => ?_) rfl (Nat.le_of_ble_eq_true rfl) (Nat.le_of_ble_eq_true rfl))
  obtain ⟨rfl, r2⟩ := q
  have r2 : Reg (hNil E) (wb E) (aL E (wb E)) h2 := r1.glue r2
  refine wq_astore_n dL_law_7 ?_
  refine WP.rep (h' := hI E) (fun H hw => made_rep r2 hw) ?_
  refine WP.loc (wLs_sub (l := [some (.ref a0), some (.ref (aTop E))]) ⟨rfl, rfl, trivial⟩) ?_
  refine WP.deep (n' := n + 11) (by omega) ?_
  refine WP.room (bc' := phi (c', M0) - phi (C0, M0)) (bs' := 10 * (phi (c', M0) - phi (C0, M0))) (by omega) (by omega) (WP.post (hloop.2 (hI E) (rep0 E)) (fun v h1 q => q.1))
