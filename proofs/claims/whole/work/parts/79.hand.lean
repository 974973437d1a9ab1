/-! ===== text constants; more room; which sign ===== -/
theorem pX5_makeRoom {E : wE} {n : Nat} (hE : wGE E) {G : gR} {k : Int} (hk : 0 ≤ k ∧ k < 11) (x1 : Int) (H : hR) (ca : caT) : WF E (n + 3) yX5_makeRoom cX5_makeRoom 3 none vV (setH G k) ca 0 (wArgs [.ref (aWait E k), .int (iI x1)]) [] H (fX5_makeRoom x1 H) := by
  sorry
theorem pX4_readOneOf {E : wE} {n : Nat} (hE : wGE E) {C : cR} {M : mR} (x1 : Int) (hbx1 : 0 ≤ x1 ∧ x1 < 3) (p : Int → Int → Int) (ca : caT) : WF E (n + 5) yX4_readOneOf cX4_readOneOf 3 (some .int) vI (fun p : Int → Int → Int => ((C.1, C.2.1, p), M)) ca 0 (wArgs [.ref (aPad E), .ref (waK E x1.toNat)]) [] p (fX4_readOneOf x1 p) := by
  sorry
