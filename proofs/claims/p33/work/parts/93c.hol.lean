/-! ===== holidays: a bit for each, and a row of days ===== -/
theorem bits_n : ∀ k : Nat, k < 64 → ((iI k).toInt64.toUInt64 &&& Int64.toUInt64 63) = UInt64.ofNat k ∧ (jL 1 <<< ((iI k).toInt64 &&& 63)).toBitVec = BitVec.twoPow 64 k ∧ (UInt64.ofNat k).toBitVec.toNat % 64 = k := by decide +kernel
def bitL (w j : Int) : Bool := (jL w).toBitVec.getLsbD j.toNat
theorem bitL_land (w : Int) (k : Nat) (hk : k < 64) : landI (lushrI w k) 1 = if bitL w k then 1 else 0 := by
  obtain ⟨h1, -, h3⟩ := bits_n k hk
  have e : jL (lushrI w k) = ((jL w).toUInt64 >>> UInt64.ofNat k).toInt64 := by
    unfold lushrI
    rw [← jL_of, h1]
  have e2 : (jL (lushrI w k) &&& jL 1).toBitVec = (BitVec.ofBool (bitL w k)).setWidth 64 := by
    rw [e]
    show ((jL w).toBitVec >>> ((UInt64.ofNat k).toBitVec % 64)) &&& 1#64 = _
    rw [BitVec.and_one_eq_setWidth_ofBool_getLsbD]
    congr 2
    rw [BitVec.ushiftRight_eq', BitVec.getLsbD_ushiftRight]
    unfold bitL
    congr 1
  unfold landI
  cases hb : bitL w k
  · rw [hb] at e2
    rw [show (jL (lushrI w k) &&& jL 1) = 0 from Int64.toBitVec_inj.mp e2]
    rfl
  · rw [hb] at e2
    rw [show (jL (lushrI w k) &&& jL 1) = 1 from Int64.toBitVec_inj.mp e2]
    rfl
theorem bitL_xor (w : Int) (k j : Nat) (hk : k < 64) (hj : j < 64) : bitL (lxorI w (lshlI 1 k)) j = if j = k then !bitL w j else bitL w j := by
  obtain ⟨-, h2, -⟩ := bits_n k hk
  have e : jL (lxorI w (lshlI 1 k)) = jL w ^^^ (jL 1 <<< ((iI k).toInt64 &&& 63)) := by
    unfold lxorI lshlI
    rw [← jL_of, ← jL_of]
  unfold bitL
  rw [e]
  show ((jL w).toBitVec ^^^ (jL 1 <<< ((iI k).toInt64 &&& 63)).toBitVec).getLsbD _ = _
  rw [h2, BitVec.getLsbD_xor, BitVec.getLsbD_twoPow, Int.toNat_natCast]
  by_cases h : j = k
  · subst h
    simp [hk]
  · have : ¬ k = j := fun q => h q.symm
    simp [h, this]
def holB (H : hR) (d : Int) : Bool := bitL (H.1 6 (d / 64) 0) (d % 64)
theorem ec_hol {H : hR} {d : Int} (h : 0 ≤ d ∧ d ≤ 1094) : landI (lushrI (H.1 6 (shrI d 6) 0) (andI d 63)) 1 = bI (holB H d) := by
  rw [shrI6 (by omega), andI63 (by omega)]
  obtain ⟨k, h1, h2⟩ := toN (n := 64) (d := d % 64) (by omega)
  unfold holB
  rw [h2, bitL_land _ k (by omega)]
  rfl
theorem ec_isHol {H : hR} {d : Int} (h : 0 ≤ d ∧ d ≤ 1094) : fX1_isHoliday d H = some (bI (holB H d)) := by
  unfold fX1_isHoliday
  have h1 := shrI6 (d := d) (by omega)
  have h2 := bI_rng (holB H d)
  rw [gd_pos (by omega), ec_hol h, gd_pos (by omega)]
  cases holB H d <;> rfl
def cB (H : hR) (d : Int) : Bool := biz (H.1 1 2 0) (holB H) d
theorem ec_isBz {H : hR} {d : Int} (h : 0 ≤ d ∧ d ≤ 1094) (hw : 0 ≤ H.1 1 2 0 ∧ H.1 1 2 0 ≤ 6) : fX1_isBusiness d H = some (bI (cB H d)) := by
  have h1 := shrI6 (d := d) (by omega)
  have h2 := bI_rng (holB H d)
  have e : rmI (d + H.1 1 2 0) 7 = (d + H.1 1 2 0) % 7 := rmI_pos (by omega)
  unfold fX1_isBusiness cB biz
  rw [gd_pos (by omega), e, gd_pos (by omega)]
  by_cases g : 5 ≤ (d + H.1 1 2 0) % 7
  · rw [if_pos g, decide_eq_false (by omega)]
    rfl
  · rw [if_neg g, gd_pos (by omega), ec_hol h, gd_pos (by omega), decide_eq_true (by omega)]
    cases holB H d <;> rfl
theorem ec_cal {H : hR} (hw : 0 ≤ H.1 1 2 0 ∧ H.1 1 2 0 ≤ 6) : calC H (cB H) := fun _ hd => ec_isBz hd hw
/-- the reference's row of holidays -/
def holN (N : Int → Int) : Nat → Int → Bool
  | 0, _ => false
  | k + 1, d => holN N k d || decide (N (13 + k) = d)
theorem holN_iff {N : Int → Int} {d : Int} : ∀ n : Nat, holN N n d = true ↔ ∃ k : Nat, k < n ∧ N (13 + k) = d
  | 0 => by simp [holN]
  | n + 1 => by
    unfold holN
    rw [Bool.or_eq_true, holN_iff n, decide_eq_true_eq]
    constructor
    · rintro (⟨k, h1, h2⟩ | h)
      · exact ⟨k, by omega, h2⟩
      · exact ⟨n, by omega, h⟩
    · rintro ⟨k, h1, h2⟩
      by_cases hk : k = n
      · exact Or.inr (hk ▸ h2)
      · exact Or.inl ⟨k, by omega, h2⟩
theorem em_isHol_b4 {m : mR} {d : Int} (hd : wR d) (hn : 0 ≤ m.1 0 3 ∧ m.1 0 3 ≤ 20) (hr : ∀ k : Int, 0 ≤ k → k < m.1 0 3 → wR (m.1 0 (13 + k))) : ∀ (n fuel : Nat) (k : Nat) (x : Int), (m.1 0 3).toNat = k + n → x = bI (holN (m.1 0) k d) → n < fuel → fX7_isHoliday_b4 m fuel d x k = some (bI (holN (m.1 0) (m.1 0 3).toNat d))
  | n, 0, k, x, _, _, h => by omega
  | 0, fuel + 1, k, x, h1, h2, _ => by
    unfold fX7_isHoliday_b4
    have := bI_rng (holN (m.1 0) k d)
    rw [gd_pos (by omega), gd_pos (by omega), if_pos (by omega), gd_pos (by omega), h1, h2]
    rfl
  | n + 1, fuel + 1, k, x, h1, h2, h3 => by
    have hx := bI_rng (holN (m.1 0) k d)
    have hk := hr k (by omega) (by omega)
    have ih := em_isHol_b4 hd hn hr n fuel (k + 1)
    unfold fX7_isHoliday_b4
    rw [gd_pos (by omega), gd_pos (by omega), if_neg (by omega), gd_pos (by omega)]
    by_cases g : x = 0
    · have gb : holN (m.1 0) k d = false := by
        cases hb : holN (m.1 0) k d
        · rfl
        · rw [hb, bI_t rfl] at h2; omega
      rw [if_pos g, gd_pos (by omega), gd_pos hd, gd_pos (by omega)]
      by_cases g2 : m.1 0 (13 + k) = d
      · rw [if_pos g2]
        exact ih 1 (by omega) (by unfold holN; rw [gb, decide_eq_true g2]; rfl) (by omega)
      · rw [if_neg g2]
        exact ih 0 (by omega) (by unfold holN; rw [gb, decide_eq_false g2]; rfl) (by omega)
    · have gb : holN (m.1 0) k d = true := by
        cases hb : holN (m.1 0) k d
        · rw [hb, bI_f rfl] at h2; omega
        · rfl
      rw [if_neg g]
      exact ih 1 (by omega) (by unfold holN; rw [gb]; rfl) (by omega)
/-- what the reference's holidays keep: at most 20, days, no two alike -/
def holOK (N : Int → Int) : Prop := 0 ≤ N 3 ∧ N 3 ≤ 20 ∧ (∀ k : Int, 0 ≤ k → k < N 3 → 0 ≤ N (13 + k) ∧ N (13 + k) ≤ 1094) ∧ ∀ i j : Int, 0 ≤ i → i < N 3 → 0 ≤ j → j < N 3 → N (13 + i) = N (13 + j) → i = j
theorem em_isHol {m : mR} {d : Int} (hd : wR d) (h : holOK (m.1 0)) : fX7_isHoliday d m = some (bI (holN (m.1 0) (m.1 0 3).toNat d)) :=
  em_isHol_b4 hd ⟨h.1, h.2.1⟩ (fun k h1 h2 => by have := h.2.2.1 k h1 h2; omega) (m.1 0 3).toNat fuel0 0 0 (by omega) rfl (by have := h.2.1; show _ < 1000000; omega)
def mB (N : Int → Int) (d : Int) : Bool := biz (N 12) (holN N (N 3).toNat) d
theorem em_isBz {m : mR} {d : Int} (h : 0 ≤ d ∧ d ≤ 1094) (hw : 0 ≤ m.1 0 12 ∧ m.1 0 12 ≤ 6) (hh : holOK (m.1 0)) : fX7_isBusiness d m = some (bI (mB (m.1 0) d)) := by
  have e : rmI (d + m.1 0 12) 7 = (d + m.1 0 12) % 7 := rmI_pos (by omega)
  have h2 := bI_rng (holN (m.1 0) (m.1 0 3).toNat d)
  unfold fX7_isBusiness fX7_weekdayOf mB biz
  rw [ev_of (by omega), cr_some, gd_pos (by omega), cr_some, e, gd_pos (by omega)]
  by_cases g : 5 ≤ (d + m.1 0 12) % 7
  · rw [if_pos g, decide_eq_false (by omega)]
    rfl
  · rw [if_neg g, em_isHol (by omega) hh, cr_some, gd_pos (by omega), decide_eq_true (by omega)]
    cases holN (m.1 0) (m.1 0 3).toNat d <;> rfl
theorem em_cal {m : mR} (hw : 0 ≤ m.1 0 12 ∧ m.1 0 12 ≤ 6) (hh : holOK (m.1 0)) : calM m (mB (m.1 0)) := fun _ hd => em_isBz hd hw hh
