/-! ===== the calendar: both sides come to the same plain functions ===== -/
theorem shrI6 {d : Int} (h : 0 ≤ d ∧ d ≤ 2047) : shrI d 6 = d / 64 := by
  have e : iI d >>> (iI 6 &&& 31) = iI (d / 64) := by
    obtain ⟨k, rfl⟩ := Int.eq_ofNat_of_zero_le h.1
    have hk : k < 2048 := by omega
    clear h
    revert k
    decide +kernel
  show (iI d >>> (iI 6 &&& 31)).toInt = _
  rw [e, iI_toInt (by omega)]
theorem andI63 {d : Int} (h : 0 ≤ d ∧ d ≤ 2047) : andI d 63 = d % 64 := by
  have e : iI d &&& iI 63 = iI (d % 64) := by
    obtain ⟨k, rfl⟩ := Int.eq_ofNat_of_zero_le h.1
    have hk : k < 2048 := by omega
    clear h
    revert k
    decide +kernel
  show (iI d &&& iI 63).toInt = _
  rw [e, iI_toInt (by omega)]
theorem toN {d n : Int} (h : 0 ≤ d ∧ d < n) : ∃ k : Nat, (k : Int) < n ∧ d = (k : Int) := by
  obtain ⟨k, rfl⟩ := Int.eq_ofNat_of_zero_le h.1
  exact ⟨k, h.2, rfl⟩
def mFirst (m : Int) : Int := m / 12 * 365 + sRow 2 (m % 12)
def mLast (m : Int) : Int := m / 12 * 365 + sRow 2 (m % 12 + 1) - 1
def mOf (d : Int) : Int := d / 365 * 12 + (if sRow 2 (d % 365 / 31 + 1) ≤ d % 365 then d % 365 / 31 + 1 else d % 365 / 31)
theorem cal_c1 : ∀ d : Nat, d < 1095 → fX1_monthOf d = some (mOf d) := by decide +kernel
theorem cal_c2 : ∀ m : Nat, m < 36 → fX1_firstDayOf m = some (mFirst m) ∧ fX1_lastDayOf m = some (mLast m) := by decide +kernel
theorem cal_m1 : ∀ m : Nat, m < 36 → fX7_monthLength m = some (mLast m - mFirst m + 1) ∧ fX7_monthStart m = some (mFirst m) := by decide +kernel
theorem cal_r1 : ∀ d : Nat, d < 1095 → mFirst (mOf d) ≤ d ∧ (d : Int) ≤ mLast (mOf d) ∧ 0 ≤ mOf d ∧ mOf d ≤ 35 ∧ (d : Int) / 365 * 12 ≤ mOf d := by decide +kernel
theorem cal_r2 : ∀ a : Nat, a < 36 → ∀ b : Nat, b < 36 → a < b → mLast a < mFirst b := by decide +kernel
theorem cal_r3 : ∀ m : Nat, m < 36 → 0 ≤ mFirst m ∧ mFirst m + 27 ≤ mLast m ∧ mLast m ≤ mFirst m + 30 ∧ mLast m ≤ 1094 := by decide +kernel
theorem mOf_in {d : Int} (h : 0 ≤ d ∧ d ≤ 1094) : mFirst (mOf d) ≤ d ∧ d ≤ mLast (mOf d) ∧ 0 ≤ mOf d ∧ mOf d ≤ 35 ∧ d / 365 * 12 ≤ mOf d := by
  obtain ⟨k, h1, rfl⟩ := toN (n := 1095) (d := d) (by omega)
  exact cal_r1 k (by omega)
theorem m_lt {a b : Int} (h : 0 ≤ a ∧ a < b ∧ b ≤ 35) : mLast a < mFirst b := by
  obtain ⟨k, h1, rfl⟩ := toN (n := 36) (d := a) (by omega)
  obtain ⟨j, h2, rfl⟩ := toN (n := 36) (d := b) (by omega)
  exact cal_r2 k (by omega) j (by omega) (by omega)
theorem m_rng {m : Int} (h : 0 ≤ m ∧ m ≤ 35) : 0 ≤ mFirst m ∧ mFirst m + 27 ≤ mLast m ∧ mLast m ≤ mFirst m + 30 ∧ mLast m ≤ 1094 := by
  obtain ⟨k, h1, rfl⟩ := toN (n := 36) (d := m) (by omega)
  exact cal_r3 k (by omega)
theorem mOf_eq {d m : Int} (h : 0 ≤ m ∧ m ≤ 35) (h1 : mFirst m ≤ d ∧ d ≤ mLast m) : mOf d = m := by
  have h2 := m_rng h
  have h3 := mOf_in (d := d) (by omega)
  by_cases h4 : mOf d < m
  · have := m_lt (a := mOf d) (b := m) (by omega)
    omega
  · by_cases h5 : m < mOf d
    · have := m_lt (a := m) (b := mOf d) (by omega)
      omega
    · omega
theorem ec_monthOf {d : Int} (h : 0 ≤ d ∧ d ≤ 1094) : fX1_monthOf d = some (mOf d) := by
  obtain ⟨k, h1, rfl⟩ := toN (n := 1095) (d := d) (by omega)
  exact cal_c1 k (by omega)
theorem ec_first {m : Int} (h : 0 ≤ m ∧ m ≤ 35) : fX1_firstDayOf m = some (mFirst m) := by
  obtain ⟨k, h1, rfl⟩ := toN (n := 36) (d := m) (by omega)
  exact (cal_c2 k (by omega)).1
theorem ec_last {m : Int} (h : 0 ≤ m ∧ m ≤ 35) : fX1_lastDayOf m = some (mLast m) := by
  obtain ⟨k, h1, rfl⟩ := toN (n := 36) (d := m) (by omega)
  exact (cal_c2 k (by omega)).2
theorem em_length {m : Int} (h : 0 ≤ m ∧ m ≤ 35) : fX7_monthLength m = some (mLast m - mFirst m + 1) := by
  obtain ⟨k, h1, rfl⟩ := toN (n := 36) (d := m) (by omega)
  exact (cal_m1 k (by omega)).1
theorem em_start {m : Int} (h : 0 ≤ m ∧ m ≤ 35) : fX7_monthStart m = some (mFirst m) := by
  obtain ⟨k, h1, rfl⟩ := toN (n := 36) (d := m) (by omega)
  exact (cal_m1 k (by omega)).2
theorem em_monthOf_b9 {d : Int} (h : 0 ≤ d ∧ d ≤ 1094) : ∀ (k fuel : Nat) (m : Int), m + k = mOf d → 0 ≤ m → k < fuel → fX7_monthOf_b9 fuel d m = some (mOf d)
  | k, 0, m, _, _, h3 => by omega
  | k, fuel + 1, m, h1, h2, h3 => by
    have hd := mOf_in h
    have hm := m_rng (m := m) (by omega)
    have he := mOf_in h
    unfold fX7_monthOf_b9
    rw [em_start (by omega), cr_some, em_length (by omega), cr_some, gd_pos (by omega)]
    by_cases h4 : k = 0
    · have : m = mOf d := by omega
      rw [if_pos (by rw [this]; omega), this]
    · have := m_lt (a := m) (b := mOf d) (by omega)
      rw [if_neg (by omega)]
      exact em_monthOf_b9 h (k - 1) fuel (m + 1) (by omega) (by omega) (by omega)
theorem em_monthOf {d : Int} (h : 0 ≤ d ∧ d ≤ 1094) : fX7_monthOf d = some (mOf d) := by
  have hd := mOf_in h
  have he : dvI d 365 = d / 365 := dvI_pos h.1
  unfold fX7_monthOf
  rw [gd_pos (by omega), he]
  exact em_monthOf_b9 h (mOf d - d / 365 * 12).toNat fuel0 _ (by omega) (by omega) (by show _ < 1000000; omega)
/-! business days -/
def biz (wd : Int) (hb : Int → Bool) (d : Int) : Bool := decide ((d + wd) % 7 < 5) && !hb d
def nextB (b : Int → Bool) : Nat → Int → Int
  | 0, _ => -6
  | f + 1, d => if b d then d else nextB b f (d + 1)
def nextBz (b : Int → Bool) (d : Int) : Int := nextB b (1095 - d).toNat d
def lastB (b : Int → Bool) : Nat → Int → Int
  | 0, _ => -6
  | f + 1, d => if b d then d else lastB b f (d - 1)
def lastBz (b : Int → Bool) (d : Int) : Int := lastB b (d + 1).toNat d
theorem nextBz_out {b : Int → Bool} {d : Int} (h : 1094 < d) : nextBz b d = -6 := by
  unfold nextBz
  rw [show (1095 - d).toNat = 0 by omega]
  rfl
theorem nextBz_in {b : Int → Bool} {d : Int} (h : d ≤ 1094) : nextBz b d = if b d then d else nextBz b (d + 1) := by
  unfold nextBz
  rw [show (1095 - d).toNat = (1095 - (d + 1)).toNat + 1 by omega]
  rfl
theorem lastBz_out {b : Int → Bool} {d : Int} (h : d < 0) : lastBz b d = -6 := by
  unfold lastBz
  rw [show (d + 1).toNat = 0 by omega]
  rfl
theorem lastBz_in {b : Int → Bool} {d : Int} (h : 0 ≤ d) : lastBz b d = if b d then d else lastBz b (d - 1) := by
  unfold lastBz
  rw [show (d + 1).toNat = (d - 1 + 1).toNat + 1 by omega]
  rfl
/-- the next business day: none, or a business day with no other between -/
theorem nextBz_spec (b : Int → Bool) : ∀ (n : Nat) (d : Int), (1095 - d).toNat = n → (nextBz b d = -6 ∧ ∀ j, d ≤ j → j ≤ 1094 → b j = false) ∨ (d ≤ nextBz b d ∧ nextBz b d ≤ 1094 ∧ b (nextBz b d) = true ∧ ∀ j, d ≤ j → j < nextBz b d → b j = false)
  | 0, d, h => Or.inl ⟨nextBz_out (by omega), fun j h1 h2 => by omega⟩
  | n + 1, d, h => by
    have e := nextBz_in (b := b) (d := d) (by omega)
    by_cases hb : b d = true
    · rw [if_pos hb] at e
      exact Or.inr ⟨by omega, by omega, by rw [e]; exact hb, fun j h1 h2 => by omega⟩
    · rw [if_neg hb] at e
      have hb : b d = false := by simpa using hb
      rcases nextBz_spec b n (d + 1) (by omega) with ⟨h1, h2⟩ | ⟨h1, h2, h3, h4⟩
      · refine Or.inl ⟨by omega, fun j h3 h4 => ?_⟩
        by_cases hj : j = d
        · rw [hj]; exact hb
        · exact h2 j (by omega) h4
      · refine Or.inr ⟨by omega, by omega, by rw [e]; exact h3, fun j h5 h6 => ?_⟩
        by_cases hj : j = d
        · rw [hj]; exact hb
        · exact h4 j (by omega) (by omega)
theorem lastBz_spec (b : Int → Bool) : ∀ (n : Nat) (d : Int), (d + 1).toNat = n → (lastBz b d = -6 ∧ ∀ j, j ≤ d → 0 ≤ j → b j = false) ∨ (lastBz b d ≤ d ∧ 0 ≤ lastBz b d ∧ b (lastBz b d) = true ∧ ∀ j, j ≤ d → lastBz b d < j → b j = false)
  | 0, d, h => Or.inl ⟨lastBz_out (by omega), fun j h1 h2 => by omega⟩
  | n + 1, d, h => by
    have e := lastBz_in (b := b) (d := d) (by omega)
    by_cases hb : b d = true
    · rw [if_pos hb] at e
      exact Or.inr ⟨by omega, by omega, by rw [e]; exact hb, fun j h1 h2 => by omega⟩
    · rw [if_neg hb] at e
      have hb : b d = false := by simpa using hb
      rcases lastBz_spec b n (d - 1) (by omega) with ⟨h1, h2⟩ | ⟨h1, h2, h3, h4⟩
      · refine Or.inl ⟨by omega, fun j h3 h4 => ?_⟩
        by_cases hj : j = d
        · rw [hj]; exact hb
        · exact h2 j (by omega) h4
      · refine Or.inr ⟨by omega, by omega, by rw [e]; exact h3, fun j h5 h6 => ?_⟩
        by_cases hj : j = d
        · rw [hj]; exact hb
        · exact h4 j (by omega) (by omega)
theorem nextBz_rng (b : Int → Bool) (d : Int) : nextBz b d = -6 ∨ (d ≤ nextBz b d ∧ nextBz b d ≤ 1094) := by
  rcases nextBz_spec b _ d rfl with h | h
  · exact Or.inl h.1
  · exact Or.inr ⟨h.1, h.2.1⟩
theorem lastBz_rng (b : Int → Bool) (d : Int) : lastBz b d = -6 ∨ (lastBz b d ≤ d ∧ 0 ≤ lastBz b d) := by
  rcases lastBz_spec b _ d rfl with h | h
  · exact Or.inl h.1
  · exact Or.inr ⟨h.1, h.2.1⟩
def shT (b : Int → Bool) (d r : Int) : Int := if r = 2 then lastBz b d else if r = 3 ∧ (nextBz b d = -6 ∨ ¬ mOf (nextBz b d) = mOf d) then lastBz b d else nextBz b d
def shZ (b : Int → Bool) (d r : Int) : Int := if r = 0 ∨ r = 4 then d else if shT b d r = -6 then d else shT b d r
theorem shZ_0 {b : Int → Bool} {d r : Int} (hr : r = 0 ∨ r = 4) : shZ b d r = d := if_pos hr
theorem shZ_T {b : Int → Bool} {d r t : Int} (hr : ¬ (r = 0 ∨ r = 4)) (e : shT b d r = t) : shZ b d r = if t = -6 then d else t := by
  unfold shZ
  rw [if_neg hr, e]
theorem shT_rng (b : Int → Bool) {d r : Int} : shT b d r = lastBz b d ∨ shT b d r = nextBz b d := by
  unfold shT
  split
  · exact Or.inl rfl
  · split
    · exact Or.inl rfl
    · exact Or.inr rfl
theorem shZ_rng (b : Int → Bool) {d r : Int} (h : 0 ≤ d ∧ d ≤ 1094) : 0 ≤ shZ b d r ∧ shZ b d r ≤ 1094 := by
  have h1 := nextBz_rng b d
  have h2 := lastBz_rng b d
  have h3 := shT_rng b (d := d) (r := r)
  by_cases g0 : r = 0 ∨ r = 4
  · rw [shZ_0 g0]; exact h
  · rw [shZ_T g0 rfl]
    split <;> omega
def calC (H : hR) (b : Int → Bool) : Prop := ∀ d : Int, 0 ≤ d ∧ d ≤ 1094 → fX1_isBusiness d H = some (bI (b d))
def calM (m : mR) (b : Int → Bool) : Prop := ∀ d : Int, 0 ≤ d ∧ d ≤ 1094 → fX7_isBusiness d m = some (bI (b d))
theorem ec_next_b2 {H : hR} {b : Int → Bool} (hb : calC H b) : ∀ (n fuel : Nat) (d : Int), (1095 - d).toNat = n → 0 ≤ d → d ≤ 1095 → n < fuel → fX1_nextBusiness_b2 H fuel d = some (nextBz b d)
  | n, 0, d, _, _, _, h => by omega
  | n, fuel + 1, d, h1, h2, h3, h4 => by
    unfold fX1_nextBusiness_b2
    rw [gd_pos (by omega)]
    by_cases g : 1094 < d
    · rw [if_pos g, nextBz_out g]
    · rw [if_neg g, hb d (by omega), cr_some, nextBz_in (by omega)]
      cases b d
      · rw [bI_f rfl, gd_pos (by decide), if_pos rfl]
        exact ec_next_b2 hb (n - 1) fuel (d + 1) (by omega) (by omega) (by omega) (by omega)
      · rw [bI_t rfl, gd_pos (by decide), if_neg (by decide)]
        rfl
theorem ec_next {H : hR} {b : Int → Bool} (hb : calC H b) {d : Int} (h : 0 ≤ d ∧ d ≤ 1095) : fX1_nextBusiness d H = some (nextBz b d) :=
  ec_next_b2 hb _ fuel0 d rfl h.1 h.2 (by show _ < 1000000; omega)
theorem ec_last_b2 {H : hR} {b : Int → Bool} (hb : calC H b) : ∀ (n fuel : Nat) (d : Int), (d + 1).toNat = n → -1 ≤ d → d ≤ 1094 → n < fuel → fX1_lastBusiness_b2 H fuel d = some (lastBz b d)
  | n, 0, d, _, _, _, h => by omega
  | n, fuel + 1, d, h1, h2, h3, h4 => by
    unfold fX1_lastBusiness_b2
    rw [gd_pos (by omega)]
    by_cases g : d < 0
    · rw [if_pos g, lastBz_out g]
    · rw [if_neg g, hb d (by omega), cr_some, lastBz_in (by omega)]
      cases b d
      · rw [bI_f rfl, gd_pos (by decide), if_pos rfl]
        exact ec_last_b2 hb (n - 1) fuel (d - 1) (by omega) (by omega) (by omega) (by omega)
      · rw [bI_t rfl, gd_pos (by decide), if_neg (by decide)]
        rfl
theorem ec_lastB {H : hR} {b : Int → Bool} (hb : calC H b) {d : Int} (h : -1 ≤ d ∧ d ≤ 1094) : fX1_lastBusiness d H = some (lastBz b d) :=
  ec_last_b2 hb _ fuel0 d rfl h.1 h.2 (by show _ < 1000000; omega)
theorem em_next_b2 {m : mR} {b : Int → Bool} (hb : calM m b) : ∀ (n fuel : Nat) (d : Int), (1095 - d).toNat = n → 0 ≤ d → d ≤ 1095 → n < fuel → fX7_nextBusiness_b2 m fuel d = some (nextBz b d)
  | n, 0, d, _, _, _, h => by omega
  | n, fuel + 1, d, h1, h2, h3, h4 => by
    unfold fX7_nextBusiness_b2
    rw [gd_pos (by omega)]
    by_cases g : 1094 < d
    · rw [if_pos g, nextBz_out g]
    · rw [if_neg g, hb d (by omega), cr_some, nextBz_in (by omega)]
      cases b d
      · rw [bI_f rfl, gd_pos (by decide), if_pos rfl]
        exact em_next_b2 hb (n - 1) fuel (d + 1) (by omega) (by omega) (by omega) (by omega)
      · rw [bI_t rfl, gd_pos (by decide), if_neg (by decide)]
        rfl
theorem em_next {m : mR} {b : Int → Bool} (hb : calM m b) {d : Int} (h : 0 ≤ d ∧ d ≤ 1095) : fX7_nextBusiness d m = some (nextBz b d) :=
  em_next_b2 hb _ fuel0 d rfl h.1 h.2 (by show _ < 1000000; omega)
theorem em_last_b2 {m : mR} {b : Int → Bool} (hb : calM m b) : ∀ (n fuel : Nat) (d : Int), (d + 1).toNat = n → -1 ≤ d → d ≤ 1094 → n < fuel → fX7_lastBusiness_b2 m fuel d = some (lastBz b d)
  | n, 0, d, _, _, _, h => by omega
  | n, fuel + 1, d, h1, h2, h3, h4 => by
    unfold fX7_lastBusiness_b2
    rw [gd_pos (by omega)]
    by_cases g : d < 0
    · rw [if_pos g, lastBz_out g]
    · rw [if_neg g, hb d (by omega), cr_some, lastBz_in (by omega)]
      cases b d
      · rw [bI_f rfl, gd_pos (by decide), if_pos rfl]
        exact em_last_b2 hb (n - 1) fuel (d - 1) (by omega) (by omega) (by omega) (by omega)
      · rw [bI_t rfl, gd_pos (by decide), if_neg (by decide)]
        rfl
theorem em_lastB {m : mR} {b : Int → Bool} (hb : calM m b) {d : Int} (h : -1 ≤ d ∧ d ≤ 1094) : fX7_lastBusiness d m = some (lastBz b d) :=
  em_last_b2 hb _ fuel0 d rfl h.1 h.2 (by show _ < 1000000; omega)
theorem ec_shifted {H : hR} {b : Int → Bool} (hb : calC H b) {d r : Int} (h : 0 ≤ d ∧ d ≤ 1094 ∧ 0 ≤ r ∧ r ≤ 4) : fX1_shifted d r H = some (shZ b d r) := by
  have h1 := nextBz_rng b d
  have h2 := lastBz_rng b d
  have hm := mOf_in (d := d) (by omega)
  refine po_eq ?_
  unfold fX1_shifted
  refine po_gd (by omega) (po_if (fun g => po_some (shZ_0 (by omega)).symm) (fun g => po_gd (by omega) (po_if (fun g2 => po_some (shZ_0 (by omega)).symm) (fun g2 => po_gd (by omega) (po_if (fun g3 => po_cre (ec_lastB hb (by omega)) ?_) (fun g3 => po_cre (ec_next hb (by omega)) ?_))))))
  · unfold fX1_shifted_b29 fX1_shifted_b58
    have e : shT b d r = lastBz b d := if_pos g3
    refine po_gd (by omega) (po_iff (by omega) (po_gd (by omega) (po_if (fun g4 => po_some ?_) (fun g4 => po_some ?_))))
    · rw [shZ_T (by omega) e, if_pos g4]
    · rw [shZ_T (by omega) e, if_neg g4]
  · unfold fX1_shifted_b29
    refine po_gd (by omega) (po_if (fun g4 => po_gd (by omega) (po_if (fun g5 => ?_) (fun g5 => ?_))) (fun g4 => ?_))
    · have e : shT b d r = lastBz b d := (if_neg g3).trans (if_pos ⟨g4, Or.inl g5⟩)
      unfold fX1_shifted_b52 fX1_shifted_b58
      refine po_cre (ec_lastB hb (by omega)) (po_gd (by omega) (po_if (fun g6 => po_some ?_) (fun g6 => po_some ?_)))
      · rw [shZ_T (by omega) e, if_pos g6]
      · rw [shZ_T (by omega) e, if_neg g6]
    · have hn := mOf_in (d := nextBz b d) (by omega)
      refine po_cre (ec_monthOf (by omega)) (po_cre (ec_monthOf (by omega)) (po_gd (by omega) (po_if (fun g6 => ?_) (fun g6 => ?_))))
      · have e : shT b d r = nextBz b d := (if_neg g3).trans (if_neg (fun q => q.2.elim g5 (fun q => q g6)))
        unfold fX1_shifted_b58
        refine po_gd (by omega) (po_iff g5 (po_some ?_))
        rw [shZ_T (by omega) e, if_neg g5]
      · have e : shT b d r = lastBz b d := (if_neg g3).trans (if_pos ⟨g4, Or.inr g6⟩)
        unfold fX1_shifted_b52 fX1_shifted_b58
        refine po_cre (ec_lastB hb (by omega)) (po_gd (by omega) (po_if (fun g7 => po_some ?_) (fun g7 => po_some ?_)))
        · rw [shZ_T (by omega) e, if_pos g7]
        · rw [shZ_T (by omega) e, if_neg g7]
    · have e : shT b d r = nextBz b d := (if_neg g3).trans (if_neg (fun q => g4 q.1))
      unfold fX1_shifted_b58
      refine po_gd (by omega) (po_if (fun g5 => po_some ?_) (fun g5 => po_some ?_))
      · rw [shZ_T (by omega) e, if_pos g5]
      · rw [shZ_T (by omega) e, if_neg g5]
theorem em_shifted {m : mR} {b : Int → Bool} (hb : calM m b) {d r : Int} (h : 0 ≤ d ∧ d ≤ 1094 ∧ 0 ≤ r ∧ r ≤ 4) : fX7_shifted d r m = some (shZ b d r) := by
  have h1 := nextBz_rng b d
  have h2 := lastBz_rng b d
  have hm := mOf_in (d := d) (by omega)
  refine po_eq ?_
  unfold fX7_shifted
  refine po_gd (by omega) (po_if (fun g => po_some (shZ_0 (by omega)).symm) (fun g => po_gd (by omega) (po_if (fun g2 => po_some (shZ_0 (by omega)).symm) (fun g2 => po_cre (hb d (by omega)) ?_))))
  by_cases hbd : b d = true
  · have e1 : nextBz b d = d := by rw [nextBz_in (by omega), if_pos hbd]
    have e2 : lastBz b d = d := by rw [lastBz_in (by omega), if_pos hbd]
    have h3 := shT_rng b (d := d) (r := r)
    have e : shT b d r = d := by omega
    rw [bI_t hbd]
    refine po_gd (by decide) (po_iff (by decide) (po_some ?_))
    rw [shZ_T (by omega) e, if_neg (by omega)]
  · rw [bI_f (by simpa using hbd)]
    refine po_gd (by decide) (po_ift rfl (po_cre (em_next hb (by omega)) (po_cre (em_lastB hb (by omega)) (po_gd (by omega) (po_if (fun g3 => po_gd (by omega) (po_if (fun g4 => po_some ?_) (fun g4 => po_some ?_))) (fun g3 => po_gd (by omega) (po_if (fun g4 => po_gd (by omega) (po_if (fun g5 => ?_) (fun g5 => ?_))) (fun g4 => ?_))))))))
    · have e : shT b d r = nextBz b d := (if_neg (by omega)).trans (if_neg (by omega))
      rw [shZ_T (by omega) e, if_pos g4]
    · have e : shT b d r = nextBz b d := (if_neg (by omega)).trans (if_neg (by omega))
      rw [shZ_T (by omega) e, if_neg g4]
    · have e : shT b d r = lastBz b d := (if_neg (by omega)).trans (if_pos ⟨g4, Or.inl g5⟩)
      unfold fX7_shifted_b73
      refine po_gd (by omega) (po_if (fun g6 => po_some ?_) (fun g6 => po_some ?_))
      · rw [shZ_T (by omega) e, if_pos g6]
      · rw [shZ_T (by omega) e, if_neg g6]
    · have hn := mOf_in (d := nextBz b d) (by omega)
      refine po_cre (em_monthOf (by omega)) (po_cre (em_monthOf (by omega)) (po_gd (by omega) (po_if (fun g6 => po_some ?_) (fun g6 => ?_))))
      · have e : shT b d r = nextBz b d := (if_neg (by omega)).trans (if_neg (fun q => q.2.elim g5 (fun q => q g6)))
        rw [shZ_T (by omega) e, if_neg g5]
      · have e : shT b d r = lastBz b d := (if_neg (by omega)).trans (if_pos ⟨g4, Or.inr g6⟩)
        unfold fX7_shifted_b73
        refine po_gd (by omega) (po_if (fun g7 => po_some ?_) (fun g7 => po_some ?_))
        · rw [shZ_T (by omega) e, if_pos g7]
        · rw [shZ_T (by omega) e, if_neg g7]
    · have e : shT b d r = lastBz b d := if_pos (by omega)
      unfold fX7_shifted_b73
      refine po_gd (by omega) (po_if (fun g6 => po_some ?_) (fun g6 => po_some ?_))
      · rw [shZ_T (by omega) e, if_pos g6]
      · rw [shZ_T (by omega) e, if_neg g6]
