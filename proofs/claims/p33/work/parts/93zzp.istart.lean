/-! ===== the start, and the room ===== -/
theorem phi_le {G : gR} (h : ∀ k : Int, 0 ≤ k ∧ k ≤ 10 → roomOK ((G.1.1 k).1 4 1 0)) : phi G ≤ 180224 := by
  have e : ∀ k : Nat, k < 11 → rmN (G.1.1 k) ≤ 16384 := fun k hk => by
    have := roomOK_rng (h k (by omega))
    unfold rmN
    omega
  have h0 := e 0 (by decide)
  have h1 := e 1 (by decide)
  have h2 := e 2 (by decide)
  have h3 := e 3 (by decide)
  have h4 := e 4 (by decide)
  have h5 := e 5 (by decide)
  have h6 := e 6 (by decide)
  have h7 := e 7 (by decide)
  have h8 := e 8 (by decide)
  have h9 := e 9 (by decide)
  have h10 := e 10 (by decide)
  show rmN (G.1.1 ((0 : Nat) : Int)) + (rmN (G.1.1 ((1 : Nat) : Int)) + (rmN (G.1.1 ((2 : Nat) : Int)) + (rmN (G.1.1 ((3 : Nat) : Int)) + (rmN (G.1.1 ((4 : Nat) : Int)) + (rmN (G.1.1 ((5 : Nat) : Int)) + (rmN (G.1.1 ((6 : Nat) : Int)) + (rmN (G.1.1 ((7 : Nat) : Int)) + (rmN (G.1.1 ((8 : Nat) : Int)) + (rmN (G.1.1 ((9 : Nat) : Int)) + (rmN (G.1.1 ((10 : Nat) : Int)) + 0)))))))))) ≤ 180224
  omega
theorem iv_start : Inv 0 0 0 C0 M0 := by
  have room : roomOK 64 := ⟨0, by decide, rfl⟩
  have hb : ∀ d : Int, 0 ≤ d ∧ d ≤ 1094 → holB H0 d = false := fun d hd => by
    unfold holB
    rw [show H0.1 6 (d / 64) 0 = 0 from rfl]
    obtain ⟨k, h1, h2⟩ := toN (n := 64) (d := d % 64) (by omega)
    rw [h2]
    have : ∀ k : Nat, k < 64 → bitL 0 k = false := by decide +kernel
    exact this k (by omega)
  have hs : Sim 0 H0 M0 := by
    refine ⟨⟨⟨rfl, rfl, rfl, rfl, rfl, rfl, rfl, rfl, rfl, rfl⟩, ⟨⟨by decide, by decide, fun k h1 h2 => ?_, fun i j h1 h2 => ?_⟩, fun d hd => ?_⟩, fun a ha => ?_, fun o ho => ?_, fun i hi => ?_⟩, ⟨rfl, rfl, rfl⟩, ⟨by decide, by decide, by decide, by decide, room⟩, ⟨by decide, by decide, by decide, by decide, by decide, by decide⟩, fun a ha => ?_, fun o ho => ?_, ⟨fun i hi => ?_, fun i j h1 h2 h3 => ?_⟩, ⟨fun a ha => ?_, fun o ho => ?_⟩, fun a ha => ?_, fun a ha => ?_⟩
    · have h2 : k < 0 := h2
      omega
    · have h2 : i < 0 := h2
      omega
    · rw [hb d hd]
      rfl
    · have ha : 0 ≤ a ∧ a < 0 := ha
      omega
    · have ho : 0 ≤ o ∧ o < 0 := ho
      omega
    · have hi : 0 ≤ i ∧ i < 0 := hi
      omega
    · have ha : 0 ≤ a ∧ a < 0 := ha
      omega
    · have ho : 0 ≤ o ∧ o < 0 := ho
      omega
    · have hi : 0 ≤ i ∧ i < 0 := hi
      omega
    · have h3 : j < 0 := h3
      omega
    · have ha : 0 ≤ a ∧ a < 0 := ha
      omega
    · have ho : 0 ≤ o ∧ o < 0 := ho
      omega
    · have ha : 0 ≤ a ∧ a < 0 := ha
      omega
    · have ha : 0 ≤ a ∧ a < 0 := ha
      omega
  refine ⟨hs, ⟨_, Or.inr rfl, by decide, ⟨fun i hi => ?_, fun o ho => ?_, fun i j a b c => ?_⟩, fun i hi => ?_⟩, ⟨rfl, by decide, fun j hj => ?_⟩, by decide, ⟨by decide, rfl, by decide, fun i hi => ?_, fun s hs => ⟨rfl, Or.inl rfl, fun q => ?_⟩, fun k hk => room⟩⟩
  · have hi : 0 ≤ i ∧ i < 0 := hi
    omega
  · have ho : 0 ≤ o ∧ o < 0 := ho
    omega
  · have c : j < 0 := c
    omega
  · have hi : 0 ≤ i ∧ i < 0 := hi
    omega
  · have hj : 0 ≤ j ∧ j < 0 := hj
    omega
  · have hi : 0 ≤ i ∧ i < 0 := hi
    omega
  · have q : (0 : Int) = 1 := q
    omega
