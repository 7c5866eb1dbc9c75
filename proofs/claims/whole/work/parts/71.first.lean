-- THE FIRST STATE
def zT0 : tT := nFirst 7 (7, fun _ _ => 0)
def zZ0 : tZ := (zT0, (0, fun _ => 0), fun _ => none)
theorem zW0 : zW zZ0 := by
  refine ⟨nFirst_w (by omega) (by omega) ⟨⟨by omega, by omega⟩, fun k i => ?_, fun i => ⟨Nat.zero_le _, Nat.zero_le _, Nat.zero_le _⟩, fun g hg q => ?_, fun t ht => ⟨rfl, rfl, rfl⟩⟩, Nat.zero_le _, fun i hi => absurd hi (Nat.not_lt_zero i), fun k T h => ?_⟩
  · exact Nat.zero_le _
  · exact absurd (show (0 : Nat) = 1 from q) (by decide)
  · cases h
theorem zC0 {μ : sM} (a0 : μ.1 1 0 = 7) (a1 : μ.1 1 1 = 0) (a2 : μ.1 1 2 = 0) (ht : ∀ t, t < 7 → μ.1 4 t = nI t ∧ μ.1 5 t = 9 ∧ μ.1 6 t = 9 ∧ μ.1 7 t = 0 ∧ μ.1 8 t = -6) (hg : ∀ g, g < 4 → μ.1 9 g = 0 ∧ μ.1 10 g = 0 ∧ μ.1 11 g = 0 ∧ μ.1 12 g = 0) (a3 : μ.1 33 0 = 0) (a4 : ∀ k, k < 2 → μ.1 32 k = 0) : zC μ zZ0 := by
  refine ⟨⟨a0, a1, a2, fun t h => ?_, hg⟩, a3, fun i hi => absurd hi (Nat.not_lt_zero i), fun k hk => ⟨fun _ => a4 k hk, fun T h => by cases h⟩⟩
  obtain ⟨b1, b2, b3, b4, b5⟩ := ht t h
  refine ⟨?_, b2, b3, b4, b5⟩
  rw [b1]
  show nI t = nI (if t < 7 then t else 0)
  rw [if_pos h]
theorem zM0 {μ : sM} (a0 : μ.1 62 0 = 7) (a1 : μ.1 62 4 = 0) (a2 : μ.1 62 10 = 0) (ht : ∀ t, t < 7 → μ.1 63 t = nI t ∧ μ.1 63 (7 + t) = 9 ∧ μ.1 63 (14 + t) = 0 ∧ μ.1 63 (21 + t) = 9 ∧ μ.1 64 t = 0 ∧ μ.1 65 t = -6) (hg : ∀ g, g < 4 → μ.1 66 g = 0 ∧ μ.1 67 g = 0 ∧ μ.1 68 g = 0 ∧ μ.1 69 g = 0) (a4 : ∀ k, k < 2 → μ.1 85 k = 0) : zM μ zZ0 := by
  refine ⟨⟨⟨a0, a1, fun t h => ?_, hg⟩, fun t h => ?_⟩, a2, fun i hi => absurd hi (Nat.not_lt_zero i), fun k hk => ⟨fun _ => a4 k hk, fun T h => by cases h⟩⟩
  · obtain ⟨b1, b2, b3, b4, b5, b6⟩ := ht t h
    refine ⟨?_, b2⟩
    rw [b1]
    show nI t = nI (if t < 7 then t else 0)
    rw [if_pos h]
  · obtain ⟨b1, b2, b3, b4, b5, b6⟩ := ht t h
    exact ⟨b3, b4, b5, b6⟩
