-- ONE FIELD OF A TABLE CHANGED; thing, guest, leave
def tU (T : tT) (k i v : Nat) : tT := (T.1, va_up T.2 k (va_up (T.2 k) i v))
theorem tU_w {T : tT} {k i v : Nat} (hT : tW T) (h1 : v ≤ 9 ∨ (k = 5 ∧ v ≤ 10)) (h2 : k = 2 ∨ k = 10 → v ≤ 1) (h8 : k = 8 → v ≤ 3) (h7 : k = 7 ∨ k = 9 → 1 ≤ v) (h10 : k = 10 → v = 1 → 1 ≤ T.2 7 i ∧ 1 ≤ T.2 9 i) (ho : (k = 2 ∨ k = 4 ∨ k = 5) → i < T.1) : tW (tU T k i v) := by
  obtain ⟨w1, w2, w3, w4, w5⟩ := hT
  have e : ∀ k' i', (tU T k i v).2 k' i' = if k' = k ∧ i' = i then v else T.2 k' i' := fun k' i' => by
    unfold tU va_up
    by_cases c : k' = k
    · subst c; simp
    · simp [c]
  refine ⟨w1, fun k' i' => ?_, fun i' => ⟨?_, ?_, ?_⟩, fun g hg q => ?_, fun t ht => ⟨?_, ?_, ?_⟩⟩
  · rw [e]
    have := w2 k' i'
    split
    next c => obtain ⟨rfl, rfl⟩ := c; split <;> omega
    next => exact this
  · rw [e]
    have := (w3 i').1
    split
    next c => exact h2 (Or.inl c.1.symm)
    next => exact this
  · rw [e]
    have := (w3 i').2.1
    split
    next c => exact h8 c.1.symm
    next => exact this
  · rw [e]
    have := (w3 i').2.2
    split
    next c => exact h2 (Or.inr c.1.symm)
    next => exact this
  · rw [e] at q
    have q2 : 1 ≤ T.2 7 g ∧ 1 ≤ T.2 9 g := by
      split at q
      next c => rw [c.2]; exact h10 c.1.symm q
      next => exact w4 g hg q
    constructor
    · rw [e]
      split
      next c => exact h7 (Or.inl c.1.symm)
      next => exact q2.1
    · rw [e]
      split
      next c => exact h7 (Or.inr c.1.symm)
      next => exact q2.2
  · have ht : T.1 ≤ t := ht
    rw [e, if_neg]
    · exact (w5 t ht).1
    · rintro ⟨c1, c2⟩
      have := ho (Or.inr (Or.inl c1.symm))
      omega
  · have ht : T.1 ≤ t := ht
    rw [e, if_neg]
    · exact (w5 t ht).2.1
    · rintro ⟨c1, c2⟩
      have := ho (Or.inr (Or.inr c1.symm))
      omega
  · have ht : T.1 ≤ t := ht
    rw [e, if_neg]
    · exact (w5 t ht).2.2
    · rintro ⟨c1, c2⟩
      have := ho (Or.inl c1.symm)
      omega
theorem tC_up0 {μ : sM} {T : tT} {t v : Nat} (hC : tC μ 1 4 T) : tC (s_u μ 4 t (nI v)) 1 4 (tU T 0 t v) := by
  obtain ⟨h1, h2, h3, h4, h5⟩ := hC
  refine ⟨by simpa [s_u, va_up, tU] using h1, by simpa [s_u, va_up, tU] using h2, by simpa [s_u, va_up, tU] using h3, fun i hi => ?_, fun g hg => by simpa [s_u, va_up, tU] using h5 g hg⟩
  have := h4 i hi
  simp at this
  by_cases c : i = t
  · subst c; simp [s_u, va_up, upd, tU, this]
  · simp [s_u, va_up, upd, tU, this, c]
theorem tC_up3 {μ : sM} {T : tT} {t v : Nat} (hC : tC μ 1 4 T) : tC (s_u μ 6 t (nI v)) 1 4 (tU T 3 t v) := by
  obtain ⟨h1, h2, h3, h4, h5⟩ := hC
  refine ⟨by simpa [s_u, va_up, tU] using h1, by simpa [s_u, va_up, tU] using h2, by simpa [s_u, va_up, tU] using h3, fun i hi => ?_, fun g hg => by simpa [s_u, va_up, tU] using h5 g hg⟩
  have := h4 i hi
  simp at this
  by_cases c : i = t
  · subst c; simp [s_u, va_up, upd, tU, this]
  · simp [s_u, va_up, upd, tU, this, c]
theorem tC_up1 {μ : sM} {T : tT} {t v : Nat} (hC : tC μ 1 4 T) : tC (s_u (s_u (s_u μ 5 t (nI v)) 6 t (nI v)) 7 t 0) 1 4 (tU (tU (tU T 1 t v) 3 t v) 4 t 0) := by
  obtain ⟨h1, h2, h3, h4, h5⟩ := hC
  refine ⟨by simpa [s_u, va_up, tU] using h1, by simpa [s_u, va_up, tU] using h2, by simpa [s_u, va_up, tU] using h3, fun i hi => ?_, fun g hg => by simpa [s_u, va_up, tU] using h5 g hg⟩
  have := h4 i hi
  simp at this
  by_cases c : i = t
  · subst c; simp [s_u, va_up, upd, tU, this]; rfl
  · simp [s_u, va_up, upd, tU, this, c]
theorem tC_up5 {μ : sM} {T : tT} {t v : Nat} (hC : tC μ 1 4 T) : tC (s_u μ 8 t (nI v)) 1 4 (tU T 5 t (v + 1)) := by
  obtain ⟨h1, h2, h3, h4, h5⟩ := hC
  refine ⟨by simpa [s_u, va_up, tU] using h1, by simpa [s_u, va_up, tU] using h2, by simpa [s_u, va_up, tU] using h3, fun i hi => ?_, fun g hg => by simpa [s_u, va_up, tU] using h5 g hg⟩
  have := h4 i hi
  simp at this
  by_cases c : i = t
  · subst c; simp [s_u, va_up, upd, tU, this, nS]
  · simp [s_u, va_up, upd, tU, this, c]
theorem tC_up2 {μ : sM} {T : tT} {t v : Nat} (hC : tC μ 1 4 T) : tC (s_u μ 1 1 (nI (tB (va_up (T.2 2) t v) 7))) 1 4 (tU T 2 t v) := by
  obtain ⟨h1, h2, h3, h4, h5⟩ := hC
  refine ⟨by simpa [s_u, va_up, upd, tU] using h1, by simp [s_u, va_up, upd, tU], by simpa [s_u, va_up, upd, tU] using h3, fun i hi => by simpa [s_u, va_up, upd, tU] using h4 i hi, fun g hg => by simpa [s_u, va_up, upd, tU] using h5 g hg⟩
theorem tC_up10 {μ : sM} {T : tT} {g v : Nat} (hC : tC μ 1 4 T) : tC (s_u μ 1 2 (nI (tB (va_up (T.2 10) g v) 4))) 1 4 (tU T 10 g v) := by
  obtain ⟨h1, h2, h3, h4, h5⟩ := hC
  refine ⟨by simpa [s_u, va_up, upd, tU] using h1, by simpa [s_u, va_up, upd, tU] using h2, by simp [s_u, va_up, upd, tU], fun i hi => by simpa [s_u, va_up, upd, tU] using h4 i hi, fun g hg => by simpa [s_u, va_up, upd, tU] using h5 g hg⟩
theorem tC_up6 {μ : sM} {T : tT} {g s h a o : Nat} (hC : tC μ 1 4 T) : tC (s_u (s_u (s_u (s_u μ 9 g (nI s)) 10 g (nI h)) 11 g (nI a)) 12 g (nI o)) 1 4 (tU (tU (tU (tU T 6 g s) 7 g h) 8 g a) 9 g o) := by
  obtain ⟨h1, h2, h3, h4, h5⟩ := hC
  refine ⟨by simpa [s_u, va_up, tU] using h1, by simpa [s_u, va_up, tU] using h2, by simpa [s_u, va_up, tU] using h3, fun i hi => by simpa [s_u, va_up, tU] using h4 i hi, fun i hi => ?_⟩
  have := h5 i hi
  simp at this
  by_cases c : i = g
  · subst c; simp [s_u, va_up, upd, tU, this]
  · simp [s_u, va_up, upd, tU, this, c]
theorem tM_upk {μ : sM} {T : tT} {k t v : Nat} (hk : k < 4) (ht : t < 7) (hM : tM μ T) : tM (s_u μ 63 (7 * k + t) (nI v)) (tU T k t v) := by
  obtain ⟨⟨h1, h2, h3, h4⟩, h5⟩ := hM
  have hk : k = 0 ∨ k = 1 ∨ k = 2 ∨ k = 3 := by omega
  refine ⟨⟨by simpa [s_u, va_up, tU] using h1, ?_, fun i hi => ?_, fun g hg => ?_⟩, fun i hi => ?_⟩
  · rcases hk with rfl | rfl | rfl | rfl <;> simpa [s_u, va_up, tU] using h2
  · have := h3 i hi
    by_cases c : i = t
    · subst c
      rcases hk with rfl | rfl | rfl | rfl
      · simp [s_u, va_up, upd, tU, this]
      · simp [s_u, va_up, upd, tU, this]
      · simp [s_u, va_up, upd, tU, this, show i ≠ 14 + i by omega, show 7 + i ≠ 14 + i by omega]
      · simp [s_u, va_up, upd, tU, this, show i ≠ 21 + i by omega, show 7 + i ≠ 21 + i by omega]
    · rcases hk with rfl | rfl | rfl | rfl
      · simp [s_u, va_up, upd, tU, this, c, show 7 + i ≠ t by omega]
      · simp [s_u, va_up, upd, tU, this, c, show i ≠ 7 + t by omega]
      · simp [s_u, va_up, upd, tU, this, show i ≠ 14 + t by omega, show 7 + i ≠ 14 + t by omega]
      · simp [s_u, va_up, upd, tU, this, show i ≠ 21 + t by omega, show 7 + i ≠ 21 + t by omega]
  · rcases hk with rfl | rfl | rfl | rfl <;> simpa [s_u, va_up, tU] using h4 g hg
  · have := h5 i hi
    by_cases c : i = t
    · subst c
      rcases hk with rfl | rfl | rfl | rfl
      · simp [s_u, va_up, upd, tU, this]
      · simp [s_u, va_up, upd, tU, this, show 14 + i ≠ 7 + i by omega, show 21 + i ≠ 7 + i by omega]
      · simp [s_u, va_up, upd, tU, this]
      · simp [s_u, va_up, upd, tU, this]
    · rcases hk with rfl | rfl | rfl | rfl
      · simp [s_u, va_up, upd, tU, this, show 14 + i ≠ t by omega, show 21 + i ≠ t by omega]
      · simp [s_u, va_up, upd, tU, this, show 14 + i ≠ 7 + t by omega, show 21 + i ≠ 7 + t by omega]
      · simp [s_u, va_up, upd, tU, this, c, show 21 + i ≠ 14 + t by omega]
      · simp [s_u, va_up, upd, tU, this, c, show 14 + i ≠ 21 + t by omega]
theorem tM_up4 {μ : sM} {T : tT} {t : Nat} (hM : tM μ T) : tM (s_u μ 64 t 0) (tU T 4 t 0) := by
  obtain ⟨⟨h1, h2, h3, h4⟩, h5⟩ := hM
  refine ⟨⟨by simpa [s_u, va_up, tU] using h1, by simpa [s_u, va_up, tU] using h2, fun i hi => by simpa [s_u, va_up, tU] using h3 i hi, fun g hg => by simpa [s_u, va_up, tU] using h4 g hg⟩, fun i hi => ?_⟩
  have := h5 i hi
  by_cases c : i = t
  · subst c; simp [s_u, va_up, upd, tU, this]; rfl
  · simp [s_u, va_up, upd, tU, this, c]
theorem tM_up5 {μ : sM} {T : tT} {t v : Nat} (hM : tM μ T) : tM (s_u μ 65 t (nI v)) (tU T 5 t (v + 1)) := by
  obtain ⟨⟨h1, h2, h3, h4⟩, h5⟩ := hM
  refine ⟨⟨by simpa [s_u, va_up, tU] using h1, by simpa [s_u, va_up, tU] using h2, fun i hi => by simpa [s_u, va_up, tU] using h3 i hi, fun g hg => by simpa [s_u, va_up, tU] using h4 g hg⟩, fun i hi => ?_⟩
  have := h5 i hi
  by_cases c : i = t
  · subst c; simp [s_u, va_up, upd, tU, this, nS]
  · simp [s_u, va_up, upd, tU, this, c]
theorem tM_up10 {μ : sM} {T : tT} {g v : Nat} (hM : tM μ T) : tM (s_u μ 62 4 (nI (tB (va_up (T.2 10) g v) 4))) (tU T 10 g v) := by
  obtain ⟨⟨h1, h2, h3, h4⟩, h5⟩ := hM
  exact ⟨⟨by simpa [s_u, va_up, upd, tU] using h1, by simp [s_u, va_up, upd, tU], fun i hi => by simpa [s_u, va_up, upd, tU] using h3 i hi, fun g hg => by simpa [s_u, va_up, upd, tU] using h4 g hg⟩, fun i hi => by simpa [s_u, va_up, upd, tU] using h5 i hi⟩
theorem tM_up6 {μ : sM} {T : tT} {g s h a o : Nat} (hM : tM μ T) : tM (s_u (s_u (s_u (s_u μ 66 g (nI s)) 67 g (nI h)) 68 g (nI a)) 69 g (nI o)) (tU (tU (tU (tU T 6 g s) 7 g h) 8 g a) 9 g o) := by
  obtain ⟨⟨h1, h2, h3, h4⟩, h5⟩ := hM
  refine ⟨⟨by simpa [s_u, va_up, tU] using h1, by simpa [s_u, va_up, tU] using h2, fun i hi => by simpa [s_u, va_up, tU] using h3 i hi, fun i hi => ?_⟩, fun i hi => by simpa [s_u, va_up, upd, tU] using h5 i hi⟩
  have := h4 i hi
  by_cases c : i = g
  · subst c; simp [s_u, va_up, upd, tU, this]
  · simp [s_u, va_up, upd, tU, this, c]
-- bits put and taken
theorem sB_set7 : ∀ t, t < 7 → ∀ v, v < 2 → ∀ N, N < 128 → (nI N &&& (((1 : Int32) <<< (nI t &&& 31)) ^^^ (-1))) ||| (nI v <<< (nI t &&& 31)) = nI (N - N / 2 ^ t % 2 * 2 ^ t + v * 2 ^ t) := by decide +kernel
theorem sB_set4 : ∀ g, g < 4 → ∀ N, N < 16 → nI N ||| ((1 : Int32) <<< (nI g &&& 31)) = nI (N - N / 2 ^ g % 2 * 2 ^ g + 1 * 2 ^ g) := by decide +kernel
theorem sB_off4 : ∀ g, g < 4 → ∀ N, N < 16 → nI N &&& (((1 : Int32) <<< (nI g &&& 31)) ^^^ (-1)) = nI (N - N / 2 ^ g % 2 * 2 ^ g + 0 * 2 ^ g) := by decide +kernel
theorem tB_up7 {f : Nat → Nat} (hf : ∀ i, f i ≤ 1) {t v : Nat} (ht : t < 7) : tB f 7 - tB f 7 / 2 ^ t % 2 * 2 ^ t + v * 2 ^ t = tB (va_up f t v) 7 := by
  rw [tB7 hf ht]
  have : t = 0 ∨ t = 1 ∨ t = 2 ∨ t = 3 ∨ t = 4 ∨ t = 5 ∨ t = 6 := by omega
  rcases this with rfl | rfl | rfl | rfl | rfl | rfl | rfl <;> simp [tB, va_up] <;> omega
theorem tB_up4 {f : Nat → Nat} (hf : ∀ i, f i ≤ 1) {t v : Nat} (ht : t < 4) : tB f 4 - tB f 4 / 2 ^ t % 2 * 2 ^ t + v * 2 ^ t = tB (va_up f t v) 4 := by
  rw [tB4 hf ht]
  have : t = 0 ∨ t = 1 ∨ t = 2 ∨ t = 3 := by omega
  rcases this with rfl | rfl | rfl | rfl <;> simp [tB, va_up] <;> omega
