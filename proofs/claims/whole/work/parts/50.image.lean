-- CALL AGAINST CALL: image, restore
def jCp (μ : sM) (o a p b : Nat) : sM := s_cp (s_cp (s_cp (s_cp (s_cp (s_cp (s_cp (s_cp (s_cp (s_u (s_u (s_u μ p 0 (μ.1 o 0)) p 1 (μ.1 o 1)) p 2 (μ.1 o 2)) a b 7) (a + 1) (b + 1) 7) (a + 2) (b + 2) 7) (a + 3) (b + 3) 7) (a + 4) (b + 4) 7) (a + 5) (b + 5) 4) (a + 6) (b + 6) 4) (a + 7) (b + 7) 4) (a + 8) (b + 8) 4
theorem jCp_fr {μ : sM} {o a p b : Nat} : sFr [p, b, b + 1, b + 2, b + 3, b + 4, b + 5, b + 6, b + 7, b + 8] μ (jCp μ o a p b) := by
  unfold jCp
  refine ((((((((((((sFr.u ?_).tr (sFr.u ?_)).tr (sFr.u ?_)).tr (sFr.cp ?_)).tr (sFr.cp ?_)).tr (sFr.cp ?_)).tr (sFr.cp ?_)).tr (sFr.cp ?_)).tr (sFr.cp ?_)).tr (sFr.cp ?_)).tr (sFr.cp ?_)).tr (sFr.cp ?_)) <;> simp
theorem jCp_C {μ : sM} {o a p b : Nat} {T : tT} (hp : p < 4) (ha : 4 ≤ a) (hb : 4 ≤ b) (hab : a + 9 ≤ b ∨ b + 9 ≤ a) (h : tC μ o a T) : tC (jCp μ o a p b) p b T := by
  have n7 : (7 : Int32).toNatClampNeg = 7 := rfl
  have n4 : (4 : Int32).toNatClampNeg = 4 := rfl
  obtain ⟨h1, h2, h3, h4, h5⟩ := h
  unfold jCp
  refine ⟨?_, ?_, ?_, fun t ht => ?_, fun g hg => ?_⟩
  · repeat rw [s_cp_ne (by omega)]
    rw [s_u_off (by omega), s_u_off (by omega), s_u_at]; exact h1
  · repeat rw [s_cp_ne (by omega)]
    rw [s_u_off (by omega), s_u_at]; exact h2
  · repeat rw [s_cp_ne (by omega)]
    rw [s_u_at]; exact h3
  · obtain ⟨a1, a2, a3, a4, a5⟩ := h4 t ht
    refine ⟨?_, ?_, ?_, ?_, ?_⟩
    · iterate 8 rw [s_cp_ne (by omega)]
      rw [s_cp_in (by omega)]
      repeat rw [s_cp_ne (by omega)]
      rw [s_u_ne (by omega), s_u_ne (by omega), s_u_ne (by omega)]; exact a1
    · iterate 7 rw [s_cp_ne (by omega)]
      rw [s_cp_in (by omega)]
      repeat rw [s_cp_ne (by omega)]
      rw [s_u_ne (by omega), s_u_ne (by omega), s_u_ne (by omega)]; exact a2
    · iterate 6 rw [s_cp_ne (by omega)]
      rw [s_cp_in (by omega)]
      repeat rw [s_cp_ne (by omega)]
      rw [s_u_ne (by omega), s_u_ne (by omega), s_u_ne (by omega)]; exact a3
    · iterate 5 rw [s_cp_ne (by omega)]
      rw [s_cp_in (by omega)]
      repeat rw [s_cp_ne (by omega)]
      rw [s_u_ne (by omega), s_u_ne (by omega), s_u_ne (by omega)]; exact a4
    · iterate 4 rw [s_cp_ne (by omega)]
      rw [s_cp_in (by omega)]
      repeat rw [s_cp_ne (by omega)]
      rw [s_u_ne (by omega), s_u_ne (by omega), s_u_ne (by omega)]; exact a5
  · obtain ⟨a1, a2, a3, a4⟩ := h5 g hg
    refine ⟨?_, ?_, ?_, ?_⟩
    · iterate 3 rw [s_cp_ne (by omega)]
      rw [s_cp_in (by omega)]
      repeat rw [s_cp_ne (by omega)]
      rw [s_u_ne (by omega), s_u_ne (by omega), s_u_ne (by omega)]; exact a1
    · iterate 2 rw [s_cp_ne (by omega)]
      rw [s_cp_in (by omega)]
      repeat rw [s_cp_ne (by omega)]
      rw [s_u_ne (by omega), s_u_ne (by omega), s_u_ne (by omega)]; exact a2
    · rw [s_cp_ne (by omega), s_cp_in (by omega)]
      repeat rw [s_cp_ne (by omega)]
      rw [s_u_ne (by omega), s_u_ne (by omega), s_u_ne (by omega)]; exact a3
    · rw [s_cp_in (by omega)]
      repeat rw [s_cp_ne (by omega)]
      rw [s_u_ne (by omega), s_u_ne (by omega), s_u_ne (by omega)]; exact a4
-- the reference: sixty cells, in their order
def pR (j : Nat) : Nat := if j < 2 then 62 else if j < 30 then 63 else if j < 44 then 64 + (j - 30) % 2 else 66 + (j - 44) % 4
def pI (j : Nat) : Nat := if j = 0 then 0 else if j = 1 then 4 else if j < 30 then j - 2 else if j < 44 then (j - 30) / 2 else (j - 44) / 4
def pN (r i : Nat) : Nat := if r = 62 then (if i = 0 then 0 else 1) else if r = 63 then 2 + i else if r = 64 then 30 + 2 * i else if r = 65 then 31 + 2 * i else 44 + 4 * i + (r - 66)
theorem pN_of : ∀ j, j < 60 → pN (pR j) (pI j) = j := by decide
theorem pR_in : ∀ j, j < 60 → pR j ∈ [62, 63, 64, 65, 66, 67, 68, 69] ∧ (pR j = 62 → pI j = 0 ∨ pI j = 4) := by decide
theorem p_other {i j : Nat} (hi : i < 60) (hj : j < 60) (h : i ≠ j) : pR i ≠ pR j ∨ pI i ≠ pI j := by
  by_cases c : pR i = pR j
  · refine Or.inr (fun c2 => h ?_)
    have e1 := pN_of i hi
    have e2 := pN_of j hj
    rw [c, c2] at e1
    omega
  · exact Or.inl c
theorem s_u_not {μ : sM} {r i q j : Nat} {v : Int32} (h : q ≠ r ∨ j ≠ i) : (s_u μ r i v).1 q j = μ.1 q j := by
  by_cases c : q = r
  · subst c
    exact s_u_off (by omega)
  · rw [s_u_ne c]
def tJ (T : tT) (j : Nat) : Int32 := if j = 0 then nI T.1 else if j = 1 then nI (tB (T.2 10) 4) else if j < 30 then nI (T.2 ((j - 2) / 7) ((j - 2) % 7)) else if j < 44 then (if (j - 30) % 2 = 0 then nI (T.2 4 ((j - 30) / 2)) else nS (T.2 5 ((j - 30) / 2))) else nI (T.2 (6 + (j - 44) % 4) ((j - 44) / 4))
theorem j60 {P : Nat → Prop} (h0 : P 0) (h1 : P 1) (ht : ∀ t, t < 7 → P (2 + t) ∧ P (9 + t) ∧ P (16 + t) ∧ P (23 + t) ∧ P (30 + 2 * t) ∧ P (31 + 2 * t)) (hg : ∀ g, g < 4 → P (44 + 4 * g) ∧ P (45 + 4 * g) ∧ P (46 + 4 * g) ∧ P (47 + 4 * g)) (j : Nat) (hj : j < 60) : P j := by
  by_cases c0 : j = 0
  · rw [c0]; exact h0
  by_cases c1 : j = 1
  · rw [c1]; exact h1
  by_cases c2 : j < 30
  · have h := ht ((j - 2) % 7) (by omega)
    have : (j - 2) / 7 = 0 ∨ (j - 2) / 7 = 1 ∨ (j - 2) / 7 = 2 ∨ (j - 2) / 7 = 3 := by omega
    rcases this with e | e | e | e
    · rw [show j = 2 + (j - 2) % 7 by omega]; exact h.1
    · rw [show j = 9 + (j - 2) % 7 by omega]; exact h.2.1
    · rw [show j = 16 + (j - 2) % 7 by omega]; exact h.2.2.1
    · rw [show j = 23 + (j - 2) % 7 by omega]; exact h.2.2.2.1
  by_cases c3 : j < 44
  · have h := ht ((j - 30) / 2) (by omega)
    have : (j - 30) % 2 = 0 ∨ (j - 30) % 2 = 1 := by omega
    rcases this with e | e
    · rw [show j = 30 + 2 * ((j - 30) / 2) by omega]; exact h.2.2.2.2.1
    · rw [show j = 31 + 2 * ((j - 30) / 2) by omega]; exact h.2.2.2.2.2
  · have h := hg ((j - 44) / 4) (by omega)
    have : (j - 44) % 4 = 0 ∨ (j - 44) % 4 = 1 ∨ (j - 44) % 4 = 2 ∨ (j - 44) % 4 = 3 := by omega
    rcases this with e | e | e | e
    · rw [show j = 44 + 4 * ((j - 44) / 4) by omega]; exact h.1
    · rw [show j = 45 + 4 * ((j - 44) / 4) by omega]; exact h.2.1
    · rw [show j = 46 + 4 * ((j - 44) / 4) by omega]; exact h.2.2.1
    · rw [show j = 47 + 4 * ((j - 44) / 4) by omega]; exact h.2.2.2
theorem l7 {P : Nat → Prop} (h0 : P 0) (h1 : P 1) (h2 : P 2) (h3 : P 3) (h4 : P 4) (h5 : P 5) (h6 : P 6) (t : Nat) (ht : t < 7) : P t := by
  have : t = 0 ∨ t = 1 ∨ t = 2 ∨ t = 3 ∨ t = 4 ∨ t = 5 ∨ t = 6 := by omega
  rcases this with rfl | rfl | rfl | rfl | rfl | rfl | rfl <;> assumption
theorem l4 {P : Nat → Prop} (h0 : P 0) (h1 : P 1) (h2 : P 2) (h3 : P 3) (t : Nat) (ht : t < 4) : P t := by
  have : t = 0 ∨ t = 1 ∨ t = 2 ∨ t = 3 := by omega
  rcases this with rfl | rfl | rfl | rfl <;> assumption
theorem tM_of {μ : sM} {T : tT} (h : ∀ j, j < 60 → μ.1 (pR j) (pI j) = tJ T j) : tM μ T := by
  have H : ∀ {P : Nat → Prop}, (∀ t, t < 60 → P t) → ∀ j, Nat.blt j 60 = true → P j := fun h j hj => h j (Nat.le_of_ble_eq_true hj)
  have h := H h
  refine ⟨⟨h 0 rfl, h 1 rfl, l7 ⟨h 2 rfl, h 9 rfl⟩ ⟨h 3 rfl, h 10 rfl⟩ ⟨h 4 rfl, h 11 rfl⟩ ⟨h 5 rfl, h 12 rfl⟩ ⟨h 6 rfl, h 13 rfl⟩ ⟨h 7 rfl, h 14 rfl⟩ ⟨h 8 rfl, h 15 rfl⟩, l4 ⟨h 44 rfl, h 45 rfl, h 46 rfl, h 47 rfl⟩ ⟨h 48 rfl, h 49 rfl, h 50 rfl, h 51 rfl⟩ ⟨h 52 rfl, h 53 rfl, h 54 rfl, h 55 rfl⟩ ⟨h 56 rfl, h 57 rfl, h 58 rfl, h 59 rfl⟩⟩, ?_⟩
  exact l7 ⟨h 16 rfl, h 23 rfl, h 30 rfl, h 31 rfl⟩ ⟨h 17 rfl, h 24 rfl, h 32 rfl, h 33 rfl⟩ ⟨h 18 rfl, h 25 rfl, h 34 rfl, h 35 rfl⟩ ⟨h 19 rfl, h 26 rfl, h 36 rfl, h 37 rfl⟩ ⟨h 20 rfl, h 27 rfl, h 38 rfl, h 39 rfl⟩ ⟨h 21 rfl, h 28 rfl, h 40 rfl, h 41 rfl⟩ ⟨h 22 rfl, h 29 rfl, h 42 rfl, h 43 rfl⟩
theorem tM_to {μ : sM} {T : tT} (h : tM μ T) : ∀ j, j < 60 → μ.1 (pR j) (pI j) = tJ T j := by
  obtain ⟨⟨a, b, c, e⟩, f⟩ := h
  have c : ∀ t, Nat.blt t 7 = true → _ := fun t ht => c t (Nat.le_of_ble_eq_true ht)
  have f : ∀ t, Nat.blt t 7 = true → _ := fun t ht => f t (Nat.le_of_ble_eq_true ht)
  have e : ∀ t, Nat.blt t 4 = true → _ := fun t ht => e t (Nat.le_of_ble_eq_true ht)
  refine j60 a b (l7 ?_ ?_ ?_ ?_ ?_ ?_ ?_) (l4 (e 0 rfl) (e 1 rfl) (e 2 rfl) (e 3 rfl))
  · exact ⟨(c 0 rfl).1, (c 0 rfl).2, f 0 rfl⟩
  · exact ⟨(c 1 rfl).1, (c 1 rfl).2, f 1 rfl⟩
  · exact ⟨(c 2 rfl).1, (c 2 rfl).2, f 2 rfl⟩
  · exact ⟨(c 3 rfl).1, (c 3 rfl).2, f 3 rfl⟩
  · exact ⟨(c 4 rfl).1, (c 4 rfl).2, f 4 rfl⟩
  · exact ⟨(c 5 rfl).1, (c 5 rfl).2, f 5 rfl⟩
  · exact ⟨(c 6 rfl).1, (c 6 rfl).2, f 6 rfl⟩
