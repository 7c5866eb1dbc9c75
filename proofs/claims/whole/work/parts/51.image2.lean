theorem tK_of {μ : sM} {k : Nat} {T : tT} (h : ∀ j, j < 60 → μ.1 84 (80 * k + j) = tJ T j) : tK μ k T := by
  have H : ∀ {P : Nat → Prop}, (∀ t, t < 60 → P t) → ∀ j, Nat.blt j 60 = true → P j := fun h j hj => h j (Nat.le_of_ble_eq_true hj)
  have h := H h
  refine ⟨h 0 rfl, h 1 rfl, ?_, ?_⟩
  · refine l7 ?_ ?_ ?_ ?_ ?_ ?_ ?_
    · exact ⟨h 2 rfl, h 9 rfl, h 16 rfl, h 23 rfl, h 30 rfl, h 31 rfl⟩
    · exact ⟨h 3 rfl, h 10 rfl, h 17 rfl, h 24 rfl, h 32 rfl, h 33 rfl⟩
    · exact ⟨h 4 rfl, h 11 rfl, h 18 rfl, h 25 rfl, h 34 rfl, h 35 rfl⟩
    · exact ⟨h 5 rfl, h 12 rfl, h 19 rfl, h 26 rfl, h 36 rfl, h 37 rfl⟩
    · exact ⟨h 6 rfl, h 13 rfl, h 20 rfl, h 27 rfl, h 38 rfl, h 39 rfl⟩
    · exact ⟨h 7 rfl, h 14 rfl, h 21 rfl, h 28 rfl, h 40 rfl, h 41 rfl⟩
    · exact ⟨h 8 rfl, h 15 rfl, h 22 rfl, h 29 rfl, h 42 rfl, h 43 rfl⟩
  · exact l4 ⟨h 44 rfl, h 45 rfl, h 46 rfl, h 47 rfl⟩ ⟨h 48 rfl, h 49 rfl, h 50 rfl, h 51 rfl⟩ ⟨h 52 rfl, h 53 rfl, h 54 rfl, h 55 rfl⟩ ⟨h 56 rfl, h 57 rfl, h 58 rfl, h 59 rfl⟩
theorem tK_to {μ : sM} {k : Nat} {T : tT} (h : tK μ k T) : ∀ j, j < 60 → μ.1 84 (80 * k + j) = tJ T j := by
  obtain ⟨a, b, c, e⟩ := h
  have c : ∀ t, Nat.blt t 7 = true → _ := fun t ht => c t (Nat.le_of_ble_eq_true ht)
  have e : ∀ t, Nat.blt t 4 = true → _ := fun t ht => e t (Nat.le_of_ble_eq_true ht)
  exact j60 a b (l7 (c 0 rfl) (c 1 rfl) (c 2 rfl) (c 3 rfl) (c 4 rfl) (c 5 rfl) (c 6 rfl)) (l4 (e 0 rfl) (e 1 rfl) (e 2 rfl) (e 3 rfl))
/-- j cells have passed -/
def jP (μ : sM) (b : Nat) (w : Int32) (v : Nat → Int32) (j : Nat) (μ1 : sM) : Prop :=
  sFr [62, 63, 64, 65, 66, 67, 68, 69, 84] μ μ1 ∧ μ1.1 62 36 = nI (b + j) ∧ μ1.1 62 37 = w ∧
  (∀ i, i < j → μ1.1 (pR i) (pI i) = v i ∧ μ1.1 84 (b + i) = v i) ∧
  (∀ i, j ≤ i → i < 60 → μ1.1 (pR i) (pI i) = μ.1 (pR i) (pI i) ∧ μ1.1 84 (b + i) = μ.1 84 (b + i)) ∧
  (∀ x, (x < b ∨ b + 60 ≤ x) → μ1.1 84 x = μ.1 84 x) ∧ ∀ x, x ≠ 0 → x ≠ 4 → x ≠ 36 → x ≠ 37 → μ1.1 62 x = μ.1 62 x
theorem jP_step {μ μ1 : sM} {b j : Nat} {w : Int32} {v : Nat → Int32} (hj : j < 60) (hb : b ≤ 80) (h : jP μ b w v j μ1) : jP μ b w v (j + 1) (s_u (s_u (s_u μ1 84 (b + j) (v j)) 62 36 (nI (b + j) + 1)) (pR j) (pI j) (v j)) := by
  obtain ⟨h1, h2, h3, h4, h5, h6, h7⟩ := h
  obtain ⟨r1, r2⟩ := pR_in j hj
  have r84 : pR j ≠ 84 := fun e => by rw [e] at r1; simp at r1
  have rin : pR j ∈ [62, 63, 64, 65, 66, 67, 68, 69, 84] := by
    simp only [List.mem_cons, List.not_mem_nil, or_false] at r1 ⊢
    omega
  refine ⟨((h1.tr (sFr.u (by decide))).tr (sFr.u (by decide))).tr (sFr.u rin), ?_, ?_, fun i hi => ?_, fun i hi h60 => ?_, fun x hx => ?_, fun x x0 x4 x36 x37 => ?_⟩
  · rw [s_u_not (by omega), s_u_at, nI_1]
    rfl
  · rw [s_u_not (by omega), s_u_off (by omega), s_u_ne (by omega)]
    exact h3
  · by_cases c : i = j
    · subst c
      refine ⟨s_u_at, ?_⟩
      rw [s_u_ne (by omega), s_u_ne (by omega), s_u_at]
    · have hi60 : i < 60 := by omega
      obtain ⟨q1, q2⟩ := pR_in i hi60
      have q84 : pR i ≠ 84 := fun e => by rw [e] at q1; simp at q1
      rw [s_u_not (p_other hi60 hj c), s_u_not (by omega), s_u_ne q84, s_u_ne (show 84 ≠ pR j by omega), s_u_ne (by omega), s_u_off (by omega)]
      exact h4 i (by omega)
  · obtain ⟨q1, q2⟩ := pR_in i h60
    have q84 : pR i ≠ 84 := fun e => by rw [e] at q1; simp at q1
    rw [s_u_not (p_other h60 hj (by omega)), s_u_not (by omega), s_u_ne q84, s_u_ne (show 84 ≠ pR j by omega), s_u_ne (by omega), s_u_off (by omega)]
    exact h5 i (by omega) h60
  · rw [s_u_ne (show 84 ≠ pR j by omega), s_u_ne (by omega), s_u_off (by omega)]
    exact h6 x hx
  · rw [s_u_not (by omega), s_u_off (by omega), s_u_ne (by omega)]
    exact h7 x x0 x4 x36 x37
theorem c_pass {d : Nat} {μ μ1 : sM} {b j : Nat} {w a : Int32} {v : Nat → Int32} {f : Int32 → sM → Prop} (hj : j < 60) (hb : b ≤ 80) (hv : ∀ i, i < 60 → v i = if w = 0 then μ.1 84 (b + i) else μ.1 (pR i) (pI i)) (h : jP μ b w v j μ1) (ha : a = μ1.1 (pR j) (pI j)) (k : ∀ r μ2, jP μ b w v (j + 1) (s_u μ2 (pR j) (pI j) r) → f r μ2) : sCl sLL mX9_pass d [sR 62, sI a] μ1 (kI f) := by
  have hs := jP_step hj hb h
  obtain ⟨h1, h2, h3, h4, h5, h6, h7⟩ := h
  have e := hv j hj
  refine eX9_pass ?_
  rw [h2, h3, nI_c (by omega)]
  refine ⟨fun q => ⟨vp_nI (by omega) (by omega), ?_⟩, fun q => ⟨vp_nI (by omega) (by omega), ?_⟩⟩
  · rw [if_pos q, ← (h5 j (Nat.le_refl _) hj).2] at e
    rw [← e]
    exact k _ _ hs
  · rw [if_neg q, ← (h5 j (Nat.le_refl _) hj).1, ← ha] at e
    rw [← e]
    exact k _ _ hs
theorem c_passAll {d : Nat} {μ : sM} {b : Nat} {w : Int32} {v : Nat → Int32} {f : sM → Prop} (hb : b ≤ 80) (hv : ∀ i, i < 60 → v i = if w = 0 then μ.1 84 (b + i) else μ.1 (pR i) (pI i)) (e36 : μ.1 62 36 = nI b) (e37 : μ.1 62 37 = w) (h : ∀ μ1, jP μ b w v 60 μ1 → f μ1) : sCl sLL mX9_passAll (d + 1) [sR 62] μ (kV f) := by
  have P0 : jP μ b w v 0 μ := ⟨sFr.rf, e36, e37, fun i hi => by omega, fun i _ _ => ⟨rfl, rfl⟩, fun _ _ => rfl, fun _ _ _ _ _ => rfl⟩
  refine eX9_passAll (c_pass (j := 0) (by omega) hb hv P0 rfl (fun r1 μ1 p1 => ?_))
  refine c_pass (j := 1) (by omega) hb hv p1 ?_ (fun r2 μ2 p2 => ?_)
  · show _ = (s_u μ1 62 0 r1).1 62 4
    rw [s_u_off (by omega)]
  refine s_down (P := fun t => ∀ μ3, jP μ b w v (2 + t) μ3 → sG sLL mX9_passAll (d + 1) (kV f) 26 [some (sR 62), some (sI (nI t))] [] μ3) 28 ?_ ?_ 0 (by omega) _ p2
  · intro μ3 p3
    refine sX9_passAll_26 ⟨fun _ => ?_, fun q => absurd (by decide) q⟩
    refine s_down (P := fun t => ∀ μ3, jP μ b w v (30 + 2 * t) μ3 → sG sLL mX9_passAll (d + 1) (kV f) 56 [some (sR 62), some (sI (nI t))] [] μ3) 7 ?_ ?_ 0 (by omega) _ p3
    · intro μ3 p3
      refine sX9_passAll_56 ⟨fun _ => ?_, fun q => absurd (by decide) q⟩
      refine s_down (P := fun t => ∀ μ3, jP μ b w v (44 + 4 * t) μ3 → sG sLL mX9_passAll (d + 1) (kV f) 102 [some (sR 62), some (sI (nI t))] [] μ3) 4 ?_ ?_ 0 (by omega) _ p3
      · intro μ3 p3
        exact sX9_passAll_102 ⟨fun _ => h _ p3, fun q => absurd (by decide) q⟩
      · intro t ht ih μ3 p3
        have c : ∀ t, t < 4 → (pR (44 + 4 * t) = 66 ∧ pI (44 + 4 * t) = t) ∧ (pR (44 + 4 * t + 1) = 67 ∧ pI (44 + 4 * t + 1) = t) ∧ (pR (44 + 4 * t + 1 + 1) = 68 ∧ pI (44 + 4 * t + 1 + 1) = t) ∧ (pR (44 + 4 * t + 1 + 1 + 1) = 69 ∧ pI (44 + 4 * t + 1 + 1 + 1) = t) := by decide
        obtain ⟨⟨a1, a2⟩, ⟨b1, b2⟩, ⟨c1, c2⟩, ⟨d1, d2⟩⟩ := c t ht
        refine sX9_passAll_102 ⟨fun q => ?_, fun _ => ⟨vp_nI ht (by omega), ?_⟩⟩
        · have q := (nI_leN (a := 4) (by omega) (by omega)).mp q
          omega
        · rw [nI_c (by omega), nI_1]
          refine c_pass (j := 44 + 4 * t) (by omega) hb hv p3 (by rw [a1, a2]) (fun r4 μ4 p4 => ?_)
          rw [a1, a2] at p4
          refine c_pass (by omega) hb hv p4 (by rw [b1, b2, s_u_ne (by omega)]) (fun r5 μ5 p5 => ?_)
          rw [b1, b2] at p5
          refine c_pass (by omega) hb hv p5 (by rw [c1, c2, s_u_ne (by omega)]) (fun r6 μ6 p6 => ?_)
          rw [c1, c2] at p6
          refine c_pass (by omega) hb hv p6 (by rw [d1, d2, s_u_ne (by omega)]) (fun r7 μ7 p7 => ?_)
          rw [d1, d2] at p7
          exact ih _ p7
    · intro t ht ih μ3 p3
      have c : ∀ t, t < 7 → (pR (30 + 2 * t) = 64 ∧ pI (30 + 2 * t) = t) ∧ (pR (30 + 2 * t + 1) = 65 ∧ pI (30 + 2 * t + 1) = t) := by decide
      obtain ⟨⟨a1, a2⟩, ⟨b1, b2⟩⟩ := c t ht
      refine sX9_passAll_56 ⟨fun q => ?_, fun _ => ⟨vp_nI ht (by omega), ?_⟩⟩
      · have q := (nI_leN (a := 7) (by omega) (by omega)).mp q
        omega
      · rw [nI_c (by omega), nI_1]
        refine c_pass (j := 30 + 2 * t) (by omega) hb hv p3 (by rw [a1, a2]) (fun r4 μ4 p4 => ?_)
        rw [a1, a2] at p4
        refine c_pass (by omega) hb hv p4 (by rw [b1, b2, s_u_ne (by omega)]) (fun r5 μ5 p5 => ?_)
        rw [b1, b2] at p5
        exact ih _ p5
  · intro t ht ih μ3 p3
    have c : ∀ t, t < 28 → (pR (2 + t) = 63 ∧ pI (2 + t) = t) := by decide
    obtain ⟨a1, a2⟩ := c t ht
    refine sX9_passAll_26 ⟨fun q => ?_, fun _ => ⟨vp_nI ht (by omega), ?_⟩⟩
    · have q := (nI_leN (a := 28) (by omega) (by omega)).mp q
      omega
    · rw [nI_c (by omega), nI_1]
      refine c_pass (j := 2 + t) (by omega) hb hv p3 (by rw [a1, a2]) (fun r4 μ4 p4 => ?_)
      rw [a1, a2] at p4
      exact ih _ p4
/-- another image, all else the same: in the class -/
def zI (Z : tZ) (k : Nat) (T : tT) : tZ := (Z.1, Z.2.1, va_up Z.2.2 k (some T))
theorem zI_w {Z : tZ} {k : Nat} {T : tT} (hW : zW Z) (hT : tW T) : zW (zI Z k T) := by
  refine ⟨hW.1, hW.2.1, hW.2.2.1, fun j T2 hj => ?_⟩
  simp only [zI, va_up] at hj
  split at hj
  · injection hj with e
    subst e
    exact hT
  · exact hW.2.2.2 j T2 hj
theorem zC_I {μ : sM} {Z : tZ} {k : Nat} (hk : k < 2) (hC : zC μ Z) : zC (s_u (jCp μ 1 4 (2 + k) (13 + 9 * k)) 32 k 1) (zI Z k Z.1) := by
  have F := jCp_fr (μ := μ) (o := 1) (a := 4) (p := 2 + k) (b := 13 + 9 * k)
  have hN := jCp_C (p := 2 + k) (b := 13 + 9 * k) (by omega) (by omega) (by omega) (by omega) hC.1
  obtain ⟨h1, h2, h3, h4⟩ := hC
  have e : ∀ r, (r < 2 ∨ (4 ≤ r ∧ r < 13) ∨ 31 ≤ r) → (jCp μ 1 4 (2 + k) (13 + 9 * k)).1 r = μ.1 r := fun r hr => F.2 r (by
    simp only [List.mem_cons, List.not_mem_nil, or_false]
    omega)
  refine ⟨?_, ?_, fun i hi => ?_, fun k2 hk2 => ?_⟩
  · refine tC_fr ?_ (fun j hj => ?_) h1
    · rw [s_u_ne (by omega), e 1 (by omega)]
    · rw [s_u_ne (by omega), e (4 + j) (by omega)]
  · rw [s_u_ne (by omega), e 33 (by omega)]; exact h2
  · rw [s_u_ne (by omega), e 34 (by omega)]; exact h3 i hi
  · by_cases c : k2 = k
    · subst c
      refine ⟨fun q => ?_, fun T q => ?_⟩
      · simp [zI, va_up] at q
      · simp only [zI, va_up, if_true] at q
        injection q with q
        subst q
        exact ⟨s_u_at, tC_fr (s_u_ne (by omega)) (fun j hj => s_u_ne (by omega)) hN⟩
    · have e2 : (zI Z k Z.1).2.2 k2 = Z.2.2 k2 := by simp [zI, va_up, c]
      rw [e2, s_u_off c, e 32 (by omega)]
      refine ⟨(h4 k2 hk2).1, fun T q => ⟨((h4 k2 hk2).2 T q).1, tC_fr ?_ (fun j hj => ?_) ((h4 k2 hk2).2 T q).2⟩⟩
      · rw [s_u_ne (by omega)]
        exact F.2 _ (by simp only [List.mem_cons, List.not_mem_nil, or_false]; omega)
      · rw [s_u_ne (by omega)]
        exact F.2 _ (by simp only [List.mem_cons, List.not_mem_nil, or_false]; omega)
theorem zC_R {μ : sM} {Z : tZ} {k : Nat} {T : tT} (hk : k < 2) (hT : Z.2.2 k = some T) (hC : zC μ Z) : zC (jCp μ (2 + k) (13 + 9 * k) 1 4) (T, Z.2) :=
  zC_T (jCp_fr) (fun x hx => by simp only [List.mem_cons, List.not_mem_nil, or_false] at hx; omega) (jCp_C (by omega) (by omega) (by omega) (by omega) ((hC.2.2.2 k hk).2 T hT).2) hC
theorem c_cpTo {d : Nat} {μ : sM} {k : Nat} {f : sM → Prop} (hk : k < 2) (h : f (jCp μ 1 4 (2 + k) (13 + 9 * k))) : sCl sLL mX6_copyFrom (d + 1) [sR (2 + k), sR 1] μ (kV f) := by
  have : k = 0 ∨ k = 1 := by omega
  rcases this with rfl | rfl
  · exact eX6_copyFromc h
  · exact eX6_copyFromd h
theorem c_cpOf {d : Nat} {μ : sM} {k : Nat} {f : sM → Prop} (hk : k < 2) (h : f (jCp μ (2 + k) (13 + 9 * k) 1 4)) : sCl sLL mX6_copyFrom (d + 1) [sR 1, sR (2 + k)] μ (kV f) := by
  have : k = 0 ∨ k = 1 := by omega
  rcases this with rfl | rfl
  · exact eX6_copyFroma h
  · exact eX6_copyFromb h
theorem jCp_A {μ : sM} {o a p b : Nat} (hp : p < 40) (hb : b < 50) : zA μ (jCp μ o a p b) := fun r hr => jCp_fr.2 r (by simp only [List.mem_cons, List.not_mem_nil, or_false]; omega)
theorem mul80 {k : Nat} (hk : k < 2) : 80 * nI k = nI (80 * k) := by
  have : k = 0 ∨ k = 1 := by omega
  rcases this with rfl | rfl <;> rfl
theorem r_image {d : Nat} {μ : sM} {Z : tZ} {k : Nat} {f : Int32 → sM → Prop} (hk : k < 2) (hM : zM μ Z) (h : ∀ μ', zM μ' (zI Z k Z.1) → zB μ μ' → f 1 μ') : sCl sLL mX9_image (d + 2) [sR 62, sI (nI k)] μ (kI f) := by
  refine eX9_image (c_inN 0 1 (by decide) (by decide) (fun _ => ⟨fun _ => ?_, fun w => absurd w (by decide)⟩) (fun c => ?_))
  · rw [mul80 hk]
    have hj := tM_to hM.1
    have rn : ∀ i, i < 60 → (s_u (s_u μ 62 36 (nI (80 * k))) 62 37 1).1 (pR i) (pI i) = μ.1 (pR i) (pI i) := fun i hi => by
      have q := (pR_in i hi).2
      rw [s_u_not (by omega), s_u_not (by omega)]
    refine c_passAll (b := 80 * k) (w := 1) (v := tJ Z.1) (by omega) (fun i hi => ?_) (by rw [s_u_off (by omega), s_u_at]) s_u_at (fun μ1 p => ⟨vp_nI hk (by omega), ?_⟩)
    · rw [if_neg (by decide), rn i hi, hj i hi]
    · rw [nI_c (by omega)]
      obtain ⟨p1, p2, p3, p4, p5, p6, p7⟩ := p
      have e : ∀ r, (r < 62 ∨ (70 ≤ r ∧ r ≠ 84)) → μ1.1 r = μ.1 r := fun r hr => by
        rw [p1.2 r (by simp only [List.mem_cons, List.not_mem_nil, or_false]; omega), s_u_ne (by omega), s_u_ne (by omega)]
      obtain ⟨h1, h2, h3, h4⟩ := hM
      have tm : tM μ1 Z.1 := tM_of fun j hj => (p4 j hj).1
      refine h _ ⟨tM_fr (by rw [s_u_ne (by omega)]) (by rw [s_u_ne (by omega)]) (fun j hj => s_u_ne (by omega)) tm, ?_, fun i hi => ?_, fun k2 hk2 => ?_⟩ (fun r hr => by rw [s_u_ne (by omega), e r (by omega)])
      · rw [s_u_ne (by omega), p7 10 (by omega) (by omega) (by omega) (by omega), s_u_off (by omega), s_u_off (by omega)]
        exact h2
      · rw [s_u_ne (by omega), e 70 (by omega)]
        exact h3 i hi
      · by_cases c : k2 = k
        · subst c
          refine ⟨fun q => ?_, fun T q => ?_⟩
          · simp [zI, va_up] at q
          · simp only [zI, va_up, if_true] at q
            injection q with q
            subst q
            exact ⟨s_u_at, tK_fr (s_u_ne (by omega)) (tK_of fun j hj => (p4 j hj).2)⟩
        · have e2 : (zI Z k Z.1).2.2 k2 = Z.2.2 k2 := by simp [zI, va_up, c]
          rw [e2, s_u_off c, e 85 (by omega)]
          refine ⟨(h4 k2 hk2).1, fun T q => ⟨((h4 k2 hk2).2 T q).1, tK_fr (s_u_ne (by omega)) (tK_of fun j hj => ?_)⟩⟩
          rw [p6 (80 * k2 + j) (by omega), s_u_ne (by omega), s_u_ne (by omega)]
          exact tK_to ((h4 k2 hk2).2 T q).2 j hj
  · simp only [oIn, decide_eq_false_iff_not] at c
    rw [nI_i (by omega)] at c
    omega
theorem r_restore {d : Nat} {μ : sM} {Z : tZ} {k : Nat} {T : tT} {f : Int32 → sM → Prop} (hk : k < 2) (hT : Z.2.2 k = some T) (hM : zM μ Z) (h : ∀ μ', zM μ' (T, Z.2) → zB μ μ' → f 1 μ') : sCl sLL mX9_restore (d + 2) [sR 62, sI (nI k)] μ (kI f) := by
  refine eX9_restore (c_inN 0 1 (by decide) (by decide) (fun _ => ⟨fun _ => ⟨vp_nI hk (by omega), fun _ => ?_, fun q => ?_⟩, fun w => absurd w (by decide)⟩) (fun c => ?_))
  · rw [mul80 hk]
    have hj := tK_to ((hM.2.2.2 k hk).2 T hT).2
    refine c_passAll (b := 80 * k) (w := 0) (v := tJ T) (by omega) (fun i hi => ?_) (by rw [s_u_off (by omega), s_u_at]) s_u_at (fun μ1 p => ?_)
    · rw [if_pos rfl, s_u_ne (by omega), s_u_ne (by omega), hj i hi]
    · obtain ⟨p1, p2, p3, p4, p5, p6, p7⟩ := p
      have e : ∀ r, (r < 62 ∨ (70 ≤ r ∧ r ≠ 84)) → μ1.1 r = μ.1 r := fun r hr => by
        rw [p1.2 r (by simp only [List.mem_cons, List.not_mem_nil, or_false]; omega), s_u_ne (by omega), s_u_ne (by omega)]
      obtain ⟨h1, h2, h3, h4⟩ := hM
      refine h _ ⟨tM_of fun j hj => (p4 j hj).1, ?_, fun i hi => ?_, fun k2 hk2 => ?_⟩ (fun r hr => e r (by omega))
      · rw [p7 10 (by omega) (by omega) (by omega) (by omega), s_u_off (by omega), s_u_off (by omega)]
        exact h2
      · rw [e 70 (by omega)]
        exact h3 i hi
      · rw [e 85 (by omega)]
        refine ⟨(h4 k2 hk2).1, fun T2 q => ⟨((h4 k2 hk2).2 T2 q).1, tK_of fun j hj2 => ?_⟩⟩
        have old := tK_to ((h4 k2 hk2).2 T2 q).2 j hj2
        by_cases c : k2 = k
        · subst c
          rw [hT] at q
          injection q with q
          subst q
          exact (p4 j hj2).2
        · rw [p6 (80 * k2 + j) (by omega), s_u_ne (by omega), s_u_ne (by omega)]
          exact old
  · rw [nI_c (by omega), ((hM.2.2.2 k hk).2 T hT).1] at q
    exact absurd q (by decide)
  · simp only [oIn, decide_eq_false_iff_not] at c
    rw [nI_i (by omega)] at c
    omega
theorem q_image {d : Nat} {μ : sM} {Z : tZ} {a : Int32} {K : Int32 → Int32 → sM → Prop} (hW : zW Z) (hC : zC μ Z) (hM : zM μ Z) (hK : qK K) : sCl sLL mX8_image (d + 20) [sR 0, sI a] μ (kI fun r μ1 => sCl sLL mX9_image (d + 20) [sR 62, sI a] μ1 (kI fun r2 μ2 => K r r2 μ2)) := by
  have z2 : (2 : Int32).toInt = 2 := by decide
  by_cases c : oIn a 0 1 = true
  · obtain ⟨k, hk, rfl, -⟩ := oIn_nat (hi := 1) (by omega) c
    have hk : k < 2 := by omega
    have fin : ∀ μ1, μ1 = s_u (jCp μ 1 4 (2 + k) (13 + 9 * k)) 32 k 1 → sCl sLL mX9_image (d + 20) [sR 62, sI (nI k)] μ1 (kI fun r2 μ2 => K 1 r2 μ2) := by
      intro μ1 e
      subst e
      have A : zA μ (s_u (jCp μ 1 4 (2 + k) (13 + 9 * k)) 32 k 1) := fun r hr => by rw [s_u_ne (by omega)]; exact jCp_A (by omega) (by omega) r hr
      exact r_image hk (zM_A A hM) (fun μ2 h2 hB => hK _ μ2 _ (zI_w hW hW.1) (zC_B hB (zC_I hk hC)) h2)
    refine eX8_image ⟨fun q => absurd q (nI_pos (by omega)), fun _ => ⟨fun _ => ⟨vp_nI hk (by omega), fun q => ?_, fun q => ⟨?_, ?_⟩⟩, fun q => absurd ((nI_ltN (b := 2) (by omega) (by omega)).mpr hk) q⟩⟩
    · have q := (nI_inj (b := 0) (by omega) (by omega)).mp q
      subst q
      exact c_cpTo (k := 0) (by omega) (fin _ rfl)
    · have : k ≠ 0 := fun e => q (by rw [e]; rfl)
      have : k = 1 := by omega
      subst this
      rfl
    · have : k ≠ 0 := fun e => q (by rw [e]; rfl)
      have : k = 1 := by omega
      subst this
      exact c_cpTo (k := 1) (by omega) (fin _ rfl)
  · have c : oIn a 0 1 = false := by simpa using c
    have out : sCl sLL mX9_image (d + 20) [sR 62, sI a] μ (kI fun r2 μ2 => K (-2) r2 μ2) := eX9_image (c_inN 0 1 (by decide) (by decide) (fun c2 => by rw [c] at c2; cases c2) (fun _ => ⟨fun w => absurd rfl w, fun _ => hK _ μ Z hW hC hM⟩))
    simp only [oIn, decide_eq_false_iff_not] at c
    refine eX8_image ⟨fun _ => out, fun q => ⟨fun q2 => ?_, fun _ => out⟩⟩
    rw [fa_lt, s_z0] at q
    rw [fa_lt, z2] at q2
    omega
theorem q_restore {d : Nat} {μ : sM} {Z : tZ} {a : Int32} {K : Int32 → Int32 → sM → Prop} (hW : zW Z) (hC : zC μ Z) (hM : zM μ Z) (hK : qK K) : sCl sLL mX8_restore (d + 20) [sR 0, sI a] μ (kI fun r μ1 => sCl sLL mX9_restore (d + 20) [sR 62, sI a] μ1 (kI fun r2 μ2 => K r r2 μ2)) := by
  have z2 : (2 : Int32).toInt = 2 := by decide
  by_cases c : oIn a 0 1 = true
  · obtain ⟨k, hk, rfl, -⟩ := oIn_nat (hi := 1) (by omega) c
    have hk : k < 2 := by omega
    have q4 := hC.2.2.2 k hk
    have m4 := hM.2.2.2 k hk
    refine eX8_restore ⟨fun q => absurd q (nI_pos (by omega)), fun _ => ⟨fun _ => ⟨vp_nI hk (by omega), ?_⟩, fun q => absurd ((nI_ltN (b := 2) (by omega) (by omega)).mpr hk) q⟩⟩
    rw [nI_c (by omega)]
    cases hT : Z.2.2 k with
    | none =>
      rw [q4.1 hT]
      refine ⟨fun w => absurd rfl w, fun _ => ?_⟩
      refine eX9_restore (c_inN 0 1 (by decide) (by decide) (fun _ => ⟨fun _ => ⟨vp_nI hk (by omega), ?_⟩, fun w => absurd w (by decide)⟩) (fun c2 => by rw [c] at c2; cases c2))
      rw [nI_c (by omega), m4.1 hT]
      exact ⟨fun w => absurd rfl w, fun _ => hK _ μ Z hW hC hM⟩
    | some T =>
      rw [(q4.2 T hT).1]
      refine ⟨fun _ => ?_, fun w => absurd w (by decide)⟩
      have fin : ∀ μ1, μ1 = jCp μ (2 + k) (13 + 9 * k) 1 4 → sCl sLL mX9_restore (d + 20) [sR 62, sI (nI k)] μ1 (kI fun r2 μ2 => K 1 r2 μ2) := by
        intro μ1 e
        subst e
        exact r_restore hk hT (zM_A (jCp_A (by omega) (by omega)) hM) (fun μ2 h2 hB => hK _ μ2 (T, Z.2) ⟨hW.2.2.2 k T hT, hW.2⟩ (zC_B hB (zC_R hk hT hC)) h2)
      refine ⟨fun q => ?_, fun q => ⟨?_, ?_⟩⟩
      · have q := (nI_inj (b := 0) (by omega) (by omega)).mp q
        subst q
        exact c_cpOf (k := 0) (by omega) (fin _ rfl)
      · have : k ≠ 0 := fun e => q (by rw [e]; rfl)
        have : k = 1 := by omega
        subst this
        rfl
      · have : k ≠ 0 := fun e => q (by rw [e]; rfl)
        have : k = 1 := by omega
        subst this
        exact c_cpOf (k := 1) (by omega) (fin _ rfl)
  · have c : oIn a 0 1 = false := by simpa using c
    have out : sCl sLL mX9_restore (d + 20) [sR 62, sI a] μ (kI fun r2 μ2 => K (-2) r2 μ2) := eX9_restore (c_inN 0 1 (by decide) (by decide) (fun c2 => by rw [c] at c2; cases c2) (fun _ => ⟨fun w => absurd rfl w, fun _ => hK _ μ Z hW hC hM⟩))
    simp only [oIn, decide_eq_false_iff_not] at c
    refine eX8_restore ⟨fun _ => out, fun q => ⟨fun q2 => ?_, fun _ => out⟩⟩
    rw [fa_lt, s_z0] at q
    rw [fa_lt, z2] at q2
    omega
