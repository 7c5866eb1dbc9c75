-- asAtFirst and begin in their small worlds
theorem c_firstT {d : Nat} {μ : sM} {f : sM → Prop} (h : ∀ μ', sFr [0, 1, 2, 3, 4, 5] μ μ' → μ'.1 0 0 = 7 → μ'.1 0 1 = 0 → (∀ k, k ≠ 0 → k ≠ 1 → μ'.1 0 k = μ.1 0 k) → (∀ t, t < 7 → μ'.1 1 t = nI t ∧ μ'.1 2 t = 9 ∧ μ'.1 3 t = 9 ∧ μ'.1 4 t = 0 ∧ μ'.1 5 t = -6) → f μ') : sCl sLT mX6_asAtFirst (d + 1) [sR 0, sI 7] μ (kV f) := by
  refine eX6_asAtFirstT ?_
  refine s_down (P := fun t => ∀ μ1, sFr [0, 1] μ μ1 → μ1.1 0 0 = 7 → μ1.1 0 1 = 0 → (∀ k, k ≠ 0 → k ≠ 1 → μ1.1 0 k = μ.1 0 k) → (∀ i, i < t → μ1.1 1 i = nI i) → sG sLT mX6_asAtFirst (d + 1) (kV f) 12 [some (sR 0), some (sI 7), some (sI (nI t))] [] μ1) 7 ?_ ?_ 0 (by omega) _ ((sFr.u (by decide)).tr (sFr.u (by decide))) (by rw [s_u_off (by omega), s_u_at]) s_u_at (fun k a b => by rw [s_u_off b, s_u_off a]) (fun i hi => by omega)
  · intro μ1 hf1 e0 e1 e2 h4
    refine sX6_asAtFirstT_12 ⟨fun _ => ?_, fun q => absurd (by decide) q⟩
    refine c_fill (n := 7) rfl rfl (by omega) (fun μ2 hf2 q2 _ => c_fill (n := 7) rfl rfl (by omega) (fun μ3 hf3 q3 _ => c_fill (n := 7) rfl rfl (by omega) (fun μ4 hf4 q4 _ => c_fill (n := 7) rfl rfl (by omega) (fun μ5 hf5 q5 _ => ?_))))
    have F : sFr [2, 3, 4, 5] μ1 μ5 := ((((hf2.mono (by decide)).tr (hf3.mono (by decide))).tr (hf4.mono (by decide))).tr (hf5.mono (by decide)))
    refine h μ5 ((hf1.mono (by decide)).tr (F.mono (by decide))) (by rw [F.2 0 (by decide)]; exact e0) (by rw [F.2 0 (by decide)]; exact e1) (fun k a b => by rw [F.2 0 (by decide)]; exact e2 k a b) (fun t ht => ⟨?_, ?_, ?_, ?_, ?_⟩)
    · rw [F.2 1 (by decide)]; exact h4 t ht
    · rw [hf5.2 2 (by decide), hf4.2 2 (by decide), hf3.2 2 (by decide)]; exact q2 t ht
    · rw [hf5.2 3 (by decide), hf4.2 3 (by decide)]; exact q3 t ht
    · rw [hf5.2 4 (by decide)]; exact q4 t ht
    · exact q5 t ht
  · intro t ht ih μ1 hf1 e0 e1 e2 h4
    refine sX6_asAtFirstT_12 ⟨fun q => ?_, fun _ => ⟨vp_nI ht (by omega), ?_⟩⟩
    · have q := (nI_leN (a := 7) (by omega) (by omega)).mp q
      omega
    · rw [nI_c (by omega), nI_1]
      refine ih _ (hf1.tr (sFr.u (by decide))) (by rw [s_u_ne (by omega)]; exact e0) (by rw [s_u_ne (by omega)]; exact e1) (fun k a b => by rw [s_u_ne (by omega)]; exact e2 k a b) (fun i hi => ?_)
      by_cases c : i = t
      · subst c; exact s_u_at
      · rw [s_u_off c]; exact h4 i (by omega)
theorem c_atM {d : Nat} {μ : sM} {f : Int32 → sM → Prop} (k t : Nat) (h : f (nI (7 * k + t)) μ) : sCl sLM mX9_at d [sI (nI k), sI (nI t)] μ (kI f) := by
  refine eX9_atM ?_
  have e1 : 7 * nI k = nI (7 * k) := pk_mul 7 k
  have e2 : nI k * 7 = nI (k * 7) := pk_mul k 7
  first
    | (rw [e1, nI_add]; exact h)
    | (rw [e2, nI_add, Nat.mul_comm]; exact h)
theorem c_beginS {d : Nat} {μ : sM} {f : sM → Prop} (h : ∀ μ', sFr [0, 1, 2, 3] μ μ' → μ'.1 0 0 = 7 → (∀ k, k ≠ 0 → μ'.1 0 k = μ.1 0 k) → (∀ t, t < 7 → μ'.1 1 t = nI t ∧ μ'.1 1 (7 + t) = 9 ∧ μ'.1 1 (14 + t) = 0 ∧ μ'.1 1 (21 + t) = 9 ∧ μ'.1 2 t = 0 ∧ μ'.1 3 t = -6) → f μ') : sCl sLM mX9_begin (d + 1) [sR 0, sI 7] μ (kV f) := by
  refine eX9_beginM ?_
  refine s_down (P := fun t => ∀ μ1, sFr [0, 1, 2, 3] μ μ1 → μ1.1 0 0 = 7 → (∀ k, k ≠ 0 → μ1.1 0 k = μ.1 0 k) → (∀ i, i < t → μ1.1 1 i = nI i ∧ μ1.1 1 (7 + i) = 9 ∧ μ1.1 1 (14 + i) = 0 ∧ μ1.1 1 (21 + i) = 9 ∧ μ1.1 2 i = 0 ∧ μ1.1 3 i = -6) → sG sLM mX9_begin (d + 1) (kV f) 7 [some (sR 0), some (sI 7), some (sI (nI t))] [] μ1) 7 ?_ ?_ 0 (by omega) _ (sFr.u (by decide)) s_u_at (fun k a => s_u_off a) (fun i hi => by omega)
  · intro μ1 hf1 e0 e1 hi
    exact sX9_beginM_7 ⟨fun _ => h μ1 hf1 e0 e1 hi, fun q => absurd (by decide) q⟩
  · intro t ht ih μ1 hf1 e0 e1 hi
    refine sX9_beginM_7 ⟨fun q => ?_, fun _ => ?_⟩
    · have q := (nI_leN (a := 7) (by omega) (by omega)).mp q
      omega
    · refine c_atM 0 t ⟨vp_nI (by omega) (by omega), c_atM 1 t ⟨vp_nI (by omega) (by omega), c_atM 2 t ⟨vp_nI (by omega) (by omega), c_atM 3 t ⟨vp_nI (by omega) (by omega), vp_nI ht (by omega), ?_⟩⟩⟩⟩
      rw [nI_c (by omega), nI_c (by omega), nI_c (by omega), nI_c (by omega), nI_c (by omega), nI_1, show 7 * 0 + t = t by omega, show 7 * 1 + t = 7 + t by omega, show 7 * 2 + t = 14 + t by omega, show 7 * 3 + t = 21 + t by omega]
      refine ih _ ((((((hf1.tr (sFr.u (by decide))).tr (sFr.u (by decide))).tr (sFr.u (by decide))).tr (sFr.u (by decide))).tr (sFr.u (by decide))).tr (sFr.u (by decide))) ?_ (fun k hk => ?_) (fun i hit => ?_)
      · rw [s_u_ne (by omega), s_u_ne (by omega), s_u_ne (by omega), s_u_ne (by omega), s_u_ne (by omega), s_u_ne (by omega)]
        exact e0
      · rw [s_u_ne (by omega), s_u_ne (by omega), s_u_ne (by omega), s_u_ne (by omega), s_u_ne (by omega), s_u_ne (by omega)]
        exact e1 k hk
      · by_cases c : i = t
        · subst c
          refine ⟨?_, ?_, ?_, ?_, ?_, ?_⟩
          · rw [s_u_ne (by omega), s_u_ne (by omega), s_u_off (by omega), s_u_off (by omega), s_u_off (by omega), s_u_at]
          · rw [s_u_ne (by omega), s_u_ne (by omega), s_u_off (by omega), s_u_off (by omega), s_u_at]
          · rw [s_u_ne (by omega), s_u_ne (by omega), s_u_off (by omega), s_u_at]
          · rw [s_u_ne (by omega), s_u_ne (by omega), s_u_at]
          · rw [s_u_ne (by omega), s_u_at]
          · rw [s_u_at]
        · obtain ⟨a1, a2, a3, a4, a5, a6⟩ := hi i (by omega)
          refine ⟨?_, ?_, ?_, ?_, ?_, ?_⟩
          · rw [s_u_ne (by omega), s_u_ne (by omega), s_u_off (by omega), s_u_off (by omega), s_u_off (by omega), s_u_off (by omega)]; exact a1
          · rw [s_u_ne (by omega), s_u_ne (by omega), s_u_off (by omega), s_u_off (by omega), s_u_off (by omega), s_u_off (by omega)]; exact a2
          · rw [s_u_ne (by omega), s_u_ne (by omega), s_u_off (by omega), s_u_off (by omega), s_u_off (by omega), s_u_off (by omega)]; exact a3
          · rw [s_u_ne (by omega), s_u_ne (by omega), s_u_off (by omega), s_u_off (by omega), s_u_off (by omega), s_u_off (by omega)]; exact a4
          · rw [s_u_ne (by omega), s_u_off c, s_u_ne (by omega), s_u_ne (by omega), s_u_ne (by omega), s_u_ne (by omega)]; exact a5
          · rw [s_u_off c, s_u_ne (by omega), s_u_ne (by omega), s_u_ne (by omega), s_u_ne (by omega), s_u_ne (by omega)]; exact a6
