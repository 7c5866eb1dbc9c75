-- CALL AGAINST CALL: judge, used, behind, done, hide
theorem c_runEvening {d : Nat} {μ : sM} {Z : tZ} {f : Int32 → sM → Prop} (hW : zW Z) (hC : zC μ Z) (h5 : vFf Z.1.1 Z.2.1.2 Z.2.1.1 0 ≠ none → f (-5) μ) (h : vFf Z.1.1 Z.2.1.2 Z.2.1.1 0 = none → ∀ μ', sFr evS μ μ' → vC μ' Z.1 (vEnd Z.1 Z.2.1.1 Z.2.1.2) 0 → (vEnd Z.1 Z.2.1.1 Z.2.1.2 5 3 = 0 → ∀ i, i < Z.2.1.1 → μ'.1 42 i = nS (vEnd Z.1 Z.2.1.1 Z.2.1.2 4 i)) → f (if vEnd Z.1 Z.2.1.1 Z.2.1.2 5 3 = 0 then 0 else -3) μ') : sCl sLL mX8_runEvening (d + 5) [sR 0] μ (kI f) := by
  have h7 := hW.1.1
  have hs : ∀ i, i < Z.2.1.1 → Z.2.1.2 i < 1000 := fun i hi => by have := hW.2.2.1 i hi; omega
  refine eX8_runEvening ?_
  rw [hC.1.1]
  refine c_firstFault hW.2.1 h7.2 hC.2.1 hC.2.2.1 hs ?_
  cases hq : vFf Z.1.1 Z.2.1.2 Z.2.1.1 0 with
  | some u =>
    have := vFf_lt _ _ _ hq
    have := hW.2.1
    refine ⟨fun w => ?_, fun _ => h5 (by rw [hq]; simp)⟩
    rw [nO_m6 (by intro v hv; cases hv; omega)] at w
    cases w
  | none =>
    have hok := vFf_none _ _ hq
    have hw := vGo_w hW.1 Z.2.1.1 0 (vE0 Z.1) (by have := hW.2.1; omega) hok (vE0_w hW.1)
    refine ⟨fun _ => c_run hW.1 hC.1 hW.2.1 hC.2.1 hC.2.2.1 hs (fun i hi => hok i (by omega) (by omega)) (fun μ' hf hv ht => ?_), fun w => absurd rfl w⟩
    have h := h hq μ' hf hv ht
    have ib := nS_m6 (v := vEnd Z.1 Z.2.1.1 Z.2.1.2 5 3) (by have := hw.2.2.2.2.2; unfold vEnd; omega)
    rw [hv.2.2.2.1]
    refine ⟨fun q => ?_, fun q => ?_⟩
    · rw [if_neg (fun w => q (ib.mpr w))] at h
      exact h
    · rw [if_pos (ib.mp q)] at h
      exact h
/-- what the reference has noted of an evening, the table as it was -/
def vR (μ : sM) (E : vE) (c : Nat) : Prop := (∀ t, t < 7 → μ.1 76 t = nI (E 0 t) ∧ μ.1 77 t = nI (E 1 t) ∧ μ.1 74 t = nS (E 2 t) ∧ μ.1 75 t = nS (E 3 t)) ∧ (E 5 3 = 0 → ∀ i, i < c → μ.1 73 i = nS (E 4 i)) ∧ μ.1 62 15 = nS (E 5 3) ∧ μ.1 62 16 = nS (E 5 4) ∧ μ.1 62 17 = nI (E 5 1) ∧ μ.1 62 12 = nI (E 5 2)
theorem c_refusal {d : Nat} {μ : sM} {Z : tZ} {f : Int32 → sM → Prop} (hW : zW Z) (hM : zM μ Z) (h5 : vFf Z.1.1 Z.2.1.2 Z.2.1.1 0 ≠ none → f (-5) μ) (h : vFf Z.1.1 Z.2.1.2 Z.2.1.1 0 = none → ∀ μ', mQ μ μ' → vR μ' (vEnd Z.1 Z.2.1.1 Z.2.1.2) Z.2.1.1 → f (if vEnd Z.1 Z.2.1.1 Z.2.1.2 5 3 = 0 then -6 else -3) μ') : sCl sLL mX9_refusal (d + 5) [sR 62] μ (kI f) := by
  have h7 := hW.1.1
  have hs : ∀ i, i < Z.2.1.1 → Z.2.1.2 i < 1000 := fun i hi => by have := hW.2.2.1 i hi; omega
  refine eX9_refusal (c_faultM hW.2.1 h7.1 h7.2 hM.1.1.1 hM.2.1 hM.2.2.1 hs ?_)
  cases hq : vFf Z.1.1 Z.2.1.2 Z.2.1.1 0 with
  | some u =>
    have := vFf_lt _ _ _ hq
    have := hW.2.1
    refine ⟨fun w => ?_, fun _ => h5 (by rw [hq]; simp)⟩
    rw [nO_neg (by intro v hv; cases hv; omega)] at w
    cases w
  | none =>
    have hok := vFf_none _ _ hq
    have hw := vGo_w hW.1 Z.2.1.1 0 (vE0 Z.1) (by have := hW.2.1; omega) hok (vE0_w hW.1)
    have ib := nS_ge (v := vEnd Z.1 Z.2.1.1 Z.2.1.2 5 3) (by have := hw.2.2.2.2.2; unfold vEnd; omega)
    have h := h hq
    refine ⟨fun _ => c_keepNow (fun μ1 hf1 k1 => ?_), fun w => absurd (by decide) w⟩
    have Q1 : mQ μ μ1 := ⟨mG.of2 hf1 (by decide) (by decide) (by decide), fun i _ => ⟨by rw [hf1.2 63 (by decide)], by rw [hf1.2 64 (by decide)]⟩⟩
    have hM1 := zM_Q Q1 hM
    refine c_goEvening hW.1 hM1.1 hW.2.1 hM1.2.1 hM1.2.2.1 hs (fun i hi => hok i (by omega) (by omega)) (fun μ2 hf2 hv2 ht2 => ?_)
    refine s_down (P := fun t => ∀ μ3, sFr [76, 77] μ2 μ3 → (∀ i, i < t → μ3.1 76 i = nI (vEnd Z.1 Z.2.1.1 Z.2.1.2 0 i) ∧ μ3.1 77 i = nI (vEnd Z.1 Z.2.1.1 Z.2.1.2 1 i)) → sG sLL mX9_refusal (d + 4 + 1) (kI f) 20 [some (sR 62), some (sI (nI t))] [] μ3) 7 ?_ ?_ 0 (by omega) μ2 sFr.rf (fun i hi => by omega)
    · intro μ3 hf3 a3
      refine sX9_refusal_20 ⟨fun _ => c_putBack (fun μ4 hf4 j4 k4 => ?_), fun q => absurd (by decide) q⟩
      have Q : mQ μ μ4 := by
        refine ⟨mG.of (S := mS) ?_ (by simp) (fun k hk => ?_) (fun j hj => ?_), fun i hi => ?_⟩
        · exact (((Q1.1.1).tr (hf2.1.mono (by decide))).tr (hf3.mono (by decide))).tr (hf4.mono (by decide))
        · rw [hf4.2 62 (by decide), hf3.2 62 (by decide), hf2.2.1 k (by omega) (by omega) (by omega) (by omega) (by omega), hf1.2 62 (by decide)]
        · rw [j4 j hj, hf3.2 63 (by decide), hf2.2.2 j hj, hf1.2 63 (by decide)]
        · rw [(k4 i hi).1, (k4 i hi).2, hf3.2 71 (by decide), hf3.2 72 (by decide), hf2.1.2 71 (by decide), hf2.1.2 72 (by decide)]
          exact k1 i hi
      have R : vR μ4 (vEnd Z.1 Z.2.1.1 Z.2.1.2) Z.2.1.1 := by
        refine ⟨fun t ht => ?_, fun q i hi => ?_, ?_, ?_, ?_, ?_⟩
        · rw [hf4.2 76 (by decide), hf4.2 77 (by decide), hf4.2 74 (by decide), hf4.2 75 (by decide), hf3.2 74 (by decide), hf3.2 75 (by decide)]
          exact ⟨(a3 t ht).1, (a3 t ht).2, (hv2.2.1 t ht).2⟩
        · rw [hf4.2 73 (by decide), hf3.2 73 (by decide)]
          exact ht2 q i hi
        · rw [hf4.2 62 (by decide), hf3.2 62 (by decide)]; exact hv2.2.2.2.1
        · rw [hf4.2 62 (by decide), hf3.2 62 (by decide)]; exact hv2.2.2.2.2.1
        · rw [hf4.2 62 (by decide), hf3.2 62 (by decide)]; exact hv2.2.2.2.2.2.1
        · rw [hf4.2 62 (by decide), hf3.2 62 (by decide)]; exact hv2.2.2.2.2.2.2
      have h := h μ4 Q R
      rw [R.2.2.1]
      refine ⟨fun q => ?_, fun q => ?_⟩
      · rw [if_pos] at h
        · exact h
        · by_cases c : vEnd Z.1 Z.2.1.1 Z.2.1.2 5 3 = 0
          · exact c
          · have := ib.mpr c
            rw [fa_le, s_z0] at this
            rw [fa_lt, s_z0] at q
            omega
      · rw [if_neg] at h
        · exact h
        · refine ib.mp ?_
          rw [fa_lt, s_z0] at q
          rw [fa_le, s_z0]
          omega
    · intro t ht ih μ3 hf3 a3
      refine sX9_refusal_20 ⟨fun q => ?_, fun _ => c_at 3 t ⟨vp_nI (by omega) (by omega), vp_nI ht (by omega), ?_⟩⟩
      · have q := (nI_leN (a := 7) (by omega) (by omega)).mp q
        omega
      · rw [nI_c (by omega), nI_c (by omega), nI_1, show 7 * 3 + t = 21 + t by omega, hf3.2 63 (by decide), hf3.2 64 (by decide), (hv2.1.1 t ht).2, (hv2.2.1 t ht).1]
        refine ih _ ((hf3.tr (sFr.u (by decide))).tr (sFr.u (by decide))) (fun i hi => ?_)
        by_cases c : i = t
        · subst c
          exact ⟨by rw [s_u_ne (by omega), s_u_at], s_u_at⟩
        · rw [s_u_ne (by omega), s_u_off c, s_u_off c, s_u_ne (by omega)]
          exact a3 i (by omega)
/-- the class's evening, then the reference's refusal -/
theorem q_eve {d : Nat} {μ : sM} {Z : tZ} {k1 : Int32 → sM → Prop} (hW : zW Z) (hC : zC μ Z) (h5 : vFf Z.1.1 Z.2.1.2 Z.2.1.1 0 ≠ none → k1 (-5) μ) (h : vFf Z.1.1 Z.2.1.2 Z.2.1.1 0 = none → ∀ μ', sFr evS μ μ' → zC μ' Z → zA μ μ' → vC μ' Z.1 (vEnd Z.1 Z.2.1.1 Z.2.1.2) 0 → (vEnd Z.1 Z.2.1.1 Z.2.1.2 5 3 = 0 → ∀ i, i < Z.2.1.1 → μ'.1 42 i = nS (vEnd Z.1 Z.2.1.1 Z.2.1.2 4 i)) → k1 (if vEnd Z.1 Z.2.1.1 Z.2.1.2 5 3 = 0 then 0 else -3) μ') : sCl sLL mX8_runEvening (d + 5) [sR 0] μ (kI k1) :=
  c_runEvening hW hC h5 (fun q μ' hf hv ht => h q μ' hf (zC_S hf (by decide) hC) (zA_S hf (by decide)) hv ht)
theorem q_judge {d : Nat} {μ : sM} {Z : tZ} {a : Int32} {K : Int32 → Int32 → sM → Prop} (hW : zW Z) (hC : zC μ Z) (hM : zM μ Z) (hK : qK K) : sCl sLL mX8_judge (d + 20) [sR 0, sI a] μ (kI fun r μ1 => sCl sLL mX9_judge (d + 20) [sR 62, sI a] μ1 (kI fun r2 μ2 => K r r2 μ2)) := by
  have z3 : (3 : Int32).toInt = 3 := by decide
  by_cases c : oIn a 0 3 = true
  · obtain ⟨w, hw3, rfl, -⟩ := oIn_nat (hi := 3) (by omega) c
    have ref : ∀ {μ1 : sM} {K2 : Int32 → sM → Prop}, sCl sLL mX9_refusal (d + 19) [sR 62] μ1 (kI fun r2 μ2 => ((r2 = (-5) → K2 r2 μ2) ∧ (¬ r2 = (-5) → ((nI w ≤ 1 → ((¬ nI w = 0 → ((¬ nI w = 1 → ((¬ nI w = 2 → K2 (μ2.1 62 12) μ2) ∧ (nI w = 2 → K2 (μ2.1 62 17) μ2))) ∧ (nI w = 1 → K2 (μ2.1 62 16) μ2))) ∧ (nI w = 0 → K2 (μ2.1 62 15) μ2))) ∧ (¬ nI w ≤ 1 → ((¬ r2 = (-3) → ((¬ nI w = 0 → ((¬ nI w = 1 → ((¬ nI w = 2 → K2 (μ2.1 62 12) μ2) ∧ (nI w = 2 → K2 (μ2.1 62 17) μ2))) ∧ (nI w = 1 → K2 (μ2.1 62 16) μ2))) ∧ (nI w = 0 → K2 (μ2.1 62 15) μ2))) ∧ (r2 = (-3) → K2 r2 μ2))))))) → sCl sLL mX9_judge (d + 20) [sR 62, sI (nI w)] μ1 (kI K2) := by
      intro μ1 K2 h
      exact eX9_judge (c_inN 0 3 (by decide) (by decide) (fun _ => ⟨fun _ => h, fun w => absurd w (by decide)⟩) (fun c2 => by rw [c] at c2; cases c2))
    have i0 := nI_inj (a := w) (b := 0) (by omega) (by omega)
    have i1 := nI_inj (a := w) (b := 1) (by omega) (by omega)
    have i2 := nI_inj (a := w) (b := 2) (by omega) (by omega)
    have l1 := nI_leN (a := w) (b := 1) (by omega) (by omega)
    have l2 := nI_ltN (a := w) (b := 2) (by omega) (by omega)
    refine eX8_judge ⟨fun q => absurd q (nI_pos (by omega)), fun _ => ⟨fun _ => q_eve hW hC (fun hf => ⟨fun _ => ?_, fun w => absurd rfl w⟩) (fun hf μ1 f1 hC1 hA1 hv1 _ => ?_), fun q => absurd ((nI_leN (b := 3) (by omega) (by omega)).mpr hw3) q⟩⟩
    · exact ref (c_refusal hW hM (fun _ => ⟨fun _ => hK _ μ Z hW hC hM, fun w => absurd rfl w⟩) (fun hn => absurd hn hf))
    · have hM1 := zM_A hA1 hM
      obtain ⟨-, -, -, v7, v8, v9, v10⟩ := hv1
      rw [v7, v8, v9, v10]
      have tail : ∀ (r : Int32), (∀ μ2, mQ μ1 μ2 → vR μ2 (vEnd Z.1 Z.2.1.1 Z.2.1.2) Z.2.1.1 → r = (if w = 0 then nS (vEnd Z.1 Z.2.1.1 Z.2.1.2 5 3) else if w = 1 then nS (vEnd Z.1 Z.2.1.1 Z.2.1.2 5 4) else if vEnd Z.1 Z.2.1.1 Z.2.1.2 5 3 = 0 then (if w = 2 then nI (vEnd Z.1 Z.2.1.1 Z.2.1.2 5 1) else nI (vEnd Z.1 Z.2.1.1 Z.2.1.2 5 2)) else -3)) → sCl sLL mX9_judge (d + 20) [sR 62, sI (nI w)] μ1 (kI fun r2 μ2 => K r r2 μ2) := by
        intro r hr
        refine ref (c_refusal hW hM1 (fun hn => absurd hf hn) (fun _ μ2 Q R => ?_))
        have hr := hr μ2 Q R
        have fin : ∀ x, x = r → K r x μ2 := fun x e => by
          subst e
          exact hK _ μ2 Z hW (zC_B (zB_Q Q) hC1) (zM_Q Q hM1)
        obtain ⟨-, -, v7, v8, v9, v10⟩ := R
        rw [v7, v8, v9, v10]
        refine ⟨fun q => ?_, fun _ => ⟨fun q => ⟨fun q0 => ⟨fun q1 => ?_, fun q1 => fin _ ?_⟩, fun q0 => fin _ ?_⟩, fun q => ⟨fun q3 => ⟨fun q0 => ⟨fun q1 => ⟨fun q2 => fin _ ?_, fun q2 => fin _ ?_⟩, fun q1 => ?_⟩, fun q0 => ?_⟩, fun q3 => fin _ ?_⟩⟩⟩
        · split at q <;> exact absurd q (by decide)
        · have := l1.mp q
          have a0 : ¬ w = 0 := fun e => q0 (i0.mpr e)
          have a1 : ¬ w = 1 := fun e => q1 (i1.mpr e)
          omega
        · rw [hr, if_neg (fun e => q0 (i0.mpr e)), if_pos (i1.mp q1)]
        · rw [hr, if_pos (i0.mp q0)]
        · rw [hr, if_neg (fun e => q0 (i0.mpr e)), if_neg (fun e => q1 (i1.mpr e)), if_pos, if_neg (fun e => q2 (i2.mpr e))]
          by_cases c : vEnd Z.1 Z.2.1.1 Z.2.1.2 5 3 = 0
          · exact c
          · rw [if_neg c] at q3; exact absurd rfl q3
        · rw [hr, if_neg (fun e => q0 (i0.mpr e)), if_neg (fun e => q1 (i1.mpr e)), if_pos, if_pos (i2.mp q2)]
          by_cases c : vEnd Z.1 Z.2.1.1 Z.2.1.2 5 3 = 0
          · exact c
          · rw [if_neg c] at q3; exact absurd rfl q3
        · exact absurd (l1.mpr (by have := i1.mp q1; omega)) q
        · exact absurd (l1.mpr (by have := i0.mp q0; omega)) q
        · have g1 : ¬ w ≤ 1 := fun e => q (l1.mpr e)
          have g3 : ¬ vEnd Z.1 Z.2.1.1 Z.2.1.2 5 3 = 0 := fun e => by rw [if_pos e] at q3; exact absurd q3 (by decide)
          rw [q3, hr, if_neg (by omega), if_neg (by omega), if_neg g3]
      refine ⟨fun q => ?_, fun _ => ⟨fun q3 => ?_, fun q3 => ?_⟩⟩
      · split at q <;> exact absurd q (by decide)
      · have g3 : vEnd Z.1 Z.2.1.1 Z.2.1.2 5 3 = 0 := by
          by_cases c : vEnd Z.1 Z.2.1.1 Z.2.1.2 5 3 = 0
          · exact c
          · rw [if_neg c] at q3; exact absurd rfl q3
        refine ⟨fun q0 => tail _ (fun _ _ _ => ?_), fun q0 => ⟨fun q1 => tail _ (fun _ _ _ => ?_), fun q1 => ⟨fun q2 => tail _ (fun _ _ _ => ?_), fun q2 => tail _ (fun _ _ _ => ?_)⟩⟩⟩
        · rw [if_pos (i0.mp q0)]
        · rw [if_neg (fun e => q0 (i0.mpr e)), if_pos (i1.mp q1)]
        · rw [if_neg (fun e => q0 (i0.mpr e)), if_neg (fun e => q1 (i1.mpr e)), if_pos g3, if_pos (i2.mp q2)]
        · rw [if_neg (fun e => q0 (i0.mpr e)), if_neg (fun e => q1 (i1.mpr e)), if_pos g3, if_neg (fun e => q2 (i2.mpr e))]
      · have g3 : ¬ vEnd Z.1 Z.2.1.1 Z.2.1.2 5 3 = 0 := fun e => by rw [if_pos e] at q3; exact absurd q3 (by decide)
        refine ⟨fun q4 => ⟨fun q0 => tail _ (fun _ _ _ => ?_), fun q0 => ⟨fun q1 => tail _ (fun _ _ _ => ?_), fun q1 => ?_⟩⟩, fun q4 => tail _ (fun _ _ _ => ?_)⟩
        · rw [if_pos (i0.mp q0)]
        · rw [if_neg (fun e => q0 (i0.mpr e)), if_pos (i1.mp q1)]
        · have := l2.mp q4
          have a0 : ¬ w = 0 := fun e => q0 (i0.mpr e)
          have a1 : ¬ w = 1 := fun e => q1 (i1.mpr e)
          omega
        · have a : ¬ w < 2 := fun e => q4 (l2.mpr e)
          rw [q3, if_neg (by omega), if_neg (by omega), if_neg g3]
  · have c : oIn a 0 3 = false := by simpa using c
    have out : sCl sLL mX9_judge (d + 20) [sR 62, sI a] μ (kI fun r2 μ2 => K (-2) r2 μ2) := eX9_judge (c_inN 0 3 (by decide) (by decide) (fun c2 => by rw [c] at c2; cases c2) (fun _ => ⟨fun w => absurd rfl w, fun _ => hK _ μ Z hW hC hM⟩))
    simp only [oIn, decide_eq_false_iff_not] at c
    refine eX8_judge ⟨fun _ => out, fun q => ⟨fun q2 => ?_, fun _ => out⟩⟩
    rw [fa_lt, s_z0] at q
    rw [fa_le, z3] at q2
    omega
