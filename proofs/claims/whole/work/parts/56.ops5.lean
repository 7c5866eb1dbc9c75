-- CALL AGAINST CALL: used, behind, done, hide
theorem q_ref {d : Nat} {μ : sM} {Z : tZ} {k : Int32 → sM → Prop} (hW : zW Z) (hM : zM μ Z) (h5 : vFf Z.1.1 Z.2.1.2 Z.2.1.1 0 ≠ none → k (-5) μ) (h : vFf Z.1.1 Z.2.1.2 Z.2.1.1 0 = none → ∀ μ', mQ μ μ' → zM μ' Z → zB μ μ' → vR μ' (vEnd Z.1 Z.2.1.1 Z.2.1.2) Z.2.1.1 → k (if vEnd Z.1 Z.2.1.1 Z.2.1.2 5 3 = 0 then -6 else -3) μ') : sCl sLL mX9_refusal (d + 5) [sR 62] μ (kI k) :=
  c_refusal hW hM h5 (fun q μ' Q R => h q μ' Q (zM_Q Q hM) (zB_Q Q) R)
theorem q_used {d : Nat} {μ : sM} {Z : tZ} {a : Int32} {K : Int32 → Int32 → sM → Prop} (hW : zW Z) (hC : zC μ Z) (hM : zM μ Z) (hK : qK K) : sCl sLL mX8_used (d + 20) [sR 0, sI a] μ (kI fun r μ1 => sCl sLL mX9_used (d + 20) [sR 62, sI a] μ1 (kI fun r2 μ2 => K r r2 μ2)) := by
  have h40 := hW.2.1
  refine eX8_used (q_eve hW hC (fun hf => ⟨fun w => absurd w (by decide), fun _ => ?_⟩) (fun hf μ1 f1 hC1 hA1 hv1 ht1 => ?_))
  · exact eX9_used (q_ref hW hM (fun _ => ⟨fun w => absurd w (by decide), fun _ => hK _ μ Z hW hC hM⟩) (fun hn => absurd hn hf))
  · have hM1 := zM_A hA1 hM
    by_cases g3 : vEnd Z.1 Z.2.1.1 Z.2.1.2 5 3 = 0
    · rw [if_pos g3, hC1.2.1]
      have ref : ∀ r : Int32, (oIn a 0 ((Z.2.1.1 : Int) - 1) = true → ∀ i, i < Z.2.1.1 → a = nI i → r = nS (vEnd Z.1 Z.2.1.1 Z.2.1.2 4 i)) → (oIn a 0 ((Z.2.1.1 : Int) - 1) = false → r = -2) → sCl sLL mX9_used (d + 20) [sR 62, sI a] μ1 (kI fun r2 μ2 => K r r2 μ2) := by
        intro r k1 k0
        refine eX9_used (q_ref hW hM1 (fun hn => absurd hf hn) (fun _ μ2 Q hM2 hB2 R => ?_))
        rw [if_pos g3, hM2.2.1]
        have fin : ∀ x, x = r → K r x μ2 := fun x e => by
          subst e
          exact hK _ μ2 Z hW (zC_B hB2 hC1) hM2
        have eb : (nI Z.2.1.1 - 1).toInt64.toInt = (Z.2.1.1 : Int) - 1 := by
          rw [Int32.toInt_toInt64]
          exact pk_sub_toInt (a := Z.2.1.1) (b := 1) (by omega) (by omega)
        refine ⟨fun _ => c_inN 0 ((Z.2.1.1 : Int) - 1) (by decide) eb (fun c => ⟨fun w => absurd w (by decide), fun _ => ?_⟩) (fun c => ⟨fun _ => fin _ (k0 c).symm, fun w => absurd rfl w⟩), fun w => absurd rfl w⟩
        have c2 := c
        simp only [oIn, decide_eq_true_eq] at c2
        have ea : a = nI a.toInt.toNat := by rw [fa_eq, nI_i (by omega)]; omega
        have hi : a.toInt.toNat < Z.2.1.1 := by omega
        have k2 := k1 c a.toInt.toNat hi ea
        generalize a.toInt.toNat = i at ea k2 hi
        refine ⟨by rw [ea]; exact vp_nI (by omega) (by omega), fin _ ?_⟩
        rw [ea, nI_c (by omega), R.2.1 g3 i hi]
        exact k2.symm
      refine ⟨fun _ => ⟨fun q => ref _ (fun c i hi e => ?_) (fun _ => rfl), fun q => ⟨fun q2 => ?_, fun q2 => ref _ (fun c i hi e => ?_) (fun _ => rfl)⟩⟩, fun w => absurd rfl w⟩
      · subst e
        exact absurd q (nI_pos (by omega))
      · rw [fa_lt, s_z0] at q
        rw [fa_lt, nI_i (by omega)] at q2
        have ea : a = nI a.toInt.toNat := by rw [fa_eq, nI_i (by omega)]; omega
        have hi : a.toInt.toNat < Z.2.1.1 := by omega
        generalize a.toInt.toNat = i at ea hi
        refine ⟨by rw [ea]; exact vp_nI (by omega) (by omega), ref _ (fun c j hj e => ?_) (fun c => ?_)⟩
        · rw [ea] at e
          have e := (nI_inj (by omega) (by omega)).mp e
          subst e
          rw [ea, nI_c (by omega), ht1 g3 i hi]
        · simp only [oIn, decide_eq_false_iff_not] at c
          omega
      · subst e
        exact absurd ((nI_ltN (by omega) (by omega)).mpr hi) q2
    · rw [if_neg g3]
      refine ⟨fun w => absurd w (by decide), fun _ => eX9_used (q_ref hW hM1 (fun hn => absurd hf hn) (fun _ μ2 Q hM2 hB2 R => ?_))⟩
      rw [if_neg g3]
      exact ⟨fun w => absurd w (by decide), fun _ => hK _ μ2 Z hW (zC_B hB2 hC1) hM2⟩
theorem q_behind {d : Nat} {μ : sM} {Z : tZ} {a b : Int32} {K : Int32 → Int32 → sM → Prop} (hW : zW Z) (hC : zC μ Z) (hM : zM μ Z) (hK : qK K) : sCl sLL mX8_behind (d + 20) [sR 0, sI a, sI b] μ (kI fun r μ1 => sCl sLL mX9_behind (d + 20) [sR 62, sI a, sI b] μ1 (kI fun r2 μ2 => K r r2 μ2)) := by
  have h7 := hW.1.1.2
  have z3 : (3 : Int32).toInt = 3 := by decide
  refine eX8_behind (c_hasThing hC.1.1 h7 (fun t ht e => ⟨fun _ => ?_, fun w => absurd w (by decide)⟩) (fun q => ⟨fun w => absurd rfl w, fun _ => ?_⟩))
  · subst e
    have ref : ∀ {μ1 : sM} {K2 : Int32 → sM → Prop}, zM μ1 Z → (oIn b 0 3 = false → K2 (-2) μ1) → (oIn b 0 3 = true → sCl sLL mX9_refusal (d + 19) [sR 62] μ1 (kI fun r3 μ3 => ((r3 = (-6) → ((¬ b = 0 → ((¬ b = 1 → ((¬ b = 2 → K2 (μ3.1 75 t) μ3) ∧ (b = 2 → K2 (μ3.1 74 t) μ3))) ∧ (b = 1 → K2 (μ3.1 77 t) μ3))) ∧ (b = 0 → K2 (μ3.1 76 t) μ3))) ∧ (¬ r3 = (-6) → K2 r3 μ3)))) → sCl sLL mX9_behind (d + 20) [sR 62, sI (nI t), sI b] μ1 (kI K2) := by
      intro μ1 K2 hM1 k0 k1
      refine eX9_behind (c_isThing hM1.1.1.1 hW.1.1.1 h7 (fun t' ht' e => ⟨fun _ => c_inN 0 3 (by decide) (by decide) (fun c => ⟨fun _ => ?_, fun w => absurd w (by decide)⟩) (fun c => ⟨fun w => absurd rfl w, fun _ => k0 c⟩), fun w => absurd w (by decide)⟩) (fun q => ?_))
      · rw [nI_c (by omega)]
        have hv : vp_in (nI t) 7 := vp_nI (by omega) (by omega)
        have k1 := k1 c
        simp only [hv, true_and]
        exact k1
      · rw [nI_i (by omega)] at q
        omega
    by_cases cb : oIn b 0 3 = true
    · obtain ⟨w, hw3, rfl, -⟩ := oIn_nat (hi := 3) (by omega) cb
      have i0 := nI_inj (a := w) (b := 0) (by omega) (by omega)
      have i1 := nI_inj (a := w) (b := 1) (by omega) (by omega)
      have i2 := nI_inj (a := w) (b := 2) (by omega) (by omega)
      refine ⟨fun q => absurd q (nI_pos (by omega)), fun _ => ⟨fun _ => q_eve hW hC (fun hf => ⟨fun w => absurd w (by decide), fun _ => ?_⟩) (fun hf μ1 f1 hC1 hA1 hv1 ht1 => ?_), fun q => absurd ((nI_leN (b := 3) (by omega) (by omega)).mpr hw3) q⟩⟩
      · exact ref hM (fun w => by rw [cb] at w; cases w) (fun _ => q_ref hW hM (fun _ => ⟨fun w => absurd w (by decide), fun _ => hK _ μ Z hW hC hM⟩) (fun hn => absurd hn hf))
      · have hM1 := zM_A hA1 hM
        have hv : vp_in (nI t) 7 := vp_nI (by omega) (by omega)
        by_cases g3 : vEnd Z.1 Z.2.1.1 Z.2.1.2 5 3 = 0
        · rw [if_pos g3, nI_c (by omega), hv1.1.2.1 t (by omega), (hv1.2.1 t (by omega)).1, (hv1.2.1 t (by omega)).2.1, (hv1.2.1 t (by omega)).2.2]
          have tail : ∀ r : Int32, (r = if w = 0 then nI (vEnd Z.1 Z.2.1.1 Z.2.1.2 0 t) else if w = 1 then nI (vEnd Z.1 Z.2.1.1 Z.2.1.2 1 t) else if w = 2 then nS (vEnd Z.1 Z.2.1.1 Z.2.1.2 2 t) else nS (vEnd Z.1 Z.2.1.1 Z.2.1.2 3 t)) → sCl sLL mX9_behind (d + 20) [sR 62, sI (nI t), sI (nI w)] μ1 (kI fun r2 μ2 => K r r2 μ2) := by
            intro r hr
            refine ref hM1 (fun w => by rw [cb] at w; cases w) (fun _ => q_ref hW hM1 (fun hn => absurd hf hn) (fun _ μ2 Q hM2 hB2 R => ?_))
            have fin : ∀ x, x = r → K r x μ2 := fun x e => by
              subst e
              exact hK _ μ2 Z hW (zC_B hB2 hC1) hM2
            rw [if_pos g3, (R.1 t (by omega)).1, (R.1 t (by omega)).2.1, (R.1 t (by omega)).2.2.1, (R.1 t (by omega)).2.2.2]
            refine ⟨fun _ => ⟨fun q0 => ⟨fun q1 => ⟨fun q2 => fin _ ?_, fun q2 => fin _ ?_⟩, fun q1 => fin _ ?_⟩, fun q0 => fin _ ?_⟩, fun w => absurd rfl w⟩
            · rw [hr, if_neg (fun e => q0 (i0.mpr e)), if_neg (fun e => q1 (i1.mpr e)), if_neg (fun e => q2 (i2.mpr e))]
            · rw [hr, if_neg (fun e => q0 (i0.mpr e)), if_neg (fun e => q1 (i1.mpr e)), if_pos (i2.mp q2)]
            · rw [hr, if_neg (fun e => q0 (i0.mpr e)), if_pos (i1.mp q1)]
            · rw [hr, if_pos (i0.mp q0)]
          refine ⟨fun _ => ⟨fun q0 => ⟨hv, tail _ ?_⟩, fun q0 => ⟨fun q1 => ⟨hv, tail _ ?_⟩, fun q1 => ⟨fun q2 => ⟨hv, tail _ ?_⟩, fun q2 => ⟨hv, tail _ ?_⟩⟩⟩⟩, fun w => absurd rfl w⟩
          · rw [if_pos (i0.mp q0)]
          · rw [if_neg (fun e => q0 (i0.mpr e)), if_pos (i1.mp q1)]
          · rw [if_neg (fun e => q0 (i0.mpr e)), if_neg (fun e => q1 (i1.mpr e)), if_pos (i2.mp q2)]
          · rw [if_neg (fun e => q0 (i0.mpr e)), if_neg (fun e => q1 (i1.mpr e)), if_neg (fun e => q2 (i2.mpr e))]
        · rw [if_neg g3]
          refine ⟨fun w => absurd w (by decide), fun _ => ref hM1 (fun w => by rw [cb] at w; cases w) (fun _ => q_ref hW hM1 (fun hn => absurd hf hn) (fun _ μ2 Q hM2 hB2 R => ?_))⟩
          rw [if_neg g3]
          exact ⟨fun w => absurd w (by decide), fun _ => hK _ μ2 Z hW (zC_B hB2 hC1) hM2⟩
    · have cb : oIn b 0 3 = false := by simpa using cb
      have out := ref (K2 := fun r2 μ2 => K (-2) r2 μ2) hM (fun _ => hK _ μ Z hW hC hM) (fun w => by rw [cb] at w; cases w)
      simp only [oIn, decide_eq_false_iff_not] at cb
      refine ⟨fun _ => out, fun q => ⟨fun q2 => ?_, fun _ => out⟩⟩
      rw [fa_lt, s_z0] at q
      rw [fa_le, z3] at q2
      omega
  · refine eX9_behind (c_isThing hM.1.1.1 hW.1.1.1 h7 (fun t ht e => ?_) (fun _ => ⟨fun w => absurd rfl w, fun _ => hK _ μ Z hW hC hM⟩))
    subst e
    rw [nI_i (by omega)] at q
    omega
/-- the table behind an evening -/
def nDone (T : tT) (E : vE) : tT := (T.1, fun k i => if k = 3 then E 0 i else if k = 4 then E 1 i else T.2 k i)
theorem nDone_w {T : tT} {E : vE} (hT : tW T) (hw : vW T E) : tW (nDone T E) := by
  obtain ⟨w1, w2, w3, w4, w5⟩ := hT
  obtain ⟨v1, v2, v3, v4, v5, v6⟩ := hw
  refine ⟨w1, fun k i => ?_, fun i => ?_, fun g hg q => ?_, fun t ht => ?_⟩
  · have a := w2 k i
    have b := v1 i
    have c := v3 i
    show (if k = 3 then E 0 i else if k = 4 then E 1 i else T.2 k i) ≤ _
    by_cases c3 : k = 3
    · subst c3; simp; omega
    · by_cases c4 : k = 4
      · subst c4; simp; omega
      · rw [if_neg c3, if_neg c4]; exact a
  · exact w3 i
  · exact w4 g hg q
  · have := v4 t ht
    exact ⟨this, (w5 t ht).2⟩
theorem q_done {d : Nat} {μ : sM} {Z : tZ} {K : Int32 → Int32 → sM → Prop} (hW : zW Z) (hC : zC μ Z) (hM : zM μ Z) (hK : qK K) : sCl sLL mX8_done (d + 20) [sR 0] μ (kI fun r μ1 => sCl sLL mX9_done (d + 20) [sR 62] μ1 (kI fun r2 μ2 => K r r2 μ2)) := by
  have h40 := hW.2.1
  have n7 : (7 : Int32).toNatClampNeg = 7 := rfl
  have hs : ∀ i, i < Z.2.1.1 → Z.2.1.2 i < 1000 := fun i hi => by have := hW.2.2.1 i hi; omega
  refine eX8_done (q_eve hW hC (fun hf => ⟨fun w => absurd w (by decide), fun _ => ?_⟩) (fun hf μ1 f1 hC1 hA1 hv1 ht1 => ?_))
  · exact eX9_done (q_ref hW hM (fun _ => ⟨fun w => absurd w (by decide), fun _ => hK _ μ Z hW hC hM⟩) (fun hn => absurd hn hf))
  · have hM1 := zM_A hA1 hM
    have hok := vFf_none _ _ hf
    have hw : vW Z.1 (vEnd Z.1 Z.2.1.1 Z.2.1.2) := vGo_w hW.1 Z.2.1.1 0 (vE0 Z.1) (by omega) hok (vE0_w hW.1)
    by_cases g3 : vEnd Z.1 Z.2.1.1 Z.2.1.2 5 3 = 0
    · rw [if_pos g3, hC1.2.1]
      refine ⟨fun _ => ?_, fun w => absurd rfl w⟩
      have C3 : tC (s_cp (s_cp μ1 36 6 7) 38 7 7) 1 4 (nDone Z.1 (vEnd Z.1 Z.2.1.1 Z.2.1.2)) := by
        obtain ⟨h1, h2, h3, h4, h5⟩ := hC1.1
        refine ⟨?_, ?_, ?_, fun t ht => ?_, fun g hg => ?_⟩
        · rw [s_cp_ne (by omega), s_cp_ne (by omega)]; exact h1
        · rw [s_cp_ne (by omega), s_cp_ne (by omega)]; exact h2
        · rw [s_cp_ne (by omega), s_cp_ne (by omega)]; exact h3
        · refine ⟨?_, ?_, ?_, ?_, ?_⟩
          · rw [s_cp_ne (by omega), s_cp_ne (by omega)]; exact (h4 t ht).1
          · rw [s_cp_ne (by omega), s_cp_ne (by omega)]; exact (h4 t ht).2.1
          · rw [s_cp_ne (by omega)]
            show (s_cp μ1 36 6 7).1 6 t = _
            rw [s_cp_in (by omega)]
            exact hv1.1.2.1 t ht
          · show (s_cp (s_cp μ1 36 6 7) 38 7 7).1 7 t = _
            rw [s_cp_in (by omega), s_cp_ne (by omega)]
            exact (hv1.2.1 t ht).1
          · rw [s_cp_ne (by omega), s_cp_ne (by omega)]; exact (h4 t ht).2.2.2.2
        · rw [s_cp_ne (by omega), s_cp_ne (by omega), s_cp_ne (by omega), s_cp_ne (by omega), s_cp_ne (by omega), s_cp_ne (by omega), s_cp_ne (by omega), s_cp_ne (by omega)]
          exact h5 g hg
      have F3 : sFr [6, 7] μ1 (s_cp (s_cp μ1 36 6 7) 38 7 7) := (sFr.cp (by decide)).tr (sFr.cp (by decide))
      have Z3 := zC_T F3 (by decide) C3 hC1
      have Z4 := zC_P (c := 0) (sg := Z.2.1.2) (μ' := s_u (s_cp (s_cp μ1 36 6 7) 38 7 7) 33 0 0) (sFr.u (by decide)) s_u_at (fun i hi => by omega) Z3
      have A4 : zA μ1 (s_u (s_cp (s_cp μ1 36 6 7) 38 7 7) 33 0 0) := fun r hr => by rw [s_u_ne (by omega), s_cp_ne (by omega), s_cp_ne (by omega)]
      have hM4 := zM_A A4 hM1
      refine eX9_done (q_ref hW hM4 (fun hn => absurd hf hn) (fun _ μ5 Q5 hM5 hB5 R5 => ?_))
      rw [if_pos g3]
      refine ⟨fun _ => c_goEvening hW.1 hM5.1 h40 hM5.2.1 hM5.2.2.1 hs (fun i hi => hok i (by omega) (by omega)) (fun μ6 hf6 hv6 _ => ?_), fun w => absurd rfl w⟩
      have e10 : μ6.1 62 10 = nI Z.2.1.1 := (hf6.2.1 10 (by omega) (by omega) (by omega) (by omega) (by omega)).trans hM5.2.1
      have M6 : tM μ6 (nDone Z.1 (vEnd Z.1 Z.2.1.1 Z.2.1.2)) := by
        obtain ⟨e1, e2, e3, e4⟩ := tE_e hf6 hM5.1.1
        refine ⟨⟨e1, e2, e3, e4⟩, fun t ht => ⟨?_, ?_, ?_, ?_⟩⟩
        · exact (hv6.1.1 t ht).1
        · exact (hv6.1.1 t ht).2
        · exact (hv6.2.1 t ht).1
        · rw [hf6.1.2 65 (by decide)]
          exact (hM5.1.2 t ht).2.2.2
      have Z6 : zM μ6 (nDone Z.1 (vEnd Z.1 Z.2.1.1 Z.2.1.2), Z.2) := by
        obtain ⟨m1, m2, m3, m4⟩ := hM5
        refine ⟨M6, e10, fun i hi => by rw [hf6.1.2 70 (by decide)]; exact m3 i hi, fun k hk => ⟨fun q => by rw [hf6.1.2 85 (by decide)]; exact (m4 k hk).1 q, fun T q => ?_⟩⟩
        obtain ⟨a, b⟩ := (m4 k hk).2 T q
        exact ⟨by rw [hf6.1.2 85 (by decide)]; exact a, tK_fr (hf6.1.2 84 (by decide)) b⟩
      have Z7 := zM_P (c := 0) (sg := Z.2.1.2) (μ' := s_u μ6 62 10 0) (sFr.u (by decide)) (fun k hk => s_u_off hk) s_u_at (fun i hi => by omega) Z6
      rw [e10]
      refine hK _ _ (nDone Z.1 (vEnd Z.1 Z.2.1.1 Z.2.1.2), (0, Z.2.1.2), Z.2.2) ⟨nDone_w hW.1 hw, Nat.zero_le _, fun i hi => absurd hi (Nat.not_lt_zero i), hW.2.2.2⟩ (zC_B ?_ (zC_B hB5 Z4)) Z7
      intro r hr
      rw [s_u_ne (by omega)]
      exact hf6.1.2 r (by simp; omega)
    · rw [if_neg g3]
      refine ⟨fun w => absurd w (by decide), fun _ => eX9_done (q_ref hW hM1 (fun hn => absurd hf hn) (fun _ μ2 Q hM2 hB2 R => ?_))⟩
      rw [if_neg g3]
      exact ⟨fun w => absurd w (by decide), fun _ => hK _ μ2 Z hW (zC_B hB2 hC1) hM2⟩
theorem q_hide {d : Nat} {μ : sM} {Z : tZ} {K : Int32 → Int32 → sM → Prop} (hW : zW Z) (hC : zC μ Z) (hM : zM μ Z) (hK : qK K) : sCl sLL mX8_hide (d + 20) [sR 0] μ (kI fun r μ1 => sCl sLL mX9_hide (d + 20) [sR 62] μ1 (kI fun r2 μ2 => K r r2 μ2)) := by
  have h40 := hW.2.1
  have h7 := hW.1.1.2
  refine eX8_hide (q_eve hW hC (fun hf => ⟨fun w => absurd w (by decide), fun _ => ?_⟩) (fun hf μ1 f1 hC1 hA1 hv1 ht1 => ?_))
  · exact eX9_hide (q_ref hW hM (fun _ => ⟨fun w => absurd w (by decide), fun _ => hK _ μ Z hW hC hM⟩) (fun hn => absurd hn hf))
  · have hM1 := zM_A hA1 hM
    have hok := vFf_none _ _ hf
    have hw : vW Z.1 (vEnd Z.1 Z.2.1.1 Z.2.1.2) := vGo_w hW.1 Z.2.1.1 0 (vE0 Z.1) (by omega) hok (vE0_w hW.1)
    by_cases g3 : vEnd Z.1 Z.2.1.1 Z.2.1.2 5 3 = 0
    · rw [if_pos g3]
      refine ⟨fun _ => ?_, fun w => absurd rfl w⟩
      have bE : ∀ t, vEnd Z.1 Z.2.1.1 Z.2.1.2 0 t ≤ 9 := hw.1
      have bT : ∀ t, Z.1.2 3 t ≤ 9 := fun t => by have := hW.1.2.1 3 t; simpa using this
      let fb : Nat → Nat := fun t => if vEnd Z.1 Z.2.1.1 Z.2.1.2 0 t = Z.1.2 3 t then 0 else 1
      have fb1 : ∀ t, fb t ≤ 1 := fun t => by show (if _ then 0 else 1) ≤ 1; split <;> omega
      have tail : sCl sLL mX9_hide (d + 20) [sR 62] μ1 (kI fun r2 μ2 => K (nI (tB fb Z.1.1)) r2 μ2) := by
        refine eX9_hide (q_ref hW hM1 (fun hn => absurd hf hn) (fun _ μ2 Q hM2 hB2 R => ?_))
        rw [if_pos g3]
        refine ⟨fun _ => ?_, fun w => absurd rfl w⟩
        refine s_down (P := fun t => sG sLL mX9_hide (d + 19 + 1) (kI fun r2 μ2 => K (nI (tB fb Z.1.1)) r2 μ2) 17 [some (sR 62), some (sI (-6)), some (sI (nI (tB fb t))), some (sI (nI t))] [] μ2) Z.1.1 ?_ ?_ 0 (by omega)
        · refine sX9_hide_17 ⟨fun _ => hK _ μ2 Z hW (zC_B hB2 hC1) hM2, fun q => ?_⟩
          rw [hM2.1.1.1] at q
          exact absurd ((nI_leN (by omega) (by omega)).mpr (Nat.le_refl _)) q
        · intro t ht ih
          have x1 := bE t
          have x2 := bT t
          refine sX9_hide_17 ⟨fun q => ?_, fun _ => ⟨vp_nI (by omega) (by omega), c_at 3 t ⟨vp_nI (by omega) (by omega), ?_⟩⟩⟩
          · rw [hM2.1.1.1] at q
            have q := (nI_leN (by omega) (by omega)).mp q
            omega
          · rw [nI_c (by omega), nI_c (by omega), show 7 * 3 + t = 21 + t by omega, (R.1 t (by omega)).1, (hM2.1.2 t (by omega)).2.1, nI_inj (by omega) (by omega), nI_1, s_shl1 t (by omega)]
            have e : tB fb (t + 1) = tB fb t + fb t * 2 ^ t := rfl
            rw [e] at ih
            refine ⟨fun q => ?_, fun q => ?_⟩
            · have e1 : fb t = 0 := if_pos q
              rw [e1, Nat.zero_mul, Nat.add_zero] at ih
              rw [show (0 : Int32) = nI 0 from rfl, fa_or, Nat.or_zero]
              exact ih
            · have e1 : fb t = 1 := if_neg q
              rw [e1, ← tB_or fb1] at ih
              exact ih
      refine s_down (P := fun t => sG sLL mX8_hide (d + 19 + 1) (kI fun r μ1 => sCl sLL mX9_hide (d + 20) [sR 62] μ1 (kI fun r2 μ2 => K r r2 μ2)) 15 [some (sR 0), some (sI 0), some (sI (nI (tB fb t))), some (sI (nI t))] [] μ1) Z.1.1 ?_ ?_ 0 (by omega)
      · refine sX8_hide_15 ⟨fun _ => tail, fun q => ?_⟩
        rw [hC1.1.1] at q
        exact absurd ((nI_leN (by omega) (by omega)).mpr (Nat.le_refl _)) q
      · intro t ht ih
        have x1 := bE t
        have x2 := bT t
        refine sX8_hide_15 ⟨fun q => ?_, fun _ => ⟨vp_nI (by omega) (by omega), ?_⟩⟩
        · rw [hC1.1.1] at q
          have q := (nI_leN (by omega) (by omega)).mp q
          omega
        · rw [nI_c (by omega), hv1.1.2.1 t (by omega), (hC1.1.2.2.2.1 t (by omega)).2.2.1, nI_inj (by omega) (by omega), nI_1, s_shl1 t (by omega)]
          have e : tB fb (t + 1) = tB fb t + fb t * 2 ^ t := rfl
          rw [e] at ih
          refine ⟨fun q => ?_, fun q => ?_⟩
          · have e1 : fb t = 0 := if_pos q
            rw [e1, Nat.zero_mul, Nat.add_zero] at ih
            exact ih
          · have e1 : fb t = 1 := if_neg q
            rw [e1, ← tB_or fb1] at ih
            exact ih
    · rw [if_neg g3]
      refine ⟨fun w => absurd w (by decide), fun _ => eX9_hide (q_ref hW hM1 (fun hn => absurd hf hn) (fun _ μ2 Q hM2 hB2 R => ?_))⟩
      rw [if_neg g3]
      exact ⟨fun w => absurd w (by decide), fun _ => hK _ μ2 Z hW (zC_B hB2 hC1) hM2⟩
