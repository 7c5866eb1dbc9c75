-- CALL AGAINST CALL: trace
theorem best_at {T : tT} {lk S : Nat → Nat} {σ : tS} {k : Nat} (hk : k ≤ 6) (h1 : (tAll k).filterMap (tEnt T lk S [] σ) ≠ []) (h0 : ∀ j, j < k → (tAll j).filterMap (tEnt T lk S [] σ) = []) : (hBest (tDfs T lk S 6 [] σ)).map (fun e => e.1.length) = some k := by
  have fl : ∀ j, j ≤ 6 → (tDfs T lk S 6 [] σ).filter (fun e => decide (e.1.length = j)) = (tAll j).filterMap (tEnt T lk S [] σ) := fun j hj => by
    have := tDfs_filter (T := T) (lk := lk) (S := S) 6 j [] σ hj
    simpa using this
  rcases hBest_is _ (tDfs T lk S 6 [] σ) rfl with ⟨e, -⟩ | ⟨k2, e, hb, hh, hl, hj⟩
  · refine absurd ?_ h1
    rw [← fl k hk, e]
    rfl
  · rw [hb]
    show some e.1.length = some k
    rw [hl]
    congr 1
    rcases Nat.lt_trichotomy k2 k with c | c | c
    · rw [fl k2 (by omega), h0 k2 c] at hh
      cases hh
    · exact c
    · have := hj k c
      rw [fl k hk] at this
      exact absurd this h1
theorem best_no {T : tT} {lk S : Nat → Nat} {σ : tS} (h0 : ∀ j, j ≤ 6 → (tAll j).filterMap (tEnt T lk S [] σ) = []) : (hBest (tDfs T lk S 6 [] σ)).map (fun e => e.1.length) = none := by
  have fl : ∀ j, j ≤ 6 → (tDfs T lk S 6 [] σ).filter (fun e => decide (e.1.length = j)) = (tAll j).filterMap (tEnt T lk S [] σ) := fun j hj => by
    have := tDfs_filter (T := T) (lk := lk) (S := S) 6 j [] σ hj
    simpa using this
  rcases hBest_is _ (tDfs T lk S 6 [] σ) rfl with ⟨-, e⟩ | ⟨k2, e, hb, hh, hl, hj⟩
  · rw [e]; rfl
  · have hm : e ∈ (tDfs T lk S 6 [] σ).filter (fun e => decide (e.1.length = k2)) := List.mem_of_mem_head? hh
    have := tDfs_6 (Nat.le_refl 6) e (List.mem_filter.mp hm).1
    rw [fl k2 (by omega), h0 k2 (by omega)] at hh
    cases hh
/-- what an evening left, as a watcher's sights -/
def vS (T : tT) (E : vE) : Nat → Nat := fun t => if t < T.1 then E 0 t + 1 else 0
theorem vS_seen {T : tT} {E : vE} {L : Nat → Nat} : tSeen T.1 L (vS T E) = true ↔ ∀ t, t < T.1 → L t = E 0 t := by
  simp only [tSeen, decide_eq_true_eq]
  constructor
  · intro h t ht
    have := h t ht
    simp only [vS, if_pos ht] at this
    omega
  · intro h t ht
    have := h t ht
    simp only [vS, if_pos ht]
    omega
theorem goF.tr0 {μ μ1 μ2 : sM} (h : goF μ μ1) (hf : sFr [62, 63, 64, 74, 78] μ1 μ2) (h62 : ∀ k, k = 0 ∨ k = 4 ∨ k = 10 → μ2.1 62 k = μ1.1 62 k) (h63 : ∀ j, j < 21 → μ2.1 63 j = μ1.1 63 j) : goF μ μ2 := ⟨h.1.tr (hf.mono (by decide)), fun k hk => (h62 k hk).trans (h.2.1 k hk), fun j hj => (h63 j hj).trans (h.2.2.1 j hj), fun i hi => by rw [hf.2 71 (by decide), hf.2 72 (by decide)]; exact h.2.2.2 i hi⟩
theorem c_traceM {d : Nat} {μ : sM} {T : tT} {E : vE} {x1 : Int32} {f : Int32 → sM → Prop} (hT : tW T) (hM : tM μ T) (hL : ∀ i, E 0 i ≤ 9) (h76 : ∀ t, t < 7 → μ.1 76 t = nI (E 0 t)) (h : ∀ μ', mQ μ μ' → f (nO ((hBest (tDfs T (T.2 2) (vS T E) 6 [] (tS0 T))).map (fun e => e.1.length))) μ') : sCl sLL mX9_keepNow (d + 4) [sR 62] μ (kV fun μ2 => sG sLL mX9_trace (d + 5) (kI f) 22 [some (sR 62), some (sI x1), some (sI (-6)), some (sI 0), none] [] μ2) := by
  have h7 := hT.1.2
  have hk : ∀ i, T.2 2 i ≤ 1 := fun i => (hT.2.2.1 i).1
  have hL9 : ∀ i, T.2 3 i ≤ 9 := fun i => by have := hT.2.1 3 i; simpa using this
  refine c_keepNow (fun μ1 hf1 hb1 => ?_)
  have F1 : goF μ μ1 := ⟨hf1.mono (by decide), fun k hk2 => by rw [hf1.2 62 (by decide)], fun j hj => by rw [hf1.2 63 (by decide)], hb1⟩
  have back : ∀ μ2 (r : Int32), goF μ μ2 → r = nO ((hBest (tDfs T (T.2 2) (vS T E) 6 [] (tS0 T))).map (fun e => e.1.length)) → sCl sLL mX9_putBack (d + 4) [sR 62] μ2 (kV fun μ3 => f r μ3) := by
    intro μ2 r hF e
    subst e
    refine c_putBack (fun μ4 hf4 h63 hb => h μ4 ⟨mG.of (hF.1.tr (hf4.mono (by decide))) (by decide) (fun k hk => by rw [hf4.2 62 (by decide)]; exact hF.2.1 k hk) (fun j hj => by rw [h63 j hj]; exact hF.2.2.1 j hj), fun i hi => ?_⟩)
    rw [(hb i hi).1, (hb i hi).2]
    exact hF.2.2.2 i hi
  -- found at length k
  have found : ∀ (k : Nat), k ≤ 6 → (hBest (tDfs T (T.2 2) (vS T E) 6 [] (tS0 T))).map (fun e => e.1.length) = some k → ∀ μ2, goF μ μ2 → sG sLL mX9_trace (d + 5) (kI f) 22 [some (sR 62), some (sI x1), some (sI (nI k)), some (sI (nI (k + 1))), none] [] μ2 := by
    intro k hk6 e μ2 hF
    have er : nI k = nO ((hBest (tDfs T (T.2 2) (vS T E) 6 [] (tS0 T))).map (fun e => e.1.length)) := by rw [e]; rfl
    refine sX9_trace_22 ⟨fun _ => back μ2 _ hF er, fun _ => ⟨fun _ => back μ2 _ hF er, fun q => ?_⟩⟩
    refine absurd ?_ q
    rw [fa_le, s_z0, nI_i (by omega)]
    omega
  have loop35 : ∀ (k : Nat), k ≤ 6 → (∀ j, j < k → (tAll j).filterMap (tEnt T (T.2 2) (vS T E) [] (tS0 T)) = []) → ((tAll k).filterMap (tEnt T (T.2 2) (vS T E) [] (tS0 T)) = [] → ∀ μ2, goF μ μ2 → sG sLL mX9_trace (d + 5) (kI f) 22 [some (sR 62), some (sI x1), some (sI (-6)), some (sI (nI (k + 1))), none] [] μ2) → ∀ μ2, goF μ μ2 → sG sLL mX9_trace (d + 5) (kI f) 35 [some (sR 62), some (sI x1), some (sI (-6)), some (sI (nI k)), some (sI 0)] [] μ2 := by
    intro k hk6 h0 hnext μ2 hF2
    have h4k := pow4_le (n := k) hk6
    refine s_down (P := fun x => ∀ μ3, goF μ μ3 → (∀ y, y < x → tEnt T (T.2 2) (vS T E) [] (tS0 T) (tRow k y) = none) → sG sLL mX9_trace (d + 4 + 1) (kI f) 35 [some (sR 62), some (sI x1), some (sI (-6)), some (sI (nI k)), some (sI (nI x))] [] μ3) (4 ^ k) ?_ ?_ 0 (Nat.zero_le _) μ2 hF2 (fun y hy => absurd hy (Nat.not_lt_zero y))
    · intro μ3 hF3 hno
      refine sX9_trace_35 (c_power (by omega) ⟨fun _ => ?_, fun q => absurd ((nI_leN (by omega) (by omega)).mpr (Nat.le_refl _)) q⟩)
      rw [nI_1]
      refine hnext ?_ μ3 hF3
      rw [← tRow_all, List.filterMap_eq_nil_iff]
      intro r hr
      obtain ⟨y, hy, e⟩ := List.mem_map.mp hr
      rw [← e]
      exact hno y (List.mem_range.mp hy)
    · intro x hx ih μ3 hF3 hno
      refine sX9_trace_35 (c_power (by omega) ⟨fun q => ?_, fun _ => ⟨fun q => absurd q (by decide), fun _ => ?_⟩⟩)
      · have q := (nI_leN (by omega) (by omega)).mp q
        omega
      · refine c_layRow (by omega) (by omega) (fun μ4 hf4 h62 h78 h24 => ?_)
        have hF4 : goF μ μ4 := hF3.tr0 (hf4.mono (by decide)) (fun j hj => h62 j (by omega)) (fun j hj => by rw [hf4.2 63 (by decide)])
        have hrl := tRow_len k x
        have e1 : sI (nI k) = sI (nI (tRow k x).length) := by rw [hrl]
        have next : ∀ μ5, goF μ μ5 → tEnt T (T.2 2) (vS T E) [] (tS0 T) (tRow k x) = none → sG sLL mX9_trace (d + 4 + 1) (kI f) 35 [some (sR 62), some (sI x1), some (sI (-6)), some (sI (nI k)), some (sI (nI x + 1))] [] μ5 := by
          intro μ5 hF5 hn
          rw [nI_1]
          refine ih μ5 hF5 (fun y hy => ?_)
          by_cases c : y = x
          · rw [c]; exact hn
          · exact hno y (by omega)
        have cg : ∀ {f2 : Int32 → sM → Prop}, sCl sLL mX9_canGo (d + 1 + 3) [sR 62, sI (nI (tRow k x).length)] μ4 (kI f2) → sCl sLL mX9_canGo (d + 4) [sR 62, sI (nI k)] μ4 (kI f2) := by
          intro f2 hc
          rw [← e1] at hc
          exact hc
        refine cg (c_canGo hT (goF_E hF4 hM.1) (fun t ht => by rw [hF4.2.2.1 _ (by omega)]; exact (hM.2 t ht).1) hk hL9 (fun t ht => by rw [(hF4.2.2.2 t ht).1]; exact (hM.2 t ht).2.1) (by omega) (tRow_g k x) (fun i hi => h78 i (by omega)) (fun σ μ5 hrun hw hf5 h625 h635 hK5 h745 => ⟨fun w => absurd w (by decide), fun _ => ?_⟩) (fun μ5 hrun hf5 h625 h635 => ⟨fun _ => ?_, fun w => absurd rfl w⟩))
        · have hF5 : goF μ μ5 := hF4.tr0 (hf5.mono (by decide)) (fun j hj => h625 j (by omega) (by omega)) h635
          refine c_isLeftSo h7 (goF_E hF5 hM.1).1 (fun t ht => (hK5.1 t ht).2) hw.1 (fun t ht => by rw [hF5.1.2 76 (by decide)]; exact h76 t ht) hL (fun hs => ⟨fun w => absurd w (by decide), fun _ => ?_⟩) (fun hs => ⟨fun _ => next μ5 hF5 ?_, fun w => absurd rfl w⟩)
          · have e : tEnt T (T.2 2) (vS T E) [] (tS0 T) (tRow k x) = some (tRow k x, σ) := by
              unfold tEnt
              rw [show tS0 T = (T.2 3, none, fun _ => none) from rfl, hrun]
              simp [vS_seen.mpr hs]
            have hb := best_at hk6 (T := T) (lk := T.2 2) (S := vS T E) (σ := tS0 T) (k := k) (by
              intro hn
              rw [List.filterMap_eq_nil_iff] at hn
              have hmem : tRow k x ∈ tAll k := by
                rw [← tRow_all]
                exact List.mem_map.mpr ⟨x, List.mem_range.mpr hx, rfl⟩
              rw [hn _ hmem] at e
              cases e) h0
            have go := found k hk6 hb
            have hpos : (0 : Int32) ≤ nI k := by
              rw [fa_le, s_z0, nI_i (by omega)]
              omega
            rw [nI_1]
            refine sX9_trace_35 (c_power (by omega) ⟨fun _ => ?_, fun _ => ⟨fun _ => ?_, fun q => absurd hpos q⟩⟩)
            · rw [nI_1]
              exact go μ5 hF5
            · rw [nI_1]
              exact go μ5 hF5
          · unfold tEnt
            rw [show tS0 T = (T.2 3, none, fun _ => none) from rfl, hrun]
            have : ¬ tSeen T.1 σ.1 (vS T E) = true := fun w => hs (vS_seen.mp w)
            simp [this]
        · refine next μ5 (hF4.tr0 (hf5.mono (by decide)) (fun j hj => h625 j (by omega) (by omega)) h635) ?_
          unfold tEnt
          rw [show tS0 T = (T.2 3, none, fun _ => none) from rfl, hrun]
          rfl
  refine s_down (P := fun k => ∀ μ3, goF μ μ3 → (∀ j, j < k → (tAll j).filterMap (tEnt T (T.2 2) (vS T E) [] (tS0 T)) = []) → sG sLL mX9_trace (d + 4 + 1) (kI f) 22 [some (sR 62), some (sI x1), some (sI (-6)), some (sI (nI k)), none] [] μ3) 7 ?_ ?_ 0 (by omega) μ1 F1 (fun j hj => absurd hj (Nat.not_lt_zero j))
  · intro μ3 hF3 hno
    refine sX9_trace_22 ⟨fun _ => back μ3 _ hF3 ?_, fun q => absurd (by decide) q⟩
    rw [best_no (fun j hj => hno j (by omega))]
    rfl
  · intro k hk2 ih μ3 hF3 hno
    refine sX9_trace_22 ⟨fun q => ?_, fun _ => ⟨fun q => absurd q (by decide), fun _ => loop35 k (by omega) hno (fun hn μ4 hF4 => ih μ4 hF4 (fun j hj => ?_)) μ3 hF3⟩⟩
    · have q := (nI_ltN (a := 6) (by omega) (by omega)).mp q
      omega
    · by_cases c : j = k
      · rw [c]; exact hn
      · exact hno j (by omega)
theorem q_trace {d : Nat} {μ : sM} {Z : tZ} {K : Int32 → Int32 → sM → Prop} (hW : zW Z) (hC : zC μ Z) (hM : zM μ Z) (hK : qK K) : sCl sLL mX8_trace (d + 20) [sR 0] μ (kI fun r μ1 => sCl sLL mX9_trace (d + 20) [sR 62] μ1 (kI fun r2 μ2 => K r r2 μ2)) := by
  have h40 := hW.2.1
  have h7 := hW.1.1.2
  refine eX8_trace (q_eve hW hC (fun hf => ⟨fun w => absurd w (by decide), fun _ => ?_⟩) (fun hf μ1 f1 hC1 hA1 hv1 ht1 => ?_))
  · exact eX9_trace (q_ref hW hM (fun _ => ⟨fun w => absurd w (by decide), fun _ => hK _ μ Z hW hC hM⟩) (fun hn => absurd hn hf))
  · have hM1 := zM_A hA1 hM
    have hok := vFf_none _ _ hf
    have hw : vW Z.1 (vEnd Z.1 Z.2.1.1 Z.2.1.2) := vGo_w hW.1 Z.2.1.1 0 (vE0 Z.1) (by omega) hok (vE0_w hW.1)
    by_cases g3 : vEnd Z.1 Z.2.1.1 Z.2.1.2 5 3 = 0
    · rw [if_pos g3]
      refine ⟨fun _ => ?_, fun w => absurd rfl w⟩
      refine c_fill (n := 7) rfl rfl (by omega) (fun μ2 hf2 q41 _ => ?_)
      have e0 : μ2.1 1 0 = nI Z.1.1 := by rw [hf2.2 1 (by decide)]; exact hC1.1.1
      rw [e0, nI_c (by omega)]
      refine ⟨nI_pos (by omega), h7, h7, ?_⟩
      have F3 : sFr [41] μ1 (s_cp μ2 36 41 (nI Z.1.1)) := hf2.tr (sFr.cp (by decide))
      have hC3 := zC_S F3 (by decide) hC1
      refine c_gatherb (m := 6) hW.1 hC3.1 (S := vS Z.1 (vEnd Z.1 Z.2.1.1 Z.2.1.2)) (fun t ht => ?_) (fun i => ?_) (by omega) (fun μ4 hf4 hwc => ?_)
      · by_cases c : t < Z.1.1
        · rw [s_cp_in (by rw [nI_c (by omega)]; exact c), hf2.2 36 (by decide), hv1.1.2.1 t ht]
          simp only [vS, if_pos c]
          rfl
        · rw [s_cp_out (by rw [nI_c (by omega)]; omega), q41 t ht]
          simp only [vS, if_neg c]
          rfl
      · have := hw.1 i
        simp only [vS]
        split <;> omega
      · have hC4 := zC_S hf4 (by decide) hC3
        have hM4 := zM_A (zA_S hf4 (by decide)) (zM_A (zA_S F3 (by decide)) hM1)
        have e6 : μ4.1 43 6 = nO ((hBest (tDfs Z.1 (Z.1.2 2) (vS Z.1 (vEnd Z.1 Z.2.1.1 Z.2.1.2)) 6 [] (tS0 Z.1))).map (fun e => e.1.length)) := hwc.2.2.2.2.2.1.2.1
        rw [e6]
        refine eX9_trace (q_ref hW hM4 (fun hn => absurd hf hn) (fun _ μ5 Q5 hM5 hB5 R5 => ?_))
        rw [if_pos g3]
        exact ⟨fun _ => c_traceM hW.1 hM5.1 hw.1 (fun t ht => (R5.1 t ht).1) (fun μ6 Q6 => hK _ μ6 Z hW (zC_B (zB_Q Q6) (zC_B hB5 hC4)) (zM_Q Q6 hM5)), fun w => absurd rfl w⟩
    · rw [if_neg g3]
      refine ⟨fun w => absurd w (by decide), fun _ => eX9_trace (q_ref hW hM1 (fun hn => absurd hf hn) (fun _ μ2 Q hM2 hB2 R => ?_))⟩
      rw [if_neg g3]
      exact ⟨fun w => absurd w (by decide), fun _ => hK _ μ2 Z hW (zC_B hB2 hC1) hM2⟩
