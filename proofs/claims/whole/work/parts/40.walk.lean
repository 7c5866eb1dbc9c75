-- THE CLASS GATHERS ROWS: walk, gather
def wC (μ : sM) (T : tT) (lk S : Nat → Nat) (r : List Nat) (σ : tS) (h : List tR) : Prop := tC μ 1 4 T ∧ kC μ lk σ.1 σ.2.1 ∧ (∀ t, t < 7 → μ.1 44 t = nS (S t)) ∧ (∀ t, t < 7 → μ.1 46 t = nO (σ.2.2 t)) ∧ (∀ i, i < r.length → μ.1 45 i = nI (r.getD i 0)) ∧ aC μ T.1 h
abbrev wS : List Nat := [35, 36, 43, 45, 46, 47, 48, 50, 51, 52, 53, 54, 55, 56]
theorem wS_ge : ∀ x ∈ wS, 35 ≤ x ∧ x ≤ 56 ∧ x ≠ 44 ∧ x ≠ 41 := by decide
theorem wS_no {r : Nat} (h : r < 35 ∨ r = 44 ∨ r = 41 ∨ 56 < r) : r ∉ wS := fun w => by
  have := wS_ge r w
  omega
theorem aC_fr {μ μ' : sM} {n : Nat} {h : List tR} (hf : ∀ r, r ∈ aS → μ'.1 r = μ.1 r) (hn : n ≤ 7) (a : aC μ n h) : aC μ' n h :=
  ⟨aN_fr (hf 43 (by decide)) (hf 47 (by decide)) a.1, fun t ht => aT_fr (by rw [hf 48 (by decide)]) (hf (50 + t) (aS_50 (by omega))) (a.2 t ht)⟩
theorem aC_S {S : List Nat} {μ μ' : sM} {n : Nat} {h : List tR} (hf : sFr S μ μ') (hs : ∀ x ∈ aS, x ∉ S) (hn : n ≤ 7) (a : aC μ n h) : aC μ' n h := aC_fr (fun r hr => hf.2 r (hs r hr)) hn a
theorem hBest_mem {h : List tR} {e : tR} (hb : hBest h = some e) : e ∈ h := by
  rcases hBest_is _ h rfl with ⟨rfl, h2⟩ | ⟨k, e', h1, h2, h3, h4⟩
  · rw [h2] at hb; cases hb
  · rw [h1] at hb
    cases hb
    exact (List.mem_filter.mp (List.mem_of_head? h2)).1
theorem getD_app {r : List Nat} {g i : Nat} : (r ++ [g]).getD i 0 = if i < r.length then r.getD i 0 else if i = r.length then g else 0 := by
  by_cases c : i < r.length
  · simp [List.getD_eq_getElem?_getD, List.getElem?_append_left c, c]
  · by_cases c2 : i = r.length
    · subst c2
      simp [List.getD_eq_getElem?_getD]
    · have h1 : r.length + 1 ≤ i := by omega
      simp [List.getD_eq_getElem?_getD, c, c2]
      rw [List.getElem?_eq_none (by simp; omega)]
      rfl
set_option maxHeartbeats 4000000 in
theorem c_walk {T : tT} {lk S : Nat → Nat} (hT : tW T) (hk : ∀ i, lk i ≤ 1) (hS9 : ∀ i, S i ≤ 10) : ∀ (m d : Nat) (r : List Nat) (σ : tS) (h : List tR) (μ : sM) (f : sM → Prop), tSw T σ → r.length + m ≤ 6 → (∀ g ∈ r, g < 4) → h.length + tCap m < 1000000 → (∀ e ∈ h, e.1.length ≤ 6) → wC μ T lk S r σ h → (∀ μ', sFr wS μ μ' → wC μ' T lk S r σ (h ++ tDfs T lk S m r σ) → f μ') → sCl sLL mX5_walk (d + m + 3) [sR 43, sI (nI r.length), sI (nI (hWho r)), sI (nI (r.length + m))] μ (kV f) := by
  intro m
  induction m with
  | zero =>
    intro d r σ h μ f hw hr6 hrg hcap he6 hW hf
    obtain ⟨hC, hK, hSi, hFu, hRo, hA⟩ := id hW
    have hcap : h.length + 1 < 1000000 := hcap
    have nolt : ¬ nI r.length < nI (r.length + 0) := nI_nlt (by omega) (by omega)
    refine eX5_walk (c_stilla hT hC hK hw.1 hSi hS9 (fun hb => ⟨fun _ => ⟨fun _ => ?_, fun w => absurd rfl w⟩, fun w => absurd w (by decide)⟩) (fun h0 => ⟨fun w => absurd rfl w, fun _ => ?_⟩) (fun hle hne c hc0 hc1 => ⟨fun _ => ⟨fun w => ?_, fun _ => ⟨fun w => absurd w nolt, fun _ => ?_⟩⟩, fun w => ?_⟩))
    · refine hf μ sFr.rf ?_
      rw [tDfs_bad hb, List.append_nil]
      exact hW
    · refine c_note (h := h) (n := T.1) (σ := σ) hT.1.2 hC.1 (by omega) hrg hRo hw.1 hK.2.1 hw.2.2 hFu (by omega) (fun e he => he6 e (hBest_mem he)) hA (fun μ' hf2 hA2 => ⟨fun w => absurd w (by decide), fun _ => ⟨fun w => absurd w nolt, fun _ => ?_⟩⟩)
      refine hf μ' (hf2.mono (by decide)) ⟨tC_S hC hf2 (by decide), kC_fr (hf2.2 35 (aS_no (by omega))) (hf2.2 36 (aS_no (by omega))) hK, fun t ht => by rw [hf2.2 44 (aS_no (by omega))]; exact hSi t ht, fun t ht => by rw [hf2.2 46 (aS_no (by omega))]; exact hFu t ht, fun i hi => by rw [hf2.2 45 (aS_no (by omega))]; exact hRo i hi, ?_⟩
      have : tDfs T lk S 0 r σ = [(r, σ)] := by
        have hs : tSeen T.1 σ.1 S = true := by simp only [tSeen, decide_eq_true_eq]; exact h0
        show tHd T S r σ = _
        simp [tHd, hs]
      rw [this]
      exact hA2
    · exfalso
      have := (nO_m6 (o := some c) (by intro u hu; cases hu; omega)).mp w
      cases this
    · refine hf μ sFr.rf ?_
      have : tDfs T lk S 0 r σ = [] := by
        have hs : tSeen T.1 σ.1 S = false := by simp only [tSeen, decide_eq_false_iff_not]; exact hne
        show tHd T S r σ = _
        simp [tHd, hs]
      rw [this, List.append_nil]
      exact hW
    · exact absurd ((nI_is0 (by omega)).mp w) (by omega)
  | succ m ih =>
    intro d r σ h μ f hw hr6 hrg hcap he6 hW hf
    have h7 := hT.1.2
    obtain ⟨hC, hK, hSi, hFu, hRo, hA⟩ := id hW
    have hcap : h.length + (1 + 4 * tCap m) < 1000000 := hcap
    have lt : nI r.length < nI (r.length + (m + 1)) := nI_lt (by omega) (by omega)
    have hhd := tHd_len (T := T) (S := S) (r := r) (σ := σ)
    have hsub : ∀ g, (tSub T lk S m r σ g).length ≤ tCap m := fun g => by
      unfold tSub
      cases tStep T lk σ g with
      | none => simp
      | some σ' => exact tDfs_len m _ _
    -- the guests one behind another
    have loop : ∀ (x4 : Int32) (μ1 : sM), sFr wS μ μ1 → wC μ1 T lk S r σ (h ++ tHd T S r σ) → sG sLL mX5_walk (d + m + 3 + 1) (kV f) 40 [some (sR 43), some (sI (nI r.length)), some (sI (nI (hWho r))), some (sI (nI (r.length + (m + 1)))), some (sI x4), some (sI 0), none, none, none, none] [] μ1 := by
      intro x4 μ1 hf1 hW1
      refine s_down (P := fun g => ∀ μ2, sFr wS μ μ2 → wC μ2 T lk S r σ (h ++ tHd T S r σ ++ (List.range g).flatMap (tSub T lk S m r σ)) → sG sLL mX5_walk (d + m + 3 + 1) (kV f) 40 [some (sR 43), some (sI (nI r.length)), some (sI (nI (hWho r))), some (sI (nI (r.length + (m + 1)))), some (sI x4), some (sI (nI g)), none, none, none, none] [] μ2) 4 ?_ ?_ 0 (by omega) μ1 hf1 (by simpa using hW1)
      · intro μ2 hf2 hW2
        refine sX5_walk_40 ⟨fun _ => hf μ2 hf2 ?_, fun q => absurd (by decide) q⟩
        rw [tDfs_s, ← List.append_assoc]
        exact hW2
      · intro g hg ihg μ2 hf2 hW2
        obtain ⟨hC2, hK2, hSi2, hFu2, hRo2, hA2⟩ := id hW2
        have hflen : (h ++ tHd T S r σ ++ (List.range g).flatMap (tSub T lk S m r σ)).length ≤ h.length + 1 + g * tCap m := by
          have key : ∀ n, ((List.range n).flatMap (tSub T lk S m r σ)).length ≤ n * tCap m := by
            intro n
            induction n with
            | zero => simp
            | succ n ihn =>
              rw [List.range_succ, List.flatMap_append, List.length_append]
              have := hsub n
              simp only [List.flatMap_cons, List.flatMap_nil, List.append_nil]
              rw [Nat.succ_mul]
              omega
          have := key g
          simp only [List.length_append]
          omega
        have hsucc : ∀ μ3, sFr wS μ μ3 → wC μ3 T lk S r σ (h ++ tHd T S r σ ++ (List.range g).flatMap (tSub T lk S m r σ) ++ tSub T lk S m r σ g) → sG sLL mX5_walk (d + m + 3 + 1) (kV f) 40 [some (sR 43), some (sI (nI r.length)), some (sI (nI (hWho r))), some (sI (nI (r.length + (m + 1)))), some (sI x4), some (sI (nI g + 1)), none, none, none, none] [] μ3 := by
          intro μ3 hf3 hW3
          rw [nI_1]
          refine ihg μ3 hf3 ?_
          rw [List.range_succ, List.flatMap_append, List.flatMap_cons, List.flatMap_nil, List.append_nil, ← List.append_assoc]
          exact hW3
        have hnone : tStep T lk σ g = none → sG sLL mX5_walk (d + m + 3 + 1) (kV f) 40 [some (sR 43), some (sI (nI r.length)), some (sI (nI (hWho r))), some (sI (nI (r.length + (m + 1)))), some (sI x4), some (sI (nI g + 1)), none, none, none, none] [] μ2 := fun e => by
          refine hsucc μ2 hf2 ?_
          have : tSub T lk S m r σ g = [] := by simp [tSub, e]
          rw [this, List.append_nil]
          exact hW2
        refine sX5_walk_40 ⟨fun q => ?_, fun _ => ?_⟩
        · have q := (nI_leN (a := 4) (by omega) (by omega)).mp q
          omega
        · refine c_hasGuest hT hC2 (fun g' hg' e hth => ⟨fun w => absurd w (by decide), fun _ => ?_⟩) (fun w => ⟨fun _ => hnone ?_, fun w2 => absurd rfl w2⟩)
          · have e := (nI_inj (by omega) (by omega)).mp e
            subst e
            refine c_choice hT hC2 hK2 hk hw.1 (fun u hu => by have := hw.2.1 u hu; omega) hg ?_
            cases hp : tPick T lk σ.1 σ.2.1 g with
            | none =>
              refine ⟨fun w => absurd rfl w, fun _ => hnone ?_⟩
              simp [tStep, hth, hp]
            | some t =>
              have ht := (tPick_lt hp).1
              have hbl := tBite_le (T := T) (L := σ.1) (g := g) (t := t)
              refine ⟨fun _ => ?_, fun w => ?_⟩
              · refine c_use hT hC2 hK2 hw.1 hg (by omega) (fun μ3 hf3 hK3 => ⟨vp_nI (by omega) (by omega), ?_⟩)
                have e46 : μ3.1 46 = μ2.1 46 := hf3.2 46 (by decide)
                rw [show nO (some t) = nI t from rfl, nI_c (show t < 2147483648 by omega), nI_c (show r.length < 2147483648 by omega), e46, hFu2 t (by omega), hK2.2.2]
                -- what one guest more leaves
                have main : ∀ (F' : Nat → Option Nat) (μ4 : sM), tStep T lk σ g = some (tLess σ.1 t (tBite T σ.1 g t), some t, F') → sFr [45, 46] μ3 μ4 → (∀ i, i < 7 → μ4.1 46 i = nO (F' i)) → μ4.1 45 = upd (μ3.1 45) r.length (nI g) → (∀ (μ5 : sM), sFr wS μ μ5 → wC μ5 T lk S (r ++ [g]) (tLess σ.1 t (tBite T σ.1 g t), some t, F') (h ++ tHd T S r σ ++ (List.range g).flatMap (tSub T lk S m r σ) ++ tSub T lk S m r σ g) → ∀ μ6, sFr [46] μ5 μ6 → (∀ i, i < 7 → μ6.1 46 i = nO (σ.2.2 i)) → sCl sLL mX1_takeBack (d + m + 3) [sR 35, sI (nI t), sI (nI (tBite T σ.1 g t)), sI (nO σ.2.1)] μ6 (kV fun μ5 => sG sLL mX5_walk (d + m + 3 + 1) (kV f) 40 [some (sR 43), some (sI (nI r.length)), some (sI (nI (hWho r))), some (sI (nI (r.length + (m + 1)))), some (sI x4), some (sI (nI g + 1)), none, none, none, none] [] μ5)) ∧ sCl sLL mX5_walk (d + m + 3) [sR 43, sI (nI r.length + 1), sI (nI (hWho r) ||| ((1 : Int32) <<< (nI g &&& 31))), sI (nI (r.length + (m + 1)))] μ4 (kV fun μ5 => sFr wS μ μ5 ∧ wC μ5 T lk S (r ++ [g]) (tLess σ.1 t (tBite T σ.1 g t), some t, F') (h ++ tHd T S r σ ++ (List.range g).flatMap (tSub T lk S m r σ) ++ tSub T lk S m r σ g)) := by
                  intro F' μ4 hst hf4 hF4 h45
                  have hsg : tSub T lk S m r σ g = tDfs T lk S m (r ++ [g]) (tLess σ.1 t (tBite T σ.1 g t), some t, F') := by simp [tSub, hst]
                  have e35 : μ4.1 35 = μ3.1 35 := hf4.2 35 (by decide)
                  have e36 : μ4.1 36 = μ3.1 36 := hf4.2 36 (by decide)
                  have hf24 : sFr wS μ μ4 := (hf2.tr (hf3.mono (by decide))).tr (hf4.mono (by decide))
                  constructor
                  · intro μ5 hf5 hW5 μ6 hf6 hF6
                    obtain ⟨hC5, hK5, hSi5, hFu5, hRo5, hA5⟩ := hW5
                    have hK6 := kC_fr (hf6.2 35 (by decide)) (hf6.2 36 (by decide)) hK5
                    refine c_takeBack (last' := σ.2.1) (b := tBite T σ.1 g t) hK6 (by omega) (fun μ7 hf7 hK7 => ?_)
                    rw [tLess_back hbl] at hK7
                    refine hsucc μ7 ((hf5.tr (hf6.mono (by decide))).tr (hf7.mono (by decide))) ⟨?_, hK7, fun i hi => ?_, fun i hi => ?_, fun i hi => ?_, ?_⟩
                    · exact tC_S (tC_S hC5 hf6 (by decide)) hf7 (by decide)
                    · rw [hf7.2 44 (by decide), hf6.2 44 (by decide)]
                      exact hSi5 i hi
                    · rw [hf7.2 46 (by decide)]
                      exact hF6 i hi
                    · rw [hf7.2 45 (by decide), hf6.2 45 (by decide), hRo5 i (by simp; omega), getD_app, if_pos hi]
                    · exact aC_S hf7 (by decide) h7 (aC_S hf6 (by decide) h7 hA5)
                  · have e1 : nI r.length + 1 = nI (r ++ [g]).length := by rw [nI_1]; simp
                    have e2 : nI (hWho r) ||| ((1 : Int32) <<< (nI g &&& 31)) = nI (hWho (r ++ [g])) := by rw [s_shl1 g (by omega), fa_or, hWho_app]
                    have e3 : r.length + (m + 1) = (r ++ [g]).length + m := by simp; omega
                    rw [e1, e2, e3]
                    refine ih d (r ++ [g]) (tLess σ.1 t (tBite T σ.1 g t), some t, F') (h ++ tHd T S r σ ++ (List.range g).flatMap (tSub T lk S m r σ)) μ4 _ (tStep_w hg hw hst) (by simp; omega) (fun q hq => ?_) ?_ (fun e he => ?_) ⟨tC_S (tC_S hC2 hf3 (by decide)) hf4 (by decide), kC_fr e35 e36 hK3, fun i hi => ?_, hF4, fun i hi => ?_, ?_⟩ (fun μ5 hf5 hW5 => ⟨hf24.tr hf5, ?_⟩)
                    · rcases List.mem_append.mp hq with hq | hq
                      · exact hrg q hq
                      · simp at hq; omega
                    · have : g * tCap m ≤ 3 * tCap m := Nat.mul_le_mul_right _ (by omega)
                      omega
                    · rcases List.mem_append.mp he with he | he
                      · rcases List.mem_append.mp he with he | he
                        · exact he6 e he
                        · unfold tHd at he
                          split at he
                          · simp at he
                            subst he
                            simp
                            omega
                          · simp at he
                      · obtain ⟨g2, hg2, he⟩ := List.mem_flatMap.mp he
                        unfold tSub at he
                        cases hst2 : tStep T lk σ g2 with
                        | none => rw [hst2] at he; simp at he
                        | some σ' =>
                          rw [hst2] at he
                          have := tDfs_ge he
                          simp at this
                          omega
                    · rw [hf4.2 44 (by decide), hf3.2 44 (by decide)]
                      exact hSi2 i hi
                    · rw [h45, getD_app]
                      simp only [List.length_append, List.length_cons, List.length_nil] at hi
                      by_cases c : i = r.length
                      · subst c
                        simp [upd]
                      · rw [if_pos (by omega)]
                        simp only [upd, if_neg c]
                        rw [hf3.2 45 (by decide)]
                        exact hRo2 i (by omega)
                    · exact aC_S hf4 (by decide) h7 (aC_S hf3 (by decide) h7 hA2)
                    · rw [hsg]
                      exact hW5
                cases hft : σ.2.2 t with
                | none =>
                  refine ⟨fun w => absurd rfl w, fun _ => ⟨vp_nI (by omega) (by omega), ?_⟩⟩
                  have hst : tStep T lk σ g = some (tLess σ.1 t (tBite T σ.1 g t), some t, va_up σ.2.2 t (some g)) := by simp [tStep, hth, hp, hft]
                  obtain ⟨m1, m2⟩ := main (va_up σ.2.2 t (some g)) (s_u (s_u μ3 46 t (nI g)) 45 r.length (nI g)) hst ((sFr.u (by decide)).tr (sFr.u (by decide))) (fun i hi => by
                    rw [s_u_ne (by omega)]
                    by_cases c : i = t
                    · subst c
                      rw [s_u_at]
                      simp [va_up, nO]
                    · rw [s_u_off c, e46, hFu2 i hi]
                      simp [va_up, c]) (by rw [s_u_eq, s_u_ne (by omega)])
                  refine sG.mono m2 (kV_mono fun μ5 hh => ?_)
                  refine m1 μ5 hh.1 hh.2 _ (sFr.u (by decide)) (fun i hi => ?_)
                  by_cases c : i = t
                  · subst c
                    rw [s_u_at, hft]
                    rfl
                  · rw [s_u_off c, hh.2.2.2.2.1 i hi]
                    simp [va_up, c]
                | some g0 =>
                  have hg0 := hw.2.2 t g0 hft
                  refine ⟨fun _ => ⟨vp_nI (by omega) (by omega), ?_⟩, fun w => ?_⟩
                  · have hst : tStep T lk σ g = some (tLess σ.1 t (tBite T σ.1 g t), some t, σ.2.2) := by simp [tStep, hth, hp, hft]
                    obtain ⟨m1, m2⟩ := main σ.2.2 (s_u μ3 45 r.length (nI g)) hst (sFr.u (by decide)) (fun i hi => by rw [s_u_ne (by omega), e46]; exact hFu2 i hi) s_u_eq
                    refine sG.mono m2 (kV_mono fun μ5 hh => ?_)
                    exact m1 μ5 hh.1 hh.2 μ5 sFr.rf hh.2.2.2.2.1
                  · have := (nO_m6 (o := some g0) (by intro u hu; cases hu; omega)).mp w
                    cases this
              · have := (nO_m6 (o := some t) (by intro u hu; cases hu; omega)).mp w
                cases this
          · have := w g hg rfl
            simp [tStep, this]
    rw [show d + (m + 1) + 3 = d + m + 3 + 1 by omega]
    refine eX5_walk (c_stilla hT hC hK hw.1 hSi hS9 (fun hb => ⟨fun _ => ⟨fun _ => ?_, fun w => absurd rfl w⟩, fun w => absurd w (by decide)⟩) (fun h0 => ⟨fun w => absurd rfl w, fun _ => ?_⟩) (fun hle hne c hc0 hc1 => ⟨fun _ => ⟨fun w => ?_, fun _ => ⟨fun _ => ?_, fun w => absurd lt w⟩⟩, fun w => ?_⟩))
    · refine hf μ sFr.rf ?_
      rw [tDfs_bad hb, List.append_nil]
      exact hW
    · refine c_note (h := h) (n := T.1) (σ := σ) hT.1.2 hC.1 (by omega) hrg hRo hw.1 hK.2.1 hw.2.2 hFu (by omega) (fun e he => he6 e (hBest_mem he)) hA (fun μ' hf2 hA2 => ⟨fun w => absurd w (by decide), fun _ => ⟨fun _ => ?_, fun w => absurd lt w⟩⟩)
      refine loop _ μ' (hf2.mono (by decide)) ⟨tC_S hC hf2 (by decide), kC_fr (hf2.2 35 (aS_no (by omega))) (hf2.2 36 (aS_no (by omega))) hK, fun t ht => by rw [hf2.2 44 (aS_no (by omega))]; exact hSi t ht, fun t ht => by rw [hf2.2 46 (aS_no (by omega))]; exact hFu t ht, fun i hi => by rw [hf2.2 45 (aS_no (by omega))]; exact hRo i hi, ?_⟩
      have : tHd T S r σ = [(r, σ)] := by
        have hs : tSeen T.1 σ.1 S = true := by simp only [tSeen, decide_eq_true_eq]; exact h0
        simp [tHd, hs]
      rw [this]
      exact hA2
    · exfalso
      have := (nO_m6 (o := some c) (by intro u hu; cases hu; omega)).mp w
      cases this
    · refine loop _ μ sFr.rf ?_
      have : tHd T S r σ = [] := by
        have hs : tSeen T.1 σ.1 S = false := by simp only [tSeen, decide_eq_false_iff_not]; exact hne
        simp [tHd, hs]
      rw [this, List.append_nil]
      exact hW
    · exact absurd ((nI_is0 (by omega)).mp w) (by omega)
