-- AN EVENING in the reference
def vM (μ : sM) (T : tT) (E : vE) (p : Nat) : Prop := kM μ (T.2 2) (E 0) (oN (E 5 0)) ∧ (∀ t, t < 7 → μ.1 64 t = nI (E 1 t) ∧ μ.1 74 t = nS (E 2 t) ∧ μ.1 75 t = nS (E 3 t)) ∧ (∀ i, i < p → μ.1 73 i = nS (E 4 i)) ∧ μ.1 62 15 = nS (E 5 3) ∧ μ.1 62 16 = nS (E 5 4) ∧ μ.1 62 17 = nI (E 5 1) ∧ μ.1 62 12 = nI (E 5 2)
abbrev erS : List Nat := [62, 63, 64, 73, 74, 75]
def eF (μ μ' : sM) : Prop := sFr erS μ μ' ∧ (∀ k, k ≠ 11 → k ≠ 12 → k ≠ 15 → k ≠ 16 → k ≠ 17 → μ'.1 62 k = μ.1 62 k) ∧ ∀ j, j < 21 → μ'.1 63 j = μ.1 63 j
theorem eF.rf {μ : sM} : eF μ μ := ⟨sFr.rf, fun _ _ _ _ _ _ => rfl, fun _ _ => rfl⟩
theorem eF.tr {μ μ' μ'' : sM} (h : eF μ μ') (h2 : eF μ' μ'') : eF μ μ'' := ⟨h.1.tr h2.1, fun k a b c d e => (h2.2.1 k a b c d e).trans (h.2.1 k a b c d e), fun j hj => (h2.2.2 j hj).trans (h.2.2 j hj)⟩
theorem eF.of {S : List Nat} {μ μ' : sM} (h : sFr S μ μ') (hs : ∀ x ∈ S, x = 64 ∨ x = 73 ∨ x = 74 ∨ x = 75) : eF μ μ' := ⟨h.mono (fun x hx => by have := hs x hx; simp; omega), fun k _ _ _ _ _ => by rw [h.2 62 (fun w => by have := hs _ w; omega)], fun j _ => by rw [h.2 63 (fun w => by have := hs _ w; omega)]⟩
theorem eF.u {μ : sM} {k : Nat} {v : Int32} (hk : k = 11 ∨ k = 12 ∨ k = 15 ∨ k = 16 ∨ k = 17) : eF μ (s_u μ 62 k v) := ⟨sFr.u (by decide), fun j _ _ _ _ _ => s_u_off (by omega), fun j _ => by rw [s_u_ne (by omega)]⟩
theorem eF.u3 {μ : sM} {k : Nat} {v : Int32} (hk : 21 ≤ k) : eF μ (s_u μ 63 k v) := ⟨sFr.u (by decide), fun j _ _ _ _ _ => by rw [s_u_ne (by omega)], fun j _ => s_u_off (by omega)⟩
theorem eF.m {μ μ' : sM} (h : mFr μ μ') : eF μ μ' := ⟨h.1.mono (by decide), fun k a b _ _ _ => h.2.1 k a b, h.2.2⟩
theorem tE_e {μ μ' : sM} {T : tT} (h : eF μ μ') (hE : tE μ T) : tE μ' T := tE_fr (h.2.1 0 (by omega) (by omega) (by omega) (by omega) (by omega)) (h.2.1 4 (by omega) (by omega) (by omega) (by omega) (by omega)) (fun j hj => h.2.2 j (by omega)) (fun j hj => h.1.2 (66 + j) (by simp; omega)) hE
theorem kM_fr {μ μ' : sM} {lk L : Nat → Nat} {last : Option Nat} (h63 : μ'.1 63 = μ.1 63) (h11 : μ'.1 62 11 = μ.1 62 11) (h : kM μ lk L last) : kM μ' lk L last := by
  unfold kM
  rw [h63, h11]
  exact h
theorem vM_bad {μ : sM} {T : tT} {E : vE} {p r : Nat} (hV : vM μ T E p) (h42 : μ.1 73 p = -6) : vM (s_u (s_u μ 62 15 (nI p)) 62 16 (nI r)) T (vBad p r E) (p + 1) := by
  obtain ⟨h1, h2, h3, h4, h5, h6, h7⟩ := hV
  refine ⟨kM_fr (by rw [s_u_ne (by omega), s_u_ne (by omega)]) (by rw [s_u_off (by omega), s_u_off (by omega)]) h1, fun t ht => ?_, fun i hi => ?_, ?_, ?_, ?_, ?_⟩
  · rw [s_u_ne (by omega), s_u_ne (by omega), s_u_ne (by omega), s_u_ne (by omega), s_u_ne (by omega), s_u_ne (by omega)]
    exact h2 t ht
  · rw [s_u_ne (by omega), s_u_ne (by omega)]
    show _ = nS (if i = p then 0 else E 4 i)
    split
    next c => rw [c]; exact h42
    next c => exact h3 i (by omega)
  · rw [s_u_off (by omega), s_u_at]; rfl
  · rw [s_u_at]; rfl
  · rw [s_u_off (by omega), s_u_off (by omega)]; exact h6
  · rw [s_u_off (by omega), s_u_off (by omega)]; exact h7
theorem c_comeIn {d : Nat} {μ : sM} {T : tT} {E : vE} {p g : Nat} {f : sM → Prop} (hT : tW T) (hE : tE μ T) (hw : vW T E) (hV : vM μ T E p) (h42 : μ.1 73 p = -6) (hp : p < 40) (hg : g < 4) (h : ∀ μ', eF μ μ' → vM μ' T (vCome T g p E) (p + 1) → f μ') : sCl sLL mX9_comeIn (d + 3) [sR 62, sI (nI p), sI (nI g)] μ (kV f) := by
  have h7 := hT.1.2
  have bF : ∀ r, eF μ (s_u (s_u μ 62 15 (nI p)) 62 16 (nI r)) := fun r => (eF.u (by omega)).tr (eF.u (by omega))
  have hE15 : tE (s_u μ 62 15 (nI p)) T := tE_e (eF.u (by omega)) hE
  unfold vCome at h
  refine eX9_comeIn (c_isThere hT hE (fun g' hg' e hth => ⟨fun w => absurd w (by decide), fun _ => ?_⟩) (fun hno => ⟨fun _ => ?_, fun w => absurd rfl w⟩))
  · have e := (nI_inj (by omega) (by omega)).mp e
    subst e
    rw [if_pos hth] at h
    refine c_taken hT hE hV.1 (tW_lk hT) hw.1 (oN_lt hw.2.1) hg ?_
    cases hq : tPick T (T.2 2) (E 0) (oN (E 5 0)) g with
    | none =>
      rw [hq] at h
      refine ⟨fun w => absurd w (by decide), fun _ => c_isThere hT hE15 (fun _ _ _ _ => ⟨fun w => absurd w (by decide), fun _ => h _ (bF 2) (vM_bad hV h42)⟩) (fun hno => ?_)⟩
      have := hno g hg rfl
      omega
    | some t =>
      rw [hq] at h
      have ht := (tPick_lt hq).1
      refine ⟨fun _ => ?_, fun w => ?_⟩
      · show vp_in (nI p) 40 ∧ vp_in (nI t) 7 ∧ _
        refine ⟨vp_nI hp (by omega), vp_nI (by omega) (by omega), ?_⟩
        obtain ⟨h1, h2, h3, h4, h5, h6, h7e⟩ := hV
        have b2 := hw.2.2.2.2.1 t
        have ix := nS_ge (v := E 2 t) (by omega)
        rw [show nO (some t) = nI t from rfl, nI_c (by omega), nI_c (by omega), (h2 t (by omega)).2.1]
        have go : ∀ x : Int32, x = nS (if E 2 t = 0 then g + 1 else E 2 t) → sCl sLL mX9_use (d + 2) [sR 62, sI (nI g), sI (nI t)] (s_u (s_u (s_u (s_u μ 73 p (nI t)) 74 t x) 75 t (nI g)) 62 17 (μ.1 62 17 + 1)) (kV f) := by
          intro x hx
          have F4 : eF μ (s_u (s_u (s_u (s_u μ 73 p (nI t)) 74 t x) 75 t (nI g)) 62 17 (μ.1 62 17 + 1)) := (((eF.of (S := [73]) (sFr.u (by decide)) (by decide)).tr (eF.of (S := [74]) (sFr.u (by decide)) (by decide))).tr (eF.of (S := [75]) (sFr.u (by decide)) (by decide))).tr (eF.u (by omega))
          have k4 := kM_fr (μ' := (s_u (s_u (s_u (s_u μ 73 p (nI t)) 74 t x) 75 t (nI g)) 62 17 (μ.1 62 17 + 1))) (by rw [s_u_ne (by omega), s_u_ne (by omega), s_u_ne (by omega), s_u_ne (by omega)]) (by rw [s_u_off (by omega), s_u_ne (by omega), s_u_ne (by omega), s_u_ne (by omega)]) h1
          refine c_useM hT (tE_e F4 hE) k4 hw.1 hg (by omega) (fun μ5 m5 k5 e12 e64 => h μ5 (F4.tr (eF.m m5)) ⟨k5, fun i hi => ⟨?_, ?_, ?_⟩, fun i hi => ?_, ?_, ?_, ?_, ?_⟩)
          · rw [e64 i, s_u_ne (by omega), s_u_ne (by omega), s_u_ne (by omega), s_u_ne (by omega)]
            show _ = nI (if i = t then 9 else E 1 i)
            split
            · rfl
            · exact (h2 i hi).1
          · rw [m5.1.2 74 (by decide), s_u_ne (by omega), s_u_ne (by omega)]
            show _ = nS (if i = t ∧ E 2 t = 0 then g + 1 else E 2 i)
            by_cases c : i = t
            · subst c
              rw [s_u_at, hx]
              simp
            · rw [s_u_off c, s_u_ne (by omega), if_neg (by omega)]
              exact (h2 i hi).2.1
          · rw [m5.1.2 75 (by decide), s_u_ne (by omega)]
            show _ = nS (if i = t then g + 1 else E 3 i)
            split
            next c => rw [c, s_u_at]; rfl
            next c => rw [s_u_off c, s_u_ne (by omega), s_u_ne (by omega)]; exact (h2 i hi).2.2
          · rw [m5.1.2 73 (by decide), s_u_ne (by omega), s_u_ne (by omega), s_u_ne (by omega)]
            show _ = nS (if i = p then t + 1 else E 4 i)
            split
            next c => rw [c, s_u_at]; rfl
            next c => rw [s_u_off c]; exact h3 i (by omega)
          · rw [m5.2.1 15 (by omega) (by omega), s_u_off (by omega), s_u_ne (by omega), s_u_ne (by omega), s_u_ne (by omega)]; exact h4
          · rw [m5.2.1 16 (by omega) (by omega), s_u_off (by omega), s_u_ne (by omega), s_u_ne (by omega), s_u_ne (by omega)]; exact h5
          · rw [m5.2.1 17 (by omega) (by omega), s_u_at, h6, nI_1]; rfl
          · rw [e12, s_u_off (by omega), s_u_ne (by omega), s_u_ne (by omega), s_u_ne (by omega), h7e, nI_add]; rfl
        refine ⟨fun q => go _ ?_, fun q => go _ ?_⟩
        · rw [if_neg (ix.mp q)]
        · have q : E 2 t = 0 := by
            by_cases c : E 2 t = 0
            · exact c
            · exact absurd (ix.mpr c) q
          rw [if_pos q]; rfl
      · exact absurd ((nS_ge (v := t + 1) (by omega)).mpr (by omega)) w
  · have hn := hno g hg rfl
    rw [if_neg (by omega)] at h
    refine c_isThere hT hE15 (fun g' hg' e hth => ?_) (fun _ => ⟨fun _ => h _ (bF 1) (vM_bad hV h42), fun w => absurd rfl w⟩)
    have := hno g' hg' e
    omega
theorem c_passHour {d : Nat} {μ : sM} {T : tT} {E : vE} {p : Nat} {f : sM → Prop} (hT : tW T) (h0 : μ.1 62 0 = nI T.1) (hw : vW T E) (hV : vM μ T E p) (h42 : μ.1 73 p = -6) (h : ∀ μ', eF μ μ' → vM μ' T (vCool p E) (p + 1) → f μ') : sCl sLL mX9_passHour d [sR 62] μ (kV f) := by
  have h7n := hT.1.2
  obtain ⟨h1, h2, h3, h4, h5, h6, h7⟩ := hV
  refine eX9_passHour ?_
  refine s_down (P := fun t => ∀ μ1, sFr [64] μ μ1 → (∀ i, i < t → μ1.1 64 i = nI (E 1 i - 1)) → (∀ i, t ≤ i → μ1.1 64 i = μ.1 64 i) → sG sLL mX9_passHour d (kV f) 2 [some (sR 62), some (sI (nI t))] [] μ1) T.1 ?_ ?_ 0 (by omega) μ sFr.rf (fun i hi => by omega) (fun i _ => rfl)
  · intro μ1 hf a b
    refine sX9_passHour_2 ⟨fun _ => h μ1 (eF.of hf (by decide)) ⟨kM_fr (hf.2 63 (by decide)) (by rw [hf.2 62 (by decide)]) h1, fun t ht => ?_, fun i hi => ?_, ?_, ?_, ?_, ?_⟩, fun q => ?_⟩
    · rw [hf.2 74 (by decide), hf.2 75 (by decide)]
      refine ⟨?_, (h2 t ht).2⟩
      by_cases c : t < T.1
      · exact a t c
      · rw [b t (by omega), (h2 t ht).1]
        show nI (E 1 t) = nI (E 1 t - 1)
        rw [hw.2.2.2.1 t (by omega)]
    · rw [hf.2 73 (by decide)]
      show _ = nS (if i = p then 0 else E 4 i)
      split
      next c => rw [c]; exact h42
      next c => exact h3 i (by omega)
    · rw [hf.2 62 (by decide)]; exact h4
    · rw [hf.2 62 (by decide)]; exact h5
    · rw [hf.2 62 (by decide)]; exact h6
    · rw [hf.2 62 (by decide)]; exact h7
    · rw [hf.2 62 (by decide), h0] at q
      exact absurd ((nI_leN (by omega) (by omega)).mpr (Nat.le_refl _)) q
  · intro t ht ih μ1 hf a b
    have b1 := hw.2.2.1 t
    refine sX9_passHour_2 ⟨fun q => ?_, fun _ => ⟨vp_nI (by omega) (by omega), ?_⟩⟩
    · rw [hf.2 62 (by decide), h0] at q
      have q := (nI_leN (by omega) (by omega)).mp q
      omega
    · rw [nI_c (by omega), nI_1, b t (Nat.le_refl _), (h2 t (by omega)).1]
      have go : ∀ x : Int32, x = nI (E 1 t - 1) → sG sLL mX9_passHour d (kV f) 2 [some (sR 62), some (sI (nI (t + 1)))] [] (s_u μ1 64 t x) := by
        intro x hx
        subst hx
        refine ih _ (hf.tr (sFr.u (by decide))) (fun i hi => ?_) (fun i hi => ?_)
        · by_cases c : i = t
          · rw [c, s_u_at]
          · rw [s_u_off c]; exact a i (by omega)
        · rw [s_u_off (by omega)]; exact b i (by omega)
      have i0 := nI_leN (a := E 1 t) (b := 0) (by omega) (by omega)
      refine ⟨fun q => go _ ?_, fun q => go _ ?_⟩
      · have := i0.mp q
        rw [show E 1 t = 0 by omega]
        decide
      · have q : ¬ E 1 t ≤ 0 := fun w => q (i0.mpr w)
        exact pk_sub (b := 1) (by omega)
theorem c_goEvening {d : Nat} {μ : sM} {T : tT} {c : Nat} {sg : Nat → Nat} {f : sM → Prop} (hT : tW T) (hM : tM μ T) (hc : c ≤ 40) (h33 : μ.1 62 10 = nI c) (h34 : ∀ i, i < c → μ.1 70 i = nI (sg i)) (hs : ∀ i, i < c → sg i < 1000) (hok : ∀ i, i < c → vOk T.1 (sg i) = true) (h : ∀ μ', eF μ μ' → vM μ' T (vEnd T c sg) 0 → ((vEnd T c sg) 5 3 = 0 → ∀ i, i < c → μ'.1 73 i = nS (vEnd T c sg 4 i)) → f μ') : sCl sLL mX9_goEvening (d + 4) [sR 62] μ (kV f) := by
  have h7 := hT.1.2
  refine eX9_goEvening ?_
  have F5 : eF μ (s_u (s_u (s_u (s_u (s_u μ 62 15 (-6)) 62 16 (-6)) 62 17 0) 62 12 0) 62 11 (-6)) := ((((eF.u (by omega)).tr (eF.u (by omega))).tr (eF.u (by omega))).tr (eF.u (by omega))).tr (eF.u (by omega))
  refine s_down (P := fun t => ∀ μ1, eF μ μ1 → μ1.1 63 = μ.1 63 → μ1.1 64 = μ.1 64 → μ1.1 62 15 = -6 → μ1.1 62 16 = -6 → μ1.1 62 17 = 0 → μ1.1 62 12 = 0 → μ1.1 62 11 = -6 → (∀ i, i < t → μ1.1 74 i = -6 ∧ μ1.1 75 i = -6) → sG sLL mX9_goEvening (d + 3 + 1) (kV f) 30 [some (sR 62), some (sI (nI t)), none] [] μ1) 7 ?_ ?_ 0 (by omega) _ F5 (by rw [s_u_ne (by omega), s_u_ne (by omega), s_u_ne (by omega), s_u_ne (by omega), s_u_ne (by omega)]) (by rw [s_u_ne (by omega), s_u_ne (by omega), s_u_ne (by omega), s_u_ne (by omega), s_u_ne (by omega)]) (by rw [s_u_off (by omega), s_u_off (by omega), s_u_off (by omega), s_u_off (by omega), s_u_at]) (by rw [s_u_off (by omega), s_u_off (by omega), s_u_off (by omega), s_u_at]) (by rw [s_u_off (by omega), s_u_off (by omega), s_u_at]) (by rw [s_u_off (by omega), s_u_at]) s_u_at (fun i hi => by omega)
  · intro μ1 hf e63 e64 e15 e16 e17 e12 e11 e7
    refine sX9_goEvening_30 ⟨fun _ => ?_, fun q => absurd (by decide) q⟩
    have v0 : vM μ1 T (vE0 T) 0 := by
      refine ⟨⟨fun t ht => ?_, e11⟩, fun t ht => ⟨?_, (e7 t ht).1, (e7 t ht).2⟩, fun i hi => by omega, e15, e16, e17, e12⟩
      · rw [e63]
        exact ⟨(hM.2 t ht).1, (hM.2 t ht).2.1⟩
      · rw [e64]
        exact (hM.2 t ht).2.2.1
    refine s_down (P := fun p => ∀ μ1 E, eF μ μ1 → vM μ1 T E p → vW T E → (∀ μ', eF μ μ' → vM μ' T (vGo T sg (c - p) p E) 0 → ((vGo T sg (c - p) p E) 5 3 = 0 → ∀ i, i < c → μ'.1 73 i = nS (vGo T sg (c - p) p E 4 i)) → f μ') → sG sLL mX9_goEvening (d + 3 + 1) (kV f) 60 [some (sR 62), some (sI (nI p)), none] [] μ1) c ?_ ?_ 0 (by omega) μ1 (vE0 T) hf v0 (vE0_w hT) h
    · intro μ1 E hf hv hw h
      rw [Nat.sub_self] at h
      refine sX9_goEvening_60 ⟨fun _ => h μ1 hf ⟨hv.1, hv.2.1, fun i hi => by omega, hv.2.2.2⟩ (fun _ i hi => hv.2.2.1 i hi), fun q => ?_⟩
      rw [hf.2.1 10 (by omega) (by omega) (by omega) (by omega) (by omega), h33] at q
      exact absurd ((nI_leN (by omega) (by omega)).mpr (Nat.le_refl _)) q
    · intro p hp ih μ1 E hf hv hw h
      have hsp := hs p hp
      have hop := hok p hp
      rw [show c - p = (c - (p + 1)) + 1 by omega, vGo] at h
      have ib := nS_ge (v := E 5 3) (by have := hw.2.2.2.2.2; omega)
      refine sX9_goEvening_60 ⟨fun q => ?_, fun _ => ⟨fun q => ?_, fun q => ⟨vp_nI (by omega) (by omega), ?_⟩⟩⟩
      · rw [hf.2.1 10 (by omega) (by omega) (by omega) (by omega) (by omega), h33] at q
        have q := (nI_leN (by omega) (by omega)).mp q
        omega
      · rw [hv.2.2.2.1] at q
        have q := ib.mp q
        rw [if_neg q] at h
        exact h μ1 hf ⟨hv.1, hv.2.1, fun i hi => by omega, hv.2.2.2⟩ (fun w => absurd w q)
      · rw [hv.2.2.2.1] at q
        have hb : E 5 3 = 0 := by
          by_cases c : E 5 3 = 0
          · exact c
          · exact absurd (ib.mpr c) q
        rw [if_pos hb] at h
        have hw2 := vStep_w hT hop (show p < 40 by omega) hw
        have e70 : ∀ μ2, eF μ μ2 → μ2.1 70 p = nI (sg p) := fun μ2 g => by rw [g.1.2 70 (by decide)]; exact h34 p hp
        rw [nI_c (by omega), e70 μ1 hf, nI_1]
        have i0 := nI_inj (a := sg p) (b := 46) (by omega) (by omega)
        have hv2 : vM (s_u μ1 73 p (-6)) T E p := by
          obtain ⟨h1, h2, h3, h4⟩ := hv
          refine ⟨kM_fr (s_u_ne (by omega)) (by rw [s_u_ne (by omega)]) h1, fun t ht => ?_, fun i hi => ?_, ?_⟩
          · rw [s_u_ne (by omega), s_u_ne (by omega), s_u_ne (by omega)]; exact h2 t ht
          · rw [s_u_off (by omega)]; exact h3 i hi
          · rw [s_u_ne (by omega)]; exact h4
        have hf2 : eF μ (s_u μ1 73 p (-6)) := hf.tr (eF.of (S := [73]) (sFr.u (by decide)) (by decide))
        have hE2 : tE (s_u μ1 73 p (-6)) T := tE_e hf2 hM.1
        have fin : ∀ μ2, eF (s_u μ1 73 p (-6)) μ2 → vM μ2 T (vStep T (sg p) p E) (p + 1) → sG sLL mX9_goEvening (d + 3 + 1) (kV f) 60 [some (sR 62), some (sI (nI (p + 1))), none] [] μ2 := fun μ2 g1 g2 => ih μ2 _ (hf2.tr g1) g2 hw2 h
        simp only [vOk, decide_eq_true_eq] at hop
        unfold vStep at fin
        refine ⟨fun q => ?_, fun q => ?_⟩
        · have q : ¬ sg p = 46 := fun w => q (i0.mpr w)
          refine c_inN 48 54 (by decide) (by decide) (fun ok => ⟨fun w => absurd w (by decide), fun _ => ?_⟩) (fun no => ⟨fun _ => ?_, fun w => absurd rfl w⟩)
          · simp only [oIn, decide_eq_true_eq] at ok
            rw [nI_i (by omega)] at ok
            rw [if_neg q, if_neg (by omega)] at fin
            have e : nI (sg p) - 48 = nI (sg p - 48) := pk_sub (b := 48) (by omega)
            rw [e70 _ hf2, e]
            refine c_at 3 (sg p - 48) (c_at 1 (sg p - 48) ⟨vp_nI (by omega) (by omega), vp_nI (by omega) (by omega), ?_⟩)
            rw [nI_c (by omega), nI_c (by omega), show 7 * 3 + (sg p - 48) = 21 + (sg p - 48) by omega, show 7 * 1 + (sg p - 48) = 7 + (sg p - 48) by omega, (hE2.2.2.1 (sg p - 48) (by omega)).2]
            obtain ⟨h1, h2, h3, h4, h5, h6, h7⟩ := hv2
            refine fin _ (eF.u3 (by omega)) ⟨⟨fun i hi => ⟨?_, ?_⟩, by rw [s_u_ne (by omega)]; exact h1.2⟩, fun i hi => ?_, fun i hi => ?_, ?_, ?_, ?_, ?_⟩
            · rw [s_u_off (by omega)]; exact (h1.1 i hi).1
            · show _ = nI (if i = sg p - 48 then T.2 1 (sg p - 48) else E 0 i)
              split
              next c => rw [c, s_u_at]
              next c => rw [s_u_off (by omega)]; exact (h1.1 i hi).2
            · rw [s_u_ne (by omega), s_u_ne (by omega), s_u_ne (by omega)]; exact h2 i hi
            · rw [s_u_ne (by omega)]
              show _ = nS (if i = p then 0 else E 4 i)
              split
              next c => rw [c]; exact s_u_at
              next c => exact h3 i (by omega)
            · rw [s_u_ne (by omega)]; exact h4
            · rw [s_u_ne (by omega)]; exact h5
            · rw [s_u_ne (by omega)]; exact h6
            · rw [s_u_ne (by omega)]; exact h7
          · simp only [oIn, decide_eq_false_iff_not] at no
            rw [nI_i (by omega)] at no
            rw [if_neg q, if_pos (by omega)] at fin
            have e : nI (sg p) - 65 = nI (sg p - 65) := pk_sub (b := 65) (by omega)
            rw [e70 _ hf2, e]
            exact c_comeIn hT hE2 hw hv2 s_u_at (by omega) (by omega) fin
        · rw [if_pos (i0.mp q)] at fin
          exact c_passHour hT hE2.1 hw hv2 s_u_at fin
  · intro t ht ih μ1 hf e63 e64 e15 e16 e17 e12 e11 e7
    refine sX9_goEvening_30 ⟨fun q => ?_, fun _ => ⟨vp_nI ht (by omega), ?_⟩⟩
    · have q := (nI_leN (a := 7) (by omega) (by omega)).mp q
      omega
    · rw [nI_c (by omega), nI_1]
      refine ih _ ((hf.tr (eF.of (S := [74]) (sFr.u (by decide)) (by decide))).tr (eF.of (S := [75]) (sFr.u (by decide)) (by decide))) (by rw [s_u_ne (by omega), s_u_ne (by omega)]; exact e63) (by rw [s_u_ne (by omega), s_u_ne (by omega)]; exact e64) (by rw [s_u_ne (by omega), s_u_ne (by omega)]; exact e15) (by rw [s_u_ne (by omega), s_u_ne (by omega)]; exact e16) (by rw [s_u_ne (by omega), s_u_ne (by omega)]; exact e17) (by rw [s_u_ne (by omega), s_u_ne (by omega)]; exact e12) (by rw [s_u_ne (by omega), s_u_ne (by omega)]; exact e11) (fun i hi => ?_)
      by_cases c : i = t
      · subst c
        exact ⟨by rw [s_u_ne (by omega), s_u_at], s_u_at⟩
      · rw [s_u_ne (by omega), s_u_off c, s_u_off c, s_u_ne (by omega)]
        exact e7 i (by omega)
