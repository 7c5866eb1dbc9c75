-- AN EVENING in the class
def vC (μ : sM) (T : tT) (E : vE) (p : Nat) : Prop := kC μ (T.2 2) (E 0) (oN (E 5 0)) ∧ (∀ t, t < 7 → μ.1 38 t = nI (E 1 t) ∧ μ.1 39 t = nS (E 2 t) ∧ μ.1 40 t = nS (E 3 t)) ∧ (∀ i, i < p → μ.1 42 i = nS (E 4 i)) ∧ μ.1 37 7 = nS (E 5 3) ∧ μ.1 37 8 = nS (E 5 4) ∧ μ.1 37 9 = nI (E 5 1) ∧ μ.1 37 10 = nI (E 5 2)
abbrev evS : List Nat := [35, 36, 37, 38, 39, 40, 42]
theorem tW_lk {T : tT} (hT : tW T) : ∀ i, T.2 2 i ≤ 1 := fun i => (hT.2.2.1 i).1
theorem c_fail {d : Nat} {μ : sM} {T : tT} {E : vE} {p r : Nat} {f : sM → Prop} (hV : vC μ T E p) (h42 : μ.1 42 p = -6) (h : ∀ μ', sFr evS μ μ' → vC μ' T (vBad p r E) (p + 1) → f μ') : sCl sLL mX2_fail d [sR 37, sI (nI p), sI (nI r)] μ (kV f) := by
  obtain ⟨h1, h2, h3, h4, h5, h6, h7⟩ := hV
  refine eX2_fail (h _ ((sFr.u (by decide)).tr (sFr.u (by decide))) ⟨kC_fr (by rw [s_u_ne (by omega), s_u_ne (by omega)]) (by rw [s_u_ne (by omega), s_u_ne (by omega)]) h1, fun t ht => ?_, fun i hi => ?_, ?_, ?_, ?_, ?_⟩)
  · rw [s_u_ne (by omega), s_u_ne (by omega), s_u_ne (by omega), s_u_ne (by omega), s_u_ne (by omega), s_u_ne (by omega)]
    exact h2 t ht
  · rw [s_u_ne (by omega), s_u_ne (by omega)]
    show _ = nS (if i = p then 0 else E 4 i)
    split
    next c => rw [c]; exact h42
    next c => exact h3 i (by omega)
  · rw [s_u_off (by omega), s_u_at]; rfl
  · rw [s_u_at]; rfl
  · rw [s_u_off (by omega), s_u_off (by omega)]; exact h6
  · rw [s_u_off (by omega), s_u_off (by omega)]; exact h7
theorem c_comes {d : Nat} {μ : sM} {T : tT} {E : vE} {p g : Nat} {f : sM → Prop} (hT : tW T) (hC : tC μ 1 4 T) (hw : vW T E) (hV : vC μ T E p) (h42 : μ.1 42 p = -6) (hp : p < 40) (hg : g < 4) (h : ∀ μ', sFr evS μ μ' → vC μ' T (vCome T g p E) (p + 1) → f μ') : sCl sLL mX2_comes (d + 3) [sR 37, sI (nI g), sI (nI p)] μ (kV f) := by
  have h7 := hT.1.2
  unfold vCome at h
  refine eX2_comes (c_hasGuest hT hC (fun g' hg' e hth => ⟨fun _ => ?_, fun w => absurd w (by decide)⟩) (fun hno => ⟨fun w => absurd rfl w, fun _ => c_fail (r := 1) hV h42 (fun μ' hf hv => ?_)⟩))
  · have e := (nI_inj (by omega) (by omega)).mp e
    subst e
    rw [if_pos hth] at h
    refine c_choice hT hC hV.1 (tW_lk hT) hw.1 (fun u hu => by have := oN_lt hw.2.1 u hu; omega) hg ?_
    cases hq : tPick T (T.2 2) (E 0) (oN (E 5 0)) g with
    | none =>
      rw [hq] at h
      exact ⟨fun w => absurd rfl w, fun _ => c_fail (r := 2) hV h42 h⟩
    | some t =>
      rw [hq] at h
      have ht := (tPick_lt hq).1
      refine ⟨fun _ => ?_, fun w => ?_⟩
      · show sCl sLL mX1_use (d + 2) [sR 35, sI (nI g), sI (nI t)] _ _
        obtain ⟨h1, h2, h3, h4, h5, h6, h7e⟩ := hV
        refine c_use hT (tC_S (S := [37]) hC (sFr.u (by decide)) (by decide)) (kC_fr (s_u_ne (by omega)) (s_u_ne (by omega)) h1) hw.1 hg (by omega) (fun μ3 hf hk => ⟨vp_nI hp (by omega), vp_nI (by omega) (by omega), ?_⟩)
        have e37 := hf.2 37 (by decide)
        have e38 := hf.2 38 (by decide)
        have e39 := hf.2 39 (by decide)
        have e40 := hf.2 40 (by decide)
        have e42 := hf.2 42 (by decide)
        rw [s_u_ne (by omega)] at e38 e39 e40 e42
        have F : sFr evS μ μ3 := (sFr.u (S := evS) (by decide)).tr (hf.mono (by decide))
        have b2 := hw.2.2.2.2.1 t
        have ix := nS_m6 (v := E 2 t) (by omega)
        rw [show nO (some t) = nI t from rfl, nI_c (by omega), nI_c (by omega), e39, (h2 t (by omega)).2.1, h7e, nI_add]
        have c2 : ∀ μ4 : sM, (∀ i, i < 7 → μ4.1 39 i = nS (if i = t ∧ E 2 t = 0 then g + 1 else E 2 i)) → (∀ r, r ≠ 39 → μ4.1 r = (s_u (s_u (s_u μ3 37 10 (nI (E 5 2 + tBite T (E 0) g t))) 42 p (nI t)) 38 t 9).1 r) → vC (s_u μ4 40 t (nI g)) T (vTake T g p t E) (p + 1) := by
          intro μ4 q39 qo
          have o35 := qo 35 (by omega)
          have o36 := qo 36 (by omega)
          have o37 := qo 37 (by omega)
          have o38 := qo 38 (by omega)
          have o40 := qo 40 (by omega)
          have o42 := qo 42 (by omega)
          rw [s_u_ne (by omega), s_u_ne (by omega), s_u_ne (by omega)] at o35 o36 o40
          rw [s_u_ne (by omega), s_u_ne (by omega)] at o37
          rw [s_u_ne (by omega)] at o42
          refine ⟨kC_fr (by rw [s_u_ne (by omega), o35]) (by rw [s_u_ne (by omega), o36]) hk, fun i hi => ⟨?_, ?_, ?_⟩, fun i hi => ?_, ?_, ?_, ?_, ?_⟩
          · rw [s_u_ne (by omega), o38]
            show _ = nI (if i = t then 9 else E 1 i)
            split
            next c => rw [c, s_u_at]; rfl
            next c => rw [s_u_off c, s_u_ne (by omega), s_u_ne (by omega), e38]; exact (h2 i hi).1
          · rw [s_u_ne (by omega), q39 i hi]
            rfl
          · show _ = nS (if i = t then g + 1 else E 3 i)
            split
            next c => rw [c, s_u_at]; rfl
            next c => rw [s_u_off c, o40, e40]; exact (h2 i hi).2.2
          · rw [s_u_ne (by omega), o42]
            show _ = nS (if i = p then t + 1 else E 4 i)
            split
            next c => rw [c, s_u_at]; rfl
            next c => rw [s_u_off c, s_u_ne (by omega), e42]; exact h3 i (by omega)
          · rw [s_u_ne (by omega), o37, s_u_off (by omega), e37, s_u_off (by omega)]; exact h4
          · rw [s_u_ne (by omega), o37, s_u_off (by omega), e37, s_u_off (by omega)]; exact h5
          · rw [s_u_ne (by omega), o37, s_u_off (by omega), e37, s_u_at, h6, nI_1]; rfl
          · rw [s_u_ne (by omega), o37, s_u_at]; rfl
        refine ⟨fun q => h _ ((((F.tr (sFr.u (by decide))).tr (sFr.u (by decide))).tr (sFr.u (by decide))).tr (sFr.u (by decide))) (c2 _ (fun i hi => ?_) (fun r _ => rfl)), fun q => h _ (((((F.tr (sFr.u (by decide))).tr (sFr.u (by decide))).tr (sFr.u (by decide))).tr (sFr.u (by decide))).tr (sFr.u (by decide))) (c2 _ (fun i hi => ?_) (fun r hr => s_u_ne hr))⟩
        · have q : ¬ E 2 t = 0 := fun w => q (ix.mpr w)
          rw [if_neg (by omega), s_u_ne (by omega), s_u_ne (by omega), s_u_ne (by omega), e39]
          exact (h2 i hi).2.1
        · have q := ix.mp q
          by_cases c : i = t
          · rw [if_pos ⟨c, q⟩, c, s_u_at]; rfl
          · rw [if_neg (by omega), s_u_off c, s_u_ne (by omega), s_u_ne (by omega), s_u_ne (by omega), e39]
            exact (h2 i hi).2.1
      · rw [nO_m6 (by intro u hu; cases hu; omega)] at w
        cases w
  · rw [if_neg (by have := hno g hg rfl; omega)] at h
    exact h μ' hf hv
theorem c_cool {d : Nat} {μ : sM} {T : tT} {E : vE} {p : Nat} {f : sM → Prop} (hw : vW T E) (hV : vC μ T E p) (h42 : μ.1 42 p = -6) (h : ∀ μ', sFr evS μ μ' → vC μ' T (vCool p E) (p + 1) → f μ') : sCl sLL mX2_cool (d + 1) [sR 37] μ (kV f) := by
  obtain ⟨h1, h2, h3, h4, h5, h6, h7⟩ := hV
  refine eX2_cool ?_
  refine s_down (P := fun t => ∀ μ1, sFr [38] μ μ1 → (∀ i, i < t → μ1.1 38 i = nI (E 1 i - 1)) → (∀ i, t ≤ i → μ1.1 38 i = μ.1 38 i) → sG sLL mX2_cool (d + 1) (kV f) 2 [some (sR 37), some (sI (nI t))] [] μ1) 7 ?_ ?_ 0 (by omega) μ sFr.rf (fun i hi => by omega) (fun i _ => rfl)
  · intro μ1 hf a b
    refine sX2_cool_2 ⟨fun _ => h μ1 (hf.mono (by decide)) ⟨kC_fr (hf.2 35 (by decide)) (hf.2 36 (by decide)) h1, fun t ht => ?_, fun i hi => ?_, ?_, ?_, ?_, ?_⟩, fun q => absurd (by decide) q⟩
    · rw [a t ht, hf.2 39 (by decide), hf.2 40 (by decide)]
      exact ⟨rfl, (h2 t ht).2⟩
    · rw [hf.2 42 (by decide)]
      show _ = nS (if i = p then 0 else E 4 i)
      split
      next c => rw [c]; exact h42
      next c => exact h3 i (by omega)
    · rw [hf.2 37 (by decide)]; exact h4
    · rw [hf.2 37 (by decide)]; exact h5
    · rw [hf.2 37 (by decide)]; exact h6
    · rw [hf.2 37 (by decide)]; exact h7
  · intro t ht ih μ1 hf a b
    have b1 := hw.2.2.1 t
    refine sX2_cool_2 ⟨fun q => ?_, fun _ => ⟨vp_nI ht (by omega), ?_⟩⟩
    · have q := (nI_leN (a := 7) (by omega) (by omega)).mp q
      omega
    · rw [nI_c (by omega), nI_1, b t (Nat.le_refl _), (h2 t ht).1]
      have ev : (if 0 < nI (E 1 t) - 1 then nI (E 1 t) - 1 else 0) = nI (E 1 t - 1) := by
        cases hv : E 1 t with
        | zero => decide
        | succ v =>
          have e1 : nI (v + 1) - 1 = nI v := pk_sub (a := v + 1) (b := 1) (by omega)
          rw [e1]
          show _ = nI v
          split
          · rfl
          next q =>
            rw [fa_lt, s_z0, nI_i (by omega)] at q
            have : v = 0 := by omega
            rw [this]; rfl
      rw [ev]
      refine ih _ (hf.tr (sFr.u (by decide))) (fun i hi => ?_) (fun i hi => ?_)
      · by_cases c : i = t
        · rw [c, s_u_at]
        · rw [s_u_off c]; exact a i (by omega)
      · rw [s_u_off (by omega)]; exact b i (by omega)
theorem c_fillE {d : Nat} {μ : sM} {T : tT} {E : vE} {p t : Nat} {f : sM → Prop} (hT : tW T) (hC : tC μ 1 4 T) (hV : vC μ T E p) (h42 : μ.1 42 p = -6) (ht : t < T.1) (h : ∀ μ', sFr evS μ μ' → vC μ' T (vFill T t p E) (p + 1) → f μ') : sCl sLL mX2_fill (d + 1) [sR 37, sI (nI t)] μ (kV f) := by
  have h7n := hT.1.2
  obtain ⟨h1, h2, h3, h4, h5, h6, h7⟩ := hV
  refine eX2_fill (c_hasThing hC.1 hT.1.2 (fun t' ht' e => ⟨fun w => absurd w (by decide), fun _ => ⟨vp_nI (by omega) (by omega), ?_⟩⟩) (fun q => ?_))
  · rw [nI_c (by omega), (hC.2.2.2.1 t (by omega)).2.1]
    refine h _ (sFr.u (by decide)) ⟨⟨by rw [s_u_ne (by omega)]; exact h1.1, fun i hi => ?_, by rw [s_u_ne (by omega)]; exact h1.2.2⟩, fun i hi => ?_, fun i hi => ?_, ?_, ?_, ?_, ?_⟩
    · show _ = nI (if i = t then T.2 1 t else E 0 i)
      split
      next c => rw [c, s_u_at]
      next c => rw [s_u_off c]; exact h1.2.1 i hi
    · rw [s_u_ne (by omega), s_u_ne (by omega), s_u_ne (by omega)]; exact h2 i hi
    · rw [s_u_ne (by omega)]
      show _ = nS (if i = p then 0 else E 4 i)
      split
      next c => rw [c]; exact h42
      next c => exact h3 i (by omega)
    · rw [s_u_ne (by omega)]; exact h4
    · rw [s_u_ne (by omega)]; exact h5
    · rw [s_u_ne (by omega)]; exact h6
    · rw [s_u_ne (by omega)]; exact h7
  · rw [nI_i (by omega)] at q
    omega
theorem c_beginE {d : Nat} {μ : sM} {T : tT} {f : sM → Prop} (hC : tC μ 1 4 T) (h : ∀ μ', sFr evS μ μ' → vC μ' T (vE0 T) 0 → f μ') : sCl sLL mX2_begin (d + 2) [sR 37] μ (kV f) := by
  refine eX2_begin (c_begin hC (fun μ1 hf1 hk => ?_))
  refine c_fill (n := 7) rfl rfl (by omega) (fun μ2 hf2 q39 _ => c_fill (n := 7) rfl rfl (by omega) (fun μ3 hf3 q40 _ => ?_))
  have F : sFr evS μ μ3 := (((hf1.mono (by decide)).tr (sFr.cp (by decide))).tr (hf2.mono (by decide))).tr (hf3.mono (by decide))
  refine h _ ((((F.tr (sFr.u (by decide))).tr (sFr.u (by decide))).tr (sFr.u (by decide))).tr (sFr.u (by decide))) ⟨kC_fr ?_ ?_ hk, fun t ht => ⟨?_, ?_, ?_⟩, fun i hi => by omega, ?_, ?_, ?_, ?_⟩
  · rw [s_u_ne (by omega), s_u_ne (by omega), s_u_ne (by omega), s_u_ne (by omega), hf3.2 35 (by decide), hf2.2 35 (by decide), s_cp_ne (by omega)]
  · rw [s_u_ne (by omega), s_u_ne (by omega), s_u_ne (by omega), s_u_ne (by omega), hf3.2 36 (by decide), hf2.2 36 (by decide), s_cp_ne (by omega)]
  · rw [s_u_ne (by omega), s_u_ne (by omega), s_u_ne (by omega), s_u_ne (by omega), hf3.2 38 (by decide), hf2.2 38 (by decide), s_cp_in (by rw [show (7 : Int32).toNatClampNeg = 7 from rfl]; exact ht), hf1.2 7 (by decide)]
    exact (hC.2.2.2.1 t ht).2.2.2.1
  · rw [s_u_ne (by omega), s_u_ne (by omega), s_u_ne (by omega), s_u_ne (by omega), hf3.2 39 (by decide), q39 t ht]
    rfl
  · rw [s_u_ne (by omega), s_u_ne (by omega), s_u_ne (by omega), s_u_ne (by omega), q40 t ht]
    rfl
  · rw [s_u_off (by omega), s_u_off (by omega), s_u_off (by omega), s_u_at]; rfl
  · rw [s_u_off (by omega), s_u_off (by omega), s_u_at]; rfl
  · rw [s_u_off (by omega), s_u_at]; rfl
  · rw [s_u_at]; rfl
theorem c_run {d : Nat} {μ : sM} {T : tT} {c : Nat} {sg : Nat → Nat} {f : sM → Prop} (hT : tW T) (hC : tC μ 1 4 T) (hc : c ≤ 40) (h33 : μ.1 33 0 = nI c) (h34 : ∀ i, i < c → μ.1 34 i = nI (sg i)) (hs : ∀ i, i < c → sg i < 1000) (hok : ∀ i, i < c → vOk T.1 (sg i) = true) (h : ∀ μ', sFr evS μ μ' → vC μ' T (vEnd T c sg) 0 → ((vEnd T c sg) 5 3 = 0 → ∀ i, i < c → μ'.1 42 i = nS (vEnd T c sg 4 i)) → f μ') : sCl sLL mX2_run (d + 4) [sR 37, sR 33] μ (kV f) := by
  have h7 := hT.1.2
  refine eX2_run (c_beginE hC (fun μ1 hf1 hv1 => ?_))
  refine s_down (P := fun p => ∀ μ1 E, sFr evS μ μ1 → vC μ1 T E p → vW T E → E 5 3 = 0 → (∀ μ', sFr evS μ μ' → vC μ' T (vGo T sg (c - p) p E) 0 → ((vGo T sg (c - p) p E) 5 3 = 0 → ∀ i, i < c → μ'.1 42 i = nS (vGo T sg (c - p) p E 4 i)) → f μ') → sG sLL mX2_run (d + 3 + 1) (kV f) 6 [some (sR 37), some (sR 33), some (sI (nI p)), none] [] μ1) c ?_ ?_ 0 (by omega) μ1 (vE0 T) hf1 hv1 (vE0_w hT) rfl h
  · intro μ1 E hf hv hw hb h
    rw [Nat.sub_self] at h
    refine sX2_run_6 ⟨fun _ => h μ1 hf ⟨hv.1, hv.2.1, fun i hi => by omega, hv.2.2.2⟩ (fun _ i hi => hv.2.2.1 i hi), fun q => ?_⟩
    rw [hf.2 33 (by decide), h33] at q
    exact absurd ((nI_leN (by omega) (by omega)).mpr (Nat.le_refl _)) q
  · intro p hp ih μ1 E hf hv hw hb h
    have hsp := hs p hp
    have hop := hok p hp
    have hw2 := vStep_w hT hop (show p < 40 by omega) hw
    rw [show c - p = (c - (p + 1)) + 1 by omega] at h
    simp only [vGo, hb, if_true] at h
    refine sX2_run_6 ⟨fun q => ?_, fun q => ⟨vp_nI (by omega) (by omega), ?_⟩⟩
    · rw [hf.2 33 (by decide), h33] at q
      have q := (nI_leN (by omega) (by omega)).mp q
      omega
    · rw [nI_c (by omega), hf.2 34 (by decide), h34 p hp, nI_1]
      have i0 := nI_inj (a := sg p) (b := 46) (by omega) (by omega)
      have hv2 : vC (s_u μ1 42 p (-6)) T E p := by
        obtain ⟨h1, h2, h3, h4⟩ := hv
        refine ⟨kC_fr (s_u_ne (by omega)) (s_u_ne (by omega)) h1, fun t ht => ?_, fun i hi => ?_, ?_⟩
        · rw [s_u_ne (by omega), s_u_ne (by omega), s_u_ne (by omega)]; exact h2 t ht
        · rw [s_u_off (by omega)]; exact h3 i hi
        · rw [s_u_ne (by omega)]; exact h4
      have hf2 : sFr evS μ (s_u μ1 42 p (-6)) := hf.tr (sFr.u (by decide))
      have hC2 : tC (s_u μ1 42 p (-6)) 1 4 T := tC_S hC hf2 (by decide)
      have fin : ∀ μ2, sFr evS (s_u μ1 42 p (-6)) μ2 → vC μ2 T (vStep T (sg p) p E) (p + 1) → ((μ2.1 37 7 = -6 → sG sLL mX2_run (d + 3 + 1) (kV f) 6 [some (sR 37), some (sR 33), some (sI (nI (p + 1))), none] [] μ2) ∧ (¬ μ2.1 37 7 = -6 → (kV f) none μ2)) := by
        intro μ2 g1 g2
        have ib := nS_m6 (v := vStep T (sg p) p E 5 3) (by have := hw2.2.2.2.2.2; omega)
        rw [g2.2.2.2.1]
        refine ⟨fun q => ih μ2 _ (hf2.tr g1) g2 hw2 (ib.mp q) h, fun q => ?_⟩
        have hne : ¬ vStep T (sg p) p E 5 3 = 0 := fun w => q (ib.mpr w)
        rw [vGo_bad hne] at h
        exact h μ2 (hf2.tr g1) ⟨g2.1, g2.2.1, fun i hi => by omega, g2.2.2.2⟩ (fun w => absurd w hne)
      simp only [vOk, decide_eq_true_eq] at hop
      unfold vStep at fin
      refine c_isGuest hsp (fun cg => ⟨fun w => absurd w (by decide), fun _ => ?_⟩) (fun cg => ⟨fun _ => ⟨fun q => ?_, fun q => ?_⟩, fun w => absurd rfl w⟩)
      · rw [if_neg (by omega), if_pos cg] at fin
        have e : nI (sg p) - 65 = nI (sg p - 65) := pk_sub (b := 65) (by omega)
        rw [e]
        exact c_comes hT hC2 hw hv2 s_u_at (by omega) (by omega) fin
      · have q : ¬ sg p = 46 := fun w => q (i0.mpr w)
        rw [if_neg q, if_neg cg] at fin
        have e : nI (sg p) - 48 = nI (sg p - 48) := pk_sub (b := 48) (by omega)
        rw [e]
        exact c_fillE hT hC2 hv2 s_u_at (by omega) fin
      · rw [if_pos (i0.mp q)] at fin
        exact c_cool hw hv2 s_u_at fin
