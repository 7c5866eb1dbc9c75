-- alike in the reference
def fF (μ μ' : sM) : Prop := sFr [62, 63, 64, 82] μ μ' ∧ (∀ k, k ≠ 11 → k ≠ 12 → μ'.1 62 k = μ.1 62 k) ∧ ∀ j, j < 21 → μ'.1 63 j = μ.1 63 j
theorem fF.rf {μ : sM} : fF μ μ := ⟨sFr.rf, fun _ _ _ => rfl, fun _ _ => rfl⟩
theorem fF.tr {μ μ' μ'' : sM} (h : fF μ μ') (h2 : fF μ' μ'') : fF μ μ'' := ⟨h.1.tr h2.1, fun k a b => (h2.2.1 k a b).trans (h.2.1 k a b), fun j hj => (h2.2.2 j hj).trans (h.2.2 j hj)⟩
theorem tE_f {μ μ' : sM} {T : tT} (h : fF μ μ') (hE : tE μ T) : tE μ' T := tE_fr (h.2.1 0 (by omega) (by omega)) (h.2.1 4 (by omega) (by omega)) (fun j hj => h.2.2 j (by omega)) (fun j hj => h.1.2 (66 + j) (by simp; omega)) hE
theorem fF.m {μ μ1 μ2 : sM} (h : fF μ μ1) (hm : mFr μ1 μ2) : fF μ μ2 := h.tr ⟨hm.1.mono (by decide), hm.2.1, hm.2.2⟩
theorem c_findAlone {d : Nat} {μ : sM} {T : tT} {L : Nat → Nat} {f : sM → Prop} (hT : tW T) (hE : tE μ T) (hlk : ∀ t, t < 7 → μ.1 63 (14 + t) = nI (T.2 2 t)) (h71 : ∀ t, t < 7 → μ.1 71 t = nI (L t)) (hL : ∀ i, L i ≤ 9) (h : ∀ μ', fF μ μ' → (∀ i, i < 7 → μ'.1 63 (21 + i) = μ.1 71 i ∧ μ'.1 64 i = μ.1 72 i) → (∀ g, g < 4 → μ'.1 82 g = nI (tNum (aLf T L g) T.1)) → f μ') : sCl sLL mX9_findAlone (d + 3) [sR 62] μ (kV f) := by
  have h7 := hT.1.2
  refine eX9_findAlone ?_
  refine s_down (P := fun g => ∀ μ1, fF μ μ1 → (∀ i, i < g → μ1.1 82 i = nI (tNum (aLf T L i) T.1)) → sG sLL mX9_findAlone (d + 2 + 1) (kV f) 2 [some (sR 62), some (sI (nI g)), none] [] μ1) 4 ?_ ?_ 0 (by omega) μ fF.rf (fun i hi => by omega)
  · intro μ1 hf1 a1
    refine sX9_findAlone_2 ⟨fun _ => c_putBack (fun μ2 hf2 h63 hb => ?_), fun q => absurd (by decide) q⟩
    refine h μ2 (hf1.tr ⟨hf2.mono (by decide), fun k _ _ => by rw [hf2.2 62 (by decide)], h63⟩) (fun i hi => ?_) (fun g hg => by rw [hf2.2 82 (by decide)]; exact a1 g hg)
    rw [(hb i hi).1, (hb i hi).2, hf1.1.2 71 (by decide), hf1.1.2 72 (by decide)]
    exact ⟨rfl, rfl⟩
  · intro g hg ih μ1 hf1 a1
    refine sX9_findAlone_2 ⟨fun q => ?_, fun _ => c_putBack (fun μ2 hf2 h63 hb => ?_)⟩
    · have q := (nI_leN (a := 4) (by omega) (by omega)).mp q
      omega
    · have F2 : fF μ (s_u μ2 62 11 (-6)) := (hf1.tr ⟨hf2.mono (by decide), fun k _ _ => by rw [hf2.2 62 (by decide)], h63⟩).tr ⟨sFr.u (by decide), fun k a _ => s_u_off a, fun j _ => by rw [s_u_ne (by omega)]⟩
      have K2 : kM (s_u μ2 62 11 (-6)) (T.2 2) L none := by
        refine ⟨fun t ht => ⟨?_, ?_⟩, s_u_at⟩
        · rw [F2.2.2 _ (by omega)]; exact hlk t ht
        · rw [s_u_ne (by omega), (hb t ht).1, hf1.1.2 71 (by decide)]; exact h71 t ht
      have E2 := tE_f F2 hE
      have a2 : ∀ i, i < g → (s_u μ2 62 11 (-6)).1 82 i = nI (tNum (aLf T L i) T.1) := fun i hi => by
        rw [s_u_ne (by omega), hf2.2 82 (by decide)]
        exact a1 i hi
      have next : ∀ μ3 (L' : Nat → Nat), fF μ μ3 → μ3.1 82 = (s_u μ2 62 11 (-6)).1 82 → L' = aLf T L g → (∀ t, t < 7 → μ3.1 63 (21 + t) = nI (L' t)) → sCl sLL mX9_tableNow (d + 2) [sR 62] μ3 (kI fun r4 μ4 => (vp_in (nI g) 4 ∧ sG sLL mX9_findAlone (d + 2 + 1) (kV f) 2 [some (sR 62), some (sI (nI g + 1)), none] [] (s_u μ4 82 ((nI g).toNatClampNeg) r4))) := by
        intro μ3 L' F3 e82 eL hL3
        refine c_tableNow (lk := fun _ => 0) (last := none) h7 (tE_f F3 hE).1 hL3 ⟨vp_nI hg (by omega), ?_⟩
        rw [nI_c (by omega), nI_1]
        refine ih _ (F3.tr ⟨sFr.u (by decide), fun k _ _ => by rw [s_u_ne (by omega)], fun j _ => by rw [s_u_ne (by omega)]⟩) (fun i hi => ?_)
        by_cases c : i = g
        · rw [c, s_u_at, eL]
        · rw [s_u_off c, e82]; exact a2 i (by omega)
      refine c_isThere hT E2 (fun g' hg' e th => ⟨fun w => absurd w (by decide), fun _ => ?_⟩) (fun hno => ⟨fun _ => next _ L F2 rfl ?_ (fun t ht => (K2.1 t ht).2), fun w => absurd rfl w⟩)
      · have e := (nI_inj (by omega) (by omega)).mp e
        subst e
        refine c_taken hT E2 K2 (tW_lk hT) hL (fun u hu => by cases hu) hg ?_
        cases hp : tPick T (T.2 2) L none g with
        | none =>
          refine ⟨fun _ => next _ L F2 rfl ?_ (fun t ht => (K2.1 t ht).2), fun q => absurd (by decide) q⟩
          unfold aLf aP
          rw [if_pos th, hp]
        | some t =>
          have ht := (tPick_lt hp).1
          refine ⟨fun q => ?_, fun _ => ?_⟩
          · rw [nO_neg (by intro u hu; cases hu; omega)] at q
            cases q
          · show sCl sLL mX9_use (d + 2) [sR 62, sI (nI g), sI (nI t)] _ _
            refine c_useM hT E2 K2 hL hg (by omega) (fun μ5 m5 k5 _ _ => next μ5 _ (F2.m m5) (m5.1.2 82 (by decide)) ?_ (fun t ht => (k5.1 t ht).2))
            unfold aLf aP
            rw [if_pos th, hp]
      · unfold aLf aP
        rw [if_neg (by have := hno g hg rfl; omega)]
theorem tNum7 {A : Nat → Nat} (hA : ∀ i, A i ≤ 9) {n : Nat} (hn : n ≤ 7) : tNum A n < 2147483648 := by
  have a := tNum_lt hA n
  have b : 10 ^ n ≤ 10 ^ 7 := Nat.pow_le_pow_right (by omega) hn
  have : (10 : Nat) ^ 7 = 10000000 := by decide
  omega
theorem mQ_find {μ μ1 μ2 : sM} (hf1 : sFr [71, 72] μ μ1) (hb1 : ∀ i, i < 7 → μ1.1 71 i = μ.1 63 (21 + i) ∧ μ1.1 72 i = μ.1 64 i) (F : fF μ1 μ2) (hb : ∀ i, i < 7 → μ2.1 63 (21 + i) = μ1.1 71 i ∧ μ2.1 64 i = μ1.1 72 i) : mQ μ μ2 := by
  refine ⟨mG.of (S := mS) ((hf1.mono (by decide)).tr (F.1.mono (by decide))) (by simp) (fun k hk => ?_) (fun j hj => ?_), fun i hi => ?_⟩
  · rw [F.2.1 k (by omega) (by omega), hf1.2 62 (by decide)]
  · rw [F.2.2 j hj, hf1.2 63 (by decide)]
  · rw [(hb i hi).1, (hb i hi).2]
    exact hb1 i hi
theorem q_alike {d : Nat} {μ : sM} {Z : tZ} {a : Int32} {K : Int32 → Int32 → sM → Prop} (hW : zW Z) (hC : zC μ Z) (hM : zM μ Z) (hK : qK K) : sCl sLL mX8_alike (d + 20) [sR 0, sI a] μ (kI fun r μ1 => sCl sLL mX9_alike (d + 20) [sR 62, sI a] μ1 (kI fun r2 μ2 => K r r2 μ2)) := by
  have hT := hW.1
  have h7 := hT.1.2
  have hL9 : ∀ i, Z.1.2 3 i ≤ 9 := fun i => by have := hT.2.1 3 i; simpa using this
  have hl := aAll_len (al := aAl Z.1 (Z.1.2 3)) 4 0
  -- the reference's loops
  have ref : ∀ {μ1 : sM} {K2 : Int32 → sM → Prop}, zM μ1 Z → (∀ μ2, zM μ2 Z → zB μ1 μ2 → (a = -1 → K2 (nI (aAll (aAl Z.1 (Z.1.2 3)) 4 0).length) μ2) ∧ (¬ a = -1 → a < 0 → K2 (-6) μ2) ∧ (∀ n, n < 2147483648 → a = nI n → K2 (aAns (aAll (aAl Z.1 (Z.1.2 3)) 4 0) n) μ2)) → sCl sLL mX9_alike (d + 20) [sR 62, sI a] μ1 (kI K2) := by
    intro μ1 K2 hM1 k
    refine eX9_alike (c_keepNow (fun μ2 hf2 hb2 => ?_))
    have E2 : tE μ2 Z.1 := tE_fr (by rw [hf2.2 62 (by decide)]) (by rw [hf2.2 62 (by decide)]) (fun j _ => by rw [hf2.2 63 (by decide)]) (fun j hj => hf2.2 (66 + j) (by simp; omega)) hM1.1.1
    refine c_findAlone hT E2 (fun t ht => by rw [hf2.2 63 (by decide)]; exact (hM1.1.2 t ht).1) (L := Z.1.2 3) (fun t ht => by rw [(hb2 t ht).1]; exact (hM1.1.2 t ht).2.1) hL9 (fun μ3 F3 hb3 a3 => ?_)
    have Q3 := mQ_find hf2 hb2 F3 hb3
    have E3 := tE_f F3 E2
    have k := k μ3 (zM_Q Q3 hM1) (zB_Q Q3)
    have al_iff : ∀ i j, i < 4 → j < 4 → Z.1.2 10 i = 1 → Z.1.2 10 j = 1 → (μ3.1 82 i = μ3.1 82 j ↔ aAl Z.1 (Z.1.2 3) i j = true) := by
      intro i j hi hj ti tj
      rw [a3 i hi, a3 j hj, nI_inj (tNum7 (aLf_le hL9) h7) (tNum7 (aLf_le hL9) h7), aDo_iff hT hL9 hi hj ti tj]
      simp only [aAl, decide_eq_true_eq]
      exact ⟨fun e => ⟨ti, tj, e⟩, fun e => e.2.2⟩
    have al_no : ∀ i j, (Z.1.2 10 i = 0 ∨ Z.1.2 10 j = 0) → aAl Z.1 (Z.1.2 3) i j = false := by
      intro i j h
      simp only [aAl, decide_eq_false_iff_not]
      omega
    -- R: what is still to come, n: how many came
    refine s_down (P := fun i => ∀ c, c + (aAll (aAl Z.1 (Z.1.2 3)) (4 - i) i).length = (aAll (aAl Z.1 (Z.1.2 3)) 4 0).length → (∀ n, n < 2147483648 → a = nI n → c ≤ n ∧ (aAll (aAl Z.1 (Z.1.2 3)) (4 - i) i)[n - c]? = (aAll (aAl Z.1 (Z.1.2 3)) 4 0)[n]?) → sG sLL mX9_alike (d + 19 + 1) (kI K2) 12 [some (sR 62), some (sI a), some (sI (nI c)), some (sI (nI i)), none] [] μ3) 4 ?_ ?_ 0 (by omega) 0 (by rw [Nat.zero_add]) (fun n _ _ => ⟨Nat.zero_le _, rfl⟩)
    · intro c hc hn
      have hc : c = (aAll (aAl Z.1 (Z.1.2 3)) 4 0).length := hc
      refine sX9_alike_12 ⟨fun _ => ⟨fun q => ?_, fun q => ?_⟩, fun q => absurd (by decide) q⟩
      · by_cases ca : a < 0
        · exact k.2.1 q ca
        · have rg := fb_rng a
          rw [fa_lt, s_z0] at ca
          have ea : a = nI a.toInt.toNat := by rw [fa_eq, nI_i (by omega)]; omega
          have h1 := hn a.toInt.toNat (by omega) ea
          have h2 := k.2.2 a.toInt.toNat (by omega) ea
          unfold aAns at h2
          rw [← h1.2] at h2
          exact h2
      · rw [hc]
        exact k.1 q
    · intro i hi ih c hc hn
      have hc0 := hc
      rw [show 4 - i = (4 - (i + 1)) + 1 by omega, aAll, List.length_append] at hc
      rw [show 4 - i = (4 - (i + 1)) + 1 by omega, aAll] at hn
      refine sX9_alike_12 ⟨fun q => ?_, fun _ => ?_⟩
      · have q := (nI_leN (a := 4) (by omega) (by omega)).mp q
        omega
      · rw [nI_1]
        refine s_down (P := fun j => ∀ c, c + ((aRow (aAl Z.1 (Z.1.2 3)) i (4 - j) j).length + (aAll (aAl Z.1 (Z.1.2 3)) (4 - (i + 1)) (i + 1)).length) = (aAll (aAl Z.1 (Z.1.2 3)) 4 0).length → (∀ n, n < 2147483648 → a = nI n → c ≤ n ∧ (aRow (aAl Z.1 (Z.1.2 3)) i (4 - j) j ++ aAll (aAl Z.1 (Z.1.2 3)) (4 - (i + 1)) (i + 1))[n - c]? = (aAll (aAl Z.1 (Z.1.2 3)) 4 0)[n]?) → sG sLL mX9_alike (d + 19 + 1) (kI K2) 22 [some (sR 62), some (sI a), some (sI (nI c)), some (sI (nI i)), some (sI (nI j))] [] μ3) 4 ?_ ?_ (i + 1) (by omega) c hc hn
        · intro c hc hn
          rw [Nat.sub_self] at hc hn
          have hc : c + (0 + (aAll (aAl Z.1 (Z.1.2 3)) (4 - (i + 1)) (i + 1)).length) = (aAll (aAl Z.1 (Z.1.2 3)) 4 0).length := hc
          refine sX9_alike_22 ⟨fun _ => ?_, fun q => absurd (by decide) q⟩
          rw [nI_1]
          exact ih c (by omega) hn
        · intro j hj ih2 c hc hn
          rw [show 4 - j = (4 - (j + 1)) + 1 by omega, aRow, List.length_append] at hc
          rw [show 4 - j = (4 - (j + 1)) + 1 by omega, aRow] at hn
          have skip : aAl Z.1 (Z.1.2 3) i j = false → sG sLL mX9_alike (d + 19 + 1) (kI K2) 22 [some (sR 62), some (sI a), some (sI (nI c)), some (sI (nI i)), some (sI (nI (j + 1)))] [] μ3 := by
            intro al
            rw [al] at hc hn
            simp only [Bool.false_eq_true, if_false, List.length_nil, List.nil_append] at hc hn
            exact ih2 c (by omega) hn
          refine sX9_alike_22 ⟨fun q => ?_, fun _ => ?_⟩
          · have q := (nI_leN (a := 4) (by omega) (by omega)).mp q
            omega
          · rw [nI_1]
            refine c_isThere hT E3 (fun g hg e th => ⟨fun w => absurd w (by decide), fun _ => c_isThere hT E3 (fun g2 hg2 e2 th2 => ⟨fun w => absurd w (by decide), fun _ => ⟨vp_nI hi (by omega), vp_nI hj (by omega), ?_⟩⟩) (fun hno => ⟨fun _ => skip (al_no i j (Or.inr (hno j hj rfl))), fun w => absurd rfl w⟩)⟩) (fun hno => ⟨fun _ => skip (al_no i j (Or.inl (hno i hi rfl))), fun w => absurd rfl w⟩)
            have e := (nI_inj (by omega) (by omega)).mp e
            have e2 := (nI_inj (by omega) (by omega)).mp e2
            subst e e2
            rw [nI_c (by omega), nI_c (by omega), al_iff i j hi hj th th2]
            refine ⟨fun q => skip (by simpa using q), fun al => ?_⟩
            rw [if_pos al] at hc hn
            simp only [List.length_cons, List.length_nil] at hc
            refine ⟨fun q => ?_, fun q => ?_⟩
            · rw [nI_1]
              refine ih2 (c + 1) (by omega) (fun n hn1 ea => ?_)
              obtain ⟨h1, h2⟩ := hn n hn1 ea
              have hne : ¬ c = n := fun w => q (by rw [ea, w])
              refine ⟨by omega, ?_⟩
              rw [← h2]
              obtain ⟨m, rfl⟩ : ∃ m, n = c + (m + 1) := ⟨n - c - 1, by omega⟩
              rw [show c + (m + 1) - (c + 1) = m by omega, show c + (m + 1) - c = m + 1 by omega]
              simp
            · obtain ⟨h1, h2⟩ := hn c (by omega) q.symm
              have k3 := k.2.2 c (by omega) q.symm
              unfold aAns at k3
              rw [← h2, Nat.sub_self] at k3
              have e1 : 10 * nI i = nI (10 * i) := pk_mul 10 i
              rw [e1, nI_add]
              exact k3
  refine eX8_alike (c_begin hC.1 (fun μ1 hf1 hk1 => ?_))
  have hC1 := tC_S hC.1 hf1 (by decide)
  refine ⟨fun q => ?_, fun q => ?_⟩
  · by_cases ca : a < 0
    · have hC1z := zC_S hf1 (by decide) hC
      have hM1z := zM_A (zA_S hf1 (by decide)) hM
      refine eX7_atPlace ⟨fun _ => ref hM1z (fun μ3 hM3 hB3 => ⟨fun w => absurd w q, fun _ _ => hK _ μ3 Z hW (zC_B hB3 hC1z) hM3, fun n hn e => ?_⟩), fun w => absurd ca w⟩
      subst e
      exact absurd ca (nI_pos hn)
    · have rg := fb_rng a
      rw [fa_lt, s_z0] at ca
      have ea : a = nI a.toInt.toNat := by rw [fa_eq, nI_i (by omega)]; omega
      have hn : a.toInt.toNat < 2147483648 := by omega
      generalize a.toInt.toNat = n at ea hn
      subst ea
      refine c_atPlace hT hC1 hk1 hL9 hn (fun μ2 hf2 => ?_)
      have hC2 := zC_S hf2 (by decide) (zC_S hf1 (by decide) hC)
      have hM2 := zM_A (zA_S hf2 (by decide)) (zM_A (zA_S hf1 (by decide)) hM)
      refine ref hM2 (fun μ3 hM3 hB3 => ⟨fun w => absurd w q, fun _ w => absurd w (nI_pos hn), fun n2 hn2 e => ?_⟩)
      have e := (nI_inj hn hn2).mp e
      subst e
      exact hK _ μ3 Z hW (zC_B hB3 hC2) hM3
  · subst q
    refine c_howMany hT hC1 hk1 hL9 (fun μ2 hf2 _ => ?_)
    have hC2 := zC_S hf2 (by decide) (zC_S hf1 (by decide) hC)
    have hM2 := zM_A (zA_S hf2 (by decide)) (zM_A (zA_S hf1 (by decide)) hM)
    refine ref hM2 (fun μ3 hM3 hB3 => ⟨fun _ => hK _ μ3 Z hW (zC_B hB3 hC2) hM3, fun w => absurd rfl w, fun n hn e => ?_⟩)
    have e := (fa_eq _ _).mp e
    rw [nI_i hn, show (-1 : Int32).toInt = -1 by decide] at e
    omega
