-- lock in the reference, call against call
def kF (μ μ' : sM) : Prop := sFr [62, 63, 64, 74, 78, 83] μ μ' ∧ (∀ k, k = 0 ∨ k = 4 ∨ k = 10 → μ'.1 62 k = μ.1 62 k) ∧ ∀ j, j < 21 → μ'.1 63 j = μ.1 63 j
theorem kF.rf {μ : sM} : kF μ μ := ⟨sFr.rf, fun _ _ => rfl, fun _ _ => rfl⟩
theorem kF.tr {μ μ' μ'' : sM} (h : kF μ μ') (h2 : kF μ' μ'') : kF μ μ'' := ⟨h.1.tr h2.1, fun k a => (h2.2.1 k a).trans (h.2.1 k a), fun j hj => (h2.2.2 j hj).trans (h.2.2 j hj)⟩
theorem tE_k {μ μ' : sM} {T : tT} (h : kF μ μ') (hE : tE μ T) : tE μ' T := tE_fr (h.2.1 0 (by omega)) (h.2.1 4 (by omega)) (fun j hj => h.2.2 j (by omega)) (fun j hj => h.1.2 (66 + j) (by simp; omega)) hE
def tFr (T : tT) (lk : Nat → Nat) (s : List Nat) : Option Nat := (tRun T lk s (tS0 T)).map (fun σ' => tNum σ'.1 T.1)
theorem tLv_rows {T : tT} {lk : Nat → Nat} {m : Nat} : tLv T lk m (tS0 T) = ((List.range' 0 (4 ^ m)).map (tRow m)).filterMap (tFr T lk) := by
  rw [tLv_all, ← List.range_eq_range', tRow_all]
  rfl
theorem c_lockM {d : Nat} {μ1 : sM} {T : tT} {lk : Nat → Nat} {m idx : Nat} {x1 v : Int32} {f : Int32 → sM → Prop} (hT : tW T) (hk : ∀ i, lk i ≤ 1) (hE : tE μ1 T) (hlk : ∀ t, t < 7 → μ1.1 63 (14 + t) = nI (lk t)) (h71 : ∀ t, t < 7 → μ1.1 71 t = nI (T.2 3 t)) (hm : m ≤ 5) (hi : idx < 28) (hend : ∀ μ2, kF μ1 μ2 → sCl sLL mX9_putBack (d + 4) [sR 62] (s_u μ2 63 idx v) (kV fun μ3 => f (nI (dAll [] (tLv T lk m (tS0 T))).length) μ3)) : sG sLL mX9_lock (d + 5) (kI f) 78 [some (sR 62), some (sI x1), some (sI (nI m)), some (sI (nI idx)), some (sI v), some (sI 0), some (sI 0), none, none, none] [] μ1 := by
  have h7 := hT.1.2
  have hL9 : ∀ i, T.2 3 i ≤ 9 := fun i => by have := hT.2.1 3 i; simpa using this
  have p4 := s_p4 hm
  rw [tLv_rows] at hend
  refine s_down (P := fun x => ∀ μ2 D, kF μ1 μ2 → (∀ i z, D[i]? = some z → μ2.1 83 i = nI z ∧ z < 2147483648) → D.length ≤ x → dAll D (((List.range' x (4 ^ m - x)).map (tRow m)).filterMap (tFr T lk)) = dAll [] (((List.range' 0 (4 ^ m)).map (tRow m)).filterMap (tFr T lk)) → sG sLL mX9_lock (d + 4 + 1) (kI f) 78 [some (sR 62), some (sI x1), some (sI (nI m)), some (sI (nI idx)), some (sI v), some (sI (nI D.length)), some (sI (nI x)), none, none, none] [] μ2) (4 ^ m) ?_ ?_ 0 (Nat.zero_le _) μ1 [] kF.rf (fun i z hz => by simp at hz) (Nat.zero_le _) rfl
  · intro μ2 D F2 h83 hd e
    rw [Nat.sub_self] at e
    have e : D = dAll [] (((List.range' 0 (4 ^ m)).map (tRow m)).filterMap (tFr T lk)) := e
    have hend := hend μ2 F2
    rw [← e] at hend
    refine sX9_lock_78 (c_power (by omega) ⟨fun _ => ⟨vp_nI hi (by omega), ?_⟩, fun q => absurd ((nI_leN (by omega) (by omega)).mpr (Nat.le_refl _)) q⟩)
    rw [nI_c (by omega)]
    exact hend
  · intro x hx ih μ2 D F2 h83 hd e
    rw [show 4 ^ m - x = (4 ^ m - (x + 1)) + 1 by omega, List.range'_succ, List.map_cons] at e
    have next : ∀ μ3, kF μ1 μ3 → μ3.1 83 = μ2.1 83 → tFr T lk (tRow m x) = none → sG sLL mX9_lock (d + 4 + 1) (kI f) 78 [some (sR 62), some (sI x1), some (sI (nI m)), some (sI (nI idx)), some (sI v), some (sI (nI D.length)), some (sI (nI x + 1)), none, none, none] [] μ3 := by
      intro μ3 F3 e83 hn
      rw [nI_1]
      rw [List.filterMap_cons_none hn] at e
      exact ih μ3 D F3 (fun i z hz => by rw [e83]; exact h83 i z hz) (by omega) e
    refine sX9_lock_78 (c_power (by omega) ⟨fun q => ?_, fun _ => ?_⟩)
    · have q := (nI_leN (by omega) (by omega)).mp q
      omega
    · refine c_layRow (by omega) (by omega) (fun μ4 hf4 h62 h78 h24 => ?_)
      have F4 : kF μ1 μ4 := F2.tr ⟨hf4.mono (by decide), fun k hk => h62 k (by omega), fun j _ => by rw [hf4.2 63 (by decide)]⟩
      have hrl := tRow_len m x
      have e1 : sI (nI m) = sI (nI (tRow m x).length) := by rw [hrl]
      have cg : ∀ {f2 : Int32 → sM → Prop}, sCl sLL mX9_canGo (d + 1 + 3) [sR 62, sI (nI (tRow m x).length)] μ4 (kI f2) → sCl sLL mX9_canGo (d + 4) [sR 62, sI (nI m)] μ4 (kI f2) := by
        intro f2 hc
        rw [← e1] at hc
        exact hc
      refine cg (c_canGo hT (tE_k F4 hE) (fun t ht => by rw [F4.2.2 _ (by omega)]; exact hlk t ht) hk hL9 (fun t ht => by rw [F4.1.2 71 (by decide)]; exact h71 t ht) (by omega) (tRow_g m x) (fun i hi => h78 i (by omega)) (fun σ μ5 hrun hw hf5 h625 h635 hK5 h745 => ⟨fun w => absurd w (by decide), fun _ => ?_⟩) (fun μ5 hrun hf5 h625 h635 => ⟨fun _ => next μ5 (F4.tr ⟨hf5.mono (by decide), fun k hk => h625 k (by omega) (by omega), h635⟩) (by rw [hf5.2 83 (by decide), hf4.2 83 (by decide)]) ?_, fun w => absurd rfl w⟩))
      · have F5 : kF μ1 μ5 := F4.tr ⟨hf5.mono (by decide), fun k hk => h625 k (by omega) (by omega), h635⟩
        have e83 : μ5.1 83 = μ2.1 83 := by rw [hf5.2 83 (by decide), hf4.2 83 (by decide)]
        have hy : tFr T lk (tRow m x) = some (tNum σ.1 T.1) := by
          unfold tFr
          rw [show tS0 T = (T.2 3, none, fun _ => none) from rfl, hrun]
          rfl
        have y31 := tNum7 hw.1 h7
        rw [List.filterMap_cons_some hy] at e
        have e : dAll (dAdd D (tNum σ.1 T.1)) (((List.range' (x + 1) (4 ^ m - (x + 1))).map (tRow m)).filterMap (tFr T lk)) = dAll [] (((List.range' 0 (4 ^ m)).map (tRow m)).filterMap (tFr T lk)) := e
        refine c_tableNow (lk := lk) (last := none) h7 (tE_k F5 hE).1 (fun t ht => (hK5.1 t ht).2) ?_
        generalize tNum σ.1 T.1 = y at hy y31 e
        refine s_down (P := fun i => ∀ b : Int32, ((b = 1 ∧ y ∈ D) ∨ (b = 0 ∧ ∀ k, k < i → D[k]? ≠ some y)) → sG sLL mX9_lock (d + 4 + 1) (kI f) 115 [some (sR 62), some (sI x1), some (sI (nI m)), some (sI (nI idx)), some (sI v), some (sI (nI D.length)), some (sI (nI x)), some (sI (nI y)), some (sI b), some (sI (nI i))] [] μ5) D.length ?_ ?_ 0 (by omega) 0 (Or.inr ⟨rfl, fun k hk => by omega⟩)
        · intro b hb
          refine sX9_lock_115 ⟨fun _ => ⟨vp_nI (by omega) (by omega), ?_⟩, fun q => absurd ((nI_leN (by omega) (by omega)).mpr (Nat.le_refl _)) q⟩
          rw [nI_c (by omega)]
          have F6 : kF μ1 (s_u μ5 83 D.length (nI y)) := F5.tr ⟨sFr.u (by decide), fun k _ => by rw [s_u_ne (by omega)], fun j _ => by rw [s_u_ne (by omega)]⟩
          have old : ∀ i z, D[i]? = some z → (s_u μ5 83 D.length (nI y)).1 83 i = nI z ∧ z < 2147483648 := by
            intro i z hz
            have hlt : i < D.length := (List.getElem?_eq_some_iff.mp hz).1
            rw [s_u_off (by omega), e83]
            exact h83 i z hz
          rcases hb with ⟨rfl, hb⟩ | ⟨rfl, hb⟩
          · refine ⟨fun w => absurd w (by decide), fun _ => ?_⟩
            unfold dAdd at e
            rw [if_pos hb] at e
            rw [show (0 : Int32) = nI 0 from rfl, nI_add, nI_1]
            exact ih _ D F6 old (by omega) e
          · have yD : y ∉ D := by
              intro w
              obtain ⟨k, hk⟩ := List.mem_iff_getElem?.mp w
              exact hb k (List.getElem?_eq_some_iff.mp hk).1 hk
            refine ⟨fun _ => ?_, fun w => absurd rfl w⟩
            unfold dAdd at e
            rw [if_neg yD] at e
            have := ih _ (D ++ [y]) F6 (fun i z hz => by
              by_cases c : i < D.length
              · rw [List.getElem?_append_left c] at hz
                exact old i z hz
              · rw [List.getElem?_append_right (by omega)] at hz
                have hl := (List.getElem?_eq_some_iff.mp hz).1
                have : i = D.length := by
                  simp only [List.length_cons, List.length_nil] at hl
                  omega
                subst this
                rw [Nat.sub_self] at hz
                have hz : some y = some z := hz
                injection hz with hz
                subst hz
                exact ⟨s_u_at, y31⟩) (by rw [List.length_append]; simp only [List.length_cons, List.length_nil]; omega) e
            rw [List.length_append] at this
            rw [nI_1, nI_1]
            exact this
        · intro i hiD ih2 b hb
          have hz : D[i]? = some D[i] := List.getElem?_eq_getElem hiD
          obtain ⟨hz1, hz2⟩ := h83 i _ hz
          refine sX9_lock_115 ⟨fun q => ?_, fun _ => ?_⟩
          · have q := (nI_leN (by omega) (by omega)).mp q
            omega
          · rw [nI_c (by omega), nI_1, e83, hz1, nI_inj hz2 y31]
            rcases hb with ⟨rfl, hb⟩ | ⟨rfl, hb⟩
            · exact ⟨fun _ => ih2 1 (Or.inl ⟨rfl, hb⟩), fun w => absurd w (by decide)⟩
            · refine ⟨fun w => absurd rfl w, fun _ => ⟨vp_nI (by omega) (by omega), fun q => ih2 0 (Or.inr ⟨rfl, fun k hk => ?_⟩), fun q => ih2 1 (Or.inl ⟨rfl, ?_⟩)⟩⟩
              · by_cases c : k = i
                · subst c
                  rw [hz]
                  intro w
                  injection w with w
                  exact q w
                · exact hb k (by omega)
              · exact List.mem_iff_getElem?.mpr ⟨i, by rw [hz, q]⟩
      · unfold tFr
        rw [show tS0 T = (T.2 3, none, fun _ => none) from rfl, hrun]
        rfl
theorem sB_on7 : ∀ t, t < 7 → ∀ N, N < 128 → nI N ||| ((1 : Int32) <<< (nI t &&& 31)) = nI (N - N / 2 ^ t % 2 * 2 ^ t + 1 * 2 ^ t) := by decide +kernel
theorem va_lk {T : tT} (hT : tW T) (t : Nat) : ∀ i, va_up (T.2 2) t 1 i ≤ 1 := fun i => by
  have := tW_lk hT i
  unfold va_up
  split <;> omega
theorem q_lock {d : Nat} {μ : sM} {Z : tZ} {a b : Int32} {K : Int32 → Int32 → sM → Prop} (hW : zW Z) (hC : zC μ Z) (hM : zM μ Z) (hK : qK K) : sCl sLL mX8_lock (d + 20) [sR 0, sI a, sI b] μ (kI fun r μ1 => sCl sLL mX9_lock (d + 20) [sR 62, sI a, sI b] μ1 (kI fun r2 μ2 => K r r2 μ2)) := by
  have hT := hW.1
  have h7 := hT.1.2
  have z5 : (5 : Int32).toInt = 5 := by decide
  -- the reference behind its tests
  have refA : ∀ {μ1 : sM} {K2 : Int32 → sM → Prop}, a = -1 → (oIn b 0 5 = false → K2 (-2) μ1) → (oIn b 0 5 = true → sCl sLL mX9_keepNow (d + 19) [sR 62] μ1 (kV fun μ2 => sG sLL mX9_lock (d + 20) (kI K2) 78 [some (sR 62), some (sI a), some (sI b), some (sI 0), some (sI (μ2.1 63 0)), some (sI 0), some (sI 0), none, none, none] [] (s_u μ2 63 0 (μ2.1 63 0)))) → sCl sLL mX9_lock (d + 20) [sR 62, sI a, sI b] μ1 (kI K2) := by
    intro μ1 K2 ea k0 k1
    subst ea
    have mono : ∀ {F G : sM → Prop} {μ : sM}, sCl sLL mX9_keepNow (d + 19) [sR 62] μ (kV F) → (∀ μ, F μ → G μ) → sCl sLL mX9_keepNow (d + 19) [sR 62] μ (kV G) := fun h hFG => sG.mono h (fun r μ hr => by
      cases r with
      | none => exact hFG μ hr
      | some _ => exact hr)
    refine eX9_lock ⟨fun _ => c_inN 0 5 (by decide) (by decide) (fun c => ⟨fun _ => mono (k1 c) (fun μ2 h2 => ⟨fun w => absurd w (by decide), fun _ => ⟨fun w => absurd w (by decide), fun _ => h2⟩⟩), fun w => absurd w (by decide)⟩) (fun c => ⟨fun w => absurd rfl w, fun _ => k0 c⟩), fun w => absurd rfl w⟩
  have refB : ∀ {μ1 : sM} {K2 : Int32 → sM → Prop} {t : Nat}, zM μ1 Z → t < Z.1.1 → a = nI t → (oIn b 0 5 = false → K2 (-2) μ1) → (oIn b 0 5 = true → sCl sLL mX9_keepNow (d + 19) [sR 62] μ1 (kV fun μ2 => sG sLL mX9_lock (d + 20) (kI K2) 78 [some (sR 62), some (sI a), some (sI b), some (sI (nI (14 + t))), some (sI (μ2.1 63 (14 + t))), some (sI 0), some (sI 0), none, none, none] [] (s_u μ2 63 (14 + t) 1))) → sCl sLL mX9_lock (d + 20) [sR 62, sI a, sI b] μ1 (kI K2) := by
    intro μ1 K2 t hM1 ht ea k0 k1
    subst ea
    have mono : ∀ {F G : sM → Prop} {μ : sM}, sCl sLL mX9_keepNow (d + 19) [sR 62] μ (kV F) → (∀ μ, F μ → G μ) → sCl sLL mX9_keepNow (d + 19) [sR 62] μ (kV G) := fun h hFG => sG.mono h (fun r μ hr => by
      cases r with
      | none => exact hFG μ hr
      | some _ => exact hr)
    have pos : (0 : Int32) ≤ nI t := by rw [fa_le, s_z0, nI_i (by omega)]; omega
    refine eX9_lock ⟨fun w => ?_, fun _ => c_isThing hM1.1.1.1 hT.1.1 h7 (fun t' ht' e => ⟨fun _ => c_inN 0 5 (by decide) (by decide) (fun c => ⟨fun _ => mono (k1 c) (fun μ2 h2 => ⟨fun _ => c_at 2 t ⟨vp_nI (by omega) (by omega), fun _ => ?_, fun w => absurd pos w⟩, fun w => absurd pos w⟩), fun w => absurd w (by decide)⟩) (fun c => ⟨fun w => absurd rfl w, fun _ => k0 c⟩), fun w => absurd w (by decide)⟩) (fun q => ?_)⟩
    · have w := (fa_eq _ _).mp w
      rw [nI_i (by omega), show (-1 : Int32).toInt = -1 by decide] at w
      omega
    · rw [nI_c (by omega), show 7 * 2 + t = 14 + t by omega]
      exact h2
    · rw [nI_i (by omega)] at q
      omega
  -- the answer of the reference, b in its range
  have ans : ∀ {μ1 μ2 : sM} {r : Int32} {m idx : Nat} {lk : Nat → Nat} {v w : Int32}, zC μ1 Z → zM μ1 Z → sFr [71, 72] μ1 μ2 → (∀ i, i < 7 → μ2.1 71 i = μ1.1 63 (21 + i) ∧ μ2.1 72 i = μ1.1 64 i) → m ≤ 5 → idx < 21 → v = μ2.1 63 idx → (∀ i, lk i ≤ 1) → tE (s_u μ2 63 idx w) Z.1 → (∀ t, t < 7 → (s_u μ2 63 idx w).1 63 (14 + t) = nI (lk t)) → r = nI (dAll [] (tLv Z.1 lk m (tS0 Z.1))).length → sG sLL mX9_lock (d + 20) (kI fun r2 μ2 => K r r2 μ2) 78 [some (sR 62), some (sI a), some (sI (nI m)), some (sI (nI idx)), some (sI v), some (sI 0), some (sI 0), none, none, none] [] (s_u μ2 63 idx w) := by
    intro μ1 μ2 r m idx lk v w hC1 hM1 hf2 hb2 hm hidx hv hk hE hlk hr
    refine c_lockM (d := d + 15) hT hk hE hlk (fun t ht => by rw [s_u_ne (by omega), (hb2 t ht).1]; exact (hM1.1.2 t ht).2.1) hm (by omega) (fun μ3 F3 => c_putBack (fun μ4 hf4 h63 hb4 => ?_))
    rw [← hr]
    have Q : mQ μ1 μ4 := by
      refine ⟨mG.of (S := mS) ?_ (by simp) (fun k hk => ?_) (fun j hj => ?_), fun i hi => ?_⟩
      · exact ((((hf2.mono (by decide)).tr (sFr.u (by decide))).tr (F3.1.mono (by decide))).tr (sFr.u (by decide))).tr (hf4.mono (by decide))
      · rw [hf4.2 62 (by decide), s_u_ne (by omega), F3.2.1 k hk, s_u_ne (by omega), hf2.2 62 (by decide)]
      · rw [h63 j hj]
        by_cases c : j = idx
        · rw [c, s_u_at, hv, hf2.2 63 (by decide)]
        · rw [s_u_off c, F3.2.2 j hj, s_u_off c, hf2.2 63 (by decide)]
      · rw [(hb4 i hi).1, (hb4 i hi).2, s_u_ne (by omega), s_u_ne (by omega), F3.1.2 71 (by decide), F3.1.2 72 (by decide), s_u_ne (by omega), s_u_ne (by omega)]
        exact hb2 i hi
    exact hK _ μ4 Z hW (zC_B (zB_Q Q) hC1) (zM_Q Q hM1)
  have tE2 : ∀ {μ1 μ2 : sM}, zM μ1 Z → sFr [71, 72] μ1 μ2 → tE μ2 Z.1 := fun hM1 hf2 => tE_fr (by rw [hf2.2 62 (by decide)]) (by rw [hf2.2 62 (by decide)]) (fun j _ => by rw [hf2.2 63 (by decide)]) (fun j hj => hf2.2 (66 + j) (by simp; omega)) hM1.1.1
  refine eX8_lock ⟨fun ea => ?_, fun ea => c_hasThing hC.1.1 h7 (fun t ht e => ⟨fun _ => ?_, fun w => absurd w (by decide)⟩) (fun q => ⟨fun w => absurd rfl w, fun _ => ?_⟩)⟩
  · by_cases c : oIn b 0 5 = true
    · obtain ⟨m, hm, rfl, -⟩ := oIn_nat (hi := 5) (by omega) c
      refine ⟨fun q => absurd q (nI_pos (by omega)), fun _ => ⟨fun _ => c_begin hC.1 (fun μ1 hf1 hk1 => ⟨fun _ => ?_, fun w => absurd (by rw [ea]; decide) w⟩), fun q => absurd ((nI_leN (b := 5) (by omega) (by omega)).mpr hm) q⟩⟩
      refine c_howManyL (d := d + 9) hT (tW_lk hT) (tC_S hC.1 hf1 (by decide)) hk1 hm (fun μ2 hf2 => ?_)
      have hC2 := zC_S hf2 (by decide) (zC_S hf1 (by decide) hC)
      have hM2 := zM_A (zA_S hf2 (by decide)) (zM_A (zA_S hf1 (by decide)) hM)
      refine refA ea (fun w => by rw [c] at w; cases w) (fun _ => c_keepNow (fun μ3 hf3 hb3 => ?_))
      have same : ∀ j, (s_u μ3 63 0 (μ3.1 63 0)).1 63 j = μ3.1 63 j := fun j => by
        by_cases cj : j = 0
        · rw [cj, s_u_at]
        · rw [s_u_off cj]
      exact ans (idx := 0) (lk := Z.1.2 2) hC2 hM2 hf3 hb3 hm (by omega) rfl (tW_lk hT) (tE_fr (by rw [s_u_ne (by omega)]) (by rw [s_u_ne (by omega)]) (fun j _ => same j) (fun j hj => s_u_ne (by omega)) (tE2 hM2 hf3)) (fun t ht => by rw [same, hf3.2 63 (by decide)]; exact (hM2.1.2 t ht).1) rfl
    · have c : oIn b 0 5 = false := by simpa using c
      have out := refA (K2 := fun r2 μ2 => K (-2) r2 μ2) ea (fun _ => hK _ μ Z hW hC hM) (fun w => by rw [c] at w; cases w)
      simp only [oIn, decide_eq_false_iff_not] at c
      refine ⟨fun _ => out, fun q => ⟨fun q2 => ?_, fun _ => out⟩⟩
      rw [fa_lt, s_z0] at q
      rw [fa_le, z5] at q2
      omega
  · by_cases c : oIn b 0 5 = true
    · obtain ⟨m, hm, rfl, -⟩ := oIn_nat (hi := 5) (by omega) c
      refine ⟨fun q => absurd q (nI_pos (by omega)), fun _ => ⟨fun _ => c_begin hC.1 (fun μ1 hf1 hk1 => ⟨fun w => absurd w (by rw [e]; exact nI_pos (by omega)), fun _ => ?_⟩), fun q => absurd ((nI_leN (b := 5) (by omega) (by omega)).mpr hm) q⟩⟩
      have F2 : sFr [35] μ1 (s_u μ1 35 2 ((μ1.1 35 2) ||| ((1 : Int32) <<< (a &&& 31)))) := sFr.u (by decide)
      have K2 : kC (s_u μ1 35 2 ((μ1.1 35 2) ||| ((1 : Int32) <<< (a &&& 31)))) (va_up (Z.1.2 2) t 1) (Z.1.2 3) none := by
        refine ⟨?_, fun i hi => by rw [s_u_ne (by omega)]; exact hk1.2.1 i hi, by rw [s_u_off (by omega)]; exact hk1.2.2⟩
        rw [s_u_at, hk1.1, e, sB_on7 t (by omega) _ (tB_lt (tW_lk hT) 7), tB_up7 (tW_lk hT) (by omega)]
      refine c_howManyL (d := d + 9) hT (va_lk hT t) (tC_S (tC_S hC.1 hf1 (by decide)) F2 (by decide)) K2 hm (fun μ3 hf3 => ?_)
      have hC3 := zC_S hf3 (by decide) (zC_S F2 (by decide) (zC_S hf1 (by decide) hC))
      have hM3 := zM_A (zA_S hf3 (by decide)) (zM_A (zA_S F2 (by decide)) (zM_A (zA_S hf1 (by decide)) hM))
      refine refB hM3 ht e (fun w => by rw [c] at w; cases w) (fun _ => c_keepNow (fun μ4 hf4 hb4 => ?_))
      refine ans (idx := 14 + t) (lk := va_up (Z.1.2 2) t 1) hC3 hM3 hf4 hb4 hm (by omega) rfl (va_lk hT t) (tE_fr (by rw [s_u_ne (by omega)]) (by rw [s_u_ne (by omega)]) (fun j hj => s_u_off (by omega)) (fun j hj => s_u_ne (by omega)) (tE2 hM3 hf4)) (fun i hi => ?_) rfl
      by_cases cj : i = t
      · rw [cj, s_u_at]
        unfold va_up
        rw [if_pos rfl]
        rfl
      · rw [s_u_off (by omega), hf4.2 63 (by decide), (hM3.1.2 i hi).1]
        unfold va_up
        rw [if_neg cj]
    · have c : oIn b 0 5 = false := by simpa using c
      have out := refB (K2 := fun r2 μ2 => K (-2) r2 μ2) hM ht e (fun _ => hK _ μ Z hW hC hM) (fun w => by rw [c] at w; cases w)
      simp only [oIn, decide_eq_false_iff_not] at c
      refine ⟨fun _ => out, fun q => ⟨fun q2 => ?_, fun _ => out⟩⟩
      rw [fa_lt, s_z0] at q
      rw [fa_le, z5] at q2
      omega
  · refine eX9_lock ⟨fun w => absurd w ea, fun _ => c_isThing hM.1.1.1 hT.1.1 h7 (fun t ht e => ?_) (fun _ => ⟨fun w => absurd rfl w, fun _ => hK _ μ Z hW hC hM⟩)⟩
    subst e
    rw [nI_i (by omega)] at q
    omega
