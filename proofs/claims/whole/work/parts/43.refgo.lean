-- THE REFERENCE GATHERS ROWS: countRow, goRows
def aMN (μ : sM) (h : List tR) : Prop := μ.1 62 25 = nI h.length ∧ μ.1 62 26 = nO (h.head?.map (fun e => e.1.length)) ∧ (∀ e, h.head? = some e → ∀ i, i < e.1.length → μ.1 79 i = nI (e.1.getD i 0)) ∧ μ.1 62 27 = nI (hSure h) ∧ μ.1 62 28 = nI (hMaybe h)
def aMT (μ : sM) (h : List tR) (t : Nat) : Prop := μ.1 80 t = nI (hCup h t) ∧ ∀ v, v < 10 → μ.1 81 (10 * t + v) = nI (hBy h t v)
def aM (μ : sM) (n : Nat) (h : List tR) : Prop := aMN μ h ∧ ∀ t, t < n → aMT μ h t
theorem aMN_fr {μ μ' : sM} {h : List tR} (h62 : ∀ k, k = 25 ∨ k = 26 ∨ k = 27 ∨ k = 28 → μ'.1 62 k = μ.1 62 k) (h79 : μ'.1 79 = μ.1 79) (a : aMN μ h) : aMN μ' h := by
  unfold aMN
  rw [h62 25 (by omega), h62 26 (by omega), h62 27 (by omega), h62 28 (by omega), h79]
  exact a
theorem aM_fr {μ μ' : sM} {n : Nat} {h : List tR} (h62 : ∀ k, k = 25 ∨ k = 26 ∨ k = 27 ∨ k = 28 → μ'.1 62 k = μ.1 62 k) (h79 : μ'.1 79 = μ.1 79) (h80 : μ'.1 80 = μ.1 80) (h81 : μ'.1 81 = μ.1 81) (a : aM μ n h) : aM μ' n h := by
  refine ⟨aMN_fr h62 h79 a.1, fun t ht => ?_⟩
  unfold aMT
  rw [h80, h81]
  exact a.2 t ht
theorem c_countRow {d : Nat} {μ : sM} {n : Nat} {h : List tR} {r : List Nat} {σ : tS} {f : sM → Prop} (h7 : n ≤ 7) (hn : μ.1 62 0 = nI n) (hrl : r.length ≤ 6) (hr : ∀ i, i < r.length → μ.1 78 i = nI (r.getD i 0)) (h24 : μ.1 62 24 = nI (hWho r)) (hL9 : ∀ i, σ.1 i ≤ 9) (hL : ∀ t, t < 7 → μ.1 63 (21 + t) = nI (σ.1 t)) (hF4 : ∀ t g, σ.2.2 t = some g → g < 4) (hF : ∀ t, t < 7 → μ.1 74 t = nO (σ.2.2 t))
    (hh : h.length < 1000000) (ha : aM μ n h) (hf : ∀ μ', sFr [62, 79, 80, 81] μ μ' → (∀ k, k < 25 ∨ 28 < k → μ'.1 62 k = μ.1 62 k) → aM μ' n (h ++ [(r, σ)]) → f μ') : sCl sLL mX9_countRow (d + 1) [sR 62, sI (nI r.length)] μ (kV f) := by
  have hlen : (h ++ [(r, σ)]).length = h.length + 1 := by simp
  have loop : ∀ μ1, sFr [62, 79] μ μ1 → (∀ k, k < 25 ∨ 28 < k → μ1.1 62 k = μ.1 62 k) → aMN μ1 (h ++ [(r, σ)]) → sG sLL mX9_countRow (d + 1) (kV f) 75 [some (sR 62), some (sI (nI r.length)), some (sI 0)] [] μ1 := by
    intro μ1 hf1 h621 hN1
    refine s_down (P := fun t => ∀ μ2, sFr [62, 79, 80, 81] μ μ2 → (∀ k, k < 25 ∨ 28 < k → μ2.1 62 k = μ.1 62 k) → aMN μ2 (h ++ [(r, σ)]) → (∀ i, i < t → aMT μ2 (h ++ [(r, σ)]) i) → (∀ i, t ≤ i → i < n → aMT μ2 h i) → sG sLL mX9_countRow (d + 1) (kV f) 75 [some (sR 62), some (sI (nI r.length)), some (sI (nI t))] [] μ2) n ?_ ?_ 0 (by omega) μ1 (hf1.mono (by decide)) h621 hN1 (fun i hi => by omega) (fun i _ hi => by
      unfold aMT
      rw [hf1.2 80 (by decide), hf1.2 81 (by decide)]
      exact ha.2 i hi)
    · intro μ2 hf2 h62 hN2 h1 h2
      refine sX9_countRow_75 ⟨fun _ => hf μ2 hf2 h62 ⟨hN2, h1⟩, fun q => ?_⟩
      rw [h62 0 (by omega), hn] at q
      exact absurd ((nI_leN (by omega) (by omega)).mpr (Nat.le_refl _)) q
    · intro t ht ih μ2 hf2 h62 hN2 h1 h2
      have bL := hL9 t
      have e74 : μ2.1 74 = μ.1 74 := hf2.2 74 (by decide)
      have e63 : μ2.1 63 = μ.1 63 := hf2.2 63 (by decide)
      have at0 := h2 t (Nat.le_refl _) ht
      have go : ∀ B, hBit (σ.2.2 t) = B → sCl sLL mX9_at d [sI 3, sI (nI t)] (s_u μ2 80 t ((μ2.1 80 t) ||| nI B)) (kI fun r1 μ1 => (vp_in r1 28 ∧ (vp_in ((10 * nI t) + (μ1.1 63 r1.toNatClampNeg)) 70 ∧ sG sLL mX9_countRow (d + 1) (kV f) 75 [some (sR 62), some (sI (nI r.length)), some (sI (nI (t + 1)))] [] (s_u μ1 81 (((10 * nI t) + (μ1.1 63 r1.toNatClampNeg)).toNatClampNeg) ((μ1.1 81 ((10 * nI t) + (μ1.1 63 r1.toNatClampNeg)).toNatClampNeg) + 1))))) := by
        intro B hB
        refine c_at 3 t ⟨vp_nI (by omega) (by omega), ?_⟩
        have e10 : (10 : Int32) * nI t + nI (σ.1 t) = nI (10 * t + σ.1 t) := by rw [show (10 : Int32) = nI 10 from rfl, pk_mul, nI_add]
        rw [nI_c (by omega), show 7 * 3 + t = 21 + t by omega, s_u_ne (show (63 : Nat) ≠ 80 by omega), e63, hL t (by omega), e10]
        refine ⟨vp_nI (by omega) (by omega), ?_⟩
        rw [nI_c (by omega), s_u_ne (show (81 : Nat) ≠ 80 by omega), at0.2 _ (by omega), nI_1]
        refine ih _ ((hf2.tr (sFr.u (by decide))).tr (sFr.u (by decide))) (fun k hk => by rw [s_u_ne (by omega), s_u_ne (by omega)]; exact h62 k hk) (aMN_fr (fun k _ => by rw [s_u_ne (by omega), s_u_ne (by omega)]) (by rw [s_u_ne (by omega), s_u_ne (by omega)]) hN2) (fun i hi => ?_) (fun i hi hin => ?_)
        · by_cases c : i = t
          · subst c
            refine ⟨?_, fun v hv => ?_⟩
            · rw [s_u_ne (by omega), s_u_at, at0.1, fa_or, hCup_app, hB]
            · rw [hBy_app]
              by_cases c2 : v = σ.1 i
              · subst c2
                rw [s_u_at]
                simp
              · rw [s_u_off (by omega), s_u_ne (by omega), at0.2 _ hv]
                simp [Ne.symm c2]
          · have := h1 i (by omega)
            refine ⟨?_, fun v hv => ?_⟩
            · rw [s_u_ne (by omega), s_u_off c]; exact this.1
            · rw [s_u_off (by omega), s_u_ne (by omega)]; exact this.2 v hv
        · have := h2 i (by omega) hin
          refine ⟨?_, fun v hv => ?_⟩
          · rw [s_u_ne (by omega), s_u_off (by omega)]; exact this.1
          · rw [s_u_off (by omega), s_u_ne (by omega)]; exact this.2 v hv
      refine sX9_countRow_75 ⟨fun q => ?_, fun q => ⟨vp_nI (by omega) (by omega), ?_⟩⟩
      · rw [h62 0 (by omega), hn] at q
        have q := (nI_leN (by omega) (by omega)).mp q
        omega
      · rw [nI_c (by omega), e74, hF t (by omega), nI_1]
        cases hg : σ.2.2 t with
        | none =>
          refine ⟨fun w => ?_, fun _ => ?_⟩
          · simp only [nO, fa_le, s_z0] at w
            have : (-6 : Int32).toInt = -6 := by decide
            omega
          · exact go 16 (by rw [hg]; rfl)
        | some g =>
          have hg4 := hF4 t g hg
          refine ⟨fun _ => ?_, fun w => absurd (nI_pos' (by omega)) w⟩
          have := go (2 ^ g) (by rw [hg]; rfl)
          rw [← s_shl1 g (by omega)] at this
          exact this
  obtain ⟨a1, a2, a3, a4, a5⟩ := ha.1
  have hmay : hMaybe (h ++ [(r, σ)]) = hMaybe h ||| hWho r := by simp [hMaybe, List.foldl_append]
  have hsur : hSure (h ++ [(r, σ)]) = hSure h &&& hWho r := by simp [hSure, List.foldl_append]
  refine eX9_countRow ⟨fun q => ?_, fun q => ?_⟩
  · rw [a1, nI_is0 (by omega)] at q
    have hh2 : (h ++ [(r, σ)]).head? = h.head? := by
      cases h with
      | nil => simp at q
      | cons x l => rfl
    refine loop _ (((sFr.u (by decide)).tr (sFr.u (by decide))).tr (sFr.u (by decide))) (fun k hk => by rw [s_u_off (by omega), s_u_off (by omega), s_u_off (by omega)]) ⟨?_, ?_, fun e' he' i hi => ?_, ?_, ?_⟩
    · rw [s_u_off (by omega), s_u_off (by omega), s_u_at, a1, nI_1, hlen]
    · rw [s_u_off (by omega), s_u_off (by omega), s_u_off (by omega), a2, hh2]
    · rw [hh2] at he'
      rw [s_u_ne (by omega), s_u_ne (by omega), s_u_ne (by omega)]
      exact a3 e' he' i hi
    · rw [s_u_off (by omega), s_u_at, a4, h24, fa_and, hsur]
    · rw [s_u_at, a5, h24, fa_or, hmay]
  · rw [a1, nI_is0 (by omega)] at q
    have hh0 : h = [] := List.eq_nil_of_length_eq_zero q
    refine s_down (P := fun i => ∀ μ2, sFr [62, 79] μ μ2 → (∀ k, k ≠ 26 → μ2.1 62 k = μ.1 62 k) → μ2.1 62 26 = nI r.length → (∀ j, j < i → μ2.1 79 j = nI (r.getD j 0)) → sG sLL mX9_countRow (d + 1) (kV f) 14 [some (sR 62), some (sI (nI r.length)), some (sI (nI i))] [] μ2) r.length ?_ ?_ 0 (by omega) _ (sFr.u (by decide)) (fun k hk => s_u_off hk) s_u_at (fun j hj => by omega)
    · intro μ2 hf2 h62 h26 h79
      refine sX9_countRow_14 ⟨fun _ => ?_, fun q => absurd ((nI_leN (by omega) (by omega)).mpr (Nat.le_refl _)) q⟩
      rw [h62 25 (by omega), h62 27 (by omega), h62 28 (by omega), h62 24 (by omega)]
      refine loop _ (((hf2.tr (sFr.u (by decide))).tr (sFr.u (by decide))).tr (sFr.u (by decide))) (fun k hk => by rw [s_u_off (by omega), s_u_off (by omega), s_u_off (by omega)]; exact h62 k (by omega)) ⟨?_, ?_, fun e' he' i hi => ?_, ?_, ?_⟩
      · rw [s_u_off (by omega), s_u_off (by omega), s_u_at, a1, nI_1, hlen]
      · rw [s_u_off (by omega), s_u_off (by omega), s_u_off (by omega), h26, hh0]
        rfl
      · rw [hh0] at he'
        cases he'
        rw [s_u_ne (by omega), s_u_ne (by omega), s_u_ne (by omega)]
        exact h79 i hi
      · rw [s_u_off (by omega), s_u_at, a4, h24, fa_and, hsur]
      · rw [s_u_at, a5, h24, fa_or, hmay]
    · intro i hi ih μ2 hf2 h62 h26 h79
      refine sX9_countRow_14 ⟨fun q => ?_, fun _ => ⟨vp_nI (by omega) (by omega), ?_⟩⟩
      · have q := (nI_leN (by omega) (by omega)).mp q
        omega
      · rw [nI_c (by omega), nI_1, hf2.2 78 (by decide), hr i hi]
        refine ih _ (hf2.tr (sFr.u (by decide))) (fun k hk => by rw [s_u_ne (by omega)]; exact h62 k hk) (by rw [s_u_ne (by omega)]; exact h26) (fun j hj => ?_)
        by_cases c : j = i
        · subst c; exact s_u_at
        · rw [s_u_off c]; exact h79 j (by omega)
abbrev goS : List Nat := [62, 63, 64, 71, 72, 74, 78, 79, 80, 81]
/-- the frame of goRows while it works -/
def goF (μ μ' : sM) : Prop := sFr goS μ μ' ∧ (∀ k, k = 0 ∨ k = 4 ∨ k = 10 → μ'.1 62 k = μ.1 62 k) ∧ (∀ j, j < 21 → μ'.1 63 j = μ.1 63 j) ∧ ∀ i, i < 7 → μ'.1 71 i = μ.1 63 (21 + i) ∧ μ'.1 72 i = μ.1 64 i
theorem goF_E {μ μ' : sM} {T : tT} (h : goF μ μ') (hE : tE μ T) : tE μ' T := tE_fr (h.2.1 0 (by omega)) (h.2.1 4 (by omega)) (fun j hj => h.2.2.1 j (by omega)) (fun j hj => h.1.2 (66 + j) (by simp; omega)) hE
theorem tLex_len {T : tT} {lk S : Nat → Nat} {σ : tS} {m : Nat} (hm : m ≤ 6) : (tLex T lk S σ m).length < 1000000 := by
  have p := (hSame_perm (tDfs_lex (T := T) (lk := lk) (S := S) (σ := σ) (m := m)) (m := 7) (tDfs_6 hm) (fun e he => by
    obtain ⟨k, hk, he⟩ := List.mem_flatMap.mp he
    obtain ⟨s, hs, he⟩ := List.mem_filterMap.mp he
    have := tEnt_len he
    have h2 := (tAll_len hs).1
    have hk := List.mem_range.mp hk
    simp [this]
    omega)).length_eq
  have := tDfs_small (T := T) (lk := lk) (S := S) (σ := σ) hm
  omega
theorem tLex_7 {T : tT} {lk S : Nat → Nat} {σ : tS} {m : Nat} (hm : m ≤ 6) : ∀ e ∈ tLex T lk S σ m, e.1.length < 7 := fun e he => by
  obtain ⟨k, hk, he⟩ := List.mem_flatMap.mp he
  obtain ⟨s, hs, he⟩ := List.mem_filterMap.mp he
  have := tEnt_len he
  have h2 := (tAll_len hs).1
  have hk := List.mem_range.mp hk
  simp [this]
  omega
theorem filterMap_le {α β : Type} (f : α → Option β) : ∀ l : List α, (l.filterMap f).length ≤ l.length := fun l => List.length_filterMap_le f l
theorem tAll_length : ∀ k, (tAll k).length = 4 ^ k := fun k => by rw [← tRow_all k]; simp
set_option maxHeartbeats 4000000 in
theorem c_goRows {d : Nat} {μ : sM} {T : tT} {m : Nat} {f : sM → Prop} (hT : tW T) (hE : tE μ T) (hlk : ∀ t, t < 7 → μ.1 63 (14 + t) = nI (T.2 2 t)) (hle : ∀ t, t < 7 → μ.1 63 (21 + t) = nI (T.2 3 t)) (hS : ∀ t, t < 7 → μ.1 65 t = nS (T.2 5 t)) (hm : m ≤ 6) (h : ∀ μ', mQ μ μ' → aM μ' T.1 (tLex T (T.2 2) (T.2 5) (tS0 T) m) → f μ') : sCl sLL mX9_goRows (d + 4) [sR 62, sI (nI m)] μ (kV f) := by
  have h7 := hT.1.2
  have hk : ∀ i, T.2 2 i ≤ 1 := fun i => (hT.2.2.1 i).1
  have hL9 : ∀ i, T.2 3 i ≤ 9 := fun i => by have := hT.2.1 3 i; simpa using this
  have chunk : Nat → List tR := fun k => (tAll k).filterMap (tEnt T (T.2 2) (T.2 5) [] (tS0 T))
  refine eX9_goRows (c_keepNow (fun μ1 hf1 hb1 => ?_))
  -- number behind number
  have loop77 : ∀ (k : Nat), k ≤ m → (∀ μ2, goF μ μ2 → aM μ2 T.1 ((List.range (k + 1)).flatMap (fun k => (tAll k).filterMap (tEnt T (T.2 2) (T.2 5) [] (tS0 T)))) → sG sLL mX9_goRows (d + 3 + 1) (kV f) 70 [some (sR 62), some (sI (nI m)), some (sI (nI (k + 1))), none] [] μ2) → ∀ μ2, goF μ μ2 → aM μ2 T.1 ((List.range k).flatMap (fun k => (tAll k).filterMap (tEnt T (T.2 2) (T.2 5) [] (tS0 T)))) → sG sLL mX9_goRows (d + 3 + 1) (kV f) 77 [some (sR 62), some (sI (nI m)), some (sI (nI k)), some (sI 0)] [] μ2 := by
    intro k hkm hnext μ2 hF2 hA2
    have h4k := pow4_le (n := k) (by omega)
    have hpre : ((List.range k).flatMap (fun k => (tAll k).filterMap (tEnt T (T.2 2) (T.2 5) [] (tS0 T)))).length < 1000000 - 10000 := by
      have key : ∀ n, n ≤ 6 → ((List.range n).flatMap (fun k => (tAll k).filterMap (tEnt T (T.2 2) (T.2 5) [] (tS0 T)))).length ≤ n * 4096 := by
        intro n
        induction n with
        | zero => simp
        | succ n ihn =>
          intro hn
          rw [List.range_succ, List.flatMap_append, List.length_append]
          have a := ihn (by omega)
          have b := filterMap_le (tEnt T (T.2 2) (T.2 5) [] (tS0 T)) (tAll n)
          have c := pow4_le (n := n) (by omega)
          rw [tAll_length] at b
          simp only [List.flatMap_cons, List.flatMap_nil, List.append_nil]
          omega
      have := key k (by omega)
      omega
    refine s_down (P := fun x => ∀ μ3, goF μ μ3 → aM μ3 T.1 ((List.range k).flatMap (fun k => (tAll k).filterMap (tEnt T (T.2 2) (T.2 5) [] (tS0 T))) ++ ((List.range x).map (tRow k)).filterMap (tEnt T (T.2 2) (T.2 5) [] (tS0 T))) → sG sLL mX9_goRows (d + 3 + 1) (kV f) 77 [some (sR 62), some (sI (nI m)), some (sI (nI k)), some (sI (nI x))] [] μ3) (4 ^ k) ?_ ?_ 0 (Nat.zero_le _) μ2 hF2 (by simpa using hA2)
    · intro μ3 hF3 hA3
      refine sX9_goRows_77 (c_power (by omega) ⟨fun _ => ?_, fun q => absurd ((nI_leN (by omega) (by omega)).mpr (Nat.le_refl _)) q⟩)
      rw [nI_1]
      refine hnext μ3 hF3 ?_
      rw [tRow_all] at hA3
      rw [List.range_succ, List.flatMap_append]
      simpa using hA3
    · intro x hx ih μ3 hF3 hA3
      have hlen3 : ((List.range k).flatMap (fun k => (tAll k).filterMap (tEnt T (T.2 2) (T.2 5) [] (tS0 T))) ++ ((List.range x).map (tRow k)).filterMap (tEnt T (T.2 2) (T.2 5) [] (tS0 T))).length < 1000000 := by
        have := filterMap_le (tEnt T (T.2 2) (T.2 5) [] (tS0 T)) ((List.range x).map (tRow k))
        simp only [List.length_map, List.length_range] at this
        rw [List.length_append]
        omega
      refine sX9_goRows_77 (c_power (by omega) ⟨fun q => ?_, fun _ => ?_⟩)
      · have q := (nI_leN (by omega) (by omega)).mp q
        omega
      · refine c_layRow (by omega) (by omega) (fun μ4 hf4 h62 h78 h24 => ?_)
        have hF4 : goF μ μ4 := ⟨hF3.1.tr (hf4.mono (by decide)), fun j hj => by rw [h62 j (by omega)]; exact hF3.2.1 j hj, fun j hj => by rw [hf4.2 63 (by decide)]; exact hF3.2.2.1 j hj, fun i hi => by rw [hf4.2 71 (by decide), hf4.2 72 (by decide)]; exact hF3.2.2.2 i hi⟩
        have hA4 := aM_fr (fun j _ => h62 j (by omega)) (hf4.2 79 (by decide)) (hf4.2 80 (by decide)) (hf4.2 81 (by decide)) hA3
        have hrl := tRow_len k x
        have e1 : sI (nI k) = sI (nI (tRow k x).length) := by rw [hrl]
        rw [e1]
        have next : ∀ μ5, goF μ μ5 → aM μ5 T.1 ((List.range k).flatMap (fun k => (tAll k).filterMap (tEnt T (T.2 2) (T.2 5) [] (tS0 T))) ++ ((List.range x).map (tRow k)).filterMap (tEnt T (T.2 2) (T.2 5) [] (tS0 T)) ++ (tEnt T (T.2 2) (T.2 5) [] (tS0 T) (tRow k x)).toList) → sG sLL mX9_goRows (d + 3 + 1) (kV f) 77 [some (sR 62), some (sI (nI m)), some (sI (nI (tRow k x).length)), some (sI (nI x + 1))] [] μ5 := by
          intro μ5 hF5 hA5
          rw [hrl, nI_1]
          refine ih μ5 hF5 ?_
          rw [List.range_succ, List.map_append, List.filterMap_append, ← List.append_assoc]
          have e : [x].map (tRow k) = [tRow k x] := rfl
          rw [e]
          have e2 : [tRow k x].filterMap (tEnt T (T.2 2) (T.2 5) [] (tS0 T)) = (tEnt T (T.2 2) (T.2 5) [] (tS0 T) (tRow k x)).toList := by
            cases hq : tEnt T (T.2 2) (T.2 5) [] (tS0 T) (tRow k x) <;> simp [hq]
          rw [e2]
          exact hA5
        refine c_canGo hT (goF_E hF4 hE) (fun t ht => by rw [hF4.2.2.1 _ (by omega)]; exact hlk t ht) hk hL9 (fun t ht => by rw [(hF4.2.2.2 t ht).1]; exact hle t ht) (by omega) (tRow_g k x) (fun i hi => h78 i (by omega)) (fun σ μ5 hrun hw hf5 h625 h635 hK5 h745 => ⟨fun w => absurd w (by decide), fun _ => ?_⟩) (fun μ5 hrun hf5 h625 h635 => ⟨fun _ => ?_, fun w => absurd rfl w⟩)
        · have hF5 : goF μ μ5 := ⟨hF4.1.tr (hf5.mono (by decide)), fun j hj => by rw [h625 j (by omega) (by omega)]; exact hF4.2.1 j hj, fun j hj => by rw [h635 j hj]; exact hF4.2.2.1 j hj, fun i hi => by rw [hf5.2 71 (by decide), hf5.2 72 (by decide)]; exact hF4.2.2.2 i hi⟩
          have hA5 := aM_fr (fun j _ => h625 j (by omega) (by omega)) (hf5.2 79 (by decide)) (hf5.2 80 (by decide)) (hf5.2 81 (by decide)) hA4
          refine c_isSeenSo h7 (goF_E hF5 hE).1 (fun t ht => (hK5.1 t ht).2) hw.1 (fun t ht => by rw [hF5.1.2 65 (by decide)]; exact hS t ht) (tW_S hT) (fun hs => ⟨fun w => absurd w (by decide), fun _ => ?_⟩) (fun hs => ⟨fun _ => next μ5 hF5 ?_, fun w => absurd rfl w⟩)
          · refine c_countRow (σ := σ) (r := tRow k x) h7 (goF_E hF5 hE).1 (by omega) (fun i hi => by rw [hf5.2 78 (by decide)]; exact h78 i (by omega)) (by rw [h625 24 (by omega) (by omega)]; exact h24) hw.1 (fun t ht => (hK5.1 t ht).2) hw.2.2 h745 hlen3 hA5 (fun μ6 hf6 h626 hA6 => ?_)
            have hF6 : goF μ μ6 := ⟨hF5.1.tr (hf6.mono (by decide)), fun j hj => by rw [h626 j (by omega)]; exact hF5.2.1 j hj, fun j hj => by rw [hf6.2 63 (by decide)]; exact hF5.2.2.1 j hj, fun i hi => by rw [hf6.2 71 (by decide), hf6.2 72 (by decide)]; exact hF5.2.2.2 i hi⟩
            refine next μ6 hF6 ?_
            have e : tEnt T (T.2 2) (T.2 5) [] (tS0 T) (tRow k x) = some (tRow k x, σ) := by
              unfold tEnt
              rw [show tS0 T = (T.2 3, none, fun _ => none) from rfl, hrun]
              simp [hs]
            rw [e]
            exact hA6
          · have e : tEnt T (T.2 2) (T.2 5) [] (tS0 T) (tRow k x) = none := by
              unfold tEnt
              rw [show tS0 T = (T.2 3, none, fun _ => none) from rfl, hrun]
              simp [hs]
            rw [e]
            simpa using hA5
        · have hF5 : goF μ μ5 := ⟨hF4.1.tr (hf5.mono (by decide)), fun j hj => by rw [h625 j (by omega) (by omega)]; exact hF4.2.1 j hj, fun j hj => by rw [h635 j hj]; exact hF4.2.2.1 j hj, fun i hi => by rw [hf5.2 71 (by decide), hf5.2 72 (by decide)]; exact hF4.2.2.2 i hi⟩
          have hA5 := aM_fr (fun j _ => h625 j (by omega) (by omega)) (hf5.2 79 (by decide)) (hf5.2 80 (by decide)) (hf5.2 81 (by decide)) hA4
          refine next μ5 hF5 ?_
          have e : tEnt T (T.2 2) (T.2 5) [] (tS0 T) (tRow k x) = none := by
            unfold tEnt
            rw [show tS0 T = (T.2 3, none, fun _ => none) from rfl, hrun]
            rfl
          rw [e]
          simpa using hA5
  -- length behind length
  have loop70 : ∀ μ2, goF μ μ2 → aM μ2 T.1 [] → sG sLL mX9_goRows (d + 3 + 1) (kV f) 70 [some (sR 62), some (sI (nI m)), some (sI 0), none] [] μ2 := by
    intro μ2 hF2 hA2
    refine s_down (P := fun k => ∀ μ3, goF μ μ3 → aM μ3 T.1 ((List.range k).flatMap (fun k => (tAll k).filterMap (tEnt T (T.2 2) (T.2 5) [] (tS0 T)))) → sG sLL mX9_goRows (d + 3 + 1) (kV f) 70 [some (sR 62), some (sI (nI m)), some (sI (nI k)), none] [] μ3) (m + 1) ?_ ?_ 0 (by omega) μ2 hF2 (by simpa using hA2)
    · intro μ3 hF3 hA3
      refine sX9_goRows_70 ⟨fun _ => c_putBack (fun μ4 hf4 h63 hb => ?_), fun q => absurd ((nI_ltN (by omega) (by omega)).mpr (by omega)) q⟩
      refine h μ4 ⟨mG.of (hF3.1.tr (hf4.mono (by decide))) (by decide) (fun k hk => by rw [hf4.2 62 (by decide)]; exact hF3.2.1 k hk) (fun j hj => by rw [h63 j hj]; exact hF3.2.2.1 j hj), fun i hi => ?_⟩ (aM_fr (fun k _ => by rw [hf4.2 62 (by decide)]) (hf4.2 79 (by decide)) (hf4.2 80 (by decide)) (hf4.2 81 (by decide)) hA3)
      rw [(hb i hi).1, (hb i hi).2]
      exact hF3.2.2.2 i hi
    · intro k hk2 ih μ3 hF3 hA3
      refine sX9_goRows_70 ⟨fun q => ?_, fun _ => loop77 k (by omega) ih μ3 hF3 hA3⟩
      have q := (nI_ltN (by omega) (by omega)).mp q
      omega
  have hf1' : sFr goS μ μ1 := hf1.mono (by decide)
  have base : ∀ μ2, sFr [62, 80, 81] μ1 μ2 → (∀ k, k < 25 ∨ 28 < k → μ2.1 62 k = μ1.1 62 k) → goF μ μ2 := fun μ2 hf2 h62 => ⟨hf1'.tr (hf2.mono (by decide)), fun k hk2 => by rw [h62 k (by omega), hf1.2 62 (by decide)], fun j hj => by rw [hf2.2 63 (by decide), hf1.2 63 (by decide)], fun i hi => by rw [hf2.2 71 (by decide), hf2.2 72 (by decide)]; exact hb1 i hi⟩
  -- the sums are nothing at first
  refine s_down (P := fun t => ∀ μ2, sFr [62, 80, 81] μ1 μ2 → (∀ k, k < 25 ∨ 28 < k → μ2.1 62 k = μ1.1 62 k) → (μ2.1 62 25 = 0 ∧ μ2.1 62 26 = -6 ∧ μ2.1 62 27 = 15 ∧ μ2.1 62 28 = 0) → (∀ i, i < t → μ2.1 80 i = 0) → sG sLL mX9_goRows (d + 3 + 1) (kV f) 28 [some (sR 62), some (sI (nI m)), some (sI (nI t)), none] [] μ2) 7 ?_ ?_ 0 (by omega) _ ((((sFr.u (by decide)).tr (sFr.u (by decide))).tr (sFr.u (by decide))).tr (sFr.u (by decide))) (fun k hk2 => by rw [s_u_off (by omega), s_u_off (by omega), s_u_off (by omega), s_u_off (by omega)]) ⟨?_, ?_, ?_, ?_⟩ (fun i hi => by omega)
  · intro μ2 hf2 h62 hz h80
    refine sX9_goRows_28 ⟨fun _ => ?_, fun q => absurd (by decide) q⟩
    refine s_down (P := fun t => ∀ μ3, sFr [62, 80, 81] μ1 μ3 → (∀ k, k < 25 ∨ 28 < k → μ3.1 62 k = μ1.1 62 k) → (μ3.1 62 25 = 0 ∧ μ3.1 62 26 = -6 ∧ μ3.1 62 27 = 15 ∧ μ3.1 62 28 = 0) → (∀ i, i < 7 → μ3.1 80 i = 0) → (∀ i, i < t → μ3.1 81 i = 0) → sG sLL mX9_goRows (d + 3 + 1) (kV f) 49 [some (sR 62), some (sI (nI m)), some (sI (nI t)), none] [] μ3) 70 ?_ ?_ 0 (by omega) μ2 hf2 h62 hz h80 (fun i hi => by omega)
    · intro μ3 hf3 h623 hz3 h803 h813
      refine sX9_goRows_49 ⟨fun _ => loop70 μ3 (base μ3 hf3 h623) ⟨⟨?_, ?_, ?_, ?_, ?_⟩, fun t ht => ⟨?_, fun v hv => ?_⟩⟩, fun q => absurd (by decide) q⟩
      · rw [hz3.1]; rfl
      · rw [hz3.2.1]; rfl
      · intro e he; simp at he
      · rw [hz3.2.2.1]; rfl
      · rw [hz3.2.2.2]; rfl
      · rw [h803 t (by omega)]; rfl
      · rw [h813 _ (by omega)]; rfl
    · intro t ht ih μ3 hf3 h623 hz3 h803 h813
      refine sX9_goRows_49 ⟨fun q => ?_, fun _ => ⟨vp_nI ht (by omega), ?_⟩⟩
      · have q := (nI_leN (a := 70) (by omega) (by omega)).mp q
        omega
      · rw [nI_c (by omega), nI_1]
        refine ih _ (hf3.tr (sFr.u (by decide))) (fun k hk2 => by rw [s_u_ne (by omega)]; exact h623 k hk2) (by rw [s_u_ne (by omega)]; exact hz3) (fun i hi => by rw [s_u_ne (by omega)]; exact h803 i hi) (fun i hi => ?_)
        by_cases c : i = t
        · subst c; exact s_u_at
        · rw [s_u_off c]; exact h813 i (by omega)
  · intro t ht ih μ2 hf2 h62 hz h80
    refine sX9_goRows_28 ⟨fun q => ?_, fun _ => ⟨vp_nI ht (by omega), ?_⟩⟩
    · have q := (nI_leN (a := 7) (by omega) (by omega)).mp q
      omega
    · rw [nI_c (by omega), nI_1]
      refine ih _ (hf2.tr (sFr.u (by decide))) (fun k hk2 => by rw [s_u_ne (by omega)]; exact h62 k hk2) (by rw [s_u_ne (by omega)]; exact hz) (fun i hi => ?_)
      by_cases c : i = t
      · subst c; exact s_u_at
      · rw [s_u_off c]; exact h80 i (by omega)
  · rw [s_u_off (by omega), s_u_off (by omega), s_u_off (by omega), s_u_at]
  · rw [s_u_off (by omega), s_u_off (by omega), s_u_at]
  · rw [s_u_off (by omega), s_u_at]
  · rw [s_u_at]
