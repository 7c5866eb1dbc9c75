-- THE CLASS GATHERS ROWS: fill, note
theorem c_fill {L : sLy} {d : Nat} {μ : sM} {r n : Nat} {v : Int32} {f : sM → Prop} (hr : L.1[r]? = some (sA_ n)) (ht : L.2 r = .int) (hn : n < 2147483648) (h : ∀ μ', sFr [r] μ μ' → (∀ i, i < n → μ'.1 r i = v) → (∀ i, n ≤ i → μ'.1 r i = μ.1 r i) → f μ') : sCl L mJ7_fill_53178 d [sR r, sI v] μ (kV f) := by
  refine eJ7_fill_53178 hr ht ?_
  refine s_down (P := fun t => ∀ μ', sFr [r] μ μ' → (∀ i, i < t → μ'.1 r i = v) → (∀ i, t ≤ i → μ'.1 r i = μ.1 r i) → sG L mJ7_fill_53178 d (kV f) 5 [some (sR r), some (sI v), some (sI (nI t)), some (sI (nI n))] [] μ') n ?_ ?_ 0 (by omega) μ sFr.rf (fun i hi => by omega) (fun _ _ => rfl)
  · intro μ' hf h1 h2
    exact sJ7_fill_53178_5 hr ht ⟨fun _ => h μ' hf h1 h2, fun q => absurd ((nI_leN hn hn).mpr (Nat.le_refl _)) q⟩
  · intro t htn ih μ' hf h1 h2
    refine sJ7_fill_53178_5 hr ht ⟨fun q => ?_, fun q => ⟨vp_nI htn hn, ?_⟩⟩
    · have q := (nI_leN (by omega) (by omega)).mp q
      omega
    · rw [nI_c (by omega), nI_1]
      refine ih _ (hf.tr (sFr.u (by simp))) (fun i hi => ?_) (fun i hi => ?_)
      · by_cases c : i = t
        · subst c; exact s_u_at
        · rw [s_u_off c]; exact h1 i (by omega)
      · rw [s_u_off (by omega)]
        exact h2 i (by omega)
theorem s_shl1 : ∀ g, g < 7 → (1 : Int32) <<< (nI g &&& 31) = nI (2 ^ g) := by decide +kernel
theorem hWho_app {r : List Nat} {g : Nat} : hWho (r ++ [g]) = hWho r ||| 2 ^ g := by simp [hWho, List.foldl_append]
theorem hWho_lt {r : List Nat} (h : ∀ g ∈ r, g < 4) : hWho r < 16 := by
  have key : ∀ (r : List Nat) (a : Nat), a < 16 → (∀ g ∈ r, g < 4) → r.foldl (fun w g => w ||| 2 ^ g) a < 16 := by
    intro r
    induction r with
    | nil => intro a ha _; exact ha
    | cons g r ih =>
      intro a ha hg
      rw [List.foldl_cons]
      refine ih _ ?_ (fun q hq => hg q (List.mem_cons_of_mem _ hq))
      have : g < 4 := hg g List.mem_cons_self
      have h2 : (2 : Nat) ^ g < 2 ^ 4 := Nat.pow_lt_pow_right (by decide) this
      exact Nat.or_lt_two_pow (n := 4) ha h2
  exact key r 0 (by decide) h
/-- the class's sums of rows, its numbers alone -/
def aN (μ : sM) (h : List tR) : Prop := μ.1 43 5 = nI h.length ∧ μ.1 43 6 = nO ((hBest h).map (fun e => e.1.length)) ∧ (∀ e, hBest h = some e → ∀ i, i < e.1.length → μ.1 47 i = nI (e.1.getD i 0)) ∧ μ.1 43 7 = nI (if h.length = 0 then 0 else hSure h) ∧ μ.1 43 8 = nI (hMaybe h)
/-- the class's sums of rows, of one thing -/
def aT (μ : sM) (h : List tR) (t : Nat) : Prop := μ.1 48 t = nI (hCup h t) ∧ ∀ v, v < 10 → μ.1 (50 + t) v = nI (hBy h t v)
def aC (μ : sM) (n : Nat) (h : List tR) : Prop := aN μ h ∧ ∀ t, t < n → aT μ h t
theorem aN_fr {μ μ' : sM} {h : List tR} (h43 : μ'.1 43 = μ.1 43) (h47 : μ'.1 47 = μ.1 47) (a : aN μ h) : aN μ' h := by
  unfold aN
  rw [h43, h47]
  exact a
theorem aT_fr {μ μ' : sM} {h : List tR} {t : Nat} (h48 : μ'.1 48 t = μ.1 48 t) (h50 : μ'.1 (50 + t) = μ.1 (50 + t)) (a : aT μ h t) : aT μ' h t := by
  unfold aT
  rw [h48, h50]
  exact a
theorem hCup_app {h : List tR} {e : tR} {t : Nat} : hCup (h ++ [e]) t = hCup h t ||| hBit (e.2.2.2 t) := by simp [hCup, List.foldl_append]
theorem hBy_app {h : List tR} {e : tR} {t v : Nat} : hBy (h ++ [e]) t v = hBy h t v + (if e.2.1 t = v then 1 else 0) := by
  unfold hBy
  rw [List.filter_append, List.length_append]
  by_cases c : e.2.1 t = v
  · simp [c]
  · simp [c]
theorem hBest_app {h : List tR} {e : tR} : hBest (h ++ [e]) = hB1 (hBest h) e := by simp [hBest, List.foldl_append]
theorem hBest_nil {h : List tR} : hBest h = none ↔ h.length = 0 := by
  rcases hBest_is _ h rfl with ⟨rfl, h2⟩ | ⟨k, e, h1, h2, h3, h4⟩
  · simp [h2]
  · rw [h1]
    constructor
    · intro w; cases w
    · intro w
      have : h = [] := List.eq_nil_of_length_eq_zero w
      subst this
      simp at h2
abbrev aS : List Nat := [43, 47, 48, 50, 51, 52, 53, 54, 55, 56]
theorem aS_50 {t : Nat} (ht : t < 7) : 50 + t ∈ aS := by
  have : t = 0 ∨ t = 1 ∨ t = 2 ∨ t = 3 ∨ t = 4 ∨ t = 5 ∨ t = 6 := by omega
  rcases this with rfl | rfl | rfl | rfl | rfl | rfl | rfl <;> decide
theorem aS_ge : ∀ x ∈ aS, 43 ≤ x ∧ x ≠ 44 ∧ x ≠ 45 ∧ x ≠ 46 ∧ x ≤ 56 := by decide
theorem aS_no {r : Nat} (h : r < 43 ∨ r = 44 ∨ r = 45 ∨ r = 46 ∨ 56 < r) : r ∉ aS := fun w => by
  have := aS_ge r w
  omega
theorem c_note {d : Nat} {μ : sM} {n : Nat} {h : List tR} {r : List Nat} {σ : tS} {f : sM → Prop} (h7 : n ≤ 7) (hn : μ.1 1 0 = nI n) (hrl : r.length ≤ 6) (hrg : ∀ g ∈ r, g < 4) (hr : ∀ i, i < r.length → μ.1 45 i = nI (r.getD i 0)) (hL9 : ∀ i, σ.1 i ≤ 9) (hL : ∀ t, t < 7 → μ.1 36 t = nI (σ.1 t)) (hF4 : ∀ t g, σ.2.2 t = some g → g < 4) (hF : ∀ t, t < 7 → μ.1 46 t = nO (σ.2.2 t))
    (hh : h.length < 1000000) (hb6 : ∀ e, hBest h = some e → e.1.length ≤ 6) (ha : aC μ n h) (hf : ∀ μ', sFr aS μ μ' → aC μ' n (h ++ [(r, σ)]) → f μ') : sCl sLL mX5_note (d + 1) [sR 43, sI (nI r.length), sI (nI (hWho r))] μ (kV f) := by
  have hwl := hWho_lt hrg
  have hlen : (h ++ [(r, σ)]).length = h.length + 1 := by simp
  have loop : ∀ μ1, sFr [43, 47] μ μ1 → aN μ1 (h ++ [(r, σ)]) → sG sLL mX5_note (d + 1) (kV f) 77 [some (sR 43), some (sI (nI r.length)), some (sI (nI (hWho r))), some (sI 0)] [] μ1 := by
    intro μ1 hf1 hN1
    refine s_down (P := fun t => ∀ μ2, sFr aS μ μ2 → aN μ2 (h ++ [(r, σ)]) → (∀ i, i < t → aT μ2 (h ++ [(r, σ)]) i) → (∀ i, t ≤ i → i < n → aT μ2 h i) → sG sLL mX5_note (d + 1) (kV f) 77 [some (sR 43), some (sI (nI r.length)), some (sI (nI (hWho r))), some (sI (nI t))] [] μ2) n ?_ ?_ 0 (by omega) μ1 (hf1.mono (by decide)) hN1 (fun i hi => by omega) (fun i _ hi => aT_fr (by rw [hf1.2 48 (by decide)]) (hf1.2 (50 + i) (by simp; omega)) (ha.2 i hi))
    · intro μ2 hf2 hN2 h1 h2
      refine sX5_note_77 ⟨fun _ => hf μ2 hf2 ⟨hN2, h1⟩, fun q => ?_⟩
      rw [hf2.2 1 (aS_no (by omega)), hn] at q
      exact absurd ((nI_leN (by omega) (by omega)).mpr (Nat.le_refl _)) q
    · intro t ht ih μ2 hf2 hN2 h1 h2
      have bL := hL9 t
      have e1 : μ2.1 1 = μ.1 1 := hf2.2 1 (aS_no (by omega))
      have e46 : μ2.1 46 = μ.1 46 := hf2.2 46 (aS_no (by omega))
      have e36 : μ2.1 36 = μ.1 36 := hf2.2 36 (aS_no (by omega))
      have at0 := h2 t (Nat.le_refl _) ht
      -- one more thing, whatever its bit
      have go : ∀ B, hBit (σ.2.2 t) = B → sG sLL mX5_note (d + 1) (kV f) 77 [some (sR 43), some (sI (nI r.length)), some (sI (nI (hWho r))), some (sI (nI (t + 1)))] [] (s_u (s_u μ2 48 t ((μ2.1 48 t) ||| nI B)) (50 + t) (σ.1 t) (((s_u μ2 48 t ((μ2.1 48 t) ||| nI B)).1 (50 + t) (σ.1 t)) + 1)) := by
        intro B hB
        refine ih _ ((hf2.tr (sFr.u (by decide))).tr (sFr.u (aS_50 (by omega)))) (aN_fr (by rw [s_u_ne (by omega), s_u_ne (by omega)]) (by rw [s_u_ne (by omega), s_u_ne (by omega)]) hN2) (fun i hi => ?_) (fun i hi hin => ?_)
        · by_cases c : i = t
          · subst c
            refine ⟨?_, fun v hv => ?_⟩
            · rw [s_u_ne (by omega), s_u_at, at0.1, fa_or, hCup_app, hB]
            · rw [hBy_app]
              by_cases c2 : v = σ.1 i
              · subst c2
                rw [s_u_at, s_u_ne (by omega), at0.2 _ hv, nI_1]
                simp
              · rw [s_u_off c2, s_u_ne (by omega), at0.2 _ hv]
                simp [Ne.symm c2]
          · refine aT_fr ?_ ?_ (h1 i (by omega))
            · rw [s_u_ne (by omega), s_u_off c]
            · rw [s_u_ne (by omega), s_u_ne (by omega)]
        · refine aT_fr ?_ ?_ (h2 i (by omega) hin)
          · rw [s_u_ne (by omega), s_u_off (by omega)]
          · rw [s_u_ne (by omega), s_u_ne (by omega)]
      refine sX5_note_77 ⟨fun q => ?_, fun q => ⟨vp_nI (by omega) (by omega), ?_⟩⟩
      · rw [e1, hn] at q
        have q := (nI_leN (by omega) (by omega)).mp q
        omega
      · rw [nI_c (by omega), e46, e36, hF t (by omega), hL t (by omega), nI_c (by omega), nI_1]
        cases hg : σ.2.2 t with
        | none =>
          refine ⟨fun w => absurd rfl w, fun _ => ⟨vp_nI (by omega) (by omega), ?_⟩⟩
          exact go 16 (by rw [hg]; rfl)
        | some g =>
          have hg4 := hF4 t g hg
          refine ⟨fun _ => ⟨vp_nI (by omega) (by omega), ?_⟩, fun w => ?_⟩
          · have := go (2 ^ g) (by rw [hg]; rfl)
            rw [← s_shl1 g (by omega)] at this
            exact this
          · have := (nO_m6 (o := some g) (by intro u hu; cases hu; omega)).mp w
            cases this
  obtain ⟨a1, a2, a3, a4, a5⟩ := ha.1
  have hmay : hMaybe (h ++ [(r, σ)]) = hMaybe h ||| hWho r := by simp [hMaybe, List.foldl_append]
  have hsur : hSure (h ++ [(r, σ)]) = hSure h &&& hWho r := by simp [hSure, List.foldl_append]
  refine eX5_note ⟨fun q => ⟨fun q2 => absurd q2 q, fun _ => ⟨fun q3 => ?_, fun q3 => ⟨nI_pos (by omega), by rw [nI_c (by omega)]; exact hrl, by rw [nI_c (by omega)]; exact hrl, ?_⟩⟩⟩, fun q => ⟨fun _ => ⟨nI_pos (by omega), by rw [nI_c (by omega)]; exact hrl, by rw [nI_c (by omega)]; exact hrl, ?_⟩, fun q2 => absurd q q2⟩⟩
  · rw [a1, nI_is0 (by omega)] at q
    cases hb : hBest h with
    | none => exact absurd (hBest_nil.mp hb) q
    | some e =>
      have he6 := hb6 e hb
      rw [a2, hb] at q3
      have q3 : e.1.length ≤ r.length := (nI_leN (by omega) (by omega)).mp q3
      have hb2 : hBest (h ++ [(r, σ)]) = some e := by rw [hBest_app, hb]; simp [hB1, Nat.not_lt.mpr q3]
      refine loop _ (((sFr.u (by decide)).tr (sFr.u (by decide))).tr (sFr.u (by decide))) ⟨?_, ?_, fun e' he' i hi => ?_, ?_, ?_⟩
      · rw [s_u_at, a1, nI_1, hlen]
      · rw [s_u_off (by omega), s_u_off (by omega), s_u_off (by omega), a2, hb, hb2]
      · rw [hb2] at he'
        cases he'
        rw [s_u_ne (by omega), s_u_ne (by omega), s_u_ne (by omega)]
        exact a3 e hb i hi
      · rw [s_u_off (by omega), s_u_off (by omega), s_u_at, a4, if_neg q, fa_and, hsur, hlen]
        simp
      · rw [s_u_off (by omega), s_u_at, a5, fa_or, hmay]
  · rw [a1, nI_is0 (by omega)] at q
    cases hb : hBest h with
    | none => exact absurd (hBest_nil.mp hb) q
    | some e =>
      have he6 := hb6 e hb
      rw [a2, hb] at q3
      have q3 : ¬ e.1.length ≤ r.length := fun w => q3 ((nI_leN (a := e.1.length) (b := r.length) (by omega) (by omega)).mpr w)
      have hb2 : hBest (h ++ [(r, σ)]) = some (r, σ) := by rw [hBest_app, hb]; simp [hB1, Nat.not_le.mp q3]
      refine loop _ (((((sFr.u (by decide)).tr (sFr.u (by decide))).tr (sFr.u (by decide))).tr (sFr.cp (by decide))).tr (sFr.u (by decide))) ⟨?_, ?_, fun e' he' i hi => ?_, ?_, ?_⟩
      · rw [s_u_at, a1, nI_1, hlen]
      · rw [s_u_off (by omega), s_cp_ne (by omega), s_u_at, hb2]
        rfl
      · rw [hb2] at he'
        cases he'
        rw [s_u_ne (by omega), s_cp_in (by rw [nI_c (by omega)]; exact hi), s_u_ne (by omega), s_u_ne (by omega), s_u_ne (by omega)]
        exact hr i hi
      · rw [s_u_off (by omega), s_cp_ne (by omega), s_u_off (by omega), s_u_off (by omega), s_u_at, a4, if_neg q, fa_and, hsur, hlen]
        simp
      · rw [s_u_off (by omega), s_cp_ne (by omega), s_u_off (by omega), s_u_at, a5, fa_or, hmay]
  · rw [a1, nI_is0 (by omega)] at q
    have hh0 : h = [] := List.eq_nil_of_length_eq_zero q
    have hb2 : hBest (h ++ [(r, σ)]) = some (r, σ) := by rw [hh0]; rfl
    refine loop _ (((((sFr.u (by decide)).tr (sFr.u (by decide))).tr (sFr.u (by decide))).tr (sFr.cp (by decide))).tr (sFr.u (by decide))) ⟨?_, ?_, fun e' he' i hi => ?_, ?_, ?_⟩
    · rw [s_u_at, a1, nI_1, hlen]
    · rw [s_u_off (by omega), s_cp_ne (by omega), s_u_at, hb2]
      rfl
    · rw [hb2] at he'
      cases he'
      rw [s_u_ne (by omega), s_cp_in (by rw [nI_c (by omega)]; exact hi), s_u_ne (by omega), s_u_ne (by omega), s_u_ne (by omega)]
      exact hr i hi
    · rw [s_u_off (by omega), s_cp_ne (by omega), s_u_off (by omega), s_u_off (by omega), s_u_at, hsur, hlen, hh0]
      have : hSure [] &&& hWho r = hWho r := by
        show 15 &&& hWho r = hWho r
        rw [Nat.and_comm]
        exact Nat.and_two_pow_sub_one_of_lt_two_pow (n := 4) hwl
      rw [this]
      simp
    · rw [s_u_off (by omega), s_cp_ne (by omega), s_u_off (by omega), s_u_at, a5, fa_or, hmay]
