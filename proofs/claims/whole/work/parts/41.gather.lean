-- THE CLASS: rows, cup, look
def tS0 (T : tT) : tS := (T.2 3, none, fun _ => none)
theorem tS0_w {T : tT} (hT : tW T) : tSw T (tS0 T) := ⟨fun i => by have := hT.2.1 3 i; simpa [tS0] using this, fun u hu => by simp [tS0] at hu, fun t g hg => by simp [tS0] at hg⟩
abbrev gS : List Nat := [35, 36, 43, 44, 45, 46, 47, 48, 50, 51, 52, 53, 54, 55, 56]
theorem c_gathera {d : Nat} {μ : sM} {T : tT} {S : Nat → Nat} {m : Nat} {f : sM → Prop} (hT : tW T) (hC : tC μ 1 4 T) (hS : ∀ t, t < 7 → μ.1 8 t = nS (S t)) (hS9 : ∀ i, S i ≤ 10) (hm : m ≤ 6) (h : ∀ μ', sFr gS μ μ' → wC μ' T (T.2 2) S [] (tS0 T) (tDfs T (T.2 2) S m [] (tS0 T)) → f μ') : sCl sLL mX5_gather (d + 10) [sR 43, sR 8, sI (nI m)] μ (kV f) := by
  have h7 := hT.1.2
  have hk : ∀ i, T.2 2 i ≤ 1 := fun i => (hT.2.2.1 i).1
  have hL : ∀ i, T.2 3 i ≤ 9 := fun i => by have := hT.2.1 3 i; simpa using this
  refine eX5_gathera (c_fill (n := 7) rfl rfl (by omega) (fun μ1 hf1 h46 _ => c_fill (n := 7) rfl rfl (by omega) (fun μ2 hf2 h48 _ => ?_)))
  have g0 : sFr gS μ μ2 := ((sFr.cp (by decide)).tr (hf1.mono (by decide))).tr (hf2.mono (by decide))
  have s44 : ∀ t, t < 7 → μ2.1 44 t = nS (S t) := fun t ht => by
    rw [hf2.2 44 (by decide), hf1.2 44 (by decide), s_cp_in (by rw [show (7 : Int32).toNatClampNeg = 7 from rfl]; exact ht)]
    exact hS t ht
  have s46 : ∀ t, t < 7 → μ2.1 46 t = -6 := fun t ht => by rw [hf2.2 46 (by decide)]; exact h46 t ht
  refine s_down (P := fun i => ∀ μ3, sFr [50, 51, 52, 53, 54, 55, 56] μ2 μ3 → (∀ j, j < i → ∀ v, v < 10 → μ3.1 (50 + j) v = 0) → sG sLL mX5_gather (d + 9 + 1) (kV f) 31 [some (sR 43), some (sR 8), some (sI (nI m)), some (sI (nI i))] [] μ3) 7 ?_ ?_ 0 (by omega) μ2 sFr.rf (fun j hj => by omega)
  · intro μ3 hf3 hz
    refine sX5_gathera_31 ⟨fun _ => ?_, fun q => absurd (by decide) q⟩
    have e1 : (if (6 : Int32) < nI m then 6 else nI m) = nI (([] : List Nat).length + m) := by
      rw [if_neg]
      · simp
      · rw [show (6 : Int32) = nI 6 from rfl, nI_ltN (by omega) (by omega)]
        omega
    rw [e1]
    have q4 : sFr gS μ (s_u (s_u (s_u (s_u μ3 43 5 0) 43 6 (-6)) 43 7 0) 43 8 0) := ((((g0.tr (hf3.mono (by decide))).tr (sFr.u (by decide))).tr (sFr.u (by decide))).tr (sFr.u (by decide))).tr (sFr.u (by decide))
    refine c_begin (T := T) (tC_S hC q4 (by decide)) (fun μ5 hf5 hK5 => ?_)
    refine sG.more (c_walk hT hk hS9 m d [] (tS0 T) [] μ5 _ (tS0_w hT) (by simpa using hm) (by simp) ?_ (by simp) ⟨?_, hK5, fun t ht => ?_, fun t ht => ?_, fun i hi => by simp at hi, ⟨⟨?_, ?_, ?_, ?_, ?_⟩, fun t ht => ⟨?_, fun v hv => ?_⟩⟩⟩ (fun μ6 hf6 hW6 => h μ6 ((q4.tr (hf5.mono (by decide))).tr (hf6.mono (by decide))) (by simpa using hW6))) (by omega)
    · have : m = 0 ∨ m = 1 ∨ m = 2 ∨ m = 3 ∨ m = 4 ∨ m = 5 ∨ m = 6 := by omega
      rcases this with rfl | rfl | rfl | rfl | rfl | rfl | rfl <;> decide
    · exact tC_S hC (q4.tr (hf5.mono (by decide))) (by decide)
    · rw [hf5.2 44 (by decide), s_u_ne (by omega), s_u_ne (by omega), s_u_ne (by omega), s_u_ne (by omega), hf3.2 44 (by decide)]
      exact s44 t ht
    · rw [hf5.2 46 (by decide), s_u_ne (by omega), s_u_ne (by omega), s_u_ne (by omega), s_u_ne (by omega), hf3.2 46 (by decide)]
      exact s46 t ht
    · rw [hf5.2 43 (by decide), s_u_off (by omega), s_u_off (by omega), s_u_off (by omega), s_u_at]
      rfl
    · rw [hf5.2 43 (by decide), s_u_off (by omega), s_u_off (by omega), s_u_at]
      rfl
    · intro e he
      cases he
    · rw [hf5.2 43 (by decide), s_u_off (by omega), s_u_at]
      rfl
    · rw [hf5.2 43 (by decide), s_u_at]
      rfl
    · rw [hf5.2 48 (by decide), s_u_ne (by omega), s_u_ne (by omega), s_u_ne (by omega), s_u_ne (by omega), hf3.2 48 (by decide), h48 t (by omega)]
      rfl
    · rw [hf5.2 (50 + t) (by simp; omega), s_u_ne (by omega), s_u_ne (by omega), s_u_ne (by omega), s_u_ne (by omega), hz t (by omega) v hv]
      rfl
  · intro i hi ih μ3 hf3 hz
    have e50 : 50 + i ∈ [50, 51, 52, 53, 54, 55, 56] := by
      have : i = 0 ∨ i = 1 ∨ i = 2 ∨ i = 3 ∨ i = 4 ∨ i = 5 ∨ i = 6 := by omega
      rcases this with rfl | rfl | rfl | rfl | rfl | rfl | rfl <;> decide
    refine sX5_gathera_31 ⟨fun q => ?_, fun _ => ⟨vp_nI hi (by omega), ?_⟩⟩
    · have q := (nI_leN (a := 7) (by omega) (by omega)).mp q
      omega
    · have hq := s_rbl (vp_nI (t := i) hi (by omega))
      rw [nI_c (by omega)] at hq ⊢
      refine c_fill hq.1 hq.2 (by omega) (fun μ4 hf4 hv _ => ?_)
      rw [nI_1]
      refine ih μ4 (hf3.tr (hf4.mono (by simpa using e50))) (fun j hj v hv2 => ?_)
      by_cases c : j = i
      · subst c
        exact hv v hv2
      · rw [hf4.2 (50 + j) (by simp; omega)]
        exact hz j (by omega) v hv2
theorem c_gatherb {d : Nat} {μ : sM} {T : tT} {S : Nat → Nat} {m : Nat} {f : sM → Prop} (hT : tW T) (hC : tC μ 1 4 T) (hS : ∀ t, t < 7 → μ.1 41 t = nS (S t)) (hS9 : ∀ i, S i ≤ 10) (hm : m ≤ 6) (h : ∀ μ', sFr gS μ μ' → wC μ' T (T.2 2) S [] (tS0 T) (tDfs T (T.2 2) S m [] (tS0 T)) → f μ') : sCl sLL mX5_gather (d + 10) [sR 43, sR 41, sI (nI m)] μ (kV f) := by
  have h7 := hT.1.2
  have hk : ∀ i, T.2 2 i ≤ 1 := fun i => (hT.2.2.1 i).1
  have hL : ∀ i, T.2 3 i ≤ 9 := fun i => by have := hT.2.1 3 i; simpa using this
  refine eX5_gatherb (c_fill (n := 7) rfl rfl (by omega) (fun μ1 hf1 h46 _ => c_fill (n := 7) rfl rfl (by omega) (fun μ2 hf2 h48 _ => ?_)))
  have g0 : sFr gS μ μ2 := ((sFr.cp (by decide)).tr (hf1.mono (by decide))).tr (hf2.mono (by decide))
  have s44 : ∀ t, t < 7 → μ2.1 44 t = nS (S t) := fun t ht => by
    rw [hf2.2 44 (by decide), hf1.2 44 (by decide), s_cp_in (by rw [show (7 : Int32).toNatClampNeg = 7 from rfl]; exact ht)]
    exact hS t ht
  have s46 : ∀ t, t < 7 → μ2.1 46 t = -6 := fun t ht => by rw [hf2.2 46 (by decide)]; exact h46 t ht
  refine s_down (P := fun i => ∀ μ3, sFr [50, 51, 52, 53, 54, 55, 56] μ2 μ3 → (∀ j, j < i → ∀ v, v < 10 → μ3.1 (50 + j) v = 0) → sG sLL mX5_gather (d + 9 + 1) (kV f) 31 [some (sR 43), some (sR 41), some (sI (nI m)), some (sI (nI i))] [] μ3) 7 ?_ ?_ 0 (by omega) μ2 sFr.rf (fun j hj => by omega)
  · intro μ3 hf3 hz
    refine sX5_gatherb_31 ⟨fun _ => ?_, fun q => absurd (by decide) q⟩
    have e1 : (if (6 : Int32) < nI m then 6 else nI m) = nI (([] : List Nat).length + m) := by
      rw [if_neg]
      · simp
      · rw [show (6 : Int32) = nI 6 from rfl, nI_ltN (by omega) (by omega)]
        omega
    rw [e1]
    have q4 : sFr gS μ (s_u (s_u (s_u (s_u μ3 43 5 0) 43 6 (-6)) 43 7 0) 43 8 0) := ((((g0.tr (hf3.mono (by decide))).tr (sFr.u (by decide))).tr (sFr.u (by decide))).tr (sFr.u (by decide))).tr (sFr.u (by decide))
    refine c_begin (T := T) (tC_S hC q4 (by decide)) (fun μ5 hf5 hK5 => ?_)
    refine sG.more (c_walk hT hk hS9 m d [] (tS0 T) [] μ5 _ (tS0_w hT) (by simpa using hm) (by simp) ?_ (by simp) ⟨?_, hK5, fun t ht => ?_, fun t ht => ?_, fun i hi => by simp at hi, ⟨⟨?_, ?_, ?_, ?_, ?_⟩, fun t ht => ⟨?_, fun v hv => ?_⟩⟩⟩ (fun μ6 hf6 hW6 => h μ6 ((q4.tr (hf5.mono (by decide))).tr (hf6.mono (by decide))) (by simpa using hW6))) (by omega)
    · have : m = 0 ∨ m = 1 ∨ m = 2 ∨ m = 3 ∨ m = 4 ∨ m = 5 ∨ m = 6 := by omega
      rcases this with rfl | rfl | rfl | rfl | rfl | rfl | rfl <;> decide
    · exact tC_S hC (q4.tr (hf5.mono (by decide))) (by decide)
    · rw [hf5.2 44 (by decide), s_u_ne (by omega), s_u_ne (by omega), s_u_ne (by omega), s_u_ne (by omega), hf3.2 44 (by decide)]
      exact s44 t ht
    · rw [hf5.2 46 (by decide), s_u_ne (by omega), s_u_ne (by omega), s_u_ne (by omega), s_u_ne (by omega), hf3.2 46 (by decide)]
      exact s46 t ht
    · rw [hf5.2 43 (by decide), s_u_off (by omega), s_u_off (by omega), s_u_off (by omega), s_u_at]
      rfl
    · rw [hf5.2 43 (by decide), s_u_off (by omega), s_u_off (by omega), s_u_at]
      rfl
    · intro e he
      cases he
    · rw [hf5.2 43 (by decide), s_u_off (by omega), s_u_at]
      rfl
    · rw [hf5.2 43 (by decide), s_u_at]
      rfl
    · rw [hf5.2 48 (by decide), s_u_ne (by omega), s_u_ne (by omega), s_u_ne (by omega), s_u_ne (by omega), hf3.2 48 (by decide), h48 t (by omega)]
      rfl
    · rw [hf5.2 (50 + t) (by simp; omega), s_u_ne (by omega), s_u_ne (by omega), s_u_ne (by omega), s_u_ne (by omega), hz t (by omega) v hv]
      rfl
  · intro i hi ih μ3 hf3 hz
    have e50 : 50 + i ∈ [50, 51, 52, 53, 54, 55, 56] := by
      have : i = 0 ∨ i = 1 ∨ i = 2 ∨ i = 3 ∨ i = 4 ∨ i = 5 ∨ i = 6 := by omega
      rcases this with rfl | rfl | rfl | rfl | rfl | rfl | rfl <;> decide
    refine sX5_gatherb_31 ⟨fun q => ?_, fun _ => ⟨vp_nI hi (by omega), ?_⟩⟩
    · have q := (nI_leN (a := 7) (by omega) (by omega)).mp q
      omega
    · have hq := s_rbl (vp_nI (t := i) hi (by omega))
      rw [nI_c (by omega)] at hq ⊢
      refine c_fill hq.1 hq.2 (by omega) (fun μ4 hf4 hv _ => ?_)
      rw [nI_1]
      refine ih μ4 (hf3.tr (hf4.mono (by simpa using e50))) (fun j hj v hv2 => ?_)
      by_cases c : j = i
      · subst c
        exact hv v hv2
      · rw [hf4.2 (50 + j) (by simp; omega)]
        exact hz j (by omega) v hv2

/-- what rows answers -/
def hAns (h : List tR) (w : Nat) : Int32 :=
  if w = 0 then nI h.length else if w = 1 then nO ((hBest h).map (fun e => e.1.length)) else if w = 2 then nI (if h.length = 0 then 0 else hSure h) else if w = 3 then nI (hMaybe h)
  else match hBest h with
    | none => -6
    | some e => if w - 4 < e.1.length then nI (e.1.getD (w - 4) 0) else -6
theorem hAns_same {h1 h2 : List tR} (hs : hSame h1 h2) {m : Nat} (a1 : ∀ e ∈ h1, e.1.length < m) (a2 : ∀ e ∈ h2, e.1.length < m) (w : Nat) : hAns h1 w = hAns h2 w := by
  have p := hSame_perm hs a1 a2
  unfold hAns
  rw [hBest_same hs, p.length_eq, hSure_perm p, hMaybe_perm p]
def oIn (a : Int32) (lo hi : Int) : Bool := decide (lo ≤ a.toInt ∧ a.toInt ≤ hi)
theorem oIn_nat {a : Int32} {hi : Nat} (h9 : hi < 1000) (h : oIn a 0 hi = true) : ∃ m, m ≤ hi ∧ a = nI m ∧ a.toInt.toNat = m := by
  simp only [oIn, decide_eq_true_eq] at h
  refine ⟨a.toInt.toNat, by omega, ?_, rfl⟩
  rw [fa_eq, nI_i (by omega)]
  omega
theorem c_isRowLength {d : Nat} {μ : sM} {a : Int32} {f : Int32 → sM → Prop} (h1 : oIn a 0 6 = true → f 1 μ) (h0 : oIn a 0 6 = false → f 0 μ) : sCl sLL mX8_isRowLength d [sI a] μ (kI f) := by
  refine eX8_isRowLength ?_
  have z6 : (6 : Int32).toInt = 6 := by decide
  simp only [oIn, decide_eq_true_eq, decide_eq_false_iff_not] at h1 h0
  simp only [fa_lt, fa_le, s_z0, z6]
  refine ⟨fun q => h0 (by omega), fun q => ⟨fun q2 => h0 (by omega), fun q2 => h1 (by omega)⟩⟩
def oRows (T : tT) (a1 a2 : Int32) : Int32 := if oIn a1 0 6 = true ∧ oIn a2 0 9 = true then hAns (tDfs T (T.2 2) (T.2 5) a1.toInt.toNat [] (tS0 T)) a2.toInt.toNat else -2
theorem tW_S {T : tT} (hT : tW T) : ∀ i, T.2 5 i ≤ 10 := fun i => by have := hT.2.1 5 i; simpa using this
theorem tC_8 {μ : sM} {T : tT} (hC : tC μ 1 4 T) : ∀ t, t < 7 → μ.1 8 t = nS (T.2 5 t) := fun t ht => (hC.2.2.2.1 t ht).2.2.2.2
theorem tDfs_6 {T : tT} {lk S : Nat → Nat} {σ : tS} {m : Nat} (hm : m ≤ 6) : ∀ e ∈ tDfs T lk S m [] σ, e.1.length < 7 := fun e he => by
  have := tDfs_ge he
  simp at this
  omega
theorem p_rows {d : Nat} {μ : sM} {T : tT} {a1 a2 : Int32} {f : Int32 → sM → Prop} (hT : tW T) (hC : tC μ 1 4 T) (h : ∀ μ', sFr gS μ μ' → f (oRows T a1 a2) μ') : sCl sLL mX8_rows (d + 11) [sR 0, sI a1, sI a2] μ (kI f) := by
  have z9 : (9 : Int32).toInt = 9 := by decide
  refine eX8_rows (c_isRowLength (fun q => ⟨fun w => absurd w (by decide), fun _ => ?_⟩) (fun q => ⟨fun _ => ?_, fun w => absurd rfl w⟩))
  · by_cases c : oIn a2 0 9 = true
    · obtain ⟨m, hm, rfl, em⟩ := oIn_nat (hi := 6) (by omega) q
      obtain ⟨w, hw, rfl, ew⟩ := oIn_nat (hi := 9) (by omega) c
      have e : oRows T (nI m) (nI w) = hAns (tDfs T (T.2 2) (T.2 5) m [] (tS0 T)) w := by unfold oRows; rw [if_pos ⟨q, c⟩, em, ew]
      refine ⟨fun w2 => absurd w2 (nI_pos (by omega)), fun _ => ⟨fun _ => ?_, fun w2 => absurd ((nI_leN (b := 9) (by omega) (by omega)).mpr hw) w2⟩⟩
      refine c_gathera hT hC (tC_8 hC) (tW_S hT) hm (fun μ' hf hW => ?_)
      have h := h μ' hf
      rw [e] at h
      obtain ⟨n1, n2, n3, n4, n5⟩ := hW.2.2.2.2.2.1
      have i0 := nI_inj (a := w) (b := 0) (by omega) (by omega)
      have i1 := nI_inj (a := w) (b := 1) (by omega) (by omega)
      have i2 := nI_inj (a := w) (b := 2) (by omega) (by omega)
      have i3 := nI_inj (a := w) (b := 3) (by omega) (by omega)
      generalize hH : tDfs T (T.2 2) (T.2 5) m [] (tS0 T) = H at *
      refine ⟨fun c0 => ?_, fun c0 => ⟨fun c1 => ?_, fun c1 => ⟨fun c2 => ?_, fun c2 => ⟨fun c3 => ?_, fun c3 => ?_⟩⟩⟩⟩
      · have c0 := i0.mp c0
        subst c0
        rw [n1]; exact h
      · have c1 := i1.mp c1
        subst c1
        rw [n2]; exact h
      · have c2 := i2.mp c2
        subst c2
        rw [n4]; exact h
      · have c3 := i3.mp c3
        subst c3
        rw [n5]; exact h
      · have k0 : w ≠ 0 := fun z => c0 (i0.mpr z)
        have k1 : w ≠ 1 := fun z => c1 (i1.mpr z)
        have k2 : w ≠ 2 := fun z => c2 (i2.mpr z)
        have k3 : w ≠ 3 := fun z => c3 (i3.mpr z)
        have e4 : nI w - 4 = nI (w - 4) := pk_sub (b := 4) (by omega)
        rw [e4]
        simp only [hAns, k0, k1, k2, k3, if_false] at h
        refine eX5_atPlace ?_
        rw [n2]
        refine ⟨fun z => absurd z (nI_pos (by omega)), fun _ => ?_⟩
        cases hb : hBest H with
        | none =>
          rw [hb] at h
          refine ⟨fun _ => h, fun z => absurd ?_ z⟩
          simp only [Option.map_none, nO, fa_le, nI_i (show w - 4 < 2147483648 by omega)]
          have : (-6 : Int32).toInt = -6 := by decide
          omega
        | some e' =>
          rw [hb] at h
          simp only at h
          have hl := tDfs_6 (T := T) (lk := T.2 2) (S := T.2 5) (σ := tS0 T) hm e' (by rw [hH]; exact hBest_mem hb)
          simp only [Option.map_some, nO]
          rw [nI_leN (by omega) (by omega), show (6 : Int32) = nI 6 from rfl, nI_leN (by omega) (by omega), nI_c (by omega)]
          refine ⟨fun z => ?_, fun z => ⟨fun z2 => by omega, fun z2 => ⟨vp_nI (by omega) (by omega), ?_⟩⟩⟩
          · rw [if_neg (by omega)] at h; exact h
          · rw [if_pos (by omega)] at h
            rw [n3 e' hb _ (by omega)]
            exact h
    · have e : oRows T a1 a2 = -2 := by unfold oRows; rw [if_neg (fun w => c w.2)]
      have h := h μ sFr.rf
      rw [e] at h
      simp only [oIn, decide_eq_true_eq] at c
      simp only [fa_lt, fa_le, s_z0, z9]
      refine ⟨fun _ => h, fun z => ⟨fun z2 => by omega, fun _ => h⟩⟩
  · have e : oRows T a1 a2 = -2 := by unfold oRows; rw [if_neg (fun w => by rw [q] at w; cases w.1)]
    have h := h μ sFr.rf
    rw [e] at h
    exact h
def oCup (T : tT) (a1 a2 : Int32) : Int32 := if oIn a1 0 ((T.1 : Int) - 1) = true then (if oIn a2 0 6 = true then nI (hCup (tDfs T (T.2 2) (T.2 5) a2.toInt.toNat [] (tS0 T)) a1.toInt.toNat) else -2) else -1
theorem p_cup {d : Nat} {μ : sM} {T : tT} {a1 a2 : Int32} {f : Int32 → sM → Prop} (hT : tW T) (hC : tC μ 1 4 T) (h : ∀ μ', sFr gS μ μ' → f (oCup T a1 a2) μ') : sCl sLL mX8_cup (d + 11) [sR 0, sI a1, sI a2] μ (kI f) := by
  have h7 := hT.1.2
  refine eX8_cup (c_hasThing hC.1 h7 (fun t ht e => ⟨fun _ => ?_, fun w => absurd w (by decide)⟩) (fun q => ⟨fun w => absurd rfl w, fun _ => ?_⟩))
  · subst e
    have e1 : oIn (nI t) 0 ((T.1 : Int) - 1) = true := by simp only [oIn, decide_eq_true_eq, nI_i (show t < 2147483648 by omega)]; omega
    refine c_isRowLength (fun q => ⟨fun _ => ?_, fun w => absurd w (by decide)⟩) (fun q => ⟨fun w => absurd rfl w, fun _ => ?_⟩)
    · obtain ⟨m, hm, rfl, em⟩ := oIn_nat (hi := 6) (by omega) q
      refine c_gathera hT hC (tC_8 hC) (tW_S hT) hm (fun μ' hf hW => ⟨vp_nI (by omega) (by omega), ?_⟩)
      have h := h μ' hf
      unfold oCup at h
      rw [if_pos e1, if_pos q, em, nI_i (by omega)] at h
      rw [nI_c (by omega), (hW.2.2.2.2.2.2 t ht).1]
      exact h
    · have h := h μ sFr.rf
      unfold oCup at h
      rw [if_pos e1, if_neg (by rw [q]; decide)] at h
      exact h
  · have h := h μ sFr.rf
    unfold oCup at h
    rw [if_neg (by simp only [oIn, decide_eq_true_eq]; omega)] at h
    exact h
-- most that is left over, the thing to look at
def hMx (h : List tR) (t : Nat) : Nat → Nat
  | 0 => 0
  | v + 1 => if hMx h t v < hBy h t v then hBy h t v else hMx h t v
def hLk (h : List tR) (S : Nat → Nat) (n : Nat) : Option Nat := tPk (fun t => decide (S t = 0)) (fun t => hMx h t 10) n
theorem hBy_le {h : List tR} {t v : Nat} : hBy h t v ≤ h.length := List.length_filter_le _ _
theorem hMx_le {h : List tR} {t : Nat} : ∀ v, hMx h t v ≤ h.length
  | 0 => Nat.zero_le _
  | v + 1 => by
    have h1 := hMx_le (h := h) (t := t) v
    have h2 := hBy_le (h := h) (t := t) (v := v)
    unfold hMx
    split <;> omega
theorem c_mostLeftOver {d : Nat} {μ : sM} {n : Nat} {h : List tR} {t : Nat} {f : Int32 → sM → Prop} (h7 : n ≤ 7) (ha : aC μ n h) (hh : h.length < 1000000) (ht : t < n) (hf : f (nI (hMx h t 10)) μ) : sCl sLL mX5_mostLeftOver (d + 1) [sR 43, sI (nI t)] μ (kI f) := by
  refine eX5_mostLeftOver ?_
  refine s_down (P := fun v => sG sLL mX5_mostLeftOver (d + 1) (kI f) 4 [some (sR 43), some (sI (nI t)), some (sI (nI (hMx h t v))), some (sI (nI v))] [] μ) 10 ?_ ?_ 0 (by omega)
  · exact sX5_mostLeftOver_4 ⟨fun _ => hf, fun q => absurd (by decide) q⟩
  · intro v hv ih
    have b1 := hMx_le (h := h) (t := t) v
    have b2 := hBy_le (h := h) (t := t) (v := v)
    refine sX5_mostLeftOver_4 ⟨fun q => ?_, fun _ => ⟨vp_nI (by omega) (by omega), vp_nI hv (by omega), ?_⟩⟩
    · have q := (nI_ltN (a := 9) (by omega) (by omega)).mp q
      omega
    · rw [nI_c (by omega), nI_c (by omega), (ha.2 t ht).2 v hv, nI_1]
      have e : (if nI (hMx h t v) < nI (hBy h t v) then nI (hBy h t v) else nI (hMx h t v)) = nI (hMx h t (v + 1)) := by
        simp only [nI_ltN (show hMx h t v < 2147483648 by omega) (show hBy h t v < 2147483648 by omega)]
        rw [hMx]
        split <;> rfl
      rw [e]
      exact ih
theorem c_bestToLookAt {d : Nat} {μ : sM} {T : tT} {h : List tR} {S : Nat → Nat} {f : Int32 → sM → Prop} (hT : tW T) (hn : μ.1 1 0 = nI T.1) (hS : ∀ t, t < 7 → μ.1 44 t = nS (S t)) (hS9 : ∀ i, S i ≤ 10) (ha : aC μ T.1 h) (hh : h.length < 1000000) (hf : f (nO (if h.length = 0 then none else hLk h S T.1)) μ) : sCl sLL mX5_bestToLookAt (d + 2) [sR 43] μ (kI f) := by
  have h7 := hT.1.2
  refine eX5_bestToLookAt ?_
  rw [ha.1.1, nI_is0 (by omega)]
  refine ⟨fun q => ?_, fun q => ?_⟩
  · rw [if_neg q] at hf
    have key : ∀ (m t : Nat) (x : Int32), t + m = T.1 → (∀ b, tPk (fun t => decide (S t = 0)) (fun t => hMx h t 10) t = some b → x = nI (hMx h b 10)) → sG sLL mX5_bestToLookAt (d + 1 + 1) (kI f) 17 [some (sR 43), some (sI (nO (tPk (fun t => decide (S t = 0)) (fun t => hMx h t 10) t))), some (sI x), some (sI (nI t)), none] [] μ := by
      intro m
      induction m with
      | zero =>
        intro t x e hb
        have e : t = T.1 := by omega
        subst e
        refine sX5_bestToLookAt_17 ⟨fun _ => hf, fun q => ?_⟩
        rw [hn] at q
        exact absurd ((nI_leN (by omega) (by omega)).mpr (Nat.le_refl _)) q
      | succ m ih =>
        intro t x e hb
        have bS := hS9 t
        have e1 : nI t + 1 = nI (t + 1) := nI_1 t
        refine sX5_bestToLookAt_17 ⟨fun q => ?_, fun q => ⟨vp_nI (by omega) (by omega), ?_⟩⟩
        · rw [hn] at q
          have q := (nI_leN (by omega) (by omega)).mp q
          omega
        · rw [nI_c (by omega), hS t (by omega), e1]
          cases hv : S t with
          | zero =>
            refine ⟨fun _ => c_mostLeftOver h7 ha hh (by omega) ?_, fun w => absurd rfl w⟩
            have take : tPk (fun t => decide (S t = 0)) (fun t => hMx h t 10) (t + 1) = some t → sG sLL mX5_bestToLookAt (d + 1 + 1) (kI f) 17 [some (sR 43), some (sI (nI t)), some (sI (nI (hMx h t 10))), some (sI (nI (t + 1))), none] [] μ := fun e2 => by
              have e3 := ih (t + 1) (nI (hMx h t 10)) (by omega) (by rw [e2]; intro b hb; cases hb; rfl)
              rw [e2] at e3
              exact e3
            cases hp : tPk (fun t => decide (S t = 0)) (fun t => hMx h t 10) t with
            | none => exact ⟨fun _ => take (by simp [tPk, hv, hp]), fun w => absurd rfl w⟩
            | some b =>
              have hb2 := (tPk_lt hp).1
              have e4 := hb b hp
              subst e4
              have b1 := hMx_le (h := h) (t := t) 10
              have b2 := hMx_le (h := h) (t := b) 10
              rw [nI_leN (by omega) (by omega)]
              refine ⟨fun w => ?_, fun _ => ⟨fun w => ?_, fun w => take (by simp [tPk, hv, hp, Nat.not_le.mp w])⟩⟩
              · have := (nO_m6 (o := some b) (by intro u hu; cases hu; omega)).mp w
                cases this
              · have e2 : tPk (fun t => decide (S t = 0)) (fun t => hMx h t 10) (t + 1) = some b := by simp [tPk, hv, hp, Nat.not_lt.mpr w]
                have e3 := ih (t + 1) (nI (hMx h b 10)) (by omega) (by rw [e2]; intro c hc; cases hc; rfl)
                rw [e2] at e3
                exact e3
          | succ v =>
            simp only [nS]
            refine ⟨fun w => ?_, fun _ => ?_⟩
            · have := (nO_m6 (o := some v) (by intro u hu; cases hu; omega)).mp w
              cases this
            · have e2 : tPk (fun t => decide (S t = 0)) (fun t => hMx h t 10) (t + 1) = tPk (fun t => decide (S t = 0)) (fun t => hMx h t 10) t := by simp [tPk, hv]
              have e3 := ih (t + 1) x (by omega) (by rw [e2]; exact hb)
              rw [e2] at e3
              exact e3
    exact key T.1 0 0 (by omega) (by intro b hb; simp [tPk] at hb)
  · rw [if_pos q] at hf
    exact hf
/-- what look answers -/
def hLook (h : List tR) (S : Nat → Nat) (n w : Nat) : Int32 := match (if h.length = 0 then none else hLk h S n) with
  | none => -6
  | some t => if w = 0 then nI t else nI (hMx h t 10)
def oLook (T : tT) (a1 a2 : Int32) : Int32 := if oIn a1 0 6 = true ∧ oIn a2 0 1 = true then hLook (tDfs T (T.2 2) (T.2 5) a1.toInt.toNat [] (tS0 T)) (T.2 5) T.1 a2.toInt.toNat else -2
theorem tDfs_small {T : tT} {lk S : Nat → Nat} {σ : tS} {m : Nat} (hm : m ≤ 6) : (tDfs T lk S m [] σ).length < 1000000 := by
  have h := tDfs_len (T := T) (lk := lk) (S := S) m [] σ
  have : tCap m ≤ 5461 := by
    have : m = 0 ∨ m = 1 ∨ m = 2 ∨ m = 3 ∨ m = 4 ∨ m = 5 ∨ m = 6 := by omega
    rcases this with rfl | rfl | rfl | rfl | rfl | rfl | rfl <;> decide
  omega
theorem p_look {d : Nat} {μ : sM} {T : tT} {a1 a2 : Int32} {f : Int32 → sM → Prop} (hT : tW T) (hC : tC μ 1 4 T) (h : ∀ μ', sFr gS μ μ' → f (oLook T a1 a2) μ') : sCl sLL mX8_look (d + 11) [sR 0, sI a1, sI a2] μ (kI f) := by
  have h7 := hT.1.2
  have z1 : (1 : Int32).toInt = 1 := by decide
  refine eX8_look (c_isRowLength (fun q => ⟨fun w => absurd w (by decide), fun _ => ?_⟩) (fun q => ⟨fun _ => ?_, fun w => absurd rfl w⟩))
  · by_cases c : oIn a2 0 1 = true
    · obtain ⟨m, hm, rfl, em⟩ := oIn_nat (hi := 6) (by omega) q
      obtain ⟨w, hw, rfl, ew⟩ := oIn_nat (hi := 1) (by omega) c
      refine ⟨fun w2 => absurd w2 (nI_pos (by omega)), fun _ => ⟨fun _ => ?_, fun w2 => absurd ((nI_leN (b := 1) (by omega) (by omega)).mpr hw) w2⟩⟩
      refine c_gathera hT hC (tC_8 hC) (tW_S hT) hm (fun μ' hf hW => ?_)
      have h := h μ' hf
      have hsm := tDfs_small (T := T) (lk := T.2 2) (S := T.2 5) (σ := tS0 T) hm
      unfold oLook at h
      rw [if_pos ⟨q, c⟩, em, ew] at h
      refine c_bestToLookAt hT hW.1.1 hW.2.2.1 (tW_S hT) hW.2.2.2.2.2 hsm ?_
      unfold hLook at h
      cases hp : (if (tDfs T (T.2 2) (T.2 5) m [] (tS0 T)).length = 0 then none else hLk (tDfs T (T.2 2) (T.2 5) m [] (tS0 T)) (T.2 5) T.1) with
      | none =>
        rw [hp] at h
        exact ⟨fun _ => h, fun w => absurd rfl w⟩
      | some t =>
        rw [hp] at h
        have ht : t < T.1 := by
          split at hp
          · cases hp
          · exact (tPk_lt hp).1
        refine ⟨fun w => ?_, fun _ => ⟨fun c2 => ?_, fun c2 => ?_⟩⟩
        · have := (nO_m6 (o := some t) (by intro u hu; cases hu; omega)).mp w
          cases this
        · refine c_mostLeftOver h7 hW.2.2.2.2.2 hsm ht ?_
          have : w ≠ 0 := fun z => c2 (by rw [z]; rfl)
          simp only [if_neg this] at h
          exact h
        · have : w = 0 := (nI_is0 (by omega)).mp c2
          simp only [if_pos this] at h
          exact h
    · have e : oLook T a1 a2 = -2 := by unfold oLook; rw [if_neg (fun w => c w.2)]
      have h := h μ sFr.rf
      rw [e] at h
      simp only [oIn, decide_eq_true_eq] at c
      simp only [fa_lt, fa_le, s_z0, z1]
      refine ⟨fun _ => h, fun z => ⟨fun z2 => by omega, fun _ => h⟩⟩
  · have e : oLook T a1 a2 = -2 := by unfold oLook; rw [if_neg (fun w => by rw [q] at w; cases w.1)]
    have h := h μ sFr.rf
    rw [e] at h
    exact h
