-- CALL AGAINST CALL: belief
def qKL (K : Int64 → Int64 → sM → Prop) : Prop := ∀ r μ Z, zW Z → zC μ Z → zM μ Z → K r r μ
theorem bA_pos {T : tT} (hT : tW T) (h : ¬ tB (T.2 10) 4 = 0) : 1 ≤ bA T := by
  have of : ∀ g, g < 4 → T.2 10 g = 1 → 1 ≤ bOf T g := fun g hg th => by
    have := (hT.2.2.2.1 g hg th).2
    unfold bOf
    rw [if_pos th]
    exact this
  have l : ∀ g, T.2 10 g ≤ 1 := fun g => (hT.2.2.1 g).2.2
  have e : bA T = bOf T 0 + (bOf T 1 + (bOf T 2 + (bOf T 3 + 0))) := rfl
  have e2 : tB (T.2 10) 4 = (((0 + T.2 10 0 * 2 ^ 0) + T.2 10 1 * 2 ^ 1) + T.2 10 2 * 2 ^ 2) + T.2 10 3 * 2 ^ 3 := rfl
  have l0 := l 0
  have l1 := l 1
  have l2 := l 2
  have l3 := l 3
  rw [e2] at h
  rw [e]
  by_cases c0 : T.2 10 0 = 1
  · have := of 0 (by omega) c0; omega
  by_cases c1 : T.2 10 1 = 1
  · have := of 1 (by omega) c1; omega
  by_cases c2 : T.2 10 2 = 1
  · have := of 2 (by omega) c2; omega
  by_cases c3 : T.2 10 3 = 1
  · have := of 3 (by omega) c3; omega
  exfalso
  apply h
  rw [show T.2 10 0 = 0 by omega, show T.2 10 1 = 0 by omega, show T.2 10 2 = 0 by omega, show T.2 10 3 = 0 by omega]
theorem c_beliefM {d : Nat} {μ : sM} {T : tT} {m : Nat} {a p : Int32} {f : Int64 → sM → Prop} (hT : tW T) (hM : tM μ T) (hm : m ≤ 6) (hA : 1 ≤ bA T) (h1 : ¬ p = 0 → ∀ μ', mQ μ μ' → f (lN (bA T ^ m / Nat.gcd (bU T m a) (bA T ^ m))) μ') (h0 : p = 0 → ∀ μ', mQ μ μ' → f (lN (bU T m a / Nat.gcd (bU T m a) (bA T ^ m))) μ') : sCl sLL mX9_keepNow (d + 4) [sR 62] μ (kV fun μ4 => sG sLL mX9_belief (d + 5) (kL f) 67 [some (sR 62), some (sI (nI m)), some (sI a), some (sI p), some (sL 0), none, some (sL 0), none, some (sI 0), none, none, none] [] μ4) := by
  have h7 := hT.1.2
  have h4m := pow4_le (n := m) hm
  have pb := bA_pow hT hm
  have p1 : 1 ≤ bA T ^ m := Nat.one_le_pow m _ hA
  have ub := bU_le (T := T) (m := m) (a := a)
  have tot6 : rS (bPr T) ((List.range' 0 (4 ^ m)).map (tRow m)) = bA T ^ m := by rw [← List.range_eq_range', tRow_all, rS_pr]
  have tot4 : rS (bX T a) ((List.range' 0 (4 ^ m)).map (tRow m)) = bU T m a := by rw [← List.range_eq_range', tRow_all, rS_bX]
  refine c_keepNow (fun μ1 hf1 hb1 => ?_)
  refine s_down (P := fun x => ∀ μ2 n4 n6, goF μ μ2 → n4 + rS (bX T a) ((List.range' x (4 ^ m - x)).map (tRow m)) = bU T m a → n6 + rS (bPr T) ((List.range' x (4 ^ m - x)).map (tRow m)) = bA T ^ m → sG sLL mX9_belief (d + 4 + 1) (kL f) 67 [some (sR 62), some (sI (nI m)), some (sI a), some (sI p), some (sL (lN n4)), none, some (sL (lN n6)), none, some (sI (nI x)), none, none, none] [] μ2) (4 ^ m) ?_ ?_ 0 (Nat.zero_le _) μ1 0 0 (goF_keep hf1 hb1) (by rw [Nat.zero_add]; exact tot4) (by rw [Nat.zero_add]; exact tot6)
  · intro μ2 n4 n6 F2 e4 e6
    rw [Nat.sub_self] at e4 e6
    have e4 : n4 = bU T m a := e4
    have e6 : n6 = bA T ^ m := e6
    subst e4 e6
    refine sX9_belief_67 (c_power hm ⟨fun _ => c_backG hM F2 (fun μ3 F3 Q3 _ _ => ?_), fun q => absurd ((nI_leN (by omega) (by omega)).mpr (Nat.le_refl _)) q⟩)
    exact c_lowest (by omega) pb p1 (fun q => h1 q μ3 Q3) (fun q => h0 q μ3 Q3)
  · intro x hx ih μ2 n4 n6 F2 e4 e6
    rw [show 4 ^ m - x = (4 ^ m - (x + 1)) + 1 by omega, List.range'_succ, List.map_cons, rS] at e4 e6
    refine sX9_belief_67 (c_power hm ⟨fun q => ?_, fun _ => ?_⟩)
    · have q := (nI_leN (by omega) (by omega)).mp q
      omega
    · refine c_layRow hm (by omega) (fun μ3 hf3 h62 h78 h24 => ?_)
      have F3 : goF μ μ3 := F2.tr0 (hf3.mono (by decide)) (fun j hj => h62 j (by omega)) (fun j hj => by rw [hf3.2 63 (by decide)])
      have hrl := tRow_len m x
      have e1 : sI (nI m) = sI (nI (tRow m x).length) := by rw [hrl]
      have cw : ∀ {f2 : Int64 → sM → Prop}, sCl sLL mX9_weightOf (d + 1 + 3) [sR 62, sI (nI (tRow m x).length)] μ3 (kL f2) → sCl sLL mX9_weightOf (d + 4) [sR 62, sI (nI m)] μ3 (kL f2) := by
        intro f2 hc
        rw [← e1] at hc
        exact hc
      refine cw (c_weightOf hT (goF_E F3 hM.1) (fun t ht => by rw [F3.2.2.1 _ (by omega)]; exact (hM.2 t ht).1) (fun t ht => by rw [(F3.2.2.2 t ht).1]; exact (hM.2 t ht).2.1) (by omega) (tRow_g m x) (fun i hi => h78 i (by omega)) (fun μ4 m4 hL4 h94 => ?_))
      have F4 := F3.m m4
      have E4 := goF_E F4 hM.1
      have next : ∀ μ5 (y : Int64) v, goF μ μ5 → y = lN (n4 + v) → v = bX T a (tRow m x) → sG sLL mX9_belief (d + 4 + 1) (kL f) 67 [some (sR 62), some (sI (nI m)), some (sI a), some (sI p), some (sL y), none, some (sL (lN n6 + lN (bPr T (tRow m x)))), none, some (sI (nI x + 1)), none, none, none] [] μ5 := by
        intro μ5 y v F5 ey ev
        subst ey ev
        rw [nI_1, lN_add]
        exact ih μ5 _ _ F5 (by omega) (by omega)
      have zero : ∀ y : Int64, y = lN n4 + 0 → y = lN (n4 + 0) := fun y e => by rw [e]; exact lN_add n4 0
      have seen : bOk a (tRow m x) = true → sCl sLL mX9_isSeenSo (d + 4) [sR 62] μ4 (kI fun r4 μ4 => ((r4 = 0 → sG sLL mX9_belief (d + 4 + 1) (kL f) 67 [some (sR 62), some (sI (nI m)), some (sI a), some (sI p), some (sL (lN n4 + 0)), none, some (sL (lN n6 + lN (bPr T (tRow m x)))), none, some (sI (nI x + 1)), none, none, none] [] μ4) ∧ (¬ r4 = 0 → sG sLL mX9_belief (d + 4 + 1) (kL f) 67 [some (sR 62), some (sI (nI m)), some (sI a), some (sI p), some (sL (lN n4 + lN (bPr T (tRow m x)))), none, some (sL (lN n6 + lN (bPr T (tRow m x)))), none, some (sI (nI x + 1)), none, none, none] [] μ4))) := by
        intro ok
        refine c_isSeenSo h7 E4.1 hL4 h94 (fun t ht => by rw [F4.1.2 65 (by decide)]; exact (hM.2 t ht).2.2.2) (tW_S hT) (fun hs => ⟨fun w => absurd w (by decide), fun _ => next μ4 _ _ F4 (lN_add _ _) ?_⟩) (fun hs => ⟨fun _ => next μ4 _ 0 F4 (zero _ rfl) ?_, fun w => absurd rfl w⟩)
        · unfold bX bV
          rw [if_pos ok, if_pos hs]
        · unfold bX bV
          rw [if_pos ok, hs]
          rfl
      have no : bOk a (tRow m x) = false → sG sLL mX9_belief (d + 4 + 1) (kL f) 67 [some (sR 62), some (sI (nI m)), some (sI a), some (sI p), some (sL (lN n4 + 0)), none, some (sL (lN n6 + lN (bPr T (tRow m x)))), none, some (sI (nI x + 1)), none, none, none] [] μ4 := by
        intro ok
        refine next μ4 _ 0 F4 (zero _ rfl) ?_
        unfold bX
        rw [ok]
        rfl
      have i0 := nI_leN (a := m) (b := 0) (by omega) (by omega)
      have e78 : μ4.1 78 = μ3.1 78 := m4.1.2 78 (by decide)
      rw [e78]
      cases hrow : tRow m x with
      | nil =>
        rw [hrow] at seen no hrl
        have m0 : m = 0 := by simpa using hrl.symm
        refine ⟨fun q => seen (by simp [bOk, q]), fun q => ⟨fun _ => no (by simp [bOk, q]), fun w => absurd (i0.mpr (by omega)) w⟩⟩
      | cons g s =>
        have hg : g < 4 := tRow_g m x g (by rw [hrow]; exact List.mem_cons_self)
        have hm1 : 0 < m := by
          rw [hrow] at hrl
          simp at hrl
          omega
        have v0 : μ3.1 78 0 = nI g := by
          have := h78 0 hm1
          rw [hrow] at this
          simpa using this
        rw [hrow] at seen no
        rw [v0]
        refine ⟨fun q => seen (by simp [bOk, q]), fun q => ⟨fun w => ?_, fun _ => ⟨fun q2 => no ?_, fun q2 => seen ?_⟩⟩⟩
        · have := i0.mp w; omega
        · have : ¬ a = nI g := fun w => q2 w.symm
          simp [bOk, q, this]
        · simp [bOk, q2]
theorem q_belief {d : Nat} {μ : sM} {Z : tZ} {a b c : Int32} {K : Int64 → Int64 → sM → Prop} (hW : zW Z) (hC : zC μ Z) (hM : zM μ Z) (hK : qKL K) : sCl sLL mX8_belief (d + 20) [sR 0, sI a, sI b, sI c] μ (kL fun r μ1 => sCl sLL mX9_belief (d + 20) [sR 62, sI a, sI b, sI c] μ1 (kL fun r2 μ2 => K r r2 μ2)) := by
  have hT := hW.1
  have h7 := hT.1.2
  have z1 : (1 : Int32).toInt = 1 := by decide
  have t16 := tB_lt (f := Z.1.2 10) (fun i => (hT.2.2.1 i).2.2) 4
  -- the reference behind the test of the guest
  have ref : ∀ {μ1 : sM} {K2 : Int64 → sM → Prop}, zM μ1 Z → (b = -1 ∨ ∃ g, g < 4 ∧ b = nI g ∧ Z.1.2 10 g = 1) → (¬ (oIn a 0 6 = true ∧ oIn c 0 1 = true) → K2 (-1000000000000000002) μ1) → (oIn a 0 6 = true → oIn c 0 1 = true → ((¬ nI (tB (Z.1.2 10) 4) = 0 → sCl sLL mX9_keepNow (d + 19) [sR 62] μ1 (kV fun μ3 => sG sLL mX9_belief (d + 20) (kL K2) 67 [some (sR 62), some (sI a), some (sI b), some (sI c), some (sL 0), none, some (sL 0), none, some (sI 0), none, none, none] [] μ3)) ∧ (nI (tB (Z.1.2 10) 4) = 0 → K2 (-1000000000000000003) μ1))) → sCl sLL mX9_belief (d + 20) [sR 62, sI a, sI b, sI c] μ1 (kL K2) := by
    intro μ1 K2 hM1 hb k0 k1
    have core : sCl sLL mX9_in (d + 19) [sL a.toInt64, sL 0, sL 6] μ1 (kI fun r1 μ1 => ((r1 = 0 → (kL K2) (some (sL (-1000000000000000002))) μ1) ∧ (¬ r1 = 0 → sCl sLL mX9_in (d + 19) [sL c.toInt64, sL 0, sL 1] μ1 (kI fun r2 μ2 => ((¬ r2 = 0 → ((¬ (μ2.1 62 4) = 0 → sCl sLL mX9_keepNow (d + 19) [sR 62] μ2 (kV fun μ3 => sG sLL mX9_belief (d + 20) (kL K2) 67 [some (sR 62), some (sI a), some (sI b), some (sI c), some (sL 0), none, some (sL 0), none, some (sI 0), none, none, none] [] μ3)) ∧ ((μ2.1 62 4) = 0 → (kL K2) (some (sL (-1000000000000000003))) μ2))) ∧ (r2 = 0 → (kL K2) (some (sL (-1000000000000000002))) μ2)))))) := by
      refine c_inN 0 6 (by decide) (by decide) (fun c1 => ⟨fun w => absurd w (by decide), fun _ => c_inN 0 1 (by decide) (by decide) (fun c2 => ⟨fun _ => ?_, fun w => absurd w (by decide)⟩) (fun c2 => ⟨fun w => absurd rfl w, fun _ => k0 (by rw [c2]; simp)⟩)⟩) (fun c1 => ⟨fun _ => k0 (by rw [c1]; simp), fun w => absurd rfl w⟩)
      rw [hM1.1.1.2.1]
      exact k1 c1 c2
    refine eX9_belief ⟨fun _ => core, fun q => ?_⟩
    rcases hb with hb | ⟨g, hg, e, th⟩
    · exact absurd hb q
    · refine c_isThere hT hM1.1.1 (fun _ _ _ _ => ⟨fun _ => core, fun w => absurd w (by decide)⟩) (fun hno => ?_)
      have := hno g hg e
      omega
  have cls : (b = -1 ∨ ∃ g, g < 4 ∧ b = nI g ∧ Z.1.2 10 g = 1) → sCl sLL mX8_isRowLength (d + 19) [sI a] μ (kI fun r1 μ1 => ((r1 = 0 → (kL fun r μ1 => sCl sLL mX9_belief (d + 20) [sR 62, sI a, sI b, sI c] μ1 (kL fun r2 μ2 => K r r2 μ2)) (some (sL (-1000000000000000002))) μ1) ∧ (¬ r1 = 0 → ((c < 0 → (kL fun r μ1 => sCl sLL mX9_belief (d + 20) [sR 62, sI a, sI b, sI c] μ1 (kL fun r2 μ2 => K r r2 μ2)) (some (sL (-1000000000000000002))) μ1) ∧ (¬ c < 0 → ((c ≤ 1 → ((¬ (μ1.1 1 2) = 0 → sCl sLL mX0_weigh (d + 19) [sR 57, sI a, sI b] μ1 (kV fun μ2 => ((¬ c = 0 → (kL fun r μ1 => sCl sLL mX9_belief (d + 20) [sR 62, sI a, sI b, sI c] μ1 (kL fun r2 μ2 => K r r2 μ2)) (some (sL (μ2.2 57 3))) μ2) ∧ (c = 0 → (kL fun r μ1 => sCl sLL mX9_belief (d + 20) [sR 62, sI a, sI b, sI c] μ1 (kL fun r2 μ2 => K r r2 μ2)) (some (sL (μ2.2 57 2))) μ2)))) ∧ ((μ1.1 1 2) = 0 → (kL fun r μ1 => sCl sLL mX9_belief (d + 20) [sR 62, sI a, sI b, sI c] μ1 (kL fun r2 μ2 => K r r2 μ2)) (some (sL (-1000000000000000003))) μ1))) ∧ (¬ c ≤ 1 → (kL fun r μ1 => sCl sLL mX9_belief (d + 20) [sR 62, sI a, sI b, sI c] μ1 (kL fun r2 μ2 => K r r2 μ2)) (some (sL (-1000000000000000002))) μ1))))))) := by
    intro hb
    have out : ¬ (oIn a 0 6 = true ∧ oIn c 0 1 = true) → sCl sLL mX9_belief (d + 20) [sR 62, sI a, sI b, sI c] μ (kL fun r2 μ2 => K (-1000000000000000002) r2 μ2) := fun hn => ref hM hb (fun _ => hK _ μ Z hW hC hM) (fun c1 c2 => absurd ⟨c1, c2⟩ hn)
    refine c_isRowLength (fun c1 => ⟨fun w => absurd w (by decide), fun _ => ⟨fun q => out ?_, fun q => ⟨fun q2 => ?_, fun q2 => out ?_⟩⟩⟩) (fun c1 => ⟨fun _ => out (by rw [c1]; simp), fun w => absurd rfl w⟩)
    · rw [fa_lt, s_z0] at q
      simp only [oIn, decide_eq_true_eq]
      omega
    · have c2 : oIn c 0 1 = true := by
        rw [fa_lt, s_z0] at q
        rw [fa_le, z1] at q2
        simp only [oIn, decide_eq_true_eq]
        omega
      rw [hC.1.2.2.1]
      refine ⟨fun q3 => ?_, fun q3 => ref hM hb (fun hn => absurd ⟨c1, c2⟩ hn) (fun _ _ => ⟨fun w => absurd q3 w, fun _ => hK _ μ Z hW hC hM⟩)⟩
      have hA := bA_pos hT (fun w => q3 (by rw [w]; rfl))
      obtain ⟨m, hm, rfl, -⟩ := oIn_nat (hi := 6) (by omega) c1
      refine c_weigh (d := d + 7) hT hC.1 hm hA (fun μ1 f1 u1 v1 => ?_)
      have S1 : sFr [35, 36] μ (μ1.1, μ.2) := ⟨rfl, fun r hr => f1 r (fun w => hr (by simp [w])) (fun w => hr (by simp [w]))⟩
      have hC0 : zC (μ1.1, μ.2) Z := zC_S S1 (by decide) hC
      have hC1 : zC μ1 Z := hC0
      have hM0 : zM (μ1.1, μ.2) Z := zM_A (zA_S S1 (by decide)) hM
      have hM1 : zM μ1 Z := hM0
      rw [u1, v1]
      refine ⟨fun p => ref hM1 hb (fun hn => absurd ⟨c1, c2⟩ hn) (fun _ _ => ⟨fun _ => c_beliefM (d := d + 15) hT hM1.1 hm hA (fun _ μ2 Q2 => hK _ μ2 Z hW (zC_B (zB_Q Q2) hC1) (zM_Q Q2 hM1)) (fun w => absurd w p), fun w => absurd w q3⟩), fun p => ref hM1 hb (fun hn => absurd ⟨c1, c2⟩ hn) (fun _ _ => ⟨fun _ => c_beliefM (d := d + 15) hT hM1.1 hm hA (fun w => absurd p w) (fun _ μ2 Q2 => hK _ μ2 Z hW (zC_B (zB_Q Q2) hC1) (zM_Q Q2 hM1)), fun w => absurd w q3⟩)⟩
    · rw [fa_le, z1] at q2
      simp only [oIn, decide_eq_true_eq]
      omega
  refine eX8_belief ⟨fun q => cls (Or.inl q), fun q => c_hasGuest hT hC.1 (fun g hg e th => ⟨fun _ => cls (Or.inr ⟨g, hg, e, th⟩), fun w => absurd w (by decide)⟩) (fun hno => ⟨fun w => absurd rfl w, fun _ => ?_⟩)⟩
  refine eX9_belief ⟨fun w => absurd w q, fun _ => c_isThere hT hM.1.1 (fun g hg e th => ?_) (fun _ => ⟨fun w => absurd rfl w, fun _ => hK _ μ Z hW hC hM⟩)⟩
  have := hno g hg e
  omega
