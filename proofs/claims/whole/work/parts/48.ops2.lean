-- CALL AGAINST CALL: guest, leave, say, wipe, state, eats
theorem zA_u {μ : sM} {r i : Nat} {v : Int32} (h : r < 62) : zA μ (s_u μ r i v) := fun q hq => s_u_ne (by omega)
theorem zB_u {μ : sM} {r i : Nat} {v : Int32} (h : 62 ≤ r) : zB μ (s_u μ r i v) := fun q hq => s_u_ne (by omega)
theorem tU_at {T : tT} {k i v k' i' : Nat} : (tU T k i v).2 k' i' = if k' = k ∧ i' = i then v else T.2 k' i' := by
  unfold tU va_up
  by_cases c : k' = k
  · subst c; simp
  · simp [c]
def nGuest (T : tT) (g s h a o : Nat) : tT := tU (tU (tU (tU (tU T 6 g s) 7 g h) 8 g a) 9 g o) 10 g 1
theorem nGuest_w {T : tT} {g s h a o : Nat} (hT : tW T) (hs : s ≤ 9) (h1 : 1 ≤ h) (h9 : h ≤ 9) (ha : a ≤ 3) (o1 : 1 ≤ o) (o9 : o ≤ 9) : tW (nGuest T g s h a o) := by
  have a1 : tW (tU T 6 g s) := tU_w hT (Or.inl hs) (by omega) (by omega) (by omega) (by omega) (by omega)
  have a2 : tW (tU (tU T 6 g s) 7 g h) := tU_w a1 (Or.inl h9) (by omega) (by omega) (by omega) (by omega) (by omega)
  have a3 : tW (tU (tU (tU T 6 g s) 7 g h) 8 g a) := tU_w a2 (Or.inl (by omega)) (by omega) (by omega) (by omega) (by omega) (by omega)
  have a4 : tW (tU (tU (tU (tU T 6 g s) 7 g h) 8 g a) 9 g o) := tU_w a3 (Or.inl o9) (by omega) (by omega) (by omega) (by omega) (by omega)
  refine tU_w a4 (Or.inl (by omega)) (by omega) (by omega) (by omega) (fun _ _ => ?_) (by omega)
  simp only [tU_at]
  simp [h1, o1]
theorem q_guest {d : Nat} {μ : sM} {Z : tZ} {a b c e k : Int32} {K : Int32 → Int32 → sM → Prop} (hW : zW Z) (hC : zC μ Z) (hM : zM μ Z) (hK : qK K) : sCl sLL mX8_guest (d + 20) [sR 0, sI a, sI b, sI c, sI e, sI k] μ (kI fun r μ1 => sCl sLL mX9_guest (d + 20) [sR 62, sI a, sI b, sI c, sI e, sI k] μ1 (kI fun r2 μ2 => K r r2 μ2)) := by
  have hT := hW.1
  have hb : ∀ i, Z.1.2 10 i ≤ 1 := fun i => (hT.2.2.1 i).2.2
  have z1 : (1 : Int32).toInt = 1 := by decide
  have z3 : (3 : Int32).toInt = 3 := by decide
  have z9 : (9 : Int32).toInt = 9 := by decide
  -- the reference, refused
  have ref : ∀ {μ1 : sM} {K2 : Int32 → sM → Prop}, (oIn a 0 3 = false → K2 (-1) μ1) → (oIn a 0 3 = true → ¬ (oIn b 0 9 = true ∧ oIn c 1 9 = true ∧ oIn e 0 3 = true ∧ oIn k 1 9 = true) → K2 (-2) μ1) → ((oIn a 0 3 = true ∧ oIn b 0 9 = true ∧ oIn c 1 9 = true ∧ oIn e 0 3 = true ∧ oIn k 1 9 = true) → (vp_in a 4 ∧ sCl sLL mX9_ones (d + 19) [sI ((μ1.1 62 4) ||| ((1 : Int32) <<< (a &&& 31)))] (s_u (s_u (s_u (s_u (s_u μ1 66 (a.toNatClampNeg) b) 67 (a.toNatClampNeg) c) 68 (a.toNatClampNeg) e) 69 (a.toNatClampNeg) k) 62 4 ((μ1.1 62 4) ||| ((1 : Int32) <<< (a &&& 31)))) (kI fun r6 μ6 => K2 r6 μ6))) → sCl sLL mX9_guest (d + 20) [sR 62, sI a, sI b, sI c, sI e, sI k] μ1 (kI K2) := by
    intro μ1 K2 k1 k2 k3
    refine eX9_guest (c_inN 0 3 (by decide) (by decide) (fun c1 => ⟨fun _ => ?_, fun w => absurd w (by decide)⟩) (fun c1 => ⟨fun w => absurd rfl w, fun _ => k1 c1⟩))
    refine c_inN 0 9 (by decide) (by decide) (fun c2 => ⟨fun w => absurd w (by decide), fun _ => ?_⟩) (fun c2 => ⟨fun _ => k2 c1 (fun w => by rw [c2] at w; cases w.1), fun w => absurd rfl w⟩)
    refine c_inN 1 9 (by decide) (by decide) (fun c3 => ⟨fun w => absurd w (by decide), fun _ => ?_⟩) (fun c3 => ⟨fun _ => k2 c1 (fun w => by rw [c3] at w; cases w.2.1), fun w => absurd rfl w⟩)
    refine c_inN 0 3 (by decide) (by decide) (fun c4 => ⟨fun w => absurd w (by decide), fun _ => ?_⟩) (fun c4 => ⟨fun _ => k2 c1 (fun w => by rw [c4] at w; cases w.2.2.1), fun w => absurd rfl w⟩)
    exact c_inN 1 9 (by decide) (by decide) (fun c5 => ⟨fun _ => k3 ⟨c1, c2, c3, c4, c5⟩, fun w => absurd w (by decide)⟩) (fun c5 => ⟨fun w => absurd rfl w, fun _ => k2 c1 (fun w => by rw [c5] at w; cases w.2.2.2)⟩)
  refine eX8_guest ?_
  by_cases c1 : oIn a 0 3 = true
  · obtain ⟨g, hg, rfl, -⟩ := oIn_nat (hi := 3) (by omega) c1
    refine ⟨fun q => absurd q (nI_pos (by omega)), fun _ => ⟨fun _ => ?_, fun q => absurd ((nI_ltN (b := 4) (by omega) (by omega)).mpr (by omega)) q⟩⟩
    by_cases c2 : oIn b 0 9 = true ∧ oIn c 1 9 = true ∧ oIn e 0 3 = true ∧ oIn k 1 9 = true
    · obtain ⟨c2, c3, c4, c5⟩ := c2
      obtain ⟨s, hs, rfl, -⟩ := oIn_nat (hi := 9) (by omega) c2
      obtain ⟨h, h1, h9, rfl, -⟩ := oIn_lo (lo := 1) (hi := 9) (by omega) c3
      obtain ⟨ha, hha, rfl, -⟩ := oIn_nat (hi := 3) (by omega) c4
      obtain ⟨o, o1, o9, rfl, -⟩ := oIn_lo (lo := 1) (hi := 9) (by omega) c5
      refine ⟨fun q => absurd q (nI_pos (by omega)), fun _ => ⟨fun q => absurd q (nI_nlt (b := 9) (a := 9) (by omega) (by omega) |> fun _ => by
        intro q
        have q := (nI_ltN (a := 9) (by omega) (by omega)).mp q
        omega), fun _ => ⟨fun q => ?_, fun _ => ⟨fun _ => ⟨fun q => absurd q (nI_pos (by omega)), fun _ => ⟨fun q => ?_, fun _ => ⟨fun q => ?_, fun _ => ⟨fun _ => ?_, fun q => ?_⟩⟩⟩⟩, fun q => ?_⟩⟩⟩⟩
      · have q := (nI_ltN (b := 1) (by omega) (by omega)).mp q
        omega
      · have q := (nI_ltN (a := 3) (by omega) (by omega)).mp q
        omega
      · have q := (nI_ltN (b := 1) (by omega) (by omega)).mp q
        omega
      · have hN := tB_lt hb 4
        refine eX6_welcome ⟨vp_nI (by omega) (by omega), ?_⟩
        rw [nI_c (by omega), hC.1.2.2.1, sB_set4 g (by omega) _ hN, tB_up4 hb (by omega)]
        have hC1 : tC (s_u μ 1 2 (nI (tB (va_up (Z.1.2 10) g 1) 4))) 1 4 (tU Z.1 10 g 1) := tC_up10 hC.1
        have hC2 := tC_up6 (g := g) (s := s) (h := h) (a := ha) (o := o) hC1
        have hTe : tU (tU (tU (tU (tU Z.1 10 g 1) 6 g s) 7 g h) 8 g ha) 9 g o = nGuest Z.1 g s h ha o := by
          unfold nGuest
          refine Prod.ext rfl ?_
          funext k' i'
          simp only [tU_at]
          by_cases x : k' = 10
          · subst x; simp
          · simp [x]
        rw [hTe] at hC2
        generalize hμ1 : s_u (s_u (s_u (s_u (s_u μ 1 2 (nI (tB (va_up (Z.1.2 10) g 1) 4))) 9 g (nI s)) 10 g (nI h)) 11 g (nI ha)) 12 g (nI o) = μ1 at hC2
        have hf : sFr [1, 9, 10, 11, 12] μ μ1 := by
          rw [← hμ1]
          exact ((((sFr.u (by decide)).tr (sFr.u (by decide))).tr (sFr.u (by decide))).tr (sFr.u (by decide))).tr (sFr.u (by decide))
        have e12 : μ1.1 1 2 = nI (tB (va_up (Z.1.2 10) g 1) 4) := by
          rw [hC2.2.2.1]
          simp [nGuest, tU, va_up]
        have hb2 : ∀ i, va_up (Z.1.2 10) g 1 i ≤ 1 := fun i => by
          unfold va_up
          split
          · omega
          · exact hb i
        have hN2 := tB_lt hb2 4
        show sCl sLL mJ6_bitCount_0f7a4 (d + 19) [sI (μ1.1 1 2)] μ1 _
        rw [e12]
        refine c_bitCount (by omega) ?_
        have hM1 := zM_A (zA_S hf (by decide)) hM
        refine ref (fun w => by rw [c1] at w; cases w) (fun _ w => absurd ⟨c2, c3, c4, c5⟩ w) (fun _ => ⟨vp_nI (by omega) (by omega), ?_⟩)
        rw [nI_c (by omega), hM1.1.1.2.1, sB_set4 g (by omega) _ hN, tB_up4 hb (by omega)]
        refine c_ones (by omega) (hK _ _ (nGuest Z.1 g s h ha o, Z.2) ⟨nGuest_w hT hs h1 h9 hha o1 o9, hW.2⟩ (zC_B ?_ (zC_T hf (by decide) hC2 hC)) (zM_T (S := [62, 66, 67, 68, 69]) (((((sFr.u (by decide)).tr (sFr.u (by decide))).tr (sFr.u (by decide))).tr (sFr.u (by decide))).tr (sFr.u (by decide))) (by decide) ?_ ?_ hM1))
        · exact zB_S (S := [62, 66, 67, 68, 69]) (((((sFr.u (by decide)).tr (sFr.u (by decide))).tr (sFr.u (by decide))).tr (sFr.u (by decide))).tr (sFr.u (by decide))) (by decide)
        · rw [s_u_off (by omega), s_u_ne (by omega), s_u_ne (by omega), s_u_ne (by omega), s_u_ne (by omega)]
        · have := tM_up10 (g := g) (v := 1) (tM_up6 (g := g) (s := s) (h := h) (a := ha) (o := o) hM1.1)
          have e10 : (tU (tU (tU (tU Z.1 6 g s) 7 g h) 8 g ha) 9 g o).2 10 = Z.1.2 10 := by simp [tU, va_up]
          rw [e10] at this
          exact this
      · exact absurd ((nI_leN (b := 9) (by omega) (by omega)).mpr o9) q
      · exact absurd ((nI_leN (b := 9) (by omega) (by omega)).mpr h9) q
    · have out : sCl sLL mX9_guest (d + 20) [sR 62, sI (nI g), sI b, sI c, sI e, sI k] μ (kI fun r2 μ2 => K (-2) r2 μ2) := ref (fun w => by rw [c1] at w; cases w) (fun _ _ => hK _ μ Z hW hC hM) (fun w => absurd w.2 c2)
      simp only [oIn, decide_eq_true_eq] at c2
      simp only [fa_lt, fa_le, s_z0, z1, z3, z9]
      refine ⟨fun _ => out, fun q1 => ⟨fun _ => out, fun q2 => ⟨fun _ => out, fun q3 => ⟨fun q4 => ⟨fun _ => out, fun q5 => ⟨fun _ => out, fun q6 => ⟨fun _ => out, fun q7 => ⟨fun q8 => ?_, fun _ => out⟩⟩⟩⟩, fun _ => out⟩⟩⟩⟩
      omega
  · have c1 : oIn a 0 3 = false := by simpa using c1
    have out : sCl sLL mX9_guest (d + 20) [sR 62, sI a, sI b, sI c, sI e, sI k] μ (kI fun r2 μ2 => K (-1) r2 μ2) := ref (fun _ => hK _ μ Z hW hC hM) (fun w => by rw [c1] at w; cases w) (fun w => by rw [c1] at w; cases w.1)
    simp only [oIn, decide_eq_false_iff_not] at c1
    refine ⟨fun _ => out, fun q => ⟨fun q2 => ?_, fun _ => out⟩⟩
    rw [fa_lt, s_z0] at q
    rw [fa_lt, s_z4] at q2
    omega
theorem q_leave {d : Nat} {μ : sM} {Z : tZ} {a : Int32} {K : Int32 → Int32 → sM → Prop} (hW : zW Z) (hC : zC μ Z) (hM : zM μ Z) (hK : qK K) : sCl sLL mX8_leave (d + 20) [sR 0, sI a] μ (kI fun r μ1 => sCl sLL mX9_leave (d + 20) [sR 62, sI a] μ1 (kI fun r2 μ2 => K r r2 μ2)) := by
  have hT := hW.1
  have hb : ∀ i, Z.1.2 10 i ≤ 1 := fun i => (hT.2.2.1 i).2.2
  have hN := tB_lt hb 4
  refine eX8_leave (c_hasGuest hT hC.1 (fun g hg e hth => ⟨fun _ => ?_, fun w => absurd w (by decide)⟩) (fun hno => ⟨fun w => absurd rfl w, fun _ => ?_⟩))
  · subst e
    have hb2 : ∀ i, va_up (Z.1.2 10) g 0 i ≤ 1 := fun i => by
      unfold va_up
      split
      · omega
      · exact hb i
    have hN2 := tB_lt hb2 4
    have hw2 : tW (tU Z.1 10 g 0) := tU_w hT (Or.inl (by omega)) (by omega) (by omega) (by omega) (by omega) (by omega)
    rw [hC.1.2.2.1, sB_off4 g hg _ hN, tB_up4 hb hg]
    refine c_bitCount (by omega) ?_
    have hM1 := zM_A (zA_u (μ := μ) (r := 1) (i := 2) (v := nI (tB (va_up (Z.1.2 10) g 0) 4)) (by omega)) hM
    refine eX9_leave (c_isThere hT hM1.1.1 (fun g' hg' e hth' => ⟨fun _ => ?_, fun w => absurd w (by decide)⟩) (fun hno => ?_))
    · rw [hM1.1.1.2.1, sB_off4 g hg _ hN, tB_up4 hb hg]
      refine c_ones (by omega) (hK _ _ (tU Z.1 10 g 0, Z.2) ⟨hw2, hW.2⟩ (zC_B (zB_u (by omega)) (zC_T (S := [1]) (sFr.u (by decide)) (by decide) (tC_up10 hC.1) hC)) (zM_T (S := [62]) (sFr.u (by decide)) (by decide) (s_u_off (by omega)) (tM_up10 hM1.1) hM1))
    · have := hno g hg rfl
      omega
  · refine eX9_leave (c_isThere hT hM.1.1 (fun g hg e hth => ?_) (fun _ => ⟨fun w => absurd rfl w, fun _ => hK _ μ Z hW hC hM⟩))
    have := hno g hg e
    omega
/-- another pad, all else the same -/
theorem zC_P {μ μ' : sM} {Z : tZ} {c : Nat} {sg : Nat → Nat} (h : sFr [33, 34] μ μ') (h33 : μ'.1 33 0 = nI c) (h34 : ∀ i, i < c → μ'.1 34 i = nI (sg i)) (hC : zC μ Z) : zC μ' (Z.1, (c, sg), Z.2.2) := by
  obtain ⟨h1, h2, h3, h4⟩ := hC
  refine ⟨tC_S h1 h (by decide), h33, h34, fun k hk => ⟨fun q => by rw [h.2 32 (by decide)]; exact (h4 k hk).1 q, fun T q => ?_⟩⟩
  obtain ⟨a, b⟩ := (h4 k hk).2 T q
  exact ⟨by rw [h.2 32 (by decide)]; exact a, tC_fr (h.2 (2 + k) (by simp; omega)) (fun j hj => h.2 (13 + 9 * k + j) (by simp; omega)) b⟩
theorem zM_P {μ μ' : sM} {Z : tZ} {c : Nat} {sg : Nat → Nat} (h : sFr [62, 70] μ μ') (hk : ∀ k, k ≠ 10 → μ'.1 62 k = μ.1 62 k) (h33 : μ'.1 62 10 = nI c) (h34 : ∀ i, i < c → μ'.1 70 i = nI (sg i)) (hM : zM μ Z) : zM μ' (Z.1, (c, sg), Z.2.2) := by
  obtain ⟨h1, h2, h3, h4⟩ := hM
  refine ⟨tM_fr (hk 0 (by omega)) (hk 4 (by omega)) (fun j hj => h.2 (63 + j) (by simp; omega)) h1, h33, h34, fun k hk => ⟨fun q => by rw [h.2 85 (by decide)]; exact (h4 k hk).1 q, fun T q => ?_⟩⟩
  obtain ⟨a, b⟩ := (h4 k hk).2 T q
  exact ⟨by rw [h.2 85 (by decide)]; exact a, tK_fr (h.2 84 (by decide)) b⟩
theorem q_say {d : Nat} {μ : sM} {Z : tZ} {a : Int32} {K : Int32 → Int32 → sM → Prop} (hW : zW Z) (hC : zC μ Z) (hM : zM μ Z) (hK : qK K) : sCl sLL mX8_say (d + 20) [sR 0, sI a] μ (kI fun r μ1 => sCl sLL mX9_say (d + 20) [sR 62, sI a] μ1 (kI fun r2 μ2 => K r r2 μ2)) := by
  have z33 : (33 : Int32).toInt = 33 := by decide
  have z126 : (126 : Int32).toInt = 126 := by decide
  have hc := hW.2.1
  refine eX8_say ?_
  by_cases c1 : oIn a 33 126 = true
  · obtain ⟨s, h1, h2, rfl, -⟩ := oIn_lo (lo := 33) (hi := 126) (by omega) c1
    refine ⟨fun q => ?_, fun _ => ⟨fun _ => eX4_add ?_, fun q => absurd ((nI_leN (b := 126) (by omega) (by omega)).mpr h2) q⟩⟩
    · have q := (nI_ltN (b := 33) (by omega) (by omega)).mp q
      omega
    · rw [hC.2.1, show (40 : Int32) = nI 40 from rfl, nI_ltN (by omega) (by omega), nI_1]
      refine ⟨fun q => ⟨vp_nI q (by omega), ?_⟩, fun q => ?_⟩
      · rw [nI_c (by omega)]
        have hf : sFr [33, 34] μ (s_u (s_u μ 34 Z.2.1.1 (nI s)) 33 0 (nI (Z.2.1.1 + 1))) := (sFr.u (by decide)).tr (sFr.u (by decide))
        have hC1 : zC (s_u (s_u μ 34 Z.2.1.1 (nI s)) 33 0 (nI (Z.2.1.1 + 1))) (Z.1, (Z.2.1.1 + 1, va_up Z.2.1.2 Z.2.1.1 s), Z.2.2) := zC_P hf s_u_at (fun i hi => by
          rw [s_u_ne (by omega)]
          by_cases c : i = Z.2.1.1
          · rw [c, s_u_at]; simp [va_up]
          · rw [s_u_off c, hC.2.2.1 i (by omega)]; simp [va_up, c]) hC
        have hM1 := zM_A (zA_S hf (by decide)) hM
        refine eX9_say (c_inN 33 126 (by decide) (by decide) (fun _ => ⟨fun _ => ?_, fun w => absurd w (by decide)⟩) (fun w => by rw [c1] at w; cases w))
        rw [hM1.2.1, show (40 : Int32) = nI 40 from rfl, nI_inj (a := Z.2.1.1) (b := 40) (by omega) (by omega), nI_1]
        refine ⟨fun _ => ⟨vp_nI q (by omega), ?_⟩, fun w => by omega⟩
        rw [nI_c (by omega)]
        have hf2 : sFr [62, 70] (s_u (s_u μ 34 Z.2.1.1 (nI s)) 33 0 (nI (Z.2.1.1 + 1))) (s_u (s_u (s_u (s_u μ 34 Z.2.1.1 (nI s)) 33 0 (nI (Z.2.1.1 + 1))) 70 Z.2.1.1 (nI s)) 62 10 (nI (Z.2.1.1 + 1))) := (sFr.u (by decide)).tr (sFr.u (by decide))
        refine hK _ _ (Z.1, (Z.2.1.1 + 1, va_up Z.2.1.2 Z.2.1.1 s), Z.2.2) ⟨hW.1, by show Z.2.1.1 + 1 ≤ 40; omega, fun i hi => ?_, hW.2.2.2⟩ (zC_B (zB_S hf2 (by decide)) hC1) (zM_P hf2 (fun k hk => by rw [s_u_off hk, s_u_ne (by omega)]) s_u_at (fun i hi => ?_) hM1)
        · have hi : i < Z.2.1.1 + 1 := hi
          show 33 ≤ va_up Z.2.1.2 Z.2.1.1 s i ∧ va_up Z.2.1.2 Z.2.1.1 s i ≤ 126
          unfold va_up
          split
          · exact ⟨h1, h2⟩
          · exact hW.2.2.1 i (by omega)
        · rw [s_u_ne (by omega)]
          by_cases c : i = Z.2.1.1
          · rw [c, s_u_at]; simp [va_up]
          · rw [s_u_off c, hM1.2.2.1 i (by omega)]; simp [va_up, c]
      · refine eX9_say (c_inN 33 126 (by decide) (by decide) (fun _ => ⟨fun _ => ?_, fun w => absurd w (by decide)⟩) (fun w => by rw [c1] at w; cases w))
        rw [hM.2.1, show (40 : Int32) = nI 40 from rfl, nI_inj (a := Z.2.1.1) (b := 40) (by omega) (by omega)]
        exact ⟨fun w => by omega, fun _ => hK _ μ Z hW hC hM⟩
  · have c1 : oIn a 33 126 = false := by simpa using c1
    have out : sCl sLL mX9_say (d + 20) [sR 62, sI a] μ (kI fun r2 μ2 => K (-2) r2 μ2) := eX9_say (c_inN 33 126 (by decide) (by decide) (fun w => by rw [c1] at w; cases w) (fun _ => ⟨fun w => absurd rfl w, fun _ => hK _ μ Z hW hC hM⟩))
    simp only [oIn, decide_eq_false_iff_not] at c1
    refine ⟨fun _ => out, fun q => ⟨fun q2 => ?_, fun _ => out⟩⟩
    rw [fa_lt, z33] at q
    rw [fa_le, z126] at q2
    omega
theorem q_wipe {d : Nat} {μ : sM} {Z : tZ} {K : Int32 → Int32 → sM → Prop} (hW : zW Z) (hC : zC μ Z) (hM : zM μ Z) (hK : qK K) : sCl sLL mX8_wipe (d + 20) [sR 0] μ (kI fun r μ1 => sCl sLL mX9_wipe (d + 20) [sR 62] μ1 (kI fun r2 μ2 => K r r2 μ2)) := by
  have hf : sFr [33, 34] μ (s_u μ 33 0 0) := sFr.u (by decide)
  have hM1 := zM_A (zA_S hf (by decide)) hM
  refine eX8_wipe (eX9_wipe ?_)
  rw [hC.2.1]
  have hf2 : sFr [62, 70] (s_u μ 33 0 0) (s_u (s_u μ 33 0 0) 62 10 0) := sFr.u (by decide)
  have e : (s_u μ 33 0 0).1 62 10 = nI Z.2.1.1 := hM1.2.1
  rw [e]
  exact hK _ _ (Z.1, (0, Z.2.1.2), Z.2.2) ⟨hW.1, by show 0 ≤ 40; omega, fun i hi => by have hi : i < 0 := hi; omega, hW.2.2.2⟩ (zC_B (zB_S hf2 (by decide)) (zC_P hf s_u_at (fun i hi => by omega) hC)) (zM_P hf2 (fun k hk => s_u_off hk) s_u_at (fun i hi => by omega) hM1)
theorem q_state {d : Nat} {μ : sM} {Z : tZ} {a b : Int32} {K : Int32 → Int32 → sM → Prop} (hW : zW Z) (hC : zC μ Z) (hM : zM μ Z) (hK : qK K) : sCl sLL mX8_state (d + 20) [sR 0, sI a, sI b] μ (kI fun r μ1 => sCl sLL mX9_state (d + 20) [sR 62, sI a, sI b] μ1 (kI fun r2 μ2 => K r r2 μ2)) := by
  have hT := hW.1
  have h7 := hT.1.2
  have z1 : (1 : Int32).toInt = 1 := by decide
  have hk := hK
  refine eX8_state (c_hasThing hC.1.1 h7 (fun t ht e => ⟨fun _ => ?_, fun w => absurd w (by decide)⟩) (fun q => ⟨fun w => absurd rfl w, fun _ => ?_⟩))
  · subst e
    have ref : ∀ {K2 : Int32 → sM → Prop}, (b = 0 → K2 (nI (Z.1.2 3 t)) μ) → (b = 1 → K2 (nI (Z.1.2 4 t)) μ) → (¬ b = 0 → ¬ b = 1 → K2 (-2) μ) → sCl sLL mX9_state (d + 20) [sR 62, sI (nI t), sI b] μ (kI K2) := by
      intro K2 k0 k1 k2
      refine eX9_state (c_isThing hM.1.1.1 hT.1.1 h7 (fun t' ht' e => ⟨fun _ => ⟨fun q => ⟨fun q2 => k2 q q2, fun q2 => ⟨vp_nI (by omega) (by omega), ?_⟩⟩, fun q => c_at 3 t ⟨vp_nI (by omega) (by omega), ?_⟩⟩, fun w => absurd w (by decide)⟩) (fun q => ?_))
      · rw [nI_c (by omega), (hM.1.2 t (by omega)).2.2.1]
        exact k1 q2
      · rw [nI_c (by omega), show 7 * 3 + t = 21 + t by omega, (hM.1.2 t (by omega)).2.1]
        exact k0 q
      · rw [nI_i (by omega)] at q
        omega
    have h4 := hC.1.2.2.2.1 t (by omega)
    by_cases b0 : b = 0
    · subst b0
      refine ⟨fun q => absurd q (by decide), fun _ => ⟨fun _ => ⟨fun q => absurd rfl q, fun _ => ?_⟩, fun q => absurd (by decide) q⟩⟩
      refine c_ofThing (w := 3) hT hC.1 (by omega) (by omega) ?_
      exact ref (fun _ => hK _ μ Z hW hC hM) (fun q => absurd q (by decide)) (fun q => absurd rfl q)
    · by_cases b1 : b = 1
      · subst b1
        refine ⟨fun q => absurd q (by decide), fun _ => ⟨fun _ => ⟨fun _ => ?_, fun q => absurd q b0⟩, fun q => absurd (by decide) q⟩⟩
        refine c_ofThing (w := 4) hT hC.1 (by omega) (by omega) ?_
        exact ref (fun q => absurd q (by decide)) (fun _ => hK _ μ Z hW hC hM) (fun _ q => absurd rfl q)
      · have out := ref (K2 := fun r2 μ2 => K (-2) r2 μ2) (fun q => absurd q b0) (fun q => absurd q b1) (fun _ _ => hK _ μ Z hW hC hM)
        refine ⟨fun _ => out, fun q => ⟨fun q2 => ?_, fun _ => out⟩⟩
        rw [fa_lt, s_z0] at q
        rw [fa_le, z1] at q2
        rw [fa_eq, s_z0] at b0
        rw [fa_eq, z1] at b1
        omega
  · refine eX9_state (c_isThing hM.1.1.1 hT.1.1 h7 (fun t ht e => ?_) (fun _ => ⟨fun w => absurd rfl w, fun _ => hK _ μ Z hW hC hM⟩))
    subst e
    rw [nI_i (by omega)] at q
    omega
theorem q_eats {d : Nat} {μ : sM} {Z : tZ} {a : Int32} {K : Int32 → Int32 → sM → Prop} (hW : zW Z) (hC : zC μ Z) (hM : zM μ Z) (hK : qK K) : sCl sLL mX8_eats (d + 20) [sR 0, sI a] μ (kI fun r μ1 => sCl sLL mX9_eats (d + 20) [sR 62, sI a] μ1 (kI fun r2 μ2 => K r r2 μ2)) := by
  have hT := hW.1
  have hlk : ∀ i, Z.1.2 2 i ≤ 1 := fun i => (hT.2.2.1 i).1
  have hL9 : ∀ i, Z.1.2 3 i ≤ 9 := fun i => by have := hT.2.1 3 i; simpa using this
  refine eX8_eats (c_hasGuest hT hC.1 (fun g hg e hth => ⟨fun _ => ?_, fun w => absurd w (by decide)⟩) (fun hno => ⟨fun w => absurd rfl w, fun _ => ?_⟩))
  · subst e
    refine c_begin hC.1 (fun μ1 hf1 hK1 => c_choice hT (tC_S hC.1 hf1 (by decide)) hK1 hlk hL9 (fun u hu => by cases hu) hg ?_)
    have hC1 := zC_S hf1 (by decide) hC
    have hM1 := zM_A (zA_S hf1 (by decide)) hM
    refine eX9_eats (c_isThere hT hM1.1.1 (fun g' hg' e hth' => ⟨fun _ => ?_, fun w => absurd w (by decide)⟩) (fun hno => ?_))
    · have hq : mQ μ1 (s_u μ1 62 11 (-6)) := ⟨mG.of (S := [62]) (sFr.u (by decide)) (by decide) (fun k hk => s_u_off (by omega)) (fun j hj => by rw [s_u_ne (by omega)]), fun i hi => by rw [s_u_ne (by omega), s_u_ne (by omega)]; exact ⟨rfl, rfl⟩⟩
      have hM2 := zM_Q hq hM1
      refine c_taken (lk := Z.1.2 2) (L := Z.1.2 3) (last := none) hT hM2.1.1 ⟨fun t ht => ⟨(hM2.1.2 t ht).1, (hM2.1.2 t ht).2.1⟩, s_u_at⟩ hlk hL9 (fun u hu => by cases hu) hg ?_
      exact hK _ _ Z hW (zC_B (zB_Q hq) hC1) hM2
    · have := hno g hg rfl
      omega
  · refine eX9_eats (c_isThere hT hM.1.1 (fun g hg e hth => ?_) (fun _ => ⟨fun w => absurd rfl w, fun _ => hK _ μ Z hW hC hM⟩))
    have := hno g hg e
    omega
