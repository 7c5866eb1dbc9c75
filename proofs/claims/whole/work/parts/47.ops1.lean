-- CALL AGAINST CALL: things, thing, guest, leave, say, wipe, rows, cup, look
def qK (K : Int32 → Int32 → sM → Prop) : Prop := ∀ r μ Z, zW Z → zC μ Z → zM μ Z → K r r μ
theorem q_things {d : Nat} {μ : sM} {Z : tZ} {a : Int32} {K : Int32 → Int32 → sM → Prop} (hW : zW Z) (hC : zC μ Z) (hM : zM μ Z) (hK : qK K) : sCl sLL mX8_things (d + 20) [sR 0, sI a] μ (kI fun r μ1 => sCl sLL mX9_things (d + 20) [sR 62, sI a] μ1 (kI fun r2 μ2 => K r r2 μ2)) :=
  p_things hC (fun μ1 hC1 hA => r_things (zM_A hA hM) (fun μ2 hM2 hB => hK _ μ2 _ (nThings_w hW) (zC_B hB hC1) hM2))
theorem q_rows {d : Nat} {μ : sM} {Z : tZ} {a b : Int32} {K : Int32 → Int32 → sM → Prop} (hW : zW Z) (hC : zC μ Z) (hM : zM μ Z) (hK : qK K) : sCl sLL mX8_rows (d + 20) [sR 0, sI a, sI b] μ (kI fun r μ1 => sCl sLL mX9_rows (d + 20) [sR 62, sI a, sI b] μ1 (kI fun r2 μ2 => K r r2 μ2)) :=
  p_rows hW.1 hC.1 (fun μ1 hf => r_rows hW.1 (zM_A (zA_S hf (by decide)) hM).1 (fun μ2 hq => hK _ μ2 Z hW (zC_B (zB_Q hq) (zC_S hf (by decide) hC)) (zM_Q hq (zM_A (zA_S hf (by decide)) hM))))
theorem q_cup {d : Nat} {μ : sM} {Z : tZ} {a b : Int32} {K : Int32 → Int32 → sM → Prop} (hW : zW Z) (hC : zC μ Z) (hM : zM μ Z) (hK : qK K) : sCl sLL mX8_cup (d + 20) [sR 0, sI a, sI b] μ (kI fun r μ1 => sCl sLL mX9_cup (d + 20) [sR 62, sI a, sI b] μ1 (kI fun r2 μ2 => K r r2 μ2)) :=
  p_cup hW.1 hC.1 (fun μ1 hf => r_cup hW.1 (zM_A (zA_S hf (by decide)) hM).1 (fun μ2 hq => hK _ μ2 Z hW (zC_B (zB_Q hq) (zC_S hf (by decide) hC)) (zM_Q hq (zM_A (zA_S hf (by decide)) hM))))
theorem q_look {d : Nat} {μ : sM} {Z : tZ} {a b : Int32} {K : Int32 → Int32 → sM → Prop} (hW : zW Z) (hC : zC μ Z) (hM : zM μ Z) (hK : qK K) : sCl sLL mX8_look (d + 20) [sR 0, sI a, sI b] μ (kI fun r μ1 => sCl sLL mX9_look (d + 20) [sR 62, sI a, sI b] μ1 (kI fun r2 μ2 => K r r2 μ2)) :=
  p_look hW.1 hC.1 (fun μ1 hf => r_look hW.1 (zM_A (zA_S hf (by decide)) hM).1 (fun μ2 hq => hK _ μ2 Z hW (zC_B (zB_Q hq) (zC_S hf (by decide) hC)) (zM_Q hq (zM_A (zA_S hf (by decide)) hM))))
theorem c_ofThing {d : Nat} {μ : sM} {T : tT} {t w : Nat} {f : Int32 → sM → Prop} (hT : tW T) (hC : tC μ 1 4 T) (ht : t < 7) (hw : w ≤ 5) (h : f (if w = 5 then nS (T.2 5 t) else nI (T.2 w t)) μ) : sCl sLL mX6_ofThing d [sR 1, sI (nI t), sI (nI w)] μ (kI f) := by
  have hb : ∀ i, T.2 2 i ≤ 1 := fun i => (hT.2.2.1 i).1
  have h4 := hC.2.2.2.1 t ht
  simp at h4
  have hv : vp_in (nI t) 7 := vp_nI ht (by omega)
  have ec : (nI t).toNatClampNeg = t := nI_c (by omega)
  refine eX6_ofThing ?_
  rw [ec, h4.1, h4.2.1, h4.2.2.1, h4.2.2.2.1, h4.2.2.2.2, hC.2.1, s_bit7 hb ht]
  have : w = 0 ∨ w = 1 ∨ w = 2 ∨ w = 3 ∨ w = 4 ∨ w = 5 := by omega
  rcases this with rfl | rfl | rfl | rfl | rfl | rfl
  · exact ⟨fun _ => ⟨hv, h⟩, fun q => absurd rfl q⟩
  · exact ⟨fun q => absurd q (by decide), fun _ => ⟨fun _ => ⟨hv, h⟩, fun q => absurd rfl q⟩⟩
  · exact ⟨fun q => absurd q (by decide), fun _ => ⟨fun q => absurd q (by decide), fun _ => ⟨fun _ => h, fun q => absurd rfl q⟩⟩⟩
  · exact ⟨fun q => absurd q (by decide), fun _ => ⟨fun q => absurd q (by decide), fun _ => ⟨fun q => absurd q (by decide), fun _ => ⟨fun _ => ⟨hv, h⟩, fun q => absurd rfl q⟩⟩⟩⟩
  · exact ⟨fun q => absurd q (by decide), fun _ => ⟨fun q => absurd q (by decide), fun _ => ⟨fun q => absurd q (by decide), fun _ => ⟨fun q => absurd q (by decide), fun _ => ⟨fun _ => ⟨hv, h⟩, fun q => absurd rfl q⟩⟩⟩⟩⟩
  · exact ⟨fun q => absurd q (by decide), fun _ => ⟨fun q => absurd q (by decide), fun _ => ⟨fun q => absurd q (by decide), fun _ => ⟨fun q => absurd q (by decide), fun _ => ⟨fun q => absurd q (by decide), fun _ => ⟨hv, h⟩⟩⟩⟩⟩⟩
/-- thing(t, w, v), as the class has it -/
def nThing (T : tT) (t w v : Nat) : tT := if w = 1 then tU (tU (tU T 1 t v) 3 t v) 4 t 0 else tU T w t v
theorem c_change {d : Nat} {μ : sM} {T : tT} {t w v : Nat} {f : sM → Prop} (hT : tW T) (hC : tC μ 1 4 T) (ht : t < 7) (hw : w ≤ 3) (hv2 : w = 2 → v ≤ 1) (h : ∀ μ', sFr [1, 4, 5, 6, 7] μ μ' → tC μ' 1 4 (nThing T t w v) → f μ') : sCl sLL mX6_change d [sR 1, sI (nI t), sI (nI w), sI (nI v)] μ (kV f) := by
  have hb : ∀ i, T.2 2 i ≤ 1 := fun i => (hT.2.2.1 i).1
  have hv : vp_in (nI t) 7 := vp_nI ht (by omega)
  have ec : (nI t).toNatClampNeg = t := nI_c (by omega)
  refine eX6_change ?_
  rw [ec]
  have : w = 0 ∨ w = 1 ∨ w = 2 ∨ w = 3 := by omega
  rcases this with rfl | rfl | rfl | rfl
  · exact ⟨fun _ => ⟨hv, h _ (sFr.u (by decide)) (tC_up0 hC)⟩, fun q => absurd rfl q⟩
  · exact ⟨fun q => absurd q (by decide), fun _ => ⟨fun _ => ⟨hv, h _ (((sFr.u (by decide)).tr (sFr.u (by decide))).tr (sFr.u (by decide))) (tC_up1 hC)⟩, fun q => absurd rfl q⟩⟩
  · refine ⟨fun q => absurd q (by decide), fun _ => ⟨fun q => absurd q (by decide), fun _ => ⟨fun _ => ?_, fun q => absurd rfl q⟩⟩⟩
    have hN := tB_lt hb 7
    have hv2 := hv2 rfl
    rw [hC.2.1, sB_set7 t ht v (by omega) _ hN, tB_up7 hb ht]
    exact h _ (sFr.u (by decide)) (tC_up2 hC)
  · exact ⟨fun q => absurd q (by decide), fun _ => ⟨fun q => absurd q (by decide), fun _ => ⟨fun q => absurd q (by decide), fun _ => ⟨hv, h _ (sFr.u (by decide)) (tC_up3 hC)⟩⟩⟩⟩
theorem nThing_w {T : tT} {t w v : Nat} (hT : tW T) (ht : t < T.1) (hw : w ≤ 3) (hv9 : v ≤ 9) (hv2 : w = 2 → v ≤ 1) : tW (nThing T t w v) := by
  unfold nThing
  split
  · have a1 : tW (tU T 1 t v) := tU_w hT (Or.inl hv9) (by omega) (by omega) (by omega) (by omega) (by omega)
    have a2 : tW (tU (tU T 1 t v) 3 t v) := tU_w a1 (Or.inl hv9) (by omega) (by omega) (by omega) (by omega) (by omega)
    exact tU_w a2 (Or.inl (by omega)) (by omega) (by omega) (by omega) (by omega) (fun _ => ht)
  · refine tU_w hT (Or.inl hv9) (fun q => ?_) (by omega) (by omega) (by omega) (fun _ => ht)
    rcases q with q | q
    · exact hv2 q
    · omega
set_option maxHeartbeats 4000000 in
theorem q_thing {d : Nat} {μ : sM} {Z : tZ} {a b c : Int32} {K : Int32 → Int32 → sM → Prop} (hW : zW Z) (hC : zC μ Z) (hM : zM μ Z) (hK : qK K) : sCl sLL mX8_thing (d + 20) [sR 0, sI a, sI b, sI c] μ (kI fun r μ1 => sCl sLL mX9_thing (d + 20) [sR 62, sI a, sI b, sI c] μ1 (kI fun r2 μ2 => K r r2 μ2)) := by
  have hT := hW.1
  have h7 := hT.1.2
  have z3 : (3 : Int32).toInt = 3 := by decide
  have z9 : (9 : Int32).toInt = 9 := by decide
  have z1 : (1 : Int32).toInt = 1 := by decide
  refine eX8_thing (c_hasThing hC.1.1 h7 (fun t ht e => ⟨fun _ => ?_, fun w => absurd w (by decide)⟩) (fun q => ⟨fun w => absurd rfl w, fun _ => ?_⟩))
  · subst e
    -- the reference, once its thing is known
    have ref : ∀ {μ1 : sM} {K2 : Int32 → sM → Prop}, zM μ1 Z → (oIn b 0 3 = false → K2 (-2) μ1) → (∀ w, w ≤ 3 → b = nI w → oIn c 0 (if w = 2 then 1 else 9) = false → K2 (-2) μ1) → (∀ w v, w ≤ 3 → b = nI w → c = nI v → v ≤ (if w = 2 then 1 else 9) → (w = 3 ∧ Z.1.2 1 t < v) → K2 (-3) μ1) → (∀ w v μ2, w ≤ 3 → b = nI w → c = nI v → v ≤ (if w = 2 then 1 else 9) → ¬ (w = 3 ∧ Z.1.2 1 t < v) → zM μ2 (nThing Z.1 t w v, Z.2) → zB μ1 μ2 → K2 (nI (Z.1.2 w t)) μ2) → sCl sLL mX9_thing (d + 20) [sR 62, sI (nI t), sI b, sI c] μ1 (kI K2) := by
      intro μ1 K2 hM1 k1 k2 k3 k4
      have b1 := hT.2.1 1 t
      simp at b1
      refine eX9_thing (c_isThing hM1.1.1.1 hT.1.1 h7 (fun t' ht' e => ⟨fun _ => ?_, fun w => absurd w (by decide)⟩) (fun q => ?_))
      · refine c_inN 0 3 (by decide) (by decide) (fun cb => ⟨fun w => absurd w (by decide), fun _ => ?_⟩) (fun cb => ⟨fun _ => k1 cb, fun w => absurd rfl w⟩)
        obtain ⟨w, hw, rfl, -⟩ := oIn_nat (hi := 3) (by omega) cb
        have hat : ∀ {μ3 : sM} {f : Int32 → sM → Prop}, f (nI (7 * w + t)) μ3 → sCl sLL mX9_at (d + 19) [sI (nI w), sI (nI t)] μ3 (kI f) := fun hh => c_at w t hh
        have hfld : μ1.1 63 (7 * w + t) = nI (Z.1.2 w t) := by
          have : w = 0 ∨ w = 1 ∨ w = 2 ∨ w = 3 := by omega
          rcases this with rfl | rfl | rfl | rfl
          · rw [show 7 * 0 + t = t by omega]; exact (hM1.1.1.2.2.1 t (by omega)).1
          · exact (hM1.1.1.2.2.1 t (by omega)).2
          · exact (hM1.1.2 t (by omega)).1
          · exact (hM1.1.2 t (by omega)).2.1
        have hv28 : vp_in (nI (7 * w + t)) 28 := vp_nI (by omega) (by omega)
        have ec : (nI (7 * w + t)).toNatClampNeg = 7 * w + t := nI_c (by omega)
        have put : ∀ v, zM (s_u μ1 63 (7 * w + t) (nI v)) (tU Z.1 w t v, Z.2) := fun v => zM_T (sFr.u (S := [63]) (by decide)) (by decide) (by rw [s_u_ne (by omega)]) (tM_upk (by omega) (by omega) hM1.1) hM1
        have putB : ∀ v, zB μ1 (s_u μ1 63 (7 * w + t) (nI v)) := fun v => zB_S (sFr.u (S := [63]) (by decide)) (by decide)
        by_cases w1 : w = 1
        · subst w1
          refine ⟨fun _ => c_inN 0 9 (by decide) (by decide) (fun cc => ⟨fun _ => ?_, fun q => absurd q (by decide)⟩) (fun cc => ⟨fun q => absurd rfl q, fun _ => k2 1 (by omega) rfl cc⟩), fun q => absurd q (by decide)⟩
          obtain ⟨v, hv, rfl, -⟩ := oIn_nat (hi := 9) (by omega) cc
          refine ⟨fun _ => hat ⟨hv28, hat ⟨hv28, fun q => absurd rfl q, fun _ => c_at 3 t ⟨vp_nI (by omega) (by omega), vp_nI (by omega) (by omega), ?_⟩⟩⟩, fun q => absurd q (by decide)⟩
          rw [ec, hfld, nI_c (by omega), nI_c (by omega)]
          refine k4 1 v _ (by omega) rfl rfl hv (by omega) ?_ (zB_S (((sFr.u (S := [63, 64]) (by decide)).tr (sFr.u (by decide))).tr (sFr.u (by decide))) (by decide))
          refine zM_T (((sFr.u (S := [63, 64]) (by decide)).tr (sFr.u (by decide))).tr (sFr.u (by decide))) (by decide) (by rw [s_u_ne (by omega), s_u_ne (by omega), s_u_ne (by omega)]) ?_ hM1
          exact tM_up4 (tM_upk (k := 3) (by omega) (by omega) (tM_upk (k := 1) (by omega) (by omega) hM1.1))
        · have n1 : ¬ nI w = 1 := fun q => w1 ((nI_inj (b := 1) (by omega) (by omega)).mp q)
          by_cases w2 : w = 2
          · subst w2
            refine ⟨fun q => absurd rfl q, fun _ => c_inN 0 1 (by decide) (by decide) (fun cc => ⟨fun _ => ?_, fun q => absurd q (by decide)⟩) (fun cc => ⟨fun q => absurd rfl q, fun _ => k2 2 (by omega) rfl cc⟩)⟩
            obtain ⟨v, hv, rfl, -⟩ := oIn_nat (hi := 1) (by omega) cc
            refine ⟨fun _ => hat ⟨hv28, hat ⟨hv28, fun _ => ?_, fun q => absurd q n1⟩⟩, fun q => absurd q (by decide)⟩
            rw [ec, hfld]
            exact k4 2 v _ (by omega) rfl rfl hv (by omega) (put v) (putB v)
          · have n2 : ¬ nI w = 2 := fun q => w2 ((nI_inj (b := 2) (by omega) (by omega)).mp q)
            have e9 : (if w = 2 then 1 else 9) = 9 := if_neg w2
            refine ⟨fun _ => c_inN 0 9 (by decide) (by decide) (fun cc => ⟨fun _ => ?_, fun q => absurd q (by decide)⟩) (fun cc => ⟨fun q => absurd rfl q, fun _ => k2 w hw rfl (by rw [if_neg w2]; exact cc)⟩), fun q => absurd q n2⟩
            obtain ⟨v, hv, rfl, -⟩ := oIn_nat (hi := 9) (by omega) cc
            by_cases w3 : w = 3
            · subst w3
              refine ⟨fun q => absurd rfl q, fun _ => c_at 1 t ⟨vp_nI (by omega) (by omega), ?_⟩⟩
              rw [nI_c (by omega), show 7 * 1 + t = 7 + t by omega, (hM1.1.1.2.2.1 t (by omega)).2, nI_leN (by omega) (by omega)]
              refine ⟨fun q => hat ⟨hv28, hat ⟨hv28, fun _ => ?_, fun q => absurd q n1⟩⟩, fun q => k3 3 v (by omega) rfl rfl hv ⟨rfl, by omega⟩⟩
              rw [ec, hfld]
              exact k4 3 v _ (by omega) rfl rfl hv (by omega) (put v) (putB v)
            · have n3 : ¬ nI w = 3 := fun q => w3 ((nI_inj (b := 3) (by omega) (by omega)).mp q)
              have w0 : w = 0 := by omega
              refine ⟨fun _ => hat ⟨hv28, hat ⟨hv28, fun _ => ?_, fun q => absurd q n1⟩⟩, fun q => absurd q n3⟩
              rw [ec, hfld]
              have := k4 w v (s_u μ1 63 (7 * w + t) (nI v)) hw rfl rfl (by rw [if_neg w2]; exact hv) (fun q => w3 q.1)
              unfold nThing at this
              rw [if_neg w1] at this
              exact this (put v) (putB v)
      · rw [nI_i (by omega)] at q
        omega
    -- the class
    have same : ∀ r, (∀ {μ1 : sM}, zM μ1 Z → ∀ {K2 : Int32 → sM → Prop}, K2 r μ1 → sCl sLL mX9_thing (d + 20) [sR 62, sI (nI t), sI b, sI c] μ1 (kI K2)) → sCl sLL mX9_thing (d + 20) [sR 62, sI (nI t), sI b, sI c] μ (kI fun r2 μ2 => K r r2 μ2) := fun r hh => hh hM (hK r μ Z hW hC hM)
    by_cases cb : oIn b 0 3 = true
    · obtain ⟨w, hw, rfl, -⟩ := oIn_nat (hi := 3) (by omega) cb
      have n0 : ¬ nI w < 0 := nI_pos (by omega)
      have n3 : nI w ≤ 3 := (nI_leN (b := 3) (by omega) (by omega)).mpr hw
      refine ⟨fun q => absurd q n0, fun _ => ⟨fun _ => ?_, fun q => absurd n3 q⟩⟩
      have i2 := nI_inj (a := w) (b := 2) (by omega) (by omega)
      have i3 := nI_inj (a := w) (b := 3) (by omega) (by omega)
      by_cases cc : oIn c 0 (if w = 2 then 1 else 9) = true
      · obtain ⟨v, hv, rfl, -⟩ : ∃ v, v ≤ (if w = 2 then 1 else 9) ∧ c = nI v ∧ c.toInt.toNat = v := by
          by_cases w2 : w = 2
          · rw [if_pos w2] at cc ⊢; exact oIn_nat (hi := 1) (by omega) cc
          · rw [if_neg w2] at cc ⊢; exact oIn_nat (hi := 9) (by omega) cc
        have hv9 : v ≤ 9 := by split at hv <;> omega
        have nc : ¬ nI v < 0 := nI_pos (by omega)
        have fin : ¬ (w = 3 ∧ Z.1.2 1 t < v) → sCl sLL mX6_ofThing (d + 19) [sR 1, sI (nI t), sI (nI w)] μ (kI fun r2 μ2 => sCl sLL mX6_change (d + 19) [sR 1, sI (nI t), sI (nI w), sI (nI v)] μ2 (kV fun μ3 => kI (fun r μ1 => sCl sLL mX9_thing (d + 20) [sR 62, sI (nI t), sI (nI w), sI (nI v)] μ1 (kI fun r2 μ2 => K r r2 μ2)) (some (sI r2)) μ3)) := by
          intro hno
          refine c_ofThing hT hC.1 (by omega) (by omega) (c_change hT hC.1 (by omega) hw (fun q => by rw [if_pos q] at hv; exact hv) (fun μ3 hf hC3 => ?_))
          rw [if_neg (by omega)]
          have hw3 := nThing_w (w := w) (v := v) hT ht hw hv9 (fun q => by rw [if_pos q] at hv; exact hv)
          have hC4 := zC_T hf (by decide) hC3 hC
          have hM3 := zM_A (zA_S hf (by decide)) hM
          refine ref hM3 (fun q => by rw [cb] at q; cases q) (fun w' hw' e q => ?_) (fun w' v' hw' e e' _ q => ?_) (fun w' v' μ4 hw' e e' _ _ hM4 hB => ?_)
          · have e := (nI_inj (by omega) (by omega)).mp e
            subst e
            rw [cc] at q
            cases q
          · have e := (nI_inj (by omega) (by omega)).mp e
            subst e
            have hv' : v' ≤ 9 := by
              rename_i h9
              split at h9 <;> omega
            have e' := (nI_inj (by omega) (by omega)).mp e'
            subst e'
            exact absurd q hno
          · have e := (nI_inj (by omega) (by omega)).mp e
            subst e
            have hv' : v' ≤ 9 := by
              rename_i h9 _ 
              split at h9 <;> omega
            have e' := (nI_inj (by omega) (by omega)).mp e'
            subst e'
            exact hK _ μ4 (nThing Z.1 t w v, Z.2) ⟨hw3, hW.2⟩ (zC_B hB hC4) hM4
        have no3 : Z.1.2 1 t < v → w = 3 → sCl sLL mX9_thing (d + 20) [sR 62, sI (nI t), sI (nI w), sI (nI v)] μ (kI fun r2 μ2 => K (-3) r2 μ2) := by
          intro hlt w3
          refine ref hM (fun q => by rw [cb] at q; cases q) (fun w' hw' e q => ?_) (fun w' v' hw' e e' _ q => hK _ μ Z hW hC hM) (fun w' v' μ4 hw' e e' h9 hno hM4 hB => ?_)
          · have e := (nI_inj (by omega) (by omega)).mp e
            subst e
            rw [cc] at q
            cases q
          · have e := (nI_inj (by omega) (by omega)).mp e
            subst e
            have hv' : v' ≤ 9 := by split at h9 <;> omega
            have e' := (nI_inj (by omega) (by omega)).mp e'
            subst e'
            exact absurd ⟨w3, hlt⟩ hno
        have b1 := hT.2.1 1 t
        simp at b1
        have tail : ((¬ nI w = 3 → sCl sLL mX6_ofThing (d + 19) [sR 1, sI (nI t), sI (nI w)] μ (kI fun r2 μ2 => sCl sLL mX6_change (d + 19) [sR 1, sI (nI t), sI (nI w), sI (nI v)] μ2 (kV fun μ3 => kI (fun r μ1 => sCl sLL mX9_thing (d + 20) [sR 62, sI (nI t), sI (nI w), sI (nI v)] μ1 (kI fun r2 μ2 => K r r2 μ2)) (some (sI r2)) μ3))) ∧ (nI w = 3 → (vp_in (nI t) 7 ∧ ((nI v ≤ (μ.1 5 (nI t).toNatClampNeg) → sCl sLL mX6_ofThing (d + 19) [sR 1, sI (nI t), sI (nI w)] μ (kI fun r2 μ2 => sCl sLL mX6_change (d + 19) [sR 1, sI (nI t), sI (nI w), sI (nI v)] μ2 (kV fun μ3 => kI (fun r μ1 => sCl sLL mX9_thing (d + 20) [sR 62, sI (nI t), sI (nI w), sI (nI v)] μ1 (kI fun r2 μ2 => K r r2 μ2)) (some (sI r2)) μ3))) ∧ (¬ nI v ≤ (μ.1 5 (nI t).toNatClampNeg) → kI (fun r μ1 => sCl sLL mX9_thing (d + 20) [sR 62, sI (nI t), sI (nI w), sI (nI v)] μ1 (kI fun r2 μ2 => K r r2 μ2)) (some (sI (-3))) μ))))) := by
          refine ⟨fun q => fin (fun w' => q (i3.mpr w'.1)), fun q => ⟨vp_nI (by omega) (by omega), ?_⟩⟩
          rw [nI_c (by omega), (hC.1.2.2.2.1 t (by omega)).2.1, nI_leN (by omega) (by omega)]
          exact ⟨fun q2 => fin (fun w' => by omega), fun q2 => no3 (by omega) (i3.mp q)⟩
        refine ⟨fun q => absurd q nc, fun _ => ⟨fun q => ⟨fun _ => tail, fun q2 => ?_⟩, fun q => ⟨fun _ => tail, fun q2 => ?_⟩⟩⟩
        · exact absurd ((nI_leN (b := 9) (by omega) (by omega)).mpr hv9) q2
        · rw [if_pos (i2.mp q)] at hv
          exact absurd ((nI_leN (b := 1) (by omega) (by omega)).mpr hv) q2
      · have cc : oIn c 0 (if w = 2 then 1 else 9) = false := by simpa using cc
        have out : sCl sLL mX9_thing (d + 20) [sR 62, sI (nI t), sI (nI w), sI c] μ (kI fun r2 μ2 => K (-2) r2 μ2) := by
          refine ref hM (fun q => by rw [cb] at q; cases q) (fun w' hw' e q => hK _ μ Z hW hC hM) (fun w' v' hw' e e' h9 q => ?_) (fun w' v' μ4 hw' e e' h9 hno hM4 hB => ?_)
          · have e := (nI_inj (by omega) (by omega)).mp e
            subst e
            subst e'
            simp only [oIn, decide_eq_false_iff_not] at cc
            rw [nI_i (by split at h9 <;> omega)] at cc
            split at h9 <;> simp_all <;> omega
          · have e := (nI_inj (by omega) (by omega)).mp e
            subst e
            subst e'
            simp only [oIn, decide_eq_false_iff_not] at cc
            rw [nI_i (by split at h9 <;> omega)] at cc
            split at h9 <;> simp_all <;> omega
        simp only [oIn, decide_eq_false_iff_not] at cc
        by_cases c0 : c < 0
        · exact ⟨fun _ => out, fun q => absurd c0 q⟩
        · refine ⟨fun q => absurd q c0, fun _ => ?_⟩
          rw [fa_lt, s_z0] at c0
          refine ⟨fun q => ⟨fun q2 => ?_, fun _ => out⟩, fun q => ⟨fun q2 => ?_, fun _ => out⟩⟩
          · rw [if_neg (fun w' => q (i2.mpr w'))] at cc
            rw [fa_le, z9] at q2
            omega
          · rw [if_pos (i2.mp q)] at cc
            rw [fa_le, z1] at q2
            omega
    · have cb : oIn b 0 3 = false := by simpa using cb
      have out : sCl sLL mX9_thing (d + 20) [sR 62, sI (nI t), sI b, sI c] μ (kI fun r2 μ2 => K (-2) r2 μ2) := by
        refine ref hM (fun q => hK _ μ Z hW hC hM) (fun w' hw' e q => hK _ μ Z hW hC hM) (fun w' v' hw' e e' h9 q => ?_) (fun w' v' μ4 hw' e e' h9 hno hM4 hB => ?_)
        · subst e
          simp only [oIn, decide_eq_false_iff_not] at cb
          rw [nI_i (by omega)] at cb
          omega
        · subst e
          simp only [oIn, decide_eq_false_iff_not] at cb
          rw [nI_i (by omega)] at cb
          omega
      simp only [oIn, decide_eq_false_iff_not] at cb
      by_cases b0 : b < 0
      · exact ⟨fun _ => out, fun q => absurd b0 q⟩
      · refine ⟨fun q => absurd q b0, fun _ => ⟨fun q => ?_, fun _ => out⟩⟩
        rw [fa_lt, s_z0] at b0
        rw [fa_le, z3] at q
        omega
  · refine eX9_thing (c_isThing hM.1.1.1 hT.1.1 h7 (fun t ht e => ?_) (fun _ => ⟨fun w => absurd rfl w, fun _ => hK _ μ Z hW hC hM⟩))
    subst e
    rw [nI_i (by omega)] at q
    omega
