-- lock: the walk, the reference, call against call
theorem s_p4 {m : Nat} (h : m ≤ 5) : 4 ^ m ≤ 1024 := by
  have : (4 : Nat) ^ m ≤ 4 ^ 5 := Nat.pow_le_pow_right (by omega) h
  simpa using this
theorem c_walkL {T : tT} {lk : Nat → Nat} (hT : tW T) (hk : ∀ i, lk i ≤ 1) : ∀ (m d : Nat) (σ : tS) (D : List Nat) (μ : sM) (f : sM → Prop), m ≤ 5 → tSw T σ → D.length + 4 ^ m ≤ 1024 → tC μ 1 4 T → kC μ lk σ.1 σ.2.1 → hI μ D → (∀ μ', sFr [35, 36, 58, 59] μ μ' → kC μ' lk σ.1 σ.2.1 → hI μ' (dAll D (tLv T lk m σ)) → f μ') → sCl sLL mX3_walk (d + m + 4) [sR 58, sI (nI m)] μ (kV f) := by
  intro m
  have h7 := hT.1.2
  induction m with
  | zero =>
    intro d σ D μ f hm hw hD hC hK hH hf
    rw [Nat.pow_zero] at hD
    refine eX3_walk ⟨fun q => absurd q (by decide), fun _ => ?_⟩
    refine c_asNumber hT hC hK ?_
    refine c_put (tNum7 hw.1 h7) (by omega) hH (fun μ' hf2 hH2 => hf μ' (hf2.mono (by decide)) (kC_fr (hf2.2 35 (by decide)) (hf2.2 36 (by decide)) hK) hH2)
  | succ m ihm =>
    intro d σ D μ f hm hw hD hC hK hH hf
    have p4 : 4 ^ (m + 1) = 4 * 4 ^ m := by rw [Nat.pow_succ, Nat.mul_comm]
    refine eX3_walk ⟨fun _ => ?_, fun q => ?_⟩
    · refine s_down (P := fun g => ∀ μ1 D1, sFr [35, 36, 58, 59] μ μ1 → kC μ1 lk σ.1 σ.2.1 → hI μ1 D1 → D1.length + (4 - g) * 4 ^ m ≤ 1024 → (∀ μ', sFr [35, 36, 58, 59] μ μ' → kC μ' lk σ.1 σ.2.1 → hI μ' (dAll D1 ((List.range' g (4 - g)).flatMap (fun g => match tStep T lk σ g with
        | none => []
        | some σ' => tLv T lk m σ'))) → f μ') → sG sLL mX3_walk (d + (m + 3) + 1 + 1) (kV f) 18 [some (sR 58), some (sI (nI (m + 1))), some (sI (nI g)), none, none, none] [] μ1) 4 ?_ ?_ 0 (by omega) μ D sFr.rf hK hH (by omega) hf
      · intro μ1 D1 hf1 hk1 hh1 hd1 h
        exact sX3_walk_18 ⟨fun _ => h μ1 hf1 hk1 hh1, fun q => absurd (by decide) q⟩
      · intro g hg ih μ1 D1 hf1 hk1 hh1 hd1 h
        rw [show 4 - g = (4 - (g + 1)) + 1 by omega, List.range'_succ, List.flatMap_cons] at h
        rw [show 4 - g = (4 - (g + 1)) + 1 by omega, Nat.succ_mul] at hd1
        have hC1 := tC_S hC hf1 (by decide)
        refine sX3_walk_18 ⟨fun q => ?_, fun _ => ?_⟩
        · have q := (nI_leN (a := 4) (by omega) (by omega)).mp q
          omega
        · rw [nI_1]
          show sCl sLL mX1_visit (d + (m + 1) + 3) [sR 35, sI (nI g)] μ1 _
          refine c_visit hT hC1 hk1 hk hw.1 (fun u hu => by have := hw.2.1 u hu; omega) hg (fun t μ2 th hp hf2 hk2 => ?_) (fun hno => ?_)
          · have ht := tPick_lt hp
            have bp := tBite_pos hT hg th ht.2.2
            have bl := tBite_le (T := T) (L := σ.1) (g := g) (t := t)
            have b9 := hw.1 t
            have eS : tStep T lk σ g = some (tLess σ.1 t (tBite T σ.1 g t), some t, if σ.2.2 t = none then va_up σ.2.2 t (some g) else σ.2.2) := by
              unfold tStep
              rw [if_pos th, hp]
              rfl
            have hw2 := tStep_w hg hw eS
            have lv := tLv_len (T := T) (lk := lk) m (tLess σ.1 t (tBite T σ.1 g t), some t, if σ.2.2 t = none then va_up σ.2.2 t (some g) else σ.2.2)
            rw [eS] at h
            simp only [dAll_app] at h
            refine ⟨fun _ => ?_, fun q => ?_⟩
            · have e1 : nI (m + 1) - 1 = nI m := pk_sub (a := m + 1) (b := 1) (by omega)
              rw [e1, hk1.2.2, hk2.2.2]
              refine sG.more (d := d + m + 4) ?_ (by omega)
              refine ihm d _ D1 μ2 _ (by omega) hw2 (by omega) (tC_S hC1 hf2 (by decide)) hk2 (hI_fr (hf2.2 59 (by decide)) (hf2.2 58 (by decide)) hh1) (fun μ3 hf3 hk3 hh3 => ?_)
              refine c_takeBack (t := t) (b := tBite T σ.1 g t) (last' := σ.2.1) hk3 (by omega) (fun μ4 hf4 hk4 => ?_)
              have eb : va_up (tLess σ.1 t (tBite T σ.1 g t)) t (tLess σ.1 t (tBite T σ.1 g t) t + tBite T σ.1 g t) = σ.1 := tLess_back bl
              have hk4 : kC μ4 lk (va_up (tLess σ.1 t (tBite T σ.1 g t)) t (tLess σ.1 t (tBite T σ.1 g t) t + tBite T σ.1 g t)) σ.2.1 := hk4
              rw [eb] at hk4
              have dl := dAll_len (tLv T lk m (tLess σ.1 t (tBite T σ.1 g t), some t, if σ.2.2 t = none then va_up σ.2.2 t (some g) else σ.2.2)) D1
              exact ih μ4 _ (((hf1.tr (hf2.mono (by decide))).tr hf3).tr (hf4.mono (by decide))) hk4 (hI_fr (hf4.2 59 (by decide)) (hf4.2 58 (by decide)) hh3) (by omega) h
            · have q := (nI_is0 (by omega)).mp q
              omega
          · have eS : tStep T lk σ g = none := by
              unfold tStep
              rcases hno with hno | hno
              · rw [if_neg (by omega)]
              · split
                · rw [hno]; rfl
                · rfl
            rw [eS] at h
            refine ⟨fun w => absurd rfl w, fun _ => ih μ1 D1 hf1 hk1 hh1 (by omega) h⟩
    · rw [fa_lt, s_z0, nI_i (by omega)] at q
      omega
theorem c_howManyL {d : Nat} {μ : sM} {T : tT} {lk : Nat → Nat} {m : Nat} {f : Int32 → sM → Prop} (hT : tW T) (hk : ∀ i, lk i ≤ 1) (hC : tC μ 1 4 T) (hK : kC μ lk (T.2 3) none) (hm : m ≤ 5) (h : ∀ μ', sFr [35, 36, 58, 59] μ μ' → f (nI (dAll [] (tLv T lk m (tS0 T))).length) μ') : sCl sLL mX3_howMany (d + 10) [sR 58, sI (nI m)] μ (kI f) := by
  refine eX3_howMany (c_fill (n := 2048) rfl rfl (by omega) (fun μ1 hf1 h59 _ => ?_))
  have e5 : (if 5 < nI m then 5 else nI m) = nI m := by
    rw [if_neg]
    intro w
    have := (nI_ltN (a := 5) (by omega) (by omega)).mp w
    omega
  rw [e5]
  have F2 : sFr [35, 36, 58, 59] μ (s_u μ1 58 2 0) := (hf1.mono (by decide)).tr (sFr.u (by decide))
  have hH : hI (s_u μ1 58 2 0) [] := by
    have z : ∀ p, p < 2048 → (s_u μ1 58 2 0).1 59 p = -6 := fun p hp => by rw [s_u_ne (by omega)]; exact h59 p hp
    refine ⟨List.nodup_nil, fun p hp => Or.inl (z p hp), fun x hx => (by cases hx), fun p q hp hq _ _ => z p hp, s_u_at⟩
  have p4 := s_p4 hm
  refine sG.more (d := (5 - m) + m + 4) ?_ (by omega)
  refine c_walkL hT hk m (5 - m) (tS0 T) [] _ _ hm (tS0_w hT) (by simpa using p4) (tC_S hC F2 (by decide)) (kC_fr (by rw [s_u_ne (by omega), hf1.2 35 (by decide)]) (by rw [s_u_ne (by omega), hf1.2 36 (by decide)]) hK) hH (fun μ3 hf3 _ hh3 => ?_)
  rw [hh3.2.2.2.2]
  exact h μ3 (F2.tr hf3)
