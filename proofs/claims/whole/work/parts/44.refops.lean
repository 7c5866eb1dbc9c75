-- THE REFERENCE: rows, cup, look
theorem hB1_keep {e : tR} : ∀ (l : List tR), (∀ x ∈ l, e.1.length ≤ x.1.length) → l.foldl hB1 (some e) = some e
  | [], _ => rfl
  | x :: l, h => by
    have h1 := h x List.mem_cons_self
    rw [List.foldl_cons]
    have : hB1 (some e) x = some e := by simp [hB1, Nat.not_lt.mpr h1]
    rw [this]
    exact hB1_keep l (fun y hy => h y (List.mem_cons_of_mem _ hy))
theorem hBest_sorted {h : List tR} (hs : h.Pairwise (fun a b => a.1.length ≤ b.1.length)) : hBest h = h.head? := by
  cases h with
  | nil => rfl
  | cons e l =>
    rw [List.pairwise_cons] at hs
    show l.foldl hB1 (hB1 none e) = some e
    exact hB1_keep l hs.1
theorem tLex_sorted {T : tT} {lk S : Nat → Nat} {σ : tS} (m : Nat) : (tLex T lk S σ m).Pairwise (fun a b => a.1.length ≤ b.1.length) := by
  unfold tLex
  have el : ∀ k e, e ∈ (tAll k).filterMap (tEnt T lk S [] σ) → e.1.length = k := fun k e he => by
    obtain ⟨s, hs, he⟩ := List.mem_filterMap.mp he
    rw [tEnt_len he]
    simp [(tAll_len hs).1]
  have key : ∀ n, ((List.range n).flatMap (fun k => (tAll k).filterMap (tEnt T lk S [] σ))).Pairwise (fun a b => a.1.length ≤ b.1.length) := by
    intro n
    induction n with
    | zero => simp
    | succ n ih =>
      rw [List.range_succ, List.flatMap_append, List.pairwise_append]
      refine ⟨ih, ?_, ?_⟩
      · simp only [List.flatMap_cons, List.flatMap_nil, List.append_nil]
        rw [List.pairwise_iff_forall_sublist]
        intro a b hab
        have ha := hab.subset (List.mem_cons_self)
        have hb := hab.subset (List.mem_cons_of_mem _ List.mem_cons_self)
        rw [el n a ha, el n b hb]
        exact Nat.le_refl _
      · intro a ha b hb
        obtain ⟨k, hk, ha⟩ := List.mem_flatMap.mp ha
        simp only [List.flatMap_cons, List.flatMap_nil, List.append_nil] at hb
        have hk := List.mem_range.mp hk
        rw [el k a ha, el n b hb]
        omega
  exact key (m + 1)
theorem hAns_lex {T : tT} {m : Nat} (hm : m ≤ 6) (w : Nat) : hAns (tLex T (T.2 2) (T.2 5) (tS0 T) m) w = hAns (tDfs T (T.2 2) (T.2 5) m [] (tS0 T)) w := (hAns_same tDfs_lex (tDfs_6 hm) (tLex_7 hm) w).symm
theorem hPerm_lex {T : tT} {m : Nat} (hm : m ≤ 6) : (tDfs T (T.2 2) (T.2 5) m [] (tS0 T)).Perm (tLex T (T.2 2) (T.2 5) (tS0 T) m) := hSame_perm tDfs_lex (tDfs_6 hm) (tLex_7 hm)
/-- the reference's table now -/
def tM (μ : sM) (T : tT) : Prop := tE μ T ∧ (∀ t, t < 7 → μ.1 63 (14 + t) = nI (T.2 2 t) ∧ μ.1 63 (21 + t) = nI (T.2 3 t) ∧ μ.1 64 t = nI (T.2 4 t) ∧ μ.1 65 t = nS (T.2 5 t))
theorem tM_Q {μ μ' : sM} {T : tT} (h : mQ μ μ') (hM : tM μ T) : tM μ' T := ⟨tE_G h.1 hM.1, fun t ht => by
  rw [h.1.2.2 (14 + t) (by omega), (h.2 t ht).1, (h.2 t ht).2, h.1.1.2 65 (by decide)]
  exact hM.2 t ht⟩
theorem c_goRowsT {d : Nat} {μ : sM} {T : tT} {m : Nat} {f : sM → Prop} (hT : tW T) (hM : tM μ T) (hm : m ≤ 6) (h : ∀ μ', mQ μ μ' → aM μ' T.1 (tLex T (T.2 2) (T.2 5) (tS0 T) m) → f μ') : sCl sLL mX9_goRows (d + 4) [sR 62, sI (nI m)] μ (kV f) :=
  c_goRows hT hM.1 (fun t ht => (hM.2 t ht).1) (fun t ht => (hM.2 t ht).2.1) (fun t ht => (hM.2 t ht).2.2.2) hm h
theorem c_inN {d : Nat} {μ : sM} {x : Int32} {b1 b2 : Int64} {f : Int32 → sM → Prop} (lo hi : Int) (e1 : b1.toInt = lo) (e2 : b2.toInt = hi) (h1 : oIn x lo hi = true → f 1 μ) (h0 : oIn x lo hi = false → f 0 μ) : sCl sLL mX9_in d [sL x.toInt64, sL b1, sL b2] μ (kI f) := by
  simp only [oIn, decide_eq_true_eq, decide_eq_false_iff_not] at h1 h0
  exact c_in lo hi e1 e2 (fun a b => h1 ⟨a, b⟩) (fun q => h0 (by omega))
theorem r_rows {d : Nat} {μ : sM} {T : tT} {a1 a2 : Int32} {f : Int32 → sM → Prop} (hT : tW T) (hM : tM μ T) (h : ∀ μ', mQ μ μ' → f (oRows T a1 a2) μ') : sCl sLL mX9_rows (d + 5) [sR 62, sI a1, sI a2] μ (kI f) := by
  refine eX9_rows (c_inN 0 6 (by decide) (by decide) (fun q => ⟨fun w => absurd w (by decide), fun _ => ?_⟩) (fun q => ⟨fun _ => ?_, fun w => absurd rfl w⟩))
  · refine c_inN 0 9 (by decide) (by decide) (fun c => ⟨fun _ => ?_, fun w => absurd w (by decide)⟩) (fun c => ⟨fun w => absurd rfl w, fun _ => ?_⟩)
    · obtain ⟨m, hm, rfl, em⟩ := oIn_nat (hi := 6) (by omega) q
      obtain ⟨w, hw, rfl, ew⟩ := oIn_nat (hi := 9) (by omega) c
      have e : oRows T (nI m) (nI w) = hAns (tLex T (T.2 2) (T.2 5) (tS0 T) m) w := by unfold oRows; rw [if_pos ⟨q, c⟩, em, ew, hAns_lex hm]
      refine c_goRowsT hT hM hm (fun μ' hf hA => ?_)
      have h := h μ' hf
      rw [e] at h
      obtain ⟨n1, n2, n3, n4, n5⟩ := hA.1
      have hb := hBest_sorted (tLex_sorted (T := T) (lk := T.2 2) (S := T.2 5) (σ := tS0 T) m)
      have hl7 := tLex_7 (T := T) (lk := T.2 2) (S := T.2 5) (σ := tS0 T) hm
      have hsm := tLex_len (T := T) (lk := T.2 2) (S := T.2 5) (σ := tS0 T) hm
      have i0 := nI_inj (a := w) (b := 0) (by omega) (by omega)
      have i1 := nI_inj (a := w) (b := 1) (by omega) (by omega)
      have i2 := nI_inj (a := w) (b := 2) (by omega) (by omega)
      have i3 := nI_inj (a := w) (b := 3) (by omega) (by omega)
      generalize hH : tLex T (T.2 2) (T.2 5) (tS0 T) m = H at *
      refine ⟨fun c0 => ?_, fun c0 => ⟨fun c1 => ?_, fun c1 => ⟨fun c2 => ?_, fun c2 => ⟨fun c3 => ?_, fun c3 => ?_⟩⟩⟩⟩
      · have c0 := i0.mp c0
        subst c0
        rw [n1]; exact h
      · have c1 := i1.mp c1
        subst c1
        rw [n2, ← hb]; exact h
      · have c2 := i2.mp c2
        subst c2
        rw [n1, n4, nI_is0 (by omega)]
        have h : f (nI (if H.length = 0 then 0 else hSure H)) μ' := h
        refine ⟨fun z => ?_, fun z => ?_⟩
        · rw [if_neg z] at h; exact h
        · rw [if_pos z] at h; exact h
      · have c3 := i3.mp c3
        subst c3
        rw [n5]; exact h
      · have k0 : w ≠ 0 := fun z => c0 (i0.mpr z)
        have k1 : w ≠ 1 := fun z => c1 (i1.mpr z)
        have k2 : w ≠ 2 := fun z => c2 (i2.mpr z)
        have k3 : w ≠ 3 := fun z => c3 (i3.mpr z)
        have e4 : nI w - 4 = nI (w - 4) := pk_sub (b := 4) (by omega)
        rw [e4, n2]
        simp only [hAns, k0, k1, k2, k3, if_false, hb] at h
        cases hd : H.head? with
        | none =>
          rw [hd] at h
          refine ⟨fun _ => h, fun z => absurd ?_ z⟩
          simp only [Option.map_none, nO, fa_le, nI_i (show w - 4 < 2147483648 by omega)]
          have : (-6 : Int32).toInt = -6 := by decide
          omega
        | some e' =>
          rw [hd] at h
          simp only at h
          have hl := hl7 e' (List.mem_of_head? hd)
          simp only [Option.map_some, nO]
          rw [nI_leN (by omega) (by omega), nI_c (by omega)]
          refine ⟨fun z => ?_, fun z => ⟨vp_nI (by omega) (by omega), ?_⟩⟩
          · rw [if_neg (by omega)] at h; exact h
          · rw [if_pos (by omega)] at h
            rw [n3 e' hd _ (by omega)]
            exact h
    · have h := h μ mQ.rf
      unfold oRows at h
      rw [if_neg (fun w => by rw [c] at w; cases w.2)] at h
      exact h
  · have h := h μ mQ.rf
    unfold oRows at h
    rw [if_neg (fun w => by rw [q] at w; cases w.1)] at h
    exact h
theorem r_cup {d : Nat} {μ : sM} {T : tT} {a1 a2 : Int32} {f : Int32 → sM → Prop} (hT : tW T) (hM : tM μ T) (h : ∀ μ', mQ μ μ' → f (oCup T a1 a2) μ') : sCl sLL mX9_cup (d + 5) [sR 62, sI a1, sI a2] μ (kI f) := by
  have h7 := hT.1.2
  refine eX9_cup (c_isThing hM.1.1 hT.1.1 h7 (fun t ht e => ⟨fun _ => ?_, fun w => absurd w (by decide)⟩) (fun q => ⟨fun w => absurd rfl w, fun _ => ?_⟩))
  · subst e
    have e1 : oIn (nI t) 0 ((T.1 : Int) - 1) = true := by simp only [oIn, decide_eq_true_eq, nI_i (show t < 2147483648 by omega)]; omega
    refine c_inN 0 6 (by decide) (by decide) (fun q => ⟨fun _ => ?_, fun w => absurd w (by decide)⟩) (fun q => ⟨fun w => absurd rfl w, fun _ => ?_⟩)
    · obtain ⟨m, hm, rfl, em⟩ := oIn_nat (hi := 6) (by omega) q
      refine c_goRowsT hT hM hm (fun μ' hf hA => ⟨vp_nI (by omega) (by omega), ?_⟩)
      have h := h μ' hf
      unfold oCup at h
      rw [if_pos e1, if_pos q, em, nI_i (by omega), hCup_perm (hPerm_lex hm)] at h
      rw [nI_c (by omega), (hA.2 t ht).1]
      exact h
    · have h := h μ mQ.rf
      unfold oCup at h
      rw [if_pos e1, if_neg (by rw [q]; decide)] at h
      exact h
  · have h := h μ mQ.rf
    unfold oCup at h
    rw [if_neg (by simp only [oIn, decide_eq_true_eq]; omega)] at h
    exact h
theorem c_mostLeft {d : Nat} {μ : sM} {n : Nat} {h : List tR} {t : Nat} {f : Int32 → sM → Prop} (h7 : n ≤ 7) (ha : aM μ n h) (hh : h.length < 1000000) (ht : t < n) (hf : f (nI (hMx h t 10)) μ) : sCl sLL mX9_mostLeft d [sR 62, sI (nI t)] μ (kI f) := by
  refine eX9_mostLeft ?_
  refine s_down (P := fun v => sG sLL mX9_mostLeft d (kI f) 4 [some (sR 62), some (sI (nI t)), some (sI (nI (hMx h t v))), some (sI (nI v))] [] μ) 10 ?_ ?_ 0 (by omega)
  · exact sX9_mostLeft_4 ⟨fun _ => hf, fun q => absurd (by decide) q⟩
  · intro v hv ih
    have b1 := hMx_le (h := h) (t := t) v
    have b2 := hBy_le (h := h) (t := t) (v := v)
    have e10 : (10 : Int32) * nI t + nI v = nI (10 * t + v) := by rw [show (10 : Int32) = nI 10 from rfl, pk_mul, nI_add]
    refine sX9_mostLeft_4 ⟨fun q => ?_, fun _ => ?_⟩
    · have q := (nI_leN (a := 10) (by omega) (by omega)).mp q
      omega
    · rw [e10]
      refine ⟨vp_nI (by omega) (by omega), ?_⟩
      rw [nI_c (by omega), (ha.2 t ht).2 v hv, nI_1, nI_leN (by omega) (by omega)]
      rw [hMx] at ih
      refine ⟨fun c => ?_, fun c => ?_⟩
      · rw [if_neg (by omega)] at ih; exact ih
      · rw [if_pos (by omega)] at ih; exact ih
theorem hMx_perm {h1 h2 : List tR} (p : h1.Perm h2) (t : Nat) : ∀ v, hMx h1 t v = hMx h2 t v
  | 0 => rfl
  | v + 1 => by rw [hMx, hMx, hMx_perm p t v, hBy_perm p]
theorem hLook_lex {T : tT} {m : Nat} (hm : m ≤ 6) (S : Nat → Nat) (n w : Nat) : hLook (tDfs T (T.2 2) (T.2 5) m [] (tS0 T)) S n w = hLook (tLex T (T.2 2) (T.2 5) (tS0 T) m) S n w := by
  have p := hPerm_lex (T := T) hm
  unfold hLook hLk
  have e : (fun t => hMx (tDfs T (T.2 2) (T.2 5) m [] (tS0 T)) t 10) = (fun t => hMx (tLex T (T.2 2) (T.2 5) (tS0 T) m) t 10) := funext fun t => hMx_perm p t 10
  rw [p.length_eq, e]
  cases hq : (if (tLex T (T.2 2) (T.2 5) (tS0 T) m).length = 0 then none else tPk (fun t => decide (S t = 0)) (fun t => hMx (tLex T (T.2 2) (T.2 5) (tS0 T) m) t 10) n) with
  | none => rfl
  | some t => simp only [hMx_perm p t 10]
theorem r_look {d : Nat} {μ : sM} {T : tT} {a1 a2 : Int32} {f : Int32 → sM → Prop} (hT : tW T) (hM : tM μ T) (h : ∀ μ', mQ μ μ' → f (oLook T a1 a2) μ') : sCl sLL mX9_look (d + 5) [sR 62, sI a1, sI a2] μ (kI f) := by
  have h7 := hT.1.2
  refine eX9_look (c_inN 0 6 (by decide) (by decide) (fun q => ⟨fun w => absurd w (by decide), fun _ => ?_⟩) (fun q => ⟨fun _ => ?_, fun w => absurd rfl w⟩))
  · refine c_inN 0 1 (by decide) (by decide) (fun c => ⟨fun _ => ?_, fun w => absurd w (by decide)⟩) (fun c => ⟨fun w => absurd rfl w, fun _ => ?_⟩)
    · obtain ⟨m, hm, rfl, em⟩ := oIn_nat (hi := 6) (by omega) q
      obtain ⟨w, hw, rfl, ew⟩ := oIn_nat (hi := 1) (by omega) c
      refine c_goRowsT hT hM hm (fun μ' hf hA => ?_)
      have h := h μ' hf
      have hM' := tM_Q hf hM
      have hsm := tLex_len (T := T) (lk := T.2 2) (S := T.2 5) (σ := tS0 T) hm
      unfold oLook at h
      rw [if_pos ⟨q, c⟩, em, ew, hLook_lex hm] at h
      generalize hH : tLex T (T.2 2) (T.2 5) (tS0 T) m = H at *
      unfold hLook at h
      -- the end, at the best
      have fin : ∀ o : Option Nat, (∀ t, o = some t → t < T.1) → o = (if H.length = 0 then none else hLk H (T.2 5) T.1) → (nO o < 0 → kI f (some (sI (nO o))) μ') ∧ (¬ nO o < 0 → ((¬ nI w = 0 → sCl sLL mX9_mostLeft (d + 4) [sR 62, sI (nO o)] μ' (kI fun r1 μ1 => kI f (some (sI r1)) μ1)) ∧ (nI w = 0 → kI f (some (sI (nO o))) μ'))) := by
        intro o ho e
        rw [← e] at h
        cases o with
        | none => exact ⟨fun _ => h, fun z => absurd ((nO_neg (by intro u hu; cases hu)).mpr rfl) z⟩
        | some t =>
          have ht := ho t rfl
          refine ⟨fun z => ?_, fun _ => ⟨fun z => ?_, fun z => ?_⟩⟩
          · have := (nO_neg (o := some t) (by intro u hu; cases hu; omega)).mp z
            cases this
          · refine c_mostLeft h7 hA hsm ht ?_
            have : w ≠ 0 := fun y => z (by rw [y]; rfl)
            simp only [if_neg this] at h
            exact h
          · have : w = 0 := (nI_is0 (by omega)).mp z
            simp only [if_pos this] at h
            exact h
      by_cases hz : H.length = 0
      · have hz2 : ¬ nI T.1 ≤ nI 0 := nI_nle (by have := hT.1.1; omega) (by omega)
        have g := fin none (by intro t ht; cases ht) (by rw [if_pos hz])
        refine sX9_look_36 ⟨fun z => ?_, fun _ => ⟨fun _ => g, fun z => ?_⟩⟩
        · rw [hM'.1.1] at z
          exact absurd z hz2
        · rw [hA.1.1, hz] at z
          exact absurd (by decide) z
      · rw [if_neg hz] at fin
        have key : ∀ (k t : Nat), t + k = T.1 → sG sLL mX9_look (d + 4 + 1) (kI f) 36 [some (sR 62), some (sI (nI m)), some (sI (nI w)), some (sI (nO (hLk H (T.2 5) t))), some (sI (nI t)), none] [] μ' := by
          intro k
          induction k with
          | zero =>
            intro t e
            have e : t = T.1 := by omega
            subst e
            refine sX9_look_36 ⟨fun _ => fin _ (fun t ht => (tPk_lt ht).1) rfl, fun z => ?_⟩
            rw [hM'.1.1] at z
            exact absurd ((nI_leN (by omega) (by omega)).mpr (Nat.le_refl _)) z
          | succ k ih =>
            intro t e
            have bS := tW_S hT t
            refine sX9_look_36 ⟨fun z => ?_, fun _ => ⟨fun z => ?_, fun _ => ⟨vp_nI (by omega) (by omega), ?_⟩⟩⟩
            · rw [hM'.1.1] at z
              have z := (nI_leN (by omega) (by omega)).mp z
              omega
            · rw [hA.1.1] at z
              exact absurd z (nI_nle (by omega) (by omega))
            · rw [nI_c (by omega), (hM'.2 t (by omega)).2.2.2, nI_1]
              cases hv : T.2 5 t with
              | zero =>
                simp only [nS]
                refine ⟨fun z => absurd z (by decide), fun _ => ?_⟩
                have take : hLk H (T.2 5) (t + 1) = some t → sG sLL mX9_look (d + 4 + 1) (kI f) 36 [some (sR 62), some (sI (nI m)), some (sI (nI w)), some (sI (nI t)), some (sI (nI (t + 1))), none] [] μ' := fun e2 => by
                  have e3 := ih (t + 1) (by omega)
                  rw [e2] at e3
                  exact e3
                cases hp : hLk H (T.2 5) t with
                | none => exact ⟨fun _ => take (by unfold hLk at hp ⊢; simp [tPk, hv, hp]), fun z => absurd ((nO_neg (by intro u hu; cases hu)).mpr rfl) z⟩
                | some b =>
                  have hb2 := (tPk_lt hp).1
                  have b1 := hMx_le (h := H) (t := t) 10
                  have b2 := hMx_le (h := H) (t := b) 10
                  refine ⟨fun z => ?_, fun _ => c_mostLeft h7 hA hsm (by omega) (c_mostLeft (t := b) h7 hA hsm (by omega) ?_)⟩
                  · have := (nO_neg (o := some b) (by intro u hu; cases hu; omega)).mp z
                    cases this
                  · rw [nI_leN (by omega) (by omega)]
                    refine ⟨fun z => ?_, fun z => take (by unfold hLk at hp ⊢; simp [tPk, hv, hp, Nat.not_le.mp z])⟩
                    have e2 : hLk H (T.2 5) (t + 1) = some b := by unfold hLk at hp ⊢; simp [tPk, hv, hp, Nat.not_lt.mpr z]
                    have e3 := ih (t + 1) (by omega)
                    rw [e2] at e3
                    exact e3
              | succ v =>
                simp only [nS]
                refine ⟨fun _ => ?_, fun z => absurd (nI_pos' (by omega)) z⟩
                have e2 : hLk H (T.2 5) (t + 1) = hLk H (T.2 5) t := by unfold hLk; simp [tPk, hv]
                have e3 := ih (t + 1) (by omega)
                rw [e2] at e3
                exact e3
        exact key T.1 0 (by omega)
    · have h := h μ mQ.rf
      unfold oLook at h
      rw [if_neg (fun w => by rw [c] at w; cases w.2)] at h
      exact h
  · have h := h μ mQ.rf
    unfold oLook at h
    rw [if_neg (fun w => by rw [q] at w; cases w.1)] at h
    exact h
