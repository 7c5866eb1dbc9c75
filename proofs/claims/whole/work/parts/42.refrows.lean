-- THE REFERENCE GATHERS ROWS
abbrev mS : List Nat := [62, 63, 64, 71, 72, 73, 74, 75, 76, 77, 78, 79, 80, 81, 82, 83]
/-- what no question changes in the reference, while it works -/
def mG (μ μ' : sM) : Prop := sFr mS μ μ' ∧ (μ'.1 62 0 = μ.1 62 0 ∧ μ'.1 62 4 = μ.1 62 4 ∧ μ'.1 62 10 = μ.1 62 10) ∧ ∀ j, j < 21 → μ'.1 63 j = μ.1 63 j
/-- .. and behind it -/
def mQ (μ μ' : sM) : Prop := mG μ μ' ∧ ∀ i, i < 7 → μ'.1 63 (21 + i) = μ.1 63 (21 + i) ∧ μ'.1 64 i = μ.1 64 i
theorem mG.rf {μ : sM} : mG μ μ := ⟨sFr.rf, ⟨rfl, rfl, rfl⟩, fun _ _ => rfl⟩
theorem mG.tr {μ μ' μ'' : sM} (h : mG μ μ') (h2 : mG μ' μ'') : mG μ μ'' := ⟨h.1.tr h2.1, ⟨h2.2.1.1.trans h.2.1.1, h2.2.1.2.1.trans h.2.1.2.1, h2.2.1.2.2.trans h.2.1.2.2⟩, fun j hj => (h2.2.2 j hj).trans (h.2.2 j hj)⟩
theorem mQ.rf {μ : sM} : mQ μ μ := ⟨mG.rf, fun _ _ => ⟨rfl, rfl⟩⟩
theorem mQ.tr {μ μ' μ'' : sM} (h : mQ μ μ') (h2 : mQ μ' μ'') : mQ μ μ'' := ⟨h.1.tr h2.1, fun i hi => ⟨((h2.2 i hi).1).trans (h.2 i hi).1, ((h2.2 i hi).2).trans (h.2 i hi).2⟩⟩
/-- a frame that leaves the fields 62 and the first of 63 alone -/
theorem mG.of {S : List Nat} {μ μ' : sM} (h : sFr S μ μ') (hs : ∀ x ∈ S, x ∈ mS) (h62 : ∀ k, k = 0 ∨ k = 4 ∨ k = 10 → μ'.1 62 k = μ.1 62 k) (h63 : ∀ j, j < 21 → μ'.1 63 j = μ.1 63 j) : mG μ μ' := ⟨h.mono hs, ⟨h62 0 (by omega), h62 4 (by omega), h62 10 (by omega)⟩, h63⟩
theorem mG.of2 {S : List Nat} {μ μ' : sM} (h : sFr S μ μ') (hs : ∀ x ∈ S, x ∈ mS) (a : 62 ∉ S) (b : 63 ∉ S) : mG μ μ' := mG.of h hs (fun k _ => by rw [h.2 62 a]) (fun j _ => by rw [h.2 63 b])
theorem tE_G {μ μ' : sM} {T : tT} (h : mG μ μ') (hE : tE μ T) : tE μ' T := tE_fr h.2.1.1 h.2.1.2.1 (fun j hj => h.2.2 j (by omega)) (fun j hj => h.1.2 (66 + j) (by simp; omega)) hE
def tRow : Nat → Nat → List Nat
  | 0, _ => []
  | n + 1, x => tRow n (x / 4) ++ [x % 4]
theorem tRow_len : ∀ n x, (tRow n x).length = n
  | 0, x => rfl
  | n + 1, x => by simp [tRow, tRow_len n]
theorem tRow_g : ∀ n x, ∀ g ∈ tRow n x, g < 4
  | 0, x, g, h => by simp [tRow] at h
  | n + 1, x, g, h => by
    rw [tRow, List.mem_append] at h
    rcases h with h | h
    · exact tRow_g n _ g h
    · simp at h; omega
theorem tRow_hd : ∀ n x, x < 4 ^ (n + 1) → tRow (n + 1) x = (x / 4 ^ n) :: tRow n (x % 4 ^ n)
  | 0, x, h => by
    have h : x < 4 := by simpa using h
    simp [tRow, Nat.mod_eq_of_lt h]
  | n + 1, x, h => by
    have e4 : 4 ^ (n + 1) = 4 * 4 ^ n := by rw [Nat.pow_succ]; omega
    have e5 : 4 ^ (n + 2) = 4 * 4 ^ (n + 1) := by rw [Nat.pow_succ 4 (n + 1)]; omega
    have h2 : x / 4 < 4 ^ (n + 1) := by
      have : x < 4 * 4 ^ (n + 1) := by rw [← e5]; exact h
      omega
    have ih := tRow_hd n (x / 4) h2
    rw [tRow, ih]
    have a1 : x / 4 / 4 ^ n = x / 4 ^ (n + 1) := by rw [Nat.div_div_eq_div_mul, e4]
    have a2 : x / 4 % 4 ^ n = x % 4 ^ (n + 1) / 4 := by rw [e4, Nat.mod_mul_right_div_self]
    have a3 : x % 4 = x % 4 ^ (n + 1) % 4 := by rw [e4, Nat.mod_mul_right_mod]
    rw [a1, a2]
    show _ :: (tRow n (x % 4 ^ (n + 1) / 4) ++ [x % 4]) = _ :: (tRow n (x % 4 ^ (n + 1) / 4) ++ [x % 4 ^ (n + 1) % 4])
    rw [a3]
theorem tRow_all : ∀ n, (List.range (4 ^ n)).map (tRow n) = tAll n
  | 0 => rfl
  | n + 1 => by
    have e4 : 4 ^ (n + 1) = 4 ^ n + (4 ^ n + (4 ^ n + 4 ^ n)) := by rw [Nat.pow_succ]; omega
    have hp : 0 < 4 ^ n := Nat.pow_pos (by decide)
    have part : ∀ g, g < 4 → ((List.range (4 ^ n)).map (fun y => g * 4 ^ n + y)).map (tRow (n + 1)) = (tAll n).map (fun s => g :: s) := by
      intro g hg
      rw [← tRow_all n, List.map_map, List.map_map]
      apply List.map_congr_left
      intro y hy
      have hy := List.mem_range.mp hy
      have hx : g * 4 ^ n + y < 4 ^ (n + 1) := by
        have : g * 4 ^ n ≤ 3 * 4 ^ n := Nat.mul_le_mul_right _ (by omega)
        rw [Nat.pow_succ]
        omega
      show tRow (n + 1) (g * 4 ^ n + y) = g :: tRow n y
      rw [tRow_hd n _ hx, Nat.mul_comm g, Nat.mul_add_div hp, Nat.mul_add_mod, Nat.div_eq_of_lt hy, Nat.mod_eq_of_lt hy, Nat.add_zero]
    rw [e4, List.range_add, List.range_add, List.range_add, tAll, show List.range 4 = [0, 1, 2, 3] from rfl]
    simp only [List.map_append, List.flatMap_cons, List.flatMap_nil, List.append_nil]
    rw [← part 0 (by omega), ← part 1 (by omega), ← part 2 (by omega), ← part 3 (by omega)]
    simp only [List.map_map]
    congr 1
    · apply List.map_congr_left
      intro y _
      simp
    · congr 1
      · apply List.map_congr_left
        intro y _
        simp
      · congr 1
        · apply List.map_congr_left
          intro y _
          simp
          congr 1
          omega
        · apply List.map_congr_left
          intro y _
          simp
          congr 1
          omega
theorem c_power {d : Nat} {μ : sM} {n : Nat} {f : Int32 → sM → Prop} (hn : n ≤ 6) (h : f (nI (4 ^ n)) μ) : sCl sLL mX9_power d [sI 4, sI (nI n)] μ (kI f) := by
  refine eX9_power ?_
  refine s_down (P := fun k => sG sLL mX9_power d (kI f) 4 [some (sI 4), some (sI (nI n)), some (sI (nI (4 ^ k))), some (sI (nI k))] [] μ) n ?_ ?_ 0 (by omega)
  · exact sX9_power_4 ⟨fun _ => h, fun q => absurd ((nI_leN (by omega) (by omega)).mpr (Nat.le_refl _)) q⟩
  · intro k hk ih
    refine sX9_power_4 ⟨fun q => ?_, fun _ => ?_⟩
    · have q := (nI_leN (by omega) (by omega)).mp q
      omega
    · rw [show (4 : Int32) = nI 4 from rfl, pk_mul, nI_1, ← Nat.pow_succ]
      exact ih
theorem pow4_le {n : Nat} (h : n ≤ 6) : 4 ^ n ≤ 4096 := by
  have : n = 0 ∨ n = 1 ∨ n = 2 ∨ n = 3 ∨ n = 4 ∨ n = 5 ∨ n = 6 := by omega
  rcases this with rfl | rfl | rfl | rfl | rfl | rfl | rfl <;> decide
theorem tSw0 {T : tT} {L0 : Nat → Nat} (h : ∀ i, L0 i ≤ 9) : tSw T (L0, none, fun _ => none) := by
  refine ⟨h, ?_, ?_⟩
  · intro u hu
    simp at hu
  · intro t g hg
    simp at hg
theorem c_layRow {d : Nat} {μ : sM} {n x : Nat} {f : sM → Prop} (hn : n ≤ 6) (hx : x < 10000) (h : ∀ μ', sFr [62, 78] μ μ' → (∀ k, k ≠ 24 → μ'.1 62 k = μ.1 62 k) → (∀ i, i < n → μ'.1 78 i = nI ((tRow n x).getD i 0)) → μ'.1 62 24 = nI (hWho (tRow n x)) → f μ') : sCl sLL mX9_layRow d [sR 62, sI (nI x), sI (nI n)] μ (kV f) := by
  refine eX9_layRow ?_
  have key : ∀ (j left w : Nat) (suf : List Nat) (μ1 : sM), left < 10000 → tRow n x = tRow j left ++ suf → hWho (tRow j left) ||| w = hWho (tRow n x) → sFr [62, 78] μ μ1 → (∀ k, k ≠ 24 → μ1.1 62 k = μ.1 62 k) → (∀ i, j ≤ i → i < n → μ1.1 78 i = nI ((tRow n x).getD i 0)) → μ1.1 62 24 = nI w → sG sLL mX9_layRow d (kV f) 12 [some (sR 62), some (sI (nI x)), some (sI (nI n)), some (sI (nI left)), some (sI (nI j - 1))] [] μ1 := by
    intro j
    induction j with
    | zero =>
      intro left w suf μ1 hl he hw hf h62 hr h24
      refine sX9_layRow_12 ⟨fun _ => h μ1 hf h62 (fun i hi => hr i (by omega) hi) ?_, fun q => absurd (by decide) q⟩
      rw [h24, ← hw]
      simp [tRow, hWho]
    | succ j ih =>
      intro left w suf μ1 hl he hw hf h62 hr h24
      have hjn : j + 1 + suf.length = n := by
        have := congrArg List.length he
        rw [List.length_append, tRow_len, tRow_len] at this
        omega
      have e1 : nI (j + 1) - 1 = nI j := nI_pred j
      rw [e1]
      refine sX9_layRow_12 ⟨fun q => absurd q (nI_pos (by omega)), fun _ => ⟨vp_nI (by omega) (by omega), ?_⟩⟩
      have e2 : s_rem (nI left) 4 = nI (left % 4) := pk_rem (a := left) (d := 4) (by omega) (by omega) (by omega)
      have e3 : nI left / 4 = nI (left / 4) := pk_div (a := left) (d := 4) (by omega) (by omega) (by omega)
      have e4 : nI j + -1 = nI j - 1 := by
        rw [fa_eq]
        cases j with
        | zero => decide
        | succ j => rw [pk_m1, nI_pred]
      have hm4 : left % 4 < 4 := Nat.mod_lt _ (by decide)
      rw [nI_c (by omega), e2, e3, e4, s_u_at, s_shl1 _ (by omega), h24, fa_or]
      have he2 : tRow n x = tRow j (left / 4) ++ ([left % 4] ++ suf) := by rw [he, tRow, List.append_assoc]
      refine ih (left / 4) (w ||| 2 ^ (left % 4)) ([left % 4] ++ suf) _ (by omega) he2 ?_ ((hf.tr (sFr.u (by decide))).tr (sFr.u (by decide))) (fun k hk => ?_) (fun i hi hin => ?_) s_u_at
      · rw [← hw, tRow, hWho_app, Nat.or_assoc, Nat.or_comm w]
      · rw [s_u_off hk, s_u_ne (by omega)]
        exact h62 k hk
      · rw [s_u_ne (by omega)]
        by_cases c : i = j
        · subst c
          rw [s_u_at, he2]
          simp [List.getD_eq_getElem?_getD, tRow_len]
        · rw [s_u_off c]
          exact hr i (by omega) hin
  refine key n x 0 [] _ hx (by simp) (by simp) (sFr.u (by decide)) (fun k hk => s_u_off hk) (fun i hi hin => by omega) s_u_at
theorem c_canGo {d : Nat} {μ : sM} {T : tT} {lk L0 : Nat → Nat} {r : List Nat} {f : Int32 → sM → Prop} (hT : tW T) (hE : tE μ T) (hlk : ∀ t, t < 7 → μ.1 63 (14 + t) = nI (lk t)) (hk : ∀ i, lk i ≤ 1) (hL9 : ∀ i, L0 i ≤ 9) (h71 : ∀ t, t < 7 → μ.1 71 t = nI (L0 t)) (hr6 : r.length ≤ 6) (hrg : ∀ g ∈ r, g < 4) (hr : ∀ i, i < r.length → μ.1 78 i = nI (r.getD i 0))
    (h1 : ∀ σ μ', tRun T lk r (L0, none, fun _ => none) = some σ → tSw T σ → sFr [62, 63, 64, 74] μ μ' → (∀ k, k ≠ 11 → k ≠ 12 → μ'.1 62 k = μ.1 62 k) → (∀ j, j < 21 → μ'.1 63 j = μ.1 63 j) → kM μ' lk σ.1 σ.2.1 → (∀ t, t < 7 → μ'.1 74 t = nO (σ.2.2 t)) → f 1 μ')
    (h0 : ∀ μ', tRun T lk r (L0, none, fun _ => none) = none → sFr [62, 63, 64, 74] μ μ' → (∀ k, k ≠ 11 → k ≠ 12 → μ'.1 62 k = μ.1 62 k) → (∀ j, j < 21 → μ'.1 63 j = μ.1 63 j) → f 0 μ') : sCl sLL mX9_canGo (d + 3) [sR 62, sI (nI r.length)] μ (kI f) := by
  have h7 := hT.1.2
  refine eX9_canGo (c_putBack (fun μ1 hf1 h63 hb => ?_))
  -- behind the row
  have loop : ∀ (suf : List Nat) (k : Nat) (σ : tS) (μ2 : sM), r.drop k = suf → k ≤ r.length → tRun T lk r (L0, none, fun _ => none) = tRun T lk suf σ → tSw T σ → sFr [62, 63, 64, 74] μ μ2 → (∀ k, k ≠ 11 → k ≠ 12 → μ2.1 62 k = μ.1 62 k) → (∀ j, j < 21 → μ2.1 63 j = μ.1 63 j) → kM μ2 lk σ.1 σ.2.1 → (∀ t, t < 7 → μ2.1 74 t = nO (σ.2.2 t)) → sG sLL mX9_canGo (d + 2 + 1) (kI f) 34 [some (sR 62), some (sI (nI r.length)), some (sI (nI k)), none] [] μ2 := by
    intro suf
    induction suf with
    | nil =>
      intro k σ μ2 hd hkl he hw hf h62 h63 hK h74
      have : k = r.length := by
        have := congrArg List.length hd
        simp at this
        omega
      subst this
      refine sX9_canGo_34 ⟨fun _ => h1 σ μ2 ?_ hw hf h62 h63 hK h74, fun q => absurd ((nI_leN (by omega) (by omega)).mpr (Nat.le_refl _)) q⟩
      rw [he]
      rfl
    | cons g suf ih =>
      intro k σ μ2 hd hkl he hw hf h62 h63 hK h74
      have hkl2 : k < r.length := by
        have := congrArg List.length hd
        simp at this
        omega
      have hgk : r.getD k 0 = g := by
        have : (r.drop k)[0]? = some g := by rw [hd]; rfl
        rw [List.getElem?_drop] at this
        simp [List.getD_eq_getElem?_getD]
        simpa using congrArg (fun o => o.getD 0) this
      have hg4 : g < 4 := hrg g (List.mem_of_mem_drop (by rw [hd]; exact List.mem_cons_self) )
      have hE2 : tE μ2 T := tE_fr (h62 0 (by omega) (by omega)) (h62 4 (by omega) (by omega)) (fun j hj => h63 j (by omega)) (fun j hj => hf.2 (66 + j) (by simp; omega)) hE
      have e78 : μ2.1 78 k = nI g := by rw [hf.2 78 (by decide), hr k hkl2, hgk]
      have hd2 : r.drop (k + 1) = suf := by
        rw [← List.drop_drop, hd]
        rfl
      refine sX9_canGo_34 ⟨fun q => ?_, fun _ => ⟨vp_nI (by omega) (by omega), ?_⟩⟩
      · have q := (nI_leN (by omega) (by omega)).mp q
        omega
      · rw [nI_c (by omega), e78]
        refine c_isThere hT hE2 (fun g' hg' e hth => ⟨fun w => absurd w (by decide), fun _ => ?_⟩) (fun w => ⟨fun _ => h0 μ2 ?_ hf h62 h63, fun w2 => absurd rfl w2⟩)
        · have e := (nI_inj (by omega) (by omega)).mp e
          subst e
          rw [e78]
          refine c_taken hT hE2 hK hk hw.1 hw.2.1 hg4 ?_
          cases hp : tPick T lk σ.1 σ.2.1 g with
          | none =>
            refine ⟨fun w => ?_, fun _ => h0 μ2 ?_ hf h62 h63⟩
            · simp only [nO, fa_le, s_z0] at w
              have : (-6 : Int32).toInt = -6 := by decide
              omega
            · rw [he, tRun]
              simp [tStep, hth, hp]
          | some t =>
            have ht := (tPick_lt hp).1
            refine ⟨fun _ => ⟨vp_nI (by omega) (by omega), ?_⟩, fun w => absurd (nI_pos' (by omega)) w⟩
            rw [show nO (some t) = nI t from rfl, nI_c (by omega), h74 t (by omega)]
            have main : ∀ F', tStep T lk σ g = some (tLess σ.1 t (tBite T σ.1 g t), some t, F') → ∀ v, (∀ i, i < 7 → upd (μ2.1 74) t v i = nO (F' i)) → sCl sLL mX9_use (d + 2) [sR 62, sI (nI g), sI (nI t)] (s_u μ2 74 t v) (kV fun μ3 => sG sLL mX9_canGo (d + 2 + 1) (kI f) 34 [some (sR 62), some (sI (nI r.length)), some (sI (nI k + 1)), none] [] μ3) := by
              intro F' hst v hv
              have hE3 : tE (s_u μ2 74 t v) T := tE_fr (by rw [s_u_ne (by omega)]) (by rw [s_u_ne (by omega)]) (fun j hj => by rw [s_u_ne (by omega)]) (fun j hj => by rw [s_u_ne (by omega)]) hE2
              have hK3 : kM (s_u μ2 74 t v) lk σ.1 σ.2.1 := by
                unfold kM
                rw [s_u_ne (by omega), s_u_ne (by omega)]
                exact hK
              refine c_useM hT hE3 hK3 hw.1 hg4 (by omega) (fun μ3 hf3 hK4 _ _ => ?_)
              rw [nI_1]
              refine ih (k + 1) (tLess σ.1 t (tBite T σ.1 g t), some t, F') μ3 hd2 (by omega) ?_ (tStep_w hg4 hw hst) ((hf.tr (sFr.u (by decide))).tr (hf3.1.mono (by decide))) (fun q a b => ?_) (fun j hj => ?_) hK4 (fun i hi => ?_)
              · rw [he, tRun, hst]
                rfl
              · rw [hf3.2.1 q a b, s_u_ne (by omega)]
                exact h62 q a b
              · rw [hf3.2.2 j hj, s_u_ne (by omega)]
                exact h63 j hj
              · rw [hf3.1.2 74 (by decide), s_u_eq]
                exact hv i hi
            cases hft : σ.2.2 t with
            | none =>
              refine ⟨fun w => ?_, fun _ => ?_⟩
              · simp only [nO, fa_le, s_z0] at w
                have : (-6 : Int32).toInt = -6 := by decide
                omega
              · rw [e78]
                refine main (va_up σ.2.2 t (some g)) (by simp [tStep, hth, hp, hft]) _ (fun i hi => ?_)
                unfold upd va_up
                by_cases c : i = t
                · simp [c, nO]
                · simp [c, h74 i hi]
            | some g0 =>
              have hg0 := hw.2.2 t g0 hft
              refine ⟨fun _ => ?_, fun w => absurd (nI_pos' (by omega)) w⟩
              rw [e78]
              refine main σ.2.2 (by simp [tStep, hth, hp, hft]) _ (fun i hi => ?_)
              unfold upd
              by_cases c : i = t
              · simp [c, hft]
              · simp [c, h74 i hi]
        · rw [he, tRun]
          simp [tStep, w g hg4 rfl]
  -- the first users are none
  refine s_down (P := fun t => ∀ μ2, sFr [62, 63, 64, 74] μ μ2 → (∀ k, k ≠ 11 → μ2.1 62 k = μ.1 62 k) → μ2.1 62 11 = -6 → μ2.1 63 = μ1.1 63 → (∀ i, i < t → μ2.1 74 i = -6) → sG sLL mX9_canGo (d + 2 + 1) (kI f) 12 [some (sR 62), some (sI (nI r.length)), some (sI (nI t)), none] [] μ2) 7 ?_ ?_ 0 (by omega) _ ((hf1.mono (by decide)).tr (sFr.u (by decide))) (fun k hk => by rw [s_u_off hk, hf1.2 62 (by decide)]) s_u_at (s_u_ne (by omega)) (fun i hi => by omega)
  · intro μ2 hf2 h62 h11 e63 h74
    refine sX9_canGo_12 ⟨fun _ => ?_, fun q => absurd (by decide) q⟩
    refine loop r 0 (L0, none, fun _ => none) μ2 rfl (by omega) rfl (tSw0 hL9) hf2 (fun k a _ => h62 k a) (fun j hj => by rw [e63]; exact h63 j hj) ⟨fun t ht => ?_, ?_⟩ (fun t ht => by rw [h74 t ht]; rfl)
    · rw [e63, h63 _ (by omega), hlk t ht, (hb t ht).1, h71 t ht]
      exact ⟨rfl, rfl⟩
    · rw [h11]
      rfl
  · intro t ht ih μ2 hf2 h62 h11 e63 h74
    refine sX9_canGo_12 ⟨fun q => ?_, fun _ => ⟨vp_nI ht (by omega), ?_⟩⟩
    · have q := (nI_leN (a := 7) (by omega) (by omega)).mp q
      omega
    · rw [nI_c (by omega), nI_1]
      refine ih _ (hf2.tr (sFr.u (by decide))) (fun k hk => by rw [s_u_ne (by omega)]; exact h62 k hk) (by rw [s_u_ne (by omega)]; exact h11) (by rw [s_u_ne (by omega)]; exact e63) (fun i hi => ?_)
      by_cases c : i = t
      · subst c; exact s_u_at
      · rw [s_u_off c]; exact h74 i (by omega)
