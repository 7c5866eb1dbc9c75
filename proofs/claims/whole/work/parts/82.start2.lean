-- THE WALK
set_option maxRecDepth 20000 in
theorem whole_start {p : Program} {e : Env} {s : State} {m : MethodId} {below : List Frame} {meth : Method} {c : Code} (l : Launch) (hflags : l.flags = flags0) {b L : Nat} {xs : Nat → Int32} (hL : L ≤ 3072) (C0 : lw_At p s m meth c b L xs) : W p l e room_1 s m #[Value.ref b] below meth c s.heap [] 0 0 (lw_Z below #[Value.ref b] s) (entryFrame m ([Value.ref b] : List Value).toArray 4) := by
  obtain ⟨hx, hb, hr, hml, hown, hts0, hX, hbl, hlocks, hgv⟩ := id C0
  have hts : ∀ w ∈ sT, w.before #[Value.ref b] s = true := fun w hw => hts0 w (l_in hw)
  have hN : ∀ w ∈ sTn, va_Nw w s := fun w hw => l_nest hw (hts0 w (l_inN hw))
  have hA : ∀ q : Nat, s.heap.size ≤ q → (fun q : Nat => s.heap.size ≤ q) q := fun _ h => h
  have hO : b_O s := ⟨va_AO.of (hts0 (.arrayOver (.object RX6)) (List.mem_of_getElem? (i := 172) (by decide +kernel))), hts0 (.arrayOver (.array .int)) (List.mem_of_getElem? (i := 274) (by decide +kernel))⟩
  obtain ⟨k4, hk4⟩ := l_arrs (s := s) (hts _ b_arrI) (hts _ b_arrZ) hO
  obtain ⟨c0, iS0, hKn0⟩ := u_known (C := RX0) (T := TX0) (N := 4) (n := 4) hts s_KCX0.2.1 (hts _ (sT_of 318 (by decide +kernel) rfl : Cond.instantiable RX0 4 ∈ sT))
  obtain ⟨c1, iS1, hKn1⟩ := u_known (C := RX1) (T := TX1) (N := 4) (n := 4) hts s_KCX1.2.1 (hts _ (sT_of 191 (by decide +kernel) rfl : Cond.instantiable RX1 4 ∈ sT))
  obtain ⟨c2, iS2, hKn2⟩ := u_known (C := RX2) (T := TX2) (N := 11) (n := 11) hts s_KCX2.2.1 (hts _ (sT_of 219 (by decide +kernel) rfl : Cond.instantiable RX2 11 ∈ sT))
  obtain ⟨c3, iS3, hKn3⟩ := u_known (C := RX3) (T := TX3) (N := 3) (n := 3) hts s_KCX3.2.1 (hts _ (sT_of 339 (by decide +kernel) rfl : Cond.instantiable RX3 3 ∈ sT))
  obtain ⟨c4, iS4, hKn4⟩ := u_known (C := RX4) (T := TX4) (N := 2) (n := 2) hts s_KCX4.2.1 (hts _ (sT_of 174 (by decide +kernel) rfl : Cond.instantiable RX4 2 ∈ sT))
  obtain ⟨c5, iS5, hKn5⟩ := u_known (C := RX5) (T := TX5) (N := 12) (n := 12) hts s_KCX5.2.1 (hts _ (sT_of 268 (by decide +kernel) rfl : Cond.instantiable RX5 12 ∈ sT))
  obtain ⟨c6, iS6, hKn6⟩ := u_known (C := RX6) (T := TX6) (N := 12) (n := 12) hts s_KCX6.2.1 (hts _ (sT_of 101 (by decide +kernel) rfl : Cond.instantiable RX6 12 ∈ sT))
  obtain ⟨c7, iS7, hKn7⟩ := u_known (C := RX7) (T := TX7) (N := 3) (n := 3) hts s_KCX7.2.1 (hts _ (sT_of 355 (by decide +kernel) rfl : Cond.instantiable RX7 3 ∈ sT))
  obtain ⟨c8, iS8, hKn8⟩ := u_known (C := RX8) (T := TX8) (N := 10) (n := 10) hts s_KCX8.2.1 (hts _ (sT_of 93 (by decide +kernel) rfl : Cond.instantiable RX8 10 ∈ sT))
  obtain ⟨c9, iS9, hKn9⟩ := u_known (C := RX9) (T := TX9) (N := 38) (n := 38) hts s_KCX9.2.1 (hts _ (sT_of 763 (by decide +kernel) rfl : Cond.instantiable RX9 38 ∈ sT))
  obtain ⟨D, hKc⟩ : ∃ D : va_G, ∀ (k : Nat) (q : vw_C), vwCl[k]? = some q → u_Kn s q.1 q.2.1 q.2.2 (D.1 k) (D.2 k) := by
    refine ⟨(fun k => [c0, c1, c2, c3, c4, c5, c6, c7, c8, c9].getD k 0, fun k => [iS0, iS1, iS2, iS3, iS4, iS5, iS6, iS7, iS8, iS9].getD k (fun _ => 0)), ?_⟩
    intro k q hq
    match k, hq with
    | 0, hq => cases hq; exact hKn0
    | 1, hq => cases hq; exact hKn1
    | 2, hq => cases hq; exact hKn2
    | 3, hq => cases hq; exact hKn3
    | 4, hq => cases hq; exact hKn4
    | 5, hq => cases hq; exact hKn5
    | 6, hq => cases hq; exact hKn6
    | 7, hq => cases hq; exact hKn7
    | 8, hq => cases hq; exact hKn8
    | 9, hq => cases hq; exact hKn9
    | k + 10, hq => simp [vwCl] at hq
  have hK : va_K D vwCl (bTy k4) s := ⟨hKc, hk4⟩
  have hS : va_S (fun q : Nat => s.heap.size ≤ q) s.heap s.heap [] := va_S.rf
  have hP : va_P D vwCl [] s.heap := fun k q h => by simp at h
  have hD : va_D (fun q : Nat => s.heap.size ≤ q) [] := ⟨fun i j p q h => by simp at h, fun k q h => by simp at h⟩
  have hl := lv_entry ([.ref b]) (n := 4) (Nat.le_of_ble_eq_true rfl)
  rw [lg_entry_eq]
  generalize (lg_sl ([.ref b]) ++ List.replicate (4 - (lg_sl ([.ref b])).length) Slot.unset).toArray = ls at hl ⊢
  have hl : lv_has ls 4 [(0, .ref b)] := hl
  refine va_new (ci := 8) (fs := [.null, .null, .null, .null, .null, .null, .null, .null, .null, .null]) (C := RX8) (T := TX8) (N := 10) hx hb hts s_KCX8.2.1 tyX8 tyX8_ok hown (hts (.classLink RL 7 RX8) (sT_of 92 (by decide +kernel) rfl)) (hts _ (sT_of 93 (by decide +kernel) rfl : Cond.instantiable RX8 10 ∈ sT)) (hts (.initialized RX8) (sT_of 78 (by decide +kernel) rfl)) hK hP hD hS hA rfl (fun j hj => by rcases (show j = 0 ∨ j = 1 ∨ j = 2 ∨ j = 3 ∨ j = 4 ∨ j = 5 ∨ j = 6 ∨ j = 7 ∨ j = 8 ∨ j = 9 by omega) with rfl | rfl | rfl | rfl | rfl | rfl | rfl | rfl | rfl | rfl <;> rfl) (Nat.le_of_ble_eq_true rfl) (Nat.le_of_ble_eq_true rfl) dL_law_0 (fun qx H0 hP0 hD0 hS0 => ?_)
  refine lv_dup hx hb dL_law_3 rfl ?_
  refine l_init (mi := mL) (mi2 := mX8_init) (d := 3) (k4 := k4) (Q1 := fun w1 => ∃ (ad : Nat → Nat) (μ : sM), w1 = s_W sLay8 ad (bCA k4) μ ∧ ad 0 = qx ∧ μ.1 1 0 = 7 ∧ μ.1 1 1 = 0 ∧ μ.1 1 2 = 0 ∧ (∀ t, t < 7 → μ.1 4 t = nI t ∧ μ.1 5 t = 9 ∧ μ.1 6 t = 9 ∧ μ.1 7 t = 0 ∧ μ.1 8 t = -6) ∧ (∀ g, g < 4 → μ.1 9 g = 0 ∧ μ.1 10 g = 0 ∧ μ.1 11 g = 0 ∧ μ.1 12 g = 0) ∧ μ.1 33 0 = 0 ∧ (∀ k, k < 2 → μ.1 32 k = 0)) (st := [.ref qx]) [] hx hb hml hown hts hN hO hK ⟨Nat.le_of_ble_eq_true rfl, Nat.le_of_ble_eq_true rfl⟩ hA (ct1 := 61) (sl1 := 2509) ⟨Nat.le_of_ble_eq_true rfl, Nat.le_of_ble_eq_true rfl⟩ hl.1 hP0 hD0 hS0 dL_law_4 lL_9 kX8_init (sT_of 95 (by decide +kernel) rfl) rfl rfl rfl (Nat.le_of_ble_eq_true rfl) (Nat.le_of_ble_eq_true rfl) (by decide) (i_X8 (d := 0) (fun ad μ e a1 a2 a3 a4 a5 a6 a7 => ⟨ad, μ, rfl, e, a1, a2, a3, a4, a5, a6, a7⟩)) (fun w1 H1 locs1 hw hP1 hD1 hS1 => ?_)
  obtain ⟨ad1, μ1, rfl, e1, a1, a2, a3, a4, a5, a6, a7⟩ := hw
  subst e1
  refine lv_astore_n (lv' := [(1, .ref (ad1 0)), (0, .ref b)]) hx hb dL_law_7 rfl hl (by decide) rfl (fun ls hl => ?_)
  refine va_new (ci := 9) (fs := [.int 0, .null, .null, .null, .int 0, .null, .null, .null, .null, .null, .int 0, .int 0, .int 0, .null, .null, .int 0, .int 0, .int 0, .null, .null, .null, .null, .null, .null, .int 0, .int 0, .int 0, .int 0, .int 0, .null, .null, .null, .null, .null, .null, .null, .int 0, .int 0]) (C := RX9) (T := TX9) (N := 38) hx hb hts s_KCX9.2.1 tyX9 tyX9_ok hown (hts (.classLink RL 10 RX9) (sT_of 762 (by decide +kernel) rfl)) (hts _ (sT_of 763 (by decide +kernel) rfl : Cond.instantiable RX9 38 ∈ sT)) (hts (.initialized RX9) (sT_of 88 (by decide +kernel) rfl)) hK hP1 hD1 hS1 hA rfl (fun j hj => by rcases (show j = 0 ∨ j = 1 ∨ j = 2 ∨ j = 3 ∨ j = 4 ∨ j = 5 ∨ j = 6 ∨ j = 7 ∨ j = 8 ∨ j = 9 ∨ j = 10 ∨ j = 11 ∨ j = 12 ∨ j = 13 ∨ j = 14 ∨ j = 15 ∨ j = 16 ∨ j = 17 ∨ j = 18 ∨ j = 19 ∨ j = 20 ∨ j = 21 ∨ j = 22 ∨ j = 23 ∨ j = 24 ∨ j = 25 ∨ j = 26 ∨ j = 27 ∨ j = 28 ∨ j = 29 ∨ j = 30 ∨ j = 31 ∨ j = 32 ∨ j = 33 ∨ j = 34 ∨ j = 35 ∨ j = 36 ∨ j = 37 by omega) with rfl | rfl | rfl | rfl | rfl | rfl | rfl | rfl | rfl | rfl | rfl | rfl | rfl | rfl | rfl | rfl | rfl | rfl | rfl | rfl | rfl | rfl | rfl | rfl | rfl | rfl | rfl | rfl | rfl | rfl | rfl | rfl | rfl | rfl | rfl | rfl | rfl | rfl <;> rfl) (Nat.le_of_ble_eq_true rfl) (Nat.le_of_ble_eq_true rfl) dL_law_8 (fun qm H2 hP2 hD2 hS2 => ?_)
  refine lv_dup hx hb dL_law_11 rfl ?_
  refine l_init (mi := mL) (mi2 := mX9_init) (d := 2) (k4 := k4) (Q1 := fun w1 => ∃ (ad : Nat → Nat) (μ : sM), w1 = s_W sLM.1 ad (bCM k4) μ ∧ ad 0 = qm ∧ μ.1 0 0 = 7 ∧ μ.1 0 4 = 0 ∧ μ.1 0 10 = 0 ∧ (∀ t, t < 7 → μ.1 1 t = nI t ∧ μ.1 1 (7 + t) = 9 ∧ μ.1 1 (14 + t) = 0 ∧ μ.1 1 (21 + t) = 9 ∧ μ.1 2 t = 0 ∧ μ.1 3 t = -6) ∧ (∀ g, g < 4 → μ.1 4 g = 0 ∧ μ.1 5 g = 0 ∧ μ.1 6 g = 0 ∧ μ.1 7 g = 0) ∧ (∀ k, k < 2 → μ.1 23 k = 0)) (st := [.ref qm]) [] hx hb hml hown hts hN hO hK ⟨Nat.le_of_ble_eq_true rfl, Nat.le_of_ble_eq_true rfl⟩ hA (ct1 := 23) (sl1 := 1459) ⟨Nat.le_of_ble_eq_true rfl, Nat.le_of_ble_eq_true rfl⟩ hl.1 hP2 hD2 hS2 dL_law_12 lL_12 kX9_init (sT_of 765 (by decide +kernel) rfl) rfl rfl rfl (Nat.le_of_ble_eq_true rfl) (Nat.le_of_ble_eq_true rfl) (by decide) (i_X9 (d := 0) (fun ad μ e a1 a2 a3 a4 a5 a6 => ⟨ad, μ, rfl, e, a1, a2, a3, a4, a5, a6⟩)) (fun w1 H3 locs3 hw hP3 hD3 hS3 => ?_)
  obtain ⟨ad2, μ2, rfl, e2, b1, b2, b3, b4, b5, b6⟩ := hw
  subst e2
  refine lv_astore_n (lv' := [(2, .ref (ad2 0)), (1, .ref (ad1 0)), (0, .ref b)]) hx hb dL_law_15 rfl hl (by decide) rfl (fun ls hl => ?_)
  refine lv_iconst (v := nI 0) hx hb dL_law_16 (by decide) ?_
  refine lv_istore_n (lv' := [(3, .int (nI 0)), (2, .ref (ad2 0)), (1, .ref (ad1 0)), (0, .ref b)]) hx hb dL_law_17 rfl hl (by decide) rfl (fun ls hl => ?_)
  rw [List.nil_append, l_both (b := b)] at hP3 hD3
  have hC : lC D k4 (l_ad ad1 ad2 b) p s m meth c b L xs := ⟨⟨hx, hb, hml, hown, hts, hN, hK, fun r k _ _ => bCA_ty, ⟨Nat.le_of_ble_eq_true rfl, Nat.le_of_ble_eq_true rfl, Nat.le_of_ble_eq_true rfl, Nat.le_of_ble_eq_true rfl⟩, hA⟩, rfl, hX, hbl, hr, hlocks⟩
  have hl : lv_has ls 4 [(0, .ref b), (1, .ref (l_ad ad1 ad2 b 0)), (2, .ref (l_ad ad1 ad2 b 62)), (3, .int (nI 0))] := lv_sub hl [3, 2, 1, 0] rfl
  refine W.widen (k := 86) (n := 4016) (Nat.le_of_ble_eq_true rfl) (Nat.le_of_ble_eq_true rfl) ?_
  exact l_loop hL L 0 (by omega) (Nat.zero_le _) (l_mu μ1 μ2) zZ0 zW0 (zC0 a1 a2 a3 a4 a5 a6 a7) (zM0 b1 b2 b3 b4 b5 b6) l D k4 (l_ad ad1 ad2 b) p e s m below meth c H3 locs3 ls hC hl hP3 hD3 hS3
