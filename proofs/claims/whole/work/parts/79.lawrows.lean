-- THE LAW: its judgement lG at a place pc, with i the law's own counter, over the world of both
abbrev mL : sMI := (yL_law, cL_law, 4, some .boolean)
def lC (D : va_G) (k4 : Nat → ClassId) (ad : Nat → Nat) (p : Program) (s : State) (m : MethodId) (meth : Method) (c : Code) (b L : Nat) (xs : Nat → Int32) : Prop :=
  s_C sLL mL 21 D (bTy k4) (bCA k4) p room_1 s m #[Value.ref b] c (fun q : Nat => s.heap.size ≤ q) 86 4016 ∧ ad 86 = b ∧ va_X b L xs s s.heap ∧ b < s.heap.size ∧ meth.sig.returnType = ret ∧ meth.locks = false
def lG (b L : Nat) (xs : Nat → Int32) (pc : Nat) (i : Int32) (st : List sAV) (μ : sM) : Prop :=
  ∀ (l : Launch) (D : va_G) (k4 : Nat → ClassId) (ad : Nat → Nat) (p : Program) (e : Env) (s : State) (m : MethodId) (below : List Frame) (meth : Method) (c : Code) (H : Heap) (locs : List Loc) (ls : Array Slot),
    lC D k4 ad p s m meth c b L xs → lv_has ls 4 [(0, .ref b), (1, .ref (ad 0)), (2, .ref (ad 62)), (3, .int i)] → va_P D vwCl (s_W sLL.1 ad (bCA k4) μ) H → va_D (fun q : Nat => s.heap.size ≤ q) (s_W sLL.1 ad (bCA k4) μ) → va_S (fun q : Nat => s.heap.size ≤ q) s.heap H locs →
    W p l e room_1 s m #[Value.ref b] below meth c H locs 86 4016 (lw_Z below #[Value.ref b] s) (F0 m pc ls (st.map (s_av ad)))
section LG
variable {b L : Nat} {xs : Nat → Int32} {pc : Nat} {i : Int32} {st : List sAV} {μ : sM}
theorem l_a1 (hd : decode cL_law pc = .ok (.aload_n 1, 1)) (k : lG b L xs (pc + 1) i (sR 0 :: st) μ) : lG b L xs pc i st μ := by
  intro l D k4 ad p e s m below meth c H locs ls hC hl hP hD hS
  exact lv_aload_n hC.1.1 hC.1.2.1 hd rfl (lv_at hl 1 rfl) (k l D k4 ad p e s m below meth c H locs ls hC hl hP hD hS)
theorem l_a2 (hd : decode cL_law pc = .ok (.aload_n 2, 1)) (k : lG b L xs (pc + 1) i (sR 62 :: st) μ) : lG b L xs pc i st μ := by
  intro l D k4 ad p e s m below meth c H locs ls hC hl hP hD hS
  exact lv_aload_n hC.1.1 hC.1.2.1 hd rfl (lv_at hl 2 rfl) (k l D k4 ad p e s m below meth c H locs ls hC hl hP hD hS)
theorem l_arg {n j2 : Nat} {j : Int} (d0 : decode cL_law pc = .ok (.aload_n 0, 1)) (d1 : decode cL_law (pc + 1) = .ok (.iload_n 3, 1)) (d2 : decode cL_law (pc + 2) = .ok (.iconst j, 1)) (d3 : decode cL_law (pc + 3) = .ok (.iadd, 1)) (d4 : decode cL_law (pc + 4) = .ok (.iaload, 1)) (hj : Int32.ofInt j = nI j2) (hj2 : j2 < 6) (hn : n + 6 ≤ L) (hL : L ≤ 3072)
    (k : lG b L xs (pc + 5) (nI n) (sI (xs (n + j2)) :: st) μ) : lG b L xs pc (nI n) st μ := by
  intro l D k4 ad p e s m below meth c H locs ls hC hl hP hD hS
  have hbA : ¬ (fun q : Nat => s.heap.size ≤ q) b := Nat.not_le.mpr hC.2.2.2.1
  refine lv_aload_n hC.1.1 hC.1.2.1 d0 rfl (lv_at hl 0 rfl) ?_
  refine lv_iload_n hC.1.1 hC.1.2.1 d1 rfl (lv_at hl 3 rfl) ?_
  refine lv_iconst (v := nI j2) hC.1.1 hC.1.2.1 d2 hj ?_
  refine lv_iadd hC.1.1 hC.1.2.1 d3 ?_
  rw [nI_add]
  refine va_sld hC.1.1 hC.1.2.1 hC.2.2.1 hC.2.2.2.1 hbA hS (vp_nI (by omega) (by omega)) d4 ?_
  rw [nI_c (by omega)]
  exact k l D k4 ad p e s m below meth c H locs ls hC hl hP hD hS
theorem l_callI {mi2 : sMI} {n idx ci r : Nat} {fl : List Nat} {T : u_T} {N : Nat} {sk : List sAV} (as : List sAV) (hd : decode cL_law pc = .ok (.invokevirtual idx, 3)) (hlk : s_ML RL idx mi2.1) (hF : s_MF mi2 n) (hV : s_MV mi2) (hr : sLL.1[r]? = some (sO_ ci fl)) (hc : vwCl[ci]? = some (mi2.1.cls, T, N)) (hn : as.length = n) (hlen : (s_ent (sR r :: as)).length ≤ mi2.2.2.1) (hst : (st.map s_cat).sum ≤ 8) (hml : mi2.2.2.1 ≤ 41) (hs : sk = as.reverse ++ sR r :: st)
    (k : sCl sLL mi2 20 (sR r :: as) μ (kI fun x μ2 => lG b L xs (pc + 3) i (sI x :: st) μ2)) : lG b L xs pc i sk μ := by
  intro l D k4 ad p e s m below meth c H locs ls hC hl hP hD hS
  subst hs
  have hFc := s_free (D := D) hD hS hC.1.2.2.2.2.2.2.2.2.2
  have hM := s_metI (D := D) (tys := bTy k4) (ad := ad) (cA := bCA k4) (sz := H.size) hF l hC.1.2.2.2.2.2.2.2.1 hlen k
  have hl2 : lv_has ls 4 (s_ll ad 0 []) := ⟨hl.1, hl.2.1, fun _ q => by cases q⟩
  refine va_calli (s_runV (mi := mL) hC.1 hl2 hP hD hd hlk hF hV hr hc hn hst hml hM) hS (fun q _ h => hFc q h) hFc (fun x u t H1 locs1 ht hvm hw hB hz1 hk1 hS1 => ?_)
  obtain ⟨hP1, hD1⟩ := hB
  rw [ht] at hP1
  exact hw l D k4 ad p e s m below meth c H1 locs1 ls hC hl hP1 (hD1.weaken (fun _ _ _ h => hFc _ h)) hS1
theorem l_callL {mi2 : sMI} {n idx ci r : Nat} {fl : List Nat} {T : u_T} {N : Nat} {sk : List sAV} (as : List sAV) (hd : decode cL_law pc = .ok (.invokevirtual idx, 3)) (hlk : s_ML RL idx mi2.1) (hF : s_MF mi2 n) (hV : s_MV mi2) (hr : sLL.1[r]? = some (sO_ ci fl)) (hc : vwCl[ci]? = some (mi2.1.cls, T, N)) (hn : as.length = n) (hlen : (s_ent (sR r :: as)).length ≤ mi2.2.2.1) (hst : (st.map s_cat).sum ≤ 8) (hml : mi2.2.2.1 ≤ 41) (hs : sk = as.reverse ++ sR r :: st)
    (k : sCl sLL mi2 20 (sR r :: as) μ (kL fun x μ2 => lG b L xs (pc + 3) i (sL x :: st) μ2)) : lG b L xs pc i sk μ := by
  intro l D k4 ad p e s m below meth c H locs ls hC hl hP hD hS
  subst hs
  have hFc := s_free (D := D) hD hS hC.1.2.2.2.2.2.2.2.2.2
  have hM := s_metL (D := D) (tys := bTy k4) (ad := ad) (cA := bCA k4) (sz := H.size) hF l hC.1.2.2.2.2.2.2.2.1 hlen k
  have hl2 : lv_has ls 4 (s_ll ad 0 []) := ⟨hl.1, hl.2.1, fun _ q => by cases q⟩
  refine va_calll (s_runV (mi := mL) hC.1 hl2 hP hD hd hlk hF hV hr hc hn hst hml hM) hS (fun q _ h => hFc q h) hFc (fun x u t H1 locs1 ht hvm hw hB hz1 hk1 hS1 => ?_)
  obtain ⟨hP1, hD1⟩ := hB
  rw [ht] at hP1
  exact hw l D k4 ad p e s m below meth c H1 locs1 ls hC hl hP1 (hD1.weaken (fun _ _ _ h => hFc _ h)) hS1
theorem l_eq {x : Int32} {off : Int} (hd : decode cL_law pc = .ok (.if_icmp .eq off, 3)) (ht : (pc : Int) + off = ((915 : Nat) : Int)) (k : lG b L xs 915 i st μ) : lG b L xs pc i (sI x :: sI x :: st) μ := by
  intro l D k4 ad p e s m below meth c H locs ls hC hl hP hD hS
  exact lv_icmp_eq hC.1.1 hC.1.2.1 hd ht (fun _ => k l D k4 ad p e s m below meth c H locs ls hC hl hP hD hS) (fun q => absurd rfl q)
theorem l_eqL {x : Int64} {off : Int} (hd1 : decode cL_law pc = .ok (.lcmp, 1)) (hd : decode cL_law (pc + 1) = .ok (.ifCond .eq off, 3)) (ht : ((pc + 1 : Nat) : Int) + off = ((915 : Nat) : Int)) (k : lG b L xs 915 i st μ) : lG b L xs pc i (sL x :: sL x :: st) μ := by
  intro l D k4 ad p e s m below meth c H locs ls hC hl hP hD hS
  refine W.lcmp hC.1.1 hC.1.2.1 hd1 ?_
  have e0 : lg_cmp x x = 0 := by
    unfold lg_cmp
    rw [if_neg (fun q => Int64.lt_irrefl q), if_pos rfl]
  exact lv_if_eq hC.1.1 hC.1.2.1 hd ht (fun _ => k l D k4 ad p e s m below meth c H locs ls hC hl hP hD hS) (fun q => absurd e0 q)
theorem l_next {n : Nat} (k : lG b L xs 18 (nI (n + 6)) [] μ) : lG b L xs 915 (nI n) [] μ := by
  intro l D k4 ad p e s m below meth c H locs ls hC hl hP hD hS
  refine lv_iinc (v := nI (n + 6)) (lv' := [(3, .int (nI (n + 6))), (0, .ref b), (1, .ref (ad 0)), (2, .ref (ad 62))]) hC.1.1 hC.1.2.1 dL_law_915 hl (k := 3) rfl (nI_add n 6) (by decide) rfl (fun ls hl => ?_)
  refine lv_goto (tgt := 18) hC.1.1 hC.1.2.1 dL_law_918 (by decide) ?_
  exact k l D k4 ad p e s m below meth c H locs ls hC (lv_sub hl [1, 2, 3, 0] rfl) hP hD hS
theorem l_end : lG b L xs 921 i [] μ := by
  intro l D k4 ad p e s m below meth c H locs ls hC hl hP hD hS
  refine lv_iconst (v := 1) hC.1.1 hC.1.2.1 dL_law_921 (by decide) ?_
  refine va_forget (fun q hq => hS.2.2 q hq) ?_
  refine W.widen (k := 600000) (n := 7302250) (Nat.le_of_ble_eq_true rfl) (Nat.le_of_ble_eq_true rfl) ?_
  exact lw_ret hC.1.1 hC.1.2.1 hC.2.2.2.2.1 hC.2.2.2.2.2 dL_law_922
theorem l_lt {n : Nat} (h : L < n + 6) (hn : n ≤ 4000) (hL : L ≤ 3072) : Int32.ofNat L - 6 < nI n := by
  by_cases c : 6 ≤ L
  · have e1 : Int32.ofNat L = nI (L - 6) + 6 := by
      have h1 := nI_add (L - 6) 6
      rw [show L - 6 + 6 = L by omega] at h1
      exact h1.symm
    rw [e1, Int32.add_sub_cancel]
    exact (nI_ltN (by omega) (by omega)).mpr (by omega)
  · have h0 : Int32.ofNat L - 6 < 0 := by
      rcases (show L = 0 ∨ L = 1 ∨ L = 2 ∨ L = 3 ∨ L = 4 ∨ L = 5 by omega) with rfl | rfl | rfl | rfl | rfl | rfl <;> decide
    have h1 : (0 : Int32) ≤ nI n := (nI_leN (a := 0) (by omega) (by omega)).mpr (by omega)
    exact Int32.lt_of_lt_of_le h0 h1
theorem l_head {n : Nat} (hn : n ≤ 4000) (hL : L ≤ 3072) (k : n + 6 ≤ L → lG b L xs 27 (nI n) [] μ) : lG b L xs 18 (nI n) [] μ := by
  intro l D k4 ad p e s m below meth c H locs ls hC hl hP hD hS
  have hbA : ¬ (fun q : Nat => s.heap.size ≤ q) b := Nat.not_le.mpr hC.2.2.2.1
  refine lv_iload_n hC.1.1 hC.1.2.1 dL_law_18 rfl (lv_at hl 3 rfl) ?_
  refine lv_aload_n hC.1.1 hC.1.2.1 dL_law_19 rfl (lv_at hl 0 rfl) ?_
  refine va_slen hC.1.1 hC.1.2.1 hC.2.2.1 hC.2.2.2.1 hbA hS dL_law_20 ?_
  refine lv_bipush (v := 6) hC.1.1 hC.1.2.1 dL_law_21 (by decide) ?_
  refine lv_isub hC.1.1 hC.1.2.1 dL_law_23 ?_
  refine lv_icmp_gt (tgt := 921) hC.1.1 hC.1.2.1 dL_law_24 (by decide) (fun _ => ?_) (fun q => ?_)
  · exact l_end (xs := xs) l D k4 ad p e s m below meth c H locs ls hC hl hP hD hS
  · refine k ?_ l D k4 ad p e s m below meth c H locs ls hC hl hP hD hS
    by_cases h : n + 6 ≤ L
    · exact h
    · exact absurd (l_lt (by omega) hn hL) q
def l_tg : List Nat := [160, 183, 226, 289, 312, 335, 348, 361, 384, 407, 440, 453, 486, 509, 542, 555, 588, 621, 654, 698, 721, 744, 757, 770, 803, 846, 869, 892]
theorem l_switch {n : Nat} (hn : n + 6 ≤ L) (hL : L ≤ 3072) (h : ∀ t, t < 28 → lG b L xs (l_tg.getD t 0) (nI n) [] μ) (h9 : lG b L xs 915 (nI n) [] μ) : lG b L xs 27 (nI n) [] μ := by
  intro l D k4 ad p e s m below meth c H locs ls hC hl hP hD hS
  have hbA : ¬ (fun q : Nat => s.heap.size ≤ q) b := Nat.not_le.mpr hC.2.2.2.1
  refine lv_aload_n hC.1.1 hC.1.2.1 dL_law_27 rfl (lv_at hl 0 rfl) ?_
  refine lv_iload_n hC.1.1 hC.1.2.1 dL_law_28 rfl (lv_at hl 3 rfl) ?_
  refine va_sld hC.1.1 hC.1.2.1 hC.2.2.1 hC.2.2.2.1 hbA hS (vp_nI (by omega) (by omega)) dL_law_29 ?_
  refine lv_bipush (v := 31) hC.1.1 hC.1.2.1 dL_law_30 (by decide) ?_
  refine lv_iand hC.1.1 hC.1.2.1 dL_law_32 ?_
  generalize xs (nI n).toNatClampNeg &&& 31 = x
  by_cases hx : x.toInt < 0 ∨ 27 < x.toInt
  · exact lv_tableOut (tgt := 915) hC.1.1 hC.1.2.1 dL_law_33 hx (by decide) (h9 l D k4 ad p e s m below meth c H locs ls hC hl hP hD hS)
  · rcases (show x.toInt = 0 ∨ x.toInt = 1 ∨ x.toInt = 2 ∨ x.toInt = 3 ∨ x.toInt = 4 ∨ x.toInt = 5 ∨ x.toInt = 6 ∨ x.toInt = 7 ∨ x.toInt = 8 ∨ x.toInt = 9 ∨ x.toInt = 10 ∨ x.toInt = 11 ∨ x.toInt = 12 ∨ x.toInt = 13 ∨ x.toInt = 14 ∨ x.toInt = 15 ∨ x.toInt = 16 ∨ x.toInt = 17 ∨ x.toInt = 18 ∨ x.toInt = 19 ∨ x.toInt = 20 ∨ x.toInt = 21 ∨ x.toInt = 22 ∨ x.toInt = 23 ∨ x.toInt = 24 ∨ x.toInt = 25 ∨ x.toInt = 26 ∨ x.toInt = 27 by omega) with q | q | q | q | q | q | q | q | q | q | q | q | q | q | q | q | q | q | q | q | q | q | q | q | q | q | q | q
    · exact lv_tableIn (tgt := 160) hC.1.1 hC.1.2.1 dL_law_33 (by omega) (by omega) (by rw [q]; rfl) (by decide) (h 0 (by decide) l D k4 ad p e s m below meth c H locs ls hC hl hP hD hS)
    · exact lv_tableIn (tgt := 183) hC.1.1 hC.1.2.1 dL_law_33 (by omega) (by omega) (by rw [q]; rfl) (by decide) (h 1 (by decide) l D k4 ad p e s m below meth c H locs ls hC hl hP hD hS)
    · exact lv_tableIn (tgt := 226) hC.1.1 hC.1.2.1 dL_law_33 (by omega) (by omega) (by rw [q]; rfl) (by decide) (h 2 (by decide) l D k4 ad p e s m below meth c H locs ls hC hl hP hD hS)
    · exact lv_tableIn (tgt := 289) hC.1.1 hC.1.2.1 dL_law_33 (by omega) (by omega) (by rw [q]; rfl) (by decide) (h 3 (by decide) l D k4 ad p e s m below meth c H locs ls hC hl hP hD hS)
    · exact lv_tableIn (tgt := 312) hC.1.1 hC.1.2.1 dL_law_33 (by omega) (by omega) (by rw [q]; rfl) (by decide) (h 4 (by decide) l D k4 ad p e s m below meth c H locs ls hC hl hP hD hS)
    · exact lv_tableIn (tgt := 335) hC.1.1 hC.1.2.1 dL_law_33 (by omega) (by omega) (by rw [q]; rfl) (by decide) (h 5 (by decide) l D k4 ad p e s m below meth c H locs ls hC hl hP hD hS)
    · exact lv_tableIn (tgt := 348) hC.1.1 hC.1.2.1 dL_law_33 (by omega) (by omega) (by rw [q]; rfl) (by decide) (h 6 (by decide) l D k4 ad p e s m below meth c H locs ls hC hl hP hD hS)
    · exact lv_tableIn (tgt := 361) hC.1.1 hC.1.2.1 dL_law_33 (by omega) (by omega) (by rw [q]; rfl) (by decide) (h 7 (by decide) l D k4 ad p e s m below meth c H locs ls hC hl hP hD hS)
    · exact lv_tableIn (tgt := 384) hC.1.1 hC.1.2.1 dL_law_33 (by omega) (by omega) (by rw [q]; rfl) (by decide) (h 8 (by decide) l D k4 ad p e s m below meth c H locs ls hC hl hP hD hS)
    · exact lv_tableIn (tgt := 407) hC.1.1 hC.1.2.1 dL_law_33 (by omega) (by omega) (by rw [q]; rfl) (by decide) (h 9 (by decide) l D k4 ad p e s m below meth c H locs ls hC hl hP hD hS)
    · exact lv_tableIn (tgt := 440) hC.1.1 hC.1.2.1 dL_law_33 (by omega) (by omega) (by rw [q]; rfl) (by decide) (h 10 (by decide) l D k4 ad p e s m below meth c H locs ls hC hl hP hD hS)
    · exact lv_tableIn (tgt := 453) hC.1.1 hC.1.2.1 dL_law_33 (by omega) (by omega) (by rw [q]; rfl) (by decide) (h 11 (by decide) l D k4 ad p e s m below meth c H locs ls hC hl hP hD hS)
    · exact lv_tableIn (tgt := 486) hC.1.1 hC.1.2.1 dL_law_33 (by omega) (by omega) (by rw [q]; rfl) (by decide) (h 12 (by decide) l D k4 ad p e s m below meth c H locs ls hC hl hP hD hS)
    · exact lv_tableIn (tgt := 509) hC.1.1 hC.1.2.1 dL_law_33 (by omega) (by omega) (by rw [q]; rfl) (by decide) (h 13 (by decide) l D k4 ad p e s m below meth c H locs ls hC hl hP hD hS)
    · exact lv_tableIn (tgt := 542) hC.1.1 hC.1.2.1 dL_law_33 (by omega) (by omega) (by rw [q]; rfl) (by decide) (h 14 (by decide) l D k4 ad p e s m below meth c H locs ls hC hl hP hD hS)
    · exact lv_tableIn (tgt := 555) hC.1.1 hC.1.2.1 dL_law_33 (by omega) (by omega) (by rw [q]; rfl) (by decide) (h 15 (by decide) l D k4 ad p e s m below meth c H locs ls hC hl hP hD hS)
    · exact lv_tableIn (tgt := 588) hC.1.1 hC.1.2.1 dL_law_33 (by omega) (by omega) (by rw [q]; rfl) (by decide) (h 16 (by decide) l D k4 ad p e s m below meth c H locs ls hC hl hP hD hS)
    · exact lv_tableIn (tgt := 621) hC.1.1 hC.1.2.1 dL_law_33 (by omega) (by omega) (by rw [q]; rfl) (by decide) (h 17 (by decide) l D k4 ad p e s m below meth c H locs ls hC hl hP hD hS)
    · exact lv_tableIn (tgt := 654) hC.1.1 hC.1.2.1 dL_law_33 (by omega) (by omega) (by rw [q]; rfl) (by decide) (h 18 (by decide) l D k4 ad p e s m below meth c H locs ls hC hl hP hD hS)
    · exact lv_tableIn (tgt := 698) hC.1.1 hC.1.2.1 dL_law_33 (by omega) (by omega) (by rw [q]; rfl) (by decide) (h 19 (by decide) l D k4 ad p e s m below meth c H locs ls hC hl hP hD hS)
    · exact lv_tableIn (tgt := 721) hC.1.1 hC.1.2.1 dL_law_33 (by omega) (by omega) (by rw [q]; rfl) (by decide) (h 20 (by decide) l D k4 ad p e s m below meth c H locs ls hC hl hP hD hS)
    · exact lv_tableIn (tgt := 744) hC.1.1 hC.1.2.1 dL_law_33 (by omega) (by omega) (by rw [q]; rfl) (by decide) (h 21 (by decide) l D k4 ad p e s m below meth c H locs ls hC hl hP hD hS)
    · exact lv_tableIn (tgt := 757) hC.1.1 hC.1.2.1 dL_law_33 (by omega) (by omega) (by rw [q]; rfl) (by decide) (h 22 (by decide) l D k4 ad p e s m below meth c H locs ls hC hl hP hD hS)
    · exact lv_tableIn (tgt := 770) hC.1.1 hC.1.2.1 dL_law_33 (by omega) (by omega) (by rw [q]; rfl) (by decide) (h 23 (by decide) l D k4 ad p e s m below meth c H locs ls hC hl hP hD hS)
    · exact lv_tableIn (tgt := 803) hC.1.1 hC.1.2.1 dL_law_33 (by omega) (by omega) (by rw [q]; rfl) (by decide) (h 24 (by decide) l D k4 ad p e s m below meth c H locs ls hC hl hP hD hS)
    · exact lv_tableIn (tgt := 846) hC.1.1 hC.1.2.1 dL_law_33 (by omega) (by omega) (by rw [q]; rfl) (by decide) (h 25 (by decide) l D k4 ad p e s m below meth c H locs ls hC hl hP hD hS)
    · exact lv_tableIn (tgt := 869) hC.1.1 hC.1.2.1 dL_law_33 (by omega) (by omega) (by rw [q]; rfl) (by decide) (h 26 (by decide) l D k4 ad p e s m below meth c H locs ls hC hl hP hD hS)
    · exact lv_tableIn (tgt := 892) hC.1.1 hC.1.2.1 dL_law_33 (by omega) (by omega) (by rw [q]; rfl) (by decide) (h 27 (by decide) l D k4 ad p e s m below meth c H locs ls hC hl hP hD hS)
end LG
