-- SEGMENTS of X2,X3,X4 (printed by wip/whole/walker.py)
set_option maxRecDepth 20000 in
theorem eX4_add {d : Nat} {Q : Option sAV → sM → Prop} {μ : sM} {a1 : Int32} (h : (((μ.1 33 0) < 40 → (vp_in (μ.1 33 0) 40 ∧ Q (some (sI ((μ.1 33 0) + 1))) (s_u (s_u μ 34 ((μ.1 33 0).toNatClampNeg) a1) 33 0 ((μ.1 33 0) + 1)))) ∧ (¬ (μ.1 33 0) < 40 → Q (some (sI (-4))) μ))) : sCl sLL mX4_add d [sR 33, sI a1] μ Q := by
  refine sG.loc (al2 := [some (sR 33), some (sI a1)]) (s_le_s (s_le_s s_le_0)) ?_
  refine g_aload_n dX4_add_0 rfl ?_
  refine h_geti (μ.1 33 0) dX4_add_1 fX4_15 rfl rfl rfl ?_
  refine g_bipush 40 dX4_add_4 (by decide) ?_
  refine g_icmp_lt 12 dX4_add_6 (by decide) (fun q => ?_) (fun q => ?_)
  · have h := h.1 q
    refine g_aload_n dX4_add_12 rfl ?_
    refine g_getr (r2 := 34) dX4_add_13 fX4_9 rfl rfl ?_
    refine g_aload_n dX4_add_16 rfl ?_
    refine h_geti (μ.1 33 0) dX4_add_17 fX4_15 rfl rfl rfl ?_
    refine g_iload_n dX4_add_20 rfl ?_
    obtain ⟨v1, h⟩ := h
    refine h_iast ((μ.1 33 0).toNatClampNeg) dX4_add_21 rfl rfl v1 rfl ?_
    refine g_aload_n dX4_add_22 rfl ?_
    refine g_dup_r dX4_add_23 ?_
    refine h_geti (μ.1 33 0) dX4_add_24 fX4_15 rfl rfl rfl ?_
    refine g_iconst 1 dX4_add_27 (by decide) ?_
    refine g_iadd dX4_add_28 ?_
    refine g_puti dX4_add_29 fX4_15 rfl rfl rfl rfl ?_
    refine g_aload_n dX4_add_32 rfl ?_
    refine h_geti ((μ.1 33 0) + 1) dX4_add_33 fX4_15 rfl rfl rfl ?_
    exact g_iret dX4_add_36 rfl rfl h
  · have h := h.2 q
    refine g_bipush (-4) dX4_add_9 (by decide) ?_
    exact g_iret dX4_add_11 rfl rfl h
set_option maxRecDepth 20000 in
theorem eX4_firstFault {d : Nat} {Q : Option sAV → sM → Prop} {μ : sM} {a1 : Int32} (h : sG sLL mX4_firstFault (d + 1) Q 2 [some (sR 33), some (sI a1), some (sI 0)] [] μ) : sCl sLL mX4_firstFault (d + 1) [sR 33, sI a1] μ Q := by
  refine sG.loc (al2 := [some (sR 33), some (sI a1), none]) (s_le_s (s_le_s (s_le_p s_le_0))) ?_
  refine g_iconst 0 dX4_firstFault_0 (by decide) ?_
  refine g_istore_n [some (sR 33), some (sI a1), some (sI 0)] dX4_firstFault_1 rfl (by decide) rfl ?_
  exact sG.loc (s_le_s (s_le_s (s_le_s s_le_0))) h
set_option maxRecDepth 20000 in
theorem sX4_firstFault_2 {d : Nat} {Q : Option sAV → sM → Prop} {μ : sM} {x1 : Int32} {x2 : Int32} (h : (((μ.1 33 0) ≤ x2 → Q (some (sI (-6))) μ) ∧ (¬ (μ.1 33 0) ≤ x2 → (vp_in x2 40 ∧ sCl sLL mX4_canStand d [sI (μ.1 34 x2.toNatClampNeg), sI x1] μ (kI fun r1 μ1 => ((¬ r1 = 0 → sG sLL mX4_firstFault (d + 1) Q 2 [some (sR 33), some (sI x1), some (sI (x2 + 1))] [] μ1) ∧ (r1 = 0 → Q (some (sI x2)) μ1))))))) : sG sLL mX4_firstFault (d + 1) Q 2 [some (sR 33), some (sI x1), some (sI x2)] [] μ := by
  refine g_iload_n dX4_firstFault_2 rfl ?_
  refine g_aload_n dX4_firstFault_3 rfl ?_
  refine h_geti (μ.1 33 0) dX4_firstFault_4 fX4_15 rfl rfl rfl ?_
  refine g_icmp_ge 31 dX4_firstFault_7 (by decide) (fun q => ?_) (fun q => ?_)
  · have h := h.1 q
    refine g_bipush (-6) dX4_firstFault_31 (by decide) ?_
    exact g_iret dX4_firstFault_33 rfl rfl h
  · have h := h.2 q
    refine g_aload_n dX4_firstFault_10 rfl ?_
    refine g_getr (r2 := 34) dX4_firstFault_11 fX4_9 rfl rfl ?_
    refine g_iload_n dX4_firstFault_14 rfl ?_
    obtain ⟨v1, h⟩ := h
    refine h_iald (μ.1 34 x2.toNatClampNeg) dX4_firstFault_15 rfl rfl v1 rfl ?_
    refine g_iload_n dX4_firstFault_16 rfl ?_
    refine g_callSi (mi2 := mX4_canStand) (st := []) [sI (μ.1 34 x2.toNatClampNeg), sI x1] dX4_firstFault_17 lX4_19 kX4_canStand vX4_canStand rfl (Nat.le_of_ble_eq_true rfl) (Nat.le_of_ble_eq_true rfl) (Nat.le_of_ble_eq_true rfl) rfl ?_
    refine sG.mono h (kI_mono fun r1 μ1 h => ?_)
    refine g_if_ne 25 dX4_firstFault_20 (by decide) (fun q => ?_) (fun q => ?_)
    · have h := h.1 q
      refine g_iinc (x2 + 1) [some (sR 33), some (sI x1), some (sI (x2 + 1))] dX4_firstFault_25 rfl rfl (by decide) rfl ?_
      refine g_goto 2 dX4_firstFault_28 (by decide) ?_
      exact sG.loc (s_le_s (s_le_s (s_le_s s_le_0))) h
    · have h := h.2 q
      refine g_iload_n dX4_firstFault_23 rfl ?_
      exact g_iret dX4_firstFault_24 rfl rfl h
set_option maxRecDepth 20000 in
theorem eX4_canStand {d : Nat} {Q : Option sAV → sM → Prop} {μ : sM} {a0 : Int32} {a1 : Int32} (h : ((a0 = 46 → Q (some (sI 1)) μ) ∧ (¬ a0 = 46 → sCl sLL mX4_isGuest d [sI a0] μ (kI fun r1 μ1 => ((¬ r1 = 0 → Q (some (sI 1)) μ1) ∧ (r1 = 0 → ((a0 < 48 → Q (some (sI 0)) μ1) ∧ (¬ a0 < 48 → (((48 + a1) ≤ a0 → Q (some (sI 0)) μ1) ∧ (¬ (48 + a1) ≤ a0 → Q (some (sI 1)) μ1)))))))))) : sCl sLL mX4_canStand (d + 1) [sI a0, sI a1] μ Q := by
  refine sG.loc (al2 := [some (sI a0), some (sI a1)]) (s_le_s (s_le_s s_le_0)) ?_
  refine g_iload_n dX4_canStand_0 rfl ?_
  refine g_bipush 46 dX4_canStand_1 (by decide) ?_
  refine g_icmp_eq 27 dX4_canStand_3 (by decide) (fun q => ?_) (fun q => ?_)
  · have h := h.1 q
    refine g_iconst 1 dX4_canStand_27 (by decide) ?_
    refine g_goto 32 dX4_canStand_28 (by decide) ?_
    exact g_iret dX4_canStand_32 rfl (s_nb (Or.inr rfl)) h
  · have h := h.2 q
    refine g_iload_n dX4_canStand_6 rfl ?_
    refine g_callSi (mi2 := mX4_isGuest) (st := []) [sI a0] dX4_canStand_7 lX4_23 kX4_isGuest vX4_isGuest rfl (Nat.le_of_ble_eq_true rfl) (Nat.le_of_ble_eq_true rfl) (Nat.le_of_ble_eq_true rfl) rfl ?_
    refine sG.mono h (kI_mono fun r1 μ1 h => ?_)
    refine g_if_ne 27 dX4_canStand_10 (by decide) (fun q => ?_) (fun q => ?_)
    · have h := h.1 q
      refine g_iconst 1 dX4_canStand_27 (by decide) ?_
      refine g_goto 32 dX4_canStand_28 (by decide) ?_
      exact g_iret dX4_canStand_32 rfl (s_nb (Or.inr rfl)) h
    · have h := h.2 q
      refine g_iload_n dX4_canStand_13 rfl ?_
      refine g_bipush 48 dX4_canStand_14 (by decide) ?_
      refine g_icmp_lt 31 dX4_canStand_16 (by decide) (fun q => ?_) (fun q => ?_)
      · have h := h.1 q
        refine g_iconst 0 dX4_canStand_31 (by decide) ?_
        exact g_iret dX4_canStand_32 rfl (s_nb (Or.inl rfl)) h
      · have h := h.2 q
        refine g_iload_n dX4_canStand_19 rfl ?_
        refine g_bipush 48 dX4_canStand_20 (by decide) ?_
        refine g_iload_n dX4_canStand_22 rfl ?_
        refine g_iadd dX4_canStand_23 ?_
        refine g_icmp_ge 31 dX4_canStand_24 (by decide) (fun q => ?_) (fun q => ?_)
        · have h := h.1 q
          refine g_iconst 0 dX4_canStand_31 (by decide) ?_
          exact g_iret dX4_canStand_32 rfl (s_nb (Or.inl rfl)) h
        · have h := h.2 q
          refine g_iconst 1 dX4_canStand_27 (by decide) ?_
          refine g_goto 32 dX4_canStand_28 (by decide) ?_
          exact g_iret dX4_canStand_32 rfl (s_nb (Or.inr rfl)) h
set_option maxRecDepth 20000 in
theorem eX4_isGuest {d : Nat} {Q : Option sAV → sM → Prop} {μ : sM} {a0 : Int32} (h : ((a0 < 65 → Q (some (sI 0)) μ) ∧ (¬ a0 < 65 → ((69 ≤ a0 → Q (some (sI 0)) μ) ∧ (¬ 69 ≤ a0 → Q (some (sI 1)) μ))))) : sCl sLL mX4_isGuest d [sI a0] μ Q := by
  refine sG.loc (al2 := [some (sI a0)]) (s_le_s s_le_0) ?_
  refine g_iload_n dX4_isGuest_0 rfl ?_
  refine g_bipush 65 dX4_isGuest_1 (by decide) ?_
  refine g_icmp_lt 16 dX4_isGuest_3 (by decide) (fun q => ?_) (fun q => ?_)
  · have h := h.1 q
    refine g_iconst 0 dX4_isGuest_16 (by decide) ?_
    exact g_iret dX4_isGuest_17 rfl (s_nb (Or.inl rfl)) h
  · have h := h.2 q
    refine g_iload_n dX4_isGuest_6 rfl ?_
    refine g_bipush 69 dX4_isGuest_7 (by decide) ?_
    refine g_icmp_ge 16 dX4_isGuest_9 (by decide) (fun q => ?_) (fun q => ?_)
    · have h := h.1 q
      refine g_iconst 0 dX4_isGuest_16 (by decide) ?_
      exact g_iret dX4_isGuest_17 rfl (s_nb (Or.inl rfl)) h
    · have h := h.2 q
      refine g_iconst 1 dX4_isGuest_12 (by decide) ?_
      refine g_goto 17 dX4_isGuest_13 (by decide) ?_
      exact g_iret dX4_isGuest_17 rfl (s_nb (Or.inr rfl)) h
set_option maxRecDepth 20000 in
theorem eX2_run {d : Nat} {Q : Option sAV → sM → Prop} {μ : sM} (h : sCl sLL mX2_begin d [sR 37] μ (kV fun μ1 => sG sLL mX2_run (d + 1) Q 6 [some (sR 37), some (sR 33), some (sI 0), none] [] μ1)) : sCl sLL mX2_run (d + 1) [sR 37, sR 33] μ Q := by
  refine sG.loc (al2 := [some (sR 37), some (sR 33), none, none]) (s_le_s (s_le_s (s_le_p (s_le_p s_le_0)))) ?_
  refine g_aload_n dX2_run_0 rfl ?_
  refine g_callVv (mi2 := mX2_begin) (r := 37) (st := []) [] dX2_run_1 lX2_35 kX2_begin vX2_begin rfl rfl rfl (Nat.le_of_ble_eq_true rfl) (Nat.le_of_ble_eq_true rfl) (Nat.le_of_ble_eq_true rfl) rfl ?_
  refine sG.mono h (kV_mono fun μ1 h => ?_)
  refine g_iconst 0 dX2_run_4 (by decide) ?_
  refine g_istore_n [some (sR 37), some (sR 33), some (sI 0), none] dX2_run_5 rfl (by decide) rfl ?_
  exact sG.loc (s_le_s (s_le_s (s_le_s (s_le_n s_le_0)))) h
set_option maxRecDepth 20000 in
theorem sX2_run_6 {d : Nat} {Q : Option sAV → sM → Prop} {μ : sM} {x2 : Int32} (h : (((μ.1 33 0) ≤ x2 → Q none μ) ∧ (¬ (μ.1 33 0) ≤ x2 → (vp_in x2 40 ∧ sCl sLL mX4_isGuest d [sI (μ.1 34 x2.toNatClampNeg)] (s_u μ 42 (x2.toNatClampNeg) (-6)) (kI fun r1 μ1 => ((r1 = 0 → ((¬ (μ.1 34 x2.toNatClampNeg) = 46 → sCl sLL mX2_fill d [sR 37, sI ((μ.1 34 x2.toNatClampNeg) - 48)] μ1 (kV fun μ2 => (((μ2.1 37 7) = (-6) → sG sLL mX2_run (d + 1) Q 6 [some (sR 37), some (sR 33), some (sI (x2 + 1)), none] [] μ2) ∧ (¬ (μ2.1 37 7) = (-6) → Q none μ2)))) ∧ ((μ.1 34 x2.toNatClampNeg) = 46 → sCl sLL mX2_cool d [sR 37] μ1 (kV fun μ2 => (((μ2.1 37 7) = (-6) → sG sLL mX2_run (d + 1) Q 6 [some (sR 37), some (sR 33), some (sI (x2 + 1)), none] [] μ2) ∧ (¬ (μ2.1 37 7) = (-6) → Q none μ2)))))) ∧ (¬ r1 = 0 → sCl sLL mX2_comes d [sR 37, sI ((μ.1 34 x2.toNatClampNeg) - 65), sI x2] μ1 (kV fun μ2 => (((μ2.1 37 7) = (-6) → sG sLL mX2_run (d + 1) Q 6 [some (sR 37), some (sR 33), some (sI (x2 + 1)), none] [] μ2) ∧ (¬ (μ2.1 37 7) = (-6) → Q none μ2)))))))))) : sG sLL mX2_run (d + 1) Q 6 [some (sR 37), some (sR 33), some (sI x2), none] [] μ := by
  refine g_iload_n dX2_run_6 rfl ?_
  refine g_aload_n dX2_run_7 rfl ?_
  refine h_geti (μ.1 33 0) dX2_run_8 fX2_38 rfl rfl rfl ?_
  refine g_icmp_ge 85 dX2_run_11 (by decide) (fun q => ?_) (fun q => ?_)
  · have h := h.1 q
    exact g_vret dX2_run_85 rfl h
  · have h := h.2 q
    refine g_aload_n dX2_run_14 rfl ?_
    refine g_getr (r2 := 34) dX2_run_15 fX2_44 rfl rfl ?_
    refine g_iload_n dX2_run_18 rfl ?_
    obtain ⟨v1, h⟩ := h
    refine h_iald (μ.1 34 x2.toNatClampNeg) dX2_run_19 rfl rfl v1 rfl ?_
    refine g_istore_n [some (sR 37), some (sR 33), some (sI x2), some (sI (μ.1 34 x2.toNatClampNeg))] dX2_run_20 rfl (by decide) rfl ?_
    refine g_aload_n dX2_run_21 rfl ?_
    refine g_getr (r2 := 42) dX2_run_22 fX2_24 rfl rfl ?_
    refine g_iload_n dX2_run_25 rfl ?_
    refine g_bipush (-6) dX2_run_26 (by decide) ?_
    refine h_iast (x2.toNatClampNeg) dX2_run_28 rfl rfl v1 rfl ?_
    refine g_iload_n dX2_run_29 rfl ?_
    refine g_callSi (mi2 := mX4_isGuest) (st := []) [sI (μ.1 34 x2.toNatClampNeg)] dX2_run_30 lX2_47 kX4_isGuest vX4_isGuest rfl (Nat.le_of_ble_eq_true rfl) (Nat.le_of_ble_eq_true rfl) (Nat.le_of_ble_eq_true rfl) rfl ?_
    refine sG.mono h (kI_mono fun r1 μ1 h => ?_)
    refine g_if_eq 48 dX2_run_33 (by decide) (fun q => ?_) (fun q => ?_)
    · have h := h.1 q
      refine g_iload_n dX2_run_48 rfl ?_
      refine g_bipush 46 dX2_run_49 (by decide) ?_
      refine g_icmp_ne 61 dX2_run_51 (by decide) (fun q => ?_) (fun q => ?_)
      · have h := h.1 q
        refine g_aload_n dX2_run_61 rfl ?_
        refine g_iload_n dX2_run_62 rfl ?_
        refine g_bipush 48 dX2_run_63 (by decide) ?_
        refine g_isub dX2_run_65 ?_
        refine g_callVv (mi2 := mX2_fill) (r := 37) (st := []) [sI ((μ.1 34 x2.toNatClampNeg) - 48)] dX2_run_66 lX2_58 kX2_fill vX2_fill rfl rfl rfl (Nat.le_of_ble_eq_true rfl) (Nat.le_of_ble_eq_true rfl) (Nat.le_of_ble_eq_true rfl) rfl ?_
        refine sG.mono h (kV_mono fun μ2 h => ?_)
        refine g_aload_n dX2_run_69 rfl ?_
        refine h_geti (μ2.1 37 7) dX2_run_70 fX2_62 rfl rfl rfl ?_
        refine g_bipush (-6) dX2_run_73 (by decide) ?_
        refine g_icmp_eq 79 dX2_run_75 (by decide) (fun q => ?_) (fun q => ?_)
        · have h := h.1 q
          refine g_iinc (x2 + 1) [some (sR 37), some (sR 33), some (sI (x2 + 1)), some (sI (μ.1 34 x2.toNatClampNeg))] dX2_run_79 rfl rfl (by decide) rfl ?_
          refine g_goto 6 dX2_run_82 (by decide) ?_
          exact sG.loc (s_le_s (s_le_s (s_le_s (s_le_n s_le_0)))) h
        · have h := h.2 q
          exact g_vret dX2_run_78 rfl h
      · have h := h.2 q
        refine g_aload_n dX2_run_54 rfl ?_
        refine g_callVv (mi2 := mX2_cool) (r := 37) (st := []) [] dX2_run_55 lX2_55 kX2_cool vX2_cool rfl rfl rfl (Nat.le_of_ble_eq_true rfl) (Nat.le_of_ble_eq_true rfl) (Nat.le_of_ble_eq_true rfl) rfl ?_
        refine sG.mono h (kV_mono fun μ2 h => ?_)
        refine g_goto 69 dX2_run_58 (by decide) ?_
        refine g_aload_n dX2_run_69 rfl ?_
        refine h_geti (μ2.1 37 7) dX2_run_70 fX2_62 rfl rfl rfl ?_
        refine g_bipush (-6) dX2_run_73 (by decide) ?_
        refine g_icmp_eq 79 dX2_run_75 (by decide) (fun q => ?_) (fun q => ?_)
        · have h := h.1 q
          refine g_iinc (x2 + 1) [some (sR 37), some (sR 33), some (sI (x2 + 1)), some (sI (μ.1 34 x2.toNatClampNeg))] dX2_run_79 rfl rfl (by decide) rfl ?_
          refine g_goto 6 dX2_run_82 (by decide) ?_
          exact sG.loc (s_le_s (s_le_s (s_le_s (s_le_n s_le_0)))) h
        · have h := h.2 q
          exact g_vret dX2_run_78 rfl h
    · have h := h.2 q
      refine g_aload_n dX2_run_36 rfl ?_
      refine g_iload_n dX2_run_37 rfl ?_
      refine g_bipush 65 dX2_run_38 (by decide) ?_
      refine g_isub dX2_run_40 ?_
      refine g_iload_n dX2_run_41 rfl ?_
      refine g_callVv (mi2 := mX2_comes) (r := 37) (st := []) [sI ((μ.1 34 x2.toNatClampNeg) - 65), sI x2] dX2_run_42 lX2_51 kX2_comes vX2_comes rfl rfl rfl (Nat.le_of_ble_eq_true rfl) (Nat.le_of_ble_eq_true rfl) (Nat.le_of_ble_eq_true rfl) rfl ?_
      refine sG.mono h (kV_mono fun μ2 h => ?_)
      refine g_goto 69 dX2_run_45 (by decide) ?_
      refine g_aload_n dX2_run_69 rfl ?_
      refine h_geti (μ2.1 37 7) dX2_run_70 fX2_62 rfl rfl rfl ?_
      refine g_bipush (-6) dX2_run_73 (by decide) ?_
      refine g_icmp_eq 79 dX2_run_75 (by decide) (fun q => ?_) (fun q => ?_)
      · have h := h.1 q
        refine g_iinc (x2 + 1) [some (sR 37), some (sR 33), some (sI (x2 + 1)), some (sI (μ.1 34 x2.toNatClampNeg))] dX2_run_79 rfl rfl (by decide) rfl ?_
        refine g_goto 6 dX2_run_82 (by decide) ?_
        exact sG.loc (s_le_s (s_le_s (s_le_s (s_le_n s_le_0)))) h
      · have h := h.2 q
        exact g_vret dX2_run_78 rfl h
set_option maxRecDepth 20000 in
theorem eX2_begin {d : Nat} {Q : Option sAV → sM → Prop} {μ : sM} (h : sCl sLL mX1_begin d [sR 35] μ (kV fun μ1 => sCl sLL mJ7_fill_53178 d [sR 39, sI (-6)] (s_cp μ1 7 38 7) (kV fun μ2 => sCl sLL mJ7_fill_53178 d [sR 40, sI (-6)] μ2 (kV fun μ3 => Q none (s_u (s_u (s_u (s_u μ3 37 7 (-6)) 37 8 (-6)) 37 9 0) 37 10 0))))) : sCl sLL mX2_begin (d + 1) [sR 37] μ Q := by
  refine sG.loc (al2 := [some (sR 37)]) (s_le_s s_le_0) ?_
  refine g_aload_n dX2_begin_0 rfl ?_
  refine g_getr (r2 := 35) dX2_begin_1 fX2_31 rfl rfl ?_
  refine g_callVv (mi2 := mX1_begin) (r := 35) (st := []) [] dX2_begin_4 lX2_65 kX1_begin vX1_begin rfl rfl rfl (Nat.le_of_ble_eq_true rfl) (Nat.le_of_ble_eq_true rfl) (Nat.le_of_ble_eq_true rfl) rfl ?_
  refine sG.mono h (kV_mono fun μ1 h => ?_)
  refine g_aload_n dX2_begin_7 rfl ?_
  refine g_getr (r2 := 1) dX2_begin_8 fX2_27 rfl rfl ?_
  refine g_getr (r2 := 7) dX2_begin_11 fX2_68 rfl rfl ?_
  refine g_iconst 0 dX2_begin_14 (by decide) ?_
  refine g_aload_n dX2_begin_15 rfl ?_
  refine g_getr (r2 := 38) dX2_begin_16 fX2_9 rfl rfl ?_
  refine g_iconst 0 dX2_begin_19 (by decide) ?_
  refine g_bipush 7 dX2_begin_20 (by decide) ?_
  refine h_copy dX2_begin_22 lX2_71 rfl rfl rfl rfl (by decide) (Nat.le_of_ble_eq_true rfl) (Nat.le_of_ble_eq_true rfl) ?_
  refine g_aload_n dX2_begin_25 rfl ?_
  refine g_getr (r2 := 39) dX2_begin_26 fX2_15 rfl rfl ?_
  refine g_bipush (-6) dX2_begin_29 (by decide) ?_
  refine g_callSv (mi2 := mJ7_fill_53178) (st := []) [sR 39, sI (-6)] dX2_begin_31 lX2_77 kJ7_fill_53178 vJ7_fill_53178 rfl (Nat.le_of_ble_eq_true rfl) (Nat.le_of_ble_eq_true rfl) (Nat.le_of_ble_eq_true rfl) rfl ?_
  refine sG.mono h (kV_mono fun μ2 h => ?_)
  refine g_aload_n dX2_begin_34 rfl ?_
  refine g_getr (r2 := 40) dX2_begin_35 fX2_18 rfl rfl ?_
  refine g_bipush (-6) dX2_begin_38 (by decide) ?_
  refine g_callSv (mi2 := mJ7_fill_53178) (st := []) [sR 40, sI (-6)] dX2_begin_40 lX2_77 kJ7_fill_53178 vJ7_fill_53178 rfl (Nat.le_of_ble_eq_true rfl) (Nat.le_of_ble_eq_true rfl) (Nat.le_of_ble_eq_true rfl) rfl ?_
  refine sG.mono h (kV_mono fun μ3 h => ?_)
  refine g_aload_n dX2_begin_43 rfl ?_
  refine g_bipush (-6) dX2_begin_44 (by decide) ?_
  refine g_puti dX2_begin_46 fX2_62 rfl rfl rfl rfl ?_
  refine g_aload_n dX2_begin_49 rfl ?_
  refine g_bipush (-6) dX2_begin_50 (by decide) ?_
  refine g_puti dX2_begin_52 fX2_82 rfl rfl rfl rfl ?_
  refine g_aload_n dX2_begin_55 rfl ?_
  refine g_iconst 0 dX2_begin_56 (by decide) ?_
  refine g_puti dX2_begin_57 fX2_85 rfl rfl rfl rfl ?_
  refine g_aload_n dX2_begin_60 rfl ?_
  refine g_iconst 0 dX2_begin_61 (by decide) ?_
  refine g_puti dX2_begin_62 fX2_88 rfl rfl rfl rfl ?_
  exact g_vret dX2_begin_65 rfl h
set_option maxRecDepth 20000 in
theorem eX2_comes {d : Nat} {Q : Option sAV → sM → Prop} {μ : sM} {a1 : Int32} {a2 : Int32} (h : sCl sLL mX6_hasGuest d [sR 1, sI a1] μ (kI fun r1 μ1 => ((¬ r1 = 0 → sCl sLL mX1_choice d [sR 35, sI a1] μ1 (kI fun r2 μ2 => ((¬ r2 = (-6) → sCl sLL mX1_use d [sR 35, sI a1, sI r2] (s_u μ2 37 9 ((μ2.1 37 9) + 1)) (kI fun r3 μ3 => (vp_in a2 40 ∧ (vp_in r2 7 ∧ ((¬ (μ3.1 39 r2.toNatClampNeg) = (-6) → Q none (s_u (s_u (s_u (s_u μ3 37 10 ((μ2.1 37 10) + r3)) 42 (a2.toNatClampNeg) r2) 38 (r2.toNatClampNeg) 9) 40 (r2.toNatClampNeg) a1)) ∧ ((μ3.1 39 r2.toNatClampNeg) = (-6) → Q none (s_u (s_u (s_u (s_u (s_u μ3 37 10 ((μ2.1 37 10) + r3)) 42 (a2.toNatClampNeg) r2) 38 (r2.toNatClampNeg) 9) 39 (r2.toNatClampNeg) a1) 40 (r2.toNatClampNeg) a1))))))) ∧ (r2 = (-6) → sCl sLL mX2_fail d [sR 37, sI a2, sI 2] μ2 (kV fun μ3 => Q none μ3))))) ∧ (r1 = 0 → sCl sLL mX2_fail d [sR 37, sI a2, sI 1] μ1 (kV fun μ2 => Q none μ2))))) : sCl sLL mX2_comes (d + 1) [sR 37, sI a1, sI a2] μ Q := by
  refine sG.loc (al2 := [some (sR 37), some (sI a1), some (sI a2), none]) (s_le_s (s_le_s (s_le_s (s_le_p s_le_0)))) ?_
  refine g_aload_n dX2_comes_0 rfl ?_
  refine g_getr (r2 := 1) dX2_comes_1 fX2_27 rfl rfl ?_
  refine g_iload_n dX2_comes_4 rfl ?_
  refine g_callVi (mi2 := mX6_hasGuest) (r := 1) (st := []) [sI a1] dX2_comes_5 lX2_91 kX6_hasGuest vX6_hasGuest rfl rfl rfl (Nat.le_of_ble_eq_true rfl) (Nat.le_of_ble_eq_true rfl) (Nat.le_of_ble_eq_true rfl) rfl ?_
  refine sG.mono h (kI_mono fun r1 μ1 h => ?_)
  refine g_if_ne 18 dX2_comes_8 (by decide) (fun q => ?_) (fun q => ?_)
  · have h := h.1 q
    refine g_aload_n dX2_comes_18 rfl ?_
    refine g_getr (r2 := 35) dX2_comes_19 fX2_31 rfl rfl ?_
    refine g_iload_n dX2_comes_22 rfl ?_
    refine g_callVi (mi2 := mX1_choice) (r := 35) (st := []) [sI a1] dX2_comes_23 lX2_97 kX1_choice vX1_choice rfl rfl rfl (Nat.le_of_ble_eq_true rfl) (Nat.le_of_ble_eq_true rfl) (Nat.le_of_ble_eq_true rfl) rfl ?_
    refine sG.mono h (kI_mono fun r2 μ2 h => ?_)
    refine g_istore_n [some (sR 37), some (sI a1), some (sI a2), some (sI r2)] dX2_comes_26 rfl (by decide) rfl ?_
    refine g_iload_n dX2_comes_27 rfl ?_
    refine g_bipush (-6) dX2_comes_28 (by decide) ?_
    refine g_icmp_ne 40 dX2_comes_30 (by decide) (fun q => ?_) (fun q => ?_)
    · have h := h.1 q
      refine g_aload_n dX2_comes_40 rfl ?_
      refine g_dup_r dX2_comes_41 ?_
      refine h_geti (μ2.1 37 9) dX2_comes_42 fX2_85 rfl rfl rfl ?_
      refine g_iconst 1 dX2_comes_45 (by decide) ?_
      refine g_iadd dX2_comes_46 ?_
      refine g_puti dX2_comes_47 fX2_85 rfl rfl rfl rfl ?_
      refine g_aload_n dX2_comes_50 rfl ?_
      refine g_dup_r dX2_comes_51 ?_
      refine h_geti (μ2.1 37 10) dX2_comes_52 fX2_88 rfl rfl rfl ?_
      refine g_aload_n dX2_comes_55 rfl ?_
      refine g_getr (r2 := 35) dX2_comes_56 fX2_31 rfl rfl ?_
      refine g_iload_n dX2_comes_59 rfl ?_
      refine g_iload_n dX2_comes_60 rfl ?_
      refine g_callVi (mi2 := mX1_use) (r := 35) (st := [sI (μ2.1 37 10), sR 37]) [sI a1, sI r2] dX2_comes_61 lX2_101 kX1_use vX1_use rfl rfl rfl (Nat.le_of_ble_eq_true rfl) (Nat.le_of_ble_eq_true rfl) (Nat.le_of_ble_eq_true rfl) rfl ?_
      refine sG.mono h (kI_mono fun r3 μ3 h => ?_)
      refine g_iadd dX2_comes_64 ?_
      refine g_puti dX2_comes_65 fX2_88 rfl rfl rfl rfl ?_
      refine g_aload_n dX2_comes_68 rfl ?_
      refine g_getr (r2 := 42) dX2_comes_69 fX2_24 rfl rfl ?_
      refine g_iload_n dX2_comes_72 rfl ?_
      refine g_iload_n dX2_comes_73 rfl ?_
      obtain ⟨v1, h⟩ := h
      refine h_iast (a2.toNatClampNeg) dX2_comes_74 rfl rfl v1 rfl ?_
      refine g_aload_n dX2_comes_75 rfl ?_
      refine g_getr (r2 := 38) dX2_comes_76 fX2_9 rfl rfl ?_
      refine g_iload_n dX2_comes_79 rfl ?_
      refine g_bipush 9 dX2_comes_80 (by decide) ?_
      obtain ⟨v2, h⟩ := h
      refine h_iast (r2.toNatClampNeg) dX2_comes_82 rfl rfl v2 rfl ?_
      refine g_aload_n dX2_comes_83 rfl ?_
      refine g_getr (r2 := 39) dX2_comes_84 fX2_15 rfl rfl ?_
      refine g_iload_n dX2_comes_87 rfl ?_
      refine h_iald (μ3.1 39 r2.toNatClampNeg) dX2_comes_88 rfl rfl v2 rfl ?_
      refine g_bipush (-6) dX2_comes_89 (by decide) ?_
      refine g_icmp_ne 101 dX2_comes_91 (by decide) (fun q => ?_) (fun q => ?_)
      · have h := h.1 q
        refine g_aload_n dX2_comes_101 rfl ?_
        refine g_getr (r2 := 40) dX2_comes_102 fX2_18 rfl rfl ?_
        refine g_iload_n dX2_comes_105 rfl ?_
        refine g_iload_n dX2_comes_106 rfl ?_
        refine h_iast (r2.toNatClampNeg) dX2_comes_107 rfl rfl v2 rfl ?_
        exact g_vret dX2_comes_108 rfl h
      · have h := h.2 q
        refine g_aload_n dX2_comes_94 rfl ?_
        refine g_getr (r2 := 39) dX2_comes_95 fX2_15 rfl rfl ?_
        refine g_iload_n dX2_comes_98 rfl ?_
        refine g_iload_n dX2_comes_99 rfl ?_
        refine h_iast (r2.toNatClampNeg) dX2_comes_100 rfl rfl v2 rfl ?_
        refine g_aload_n dX2_comes_101 rfl ?_
        refine g_getr (r2 := 40) dX2_comes_102 fX2_18 rfl rfl ?_
        refine g_iload_n dX2_comes_105 rfl ?_
        refine g_iload_n dX2_comes_106 rfl ?_
        refine h_iast (r2.toNatClampNeg) dX2_comes_107 rfl rfl v2 rfl ?_
        exact g_vret dX2_comes_108 rfl h
    · have h := h.2 q
      refine g_aload_n dX2_comes_33 rfl ?_
      refine g_iload_n dX2_comes_34 rfl ?_
      refine g_iconst 2 dX2_comes_35 (by decide) ?_
      refine g_callVv (mi2 := mX2_fail) (r := 37) (st := []) [sI a2, sI 2] dX2_comes_36 lX2_94 kX2_fail vX2_fail rfl rfl rfl (Nat.le_of_ble_eq_true rfl) (Nat.le_of_ble_eq_true rfl) (Nat.le_of_ble_eq_true rfl) rfl ?_
      refine sG.mono h (kV_mono fun μ3 h => ?_)
      exact g_vret dX2_comes_39 rfl h
  · have h := h.2 q
    refine g_aload_n dX2_comes_11 rfl ?_
    refine g_iload_n dX2_comes_12 rfl ?_
    refine g_iconst 1 dX2_comes_13 (by decide) ?_
    refine g_callVv (mi2 := mX2_fail) (r := 37) (st := []) [sI a2, sI 1] dX2_comes_14 lX2_94 kX2_fail vX2_fail rfl rfl rfl (Nat.le_of_ble_eq_true rfl) (Nat.le_of_ble_eq_true rfl) (Nat.le_of_ble_eq_true rfl) rfl ?_
    refine sG.mono h (kV_mono fun μ2 h => ?_)
    exact g_vret dX2_comes_17 rfl h
set_option maxRecDepth 20000 in
theorem eX2_fail {d : Nat} {Q : Option sAV → sM → Prop} {μ : sM} {a1 : Int32} {a2 : Int32} (h : Q none (s_u (s_u μ 37 7 a1) 37 8 a2)) : sCl sLL mX2_fail d [sR 37, sI a1, sI a2] μ Q := by
  refine sG.loc (al2 := [some (sR 37), some (sI a1), some (sI a2)]) (s_le_s (s_le_s (s_le_s s_le_0))) ?_
  refine g_aload_n dX2_fail_0 rfl ?_
  refine g_iload_n dX2_fail_1 rfl ?_
  refine g_puti dX2_fail_2 fX2_62 rfl rfl rfl rfl ?_
  refine g_aload_n dX2_fail_5 rfl ?_
  refine g_iload_n dX2_fail_6 rfl ?_
  refine g_puti dX2_fail_7 fX2_82 rfl rfl rfl rfl ?_
  exact g_vret dX2_fail_10 rfl h
set_option maxRecDepth 20000 in
theorem eX2_cool {d : Nat} {Q : Option sAV → sM → Prop} {μ : sM} (h : sG sLL mX2_cool (d + 1) Q 2 [some (sR 37), some (sI 0)] [] μ) : sCl sLL mX2_cool (d + 1) [sR 37] μ Q := by
  refine sG.loc (al2 := [some (sR 37), none]) (s_le_s (s_le_p s_le_0)) ?_
  refine g_iconst 0 dX2_cool_0 (by decide) ?_
  refine g_istore_n [some (sR 37), some (sI 0)] dX2_cool_1 rfl (by decide) rfl ?_
  exact sG.loc (s_le_s (s_le_s s_le_0)) h
set_option maxRecDepth 20000 in
theorem sX2_cool_2 {d : Nat} {Q : Option sAV → sM → Prop} {μ : sM} {x1 : Int32} (h : ((7 ≤ x1 → Q none μ) ∧ (¬ 7 ≤ x1 → (vp_in x1 7 ∧ sG sLL mX2_cool (d + 1) Q 2 [some (sR 37), some (sI (x1 + 1))] [] (s_u μ 38 (x1.toNatClampNeg) (if 0 < ((μ.1 38 x1.toNatClampNeg) - 1) then ((μ.1 38 x1.toNatClampNeg) - 1) else 0)))))) : sG sLL mX2_cool (d + 1) Q 2 [some (sR 37), some (sI x1)] [] μ := by
  refine g_iload_n dX2_cool_2 rfl ?_
  refine g_bipush 7 dX2_cool_3 (by decide) ?_
  refine g_icmp_ge 32 dX2_cool_5 (by decide) (fun q => ?_) (fun q => ?_)
  · have h := h.1 q
    exact g_vret dX2_cool_32 rfl h
  · have h := h.2 q
    refine g_aload_n dX2_cool_8 rfl ?_
    refine g_getr (r2 := 38) dX2_cool_9 fX2_9 rfl rfl ?_
    refine g_iload_n dX2_cool_12 rfl ?_
    refine g_iconst 0 dX2_cool_13 (by decide) ?_
    refine g_aload_n dX2_cool_14 rfl ?_
    refine g_getr (r2 := 38) dX2_cool_15 fX2_9 rfl rfl ?_
    refine g_iload_n dX2_cool_18 rfl ?_
    obtain ⟨v1, h⟩ := h
    refine h_iald (μ.1 38 x1.toNatClampNeg) dX2_cool_19 rfl rfl v1 rfl ?_
    refine g_iconst 1 dX2_cool_20 (by decide) ?_
    refine g_isub dX2_cool_21 ?_
    refine g_mmax dX2_cool_22 lX2_105 (Nat.le_of_ble_eq_true rfl) ?_
    refine h_iast (x1.toNatClampNeg) dX2_cool_25 rfl rfl v1 rfl ?_
    refine g_iinc (x1 + 1) [some (sR 37), some (sI (x1 + 1))] dX2_cool_26 rfl rfl (by decide) rfl ?_
    refine g_goto 2 dX2_cool_29 (by decide) ?_
    exact sG.loc (s_le_s (s_le_s s_le_0)) h
set_option maxRecDepth 20000 in
theorem eX2_fill {d : Nat} {Q : Option sAV → sM → Prop} {μ : sM} {a1 : Int32} (h : sCl sLL mX6_hasThing d [sR 1, sI a1] μ (kI fun r1 μ1 => ((r1 = 0 → Q none μ1) ∧ (¬ r1 = 0 → (vp_in a1 7 ∧ Q none (s_u μ1 36 (a1.toNatClampNeg) (μ1.1 5 a1.toNatClampNeg))))))) : sCl sLL mX2_fill (d + 1) [sR 37, sI a1] μ Q := by
  refine sG.loc (al2 := [some (sR 37), some (sI a1)]) (s_le_s (s_le_s s_le_0)) ?_
  refine g_aload_n dX2_fill_0 rfl ?_
  refine g_getr (r2 := 1) dX2_fill_1 fX2_27 rfl rfl ?_
  refine g_iload_n dX2_fill_4 rfl ?_
  refine g_callVi (mi2 := mX6_hasThing) (r := 1) (st := []) [sI a1] dX2_fill_5 lX2_110 kX6_hasThing vX6_hasThing rfl rfl rfl (Nat.le_of_ble_eq_true rfl) (Nat.le_of_ble_eq_true rfl) (Nat.le_of_ble_eq_true rfl) rfl ?_
  refine sG.mono h (kI_mono fun r1 μ1 h => ?_)
  refine g_if_eq 29 dX2_fill_8 (by decide) (fun q => ?_) (fun q => ?_)
  · have h := h.1 q
    exact g_vret dX2_fill_29 rfl h
  · have h := h.2 q
    refine g_aload_n dX2_fill_11 rfl ?_
    refine g_getr (r2 := 35) dX2_fill_12 fX2_31 rfl rfl ?_
    refine g_getr (r2 := 36) dX2_fill_15 fX2_113 rfl rfl ?_
    refine g_iload_n dX2_fill_18 rfl ?_
    refine g_aload_n dX2_fill_19 rfl ?_
    refine g_getr (r2 := 1) dX2_fill_20 fX2_27 rfl rfl ?_
    refine g_getr (r2 := 5) dX2_fill_23 fX2_116 rfl rfl ?_
    refine g_iload_n dX2_fill_26 rfl ?_
    obtain ⟨v1, h⟩ := h
    refine h_iald (μ1.1 5 a1.toNatClampNeg) dX2_fill_27 rfl rfl v1 rfl ?_
    refine h_iast (a1.toNatClampNeg) dX2_fill_28 rfl rfl v1 rfl ?_
    exact g_vret dX2_fill_29 rfl h
set_option maxRecDepth 20000 in
theorem eX3_howMany {d : Nat} {Q : Option sAV → sM → Prop} {μ : sM} {a1 : Int32} (h : sCl sLL mJ7_fill_53178 d [sR 59, sI (-6)] μ (kV fun μ1 => sCl sLL mX3_walk d [sR 58, sI (if 5 < a1 then 5 else a1)] (s_u μ1 58 2 0) (kV fun μ2 => Q (some (sI (μ2.1 58 2))) μ2))) : sCl sLL mX3_howMany (d + 1) [sR 58, sI a1] μ Q := by
  refine sG.loc (al2 := [some (sR 58), some (sI a1)]) (s_le_s (s_le_s s_le_0)) ?_
  refine g_aload_n dX3_howMany_0 rfl ?_
  refine g_getr (r2 := 59) dX3_howMany_1 fX3_11 rfl rfl ?_
  refine g_bipush (-6) dX3_howMany_4 (by decide) ?_
  refine g_callSv (mi2 := mJ7_fill_53178) (st := []) [sR 59, sI (-6)] dX3_howMany_6 lX3_19 kJ7_fill_53178 vJ7_fill_53178 rfl (Nat.le_of_ble_eq_true rfl) (Nat.le_of_ble_eq_true rfl) (Nat.le_of_ble_eq_true rfl) rfl ?_
  refine sG.mono h (kV_mono fun μ1 h => ?_)
  refine g_aload_n dX3_howMany_9 rfl ?_
  refine g_iconst 0 dX3_howMany_10 (by decide) ?_
  refine g_puti dX3_howMany_11 fX3_25 rfl rfl rfl rfl ?_
  refine g_aload_n dX3_howMany_14 rfl ?_
  refine g_iload_n dX3_howMany_15 rfl ?_
  refine g_iconst 5 dX3_howMany_16 (by decide) ?_
  refine g_mmin dX3_howMany_17 lX3_29 (Nat.le_of_ble_eq_true rfl) ?_
  refine g_callVv (mi2 := mX3_walk) (r := 58) (st := []) [sI (if 5 < a1 then 5 else a1)] dX3_howMany_20 lX3_35 kX3_walk vX3_walk rfl rfl rfl (Nat.le_of_ble_eq_true rfl) (Nat.le_of_ble_eq_true rfl) (Nat.le_of_ble_eq_true rfl) rfl ?_
  refine sG.mono h (kV_mono fun μ2 h => ?_)
  refine g_aload_n dX3_howMany_23 rfl ?_
  refine h_geti (μ2.1 58 2) dX3_howMany_24 fX3_25 rfl rfl rfl ?_
  exact g_iret dX3_howMany_27 rfl rfl h
set_option maxRecDepth 20000 in
theorem eX3_walk {d : Nat} {Q : Option sAV → sM → Prop} {μ : sM} {a1 : Int32} (h : ((0 < a1 → sG sLL mX3_walk (d + 1) Q 18 [some (sR 58), some (sI a1), some (sI 0), none, none, none] [] μ) ∧ (¬ 0 < a1 → sCl sLL mX1_asNumber d [sR 35] μ (kI fun r1 μ1 => sCl sLL mX3_put d [sR 58, sI r1] μ1 (kV fun μ2 => Q none μ2))))) : sCl sLL mX3_walk (d + 1) [sR 58, sI a1] μ Q := by
  refine sG.loc (al2 := [some (sR 58), some (sI a1), none, none, none, none]) (s_le_s (s_le_s (s_le_p (s_le_p (s_le_p (s_le_p s_le_0)))))) ?_
  refine g_iload_n dX3_walk_0 rfl ?_
  refine g_if_gt 16 dX3_walk_1 (by decide) (fun q => ?_) (fun q => ?_)
  · have h := h.1 q
    refine g_iconst 0 dX3_walk_16 (by decide) ?_
    refine g_istore_n [some (sR 58), some (sI a1), some (sI 0), none, none, none] dX3_walk_17 rfl (by decide) rfl ?_
    exact sG.loc (s_le_s (s_le_s (s_le_s (s_le_n (s_le_n (s_le_n s_le_0)))))) h
  · have h := h.2 q
    refine g_aload_n dX3_walk_4 rfl ?_
    refine g_aload_n dX3_walk_5 rfl ?_
    refine g_getr (r2 := 35) dX3_walk_6 fX3_15 rfl rfl ?_
    refine g_callVi (mi2 := mX1_asNumber) (r := 35) (st := [sR 58]) [] dX3_walk_9 lX3_39 kX1_asNumber vX1_asNumber rfl rfl rfl (Nat.le_of_ble_eq_true rfl) (Nat.le_of_ble_eq_true rfl) (Nat.le_of_ble_eq_true rfl) rfl ?_
    refine sG.mono h (kI_mono fun r1 μ1 h => ?_)
    refine g_callVv (mi2 := mX3_put) (r := 58) (st := []) [sI r1] dX3_walk_12 lX3_45 kX3_put vX3_put rfl rfl rfl (Nat.le_of_ble_eq_true rfl) (Nat.le_of_ble_eq_true rfl) (Nat.le_of_ble_eq_true rfl) rfl ?_
    refine sG.mono h (kV_mono fun μ2 h => ?_)
    exact g_vret dX3_walk_15 rfl h
set_option maxRecDepth 20000 in
theorem sX3_walk_18 {d : Nat} {Q : Option sAV → sM → Prop} {μ : sM} {x1 : Int32} {x2 : Int32} (h : ((4 ≤ x2 → Q none μ) ∧ (¬ 4 ≤ x2 → sCl sLL mX1_visit d [sR 35, sI x2] μ (kI fun r1 μ1 => ((¬ r1 = 0 → sCl sLL mX3_walk d [sR 58, sI (x1 - 1)] μ1 (kV fun μ2 => sCl sLL mX1_takeBack d [sR 35, sI (μ1.1 35 3), sI r1, sI (μ.1 35 3)] μ2 (kV fun μ3 => sG sLL mX3_walk (d + 1) Q 18 [some (sR 58), some (sI x1), some (sI (x2 + 1)), none, none, none] [] μ3))) ∧ (r1 = 0 → sG sLL mX3_walk (d + 1) Q 18 [some (sR 58), some (sI x1), some (sI (x2 + 1)), none, none, none] [] μ1)))))) : sG sLL mX3_walk (d + 1) Q 18 [some (sR 58), some (sI x1), some (sI x2), none, none, none] [] μ := by
  refine g_iload_n dX3_walk_18 rfl ?_
  refine g_iconst 4 dX3_walk_19 (by decide) ?_
  refine g_icmp_ge 83 dX3_walk_20 (by decide) (fun q => ?_) (fun q => ?_)
  · have h := h.1 q
    exact g_vret dX3_walk_83 rfl h
  · have h := h.2 q
    refine g_aload_n dX3_walk_23 rfl ?_
    refine g_getr (r2 := 35) dX3_walk_24 fX3_15 rfl rfl ?_
    refine h_geti (μ.1 35 3) dX3_walk_27 fX3_48 rfl rfl rfl ?_
    refine g_istore_n [some (sR 58), some (sI x1), some (sI x2), some (sI (μ.1 35 3)), none, none] dX3_walk_30 rfl (by decide) rfl ?_
    refine g_aload_n dX3_walk_31 rfl ?_
    refine g_getr (r2 := 35) dX3_walk_32 fX3_15 rfl rfl ?_
    refine g_iload_n dX3_walk_35 rfl ?_
    refine g_callVi (mi2 := mX1_visit) (r := 35) (st := []) [sI x2] dX3_walk_36 lX3_51 kX1_visit vX1_visit rfl rfl rfl (Nat.le_of_ble_eq_true rfl) (Nat.le_of_ble_eq_true rfl) (Nat.le_of_ble_eq_true rfl) rfl ?_
    refine sG.mono h (kI_mono fun r1 μ1 h => ?_)
    refine g_istore [some (sR 58), some (sI x1), some (sI x2), some (sI (μ.1 35 3)), some (sI r1), none] dX3_walk_39 (by decide) rfl ?_
    refine g_iload dX3_walk_41 rfl ?_
    refine g_if_ne 49 dX3_walk_43 (by decide) (fun q => ?_) (fun q => ?_)
    · have h := h.1 q
      refine g_aload_n dX3_walk_49 rfl ?_
      refine g_getr (r2 := 35) dX3_walk_50 fX3_15 rfl rfl ?_
      refine h_geti (μ1.1 35 3) dX3_walk_53 fX3_48 rfl rfl rfl ?_
      refine g_istore [some (sR 58), some (sI x1), some (sI x2), some (sI (μ.1 35 3)), some (sI r1), some (sI (μ1.1 35 3))] dX3_walk_56 (by decide) rfl ?_
      refine g_aload_n dX3_walk_58 rfl ?_
      refine g_iload_n dX3_walk_59 rfl ?_
      refine g_iconst 1 dX3_walk_60 (by decide) ?_
      refine g_isub dX3_walk_61 ?_
      refine g_callVv (mi2 := mX3_walk) (r := 58) (st := []) [sI (x1 - 1)] dX3_walk_62 lX3_35 kX3_walk vX3_walk rfl rfl rfl (Nat.le_of_ble_eq_true rfl) (Nat.le_of_ble_eq_true rfl) (Nat.le_of_ble_eq_true rfl) rfl ?_
      refine sG.mono h (kV_mono fun μ2 h => ?_)
      refine g_aload_n dX3_walk_65 rfl ?_
      refine g_getr (r2 := 35) dX3_walk_66 fX3_15 rfl rfl ?_
      refine g_iload dX3_walk_69 rfl ?_
      refine g_iload dX3_walk_71 rfl ?_
      refine g_iload_n dX3_walk_73 rfl ?_
      refine g_callVv (mi2 := mX1_takeBack) (r := 35) (st := []) [sI (μ1.1 35 3), sI r1, sI (μ.1 35 3)] dX3_walk_74 lX3_55 kX1_takeBack vX1_takeBack rfl rfl rfl (Nat.le_of_ble_eq_true rfl) (Nat.le_of_ble_eq_true rfl) (Nat.le_of_ble_eq_true rfl) rfl ?_
      refine sG.mono h (kV_mono fun μ3 h => ?_)
      refine g_iinc (x2 + 1) [some (sR 58), some (sI x1), some (sI (x2 + 1)), some (sI (μ.1 35 3)), some (sI r1), some (sI (μ1.1 35 3))] dX3_walk_77 rfl rfl (by decide) rfl ?_
      refine g_goto 18 dX3_walk_80 (by decide) ?_
      exact sG.loc (s_le_s (s_le_s (s_le_s (s_le_n (s_le_n (s_le_n s_le_0)))))) h
    · have h := h.2 q
      refine g_goto 77 dX3_walk_46 (by decide) ?_
      refine g_iinc (x2 + 1) [some (sR 58), some (sI x1), some (sI (x2 + 1)), some (sI (μ.1 35 3)), some (sI r1), none] dX3_walk_77 rfl rfl (by decide) rfl ?_
      refine g_goto 18 dX3_walk_80 (by decide) ?_
      exact sG.loc (s_le_s (s_le_s (s_le_s (s_le_n (s_le_n (s_le_n s_le_0)))))) h
set_option maxRecDepth 20000 in
theorem eX3_put {d : Nat} {Q : Option sAV → sM → Prop} {μ : sM} {a1 : Int32} (h : sG sLL mX3_put d Q 10 [some (sR 58), some (sI a1), some (sI (s_us (a1 * (-1640531535)) (21 : Int32))), some (sI 0)] [] μ) : sCl sLL mX3_put d [sR 58, sI a1] μ Q := by
  refine sG.loc (al2 := [some (sR 58), some (sI a1), none, none]) (s_le_s (s_le_s (s_le_p (s_le_p s_le_0)))) ?_
  refine g_iload_n dX3_put_0 rfl ?_
  refine g_ldc dX3_put_1 qX3_59 ?_
  refine g_imul dX3_put_3 ?_
  refine g_bipush 21 dX3_put_4 (by decide) ?_
  refine h_iushr dX3_put_6 ?_
  refine g_istore_n [some (sR 58), some (sI a1), some (sI (s_us (a1 * (-1640531535)) (21 : Int32))), none] dX3_put_7 rfl (by decide) rfl ?_
  refine g_iconst 0 dX3_put_8 (by decide) ?_
  refine g_istore_n [some (sR 58), some (sI a1), some (sI (s_us (a1 * (-1640531535)) (21 : Int32))), some (sI 0)] dX3_put_9 rfl (by decide) rfl ?_
  exact sG.loc (s_le_s (s_le_s (s_le_s (s_le_s s_le_0)))) h
set_option maxRecDepth 20000 in
theorem sX3_put_10 {d : Nat} {Q : Option sAV → sM → Prop} {μ : sM} {x1 : Int32} {x2 : Int32} {x3 : Int32} (h : ((2048 ≤ x3 → Q none μ) ∧ (¬ 2048 ≤ x3 → (vp_in x2 2048 ∧ ((¬ (μ.1 59 x2.toNatClampNeg) = x1 → ((¬ (μ.1 59 x2.toNatClampNeg) = (-6) → sG sLL mX3_put d Q 10 [some (sR 58), some (sI x1), some (sI ((x2 + 1) &&& 2047)), some (sI (x3 + 1))] [] μ) ∧ ((μ.1 59 x2.toNatClampNeg) = (-6) → Q none (s_u (s_u μ 59 (x2.toNatClampNeg) x1) 58 2 ((μ.1 58 2) + 1))))) ∧ ((μ.1 59 x2.toNatClampNeg) = x1 → Q none μ)))))) : sG sLL mX3_put d Q 10 [some (sR 58), some (sI x1), some (sI x2), some (sI x3)] [] μ := by
  refine g_iload_n dX3_put_10 rfl ?_
  refine g_sipush 2048 dX3_put_11 (by decide) ?_
  refine g_icmp_ge 71 dX3_put_14 (by decide) (fun q => ?_) (fun q => ?_)
  · have h := h.1 q
    exact g_vret dX3_put_71 rfl h
  · have h := h.2 q
    refine g_aload_n dX3_put_17 rfl ?_
    refine g_getr (r2 := 59) dX3_put_18 fX3_11 rfl rfl ?_
    refine g_iload_n dX3_put_21 rfl ?_
    obtain ⟨v1, h⟩ := h
    refine h_iald (μ.1 59 x2.toNatClampNeg) dX3_put_22 rfl rfl v1 rfl ?_
    refine g_iload_n dX3_put_23 rfl ?_
    refine g_icmp_ne 28 dX3_put_24 (by decide) (fun q => ?_) (fun q => ?_)
    · have h := h.1 q
      refine g_aload_n dX3_put_28 rfl ?_
      refine g_getr (r2 := 59) dX3_put_29 fX3_11 rfl rfl ?_
      refine g_iload_n dX3_put_32 rfl ?_
      refine h_iald (μ.1 59 x2.toNatClampNeg) dX3_put_33 rfl rfl v1 rfl ?_
      refine g_bipush (-6) dX3_put_34 (by decide) ?_
      refine g_icmp_ne 57 dX3_put_36 (by decide) (fun q => ?_) (fun q => ?_)
      · have h := h.1 q
        refine g_iload_n dX3_put_57 rfl ?_
        refine g_iconst 1 dX3_put_58 (by decide) ?_
        refine g_iadd dX3_put_59 ?_
        refine g_sipush 2047 dX3_put_60 (by decide) ?_
        refine g_iand dX3_put_63 ?_
        refine g_istore_n [some (sR 58), some (sI x1), some (sI ((x2 + 1) &&& 2047)), some (sI x3)] dX3_put_64 rfl (by decide) rfl ?_
        refine g_iinc (x3 + 1) [some (sR 58), some (sI x1), some (sI ((x2 + 1) &&& 2047)), some (sI (x3 + 1))] dX3_put_65 rfl rfl (by decide) rfl ?_
        refine g_goto 10 dX3_put_68 (by decide) ?_
        exact sG.loc (s_le_s (s_le_s (s_le_s (s_le_s s_le_0)))) h
      · have h := h.2 q
        refine g_aload_n dX3_put_39 rfl ?_
        refine g_getr (r2 := 59) dX3_put_40 fX3_11 rfl rfl ?_
        refine g_iload_n dX3_put_43 rfl ?_
        refine g_iload_n dX3_put_44 rfl ?_
        refine h_iast (x2.toNatClampNeg) dX3_put_45 rfl rfl v1 rfl ?_
        refine g_aload_n dX3_put_46 rfl ?_
        refine g_dup_r dX3_put_47 ?_
        refine h_geti (μ.1 58 2) dX3_put_48 fX3_25 rfl rfl rfl ?_
        refine g_iconst 1 dX3_put_51 (by decide) ?_
        refine g_iadd dX3_put_52 ?_
        refine g_puti dX3_put_53 fX3_25 rfl rfl rfl rfl ?_
        exact g_vret dX3_put_56 rfl h
    · have h := h.2 q
      exact g_vret dX3_put_27 rfl h
