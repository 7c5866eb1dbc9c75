-- SEGMENTS of X1,J6 (printed by wip/whole/walker.py)
set_option maxRecDepth 20000 in
theorem eJ6_bitCount_0f7a4 {d : Nat} {Q : Option sAV → sM → Prop} {μ : sM} {a0 : Int32} (h : Q (some (sI ((((((((a0 - ((s_us a0 (1 : Int32)) &&& 1431655765)) &&& 858993459) + ((s_us (a0 - ((s_us a0 (1 : Int32)) &&& 1431655765)) (2 : Int32)) &&& 858993459)) + (s_us (((a0 - ((s_us a0 (1 : Int32)) &&& 1431655765)) &&& 858993459) + ((s_us (a0 - ((s_us a0 (1 : Int32)) &&& 1431655765)) (2 : Int32)) &&& 858993459)) (4 : Int32))) &&& 252645135) + (s_us (((((a0 - ((s_us a0 (1 : Int32)) &&& 1431655765)) &&& 858993459) + ((s_us (a0 - ((s_us a0 (1 : Int32)) &&& 1431655765)) (2 : Int32)) &&& 858993459)) + (s_us (((a0 - ((s_us a0 (1 : Int32)) &&& 1431655765)) &&& 858993459) + ((s_us (a0 - ((s_us a0 (1 : Int32)) &&& 1431655765)) (2 : Int32)) &&& 858993459)) (4 : Int32))) &&& 252645135) (8 : Int32))) + (s_us ((((((a0 - ((s_us a0 (1 : Int32)) &&& 1431655765)) &&& 858993459) + ((s_us (a0 - ((s_us a0 (1 : Int32)) &&& 1431655765)) (2 : Int32)) &&& 858993459)) + (s_us (((a0 - ((s_us a0 (1 : Int32)) &&& 1431655765)) &&& 858993459) + ((s_us (a0 - ((s_us a0 (1 : Int32)) &&& 1431655765)) (2 : Int32)) &&& 858993459)) (4 : Int32))) &&& 252645135) + (s_us (((((a0 - ((s_us a0 (1 : Int32)) &&& 1431655765)) &&& 858993459) + ((s_us (a0 - ((s_us a0 (1 : Int32)) &&& 1431655765)) (2 : Int32)) &&& 858993459)) + (s_us (((a0 - ((s_us a0 (1 : Int32)) &&& 1431655765)) &&& 858993459) + ((s_us (a0 - ((s_us a0 (1 : Int32)) &&& 1431655765)) (2 : Int32)) &&& 858993459)) (4 : Int32))) &&& 252645135) (8 : Int32))) (16 : Int32))) &&& 63))) μ) : sCl sLL mJ6_bitCount_0f7a4 d [sI a0] μ Q := by
  refine sG.loc (al2 := [some (sI a0)]) (s_le_s s_le_0) ?_
  refine g_iload_n dJ6_bitCount_0f7a4_0 rfl ?_
  refine g_iload_n dJ6_bitCount_0f7a4_1 rfl ?_
  refine g_iconst 1 dJ6_bitCount_0f7a4_2 (by decide) ?_
  refine h_iushr dJ6_bitCount_0f7a4_3 ?_
  refine g_ldcw dJ6_bitCount_0f7a4_4 qJ6_265 ?_
  refine g_iand dJ6_bitCount_0f7a4_7 ?_
  refine g_isub dJ6_bitCount_0f7a4_8 ?_
  refine g_istore_n [some (sI (a0 - ((s_us a0 (1 : Int32)) &&& 1431655765)))] dJ6_bitCount_0f7a4_9 rfl (by decide) rfl ?_
  refine g_iload_n dJ6_bitCount_0f7a4_10 rfl ?_
  refine g_ldcw dJ6_bitCount_0f7a4_11 qJ6_266 ?_
  refine g_iand dJ6_bitCount_0f7a4_14 ?_
  refine g_iload_n dJ6_bitCount_0f7a4_15 rfl ?_
  refine g_iconst 2 dJ6_bitCount_0f7a4_16 (by decide) ?_
  refine h_iushr dJ6_bitCount_0f7a4_17 ?_
  refine g_ldcw dJ6_bitCount_0f7a4_18 qJ6_266 ?_
  refine g_iand dJ6_bitCount_0f7a4_21 ?_
  refine g_iadd dJ6_bitCount_0f7a4_22 ?_
  refine g_istore_n [some (sI (((a0 - ((s_us a0 (1 : Int32)) &&& 1431655765)) &&& 858993459) + ((s_us (a0 - ((s_us a0 (1 : Int32)) &&& 1431655765)) (2 : Int32)) &&& 858993459)))] dJ6_bitCount_0f7a4_23 rfl (by decide) rfl ?_
  refine g_iload_n dJ6_bitCount_0f7a4_24 rfl ?_
  refine g_iload_n dJ6_bitCount_0f7a4_25 rfl ?_
  refine g_iconst 4 dJ6_bitCount_0f7a4_26 (by decide) ?_
  refine h_iushr dJ6_bitCount_0f7a4_27 ?_
  refine g_iadd dJ6_bitCount_0f7a4_28 ?_
  refine g_ldcw dJ6_bitCount_0f7a4_29 qJ6_267 ?_
  refine g_iand dJ6_bitCount_0f7a4_32 ?_
  refine g_istore_n [some (sI (((((a0 - ((s_us a0 (1 : Int32)) &&& 1431655765)) &&& 858993459) + ((s_us (a0 - ((s_us a0 (1 : Int32)) &&& 1431655765)) (2 : Int32)) &&& 858993459)) + (s_us (((a0 - ((s_us a0 (1 : Int32)) &&& 1431655765)) &&& 858993459) + ((s_us (a0 - ((s_us a0 (1 : Int32)) &&& 1431655765)) (2 : Int32)) &&& 858993459)) (4 : Int32))) &&& 252645135))] dJ6_bitCount_0f7a4_33 rfl (by decide) rfl ?_
  refine g_iload_n dJ6_bitCount_0f7a4_34 rfl ?_
  refine g_iload_n dJ6_bitCount_0f7a4_35 rfl ?_
  refine g_bipush 8 dJ6_bitCount_0f7a4_36 (by decide) ?_
  refine h_iushr dJ6_bitCount_0f7a4_38 ?_
  refine g_iadd dJ6_bitCount_0f7a4_39 ?_
  refine g_istore_n [some (sI ((((((a0 - ((s_us a0 (1 : Int32)) &&& 1431655765)) &&& 858993459) + ((s_us (a0 - ((s_us a0 (1 : Int32)) &&& 1431655765)) (2 : Int32)) &&& 858993459)) + (s_us (((a0 - ((s_us a0 (1 : Int32)) &&& 1431655765)) &&& 858993459) + ((s_us (a0 - ((s_us a0 (1 : Int32)) &&& 1431655765)) (2 : Int32)) &&& 858993459)) (4 : Int32))) &&& 252645135) + (s_us (((((a0 - ((s_us a0 (1 : Int32)) &&& 1431655765)) &&& 858993459) + ((s_us (a0 - ((s_us a0 (1 : Int32)) &&& 1431655765)) (2 : Int32)) &&& 858993459)) + (s_us (((a0 - ((s_us a0 (1 : Int32)) &&& 1431655765)) &&& 858993459) + ((s_us (a0 - ((s_us a0 (1 : Int32)) &&& 1431655765)) (2 : Int32)) &&& 858993459)) (4 : Int32))) &&& 252645135) (8 : Int32))))] dJ6_bitCount_0f7a4_40 rfl (by decide) rfl ?_
  refine g_iload_n dJ6_bitCount_0f7a4_41 rfl ?_
  refine g_iload_n dJ6_bitCount_0f7a4_42 rfl ?_
  refine g_bipush 16 dJ6_bitCount_0f7a4_43 (by decide) ?_
  refine h_iushr dJ6_bitCount_0f7a4_45 ?_
  refine g_iadd dJ6_bitCount_0f7a4_46 ?_
  refine g_istore_n [some (sI (((((((a0 - ((s_us a0 (1 : Int32)) &&& 1431655765)) &&& 858993459) + ((s_us (a0 - ((s_us a0 (1 : Int32)) &&& 1431655765)) (2 : Int32)) &&& 858993459)) + (s_us (((a0 - ((s_us a0 (1 : Int32)) &&& 1431655765)) &&& 858993459) + ((s_us (a0 - ((s_us a0 (1 : Int32)) &&& 1431655765)) (2 : Int32)) &&& 858993459)) (4 : Int32))) &&& 252645135) + (s_us (((((a0 - ((s_us a0 (1 : Int32)) &&& 1431655765)) &&& 858993459) + ((s_us (a0 - ((s_us a0 (1 : Int32)) &&& 1431655765)) (2 : Int32)) &&& 858993459)) + (s_us (((a0 - ((s_us a0 (1 : Int32)) &&& 1431655765)) &&& 858993459) + ((s_us (a0 - ((s_us a0 (1 : Int32)) &&& 1431655765)) (2 : Int32)) &&& 858993459)) (4 : Int32))) &&& 252645135) (8 : Int32))) + (s_us ((((((a0 - ((s_us a0 (1 : Int32)) &&& 1431655765)) &&& 858993459) + ((s_us (a0 - ((s_us a0 (1 : Int32)) &&& 1431655765)) (2 : Int32)) &&& 858993459)) + (s_us (((a0 - ((s_us a0 (1 : Int32)) &&& 1431655765)) &&& 858993459) + ((s_us (a0 - ((s_us a0 (1 : Int32)) &&& 1431655765)) (2 : Int32)) &&& 858993459)) (4 : Int32))) &&& 252645135) + (s_us (((((a0 - ((s_us a0 (1 : Int32)) &&& 1431655765)) &&& 858993459) + ((s_us (a0 - ((s_us a0 (1 : Int32)) &&& 1431655765)) (2 : Int32)) &&& 858993459)) + (s_us (((a0 - ((s_us a0 (1 : Int32)) &&& 1431655765)) &&& 858993459) + ((s_us (a0 - ((s_us a0 (1 : Int32)) &&& 1431655765)) (2 : Int32)) &&& 858993459)) (4 : Int32))) &&& 252645135) (8 : Int32))) (16 : Int32))))] dJ6_bitCount_0f7a4_47 rfl (by decide) rfl ?_
  refine g_iload_n dJ6_bitCount_0f7a4_48 rfl ?_
  refine g_bipush 63 dJ6_bitCount_0f7a4_49 (by decide) ?_
  refine g_iand dJ6_bitCount_0f7a4_51 ?_
  exact g_iret dJ6_bitCount_0f7a4_52 rfl rfl h
set_option maxRecDepth 20000 in
theorem eX1_begin {d : Nat} {Q : Option sAV → sM → Prop} {μ : sM} (h : Q none (s_u (s_u (s_cp μ 6 36 7) 35 2 (μ.1 1 1)) 35 3 (-6))) : sCl sLL mX1_begin (d + 1) [sR 35] μ Q := by
  refine sG.loc (al2 := [some (sR 35)]) (s_le_s s_le_0) ?_
  refine g_aload_n dX1_begin_0 rfl ?_
  refine g_getr (r2 := 1) dX1_begin_1 fX1_15 rfl rfl ?_
  refine g_getr (r2 := 6) dX1_begin_4 fX1_19 rfl rfl ?_
  refine g_iconst 0 dX1_begin_7 (by decide) ?_
  refine g_aload_n dX1_begin_8 rfl ?_
  refine g_getr (r2 := 36) dX1_begin_9 fX1_9 rfl rfl ?_
  refine g_iconst 0 dX1_begin_12 (by decide) ?_
  refine g_bipush 7 dX1_begin_13 (by decide) ?_
  refine h_copy dX1_begin_15 lX1_22 rfl rfl rfl rfl (by decide) (Nat.le_of_ble_eq_true rfl) (Nat.le_of_ble_eq_true rfl) ?_
  refine g_aload_n dX1_begin_18 rfl ?_
  refine g_aload_n dX1_begin_19 rfl ?_
  refine g_getr (r2 := 1) dX1_begin_20 fX1_15 rfl rfl ?_
  refine h_geti (μ.1 1 1) dX1_begin_23 fX1_28 rfl rfl rfl ?_
  refine g_puti dX1_begin_26 fX1_32 rfl rfl rfl rfl ?_
  refine g_aload_n dX1_begin_29 rfl ?_
  refine g_bipush (-6) dX1_begin_30 (by decide) ?_
  refine g_puti dX1_begin_32 fX1_33 rfl rfl rfl rfl ?_
  exact g_vret dX1_begin_35 rfl h
set_option maxRecDepth 20000 in
theorem eX1_choice {d : Nat} {Q : Option sAV → sM → Prop} {μ : sM} {a1 : Int32} (h : sG sLL mX1_choice (d + 1) Q 8 [some (sR 35), some (sI a1), some (sI (-6)), some (sI 0), some (sI 0), none] [] μ) : sCl sLL mX1_choice (d + 1) [sR 35, sI a1] μ Q := by
  refine sG.loc (al2 := [some (sR 35), some (sI a1), none, none, none, none]) (s_le_s (s_le_s (s_le_p (s_le_p (s_le_p (s_le_p s_le_0)))))) ?_
  refine g_bipush (-6) dX1_choice_0 (by decide) ?_
  refine g_istore_n [some (sR 35), some (sI a1), some (sI (-6)), none, none, none] dX1_choice_2 rfl (by decide) rfl ?_
  refine g_iconst 0 dX1_choice_3 (by decide) ?_
  refine g_istore_n [some (sR 35), some (sI a1), some (sI (-6)), some (sI 0), none, none] dX1_choice_4 rfl (by decide) rfl ?_
  refine g_iconst 0 dX1_choice_5 (by decide) ?_
  refine g_istore [some (sR 35), some (sI a1), some (sI (-6)), some (sI 0), some (sI 0), none] dX1_choice_6 (by decide) rfl ?_
  exact sG.loc (s_le_s (s_le_s (s_le_s (s_le_s (s_le_s (s_le_n s_le_0)))))) h
set_option maxRecDepth 20000 in
theorem sX1_choice_8 {d : Nat} {Q : Option sAV → sM → Prop} {μ : sM} {x1 : Int32} {x2 : Int32} {x3 : Int32} {x4 : Int32} (h : (((μ.1 1 0) ≤ x4 → Q (some (sI x2)) μ) ∧ (¬ (μ.1 1 0) ≤ x4 → (((((μ.1 35 2) >>> (x4 &&& 31)) &&& 1) = 1 → sG sLL mX1_choice (d + 1) Q 8 [some (sR 35), some (sI x1), some (sI x2), some (sI x3), some (sI (x4 + 1)), none] [] μ) ∧ (¬ (((μ.1 35 2) >>> (x4 &&& 31)) &&& 1) = 1 → (vp_in x4 7 ∧ ((¬ (μ.1 36 x4.toNatClampNeg) = 0 → sCl sLL mX1_rank d [sR 35, sI x1, sI x4] μ (kI fun r1 μ1 => ((x2 = (-6) → sG sLL mX1_choice (d + 1) Q 8 [some (sR 35), some (sI x1), some (sI x4), some (sI r1), some (sI (x4 + 1)), none] [] μ1) ∧ (¬ x2 = (-6) → ((x3 ≤ r1 → sG sLL mX1_choice (d + 1) Q 8 [some (sR 35), some (sI x1), some (sI x2), some (sI x3), some (sI (x4 + 1)), none] [] μ1) ∧ (¬ x3 ≤ r1 → sG sLL mX1_choice (d + 1) Q 8 [some (sR 35), some (sI x1), some (sI x4), some (sI r1), some (sI (x4 + 1)), none] [] μ1)))))) ∧ ((μ.1 36 x4.toNatClampNeg) = 0 → sG sLL mX1_choice (d + 1) Q 8 [some (sR 35), some (sI x1), some (sI x2), some (sI x3), some (sI (x4 + 1)), none] [] μ)))))))) : sG sLL mX1_choice (d + 1) Q 8 [some (sR 35), some (sI x1), some (sI x2), some (sI x3), some (sI x4), none] [] μ := by
  refine g_iload dX1_choice_8 rfl ?_
  refine g_aload_n dX1_choice_10 rfl ?_
  refine g_getr (r2 := 1) dX1_choice_11 fX1_15 rfl rfl ?_
  refine h_geti (μ.1 1 0) dX1_choice_14 fX1_36 rfl rfl rfl ?_
  refine g_icmp_ge 79 dX1_choice_17 (by decide) (fun q => ?_) (fun q => ?_)
  · have h := h.1 q
    refine g_iload_n dX1_choice_79 rfl ?_
    exact g_iret dX1_choice_80 rfl rfl h
  · have h := h.2 q
    refine g_aload_n dX1_choice_20 rfl ?_
    refine h_geti (μ.1 35 2) dX1_choice_21 fX1_32 rfl rfl rfl ?_
    refine g_iload dX1_choice_24 rfl ?_
    refine g_ishr dX1_choice_26 ?_
    refine g_iconst 1 dX1_choice_27 (by decide) ?_
    refine g_iand dX1_choice_28 ?_
    refine g_iconst 1 dX1_choice_29 (by decide) ?_
    refine g_icmp_eq 73 dX1_choice_30 (by decide) (fun q => ?_) (fun q => ?_)
    · have h := h.1 q
      refine g_iinc (x4 + 1) [some (sR 35), some (sI x1), some (sI x2), some (sI x3), some (sI (x4 + 1)), none] dX1_choice_73 rfl rfl (by decide) rfl ?_
      refine g_goto 8 dX1_choice_76 (by decide) ?_
      exact sG.loc (s_le_s (s_le_s (s_le_s (s_le_s (s_le_s (s_le_n s_le_0)))))) h
    · have h := h.2 q
      refine g_aload_n dX1_choice_33 rfl ?_
      refine g_getr (r2 := 36) dX1_choice_34 fX1_9 rfl rfl ?_
      refine g_iload dX1_choice_37 rfl ?_
      obtain ⟨v1, h⟩ := h
      refine h_iald (μ.1 36 x4.toNatClampNeg) dX1_choice_39 rfl rfl v1 rfl ?_
      refine g_if_ne 46 dX1_choice_40 (by decide) (fun q => ?_) (fun q => ?_)
      · have h := h.1 q
        refine g_aload_n dX1_choice_46 rfl ?_
        refine g_iload_n dX1_choice_47 rfl ?_
        refine g_iload dX1_choice_48 rfl ?_
        refine g_callVi (mi2 := mX1_rank) (r := 35) (st := []) [sI x1, sI x4] dX1_choice_50 lX1_39 kX1_rank vX1_rank rfl rfl rfl (Nat.le_of_ble_eq_true rfl) (Nat.le_of_ble_eq_true rfl) (Nat.le_of_ble_eq_true rfl) rfl ?_
        refine sG.mono h (kI_mono fun r1 μ1 h => ?_)
        refine g_istore [some (sR 35), some (sI x1), some (sI x2), some (sI x3), some (sI x4), some (sI r1)] dX1_choice_53 (by decide) rfl ?_
        refine g_iload_n dX1_choice_55 rfl ?_
        refine g_bipush (-6) dX1_choice_56 (by decide) ?_
        refine g_icmp_eq 67 dX1_choice_58 (by decide) (fun q => ?_) (fun q => ?_)
        · have h := h.1 q
          refine g_iload dX1_choice_67 rfl ?_
          refine g_istore_n [some (sR 35), some (sI x1), some (sI x4), some (sI x3), some (sI x4), some (sI r1)] dX1_choice_69 rfl (by decide) rfl ?_
          refine g_iload dX1_choice_70 rfl ?_
          refine g_istore_n [some (sR 35), some (sI x1), some (sI x4), some (sI r1), some (sI x4), some (sI r1)] dX1_choice_72 rfl (by decide) rfl ?_
          refine g_iinc (x4 + 1) [some (sR 35), some (sI x1), some (sI x4), some (sI r1), some (sI (x4 + 1)), some (sI r1)] dX1_choice_73 rfl rfl (by decide) rfl ?_
          refine g_goto 8 dX1_choice_76 (by decide) ?_
          exact sG.loc (s_le_s (s_le_s (s_le_s (s_le_s (s_le_s (s_le_n s_le_0)))))) h
        · have h := h.2 q
          refine g_iload dX1_choice_61 rfl ?_
          refine g_iload_n dX1_choice_63 rfl ?_
          refine g_icmp_ge 73 dX1_choice_64 (by decide) (fun q => ?_) (fun q => ?_)
          · have h := h.1 q
            refine g_iinc (x4 + 1) [some (sR 35), some (sI x1), some (sI x2), some (sI x3), some (sI (x4 + 1)), some (sI r1)] dX1_choice_73 rfl rfl (by decide) rfl ?_
            refine g_goto 8 dX1_choice_76 (by decide) ?_
            exact sG.loc (s_le_s (s_le_s (s_le_s (s_le_s (s_le_s (s_le_n s_le_0)))))) h
          · have h := h.2 q
            refine g_iload dX1_choice_67 rfl ?_
            refine g_istore_n [some (sR 35), some (sI x1), some (sI x4), some (sI x3), some (sI x4), some (sI r1)] dX1_choice_69 rfl (by decide) rfl ?_
            refine g_iload dX1_choice_70 rfl ?_
            refine g_istore_n [some (sR 35), some (sI x1), some (sI x4), some (sI r1), some (sI x4), some (sI r1)] dX1_choice_72 rfl (by decide) rfl ?_
            refine g_iinc (x4 + 1) [some (sR 35), some (sI x1), some (sI x4), some (sI r1), some (sI (x4 + 1)), some (sI r1)] dX1_choice_73 rfl rfl (by decide) rfl ?_
            refine g_goto 8 dX1_choice_76 (by decide) ?_
            exact sG.loc (s_le_s (s_le_s (s_le_s (s_le_s (s_le_s (s_le_n s_le_0)))))) h
      · have h := h.2 q
        refine g_goto 73 dX1_choice_43 (by decide) ?_
        refine g_iinc (x4 + 1) [some (sR 35), some (sI x1), some (sI x2), some (sI x3), some (sI (x4 + 1)), none] dX1_choice_73 rfl rfl (by decide) rfl ?_
        refine g_goto 8 dX1_choice_76 (by decide) ?_
        exact sG.loc (s_le_s (s_le_s (s_le_s (s_le_s (s_le_s (s_le_n s_le_0)))))) h
set_option maxRecDepth 20000 in
theorem eX1_rank {d : Nat} {Q : Option sAV → sM → Prop} {μ : sM} {a1 : Int32} {a2 : Int32} (h : (vp_in a1 4 ∧ (((μ.1 11 a1.toNatClampNeg) = 0 → (vp_in a2 7 ∧ Q (some (sI (if 0 ≤ ((μ.1 4 a2.toNatClampNeg) - (μ.1 9 a1.toNatClampNeg)) then ((μ.1 4 a2.toNatClampNeg) - (μ.1 9 a1.toNatClampNeg)) else 0 - ((μ.1 4 a2.toNatClampNeg) - (μ.1 9 a1.toNatClampNeg))))) μ)) ∧ (¬ (μ.1 11 a1.toNatClampNeg) = 0 → (((μ.1 11 a1.toNatClampNeg) = 1 → (vp_in a2 7 ∧ Q (some (sI (-(μ.1 36 a2.toNatClampNeg)))) μ)) ∧ (¬ (μ.1 11 a1.toNatClampNeg) = 1 → (((μ.1 11 a1.toNatClampNeg) = 2 → ((a2 ≤ (μ.1 35 3) → Q (some (sI (a2 + 7))) μ) ∧ (¬ a2 ≤ (μ.1 35 3) → Q (some (sI a2)) μ))) ∧ (¬ (μ.1 11 a1.toNatClampNeg) = 2 → (vp_in a2 7 ∧ (((μ.1 36 a2.toNatClampNeg) < (μ.1 10 a1.toNatClampNeg) → Q (some (sI 1)) μ) ∧ (¬ (μ.1 36 a2.toNatClampNeg) < (μ.1 10 a1.toNatClampNeg) → Q (some (sI 0)) μ))))))))))) : sCl sLL mX1_rank (d + 1) [sR 35, sI a1, sI a2] μ Q := by
  refine sG.loc (al2 := [some (sR 35), some (sI a1), some (sI a2)]) (s_le_s (s_le_s (s_le_s s_le_0))) ?_
  refine g_aload_n dX1_rank_0 rfl ?_
  refine g_getr (r2 := 1) dX1_rank_1 fX1_15 rfl rfl ?_
  refine g_getr (r2 := 11) dX1_rank_4 fX1_43 rfl rfl ?_
  refine g_iload_n dX1_rank_7 rfl ?_
  obtain ⟨v1, h⟩ := h
  refine h_iald (μ.1 11 a1.toNatClampNeg) dX1_rank_8 rfl rfl v1 rfl ?_
  by_cases q0 : (μ.1 11 a1.toNatClampNeg) = 0
  · have h := h.1 q0
    refine g_tin 36 0 dX1_rank_9 (by rw [q0]; decide) (by decide) rfl (by decide) ?_
    refine g_aload_n dX1_rank_36 rfl ?_
    refine g_getr (r2 := 1) dX1_rank_37 fX1_15 rfl rfl ?_
    refine g_getr (r2 := 4) dX1_rank_40 fX1_46 rfl rfl ?_
    refine g_iload_n dX1_rank_43 rfl ?_
    obtain ⟨v2, h⟩ := h
    refine h_iald (μ.1 4 a2.toNatClampNeg) dX1_rank_44 rfl rfl v2 rfl ?_
    refine g_aload_n dX1_rank_45 rfl ?_
    refine g_getr (r2 := 1) dX1_rank_46 fX1_15 rfl rfl ?_
    refine g_getr (r2 := 9) dX1_rank_49 fX1_49 rfl rfl ?_
    refine g_iload_n dX1_rank_52 rfl ?_
    refine h_iald (μ.1 9 a1.toNatClampNeg) dX1_rank_53 rfl rfl v1 rfl ?_
    refine g_isub dX1_rank_54 ?_
    refine g_mabs dX1_rank_55 lX1_52 (Nat.le_of_ble_eq_true rfl) ?_
    exact g_iret dX1_rank_58 rfl rfl h
  · have h := h.2 q0
    by_cases q1 : (μ.1 11 a1.toNatClampNeg) = 1
    · have h := h.1 q1
      refine g_tin 59 1 dX1_rank_9 (by rw [q1]; decide) (by decide) rfl (by decide) ?_
      refine g_aload_n dX1_rank_59 rfl ?_
      refine g_getr (r2 := 36) dX1_rank_60 fX1_9 rfl rfl ?_
      refine g_iload_n dX1_rank_63 rfl ?_
      obtain ⟨v2, h⟩ := h
      refine h_iald (μ.1 36 a2.toNatClampNeg) dX1_rank_64 rfl rfl v2 rfl ?_
      refine g_ineg dX1_rank_65 ?_
      exact g_iret dX1_rank_66 rfl rfl h
    · have h := h.2 q1
      by_cases q2 : (μ.1 11 a1.toNatClampNeg) = 2
      · have h := h.1 q2
        refine g_tin 67 2 dX1_rank_9 (by rw [q2]; decide) (by decide) rfl (by decide) ?_
        refine g_iload_n dX1_rank_67 rfl ?_
        refine g_aload_n dX1_rank_68 rfl ?_
        refine h_geti (μ.1 35 3) dX1_rank_69 fX1_33 rfl rfl rfl ?_
        refine g_icmp_le 79 dX1_rank_72 (by decide) (fun q => ?_) (fun q => ?_)
        · have h := h.1 q
          refine g_iload_n dX1_rank_79 rfl ?_
          refine g_bipush 7 dX1_rank_80 (by decide) ?_
          refine g_iadd dX1_rank_82 ?_
          exact g_iret dX1_rank_83 rfl rfl h
        · have h := h.2 q
          refine g_iload_n dX1_rank_75 rfl ?_
          refine g_goto 83 dX1_rank_76 (by decide) ?_
          exact g_iret dX1_rank_83 rfl rfl h
      · have h := h.2 q2
        have n0 := lv_neT (a := 0) q0 (by decide)
        have n1 := lv_neT (a := 1) q1 (by decide)
        have n2 := lv_neT (a := 2) q2 (by decide)
        refine g_tout 84 dX1_rank_9 (by omega) (by decide) ?_
        refine g_aload_n dX1_rank_84 rfl ?_
        refine g_getr (r2 := 36) dX1_rank_85 fX1_9 rfl rfl ?_
        refine g_iload_n dX1_rank_88 rfl ?_
        obtain ⟨v2, h⟩ := h
        refine h_iald (μ.1 36 a2.toNatClampNeg) dX1_rank_89 rfl rfl v2 rfl ?_
        refine g_aload_n dX1_rank_90 rfl ?_
        refine g_getr (r2 := 1) dX1_rank_91 fX1_15 rfl rfl ?_
        refine g_getr (r2 := 10) dX1_rank_94 fX1_58 rfl rfl ?_
        refine g_iload_n dX1_rank_97 rfl ?_
        refine h_iald (μ.1 10 a1.toNatClampNeg) dX1_rank_98 rfl rfl v1 rfl ?_
        refine g_icmp_lt 106 dX1_rank_99 (by decide) (fun q => ?_) (fun q => ?_)
        · have h := h.1 q
          refine g_iconst 1 dX1_rank_106 (by decide) ?_
          exact g_iret dX1_rank_107 rfl rfl h
        · have h := h.2 q
          refine g_iconst 0 dX1_rank_102 (by decide) ?_
          refine g_goto 107 dX1_rank_103 (by decide) ?_
          exact g_iret dX1_rank_107 rfl rfl h
set_option maxRecDepth 20000 in
theorem eX1_use {d : Nat} {Q : Option sAV → sM → Prop} {μ : sM} {a1 : Int32} {a2 : Int32} (h : sCl sLL mX1_bite d [sR 35, sI a1, sI a2] μ (kI fun r1 μ1 => (vp_in a2 7 ∧ Q (some (sI r1)) (s_u (s_u μ1 36 (a2.toNatClampNeg) ((μ1.1 36 a2.toNatClampNeg) - r1)) 35 3 a2)))) : sCl sLL mX1_use (d + 1) [sR 35, sI a1, sI a2] μ Q := by
  refine sG.loc (al2 := [some (sR 35), some (sI a1), some (sI a2), none]) (s_le_s (s_le_s (s_le_s (s_le_p s_le_0)))) ?_
  refine g_aload_n dX1_use_0 rfl ?_
  refine g_iload_n dX1_use_1 rfl ?_
  refine g_iload_n dX1_use_2 rfl ?_
  refine g_callVi (mi2 := mX1_bite) (r := 35) (st := []) [sI a1, sI a2] dX1_use_3 lX1_61 kX1_bite vX1_bite rfl rfl rfl (Nat.le_of_ble_eq_true rfl) (Nat.le_of_ble_eq_true rfl) (Nat.le_of_ble_eq_true rfl) rfl ?_
  refine sG.mono h (kI_mono fun r1 μ1 h => ?_)
  refine g_istore_n [some (sR 35), some (sI a1), some (sI a2), some (sI r1)] dX1_use_6 rfl (by decide) rfl ?_
  refine g_aload_n dX1_use_7 rfl ?_
  refine g_getr (r2 := 36) dX1_use_8 fX1_9 rfl rfl ?_
  refine g_iload_n dX1_use_11 rfl ?_
  refine g_dup2 dX1_use_12 ?_
  obtain ⟨v1, h⟩ := h
  refine h_iald (μ1.1 36 a2.toNatClampNeg) dX1_use_13 rfl rfl v1 rfl ?_
  refine g_iload_n dX1_use_14 rfl ?_
  refine g_isub dX1_use_15 ?_
  refine h_iast (a2.toNatClampNeg) dX1_use_16 rfl rfl v1 rfl ?_
  refine g_aload_n dX1_use_17 rfl ?_
  refine g_iload_n dX1_use_18 rfl ?_
  refine g_puti dX1_use_19 fX1_33 rfl rfl rfl rfl ?_
  refine g_iload_n dX1_use_22 rfl ?_
  exact g_iret dX1_use_23 rfl rfl h
set_option maxRecDepth 20000 in
theorem eX1_bite {d : Nat} {Q : Option sAV → sM → Prop} {μ : sM} {a1 : Int32} {a2 : Int32} (h : (vp_in a1 4 ∧ (vp_in a2 7 ∧ Q (some (sI (if (μ.1 36 a2.toNatClampNeg) < (μ.1 10 a1.toNatClampNeg) then (μ.1 36 a2.toNatClampNeg) else (μ.1 10 a1.toNatClampNeg)))) μ))) : sCl sLL mX1_bite (d + 1) [sR 35, sI a1, sI a2] μ Q := by
  refine sG.loc (al2 := [some (sR 35), some (sI a1), some (sI a2)]) (s_le_s (s_le_s (s_le_s s_le_0))) ?_
  refine g_aload_n dX1_bite_0 rfl ?_
  refine g_getr (r2 := 1) dX1_bite_1 fX1_15 rfl rfl ?_
  refine g_getr (r2 := 10) dX1_bite_4 fX1_58 rfl rfl ?_
  refine g_iload_n dX1_bite_7 rfl ?_
  obtain ⟨v1, h⟩ := h
  refine h_iald (μ.1 10 a1.toNatClampNeg) dX1_bite_8 rfl rfl v1 rfl ?_
  refine g_aload_n dX1_bite_9 rfl ?_
  refine g_getr (r2 := 36) dX1_bite_10 fX1_9 rfl rfl ?_
  refine g_iload_n dX1_bite_13 rfl ?_
  obtain ⟨v2, h⟩ := h
  refine h_iald (μ.1 36 a2.toNatClampNeg) dX1_bite_14 rfl rfl v2 rfl ?_
  refine g_mmin dX1_bite_15 lX1_64 (Nat.le_of_ble_eq_true rfl) ?_
  exact g_iret dX1_bite_18 rfl rfl h
set_option maxRecDepth 20000 in
theorem eX1_stillToEata {d : Nat} {Q : Option sAV → sM → Prop} {μ : sM} (h : sG sLL mX1_stillToEat d Q 4 [some (sR 35), some (sR 44), some (sI 0), some (sI 0)] [] μ) : sCl sLL mX1_stillToEat d [sR 35, sR 44] μ Q := by
  refine sG.loc (al2 := [some (sR 35), some (sR 44), none, none]) (s_le_s (s_le_s (s_le_p (s_le_p s_le_0)))) ?_
  refine g_iconst 0 dX1_stillToEat_0 (by decide) ?_
  refine g_istore_n [some (sR 35), some (sR 44), some (sI 0), none] dX1_stillToEat_1 rfl (by decide) rfl ?_
  refine g_iconst 0 dX1_stillToEat_2 (by decide) ?_
  refine g_istore_n [some (sR 35), some (sR 44), some (sI 0), some (sI 0)] dX1_stillToEat_3 rfl (by decide) rfl ?_
  exact sG.loc (s_le_s (s_le_s (s_le_s (s_le_s s_le_0)))) h
set_option maxRecDepth 20000 in
theorem sX1_stillToEata_4 {d : Nat} {Q : Option sAV → sM → Prop} {μ : sM} {x2 : Int32} {x3 : Int32} (h : (((μ.1 1 0) ≤ x3 → Q (some (sI x2)) μ) ∧ (¬ (μ.1 1 0) ≤ x3 → (vp_in x3 7 ∧ ((¬ (μ.1 44 x3.toNatClampNeg) = (-6) → (((μ.1 44 x3.toNatClampNeg) ≤ (μ.1 36 x3.toNatClampNeg) → sG sLL mX1_stillToEat d Q 4 [some (sR 35), some (sR 44), some (sI (x2 + ((μ.1 36 x3.toNatClampNeg) - (μ.1 44 x3.toNatClampNeg)))), some (sI (x3 + 1))] [] μ) ∧ (¬ (μ.1 44 x3.toNatClampNeg) ≤ (μ.1 36 x3.toNatClampNeg) → Q (some (sI (-6))) μ))) ∧ ((μ.1 44 x3.toNatClampNeg) = (-6) → sG sLL mX1_stillToEat d Q 4 [some (sR 35), some (sR 44), some (sI x2), some (sI (x3 + 1))] [] μ)))))) : sG sLL mX1_stillToEat d Q 4 [some (sR 35), some (sR 44), some (sI x2), some (sI x3)] [] μ := by
  refine g_iload_n dX1_stillToEat_4 rfl ?_
  refine g_aload_n dX1_stillToEat_5 rfl ?_
  refine g_getr (r2 := 1) dX1_stillToEat_6 fX1_15 rfl rfl ?_
  refine h_geti (μ.1 1 0) dX1_stillToEat_9 fX1_36 rfl rfl rfl ?_
  refine g_icmp_ge 60 dX1_stillToEat_12 (by decide) (fun q => ?_) (fun q => ?_)
  · have h := h.1 q
    refine g_iload_n dX1_stillToEat_60 rfl ?_
    exact g_iret dX1_stillToEat_61 rfl rfl h
  · have h := h.2 q
    refine g_aload_n dX1_stillToEat_15 rfl ?_
    refine g_iload_n dX1_stillToEat_16 rfl ?_
    obtain ⟨v1, h⟩ := h
    refine h_iald (μ.1 44 x3.toNatClampNeg) dX1_stillToEat_17 rfl rfl v1 rfl ?_
    refine g_bipush (-6) dX1_stillToEat_18 (by decide) ?_
    refine g_icmp_ne 26 dX1_stillToEat_20 (by decide) (fun q => ?_) (fun q => ?_)
    · have h := h.1 q
      refine g_aload_n dX1_stillToEat_26 rfl ?_
      refine g_getr (r2 := 36) dX1_stillToEat_27 fX1_9 rfl rfl ?_
      refine g_iload_n dX1_stillToEat_30 rfl ?_
      refine h_iald (μ.1 36 x3.toNatClampNeg) dX1_stillToEat_31 rfl rfl v1 rfl ?_
      refine g_aload_n dX1_stillToEat_32 rfl ?_
      refine g_iload_n dX1_stillToEat_33 rfl ?_
      refine h_iald (μ.1 44 x3.toNatClampNeg) dX1_stillToEat_34 rfl rfl v1 rfl ?_
      refine g_icmp_ge 41 dX1_stillToEat_35 (by decide) (fun q => ?_) (fun q => ?_)
      · have h := h.1 q
        refine g_iload_n dX1_stillToEat_41 rfl ?_
        refine g_aload_n dX1_stillToEat_42 rfl ?_
        refine g_getr (r2 := 36) dX1_stillToEat_43 fX1_9 rfl rfl ?_
        refine g_iload_n dX1_stillToEat_46 rfl ?_
        refine h_iald (μ.1 36 x3.toNatClampNeg) dX1_stillToEat_47 rfl rfl v1 rfl ?_
        refine g_aload_n dX1_stillToEat_48 rfl ?_
        refine g_iload_n dX1_stillToEat_49 rfl ?_
        refine h_iald (μ.1 44 x3.toNatClampNeg) dX1_stillToEat_50 rfl rfl v1 rfl ?_
        refine g_isub dX1_stillToEat_51 ?_
        refine g_iadd dX1_stillToEat_52 ?_
        refine g_istore_n [some (sR 35), some (sR 44), some (sI (x2 + ((μ.1 36 x3.toNatClampNeg) - (μ.1 44 x3.toNatClampNeg)))), some (sI x3)] dX1_stillToEat_53 rfl (by decide) rfl ?_
        refine g_iinc (x3 + 1) [some (sR 35), some (sR 44), some (sI (x2 + ((μ.1 36 x3.toNatClampNeg) - (μ.1 44 x3.toNatClampNeg)))), some (sI (x3 + 1))] dX1_stillToEat_54 rfl rfl (by decide) rfl ?_
        refine g_goto 4 dX1_stillToEat_57 (by decide) ?_
        exact sG.loc (s_le_s (s_le_s (s_le_s (s_le_s s_le_0)))) h
      · have h := h.2 q
        refine g_bipush (-6) dX1_stillToEat_38 (by decide) ?_
        exact g_iret dX1_stillToEat_40 rfl rfl h
    · have h := h.2 q
      refine g_goto 54 dX1_stillToEat_23 (by decide) ?_
      refine g_iinc (x3 + 1) [some (sR 35), some (sR 44), some (sI x2), some (sI (x3 + 1))] dX1_stillToEat_54 rfl rfl (by decide) rfl ?_
      refine g_goto 4 dX1_stillToEat_57 (by decide) ?_
      exact sG.loc (s_le_s (s_le_s (s_le_s (s_le_s s_le_0)))) h
set_option maxRecDepth 20000 in
theorem eX1_stillToEatb {d : Nat} {Q : Option sAV → sM → Prop} {μ : sM} (h : sG sLL mX1_stillToEat d Q 4 [some (sR 35), some (sR 8), some (sI 0), some (sI 0)] [] μ) : sCl sLL mX1_stillToEat d [sR 35, sR 8] μ Q := by
  refine sG.loc (al2 := [some (sR 35), some (sR 8), none, none]) (s_le_s (s_le_s (s_le_p (s_le_p s_le_0)))) ?_
  refine g_iconst 0 dX1_stillToEat_0 (by decide) ?_
  refine g_istore_n [some (sR 35), some (sR 8), some (sI 0), none] dX1_stillToEat_1 rfl (by decide) rfl ?_
  refine g_iconst 0 dX1_stillToEat_2 (by decide) ?_
  refine g_istore_n [some (sR 35), some (sR 8), some (sI 0), some (sI 0)] dX1_stillToEat_3 rfl (by decide) rfl ?_
  exact sG.loc (s_le_s (s_le_s (s_le_s (s_le_s s_le_0)))) h
set_option maxRecDepth 20000 in
theorem sX1_stillToEatb_4 {d : Nat} {Q : Option sAV → sM → Prop} {μ : sM} {x2 : Int32} {x3 : Int32} (h : (((μ.1 1 0) ≤ x3 → Q (some (sI x2)) μ) ∧ (¬ (μ.1 1 0) ≤ x3 → (vp_in x3 7 ∧ ((¬ (μ.1 8 x3.toNatClampNeg) = (-6) → (((μ.1 8 x3.toNatClampNeg) ≤ (μ.1 36 x3.toNatClampNeg) → sG sLL mX1_stillToEat d Q 4 [some (sR 35), some (sR 8), some (sI (x2 + ((μ.1 36 x3.toNatClampNeg) - (μ.1 8 x3.toNatClampNeg)))), some (sI (x3 + 1))] [] μ) ∧ (¬ (μ.1 8 x3.toNatClampNeg) ≤ (μ.1 36 x3.toNatClampNeg) → Q (some (sI (-6))) μ))) ∧ ((μ.1 8 x3.toNatClampNeg) = (-6) → sG sLL mX1_stillToEat d Q 4 [some (sR 35), some (sR 8), some (sI x2), some (sI (x3 + 1))] [] μ)))))) : sG sLL mX1_stillToEat d Q 4 [some (sR 35), some (sR 8), some (sI x2), some (sI x3)] [] μ := by
  refine g_iload_n dX1_stillToEat_4 rfl ?_
  refine g_aload_n dX1_stillToEat_5 rfl ?_
  refine g_getr (r2 := 1) dX1_stillToEat_6 fX1_15 rfl rfl ?_
  refine h_geti (μ.1 1 0) dX1_stillToEat_9 fX1_36 rfl rfl rfl ?_
  refine g_icmp_ge 60 dX1_stillToEat_12 (by decide) (fun q => ?_) (fun q => ?_)
  · have h := h.1 q
    refine g_iload_n dX1_stillToEat_60 rfl ?_
    exact g_iret dX1_stillToEat_61 rfl rfl h
  · have h := h.2 q
    refine g_aload_n dX1_stillToEat_15 rfl ?_
    refine g_iload_n dX1_stillToEat_16 rfl ?_
    obtain ⟨v1, h⟩ := h
    refine h_iald (μ.1 8 x3.toNatClampNeg) dX1_stillToEat_17 rfl rfl v1 rfl ?_
    refine g_bipush (-6) dX1_stillToEat_18 (by decide) ?_
    refine g_icmp_ne 26 dX1_stillToEat_20 (by decide) (fun q => ?_) (fun q => ?_)
    · have h := h.1 q
      refine g_aload_n dX1_stillToEat_26 rfl ?_
      refine g_getr (r2 := 36) dX1_stillToEat_27 fX1_9 rfl rfl ?_
      refine g_iload_n dX1_stillToEat_30 rfl ?_
      refine h_iald (μ.1 36 x3.toNatClampNeg) dX1_stillToEat_31 rfl rfl v1 rfl ?_
      refine g_aload_n dX1_stillToEat_32 rfl ?_
      refine g_iload_n dX1_stillToEat_33 rfl ?_
      refine h_iald (μ.1 8 x3.toNatClampNeg) dX1_stillToEat_34 rfl rfl v1 rfl ?_
      refine g_icmp_ge 41 dX1_stillToEat_35 (by decide) (fun q => ?_) (fun q => ?_)
      · have h := h.1 q
        refine g_iload_n dX1_stillToEat_41 rfl ?_
        refine g_aload_n dX1_stillToEat_42 rfl ?_
        refine g_getr (r2 := 36) dX1_stillToEat_43 fX1_9 rfl rfl ?_
        refine g_iload_n dX1_stillToEat_46 rfl ?_
        refine h_iald (μ.1 36 x3.toNatClampNeg) dX1_stillToEat_47 rfl rfl v1 rfl ?_
        refine g_aload_n dX1_stillToEat_48 rfl ?_
        refine g_iload_n dX1_stillToEat_49 rfl ?_
        refine h_iald (μ.1 8 x3.toNatClampNeg) dX1_stillToEat_50 rfl rfl v1 rfl ?_
        refine g_isub dX1_stillToEat_51 ?_
        refine g_iadd dX1_stillToEat_52 ?_
        refine g_istore_n [some (sR 35), some (sR 8), some (sI (x2 + ((μ.1 36 x3.toNatClampNeg) - (μ.1 8 x3.toNatClampNeg)))), some (sI x3)] dX1_stillToEat_53 rfl (by decide) rfl ?_
        refine g_iinc (x3 + 1) [some (sR 35), some (sR 8), some (sI (x2 + ((μ.1 36 x3.toNatClampNeg) - (μ.1 8 x3.toNatClampNeg)))), some (sI (x3 + 1))] dX1_stillToEat_54 rfl rfl (by decide) rfl ?_
        refine g_goto 4 dX1_stillToEat_57 (by decide) ?_
        exact sG.loc (s_le_s (s_le_s (s_le_s (s_le_s s_le_0)))) h
      · have h := h.2 q
        refine g_bipush (-6) dX1_stillToEat_38 (by decide) ?_
        exact g_iret dX1_stillToEat_40 rfl rfl h
    · have h := h.2 q
      refine g_goto 54 dX1_stillToEat_23 (by decide) ?_
      refine g_iinc (x3 + 1) [some (sR 35), some (sR 8), some (sI x2), some (sI (x3 + 1))] dX1_stillToEat_54 rfl rfl (by decide) rfl ?_
      refine g_goto 4 dX1_stillToEat_57 (by decide) ?_
      exact sG.loc (s_le_s (s_le_s (s_le_s (s_le_s s_le_0)))) h
set_option maxRecDepth 20000 in
theorem eX1_takeBack {d : Nat} {Q : Option sAV → sM → Prop} {μ : sM} {a1 : Int32} {a2 : Int32} {a3 : Int32} (h : (vp_in a1 7 ∧ Q none (s_u (s_u μ 36 (a1.toNatClampNeg) ((μ.1 36 a1.toNatClampNeg) + a2)) 35 3 a3))) : sCl sLL mX1_takeBack d [sR 35, sI a1, sI a2, sI a3] μ Q := by
  refine sG.loc (al2 := [some (sR 35), some (sI a1), some (sI a2), some (sI a3)]) (s_le_s (s_le_s (s_le_s (s_le_s s_le_0)))) ?_
  refine g_aload_n dX1_takeBack_0 rfl ?_
  refine g_getr (r2 := 36) dX1_takeBack_1 fX1_9 rfl rfl ?_
  refine g_iload_n dX1_takeBack_4 rfl ?_
  refine g_dup2 dX1_takeBack_5 ?_
  obtain ⟨v1, h⟩ := h
  refine h_iald (μ.1 36 a1.toNatClampNeg) dX1_takeBack_6 rfl rfl v1 rfl ?_
  refine g_iload_n dX1_takeBack_7 rfl ?_
  refine g_iadd dX1_takeBack_8 ?_
  refine h_iast (a1.toNatClampNeg) dX1_takeBack_9 rfl rfl v1 rfl ?_
  refine g_aload_n dX1_takeBack_10 rfl ?_
  refine g_iload_n dX1_takeBack_11 rfl ?_
  refine g_puti dX1_takeBack_12 fX1_33 rfl rfl rfl rfl ?_
  exact g_vret dX1_takeBack_15 rfl h
set_option maxRecDepth 20000 in
theorem eX1_visit {d : Nat} {Q : Option sAV → sM → Prop} {μ : sM} {a1 : Int32} (h : sCl sLL mX6_hasGuest d [sR 1, sI a1] μ (kI fun r1 μ1 => ((¬ r1 = 0 → sCl sLL mX1_choice d [sR 35, sI a1] μ1 (kI fun r2 μ2 => ((¬ r2 = (-6) → sCl sLL mX1_use d [sR 35, sI a1, sI r2] μ2 (kI fun r3 μ3 => Q (some (sI r3)) μ3)) ∧ (r2 = (-6) → Q (some (sI 0)) μ2)))) ∧ (r1 = 0 → Q (some (sI 0)) μ1)))) : sCl sLL mX1_visit (d + 1) [sR 35, sI a1] μ Q := by
  refine sG.loc (al2 := [some (sR 35), some (sI a1), none]) (s_le_s (s_le_s (s_le_p s_le_0))) ?_
  refine g_aload_n dX1_visit_0 rfl ?_
  refine g_getr (r2 := 1) dX1_visit_1 fX1_15 rfl rfl ?_
  refine g_iload_n dX1_visit_4 rfl ?_
  refine g_callVi (mi2 := mX6_hasGuest) (r := 1) (st := []) [sI a1] dX1_visit_5 lX1_67 kX6_hasGuest vX6_hasGuest rfl rfl rfl (Nat.le_of_ble_eq_true rfl) (Nat.le_of_ble_eq_true rfl) (Nat.le_of_ble_eq_true rfl) rfl ?_
  refine sG.mono h (kI_mono fun r1 μ1 h => ?_)
  refine g_if_ne 13 dX1_visit_8 (by decide) (fun q => ?_) (fun q => ?_)
  · have h := h.1 q
    refine g_aload_n dX1_visit_13 rfl ?_
    refine g_iload_n dX1_visit_14 rfl ?_
    refine g_callVi (mi2 := mX1_choice) (r := 35) (st := []) [sI a1] dX1_visit_15 lX1_71 kX1_choice vX1_choice rfl rfl rfl (Nat.le_of_ble_eq_true rfl) (Nat.le_of_ble_eq_true rfl) (Nat.le_of_ble_eq_true rfl) rfl ?_
    refine sG.mono h (kI_mono fun r2 μ2 h => ?_)
    refine g_istore_n [some (sR 35), some (sI a1), some (sI r2)] dX1_visit_18 rfl (by decide) rfl ?_
    refine g_iload_n dX1_visit_19 rfl ?_
    refine g_bipush (-6) dX1_visit_20 (by decide) ?_
    refine g_icmp_ne 29 dX1_visit_22 (by decide) (fun q => ?_) (fun q => ?_)
    · have h := h.1 q
      refine g_aload_n dX1_visit_29 rfl ?_
      refine g_iload_n dX1_visit_30 rfl ?_
      refine g_iload_n dX1_visit_31 rfl ?_
      refine g_callVi (mi2 := mX1_use) (r := 35) (st := []) [sI a1, sI r2] dX1_visit_32 lX1_74 kX1_use vX1_use rfl rfl rfl (Nat.le_of_ble_eq_true rfl) (Nat.le_of_ble_eq_true rfl) (Nat.le_of_ble_eq_true rfl) rfl ?_
      refine sG.mono h (kI_mono fun r3 μ3 h => ?_)
      exact g_iret dX1_visit_35 rfl rfl h
    · have h := h.2 q
      refine g_iconst 0 dX1_visit_25 (by decide) ?_
      refine g_goto 35 dX1_visit_26 (by decide) ?_
      exact g_iret dX1_visit_35 rfl rfl h
  · have h := h.2 q
    refine g_iconst 0 dX1_visit_11 (by decide) ?_
    exact g_iret dX1_visit_12 rfl rfl h
set_option maxRecDepth 20000 in
theorem eX1_asNumber {d : Nat} {Q : Option sAV → sM → Prop} {μ : sM} (h : sG sLL mX1_asNumber d Q 4 [some (sR 35), some (sI 0), some (sI 0)] [] μ) : sCl sLL mX1_asNumber d [sR 35] μ Q := by
  refine sG.loc (al2 := [some (sR 35), none, none]) (s_le_s (s_le_p (s_le_p s_le_0))) ?_
  refine g_iconst 0 dX1_asNumber_0 (by decide) ?_
  refine g_istore_n [some (sR 35), some (sI 0), none] dX1_asNumber_1 rfl (by decide) rfl ?_
  refine g_iconst 0 dX1_asNumber_2 (by decide) ?_
  refine g_istore_n [some (sR 35), some (sI 0), some (sI 0)] dX1_asNumber_3 rfl (by decide) rfl ?_
  exact sG.loc (s_le_s (s_le_s (s_le_s s_le_0))) h
set_option maxRecDepth 20000 in
theorem sX1_asNumber_4 {d : Nat} {Q : Option sAV → sM → Prop} {μ : sM} {x1 : Int32} {x2 : Int32} (h : (((μ.1 1 0) ≤ x2 → Q (some (sI x1)) μ) ∧ (¬ (μ.1 1 0) ≤ x2 → (vp_in x2 7 ∧ sG sLL mX1_asNumber d Q 4 [some (sR 35), some (sI ((10 * x1) + (μ.1 36 x2.toNatClampNeg))), some (sI (x2 + 1))] [] μ)))) : sG sLL mX1_asNumber d Q 4 [some (sR 35), some (sI x1), some (sI x2)] [] μ := by
  refine g_iload_n dX1_asNumber_4 rfl ?_
  refine g_aload_n dX1_asNumber_5 rfl ?_
  refine g_getr (r2 := 1) dX1_asNumber_6 fX1_15 rfl rfl ?_
  refine h_geti (μ.1 1 0) dX1_asNumber_9 fX1_36 rfl rfl rfl ?_
  refine g_icmp_ge 33 dX1_asNumber_12 (by decide) (fun q => ?_) (fun q => ?_)
  · have h := h.1 q
    refine g_iload_n dX1_asNumber_33 rfl ?_
    exact g_iret dX1_asNumber_34 rfl rfl h
  · have h := h.2 q
    refine g_bipush 10 dX1_asNumber_15 (by decide) ?_
    refine g_iload_n dX1_asNumber_17 rfl ?_
    refine g_imul dX1_asNumber_18 ?_
    refine g_aload_n dX1_asNumber_19 rfl ?_
    refine g_getr (r2 := 36) dX1_asNumber_20 fX1_9 rfl rfl ?_
    refine g_iload_n dX1_asNumber_23 rfl ?_
    obtain ⟨v1, h⟩ := h
    refine h_iald (μ.1 36 x2.toNatClampNeg) dX1_asNumber_24 rfl rfl v1 rfl ?_
    refine g_iadd dX1_asNumber_25 ?_
    refine g_istore_n [some (sR 35), some (sI ((10 * x1) + (μ.1 36 x2.toNatClampNeg))), some (sI x2)] dX1_asNumber_26 rfl (by decide) rfl ?_
    refine g_iinc (x2 + 1) [some (sR 35), some (sI ((10 * x1) + (μ.1 36 x2.toNatClampNeg))), some (sI (x2 + 1))] dX1_asNumber_27 rfl rfl (by decide) rfl ?_
    refine g_goto 4 dX1_asNumber_30 (by decide) ?_
    exact sG.loc (s_le_s (s_le_s (s_le_s s_le_0))) h
set_option maxRecDepth 20000 in
theorem eJ7_fill_53178 {d : Nat} {Q : Option sAV → sM → Prop} {μ : sM} {L : sLy} {r n : Nat} (hr : L.1[r]? = some (sA_ n)) (ht : L.2 r = .int) {a1 : Int32} (h : sG L mJ7_fill_53178 d Q 5 [some (sR r), some (sI a1), some (sI 0), some (sI (Int32.ofNat n))] [] μ) : sCl L mJ7_fill_53178 d [sR r, sI a1] μ Q := by
  refine sG.loc (al2 := [some (sR r), some (sI a1), none, none]) (s_le_s (s_le_s (s_le_p (s_le_p s_le_0)))) ?_
  refine g_iconst 0 dJ7_fill_53178_0 (by decide) ?_
  refine g_istore_n [some (sR r), some (sI a1), some (sI 0), none] dJ7_fill_53178_1 rfl (by decide) rfl ?_
  refine g_aload_n dJ7_fill_53178_2 rfl ?_
  refine g_alen dJ7_fill_53178_3 hr ?_
  refine g_istore_n [some (sR r), some (sI a1), some (sI 0), some (sI (Int32.ofNat n))] dJ7_fill_53178_4 rfl (by decide) rfl ?_
  exact sG.loc (s_le_s (s_le_s (s_le_s (s_le_s s_le_0)))) h
set_option maxRecDepth 20000 in
theorem sJ7_fill_53178_5 {d : Nat} {Q : Option sAV → sM → Prop} {μ : sM} {L : sLy} {r n : Nat} (hr : L.1[r]? = some (sA_ n)) (ht : L.2 r = .int) {x1 : Int32} {x2 : Int32} {x3 : Int32} (h : ((x3 ≤ x2 → Q none μ) ∧ (¬ x3 ≤ x2 → (vp_in x2 n ∧ sG L mJ7_fill_53178 d Q 5 [some (sR r), some (sI x1), some (sI (x2 + 1)), some (sI x3)] [] (s_u μ r (x2.toNatClampNeg) x1))))) : sG L mJ7_fill_53178 d Q 5 [some (sR r), some (sI x1), some (sI x2), some (sI x3)] [] μ := by
  refine g_iload_n dJ7_fill_53178_5 rfl ?_
  refine g_iload_n dJ7_fill_53178_6 rfl ?_
  refine g_icmp_ge 20 dJ7_fill_53178_7 (by decide) (fun q => ?_) (fun q => ?_)
  · have h := h.1 q
    exact g_vret dJ7_fill_53178_20 rfl h
  · have h := h.2 q
    refine g_aload_n dJ7_fill_53178_10 rfl ?_
    refine g_iload_n dJ7_fill_53178_11 rfl ?_
    refine g_iload_n dJ7_fill_53178_12 rfl ?_
    obtain ⟨v1, h⟩ := h
    refine h_iast (x2.toNatClampNeg) dJ7_fill_53178_13 hr ht v1 rfl ?_
    refine g_iinc (x2 + 1) [some (sR r), some (sI x1), some (sI (x2 + 1)), some (sI x3)] dJ7_fill_53178_14 rfl rfl (by decide) rfl ?_
    refine g_goto 5 dJ7_fill_53178_17 (by decide) ?_
    exact sG.loc (s_le_s (s_le_s (s_le_s (s_le_s s_le_0)))) h
