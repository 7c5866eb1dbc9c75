-- SEGMENTS of X9 (printed by wip/whole/walker.py)
set_option maxRecDepth 20000 in
theorem eX9_begin {d : Nat} {Q : Option sAV → sM → Prop} {μ : sM} {a1 : Int32} (h : sG sLL mX9_begin (d + 1) Q 7 [some (sR 62), some (sI a1), some (sI 0)] [] (s_u μ 62 0 a1)) : sCl sLL mX9_begin (d + 1) [sR 62, sI a1] μ Q := by
  refine sG.loc (al2 := [some (sR 62), some (sI a1), none]) (s_le_s (s_le_s (s_le_p s_le_0))) ?_
  refine g_aload_n dX9_begin_0 rfl ?_
  refine g_iload_n dX9_begin_1 rfl ?_
  refine g_puti dX9_begin_2 fX9_84 rfl rfl rfl rfl ?_
  refine g_iconst 0 dX9_begin_5 (by decide) ?_
  refine g_istore_n [some (sR 62), some (sI a1), some (sI 0)] dX9_begin_6 rfl (by decide) rfl ?_
  exact sG.loc (s_le_s (s_le_s (s_le_s s_le_0))) h
set_option maxRecDepth 20000 in
theorem sX9_begin_7 {d : Nat} {Q : Option sAV → sM → Prop} {μ : sM} {x1 : Int32} {x2 : Int32} (h : ((7 ≤ x2 → Q none μ) ∧ (¬ 7 ≤ x2 → sCl sLL mX9_at d [sI 0, sI x2] μ (kI fun r1 μ1 => (vp_in r1 28 ∧ sCl sLL mX9_at d [sI 1, sI x2] (s_u μ1 63 (r1.toNatClampNeg) x2) (kI fun r2 μ2 => (vp_in r2 28 ∧ sCl sLL mX9_at d [sI 2, sI x2] (s_u μ2 63 (r2.toNatClampNeg) 9) (kI fun r3 μ3 => (vp_in r3 28 ∧ sCl sLL mX9_at d [sI 3, sI x2] (s_u μ3 63 (r3.toNatClampNeg) 0) (kI fun r4 μ4 => (vp_in r4 28 ∧ (vp_in x2 7 ∧ sG sLL mX9_begin (d + 1) Q 7 [some (sR 62), some (sI x1), some (sI (x2 + 1))] [] (s_u (s_u (s_u μ4 63 (r4.toNatClampNeg) 9) 64 (x2.toNatClampNeg) 0) 65 (x2.toNatClampNeg) (-6)))))))))))))) : sG sLL mX9_begin (d + 1) Q 7 [some (sR 62), some (sI x1), some (sI x2)] [] μ := by
  refine g_iload_n dX9_begin_7 rfl ?_
  refine g_bipush 7 dX9_begin_8 (by decide) ?_
  refine g_icmp_ge 80 dX9_begin_10 (by decide) (fun q => ?_) (fun q => ?_)
  · have h := h.1 q
    exact g_vret dX9_begin_80 rfl h
  · have h := h.2 q
    refine g_aload_n dX9_begin_13 rfl ?_
    refine g_getr (r2 := 63) dX9_begin_14 fX9_7 rfl rfl ?_
    refine g_iconst 0 dX9_begin_17 (by decide) ?_
    refine g_iload_n dX9_begin_18 rfl ?_
    refine g_callSi (mi2 := mX9_at) (st := [sR 63]) [sI 0, sI x2] dX9_begin_19 lX9_88 kX9_at vX9_at rfl (Nat.le_of_ble_eq_true rfl) (Nat.le_of_ble_eq_true rfl) (Nat.le_of_ble_eq_true rfl) rfl ?_
    refine sG.mono h (kI_mono fun r1 μ1 h => ?_)
    refine g_iload_n dX9_begin_22 rfl ?_
    obtain ⟨v1, h⟩ := h
    refine h_iast (r1.toNatClampNeg) dX9_begin_23 rfl rfl v1 rfl ?_
    refine g_aload_n dX9_begin_24 rfl ?_
    refine g_getr (r2 := 63) dX9_begin_25 fX9_7 rfl rfl ?_
    refine g_iconst 1 dX9_begin_28 (by decide) ?_
    refine g_iload_n dX9_begin_29 rfl ?_
    refine g_callSi (mi2 := mX9_at) (st := [sR 63]) [sI 1, sI x2] dX9_begin_30 lX9_88 kX9_at vX9_at rfl (Nat.le_of_ble_eq_true rfl) (Nat.le_of_ble_eq_true rfl) (Nat.le_of_ble_eq_true rfl) rfl ?_
    refine sG.mono h (kI_mono fun r2 μ2 h => ?_)
    refine g_bipush 9 dX9_begin_33 (by decide) ?_
    obtain ⟨v2, h⟩ := h
    refine h_iast (r2.toNatClampNeg) dX9_begin_35 rfl rfl v2 rfl ?_
    refine g_aload_n dX9_begin_36 rfl ?_
    refine g_getr (r2 := 63) dX9_begin_37 fX9_7 rfl rfl ?_
    refine g_iconst 2 dX9_begin_40 (by decide) ?_
    refine g_iload_n dX9_begin_41 rfl ?_
    refine g_callSi (mi2 := mX9_at) (st := [sR 63]) [sI 2, sI x2] dX9_begin_42 lX9_88 kX9_at vX9_at rfl (Nat.le_of_ble_eq_true rfl) (Nat.le_of_ble_eq_true rfl) (Nat.le_of_ble_eq_true rfl) rfl ?_
    refine sG.mono h (kI_mono fun r3 μ3 h => ?_)
    refine g_iconst 0 dX9_begin_45 (by decide) ?_
    obtain ⟨v3, h⟩ := h
    refine h_iast (r3.toNatClampNeg) dX9_begin_46 rfl rfl v3 rfl ?_
    refine g_aload_n dX9_begin_47 rfl ?_
    refine g_getr (r2 := 63) dX9_begin_48 fX9_7 rfl rfl ?_
    refine g_iconst 3 dX9_begin_51 (by decide) ?_
    refine g_iload_n dX9_begin_52 rfl ?_
    refine g_callSi (mi2 := mX9_at) (st := [sR 63]) [sI 3, sI x2] dX9_begin_53 lX9_88 kX9_at vX9_at rfl (Nat.le_of_ble_eq_true rfl) (Nat.le_of_ble_eq_true rfl) (Nat.le_of_ble_eq_true rfl) rfl ?_
    refine sG.mono h (kI_mono fun r4 μ4 h => ?_)
    refine g_bipush 9 dX9_begin_56 (by decide) ?_
    obtain ⟨v4, h⟩ := h
    refine h_iast (r4.toNatClampNeg) dX9_begin_58 rfl rfl v4 rfl ?_
    refine g_aload_n dX9_begin_59 rfl ?_
    refine g_getr (r2 := 64) dX9_begin_60 fX9_13 rfl rfl ?_
    refine g_iload_n dX9_begin_63 rfl ?_
    refine g_iconst 0 dX9_begin_64 (by decide) ?_
    obtain ⟨v5, h⟩ := h
    refine h_iast (x2.toNatClampNeg) dX9_begin_65 rfl rfl v5 rfl ?_
    refine g_aload_n dX9_begin_66 rfl ?_
    refine g_getr (r2 := 65) dX9_begin_67 fX9_16 rfl rfl ?_
    refine g_iload_n dX9_begin_70 rfl ?_
    refine g_bipush (-6) dX9_begin_71 (by decide) ?_
    refine h_iast (x2.toNatClampNeg) dX9_begin_73 rfl rfl v5 rfl ?_
    refine g_iinc (x2 + 1) [some (sR 62), some (sI x1), some (sI (x2 + 1))] dX9_begin_74 rfl rfl (by decide) rfl ?_
    refine g_goto 7 dX9_begin_77 (by decide) ?_
    exact sG.loc (s_le_s (s_le_s (s_le_s s_le_0))) h
set_option maxRecDepth 20000 in
theorem eX9_at {d : Nat} {Q : Option sAV → sM → Prop} {μ : sM} {a0 : Int32} {a1 : Int32} (h : Q (some (sI ((7 * a0) + a1))) μ) : sCl sLL mX9_at d [sI a0, sI a1] μ Q := by
  refine sG.loc (al2 := [some (sI a0), some (sI a1)]) (s_le_s (s_le_s s_le_0)) ?_
  refine g_bipush 7 dX9_at_0 (by decide) ?_
  refine g_iload_n dX9_at_2 rfl ?_
  refine g_imul dX9_at_3 ?_
  refine g_iload_n dX9_at_4 rfl ?_
  refine g_iadd dX9_at_5 ?_
  exact g_iret dX9_at_6 rfl rfl h
set_option maxRecDepth 20000 in
theorem eX9_things {d : Nat} {Q : Option sAV → sM → Prop} {μ : sM} {a1 : Int32} (h : sCl sLL mX9_in d [sL a1.toInt64, sL 1, sL 7] μ (kI fun r1 μ1 => ((¬ r1 = 0 → sCl sLL mX9_begin d [sR 62, sI a1] μ1 (kV fun μ2 => Q (some (sI (μ1.1 62 0))) μ2)) ∧ (r1 = 0 → Q (some (sI (-2))) μ1)))) : sCl sLL mX9_things (d + 1) [sR 62, sI a1] μ Q := by
  refine sG.loc (al2 := [some (sR 62), some (sI a1), none]) (s_le_s (s_le_s (s_le_p s_le_0))) ?_
  refine g_iload_n dX9_things_0 rfl ?_
  refine g_i2l dX9_things_1 ?_
  refine g_lconst 1 dX9_things_2 (by decide) ?_
  refine g_ldc2 dX9_things_3 qX9_101 ?_
  refine g_callSi (mi2 := mX9_in) (st := []) [sL a1.toInt64, sL 1, sL 7] dX9_things_6 lX9_92 kX9_in vX9_in rfl (Nat.le_of_ble_eq_true rfl) (Nat.le_of_ble_eq_true rfl) (Nat.le_of_ble_eq_true rfl) rfl ?_
  refine sG.mono h (kI_mono fun r1 μ1 h => ?_)
  refine g_if_ne 15 dX9_things_9 (by decide) (fun q => ?_) (fun q => ?_)
  · have h := h.1 q
    refine g_aload_n dX9_things_15 rfl ?_
    refine h_geti (μ1.1 62 0) dX9_things_16 fX9_84 rfl rfl rfl ?_
    refine g_istore_n [some (sR 62), some (sI a1), some (sI (μ1.1 62 0))] dX9_things_19 rfl (by decide) rfl ?_
    refine g_aload_n dX9_things_20 rfl ?_
    refine g_iload_n dX9_things_21 rfl ?_
    refine g_callVv (mi2 := mX9_begin) (r := 62) (st := []) [sI a1] dX9_things_22 lX9_80 kX9_begin vX9_begin rfl rfl rfl (Nat.le_of_ble_eq_true rfl) (Nat.le_of_ble_eq_true rfl) (Nat.le_of_ble_eq_true rfl) rfl ?_
    refine sG.mono h (kV_mono fun μ2 h => ?_)
    refine g_iload_n dX9_things_25 rfl ?_
    exact g_iret dX9_things_26 rfl rfl h
  · have h := h.2 q
    refine g_bipush (-2) dX9_things_12 (by decide) ?_
    exact g_iret dX9_things_14 rfl rfl h
set_option maxRecDepth 20000 in
theorem eX9_in {d : Nat} {Q : Option sAV → sM → Prop} {μ : sM} {b0 : Int64} {b1 : Int64} {b2 : Int64} (h : (((lg_cmp b0 b1) < 0 → Q (some (sI 0)) μ) ∧ (¬ (lg_cmp b0 b1) < 0 → ((0 < (lg_cmp b0 b2) → Q (some (sI 0)) μ) ∧ (¬ 0 < (lg_cmp b0 b2) → Q (some (sI 1)) μ))))) : sCl sLL mX9_in d [sL b0, sL b1, sL b2] μ Q := by
  refine sG.loc (al2 := [some (sL b0), none, some (sL b1), none, some (sL b2), none]) (s_le_s (s_le_n (s_le_s (s_le_n (s_le_s (s_le_n s_le_0)))))) ?_
  refine g_lload_n dX9_in_0 rfl ?_
  refine g_lload_n dX9_in_1 rfl ?_
  refine g_lcmp dX9_in_2 ?_
  refine g_if_lt 17 dX9_in_3 (by decide) (fun q => ?_) (fun q => ?_)
  · have h := h.1 q
    refine g_iconst 0 dX9_in_17 (by decide) ?_
    exact g_iret dX9_in_18 rfl (s_nb (Or.inl rfl)) h
  · have h := h.2 q
    refine g_lload_n dX9_in_6 rfl ?_
    refine g_lload dX9_in_7 rfl ?_
    refine g_lcmp dX9_in_9 ?_
    refine g_if_gt 17 dX9_in_10 (by decide) (fun q => ?_) (fun q => ?_)
    · have h := h.1 q
      refine g_iconst 0 dX9_in_17 (by decide) ?_
      exact g_iret dX9_in_18 rfl (s_nb (Or.inl rfl)) h
    · have h := h.2 q
      refine g_iconst 1 dX9_in_13 (by decide) ?_
      refine g_goto 18 dX9_in_14 (by decide) ?_
      exact g_iret dX9_in_18 rfl (s_nb (Or.inr rfl)) h
set_option maxRecDepth 20000 in
theorem eX9_thing {d : Nat} {Q : Option sAV → sM → Prop} {μ : sM} {a1 : Int32} {a2 : Int32} {a3 : Int32} (h : sCl sLL mX9_isThing d [sR 62, sI a1] μ (kI fun r1 μ1 => ((¬ r1 = 0 → sCl sLL mX9_in d [sL a2.toInt64, sL 0, sL 3] μ1 (kI fun r2 μ2 => ((r2 = 0 → Q (some (sI (-2))) μ2) ∧ (¬ r2 = 0 → ((¬ a2 = 2 → sCl sLL mX9_in d [sL a3.toInt64, sL 0, sL 9] μ2 (kI fun r3 μ3 => ((¬ r3 = 0 → ((¬ a2 = 3 → sCl sLL mX9_at d [sI a2, sI a1] μ3 (kI fun r4 μ4 => (vp_in r4 28 ∧ sCl sLL mX9_at d [sI a2, sI a1] μ4 (kI fun r5 μ5 => (vp_in r5 28 ∧ ((¬ a2 = 1 → Q (some (sI (μ4.1 63 r4.toNatClampNeg))) (s_u μ5 63 (r5.toNatClampNeg) a3)) ∧ (a2 = 1 → sCl sLL mX9_at d [sI 3, sI a1] (s_u μ5 63 (r5.toNatClampNeg) a3) (kI fun r6 μ6 => (vp_in r6 28 ∧ (vp_in a1 7 ∧ Q (some (sI (μ4.1 63 r4.toNatClampNeg))) (s_u (s_u μ6 63 (r6.toNatClampNeg) a3) 64 (a1.toNatClampNeg) 0))))))))))) ∧ (a2 = 3 → sCl sLL mX9_at d [sI 1, sI a1] μ3 (kI fun r4 μ4 => (vp_in r4 28 ∧ ((a3 ≤ (μ4.1 63 r4.toNatClampNeg) → sCl sLL mX9_at d [sI a2, sI a1] μ4 (kI fun r5 μ5 => (vp_in r5 28 ∧ sCl sLL mX9_at d [sI a2, sI a1] μ5 (kI fun r6 μ6 => (vp_in r6 28 ∧ ((¬ a2 = 1 → Q (some (sI (μ5.1 63 r5.toNatClampNeg))) (s_u μ6 63 (r6.toNatClampNeg) a3)) ∧ (a2 = 1 → sCl sLL mX9_at d [sI 3, sI a1] (s_u μ6 63 (r6.toNatClampNeg) a3) (kI fun r7 μ7 => (vp_in r7 28 ∧ (vp_in a1 7 ∧ Q (some (sI (μ5.1 63 r5.toNatClampNeg))) (s_u (s_u μ7 63 (r7.toNatClampNeg) a3) 64 (a1.toNatClampNeg) 0))))))))))) ∧ (¬ a3 ≤ (μ4.1 63 r4.toNatClampNeg) → Q (some (sI (-3))) μ4))))))) ∧ (r3 = 0 → Q (some (sI (-2))) μ3)))) ∧ (a2 = 2 → sCl sLL mX9_in d [sL a3.toInt64, sL 0, sL 1] μ2 (kI fun r3 μ3 => ((¬ r3 = 0 → ((¬ a2 = 3 → sCl sLL mX9_at d [sI a2, sI a1] μ3 (kI fun r4 μ4 => (vp_in r4 28 ∧ sCl sLL mX9_at d [sI a2, sI a1] μ4 (kI fun r5 μ5 => (vp_in r5 28 ∧ ((¬ a2 = 1 → Q (some (sI (μ4.1 63 r4.toNatClampNeg))) (s_u μ5 63 (r5.toNatClampNeg) a3)) ∧ (a2 = 1 → sCl sLL mX9_at d [sI 3, sI a1] (s_u μ5 63 (r5.toNatClampNeg) a3) (kI fun r6 μ6 => (vp_in r6 28 ∧ (vp_in a1 7 ∧ Q (some (sI (μ4.1 63 r4.toNatClampNeg))) (s_u (s_u μ6 63 (r6.toNatClampNeg) a3) 64 (a1.toNatClampNeg) 0))))))))))) ∧ (a2 = 3 → sCl sLL mX9_at d [sI 1, sI a1] μ3 (kI fun r4 μ4 => (vp_in r4 28 ∧ ((a3 ≤ (μ4.1 63 r4.toNatClampNeg) → sCl sLL mX9_at d [sI a2, sI a1] μ4 (kI fun r5 μ5 => (vp_in r5 28 ∧ sCl sLL mX9_at d [sI a2, sI a1] μ5 (kI fun r6 μ6 => (vp_in r6 28 ∧ ((¬ a2 = 1 → Q (some (sI (μ5.1 63 r5.toNatClampNeg))) (s_u μ6 63 (r6.toNatClampNeg) a3)) ∧ (a2 = 1 → sCl sLL mX9_at d [sI 3, sI a1] (s_u μ6 63 (r6.toNatClampNeg) a3) (kI fun r7 μ7 => (vp_in r7 28 ∧ (vp_in a1 7 ∧ Q (some (sI (μ5.1 63 r5.toNatClampNeg))) (s_u (s_u μ7 63 (r7.toNatClampNeg) a3) 64 (a1.toNatClampNeg) 0))))))))))) ∧ (¬ a3 ≤ (μ4.1 63 r4.toNatClampNeg) → Q (some (sI (-3))) μ4))))))) ∧ (r3 = 0 → Q (some (sI (-2))) μ3))))))))) ∧ (r1 = 0 → Q (some (sI (-1))) μ1)))) : sCl sLL mX9_thing (d + 1) [sR 62, sI a1, sI a2, sI a3] μ Q := by
  refine sG.loc (al2 := [some (sR 62), some (sI a1), some (sI a2), some (sI a3), none]) (s_le_s (s_le_s (s_le_s (s_le_s (s_le_p s_le_0))))) ?_
  refine g_aload_n dX9_thing_0 rfl ?_
  refine g_iload_n dX9_thing_1 rfl ?_
  refine g_callVi (mi2 := mX9_isThing) (r := 62) (st := []) [sI a1] dX9_thing_2 lX9_103 kX9_isThing vX9_isThing rfl rfl rfl (Nat.le_of_ble_eq_true rfl) (Nat.le_of_ble_eq_true rfl) (Nat.le_of_ble_eq_true rfl) rfl ?_
  refine sG.mono h (kI_mono fun r1 μ1 h => ?_)
  refine g_if_ne 10 dX9_thing_5 (by decide) (fun q => ?_) (fun q => ?_)
  · have h := h.1 q
    refine g_iload_n dX9_thing_10 rfl ?_
    refine g_i2l dX9_thing_11 ?_
    refine g_lconst 0 dX9_thing_12 (by decide) ?_
    refine g_ldc2 dX9_thing_13 qX9_96 ?_
    refine g_callSi (mi2 := mX9_in) (st := []) [sL a2.toInt64, sL 0, sL 3] dX9_thing_16 lX9_92 kX9_in vX9_in rfl (Nat.le_of_ble_eq_true rfl) (Nat.le_of_ble_eq_true rfl) (Nat.le_of_ble_eq_true rfl) rfl ?_
    refine sG.mono h (kI_mono fun r2 μ2 h => ?_)
    refine g_if_eq 43 dX9_thing_19 (by decide) (fun q => ?_) (fun q => ?_)
    · have h := h.1 q
      refine g_bipush (-2) dX9_thing_43 (by decide) ?_
      exact g_iret dX9_thing_45 rfl rfl h
    · have h := h.2 q
      refine g_iload_n dX9_thing_22 rfl ?_
      refine g_i2l dX9_thing_23 ?_
      refine g_lconst 0 dX9_thing_24 (by decide) ?_
      refine g_iload_n dX9_thing_25 rfl ?_
      refine g_iconst 2 dX9_thing_26 (by decide) ?_
      refine g_icmp_ne 34 dX9_thing_27 (by decide) (fun q => ?_) (fun q => ?_)
      · have h := h.1 q
        refine g_ldc2 dX9_thing_34 qX9_107 ?_
        refine g_callSi (mi2 := mX9_in) (st := []) [sL a3.toInt64, sL 0, sL 9] dX9_thing_37 lX9_92 kX9_in vX9_in rfl (Nat.le_of_ble_eq_true rfl) (Nat.le_of_ble_eq_true rfl) (Nat.le_of_ble_eq_true rfl) rfl ?_
        refine sG.mono h (kI_mono fun r3 μ3 h => ?_)
        refine g_if_ne 46 dX9_thing_40 (by decide) (fun q => ?_) (fun q => ?_)
        · have h := h.1 q
          refine g_iload_n dX9_thing_46 rfl ?_
          refine g_iconst 3 dX9_thing_47 (by decide) ?_
          refine g_icmp_ne 68 dX9_thing_48 (by decide) (fun q => ?_) (fun q => ?_)
          · have h := h.1 q
            refine g_aload_n dX9_thing_68 rfl ?_
            refine g_getr (r2 := 63) dX9_thing_69 fX9_7 rfl rfl ?_
            refine g_iload_n dX9_thing_72 rfl ?_
            refine g_iload_n dX9_thing_73 rfl ?_
            refine g_callSi (mi2 := mX9_at) (st := [sR 63]) [sI a2, sI a1] dX9_thing_74 lX9_88 kX9_at vX9_at rfl (Nat.le_of_ble_eq_true rfl) (Nat.le_of_ble_eq_true rfl) (Nat.le_of_ble_eq_true rfl) rfl ?_
            refine sG.mono h (kI_mono fun r4 μ4 h => ?_)
            obtain ⟨v1, h⟩ := h
            refine h_iald (μ4.1 63 r4.toNatClampNeg) dX9_thing_77 rfl rfl v1 rfl ?_
            refine g_istore [some (sR 62), some (sI a1), some (sI a2), some (sI a3), some (sI (μ4.1 63 r4.toNatClampNeg))] dX9_thing_78 (by decide) rfl ?_
            refine g_aload_n dX9_thing_80 rfl ?_
            refine g_getr (r2 := 63) dX9_thing_81 fX9_7 rfl rfl ?_
            refine g_iload_n dX9_thing_84 rfl ?_
            refine g_iload_n dX9_thing_85 rfl ?_
            refine g_callSi (mi2 := mX9_at) (st := [sR 63]) [sI a2, sI a1] dX9_thing_86 lX9_88 kX9_at vX9_at rfl (Nat.le_of_ble_eq_true rfl) (Nat.le_of_ble_eq_true rfl) (Nat.le_of_ble_eq_true rfl) rfl ?_
            refine sG.mono h (kI_mono fun r5 μ5 h => ?_)
            refine g_iload_n dX9_thing_89 rfl ?_
            obtain ⟨v2, h⟩ := h
            refine h_iast (r5.toNatClampNeg) dX9_thing_90 rfl rfl v2 rfl ?_
            refine g_iload_n dX9_thing_91 rfl ?_
            refine g_iconst 1 dX9_thing_92 (by decide) ?_
            refine g_icmp_ne 114 dX9_thing_93 (by decide) (fun q => ?_) (fun q => ?_)
            · have h := h.1 q
              refine g_iload dX9_thing_114 rfl ?_
              exact g_iret dX9_thing_116 rfl rfl h
            · have h := h.2 q
              refine g_aload_n dX9_thing_96 rfl ?_
              refine g_getr (r2 := 63) dX9_thing_97 fX9_7 rfl rfl ?_
              refine g_iconst 3 dX9_thing_100 (by decide) ?_
              refine g_iload_n dX9_thing_101 rfl ?_
              refine g_callSi (mi2 := mX9_at) (st := [sR 63]) [sI 3, sI a1] dX9_thing_102 lX9_88 kX9_at vX9_at rfl (Nat.le_of_ble_eq_true rfl) (Nat.le_of_ble_eq_true rfl) (Nat.le_of_ble_eq_true rfl) rfl ?_
              refine sG.mono h (kI_mono fun r6 μ6 h => ?_)
              refine g_iload_n dX9_thing_105 rfl ?_
              obtain ⟨v3, h⟩ := h
              refine h_iast (r6.toNatClampNeg) dX9_thing_106 rfl rfl v3 rfl ?_
              refine g_aload_n dX9_thing_107 rfl ?_
              refine g_getr (r2 := 64) dX9_thing_108 fX9_13 rfl rfl ?_
              refine g_iload_n dX9_thing_111 rfl ?_
              refine g_iconst 0 dX9_thing_112 (by decide) ?_
              obtain ⟨v4, h⟩ := h
              refine h_iast (a1.toNatClampNeg) dX9_thing_113 rfl rfl v4 rfl ?_
              refine g_iload dX9_thing_114 rfl ?_
              exact g_iret dX9_thing_116 rfl rfl h
          · have h := h.2 q
            refine g_iload_n dX9_thing_51 rfl ?_
            refine g_aload_n dX9_thing_52 rfl ?_
            refine g_getr (r2 := 63) dX9_thing_53 fX9_7 rfl rfl ?_
            refine g_iconst 1 dX9_thing_56 (by decide) ?_
            refine g_iload_n dX9_thing_57 rfl ?_
            refine g_callSi (mi2 := mX9_at) (st := [sR 63, sI a3]) [sI 1, sI a1] dX9_thing_58 lX9_88 kX9_at vX9_at rfl (Nat.le_of_ble_eq_true rfl) (Nat.le_of_ble_eq_true rfl) (Nat.le_of_ble_eq_true rfl) rfl ?_
            refine sG.mono h (kI_mono fun r4 μ4 h => ?_)
            obtain ⟨v1, h⟩ := h
            refine h_iald (μ4.1 63 r4.toNatClampNeg) dX9_thing_61 rfl rfl v1 rfl ?_
            refine g_icmp_le 68 dX9_thing_62 (by decide) (fun q => ?_) (fun q => ?_)
            · have h := h.1 q
              refine g_aload_n dX9_thing_68 rfl ?_
              refine g_getr (r2 := 63) dX9_thing_69 fX9_7 rfl rfl ?_
              refine g_iload_n dX9_thing_72 rfl ?_
              refine g_iload_n dX9_thing_73 rfl ?_
              refine g_callSi (mi2 := mX9_at) (st := [sR 63]) [sI a2, sI a1] dX9_thing_74 lX9_88 kX9_at vX9_at rfl (Nat.le_of_ble_eq_true rfl) (Nat.le_of_ble_eq_true rfl) (Nat.le_of_ble_eq_true rfl) rfl ?_
              refine sG.mono h (kI_mono fun r5 μ5 h => ?_)
              obtain ⟨v2, h⟩ := h
              refine h_iald (μ5.1 63 r5.toNatClampNeg) dX9_thing_77 rfl rfl v2 rfl ?_
              refine g_istore [some (sR 62), some (sI a1), some (sI a2), some (sI a3), some (sI (μ5.1 63 r5.toNatClampNeg))] dX9_thing_78 (by decide) rfl ?_
              refine g_aload_n dX9_thing_80 rfl ?_
              refine g_getr (r2 := 63) dX9_thing_81 fX9_7 rfl rfl ?_
              refine g_iload_n dX9_thing_84 rfl ?_
              refine g_iload_n dX9_thing_85 rfl ?_
              refine g_callSi (mi2 := mX9_at) (st := [sR 63]) [sI a2, sI a1] dX9_thing_86 lX9_88 kX9_at vX9_at rfl (Nat.le_of_ble_eq_true rfl) (Nat.le_of_ble_eq_true rfl) (Nat.le_of_ble_eq_true rfl) rfl ?_
              refine sG.mono h (kI_mono fun r6 μ6 h => ?_)
              refine g_iload_n dX9_thing_89 rfl ?_
              obtain ⟨v3, h⟩ := h
              refine h_iast (r6.toNatClampNeg) dX9_thing_90 rfl rfl v3 rfl ?_
              refine g_iload_n dX9_thing_91 rfl ?_
              refine g_iconst 1 dX9_thing_92 (by decide) ?_
              refine g_icmp_ne 114 dX9_thing_93 (by decide) (fun q => ?_) (fun q => ?_)
              · have h := h.1 q
                refine g_iload dX9_thing_114 rfl ?_
                exact g_iret dX9_thing_116 rfl rfl h
              · have h := h.2 q
                refine g_aload_n dX9_thing_96 rfl ?_
                refine g_getr (r2 := 63) dX9_thing_97 fX9_7 rfl rfl ?_
                refine g_iconst 3 dX9_thing_100 (by decide) ?_
                refine g_iload_n dX9_thing_101 rfl ?_
                refine g_callSi (mi2 := mX9_at) (st := [sR 63]) [sI 3, sI a1] dX9_thing_102 lX9_88 kX9_at vX9_at rfl (Nat.le_of_ble_eq_true rfl) (Nat.le_of_ble_eq_true rfl) (Nat.le_of_ble_eq_true rfl) rfl ?_
                refine sG.mono h (kI_mono fun r7 μ7 h => ?_)
                refine g_iload_n dX9_thing_105 rfl ?_
                obtain ⟨v4, h⟩ := h
                refine h_iast (r7.toNatClampNeg) dX9_thing_106 rfl rfl v4 rfl ?_
                refine g_aload_n dX9_thing_107 rfl ?_
                refine g_getr (r2 := 64) dX9_thing_108 fX9_13 rfl rfl ?_
                refine g_iload_n dX9_thing_111 rfl ?_
                refine g_iconst 0 dX9_thing_112 (by decide) ?_
                obtain ⟨v5, h⟩ := h
                refine h_iast (a1.toNatClampNeg) dX9_thing_113 rfl rfl v5 rfl ?_
                refine g_iload dX9_thing_114 rfl ?_
                exact g_iret dX9_thing_116 rfl rfl h
            · have h := h.2 q
              refine g_bipush (-3) dX9_thing_65 (by decide) ?_
              exact g_iret dX9_thing_67 rfl rfl h
        · have h := h.2 q
          refine g_bipush (-2) dX9_thing_43 (by decide) ?_
          exact g_iret dX9_thing_45 rfl rfl h
      · have h := h.2 q
        refine g_lconst 1 dX9_thing_30 (by decide) ?_
        refine g_goto 37 dX9_thing_31 (by decide) ?_
        refine g_callSi (mi2 := mX9_in) (st := []) [sL a3.toInt64, sL 0, sL 1] dX9_thing_37 lX9_92 kX9_in vX9_in rfl (Nat.le_of_ble_eq_true rfl) (Nat.le_of_ble_eq_true rfl) (Nat.le_of_ble_eq_true rfl) rfl ?_
        refine sG.mono h (kI_mono fun r3 μ3 h => ?_)
        refine g_if_ne 46 dX9_thing_40 (by decide) (fun q => ?_) (fun q => ?_)
        · have h := h.1 q
          refine g_iload_n dX9_thing_46 rfl ?_
          refine g_iconst 3 dX9_thing_47 (by decide) ?_
          refine g_icmp_ne 68 dX9_thing_48 (by decide) (fun q => ?_) (fun q => ?_)
          · have h := h.1 q
            refine g_aload_n dX9_thing_68 rfl ?_
            refine g_getr (r2 := 63) dX9_thing_69 fX9_7 rfl rfl ?_
            refine g_iload_n dX9_thing_72 rfl ?_
            refine g_iload_n dX9_thing_73 rfl ?_
            refine g_callSi (mi2 := mX9_at) (st := [sR 63]) [sI a2, sI a1] dX9_thing_74 lX9_88 kX9_at vX9_at rfl (Nat.le_of_ble_eq_true rfl) (Nat.le_of_ble_eq_true rfl) (Nat.le_of_ble_eq_true rfl) rfl ?_
            refine sG.mono h (kI_mono fun r4 μ4 h => ?_)
            obtain ⟨v1, h⟩ := h
            refine h_iald (μ4.1 63 r4.toNatClampNeg) dX9_thing_77 rfl rfl v1 rfl ?_
            refine g_istore [some (sR 62), some (sI a1), some (sI a2), some (sI a3), some (sI (μ4.1 63 r4.toNatClampNeg))] dX9_thing_78 (by decide) rfl ?_
            refine g_aload_n dX9_thing_80 rfl ?_
            refine g_getr (r2 := 63) dX9_thing_81 fX9_7 rfl rfl ?_
            refine g_iload_n dX9_thing_84 rfl ?_
            refine g_iload_n dX9_thing_85 rfl ?_
            refine g_callSi (mi2 := mX9_at) (st := [sR 63]) [sI a2, sI a1] dX9_thing_86 lX9_88 kX9_at vX9_at rfl (Nat.le_of_ble_eq_true rfl) (Nat.le_of_ble_eq_true rfl) (Nat.le_of_ble_eq_true rfl) rfl ?_
            refine sG.mono h (kI_mono fun r5 μ5 h => ?_)
            refine g_iload_n dX9_thing_89 rfl ?_
            obtain ⟨v2, h⟩ := h
            refine h_iast (r5.toNatClampNeg) dX9_thing_90 rfl rfl v2 rfl ?_
            refine g_iload_n dX9_thing_91 rfl ?_
            refine g_iconst 1 dX9_thing_92 (by decide) ?_
            refine g_icmp_ne 114 dX9_thing_93 (by decide) (fun q => ?_) (fun q => ?_)
            · have h := h.1 q
              refine g_iload dX9_thing_114 rfl ?_
              exact g_iret dX9_thing_116 rfl rfl h
            · have h := h.2 q
              refine g_aload_n dX9_thing_96 rfl ?_
              refine g_getr (r2 := 63) dX9_thing_97 fX9_7 rfl rfl ?_
              refine g_iconst 3 dX9_thing_100 (by decide) ?_
              refine g_iload_n dX9_thing_101 rfl ?_
              refine g_callSi (mi2 := mX9_at) (st := [sR 63]) [sI 3, sI a1] dX9_thing_102 lX9_88 kX9_at vX9_at rfl (Nat.le_of_ble_eq_true rfl) (Nat.le_of_ble_eq_true rfl) (Nat.le_of_ble_eq_true rfl) rfl ?_
              refine sG.mono h (kI_mono fun r6 μ6 h => ?_)
              refine g_iload_n dX9_thing_105 rfl ?_
              obtain ⟨v3, h⟩ := h
              refine h_iast (r6.toNatClampNeg) dX9_thing_106 rfl rfl v3 rfl ?_
              refine g_aload_n dX9_thing_107 rfl ?_
              refine g_getr (r2 := 64) dX9_thing_108 fX9_13 rfl rfl ?_
              refine g_iload_n dX9_thing_111 rfl ?_
              refine g_iconst 0 dX9_thing_112 (by decide) ?_
              obtain ⟨v4, h⟩ := h
              refine h_iast (a1.toNatClampNeg) dX9_thing_113 rfl rfl v4 rfl ?_
              refine g_iload dX9_thing_114 rfl ?_
              exact g_iret dX9_thing_116 rfl rfl h
          · have h := h.2 q
            refine g_iload_n dX9_thing_51 rfl ?_
            refine g_aload_n dX9_thing_52 rfl ?_
            refine g_getr (r2 := 63) dX9_thing_53 fX9_7 rfl rfl ?_
            refine g_iconst 1 dX9_thing_56 (by decide) ?_
            refine g_iload_n dX9_thing_57 rfl ?_
            refine g_callSi (mi2 := mX9_at) (st := [sR 63, sI a3]) [sI 1, sI a1] dX9_thing_58 lX9_88 kX9_at vX9_at rfl (Nat.le_of_ble_eq_true rfl) (Nat.le_of_ble_eq_true rfl) (Nat.le_of_ble_eq_true rfl) rfl ?_
            refine sG.mono h (kI_mono fun r4 μ4 h => ?_)
            obtain ⟨v1, h⟩ := h
            refine h_iald (μ4.1 63 r4.toNatClampNeg) dX9_thing_61 rfl rfl v1 rfl ?_
            refine g_icmp_le 68 dX9_thing_62 (by decide) (fun q => ?_) (fun q => ?_)
            · have h := h.1 q
              refine g_aload_n dX9_thing_68 rfl ?_
              refine g_getr (r2 := 63) dX9_thing_69 fX9_7 rfl rfl ?_
              refine g_iload_n dX9_thing_72 rfl ?_
              refine g_iload_n dX9_thing_73 rfl ?_
              refine g_callSi (mi2 := mX9_at) (st := [sR 63]) [sI a2, sI a1] dX9_thing_74 lX9_88 kX9_at vX9_at rfl (Nat.le_of_ble_eq_true rfl) (Nat.le_of_ble_eq_true rfl) (Nat.le_of_ble_eq_true rfl) rfl ?_
              refine sG.mono h (kI_mono fun r5 μ5 h => ?_)
              obtain ⟨v2, h⟩ := h
              refine h_iald (μ5.1 63 r5.toNatClampNeg) dX9_thing_77 rfl rfl v2 rfl ?_
              refine g_istore [some (sR 62), some (sI a1), some (sI a2), some (sI a3), some (sI (μ5.1 63 r5.toNatClampNeg))] dX9_thing_78 (by decide) rfl ?_
              refine g_aload_n dX9_thing_80 rfl ?_
              refine g_getr (r2 := 63) dX9_thing_81 fX9_7 rfl rfl ?_
              refine g_iload_n dX9_thing_84 rfl ?_
              refine g_iload_n dX9_thing_85 rfl ?_
              refine g_callSi (mi2 := mX9_at) (st := [sR 63]) [sI a2, sI a1] dX9_thing_86 lX9_88 kX9_at vX9_at rfl (Nat.le_of_ble_eq_true rfl) (Nat.le_of_ble_eq_true rfl) (Nat.le_of_ble_eq_true rfl) rfl ?_
              refine sG.mono h (kI_mono fun r6 μ6 h => ?_)
              refine g_iload_n dX9_thing_89 rfl ?_
              obtain ⟨v3, h⟩ := h
              refine h_iast (r6.toNatClampNeg) dX9_thing_90 rfl rfl v3 rfl ?_
              refine g_iload_n dX9_thing_91 rfl ?_
              refine g_iconst 1 dX9_thing_92 (by decide) ?_
              refine g_icmp_ne 114 dX9_thing_93 (by decide) (fun q => ?_) (fun q => ?_)
              · have h := h.1 q
                refine g_iload dX9_thing_114 rfl ?_
                exact g_iret dX9_thing_116 rfl rfl h
              · have h := h.2 q
                refine g_aload_n dX9_thing_96 rfl ?_
                refine g_getr (r2 := 63) dX9_thing_97 fX9_7 rfl rfl ?_
                refine g_iconst 3 dX9_thing_100 (by decide) ?_
                refine g_iload_n dX9_thing_101 rfl ?_
                refine g_callSi (mi2 := mX9_at) (st := [sR 63]) [sI 3, sI a1] dX9_thing_102 lX9_88 kX9_at vX9_at rfl (Nat.le_of_ble_eq_true rfl) (Nat.le_of_ble_eq_true rfl) (Nat.le_of_ble_eq_true rfl) rfl ?_
                refine sG.mono h (kI_mono fun r7 μ7 h => ?_)
                refine g_iload_n dX9_thing_105 rfl ?_
                obtain ⟨v4, h⟩ := h
                refine h_iast (r7.toNatClampNeg) dX9_thing_106 rfl rfl v4 rfl ?_
                refine g_aload_n dX9_thing_107 rfl ?_
                refine g_getr (r2 := 64) dX9_thing_108 fX9_13 rfl rfl ?_
                refine g_iload_n dX9_thing_111 rfl ?_
                refine g_iconst 0 dX9_thing_112 (by decide) ?_
                obtain ⟨v5, h⟩ := h
                refine h_iast (a1.toNatClampNeg) dX9_thing_113 rfl rfl v5 rfl ?_
                refine g_iload dX9_thing_114 rfl ?_
                exact g_iret dX9_thing_116 rfl rfl h
            · have h := h.2 q
              refine g_bipush (-3) dX9_thing_65 (by decide) ?_
              exact g_iret dX9_thing_67 rfl rfl h
        · have h := h.2 q
          refine g_bipush (-2) dX9_thing_43 (by decide) ?_
          exact g_iret dX9_thing_45 rfl rfl h
  · have h := h.2 q
    refine g_iconst (-1) dX9_thing_8 (by decide) ?_
    exact g_iret dX9_thing_9 rfl rfl h
set_option maxRecDepth 20000 in
theorem eX9_isThing {d : Nat} {Q : Option sAV → sM → Prop} {μ : sM} {a1 : Int32} (h : sCl sLL mX9_in d [sL a1.toInt64, sL 0, sL ((μ.1 62 0) - 1).toInt64] μ (kI fun r1 μ1 => ((r1 = 0 ∨ r1 = 1) ∧ Q (some (sI r1)) μ1))) : sCl sLL mX9_isThing (d + 1) [sR 62, sI a1] μ Q := by
  refine sG.loc (al2 := [some (sR 62), some (sI a1)]) (s_le_s (s_le_s s_le_0)) ?_
  refine g_iload_n dX9_isThing_0 rfl ?_
  refine g_i2l dX9_isThing_1 ?_
  refine g_lconst 0 dX9_isThing_2 (by decide) ?_
  refine g_aload_n dX9_isThing_3 rfl ?_
  refine h_geti (μ.1 62 0) dX9_isThing_4 fX9_84 rfl rfl rfl ?_
  refine g_iconst 1 dX9_isThing_7 (by decide) ?_
  refine g_isub dX9_isThing_8 ?_
  refine g_i2l dX9_isThing_9 ?_
  refine g_callSi (mi2 := mX9_in) (st := []) [sL a1.toInt64, sL 0, sL ((μ.1 62 0) - 1).toInt64] dX9_isThing_10 lX9_92 kX9_in vX9_in rfl (Nat.le_of_ble_eq_true rfl) (Nat.le_of_ble_eq_true rfl) (Nat.le_of_ble_eq_true rfl) rfl ?_
  refine sG.mono h (kI_mono fun r1 μ1 h => ?_)
  obtain ⟨hb, h⟩ := h
  exact g_iret dX9_isThing_13 rfl (s_nb hb) h
set_option maxRecDepth 20000 in
theorem eX9_guest {d : Nat} {Q : Option sAV → sM → Prop} {μ : sM} {a1 : Int32} {a2 : Int32} {a3 : Int32} {a4 : Int32} {a5 : Int32} (h : sCl sLL mX9_in d [sL a1.toInt64, sL 0, sL 3] μ (kI fun r1 μ1 => ((¬ r1 = 0 → sCl sLL mX9_in d [sL a2.toInt64, sL 0, sL 9] μ1 (kI fun r2 μ2 => ((r2 = 0 → Q (some (sI (-2))) μ2) ∧ (¬ r2 = 0 → sCl sLL mX9_in d [sL a3.toInt64, sL 1, sL 9] μ2 (kI fun r3 μ3 => ((r3 = 0 → Q (some (sI (-2))) μ3) ∧ (¬ r3 = 0 → sCl sLL mX9_in d [sL a4.toInt64, sL 0, sL 3] μ3 (kI fun r4 μ4 => ((r4 = 0 → Q (some (sI (-2))) μ4) ∧ (¬ r4 = 0 → sCl sLL mX9_in d [sL a5.toInt64, sL 1, sL 9] μ4 (kI fun r5 μ5 => ((¬ r5 = 0 → (vp_in a1 4 ∧ sCl sLL mX9_ones d [sI ((μ5.1 62 4) ||| ((1 : Int32) <<< (a1 &&& 31)))] (s_u (s_u (s_u (s_u (s_u μ5 66 (a1.toNatClampNeg) a2) 67 (a1.toNatClampNeg) a3) 68 (a1.toNatClampNeg) a4) 69 (a1.toNatClampNeg) a5) 62 4 ((μ5.1 62 4) ||| ((1 : Int32) <<< (a1 &&& 31)))) (kI fun r6 μ6 => Q (some (sI r6)) μ6))) ∧ (r5 = 0 → Q (some (sI (-2))) μ5))))))))))))) ∧ (r1 = 0 → Q (some (sI (-1))) μ1)))) : sCl sLL mX9_guest (d + 1) [sR 62, sI a1, sI a2, sI a3, sI a4, sI a5] μ Q := by
  refine sG.loc (al2 := [some (sR 62), some (sI a1), some (sI a2), some (sI a3), some (sI a4), some (sI a5)]) (s_le_s (s_le_s (s_le_s (s_le_s (s_le_s (s_le_s s_le_0)))))) ?_
  refine g_iload_n dX9_guest_0 rfl ?_
  refine g_i2l dX9_guest_1 ?_
  refine g_lconst 0 dX9_guest_2 (by decide) ?_
  refine g_ldc2 dX9_guest_3 qX9_96 ?_
  refine g_callSi (mi2 := mX9_in) (st := []) [sL a1.toInt64, sL 0, sL 3] dX9_guest_6 lX9_92 kX9_in vX9_in rfl (Nat.le_of_ble_eq_true rfl) (Nat.le_of_ble_eq_true rfl) (Nat.le_of_ble_eq_true rfl) rfl ?_
  refine sG.mono h (kI_mono fun r1 μ1 h => ?_)
  refine g_if_ne 14 dX9_guest_9 (by decide) (fun q => ?_) (fun q => ?_)
  · have h := h.1 q
    refine g_iload_n dX9_guest_14 rfl ?_
    refine g_i2l dX9_guest_15 ?_
    refine g_lconst 0 dX9_guest_16 (by decide) ?_
    refine g_ldc2 dX9_guest_17 qX9_107 ?_
    refine g_callSi (mi2 := mX9_in) (st := []) [sL a2.toInt64, sL 0, sL 9] dX9_guest_20 lX9_92 kX9_in vX9_in rfl (Nat.le_of_ble_eq_true rfl) (Nat.le_of_ble_eq_true rfl) (Nat.le_of_ble_eq_true rfl) rfl ?_
    refine sG.mono h (kI_mono fun r2 μ2 h => ?_)
    refine g_if_eq 64 dX9_guest_23 (by decide) (fun q => ?_) (fun q => ?_)
    · have h := h.1 q
      refine g_bipush (-2) dX9_guest_64 (by decide) ?_
      exact g_iret dX9_guest_66 rfl rfl h
    · have h := h.2 q
      refine g_iload_n dX9_guest_26 rfl ?_
      refine g_i2l dX9_guest_27 ?_
      refine g_lconst 1 dX9_guest_28 (by decide) ?_
      refine g_ldc2 dX9_guest_29 qX9_107 ?_
      refine g_callSi (mi2 := mX9_in) (st := []) [sL a3.toInt64, sL 1, sL 9] dX9_guest_32 lX9_92 kX9_in vX9_in rfl (Nat.le_of_ble_eq_true rfl) (Nat.le_of_ble_eq_true rfl) (Nat.le_of_ble_eq_true rfl) rfl ?_
      refine sG.mono h (kI_mono fun r3 μ3 h => ?_)
      refine g_if_eq 64 dX9_guest_35 (by decide) (fun q => ?_) (fun q => ?_)
      · have h := h.1 q
        refine g_bipush (-2) dX9_guest_64 (by decide) ?_
        exact g_iret dX9_guest_66 rfl rfl h
      · have h := h.2 q
        refine g_iload dX9_guest_38 rfl ?_
        refine g_i2l dX9_guest_40 ?_
        refine g_lconst 0 dX9_guest_41 (by decide) ?_
        refine g_ldc2 dX9_guest_42 qX9_96 ?_
        refine g_callSi (mi2 := mX9_in) (st := []) [sL a4.toInt64, sL 0, sL 3] dX9_guest_45 lX9_92 kX9_in vX9_in rfl (Nat.le_of_ble_eq_true rfl) (Nat.le_of_ble_eq_true rfl) (Nat.le_of_ble_eq_true rfl) rfl ?_
        refine sG.mono h (kI_mono fun r4 μ4 h => ?_)
        refine g_if_eq 64 dX9_guest_48 (by decide) (fun q => ?_) (fun q => ?_)
        · have h := h.1 q
          refine g_bipush (-2) dX9_guest_64 (by decide) ?_
          exact g_iret dX9_guest_66 rfl rfl h
        · have h := h.2 q
          refine g_iload dX9_guest_51 rfl ?_
          refine g_i2l dX9_guest_53 ?_
          refine g_lconst 1 dX9_guest_54 (by decide) ?_
          refine g_ldc2 dX9_guest_55 qX9_107 ?_
          refine g_callSi (mi2 := mX9_in) (st := []) [sL a5.toInt64, sL 1, sL 9] dX9_guest_58 lX9_92 kX9_in vX9_in rfl (Nat.le_of_ble_eq_true rfl) (Nat.le_of_ble_eq_true rfl) (Nat.le_of_ble_eq_true rfl) rfl ?_
          refine sG.mono h (kI_mono fun r5 μ5 h => ?_)
          refine g_if_ne 67 dX9_guest_61 (by decide) (fun q => ?_) (fun q => ?_)
          · have h := h.1 q
            refine g_aload_n dX9_guest_67 rfl ?_
            refine g_getr (r2 := 66) dX9_guest_68 fX9_19 rfl rfl ?_
            refine g_iload_n dX9_guest_71 rfl ?_
            refine g_iload_n dX9_guest_72 rfl ?_
            obtain ⟨v1, h⟩ := h
            refine h_iast (a1.toNatClampNeg) dX9_guest_73 rfl rfl v1 rfl ?_
            refine g_aload_n dX9_guest_74 rfl ?_
            refine g_getr (r2 := 67) dX9_guest_75 fX9_22 rfl rfl ?_
            refine g_iload_n dX9_guest_78 rfl ?_
            refine g_iload_n dX9_guest_79 rfl ?_
            refine h_iast (a1.toNatClampNeg) dX9_guest_80 rfl rfl v1 rfl ?_
            refine g_aload_n dX9_guest_81 rfl ?_
            refine g_getr (r2 := 68) dX9_guest_82 fX9_25 rfl rfl ?_
            refine g_iload_n dX9_guest_85 rfl ?_
            refine g_iload dX9_guest_86 rfl ?_
            refine h_iast (a1.toNatClampNeg) dX9_guest_88 rfl rfl v1 rfl ?_
            refine g_aload_n dX9_guest_89 rfl ?_
            refine g_getr (r2 := 69) dX9_guest_90 fX9_28 rfl rfl ?_
            refine g_iload_n dX9_guest_93 rfl ?_
            refine g_iload dX9_guest_94 rfl ?_
            refine h_iast (a1.toNatClampNeg) dX9_guest_96 rfl rfl v1 rfl ?_
            refine g_aload_n dX9_guest_97 rfl ?_
            refine g_dup_r dX9_guest_98 ?_
            refine h_geti (μ5.1 62 4) dX9_guest_99 fX9_98 rfl rfl rfl ?_
            refine g_iconst 1 dX9_guest_102 (by decide) ?_
            refine g_iload_n dX9_guest_103 rfl ?_
            refine g_ishl dX9_guest_104 ?_
            refine g_ior dX9_guest_105 ?_
            refine g_puti dX9_guest_106 fX9_98 rfl rfl rfl rfl ?_
            refine g_aload_n dX9_guest_109 rfl ?_
            refine h_geti ((μ5.1 62 4) ||| ((1 : Int32) <<< (a1 &&& 31))) dX9_guest_110 fX9_98 rfl rfl rfl ?_
            refine g_callSi (mi2 := mX9_ones) (st := []) [sI ((μ5.1 62 4) ||| ((1 : Int32) <<< (a1 &&& 31)))] dX9_guest_113 lX9_109 kX9_ones vX9_ones rfl (Nat.le_of_ble_eq_true rfl) (Nat.le_of_ble_eq_true rfl) (Nat.le_of_ble_eq_true rfl) rfl ?_
            refine sG.mono h (kI_mono fun r6 μ6 h => ?_)
            exact g_iret dX9_guest_116 rfl rfl h
          · have h := h.2 q
            refine g_bipush (-2) dX9_guest_64 (by decide) ?_
            exact g_iret dX9_guest_66 rfl rfl h
  · have h := h.2 q
    refine g_iconst (-1) dX9_guest_12 (by decide) ?_
    exact g_iret dX9_guest_13 rfl rfl h
set_option maxRecDepth 20000 in
theorem eX9_ones {d : Nat} {Q : Option sAV → sM → Prop} {μ : sM} {a0 : Int32} (h : sG sLL mX9_ones d Q 4 [some (sI a0), some (sI 0), some (sI a0)] [] μ) : sCl sLL mX9_ones d [sI a0] μ Q := by
  refine sG.loc (al2 := [some (sI a0), none, none]) (s_le_s (s_le_p (s_le_p s_le_0))) ?_
  refine g_iconst 0 dX9_ones_0 (by decide) ?_
  refine g_istore_n [some (sI a0), some (sI 0), none] dX9_ones_1 rfl (by decide) rfl ?_
  refine g_iload_n dX9_ones_2 rfl ?_
  refine g_istore_n [some (sI a0), some (sI 0), some (sI a0)] dX9_ones_3 rfl (by decide) rfl ?_
  exact sG.loc (s_le_s (s_le_s (s_le_s s_le_0))) h
set_option maxRecDepth 20000 in
theorem sX9_ones_4 {d : Nat} {Q : Option sAV → sM → Prop} {μ : sM} {x0 : Int32} {x1 : Int32} {x2 : Int32} (h : ((x2 = 0 → Q (some (sI x1)) μ) ∧ (¬ x2 = 0 → sG sLL mX9_ones d Q 4 [some (sI x0), some (sI (x1 + 1)), some (sI (x2 &&& (x2 - 1)))] [] μ))) : sG sLL mX9_ones d Q 4 [some (sI x0), some (sI x1), some (sI x2)] [] μ := by
  refine g_iload_n dX9_ones_4 rfl ?_
  refine g_if_eq 20 dX9_ones_5 (by decide) (fun q => ?_) (fun q => ?_)
  · have h := h.1 q
    refine g_iload_n dX9_ones_20 rfl ?_
    exact g_iret dX9_ones_21 rfl rfl h
  · have h := h.2 q
    refine g_iinc (x1 + 1) [some (sI x0), some (sI (x1 + 1)), some (sI x2)] dX9_ones_8 rfl rfl (by decide) rfl ?_
    refine g_iload_n dX9_ones_11 rfl ?_
    refine g_iload_n dX9_ones_12 rfl ?_
    refine g_iconst 1 dX9_ones_13 (by decide) ?_
    refine g_isub dX9_ones_14 ?_
    refine g_iand dX9_ones_15 ?_
    refine g_istore_n [some (sI x0), some (sI (x1 + 1)), some (sI (x2 &&& (x2 - 1)))] dX9_ones_16 rfl (by decide) rfl ?_
    refine g_goto 4 dX9_ones_17 (by decide) ?_
    exact sG.loc (s_le_s (s_le_s (s_le_s s_le_0))) h
set_option maxRecDepth 20000 in
theorem eX9_leave {d : Nat} {Q : Option sAV → sM → Prop} {μ : sM} {a1 : Int32} (h : sCl sLL mX9_isThere d [sR 62, sI a1] μ (kI fun r1 μ1 => ((¬ r1 = 0 → sCl sLL mX9_ones d [sI ((μ1.1 62 4) &&& (((1 : Int32) <<< (a1 &&& 31)) ^^^ (-1)))] (s_u μ1 62 4 ((μ1.1 62 4) &&& (((1 : Int32) <<< (a1 &&& 31)) ^^^ (-1)))) (kI fun r2 μ2 => Q (some (sI r2)) μ2)) ∧ (r1 = 0 → Q (some (sI (-1))) μ1)))) : sCl sLL mX9_leave (d + 1) [sR 62, sI a1] μ Q := by
  refine sG.loc (al2 := [some (sR 62), some (sI a1)]) (s_le_s (s_le_s s_le_0)) ?_
  refine g_aload_n dX9_leave_0 rfl ?_
  refine g_iload_n dX9_leave_1 rfl ?_
  refine g_callVi (mi2 := mX9_isThere) (r := 62) (st := []) [sI a1] dX9_leave_2 lX9_113 kX9_isThere vX9_isThere rfl rfl rfl (Nat.le_of_ble_eq_true rfl) (Nat.le_of_ble_eq_true rfl) (Nat.le_of_ble_eq_true rfl) rfl ?_
  refine sG.mono h (kI_mono fun r1 μ1 h => ?_)
  refine g_if_ne 10 dX9_leave_5 (by decide) (fun q => ?_) (fun q => ?_)
  · have h := h.1 q
    refine g_aload_n dX9_leave_10 rfl ?_
    refine g_dup_r dX9_leave_11 ?_
    refine h_geti (μ1.1 62 4) dX9_leave_12 fX9_98 rfl rfl rfl ?_
    refine g_iconst 1 dX9_leave_15 (by decide) ?_
    refine g_iload_n dX9_leave_16 rfl ?_
    refine g_ishl dX9_leave_17 ?_
    refine g_iconst (-1) dX9_leave_18 (by decide) ?_
    refine g_ixor dX9_leave_19 ?_
    refine g_iand dX9_leave_20 ?_
    refine g_puti dX9_leave_21 fX9_98 rfl rfl rfl rfl ?_
    refine g_aload_n dX9_leave_24 rfl ?_
    refine h_geti ((μ1.1 62 4) &&& (((1 : Int32) <<< (a1 &&& 31)) ^^^ (-1))) dX9_leave_25 fX9_98 rfl rfl rfl ?_
    refine g_callSi (mi2 := mX9_ones) (st := []) [sI ((μ1.1 62 4) &&& (((1 : Int32) <<< (a1 &&& 31)) ^^^ (-1)))] dX9_leave_28 lX9_109 kX9_ones vX9_ones rfl (Nat.le_of_ble_eq_true rfl) (Nat.le_of_ble_eq_true rfl) (Nat.le_of_ble_eq_true rfl) rfl ?_
    refine sG.mono h (kI_mono fun r2 μ2 h => ?_)
    exact g_iret dX9_leave_31 rfl rfl h
  · have h := h.2 q
    refine g_iconst (-1) dX9_leave_8 (by decide) ?_
    exact g_iret dX9_leave_9 rfl rfl h
set_option maxRecDepth 20000 in
theorem eX9_isThere {d : Nat} {Q : Option sAV → sM → Prop} {μ : sM} {a1 : Int32} (h : sCl sLL mX9_in d [sL a1.toInt64, sL 0, sL 3] μ (kI fun r1 μ1 => ((r1 = 0 → Q (some (sI 0)) μ1) ∧ (¬ r1 = 0 → ((¬ (((μ1.1 62 4) >>> (a1 &&& 31)) &&& 1) = 1 → Q (some (sI 0)) μ1) ∧ ((((μ1.1 62 4) >>> (a1 &&& 31)) &&& 1) = 1 → Q (some (sI 1)) μ1)))))) : sCl sLL mX9_isThere (d + 1) [sR 62, sI a1] μ Q := by
  refine sG.loc (al2 := [some (sR 62), some (sI a1)]) (s_le_s (s_le_s s_le_0)) ?_
  refine g_iload_n dX9_isThere_0 rfl ?_
  refine g_i2l dX9_isThere_1 ?_
  refine g_lconst 0 dX9_isThere_2 (by decide) ?_
  refine g_ldc2 dX9_isThere_3 qX9_96 ?_
  refine g_callSi (mi2 := mX9_in) (st := []) [sL a1.toInt64, sL 0, sL 3] dX9_isThere_6 lX9_92 kX9_in vX9_in rfl (Nat.le_of_ble_eq_true rfl) (Nat.le_of_ble_eq_true rfl) (Nat.le_of_ble_eq_true rfl) rfl ?_
  refine sG.mono h (kI_mono fun r1 μ1 h => ?_)
  refine g_if_eq 28 dX9_isThere_9 (by decide) (fun q => ?_) (fun q => ?_)
  · have h := h.1 q
    refine g_iconst 0 dX9_isThere_28 (by decide) ?_
    exact g_iret dX9_isThere_29 rfl (s_nb (Or.inl rfl)) h
  · have h := h.2 q
    refine g_aload_n dX9_isThere_12 rfl ?_
    refine h_geti (μ1.1 62 4) dX9_isThere_13 fX9_98 rfl rfl rfl ?_
    refine g_iload_n dX9_isThere_16 rfl ?_
    refine g_ishr dX9_isThere_17 ?_
    refine g_iconst 1 dX9_isThere_18 (by decide) ?_
    refine g_iand dX9_isThere_19 ?_
    refine g_iconst 1 dX9_isThere_20 (by decide) ?_
    refine g_icmp_ne 28 dX9_isThere_21 (by decide) (fun q => ?_) (fun q => ?_)
    · have h := h.1 q
      refine g_iconst 0 dX9_isThere_28 (by decide) ?_
      exact g_iret dX9_isThere_29 rfl (s_nb (Or.inl rfl)) h
    · have h := h.2 q
      refine g_iconst 1 dX9_isThere_24 (by decide) ?_
      refine g_goto 29 dX9_isThere_25 (by decide) ?_
      exact g_iret dX9_isThere_29 rfl (s_nb (Or.inr rfl)) h
set_option maxRecDepth 20000 in
theorem eX9_say {d : Nat} {Q : Option sAV → sM → Prop} {μ : sM} {a1 : Int32} (h : sCl sLL mX9_in d [sL a1.toInt64, sL 33, sL 126] μ (kI fun r1 μ1 => ((¬ r1 = 0 → ((¬ (μ1.1 62 10) = 40 → (vp_in (μ1.1 62 10) 40 ∧ Q (some (sI ((μ1.1 62 10) + 1))) (s_u (s_u μ1 70 ((μ1.1 62 10).toNatClampNeg) a1) 62 10 ((μ1.1 62 10) + 1)))) ∧ ((μ1.1 62 10) = 40 → Q (some (sI (-4))) μ1))) ∧ (r1 = 0 → Q (some (sI (-2))) μ1)))) : sCl sLL mX9_say (d + 1) [sR 62, sI a1] μ Q := by
  refine sG.loc (al2 := [some (sR 62), some (sI a1)]) (s_le_s (s_le_s s_le_0)) ?_
  refine g_iload_n dX9_say_0 rfl ?_
  refine g_i2l dX9_say_1 ?_
  refine g_ldc2 dX9_say_2 qX9_116 ?_
  refine g_ldc2 dX9_say_5 qX9_118 ?_
  refine g_callSi (mi2 := mX9_in) (st := []) [sL a1.toInt64, sL 33, sL 126] dX9_say_8 lX9_92 kX9_in vX9_in rfl (Nat.le_of_ble_eq_true rfl) (Nat.le_of_ble_eq_true rfl) (Nat.le_of_ble_eq_true rfl) rfl ?_
  refine sG.mono h (kI_mono fun r1 μ1 h => ?_)
  refine g_if_ne 17 dX9_say_11 (by decide) (fun q => ?_) (fun q => ?_)
  · have h := h.1 q
    refine g_aload_n dX9_say_17 rfl ?_
    refine h_geti (μ1.1 62 10) dX9_say_18 fX9_120 rfl rfl rfl ?_
    refine g_bipush 40 dX9_say_21 (by decide) ?_
    refine g_icmp_ne 29 dX9_say_23 (by decide) (fun q => ?_) (fun q => ?_)
    · have h := h.1 q
      refine g_aload_n dX9_say_29 rfl ?_
      refine g_getr (r2 := 70) dX9_say_30 fX9_31 rfl rfl ?_
      refine g_aload_n dX9_say_33 rfl ?_
      refine h_geti (μ1.1 62 10) dX9_say_34 fX9_120 rfl rfl rfl ?_
      refine g_iload_n dX9_say_37 rfl ?_
      obtain ⟨v1, h⟩ := h
      refine h_iast ((μ1.1 62 10).toNatClampNeg) dX9_say_38 rfl rfl v1 rfl ?_
      refine g_aload_n dX9_say_39 rfl ?_
      refine g_dup_r dX9_say_40 ?_
      refine h_geti (μ1.1 62 10) dX9_say_41 fX9_120 rfl rfl rfl ?_
      refine g_iconst 1 dX9_say_44 (by decide) ?_
      refine g_iadd dX9_say_45 ?_
      refine g_puti dX9_say_46 fX9_120 rfl rfl rfl rfl ?_
      refine g_aload_n dX9_say_49 rfl ?_
      refine h_geti ((μ1.1 62 10) + 1) dX9_say_50 fX9_120 rfl rfl rfl ?_
      exact g_iret dX9_say_53 rfl rfl h
    · have h := h.2 q
      refine g_bipush (-4) dX9_say_26 (by decide) ?_
      exact g_iret dX9_say_28 rfl rfl h
  · have h := h.2 q
    refine g_bipush (-2) dX9_say_14 (by decide) ?_
    exact g_iret dX9_say_16 rfl rfl h
set_option maxRecDepth 20000 in
theorem eX9_wipe {d : Nat} {Q : Option sAV → sM → Prop} {μ : sM} (h : Q (some (sI (μ.1 62 10))) (s_u μ 62 10 0)) : sCl sLL mX9_wipe d [sR 62] μ Q := by
  refine sG.loc (al2 := [some (sR 62), none]) (s_le_s (s_le_p s_le_0)) ?_
  refine g_aload_n dX9_wipe_0 rfl ?_
  refine h_geti (μ.1 62 10) dX9_wipe_1 fX9_120 rfl rfl rfl ?_
  refine g_istore_n [some (sR 62), some (sI (μ.1 62 10))] dX9_wipe_4 rfl (by decide) rfl ?_
  refine g_aload_n dX9_wipe_5 rfl ?_
  refine g_iconst 0 dX9_wipe_6 (by decide) ?_
  refine g_puti dX9_wipe_7 fX9_120 rfl rfl rfl rfl ?_
  refine g_iload_n dX9_wipe_10 rfl ?_
  exact g_iret dX9_wipe_11 rfl rfl h
set_option maxRecDepth 20000 in
theorem eX9_fault {d : Nat} {Q : Option sAV → sM → Prop} {μ : sM} (h : sG sLL mX9_fault (d + 1) Q 2 [some (sR 62), some (sI 0), none] [] μ) : sCl sLL mX9_fault (d + 1) [sR 62] μ Q := by
  refine sG.loc (al2 := [some (sR 62), none, none]) (s_le_s (s_le_p (s_le_p s_le_0))) ?_
  refine g_iconst 0 dX9_fault_0 (by decide) ?_
  refine g_istore_n [some (sR 62), some (sI 0), none] dX9_fault_1 rfl (by decide) rfl ?_
  exact sG.loc (s_le_s (s_le_s (s_le_n s_le_0))) h
set_option maxRecDepth 20000 in
theorem sX9_fault_2 {d : Nat} {Q : Option sAV → sM → Prop} {μ : sM} {x1 : Int32} (h : (((μ.1 62 10) ≤ x1 → Q (some (sI (-6))) μ) ∧ (¬ (μ.1 62 10) ≤ x1 → (vp_in x1 40 ∧ sCl sLL mX9_in d [sL (μ.1 70 x1.toNatClampNeg).toInt64, sL 65, sL 68] μ (kI fun r1 μ1 => ((¬ r1 = 0 → sG sLL mX9_fault (d + 1) Q 2 [some (sR 62), some (sI (x1 + 1)), none] [] μ1) ∧ (r1 = 0 → (((μ.1 70 x1.toNatClampNeg) = 46 → sG sLL mX9_fault (d + 1) Q 2 [some (sR 62), some (sI (x1 + 1)), none] [] μ1) ∧ (¬ (μ.1 70 x1.toNatClampNeg) = 46 → sCl sLL mX9_isThing d [sR 62, sI ((μ.1 70 x1.toNatClampNeg) - 48)] μ1 (kI fun r2 μ2 => ((¬ r2 = 0 → sG sLL mX9_fault (d + 1) Q 2 [some (sR 62), some (sI (x1 + 1)), none] [] μ2) ∧ (r2 = 0 → Q (some (sI x1)) μ2)))))))))))) : sG sLL mX9_fault (d + 1) Q 2 [some (sR 62), some (sI x1), none] [] μ := by
  refine g_iload_n dX9_fault_2 rfl ?_
  refine g_aload_n dX9_fault_3 rfl ?_
  refine h_geti (μ.1 62 10) dX9_fault_4 fX9_120 rfl rfl rfl ?_
  refine g_icmp_ge 56 dX9_fault_7 (by decide) (fun q => ?_) (fun q => ?_)
  · have h := h.1 q
    refine g_bipush (-6) dX9_fault_56 (by decide) ?_
    exact g_iret dX9_fault_58 rfl rfl h
  · have h := h.2 q
    refine g_aload_n dX9_fault_10 rfl ?_
    refine g_getr (r2 := 70) dX9_fault_11 fX9_31 rfl rfl ?_
    refine g_iload_n dX9_fault_14 rfl ?_
    obtain ⟨v1, h⟩ := h
    refine h_iald (μ.1 70 x1.toNatClampNeg) dX9_fault_15 rfl rfl v1 rfl ?_
    refine g_istore_n [some (sR 62), some (sI x1), some (sI (μ.1 70 x1.toNatClampNeg))] dX9_fault_16 rfl (by decide) rfl ?_
    refine g_iload_n dX9_fault_17 rfl ?_
    refine g_i2l dX9_fault_18 ?_
    refine g_ldc2 dX9_fault_19 qX9_123 ?_
    refine g_ldc2 dX9_fault_22 qX9_125 ?_
    refine g_callSi (mi2 := mX9_in) (st := []) [sL (μ.1 70 x1.toNatClampNeg).toInt64, sL 65, sL 68] dX9_fault_25 lX9_92 kX9_in vX9_in rfl (Nat.le_of_ble_eq_true rfl) (Nat.le_of_ble_eq_true rfl) (Nat.le_of_ble_eq_true rfl) rfl ?_
    refine sG.mono h (kI_mono fun r1 μ1 h => ?_)
    refine g_if_ne 50 dX9_fault_28 (by decide) (fun q => ?_) (fun q => ?_)
    · have h := h.1 q
      refine g_iinc (x1 + 1) [some (sR 62), some (sI (x1 + 1)), some (sI (μ.1 70 x1.toNatClampNeg))] dX9_fault_50 rfl rfl (by decide) rfl ?_
      refine g_goto 2 dX9_fault_53 (by decide) ?_
      exact sG.loc (s_le_s (s_le_s (s_le_n s_le_0))) h
    · have h := h.2 q
      refine g_iload_n dX9_fault_31 rfl ?_
      refine g_bipush 46 dX9_fault_32 (by decide) ?_
      refine g_icmp_eq 50 dX9_fault_34 (by decide) (fun q => ?_) (fun q => ?_)
      · have h := h.1 q
        refine g_iinc (x1 + 1) [some (sR 62), some (sI (x1 + 1)), some (sI (μ.1 70 x1.toNatClampNeg))] dX9_fault_50 rfl rfl (by decide) rfl ?_
        refine g_goto 2 dX9_fault_53 (by decide) ?_
        exact sG.loc (s_le_s (s_le_s (s_le_n s_le_0))) h
      · have h := h.2 q
        refine g_aload_n dX9_fault_37 rfl ?_
        refine g_iload_n dX9_fault_38 rfl ?_
        refine g_bipush 48 dX9_fault_39 (by decide) ?_
        refine g_isub dX9_fault_41 ?_
        refine g_callVi (mi2 := mX9_isThing) (r := 62) (st := []) [sI ((μ.1 70 x1.toNatClampNeg) - 48)] dX9_fault_42 lX9_103 kX9_isThing vX9_isThing rfl rfl rfl (Nat.le_of_ble_eq_true rfl) (Nat.le_of_ble_eq_true rfl) (Nat.le_of_ble_eq_true rfl) rfl ?_
        refine sG.mono h (kI_mono fun r2 μ2 h => ?_)
        refine g_if_ne 50 dX9_fault_45 (by decide) (fun q => ?_) (fun q => ?_)
        · have h := h.1 q
          refine g_iinc (x1 + 1) [some (sR 62), some (sI (x1 + 1)), some (sI (μ.1 70 x1.toNatClampNeg))] dX9_fault_50 rfl rfl (by decide) rfl ?_
          refine g_goto 2 dX9_fault_53 (by decide) ?_
          exact sG.loc (s_le_s (s_le_s (s_le_n s_le_0))) h
        · have h := h.2 q
          refine g_iload_n dX9_fault_48 rfl ?_
          exact g_iret dX9_fault_49 rfl rfl h
set_option maxRecDepth 20000 in
theorem eX9_judge {d : Nat} {Q : Option sAV → sM → Prop} {μ : sM} {a1 : Int32} (h : sCl sLL mX9_in d [sL a1.toInt64, sL 0, sL 3] μ (kI fun r1 μ1 => ((¬ r1 = 0 → sCl sLL mX9_refusal d [sR 62] μ1 (kI fun r2 μ2 => ((r2 = (-5) → Q (some (sI r2)) μ2) ∧ (¬ r2 = (-5) → ((a1 ≤ 1 → ((¬ a1 = 0 → ((¬ a1 = 1 → ((¬ a1 = 2 → Q (some (sI (μ2.1 62 12))) μ2) ∧ (a1 = 2 → Q (some (sI (μ2.1 62 17))) μ2))) ∧ (a1 = 1 → Q (some (sI (μ2.1 62 16))) μ2))) ∧ (a1 = 0 → Q (some (sI (μ2.1 62 15))) μ2))) ∧ (¬ a1 ≤ 1 → ((¬ r2 = (-3) → ((¬ a1 = 0 → ((¬ a1 = 1 → ((¬ a1 = 2 → Q (some (sI (μ2.1 62 12))) μ2) ∧ (a1 = 2 → Q (some (sI (μ2.1 62 17))) μ2))) ∧ (a1 = 1 → Q (some (sI (μ2.1 62 16))) μ2))) ∧ (a1 = 0 → Q (some (sI (μ2.1 62 15))) μ2))) ∧ (r2 = (-3) → Q (some (sI r2)) μ2)))))))) ∧ (r1 = 0 → Q (some (sI (-2))) μ1)))) : sCl sLL mX9_judge (d + 1) [sR 62, sI a1] μ Q := by
  refine sG.loc (al2 := [some (sR 62), some (sI a1), none]) (s_le_s (s_le_s (s_le_p s_le_0))) ?_
  refine g_iload_n dX9_judge_0 rfl ?_
  refine g_i2l dX9_judge_1 ?_
  refine g_lconst 0 dX9_judge_2 (by decide) ?_
  refine g_ldc2 dX9_judge_3 qX9_96 ?_
  refine g_callSi (mi2 := mX9_in) (st := []) [sL a1.toInt64, sL 0, sL 3] dX9_judge_6 lX9_92 kX9_in vX9_in rfl (Nat.le_of_ble_eq_true rfl) (Nat.le_of_ble_eq_true rfl) (Nat.le_of_ble_eq_true rfl) rfl ?_
  refine sG.mono h (kI_mono fun r1 μ1 h => ?_)
  refine g_if_ne 15 dX9_judge_9 (by decide) (fun q => ?_) (fun q => ?_)
  · have h := h.1 q
    refine g_aload_n dX9_judge_15 rfl ?_
    refine g_callVi (mi2 := mX9_refusal) (r := 62) (st := []) [] dX9_judge_16 lX9_178 kX9_refusal vX9_refusal rfl rfl rfl (Nat.le_of_ble_eq_true rfl) (Nat.le_of_ble_eq_true rfl) (Nat.le_of_ble_eq_true rfl) rfl ?_
    refine sG.mono h (kI_mono fun r2 μ2 h => ?_)
    refine g_istore_n [some (sR 62), some (sI a1), some (sI r2)] dX9_judge_19 rfl (by decide) rfl ?_
    refine g_iload_n dX9_judge_20 rfl ?_
    refine g_bipush (-5) dX9_judge_21 (by decide) ?_
    refine g_icmp_eq 37 dX9_judge_23 (by decide) (fun q => ?_) (fun q => ?_)
    · have h := h.1 q
      refine g_iload_n dX9_judge_37 rfl ?_
      exact g_iret dX9_judge_38 rfl rfl h
    · have h := h.2 q
      refine g_iload_n dX9_judge_26 rfl ?_
      refine g_iconst 1 dX9_judge_27 (by decide) ?_
      refine g_icmp_le 39 dX9_judge_28 (by decide) (fun q => ?_) (fun q => ?_)
      · have h := h.1 q
        refine g_iload_n dX9_judge_39 rfl ?_
        refine g_if_ne 50 dX9_judge_40 (by decide) (fun q => ?_) (fun q => ?_)
        · have h := h.1 q
          refine g_iload_n dX9_judge_50 rfl ?_
          refine g_iconst 1 dX9_judge_51 (by decide) ?_
          refine g_icmp_ne 62 dX9_judge_52 (by decide) (fun q => ?_) (fun q => ?_)
          · have h := h.1 q
            refine g_iload_n dX9_judge_62 rfl ?_
            refine g_iconst 2 dX9_judge_63 (by decide) ?_
            refine g_icmp_ne 74 dX9_judge_64 (by decide) (fun q => ?_) (fun q => ?_)
            · have h := h.1 q
              refine g_aload_n dX9_judge_74 rfl ?_
              refine h_geti (μ2.1 62 12) dX9_judge_75 fX9_136 rfl rfl rfl ?_
              exact g_iret dX9_judge_78 rfl rfl h
            · have h := h.2 q
              refine g_aload_n dX9_judge_67 rfl ?_
              refine h_geti (μ2.1 62 17) dX9_judge_68 fX9_148 rfl rfl rfl ?_
              refine g_goto 78 dX9_judge_71 (by decide) ?_
              exact g_iret dX9_judge_78 rfl rfl h
          · have h := h.2 q
            refine g_aload_n dX9_judge_55 rfl ?_
            refine h_geti (μ2.1 62 16) dX9_judge_56 fX9_145 rfl rfl rfl ?_
            refine g_goto 78 dX9_judge_59 (by decide) ?_
            exact g_iret dX9_judge_78 rfl rfl h
        · have h := h.2 q
          refine g_aload_n dX9_judge_43 rfl ?_
          refine h_geti (μ2.1 62 15) dX9_judge_44 fX9_142 rfl rfl rfl ?_
          refine g_goto 78 dX9_judge_47 (by decide) ?_
          exact g_iret dX9_judge_78 rfl rfl h
      · have h := h.2 q
        refine g_iload_n dX9_judge_31 rfl ?_
        refine g_bipush (-3) dX9_judge_32 (by decide) ?_
        refine g_icmp_ne 39 dX9_judge_34 (by decide) (fun q => ?_) (fun q => ?_)
        · have h := h.1 q
          refine g_iload_n dX9_judge_39 rfl ?_
          refine g_if_ne 50 dX9_judge_40 (by decide) (fun q => ?_) (fun q => ?_)
          · have h := h.1 q
            refine g_iload_n dX9_judge_50 rfl ?_
            refine g_iconst 1 dX9_judge_51 (by decide) ?_
            refine g_icmp_ne 62 dX9_judge_52 (by decide) (fun q => ?_) (fun q => ?_)
            · have h := h.1 q
              refine g_iload_n dX9_judge_62 rfl ?_
              refine g_iconst 2 dX9_judge_63 (by decide) ?_
              refine g_icmp_ne 74 dX9_judge_64 (by decide) (fun q => ?_) (fun q => ?_)
              · have h := h.1 q
                refine g_aload_n dX9_judge_74 rfl ?_
                refine h_geti (μ2.1 62 12) dX9_judge_75 fX9_136 rfl rfl rfl ?_
                exact g_iret dX9_judge_78 rfl rfl h
              · have h := h.2 q
                refine g_aload_n dX9_judge_67 rfl ?_
                refine h_geti (μ2.1 62 17) dX9_judge_68 fX9_148 rfl rfl rfl ?_
                refine g_goto 78 dX9_judge_71 (by decide) ?_
                exact g_iret dX9_judge_78 rfl rfl h
            · have h := h.2 q
              refine g_aload_n dX9_judge_55 rfl ?_
              refine h_geti (μ2.1 62 16) dX9_judge_56 fX9_145 rfl rfl rfl ?_
              refine g_goto 78 dX9_judge_59 (by decide) ?_
              exact g_iret dX9_judge_78 rfl rfl h
          · have h := h.2 q
            refine g_aload_n dX9_judge_43 rfl ?_
            refine h_geti (μ2.1 62 15) dX9_judge_44 fX9_142 rfl rfl rfl ?_
            refine g_goto 78 dX9_judge_47 (by decide) ?_
            exact g_iret dX9_judge_78 rfl rfl h
        · have h := h.2 q
          refine g_iload_n dX9_judge_37 rfl ?_
          exact g_iret dX9_judge_38 rfl rfl h
  · have h := h.2 q
    refine g_bipush (-2) dX9_judge_12 (by decide) ?_
    exact g_iret dX9_judge_14 rfl rfl h
set_option maxRecDepth 20000 in
theorem eX9_refusal {d : Nat} {Q : Option sAV → sM → Prop} {μ : sM} (h : sCl sLL mX9_fault d [sR 62] μ (kI fun r1 μ1 => ((r1 < 0 → sCl sLL mX9_keepNow d [sR 62] μ1 (kV fun μ2 => sCl sLL mX9_goEvening d [sR 62] μ2 (kV fun μ3 => sG sLL mX9_refusal (d + 1) Q 20 [some (sR 62), some (sI 0)] [] μ3))) ∧ (¬ r1 < 0 → Q (some (sI (-5))) μ1)))) : sCl sLL mX9_refusal (d + 1) [sR 62] μ Q := by
  refine sG.loc (al2 := [some (sR 62), none]) (s_le_s (s_le_p s_le_0)) ?_
  refine g_aload_n dX9_refusal_0 rfl ?_
  refine g_callVi (mi2 := mX9_fault) (r := 62) (st := []) [] dX9_refusal_1 lX9_165 kX9_fault vX9_fault rfl rfl rfl (Nat.le_of_ble_eq_true rfl) (Nat.le_of_ble_eq_true rfl) (Nat.le_of_ble_eq_true rfl) rfl ?_
  refine sG.mono h (kI_mono fun r1 μ1 h => ?_)
  refine g_if_lt 10 dX9_refusal_4 (by decide) (fun q => ?_) (fun q => ?_)
  · have h := h.1 q
    refine g_aload_n dX9_refusal_10 rfl ?_
    refine g_callVv (mi2 := mX9_keepNow) (r := 62) (st := []) [] dX9_refusal_11 lX9_169 kX9_keepNow vX9_keepNow rfl rfl rfl (Nat.le_of_ble_eq_true rfl) (Nat.le_of_ble_eq_true rfl) (Nat.le_of_ble_eq_true rfl) rfl ?_
    refine sG.mono h (kV_mono fun μ2 h => ?_)
    refine g_aload_n dX9_refusal_14 rfl ?_
    refine g_callVv (mi2 := mX9_goEvening) (r := 62) (st := []) [] dX9_refusal_15 lX9_172 kX9_goEvening vX9_goEvening rfl rfl rfl (Nat.le_of_ble_eq_true rfl) (Nat.le_of_ble_eq_true rfl) (Nat.le_of_ble_eq_true rfl) rfl ?_
    refine sG.mono h (kV_mono fun μ3 h => ?_)
    refine g_iconst 0 dX9_refusal_18 (by decide) ?_
    refine g_istore_n [some (sR 62), some (sI 0)] dX9_refusal_19 rfl (by decide) rfl ?_
    exact sG.loc (s_le_s (s_le_s s_le_0)) h
  · have h := h.2 q
    refine g_bipush (-5) dX9_refusal_7 (by decide) ?_
    exact g_iret dX9_refusal_9 rfl rfl h
set_option maxRecDepth 20000 in
theorem sX9_refusal_20 {d : Nat} {Q : Option sAV → sM → Prop} {μ : sM} {x1 : Int32} (h : ((7 ≤ x1 → sCl sLL mX9_putBack d [sR 62] μ (kV fun μ1 => (((μ1.1 62 15) < 0 → Q (some (sI (-6))) μ1) ∧ (¬ (μ1.1 62 15) < 0 → Q (some (sI (-3))) μ1)))) ∧ (¬ 7 ≤ x1 → sCl sLL mX9_at d [sI 3, sI x1] μ (kI fun r1 μ1 => (vp_in r1 28 ∧ (vp_in x1 7 ∧ sG sLL mX9_refusal (d + 1) Q 20 [some (sR 62), some (sI (x1 + 1))] [] (s_u (s_u μ1 76 (x1.toNatClampNeg) (μ1.1 63 r1.toNatClampNeg)) 77 (x1.toNatClampNeg) (μ1.1 64 x1.toNatClampNeg)))))))) : sG sLL mX9_refusal (d + 1) Q 20 [some (sR 62), some (sI x1)] [] μ := by
  refine g_iload_n dX9_refusal_20 rfl ?_
  refine g_bipush 7 dX9_refusal_21 (by decide) ?_
  refine g_icmp_ge 60 dX9_refusal_23 (by decide) (fun q => ?_) (fun q => ?_)
  · have h := h.1 q
    refine g_aload_n dX9_refusal_60 rfl ?_
    refine g_callVv (mi2 := mX9_putBack) (r := 62) (st := []) [] dX9_refusal_61 lX9_175 kX9_putBack vX9_putBack rfl rfl rfl (Nat.le_of_ble_eq_true rfl) (Nat.le_of_ble_eq_true rfl) (Nat.le_of_ble_eq_true rfl) rfl ?_
    refine sG.mono h (kV_mono fun μ1 h => ?_)
    refine g_aload_n dX9_refusal_64 rfl ?_
    refine h_geti (μ1.1 62 15) dX9_refusal_65 fX9_142 rfl rfl rfl ?_
    refine g_if_lt 76 dX9_refusal_68 (by decide) (fun q => ?_) (fun q => ?_)
    · have h := h.1 q
      refine g_bipush (-6) dX9_refusal_76 (by decide) ?_
      exact g_iret dX9_refusal_78 rfl rfl h
    · have h := h.2 q
      refine g_bipush (-3) dX9_refusal_71 (by decide) ?_
      refine g_goto 78 dX9_refusal_73 (by decide) ?_
      exact g_iret dX9_refusal_78 rfl rfl h
  · have h := h.2 q
    refine g_aload_n dX9_refusal_26 rfl ?_
    refine g_getr (r2 := 76) dX9_refusal_27 fX9_49 rfl rfl ?_
    refine g_iload_n dX9_refusal_30 rfl ?_
    refine g_aload_n dX9_refusal_31 rfl ?_
    refine g_getr (r2 := 63) dX9_refusal_32 fX9_7 rfl rfl ?_
    refine g_iconst 3 dX9_refusal_35 (by decide) ?_
    refine g_iload_n dX9_refusal_36 rfl ?_
    refine g_callSi (mi2 := mX9_at) (st := [sR 63, sI x1, sR 76]) [sI 3, sI x1] dX9_refusal_37 lX9_88 kX9_at vX9_at rfl (Nat.le_of_ble_eq_true rfl) (Nat.le_of_ble_eq_true rfl) (Nat.le_of_ble_eq_true rfl) rfl ?_
    refine sG.mono h (kI_mono fun r1 μ1 h => ?_)
    obtain ⟨v1, h⟩ := h
    refine h_iald (μ1.1 63 r1.toNatClampNeg) dX9_refusal_40 rfl rfl v1 rfl ?_
    obtain ⟨v2, h⟩ := h
    refine h_iast (x1.toNatClampNeg) dX9_refusal_41 rfl rfl v2 rfl ?_
    refine g_aload_n dX9_refusal_42 rfl ?_
    refine g_getr (r2 := 77) dX9_refusal_43 fX9_52 rfl rfl ?_
    refine g_iload_n dX9_refusal_46 rfl ?_
    refine g_aload_n dX9_refusal_47 rfl ?_
    refine g_getr (r2 := 64) dX9_refusal_48 fX9_13 rfl rfl ?_
    refine g_iload_n dX9_refusal_51 rfl ?_
    refine h_iald (μ1.1 64 x1.toNatClampNeg) dX9_refusal_52 rfl rfl v2 rfl ?_
    refine h_iast (x1.toNatClampNeg) dX9_refusal_53 rfl rfl v2 rfl ?_
    refine g_iinc (x1 + 1) [some (sR 62), some (sI (x1 + 1))] dX9_refusal_54 rfl rfl (by decide) rfl ?_
    refine g_goto 20 dX9_refusal_57 (by decide) ?_
    exact sG.loc (s_le_s (s_le_s s_le_0)) h
set_option maxRecDepth 20000 in
theorem eX9_keepNow {d : Nat} {Q : Option sAV → sM → Prop} {μ : sM} (h : sG sLL mX9_keepNow (d + 1) Q 2 [some (sR 62), some (sI 0)] [] μ) : sCl sLL mX9_keepNow (d + 1) [sR 62] μ Q := by
  refine sG.loc (al2 := [some (sR 62), none]) (s_le_s (s_le_p s_le_0)) ?_
  refine g_iconst 0 dX9_keepNow_0 (by decide) ?_
  refine g_istore_n [some (sR 62), some (sI 0)] dX9_keepNow_1 rfl (by decide) rfl ?_
  exact sG.loc (s_le_s (s_le_s s_le_0)) h
set_option maxRecDepth 20000 in
theorem sX9_keepNow_2 {d : Nat} {Q : Option sAV → sM → Prop} {μ : sM} {x1 : Int32} (h : ((7 ≤ x1 → Q none μ) ∧ (¬ 7 ≤ x1 → sCl sLL mX9_at d [sI 3, sI x1] μ (kI fun r1 μ1 => (vp_in r1 28 ∧ (vp_in x1 7 ∧ sG sLL mX9_keepNow (d + 1) Q 2 [some (sR 62), some (sI (x1 + 1))] [] (s_u (s_u μ1 71 (x1.toNatClampNeg) (μ1.1 63 r1.toNatClampNeg)) 72 (x1.toNatClampNeg) (μ1.1 64 x1.toNatClampNeg)))))))) : sG sLL mX9_keepNow (d + 1) Q 2 [some (sR 62), some (sI x1)] [] μ := by
  refine g_iload_n dX9_keepNow_2 rfl ?_
  refine g_bipush 7 dX9_keepNow_3 (by decide) ?_
  refine g_icmp_ge 42 dX9_keepNow_5 (by decide) (fun q => ?_) (fun q => ?_)
  · have h := h.1 q
    exact g_vret dX9_keepNow_42 rfl h
  · have h := h.2 q
    refine g_aload_n dX9_keepNow_8 rfl ?_
    refine g_getr (r2 := 71) dX9_keepNow_9 fX9_34 rfl rfl ?_
    refine g_iload_n dX9_keepNow_12 rfl ?_
    refine g_aload_n dX9_keepNow_13 rfl ?_
    refine g_getr (r2 := 63) dX9_keepNow_14 fX9_7 rfl rfl ?_
    refine g_iconst 3 dX9_keepNow_17 (by decide) ?_
    refine g_iload_n dX9_keepNow_18 rfl ?_
    refine g_callSi (mi2 := mX9_at) (st := [sR 63, sI x1, sR 71]) [sI 3, sI x1] dX9_keepNow_19 lX9_88 kX9_at vX9_at rfl (Nat.le_of_ble_eq_true rfl) (Nat.le_of_ble_eq_true rfl) (Nat.le_of_ble_eq_true rfl) rfl ?_
    refine sG.mono h (kI_mono fun r1 μ1 h => ?_)
    obtain ⟨v1, h⟩ := h
    refine h_iald (μ1.1 63 r1.toNatClampNeg) dX9_keepNow_22 rfl rfl v1 rfl ?_
    obtain ⟨v2, h⟩ := h
    refine h_iast (x1.toNatClampNeg) dX9_keepNow_23 rfl rfl v2 rfl ?_
    refine g_aload_n dX9_keepNow_24 rfl ?_
    refine g_getr (r2 := 72) dX9_keepNow_25 fX9_37 rfl rfl ?_
    refine g_iload_n dX9_keepNow_28 rfl ?_
    refine g_aload_n dX9_keepNow_29 rfl ?_
    refine g_getr (r2 := 64) dX9_keepNow_30 fX9_13 rfl rfl ?_
    refine g_iload_n dX9_keepNow_33 rfl ?_
    refine h_iald (μ1.1 64 x1.toNatClampNeg) dX9_keepNow_34 rfl rfl v2 rfl ?_
    refine h_iast (x1.toNatClampNeg) dX9_keepNow_35 rfl rfl v2 rfl ?_
    refine g_iinc (x1 + 1) [some (sR 62), some (sI (x1 + 1))] dX9_keepNow_36 rfl rfl (by decide) rfl ?_
    refine g_goto 2 dX9_keepNow_39 (by decide) ?_
    exact sG.loc (s_le_s (s_le_s s_le_0)) h
set_option maxRecDepth 20000 in
theorem eX9_goEvening {d : Nat} {Q : Option sAV → sM → Prop} {μ : sM} (h : sG sLL mX9_goEvening (d + 1) Q 30 [some (sR 62), some (sI 0), none] [] (s_u (s_u (s_u (s_u (s_u μ 62 15 (-6)) 62 16 (-6)) 62 17 0) 62 12 0) 62 11 (-6))) : sCl sLL mX9_goEvening (d + 1) [sR 62] μ Q := by
  refine sG.loc (al2 := [some (sR 62), none, none]) (s_le_s (s_le_p (s_le_p s_le_0))) ?_
  refine g_aload_n dX9_goEvening_0 rfl ?_
  refine g_bipush (-6) dX9_goEvening_1 (by decide) ?_
  refine g_puti dX9_goEvening_3 fX9_142 rfl rfl rfl rfl ?_
  refine g_aload_n dX9_goEvening_6 rfl ?_
  refine g_bipush (-6) dX9_goEvening_7 (by decide) ?_
  refine g_puti dX9_goEvening_9 fX9_145 rfl rfl rfl rfl ?_
  refine g_aload_n dX9_goEvening_12 rfl ?_
  refine g_iconst 0 dX9_goEvening_13 (by decide) ?_
  refine g_puti dX9_goEvening_14 fX9_148 rfl rfl rfl rfl ?_
  refine g_aload_n dX9_goEvening_17 rfl ?_
  refine g_iconst 0 dX9_goEvening_18 (by decide) ?_
  refine g_puti dX9_goEvening_19 fX9_136 rfl rfl rfl rfl ?_
  refine g_aload_n dX9_goEvening_22 rfl ?_
  refine g_bipush (-6) dX9_goEvening_23 (by decide) ?_
  refine g_puti dX9_goEvening_25 fX9_127 rfl rfl rfl rfl ?_
  refine g_iconst 0 dX9_goEvening_28 (by decide) ?_
  refine g_istore_n [some (sR 62), some (sI 0), none] dX9_goEvening_29 rfl (by decide) rfl ?_
  exact sG.loc (s_le_s (s_le_s (s_le_n s_le_0))) h
set_option maxRecDepth 20000 in
theorem sX9_goEvening_30 {d : Nat} {Q : Option sAV → sM → Prop} {μ : sM} {x1 : Int32} (h : ((7 ≤ x1 → sG sLL mX9_goEvening (d + 1) Q 60 [some (sR 62), some (sI 0), none] [] μ) ∧ (¬ 7 ≤ x1 → (vp_in x1 7 ∧ sG sLL mX9_goEvening (d + 1) Q 30 [some (sR 62), some (sI (x1 + 1)), none] [] (s_u (s_u μ 74 (x1.toNatClampNeg) (-6)) 75 (x1.toNatClampNeg) (-6)))))) : sG sLL mX9_goEvening (d + 1) Q 30 [some (sR 62), some (sI x1), none] [] μ := by
  refine g_iload_n dX9_goEvening_30 rfl ?_
  refine g_bipush 7 dX9_goEvening_31 (by decide) ?_
  refine g_icmp_ge 58 dX9_goEvening_33 (by decide) (fun q => ?_) (fun q => ?_)
  · have h := h.1 q
    refine g_iconst 0 dX9_goEvening_58 (by decide) ?_
    refine g_istore_n [some (sR 62), some (sI 0), none] dX9_goEvening_59 rfl (by decide) rfl ?_
    exact sG.loc (s_le_s (s_le_s (s_le_n s_le_0))) h
  · have h := h.2 q
    refine g_aload_n dX9_goEvening_36 rfl ?_
    refine g_getr (r2 := 74) dX9_goEvening_37 fX9_43 rfl rfl ?_
    refine g_iload_n dX9_goEvening_40 rfl ?_
    refine g_bipush (-6) dX9_goEvening_41 (by decide) ?_
    obtain ⟨v1, h⟩ := h
    refine h_iast (x1.toNatClampNeg) dX9_goEvening_43 rfl rfl v1 rfl ?_
    refine g_aload_n dX9_goEvening_44 rfl ?_
    refine g_getr (r2 := 75) dX9_goEvening_45 fX9_46 rfl rfl ?_
    refine g_iload_n dX9_goEvening_48 rfl ?_
    refine g_bipush (-6) dX9_goEvening_49 (by decide) ?_
    refine h_iast (x1.toNatClampNeg) dX9_goEvening_51 rfl rfl v1 rfl ?_
    refine g_iinc (x1 + 1) [some (sR 62), some (sI (x1 + 1)), none] dX9_goEvening_52 rfl rfl (by decide) rfl ?_
    refine g_goto 30 dX9_goEvening_55 (by decide) ?_
    exact sG.loc (s_le_s (s_le_s (s_le_n s_le_0))) h
set_option maxRecDepth 20000 in
theorem sX9_goEvening_60 {d : Nat} {Q : Option sAV → sM → Prop} {μ : sM} {x1 : Int32} (h : (((μ.1 62 10) ≤ x1 → Q none μ) ∧ (¬ (μ.1 62 10) ≤ x1 → ((0 ≤ (μ.1 62 15) → Q none μ) ∧ (¬ 0 ≤ (μ.1 62 15) → (vp_in x1 40 ∧ ((¬ (μ.1 70 x1.toNatClampNeg) = 46 → sCl sLL mX9_in d [sL (μ.1 70 x1.toNatClampNeg).toInt64, sL 48, sL 54] (s_u μ 73 (x1.toNatClampNeg) (-6)) (kI fun r1 μ1 => ((r1 = 0 → sCl sLL mX9_comeIn d [sR 62, sI x1, sI ((μ1.1 70 x1.toNatClampNeg) - 65)] μ1 (kV fun μ2 => sG sLL mX9_goEvening (d + 1) Q 60 [some (sR 62), some (sI (x1 + 1)), none] [] μ2)) ∧ (¬ r1 = 0 → sCl sLL mX9_at d [sI 3, sI ((μ1.1 70 x1.toNatClampNeg) - 48)] μ1 (kI fun r2 μ2 => sCl sLL mX9_at d [sI 1, sI ((μ1.1 70 x1.toNatClampNeg) - 48)] μ2 (kI fun r3 μ3 => (vp_in r3 28 ∧ (vp_in r2 28 ∧ sG sLL mX9_goEvening (d + 1) Q 60 [some (sR 62), some (sI (x1 + 1)), none] [] (s_u μ3 63 (r2.toNatClampNeg) (μ3.1 63 r3.toNatClampNeg)))))))))) ∧ ((μ.1 70 x1.toNatClampNeg) = 46 → sCl sLL mX9_passHour d [sR 62] (s_u μ 73 (x1.toNatClampNeg) (-6)) (kV fun μ1 => sG sLL mX9_goEvening (d + 1) Q 60 [some (sR 62), some (sI (x1 + 1)), none] [] μ1))))))))) : sG sLL mX9_goEvening (d + 1) Q 60 [some (sR 62), some (sI x1), none] [] μ := by
  refine g_iload_n dX9_goEvening_60 rfl ?_
  refine g_aload_n dX9_goEvening_61 rfl ?_
  refine h_geti (μ.1 62 10) dX9_goEvening_62 fX9_120 rfl rfl rfl ?_
  refine g_icmp_ge 173 dX9_goEvening_65 (by decide) (fun q => ?_) (fun q => ?_)
  · have h := h.1 q
    exact g_vret dX9_goEvening_173 rfl h
  · have h := h.2 q
    refine g_aload_n dX9_goEvening_68 rfl ?_
    refine h_geti (μ.1 62 15) dX9_goEvening_69 fX9_142 rfl rfl rfl ?_
    refine g_if_ge 173 dX9_goEvening_72 (by decide) (fun q => ?_) (fun q => ?_)
    · have h := h.1 q
      exact g_vret dX9_goEvening_173 rfl h
    · have h := h.2 q
      refine g_aload_n dX9_goEvening_75 rfl ?_
      refine g_getr (r2 := 73) dX9_goEvening_76 fX9_40 rfl rfl ?_
      refine g_iload_n dX9_goEvening_79 rfl ?_
      refine g_bipush (-6) dX9_goEvening_80 (by decide) ?_
      obtain ⟨v1, h⟩ := h
      refine h_iast (x1.toNatClampNeg) dX9_goEvening_82 rfl rfl v1 rfl ?_
      refine g_aload_n dX9_goEvening_83 rfl ?_
      refine g_getr (r2 := 70) dX9_goEvening_84 fX9_31 rfl rfl ?_
      refine g_iload_n dX9_goEvening_87 rfl ?_
      refine h_iald (μ.1 70 x1.toNatClampNeg) dX9_goEvening_88 rfl rfl v1 rfl ?_
      refine g_bipush 46 dX9_goEvening_89 (by decide) ?_
      refine g_icmp_ne 101 dX9_goEvening_91 (by decide) (fun q => ?_) (fun q => ?_)
      · have h := h.1 q
        refine g_aload_n dX9_goEvening_101 rfl ?_
        refine g_getr (r2 := 70) dX9_goEvening_102 fX9_31 rfl rfl ?_
        refine g_iload_n dX9_goEvening_105 rfl ?_
        refine h_iald (μ.1 70 x1.toNatClampNeg) dX9_goEvening_106 rfl rfl v1 rfl ?_
        refine g_i2l dX9_goEvening_107 ?_
        refine g_ldc2 dX9_goEvening_108 qX9_158 ?_
        refine g_ldc2 dX9_goEvening_111 qX9_160 ?_
        refine g_callSi (mi2 := mX9_in) (st := []) [sL (μ.1 70 x1.toNatClampNeg).toInt64, sL 48, sL 54] dX9_goEvening_114 lX9_92 kX9_in vX9_in rfl (Nat.le_of_ble_eq_true rfl) (Nat.le_of_ble_eq_true rfl) (Nat.le_of_ble_eq_true rfl) rfl ?_
        refine sG.mono h (kI_mono fun r1 μ1 h => ?_)
        refine g_if_eq 153 dX9_goEvening_117 (by decide) (fun q => ?_) (fun q => ?_)
        · have h := h.1 q
          refine g_aload_n dX9_goEvening_153 rfl ?_
          refine g_iload_n dX9_goEvening_154 rfl ?_
          refine g_aload_n dX9_goEvening_155 rfl ?_
          refine g_getr (r2 := 70) dX9_goEvening_156 fX9_31 rfl rfl ?_
          refine g_iload_n dX9_goEvening_159 rfl ?_
          refine h_iald (μ1.1 70 x1.toNatClampNeg) dX9_goEvening_160 rfl rfl v1 rfl ?_
          refine g_bipush 65 dX9_goEvening_161 (by decide) ?_
          refine g_isub dX9_goEvening_163 ?_
          refine g_callVv (mi2 := mX9_comeIn) (r := 62) (st := []) [sI x1, sI ((μ1.1 70 x1.toNatClampNeg) - 65)] dX9_goEvening_164 lX9_162 kX9_comeIn vX9_comeIn rfl rfl rfl (Nat.le_of_ble_eq_true rfl) (Nat.le_of_ble_eq_true rfl) (Nat.le_of_ble_eq_true rfl) rfl ?_
          refine sG.mono h (kV_mono fun μ2 h => ?_)
          refine g_iinc (x1 + 1) [some (sR 62), some (sI (x1 + 1)), none] dX9_goEvening_167 rfl rfl (by decide) rfl ?_
          refine g_goto 60 dX9_goEvening_170 (by decide) ?_
          exact sG.loc (s_le_s (s_le_s (s_le_n s_le_0))) h
        · have h := h.2 q
          refine g_aload_n dX9_goEvening_120 rfl ?_
          refine g_getr (r2 := 70) dX9_goEvening_121 fX9_31 rfl rfl ?_
          refine g_iload_n dX9_goEvening_124 rfl ?_
          refine h_iald (μ1.1 70 x1.toNatClampNeg) dX9_goEvening_125 rfl rfl v1 rfl ?_
          refine g_bipush 48 dX9_goEvening_126 (by decide) ?_
          refine g_isub dX9_goEvening_128 ?_
          refine g_istore_n [some (sR 62), some (sI x1), some (sI ((μ1.1 70 x1.toNatClampNeg) - 48))] dX9_goEvening_129 rfl (by decide) rfl ?_
          refine g_aload_n dX9_goEvening_130 rfl ?_
          refine g_getr (r2 := 63) dX9_goEvening_131 fX9_7 rfl rfl ?_
          refine g_iconst 3 dX9_goEvening_134 (by decide) ?_
          refine g_iload_n dX9_goEvening_135 rfl ?_
          refine g_callSi (mi2 := mX9_at) (st := [sR 63]) [sI 3, sI ((μ1.1 70 x1.toNatClampNeg) - 48)] dX9_goEvening_136 lX9_88 kX9_at vX9_at rfl (Nat.le_of_ble_eq_true rfl) (Nat.le_of_ble_eq_true rfl) (Nat.le_of_ble_eq_true rfl) rfl ?_
          refine sG.mono h (kI_mono fun r2 μ2 h => ?_)
          refine g_aload_n dX9_goEvening_139 rfl ?_
          refine g_getr (r2 := 63) dX9_goEvening_140 fX9_7 rfl rfl ?_
          refine g_iconst 1 dX9_goEvening_143 (by decide) ?_
          refine g_iload_n dX9_goEvening_144 rfl ?_
          refine g_callSi (mi2 := mX9_at) (st := [sR 63, sI r2, sR 63]) [sI 1, sI ((μ1.1 70 x1.toNatClampNeg) - 48)] dX9_goEvening_145 lX9_88 kX9_at vX9_at rfl (Nat.le_of_ble_eq_true rfl) (Nat.le_of_ble_eq_true rfl) (Nat.le_of_ble_eq_true rfl) rfl ?_
          refine sG.mono h (kI_mono fun r3 μ3 h => ?_)
          obtain ⟨v2, h⟩ := h
          refine h_iald (μ3.1 63 r3.toNatClampNeg) dX9_goEvening_148 rfl rfl v2 rfl ?_
          obtain ⟨v3, h⟩ := h
          refine h_iast (r2.toNatClampNeg) dX9_goEvening_149 rfl rfl v3 rfl ?_
          refine g_goto 167 dX9_goEvening_150 (by decide) ?_
          refine g_iinc (x1 + 1) [some (sR 62), some (sI (x1 + 1)), some (sI ((μ1.1 70 x1.toNatClampNeg) - 48))] dX9_goEvening_167 rfl rfl (by decide) rfl ?_
          refine g_goto 60 dX9_goEvening_170 (by decide) ?_
          exact sG.loc (s_le_s (s_le_s (s_le_n s_le_0))) h
      · have h := h.2 q
        refine g_aload_n dX9_goEvening_94 rfl ?_
        refine g_callVv (mi2 := mX9_passHour) (r := 62) (st := []) [] dX9_goEvening_95 lX9_155 kX9_passHour vX9_passHour rfl rfl rfl (Nat.le_of_ble_eq_true rfl) (Nat.le_of_ble_eq_true rfl) (Nat.le_of_ble_eq_true rfl) rfl ?_
        refine sG.mono h (kV_mono fun μ1 h => ?_)
        refine g_goto 167 dX9_goEvening_98 (by decide) ?_
        refine g_iinc (x1 + 1) [some (sR 62), some (sI (x1 + 1)), none] dX9_goEvening_167 rfl rfl (by decide) rfl ?_
        refine g_goto 60 dX9_goEvening_170 (by decide) ?_
        exact sG.loc (s_le_s (s_le_s (s_le_n s_le_0))) h
set_option maxRecDepth 20000 in
theorem eX9_passHour {d : Nat} {Q : Option sAV → sM → Prop} {μ : sM} (h : sG sLL mX9_passHour d Q 2 [some (sR 62), some (sI 0)] [] μ) : sCl sLL mX9_passHour d [sR 62] μ Q := by
  refine sG.loc (al2 := [some (sR 62), none]) (s_le_s (s_le_p s_le_0)) ?_
  refine g_iconst 0 dX9_passHour_0 (by decide) ?_
  refine g_istore_n [some (sR 62), some (sI 0)] dX9_passHour_1 rfl (by decide) rfl ?_
  exact sG.loc (s_le_s (s_le_s s_le_0)) h
set_option maxRecDepth 20000 in
theorem sX9_passHour_2 {d : Nat} {Q : Option sAV → sM → Prop} {μ : sM} {x1 : Int32} (h : (((μ.1 62 0) ≤ x1 → Q none μ) ∧ (¬ (μ.1 62 0) ≤ x1 → (vp_in x1 7 ∧ (((μ.1 64 x1.toNatClampNeg) ≤ 0 → sG sLL mX9_passHour d Q 2 [some (sR 62), some (sI (x1 + 1))] [] (s_u μ 64 (x1.toNatClampNeg) ((μ.1 64 x1.toNatClampNeg) - 0))) ∧ (¬ (μ.1 64 x1.toNatClampNeg) ≤ 0 → sG sLL mX9_passHour d Q 2 [some (sR 62), some (sI (x1 + 1))] [] (s_u μ 64 (x1.toNatClampNeg) ((μ.1 64 x1.toNatClampNeg) - 1)))))))) : sG sLL mX9_passHour d Q 2 [some (sR 62), some (sI x1)] [] μ := by
  refine g_iload_n dX9_passHour_2 rfl ?_
  refine g_aload_n dX9_passHour_3 rfl ?_
  refine h_geti (μ.1 62 0) dX9_passHour_4 fX9_84 rfl rfl rfl ?_
  refine g_icmp_ge 39 dX9_passHour_7 (by decide) (fun q => ?_) (fun q => ?_)
  · have h := h.1 q
    exact g_vret dX9_passHour_39 rfl h
  · have h := h.2 q
    refine g_aload_n dX9_passHour_10 rfl ?_
    refine g_getr (r2 := 64) dX9_passHour_11 fX9_13 rfl rfl ?_
    refine g_iload_n dX9_passHour_14 rfl ?_
    refine g_dup2 dX9_passHour_15 ?_
    obtain ⟨v1, h⟩ := h
    refine h_iald (μ.1 64 x1.toNatClampNeg) dX9_passHour_16 rfl rfl v1 rfl ?_
    refine g_aload_n dX9_passHour_17 rfl ?_
    refine g_getr (r2 := 64) dX9_passHour_18 fX9_13 rfl rfl ?_
    refine g_iload_n dX9_passHour_21 rfl ?_
    refine h_iald (μ.1 64 x1.toNatClampNeg) dX9_passHour_22 rfl rfl v1 rfl ?_
    refine g_if_le 30 dX9_passHour_23 (by decide) (fun q => ?_) (fun q => ?_)
    · have h := h.1 q
      refine g_iconst 0 dX9_passHour_30 (by decide) ?_
      refine g_isub dX9_passHour_31 ?_
      refine h_iast (x1.toNatClampNeg) dX9_passHour_32 rfl rfl v1 rfl ?_
      refine g_iinc (x1 + 1) [some (sR 62), some (sI (x1 + 1))] dX9_passHour_33 rfl rfl (by decide) rfl ?_
      refine g_goto 2 dX9_passHour_36 (by decide) ?_
      exact sG.loc (s_le_s (s_le_s s_le_0)) h
    · have h := h.2 q
      refine g_iconst 1 dX9_passHour_26 (by decide) ?_
      refine g_goto 31 dX9_passHour_27 (by decide) ?_
      refine g_isub dX9_passHour_31 ?_
      refine h_iast (x1.toNatClampNeg) dX9_passHour_32 rfl rfl v1 rfl ?_
      refine g_iinc (x1 + 1) [some (sR 62), some (sI (x1 + 1))] dX9_passHour_33 rfl rfl (by decide) rfl ?_
      refine g_goto 2 dX9_passHour_36 (by decide) ?_
      exact sG.loc (s_le_s (s_le_s s_le_0)) h
set_option maxRecDepth 20000 in
theorem eX9_comeIn {d : Nat} {Q : Option sAV → sM → Prop} {μ : sM} {a1 : Int32} {a2 : Int32} (h : sCl sLL mX9_isThere d [sR 62, sI a2] μ (kI fun r1 μ1 => ((r1 = 0 → sCl sLL mX9_isThere d [sR 62, sI a2] (s_u μ1 62 15 a1) (kI fun r2 μ2 => ((r2 = 0 → Q none (s_u μ2 62 16 1)) ∧ (¬ r2 = 0 → Q none (s_u μ2 62 16 2))))) ∧ (¬ r1 = 0 → sCl sLL mX9_taken d [sR 62, sI a2] μ1 (kI fun r2 μ2 => ((0 ≤ r2 → (vp_in a1 40 ∧ (vp_in r2 7 ∧ ((0 ≤ (μ2.1 74 r2.toNatClampNeg) → sCl sLL mX9_use d [sR 62, sI a2, sI r2] (s_u (s_u (s_u (s_u μ2 73 (a1.toNatClampNeg) r2) 74 (r2.toNatClampNeg) (μ2.1 74 r2.toNatClampNeg)) 75 (r2.toNatClampNeg) a2) 62 17 ((μ2.1 62 17) + 1)) (kV fun μ3 => Q none μ3)) ∧ (¬ 0 ≤ (μ2.1 74 r2.toNatClampNeg) → sCl sLL mX9_use d [sR 62, sI a2, sI r2] (s_u (s_u (s_u (s_u μ2 73 (a1.toNatClampNeg) r2) 74 (r2.toNatClampNeg) a2) 75 (r2.toNatClampNeg) a2) 62 17 ((μ2.1 62 17) + 1)) (kV fun μ3 => Q none μ3)))))) ∧ (¬ 0 ≤ r2 → sCl sLL mX9_isThere d [sR 62, sI a2] (s_u μ2 62 15 a1) (kI fun r3 μ3 => ((r3 = 0 → Q none (s_u μ3 62 16 1)) ∧ (¬ r3 = 0 → Q none (s_u μ3 62 16 2))))))))))) : sCl sLL mX9_comeIn (d + 1) [sR 62, sI a1, sI a2] μ Q := by
  refine sG.loc (al2 := [some (sR 62), some (sI a1), some (sI a2), none]) (s_le_s (s_le_s (s_le_s (s_le_p s_le_0)))) ?_
  refine g_aload_n dX9_comeIn_0 rfl ?_
  refine g_iload_n dX9_comeIn_1 rfl ?_
  refine g_callVi (mi2 := mX9_isThere) (r := 62) (st := []) [sI a2] dX9_comeIn_2 lX9_113 kX9_isThere vX9_isThere rfl rfl rfl (Nat.le_of_ble_eq_true rfl) (Nat.le_of_ble_eq_true rfl) (Nat.le_of_ble_eq_true rfl) rfl ?_
  refine sG.mono h (kI_mono fun r1 μ1 h => ?_)
  refine g_if_eq 16 dX9_comeIn_5 (by decide) (fun q => ?_) (fun q => ?_)
  · have h := h.1 q
    refine g_bipush (-6) dX9_comeIn_16 (by decide) ?_
    refine g_istore_n [some (sR 62), some (sI a1), some (sI a2), some (sI (-6))] dX9_comeIn_18 rfl (by decide) rfl ?_
    refine g_iload_n dX9_comeIn_19 rfl ?_
    refine g_if_ge 46 dX9_comeIn_20 (by decide) (fun q => absurd q (by decide)) (fun _ => ?_)
    refine g_aload_n dX9_comeIn_23 rfl ?_
    refine g_iload_n dX9_comeIn_24 rfl ?_
    refine g_puti dX9_comeIn_25 fX9_142 rfl rfl rfl rfl ?_
    refine g_aload_n dX9_comeIn_28 rfl ?_
    refine g_aload_n dX9_comeIn_29 rfl ?_
    refine g_iload_n dX9_comeIn_30 rfl ?_
    refine g_callVi (mi2 := mX9_isThere) (r := 62) (st := [sR 62]) [sI a2] dX9_comeIn_31 lX9_113 kX9_isThere vX9_isThere rfl rfl rfl (Nat.le_of_ble_eq_true rfl) (Nat.le_of_ble_eq_true rfl) (Nat.le_of_ble_eq_true rfl) rfl ?_
    refine sG.mono h (kI_mono fun r2 μ2 h => ?_)
    refine g_if_eq 41 dX9_comeIn_34 (by decide) (fun q => ?_) (fun q => ?_)
    · have h := h.1 q
      refine g_iconst 1 dX9_comeIn_41 (by decide) ?_
      refine g_puti dX9_comeIn_42 fX9_145 rfl rfl rfl rfl ?_
      exact g_vret dX9_comeIn_45 rfl h
    · have h := h.2 q
      refine g_iconst 2 dX9_comeIn_37 (by decide) ?_
      refine g_goto 42 dX9_comeIn_38 (by decide) ?_
      refine g_puti dX9_comeIn_42 fX9_145 rfl rfl rfl rfl ?_
      exact g_vret dX9_comeIn_45 rfl h
  · have h := h.2 q
    refine g_aload_n dX9_comeIn_8 rfl ?_
    refine g_iload_n dX9_comeIn_9 rfl ?_
    refine g_callVi (mi2 := mX9_taken) (r := 62) (st := []) [sI a2] dX9_comeIn_10 lX9_139 kX9_taken vX9_taken rfl rfl rfl (Nat.le_of_ble_eq_true rfl) (Nat.le_of_ble_eq_true rfl) (Nat.le_of_ble_eq_true rfl) rfl ?_
    refine sG.mono h (kI_mono fun r2 μ2 h => ?_)
    refine g_goto 18 dX9_comeIn_13 (by decide) ?_
    refine g_istore_n [some (sR 62), some (sI a1), some (sI a2), some (sI r2)] dX9_comeIn_18 rfl (by decide) rfl ?_
    refine g_iload_n dX9_comeIn_19 rfl ?_
    refine g_if_ge 46 dX9_comeIn_20 (by decide) (fun q => ?_) (fun q => ?_)
    · have h := h.1 q
      refine g_aload_n dX9_comeIn_46 rfl ?_
      refine g_getr (r2 := 73) dX9_comeIn_47 fX9_40 rfl rfl ?_
      refine g_iload_n dX9_comeIn_50 rfl ?_
      refine g_iload_n dX9_comeIn_51 rfl ?_
      obtain ⟨v1, h⟩ := h
      refine h_iast (a1.toNatClampNeg) dX9_comeIn_52 rfl rfl v1 rfl ?_
      refine g_aload_n dX9_comeIn_53 rfl ?_
      refine g_getr (r2 := 74) dX9_comeIn_54 fX9_43 rfl rfl ?_
      refine g_iload_n dX9_comeIn_57 rfl ?_
      refine g_aload_n dX9_comeIn_58 rfl ?_
      refine g_getr (r2 := 74) dX9_comeIn_59 fX9_43 rfl rfl ?_
      refine g_iload_n dX9_comeIn_62 rfl ?_
      obtain ⟨v2, h⟩ := h
      refine h_iald (μ2.1 74 r2.toNatClampNeg) dX9_comeIn_63 rfl rfl v2 rfl ?_
      refine g_if_ge 71 dX9_comeIn_64 (by decide) (fun q => ?_) (fun q => ?_)
      · have h := h.1 q
        refine g_aload_n dX9_comeIn_71 rfl ?_
        refine g_getr (r2 := 74) dX9_comeIn_72 fX9_43 rfl rfl ?_
        refine g_iload_n dX9_comeIn_75 rfl ?_
        refine h_iald (μ2.1 74 r2.toNatClampNeg) dX9_comeIn_76 rfl rfl v2 rfl ?_
        refine h_iast (r2.toNatClampNeg) dX9_comeIn_77 rfl rfl v2 rfl ?_
        refine g_aload_n dX9_comeIn_78 rfl ?_
        refine g_getr (r2 := 75) dX9_comeIn_79 fX9_46 rfl rfl ?_
        refine g_iload_n dX9_comeIn_82 rfl ?_
        refine g_iload_n dX9_comeIn_83 rfl ?_
        refine h_iast (r2.toNatClampNeg) dX9_comeIn_84 rfl rfl v2 rfl ?_
        refine g_aload_n dX9_comeIn_85 rfl ?_
        refine g_dup_r dX9_comeIn_86 ?_
        refine h_geti (μ2.1 62 17) dX9_comeIn_87 fX9_148 rfl rfl rfl ?_
        refine g_iconst 1 dX9_comeIn_90 (by decide) ?_
        refine g_iadd dX9_comeIn_91 ?_
        refine g_puti dX9_comeIn_92 fX9_148 rfl rfl rfl rfl ?_
        refine g_aload_n dX9_comeIn_95 rfl ?_
        refine g_iload_n dX9_comeIn_96 rfl ?_
        refine g_iload_n dX9_comeIn_97 rfl ?_
        refine g_callVv (mi2 := mX9_use) (r := 62) (st := []) [sI a2, sI r2] dX9_comeIn_98 lX9_151 kX9_use vX9_use rfl rfl rfl (Nat.le_of_ble_eq_true rfl) (Nat.le_of_ble_eq_true rfl) (Nat.le_of_ble_eq_true rfl) rfl ?_
        refine sG.mono h (kV_mono fun μ3 h => ?_)
        exact g_vret dX9_comeIn_101 rfl h
      · have h := h.2 q
        refine g_iload_n dX9_comeIn_67 rfl ?_
        refine g_goto 77 dX9_comeIn_68 (by decide) ?_
        refine h_iast (r2.toNatClampNeg) dX9_comeIn_77 rfl rfl v2 rfl ?_
        refine g_aload_n dX9_comeIn_78 rfl ?_
        refine g_getr (r2 := 75) dX9_comeIn_79 fX9_46 rfl rfl ?_
        refine g_iload_n dX9_comeIn_82 rfl ?_
        refine g_iload_n dX9_comeIn_83 rfl ?_
        refine h_iast (r2.toNatClampNeg) dX9_comeIn_84 rfl rfl v2 rfl ?_
        refine g_aload_n dX9_comeIn_85 rfl ?_
        refine g_dup_r dX9_comeIn_86 ?_
        refine h_geti (μ2.1 62 17) dX9_comeIn_87 fX9_148 rfl rfl rfl ?_
        refine g_iconst 1 dX9_comeIn_90 (by decide) ?_
        refine g_iadd dX9_comeIn_91 ?_
        refine g_puti dX9_comeIn_92 fX9_148 rfl rfl rfl rfl ?_
        refine g_aload_n dX9_comeIn_95 rfl ?_
        refine g_iload_n dX9_comeIn_96 rfl ?_
        refine g_iload_n dX9_comeIn_97 rfl ?_
        refine g_callVv (mi2 := mX9_use) (r := 62) (st := []) [sI a2, sI r2] dX9_comeIn_98 lX9_151 kX9_use vX9_use rfl rfl rfl (Nat.le_of_ble_eq_true rfl) (Nat.le_of_ble_eq_true rfl) (Nat.le_of_ble_eq_true rfl) rfl ?_
        refine sG.mono h (kV_mono fun μ3 h => ?_)
        exact g_vret dX9_comeIn_101 rfl h
    · have h := h.2 q
      refine g_aload_n dX9_comeIn_23 rfl ?_
      refine g_iload_n dX9_comeIn_24 rfl ?_
      refine g_puti dX9_comeIn_25 fX9_142 rfl rfl rfl rfl ?_
      refine g_aload_n dX9_comeIn_28 rfl ?_
      refine g_aload_n dX9_comeIn_29 rfl ?_
      refine g_iload_n dX9_comeIn_30 rfl ?_
      refine g_callVi (mi2 := mX9_isThere) (r := 62) (st := [sR 62]) [sI a2] dX9_comeIn_31 lX9_113 kX9_isThere vX9_isThere rfl rfl rfl (Nat.le_of_ble_eq_true rfl) (Nat.le_of_ble_eq_true rfl) (Nat.le_of_ble_eq_true rfl) rfl ?_
      refine sG.mono h (kI_mono fun r3 μ3 h => ?_)
      refine g_if_eq 41 dX9_comeIn_34 (by decide) (fun q => ?_) (fun q => ?_)
      · have h := h.1 q
        refine g_iconst 1 dX9_comeIn_41 (by decide) ?_
        refine g_puti dX9_comeIn_42 fX9_145 rfl rfl rfl rfl ?_
        exact g_vret dX9_comeIn_45 rfl h
      · have h := h.2 q
        refine g_iconst 2 dX9_comeIn_37 (by decide) ?_
        refine g_goto 42 dX9_comeIn_38 (by decide) ?_
        refine g_puti dX9_comeIn_42 fX9_145 rfl rfl rfl rfl ?_
        exact g_vret dX9_comeIn_45 rfl h
set_option maxRecDepth 20000 in
theorem eX9_taken {d : Nat} {Q : Option sAV → sM → Prop} {μ : sM} {a1 : Int32} (h : sG sLL mX9_taken (d + 1) Q 5 [some (sR 62), some (sI a1), some (sI (-6)), some (sI 0), none] [] μ) : sCl sLL mX9_taken (d + 1) [sR 62, sI a1] μ Q := by
  refine sG.loc (al2 := [some (sR 62), some (sI a1), none, none, none]) (s_le_s (s_le_s (s_le_p (s_le_p (s_le_p s_le_0))))) ?_
  refine g_bipush (-6) dX9_taken_0 (by decide) ?_
  refine g_istore_n [some (sR 62), some (sI a1), some (sI (-6)), none, none] dX9_taken_2 rfl (by decide) rfl ?_
  refine g_iconst 0 dX9_taken_3 (by decide) ?_
  refine g_istore_n [some (sR 62), some (sI a1), some (sI (-6)), some (sI 0), none] dX9_taken_4 rfl (by decide) rfl ?_
  exact sG.loc (s_le_s (s_le_s (s_le_s (s_le_s (s_le_n s_le_0))))) h
set_option maxRecDepth 20000 in
theorem sX9_taken_5 {d : Nat} {Q : Option sAV → sM → Prop} {μ : sM} {x1 : Int32} {x2 : Int32} {x3 : Int32} (h : (((μ.1 62 0) ≤ x3 → Q (some (sI x2)) μ) ∧ (¬ (μ.1 62 0) ≤ x3 → sCl sLL mX9_isPassed d [sR 62, sI x3] μ (kI fun r1 μ1 => ((¬ r1 = 0 → sG sLL mX9_taken (d + 1) Q 5 [some (sR 62), some (sI x1), some (sI x2), some (sI (x3 + 1)), none] [] μ1) ∧ (r1 = 0 → ((x2 < 0 → sG sLL mX9_taken (d + 1) Q 5 [some (sR 62), some (sI x1), some (sI x3), some (sI (x3 + 1)), none] [] μ1) ∧ (¬ x2 < 0 → sCl sLL mX9_likes d [sR 62, sI x1, sI x3] μ1 (kI fun r2 μ2 => sCl sLL mX9_likes d [sR 62, sI x1, sI x2] μ2 (kI fun r3 μ3 => ((r2 ≤ r3 → sG sLL mX9_taken (d + 1) Q 5 [some (sR 62), some (sI x1), some (sI x2), some (sI (x3 + 1)), none] [] μ3) ∧ (¬ r2 ≤ r3 → sG sLL mX9_taken (d + 1) Q 5 [some (sR 62), some (sI x1), some (sI x3), some (sI (x3 + 1)), none] [] μ3)))))))))))) : sG sLL mX9_taken (d + 1) Q 5 [some (sR 62), some (sI x1), some (sI x2), some (sI x3), none] [] μ := by
  refine g_iload_n dX9_taken_5 rfl ?_
  refine g_aload_n dX9_taken_6 rfl ?_
  refine h_geti (μ.1 62 0) dX9_taken_7 fX9_84 rfl rfl rfl ?_
  refine g_icmp_ge 64 dX9_taken_10 (by decide) (fun q => ?_) (fun q => ?_)
  · have h := h.1 q
    refine g_iload_n dX9_taken_64 rfl ?_
    exact g_iret dX9_taken_65 rfl rfl h
  · have h := h.2 q
    refine g_aload_n dX9_taken_13 rfl ?_
    refine g_iload_n dX9_taken_14 rfl ?_
    refine g_callVi (mi2 := mX9_isPassed) (r := 62) (st := []) [sI x3] dX9_taken_15 lX9_130 kX9_isPassed vX9_isPassed rfl rfl rfl (Nat.le_of_ble_eq_true rfl) (Nat.le_of_ble_eq_true rfl) (Nat.le_of_ble_eq_true rfl) rfl ?_
    refine sG.mono h (kI_mono fun r1 μ1 h => ?_)
    refine g_if_ne 25 dX9_taken_18 (by decide) (fun q => ?_) (fun q => ?_)
    · have h := h.1 q
      refine g_iconst 0 dX9_taken_25 (by decide) ?_
      refine g_istore [some (sR 62), some (sI x1), some (sI x2), some (sI x3), some (sI 0)] dX9_taken_26 (by decide) rfl ?_
      refine g_iload dX9_taken_28 rfl ?_
      refine g_if_eq 56 dX9_taken_30 (by decide) (fun _ => ?_) (fun q => absurd q (by decide))
      refine g_iload_n dX9_taken_56 rfl ?_
      refine g_istore_n [some (sR 62), some (sI x1), some (sI x2), some (sI x3), some (sI 0)] dX9_taken_57 rfl (by decide) rfl ?_
      refine g_iinc (x3 + 1) [some (sR 62), some (sI x1), some (sI x2), some (sI (x3 + 1)), some (sI 0)] dX9_taken_58 rfl rfl (by decide) rfl ?_
      refine g_goto 5 dX9_taken_61 (by decide) ?_
      exact sG.loc (s_le_s (s_le_s (s_le_s (s_le_s (s_le_n s_le_0))))) h
    · have h := h.2 q
      refine g_iconst 1 dX9_taken_21 (by decide) ?_
      refine g_goto 26 dX9_taken_22 (by decide) ?_
      refine g_istore [some (sR 62), some (sI x1), some (sI x2), some (sI x3), some (sI 1)] dX9_taken_26 (by decide) rfl ?_
      refine g_iload dX9_taken_28 rfl ?_
      refine g_if_eq 56 dX9_taken_30 (by decide) (fun q => absurd q (by decide)) (fun _ => ?_)
      refine g_iload_n dX9_taken_33 rfl ?_
      refine g_if_lt 52 dX9_taken_34 (by decide) (fun q => ?_) (fun q => ?_)
      · have h := h.1 q
        refine g_iload_n dX9_taken_52 rfl ?_
        refine g_goto 57 dX9_taken_53 (by decide) ?_
        refine g_istore_n [some (sR 62), some (sI x1), some (sI x3), some (sI x3), some (sI 1)] dX9_taken_57 rfl (by decide) rfl ?_
        refine g_iinc (x3 + 1) [some (sR 62), some (sI x1), some (sI x3), some (sI (x3 + 1)), some (sI 1)] dX9_taken_58 rfl rfl (by decide) rfl ?_
        refine g_goto 5 dX9_taken_61 (by decide) ?_
        exact sG.loc (s_le_s (s_le_s (s_le_s (s_le_s (s_le_n s_le_0))))) h
      · have h := h.2 q
        refine g_aload_n dX9_taken_37 rfl ?_
        refine g_iload_n dX9_taken_38 rfl ?_
        refine g_iload_n dX9_taken_39 rfl ?_
        refine g_callVi (mi2 := mX9_likes) (r := 62) (st := []) [sI x1, sI x3] dX9_taken_40 lX9_133 kX9_likes vX9_likes rfl rfl rfl (Nat.le_of_ble_eq_true rfl) (Nat.le_of_ble_eq_true rfl) (Nat.le_of_ble_eq_true rfl) rfl ?_
        refine sG.mono h (kI_mono fun r2 μ2 h => ?_)
        refine g_aload_n dX9_taken_43 rfl ?_
        refine g_iload_n dX9_taken_44 rfl ?_
        refine g_iload_n dX9_taken_45 rfl ?_
        refine g_callVi (mi2 := mX9_likes) (r := 62) (st := [sI r2]) [sI x1, sI x2] dX9_taken_46 lX9_133 kX9_likes vX9_likes rfl rfl rfl (Nat.le_of_ble_eq_true rfl) (Nat.le_of_ble_eq_true rfl) (Nat.le_of_ble_eq_true rfl) rfl ?_
        refine sG.mono h (kI_mono fun r3 μ3 h => ?_)
        refine g_icmp_le 56 dX9_taken_49 (by decide) (fun q => ?_) (fun q => ?_)
        · have h := h.1 q
          refine g_iload_n dX9_taken_56 rfl ?_
          refine g_istore_n [some (sR 62), some (sI x1), some (sI x2), some (sI x3), some (sI 1)] dX9_taken_57 rfl (by decide) rfl ?_
          refine g_iinc (x3 + 1) [some (sR 62), some (sI x1), some (sI x2), some (sI (x3 + 1)), some (sI 1)] dX9_taken_58 rfl rfl (by decide) rfl ?_
          refine g_goto 5 dX9_taken_61 (by decide) ?_
          exact sG.loc (s_le_s (s_le_s (s_le_s (s_le_s (s_le_n s_le_0))))) h
        · have h := h.2 q
          refine g_iload_n dX9_taken_52 rfl ?_
          refine g_goto 57 dX9_taken_53 (by decide) ?_
          refine g_istore_n [some (sR 62), some (sI x1), some (sI x3), some (sI x3), some (sI 1)] dX9_taken_57 rfl (by decide) rfl ?_
          refine g_iinc (x3 + 1) [some (sR 62), some (sI x1), some (sI x3), some (sI (x3 + 1)), some (sI 1)] dX9_taken_58 rfl rfl (by decide) rfl ?_
          refine g_goto 5 dX9_taken_61 (by decide) ?_
          exact sG.loc (s_le_s (s_le_s (s_le_s (s_le_s (s_le_n s_le_0))))) h
set_option maxRecDepth 20000 in
theorem eX9_isPassed {d : Nat} {Q : Option sAV → sM → Prop} {μ : sM} {a1 : Int32} (h : sCl sLL mX9_at d [sI 2, sI a1] μ (kI fun r1 μ1 => (vp_in r1 28 ∧ (((μ1.1 63 r1.toNatClampNeg) = 1 → Q (some (sI 1)) μ1) ∧ (¬ (μ1.1 63 r1.toNatClampNeg) = 1 → sCl sLL mX9_at d [sI 3, sI a1] μ1 (kI fun r2 μ2 => (vp_in r2 28 ∧ ((¬ (μ2.1 63 r2.toNatClampNeg) = 0 → Q (some (sI 0)) μ2) ∧ ((μ2.1 63 r2.toNatClampNeg) = 0 → Q (some (sI 1)) μ2))))))))) : sCl sLL mX9_isPassed (d + 1) [sR 62, sI a1] μ Q := by
  refine sG.loc (al2 := [some (sR 62), some (sI a1)]) (s_le_s (s_le_s s_le_0)) ?_
  refine g_aload_n dX9_isPassed_0 rfl ?_
  refine g_getr (r2 := 63) dX9_isPassed_1 fX9_7 rfl rfl ?_
  refine g_iconst 2 dX9_isPassed_4 (by decide) ?_
  refine g_iload_n dX9_isPassed_5 rfl ?_
  refine g_callSi (mi2 := mX9_at) (st := [sR 63]) [sI 2, sI a1] dX9_isPassed_6 lX9_88 kX9_at vX9_at rfl (Nat.le_of_ble_eq_true rfl) (Nat.le_of_ble_eq_true rfl) (Nat.le_of_ble_eq_true rfl) rfl ?_
  refine sG.mono h (kI_mono fun r1 μ1 h => ?_)
  obtain ⟨v1, h⟩ := h
  refine h_iald (μ1.1 63 r1.toNatClampNeg) dX9_isPassed_9 rfl rfl v1 rfl ?_
  refine g_iconst 1 dX9_isPassed_10 (by decide) ?_
  refine g_icmp_eq 27 dX9_isPassed_11 (by decide) (fun q => ?_) (fun q => ?_)
  · have h := h.1 q
    refine g_iconst 1 dX9_isPassed_27 (by decide) ?_
    refine g_goto 32 dX9_isPassed_28 (by decide) ?_
    exact g_iret dX9_isPassed_32 rfl (s_nb (Or.inr rfl)) h
  · have h := h.2 q
    refine g_aload_n dX9_isPassed_14 rfl ?_
    refine g_getr (r2 := 63) dX9_isPassed_15 fX9_7 rfl rfl ?_
    refine g_iconst 3 dX9_isPassed_18 (by decide) ?_
    refine g_iload_n dX9_isPassed_19 rfl ?_
    refine g_callSi (mi2 := mX9_at) (st := [sR 63]) [sI 3, sI a1] dX9_isPassed_20 lX9_88 kX9_at vX9_at rfl (Nat.le_of_ble_eq_true rfl) (Nat.le_of_ble_eq_true rfl) (Nat.le_of_ble_eq_true rfl) rfl ?_
    refine sG.mono h (kI_mono fun r2 μ2 h => ?_)
    obtain ⟨v2, h⟩ := h
    refine h_iald (μ2.1 63 r2.toNatClampNeg) dX9_isPassed_23 rfl rfl v2 rfl ?_
    refine g_if_ne 31 dX9_isPassed_24 (by decide) (fun q => ?_) (fun q => ?_)
    · have h := h.1 q
      refine g_iconst 0 dX9_isPassed_31 (by decide) ?_
      exact g_iret dX9_isPassed_32 rfl (s_nb (Or.inl rfl)) h
    · have h := h.2 q
      refine g_iconst 1 dX9_isPassed_27 (by decide) ?_
      refine g_goto 32 dX9_isPassed_28 (by decide) ?_
      exact g_iret dX9_isPassed_32 rfl (s_nb (Or.inr rfl)) h
set_option maxRecDepth 20000 in
theorem eX9_likes {d : Nat} {Q : Option sAV → sM → Prop} {μ : sM} {a1 : Int32} {a2 : Int32} (h : sCl sLL mX9_at d [sI 0, sI a2] μ (kI fun r1 μ1 => (vp_in r1 28 ∧ (vp_in a1 4 ∧ (((μ1.1 68 a1.toNatClampNeg) = 0 → ((0 ≤ ((μ1.1 63 r1.toNatClampNeg) - (μ1.1 66 a1.toNatClampNeg)) → Q (some (sI (-((μ1.1 63 r1.toNatClampNeg) - (μ1.1 66 a1.toNatClampNeg))))) μ1) ∧ (¬ 0 ≤ ((μ1.1 63 r1.toNatClampNeg) - (μ1.1 66 a1.toNatClampNeg)) → Q (some (sI ((μ1.1 63 r1.toNatClampNeg) - (μ1.1 66 a1.toNatClampNeg)))) μ1))) ∧ (¬ (μ1.1 68 a1.toNatClampNeg) = 0 → (((μ1.1 68 a1.toNatClampNeg) = 1 → sCl sLL mX9_at d [sI 3, sI a2] μ1 (kI fun r2 μ2 => (vp_in r2 28 ∧ Q (some (sI (μ2.1 63 r2.toNatClampNeg))) μ2))) ∧ (¬ (μ1.1 68 a1.toNatClampNeg) = 1 → (((μ1.1 68 a1.toNatClampNeg) = 2 → ((0 ≤ (μ1.1 62 11) → (¬ (μ1.1 62 0) = 0 ∧ Q (some (sI (-(s_rem ((a2 - ((μ1.1 62 11) + 1)) + (2 * (μ1.1 62 0))) (μ1.1 62 0))))) μ1)) ∧ (¬ 0 ≤ (μ1.1 62 11) → (¬ (μ1.1 62 0) = 0 ∧ Q (some (sI (-(s_rem ((a2 - 0) + (2 * (μ1.1 62 0))) (μ1.1 62 0))))) μ1)))) ∧ (¬ (μ1.1 68 a1.toNatClampNeg) = 2 → sCl sLL mX9_at d [sI 3, sI a2] μ1 (kI fun r2 μ2 => (vp_in r2 28 ∧ (((μ2.1 63 r2.toNatClampNeg) < (μ2.1 67 a1.toNatClampNeg) → Q (some (sI 0)) μ2) ∧ (¬ (μ2.1 63 r2.toNatClampNeg) < (μ2.1 67 a1.toNatClampNeg) → Q (some (sI 1)) μ2)))))))))))))) : sCl sLL mX9_likes (d + 1) [sR 62, sI a1, sI a2] μ Q := by
  refine sG.loc (al2 := [some (sR 62), some (sI a1), some (sI a2), none, none]) (s_le_s (s_le_s (s_le_s (s_le_p (s_le_p s_le_0))))) ?_
  refine g_aload_n dX9_likes_0 rfl ?_
  refine g_getr (r2 := 63) dX9_likes_1 fX9_7 rfl rfl ?_
  refine g_iconst 0 dX9_likes_4 (by decide) ?_
  refine g_iload_n dX9_likes_5 rfl ?_
  refine g_callSi (mi2 := mX9_at) (st := [sR 63]) [sI 0, sI a2] dX9_likes_6 lX9_88 kX9_at vX9_at rfl (Nat.le_of_ble_eq_true rfl) (Nat.le_of_ble_eq_true rfl) (Nat.le_of_ble_eq_true rfl) rfl ?_
  refine sG.mono h (kI_mono fun r1 μ1 h => ?_)
  obtain ⟨v1, h⟩ := h
  refine h_iald (μ1.1 63 r1.toNatClampNeg) dX9_likes_9 rfl rfl v1 rfl ?_
  refine g_aload_n dX9_likes_10 rfl ?_
  refine g_getr (r2 := 66) dX9_likes_11 fX9_19 rfl rfl ?_
  refine g_iload_n dX9_likes_14 rfl ?_
  obtain ⟨v2, h⟩ := h
  refine h_iald (μ1.1 66 a1.toNatClampNeg) dX9_likes_15 rfl rfl v2 rfl ?_
  refine g_isub dX9_likes_16 ?_
  refine g_istore_n [some (sR 62), some (sI a1), some (sI a2), some (sI ((μ1.1 63 r1.toNatClampNeg) - (μ1.1 66 a1.toNatClampNeg))), none] dX9_likes_17 rfl (by decide) rfl ?_
  refine g_aload_n dX9_likes_18 rfl ?_
  refine g_getr (r2 := 68) dX9_likes_19 fX9_25 rfl rfl ?_
  refine g_iload_n dX9_likes_22 rfl ?_
  refine h_iald (μ1.1 68 a1.toNatClampNeg) dX9_likes_23 rfl rfl v2 rfl ?_
  by_cases q0 : (μ1.1 68 a1.toNatClampNeg) = 0
  · have h := h.1 q0
    refine g_tin 52 0 dX9_likes_24 (by rw [q0]; decide) (by decide) rfl (by decide) ?_
    refine g_iload_n dX9_likes_52 rfl ?_
    refine g_if_ge 60 dX9_likes_53 (by decide) (fun q => ?_) (fun q => ?_)
    · have h := h.1 q
      refine g_iload_n dX9_likes_60 rfl ?_
      refine g_ineg dX9_likes_61 ?_
      exact g_iret dX9_likes_62 rfl rfl h
    · have h := h.2 q
      refine g_iload_n dX9_likes_56 rfl ?_
      refine g_goto 62 dX9_likes_57 (by decide) ?_
      exact g_iret dX9_likes_62 rfl rfl h
  · have h := h.2 q0
    by_cases q1 : (μ1.1 68 a1.toNatClampNeg) = 1
    · have h := h.1 q1
      refine g_tin 63 1 dX9_likes_24 (by rw [q1]; decide) (by decide) rfl (by decide) ?_
      refine g_aload_n dX9_likes_63 rfl ?_
      refine g_getr (r2 := 63) dX9_likes_64 fX9_7 rfl rfl ?_
      refine g_iconst 3 dX9_likes_67 (by decide) ?_
      refine g_iload_n dX9_likes_68 rfl ?_
      refine g_callSi (mi2 := mX9_at) (st := [sR 63]) [sI 3, sI a2] dX9_likes_69 lX9_88 kX9_at vX9_at rfl (Nat.le_of_ble_eq_true rfl) (Nat.le_of_ble_eq_true rfl) (Nat.le_of_ble_eq_true rfl) rfl ?_
      refine sG.mono h (kI_mono fun r2 μ2 h => ?_)
      obtain ⟨v3, h⟩ := h
      refine h_iald (μ2.1 63 r2.toNatClampNeg) dX9_likes_72 rfl rfl v3 rfl ?_
      exact g_iret dX9_likes_73 rfl rfl h
    · have h := h.2 q1
      by_cases q2 : (μ1.1 68 a1.toNatClampNeg) = 2
      · have h := h.1 q2
        refine g_tin 74 2 dX9_likes_24 (by rw [q2]; decide) (by decide) rfl (by decide) ?_
        refine g_aload_n dX9_likes_74 rfl ?_
        refine h_geti (μ1.1 62 11) dX9_likes_75 fX9_127 rfl rfl rfl ?_
        refine g_if_ge 85 dX9_likes_78 (by decide) (fun q => ?_) (fun q => ?_)
        · have h := h.1 q
          refine g_aload_n dX9_likes_85 rfl ?_
          refine h_geti (μ1.1 62 11) dX9_likes_86 fX9_127 rfl rfl rfl ?_
          refine g_iconst 1 dX9_likes_89 (by decide) ?_
          refine g_iadd dX9_likes_90 ?_
          refine g_istore [some (sR 62), some (sI a1), some (sI a2), some (sI ((μ1.1 63 r1.toNatClampNeg) - (μ1.1 66 a1.toNatClampNeg))), some (sI ((μ1.1 62 11) + 1))] dX9_likes_91 (by decide) rfl ?_
          refine g_iload_n dX9_likes_93 rfl ?_
          refine g_iload dX9_likes_94 rfl ?_
          refine g_isub dX9_likes_96 ?_
          refine g_iconst 2 dX9_likes_97 (by decide) ?_
          refine g_aload_n dX9_likes_98 rfl ?_
          refine h_geti (μ1.1 62 0) dX9_likes_99 fX9_84 rfl rfl rfl ?_
          refine g_imul dX9_likes_102 ?_
          refine g_iadd dX9_likes_103 ?_
          refine g_aload_n dX9_likes_104 rfl ?_
          refine h_geti (μ1.1 62 0) dX9_likes_105 fX9_84 rfl rfl rfl ?_
          obtain ⟨z3, h⟩ := h
          refine h_irem dX9_likes_108 z3 ?_
          refine g_ineg dX9_likes_109 ?_
          exact g_iret dX9_likes_110 rfl rfl h
        · have h := h.2 q
          refine g_iconst 0 dX9_likes_81 (by decide) ?_
          refine g_goto 91 dX9_likes_82 (by decide) ?_
          refine g_istore [some (sR 62), some (sI a1), some (sI a2), some (sI ((μ1.1 63 r1.toNatClampNeg) - (μ1.1 66 a1.toNatClampNeg))), some (sI 0)] dX9_likes_91 (by decide) rfl ?_
          refine g_iload_n dX9_likes_93 rfl ?_
          refine g_iload dX9_likes_94 rfl ?_
          refine g_isub dX9_likes_96 ?_
          refine g_iconst 2 dX9_likes_97 (by decide) ?_
          refine g_aload_n dX9_likes_98 rfl ?_
          refine h_geti (μ1.1 62 0) dX9_likes_99 fX9_84 rfl rfl rfl ?_
          refine g_imul dX9_likes_102 ?_
          refine g_iadd dX9_likes_103 ?_
          refine g_aload_n dX9_likes_104 rfl ?_
          refine h_geti (μ1.1 62 0) dX9_likes_105 fX9_84 rfl rfl rfl ?_
          obtain ⟨z3, h⟩ := h
          refine h_irem dX9_likes_108 z3 ?_
          refine g_ineg dX9_likes_109 ?_
          exact g_iret dX9_likes_110 rfl rfl h
      · have h := h.2 q2
        have n0 := lv_neT (a := 0) q0 (by decide)
        have n1 := lv_neT (a := 1) q1 (by decide)
        have n2 := lv_neT (a := 2) q2 (by decide)
        refine g_tout 111 dX9_likes_24 (by omega) (by decide) ?_
        refine g_aload_n dX9_likes_111 rfl ?_
        refine g_getr (r2 := 63) dX9_likes_112 fX9_7 rfl rfl ?_
        refine g_iconst 3 dX9_likes_115 (by decide) ?_
        refine g_iload_n dX9_likes_116 rfl ?_
        refine g_callSi (mi2 := mX9_at) (st := [sR 63]) [sI 3, sI a2] dX9_likes_117 lX9_88 kX9_at vX9_at rfl (Nat.le_of_ble_eq_true rfl) (Nat.le_of_ble_eq_true rfl) (Nat.le_of_ble_eq_true rfl) rfl ?_
        refine sG.mono h (kI_mono fun r2 μ2 h => ?_)
        obtain ⟨v3, h⟩ := h
        refine h_iald (μ2.1 63 r2.toNatClampNeg) dX9_likes_120 rfl rfl v3 rfl ?_
        refine g_aload_n dX9_likes_121 rfl ?_
        refine g_getr (r2 := 67) dX9_likes_122 fX9_22 rfl rfl ?_
        refine g_iload_n dX9_likes_125 rfl ?_
        refine h_iald (μ2.1 67 a1.toNatClampNeg) dX9_likes_126 rfl rfl v2 rfl ?_
        refine g_icmp_lt 134 dX9_likes_127 (by decide) (fun q => ?_) (fun q => ?_)
        · have h := h.1 q
          refine g_iconst 0 dX9_likes_134 (by decide) ?_
          exact g_iret dX9_likes_135 rfl rfl h
        · have h := h.2 q
          refine g_iconst 1 dX9_likes_130 (by decide) ?_
          refine g_goto 135 dX9_likes_131 (by decide) ?_
          exact g_iret dX9_likes_135 rfl rfl h
set_option maxRecDepth 20000 in
theorem eX9_use {d : Nat} {Q : Option sAV → sM → Prop} {μ : sM} {a1 : Int32} {a2 : Int32} (h : (vp_in a1 4 ∧ sCl sLL mX9_at d [sI 3, sI a2] μ (kI fun r1 μ1 => (vp_in r1 28 ∧ (((μ1.1 63 r1.toNatClampNeg) ≤ (μ.1 67 a1.toNatClampNeg) → sCl sLL mX9_at d [sI 3, sI a2] μ1 (kI fun r2 μ2 => (vp_in r2 28 ∧ sCl sLL mX9_at d [sI 3, sI a2] μ2 (kI fun r3 μ3 => (vp_in r3 28 ∧ (vp_in a2 7 ∧ Q none (s_u (s_u (s_u (s_u μ3 63 (r3.toNatClampNeg) ((μ3.1 63 r3.toNatClampNeg) - (μ2.1 63 r2.toNatClampNeg))) 62 12 ((μ3.1 62 12) + (μ2.1 63 r2.toNatClampNeg))) 64 (a2.toNatClampNeg) 9) 62 11 a2))))))) ∧ (¬ (μ1.1 63 r1.toNatClampNeg) ≤ (μ.1 67 a1.toNatClampNeg) → sCl sLL mX9_at d [sI 3, sI a2] μ1 (kI fun r2 μ2 => (vp_in r2 28 ∧ (vp_in a2 7 ∧ Q none (s_u (s_u (s_u (s_u μ2 63 (r2.toNatClampNeg) ((μ2.1 63 r2.toNatClampNeg) - (μ1.1 67 a1.toNatClampNeg))) 62 12 ((μ2.1 62 12) + (μ1.1 67 a1.toNatClampNeg))) 64 (a2.toNatClampNeg) 9) 62 11 a2)))))))))) : sCl sLL mX9_use (d + 1) [sR 62, sI a1, sI a2] μ Q := by
  refine sG.loc (al2 := [some (sR 62), some (sI a1), some (sI a2), none]) (s_le_s (s_le_s (s_le_s (s_le_p s_le_0)))) ?_
  refine g_aload_n dX9_use_0 rfl ?_
  refine g_getr (r2 := 67) dX9_use_1 fX9_22 rfl rfl ?_
  refine g_iload_n dX9_use_4 rfl ?_
  obtain ⟨v1, h⟩ := h
  refine h_iald (μ.1 67 a1.toNatClampNeg) dX9_use_5 rfl rfl v1 rfl ?_
  refine g_aload_n dX9_use_6 rfl ?_
  refine g_getr (r2 := 63) dX9_use_7 fX9_7 rfl rfl ?_
  refine g_iconst 3 dX9_use_10 (by decide) ?_
  refine g_iload_n dX9_use_11 rfl ?_
  refine g_callSi (mi2 := mX9_at) (st := [sR 63, sI (μ.1 67 a1.toNatClampNeg)]) [sI 3, sI a2] dX9_use_12 lX9_88 kX9_at vX9_at rfl (Nat.le_of_ble_eq_true rfl) (Nat.le_of_ble_eq_true rfl) (Nat.le_of_ble_eq_true rfl) rfl ?_
  refine sG.mono h (kI_mono fun r1 μ1 h => ?_)
  obtain ⟨v2, h⟩ := h
  refine h_iald (μ1.1 63 r1.toNatClampNeg) dX9_use_15 rfl rfl v2 rfl ?_
  refine g_icmp_ge 28 dX9_use_16 (by decide) (fun q => ?_) (fun q => ?_)
  · have h := h.1 q
    refine g_aload_n dX9_use_28 rfl ?_
    refine g_getr (r2 := 63) dX9_use_29 fX9_7 rfl rfl ?_
    refine g_iconst 3 dX9_use_32 (by decide) ?_
    refine g_iload_n dX9_use_33 rfl ?_
    refine g_callSi (mi2 := mX9_at) (st := [sR 63]) [sI 3, sI a2] dX9_use_34 lX9_88 kX9_at vX9_at rfl (Nat.le_of_ble_eq_true rfl) (Nat.le_of_ble_eq_true rfl) (Nat.le_of_ble_eq_true rfl) rfl ?_
    refine sG.mono h (kI_mono fun r2 μ2 h => ?_)
    obtain ⟨v3, h⟩ := h
    refine h_iald (μ2.1 63 r2.toNatClampNeg) dX9_use_37 rfl rfl v3 rfl ?_
    refine g_istore_n [some (sR 62), some (sI a1), some (sI a2), some (sI (μ2.1 63 r2.toNatClampNeg))] dX9_use_38 rfl (by decide) rfl ?_
    refine g_aload_n dX9_use_39 rfl ?_
    refine g_getr (r2 := 63) dX9_use_40 fX9_7 rfl rfl ?_
    refine g_iconst 3 dX9_use_43 (by decide) ?_
    refine g_iload_n dX9_use_44 rfl ?_
    refine g_callSi (mi2 := mX9_at) (st := [sR 63]) [sI 3, sI a2] dX9_use_45 lX9_88 kX9_at vX9_at rfl (Nat.le_of_ble_eq_true rfl) (Nat.le_of_ble_eq_true rfl) (Nat.le_of_ble_eq_true rfl) rfl ?_
    refine sG.mono h (kI_mono fun r3 μ3 h => ?_)
    refine g_dup2 dX9_use_48 ?_
    obtain ⟨v4, h⟩ := h
    refine h_iald (μ3.1 63 r3.toNatClampNeg) dX9_use_49 rfl rfl v4 rfl ?_
    refine g_iload_n dX9_use_50 rfl ?_
    refine g_isub dX9_use_51 ?_
    refine h_iast (r3.toNatClampNeg) dX9_use_52 rfl rfl v4 rfl ?_
    refine g_aload_n dX9_use_53 rfl ?_
    refine g_dup_r dX9_use_54 ?_
    refine h_geti (μ3.1 62 12) dX9_use_55 fX9_136 rfl rfl rfl ?_
    refine g_iload_n dX9_use_58 rfl ?_
    refine g_iadd dX9_use_59 ?_
    refine g_puti dX9_use_60 fX9_136 rfl rfl rfl rfl ?_
    refine g_aload_n dX9_use_63 rfl ?_
    refine g_getr (r2 := 64) dX9_use_64 fX9_13 rfl rfl ?_
    refine g_iload_n dX9_use_67 rfl ?_
    refine g_bipush 9 dX9_use_68 (by decide) ?_
    obtain ⟨v5, h⟩ := h
    refine h_iast (a2.toNatClampNeg) dX9_use_70 rfl rfl v5 rfl ?_
    refine g_aload_n dX9_use_71 rfl ?_
    refine g_iload_n dX9_use_72 rfl ?_
    refine g_puti dX9_use_73 fX9_127 rfl rfl rfl rfl ?_
    exact g_vret dX9_use_76 rfl h
  · have h := h.2 q
    refine g_aload_n dX9_use_19 rfl ?_
    refine g_getr (r2 := 67) dX9_use_20 fX9_22 rfl rfl ?_
    refine g_iload_n dX9_use_23 rfl ?_
    refine h_iald (μ1.1 67 a1.toNatClampNeg) dX9_use_24 rfl rfl v1 rfl ?_
    refine g_goto 38 dX9_use_25 (by decide) ?_
    refine g_istore_n [some (sR 62), some (sI a1), some (sI a2), some (sI (μ1.1 67 a1.toNatClampNeg))] dX9_use_38 rfl (by decide) rfl ?_
    refine g_aload_n dX9_use_39 rfl ?_
    refine g_getr (r2 := 63) dX9_use_40 fX9_7 rfl rfl ?_
    refine g_iconst 3 dX9_use_43 (by decide) ?_
    refine g_iload_n dX9_use_44 rfl ?_
    refine g_callSi (mi2 := mX9_at) (st := [sR 63]) [sI 3, sI a2] dX9_use_45 lX9_88 kX9_at vX9_at rfl (Nat.le_of_ble_eq_true rfl) (Nat.le_of_ble_eq_true rfl) (Nat.le_of_ble_eq_true rfl) rfl ?_
    refine sG.mono h (kI_mono fun r2 μ2 h => ?_)
    refine g_dup2 dX9_use_48 ?_
    obtain ⟨v3, h⟩ := h
    refine h_iald (μ2.1 63 r2.toNatClampNeg) dX9_use_49 rfl rfl v3 rfl ?_
    refine g_iload_n dX9_use_50 rfl ?_
    refine g_isub dX9_use_51 ?_
    refine h_iast (r2.toNatClampNeg) dX9_use_52 rfl rfl v3 rfl ?_
    refine g_aload_n dX9_use_53 rfl ?_
    refine g_dup_r dX9_use_54 ?_
    refine h_geti (μ2.1 62 12) dX9_use_55 fX9_136 rfl rfl rfl ?_
    refine g_iload_n dX9_use_58 rfl ?_
    refine g_iadd dX9_use_59 ?_
    refine g_puti dX9_use_60 fX9_136 rfl rfl rfl rfl ?_
    refine g_aload_n dX9_use_63 rfl ?_
    refine g_getr (r2 := 64) dX9_use_64 fX9_13 rfl rfl ?_
    refine g_iload_n dX9_use_67 rfl ?_
    refine g_bipush 9 dX9_use_68 (by decide) ?_
    obtain ⟨v4, h⟩ := h
    refine h_iast (a2.toNatClampNeg) dX9_use_70 rfl rfl v4 rfl ?_
    refine g_aload_n dX9_use_71 rfl ?_
    refine g_iload_n dX9_use_72 rfl ?_
    refine g_puti dX9_use_73 fX9_127 rfl rfl rfl rfl ?_
    exact g_vret dX9_use_76 rfl h
set_option maxRecDepth 20000 in
theorem eX9_putBack {d : Nat} {Q : Option sAV → sM → Prop} {μ : sM} (h : sG sLL mX9_putBack (d + 1) Q 2 [some (sR 62), some (sI 0)] [] μ) : sCl sLL mX9_putBack (d + 1) [sR 62] μ Q := by
  refine sG.loc (al2 := [some (sR 62), none]) (s_le_s (s_le_p s_le_0)) ?_
  refine g_iconst 0 dX9_putBack_0 (by decide) ?_
  refine g_istore_n [some (sR 62), some (sI 0)] dX9_putBack_1 rfl (by decide) rfl ?_
  exact sG.loc (s_le_s (s_le_s s_le_0)) h
set_option maxRecDepth 20000 in
theorem sX9_putBack_2 {d : Nat} {Q : Option sAV → sM → Prop} {μ : sM} {x1 : Int32} (h : ((7 ≤ x1 → Q none μ) ∧ (¬ 7 ≤ x1 → sCl sLL mX9_at d [sI 3, sI x1] μ (kI fun r1 μ1 => (vp_in x1 7 ∧ (vp_in r1 28 ∧ sG sLL mX9_putBack (d + 1) Q 2 [some (sR 62), some (sI (x1 + 1))] [] (s_u (s_u μ1 63 (r1.toNatClampNeg) (μ1.1 71 x1.toNatClampNeg)) 64 (x1.toNatClampNeg) (μ1.1 72 x1.toNatClampNeg)))))))) : sG sLL mX9_putBack (d + 1) Q 2 [some (sR 62), some (sI x1)] [] μ := by
  refine g_iload_n dX9_putBack_2 rfl ?_
  refine g_bipush 7 dX9_putBack_3 (by decide) ?_
  refine g_icmp_ge 42 dX9_putBack_5 (by decide) (fun q => ?_) (fun q => ?_)
  · have h := h.1 q
    exact g_vret dX9_putBack_42 rfl h
  · have h := h.2 q
    refine g_aload_n dX9_putBack_8 rfl ?_
    refine g_getr (r2 := 63) dX9_putBack_9 fX9_7 rfl rfl ?_
    refine g_iconst 3 dX9_putBack_12 (by decide) ?_
    refine g_iload_n dX9_putBack_13 rfl ?_
    refine g_callSi (mi2 := mX9_at) (st := [sR 63]) [sI 3, sI x1] dX9_putBack_14 lX9_88 kX9_at vX9_at rfl (Nat.le_of_ble_eq_true rfl) (Nat.le_of_ble_eq_true rfl) (Nat.le_of_ble_eq_true rfl) rfl ?_
    refine sG.mono h (kI_mono fun r1 μ1 h => ?_)
    refine g_aload_n dX9_putBack_17 rfl ?_
    refine g_getr (r2 := 71) dX9_putBack_18 fX9_34 rfl rfl ?_
    refine g_iload_n dX9_putBack_21 rfl ?_
    obtain ⟨v1, h⟩ := h
    refine h_iald (μ1.1 71 x1.toNatClampNeg) dX9_putBack_22 rfl rfl v1 rfl ?_
    obtain ⟨v2, h⟩ := h
    refine h_iast (r1.toNatClampNeg) dX9_putBack_23 rfl rfl v2 rfl ?_
    refine g_aload_n dX9_putBack_24 rfl ?_
    refine g_getr (r2 := 64) dX9_putBack_25 fX9_13 rfl rfl ?_
    refine g_iload_n dX9_putBack_28 rfl ?_
    refine g_aload_n dX9_putBack_29 rfl ?_
    refine g_getr (r2 := 72) dX9_putBack_30 fX9_37 rfl rfl ?_
    refine g_iload_n dX9_putBack_33 rfl ?_
    refine h_iald (μ1.1 72 x1.toNatClampNeg) dX9_putBack_34 rfl rfl v1 rfl ?_
    refine h_iast (x1.toNatClampNeg) dX9_putBack_35 rfl rfl v1 rfl ?_
    refine g_iinc (x1 + 1) [some (sR 62), some (sI (x1 + 1))] dX9_putBack_36 rfl rfl (by decide) rfl ?_
    refine g_goto 2 dX9_putBack_39 (by decide) ?_
    exact sG.loc (s_le_s (s_le_s s_le_0)) h
set_option maxRecDepth 20000 in
theorem eX9_used {d : Nat} {Q : Option sAV → sM → Prop} {μ : sM} {a1 : Int32} (h : sCl sLL mX9_refusal d [sR 62] μ (kI fun r1 μ1 => ((r1 = (-6) → sCl sLL mX9_in d [sL a1.toInt64, sL 0, sL ((μ1.1 62 10) - 1).toInt64] μ1 (kI fun r2 μ2 => ((r2 = 0 → Q (some (sI (-2))) μ2) ∧ (¬ r2 = 0 → (vp_in a1 40 ∧ Q (some (sI (μ2.1 73 a1.toNatClampNeg))) μ2))))) ∧ (¬ r1 = (-6) → Q (some (sI r1)) μ1)))) : sCl sLL mX9_used (d + 1) [sR 62, sI a1] μ Q := by
  refine sG.loc (al2 := [some (sR 62), some (sI a1), none]) (s_le_s (s_le_s (s_le_p s_le_0))) ?_
  refine g_aload_n dX9_used_0 rfl ?_
  refine g_callVi (mi2 := mX9_refusal) (r := 62) (st := []) [] dX9_used_1 lX9_178 kX9_refusal vX9_refusal rfl rfl rfl (Nat.le_of_ble_eq_true rfl) (Nat.le_of_ble_eq_true rfl) (Nat.le_of_ble_eq_true rfl) rfl ?_
  refine sG.mono h (kI_mono fun r1 μ1 h => ?_)
  refine g_istore_n [some (sR 62), some (sI a1), some (sI r1)] dX9_used_4 rfl (by decide) rfl ?_
  refine g_iload_n dX9_used_5 rfl ?_
  refine g_bipush (-6) dX9_used_6 (by decide) ?_
  refine g_icmp_eq 13 dX9_used_8 (by decide) (fun q => ?_) (fun q => ?_)
  · have h := h.1 q
    refine g_iload_n dX9_used_13 rfl ?_
    refine g_i2l dX9_used_14 ?_
    refine g_lconst 0 dX9_used_15 (by decide) ?_
    refine g_aload_n dX9_used_16 rfl ?_
    refine h_geti (μ1.1 62 10) dX9_used_17 fX9_120 rfl rfl rfl ?_
    refine g_iconst 1 dX9_used_20 (by decide) ?_
    refine g_isub dX9_used_21 ?_
    refine g_i2l dX9_used_22 ?_
    refine g_callSi (mi2 := mX9_in) (st := []) [sL a1.toInt64, sL 0, sL ((μ1.1 62 10) - 1).toInt64] dX9_used_23 lX9_92 kX9_in vX9_in rfl (Nat.le_of_ble_eq_true rfl) (Nat.le_of_ble_eq_true rfl) (Nat.le_of_ble_eq_true rfl) rfl ?_
    refine sG.mono h (kI_mono fun r2 μ2 h => ?_)
    refine g_if_eq 38 dX9_used_26 (by decide) (fun q => ?_) (fun q => ?_)
    · have h := h.1 q
      refine g_bipush (-2) dX9_used_38 (by decide) ?_
      exact g_iret dX9_used_40 rfl rfl h
    · have h := h.2 q
      refine g_aload_n dX9_used_29 rfl ?_
      refine g_getr (r2 := 73) dX9_used_30 fX9_40 rfl rfl ?_
      refine g_iload_n dX9_used_33 rfl ?_
      obtain ⟨v1, h⟩ := h
      refine h_iald (μ2.1 73 a1.toNatClampNeg) dX9_used_34 rfl rfl v1 rfl ?_
      refine g_goto 40 dX9_used_35 (by decide) ?_
      exact g_iret dX9_used_40 rfl rfl h
  · have h := h.2 q
    refine g_iload_n dX9_used_11 rfl ?_
    exact g_iret dX9_used_12 rfl rfl h
set_option maxRecDepth 20000 in
theorem eX9_behind {d : Nat} {Q : Option sAV → sM → Prop} {μ : sM} {a1 : Int32} {a2 : Int32} (h : sCl sLL mX9_isThing d [sR 62, sI a1] μ (kI fun r1 μ1 => ((¬ r1 = 0 → sCl sLL mX9_in d [sL a2.toInt64, sL 0, sL 3] μ1 (kI fun r2 μ2 => ((¬ r2 = 0 → sCl sLL mX9_refusal d [sR 62] μ2 (kI fun r3 μ3 => ((r3 = (-6) → ((¬ a2 = 0 → ((¬ a2 = 1 → ((¬ a2 = 2 → (vp_in a1 7 ∧ Q (some (sI (μ3.1 75 a1.toNatClampNeg))) μ3)) ∧ (a2 = 2 → (vp_in a1 7 ∧ Q (some (sI (μ3.1 74 a1.toNatClampNeg))) μ3)))) ∧ (a2 = 1 → (vp_in a1 7 ∧ Q (some (sI (μ3.1 77 a1.toNatClampNeg))) μ3)))) ∧ (a2 = 0 → (vp_in a1 7 ∧ Q (some (sI (μ3.1 76 a1.toNatClampNeg))) μ3)))) ∧ (¬ r3 = (-6) → Q (some (sI r3)) μ3)))) ∧ (r2 = 0 → Q (some (sI (-2))) μ2)))) ∧ (r1 = 0 → Q (some (sI (-1))) μ1)))) : sCl sLL mX9_behind (d + 1) [sR 62, sI a1, sI a2] μ Q := by
  refine sG.loc (al2 := [some (sR 62), some (sI a1), some (sI a2), none]) (s_le_s (s_le_s (s_le_s (s_le_p s_le_0)))) ?_
  refine g_aload_n dX9_behind_0 rfl ?_
  refine g_iload_n dX9_behind_1 rfl ?_
  refine g_callVi (mi2 := mX9_isThing) (r := 62) (st := []) [sI a1] dX9_behind_2 lX9_103 kX9_isThing vX9_isThing rfl rfl rfl (Nat.le_of_ble_eq_true rfl) (Nat.le_of_ble_eq_true rfl) (Nat.le_of_ble_eq_true rfl) rfl ?_
  refine sG.mono h (kI_mono fun r1 μ1 h => ?_)
  refine g_if_ne 10 dX9_behind_5 (by decide) (fun q => ?_) (fun q => ?_)
  · have h := h.1 q
    refine g_iload_n dX9_behind_10 rfl ?_
    refine g_i2l dX9_behind_11 ?_
    refine g_lconst 0 dX9_behind_12 (by decide) ?_
    refine g_ldc2 dX9_behind_13 qX9_96 ?_
    refine g_callSi (mi2 := mX9_in) (st := []) [sL a2.toInt64, sL 0, sL 3] dX9_behind_16 lX9_92 kX9_in vX9_in rfl (Nat.le_of_ble_eq_true rfl) (Nat.le_of_ble_eq_true rfl) (Nat.le_of_ble_eq_true rfl) rfl ?_
    refine sG.mono h (kI_mono fun r2 μ2 h => ?_)
    refine g_if_ne 25 dX9_behind_19 (by decide) (fun q => ?_) (fun q => ?_)
    · have h := h.1 q
      refine g_aload_n dX9_behind_25 rfl ?_
      refine g_callVi (mi2 := mX9_refusal) (r := 62) (st := []) [] dX9_behind_26 lX9_178 kX9_refusal vX9_refusal rfl rfl rfl (Nat.le_of_ble_eq_true rfl) (Nat.le_of_ble_eq_true rfl) (Nat.le_of_ble_eq_true rfl) rfl ?_
      refine sG.mono h (kI_mono fun r3 μ3 h => ?_)
      refine g_istore_n [some (sR 62), some (sI a1), some (sI a2), some (sI r3)] dX9_behind_29 rfl (by decide) rfl ?_
      refine g_iload_n dX9_behind_30 rfl ?_
      refine g_bipush (-6) dX9_behind_31 (by decide) ?_
      refine g_icmp_eq 38 dX9_behind_33 (by decide) (fun q => ?_) (fun q => ?_)
      · have h := h.1 q
        refine g_iload_n dX9_behind_38 rfl ?_
        refine g_if_ne 51 dX9_behind_39 (by decide) (fun q => ?_) (fun q => ?_)
        · have h := h.1 q
          refine g_iload_n dX9_behind_51 rfl ?_
          refine g_iconst 1 dX9_behind_52 (by decide) ?_
          refine g_icmp_ne 65 dX9_behind_53 (by decide) (fun q => ?_) (fun q => ?_)
          · have h := h.1 q
            refine g_iload_n dX9_behind_65 rfl ?_
            refine g_iconst 2 dX9_behind_66 (by decide) ?_
            refine g_icmp_ne 79 dX9_behind_67 (by decide) (fun q => ?_) (fun q => ?_)
            · have h := h.1 q
              refine g_aload_n dX9_behind_79 rfl ?_
              refine g_getr (r2 := 75) dX9_behind_80 fX9_46 rfl rfl ?_
              refine g_iload_n dX9_behind_83 rfl ?_
              obtain ⟨v1, h⟩ := h
              refine h_iald (μ3.1 75 a1.toNatClampNeg) dX9_behind_84 rfl rfl v1 rfl ?_
              exact g_iret dX9_behind_85 rfl rfl h
            · have h := h.2 q
              refine g_aload_n dX9_behind_70 rfl ?_
              refine g_getr (r2 := 74) dX9_behind_71 fX9_43 rfl rfl ?_
              refine g_iload_n dX9_behind_74 rfl ?_
              obtain ⟨v1, h⟩ := h
              refine h_iald (μ3.1 74 a1.toNatClampNeg) dX9_behind_75 rfl rfl v1 rfl ?_
              refine g_goto 85 dX9_behind_76 (by decide) ?_
              exact g_iret dX9_behind_85 rfl rfl h
          · have h := h.2 q
            refine g_aload_n dX9_behind_56 rfl ?_
            refine g_getr (r2 := 77) dX9_behind_57 fX9_52 rfl rfl ?_
            refine g_iload_n dX9_behind_60 rfl ?_
            obtain ⟨v1, h⟩ := h
            refine h_iald (μ3.1 77 a1.toNatClampNeg) dX9_behind_61 rfl rfl v1 rfl ?_
            refine g_goto 85 dX9_behind_62 (by decide) ?_
            exact g_iret dX9_behind_85 rfl rfl h
        · have h := h.2 q
          refine g_aload_n dX9_behind_42 rfl ?_
          refine g_getr (r2 := 76) dX9_behind_43 fX9_49 rfl rfl ?_
          refine g_iload_n dX9_behind_46 rfl ?_
          obtain ⟨v1, h⟩ := h
          refine h_iald (μ3.1 76 a1.toNatClampNeg) dX9_behind_47 rfl rfl v1 rfl ?_
          refine g_goto 85 dX9_behind_48 (by decide) ?_
          exact g_iret dX9_behind_85 rfl rfl h
      · have h := h.2 q
        refine g_iload_n dX9_behind_36 rfl ?_
        exact g_iret dX9_behind_37 rfl rfl h
    · have h := h.2 q
      refine g_bipush (-2) dX9_behind_22 (by decide) ?_
      exact g_iret dX9_behind_24 rfl rfl h
  · have h := h.2 q
    refine g_iconst (-1) dX9_behind_8 (by decide) ?_
    exact g_iret dX9_behind_9 rfl rfl h
set_option maxRecDepth 20000 in
theorem eX9_done {d : Nat} {Q : Option sAV → sM → Prop} {μ : sM} (h : sCl sLL mX9_refusal d [sR 62] μ (kI fun r1 μ1 => ((r1 = (-6) → sCl sLL mX9_goEvening d [sR 62] μ1 (kV fun μ2 => Q (some (sI (μ2.1 62 10))) (s_u μ2 62 10 0))) ∧ (¬ r1 = (-6) → Q (some (sI r1)) μ1)))) : sCl sLL mX9_done (d + 1) [sR 62] μ Q := by
  refine sG.loc (al2 := [some (sR 62), none, none]) (s_le_s (s_le_p (s_le_p s_le_0))) ?_
  refine g_aload_n dX9_done_0 rfl ?_
  refine g_callVi (mi2 := mX9_refusal) (r := 62) (st := []) [] dX9_done_1 lX9_178 kX9_refusal vX9_refusal rfl rfl rfl (Nat.le_of_ble_eq_true rfl) (Nat.le_of_ble_eq_true rfl) (Nat.le_of_ble_eq_true rfl) rfl ?_
  refine sG.mono h (kI_mono fun r1 μ1 h => ?_)
  refine g_istore_n [some (sR 62), some (sI r1), none] dX9_done_4 rfl (by decide) rfl ?_
  refine g_iload_n dX9_done_5 rfl ?_
  refine g_bipush (-6) dX9_done_6 (by decide) ?_
  refine g_icmp_eq 13 dX9_done_8 (by decide) (fun q => ?_) (fun q => ?_)
  · have h := h.1 q
    refine g_aload_n dX9_done_13 rfl ?_
    refine g_callVv (mi2 := mX9_goEvening) (r := 62) (st := []) [] dX9_done_14 lX9_172 kX9_goEvening vX9_goEvening rfl rfl rfl (Nat.le_of_ble_eq_true rfl) (Nat.le_of_ble_eq_true rfl) (Nat.le_of_ble_eq_true rfl) rfl ?_
    refine sG.mono h (kV_mono fun μ2 h => ?_)
    refine g_aload_n dX9_done_17 rfl ?_
    refine h_geti (μ2.1 62 10) dX9_done_18 fX9_120 rfl rfl rfl ?_
    refine g_istore_n [some (sR 62), some (sI r1), some (sI (μ2.1 62 10))] dX9_done_21 rfl (by decide) rfl ?_
    refine g_aload_n dX9_done_22 rfl ?_
    refine g_iconst 0 dX9_done_23 (by decide) ?_
    refine g_puti dX9_done_24 fX9_120 rfl rfl rfl rfl ?_
    refine g_iload_n dX9_done_27 rfl ?_
    exact g_iret dX9_done_28 rfl rfl h
  · have h := h.2 q
    refine g_iload_n dX9_done_11 rfl ?_
    exact g_iret dX9_done_12 rfl rfl h
set_option maxRecDepth 20000 in
theorem eX9_state {d : Nat} {Q : Option sAV → sM → Prop} {μ : sM} {a1 : Int32} {a2 : Int32} (h : sCl sLL mX9_isThing d [sR 62, sI a1] μ (kI fun r1 μ1 => ((¬ r1 = 0 → ((¬ a2 = 0 → ((¬ a2 = 1 → Q (some (sI (-2))) μ1) ∧ (a2 = 1 → (vp_in a1 7 ∧ Q (some (sI (μ1.1 64 a1.toNatClampNeg))) μ1)))) ∧ (a2 = 0 → sCl sLL mX9_at d [sI 3, sI a1] μ1 (kI fun r2 μ2 => (vp_in r2 28 ∧ Q (some (sI (μ2.1 63 r2.toNatClampNeg))) μ2))))) ∧ (r1 = 0 → Q (some (sI (-1))) μ1)))) : sCl sLL mX9_state (d + 1) [sR 62, sI a1, sI a2] μ Q := by
  refine sG.loc (al2 := [some (sR 62), some (sI a1), some (sI a2)]) (s_le_s (s_le_s (s_le_s s_le_0))) ?_
  refine g_aload_n dX9_state_0 rfl ?_
  refine g_iload_n dX9_state_1 rfl ?_
  refine g_callVi (mi2 := mX9_isThing) (r := 62) (st := []) [sI a1] dX9_state_2 lX9_103 kX9_isThing vX9_isThing rfl rfl rfl (Nat.le_of_ble_eq_true rfl) (Nat.le_of_ble_eq_true rfl) (Nat.le_of_ble_eq_true rfl) rfl ?_
  refine sG.mono h (kI_mono fun r1 μ1 h => ?_)
  refine g_if_ne 10 dX9_state_5 (by decide) (fun q => ?_) (fun q => ?_)
  · have h := h.1 q
    refine g_iload_n dX9_state_10 rfl ?_
    refine g_if_ne 27 dX9_state_11 (by decide) (fun q => ?_) (fun q => ?_)
    · have h := h.1 q
      refine g_iload_n dX9_state_27 rfl ?_
      refine g_iconst 1 dX9_state_28 (by decide) ?_
      refine g_icmp_ne 41 dX9_state_29 (by decide) (fun q => ?_) (fun q => ?_)
      · have h := h.1 q
        refine g_bipush (-2) dX9_state_41 (by decide) ?_
        exact g_iret dX9_state_43 rfl rfl h
      · have h := h.2 q
        refine g_aload_n dX9_state_32 rfl ?_
        refine g_getr (r2 := 64) dX9_state_33 fX9_13 rfl rfl ?_
        refine g_iload_n dX9_state_36 rfl ?_
        obtain ⟨v1, h⟩ := h
        refine h_iald (μ1.1 64 a1.toNatClampNeg) dX9_state_37 rfl rfl v1 rfl ?_
        refine g_goto 43 dX9_state_38 (by decide) ?_
        exact g_iret dX9_state_43 rfl rfl h
    · have h := h.2 q
      refine g_aload_n dX9_state_14 rfl ?_
      refine g_getr (r2 := 63) dX9_state_15 fX9_7 rfl rfl ?_
      refine g_iconst 3 dX9_state_18 (by decide) ?_
      refine g_iload_n dX9_state_19 rfl ?_
      refine g_callSi (mi2 := mX9_at) (st := [sR 63]) [sI 3, sI a1] dX9_state_20 lX9_88 kX9_at vX9_at rfl (Nat.le_of_ble_eq_true rfl) (Nat.le_of_ble_eq_true rfl) (Nat.le_of_ble_eq_true rfl) rfl ?_
      refine sG.mono h (kI_mono fun r2 μ2 h => ?_)
      obtain ⟨v1, h⟩ := h
      refine h_iald (μ2.1 63 r2.toNatClampNeg) dX9_state_23 rfl rfl v1 rfl ?_
      refine g_goto 43 dX9_state_24 (by decide) ?_
      exact g_iret dX9_state_43 rfl rfl h
  · have h := h.2 q
    refine g_iconst (-1) dX9_state_8 (by decide) ?_
    exact g_iret dX9_state_9 rfl rfl h
set_option maxRecDepth 20000 in
theorem eX9_eats {d : Nat} {Q : Option sAV → sM → Prop} {μ : sM} {a1 : Int32} (h : sCl sLL mX9_isThere d [sR 62, sI a1] μ (kI fun r1 μ1 => ((¬ r1 = 0 → sCl sLL mX9_taken d [sR 62, sI a1] (s_u μ1 62 11 (-6)) (kI fun r2 μ2 => Q (some (sI r2)) μ2)) ∧ (r1 = 0 → Q (some (sI (-1))) μ1)))) : sCl sLL mX9_eats (d + 1) [sR 62, sI a1] μ Q := by
  refine sG.loc (al2 := [some (sR 62), some (sI a1)]) (s_le_s (s_le_s s_le_0)) ?_
  refine g_aload_n dX9_eats_0 rfl ?_
  refine g_iload_n dX9_eats_1 rfl ?_
  refine g_callVi (mi2 := mX9_isThere) (r := 62) (st := []) [sI a1] dX9_eats_2 lX9_113 kX9_isThere vX9_isThere rfl rfl rfl (Nat.le_of_ble_eq_true rfl) (Nat.le_of_ble_eq_true rfl) (Nat.le_of_ble_eq_true rfl) rfl ?_
  refine sG.mono h (kI_mono fun r1 μ1 h => ?_)
  refine g_if_ne 10 dX9_eats_5 (by decide) (fun q => ?_) (fun q => ?_)
  · have h := h.1 q
    refine g_aload_n dX9_eats_10 rfl ?_
    refine g_bipush (-6) dX9_eats_11 (by decide) ?_
    refine g_puti dX9_eats_13 fX9_127 rfl rfl rfl rfl ?_
    refine g_aload_n dX9_eats_16 rfl ?_
    refine g_iload_n dX9_eats_17 rfl ?_
    refine g_callVi (mi2 := mX9_taken) (r := 62) (st := []) [sI a1] dX9_eats_18 lX9_139 kX9_taken vX9_taken rfl rfl rfl (Nat.le_of_ble_eq_true rfl) (Nat.le_of_ble_eq_true rfl) (Nat.le_of_ble_eq_true rfl) rfl ?_
    refine sG.mono h (kI_mono fun r2 μ2 h => ?_)
    exact g_iret dX9_eats_21 rfl rfl h
  · have h := h.2 q
    refine g_iconst (-1) dX9_eats_8 (by decide) ?_
    exact g_iret dX9_eats_9 rfl rfl h
set_option maxRecDepth 20000 in
theorem eX9_seen {d : Nat} {Q : Option sAV → sM → Prop} {μ : sM} {a1 : Int32} {a2 : Int32} (h : sCl sLL mX9_isThing d [sR 62, sI a1] μ (kI fun r1 μ1 => ((¬ r1 = 0 → sCl sLL mX9_in d [sL a2.toInt64, sL 0, sL 9] μ1 (kI fun r2 μ2 => ((¬ r2 = 0 → (vp_in a1 7 ∧ sCl sLL mX9_sights d [sR 62] (s_u μ2 65 (a1.toNatClampNeg) a2) (kI fun r3 μ3 => sCl sLL mX9_ones d [sI r3] μ3 (kI fun r4 μ4 => Q (some (sI r4)) μ4)))) ∧ (r2 = 0 → Q (some (sI (-2))) μ2)))) ∧ (r1 = 0 → Q (some (sI (-1))) μ1)))) : sCl sLL mX9_seen (d + 1) [sR 62, sI a1, sI a2] μ Q := by
  refine sG.loc (al2 := [some (sR 62), some (sI a1), some (sI a2)]) (s_le_s (s_le_s (s_le_s s_le_0))) ?_
  refine g_aload_n dX9_seen_0 rfl ?_
  refine g_iload_n dX9_seen_1 rfl ?_
  refine g_callVi (mi2 := mX9_isThing) (r := 62) (st := []) [sI a1] dX9_seen_2 lX9_103 kX9_isThing vX9_isThing rfl rfl rfl (Nat.le_of_ble_eq_true rfl) (Nat.le_of_ble_eq_true rfl) (Nat.le_of_ble_eq_true rfl) rfl ?_
  refine sG.mono h (kI_mono fun r1 μ1 h => ?_)
  refine g_if_ne 10 dX9_seen_5 (by decide) (fun q => ?_) (fun q => ?_)
  · have h := h.1 q
    refine g_iload_n dX9_seen_10 rfl ?_
    refine g_i2l dX9_seen_11 ?_
    refine g_lconst 0 dX9_seen_12 (by decide) ?_
    refine g_ldc2 dX9_seen_13 qX9_107 ?_
    refine g_callSi (mi2 := mX9_in) (st := []) [sL a2.toInt64, sL 0, sL 9] dX9_seen_16 lX9_92 kX9_in vX9_in rfl (Nat.le_of_ble_eq_true rfl) (Nat.le_of_ble_eq_true rfl) (Nat.le_of_ble_eq_true rfl) rfl ?_
    refine sG.mono h (kI_mono fun r2 μ2 h => ?_)
    refine g_if_ne 25 dX9_seen_19 (by decide) (fun q => ?_) (fun q => ?_)
    · have h := h.1 q
      refine g_aload_n dX9_seen_25 rfl ?_
      refine g_getr (r2 := 65) dX9_seen_26 fX9_16 rfl rfl ?_
      refine g_iload_n dX9_seen_29 rfl ?_
      refine g_iload_n dX9_seen_30 rfl ?_
      obtain ⟨v1, h⟩ := h
      refine h_iast (a1.toNatClampNeg) dX9_seen_31 rfl rfl v1 rfl ?_
      refine g_aload_n dX9_seen_32 rfl ?_
      refine g_callVi (mi2 := mX9_sights) (r := 62) (st := []) [] dX9_seen_33 lX9_181 kX9_sights vX9_sights rfl rfl rfl (Nat.le_of_ble_eq_true rfl) (Nat.le_of_ble_eq_true rfl) (Nat.le_of_ble_eq_true rfl) rfl ?_
      refine sG.mono h (kI_mono fun r3 μ3 h => ?_)
      refine g_callSi (mi2 := mX9_ones) (st := []) [sI r3] dX9_seen_36 lX9_109 kX9_ones vX9_ones rfl (Nat.le_of_ble_eq_true rfl) (Nat.le_of_ble_eq_true rfl) (Nat.le_of_ble_eq_true rfl) rfl ?_
      refine sG.mono h (kI_mono fun r4 μ4 h => ?_)
      exact g_iret dX9_seen_39 rfl rfl h
    · have h := h.2 q
      refine g_bipush (-2) dX9_seen_22 (by decide) ?_
      exact g_iret dX9_seen_24 rfl rfl h
  · have h := h.2 q
    refine g_iconst (-1) dX9_seen_8 (by decide) ?_
    exact g_iret dX9_seen_9 rfl rfl h
set_option maxRecDepth 20000 in
theorem eX9_sights {d : Nat} {Q : Option sAV → sM → Prop} {μ : sM} (h : sG sLL mX9_sights d Q 4 [some (sR 62), some (sI 0), some (sI 0)] [] μ) : sCl sLL mX9_sights d [sR 62] μ Q := by
  refine sG.loc (al2 := [some (sR 62), none, none]) (s_le_s (s_le_p (s_le_p s_le_0))) ?_
  refine g_iconst 0 dX9_sights_0 (by decide) ?_
  refine g_istore_n [some (sR 62), some (sI 0), none] dX9_sights_1 rfl (by decide) rfl ?_
  refine g_iconst 0 dX9_sights_2 (by decide) ?_
  refine g_istore_n [some (sR 62), some (sI 0), some (sI 0)] dX9_sights_3 rfl (by decide) rfl ?_
  exact sG.loc (s_le_s (s_le_s (s_le_s s_le_0))) h
set_option maxRecDepth 20000 in
theorem sX9_sights_4 {d : Nat} {Q : Option sAV → sM → Prop} {μ : sM} {x1 : Int32} {x2 : Int32} (h : (((μ.1 62 0) ≤ x2 → Q (some (sI x1)) μ) ∧ (¬ (μ.1 62 0) ≤ x2 → (vp_in x2 7 ∧ (((μ.1 65 x2.toNatClampNeg) < 0 → sG sLL mX9_sights d Q 4 [some (sR 62), some (sI (x1 ||| 0)), some (sI (x2 + 1))] [] μ) ∧ (¬ (μ.1 65 x2.toNatClampNeg) < 0 → sG sLL mX9_sights d Q 4 [some (sR 62), some (sI (x1 ||| ((1 : Int32) <<< (x2 &&& 31)))), some (sI (x2 + 1))] [] μ)))))) : sG sLL mX9_sights d Q 4 [some (sR 62), some (sI x1), some (sI x2)] [] μ := by
  refine g_iload_n dX9_sights_4 rfl ?_
  refine g_aload_n dX9_sights_5 rfl ?_
  refine h_geti (μ.1 62 0) dX9_sights_6 fX9_84 rfl rfl rfl ?_
  refine g_icmp_ge 37 dX9_sights_9 (by decide) (fun q => ?_) (fun q => ?_)
  · have h := h.1 q
    refine g_iload_n dX9_sights_37 rfl ?_
    exact g_iret dX9_sights_38 rfl rfl h
  · have h := h.2 q
    refine g_iload_n dX9_sights_12 rfl ?_
    refine g_aload_n dX9_sights_13 rfl ?_
    refine g_getr (r2 := 65) dX9_sights_14 fX9_16 rfl rfl ?_
    refine g_iload_n dX9_sights_17 rfl ?_
    obtain ⟨v1, h⟩ := h
    refine h_iald (μ.1 65 x2.toNatClampNeg) dX9_sights_18 rfl rfl v1 rfl ?_
    refine g_if_lt 28 dX9_sights_19 (by decide) (fun q => ?_) (fun q => ?_)
    · have h := h.1 q
      refine g_iconst 0 dX9_sights_28 (by decide) ?_
      refine g_ior dX9_sights_29 ?_
      refine g_istore_n [some (sR 62), some (sI (x1 ||| 0)), some (sI x2)] dX9_sights_30 rfl (by decide) rfl ?_
      refine g_iinc (x2 + 1) [some (sR 62), some (sI (x1 ||| 0)), some (sI (x2 + 1))] dX9_sights_31 rfl rfl (by decide) rfl ?_
      refine g_goto 4 dX9_sights_34 (by decide) ?_
      exact sG.loc (s_le_s (s_le_s (s_le_s s_le_0))) h
    · have h := h.2 q
      refine g_iconst 1 dX9_sights_22 (by decide) ?_
      refine g_iload_n dX9_sights_23 rfl ?_
      refine g_ishl dX9_sights_24 ?_
      refine g_goto 29 dX9_sights_25 (by decide) ?_
      refine g_ior dX9_sights_29 ?_
      refine g_istore_n [some (sR 62), some (sI (x1 ||| ((1 : Int32) <<< (x2 &&& 31)))), some (sI x2)] dX9_sights_30 rfl (by decide) rfl ?_
      refine g_iinc (x2 + 1) [some (sR 62), some (sI (x1 ||| ((1 : Int32) <<< (x2 &&& 31)))), some (sI (x2 + 1))] dX9_sights_31 rfl rfl (by decide) rfl ?_
      refine g_goto 4 dX9_sights_34 (by decide) ?_
      exact sG.loc (s_le_s (s_le_s (s_le_s s_le_0))) h
set_option maxRecDepth 20000 in
theorem eX9_forget {d : Nat} {Q : Option sAV → sM → Prop} {μ : sM} (h : sCl sLL mX9_sights d [sR 62] μ (kI fun r1 μ1 => sCl sLL mX9_ones d [sI r1] μ1 (kI fun r2 μ2 => sG sLL mX9_forget (d + 1) Q 10 [some (sR 62), some (sI r2), some (sI 0)] [] μ2))) : sCl sLL mX9_forget (d + 1) [sR 62] μ Q := by
  refine sG.loc (al2 := [some (sR 62), none, none]) (s_le_s (s_le_p (s_le_p s_le_0))) ?_
  refine g_aload_n dX9_forget_0 rfl ?_
  refine g_callVi (mi2 := mX9_sights) (r := 62) (st := []) [] dX9_forget_1 lX9_181 kX9_sights vX9_sights rfl rfl rfl (Nat.le_of_ble_eq_true rfl) (Nat.le_of_ble_eq_true rfl) (Nat.le_of_ble_eq_true rfl) rfl ?_
  refine sG.mono h (kI_mono fun r1 μ1 h => ?_)
  refine g_callSi (mi2 := mX9_ones) (st := []) [sI r1] dX9_forget_4 lX9_109 kX9_ones vX9_ones rfl (Nat.le_of_ble_eq_true rfl) (Nat.le_of_ble_eq_true rfl) (Nat.le_of_ble_eq_true rfl) rfl ?_
  refine sG.mono h (kI_mono fun r2 μ2 h => ?_)
  refine g_istore_n [some (sR 62), some (sI r2), none] dX9_forget_7 rfl (by decide) rfl ?_
  refine g_iconst 0 dX9_forget_8 (by decide) ?_
  refine g_istore_n [some (sR 62), some (sI r2), some (sI 0)] dX9_forget_9 rfl (by decide) rfl ?_
  exact sG.loc (s_le_s (s_le_s (s_le_s s_le_0))) h
set_option maxRecDepth 20000 in
theorem sX9_forget_10 {d : Nat} {Q : Option sAV → sM → Prop} {μ : sM} {x1 : Int32} {x2 : Int32} (h : ((7 ≤ x2 → Q (some (sI x1)) μ) ∧ (¬ 7 ≤ x2 → (vp_in x2 7 ∧ sG sLL mX9_forget (d + 1) Q 10 [some (sR 62), some (sI x1), some (sI (x2 + 1))] [] (s_u μ 65 (x2.toNatClampNeg) (-6)))))) : sG sLL mX9_forget (d + 1) Q 10 [some (sR 62), some (sI x1), some (sI x2)] [] μ := by
  refine g_iload_n dX9_forget_10 rfl ?_
  refine g_bipush 7 dX9_forget_11 (by decide) ?_
  refine g_icmp_ge 30 dX9_forget_13 (by decide) (fun q => ?_) (fun q => ?_)
  · have h := h.1 q
    refine g_iload_n dX9_forget_30 rfl ?_
    exact g_iret dX9_forget_31 rfl rfl h
  · have h := h.2 q
    refine g_aload_n dX9_forget_16 rfl ?_
    refine g_getr (r2 := 65) dX9_forget_17 fX9_16 rfl rfl ?_
    refine g_iload_n dX9_forget_20 rfl ?_
    refine g_bipush (-6) dX9_forget_21 (by decide) ?_
    obtain ⟨v1, h⟩ := h
    refine h_iast (x2.toNatClampNeg) dX9_forget_23 rfl rfl v1 rfl ?_
    refine g_iinc (x2 + 1) [some (sR 62), some (sI x1), some (sI (x2 + 1))] dX9_forget_24 rfl rfl (by decide) rfl ?_
    refine g_goto 10 dX9_forget_27 (by decide) ?_
    exact sG.loc (s_le_s (s_le_s (s_le_s s_le_0))) h
set_option maxRecDepth 20000 in
theorem eX9_rows {d : Nat} {Q : Option sAV → sM → Prop} {μ : sM} {a1 : Int32} {a2 : Int32} (h : sCl sLL mX9_in d [sL a1.toInt64, sL 0, sL 6] μ (kI fun r1 μ1 => ((r1 = 0 → Q (some (sI (-2))) μ1) ∧ (¬ r1 = 0 → sCl sLL mX9_in d [sL a2.toInt64, sL 0, sL 9] μ1 (kI fun r2 μ2 => ((¬ r2 = 0 → sCl sLL mX9_goRows d [sR 62, sI a1] μ2 (kV fun μ3 => ((a2 = 0 → Q (some (sI (μ3.1 62 25))) μ3) ∧ (¬ a2 = 0 → ((a2 = 1 → Q (some (sI (μ3.1 62 26))) μ3) ∧ (¬ a2 = 1 → ((a2 = 2 → ((¬ (μ3.1 62 25) = 0 → Q (some (sI (μ3.1 62 27))) μ3) ∧ ((μ3.1 62 25) = 0 → Q (some (sI 0)) μ3))) ∧ (¬ a2 = 2 → ((a2 = 3 → Q (some (sI (μ3.1 62 28))) μ3) ∧ (¬ a2 = 3 → (((μ3.1 62 26) ≤ (a2 - 4) → Q (some (sI (-6))) μ3) ∧ (¬ (μ3.1 62 26) ≤ (a2 - 4) → (vp_in (a2 - 4) 6 ∧ Q (some (sI (μ3.1 79 (a2 - 4).toNatClampNeg))) μ3))))))))))))) ∧ (r2 = 0 → Q (some (sI (-2))) μ2))))))) : sCl sLL mX9_rows (d + 1) [sR 62, sI a1, sI a2] μ Q := by
  refine sG.loc (al2 := [some (sR 62), some (sI a1), some (sI a2)]) (s_le_s (s_le_s (s_le_s s_le_0))) ?_
  refine g_iload_n dX9_rows_0 rfl ?_
  refine g_i2l dX9_rows_1 ?_
  refine g_lconst 0 dX9_rows_2 (by decide) ?_
  refine g_ldc2 dX9_rows_3 qX9_215 ?_
  refine g_callSi (mi2 := mX9_in) (st := []) [sL a1.toInt64, sL 0, sL 6] dX9_rows_6 lX9_92 kX9_in vX9_in rfl (Nat.le_of_ble_eq_true rfl) (Nat.le_of_ble_eq_true rfl) (Nat.le_of_ble_eq_true rfl) rfl ?_
  refine sG.mono h (kI_mono fun r1 μ1 h => ?_)
  refine g_if_eq 24 dX9_rows_9 (by decide) (fun q => ?_) (fun q => ?_)
  · have h := h.1 q
    refine g_bipush (-2) dX9_rows_24 (by decide) ?_
    exact g_iret dX9_rows_26 rfl rfl h
  · have h := h.2 q
    refine g_iload_n dX9_rows_12 rfl ?_
    refine g_i2l dX9_rows_13 ?_
    refine g_lconst 0 dX9_rows_14 (by decide) ?_
    refine g_ldc2 dX9_rows_15 qX9_107 ?_
    refine g_callSi (mi2 := mX9_in) (st := []) [sL a2.toInt64, sL 0, sL 9] dX9_rows_18 lX9_92 kX9_in vX9_in rfl (Nat.le_of_ble_eq_true rfl) (Nat.le_of_ble_eq_true rfl) (Nat.le_of_ble_eq_true rfl) rfl ?_
    refine sG.mono h (kI_mono fun r2 μ2 h => ?_)
    refine g_if_ne 27 dX9_rows_21 (by decide) (fun q => ?_) (fun q => ?_)
    · have h := h.1 q
      refine g_aload_n dX9_rows_27 rfl ?_
      refine g_iload_n dX9_rows_28 rfl ?_
      refine g_callVv (mi2 := mX9_goRows) (r := 62) (st := []) [sI a1] dX9_rows_29 lX9_217 kX9_goRows vX9_goRows rfl rfl rfl (Nat.le_of_ble_eq_true rfl) (Nat.le_of_ble_eq_true rfl) (Nat.le_of_ble_eq_true rfl) rfl ?_
      refine sG.mono h (kV_mono fun μ3 h => ?_)
      refine g_iload_n dX9_rows_32 rfl ?_
      by_cases q0 : a2 = 0
      · have h := h.1 q0
        refine g_tin 64 0 dX9_rows_33 (by rw [q0]; decide) (by decide) rfl (by decide) ?_
        refine g_aload_n dX9_rows_64 rfl ?_
        refine h_geti (μ3.1 62 25) dX9_rows_65 fX9_187 rfl rfl rfl ?_
        exact g_iret dX9_rows_68 rfl rfl h
      · have h := h.2 q0
        by_cases q1 : a2 = 1
        · have h := h.1 q1
          refine g_tin 69 1 dX9_rows_33 (by rw [q1]; decide) (by decide) rfl (by decide) ?_
          refine g_aload_n dX9_rows_69 rfl ?_
          refine h_geti (μ3.1 62 26) dX9_rows_70 fX9_190 rfl rfl rfl ?_
          exact g_iret dX9_rows_73 rfl rfl h
        · have h := h.2 q1
          by_cases q2 : a2 = 2
          · have h := h.1 q2
            refine g_tin 74 2 dX9_rows_33 (by rw [q2]; decide) (by decide) rfl (by decide) ?_
            refine g_aload_n dX9_rows_74 rfl ?_
            refine h_geti (μ3.1 62 25) dX9_rows_75 fX9_187 rfl rfl rfl ?_
            refine g_if_ne 85 dX9_rows_78 (by decide) (fun q => ?_) (fun q => ?_)
            · have h := h.1 q
              refine g_aload_n dX9_rows_85 rfl ?_
              refine h_geti (μ3.1 62 27) dX9_rows_86 fX9_193 rfl rfl rfl ?_
              exact g_iret dX9_rows_89 rfl rfl h
            · have h := h.2 q
              refine g_iconst 0 dX9_rows_81 (by decide) ?_
              refine g_goto 89 dX9_rows_82 (by decide) ?_
              exact g_iret dX9_rows_89 rfl rfl h
          · have h := h.2 q2
            by_cases q3 : a2 = 3
            · have h := h.1 q3
              refine g_tin 90 3 dX9_rows_33 (by rw [q3]; decide) (by decide) rfl (by decide) ?_
              refine g_aload_n dX9_rows_90 rfl ?_
              refine h_geti (μ3.1 62 28) dX9_rows_91 fX9_196 rfl rfl rfl ?_
              exact g_iret dX9_rows_94 rfl rfl h
            · have h := h.2 q3
              have n0 := lv_neT (a := 0) q0 (by decide)
              have n1 := lv_neT (a := 1) q1 (by decide)
              have n2 := lv_neT (a := 2) q2 (by decide)
              have n3 := lv_neT (a := 3) q3 (by decide)
              refine g_tout 95 dX9_rows_33 (by omega) (by decide) ?_
              refine g_iload_n dX9_rows_95 rfl ?_
              refine g_iconst 4 dX9_rows_96 (by decide) ?_
              refine g_isub dX9_rows_97 ?_
              refine g_aload_n dX9_rows_98 rfl ?_
              refine h_geti (μ3.1 62 26) dX9_rows_99 fX9_190 rfl rfl rfl ?_
              refine g_icmp_ge 116 dX9_rows_102 (by decide) (fun q => ?_) (fun q => ?_)
              · have h := h.1 q
                refine g_bipush (-6) dX9_rows_116 (by decide) ?_
                exact g_iret dX9_rows_118 rfl rfl h
              · have h := h.2 q
                refine g_aload_n dX9_rows_105 rfl ?_
                refine g_getr (r2 := 79) dX9_rows_106 fX9_58 rfl rfl ?_
                refine g_iload_n dX9_rows_109 rfl ?_
                refine g_iconst 4 dX9_rows_110 (by decide) ?_
                refine g_isub dX9_rows_111 ?_
                obtain ⟨v1, h⟩ := h
                refine h_iald (μ3.1 79 (a2 - 4).toNatClampNeg) dX9_rows_112 rfl rfl v1 rfl ?_
                refine g_goto 118 dX9_rows_113 (by decide) ?_
                exact g_iret dX9_rows_118 rfl rfl h
    · have h := h.2 q
      refine g_bipush (-2) dX9_rows_24 (by decide) ?_
      exact g_iret dX9_rows_26 rfl rfl h
set_option maxRecDepth 20000 in
theorem eX9_goRows {d : Nat} {Q : Option sAV → sM → Prop} {μ : sM} {a1 : Int32} (h : sCl sLL mX9_keepNow d [sR 62] μ (kV fun μ1 => sG sLL mX9_goRows (d + 1) Q 28 [some (sR 62), some (sI a1), some (sI 0), none] [] (s_u (s_u (s_u (s_u μ1 62 25 0) 62 26 (-6)) 62 27 15) 62 28 0))) : sCl sLL mX9_goRows (d + 1) [sR 62, sI a1] μ Q := by
  refine sG.loc (al2 := [some (sR 62), some (sI a1), none, none]) (s_le_s (s_le_s (s_le_p (s_le_p s_le_0)))) ?_
  refine g_aload_n dX9_goRows_0 rfl ?_
  refine g_callVv (mi2 := mX9_keepNow) (r := 62) (st := []) [] dX9_goRows_1 lX9_169 kX9_keepNow vX9_keepNow rfl rfl rfl (Nat.le_of_ble_eq_true rfl) (Nat.le_of_ble_eq_true rfl) (Nat.le_of_ble_eq_true rfl) rfl ?_
  refine sG.mono h (kV_mono fun μ1 h => ?_)
  refine g_aload_n dX9_goRows_4 rfl ?_
  refine g_iconst 0 dX9_goRows_5 (by decide) ?_
  refine g_puti dX9_goRows_6 fX9_187 rfl rfl rfl rfl ?_
  refine g_aload_n dX9_goRows_9 rfl ?_
  refine g_bipush (-6) dX9_goRows_10 (by decide) ?_
  refine g_puti dX9_goRows_12 fX9_190 rfl rfl rfl rfl ?_
  refine g_aload_n dX9_goRows_15 rfl ?_
  refine g_bipush 15 dX9_goRows_16 (by decide) ?_
  refine g_puti dX9_goRows_18 fX9_193 rfl rfl rfl rfl ?_
  refine g_aload_n dX9_goRows_21 rfl ?_
  refine g_iconst 0 dX9_goRows_22 (by decide) ?_
  refine g_puti dX9_goRows_23 fX9_196 rfl rfl rfl rfl ?_
  refine g_iconst 0 dX9_goRows_26 (by decide) ?_
  refine g_istore_n [some (sR 62), some (sI a1), some (sI 0), none] dX9_goRows_27 rfl (by decide) rfl ?_
  exact sG.loc (s_le_s (s_le_s (s_le_s (s_le_n s_le_0)))) h
set_option maxRecDepth 20000 in
theorem sX9_goRows_28 {d : Nat} {Q : Option sAV → sM → Prop} {μ : sM} {x1 : Int32} {x2 : Int32} (h : ((7 ≤ x2 → sG sLL mX9_goRows (d + 1) Q 49 [some (sR 62), some (sI x1), some (sI 0), none] [] μ) ∧ (¬ 7 ≤ x2 → (vp_in x2 7 ∧ sG sLL mX9_goRows (d + 1) Q 28 [some (sR 62), some (sI x1), some (sI (x2 + 1)), none] [] (s_u μ 80 (x2.toNatClampNeg) 0))))) : sG sLL mX9_goRows (d + 1) Q 28 [some (sR 62), some (sI x1), some (sI x2), none] [] μ := by
  refine g_iload_n dX9_goRows_28 rfl ?_
  refine g_bipush 7 dX9_goRows_29 (by decide) ?_
  refine g_icmp_ge 47 dX9_goRows_31 (by decide) (fun q => ?_) (fun q => ?_)
  · have h := h.1 q
    refine g_iconst 0 dX9_goRows_47 (by decide) ?_
    refine g_istore_n [some (sR 62), some (sI x1), some (sI 0), none] dX9_goRows_48 rfl (by decide) rfl ?_
    exact sG.loc (s_le_s (s_le_s (s_le_s (s_le_n s_le_0)))) h
  · have h := h.2 q
    refine g_aload_n dX9_goRows_34 rfl ?_
    refine g_getr (r2 := 80) dX9_goRows_35 fX9_61 rfl rfl ?_
    refine g_iload_n dX9_goRows_38 rfl ?_
    refine g_iconst 0 dX9_goRows_39 (by decide) ?_
    obtain ⟨v1, h⟩ := h
    refine h_iast (x2.toNatClampNeg) dX9_goRows_40 rfl rfl v1 rfl ?_
    refine g_iinc (x2 + 1) [some (sR 62), some (sI x1), some (sI (x2 + 1)), none] dX9_goRows_41 rfl rfl (by decide) rfl ?_
    refine g_goto 28 dX9_goRows_44 (by decide) ?_
    exact sG.loc (s_le_s (s_le_s (s_le_s (s_le_n s_le_0)))) h
set_option maxRecDepth 20000 in
theorem sX9_goRows_49 {d : Nat} {Q : Option sAV → sM → Prop} {μ : sM} {x1 : Int32} {x2 : Int32} (h : ((70 ≤ x2 → sG sLL mX9_goRows (d + 1) Q 70 [some (sR 62), some (sI x1), some (sI 0), none] [] μ) ∧ (¬ 70 ≤ x2 → (vp_in x2 70 ∧ sG sLL mX9_goRows (d + 1) Q 49 [some (sR 62), some (sI x1), some (sI (x2 + 1)), none] [] (s_u μ 81 (x2.toNatClampNeg) 0))))) : sG sLL mX9_goRows (d + 1) Q 49 [some (sR 62), some (sI x1), some (sI x2), none] [] μ := by
  refine g_iload_n dX9_goRows_49 rfl ?_
  refine g_bipush 70 dX9_goRows_50 (by decide) ?_
  refine g_icmp_ge 68 dX9_goRows_52 (by decide) (fun q => ?_) (fun q => ?_)
  · have h := h.1 q
    refine g_iconst 0 dX9_goRows_68 (by decide) ?_
    refine g_istore_n [some (sR 62), some (sI x1), some (sI 0), none] dX9_goRows_69 rfl (by decide) rfl ?_
    exact sG.loc (s_le_s (s_le_s (s_le_s (s_le_n s_le_0)))) h
  · have h := h.2 q
    refine g_aload_n dX9_goRows_55 rfl ?_
    refine g_getr (r2 := 81) dX9_goRows_56 fX9_64 rfl rfl ?_
    refine g_iload_n dX9_goRows_59 rfl ?_
    refine g_iconst 0 dX9_goRows_60 (by decide) ?_
    obtain ⟨v1, h⟩ := h
    refine h_iast (x2.toNatClampNeg) dX9_goRows_61 rfl rfl v1 rfl ?_
    refine g_iinc (x2 + 1) [some (sR 62), some (sI x1), some (sI (x2 + 1)), none] dX9_goRows_62 rfl rfl (by decide) rfl ?_
    refine g_goto 49 dX9_goRows_65 (by decide) ?_
    exact sG.loc (s_le_s (s_le_s (s_le_s (s_le_n s_le_0)))) h
set_option maxRecDepth 20000 in
theorem sX9_goRows_70 {d : Nat} {Q : Option sAV → sM → Prop} {μ : sM} {x1 : Int32} {x2 : Int32} (h : ((x1 < x2 → sCl sLL mX9_putBack d [sR 62] μ (kV fun μ1 => Q none μ1)) ∧ (¬ x1 < x2 → sG sLL mX9_goRows (d + 1) Q 77 [some (sR 62), some (sI x1), some (sI x2), some (sI 0)] [] μ))) : sG sLL mX9_goRows (d + 1) Q 70 [some (sR 62), some (sI x1), some (sI x2), none] [] μ := by
  refine g_iload_n dX9_goRows_70 rfl ?_
  refine g_iload_n dX9_goRows_71 rfl ?_
  refine g_icmp_gt 124 dX9_goRows_72 (by decide) (fun q => ?_) (fun q => ?_)
  · have h := h.1 q
    refine g_aload_n dX9_goRows_124 rfl ?_
    refine g_callVv (mi2 := mX9_putBack) (r := 62) (st := []) [] dX9_goRows_125 lX9_175 kX9_putBack vX9_putBack rfl rfl rfl (Nat.le_of_ble_eq_true rfl) (Nat.le_of_ble_eq_true rfl) (Nat.le_of_ble_eq_true rfl) rfl ?_
    refine sG.mono h (kV_mono fun μ1 h => ?_)
    exact g_vret dX9_goRows_128 rfl h
  · have h := h.2 q
    refine g_iconst 0 dX9_goRows_75 (by decide) ?_
    refine g_istore_n [some (sR 62), some (sI x1), some (sI x2), some (sI 0)] dX9_goRows_76 rfl (by decide) rfl ?_
    exact sG.loc (s_le_s (s_le_s (s_le_s (s_le_s s_le_0)))) h
set_option maxRecDepth 20000 in
theorem sX9_goRows_77 {d : Nat} {Q : Option sAV → sM → Prop} {μ : sM} {x1 : Int32} {x2 : Int32} {x3 : Int32} (h : sCl sLL mX9_power d [sI 4, sI x2] μ (kI fun r1 μ1 => ((r1 ≤ x3 → sG sLL mX9_goRows (d + 1) Q 70 [some (sR 62), some (sI x1), some (sI (x2 + 1)), none] [] μ1) ∧ (¬ r1 ≤ x3 → sCl sLL mX9_layRow d [sR 62, sI x3, sI x2] μ1 (kV fun μ2 => sCl sLL mX9_canGo d [sR 62, sI x2] μ2 (kI fun r3 μ3 => ((r3 = 0 → sG sLL mX9_goRows (d + 1) Q 77 [some (sR 62), some (sI x1), some (sI x2), some (sI (x3 + 1))] [] μ3) ∧ (¬ r3 = 0 → sCl sLL mX9_isSeenSo d [sR 62] μ3 (kI fun r4 μ4 => ((r4 = 0 → sG sLL mX9_goRows (d + 1) Q 77 [some (sR 62), some (sI x1), some (sI x2), some (sI (x3 + 1))] [] μ4) ∧ (¬ r4 = 0 → sCl sLL mX9_countRow d [sR 62, sI x2] μ4 (kV fun μ5 => sG sLL mX9_goRows (d + 1) Q 77 [some (sR 62), some (sI x1), some (sI x2), some (sI (x3 + 1))] [] μ5)))))))))))) : sG sLL mX9_goRows (d + 1) Q 77 [some (sR 62), some (sI x1), some (sI x2), some (sI x3)] [] μ := by
  refine g_iload_n dX9_goRows_77 rfl ?_
  refine g_iconst 4 dX9_goRows_78 (by decide) ?_
  refine g_iload_n dX9_goRows_79 rfl ?_
  refine g_callSi (mi2 := mX9_power) (st := [sI x3]) [sI 4, sI x2] dX9_goRows_80 lX9_199 kX9_power vX9_power rfl (Nat.le_of_ble_eq_true rfl) (Nat.le_of_ble_eq_true rfl) (Nat.le_of_ble_eq_true rfl) rfl ?_
  refine sG.mono h (kI_mono fun r1 μ1 h => ?_)
  refine g_icmp_ge 118 dX9_goRows_83 (by decide) (fun q => ?_) (fun q => ?_)
  · have h := h.1 q
    refine g_iinc (x2 + 1) [some (sR 62), some (sI x1), some (sI (x2 + 1)), some (sI x3)] dX9_goRows_118 rfl rfl (by decide) rfl ?_
    refine g_goto 70 dX9_goRows_121 (by decide) ?_
    exact sG.loc (s_le_s (s_le_s (s_le_s (s_le_n s_le_0)))) h
  · have h := h.2 q
    refine g_aload_n dX9_goRows_86 rfl ?_
    refine g_iload_n dX9_goRows_87 rfl ?_
    refine g_iload_n dX9_goRows_88 rfl ?_
    refine g_callVv (mi2 := mX9_layRow) (r := 62) (st := []) [sI x3, sI x2] dX9_goRows_89 lX9_202 kX9_layRow vX9_layRow rfl rfl rfl (Nat.le_of_ble_eq_true rfl) (Nat.le_of_ble_eq_true rfl) (Nat.le_of_ble_eq_true rfl) rfl ?_
    refine sG.mono h (kV_mono fun μ2 h => ?_)
    refine g_aload_n dX9_goRows_92 rfl ?_
    refine g_iload_n dX9_goRows_93 rfl ?_
    refine g_callVi (mi2 := mX9_canGo) (r := 62) (st := []) [sI x2] dX9_goRows_94 lX9_205 kX9_canGo vX9_canGo rfl rfl rfl (Nat.le_of_ble_eq_true rfl) (Nat.le_of_ble_eq_true rfl) (Nat.le_of_ble_eq_true rfl) rfl ?_
    refine sG.mono h (kI_mono fun r3 μ3 h => ?_)
    refine g_if_eq 112 dX9_goRows_97 (by decide) (fun q => ?_) (fun q => ?_)
    · have h := h.1 q
      refine g_iinc (x3 + 1) [some (sR 62), some (sI x1), some (sI x2), some (sI (x3 + 1))] dX9_goRows_112 rfl rfl (by decide) rfl ?_
      refine g_goto 77 dX9_goRows_115 (by decide) ?_
      exact sG.loc (s_le_s (s_le_s (s_le_s (s_le_s s_le_0)))) h
    · have h := h.2 q
      refine g_aload_n dX9_goRows_100 rfl ?_
      refine g_callVi (mi2 := mX9_isSeenSo) (r := 62) (st := []) [] dX9_goRows_101 lX9_208 kX9_isSeenSo vX9_isSeenSo rfl rfl rfl (Nat.le_of_ble_eq_true rfl) (Nat.le_of_ble_eq_true rfl) (Nat.le_of_ble_eq_true rfl) rfl ?_
      refine sG.mono h (kI_mono fun r4 μ4 h => ?_)
      refine g_if_eq 112 dX9_goRows_104 (by decide) (fun q => ?_) (fun q => ?_)
      · have h := h.1 q
        refine g_iinc (x3 + 1) [some (sR 62), some (sI x1), some (sI x2), some (sI (x3 + 1))] dX9_goRows_112 rfl rfl (by decide) rfl ?_
        refine g_goto 77 dX9_goRows_115 (by decide) ?_
        exact sG.loc (s_le_s (s_le_s (s_le_s (s_le_s s_le_0)))) h
      · have h := h.2 q
        refine g_aload_n dX9_goRows_107 rfl ?_
        refine g_iload_n dX9_goRows_108 rfl ?_
        refine g_callVv (mi2 := mX9_countRow) (r := 62) (st := []) [sI x2] dX9_goRows_109 lX9_212 kX9_countRow vX9_countRow rfl rfl rfl (Nat.le_of_ble_eq_true rfl) (Nat.le_of_ble_eq_true rfl) (Nat.le_of_ble_eq_true rfl) rfl ?_
        refine sG.mono h (kV_mono fun μ5 h => ?_)
        refine g_iinc (x3 + 1) [some (sR 62), some (sI x1), some (sI x2), some (sI (x3 + 1))] dX9_goRows_112 rfl rfl (by decide) rfl ?_
        refine g_goto 77 dX9_goRows_115 (by decide) ?_
        exact sG.loc (s_le_s (s_le_s (s_le_s (s_le_s s_le_0)))) h
set_option maxRecDepth 20000 in
theorem eX9_power {d : Nat} {Q : Option sAV → sM → Prop} {μ : sM} {a0 : Int32} {a1 : Int32} (h : sG sLL mX9_power d Q 4 [some (sI a0), some (sI a1), some (sI 1), some (sI 0)] [] μ) : sCl sLL mX9_power d [sI a0, sI a1] μ Q := by
  refine sG.loc (al2 := [some (sI a0), some (sI a1), none, none]) (s_le_s (s_le_s (s_le_p (s_le_p s_le_0)))) ?_
  refine g_iconst 1 dX9_power_0 (by decide) ?_
  refine g_istore_n [some (sI a0), some (sI a1), some (sI 1), none] dX9_power_1 rfl (by decide) rfl ?_
  refine g_iconst 0 dX9_power_2 (by decide) ?_
  refine g_istore_n [some (sI a0), some (sI a1), some (sI 1), some (sI 0)] dX9_power_3 rfl (by decide) rfl ?_
  exact sG.loc (s_le_s (s_le_s (s_le_s (s_le_s s_le_0)))) h
set_option maxRecDepth 20000 in
theorem sX9_power_4 {d : Nat} {Q : Option sAV → sM → Prop} {μ : sM} {x0 : Int32} {x1 : Int32} {x2 : Int32} {x3 : Int32} (h : ((x1 ≤ x3 → Q (some (sI x2)) μ) ∧ (¬ x1 ≤ x3 → sG sLL mX9_power d Q 4 [some (sI x0), some (sI x1), some (sI (x2 * x0)), some (sI (x3 + 1))] [] μ))) : sG sLL mX9_power d Q 4 [some (sI x0), some (sI x1), some (sI x2), some (sI x3)] [] μ := by
  refine g_iload_n dX9_power_4 rfl ?_
  refine g_iload_n dX9_power_5 rfl ?_
  refine g_icmp_ge 19 dX9_power_6 (by decide) (fun q => ?_) (fun q => ?_)
  · have h := h.1 q
    refine g_iload_n dX9_power_19 rfl ?_
    exact g_iret dX9_power_20 rfl rfl h
  · have h := h.2 q
    refine g_iload_n dX9_power_9 rfl ?_
    refine g_iload_n dX9_power_10 rfl ?_
    refine g_imul dX9_power_11 ?_
    refine g_istore_n [some (sI x0), some (sI x1), some (sI (x2 * x0)), some (sI x3)] dX9_power_12 rfl (by decide) rfl ?_
    refine g_iinc (x3 + 1) [some (sI x0), some (sI x1), some (sI (x2 * x0)), some (sI (x3 + 1))] dX9_power_13 rfl rfl (by decide) rfl ?_
    refine g_goto 4 dX9_power_16 (by decide) ?_
    exact sG.loc (s_le_s (s_le_s (s_le_s (s_le_s s_le_0)))) h
set_option maxRecDepth 20000 in
theorem eX9_layRow {d : Nat} {Q : Option sAV → sM → Prop} {μ : sM} {a1 : Int32} {a2 : Int32} (h : sG sLL mX9_layRow d Q 12 [some (sR 62), some (sI a1), some (sI a2), some (sI a1), some (sI (a2 - 1))] [] (s_u μ 62 24 0)) : sCl sLL mX9_layRow d [sR 62, sI a1, sI a2] μ Q := by
  refine sG.loc (al2 := [some (sR 62), some (sI a1), some (sI a2), none, none]) (s_le_s (s_le_s (s_le_s (s_le_p (s_le_p s_le_0))))) ?_
  refine g_iload_n dX9_layRow_0 rfl ?_
  refine g_istore_n [some (sR 62), some (sI a1), some (sI a2), some (sI a1), none] dX9_layRow_1 rfl (by decide) rfl ?_
  refine g_aload_n dX9_layRow_2 rfl ?_
  refine g_iconst 0 dX9_layRow_3 (by decide) ?_
  refine g_puti dX9_layRow_4 fX9_184 rfl rfl rfl rfl ?_
  refine g_iload_n dX9_layRow_7 rfl ?_
  refine g_iconst 1 dX9_layRow_8 (by decide) ?_
  refine g_isub dX9_layRow_9 ?_
  refine g_istore [some (sR 62), some (sI a1), some (sI a2), some (sI a1), some (sI (a2 - 1))] dX9_layRow_10 (by decide) rfl ?_
  exact sG.loc (s_le_s (s_le_s (s_le_s (s_le_s (s_le_s s_le_0))))) h
set_option maxRecDepth 20000 in
theorem sX9_layRow_12 {d : Nat} {Q : Option sAV → sM → Prop} {μ : sM} {x1 : Int32} {x2 : Int32} {x3 : Int32} {x4 : Int32} (h : ((x4 < 0 → Q none μ) ∧ (¬ x4 < 0 → (vp_in x4 6 ∧ sG sLL mX9_layRow d Q 12 [some (sR 62), some (sI x1), some (sI x2), some (sI (x3 / 4)), some (sI (x4 + (-1)))] [] (s_u (s_u μ 78 (x4.toNatClampNeg) (s_rem x3 4)) 62 24 ((μ.1 62 24) ||| ((1 : Int32) <<< (((s_u μ 78 (x4.toNatClampNeg) (s_rem x3 4)).1 78 x4.toNatClampNeg) &&& 31)))))))) : sG sLL mX9_layRow d Q 12 [some (sR 62), some (sI x1), some (sI x2), some (sI x3), some (sI x4)] [] μ := by
  refine g_iload dX9_layRow_12 rfl ?_
  refine g_if_lt 55 dX9_layRow_14 (by decide) (fun q => ?_) (fun q => ?_)
  · have h := h.1 q
    exact g_vret dX9_layRow_55 rfl h
  · have h := h.2 q
    refine g_aload_n dX9_layRow_17 rfl ?_
    refine g_getr (r2 := 78) dX9_layRow_18 fX9_55 rfl rfl ?_
    refine g_iload dX9_layRow_21 rfl ?_
    refine g_iload_n dX9_layRow_23 rfl ?_
    refine g_iconst 4 dX9_layRow_24 (by decide) ?_
    refine h_irem dX9_layRow_25 (by decide) ?_
    obtain ⟨v1, h⟩ := h
    refine h_iast (x4.toNatClampNeg) dX9_layRow_26 rfl rfl v1 rfl ?_
    refine g_aload_n dX9_layRow_27 rfl ?_
    refine g_dup_r dX9_layRow_28 ?_
    refine h_geti (μ.1 62 24) dX9_layRow_29 fX9_184 rfl rfl rfl ?_
    refine g_iconst 1 dX9_layRow_32 (by decide) ?_
    refine g_aload_n dX9_layRow_33 rfl ?_
    refine g_getr (r2 := 78) dX9_layRow_34 fX9_55 rfl rfl ?_
    refine g_iload dX9_layRow_37 rfl ?_
    refine h_iald ((s_u μ 78 (x4.toNatClampNeg) (s_rem x3 4)).1 78 x4.toNatClampNeg) dX9_layRow_39 rfl rfl v1 rfl ?_
    refine g_ishl dX9_layRow_40 ?_
    refine g_ior dX9_layRow_41 ?_
    refine g_puti dX9_layRow_42 fX9_184 rfl rfl rfl rfl ?_
    refine g_iload_n dX9_layRow_45 rfl ?_
    refine g_iconst 4 dX9_layRow_46 (by decide) ?_
    refine g_idiv dX9_layRow_47 (by decide) ?_
    refine g_istore_n [some (sR 62), some (sI x1), some (sI x2), some (sI (x3 / 4)), some (sI x4)] dX9_layRow_48 rfl (by decide) rfl ?_
    refine g_iinc (x4 + (-1)) [some (sR 62), some (sI x1), some (sI x2), some (sI (x3 / 4)), some (sI (x4 + (-1)))] dX9_layRow_49 rfl rfl (by decide) rfl ?_
    refine g_goto 12 dX9_layRow_52 (by decide) ?_
    exact sG.loc (s_le_s (s_le_s (s_le_s (s_le_s (s_le_s s_le_0))))) h
set_option maxRecDepth 20000 in
theorem eX9_canGo {d : Nat} {Q : Option sAV → sM → Prop} {μ : sM} {a1 : Int32} (h : sCl sLL mX9_putBack d [sR 62] μ (kV fun μ1 => sG sLL mX9_canGo (d + 1) Q 12 [some (sR 62), some (sI a1), some (sI 0), none] [] (s_u μ1 62 11 (-6)))) : sCl sLL mX9_canGo (d + 1) [sR 62, sI a1] μ Q := by
  refine sG.loc (al2 := [some (sR 62), some (sI a1), none, none]) (s_le_s (s_le_s (s_le_p (s_le_p s_le_0)))) ?_
  refine g_aload_n dX9_canGo_0 rfl ?_
  refine g_callVv (mi2 := mX9_putBack) (r := 62) (st := []) [] dX9_canGo_1 lX9_175 kX9_putBack vX9_putBack rfl rfl rfl (Nat.le_of_ble_eq_true rfl) (Nat.le_of_ble_eq_true rfl) (Nat.le_of_ble_eq_true rfl) rfl ?_
  refine sG.mono h (kV_mono fun μ1 h => ?_)
  refine g_aload_n dX9_canGo_4 rfl ?_
  refine g_bipush (-6) dX9_canGo_5 (by decide) ?_
  refine g_puti dX9_canGo_7 fX9_127 rfl rfl rfl rfl ?_
  refine g_iconst 0 dX9_canGo_10 (by decide) ?_
  refine g_istore_n [some (sR 62), some (sI a1), some (sI 0), none] dX9_canGo_11 rfl (by decide) rfl ?_
  exact sG.loc (s_le_s (s_le_s (s_le_s (s_le_n s_le_0)))) h
set_option maxRecDepth 20000 in
theorem sX9_canGo_12 {d : Nat} {Q : Option sAV → sM → Prop} {μ : sM} {x1 : Int32} {x2 : Int32} (h : ((7 ≤ x2 → sG sLL mX9_canGo (d + 1) Q 34 [some (sR 62), some (sI x1), some (sI 0), none] [] μ) ∧ (¬ 7 ≤ x2 → (vp_in x2 7 ∧ sG sLL mX9_canGo (d + 1) Q 12 [some (sR 62), some (sI x1), some (sI (x2 + 1)), none] [] (s_u μ 74 (x2.toNatClampNeg) (-6)))))) : sG sLL mX9_canGo (d + 1) Q 12 [some (sR 62), some (sI x1), some (sI x2), none] [] μ := by
  refine g_iload_n dX9_canGo_12 rfl ?_
  refine g_bipush 7 dX9_canGo_13 (by decide) ?_
  refine g_icmp_ge 32 dX9_canGo_15 (by decide) (fun q => ?_) (fun q => ?_)
  · have h := h.1 q
    refine g_iconst 0 dX9_canGo_32 (by decide) ?_
    refine g_istore_n [some (sR 62), some (sI x1), some (sI 0), none] dX9_canGo_33 rfl (by decide) rfl ?_
    exact sG.loc (s_le_s (s_le_s (s_le_s (s_le_n s_le_0)))) h
  · have h := h.2 q
    refine g_aload_n dX9_canGo_18 rfl ?_
    refine g_getr (r2 := 74) dX9_canGo_19 fX9_43 rfl rfl ?_
    refine g_iload_n dX9_canGo_22 rfl ?_
    refine g_bipush (-6) dX9_canGo_23 (by decide) ?_
    obtain ⟨v1, h⟩ := h
    refine h_iast (x2.toNatClampNeg) dX9_canGo_25 rfl rfl v1 rfl ?_
    refine g_iinc (x2 + 1) [some (sR 62), some (sI x1), some (sI (x2 + 1)), none] dX9_canGo_26 rfl rfl (by decide) rfl ?_
    refine g_goto 12 dX9_canGo_29 (by decide) ?_
    exact sG.loc (s_le_s (s_le_s (s_le_s (s_le_n s_le_0)))) h
set_option maxRecDepth 20000 in
theorem sX9_canGo_34 {d : Nat} {Q : Option sAV → sM → Prop} {μ : sM} {x1 : Int32} {x2 : Int32} (h : ((x1 ≤ x2 → Q (some (sI 1)) μ) ∧ (¬ x1 ≤ x2 → (vp_in x2 6 ∧ sCl sLL mX9_isThere d [sR 62, sI (μ.1 78 x2.toNatClampNeg)] μ (kI fun r1 μ1 => ((r1 = 0 → Q (some (sI 0)) μ1) ∧ (¬ r1 = 0 → sCl sLL mX9_taken d [sR 62, sI (μ1.1 78 x2.toNatClampNeg)] μ1 (kI fun r2 μ2 => ((0 ≤ r2 → (vp_in r2 7 ∧ ((0 ≤ (μ2.1 74 r2.toNatClampNeg) → sCl sLL mX9_use d [sR 62, sI (μ2.1 78 x2.toNatClampNeg), sI r2] (s_u μ2 74 (r2.toNatClampNeg) (μ2.1 74 r2.toNatClampNeg)) (kV fun μ3 => sG sLL mX9_canGo (d + 1) Q 34 [some (sR 62), some (sI x1), some (sI (x2 + 1)), none] [] μ3)) ∧ (¬ 0 ≤ (μ2.1 74 r2.toNatClampNeg) → sCl sLL mX9_use d [sR 62, sI (μ2.1 78 x2.toNatClampNeg), sI r2] (s_u μ2 74 (r2.toNatClampNeg) (μ2.1 78 x2.toNatClampNeg)) (kV fun μ3 => sG sLL mX9_canGo (d + 1) Q 34 [some (sR 62), some (sI x1), some (sI (x2 + 1)), none] [] μ3))))) ∧ (¬ 0 ≤ r2 → Q (some (sI 0)) μ2)))))))))) : sG sLL mX9_canGo (d + 1) Q 34 [some (sR 62), some (sI x1), some (sI x2), none] [] μ := by
  refine g_iload_n dX9_canGo_34 rfl ?_
  refine g_iload_n dX9_canGo_35 rfl ?_
  refine g_icmp_ge 121 dX9_canGo_36 (by decide) (fun q => ?_) (fun q => ?_)
  · have h := h.1 q
    refine g_iconst 1 dX9_canGo_121 (by decide) ?_
    exact g_iret dX9_canGo_122 rfl (s_nb (Or.inr rfl)) h
  · have h := h.2 q
    refine g_aload_n dX9_canGo_39 rfl ?_
    refine g_aload_n dX9_canGo_40 rfl ?_
    refine g_getr (r2 := 78) dX9_canGo_41 fX9_55 rfl rfl ?_
    refine g_iload_n dX9_canGo_44 rfl ?_
    obtain ⟨v1, h⟩ := h
    refine h_iald (μ.1 78 x2.toNatClampNeg) dX9_canGo_45 rfl rfl v1 rfl ?_
    refine g_callVi (mi2 := mX9_isThere) (r := 62) (st := []) [sI (μ.1 78 x2.toNatClampNeg)] dX9_canGo_46 lX9_113 kX9_isThere vX9_isThere rfl rfl rfl (Nat.le_of_ble_eq_true rfl) (Nat.le_of_ble_eq_true rfl) (Nat.le_of_ble_eq_true rfl) rfl ?_
    refine sG.mono h (kI_mono fun r1 μ1 h => ?_)
    refine g_if_eq 65 dX9_canGo_49 (by decide) (fun q => ?_) (fun q => ?_)
    · have h := h.1 q
      refine g_bipush (-6) dX9_canGo_65 (by decide) ?_
      refine g_istore_n [some (sR 62), some (sI x1), some (sI x2), some (sI (-6))] dX9_canGo_67 rfl (by decide) rfl ?_
      refine g_iload_n dX9_canGo_68 rfl ?_
      refine g_if_ge 74 dX9_canGo_69 (by decide) (fun q => absurd q (by decide)) (fun _ => ?_)
      refine g_iconst 0 dX9_canGo_72 (by decide) ?_
      exact g_iret dX9_canGo_73 rfl (s_nb (Or.inl rfl)) h
    · have h := h.2 q
      refine g_aload_n dX9_canGo_52 rfl ?_
      refine g_aload_n dX9_canGo_53 rfl ?_
      refine g_getr (r2 := 78) dX9_canGo_54 fX9_55 rfl rfl ?_
      refine g_iload_n dX9_canGo_57 rfl ?_
      refine h_iald (μ1.1 78 x2.toNatClampNeg) dX9_canGo_58 rfl rfl v1 rfl ?_
      refine g_callVi (mi2 := mX9_taken) (r := 62) (st := []) [sI (μ1.1 78 x2.toNatClampNeg)] dX9_canGo_59 lX9_139 kX9_taken vX9_taken rfl rfl rfl (Nat.le_of_ble_eq_true rfl) (Nat.le_of_ble_eq_true rfl) (Nat.le_of_ble_eq_true rfl) rfl ?_
      refine sG.mono h (kI_mono fun r2 μ2 h => ?_)
      refine g_goto 67 dX9_canGo_62 (by decide) ?_
      refine g_istore_n [some (sR 62), some (sI x1), some (sI x2), some (sI r2)] dX9_canGo_67 rfl (by decide) rfl ?_
      refine g_iload_n dX9_canGo_68 rfl ?_
      refine g_if_ge 74 dX9_canGo_69 (by decide) (fun q => ?_) (fun q => ?_)
      · have h := h.1 q
        refine g_aload_n dX9_canGo_74 rfl ?_
        refine g_getr (r2 := 74) dX9_canGo_75 fX9_43 rfl rfl ?_
        refine g_iload_n dX9_canGo_78 rfl ?_
        refine g_aload_n dX9_canGo_79 rfl ?_
        refine g_getr (r2 := 74) dX9_canGo_80 fX9_43 rfl rfl ?_
        refine g_iload_n dX9_canGo_83 rfl ?_
        obtain ⟨v2, h⟩ := h
        refine h_iald (μ2.1 74 r2.toNatClampNeg) dX9_canGo_84 rfl rfl v2 rfl ?_
        refine g_if_ge 97 dX9_canGo_85 (by decide) (fun q => ?_) (fun q => ?_)
        · have h := h.1 q
          refine g_aload_n dX9_canGo_97 rfl ?_
          refine g_getr (r2 := 74) dX9_canGo_98 fX9_43 rfl rfl ?_
          refine g_iload_n dX9_canGo_101 rfl ?_
          refine h_iald (μ2.1 74 r2.toNatClampNeg) dX9_canGo_102 rfl rfl v2 rfl ?_
          refine h_iast (r2.toNatClampNeg) dX9_canGo_103 rfl rfl v2 rfl ?_
          refine g_aload_n dX9_canGo_104 rfl ?_
          refine g_aload_n dX9_canGo_105 rfl ?_
          refine g_getr (r2 := 78) dX9_canGo_106 fX9_55 rfl rfl ?_
          refine g_iload_n dX9_canGo_109 rfl ?_
          refine h_iald (μ2.1 78 x2.toNatClampNeg) dX9_canGo_110 rfl rfl v1 rfl ?_
          refine g_iload_n dX9_canGo_111 rfl ?_
          refine g_callVv (mi2 := mX9_use) (r := 62) (st := []) [sI (μ2.1 78 x2.toNatClampNeg), sI r2] dX9_canGo_112 lX9_151 kX9_use vX9_use rfl rfl rfl (Nat.le_of_ble_eq_true rfl) (Nat.le_of_ble_eq_true rfl) (Nat.le_of_ble_eq_true rfl) rfl ?_
          refine sG.mono h (kV_mono fun μ3 h => ?_)
          refine g_iinc (x2 + 1) [some (sR 62), some (sI x1), some (sI (x2 + 1)), some (sI r2)] dX9_canGo_115 rfl rfl (by decide) rfl ?_
          refine g_goto 34 dX9_canGo_118 (by decide) ?_
          exact sG.loc (s_le_s (s_le_s (s_le_s (s_le_n s_le_0)))) h
        · have h := h.2 q
          refine g_aload_n dX9_canGo_88 rfl ?_
          refine g_getr (r2 := 78) dX9_canGo_89 fX9_55 rfl rfl ?_
          refine g_iload_n dX9_canGo_92 rfl ?_
          refine h_iald (μ2.1 78 x2.toNatClampNeg) dX9_canGo_93 rfl rfl v1 rfl ?_
          refine g_goto 103 dX9_canGo_94 (by decide) ?_
          refine h_iast (r2.toNatClampNeg) dX9_canGo_103 rfl rfl v2 rfl ?_
          refine g_aload_n dX9_canGo_104 rfl ?_
          refine g_aload_n dX9_canGo_105 rfl ?_
          refine g_getr (r2 := 78) dX9_canGo_106 fX9_55 rfl rfl ?_
          refine g_iload_n dX9_canGo_109 rfl ?_
          refine h_iald (μ2.1 78 x2.toNatClampNeg) dX9_canGo_110 rfl rfl v1 rfl ?_
          refine g_iload_n dX9_canGo_111 rfl ?_
          refine g_callVv (mi2 := mX9_use) (r := 62) (st := []) [sI (μ2.1 78 x2.toNatClampNeg), sI r2] dX9_canGo_112 lX9_151 kX9_use vX9_use rfl rfl rfl (Nat.le_of_ble_eq_true rfl) (Nat.le_of_ble_eq_true rfl) (Nat.le_of_ble_eq_true rfl) rfl ?_
          refine sG.mono h (kV_mono fun μ3 h => ?_)
          refine g_iinc (x2 + 1) [some (sR 62), some (sI x1), some (sI (x2 + 1)), some (sI r2)] dX9_canGo_115 rfl rfl (by decide) rfl ?_
          refine g_goto 34 dX9_canGo_118 (by decide) ?_
          exact sG.loc (s_le_s (s_le_s (s_le_s (s_le_n s_le_0)))) h
      · have h := h.2 q
        refine g_iconst 0 dX9_canGo_72 (by decide) ?_
        exact g_iret dX9_canGo_73 rfl (s_nb (Or.inl rfl)) h
set_option maxRecDepth 20000 in
theorem eX9_isSeenSo {d : Nat} {Q : Option sAV → sM → Prop} {μ : sM} (h : sG sLL mX9_isSeenSo (d + 1) Q 4 [some (sR 62), some (sI 1), some (sI 0)] [] μ) : sCl sLL mX9_isSeenSo (d + 1) [sR 62] μ Q := by
  refine sG.loc (al2 := [some (sR 62), none, none]) (s_le_s (s_le_p (s_le_p s_le_0))) ?_
  refine g_iconst 1 dX9_isSeenSo_0 (by decide) ?_
  refine g_istore_n [some (sR 62), some (sI 1), none] dX9_isSeenSo_1 rfl (by decide) rfl ?_
  refine g_iconst 0 dX9_isSeenSo_2 (by decide) ?_
  refine g_istore_n [some (sR 62), some (sI 1), some (sI 0)] dX9_isSeenSo_3 rfl (by decide) rfl ?_
  exact sG.loc (s_le_s (s_le_s (s_le_s s_le_0))) h
set_option maxRecDepth 20000 in
theorem sX9_isSeenSo_4 {d : Nat} {Q : Option sAV → sM → Prop} {μ : sM} {x1 : Int32} {x2 : Int32} (h : (((μ.1 62 0) ≤ x2 → ((x1 = 0 ∨ x1 = 1) ∧ Q (some (sI x1)) μ)) ∧ (¬ (μ.1 62 0) ≤ x2 → ((x1 = 0 → sG sLL mX9_isSeenSo (d + 1) Q 4 [some (sR 62), some (sI 0), some (sI (x2 + 1))] [] μ) ∧ (¬ x1 = 0 → (vp_in x2 7 ∧ (((μ.1 65 x2.toNatClampNeg) < 0 → sG sLL mX9_isSeenSo (d + 1) Q 4 [some (sR 62), some (sI 1), some (sI (x2 + 1))] [] μ) ∧ (¬ (μ.1 65 x2.toNatClampNeg) < 0 → sCl sLL mX9_at d [sI 3, sI x2] μ (kI fun r1 μ1 => (vp_in r1 28 ∧ ((¬ (μ.1 65 x2.toNatClampNeg) = (μ1.1 63 r1.toNatClampNeg) → sG sLL mX9_isSeenSo (d + 1) Q 4 [some (sR 62), some (sI 0), some (sI (x2 + 1))] [] μ1) ∧ ((μ.1 65 x2.toNatClampNeg) = (μ1.1 63 r1.toNatClampNeg) → sG sLL mX9_isSeenSo (d + 1) Q 4 [some (sR 62), some (sI 1), some (sI (x2 + 1))] [] μ1)))))))))))) : sG sLL mX9_isSeenSo (d + 1) Q 4 [some (sR 62), some (sI x1), some (sI x2)] [] μ := by
  refine g_iload_n dX9_isSeenSo_4 rfl ?_
  refine g_aload_n dX9_isSeenSo_5 rfl ?_
  refine h_geti (μ.1 62 0) dX9_isSeenSo_6 fX9_84 rfl rfl rfl ?_
  refine g_icmp_ge 56 dX9_isSeenSo_9 (by decide) (fun q => ?_) (fun q => ?_)
  · have h := h.1 q
    refine g_iload_n dX9_isSeenSo_56 rfl ?_
    obtain ⟨hb, h⟩ := h
    exact g_iret dX9_isSeenSo_57 rfl (s_nb hb) h
  · have h := h.2 q
    refine g_iload_n dX9_isSeenSo_12 rfl ?_
    refine g_if_eq 48 dX9_isSeenSo_13 (by decide) (fun q => ?_) (fun q => ?_)
    · have h := h.1 q
      refine g_iconst 0 dX9_isSeenSo_48 (by decide) ?_
      refine g_istore_n [some (sR 62), some (sI 0), some (sI x2)] dX9_isSeenSo_49 rfl (by decide) rfl ?_
      refine g_iinc (x2 + 1) [some (sR 62), some (sI 0), some (sI (x2 + 1))] dX9_isSeenSo_50 rfl rfl (by decide) rfl ?_
      refine g_goto 4 dX9_isSeenSo_53 (by decide) ?_
      exact sG.loc (s_le_s (s_le_s (s_le_s s_le_0))) h
    · have h := h.2 q
      refine g_aload_n dX9_isSeenSo_16 rfl ?_
      refine g_getr (r2 := 65) dX9_isSeenSo_17 fX9_16 rfl rfl ?_
      refine g_iload_n dX9_isSeenSo_20 rfl ?_
      obtain ⟨v1, h⟩ := h
      refine h_iald (μ.1 65 x2.toNatClampNeg) dX9_isSeenSo_21 rfl rfl v1 rfl ?_
      refine g_if_lt 44 dX9_isSeenSo_22 (by decide) (fun q => ?_) (fun q => ?_)
      · have h := h.1 q
        refine g_iconst 1 dX9_isSeenSo_44 (by decide) ?_
        refine g_goto 49 dX9_isSeenSo_45 (by decide) ?_
        refine g_istore_n [some (sR 62), some (sI 1), some (sI x2)] dX9_isSeenSo_49 rfl (by decide) rfl ?_
        refine g_iinc (x2 + 1) [some (sR 62), some (sI 1), some (sI (x2 + 1))] dX9_isSeenSo_50 rfl rfl (by decide) rfl ?_
        refine g_goto 4 dX9_isSeenSo_53 (by decide) ?_
        exact sG.loc (s_le_s (s_le_s (s_le_s s_le_0))) h
      · have h := h.2 q
        refine g_aload_n dX9_isSeenSo_25 rfl ?_
        refine g_getr (r2 := 65) dX9_isSeenSo_26 fX9_16 rfl rfl ?_
        refine g_iload_n dX9_isSeenSo_29 rfl ?_
        refine h_iald (μ.1 65 x2.toNatClampNeg) dX9_isSeenSo_30 rfl rfl v1 rfl ?_
        refine g_aload_n dX9_isSeenSo_31 rfl ?_
        refine g_getr (r2 := 63) dX9_isSeenSo_32 fX9_7 rfl rfl ?_
        refine g_iconst 3 dX9_isSeenSo_35 (by decide) ?_
        refine g_iload_n dX9_isSeenSo_36 rfl ?_
        refine g_callSi (mi2 := mX9_at) (st := [sR 63, sI (μ.1 65 x2.toNatClampNeg)]) [sI 3, sI x2] dX9_isSeenSo_37 lX9_88 kX9_at vX9_at rfl (Nat.le_of_ble_eq_true rfl) (Nat.le_of_ble_eq_true rfl) (Nat.le_of_ble_eq_true rfl) rfl ?_
        refine sG.mono h (kI_mono fun r1 μ1 h => ?_)
        obtain ⟨v2, h⟩ := h
        refine h_iald (μ1.1 63 r1.toNatClampNeg) dX9_isSeenSo_40 rfl rfl v2 rfl ?_
        refine g_icmp_ne 48 dX9_isSeenSo_41 (by decide) (fun q => ?_) (fun q => ?_)
        · have h := h.1 q
          refine g_iconst 0 dX9_isSeenSo_48 (by decide) ?_
          refine g_istore_n [some (sR 62), some (sI 0), some (sI x2)] dX9_isSeenSo_49 rfl (by decide) rfl ?_
          refine g_iinc (x2 + 1) [some (sR 62), some (sI 0), some (sI (x2 + 1))] dX9_isSeenSo_50 rfl rfl (by decide) rfl ?_
          refine g_goto 4 dX9_isSeenSo_53 (by decide) ?_
          exact sG.loc (s_le_s (s_le_s (s_le_s s_le_0))) h
        · have h := h.2 q
          refine g_iconst 1 dX9_isSeenSo_44 (by decide) ?_
          refine g_goto 49 dX9_isSeenSo_45 (by decide) ?_
          refine g_istore_n [some (sR 62), some (sI 1), some (sI x2)] dX9_isSeenSo_49 rfl (by decide) rfl ?_
          refine g_iinc (x2 + 1) [some (sR 62), some (sI 1), some (sI (x2 + 1))] dX9_isSeenSo_50 rfl rfl (by decide) rfl ?_
          refine g_goto 4 dX9_isSeenSo_53 (by decide) ?_
          exact sG.loc (s_le_s (s_le_s (s_le_s s_le_0))) h
set_option maxRecDepth 20000 in
theorem eX9_countRow {d : Nat} {Q : Option sAV → sM → Prop} {μ : sM} {a1 : Int32} (h : ((¬ (μ.1 62 25) = 0 → sG sLL mX9_countRow (d + 1) Q 75 [some (sR 62), some (sI a1), some (sI 0)] [] (s_u (s_u (s_u μ 62 25 ((μ.1 62 25) + 1)) 62 27 ((μ.1 62 27) &&& (μ.1 62 24))) 62 28 ((μ.1 62 28) ||| (μ.1 62 24)))) ∧ ((μ.1 62 25) = 0 → sG sLL mX9_countRow (d + 1) Q 14 [some (sR 62), some (sI a1), some (sI 0)] [] (s_u μ 62 26 a1)))) : sCl sLL mX9_countRow (d + 1) [sR 62, sI a1] μ Q := by
  refine sG.loc (al2 := [some (sR 62), some (sI a1), none]) (s_le_s (s_le_s (s_le_p s_le_0))) ?_
  refine g_aload_n dX9_countRow_0 rfl ?_
  refine h_geti (μ.1 62 25) dX9_countRow_1 fX9_187 rfl rfl rfl ?_
  refine g_if_ne 37 dX9_countRow_4 (by decide) (fun q => ?_) (fun q => ?_)
  · have h := h.1 q
    refine g_aload_n dX9_countRow_37 rfl ?_
    refine g_dup_r dX9_countRow_38 ?_
    refine h_geti (μ.1 62 25) dX9_countRow_39 fX9_187 rfl rfl rfl ?_
    refine g_iconst 1 dX9_countRow_42 (by decide) ?_
    refine g_iadd dX9_countRow_43 ?_
    refine g_puti dX9_countRow_44 fX9_187 rfl rfl rfl rfl ?_
    refine g_aload_n dX9_countRow_47 rfl ?_
    refine g_dup_r dX9_countRow_48 ?_
    refine h_geti (μ.1 62 27) dX9_countRow_49 fX9_193 rfl rfl rfl ?_
    refine g_aload_n dX9_countRow_52 rfl ?_
    refine h_geti (μ.1 62 24) dX9_countRow_53 fX9_184 rfl rfl rfl ?_
    refine g_iand dX9_countRow_56 ?_
    refine g_puti dX9_countRow_57 fX9_193 rfl rfl rfl rfl ?_
    refine g_aload_n dX9_countRow_60 rfl ?_
    refine g_dup_r dX9_countRow_61 ?_
    refine h_geti (μ.1 62 28) dX9_countRow_62 fX9_196 rfl rfl rfl ?_
    refine g_aload_n dX9_countRow_65 rfl ?_
    refine h_geti (μ.1 62 24) dX9_countRow_66 fX9_184 rfl rfl rfl ?_
    refine g_ior dX9_countRow_69 ?_
    refine g_puti dX9_countRow_70 fX9_196 rfl rfl rfl rfl ?_
    refine g_iconst 0 dX9_countRow_73 (by decide) ?_
    refine g_istore_n [some (sR 62), some (sI a1), some (sI 0)] dX9_countRow_74 rfl (by decide) rfl ?_
    exact sG.loc (s_le_s (s_le_s (s_le_s s_le_0))) h
  · have h := h.2 q
    refine g_aload_n dX9_countRow_7 rfl ?_
    refine g_iload_n dX9_countRow_8 rfl ?_
    refine g_puti dX9_countRow_9 fX9_190 rfl rfl rfl rfl ?_
    refine g_iconst 0 dX9_countRow_12 (by decide) ?_
    refine g_istore_n [some (sR 62), some (sI a1), some (sI 0)] dX9_countRow_13 rfl (by decide) rfl ?_
    exact sG.loc (s_le_s (s_le_s (s_le_s s_le_0))) h
set_option maxRecDepth 20000 in
theorem sX9_countRow_14 {d : Nat} {Q : Option sAV → sM → Prop} {μ : sM} {x1 : Int32} {x2 : Int32} (h : ((x1 ≤ x2 → sG sLL mX9_countRow (d + 1) Q 75 [some (sR 62), some (sI x1), some (sI 0)] [] (s_u (s_u (s_u μ 62 25 ((μ.1 62 25) + 1)) 62 27 ((μ.1 62 27) &&& (μ.1 62 24))) 62 28 ((μ.1 62 28) ||| (μ.1 62 24)))) ∧ (¬ x1 ≤ x2 → (vp_in x2 6 ∧ sG sLL mX9_countRow (d + 1) Q 14 [some (sR 62), some (sI x1), some (sI (x2 + 1))] [] (s_u μ 79 (x2.toNatClampNeg) (μ.1 78 x2.toNatClampNeg)))))) : sG sLL mX9_countRow (d + 1) Q 14 [some (sR 62), some (sI x1), some (sI x2)] [] μ := by
  refine g_iload_n dX9_countRow_14 rfl ?_
  refine g_iload_n dX9_countRow_15 rfl ?_
  refine g_icmp_ge 37 dX9_countRow_16 (by decide) (fun q => ?_) (fun q => ?_)
  · have h := h.1 q
    refine g_aload_n dX9_countRow_37 rfl ?_
    refine g_dup_r dX9_countRow_38 ?_
    refine h_geti (μ.1 62 25) dX9_countRow_39 fX9_187 rfl rfl rfl ?_
    refine g_iconst 1 dX9_countRow_42 (by decide) ?_
    refine g_iadd dX9_countRow_43 ?_
    refine g_puti dX9_countRow_44 fX9_187 rfl rfl rfl rfl ?_
    refine g_aload_n dX9_countRow_47 rfl ?_
    refine g_dup_r dX9_countRow_48 ?_
    refine h_geti (μ.1 62 27) dX9_countRow_49 fX9_193 rfl rfl rfl ?_
    refine g_aload_n dX9_countRow_52 rfl ?_
    refine h_geti (μ.1 62 24) dX9_countRow_53 fX9_184 rfl rfl rfl ?_
    refine g_iand dX9_countRow_56 ?_
    refine g_puti dX9_countRow_57 fX9_193 rfl rfl rfl rfl ?_
    refine g_aload_n dX9_countRow_60 rfl ?_
    refine g_dup_r dX9_countRow_61 ?_
    refine h_geti (μ.1 62 28) dX9_countRow_62 fX9_196 rfl rfl rfl ?_
    refine g_aload_n dX9_countRow_65 rfl ?_
    refine h_geti (μ.1 62 24) dX9_countRow_66 fX9_184 rfl rfl rfl ?_
    refine g_ior dX9_countRow_69 ?_
    refine g_puti dX9_countRow_70 fX9_196 rfl rfl rfl rfl ?_
    refine g_iconst 0 dX9_countRow_73 (by decide) ?_
    refine g_istore_n [some (sR 62), some (sI x1), some (sI 0)] dX9_countRow_74 rfl (by decide) rfl ?_
    exact sG.loc (s_le_s (s_le_s (s_le_s s_le_0))) h
  · have h := h.2 q
    refine g_aload_n dX9_countRow_19 rfl ?_
    refine g_getr (r2 := 79) dX9_countRow_20 fX9_58 rfl rfl ?_
    refine g_iload_n dX9_countRow_23 rfl ?_
    refine g_aload_n dX9_countRow_24 rfl ?_
    refine g_getr (r2 := 78) dX9_countRow_25 fX9_55 rfl rfl ?_
    refine g_iload_n dX9_countRow_28 rfl ?_
    obtain ⟨v1, h⟩ := h
    refine h_iald (μ.1 78 x2.toNatClampNeg) dX9_countRow_29 rfl rfl v1 rfl ?_
    refine h_iast (x2.toNatClampNeg) dX9_countRow_30 rfl rfl v1 rfl ?_
    refine g_iinc (x2 + 1) [some (sR 62), some (sI x1), some (sI (x2 + 1))] dX9_countRow_31 rfl rfl (by decide) rfl ?_
    refine g_goto 14 dX9_countRow_34 (by decide) ?_
    exact sG.loc (s_le_s (s_le_s (s_le_s s_le_0))) h
set_option maxRecDepth 20000 in
theorem sX9_countRow_75 {d : Nat} {Q : Option sAV → sM → Prop} {μ : sM} {x1 : Int32} {x2 : Int32} (h : (((μ.1 62 0) ≤ x2 → Q none μ) ∧ (¬ (μ.1 62 0) ≤ x2 → (vp_in x2 7 ∧ ((0 ≤ (μ.1 74 x2.toNatClampNeg) → sCl sLL mX9_at d [sI 3, sI x2] (s_u μ 80 (x2.toNatClampNeg) ((μ.1 80 x2.toNatClampNeg) ||| ((1 : Int32) <<< ((μ.1 74 x2.toNatClampNeg) &&& 31)))) (kI fun r1 μ1 => (vp_in r1 28 ∧ (vp_in ((10 * x2) + (μ1.1 63 r1.toNatClampNeg)) 70 ∧ sG sLL mX9_countRow (d + 1) Q 75 [some (sR 62), some (sI x1), some (sI (x2 + 1))] [] (s_u μ1 81 (((10 * x2) + (μ1.1 63 r1.toNatClampNeg)).toNatClampNeg) ((μ1.1 81 ((10 * x2) + (μ1.1 63 r1.toNatClampNeg)).toNatClampNeg) + 1)))))) ∧ (¬ 0 ≤ (μ.1 74 x2.toNatClampNeg) → sCl sLL mX9_at d [sI 3, sI x2] (s_u μ 80 (x2.toNatClampNeg) ((μ.1 80 x2.toNatClampNeg) ||| ((1 : Int32) <<< ((4 : Int32) &&& 31)))) (kI fun r1 μ1 => (vp_in r1 28 ∧ (vp_in ((10 * x2) + (μ1.1 63 r1.toNatClampNeg)) 70 ∧ sG sLL mX9_countRow (d + 1) Q 75 [some (sR 62), some (sI x1), some (sI (x2 + 1))] [] (s_u μ1 81 (((10 * x2) + (μ1.1 63 r1.toNatClampNeg)).toNatClampNeg) ((μ1.1 81 ((10 * x2) + (μ1.1 63 r1.toNatClampNeg)).toNatClampNeg) + 1))))))))))) : sG sLL mX9_countRow (d + 1) Q 75 [some (sR 62), some (sI x1), some (sI x2)] [] μ := by
  refine g_iload_n dX9_countRow_75 rfl ?_
  refine g_aload_n dX9_countRow_76 rfl ?_
  refine h_geti (μ.1 62 0) dX9_countRow_77 fX9_84 rfl rfl rfl ?_
  refine g_icmp_ge 143 dX9_countRow_80 (by decide) (fun q => ?_) (fun q => ?_)
  · have h := h.1 q
    exact g_vret dX9_countRow_143 rfl h
  · have h := h.2 q
    refine g_aload_n dX9_countRow_83 rfl ?_
    refine g_getr (r2 := 80) dX9_countRow_84 fX9_61 rfl rfl ?_
    refine g_iload_n dX9_countRow_87 rfl ?_
    refine g_dup2 dX9_countRow_88 ?_
    obtain ⟨v1, h⟩ := h
    refine h_iald (μ.1 80 x2.toNatClampNeg) dX9_countRow_89 rfl rfl v1 rfl ?_
    refine g_iconst 1 dX9_countRow_90 (by decide) ?_
    refine g_aload_n dX9_countRow_91 rfl ?_
    refine g_getr (r2 := 74) dX9_countRow_92 fX9_43 rfl rfl ?_
    refine g_iload_n dX9_countRow_95 rfl ?_
    refine h_iald (μ.1 74 x2.toNatClampNeg) dX9_countRow_96 rfl rfl v1 rfl ?_
    refine g_if_ge 104 dX9_countRow_97 (by decide) (fun q => ?_) (fun q => ?_)
    · have h := h.1 q
      refine g_aload_n dX9_countRow_104 rfl ?_
      refine g_getr (r2 := 74) dX9_countRow_105 fX9_43 rfl rfl ?_
      refine g_iload_n dX9_countRow_108 rfl ?_
      refine h_iald (μ.1 74 x2.toNatClampNeg) dX9_countRow_109 rfl rfl v1 rfl ?_
      refine g_ishl dX9_countRow_110 ?_
      refine g_ior dX9_countRow_111 ?_
      refine h_iast (x2.toNatClampNeg) dX9_countRow_112 rfl rfl v1 rfl ?_
      refine g_aload_n dX9_countRow_113 rfl ?_
      refine g_getr (r2 := 81) dX9_countRow_114 fX9_64 rfl rfl ?_
      refine g_bipush 10 dX9_countRow_117 (by decide) ?_
      refine g_iload_n dX9_countRow_119 rfl ?_
      refine g_imul dX9_countRow_120 ?_
      refine g_aload_n dX9_countRow_121 rfl ?_
      refine g_getr (r2 := 63) dX9_countRow_122 fX9_7 rfl rfl ?_
      refine g_iconst 3 dX9_countRow_125 (by decide) ?_
      refine g_iload_n dX9_countRow_126 rfl ?_
      refine g_callSi (mi2 := mX9_at) (st := [sR 63, sI (10 * x2), sR 81]) [sI 3, sI x2] dX9_countRow_127 lX9_88 kX9_at vX9_at rfl (Nat.le_of_ble_eq_true rfl) (Nat.le_of_ble_eq_true rfl) (Nat.le_of_ble_eq_true rfl) rfl ?_
      refine sG.mono h (kI_mono fun r1 μ1 h => ?_)
      obtain ⟨v2, h⟩ := h
      refine h_iald (μ1.1 63 r1.toNatClampNeg) dX9_countRow_130 rfl rfl v2 rfl ?_
      refine g_iadd dX9_countRow_131 ?_
      refine g_dup2 dX9_countRow_132 ?_
      obtain ⟨v3, h⟩ := h
      refine h_iald (μ1.1 81 ((10 * x2) + (μ1.1 63 r1.toNatClampNeg)).toNatClampNeg) dX9_countRow_133 rfl rfl v3 rfl ?_
      refine g_iconst 1 dX9_countRow_134 (by decide) ?_
      refine g_iadd dX9_countRow_135 ?_
      refine h_iast (((10 * x2) + (μ1.1 63 r1.toNatClampNeg)).toNatClampNeg) dX9_countRow_136 rfl rfl v3 rfl ?_
      refine g_iinc (x2 + 1) [some (sR 62), some (sI x1), some (sI (x2 + 1))] dX9_countRow_137 rfl rfl (by decide) rfl ?_
      refine g_goto 75 dX9_countRow_140 (by decide) ?_
      exact sG.loc (s_le_s (s_le_s (s_le_s s_le_0))) h
    · have h := h.2 q
      refine g_iconst 4 dX9_countRow_100 (by decide) ?_
      refine g_goto 110 dX9_countRow_101 (by decide) ?_
      refine g_ishl dX9_countRow_110 ?_
      refine g_ior dX9_countRow_111 ?_
      refine h_iast (x2.toNatClampNeg) dX9_countRow_112 rfl rfl v1 rfl ?_
      refine g_aload_n dX9_countRow_113 rfl ?_
      refine g_getr (r2 := 81) dX9_countRow_114 fX9_64 rfl rfl ?_
      refine g_bipush 10 dX9_countRow_117 (by decide) ?_
      refine g_iload_n dX9_countRow_119 rfl ?_
      refine g_imul dX9_countRow_120 ?_
      refine g_aload_n dX9_countRow_121 rfl ?_
      refine g_getr (r2 := 63) dX9_countRow_122 fX9_7 rfl rfl ?_
      refine g_iconst 3 dX9_countRow_125 (by decide) ?_
      refine g_iload_n dX9_countRow_126 rfl ?_
      refine g_callSi (mi2 := mX9_at) (st := [sR 63, sI (10 * x2), sR 81]) [sI 3, sI x2] dX9_countRow_127 lX9_88 kX9_at vX9_at rfl (Nat.le_of_ble_eq_true rfl) (Nat.le_of_ble_eq_true rfl) (Nat.le_of_ble_eq_true rfl) rfl ?_
      refine sG.mono h (kI_mono fun r1 μ1 h => ?_)
      obtain ⟨v2, h⟩ := h
      refine h_iald (μ1.1 63 r1.toNatClampNeg) dX9_countRow_130 rfl rfl v2 rfl ?_
      refine g_iadd dX9_countRow_131 ?_
      refine g_dup2 dX9_countRow_132 ?_
      obtain ⟨v3, h⟩ := h
      refine h_iald (μ1.1 81 ((10 * x2) + (μ1.1 63 r1.toNatClampNeg)).toNatClampNeg) dX9_countRow_133 rfl rfl v3 rfl ?_
      refine g_iconst 1 dX9_countRow_134 (by decide) ?_
      refine g_iadd dX9_countRow_135 ?_
      refine h_iast (((10 * x2) + (μ1.1 63 r1.toNatClampNeg)).toNatClampNeg) dX9_countRow_136 rfl rfl v3 rfl ?_
      refine g_iinc (x2 + 1) [some (sR 62), some (sI x1), some (sI (x2 + 1))] dX9_countRow_137 rfl rfl (by decide) rfl ?_
      refine g_goto 75 dX9_countRow_140 (by decide) ?_
      exact sG.loc (s_le_s (s_le_s (s_le_s s_le_0))) h
set_option maxRecDepth 20000 in
theorem eX9_cup {d : Nat} {Q : Option sAV → sM → Prop} {μ : sM} {a1 : Int32} {a2 : Int32} (h : sCl sLL mX9_isThing d [sR 62, sI a1] μ (kI fun r1 μ1 => ((¬ r1 = 0 → sCl sLL mX9_in d [sL a2.toInt64, sL 0, sL 6] μ1 (kI fun r2 μ2 => ((¬ r2 = 0 → sCl sLL mX9_goRows d [sR 62, sI a2] μ2 (kV fun μ3 => (vp_in a1 7 ∧ Q (some (sI (μ3.1 80 a1.toNatClampNeg))) μ3))) ∧ (r2 = 0 → Q (some (sI (-2))) μ2)))) ∧ (r1 = 0 → Q (some (sI (-1))) μ1)))) : sCl sLL mX9_cup (d + 1) [sR 62, sI a1, sI a2] μ Q := by
  refine sG.loc (al2 := [some (sR 62), some (sI a1), some (sI a2)]) (s_le_s (s_le_s (s_le_s s_le_0))) ?_
  refine g_aload_n dX9_cup_0 rfl ?_
  refine g_iload_n dX9_cup_1 rfl ?_
  refine g_callVi (mi2 := mX9_isThing) (r := 62) (st := []) [sI a1] dX9_cup_2 lX9_103 kX9_isThing vX9_isThing rfl rfl rfl (Nat.le_of_ble_eq_true rfl) (Nat.le_of_ble_eq_true rfl) (Nat.le_of_ble_eq_true rfl) rfl ?_
  refine sG.mono h (kI_mono fun r1 μ1 h => ?_)
  refine g_if_ne 10 dX9_cup_5 (by decide) (fun q => ?_) (fun q => ?_)
  · have h := h.1 q
    refine g_iload_n dX9_cup_10 rfl ?_
    refine g_i2l dX9_cup_11 ?_
    refine g_lconst 0 dX9_cup_12 (by decide) ?_
    refine g_ldc2 dX9_cup_13 qX9_215 ?_
    refine g_callSi (mi2 := mX9_in) (st := []) [sL a2.toInt64, sL 0, sL 6] dX9_cup_16 lX9_92 kX9_in vX9_in rfl (Nat.le_of_ble_eq_true rfl) (Nat.le_of_ble_eq_true rfl) (Nat.le_of_ble_eq_true rfl) rfl ?_
    refine sG.mono h (kI_mono fun r2 μ2 h => ?_)
    refine g_if_ne 25 dX9_cup_19 (by decide) (fun q => ?_) (fun q => ?_)
    · have h := h.1 q
      refine g_aload_n dX9_cup_25 rfl ?_
      refine g_iload_n dX9_cup_26 rfl ?_
      refine g_callVv (mi2 := mX9_goRows) (r := 62) (st := []) [sI a2] dX9_cup_27 lX9_217 kX9_goRows vX9_goRows rfl rfl rfl (Nat.le_of_ble_eq_true rfl) (Nat.le_of_ble_eq_true rfl) (Nat.le_of_ble_eq_true rfl) rfl ?_
      refine sG.mono h (kV_mono fun μ3 h => ?_)
      refine g_aload_n dX9_cup_30 rfl ?_
      refine g_getr (r2 := 80) dX9_cup_31 fX9_61 rfl rfl ?_
      refine g_iload_n dX9_cup_34 rfl ?_
      obtain ⟨v1, h⟩ := h
      refine h_iald (μ3.1 80 a1.toNatClampNeg) dX9_cup_35 rfl rfl v1 rfl ?_
      exact g_iret dX9_cup_36 rfl rfl h
    · have h := h.2 q
      refine g_bipush (-2) dX9_cup_22 (by decide) ?_
      exact g_iret dX9_cup_24 rfl rfl h
  · have h := h.2 q
    refine g_iconst (-1) dX9_cup_8 (by decide) ?_
    exact g_iret dX9_cup_9 rfl rfl h
set_option maxRecDepth 20000 in
theorem eX9_look {d : Nat} {Q : Option sAV → sM → Prop} {μ : sM} {a1 : Int32} {a2 : Int32} (h : sCl sLL mX9_in d [sL a1.toInt64, sL 0, sL 6] μ (kI fun r1 μ1 => ((r1 = 0 → Q (some (sI (-2))) μ1) ∧ (¬ r1 = 0 → sCl sLL mX9_in d [sL a2.toInt64, sL 0, sL 1] μ1 (kI fun r2 μ2 => ((¬ r2 = 0 → sCl sLL mX9_goRows d [sR 62, sI a1] μ2 (kV fun μ3 => sG sLL mX9_look (d + 1) Q 36 [some (sR 62), some (sI a1), some (sI a2), some (sI (-6)), some (sI 0), none] [] μ3)) ∧ (r2 = 0 → Q (some (sI (-2))) μ2))))))) : sCl sLL mX9_look (d + 1) [sR 62, sI a1, sI a2] μ Q := by
  refine sG.loc (al2 := [some (sR 62), some (sI a1), some (sI a2), none, none, none]) (s_le_s (s_le_s (s_le_s (s_le_p (s_le_p (s_le_p s_le_0)))))) ?_
  refine g_iload_n dX9_look_0 rfl ?_
  refine g_i2l dX9_look_1 ?_
  refine g_lconst 0 dX9_look_2 (by decide) ?_
  refine g_ldc2 dX9_look_3 qX9_215 ?_
  refine g_callSi (mi2 := mX9_in) (st := []) [sL a1.toInt64, sL 0, sL 6] dX9_look_6 lX9_92 kX9_in vX9_in rfl (Nat.le_of_ble_eq_true rfl) (Nat.le_of_ble_eq_true rfl) (Nat.le_of_ble_eq_true rfl) rfl ?_
  refine sG.mono h (kI_mono fun r1 μ1 h => ?_)
  refine g_if_eq 22 dX9_look_9 (by decide) (fun q => ?_) (fun q => ?_)
  · have h := h.1 q
    refine g_bipush (-2) dX9_look_22 (by decide) ?_
    exact g_iret dX9_look_24 rfl rfl h
  · have h := h.2 q
    refine g_iload_n dX9_look_12 rfl ?_
    refine g_i2l dX9_look_13 ?_
    refine g_lconst 0 dX9_look_14 (by decide) ?_
    refine g_lconst 1 dX9_look_15 (by decide) ?_
    refine g_callSi (mi2 := mX9_in) (st := []) [sL a2.toInt64, sL 0, sL 1] dX9_look_16 lX9_92 kX9_in vX9_in rfl (Nat.le_of_ble_eq_true rfl) (Nat.le_of_ble_eq_true rfl) (Nat.le_of_ble_eq_true rfl) rfl ?_
    refine sG.mono h (kI_mono fun r2 μ2 h => ?_)
    refine g_if_ne 25 dX9_look_19 (by decide) (fun q => ?_) (fun q => ?_)
    · have h := h.1 q
      refine g_aload_n dX9_look_25 rfl ?_
      refine g_iload_n dX9_look_26 rfl ?_
      refine g_callVv (mi2 := mX9_goRows) (r := 62) (st := []) [sI a1] dX9_look_27 lX9_217 kX9_goRows vX9_goRows rfl rfl rfl (Nat.le_of_ble_eq_true rfl) (Nat.le_of_ble_eq_true rfl) (Nat.le_of_ble_eq_true rfl) rfl ?_
      refine sG.mono h (kV_mono fun μ3 h => ?_)
      refine g_bipush (-6) dX9_look_30 (by decide) ?_
      refine g_istore_n [some (sR 62), some (sI a1), some (sI a2), some (sI (-6)), none, none] dX9_look_32 rfl (by decide) rfl ?_
      refine g_iconst 0 dX9_look_33 (by decide) ?_
      refine g_istore [some (sR 62), some (sI a1), some (sI a2), some (sI (-6)), some (sI 0), none] dX9_look_34 (by decide) rfl ?_
      exact sG.loc (s_le_s (s_le_s (s_le_s (s_le_s (s_le_s (s_le_n s_le_0)))))) h
    · have h := h.2 q
      refine g_bipush (-2) dX9_look_22 (by decide) ?_
      exact g_iret dX9_look_24 rfl rfl h
set_option maxRecDepth 20000 in
theorem sX9_look_36 {d : Nat} {Q : Option sAV → sM → Prop} {μ : sM} {x1 : Int32} {x2 : Int32} {x3 : Int32} {x4 : Int32} (h : (((μ.1 62 0) ≤ x4 → ((x3 < 0 → Q (some (sI x3)) μ) ∧ (¬ x3 < 0 → ((¬ x2 = 0 → sCl sLL mX9_mostLeft d [sR 62, sI x3] μ (kI fun r1 μ1 => Q (some (sI r1)) μ1)) ∧ (x2 = 0 → Q (some (sI x3)) μ))))) ∧ (¬ (μ.1 62 0) ≤ x4 → (((μ.1 62 25) ≤ 0 → ((x3 < 0 → Q (some (sI x3)) μ) ∧ (¬ x3 < 0 → ((¬ x2 = 0 → sCl sLL mX9_mostLeft d [sR 62, sI x3] μ (kI fun r1 μ1 => Q (some (sI r1)) μ1)) ∧ (x2 = 0 → Q (some (sI x3)) μ))))) ∧ (¬ (μ.1 62 25) ≤ 0 → (vp_in x4 7 ∧ ((0 ≤ (μ.1 65 x4.toNatClampNeg) → sG sLL mX9_look (d + 1) Q 36 [some (sR 62), some (sI x1), some (sI x2), some (sI x3), some (sI (x4 + 1)), none] [] μ) ∧ (¬ 0 ≤ (μ.1 65 x4.toNatClampNeg) → ((x3 < 0 → sG sLL mX9_look (d + 1) Q 36 [some (sR 62), some (sI x1), some (sI x2), some (sI x4), some (sI (x4 + 1)), none] [] μ) ∧ (¬ x3 < 0 → sCl sLL mX9_mostLeft d [sR 62, sI x4] μ (kI fun r1 μ1 => sCl sLL mX9_mostLeft d [sR 62, sI x3] μ1 (kI fun r2 μ2 => ((r2 ≤ r1 → sG sLL mX9_look (d + 1) Q 36 [some (sR 62), some (sI x1), some (sI x2), some (sI x3), some (sI (x4 + 1)), none] [] μ2) ∧ (¬ r2 ≤ r1 → sG sLL mX9_look (d + 1) Q 36 [some (sR 62), some (sI x1), some (sI x2), some (sI x4), some (sI (x4 + 1)), none] [] μ2)))))))))))))) : sG sLL mX9_look (d + 1) Q 36 [some (sR 62), some (sI x1), some (sI x2), some (sI x3), some (sI x4), none] [] μ := by
  refine g_iload dX9_look_36 rfl ?_
  refine g_aload_n dX9_look_38 rfl ?_
  refine h_geti (μ.1 62 0) dX9_look_39 fX9_84 rfl rfl rfl ?_
  refine g_icmp_ge 105 dX9_look_42 (by decide) (fun q => ?_) (fun q => ?_)
  · have h := h.1 q
    refine g_iload_n dX9_look_105 rfl ?_
    refine g_if_lt 113 dX9_look_106 (by decide) (fun q => ?_) (fun q => ?_)
    · have h := h.1 q
      refine g_iload_n dX9_look_113 rfl ?_
      refine g_goto 122 dX9_look_114 (by decide) ?_
      exact g_iret dX9_look_122 rfl rfl h
    · have h := h.2 q
      refine g_iload_n dX9_look_109 rfl ?_
      refine g_if_ne 117 dX9_look_110 (by decide) (fun q => ?_) (fun q => ?_)
      · have h := h.1 q
        refine g_aload_n dX9_look_117 rfl ?_
        refine g_iload_n dX9_look_118 rfl ?_
        refine g_callVi (mi2 := mX9_mostLeft) (r := 62) (st := []) [sI x3] dX9_look_119 lX9_220 kX9_mostLeft vX9_mostLeft rfl rfl rfl (Nat.le_of_ble_eq_true rfl) (Nat.le_of_ble_eq_true rfl) (Nat.le_of_ble_eq_true rfl) rfl ?_
        refine sG.mono h (kI_mono fun r1 μ1 h => ?_)
        exact g_iret dX9_look_122 rfl rfl h
      · have h := h.2 q
        refine g_iload_n dX9_look_113 rfl ?_
        refine g_goto 122 dX9_look_114 (by decide) ?_
        exact g_iret dX9_look_122 rfl rfl h
  · have h := h.2 q
    refine g_aload_n dX9_look_45 rfl ?_
    refine h_geti (μ.1 62 25) dX9_look_46 fX9_187 rfl rfl rfl ?_
    refine g_if_le 105 dX9_look_49 (by decide) (fun q => ?_) (fun q => ?_)
    · have h := h.1 q
      refine g_iload_n dX9_look_105 rfl ?_
      refine g_if_lt 113 dX9_look_106 (by decide) (fun q => ?_) (fun q => ?_)
      · have h := h.1 q
        refine g_iload_n dX9_look_113 rfl ?_
        refine g_goto 122 dX9_look_114 (by decide) ?_
        exact g_iret dX9_look_122 rfl rfl h
      · have h := h.2 q
        refine g_iload_n dX9_look_109 rfl ?_
        refine g_if_ne 117 dX9_look_110 (by decide) (fun q => ?_) (fun q => ?_)
        · have h := h.1 q
          refine g_aload_n dX9_look_117 rfl ?_
          refine g_iload_n dX9_look_118 rfl ?_
          refine g_callVi (mi2 := mX9_mostLeft) (r := 62) (st := []) [sI x3] dX9_look_119 lX9_220 kX9_mostLeft vX9_mostLeft rfl rfl rfl (Nat.le_of_ble_eq_true rfl) (Nat.le_of_ble_eq_true rfl) (Nat.le_of_ble_eq_true rfl) rfl ?_
          refine sG.mono h (kI_mono fun r1 μ1 h => ?_)
          exact g_iret dX9_look_122 rfl rfl h
        · have h := h.2 q
          refine g_iload_n dX9_look_113 rfl ?_
          refine g_goto 122 dX9_look_114 (by decide) ?_
          exact g_iret dX9_look_122 rfl rfl h
    · have h := h.2 q
      refine g_aload_n dX9_look_52 rfl ?_
      refine g_getr (r2 := 65) dX9_look_53 fX9_16 rfl rfl ?_
      refine g_iload dX9_look_56 rfl ?_
      obtain ⟨v1, h⟩ := h
      refine h_iald (μ.1 65 x4.toNatClampNeg) dX9_look_58 rfl rfl v1 rfl ?_
      refine g_if_ge 66 dX9_look_59 (by decide) (fun q => ?_) (fun q => ?_)
      · have h := h.1 q
        refine g_iconst 0 dX9_look_66 (by decide) ?_
        refine g_istore [some (sR 62), some (sI x1), some (sI x2), some (sI x3), some (sI x4), some (sI 0)] dX9_look_67 (by decide) rfl ?_
        refine g_iload dX9_look_69 rfl ?_
        refine g_if_eq 97 dX9_look_71 (by decide) (fun _ => ?_) (fun q => absurd q (by decide))
        refine g_iload_n dX9_look_97 rfl ?_
        refine g_istore_n [some (sR 62), some (sI x1), some (sI x2), some (sI x3), some (sI x4), some (sI 0)] dX9_look_98 rfl (by decide) rfl ?_
        refine g_iinc (x4 + 1) [some (sR 62), some (sI x1), some (sI x2), some (sI x3), some (sI (x4 + 1)), some (sI 0)] dX9_look_99 rfl rfl (by decide) rfl ?_
        refine g_goto 36 dX9_look_102 (by decide) ?_
        exact sG.loc (s_le_s (s_le_s (s_le_s (s_le_s (s_le_s (s_le_n s_le_0)))))) h
      · have h := h.2 q
        refine g_iconst 1 dX9_look_62 (by decide) ?_
        refine g_goto 67 dX9_look_63 (by decide) ?_
        refine g_istore [some (sR 62), some (sI x1), some (sI x2), some (sI x3), some (sI x4), some (sI 1)] dX9_look_67 (by decide) rfl ?_
        refine g_iload dX9_look_69 rfl ?_
        refine g_if_eq 97 dX9_look_71 (by decide) (fun q => absurd q (by decide)) (fun _ => ?_)
        refine g_iload_n dX9_look_74 rfl ?_
        refine g_if_lt 92 dX9_look_75 (by decide) (fun q => ?_) (fun q => ?_)
        · have h := h.1 q
          refine g_iload dX9_look_92 rfl ?_
          refine g_goto 98 dX9_look_94 (by decide) ?_
          refine g_istore_n [some (sR 62), some (sI x1), some (sI x2), some (sI x4), some (sI x4), some (sI 1)] dX9_look_98 rfl (by decide) rfl ?_
          refine g_iinc (x4 + 1) [some (sR 62), some (sI x1), some (sI x2), some (sI x4), some (sI (x4 + 1)), some (sI 1)] dX9_look_99 rfl rfl (by decide) rfl ?_
          refine g_goto 36 dX9_look_102 (by decide) ?_
          exact sG.loc (s_le_s (s_le_s (s_le_s (s_le_s (s_le_s (s_le_n s_le_0)))))) h
        · have h := h.2 q
          refine g_aload_n dX9_look_78 rfl ?_
          refine g_iload dX9_look_79 rfl ?_
          refine g_callVi (mi2 := mX9_mostLeft) (r := 62) (st := []) [sI x4] dX9_look_81 lX9_220 kX9_mostLeft vX9_mostLeft rfl rfl rfl (Nat.le_of_ble_eq_true rfl) (Nat.le_of_ble_eq_true rfl) (Nat.le_of_ble_eq_true rfl) rfl ?_
          refine sG.mono h (kI_mono fun r1 μ1 h => ?_)
          refine g_aload_n dX9_look_84 rfl ?_
          refine g_iload_n dX9_look_85 rfl ?_
          refine g_callVi (mi2 := mX9_mostLeft) (r := 62) (st := [sI r1]) [sI x3] dX9_look_86 lX9_220 kX9_mostLeft vX9_mostLeft rfl rfl rfl (Nat.le_of_ble_eq_true rfl) (Nat.le_of_ble_eq_true rfl) (Nat.le_of_ble_eq_true rfl) rfl ?_
          refine sG.mono h (kI_mono fun r2 μ2 h => ?_)
          refine g_icmp_ge 97 dX9_look_89 (by decide) (fun q => ?_) (fun q => ?_)
          · have h := h.1 q
            refine g_iload_n dX9_look_97 rfl ?_
            refine g_istore_n [some (sR 62), some (sI x1), some (sI x2), some (sI x3), some (sI x4), some (sI 1)] dX9_look_98 rfl (by decide) rfl ?_
            refine g_iinc (x4 + 1) [some (sR 62), some (sI x1), some (sI x2), some (sI x3), some (sI (x4 + 1)), some (sI 1)] dX9_look_99 rfl rfl (by decide) rfl ?_
            refine g_goto 36 dX9_look_102 (by decide) ?_
            exact sG.loc (s_le_s (s_le_s (s_le_s (s_le_s (s_le_s (s_le_n s_le_0)))))) h
          · have h := h.2 q
            refine g_iload dX9_look_92 rfl ?_
            refine g_goto 98 dX9_look_94 (by decide) ?_
            refine g_istore_n [some (sR 62), some (sI x1), some (sI x2), some (sI x4), some (sI x4), some (sI 1)] dX9_look_98 rfl (by decide) rfl ?_
            refine g_iinc (x4 + 1) [some (sR 62), some (sI x1), some (sI x2), some (sI x4), some (sI (x4 + 1)), some (sI 1)] dX9_look_99 rfl rfl (by decide) rfl ?_
            refine g_goto 36 dX9_look_102 (by decide) ?_
            exact sG.loc (s_le_s (s_le_s (s_le_s (s_le_s (s_le_s (s_le_n s_le_0)))))) h
set_option maxRecDepth 20000 in
theorem eX9_mostLeft {d : Nat} {Q : Option sAV → sM → Prop} {μ : sM} {a1 : Int32} (h : sG sLL mX9_mostLeft d Q 4 [some (sR 62), some (sI a1), some (sI 0), some (sI 0)] [] μ) : sCl sLL mX9_mostLeft d [sR 62, sI a1] μ Q := by
  refine sG.loc (al2 := [some (sR 62), some (sI a1), none, none]) (s_le_s (s_le_s (s_le_p (s_le_p s_le_0)))) ?_
  refine g_iconst 0 dX9_mostLeft_0 (by decide) ?_
  refine g_istore_n [some (sR 62), some (sI a1), some (sI 0), none] dX9_mostLeft_1 rfl (by decide) rfl ?_
  refine g_iconst 0 dX9_mostLeft_2 (by decide) ?_
  refine g_istore_n [some (sR 62), some (sI a1), some (sI 0), some (sI 0)] dX9_mostLeft_3 rfl (by decide) rfl ?_
  exact sG.loc (s_le_s (s_le_s (s_le_s (s_le_s s_le_0)))) h
set_option maxRecDepth 20000 in
theorem sX9_mostLeft_4 {d : Nat} {Q : Option sAV → sM → Prop} {μ : sM} {x1 : Int32} {x2 : Int32} {x3 : Int32} (h : ((10 ≤ x3 → Q (some (sI x2)) μ) ∧ (¬ 10 ≤ x3 → (vp_in ((10 * x1) + x3) 70 ∧ (((μ.1 81 ((10 * x1) + x3).toNatClampNeg) ≤ x2 → sG sLL mX9_mostLeft d Q 4 [some (sR 62), some (sI x1), some (sI x2), some (sI (x3 + 1))] [] μ) ∧ (¬ (μ.1 81 ((10 * x1) + x3).toNatClampNeg) ≤ x2 → sG sLL mX9_mostLeft d Q 4 [some (sR 62), some (sI x1), some (sI (μ.1 81 ((10 * x1) + x3).toNatClampNeg)), some (sI (x3 + 1))] [] μ)))))) : sG sLL mX9_mostLeft d Q 4 [some (sR 62), some (sI x1), some (sI x2), some (sI x3)] [] μ := by
  refine g_iload_n dX9_mostLeft_4 rfl ?_
  refine g_bipush 10 dX9_mostLeft_5 (by decide) ?_
  refine g_icmp_ge 47 dX9_mostLeft_7 (by decide) (fun q => ?_) (fun q => ?_)
  · have h := h.1 q
    refine g_iload_n dX9_mostLeft_47 rfl ?_
    exact g_iret dX9_mostLeft_48 rfl rfl h
  · have h := h.2 q
    refine g_aload_n dX9_mostLeft_10 rfl ?_
    refine g_getr (r2 := 81) dX9_mostLeft_11 fX9_64 rfl rfl ?_
    refine g_bipush 10 dX9_mostLeft_14 (by decide) ?_
    refine g_iload_n dX9_mostLeft_16 rfl ?_
    refine g_imul dX9_mostLeft_17 ?_
    refine g_iload_n dX9_mostLeft_18 rfl ?_
    refine g_iadd dX9_mostLeft_19 ?_
    obtain ⟨v1, h⟩ := h
    refine h_iald (μ.1 81 ((10 * x1) + x3).toNatClampNeg) dX9_mostLeft_20 rfl rfl v1 rfl ?_
    refine g_iload_n dX9_mostLeft_21 rfl ?_
    refine g_icmp_le 39 dX9_mostLeft_22 (by decide) (fun q => ?_) (fun q => ?_)
    · have h := h.1 q
      refine g_iload_n dX9_mostLeft_39 rfl ?_
      refine g_istore_n [some (sR 62), some (sI x1), some (sI x2), some (sI x3)] dX9_mostLeft_40 rfl (by decide) rfl ?_
      refine g_iinc (x3 + 1) [some (sR 62), some (sI x1), some (sI x2), some (sI (x3 + 1))] dX9_mostLeft_41 rfl rfl (by decide) rfl ?_
      refine g_goto 4 dX9_mostLeft_44 (by decide) ?_
      exact sG.loc (s_le_s (s_le_s (s_le_s (s_le_s s_le_0)))) h
    · have h := h.2 q
      refine g_aload_n dX9_mostLeft_25 rfl ?_
      refine g_getr (r2 := 81) dX9_mostLeft_26 fX9_64 rfl rfl ?_
      refine g_bipush 10 dX9_mostLeft_29 (by decide) ?_
      refine g_iload_n dX9_mostLeft_31 rfl ?_
      refine g_imul dX9_mostLeft_32 ?_
      refine g_iload_n dX9_mostLeft_33 rfl ?_
      refine g_iadd dX9_mostLeft_34 ?_
      refine h_iald (μ.1 81 ((10 * x1) + x3).toNatClampNeg) dX9_mostLeft_35 rfl rfl v1 rfl ?_
      refine g_goto 40 dX9_mostLeft_36 (by decide) ?_
      refine g_istore_n [some (sR 62), some (sI x1), some (sI (μ.1 81 ((10 * x1) + x3).toNatClampNeg)), some (sI x3)] dX9_mostLeft_40 rfl (by decide) rfl ?_
      refine g_iinc (x3 + 1) [some (sR 62), some (sI x1), some (sI (μ.1 81 ((10 * x1) + x3).toNatClampNeg)), some (sI (x3 + 1))] dX9_mostLeft_41 rfl rfl (by decide) rfl ?_
      refine g_goto 4 dX9_mostLeft_44 (by decide) ?_
      exact sG.loc (s_le_s (s_le_s (s_le_s (s_le_s s_le_0)))) h
set_option maxRecDepth 20000 in
theorem eX9_belief {d : Nat} {Q : Option sAV → sM → Prop} {μ : sM} {a1 : Int32} {a2 : Int32} {a3 : Int32} (h : ((a2 = (-1) → sCl sLL mX9_in d [sL a1.toInt64, sL 0, sL 6] μ (kI fun r1 μ1 => ((r1 = 0 → Q (some (sL (-1000000000000000002))) μ1) ∧ (¬ r1 = 0 → sCl sLL mX9_in d [sL a3.toInt64, sL 0, sL 1] μ1 (kI fun r2 μ2 => ((¬ r2 = 0 → ((¬ (μ2.1 62 4) = 0 → sCl sLL mX9_keepNow d [sR 62] μ2 (kV fun μ3 => sG sLL mX9_belief (d + 1) Q 67 [some (sR 62), some (sI a1), some (sI a2), some (sI a3), some (sL 0), none, some (sL 0), none, some (sI 0), none, none, none] [] μ3)) ∧ ((μ2.1 62 4) = 0 → Q (some (sL (-1000000000000000003))) μ2))) ∧ (r2 = 0 → Q (some (sL (-1000000000000000002))) μ2))))))) ∧ (¬ a2 = (-1) → sCl sLL mX9_isThere d [sR 62, sI a2] μ (kI fun r1 μ1 => ((¬ r1 = 0 → sCl sLL mX9_in d [sL a1.toInt64, sL 0, sL 6] μ1 (kI fun r2 μ2 => ((r2 = 0 → Q (some (sL (-1000000000000000002))) μ2) ∧ (¬ r2 = 0 → sCl sLL mX9_in d [sL a3.toInt64, sL 0, sL 1] μ2 (kI fun r3 μ3 => ((¬ r3 = 0 → ((¬ (μ3.1 62 4) = 0 → sCl sLL mX9_keepNow d [sR 62] μ3 (kV fun μ4 => sG sLL mX9_belief (d + 1) Q 67 [some (sR 62), some (sI a1), some (sI a2), some (sI a3), some (sL 0), none, some (sL 0), none, some (sI 0), none, none, none] [] μ4)) ∧ ((μ3.1 62 4) = 0 → Q (some (sL (-1000000000000000003))) μ3))) ∧ (r3 = 0 → Q (some (sL (-1000000000000000002))) μ3))))))) ∧ (r1 = 0 → Q (some (sL (-1000000000000000001))) μ1)))))) : sCl sLL mX9_belief (d + 1) [sR 62, sI a1, sI a2, sI a3] μ Q := by
  refine sG.loc (al2 := [some (sR 62), some (sI a1), some (sI a2), some (sI a3), none, none, none, none, none, none, none, none]) (s_le_s (s_le_s (s_le_s (s_le_s (s_le_p (s_le_p (s_le_p (s_le_p (s_le_p (s_le_p (s_le_p (s_le_p s_le_0)))))))))))) ?_
  refine g_iload_n dX9_belief_0 rfl ?_
  refine g_iconst (-1) dX9_belief_1 (by decide) ?_
  refine g_icmp_eq 17 dX9_belief_2 (by decide) (fun q => ?_) (fun q => ?_)
  · have h := h.1 q
    refine g_iload_n dX9_belief_17 rfl ?_
    refine g_i2l dX9_belief_18 ?_
    refine g_lconst 0 dX9_belief_19 (by decide) ?_
    refine g_ldc2 dX9_belief_20 qX9_215 ?_
    refine g_callSi (mi2 := mX9_in) (st := []) [sL a1.toInt64, sL 0, sL 6] dX9_belief_23 lX9_92 kX9_in vX9_in rfl (Nat.le_of_ble_eq_true rfl) (Nat.le_of_ble_eq_true rfl) (Nat.le_of_ble_eq_true rfl) rfl ?_
    refine sG.mono h (kI_mono fun r1 μ1 h => ?_)
    refine g_if_eq 39 dX9_belief_26 (by decide) (fun q => ?_) (fun q => ?_)
    · have h := h.1 q
      refine g_ldc2 dX9_belief_39 qX9_225 ?_
      exact g_lret dX9_belief_42 rfl h
    · have h := h.2 q
      refine g_iload_n dX9_belief_29 rfl ?_
      refine g_i2l dX9_belief_30 ?_
      refine g_lconst 0 dX9_belief_31 (by decide) ?_
      refine g_lconst 1 dX9_belief_32 (by decide) ?_
      refine g_callSi (mi2 := mX9_in) (st := []) [sL a3.toInt64, sL 0, sL 1] dX9_belief_33 lX9_92 kX9_in vX9_in rfl (Nat.le_of_ble_eq_true rfl) (Nat.le_of_ble_eq_true rfl) (Nat.le_of_ble_eq_true rfl) rfl ?_
      refine sG.mono h (kI_mono fun r2 μ2 h => ?_)
      refine g_if_ne 43 dX9_belief_36 (by decide) (fun q => ?_) (fun q => ?_)
      · have h := h.1 q
        refine g_aload_n dX9_belief_43 rfl ?_
        refine h_geti (μ2.1 62 4) dX9_belief_44 fX9_98 rfl rfl rfl ?_
        refine g_if_ne 54 dX9_belief_47 (by decide) (fun q => ?_) (fun q => ?_)
        · have h := h.1 q
          refine g_aload_n dX9_belief_54 rfl ?_
          refine g_callVv (mi2 := mX9_keepNow) (r := 62) (st := []) [] dX9_belief_55 lX9_169 kX9_keepNow vX9_keepNow rfl rfl rfl (Nat.le_of_ble_eq_true rfl) (Nat.le_of_ble_eq_true rfl) (Nat.le_of_ble_eq_true rfl) rfl ?_
          refine sG.mono h (kV_mono fun μ3 h => ?_)
          refine g_lconst 0 dX9_belief_58 (by decide) ?_
          refine g_lstore [some (sR 62), some (sI a1), some (sI a2), some (sI a3), some (sL 0), none, none, none, none, none, none, none] dX9_belief_59 (by decide) rfl ?_
          refine g_lconst 0 dX9_belief_61 (by decide) ?_
          refine g_lstore [some (sR 62), some (sI a1), some (sI a2), some (sI a3), some (sL 0), none, some (sL 0), none, none, none, none, none] dX9_belief_62 (by decide) rfl ?_
          refine g_iconst 0 dX9_belief_64 (by decide) ?_
          refine g_istore [some (sR 62), some (sI a1), some (sI a2), some (sI a3), some (sL 0), none, some (sL 0), none, some (sI 0), none, none, none] dX9_belief_65 (by decide) rfl ?_
          exact sG.loc (s_le_s (s_le_s (s_le_s (s_le_s (s_le_s (s_le_n (s_le_s (s_le_n (s_le_s (s_le_n (s_le_n (s_le_n s_le_0)))))))))))) h
        · have h := h.2 q
          refine g_ldc2 dX9_belief_50 qX9_227 ?_
          exact g_lret dX9_belief_53 rfl h
      · have h := h.2 q
        refine g_ldc2 dX9_belief_39 qX9_225 ?_
        exact g_lret dX9_belief_42 rfl h
  · have h := h.2 q
    refine g_aload_n dX9_belief_5 rfl ?_
    refine g_iload_n dX9_belief_6 rfl ?_
    refine g_callVi (mi2 := mX9_isThere) (r := 62) (st := []) [sI a2] dX9_belief_7 lX9_113 kX9_isThere vX9_isThere rfl rfl rfl (Nat.le_of_ble_eq_true rfl) (Nat.le_of_ble_eq_true rfl) (Nat.le_of_ble_eq_true rfl) rfl ?_
    refine sG.mono h (kI_mono fun r1 μ1 h => ?_)
    refine g_if_ne 17 dX9_belief_10 (by decide) (fun q => ?_) (fun q => ?_)
    · have h := h.1 q
      refine g_iload_n dX9_belief_17 rfl ?_
      refine g_i2l dX9_belief_18 ?_
      refine g_lconst 0 dX9_belief_19 (by decide) ?_
      refine g_ldc2 dX9_belief_20 qX9_215 ?_
      refine g_callSi (mi2 := mX9_in) (st := []) [sL a1.toInt64, sL 0, sL 6] dX9_belief_23 lX9_92 kX9_in vX9_in rfl (Nat.le_of_ble_eq_true rfl) (Nat.le_of_ble_eq_true rfl) (Nat.le_of_ble_eq_true rfl) rfl ?_
      refine sG.mono h (kI_mono fun r2 μ2 h => ?_)
      refine g_if_eq 39 dX9_belief_26 (by decide) (fun q => ?_) (fun q => ?_)
      · have h := h.1 q
        refine g_ldc2 dX9_belief_39 qX9_225 ?_
        exact g_lret dX9_belief_42 rfl h
      · have h := h.2 q
        refine g_iload_n dX9_belief_29 rfl ?_
        refine g_i2l dX9_belief_30 ?_
        refine g_lconst 0 dX9_belief_31 (by decide) ?_
        refine g_lconst 1 dX9_belief_32 (by decide) ?_
        refine g_callSi (mi2 := mX9_in) (st := []) [sL a3.toInt64, sL 0, sL 1] dX9_belief_33 lX9_92 kX9_in vX9_in rfl (Nat.le_of_ble_eq_true rfl) (Nat.le_of_ble_eq_true rfl) (Nat.le_of_ble_eq_true rfl) rfl ?_
        refine sG.mono h (kI_mono fun r3 μ3 h => ?_)
        refine g_if_ne 43 dX9_belief_36 (by decide) (fun q => ?_) (fun q => ?_)
        · have h := h.1 q
          refine g_aload_n dX9_belief_43 rfl ?_
          refine h_geti (μ3.1 62 4) dX9_belief_44 fX9_98 rfl rfl rfl ?_
          refine g_if_ne 54 dX9_belief_47 (by decide) (fun q => ?_) (fun q => ?_)
          · have h := h.1 q
            refine g_aload_n dX9_belief_54 rfl ?_
            refine g_callVv (mi2 := mX9_keepNow) (r := 62) (st := []) [] dX9_belief_55 lX9_169 kX9_keepNow vX9_keepNow rfl rfl rfl (Nat.le_of_ble_eq_true rfl) (Nat.le_of_ble_eq_true rfl) (Nat.le_of_ble_eq_true rfl) rfl ?_
            refine sG.mono h (kV_mono fun μ4 h => ?_)
            refine g_lconst 0 dX9_belief_58 (by decide) ?_
            refine g_lstore [some (sR 62), some (sI a1), some (sI a2), some (sI a3), some (sL 0), none, none, none, none, none, none, none] dX9_belief_59 (by decide) rfl ?_
            refine g_lconst 0 dX9_belief_61 (by decide) ?_
            refine g_lstore [some (sR 62), some (sI a1), some (sI a2), some (sI a3), some (sL 0), none, some (sL 0), none, none, none, none, none] dX9_belief_62 (by decide) rfl ?_
            refine g_iconst 0 dX9_belief_64 (by decide) ?_
            refine g_istore [some (sR 62), some (sI a1), some (sI a2), some (sI a3), some (sL 0), none, some (sL 0), none, some (sI 0), none, none, none] dX9_belief_65 (by decide) rfl ?_
            exact sG.loc (s_le_s (s_le_s (s_le_s (s_le_s (s_le_s (s_le_n (s_le_s (s_le_n (s_le_s (s_le_n (s_le_n (s_le_n s_le_0)))))))))))) h
          · have h := h.2 q
            refine g_ldc2 dX9_belief_50 qX9_227 ?_
            exact g_lret dX9_belief_53 rfl h
        · have h := h.2 q
          refine g_ldc2 dX9_belief_39 qX9_225 ?_
          exact g_lret dX9_belief_42 rfl h
    · have h := h.2 q
      refine g_ldc2 dX9_belief_13 qX9_223 ?_
      exact g_lret dX9_belief_16 rfl h
set_option maxRecDepth 20000 in
theorem sX9_belief_67 {d : Nat} {Q : Option sAV → sM → Prop} {μ : sM} {x1 : Int32} {x2 : Int32} {x3 : Int32} {y4 : Int64} {y6 : Int64} {x8 : Int32} (h : sCl sLL mX9_power d [sI 4, sI x1] μ (kI fun r1 μ1 => ((r1 ≤ x8 → sCl sLL mX9_putBack d [sR 62] μ1 (kV fun μ2 => sCl sLL mX9_lowest d [sL y4, sL y6, sI x3] μ2 (kL fun r3 μ3 => Q (some (sL r3)) μ3))) ∧ (¬ r1 ≤ x8 → sCl sLL mX9_layRow d [sR 62, sI x8, sI x1] μ1 (kV fun μ2 => sCl sLL mX9_weightOf d [sR 62, sI x1] μ2 (kL fun r3 μ3 => ((x2 = (-1) → sCl sLL mX9_isSeenSo d [sR 62] μ3 (kI fun r4 μ4 => ((r4 = 0 → sG sLL mX9_belief (d + 1) Q 67 [some (sR 62), some (sI x1), some (sI x2), some (sI x3), some (sL (y4 + 0)), none, some (sL (y6 + r3)), none, some (sI (x8 + 1)), none, none, none] [] μ4) ∧ (¬ r4 = 0 → sG sLL mX9_belief (d + 1) Q 67 [some (sR 62), some (sI x1), some (sI x2), some (sI x3), some (sL (y4 + r3)), none, some (sL (y6 + r3)), none, some (sI (x8 + 1)), none, none, none] [] μ4)))) ∧ (¬ x2 = (-1) → ((x1 ≤ 0 → sG sLL mX9_belief (d + 1) Q 67 [some (sR 62), some (sI x1), some (sI x2), some (sI x3), some (sL (y4 + 0)), none, some (sL (y6 + r3)), none, some (sI (x8 + 1)), none, none, none] [] μ3) ∧ (¬ x1 ≤ 0 → ((¬ (μ3.1 78 0) = x2 → sG sLL mX9_belief (d + 1) Q 67 [some (sR 62), some (sI x1), some (sI x2), some (sI x3), some (sL (y4 + 0)), none, some (sL (y6 + r3)), none, some (sI (x8 + 1)), none, none, none] [] μ3) ∧ ((μ3.1 78 0) = x2 → sCl sLL mX9_isSeenSo d [sR 62] μ3 (kI fun r4 μ4 => ((r4 = 0 → sG sLL mX9_belief (d + 1) Q 67 [some (sR 62), some (sI x1), some (sI x2), some (sI x3), some (sL (y4 + 0)), none, some (sL (y6 + r3)), none, some (sI (x8 + 1)), none, none, none] [] μ4) ∧ (¬ r4 = 0 → sG sLL mX9_belief (d + 1) Q 67 [some (sR 62), some (sI x1), some (sI x2), some (sI x3), some (sL (y4 + r3)), none, some (sL (y6 + r3)), none, some (sI (x8 + 1)), none, none, none] [] μ4))))))))))))))) : sG sLL mX9_belief (d + 1) Q 67 [some (sR 62), some (sI x1), some (sI x2), some (sI x3), some (sL y4), none, some (sL y6), none, some (sI x8), none, none, none] [] μ := by
  refine g_iload dX9_belief_67 rfl ?_
  refine g_iconst 4 dX9_belief_69 (by decide) ?_
  refine g_iload_n dX9_belief_70 rfl ?_
  refine g_callSi (mi2 := mX9_power) (st := [sI x8]) [sI 4, sI x1] dX9_belief_71 lX9_199 kX9_power vX9_power rfl (Nat.le_of_ble_eq_true rfl) (Nat.le_of_ble_eq_true rfl) (Nat.le_of_ble_eq_true rfl) rfl ?_
  refine sG.mono h (kI_mono fun r1 μ1 h => ?_)
  refine g_icmp_ge 153 dX9_belief_74 (by decide) (fun q => ?_) (fun q => ?_)
  · have h := h.1 q
    refine g_aload_n dX9_belief_153 rfl ?_
    refine g_callVv (mi2 := mX9_putBack) (r := 62) (st := []) [] dX9_belief_154 lX9_175 kX9_putBack vX9_putBack rfl rfl rfl (Nat.le_of_ble_eq_true rfl) (Nat.le_of_ble_eq_true rfl) (Nat.le_of_ble_eq_true rfl) rfl ?_
    refine sG.mono h (kV_mono fun μ2 h => ?_)
    refine g_lload dX9_belief_157 rfl ?_
    refine g_lload dX9_belief_159 rfl ?_
    refine g_iload_n dX9_belief_161 rfl ?_
    refine g_callSl (mi2 := mX9_lowest) (st := []) [sL y4, sL y6, sI x3] dX9_belief_162 lX9_233 kX9_lowest vX9_lowest rfl (Nat.le_of_ble_eq_true rfl) (Nat.le_of_ble_eq_true rfl) (Nat.le_of_ble_eq_true rfl) rfl ?_
    refine sG.mono h (kL_mono fun r3 μ3 h => ?_)
    exact g_lret dX9_belief_165 rfl h
  · have h := h.2 q
    refine g_aload_n dX9_belief_77 rfl ?_
    refine g_iload dX9_belief_78 rfl ?_
    refine g_iload_n dX9_belief_80 rfl ?_
    refine g_callVv (mi2 := mX9_layRow) (r := 62) (st := []) [sI x8, sI x1] dX9_belief_81 lX9_202 kX9_layRow vX9_layRow rfl rfl rfl (Nat.le_of_ble_eq_true rfl) (Nat.le_of_ble_eq_true rfl) (Nat.le_of_ble_eq_true rfl) rfl ?_
    refine sG.mono h (kV_mono fun μ2 h => ?_)
    refine g_aload_n dX9_belief_84 rfl ?_
    refine g_iload_n dX9_belief_85 rfl ?_
    refine g_callVl (mi2 := mX9_weightOf) (r := 62) (st := []) [sI x1] dX9_belief_86 lX9_229 kX9_weightOf vX9_weightOf rfl rfl rfl (Nat.le_of_ble_eq_true rfl) (Nat.le_of_ble_eq_true rfl) (Nat.le_of_ble_eq_true rfl) rfl ?_
    refine sG.mono h (kL_mono fun r3 μ3 h => ?_)
    refine g_lstore [some (sR 62), some (sI x1), some (sI x2), some (sI x3), some (sL y4), none, some (sL y6), none, some (sI x8), some (sL r3), none, none] dX9_belief_89 (by decide) rfl ?_
    refine g_iload_n dX9_belief_91 rfl ?_
    refine g_iconst (-1) dX9_belief_92 (by decide) ?_
    refine g_icmp_eq 110 dX9_belief_93 (by decide) (fun q => ?_) (fun q => ?_)
    · have h := h.1 q
      refine g_iconst 1 dX9_belief_110 (by decide) ?_
      refine g_goto 115 dX9_belief_111 (by decide) ?_
      refine g_istore [some (sR 62), some (sI x1), some (sI x2), some (sI x3), some (sL y4), none, some (sL y6), none, some (sI x8), some (sL r3), none, some (sI 1)] dX9_belief_115 (by decide) rfl ?_
      refine g_lload dX9_belief_117 rfl ?_
      refine g_lload dX9_belief_119 rfl ?_
      refine g_ladd dX9_belief_121 ?_
      refine g_lstore [some (sR 62), some (sI x1), some (sI x2), some (sI x3), some (sL y4), none, some (sL (y6 + r3)), none, some (sI x8), some (sL r3), none, some (sI 1)] dX9_belief_122 (by decide) rfl ?_
      refine g_lload dX9_belief_124 rfl ?_
      refine g_iload dX9_belief_126 rfl ?_
      refine g_if_eq 143 dX9_belief_128 (by decide) (fun q => absurd q (by decide)) (fun _ => ?_)
      refine g_aload_n dX9_belief_131 rfl ?_
      refine g_callVi (mi2 := mX9_isSeenSo) (r := 62) (st := [sL y4]) [] dX9_belief_132 lX9_208 kX9_isSeenSo vX9_isSeenSo rfl rfl rfl (Nat.le_of_ble_eq_true rfl) (Nat.le_of_ble_eq_true rfl) (Nat.le_of_ble_eq_true rfl) rfl ?_
      refine sG.mono h (kI_mono fun r4 μ4 h => ?_)
      refine g_if_eq 143 dX9_belief_135 (by decide) (fun q => ?_) (fun q => ?_)
      · have h := h.1 q
        refine g_lconst 0 dX9_belief_143 (by decide) ?_
        refine g_ladd dX9_belief_144 ?_
        refine g_lstore [some (sR 62), some (sI x1), some (sI x2), some (sI x3), some (sL (y4 + 0)), none, some (sL (y6 + r3)), none, some (sI x8), some (sL r3), none, some (sI 1)] dX9_belief_145 (by decide) rfl ?_
        refine g_iinc (x8 + 1) [some (sR 62), some (sI x1), some (sI x2), some (sI x3), some (sL (y4 + 0)), none, some (sL (y6 + r3)), none, some (sI (x8 + 1)), some (sL r3), none, some (sI 1)] dX9_belief_147 rfl rfl (by decide) rfl ?_
        refine g_goto 67 dX9_belief_150 (by decide) ?_
        exact sG.loc (s_le_s (s_le_s (s_le_s (s_le_s (s_le_s (s_le_n (s_le_s (s_le_n (s_le_s (s_le_n (s_le_n (s_le_n s_le_0)))))))))))) h
      · have h := h.2 q
        refine g_lload dX9_belief_138 rfl ?_
        refine g_goto 144 dX9_belief_140 (by decide) ?_
        refine g_ladd dX9_belief_144 ?_
        refine g_lstore [some (sR 62), some (sI x1), some (sI x2), some (sI x3), some (sL (y4 + r3)), none, some (sL (y6 + r3)), none, some (sI x8), some (sL r3), none, some (sI 1)] dX9_belief_145 (by decide) rfl ?_
        refine g_iinc (x8 + 1) [some (sR 62), some (sI x1), some (sI x2), some (sI x3), some (sL (y4 + r3)), none, some (sL (y6 + r3)), none, some (sI (x8 + 1)), some (sL r3), none, some (sI 1)] dX9_belief_147 rfl rfl (by decide) rfl ?_
        refine g_goto 67 dX9_belief_150 (by decide) ?_
        exact sG.loc (s_le_s (s_le_s (s_le_s (s_le_s (s_le_s (s_le_n (s_le_s (s_le_n (s_le_s (s_le_n (s_le_n (s_le_n s_le_0)))))))))))) h
    · have h := h.2 q
      refine g_iload_n dX9_belief_96 rfl ?_
      refine g_if_le 114 dX9_belief_97 (by decide) (fun q => ?_) (fun q => ?_)
      · have h := h.1 q
        refine g_iconst 0 dX9_belief_114 (by decide) ?_
        refine g_istore [some (sR 62), some (sI x1), some (sI x2), some (sI x3), some (sL y4), none, some (sL y6), none, some (sI x8), some (sL r3), none, some (sI 0)] dX9_belief_115 (by decide) rfl ?_
        refine g_lload dX9_belief_117 rfl ?_
        refine g_lload dX9_belief_119 rfl ?_
        refine g_ladd dX9_belief_121 ?_
        refine g_lstore [some (sR 62), some (sI x1), some (sI x2), some (sI x3), some (sL y4), none, some (sL (y6 + r3)), none, some (sI x8), some (sL r3), none, some (sI 0)] dX9_belief_122 (by decide) rfl ?_
        refine g_lload dX9_belief_124 rfl ?_
        refine g_iload dX9_belief_126 rfl ?_
        refine g_if_eq 143 dX9_belief_128 (by decide) (fun _ => ?_) (fun q => absurd q (by decide))
        refine g_lconst 0 dX9_belief_143 (by decide) ?_
        refine g_ladd dX9_belief_144 ?_
        refine g_lstore [some (sR 62), some (sI x1), some (sI x2), some (sI x3), some (sL (y4 + 0)), none, some (sL (y6 + r3)), none, some (sI x8), some (sL r3), none, some (sI 0)] dX9_belief_145 (by decide) rfl ?_
        refine g_iinc (x8 + 1) [some (sR 62), some (sI x1), some (sI x2), some (sI x3), some (sL (y4 + 0)), none, some (sL (y6 + r3)), none, some (sI (x8 + 1)), some (sL r3), none, some (sI 0)] dX9_belief_147 rfl rfl (by decide) rfl ?_
        refine g_goto 67 dX9_belief_150 (by decide) ?_
        exact sG.loc (s_le_s (s_le_s (s_le_s (s_le_s (s_le_s (s_le_n (s_le_s (s_le_n (s_le_s (s_le_n (s_le_n (s_le_n s_le_0)))))))))))) h
      · have h := h.2 q
        refine g_aload_n dX9_belief_100 rfl ?_
        refine g_getr (r2 := 78) dX9_belief_101 fX9_55 rfl rfl ?_
        refine g_iconst 0 dX9_belief_104 (by decide) ?_
        refine h_iald (μ3.1 78 0) dX9_belief_105 rfl rfl (by unfold vp_in; decide +kernel) rfl ?_
        refine g_iload_n dX9_belief_106 rfl ?_
        refine g_icmp_ne 114 dX9_belief_107 (by decide) (fun q => ?_) (fun q => ?_)
        · have h := h.1 q
          refine g_iconst 0 dX9_belief_114 (by decide) ?_
          refine g_istore [some (sR 62), some (sI x1), some (sI x2), some (sI x3), some (sL y4), none, some (sL y6), none, some (sI x8), some (sL r3), none, some (sI 0)] dX9_belief_115 (by decide) rfl ?_
          refine g_lload dX9_belief_117 rfl ?_
          refine g_lload dX9_belief_119 rfl ?_
          refine g_ladd dX9_belief_121 ?_
          refine g_lstore [some (sR 62), some (sI x1), some (sI x2), some (sI x3), some (sL y4), none, some (sL (y6 + r3)), none, some (sI x8), some (sL r3), none, some (sI 0)] dX9_belief_122 (by decide) rfl ?_
          refine g_lload dX9_belief_124 rfl ?_
          refine g_iload dX9_belief_126 rfl ?_
          refine g_if_eq 143 dX9_belief_128 (by decide) (fun _ => ?_) (fun q => absurd q (by decide))
          refine g_lconst 0 dX9_belief_143 (by decide) ?_
          refine g_ladd dX9_belief_144 ?_
          refine g_lstore [some (sR 62), some (sI x1), some (sI x2), some (sI x3), some (sL (y4 + 0)), none, some (sL (y6 + r3)), none, some (sI x8), some (sL r3), none, some (sI 0)] dX9_belief_145 (by decide) rfl ?_
          refine g_iinc (x8 + 1) [some (sR 62), some (sI x1), some (sI x2), some (sI x3), some (sL (y4 + 0)), none, some (sL (y6 + r3)), none, some (sI (x8 + 1)), some (sL r3), none, some (sI 0)] dX9_belief_147 rfl rfl (by decide) rfl ?_
          refine g_goto 67 dX9_belief_150 (by decide) ?_
          exact sG.loc (s_le_s (s_le_s (s_le_s (s_le_s (s_le_s (s_le_n (s_le_s (s_le_n (s_le_s (s_le_n (s_le_n (s_le_n s_le_0)))))))))))) h
        · have h := h.2 q
          refine g_iconst 1 dX9_belief_110 (by decide) ?_
          refine g_goto 115 dX9_belief_111 (by decide) ?_
          refine g_istore [some (sR 62), some (sI x1), some (sI x2), some (sI x3), some (sL y4), none, some (sL y6), none, some (sI x8), some (sL r3), none, some (sI 1)] dX9_belief_115 (by decide) rfl ?_
          refine g_lload dX9_belief_117 rfl ?_
          refine g_lload dX9_belief_119 rfl ?_
          refine g_ladd dX9_belief_121 ?_
          refine g_lstore [some (sR 62), some (sI x1), some (sI x2), some (sI x3), some (sL y4), none, some (sL (y6 + r3)), none, some (sI x8), some (sL r3), none, some (sI 1)] dX9_belief_122 (by decide) rfl ?_
          refine g_lload dX9_belief_124 rfl ?_
          refine g_iload dX9_belief_126 rfl ?_
          refine g_if_eq 143 dX9_belief_128 (by decide) (fun q => absurd q (by decide)) (fun _ => ?_)
          refine g_aload_n dX9_belief_131 rfl ?_
          refine g_callVi (mi2 := mX9_isSeenSo) (r := 62) (st := [sL y4]) [] dX9_belief_132 lX9_208 kX9_isSeenSo vX9_isSeenSo rfl rfl rfl (Nat.le_of_ble_eq_true rfl) (Nat.le_of_ble_eq_true rfl) (Nat.le_of_ble_eq_true rfl) rfl ?_
          refine sG.mono h (kI_mono fun r4 μ4 h => ?_)
          refine g_if_eq 143 dX9_belief_135 (by decide) (fun q => ?_) (fun q => ?_)
          · have h := h.1 q
            refine g_lconst 0 dX9_belief_143 (by decide) ?_
            refine g_ladd dX9_belief_144 ?_
            refine g_lstore [some (sR 62), some (sI x1), some (sI x2), some (sI x3), some (sL (y4 + 0)), none, some (sL (y6 + r3)), none, some (sI x8), some (sL r3), none, some (sI 1)] dX9_belief_145 (by decide) rfl ?_
            refine g_iinc (x8 + 1) [some (sR 62), some (sI x1), some (sI x2), some (sI x3), some (sL (y4 + 0)), none, some (sL (y6 + r3)), none, some (sI (x8 + 1)), some (sL r3), none, some (sI 1)] dX9_belief_147 rfl rfl (by decide) rfl ?_
            refine g_goto 67 dX9_belief_150 (by decide) ?_
            exact sG.loc (s_le_s (s_le_s (s_le_s (s_le_s (s_le_s (s_le_n (s_le_s (s_le_n (s_le_s (s_le_n (s_le_n (s_le_n s_le_0)))))))))))) h
          · have h := h.2 q
            refine g_lload dX9_belief_138 rfl ?_
            refine g_goto 144 dX9_belief_140 (by decide) ?_
            refine g_ladd dX9_belief_144 ?_
            refine g_lstore [some (sR 62), some (sI x1), some (sI x2), some (sI x3), some (sL (y4 + r3)), none, some (sL (y6 + r3)), none, some (sI x8), some (sL r3), none, some (sI 1)] dX9_belief_145 (by decide) rfl ?_
            refine g_iinc (x8 + 1) [some (sR 62), some (sI x1), some (sI x2), some (sI x3), some (sL (y4 + r3)), none, some (sL (y6 + r3)), none, some (sI (x8 + 1)), some (sL r3), none, some (sI 1)] dX9_belief_147 rfl rfl (by decide) rfl ?_
            refine g_goto 67 dX9_belief_150 (by decide) ?_
            exact sG.loc (s_le_s (s_le_s (s_le_s (s_le_s (s_le_s (s_le_n (s_le_s (s_le_n (s_le_s (s_le_n (s_le_n (s_le_n s_le_0)))))))))))) h
set_option maxRecDepth 20000 in
theorem eX9_weightOf {d : Nat} {Q : Option sAV → sM → Prop} {μ : sM} {a1 : Int32} (h : sCl sLL mX9_putBack d [sR 62] μ (kV fun μ1 => sG sLL mX9_weightOf (d + 1) Q 15 [some (sR 62), some (sI a1), some (sL 1), none, some (sI 0), none] [] (s_u μ1 62 11 (-6)))) : sCl sLL mX9_weightOf (d + 1) [sR 62, sI a1] μ Q := by
  refine sG.loc (al2 := [some (sR 62), some (sI a1), none, none, none, none]) (s_le_s (s_le_s (s_le_p (s_le_p (s_le_p (s_le_p s_le_0)))))) ?_
  refine g_aload_n dX9_weightOf_0 rfl ?_
  refine g_callVv (mi2 := mX9_putBack) (r := 62) (st := []) [] dX9_weightOf_1 lX9_175 kX9_putBack vX9_putBack rfl rfl rfl (Nat.le_of_ble_eq_true rfl) (Nat.le_of_ble_eq_true rfl) (Nat.le_of_ble_eq_true rfl) rfl ?_
  refine sG.mono h (kV_mono fun μ1 h => ?_)
  refine g_aload_n dX9_weightOf_4 rfl ?_
  refine g_bipush (-6) dX9_weightOf_5 (by decide) ?_
  refine g_puti dX9_weightOf_7 fX9_127 rfl rfl rfl rfl ?_
  refine g_lconst 1 dX9_weightOf_10 (by decide) ?_
  refine g_lstore_n [some (sR 62), some (sI a1), some (sL 1), none, none, none] dX9_weightOf_11 rfl (by decide) rfl ?_
  refine g_iconst 0 dX9_weightOf_12 (by decide) ?_
  refine g_istore [some (sR 62), some (sI a1), some (sL 1), none, some (sI 0), none] dX9_weightOf_13 (by decide) rfl ?_
  exact sG.loc (s_le_s (s_le_s (s_le_s (s_le_n (s_le_s (s_le_n s_le_0)))))) h
set_option maxRecDepth 20000 in
theorem sX9_weightOf_15 {d : Nat} {Q : Option sAV → sM → Prop} {μ : sM} {x1 : Int32} {y2 : Int64} {x4 : Int32} (h : ((x1 ≤ x4 → Q (some (sL y2)) μ) ∧ (¬ x1 ≤ x4 → (vp_in x4 6 ∧ sCl sLL mX9_isThere d [sR 62, sI (μ.1 78 x4.toNatClampNeg)] μ (kI fun r1 μ1 => ((r1 = 0 → sCl sLL mX9_isThere d [sR 62, sI (μ1.1 78 x4.toNatClampNeg)] μ1 (kI fun r2 μ2 => ((r2 = 0 → sG sLL mX9_weightOf (d + 1) Q 15 [some (sR 62), some (sI x1), some (sL (y2 * 0)), none, some (sI (x4 + 1)), none] [] μ2) ∧ (¬ r2 = 0 → sCl sLL mX9_taken d [sR 62, sI (μ2.1 78 x4.toNatClampNeg)] μ2 (kI fun r3 μ3 => ((r3 < 0 → sG sLL mX9_weightOf (d + 1) Q 15 [some (sR 62), some (sI x1), some (sL (y2 * 0)), none, some (sI (x4 + 1)), none] [] μ3) ∧ (¬ r3 < 0 → sCl sLL mX9_use d [sR 62, sI (μ3.1 78 x4.toNatClampNeg), sI r3] μ3 (kV fun μ4 => sG sLL mX9_weightOf (d + 1) Q 15 [some (sR 62), some (sI x1), some (sL (y2 * 0)), none, some (sI (x4 + 1)), none] [] μ4)))))))) ∧ (¬ r1 = 0 → (vp_in (μ1.1 78 x4.toNatClampNeg) 4 ∧ sCl sLL mX9_isThere d [sR 62, sI (μ1.1 78 x4.toNatClampNeg)] μ1 (kI fun r2 μ2 => ((r2 = 0 → sG sLL mX9_weightOf (d + 1) Q 15 [some (sR 62), some (sI x1), some (sL (y2 * (μ1.1 69 (μ1.1 78 x4.toNatClampNeg).toNatClampNeg).toInt64)), none, some (sI (x4 + 1)), none] [] μ2) ∧ (¬ r2 = 0 → sCl sLL mX9_taken d [sR 62, sI (μ2.1 78 x4.toNatClampNeg)] μ2 (kI fun r3 μ3 => ((r3 < 0 → sG sLL mX9_weightOf (d + 1) Q 15 [some (sR 62), some (sI x1), some (sL (y2 * (μ1.1 69 (μ1.1 78 x4.toNatClampNeg).toNatClampNeg).toInt64)), none, some (sI (x4 + 1)), none] [] μ3) ∧ (¬ r3 < 0 → sCl sLL mX9_use d [sR 62, sI (μ3.1 78 x4.toNatClampNeg), sI r3] μ3 (kV fun μ4 => sG sLL mX9_weightOf (d + 1) Q 15 [some (sR 62), some (sI x1), some (sL (y2 * (μ1.1 69 (μ1.1 78 x4.toNatClampNeg).toNatClampNeg).toInt64)), none, some (sI (x4 + 1)), none] [] μ4))))))))))))))) : sG sLL mX9_weightOf (d + 1) Q 15 [some (sR 62), some (sI x1), some (sL y2), none, some (sI x4), none] [] μ := by
  refine g_iload dX9_weightOf_15 rfl ?_
  refine g_iload_n dX9_weightOf_17 rfl ?_
  refine g_icmp_ge 111 dX9_weightOf_18 (by decide) (fun q => ?_) (fun q => ?_)
  · have h := h.1 q
    refine g_lload_n dX9_weightOf_111 rfl ?_
    exact g_lret dX9_weightOf_112 rfl h
  · have h := h.2 q
    refine g_lload_n dX9_weightOf_21 rfl ?_
    refine g_aload_n dX9_weightOf_22 rfl ?_
    refine g_aload_n dX9_weightOf_23 rfl ?_
    refine g_getr (r2 := 78) dX9_weightOf_24 fX9_55 rfl rfl ?_
    refine g_iload dX9_weightOf_27 rfl ?_
    obtain ⟨v1, h⟩ := h
    refine h_iald (μ.1 78 x4.toNatClampNeg) dX9_weightOf_29 rfl rfl v1 rfl ?_
    refine g_callVi (mi2 := mX9_isThere) (r := 62) (st := [sL y2]) [sI (μ.1 78 x4.toNatClampNeg)] dX9_weightOf_30 lX9_113 kX9_isThere vX9_isThere rfl rfl rfl (Nat.le_of_ble_eq_true rfl) (Nat.le_of_ble_eq_true rfl) (Nat.le_of_ble_eq_true rfl) rfl ?_
    refine sG.mono h (kI_mono fun r1 μ1 h => ?_)
    refine g_if_eq 52 dX9_weightOf_33 (by decide) (fun q => ?_) (fun q => ?_)
    · have h := h.1 q
      refine g_lconst 0 dX9_weightOf_52 (by decide) ?_
      refine g_lmul dX9_weightOf_53 ?_
      refine g_lstore_n [some (sR 62), some (sI x1), some (sL (y2 * 0)), none, some (sI x4), none] dX9_weightOf_54 rfl (by decide) rfl ?_
      refine g_aload_n dX9_weightOf_55 rfl ?_
      refine g_aload_n dX9_weightOf_56 rfl ?_
      refine g_getr (r2 := 78) dX9_weightOf_57 fX9_55 rfl rfl ?_
      refine g_iload dX9_weightOf_60 rfl ?_
      refine h_iald (μ1.1 78 x4.toNatClampNeg) dX9_weightOf_62 rfl rfl v1 rfl ?_
      refine g_callVi (mi2 := mX9_isThere) (r := 62) (st := []) [sI (μ1.1 78 x4.toNatClampNeg)] dX9_weightOf_63 lX9_113 kX9_isThere vX9_isThere rfl rfl rfl (Nat.le_of_ble_eq_true rfl) (Nat.le_of_ble_eq_true rfl) (Nat.le_of_ble_eq_true rfl) rfl ?_
      refine sG.mono h (kI_mono fun r2 μ2 h => ?_)
      refine g_if_eq 83 dX9_weightOf_66 (by decide) (fun q => ?_) (fun q => ?_)
      · have h := h.1 q
        refine g_bipush (-6) dX9_weightOf_83 (by decide) ?_
        refine g_istore [some (sR 62), some (sI x1), some (sL (y2 * 0)), none, some (sI x4), some (sI (-6))] dX9_weightOf_85 (by decide) rfl ?_
        refine g_iload dX9_weightOf_87 rfl ?_
        refine g_if_lt 105 dX9_weightOf_89 (by decide) (fun _ => ?_) (fun q => absurd q (by decide))
        refine g_iinc (x4 + 1) [some (sR 62), some (sI x1), some (sL (y2 * 0)), none, some (sI (x4 + 1)), some (sI (-6))] dX9_weightOf_105 rfl rfl (by decide) rfl ?_
        refine g_goto 15 dX9_weightOf_108 (by decide) ?_
        exact sG.loc (s_le_s (s_le_s (s_le_s (s_le_n (s_le_s (s_le_n s_le_0)))))) h
      · have h := h.2 q
        refine g_aload_n dX9_weightOf_69 rfl ?_
        refine g_aload_n dX9_weightOf_70 rfl ?_
        refine g_getr (r2 := 78) dX9_weightOf_71 fX9_55 rfl rfl ?_
        refine g_iload dX9_weightOf_74 rfl ?_
        refine h_iald (μ2.1 78 x4.toNatClampNeg) dX9_weightOf_76 rfl rfl v1 rfl ?_
        refine g_callVi (mi2 := mX9_taken) (r := 62) (st := []) [sI (μ2.1 78 x4.toNatClampNeg)] dX9_weightOf_77 lX9_139 kX9_taken vX9_taken rfl rfl rfl (Nat.le_of_ble_eq_true rfl) (Nat.le_of_ble_eq_true rfl) (Nat.le_of_ble_eq_true rfl) rfl ?_
        refine sG.mono h (kI_mono fun r3 μ3 h => ?_)
        refine g_goto 85 dX9_weightOf_80 (by decide) ?_
        refine g_istore [some (sR 62), some (sI x1), some (sL (y2 * 0)), none, some (sI x4), some (sI r3)] dX9_weightOf_85 (by decide) rfl ?_
        refine g_iload dX9_weightOf_87 rfl ?_
        refine g_if_lt 105 dX9_weightOf_89 (by decide) (fun q => ?_) (fun q => ?_)
        · have h := h.1 q
          refine g_iinc (x4 + 1) [some (sR 62), some (sI x1), some (sL (y2 * 0)), none, some (sI (x4 + 1)), some (sI r3)] dX9_weightOf_105 rfl rfl (by decide) rfl ?_
          refine g_goto 15 dX9_weightOf_108 (by decide) ?_
          exact sG.loc (s_le_s (s_le_s (s_le_s (s_le_n (s_le_s (s_le_n s_le_0)))))) h
        · have h := h.2 q
          refine g_aload_n dX9_weightOf_92 rfl ?_
          refine g_aload_n dX9_weightOf_93 rfl ?_
          refine g_getr (r2 := 78) dX9_weightOf_94 fX9_55 rfl rfl ?_
          refine g_iload dX9_weightOf_97 rfl ?_
          refine h_iald (μ3.1 78 x4.toNatClampNeg) dX9_weightOf_99 rfl rfl v1 rfl ?_
          refine g_iload dX9_weightOf_100 rfl ?_
          refine g_callVv (mi2 := mX9_use) (r := 62) (st := []) [sI (μ3.1 78 x4.toNatClampNeg), sI r3] dX9_weightOf_102 lX9_151 kX9_use vX9_use rfl rfl rfl (Nat.le_of_ble_eq_true rfl) (Nat.le_of_ble_eq_true rfl) (Nat.le_of_ble_eq_true rfl) rfl ?_
          refine sG.mono h (kV_mono fun μ4 h => ?_)
          refine g_iinc (x4 + 1) [some (sR 62), some (sI x1), some (sL (y2 * 0)), none, some (sI (x4 + 1)), some (sI r3)] dX9_weightOf_105 rfl rfl (by decide) rfl ?_
          refine g_goto 15 dX9_weightOf_108 (by decide) ?_
          exact sG.loc (s_le_s (s_le_s (s_le_s (s_le_n (s_le_s (s_le_n s_le_0)))))) h
    · have h := h.2 q
      refine g_aload_n dX9_weightOf_36 rfl ?_
      refine g_getr (r2 := 69) dX9_weightOf_37 fX9_28 rfl rfl ?_
      refine g_aload_n dX9_weightOf_40 rfl ?_
      refine g_getr (r2 := 78) dX9_weightOf_41 fX9_55 rfl rfl ?_
      refine g_iload dX9_weightOf_44 rfl ?_
      refine h_iald (μ1.1 78 x4.toNatClampNeg) dX9_weightOf_46 rfl rfl v1 rfl ?_
      obtain ⟨v2, h⟩ := h
      refine h_iald (μ1.1 69 (μ1.1 78 x4.toNatClampNeg).toNatClampNeg) dX9_weightOf_47 rfl rfl v2 rfl ?_
      refine g_i2l dX9_weightOf_48 ?_
      refine g_goto 53 dX9_weightOf_49 (by decide) ?_
      refine g_lmul dX9_weightOf_53 ?_
      refine g_lstore_n [some (sR 62), some (sI x1), some (sL (y2 * (μ1.1 69 (μ1.1 78 x4.toNatClampNeg).toNatClampNeg).toInt64)), none, some (sI x4), none] dX9_weightOf_54 rfl (by decide) rfl ?_
      refine g_aload_n dX9_weightOf_55 rfl ?_
      refine g_aload_n dX9_weightOf_56 rfl ?_
      refine g_getr (r2 := 78) dX9_weightOf_57 fX9_55 rfl rfl ?_
      refine g_iload dX9_weightOf_60 rfl ?_
      refine h_iald (μ1.1 78 x4.toNatClampNeg) dX9_weightOf_62 rfl rfl v1 rfl ?_
      refine g_callVi (mi2 := mX9_isThere) (r := 62) (st := []) [sI (μ1.1 78 x4.toNatClampNeg)] dX9_weightOf_63 lX9_113 kX9_isThere vX9_isThere rfl rfl rfl (Nat.le_of_ble_eq_true rfl) (Nat.le_of_ble_eq_true rfl) (Nat.le_of_ble_eq_true rfl) rfl ?_
      refine sG.mono h (kI_mono fun r2 μ2 h => ?_)
      refine g_if_eq 83 dX9_weightOf_66 (by decide) (fun q => ?_) (fun q => ?_)
      · have h := h.1 q
        refine g_bipush (-6) dX9_weightOf_83 (by decide) ?_
        refine g_istore [some (sR 62), some (sI x1), some (sL (y2 * (μ1.1 69 (μ1.1 78 x4.toNatClampNeg).toNatClampNeg).toInt64)), none, some (sI x4), some (sI (-6))] dX9_weightOf_85 (by decide) rfl ?_
        refine g_iload dX9_weightOf_87 rfl ?_
        refine g_if_lt 105 dX9_weightOf_89 (by decide) (fun _ => ?_) (fun q => absurd q (by decide))
        refine g_iinc (x4 + 1) [some (sR 62), some (sI x1), some (sL (y2 * (μ1.1 69 (μ1.1 78 x4.toNatClampNeg).toNatClampNeg).toInt64)), none, some (sI (x4 + 1)), some (sI (-6))] dX9_weightOf_105 rfl rfl (by decide) rfl ?_
        refine g_goto 15 dX9_weightOf_108 (by decide) ?_
        exact sG.loc (s_le_s (s_le_s (s_le_s (s_le_n (s_le_s (s_le_n s_le_0)))))) h
      · have h := h.2 q
        refine g_aload_n dX9_weightOf_69 rfl ?_
        refine g_aload_n dX9_weightOf_70 rfl ?_
        refine g_getr (r2 := 78) dX9_weightOf_71 fX9_55 rfl rfl ?_
        refine g_iload dX9_weightOf_74 rfl ?_
        refine h_iald (μ2.1 78 x4.toNatClampNeg) dX9_weightOf_76 rfl rfl v1 rfl ?_
        refine g_callVi (mi2 := mX9_taken) (r := 62) (st := []) [sI (μ2.1 78 x4.toNatClampNeg)] dX9_weightOf_77 lX9_139 kX9_taken vX9_taken rfl rfl rfl (Nat.le_of_ble_eq_true rfl) (Nat.le_of_ble_eq_true rfl) (Nat.le_of_ble_eq_true rfl) rfl ?_
        refine sG.mono h (kI_mono fun r3 μ3 h => ?_)
        refine g_goto 85 dX9_weightOf_80 (by decide) ?_
        refine g_istore [some (sR 62), some (sI x1), some (sL (y2 * (μ1.1 69 (μ1.1 78 x4.toNatClampNeg).toNatClampNeg).toInt64)), none, some (sI x4), some (sI r3)] dX9_weightOf_85 (by decide) rfl ?_
        refine g_iload dX9_weightOf_87 rfl ?_
        refine g_if_lt 105 dX9_weightOf_89 (by decide) (fun q => ?_) (fun q => ?_)
        · have h := h.1 q
          refine g_iinc (x4 + 1) [some (sR 62), some (sI x1), some (sL (y2 * (μ1.1 69 (μ1.1 78 x4.toNatClampNeg).toNatClampNeg).toInt64)), none, some (sI (x4 + 1)), some (sI r3)] dX9_weightOf_105 rfl rfl (by decide) rfl ?_
          refine g_goto 15 dX9_weightOf_108 (by decide) ?_
          exact sG.loc (s_le_s (s_le_s (s_le_s (s_le_n (s_le_s (s_le_n s_le_0)))))) h
        · have h := h.2 q
          refine g_aload_n dX9_weightOf_92 rfl ?_
          refine g_aload_n dX9_weightOf_93 rfl ?_
          refine g_getr (r2 := 78) dX9_weightOf_94 fX9_55 rfl rfl ?_
          refine g_iload dX9_weightOf_97 rfl ?_
          refine h_iald (μ3.1 78 x4.toNatClampNeg) dX9_weightOf_99 rfl rfl v1 rfl ?_
          refine g_iload dX9_weightOf_100 rfl ?_
          refine g_callVv (mi2 := mX9_use) (r := 62) (st := []) [sI (μ3.1 78 x4.toNatClampNeg), sI r3] dX9_weightOf_102 lX9_151 kX9_use vX9_use rfl rfl rfl (Nat.le_of_ble_eq_true rfl) (Nat.le_of_ble_eq_true rfl) (Nat.le_of_ble_eq_true rfl) rfl ?_
          refine sG.mono h (kV_mono fun μ4 h => ?_)
          refine g_iinc (x4 + 1) [some (sR 62), some (sI x1), some (sL (y2 * (μ1.1 69 (μ1.1 78 x4.toNatClampNeg).toNatClampNeg).toInt64)), none, some (sI (x4 + 1)), some (sI r3)] dX9_weightOf_105 rfl rfl (by decide) rfl ?_
          refine g_goto 15 dX9_weightOf_108 (by decide) ?_
          exact sG.loc (s_le_s (s_le_s (s_le_s (s_le_n (s_le_s (s_le_n s_le_0)))))) h
set_option maxRecDepth 20000 in
theorem eX9_lowest {d : Nat} {Q : Option sAV → sM → Prop} {μ : sM} {b0 : Int64} {b1 : Int64} {a2 : Int32} (h : sG sLL mX9_lowest d Q 6 [some (sL b0), none, some (sL b1), none, some (sI a2), some (sL b1), none, some (sL b0), none, none, none] [] μ) : sCl sLL mX9_lowest d [sL b0, sL b1, sI a2] μ Q := by
  refine sG.loc (al2 := [some (sL b0), none, some (sL b1), none, some (sI a2), none, none, none, none, none, none]) (s_le_s (s_le_n (s_le_s (s_le_n (s_le_s (s_le_p (s_le_p (s_le_p (s_le_p (s_le_p (s_le_p s_le_0))))))))))) ?_
  refine g_lload_n dX9_lowest_0 rfl ?_
  refine g_lstore [some (sL b0), none, some (sL b1), none, some (sI a2), some (sL b1), none, none, none, none, none] dX9_lowest_1 (by decide) rfl ?_
  refine g_lload_n dX9_lowest_3 rfl ?_
  refine g_lstore [some (sL b0), none, some (sL b1), none, some (sI a2), some (sL b1), none, some (sL b0), none, none, none] dX9_lowest_4 (by decide) rfl ?_
  exact sG.loc (s_le_s (s_le_n (s_le_s (s_le_n (s_le_s (s_le_s (s_le_n (s_le_s (s_le_n (s_le_n (s_le_n s_le_0))))))))))) h
set_option maxRecDepth 20000 in
theorem sX9_lowest_6 {d : Nat} {Q : Option sAV → sM → Prop} {μ : sM} {y0 : Int64} {y2 : Int64} {x4 : Int32} {y5 : Int64} {y7 : Int64} (h : (((lg_cmp y7 0) = 0 → ((¬ x4 = 0 → (¬ y5 = 0 ∧ Q (some (sL (y2 / y5))) μ)) ∧ (x4 = 0 → (¬ y5 = 0 ∧ Q (some (sL (y0 / y5))) μ)))) ∧ (¬ (lg_cmp y7 0) = 0 → (¬ y7 = 0 ∧ sG sLL mX9_lowest d Q 6 [some (sL y0), none, some (sL y2), none, some (sI x4), some (sL y7), none, some (sL (s_lrem y5 y7)), none, none, none] [] μ)))) : sG sLL mX9_lowest d Q 6 [some (sL y0), none, some (sL y2), none, some (sI x4), some (sL y5), none, some (sL y7), none, none, none] [] μ := by
  refine g_lload dX9_lowest_6 rfl ?_
  refine g_lconst 0 dX9_lowest_8 (by decide) ?_
  refine g_lcmp dX9_lowest_9 ?_
  refine g_if_eq 31 dX9_lowest_10 (by decide) (fun q => ?_) (fun q => ?_)
  · have h := h.1 q
    refine g_iload dX9_lowest_31 rfl ?_
    refine g_if_ne 43 dX9_lowest_33 (by decide) (fun q => ?_) (fun q => ?_)
    · have h := h.1 q
      refine g_lload_n dX9_lowest_43 rfl ?_
      refine g_lload dX9_lowest_44 rfl ?_
      obtain ⟨z1, h⟩ := h
      refine g_ldiv dX9_lowest_46 z1 ?_
      exact g_lret dX9_lowest_47 rfl h
    · have h := h.2 q
      refine g_lload_n dX9_lowest_36 rfl ?_
      refine g_lload dX9_lowest_37 rfl ?_
      obtain ⟨z1, h⟩ := h
      refine g_ldiv dX9_lowest_39 z1 ?_
      refine g_goto 47 dX9_lowest_40 (by decide) ?_
      exact g_lret dX9_lowest_47 rfl h
  · have h := h.2 q
    refine g_lload dX9_lowest_13 rfl ?_
    refine g_lload dX9_lowest_15 rfl ?_
    obtain ⟨z1, h⟩ := h
    refine h_lrem dX9_lowest_17 z1 ?_
    refine g_lstore [some (sL y0), none, some (sL y2), none, some (sI x4), some (sL y5), none, some (sL y7), none, some (sL (s_lrem y5 y7)), none] dX9_lowest_18 (by decide) rfl ?_
    refine g_lload dX9_lowest_20 rfl ?_
    refine g_lstore [some (sL y0), none, some (sL y2), none, some (sI x4), some (sL y7), none, some (sL y7), none, some (sL (s_lrem y5 y7)), none] dX9_lowest_22 (by decide) rfl ?_
    refine g_lload dX9_lowest_24 rfl ?_
    refine g_lstore [some (sL y0), none, some (sL y2), none, some (sI x4), some (sL y7), none, some (sL (s_lrem y5 y7)), none, some (sL (s_lrem y5 y7)), none] dX9_lowest_26 (by decide) rfl ?_
    refine g_goto 6 dX9_lowest_28 (by decide) ?_
    exact sG.loc (s_le_s (s_le_n (s_le_s (s_le_n (s_le_s (s_le_s (s_le_n (s_le_s (s_le_n (s_le_n (s_le_n s_le_0))))))))))) h
set_option maxRecDepth 20000 in
theorem eX9_alike {d : Nat} {Q : Option sAV → sM → Prop} {μ : sM} {a1 : Int32} (h : sCl sLL mX9_keepNow d [sR 62] μ (kV fun μ1 => sCl sLL mX9_findAlone d [sR 62] μ1 (kV fun μ2 => sG sLL mX9_alike (d + 1) Q 12 [some (sR 62), some (sI a1), some (sI 0), some (sI 0), none] [] μ2))) : sCl sLL mX9_alike (d + 1) [sR 62, sI a1] μ Q := by
  refine sG.loc (al2 := [some (sR 62), some (sI a1), none, none, none]) (s_le_s (s_le_s (s_le_p (s_le_p (s_le_p s_le_0))))) ?_
  refine g_aload_n dX9_alike_0 rfl ?_
  refine g_callVv (mi2 := mX9_keepNow) (r := 62) (st := []) [] dX9_alike_1 lX9_169 kX9_keepNow vX9_keepNow rfl rfl rfl (Nat.le_of_ble_eq_true rfl) (Nat.le_of_ble_eq_true rfl) (Nat.le_of_ble_eq_true rfl) rfl ?_
  refine sG.mono h (kV_mono fun μ1 h => ?_)
  refine g_aload_n dX9_alike_4 rfl ?_
  refine g_callVv (mi2 := mX9_findAlone) (r := 62) (st := []) [] dX9_alike_5 lX9_240 kX9_findAlone vX9_findAlone rfl rfl rfl (Nat.le_of_ble_eq_true rfl) (Nat.le_of_ble_eq_true rfl) (Nat.le_of_ble_eq_true rfl) rfl ?_
  refine sG.mono h (kV_mono fun μ2 h => ?_)
  refine g_iconst 0 dX9_alike_8 (by decide) ?_
  refine g_istore_n [some (sR 62), some (sI a1), some (sI 0), none, none] dX9_alike_9 rfl (by decide) rfl ?_
  refine g_iconst 0 dX9_alike_10 (by decide) ?_
  refine g_istore_n [some (sR 62), some (sI a1), some (sI 0), some (sI 0), none] dX9_alike_11 rfl (by decide) rfl ?_
  exact sG.loc (s_le_s (s_le_s (s_le_s (s_le_s (s_le_n s_le_0))))) h
set_option maxRecDepth 20000 in
theorem sX9_alike_12 {d : Nat} {Q : Option sAV → sM → Prop} {μ : sM} {x1 : Int32} {x2 : Int32} {x3 : Int32} (h : ((4 ≤ x3 → ((¬ x1 = (-1) → Q (some (sI (-6))) μ) ∧ (x1 = (-1) → Q (some (sI x2)) μ))) ∧ (¬ 4 ≤ x3 → sG sLL mX9_alike (d + 1) Q 22 [some (sR 62), some (sI x1), some (sI x2), some (sI x3), some (sI (x3 + 1))] [] μ))) : sG sLL mX9_alike (d + 1) Q 12 [some (sR 62), some (sI x1), some (sI x2), some (sI x3), none] [] μ := by
  refine g_iload_n dX9_alike_12 rfl ?_
  refine g_iconst 4 dX9_alike_13 (by decide) ?_
  refine g_icmp_ge 89 dX9_alike_14 (by decide) (fun q => ?_) (fun q => ?_)
  · have h := h.1 q
    refine g_iload_n dX9_alike_89 rfl ?_
    refine g_iconst (-1) dX9_alike_90 (by decide) ?_
    refine g_icmp_ne 98 dX9_alike_91 (by decide) (fun q => ?_) (fun q => ?_)
    · have h := h.1 q
      refine g_bipush (-6) dX9_alike_98 (by decide) ?_
      exact g_iret dX9_alike_100 rfl rfl h
    · have h := h.2 q
      refine g_iload_n dX9_alike_94 rfl ?_
      refine g_goto 100 dX9_alike_95 (by decide) ?_
      exact g_iret dX9_alike_100 rfl rfl h
  · have h := h.2 q
    refine g_iload_n dX9_alike_17 rfl ?_
    refine g_iconst 1 dX9_alike_18 (by decide) ?_
    refine g_iadd dX9_alike_19 ?_
    refine g_istore [some (sR 62), some (sI x1), some (sI x2), some (sI x3), some (sI (x3 + 1))] dX9_alike_20 (by decide) rfl ?_
    exact sG.loc (s_le_s (s_le_s (s_le_s (s_le_s (s_le_s s_le_0))))) h
set_option maxRecDepth 20000 in
theorem sX9_alike_22 {d : Nat} {Q : Option sAV → sM → Prop} {μ : sM} {x1 : Int32} {x2 : Int32} {x3 : Int32} {x4 : Int32} (h : ((4 ≤ x4 → sG sLL mX9_alike (d + 1) Q 12 [some (sR 62), some (sI x1), some (sI x2), some (sI (x3 + 1)), none] [] μ) ∧ (¬ 4 ≤ x4 → sCl sLL mX9_isThere d [sR 62, sI x3] μ (kI fun r1 μ1 => ((r1 = 0 → sG sLL mX9_alike (d + 1) Q 22 [some (sR 62), some (sI x1), some (sI x2), some (sI x3), some (sI (x4 + 1))] [] μ1) ∧ (¬ r1 = 0 → sCl sLL mX9_isThere d [sR 62, sI x4] μ1 (kI fun r2 μ2 => ((r2 = 0 → sG sLL mX9_alike (d + 1) Q 22 [some (sR 62), some (sI x1), some (sI x2), some (sI x3), some (sI (x4 + 1))] [] μ2) ∧ (¬ r2 = 0 → (vp_in x3 4 ∧ (vp_in x4 4 ∧ ((¬ (μ2.1 82 x3.toNatClampNeg) = (μ2.1 82 x4.toNatClampNeg) → sG sLL mX9_alike (d + 1) Q 22 [some (sR 62), some (sI x1), some (sI x2), some (sI x3), some (sI (x4 + 1))] [] μ2) ∧ ((μ2.1 82 x3.toNatClampNeg) = (μ2.1 82 x4.toNatClampNeg) → ((¬ x2 = x1 → sG sLL mX9_alike (d + 1) Q 22 [some (sR 62), some (sI x1), some (sI (x2 + 1)), some (sI x3), some (sI (x4 + 1))] [] μ2) ∧ (x2 = x1 → Q (some (sI ((10 * x3) + x4))) μ2))))))))))))))) : sG sLL mX9_alike (d + 1) Q 22 [some (sR 62), some (sI x1), some (sI x2), some (sI x3), some (sI x4)] [] μ := by
  refine g_iload dX9_alike_22 rfl ?_
  refine g_iconst 4 dX9_alike_24 (by decide) ?_
  refine g_icmp_ge 83 dX9_alike_25 (by decide) (fun q => ?_) (fun q => ?_)
  · have h := h.1 q
    refine g_iinc (x3 + 1) [some (sR 62), some (sI x1), some (sI x2), some (sI (x3 + 1)), some (sI x4)] dX9_alike_83 rfl rfl (by decide) rfl ?_
    refine g_goto 12 dX9_alike_86 (by decide) ?_
    exact sG.loc (s_le_s (s_le_s (s_le_s (s_le_s (s_le_n s_le_0))))) h
  · have h := h.2 q
    refine g_aload_n dX9_alike_28 rfl ?_
    refine g_iload_n dX9_alike_29 rfl ?_
    refine g_callVi (mi2 := mX9_isThere) (r := 62) (st := []) [sI x3] dX9_alike_30 lX9_113 kX9_isThere vX9_isThere rfl rfl rfl (Nat.le_of_ble_eq_true rfl) (Nat.le_of_ble_eq_true rfl) (Nat.le_of_ble_eq_true rfl) rfl ?_
    refine sG.mono h (kI_mono fun r1 μ1 h => ?_)
    refine g_if_eq 77 dX9_alike_33 (by decide) (fun q => ?_) (fun q => ?_)
    · have h := h.1 q
      refine g_iinc (x4 + 1) [some (sR 62), some (sI x1), some (sI x2), some (sI x3), some (sI (x4 + 1))] dX9_alike_77 rfl rfl (by decide) rfl ?_
      refine g_goto 22 dX9_alike_80 (by decide) ?_
      exact sG.loc (s_le_s (s_le_s (s_le_s (s_le_s (s_le_s s_le_0))))) h
    · have h := h.2 q
      refine g_aload_n dX9_alike_36 rfl ?_
      refine g_iload dX9_alike_37 rfl ?_
      refine g_callVi (mi2 := mX9_isThere) (r := 62) (st := []) [sI x4] dX9_alike_39 lX9_113 kX9_isThere vX9_isThere rfl rfl rfl (Nat.le_of_ble_eq_true rfl) (Nat.le_of_ble_eq_true rfl) (Nat.le_of_ble_eq_true rfl) rfl ?_
      refine sG.mono h (kI_mono fun r2 μ2 h => ?_)
      refine g_if_eq 77 dX9_alike_42 (by decide) (fun q => ?_) (fun q => ?_)
      · have h := h.1 q
        refine g_iinc (x4 + 1) [some (sR 62), some (sI x1), some (sI x2), some (sI x3), some (sI (x4 + 1))] dX9_alike_77 rfl rfl (by decide) rfl ?_
        refine g_goto 22 dX9_alike_80 (by decide) ?_
        exact sG.loc (s_le_s (s_le_s (s_le_s (s_le_s (s_le_s s_le_0))))) h
      · have h := h.2 q
        refine g_aload_n dX9_alike_45 rfl ?_
        refine g_getr (r2 := 82) dX9_alike_46 fX9_67 rfl rfl ?_
        refine g_iload_n dX9_alike_49 rfl ?_
        obtain ⟨v1, h⟩ := h
        refine h_iald (μ2.1 82 x3.toNatClampNeg) dX9_alike_50 rfl rfl v1 rfl ?_
        refine g_aload_n dX9_alike_51 rfl ?_
        refine g_getr (r2 := 82) dX9_alike_52 fX9_67 rfl rfl ?_
        refine g_iload dX9_alike_55 rfl ?_
        obtain ⟨v2, h⟩ := h
        refine h_iald (μ2.1 82 x4.toNatClampNeg) dX9_alike_57 rfl rfl v2 rfl ?_
        refine g_icmp_ne 77 dX9_alike_58 (by decide) (fun q => ?_) (fun q => ?_)
        · have h := h.1 q
          refine g_iinc (x4 + 1) [some (sR 62), some (sI x1), some (sI x2), some (sI x3), some (sI (x4 + 1))] dX9_alike_77 rfl rfl (by decide) rfl ?_
          refine g_goto 22 dX9_alike_80 (by decide) ?_
          exact sG.loc (s_le_s (s_le_s (s_le_s (s_le_s (s_le_s s_le_0))))) h
        · have h := h.2 q
          refine g_iload_n dX9_alike_61 rfl ?_
          refine g_iload_n dX9_alike_62 rfl ?_
          refine g_icmp_ne 74 dX9_alike_63 (by decide) (fun q => ?_) (fun q => ?_)
          · have h := h.1 q
            refine g_iinc (x2 + 1) [some (sR 62), some (sI x1), some (sI (x2 + 1)), some (sI x3), some (sI x4)] dX9_alike_74 rfl rfl (by decide) rfl ?_
            refine g_iinc (x4 + 1) [some (sR 62), some (sI x1), some (sI (x2 + 1)), some (sI x3), some (sI (x4 + 1))] dX9_alike_77 rfl rfl (by decide) rfl ?_
            refine g_goto 22 dX9_alike_80 (by decide) ?_
            exact sG.loc (s_le_s (s_le_s (s_le_s (s_le_s (s_le_s s_le_0))))) h
          · have h := h.2 q
            refine g_bipush 10 dX9_alike_66 (by decide) ?_
            refine g_iload_n dX9_alike_68 rfl ?_
            refine g_imul dX9_alike_69 ?_
            refine g_iload dX9_alike_70 rfl ?_
            refine g_iadd dX9_alike_72 ?_
            exact g_iret dX9_alike_73 rfl rfl h
set_option maxRecDepth 20000 in
theorem eX9_findAlone {d : Nat} {Q : Option sAV → sM → Prop} {μ : sM} (h : sG sLL mX9_findAlone (d + 1) Q 2 [some (sR 62), some (sI 0), none] [] μ) : sCl sLL mX9_findAlone (d + 1) [sR 62] μ Q := by
  refine sG.loc (al2 := [some (sR 62), none, none]) (s_le_s (s_le_p (s_le_p s_le_0))) ?_
  refine g_iconst 0 dX9_findAlone_0 (by decide) ?_
  refine g_istore_n [some (sR 62), some (sI 0), none] dX9_findAlone_1 rfl (by decide) rfl ?_
  exact sG.loc (s_le_s (s_le_s (s_le_n s_le_0))) h
set_option maxRecDepth 20000 in
theorem sX9_findAlone_2 {d : Nat} {Q : Option sAV → sM → Prop} {μ : sM} {x1 : Int32} (h : ((4 ≤ x1 → sCl sLL mX9_putBack d [sR 62] μ (kV fun μ1 => Q none μ1)) ∧ (¬ 4 ≤ x1 → sCl sLL mX9_putBack d [sR 62] μ (kV fun μ1 => sCl sLL mX9_isThere d [sR 62, sI x1] (s_u μ1 62 11 (-6)) (kI fun r2 μ2 => ((r2 = 0 → sCl sLL mX9_tableNow d [sR 62] μ2 (kI fun r3 μ3 => (vp_in x1 4 ∧ sG sLL mX9_findAlone (d + 1) Q 2 [some (sR 62), some (sI (x1 + 1)), none] [] (s_u μ3 82 (x1.toNatClampNeg) r3)))) ∧ (¬ r2 = 0 → sCl sLL mX9_taken d [sR 62, sI x1] μ2 (kI fun r3 μ3 => ((r3 < 0 → sCl sLL mX9_tableNow d [sR 62] μ3 (kI fun r4 μ4 => (vp_in x1 4 ∧ sG sLL mX9_findAlone (d + 1) Q 2 [some (sR 62), some (sI (x1 + 1)), none] [] (s_u μ4 82 (x1.toNatClampNeg) r4)))) ∧ (¬ r3 < 0 → sCl sLL mX9_use d [sR 62, sI x1, sI r3] μ3 (kV fun μ4 => sCl sLL mX9_tableNow d [sR 62] μ4 (kI fun r5 μ5 => (vp_in x1 4 ∧ sG sLL mX9_findAlone (d + 1) Q 2 [some (sR 62), some (sI (x1 + 1)), none] [] (s_u μ5 82 (x1.toNatClampNeg) r5)))))))))))))) : sG sLL mX9_findAlone (d + 1) Q 2 [some (sR 62), some (sI x1), none] [] μ := by
  refine g_iload_n dX9_findAlone_2 rfl ?_
  refine g_iconst 4 dX9_findAlone_3 (by decide) ?_
  refine g_icmp_ge 62 dX9_findAlone_4 (by decide) (fun q => ?_) (fun q => ?_)
  · have h := h.1 q
    refine g_aload_n dX9_findAlone_62 rfl ?_
    refine g_callVv (mi2 := mX9_putBack) (r := 62) (st := []) [] dX9_findAlone_63 lX9_175 kX9_putBack vX9_putBack rfl rfl rfl (Nat.le_of_ble_eq_true rfl) (Nat.le_of_ble_eq_true rfl) (Nat.le_of_ble_eq_true rfl) rfl ?_
    refine sG.mono h (kV_mono fun μ1 h => ?_)
    exact g_vret dX9_findAlone_66 rfl h
  · have h := h.2 q
    refine g_aload_n dX9_findAlone_7 rfl ?_
    refine g_callVv (mi2 := mX9_putBack) (r := 62) (st := []) [] dX9_findAlone_8 lX9_175 kX9_putBack vX9_putBack rfl rfl rfl (Nat.le_of_ble_eq_true rfl) (Nat.le_of_ble_eq_true rfl) (Nat.le_of_ble_eq_true rfl) rfl ?_
    refine sG.mono h (kV_mono fun μ1 h => ?_)
    refine g_aload_n dX9_findAlone_11 rfl ?_
    refine g_bipush (-6) dX9_findAlone_12 (by decide) ?_
    refine g_puti dX9_findAlone_14 fX9_127 rfl rfl rfl rfl ?_
    refine g_aload_n dX9_findAlone_17 rfl ?_
    refine g_iload_n dX9_findAlone_18 rfl ?_
    refine g_callVi (mi2 := mX9_isThere) (r := 62) (st := []) [sI x1] dX9_findAlone_19 lX9_113 kX9_isThere vX9_isThere rfl rfl rfl (Nat.le_of_ble_eq_true rfl) (Nat.le_of_ble_eq_true rfl) (Nat.le_of_ble_eq_true rfl) rfl ?_
    refine sG.mono h (kI_mono fun r2 μ2 h => ?_)
    refine g_if_eq 33 dX9_findAlone_22 (by decide) (fun q => ?_) (fun q => ?_)
    · have h := h.1 q
      refine g_bipush (-6) dX9_findAlone_33 (by decide) ?_
      refine g_istore_n [some (sR 62), some (sI x1), some (sI (-6))] dX9_findAlone_35 rfl (by decide) rfl ?_
      refine g_iload_n dX9_findAlone_36 rfl ?_
      refine g_if_lt 46 dX9_findAlone_37 (by decide) (fun _ => ?_) (fun q => absurd q (by decide))
      refine g_aload_n dX9_findAlone_46 rfl ?_
      refine g_getr (r2 := 82) dX9_findAlone_47 fX9_67 rfl rfl ?_
      refine g_iload_n dX9_findAlone_50 rfl ?_
      refine g_aload_n dX9_findAlone_51 rfl ?_
      refine g_callVi (mi2 := mX9_tableNow) (r := 62) (st := [sI x1, sR 82]) [] dX9_findAlone_52 lX9_237 kX9_tableNow vX9_tableNow rfl rfl rfl (Nat.le_of_ble_eq_true rfl) (Nat.le_of_ble_eq_true rfl) (Nat.le_of_ble_eq_true rfl) rfl ?_
      refine sG.mono h (kI_mono fun r3 μ3 h => ?_)
      obtain ⟨v1, h⟩ := h
      refine h_iast (x1.toNatClampNeg) dX9_findAlone_55 rfl rfl v1 rfl ?_
      refine g_iinc (x1 + 1) [some (sR 62), some (sI (x1 + 1)), some (sI (-6))] dX9_findAlone_56 rfl rfl (by decide) rfl ?_
      refine g_goto 2 dX9_findAlone_59 (by decide) ?_
      exact sG.loc (s_le_s (s_le_s (s_le_n s_le_0))) h
    · have h := h.2 q
      refine g_aload_n dX9_findAlone_25 rfl ?_
      refine g_iload_n dX9_findAlone_26 rfl ?_
      refine g_callVi (mi2 := mX9_taken) (r := 62) (st := []) [sI x1] dX9_findAlone_27 lX9_139 kX9_taken vX9_taken rfl rfl rfl (Nat.le_of_ble_eq_true rfl) (Nat.le_of_ble_eq_true rfl) (Nat.le_of_ble_eq_true rfl) rfl ?_
      refine sG.mono h (kI_mono fun r3 μ3 h => ?_)
      refine g_goto 35 dX9_findAlone_30 (by decide) ?_
      refine g_istore_n [some (sR 62), some (sI x1), some (sI r3)] dX9_findAlone_35 rfl (by decide) rfl ?_
      refine g_iload_n dX9_findAlone_36 rfl ?_
      refine g_if_lt 46 dX9_findAlone_37 (by decide) (fun q => ?_) (fun q => ?_)
      · have h := h.1 q
        refine g_aload_n dX9_findAlone_46 rfl ?_
        refine g_getr (r2 := 82) dX9_findAlone_47 fX9_67 rfl rfl ?_
        refine g_iload_n dX9_findAlone_50 rfl ?_
        refine g_aload_n dX9_findAlone_51 rfl ?_
        refine g_callVi (mi2 := mX9_tableNow) (r := 62) (st := [sI x1, sR 82]) [] dX9_findAlone_52 lX9_237 kX9_tableNow vX9_tableNow rfl rfl rfl (Nat.le_of_ble_eq_true rfl) (Nat.le_of_ble_eq_true rfl) (Nat.le_of_ble_eq_true rfl) rfl ?_
        refine sG.mono h (kI_mono fun r4 μ4 h => ?_)
        obtain ⟨v1, h⟩ := h
        refine h_iast (x1.toNatClampNeg) dX9_findAlone_55 rfl rfl v1 rfl ?_
        refine g_iinc (x1 + 1) [some (sR 62), some (sI (x1 + 1)), some (sI r3)] dX9_findAlone_56 rfl rfl (by decide) rfl ?_
        refine g_goto 2 dX9_findAlone_59 (by decide) ?_
        exact sG.loc (s_le_s (s_le_s (s_le_n s_le_0))) h
      · have h := h.2 q
        refine g_aload_n dX9_findAlone_40 rfl ?_
        refine g_iload_n dX9_findAlone_41 rfl ?_
        refine g_iload_n dX9_findAlone_42 rfl ?_
        refine g_callVv (mi2 := mX9_use) (r := 62) (st := []) [sI x1, sI r3] dX9_findAlone_43 lX9_151 kX9_use vX9_use rfl rfl rfl (Nat.le_of_ble_eq_true rfl) (Nat.le_of_ble_eq_true rfl) (Nat.le_of_ble_eq_true rfl) rfl ?_
        refine sG.mono h (kV_mono fun μ4 h => ?_)
        refine g_aload_n dX9_findAlone_46 rfl ?_
        refine g_getr (r2 := 82) dX9_findAlone_47 fX9_67 rfl rfl ?_
        refine g_iload_n dX9_findAlone_50 rfl ?_
        refine g_aload_n dX9_findAlone_51 rfl ?_
        refine g_callVi (mi2 := mX9_tableNow) (r := 62) (st := [sI x1, sR 82]) [] dX9_findAlone_52 lX9_237 kX9_tableNow vX9_tableNow rfl rfl rfl (Nat.le_of_ble_eq_true rfl) (Nat.le_of_ble_eq_true rfl) (Nat.le_of_ble_eq_true rfl) rfl ?_
        refine sG.mono h (kI_mono fun r5 μ5 h => ?_)
        obtain ⟨v1, h⟩ := h
        refine h_iast (x1.toNatClampNeg) dX9_findAlone_55 rfl rfl v1 rfl ?_
        refine g_iinc (x1 + 1) [some (sR 62), some (sI (x1 + 1)), some (sI r3)] dX9_findAlone_56 rfl rfl (by decide) rfl ?_
        refine g_goto 2 dX9_findAlone_59 (by decide) ?_
        exact sG.loc (s_le_s (s_le_s (s_le_n s_le_0))) h
set_option maxRecDepth 20000 in
theorem eX9_tableNow {d : Nat} {Q : Option sAV → sM → Prop} {μ : sM} (h : sG sLL mX9_tableNow (d + 1) Q 4 [some (sR 62), some (sI 0), some (sI 0)] [] μ) : sCl sLL mX9_tableNow (d + 1) [sR 62] μ Q := by
  refine sG.loc (al2 := [some (sR 62), none, none]) (s_le_s (s_le_p (s_le_p s_le_0))) ?_
  refine g_iconst 0 dX9_tableNow_0 (by decide) ?_
  refine g_istore_n [some (sR 62), some (sI 0), none] dX9_tableNow_1 rfl (by decide) rfl ?_
  refine g_iconst 0 dX9_tableNow_2 (by decide) ?_
  refine g_istore_n [some (sR 62), some (sI 0), some (sI 0)] dX9_tableNow_3 rfl (by decide) rfl ?_
  exact sG.loc (s_le_s (s_le_s (s_le_s s_le_0))) h
set_option maxRecDepth 20000 in
theorem sX9_tableNow_4 {d : Nat} {Q : Option sAV → sM → Prop} {μ : sM} {x1 : Int32} {x2 : Int32} (h : (((μ.1 62 0) ≤ x2 → Q (some (sI x1)) μ) ∧ (¬ (μ.1 62 0) ≤ x2 → sCl sLL mX9_at d [sI 3, sI x2] μ (kI fun r1 μ1 => (vp_in r1 28 ∧ sG sLL mX9_tableNow (d + 1) Q 4 [some (sR 62), some (sI ((10 * x1) + (μ1.1 63 r1.toNatClampNeg))), some (sI (x2 + 1))] [] μ1))))) : sG sLL mX9_tableNow (d + 1) Q 4 [some (sR 62), some (sI x1), some (sI x2)] [] μ := by
  refine g_iload_n dX9_tableNow_4 rfl ?_
  refine g_aload_n dX9_tableNow_5 rfl ?_
  refine h_geti (μ.1 62 0) dX9_tableNow_6 fX9_84 rfl rfl rfl ?_
  refine g_icmp_ge 34 dX9_tableNow_9 (by decide) (fun q => ?_) (fun q => ?_)
  · have h := h.1 q
    refine g_iload_n dX9_tableNow_34 rfl ?_
    exact g_iret dX9_tableNow_35 rfl rfl h
  · have h := h.2 q
    refine g_bipush 10 dX9_tableNow_12 (by decide) ?_
    refine g_iload_n dX9_tableNow_14 rfl ?_
    refine g_imul dX9_tableNow_15 ?_
    refine g_aload_n dX9_tableNow_16 rfl ?_
    refine g_getr (r2 := 63) dX9_tableNow_17 fX9_7 rfl rfl ?_
    refine g_iconst 3 dX9_tableNow_20 (by decide) ?_
    refine g_iload_n dX9_tableNow_21 rfl ?_
    refine g_callSi (mi2 := mX9_at) (st := [sR 63, sI (10 * x1)]) [sI 3, sI x2] dX9_tableNow_22 lX9_88 kX9_at vX9_at rfl (Nat.le_of_ble_eq_true rfl) (Nat.le_of_ble_eq_true rfl) (Nat.le_of_ble_eq_true rfl) rfl ?_
    refine sG.mono h (kI_mono fun r1 μ1 h => ?_)
    obtain ⟨v1, h⟩ := h
    refine h_iald (μ1.1 63 r1.toNatClampNeg) dX9_tableNow_25 rfl rfl v1 rfl ?_
    refine g_iadd dX9_tableNow_26 ?_
    refine g_istore_n [some (sR 62), some (sI ((10 * x1) + (μ1.1 63 r1.toNatClampNeg))), some (sI x2)] dX9_tableNow_27 rfl (by decide) rfl ?_
    refine g_iinc (x2 + 1) [some (sR 62), some (sI ((10 * x1) + (μ1.1 63 r1.toNatClampNeg))), some (sI (x2 + 1))] dX9_tableNow_28 rfl rfl (by decide) rfl ?_
    refine g_goto 4 dX9_tableNow_31 (by decide) ?_
    exact sG.loc (s_le_s (s_le_s (s_le_s s_le_0))) h
set_option maxRecDepth 20000 in
theorem eX9_lay {d : Nat} {Q : Option sAV → sM → Prop} {μ : sM} {a1 : Int32} (h : sCl sLL mX9_in d [sL a1.toInt64, sL 0, sL 1] μ (kI fun r1 μ1 => ((¬ r1 = 0 → sCl sLL mX9_keepNow d [sR 62] μ1 (kV fun μ2 => sCl sLL mX9_laidSet d [sR 62] μ2 (kI fun r3 μ3 => ((r3 < 0 → Q (some (sI r3)) μ3) ∧ (¬ r3 < 0 → ((¬ a1 = 1 → sCl sLL mX9_ones d [sI r3] μ3 (kI fun r4 μ4 => Q (some (sI r4)) μ4)) ∧ (a1 = 1 → Q (some (sI r3)) μ3))))))) ∧ (r1 = 0 → Q (some (sI (-2))) μ1)))) : sCl sLL mX9_lay (d + 1) [sR 62, sI a1] μ Q := by
  refine sG.loc (al2 := [some (sR 62), some (sI a1), none]) (s_le_s (s_le_s (s_le_p s_le_0))) ?_
  refine g_iload_n dX9_lay_0 rfl ?_
  refine g_i2l dX9_lay_1 ?_
  refine g_lconst 0 dX9_lay_2 (by decide) ?_
  refine g_lconst 1 dX9_lay_3 (by decide) ?_
  refine g_callSi (mi2 := mX9_in) (st := []) [sL a1.toInt64, sL 0, sL 1] dX9_lay_4 lX9_92 kX9_in vX9_in rfl (Nat.le_of_ble_eq_true rfl) (Nat.le_of_ble_eq_true rfl) (Nat.le_of_ble_eq_true rfl) rfl ?_
  refine sG.mono h (kI_mono fun r1 μ1 h => ?_)
  refine g_if_ne 13 dX9_lay_7 (by decide) (fun q => ?_) (fun q => ?_)
  · have h := h.1 q
    refine g_aload_n dX9_lay_13 rfl ?_
    refine g_callVv (mi2 := mX9_keepNow) (r := 62) (st := []) [] dX9_lay_14 lX9_169 kX9_keepNow vX9_keepNow rfl rfl rfl (Nat.le_of_ble_eq_true rfl) (Nat.le_of_ble_eq_true rfl) (Nat.le_of_ble_eq_true rfl) rfl ?_
    refine sG.mono h (kV_mono fun μ2 h => ?_)
    refine g_aload_n dX9_lay_17 rfl ?_
    refine g_callVi (mi2 := mX9_laidSet) (r := 62) (st := []) [] dX9_lay_18 lX9_250 kX9_laidSet vX9_laidSet rfl rfl rfl (Nat.le_of_ble_eq_true rfl) (Nat.le_of_ble_eq_true rfl) (Nat.le_of_ble_eq_true rfl) rfl ?_
    refine sG.mono h (kI_mono fun r3 μ3 h => ?_)
    refine g_istore_n [some (sR 62), some (sI a1), some (sI r3)] dX9_lay_21 rfl (by decide) rfl ?_
    refine g_iload_n dX9_lay_22 rfl ?_
    refine g_if_lt 31 dX9_lay_23 (by decide) (fun q => ?_) (fun q => ?_)
    · have h := h.1 q
      refine g_iload_n dX9_lay_31 rfl ?_
      refine g_goto 39 dX9_lay_32 (by decide) ?_
      exact g_iret dX9_lay_39 rfl rfl h
    · have h := h.2 q
      refine g_iload_n dX9_lay_26 rfl ?_
      refine g_iconst 1 dX9_lay_27 (by decide) ?_
      refine g_icmp_ne 35 dX9_lay_28 (by decide) (fun q => ?_) (fun q => ?_)
      · have h := h.1 q
        refine g_iload_n dX9_lay_35 rfl ?_
        refine g_callSi (mi2 := mX9_ones) (st := []) [sI r3] dX9_lay_36 lX9_109 kX9_ones vX9_ones rfl (Nat.le_of_ble_eq_true rfl) (Nat.le_of_ble_eq_true rfl) (Nat.le_of_ble_eq_true rfl) rfl ?_
        refine sG.mono h (kI_mono fun r4 μ4 h => ?_)
        exact g_iret dX9_lay_39 rfl rfl h
      · have h := h.2 q
        refine g_iload_n dX9_lay_31 rfl ?_
        refine g_goto 39 dX9_lay_32 (by decide) ?_
        exact g_iret dX9_lay_39 rfl rfl h
  · have h := h.2 q
    refine g_bipush (-2) dX9_lay_10 (by decide) ?_
    exact g_iret dX9_lay_12 rfl rfl h
set_option maxRecDepth 20000 in
theorem eX9_laidSet {d : Nat} {Q : Option sAV → sM → Prop} {μ : sM} (h : sCl sLL mX9_areApart d [sR 62] μ (kI fun r1 μ1 => ((r1 = 0 → sG sLL mX9_laidSet (d + 1) Q 11 [some (sR 62), some (sI 1), none, none, none, none, none] [] μ1) ∧ (¬ r1 = 0 → Q (some (sI 0)) μ1)))) : sCl sLL mX9_laidSet (d + 1) [sR 62] μ Q := by
  refine sG.loc (al2 := [some (sR 62), none, none, none, none, none, none]) (s_le_s (s_le_p (s_le_p (s_le_p (s_le_p (s_le_p (s_le_p s_le_0))))))) ?_
  refine g_aload_n dX9_laidSet_0 rfl ?_
  refine g_callVi (mi2 := mX9_areApart) (r := 62) (st := []) [] dX9_laidSet_1 lX9_243 kX9_areApart vX9_areApart rfl rfl rfl (Nat.le_of_ble_eq_true rfl) (Nat.le_of_ble_eq_true rfl) (Nat.le_of_ble_eq_true rfl) rfl ?_
  refine sG.mono h (kI_mono fun r1 μ1 h => ?_)
  refine g_if_eq 9 dX9_laidSet_4 (by decide) (fun q => ?_) (fun q => ?_)
  · have h := h.1 q
    refine g_iconst 1 dX9_laidSet_9 (by decide) ?_
    refine g_istore_n [some (sR 62), some (sI 1), none, none, none, none, none] dX9_laidSet_10 rfl (by decide) rfl ?_
    exact sG.loc (s_le_s (s_le_s (s_le_n (s_le_n (s_le_n (s_le_n (s_le_n s_le_0))))))) h
  · have h := h.2 q
    refine g_iconst 0 dX9_laidSet_7 (by decide) ?_
    exact g_iret dX9_laidSet_8 rfl rfl h
set_option maxRecDepth 20000 in
theorem sX9_laidSet_11 {d : Nat} {Q : Option sAV → sM → Prop} {μ : sM} {x1 : Int32} (h : ((2 < x1 → Q (some (sI (-6))) μ) ∧ (¬ 2 < x1 → sG sLL mX9_laidSet (d + 1) Q 18 [some (sR 62), some (sI x1), some (sI 1), none, none, none, none] [] μ))) : sG sLL mX9_laidSet (d + 1) Q 11 [some (sR 62), some (sI x1), none, none, none, none, none] [] μ := by
  refine g_iload_n dX9_laidSet_11 rfl ?_
  refine g_iconst 2 dX9_laidSet_12 (by decide) ?_
  refine g_icmp_gt 181 dX9_laidSet_13 (by decide) (fun q => ?_) (fun q => ?_)
  · have h := h.1 q
    refine g_bipush (-6) dX9_laidSet_181 (by decide) ?_
    exact g_iret dX9_laidSet_183 rfl rfl h
  · have h := h.2 q
    refine g_iconst 1 dX9_laidSet_16 (by decide) ?_
    refine g_istore_n [some (sR 62), some (sI x1), some (sI 1), none, none, none, none] dX9_laidSet_17 rfl (by decide) rfl ?_
    exact sG.loc (s_le_s (s_le_s (s_le_s (s_le_n (s_le_n (s_le_n (s_le_n s_le_0))))))) h
set_option maxRecDepth 20000 in
theorem sX9_laidSet_18 {d : Nat} {Q : Option sAV → sM → Prop} {μ : sM} {x1 : Int32} {x2 : Int32} (h : ((((1 : Int32) <<< ((μ.1 62 0) &&& 31)) ≤ x2 → sG sLL mX9_laidSet (d + 1) Q 11 [some (sR 62), some (sI (x1 + 1)), none, none, none, none, none] [] μ) ∧ (¬ ((1 : Int32) <<< ((μ.1 62 0) &&& 31)) ≤ x2 → sCl sLL mX9_ones d [sI x2] μ (kI fun r1 μ1 => ((¬ r1 = x1 → sG sLL mX9_laidSet (d + 1) Q 18 [some (sR 62), some (sI x1), some (sI (x2 + 1)), none, none, none, none] [] μ1) ∧ (r1 = x1 → sG sLL mX9_laidSet (d + 1) Q 52 [some (sR 62), some (sI x1), some (sI x2), some (sI 0), some (sI 0), some (sI 1), some (sI ((μ1.1 62 0) - 1))] [] μ1)))))) : sG sLL mX9_laidSet (d + 1) Q 18 [some (sR 62), some (sI x1), some (sI x2), none, none, none, none] [] μ := by
  refine g_iload_n dX9_laidSet_18 rfl ?_
  refine g_iconst 1 dX9_laidSet_19 (by decide) ?_
  refine g_aload_n dX9_laidSet_20 rfl ?_
  refine h_geti (μ.1 62 0) dX9_laidSet_21 fX9_84 rfl rfl rfl ?_
  refine g_ishl dX9_laidSet_24 ?_
  refine g_icmp_ge 175 dX9_laidSet_25 (by decide) (fun q => ?_) (fun q => ?_)
  · have h := h.1 q
    refine g_iinc (x1 + 1) [some (sR 62), some (sI (x1 + 1)), some (sI x2), none, none, none, none] dX9_laidSet_175 rfl rfl (by decide) rfl ?_
    refine g_goto 11 dX9_laidSet_178 (by decide) ?_
    exact sG.loc (s_le_s (s_le_s (s_le_n (s_le_n (s_le_n (s_le_n (s_le_n s_le_0))))))) h
  · have h := h.2 q
    refine g_iload_n dX9_laidSet_28 rfl ?_
    refine g_callSi (mi2 := mX9_ones) (st := []) [sI x2] dX9_laidSet_29 lX9_109 kX9_ones vX9_ones rfl (Nat.le_of_ble_eq_true rfl) (Nat.le_of_ble_eq_true rfl) (Nat.le_of_ble_eq_true rfl) rfl ?_
    refine sG.mono h (kI_mono fun r1 μ1 h => ?_)
    refine g_iload_n dX9_laidSet_32 rfl ?_
    refine g_icmp_ne 169 dX9_laidSet_33 (by decide) (fun q => ?_) (fun q => ?_)
    · have h := h.1 q
      refine g_iinc (x2 + 1) [some (sR 62), some (sI x1), some (sI (x2 + 1)), none, none, none, none] dX9_laidSet_169 rfl rfl (by decide) rfl ?_
      refine g_goto 18 dX9_laidSet_172 (by decide) ?_
      exact sG.loc (s_le_s (s_le_s (s_le_s (s_le_n (s_le_n (s_le_n (s_le_n s_le_0))))))) h
    · have h := h.2 q
      refine g_iconst 0 dX9_laidSet_36 (by decide) ?_
      refine g_istore_n [some (sR 62), some (sI x1), some (sI x2), some (sI 0), none, none, none] dX9_laidSet_37 rfl (by decide) rfl ?_
      refine g_iconst 0 dX9_laidSet_38 (by decide) ?_
      refine g_istore [some (sR 62), some (sI x1), some (sI x2), some (sI 0), some (sI 0), none, none] dX9_laidSet_39 (by decide) rfl ?_
      refine g_iconst 1 dX9_laidSet_41 (by decide) ?_
      refine g_istore [some (sR 62), some (sI x1), some (sI x2), some (sI 0), some (sI 0), some (sI 1), none] dX9_laidSet_42 (by decide) rfl ?_
      refine g_aload_n dX9_laidSet_44 rfl ?_
      refine h_geti (μ1.1 62 0) dX9_laidSet_45 fX9_84 rfl rfl rfl ?_
      refine g_iconst 1 dX9_laidSet_48 (by decide) ?_
      refine g_isub dX9_laidSet_49 ?_
      refine g_istore [some (sR 62), some (sI x1), some (sI x2), some (sI 0), some (sI 0), some (sI 1), some (sI ((μ1.1 62 0) - 1))] dX9_laidSet_50 (by decide) rfl ?_
      exact sG.loc (s_le_s (s_le_s (s_le_s (s_le_s (s_le_s (s_le_s (s_le_s s_le_0))))))) h
set_option maxRecDepth 20000 in
theorem sX9_laidSet_52 {d : Nat} {Q : Option sAV → sM → Prop} {μ : sM} {x1 : Int32} {x2 : Int32} {x3 : Int32} {x4 : Int32} {x5 : Int32} {x6 : Int32} (h : ((x6 < 0 → sG sLL mX9_laidSet (d + 1) Q 83 [some (sR 62), some (sI x1), some (sI x2), some (sI x3), some (sI x4), some (sI x5), some (sI 0)] [] μ) ∧ (¬ x6 < 0 → ((¬ ((x2 >>> (x6 &&& 31)) &&& 1) = 1 → sG sLL mX9_laidSet (d + 1) Q 52 [some (sR 62), some (sI x1), some (sI x2), some (sI x3), some (sI x4), some (sI x5), some (sI (x6 + (-1)))] [] μ) ∧ (((x2 >>> (x6 &&& 31)) &&& 1) = 1 → sG sLL mX9_laidSet (d + 1) Q 52 [some (sR 62), some (sI x1), some (sI x2), some (sI x6), some (sI x4), some (sI x5), some (sI (x6 + (-1)))] [] μ))))) : sG sLL mX9_laidSet (d + 1) Q 52 [some (sR 62), some (sI x1), some (sI x2), some (sI x3), some (sI x4), some (sI x5), some (sI x6)] [] μ := by
  refine g_iload dX9_laidSet_52 rfl ?_
  refine g_if_lt 80 dX9_laidSet_54 (by decide) (fun q => ?_) (fun q => ?_)
  · have h := h.1 q
    refine g_iconst 0 dX9_laidSet_80 (by decide) ?_
    refine g_istore [some (sR 62), some (sI x1), some (sI x2), some (sI x3), some (sI x4), some (sI x5), some (sI 0)] dX9_laidSet_81 (by decide) rfl ?_
    exact sG.loc (s_le_s (s_le_s (s_le_s (s_le_s (s_le_s (s_le_s (s_le_s s_le_0))))))) h
  · have h := h.2 q
    refine g_iload_n dX9_laidSet_57 rfl ?_
    refine g_iload dX9_laidSet_58 rfl ?_
    refine g_ishr dX9_laidSet_60 ?_
    refine g_iconst 1 dX9_laidSet_61 (by decide) ?_
    refine g_iand dX9_laidSet_62 ?_
    refine g_iconst 1 dX9_laidSet_63 (by decide) ?_
    refine g_icmp_ne 72 dX9_laidSet_64 (by decide) (fun q => ?_) (fun q => ?_)
    · have h := h.1 q
      refine g_iload_n dX9_laidSet_72 rfl ?_
      refine g_istore_n [some (sR 62), some (sI x1), some (sI x2), some (sI x3), some (sI x4), some (sI x5), some (sI x6)] dX9_laidSet_73 rfl (by decide) rfl ?_
      refine g_iinc (x6 + (-1)) [some (sR 62), some (sI x1), some (sI x2), some (sI x3), some (sI x4), some (sI x5), some (sI (x6 + (-1)))] dX9_laidSet_74 rfl rfl (by decide) rfl ?_
      refine g_goto 52 dX9_laidSet_77 (by decide) ?_
      exact sG.loc (s_le_s (s_le_s (s_le_s (s_le_s (s_le_s (s_le_s (s_le_s s_le_0))))))) h
    · have h := h.2 q
      refine g_iload dX9_laidSet_67 rfl ?_
      refine g_goto 73 dX9_laidSet_69 (by decide) ?_
      refine g_istore_n [some (sR 62), some (sI x1), some (sI x2), some (sI x6), some (sI x4), some (sI x5), some (sI x6)] dX9_laidSet_73 rfl (by decide) rfl ?_
      refine g_iinc (x6 + (-1)) [some (sR 62), some (sI x1), some (sI x2), some (sI x6), some (sI x4), some (sI x5), some (sI (x6 + (-1)))] dX9_laidSet_74 rfl rfl (by decide) rfl ?_
      refine g_goto 52 dX9_laidSet_77 (by decide) ?_
      exact sG.loc (s_le_s (s_le_s (s_le_s (s_le_s (s_le_s (s_le_s (s_le_s s_le_0))))))) h
set_option maxRecDepth 20000 in
theorem sX9_laidSet_83 {d : Nat} {Q : Option sAV → sM → Prop} {μ : sM} {x1 : Int32} {x2 : Int32} {x3 : Int32} {x4 : Int32} {x5 : Int32} {x6 : Int32} (h : (((μ.1 62 0) ≤ x6 → ((x5 = 0 → sG sLL mX9_laidSet (d + 1) Q 18 [some (sR 62), some (sI x1), some (sI (x2 + 1)), none, none, none, none] [] μ) ∧ (¬ x5 = 0 → sCl sLL mX9_canBeLaid d [sR 62, sI x3, sI x4] μ (kI fun r1 μ1 => ((r1 = 0 → sG sLL mX9_laidSet (d + 1) Q 18 [some (sR 62), some (sI x1), some (sI (x2 + 1)), none, none, none, none] [] μ1) ∧ (¬ r1 = 0 → Q (some (sI x2)) μ1)))))) ∧ (¬ (μ.1 62 0) ≤ x6 → ((¬ ((x2 >>> (x6 &&& 31)) &&& 1) = 1 → ((x5 = 0 → sG sLL mX9_laidSet (d + 1) Q 83 [some (sR 62), some (sI x1), some (sI x2), some (sI x3), some (sI x4), some (sI 0), some (sI (x6 + 1))] [] μ) ∧ (¬ x5 = 0 → ((((x2 >>> (x6 &&& 31)) &&& 1) = 0 → sG sLL mX9_laidSet (d + 1) Q 83 [some (sR 62), some (sI x1), some (sI x2), some (sI x3), some (sI x4), some (sI 1), some (sI (x6 + 1))] [] μ) ∧ (¬ ((x2 >>> (x6 &&& 31)) &&& 1) = 0 → sCl sLL mX9_at d [sI 2, sI x6] μ (kI fun r1 μ1 => (vp_in r1 28 ∧ ((¬ (μ1.1 63 r1.toNatClampNeg) = 0 → sG sLL mX9_laidSet (d + 1) Q 83 [some (sR 62), some (sI x1), some (sI x2), some (sI x3), some (sI x4), some (sI 0), some (sI (x6 + 1))] [] μ1) ∧ ((μ1.1 63 r1.toNatClampNeg) = 0 → sG sLL mX9_laidSet (d + 1) Q 83 [some (sR 62), some (sI x1), some (sI x2), some (sI x3), some (sI x4), some (sI 1), some (sI (x6 + 1))] [] μ1))))))))) ∧ (((x2 >>> (x6 &&& 31)) &&& 1) = 1 → ((x5 = 0 → sG sLL mX9_laidSet (d + 1) Q 83 [some (sR 62), some (sI x1), some (sI x2), some (sI x3), some (sI x6), some (sI 0), some (sI (x6 + 1))] [] μ) ∧ (¬ x5 = 0 → ((((x2 >>> (x6 &&& 31)) &&& 1) = 0 → sG sLL mX9_laidSet (d + 1) Q 83 [some (sR 62), some (sI x1), some (sI x2), some (sI x3), some (sI x6), some (sI 1), some (sI (x6 + 1))] [] μ) ∧ (¬ ((x2 >>> (x6 &&& 31)) &&& 1) = 0 → sCl sLL mX9_at d [sI 2, sI x6] μ (kI fun r1 μ1 => (vp_in r1 28 ∧ ((¬ (μ1.1 63 r1.toNatClampNeg) = 0 → sG sLL mX9_laidSet (d + 1) Q 83 [some (sR 62), some (sI x1), some (sI x2), some (sI x3), some (sI x6), some (sI 0), some (sI (x6 + 1))] [] μ1) ∧ ((μ1.1 63 r1.toNatClampNeg) = 0 → sG sLL mX9_laidSet (d + 1) Q 83 [some (sR 62), some (sI x1), some (sI x2), some (sI x3), some (sI x6), some (sI 1), some (sI (x6 + 1))] [] μ1))))))))))))) : sG sLL mX9_laidSet (d + 1) Q 83 [some (sR 62), some (sI x1), some (sI x2), some (sI x3), some (sI x4), some (sI x5), some (sI x6)] [] μ := by
  refine g_iload dX9_laidSet_83 rfl ?_
  refine g_aload_n dX9_laidSet_85 rfl ?_
  refine h_geti (μ.1 62 0) dX9_laidSet_86 fX9_84 rfl rfl rfl ?_
  refine g_icmp_ge 152 dX9_laidSet_89 (by decide) (fun q => ?_) (fun q => ?_)
  · have h := h.1 q
    refine g_iload dX9_laidSet_152 rfl ?_
    refine g_if_eq 169 dX9_laidSet_154 (by decide) (fun q => ?_) (fun q => ?_)
    · have h := h.1 q
      refine g_iinc (x2 + 1) [some (sR 62), some (sI x1), some (sI (x2 + 1)), some (sI x3), some (sI x4), some (sI x5), some (sI x6)] dX9_laidSet_169 rfl rfl (by decide) rfl ?_
      refine g_goto 18 dX9_laidSet_172 (by decide) ?_
      exact sG.loc (s_le_s (s_le_s (s_le_s (s_le_n (s_le_n (s_le_n (s_le_n s_le_0))))))) h
    · have h := h.2 q
      refine g_aload_n dX9_laidSet_157 rfl ?_
      refine g_iload_n dX9_laidSet_158 rfl ?_
      refine g_iload dX9_laidSet_159 rfl ?_
      refine g_callVi (mi2 := mX9_canBeLaid) (r := 62) (st := []) [sI x3, sI x4] dX9_laidSet_161 lX9_246 kX9_canBeLaid vX9_canBeLaid rfl rfl rfl (Nat.le_of_ble_eq_true rfl) (Nat.le_of_ble_eq_true rfl) (Nat.le_of_ble_eq_true rfl) rfl ?_
      refine sG.mono h (kI_mono fun r1 μ1 h => ?_)
      refine g_if_eq 169 dX9_laidSet_164 (by decide) (fun q => ?_) (fun q => ?_)
      · have h := h.1 q
        refine g_iinc (x2 + 1) [some (sR 62), some (sI x1), some (sI (x2 + 1)), some (sI x3), some (sI x4), some (sI x5), some (sI x6)] dX9_laidSet_169 rfl rfl (by decide) rfl ?_
        refine g_goto 18 dX9_laidSet_172 (by decide) ?_
        exact sG.loc (s_le_s (s_le_s (s_le_s (s_le_n (s_le_n (s_le_n (s_le_n s_le_0))))))) h
      · have h := h.2 q
        refine g_iload_n dX9_laidSet_167 rfl ?_
        exact g_iret dX9_laidSet_168 rfl rfl h
  · have h := h.2 q
    refine g_iload_n dX9_laidSet_92 rfl ?_
    refine g_iload dX9_laidSet_93 rfl ?_
    refine g_ishr dX9_laidSet_95 ?_
    refine g_iconst 1 dX9_laidSet_96 (by decide) ?_
    refine g_iand dX9_laidSet_97 ?_
    refine g_iconst 1 dX9_laidSet_98 (by decide) ?_
    refine g_icmp_ne 107 dX9_laidSet_99 (by decide) (fun q => ?_) (fun q => ?_)
    · have h := h.1 q
      refine g_iload dX9_laidSet_107 rfl ?_
      refine g_istore [some (sR 62), some (sI x1), some (sI x2), some (sI x3), some (sI x4), some (sI x5), some (sI x6)] dX9_laidSet_109 (by decide) rfl ?_
      refine g_iload dX9_laidSet_111 rfl ?_
      refine g_if_eq 143 dX9_laidSet_113 (by decide) (fun q => ?_) (fun q => ?_)
      · have h := h.1 q
        refine g_iconst 0 dX9_laidSet_143 (by decide) ?_
        refine g_istore [some (sR 62), some (sI x1), some (sI x2), some (sI x3), some (sI x4), some (sI 0), some (sI x6)] dX9_laidSet_144 (by decide) rfl ?_
        refine g_iinc (x6 + 1) [some (sR 62), some (sI x1), some (sI x2), some (sI x3), some (sI x4), some (sI 0), some (sI (x6 + 1))] dX9_laidSet_146 rfl rfl (by decide) rfl ?_
        refine g_goto 83 dX9_laidSet_149 (by decide) ?_
        exact sG.loc (s_le_s (s_le_s (s_le_s (s_le_s (s_le_s (s_le_s (s_le_s s_le_0))))))) h
      · have h := h.2 q
        refine g_iload_n dX9_laidSet_116 rfl ?_
        refine g_iload dX9_laidSet_117 rfl ?_
        refine g_ishr dX9_laidSet_119 ?_
        refine g_iconst 1 dX9_laidSet_120 (by decide) ?_
        refine g_iand dX9_laidSet_121 ?_
        refine g_if_eq 139 dX9_laidSet_122 (by decide) (fun q => ?_) (fun q => ?_)
        · have h := h.1 q
          refine g_iconst 1 dX9_laidSet_139 (by decide) ?_
          refine g_goto 144 dX9_laidSet_140 (by decide) ?_
          refine g_istore [some (sR 62), some (sI x1), some (sI x2), some (sI x3), some (sI x4), some (sI 1), some (sI x6)] dX9_laidSet_144 (by decide) rfl ?_
          refine g_iinc (x6 + 1) [some (sR 62), some (sI x1), some (sI x2), some (sI x3), some (sI x4), some (sI 1), some (sI (x6 + 1))] dX9_laidSet_146 rfl rfl (by decide) rfl ?_
          refine g_goto 83 dX9_laidSet_149 (by decide) ?_
          exact sG.loc (s_le_s (s_le_s (s_le_s (s_le_s (s_le_s (s_le_s (s_le_s s_le_0))))))) h
        · have h := h.2 q
          refine g_aload_n dX9_laidSet_125 rfl ?_
          refine g_getr (r2 := 63) dX9_laidSet_126 fX9_7 rfl rfl ?_
          refine g_iconst 2 dX9_laidSet_129 (by decide) ?_
          refine g_iload dX9_laidSet_130 rfl ?_
          refine g_callSi (mi2 := mX9_at) (st := [sR 63]) [sI 2, sI x6] dX9_laidSet_132 lX9_88 kX9_at vX9_at rfl (Nat.le_of_ble_eq_true rfl) (Nat.le_of_ble_eq_true rfl) (Nat.le_of_ble_eq_true rfl) rfl ?_
          refine sG.mono h (kI_mono fun r1 μ1 h => ?_)
          obtain ⟨v1, h⟩ := h
          refine h_iald (μ1.1 63 r1.toNatClampNeg) dX9_laidSet_135 rfl rfl v1 rfl ?_
          refine g_if_ne 143 dX9_laidSet_136 (by decide) (fun q => ?_) (fun q => ?_)
          · have h := h.1 q
            refine g_iconst 0 dX9_laidSet_143 (by decide) ?_
            refine g_istore [some (sR 62), some (sI x1), some (sI x2), some (sI x3), some (sI x4), some (sI 0), some (sI x6)] dX9_laidSet_144 (by decide) rfl ?_
            refine g_iinc (x6 + 1) [some (sR 62), some (sI x1), some (sI x2), some (sI x3), some (sI x4), some (sI 0), some (sI (x6 + 1))] dX9_laidSet_146 rfl rfl (by decide) rfl ?_
            refine g_goto 83 dX9_laidSet_149 (by decide) ?_
            exact sG.loc (s_le_s (s_le_s (s_le_s (s_le_s (s_le_s (s_le_s (s_le_s s_le_0))))))) h
          · have h := h.2 q
            refine g_iconst 1 dX9_laidSet_139 (by decide) ?_
            refine g_goto 144 dX9_laidSet_140 (by decide) ?_
            refine g_istore [some (sR 62), some (sI x1), some (sI x2), some (sI x3), some (sI x4), some (sI 1), some (sI x6)] dX9_laidSet_144 (by decide) rfl ?_
            refine g_iinc (x6 + 1) [some (sR 62), some (sI x1), some (sI x2), some (sI x3), some (sI x4), some (sI 1), some (sI (x6 + 1))] dX9_laidSet_146 rfl rfl (by decide) rfl ?_
            refine g_goto 83 dX9_laidSet_149 (by decide) ?_
            exact sG.loc (s_le_s (s_le_s (s_le_s (s_le_s (s_le_s (s_le_s (s_le_s s_le_0))))))) h
    · have h := h.2 q
      refine g_iload dX9_laidSet_102 rfl ?_
      refine g_goto 109 dX9_laidSet_104 (by decide) ?_
      refine g_istore [some (sR 62), some (sI x1), some (sI x2), some (sI x3), some (sI x6), some (sI x5), some (sI x6)] dX9_laidSet_109 (by decide) rfl ?_
      refine g_iload dX9_laidSet_111 rfl ?_
      refine g_if_eq 143 dX9_laidSet_113 (by decide) (fun q => ?_) (fun q => ?_)
      · have h := h.1 q
        refine g_iconst 0 dX9_laidSet_143 (by decide) ?_
        refine g_istore [some (sR 62), some (sI x1), some (sI x2), some (sI x3), some (sI x6), some (sI 0), some (sI x6)] dX9_laidSet_144 (by decide) rfl ?_
        refine g_iinc (x6 + 1) [some (sR 62), some (sI x1), some (sI x2), some (sI x3), some (sI x6), some (sI 0), some (sI (x6 + 1))] dX9_laidSet_146 rfl rfl (by decide) rfl ?_
        refine g_goto 83 dX9_laidSet_149 (by decide) ?_
        exact sG.loc (s_le_s (s_le_s (s_le_s (s_le_s (s_le_s (s_le_s (s_le_s s_le_0))))))) h
      · have h := h.2 q
        refine g_iload_n dX9_laidSet_116 rfl ?_
        refine g_iload dX9_laidSet_117 rfl ?_
        refine g_ishr dX9_laidSet_119 ?_
        refine g_iconst 1 dX9_laidSet_120 (by decide) ?_
        refine g_iand dX9_laidSet_121 ?_
        refine g_if_eq 139 dX9_laidSet_122 (by decide) (fun q => ?_) (fun q => ?_)
        · have h := h.1 q
          refine g_iconst 1 dX9_laidSet_139 (by decide) ?_
          refine g_goto 144 dX9_laidSet_140 (by decide) ?_
          refine g_istore [some (sR 62), some (sI x1), some (sI x2), some (sI x3), some (sI x6), some (sI 1), some (sI x6)] dX9_laidSet_144 (by decide) rfl ?_
          refine g_iinc (x6 + 1) [some (sR 62), some (sI x1), some (sI x2), some (sI x3), some (sI x6), some (sI 1), some (sI (x6 + 1))] dX9_laidSet_146 rfl rfl (by decide) rfl ?_
          refine g_goto 83 dX9_laidSet_149 (by decide) ?_
          exact sG.loc (s_le_s (s_le_s (s_le_s (s_le_s (s_le_s (s_le_s (s_le_s s_le_0))))))) h
        · have h := h.2 q
          refine g_aload_n dX9_laidSet_125 rfl ?_
          refine g_getr (r2 := 63) dX9_laidSet_126 fX9_7 rfl rfl ?_
          refine g_iconst 2 dX9_laidSet_129 (by decide) ?_
          refine g_iload dX9_laidSet_130 rfl ?_
          refine g_callSi (mi2 := mX9_at) (st := [sR 63]) [sI 2, sI x6] dX9_laidSet_132 lX9_88 kX9_at vX9_at rfl (Nat.le_of_ble_eq_true rfl) (Nat.le_of_ble_eq_true rfl) (Nat.le_of_ble_eq_true rfl) rfl ?_
          refine sG.mono h (kI_mono fun r1 μ1 h => ?_)
          obtain ⟨v1, h⟩ := h
          refine h_iald (μ1.1 63 r1.toNatClampNeg) dX9_laidSet_135 rfl rfl v1 rfl ?_
          refine g_if_ne 143 dX9_laidSet_136 (by decide) (fun q => ?_) (fun q => ?_)
          · have h := h.1 q
            refine g_iconst 0 dX9_laidSet_143 (by decide) ?_
            refine g_istore [some (sR 62), some (sI x1), some (sI x2), some (sI x3), some (sI x6), some (sI 0), some (sI x6)] dX9_laidSet_144 (by decide) rfl ?_
            refine g_iinc (x6 + 1) [some (sR 62), some (sI x1), some (sI x2), some (sI x3), some (sI x6), some (sI 0), some (sI (x6 + 1))] dX9_laidSet_146 rfl rfl (by decide) rfl ?_
            refine g_goto 83 dX9_laidSet_149 (by decide) ?_
            exact sG.loc (s_le_s (s_le_s (s_le_s (s_le_s (s_le_s (s_le_s (s_le_s s_le_0))))))) h
          · have h := h.2 q
            refine g_iconst 1 dX9_laidSet_139 (by decide) ?_
            refine g_goto 144 dX9_laidSet_140 (by decide) ?_
            refine g_istore [some (sR 62), some (sI x1), some (sI x2), some (sI x3), some (sI x6), some (sI 1), some (sI x6)] dX9_laidSet_144 (by decide) rfl ?_
            refine g_iinc (x6 + 1) [some (sR 62), some (sI x1), some (sI x2), some (sI x3), some (sI x6), some (sI 1), some (sI (x6 + 1))] dX9_laidSet_146 rfl rfl (by decide) rfl ?_
            refine g_goto 83 dX9_laidSet_149 (by decide) ?_
            exact sG.loc (s_le_s (s_le_s (s_le_s (s_le_s (s_le_s (s_le_s (s_le_s s_le_0))))))) h
set_option maxRecDepth 20000 in
theorem eX9_areApart {d : Nat} {Q : Option sAV → sM → Prop} {μ : sM} (h : sCl sLL mX9_findAlone d [sR 62] μ (kV fun μ1 => sG sLL mX9_areApart (d + 1) Q 8 [some (sR 62), some (sI 1), some (sI 0), none] [] μ1)) : sCl sLL mX9_areApart (d + 1) [sR 62] μ Q := by
  refine sG.loc (al2 := [some (sR 62), none, none, none]) (s_le_s (s_le_p (s_le_p (s_le_p s_le_0)))) ?_
  refine g_aload_n dX9_areApart_0 rfl ?_
  refine g_callVv (mi2 := mX9_findAlone) (r := 62) (st := []) [] dX9_areApart_1 lX9_240 kX9_findAlone vX9_findAlone rfl rfl rfl (Nat.le_of_ble_eq_true rfl) (Nat.le_of_ble_eq_true rfl) (Nat.le_of_ble_eq_true rfl) rfl ?_
  refine sG.mono h (kV_mono fun μ1 h => ?_)
  refine g_iconst 1 dX9_areApart_4 (by decide) ?_
  refine g_istore_n [some (sR 62), some (sI 1), none, none] dX9_areApart_5 rfl (by decide) rfl ?_
  refine g_iconst 0 dX9_areApart_6 (by decide) ?_
  refine g_istore_n [some (sR 62), some (sI 1), some (sI 0), none] dX9_areApart_7 rfl (by decide) rfl ?_
  exact sG.loc (s_le_s (s_le_s (s_le_s (s_le_n s_le_0)))) h
set_option maxRecDepth 20000 in
theorem sX9_areApart_8 {d : Nat} {Q : Option sAV → sM → Prop} {μ : sM} {x1 : Int32} {x2 : Int32} (h : ((4 ≤ x2 → ((x1 = 0 ∨ x1 = 1) ∧ Q (some (sI x1)) μ)) ∧ (¬ 4 ≤ x2 → sG sLL mX9_areApart (d + 1) Q 17 [some (sR 62), some (sI x1), some (sI x2), some (sI (x2 + 1))] [] μ))) : sG sLL mX9_areApart (d + 1) Q 8 [some (sR 62), some (sI x1), some (sI x2), none] [] μ := by
  refine g_iload_n dX9_areApart_8 rfl ?_
  refine g_iconst 4 dX9_areApart_9 (by decide) ?_
  refine g_icmp_ge 75 dX9_areApart_10 (by decide) (fun q => ?_) (fun q => ?_)
  · have h := h.1 q
    refine g_iload_n dX9_areApart_75 rfl ?_
    obtain ⟨hb, h⟩ := h
    exact g_iret dX9_areApart_76 rfl (s_nb hb) h
  · have h := h.2 q
    refine g_iload_n dX9_areApart_13 rfl ?_
    refine g_iconst 1 dX9_areApart_14 (by decide) ?_
    refine g_iadd dX9_areApart_15 ?_
    refine g_istore_n [some (sR 62), some (sI x1), some (sI x2), some (sI (x2 + 1))] dX9_areApart_16 rfl (by decide) rfl ?_
    exact sG.loc (s_le_s (s_le_s (s_le_s (s_le_s s_le_0)))) h
set_option maxRecDepth 20000 in
theorem sX9_areApart_17 {d : Nat} {Q : Option sAV → sM → Prop} {μ : sM} {x1 : Int32} {x2 : Int32} {x3 : Int32} (h : ((4 ≤ x3 → sG sLL mX9_areApart (d + 1) Q 8 [some (sR 62), some (sI x1), some (sI (x2 + 1)), none] [] μ) ∧ (¬ 4 ≤ x3 → ((x1 = 0 → sG sLL mX9_areApart (d + 1) Q 17 [some (sR 62), some (sI 0), some (sI x2), some (sI (x3 + 1))] [] μ) ∧ (¬ x1 = 0 → sCl sLL mX9_isThere d [sR 62, sI x2] μ (kI fun r1 μ1 => ((r1 = 0 → sG sLL mX9_areApart (d + 1) Q 17 [some (sR 62), some (sI 1), some (sI x2), some (sI (x3 + 1))] [] μ1) ∧ (¬ r1 = 0 → sCl sLL mX9_isThere d [sR 62, sI x3] μ1 (kI fun r2 μ2 => ((r2 = 0 → sG sLL mX9_areApart (d + 1) Q 17 [some (sR 62), some (sI 1), some (sI x2), some (sI (x3 + 1))] [] μ2) ∧ (¬ r2 = 0 → (vp_in x2 4 ∧ (vp_in x3 4 ∧ (((μ2.1 82 x2.toNatClampNeg) = (μ2.1 82 x3.toNatClampNeg) → sG sLL mX9_areApart (d + 1) Q 17 [some (sR 62), some (sI 0), some (sI x2), some (sI (x3 + 1))] [] μ2) ∧ (¬ (μ2.1 82 x2.toNatClampNeg) = (μ2.1 82 x3.toNatClampNeg) → sG sLL mX9_areApart (d + 1) Q 17 [some (sR 62), some (sI 1), some (sI x2), some (sI (x3 + 1))] [] μ2))))))))))))))) : sG sLL mX9_areApart (d + 1) Q 17 [some (sR 62), some (sI x1), some (sI x2), some (sI x3)] [] μ := by
  refine g_iload_n dX9_areApart_17 rfl ?_
  refine g_iconst 4 dX9_areApart_18 (by decide) ?_
  refine g_icmp_ge 69 dX9_areApart_19 (by decide) (fun q => ?_) (fun q => ?_)
  · have h := h.1 q
    refine g_iinc (x2 + 1) [some (sR 62), some (sI x1), some (sI (x2 + 1)), some (sI x3)] dX9_areApart_69 rfl rfl (by decide) rfl ?_
    refine g_goto 8 dX9_areApart_72 (by decide) ?_
    exact sG.loc (s_le_s (s_le_s (s_le_s (s_le_n s_le_0)))) h
  · have h := h.2 q
    refine g_iload_n dX9_areApart_22 rfl ?_
    refine g_if_eq 61 dX9_areApart_23 (by decide) (fun q => ?_) (fun q => ?_)
    · have h := h.1 q
      refine g_iconst 0 dX9_areApart_61 (by decide) ?_
      refine g_istore_n [some (sR 62), some (sI 0), some (sI x2), some (sI x3)] dX9_areApart_62 rfl (by decide) rfl ?_
      refine g_iinc (x3 + 1) [some (sR 62), some (sI 0), some (sI x2), some (sI (x3 + 1))] dX9_areApart_63 rfl rfl (by decide) rfl ?_
      refine g_goto 17 dX9_areApart_66 (by decide) ?_
      exact sG.loc (s_le_s (s_le_s (s_le_s (s_le_s s_le_0)))) h
    · have h := h.2 q
      refine g_aload_n dX9_areApart_26 rfl ?_
      refine g_iload_n dX9_areApart_27 rfl ?_
      refine g_callVi (mi2 := mX9_isThere) (r := 62) (st := []) [sI x2] dX9_areApart_28 lX9_113 kX9_isThere vX9_isThere rfl rfl rfl (Nat.le_of_ble_eq_true rfl) (Nat.le_of_ble_eq_true rfl) (Nat.le_of_ble_eq_true rfl) rfl ?_
      refine sG.mono h (kI_mono fun r1 μ1 h => ?_)
      refine g_if_eq 57 dX9_areApart_31 (by decide) (fun q => ?_) (fun q => ?_)
      · have h := h.1 q
        refine g_iconst 1 dX9_areApart_57 (by decide) ?_
        refine g_goto 62 dX9_areApart_58 (by decide) ?_
        refine g_istore_n [some (sR 62), some (sI 1), some (sI x2), some (sI x3)] dX9_areApart_62 rfl (by decide) rfl ?_
        refine g_iinc (x3 + 1) [some (sR 62), some (sI 1), some (sI x2), some (sI (x3 + 1))] dX9_areApart_63 rfl rfl (by decide) rfl ?_
        refine g_goto 17 dX9_areApart_66 (by decide) ?_
        exact sG.loc (s_le_s (s_le_s (s_le_s (s_le_s s_le_0)))) h
      · have h := h.2 q
        refine g_aload_n dX9_areApart_34 rfl ?_
        refine g_iload_n dX9_areApart_35 rfl ?_
        refine g_callVi (mi2 := mX9_isThere) (r := 62) (st := []) [sI x3] dX9_areApart_36 lX9_113 kX9_isThere vX9_isThere rfl rfl rfl (Nat.le_of_ble_eq_true rfl) (Nat.le_of_ble_eq_true rfl) (Nat.le_of_ble_eq_true rfl) rfl ?_
        refine sG.mono h (kI_mono fun r2 μ2 h => ?_)
        refine g_if_eq 57 dX9_areApart_39 (by decide) (fun q => ?_) (fun q => ?_)
        · have h := h.1 q
          refine g_iconst 1 dX9_areApart_57 (by decide) ?_
          refine g_goto 62 dX9_areApart_58 (by decide) ?_
          refine g_istore_n [some (sR 62), some (sI 1), some (sI x2), some (sI x3)] dX9_areApart_62 rfl (by decide) rfl ?_
          refine g_iinc (x3 + 1) [some (sR 62), some (sI 1), some (sI x2), some (sI (x3 + 1))] dX9_areApart_63 rfl rfl (by decide) rfl ?_
          refine g_goto 17 dX9_areApart_66 (by decide) ?_
          exact sG.loc (s_le_s (s_le_s (s_le_s (s_le_s s_le_0)))) h
        · have h := h.2 q
          refine g_aload_n dX9_areApart_42 rfl ?_
          refine g_getr (r2 := 82) dX9_areApart_43 fX9_67 rfl rfl ?_
          refine g_iload_n dX9_areApart_46 rfl ?_
          obtain ⟨v1, h⟩ := h
          refine h_iald (μ2.1 82 x2.toNatClampNeg) dX9_areApart_47 rfl rfl v1 rfl ?_
          refine g_aload_n dX9_areApart_48 rfl ?_
          refine g_getr (r2 := 82) dX9_areApart_49 fX9_67 rfl rfl ?_
          refine g_iload_n dX9_areApart_52 rfl ?_
          obtain ⟨v2, h⟩ := h
          refine h_iald (μ2.1 82 x3.toNatClampNeg) dX9_areApart_53 rfl rfl v2 rfl ?_
          refine g_icmp_eq 61 dX9_areApart_54 (by decide) (fun q => ?_) (fun q => ?_)
          · have h := h.1 q
            refine g_iconst 0 dX9_areApart_61 (by decide) ?_
            refine g_istore_n [some (sR 62), some (sI 0), some (sI x2), some (sI x3)] dX9_areApart_62 rfl (by decide) rfl ?_
            refine g_iinc (x3 + 1) [some (sR 62), some (sI 0), some (sI x2), some (sI (x3 + 1))] dX9_areApart_63 rfl rfl (by decide) rfl ?_
            refine g_goto 17 dX9_areApart_66 (by decide) ?_
            exact sG.loc (s_le_s (s_le_s (s_le_s (s_le_s s_le_0)))) h
          · have h := h.2 q
            refine g_iconst 1 dX9_areApart_57 (by decide) ?_
            refine g_goto 62 dX9_areApart_58 (by decide) ?_
            refine g_istore_n [some (sR 62), some (sI 1), some (sI x2), some (sI x3)] dX9_areApart_62 rfl (by decide) rfl ?_
            refine g_iinc (x3 + 1) [some (sR 62), some (sI 1), some (sI x2), some (sI (x3 + 1))] dX9_areApart_63 rfl rfl (by decide) rfl ?_
            refine g_goto 17 dX9_areApart_66 (by decide) ?_
            exact sG.loc (s_le_s (s_le_s (s_le_s (s_le_s s_le_0)))) h
set_option maxRecDepth 20000 in
theorem eX9_canBeLaid {d : Nat} {Q : Option sAV → sM → Prop} {μ : sM} {a1 : Int32} {a2 : Int32} (h : (vp_in a1 7 ∧ (vp_in a2 7 ∧ sG sLL mX9_canBeLaid (d + 1) Q 21 [some (sR 62), some (sI a1), some (sI a2), some (sI (μ.1 71 a1.toNatClampNeg)), some (sI (μ.1 71 a2.toNatClampNeg)), some (sI 0), some (sI 0)] [] μ))) : sCl sLL mX9_canBeLaid (d + 1) [sR 62, sI a1, sI a2] μ Q := by
  refine sG.loc (al2 := [some (sR 62), some (sI a1), some (sI a2), none, none, none, none]) (s_le_s (s_le_s (s_le_s (s_le_p (s_le_p (s_le_p (s_le_p s_le_0))))))) ?_
  refine g_aload_n dX9_canBeLaid_0 rfl ?_
  refine g_getr (r2 := 71) dX9_canBeLaid_1 fX9_34 rfl rfl ?_
  refine g_iload_n dX9_canBeLaid_4 rfl ?_
  obtain ⟨v1, h⟩ := h
  refine h_iald (μ.1 71 a1.toNatClampNeg) dX9_canBeLaid_5 rfl rfl v1 rfl ?_
  refine g_istore_n [some (sR 62), some (sI a1), some (sI a2), some (sI (μ.1 71 a1.toNatClampNeg)), none, none, none] dX9_canBeLaid_6 rfl (by decide) rfl ?_
  refine g_aload_n dX9_canBeLaid_7 rfl ?_
  refine g_getr (r2 := 71) dX9_canBeLaid_8 fX9_34 rfl rfl ?_
  refine g_iload_n dX9_canBeLaid_11 rfl ?_
  obtain ⟨v2, h⟩ := h
  refine h_iald (μ.1 71 a2.toNatClampNeg) dX9_canBeLaid_12 rfl rfl v2 rfl ?_
  refine g_istore [some (sR 62), some (sI a1), some (sI a2), some (sI (μ.1 71 a1.toNatClampNeg)), some (sI (μ.1 71 a2.toNatClampNeg)), none, none] dX9_canBeLaid_13 (by decide) rfl ?_
  refine g_iconst 0 dX9_canBeLaid_15 (by decide) ?_
  refine g_istore [some (sR 62), some (sI a1), some (sI a2), some (sI (μ.1 71 a1.toNatClampNeg)), some (sI (μ.1 71 a2.toNatClampNeg)), some (sI 0), none] dX9_canBeLaid_16 (by decide) rfl ?_
  refine g_iconst 0 dX9_canBeLaid_18 (by decide) ?_
  refine g_istore [some (sR 62), some (sI a1), some (sI a2), some (sI (μ.1 71 a1.toNatClampNeg)), some (sI (μ.1 71 a2.toNatClampNeg)), some (sI 0), some (sI 0)] dX9_canBeLaid_19 (by decide) rfl ?_
  exact sG.loc (s_le_s (s_le_s (s_le_s (s_le_s (s_le_s (s_le_s (s_le_s s_le_0))))))) h
set_option maxRecDepth 20000 in
theorem sX9_canBeLaid_21 {d : Nat} {Q : Option sAV → sM → Prop} {μ : sM} {x1 : Int32} {x2 : Int32} {x3 : Int32} {x4 : Int32} {x5 : Int32} {x6 : Int32} (h : ((100 ≤ x6 → (vp_in x1 7 ∧ (vp_in x2 7 ∧ sCl sLL mX9_putBack d [sR 62] (s_u (s_u μ 71 (x1.toNatClampNeg) x3) 71 (x2.toNatClampNeg) x4) (kV fun μ1 => ((x5 = 0 ∨ x5 = 1) ∧ Q (some (sI x5)) μ1))))) ∧ (¬ 100 ≤ x6 → ((¬ x5 = 0 → (vp_in x1 7 ∧ (vp_in x2 7 ∧ sCl sLL mX9_putBack d [sR 62] (s_u (s_u μ 71 (x1.toNatClampNeg) x3) 71 (x2.toNatClampNeg) x4) (kV fun μ1 => ((x5 = 0 ∨ x5 = 1) ∧ Q (some (sI x5)) μ1))))) ∧ (x5 = 0 → (vp_in x2 7 ∧ (vp_in x1 7 ∧ sCl sLL mX9_areApart d [sR 62] (s_u (s_u μ 71 (x2.toNatClampNeg) (x6 / 10)) 71 (x1.toNatClampNeg) (s_rem x6 10)) (kI fun r1 μ1 => sG sLL mX9_canBeLaid (d + 1) Q 21 [some (sR 62), some (sI x1), some (sI x2), some (sI x3), some (sI x4), some (sI r1), some (sI (x6 + 1))] [] μ1)))))))) : sG sLL mX9_canBeLaid (d + 1) Q 21 [some (sR 62), some (sI x1), some (sI x2), some (sI x3), some (sI x4), some (sI x5), some (sI x6)] [] μ := by
  refine g_iload dX9_canBeLaid_21 rfl ?_
  refine g_bipush 100 dX9_canBeLaid_23 (by decide) ?_
  refine g_icmp_ge 67 dX9_canBeLaid_25 (by decide) (fun q => ?_) (fun q => ?_)
  · have h := h.1 q
    refine g_aload_n dX9_canBeLaid_67 rfl ?_
    refine g_getr (r2 := 71) dX9_canBeLaid_68 fX9_34 rfl rfl ?_
    refine g_iload_n dX9_canBeLaid_71 rfl ?_
    refine g_iload_n dX9_canBeLaid_72 rfl ?_
    obtain ⟨v1, h⟩ := h
    refine h_iast (x1.toNatClampNeg) dX9_canBeLaid_73 rfl rfl v1 rfl ?_
    refine g_aload_n dX9_canBeLaid_74 rfl ?_
    refine g_getr (r2 := 71) dX9_canBeLaid_75 fX9_34 rfl rfl ?_
    refine g_iload_n dX9_canBeLaid_78 rfl ?_
    refine g_iload dX9_canBeLaid_79 rfl ?_
    obtain ⟨v2, h⟩ := h
    refine h_iast (x2.toNatClampNeg) dX9_canBeLaid_81 rfl rfl v2 rfl ?_
    refine g_aload_n dX9_canBeLaid_82 rfl ?_
    refine g_callVv (mi2 := mX9_putBack) (r := 62) (st := []) [] dX9_canBeLaid_83 lX9_175 kX9_putBack vX9_putBack rfl rfl rfl (Nat.le_of_ble_eq_true rfl) (Nat.le_of_ble_eq_true rfl) (Nat.le_of_ble_eq_true rfl) rfl ?_
    refine sG.mono h (kV_mono fun μ1 h => ?_)
    refine g_iload dX9_canBeLaid_86 rfl ?_
    obtain ⟨hb, h⟩ := h
    exact g_iret dX9_canBeLaid_88 rfl (s_nb hb) h
  · have h := h.2 q
    refine g_iload dX9_canBeLaid_28 rfl ?_
    refine g_if_ne 67 dX9_canBeLaid_30 (by decide) (fun q => ?_) (fun q => ?_)
    · have h := h.1 q
      refine g_aload_n dX9_canBeLaid_67 rfl ?_
      refine g_getr (r2 := 71) dX9_canBeLaid_68 fX9_34 rfl rfl ?_
      refine g_iload_n dX9_canBeLaid_71 rfl ?_
      refine g_iload_n dX9_canBeLaid_72 rfl ?_
      obtain ⟨v1, h⟩ := h
      refine h_iast (x1.toNatClampNeg) dX9_canBeLaid_73 rfl rfl v1 rfl ?_
      refine g_aload_n dX9_canBeLaid_74 rfl ?_
      refine g_getr (r2 := 71) dX9_canBeLaid_75 fX9_34 rfl rfl ?_
      refine g_iload_n dX9_canBeLaid_78 rfl ?_
      refine g_iload dX9_canBeLaid_79 rfl ?_
      obtain ⟨v2, h⟩ := h
      refine h_iast (x2.toNatClampNeg) dX9_canBeLaid_81 rfl rfl v2 rfl ?_
      refine g_aload_n dX9_canBeLaid_82 rfl ?_
      refine g_callVv (mi2 := mX9_putBack) (r := 62) (st := []) [] dX9_canBeLaid_83 lX9_175 kX9_putBack vX9_putBack rfl rfl rfl (Nat.le_of_ble_eq_true rfl) (Nat.le_of_ble_eq_true rfl) (Nat.le_of_ble_eq_true rfl) rfl ?_
      refine sG.mono h (kV_mono fun μ1 h => ?_)
      refine g_iload dX9_canBeLaid_86 rfl ?_
      obtain ⟨hb, h⟩ := h
      exact g_iret dX9_canBeLaid_88 rfl (s_nb hb) h
    · have h := h.2 q
      refine g_aload_n dX9_canBeLaid_33 rfl ?_
      refine g_getr (r2 := 71) dX9_canBeLaid_34 fX9_34 rfl rfl ?_
      refine g_iload_n dX9_canBeLaid_37 rfl ?_
      refine g_iload dX9_canBeLaid_38 rfl ?_
      refine g_bipush 10 dX9_canBeLaid_40 (by decide) ?_
      refine g_idiv dX9_canBeLaid_42 (by decide) ?_
      obtain ⟨v1, h⟩ := h
      refine h_iast (x2.toNatClampNeg) dX9_canBeLaid_43 rfl rfl v1 rfl ?_
      refine g_aload_n dX9_canBeLaid_44 rfl ?_
      refine g_getr (r2 := 71) dX9_canBeLaid_45 fX9_34 rfl rfl ?_
      refine g_iload_n dX9_canBeLaid_48 rfl ?_
      refine g_iload dX9_canBeLaid_49 rfl ?_
      refine g_bipush 10 dX9_canBeLaid_51 (by decide) ?_
      refine h_irem dX9_canBeLaid_53 (by decide) ?_
      obtain ⟨v2, h⟩ := h
      refine h_iast (x1.toNatClampNeg) dX9_canBeLaid_54 rfl rfl v2 rfl ?_
      refine g_aload_n dX9_canBeLaid_55 rfl ?_
      refine g_callVi (mi2 := mX9_areApart) (r := 62) (st := []) [] dX9_canBeLaid_56 lX9_243 kX9_areApart vX9_areApart rfl rfl rfl (Nat.le_of_ble_eq_true rfl) (Nat.le_of_ble_eq_true rfl) (Nat.le_of_ble_eq_true rfl) rfl ?_
      refine sG.mono h (kI_mono fun r1 μ1 h => ?_)
      refine g_istore [some (sR 62), some (sI x1), some (sI x2), some (sI x3), some (sI x4), some (sI r1), some (sI x6)] dX9_canBeLaid_59 (by decide) rfl ?_
      refine g_iinc (x6 + 1) [some (sR 62), some (sI x1), some (sI x2), some (sI x3), some (sI x4), some (sI r1), some (sI (x6 + 1))] dX9_canBeLaid_61 rfl rfl (by decide) rfl ?_
      refine g_goto 21 dX9_canBeLaid_64 (by decide) ?_
      exact sG.loc (s_le_s (s_le_s (s_le_s (s_le_s (s_le_s (s_le_s (s_le_s s_le_0))))))) h
set_option maxRecDepth 20000 in
theorem eX9_hide {d : Nat} {Q : Option sAV → sM → Prop} {μ : sM} (h : sCl sLL mX9_refusal d [sR 62] μ (kI fun r1 μ1 => ((r1 = (-6) → sG sLL mX9_hide (d + 1) Q 17 [some (sR 62), some (sI r1), some (sI 0), some (sI 0)] [] μ1) ∧ (¬ r1 = (-6) → Q (some (sI r1)) μ1)))) : sCl sLL mX9_hide (d + 1) [sR 62] μ Q := by
  refine sG.loc (al2 := [some (sR 62), none, none, none]) (s_le_s (s_le_p (s_le_p (s_le_p s_le_0)))) ?_
  refine g_aload_n dX9_hide_0 rfl ?_
  refine g_callVi (mi2 := mX9_refusal) (r := 62) (st := []) [] dX9_hide_1 lX9_178 kX9_refusal vX9_refusal rfl rfl rfl (Nat.le_of_ble_eq_true rfl) (Nat.le_of_ble_eq_true rfl) (Nat.le_of_ble_eq_true rfl) rfl ?_
  refine sG.mono h (kI_mono fun r1 μ1 h => ?_)
  refine g_istore_n [some (sR 62), some (sI r1), none, none] dX9_hide_4 rfl (by decide) rfl ?_
  refine g_iload_n dX9_hide_5 rfl ?_
  refine g_bipush (-6) dX9_hide_6 (by decide) ?_
  refine g_icmp_eq 13 dX9_hide_8 (by decide) (fun q => ?_) (fun q => ?_)
  · have h := h.1 q
    refine g_iconst 0 dX9_hide_13 (by decide) ?_
    refine g_istore_n [some (sR 62), some (sI r1), some (sI 0), none] dX9_hide_14 rfl (by decide) rfl ?_
    refine g_iconst 0 dX9_hide_15 (by decide) ?_
    refine g_istore_n [some (sR 62), some (sI r1), some (sI 0), some (sI 0)] dX9_hide_16 rfl (by decide) rfl ?_
    exact sG.loc (s_le_s (s_le_s (s_le_s (s_le_s s_le_0)))) h
  · have h := h.2 q
    refine g_iload_n dX9_hide_11 rfl ?_
    exact g_iret dX9_hide_12 rfl rfl h
set_option maxRecDepth 20000 in
theorem sX9_hide_17 {d : Nat} {Q : Option sAV → sM → Prop} {μ : sM} {x1 : Int32} {x2 : Int32} {x3 : Int32} (h : (((μ.1 62 0) ≤ x3 → Q (some (sI x2)) μ) ∧ (¬ (μ.1 62 0) ≤ x3 → (vp_in x3 7 ∧ sCl sLL mX9_at d [sI 3, sI x3] μ (kI fun r1 μ1 => (vp_in r1 28 ∧ (((μ.1 76 x3.toNatClampNeg) = (μ1.1 63 r1.toNatClampNeg) → sG sLL mX9_hide (d + 1) Q 17 [some (sR 62), some (sI x1), some (sI (x2 ||| 0)), some (sI (x3 + 1))] [] μ1) ∧ (¬ (μ.1 76 x3.toNatClampNeg) = (μ1.1 63 r1.toNatClampNeg) → sG sLL mX9_hide (d + 1) Q 17 [some (sR 62), some (sI x1), some (sI (x2 ||| ((1 : Int32) <<< (x3 &&& 31)))), some (sI (x3 + 1))] [] μ1)))))))) : sG sLL mX9_hide (d + 1) Q 17 [some (sR 62), some (sI x1), some (sI x2), some (sI x3)] [] μ := by
  refine g_iload_n dX9_hide_17 rfl ?_
  refine g_aload_n dX9_hide_18 rfl ?_
  refine h_geti (μ.1 62 0) dX9_hide_19 fX9_84 rfl rfl rfl ?_
  refine g_icmp_ge 60 dX9_hide_22 (by decide) (fun q => ?_) (fun q => ?_)
  · have h := h.1 q
    refine g_iload_n dX9_hide_60 rfl ?_
    exact g_iret dX9_hide_61 rfl rfl h
  · have h := h.2 q
    refine g_iload_n dX9_hide_25 rfl ?_
    refine g_aload_n dX9_hide_26 rfl ?_
    refine g_getr (r2 := 76) dX9_hide_27 fX9_49 rfl rfl ?_
    refine g_iload_n dX9_hide_30 rfl ?_
    obtain ⟨v1, h⟩ := h
    refine h_iald (μ.1 76 x3.toNatClampNeg) dX9_hide_31 rfl rfl v1 rfl ?_
    refine g_aload_n dX9_hide_32 rfl ?_
    refine g_getr (r2 := 63) dX9_hide_33 fX9_7 rfl rfl ?_
    refine g_iconst 3 dX9_hide_36 (by decide) ?_
    refine g_iload_n dX9_hide_37 rfl ?_
    refine g_callSi (mi2 := mX9_at) (st := [sR 63, sI (μ.1 76 x3.toNatClampNeg), sI x2]) [sI 3, sI x3] dX9_hide_38 lX9_88 kX9_at vX9_at rfl (Nat.le_of_ble_eq_true rfl) (Nat.le_of_ble_eq_true rfl) (Nat.le_of_ble_eq_true rfl) rfl ?_
    refine sG.mono h (kI_mono fun r1 μ1 h => ?_)
    obtain ⟨v2, h⟩ := h
    refine h_iald (μ1.1 63 r1.toNatClampNeg) dX9_hide_41 rfl rfl v2 rfl ?_
    refine g_icmp_eq 51 dX9_hide_42 (by decide) (fun q => ?_) (fun q => ?_)
    · have h := h.1 q
      refine g_iconst 0 dX9_hide_51 (by decide) ?_
      refine g_ior dX9_hide_52 ?_
      refine g_istore_n [some (sR 62), some (sI x1), some (sI (x2 ||| 0)), some (sI x3)] dX9_hide_53 rfl (by decide) rfl ?_
      refine g_iinc (x3 + 1) [some (sR 62), some (sI x1), some (sI (x2 ||| 0)), some (sI (x3 + 1))] dX9_hide_54 rfl rfl (by decide) rfl ?_
      refine g_goto 17 dX9_hide_57 (by decide) ?_
      exact sG.loc (s_le_s (s_le_s (s_le_s (s_le_s s_le_0)))) h
    · have h := h.2 q
      refine g_iconst 1 dX9_hide_45 (by decide) ?_
      refine g_iload_n dX9_hide_46 rfl ?_
      refine g_ishl dX9_hide_47 ?_
      refine g_goto 52 dX9_hide_48 (by decide) ?_
      refine g_ior dX9_hide_52 ?_
      refine g_istore_n [some (sR 62), some (sI x1), some (sI (x2 ||| ((1 : Int32) <<< (x3 &&& 31)))), some (sI x3)] dX9_hide_53 rfl (by decide) rfl ?_
      refine g_iinc (x3 + 1) [some (sR 62), some (sI x1), some (sI (x2 ||| ((1 : Int32) <<< (x3 &&& 31)))), some (sI (x3 + 1))] dX9_hide_54 rfl rfl (by decide) rfl ?_
      refine g_goto 17 dX9_hide_57 (by decide) ?_
      exact sG.loc (s_le_s (s_le_s (s_le_s (s_le_s s_le_0)))) h
set_option maxRecDepth 20000 in
theorem eX9_trace {d : Nat} {Q : Option sAV → sM → Prop} {μ : sM} (h : sCl sLL mX9_refusal d [sR 62] μ (kI fun r1 μ1 => ((r1 = (-6) → sCl sLL mX9_keepNow d [sR 62] μ1 (kV fun μ2 => sG sLL mX9_trace (d + 1) Q 22 [some (sR 62), some (sI r1), some (sI (-6)), some (sI 0), none] [] μ2)) ∧ (¬ r1 = (-6) → Q (some (sI r1)) μ1)))) : sCl sLL mX9_trace (d + 1) [sR 62] μ Q := by
  refine sG.loc (al2 := [some (sR 62), none, none, none, none]) (s_le_s (s_le_p (s_le_p (s_le_p (s_le_p s_le_0))))) ?_
  refine g_aload_n dX9_trace_0 rfl ?_
  refine g_callVi (mi2 := mX9_refusal) (r := 62) (st := []) [] dX9_trace_1 lX9_178 kX9_refusal vX9_refusal rfl rfl rfl (Nat.le_of_ble_eq_true rfl) (Nat.le_of_ble_eq_true rfl) (Nat.le_of_ble_eq_true rfl) rfl ?_
  refine sG.mono h (kI_mono fun r1 μ1 h => ?_)
  refine g_istore_n [some (sR 62), some (sI r1), none, none, none] dX9_trace_4 rfl (by decide) rfl ?_
  refine g_iload_n dX9_trace_5 rfl ?_
  refine g_bipush (-6) dX9_trace_6 (by decide) ?_
  refine g_icmp_eq 13 dX9_trace_8 (by decide) (fun q => ?_) (fun q => ?_)
  · have h := h.1 q
    refine g_aload_n dX9_trace_13 rfl ?_
    refine g_callVv (mi2 := mX9_keepNow) (r := 62) (st := []) [] dX9_trace_14 lX9_169 kX9_keepNow vX9_keepNow rfl rfl rfl (Nat.le_of_ble_eq_true rfl) (Nat.le_of_ble_eq_true rfl) (Nat.le_of_ble_eq_true rfl) rfl ?_
    refine sG.mono h (kV_mono fun μ2 h => ?_)
    refine g_bipush (-6) dX9_trace_17 (by decide) ?_
    refine g_istore_n [some (sR 62), some (sI r1), some (sI (-6)), none, none] dX9_trace_19 rfl (by decide) rfl ?_
    refine g_iconst 0 dX9_trace_20 (by decide) ?_
    refine g_istore_n [some (sR 62), some (sI r1), some (sI (-6)), some (sI 0), none] dX9_trace_21 rfl (by decide) rfl ?_
    exact sG.loc (s_le_s (s_le_s (s_le_s (s_le_s (s_le_n s_le_0))))) h
  · have h := h.2 q
    refine g_iload_n dX9_trace_11 rfl ?_
    exact g_iret dX9_trace_12 rfl rfl h
set_option maxRecDepth 20000 in
theorem sX9_trace_22 {d : Nat} {Q : Option sAV → sM → Prop} {μ : sM} {x1 : Int32} {x2 : Int32} {x3 : Int32} (h : ((6 < x3 → sCl sLL mX9_putBack d [sR 62] μ (kV fun μ1 => Q (some (sI x2)) μ1)) ∧ (¬ 6 < x3 → ((0 ≤ x2 → sCl sLL mX9_putBack d [sR 62] μ (kV fun μ1 => Q (some (sI x2)) μ1)) ∧ (¬ 0 ≤ x2 → sG sLL mX9_trace (d + 1) Q 35 [some (sR 62), some (sI x1), some (sI x2), some (sI x3), some (sI 0)] [] μ))))) : sG sLL mX9_trace (d + 1) Q 22 [some (sR 62), some (sI x1), some (sI x2), some (sI x3), none] [] μ := by
  refine g_iload_n dX9_trace_22 rfl ?_
  refine g_bipush 6 dX9_trace_23 (by decide) ?_
  refine g_icmp_gt 90 dX9_trace_25 (by decide) (fun q => ?_) (fun q => ?_)
  · have h := h.1 q
    refine g_aload_n dX9_trace_90 rfl ?_
    refine g_callVv (mi2 := mX9_putBack) (r := 62) (st := []) [] dX9_trace_91 lX9_175 kX9_putBack vX9_putBack rfl rfl rfl (Nat.le_of_ble_eq_true rfl) (Nat.le_of_ble_eq_true rfl) (Nat.le_of_ble_eq_true rfl) rfl ?_
    refine sG.mono h (kV_mono fun μ1 h => ?_)
    refine g_iload_n dX9_trace_94 rfl ?_
    exact g_iret dX9_trace_95 rfl rfl h
  · have h := h.2 q
    refine g_iload_n dX9_trace_28 rfl ?_
    refine g_if_ge 90 dX9_trace_29 (by decide) (fun q => ?_) (fun q => ?_)
    · have h := h.1 q
      refine g_aload_n dX9_trace_90 rfl ?_
      refine g_callVv (mi2 := mX9_putBack) (r := 62) (st := []) [] dX9_trace_91 lX9_175 kX9_putBack vX9_putBack rfl rfl rfl (Nat.le_of_ble_eq_true rfl) (Nat.le_of_ble_eq_true rfl) (Nat.le_of_ble_eq_true rfl) rfl ?_
      refine sG.mono h (kV_mono fun μ1 h => ?_)
      refine g_iload_n dX9_trace_94 rfl ?_
      exact g_iret dX9_trace_95 rfl rfl h
    · have h := h.2 q
      refine g_iconst 0 dX9_trace_32 (by decide) ?_
      refine g_istore [some (sR 62), some (sI x1), some (sI x2), some (sI x3), some (sI 0)] dX9_trace_33 (by decide) rfl ?_
      exact sG.loc (s_le_s (s_le_s (s_le_s (s_le_s (s_le_s s_le_0))))) h
set_option maxRecDepth 20000 in
theorem sX9_trace_35 {d : Nat} {Q : Option sAV → sM → Prop} {μ : sM} {x1 : Int32} {x2 : Int32} {x3 : Int32} {x4 : Int32} (h : sCl sLL mX9_power d [sI 4, sI x3] μ (kI fun r1 μ1 => ((r1 ≤ x4 → sG sLL mX9_trace (d + 1) Q 22 [some (sR 62), some (sI x1), some (sI x2), some (sI (x3 + 1)), none] [] μ1) ∧ (¬ r1 ≤ x4 → ((0 ≤ x2 → sG sLL mX9_trace (d + 1) Q 22 [some (sR 62), some (sI x1), some (sI x2), some (sI (x3 + 1)), none] [] μ1) ∧ (¬ 0 ≤ x2 → sCl sLL mX9_layRow d [sR 62, sI x4, sI x3] μ1 (kV fun μ2 => sCl sLL mX9_canGo d [sR 62, sI x3] μ2 (kI fun r3 μ3 => ((r3 = 0 → sG sLL mX9_trace (d + 1) Q 35 [some (sR 62), some (sI x1), some (sI (-6)), some (sI x3), some (sI (x4 + 1))] [] μ3) ∧ (¬ r3 = 0 → sCl sLL mX9_isLeftSo d [sR 62] μ3 (kI fun r4 μ4 => ((r4 = 0 → sG sLL mX9_trace (d + 1) Q 35 [some (sR 62), some (sI x1), some (sI (-6)), some (sI x3), some (sI (x4 + 1))] [] μ4) ∧ (¬ r4 = 0 → sG sLL mX9_trace (d + 1) Q 35 [some (sR 62), some (sI x1), some (sI x3), some (sI x3), some (sI (x4 + 1))] [] μ4))))))))))))) : sG sLL mX9_trace (d + 1) Q 35 [some (sR 62), some (sI x1), some (sI x2), some (sI x3), some (sI x4)] [] μ := by
  refine g_iload dX9_trace_35 rfl ?_
  refine g_iconst 4 dX9_trace_37 (by decide) ?_
  refine g_iload_n dX9_trace_38 rfl ?_
  refine g_callSi (mi2 := mX9_power) (st := [sI x4]) [sI 4, sI x3] dX9_trace_39 lX9_199 kX9_power vX9_power rfl (Nat.le_of_ble_eq_true rfl) (Nat.le_of_ble_eq_true rfl) (Nat.le_of_ble_eq_true rfl) rfl ?_
  refine sG.mono h (kI_mono fun r1 μ1 h => ?_)
  refine g_icmp_ge 84 dX9_trace_42 (by decide) (fun q => ?_) (fun q => ?_)
  · have h := h.1 q
    refine g_iinc (x3 + 1) [some (sR 62), some (sI x1), some (sI x2), some (sI (x3 + 1)), some (sI x4)] dX9_trace_84 rfl rfl (by decide) rfl ?_
    refine g_goto 22 dX9_trace_87 (by decide) ?_
    exact sG.loc (s_le_s (s_le_s (s_le_s (s_le_s (s_le_n s_le_0))))) h
  · have h := h.2 q
    refine g_iload_n dX9_trace_45 rfl ?_
    refine g_if_ge 84 dX9_trace_46 (by decide) (fun q => ?_) (fun q => ?_)
    · have h := h.1 q
      refine g_iinc (x3 + 1) [some (sR 62), some (sI x1), some (sI x2), some (sI (x3 + 1)), some (sI x4)] dX9_trace_84 rfl rfl (by decide) rfl ?_
      refine g_goto 22 dX9_trace_87 (by decide) ?_
      exact sG.loc (s_le_s (s_le_s (s_le_s (s_le_s (s_le_n s_le_0))))) h
    · have h := h.2 q
      refine g_aload_n dX9_trace_49 rfl ?_
      refine g_iload dX9_trace_50 rfl ?_
      refine g_iload_n dX9_trace_52 rfl ?_
      refine g_callVv (mi2 := mX9_layRow) (r := 62) (st := []) [sI x4, sI x3] dX9_trace_53 lX9_202 kX9_layRow vX9_layRow rfl rfl rfl (Nat.le_of_ble_eq_true rfl) (Nat.le_of_ble_eq_true rfl) (Nat.le_of_ble_eq_true rfl) rfl ?_
      refine sG.mono h (kV_mono fun μ2 h => ?_)
      refine g_aload_n dX9_trace_56 rfl ?_
      refine g_iload_n dX9_trace_57 rfl ?_
      refine g_callVi (mi2 := mX9_canGo) (r := 62) (st := []) [sI x3] dX9_trace_58 lX9_205 kX9_canGo vX9_canGo rfl rfl rfl (Nat.le_of_ble_eq_true rfl) (Nat.le_of_ble_eq_true rfl) (Nat.le_of_ble_eq_true rfl) rfl ?_
      refine sG.mono h (kI_mono fun r3 μ3 h => ?_)
      refine g_if_eq 75 dX9_trace_61 (by decide) (fun q => ?_) (fun q => ?_)
      · have h := h.1 q
        refine g_bipush (-6) dX9_trace_75 (by decide) ?_
        refine g_istore_n [some (sR 62), some (sI x1), some (sI (-6)), some (sI x3), some (sI x4)] dX9_trace_77 rfl (by decide) rfl ?_
        refine g_iinc (x4 + 1) [some (sR 62), some (sI x1), some (sI (-6)), some (sI x3), some (sI (x4 + 1))] dX9_trace_78 rfl rfl (by decide) rfl ?_
        refine g_goto 35 dX9_trace_81 (by decide) ?_
        exact sG.loc (s_le_s (s_le_s (s_le_s (s_le_s (s_le_s s_le_0))))) h
      · have h := h.2 q
        refine g_aload_n dX9_trace_64 rfl ?_
        refine g_callVi (mi2 := mX9_isLeftSo) (r := 62) (st := []) [] dX9_trace_65 lX9_253 kX9_isLeftSo vX9_isLeftSo rfl rfl rfl (Nat.le_of_ble_eq_true rfl) (Nat.le_of_ble_eq_true rfl) (Nat.le_of_ble_eq_true rfl) rfl ?_
        refine sG.mono h (kI_mono fun r4 μ4 h => ?_)
        refine g_if_eq 75 dX9_trace_68 (by decide) (fun q => ?_) (fun q => ?_)
        · have h := h.1 q
          refine g_bipush (-6) dX9_trace_75 (by decide) ?_
          refine g_istore_n [some (sR 62), some (sI x1), some (sI (-6)), some (sI x3), some (sI x4)] dX9_trace_77 rfl (by decide) rfl ?_
          refine g_iinc (x4 + 1) [some (sR 62), some (sI x1), some (sI (-6)), some (sI x3), some (sI (x4 + 1))] dX9_trace_78 rfl rfl (by decide) rfl ?_
          refine g_goto 35 dX9_trace_81 (by decide) ?_
          exact sG.loc (s_le_s (s_le_s (s_le_s (s_le_s (s_le_s s_le_0))))) h
        · have h := h.2 q
          refine g_iload_n dX9_trace_71 rfl ?_
          refine g_goto 77 dX9_trace_72 (by decide) ?_
          refine g_istore_n [some (sR 62), some (sI x1), some (sI x3), some (sI x3), some (sI x4)] dX9_trace_77 rfl (by decide) rfl ?_
          refine g_iinc (x4 + 1) [some (sR 62), some (sI x1), some (sI x3), some (sI x3), some (sI (x4 + 1))] dX9_trace_78 rfl rfl (by decide) rfl ?_
          refine g_goto 35 dX9_trace_81 (by decide) ?_
          exact sG.loc (s_le_s (s_le_s (s_le_s (s_le_s (s_le_s s_le_0))))) h
set_option maxRecDepth 20000 in
theorem eX9_isLeftSo {d : Nat} {Q : Option sAV → sM → Prop} {μ : sM} (h : sG sLL mX9_isLeftSo (d + 1) Q 4 [some (sR 62), some (sI 1), some (sI 0)] [] μ) : sCl sLL mX9_isLeftSo (d + 1) [sR 62] μ Q := by
  refine sG.loc (al2 := [some (sR 62), none, none]) (s_le_s (s_le_p (s_le_p s_le_0))) ?_
  refine g_iconst 1 dX9_isLeftSo_0 (by decide) ?_
  refine g_istore_n [some (sR 62), some (sI 1), none] dX9_isLeftSo_1 rfl (by decide) rfl ?_
  refine g_iconst 0 dX9_isLeftSo_2 (by decide) ?_
  refine g_istore_n [some (sR 62), some (sI 1), some (sI 0)] dX9_isLeftSo_3 rfl (by decide) rfl ?_
  exact sG.loc (s_le_s (s_le_s (s_le_s s_le_0))) h
set_option maxRecDepth 20000 in
theorem sX9_isLeftSo_4 {d : Nat} {Q : Option sAV → sM → Prop} {μ : sM} {x1 : Int32} {x2 : Int32} (h : (((μ.1 62 0) ≤ x2 → ((x1 = 0 ∨ x1 = 1) ∧ Q (some (sI x1)) μ)) ∧ (¬ (μ.1 62 0) ≤ x2 → ((x1 = 0 → sG sLL mX9_isLeftSo (d + 1) Q 4 [some (sR 62), some (sI 0), some (sI (x2 + 1))] [] μ) ∧ (¬ x1 = 0 → sCl sLL mX9_at d [sI 3, sI x2] μ (kI fun r1 μ1 => (vp_in r1 28 ∧ (vp_in x2 7 ∧ ((¬ (μ1.1 63 r1.toNatClampNeg) = (μ1.1 76 x2.toNatClampNeg) → sG sLL mX9_isLeftSo (d + 1) Q 4 [some (sR 62), some (sI 0), some (sI (x2 + 1))] [] μ1) ∧ ((μ1.1 63 r1.toNatClampNeg) = (μ1.1 76 x2.toNatClampNeg) → sG sLL mX9_isLeftSo (d + 1) Q 4 [some (sR 62), some (sI 1), some (sI (x2 + 1))] [] μ1)))))))))) : sG sLL mX9_isLeftSo (d + 1) Q 4 [some (sR 62), some (sI x1), some (sI x2)] [] μ := by
  refine g_iload_n dX9_isLeftSo_4 rfl ?_
  refine g_aload_n dX9_isLeftSo_5 rfl ?_
  refine h_geti (μ.1 62 0) dX9_isLeftSo_6 fX9_84 rfl rfl rfl ?_
  refine g_icmp_ge 47 dX9_isLeftSo_9 (by decide) (fun q => ?_) (fun q => ?_)
  · have h := h.1 q
    refine g_iload_n dX9_isLeftSo_47 rfl ?_
    obtain ⟨hb, h⟩ := h
    exact g_iret dX9_isLeftSo_48 rfl (s_nb hb) h
  · have h := h.2 q
    refine g_iload_n dX9_isLeftSo_12 rfl ?_
    refine g_if_eq 39 dX9_isLeftSo_13 (by decide) (fun q => ?_) (fun q => ?_)
    · have h := h.1 q
      refine g_iconst 0 dX9_isLeftSo_39 (by decide) ?_
      refine g_istore_n [some (sR 62), some (sI 0), some (sI x2)] dX9_isLeftSo_40 rfl (by decide) rfl ?_
      refine g_iinc (x2 + 1) [some (sR 62), some (sI 0), some (sI (x2 + 1))] dX9_isLeftSo_41 rfl rfl (by decide) rfl ?_
      refine g_goto 4 dX9_isLeftSo_44 (by decide) ?_
      exact sG.loc (s_le_s (s_le_s (s_le_s s_le_0))) h
    · have h := h.2 q
      refine g_aload_n dX9_isLeftSo_16 rfl ?_
      refine g_getr (r2 := 63) dX9_isLeftSo_17 fX9_7 rfl rfl ?_
      refine g_iconst 3 dX9_isLeftSo_20 (by decide) ?_
      refine g_iload_n dX9_isLeftSo_21 rfl ?_
      refine g_callSi (mi2 := mX9_at) (st := [sR 63]) [sI 3, sI x2] dX9_isLeftSo_22 lX9_88 kX9_at vX9_at rfl (Nat.le_of_ble_eq_true rfl) (Nat.le_of_ble_eq_true rfl) (Nat.le_of_ble_eq_true rfl) rfl ?_
      refine sG.mono h (kI_mono fun r1 μ1 h => ?_)
      obtain ⟨v1, h⟩ := h
      refine h_iald (μ1.1 63 r1.toNatClampNeg) dX9_isLeftSo_25 rfl rfl v1 rfl ?_
      refine g_aload_n dX9_isLeftSo_26 rfl ?_
      refine g_getr (r2 := 76) dX9_isLeftSo_27 fX9_49 rfl rfl ?_
      refine g_iload_n dX9_isLeftSo_30 rfl ?_
      obtain ⟨v2, h⟩ := h
      refine h_iald (μ1.1 76 x2.toNatClampNeg) dX9_isLeftSo_31 rfl rfl v2 rfl ?_
      refine g_icmp_ne 39 dX9_isLeftSo_32 (by decide) (fun q => ?_) (fun q => ?_)
      · have h := h.1 q
        refine g_iconst 0 dX9_isLeftSo_39 (by decide) ?_
        refine g_istore_n [some (sR 62), some (sI 0), some (sI x2)] dX9_isLeftSo_40 rfl (by decide) rfl ?_
        refine g_iinc (x2 + 1) [some (sR 62), some (sI 0), some (sI (x2 + 1))] dX9_isLeftSo_41 rfl rfl (by decide) rfl ?_
        refine g_goto 4 dX9_isLeftSo_44 (by decide) ?_
        exact sG.loc (s_le_s (s_le_s (s_le_s s_le_0))) h
      · have h := h.2 q
        refine g_iconst 1 dX9_isLeftSo_35 (by decide) ?_
        refine g_goto 40 dX9_isLeftSo_36 (by decide) ?_
        refine g_istore_n [some (sR 62), some (sI 1), some (sI x2)] dX9_isLeftSo_40 rfl (by decide) rfl ?_
        refine g_iinc (x2 + 1) [some (sR 62), some (sI 1), some (sI (x2 + 1))] dX9_isLeftSo_41 rfl rfl (by decide) rfl ?_
        refine g_goto 4 dX9_isLeftSo_44 (by decide) ?_
        exact sG.loc (s_le_s (s_le_s (s_le_s s_le_0))) h
set_option maxRecDepth 20000 in
theorem eX9_lock {d : Nat} {Q : Option sAV → sM → Prop} {μ : sM} {a1 : Int32} {a2 : Int32} (h : ((a1 = (-1) → sCl sLL mX9_in d [sL a2.toInt64, sL 0, sL 5] μ (kI fun r1 μ1 => ((¬ r1 = 0 → sCl sLL mX9_keepNow d [sR 62] μ1 (kV fun μ2 => ((0 ≤ a1 → sCl sLL mX9_at d [sI 2, sI a1] μ2 (kI fun r3 μ3 => (vp_in r3 28 ∧ ((0 ≤ a1 → sG sLL mX9_lock (d + 1) Q 78 [some (sR 62), some (sI a1), some (sI a2), some (sI r3), some (sI (μ3.1 63 r3.toNatClampNeg)), some (sI 0), some (sI 0), none, none, none] [] (s_u μ3 63 (r3.toNatClampNeg) 1)) ∧ (¬ 0 ≤ a1 → sG sLL mX9_lock (d + 1) Q 78 [some (sR 62), some (sI a1), some (sI a2), some (sI r3), some (sI (μ3.1 63 r3.toNatClampNeg)), some (sI 0), some (sI 0), none, none, none] [] (s_u μ3 63 (r3.toNatClampNeg) (μ3.1 63 r3.toNatClampNeg))))))) ∧ (¬ 0 ≤ a1 → ((0 ≤ a1 → sG sLL mX9_lock (d + 1) Q 78 [some (sR 62), some (sI a1), some (sI a2), some (sI 0), some (sI (μ2.1 63 0)), some (sI 0), some (sI 0), none, none, none] [] (s_u μ2 63 0 1)) ∧ (¬ 0 ≤ a1 → sG sLL mX9_lock (d + 1) Q 78 [some (sR 62), some (sI a1), some (sI a2), some (sI 0), some (sI (μ2.1 63 0)), some (sI 0), some (sI 0), none, none, none] [] (s_u μ2 63 0 (μ2.1 63 0)))))))) ∧ (r1 = 0 → Q (some (sI (-2))) μ1)))) ∧ (¬ a1 = (-1) → sCl sLL mX9_isThing d [sR 62, sI a1] μ (kI fun r1 μ1 => ((¬ r1 = 0 → sCl sLL mX9_in d [sL a2.toInt64, sL 0, sL 5] μ1 (kI fun r2 μ2 => ((¬ r2 = 0 → sCl sLL mX9_keepNow d [sR 62] μ2 (kV fun μ3 => ((0 ≤ a1 → sCl sLL mX9_at d [sI 2, sI a1] μ3 (kI fun r4 μ4 => (vp_in r4 28 ∧ ((0 ≤ a1 → sG sLL mX9_lock (d + 1) Q 78 [some (sR 62), some (sI a1), some (sI a2), some (sI r4), some (sI (μ4.1 63 r4.toNatClampNeg)), some (sI 0), some (sI 0), none, none, none] [] (s_u μ4 63 (r4.toNatClampNeg) 1)) ∧ (¬ 0 ≤ a1 → sG sLL mX9_lock (d + 1) Q 78 [some (sR 62), some (sI a1), some (sI a2), some (sI r4), some (sI (μ4.1 63 r4.toNatClampNeg)), some (sI 0), some (sI 0), none, none, none] [] (s_u μ4 63 (r4.toNatClampNeg) (μ4.1 63 r4.toNatClampNeg))))))) ∧ (¬ 0 ≤ a1 → ((0 ≤ a1 → sG sLL mX9_lock (d + 1) Q 78 [some (sR 62), some (sI a1), some (sI a2), some (sI 0), some (sI (μ3.1 63 0)), some (sI 0), some (sI 0), none, none, none] [] (s_u μ3 63 0 1)) ∧ (¬ 0 ≤ a1 → sG sLL mX9_lock (d + 1) Q 78 [some (sR 62), some (sI a1), some (sI a2), some (sI 0), some (sI (μ3.1 63 0)), some (sI 0), some (sI 0), none, none, none] [] (s_u μ3 63 0 (μ3.1 63 0)))))))) ∧ (r2 = 0 → Q (some (sI (-2))) μ2)))) ∧ (r1 = 0 → Q (some (sI (-1))) μ1)))))) : sCl sLL mX9_lock (d + 1) [sR 62, sI a1, sI a2] μ Q := by
  refine sG.loc (al2 := [some (sR 62), some (sI a1), some (sI a2), none, none, none, none, none, none, none]) (s_le_s (s_le_s (s_le_s (s_le_p (s_le_p (s_le_p (s_le_p (s_le_p (s_le_p (s_le_p s_le_0)))))))))) ?_
  refine g_iload_n dX9_lock_0 rfl ?_
  refine g_iconst (-1) dX9_lock_1 (by decide) ?_
  refine g_icmp_eq 15 dX9_lock_2 (by decide) (fun q => ?_) (fun q => ?_)
  · have h := h.1 q
    refine g_iload_n dX9_lock_15 rfl ?_
    refine g_i2l dX9_lock_16 ?_
    refine g_lconst 0 dX9_lock_17 (by decide) ?_
    refine g_ldc2 dX9_lock_18 qX9_256 ?_
    refine g_callSi (mi2 := mX9_in) (st := []) [sL a2.toInt64, sL 0, sL 5] dX9_lock_21 lX9_92 kX9_in vX9_in rfl (Nat.le_of_ble_eq_true rfl) (Nat.le_of_ble_eq_true rfl) (Nat.le_of_ble_eq_true rfl) rfl ?_
    refine sG.mono h (kI_mono fun r1 μ1 h => ?_)
    refine g_if_ne 30 dX9_lock_24 (by decide) (fun q => ?_) (fun q => ?_)
    · have h := h.1 q
      refine g_aload_n dX9_lock_30 rfl ?_
      refine g_callVv (mi2 := mX9_keepNow) (r := 62) (st := []) [] dX9_lock_31 lX9_169 kX9_keepNow vX9_keepNow rfl rfl rfl (Nat.le_of_ble_eq_true rfl) (Nat.le_of_ble_eq_true rfl) (Nat.le_of_ble_eq_true rfl) rfl ?_
      refine sG.mono h (kV_mono fun μ2 h => ?_)
      refine g_iload_n dX9_lock_34 rfl ?_
      refine g_if_ge 42 dX9_lock_35 (by decide) (fun q => ?_) (fun q => ?_)
      · have h := h.1 q
        refine g_iconst 2 dX9_lock_42 (by decide) ?_
        refine g_iload_n dX9_lock_43 rfl ?_
        refine g_callSi (mi2 := mX9_at) (st := []) [sI 2, sI a1] dX9_lock_44 lX9_88 kX9_at vX9_at rfl (Nat.le_of_ble_eq_true rfl) (Nat.le_of_ble_eq_true rfl) (Nat.le_of_ble_eq_true rfl) rfl ?_
        refine sG.mono h (kI_mono fun r3 μ3 h => ?_)
        refine g_istore_n [some (sR 62), some (sI a1), some (sI a2), some (sI r3), none, none, none, none, none, none] dX9_lock_47 rfl (by decide) rfl ?_
        refine g_aload_n dX9_lock_48 rfl ?_
        refine g_getr (r2 := 63) dX9_lock_49 fX9_7 rfl rfl ?_
        refine g_iload_n dX9_lock_52 rfl ?_
        obtain ⟨v1, h⟩ := h
        refine h_iald (μ3.1 63 r3.toNatClampNeg) dX9_lock_53 rfl rfl v1 rfl ?_
        refine g_istore [some (sR 62), some (sI a1), some (sI a2), some (sI r3), some (sI (μ3.1 63 r3.toNatClampNeg)), none, none, none, none, none] dX9_lock_54 (by decide) rfl ?_
        refine g_aload_n dX9_lock_56 rfl ?_
        refine g_getr (r2 := 63) dX9_lock_57 fX9_7 rfl rfl ?_
        refine g_iload_n dX9_lock_60 rfl ?_
        refine g_iload_n dX9_lock_61 rfl ?_
        refine g_if_ge 70 dX9_lock_62 (by decide) (fun q => ?_) (fun q => ?_)
        · have h := h.1 q
          refine g_iconst 1 dX9_lock_70 (by decide) ?_
          refine h_iast (r3.toNatClampNeg) dX9_lock_71 rfl rfl v1 rfl ?_
          refine g_iconst 0 dX9_lock_72 (by decide) ?_
          refine g_istore [some (sR 62), some (sI a1), some (sI a2), some (sI r3), some (sI (μ3.1 63 r3.toNatClampNeg)), some (sI 0), none, none, none, none] dX9_lock_73 (by decide) rfl ?_
          refine g_iconst 0 dX9_lock_75 (by decide) ?_
          refine g_istore [some (sR 62), some (sI a1), some (sI a2), some (sI r3), some (sI (μ3.1 63 r3.toNatClampNeg)), some (sI 0), some (sI 0), none, none, none] dX9_lock_76 (by decide) rfl ?_
          exact sG.loc (s_le_s (s_le_s (s_le_s (s_le_s (s_le_s (s_le_s (s_le_s (s_le_n (s_le_n (s_le_n s_le_0)))))))))) h
        · have h := h.2 q
          refine g_iload dX9_lock_65 rfl ?_
          refine g_goto 71 dX9_lock_67 (by decide) ?_
          refine h_iast (r3.toNatClampNeg) dX9_lock_71 rfl rfl v1 rfl ?_
          refine g_iconst 0 dX9_lock_72 (by decide) ?_
          refine g_istore [some (sR 62), some (sI a1), some (sI a2), some (sI r3), some (sI (μ3.1 63 r3.toNatClampNeg)), some (sI 0), none, none, none, none] dX9_lock_73 (by decide) rfl ?_
          refine g_iconst 0 dX9_lock_75 (by decide) ?_
          refine g_istore [some (sR 62), some (sI a1), some (sI a2), some (sI r3), some (sI (μ3.1 63 r3.toNatClampNeg)), some (sI 0), some (sI 0), none, none, none] dX9_lock_76 (by decide) rfl ?_
          exact sG.loc (s_le_s (s_le_s (s_le_s (s_le_s (s_le_s (s_le_s (s_le_s (s_le_n (s_le_n (s_le_n s_le_0)))))))))) h
      · have h := h.2 q
        refine g_iconst 0 dX9_lock_38 (by decide) ?_
        refine g_goto 47 dX9_lock_39 (by decide) ?_
        refine g_istore_n [some (sR 62), some (sI a1), some (sI a2), some (sI 0), none, none, none, none, none, none] dX9_lock_47 rfl (by decide) rfl ?_
        refine g_aload_n dX9_lock_48 rfl ?_
        refine g_getr (r2 := 63) dX9_lock_49 fX9_7 rfl rfl ?_
        refine g_iload_n dX9_lock_52 rfl ?_
        refine h_iald (μ2.1 63 0) dX9_lock_53 rfl rfl (by unfold vp_in; decide +kernel) rfl ?_
        refine g_istore [some (sR 62), some (sI a1), some (sI a2), some (sI 0), some (sI (μ2.1 63 0)), none, none, none, none, none] dX9_lock_54 (by decide) rfl ?_
        refine g_aload_n dX9_lock_56 rfl ?_
        refine g_getr (r2 := 63) dX9_lock_57 fX9_7 rfl rfl ?_
        refine g_iload_n dX9_lock_60 rfl ?_
        refine g_iload_n dX9_lock_61 rfl ?_
        refine g_if_ge 70 dX9_lock_62 (by decide) (fun q => ?_) (fun q => ?_)
        · have h := h.1 q
          refine g_iconst 1 dX9_lock_70 (by decide) ?_
          refine h_iast 0 dX9_lock_71 rfl rfl (by unfold vp_in; decide +kernel) rfl ?_
          refine g_iconst 0 dX9_lock_72 (by decide) ?_
          refine g_istore [some (sR 62), some (sI a1), some (sI a2), some (sI 0), some (sI (μ2.1 63 0)), some (sI 0), none, none, none, none] dX9_lock_73 (by decide) rfl ?_
          refine g_iconst 0 dX9_lock_75 (by decide) ?_
          refine g_istore [some (sR 62), some (sI a1), some (sI a2), some (sI 0), some (sI (μ2.1 63 0)), some (sI 0), some (sI 0), none, none, none] dX9_lock_76 (by decide) rfl ?_
          exact sG.loc (s_le_s (s_le_s (s_le_s (s_le_s (s_le_s (s_le_s (s_le_s (s_le_n (s_le_n (s_le_n s_le_0)))))))))) h
        · have h := h.2 q
          refine g_iload dX9_lock_65 rfl ?_
          refine g_goto 71 dX9_lock_67 (by decide) ?_
          refine h_iast 0 dX9_lock_71 rfl rfl (by unfold vp_in; decide +kernel) rfl ?_
          refine g_iconst 0 dX9_lock_72 (by decide) ?_
          refine g_istore [some (sR 62), some (sI a1), some (sI a2), some (sI 0), some (sI (μ2.1 63 0)), some (sI 0), none, none, none, none] dX9_lock_73 (by decide) rfl ?_
          refine g_iconst 0 dX9_lock_75 (by decide) ?_
          refine g_istore [some (sR 62), some (sI a1), some (sI a2), some (sI 0), some (sI (μ2.1 63 0)), some (sI 0), some (sI 0), none, none, none] dX9_lock_76 (by decide) rfl ?_
          exact sG.loc (s_le_s (s_le_s (s_le_s (s_le_s (s_le_s (s_le_s (s_le_s (s_le_n (s_le_n (s_le_n s_le_0)))))))))) h
    · have h := h.2 q
      refine g_bipush (-2) dX9_lock_27 (by decide) ?_
      exact g_iret dX9_lock_29 rfl rfl h
  · have h := h.2 q
    refine g_aload_n dX9_lock_5 rfl ?_
    refine g_iload_n dX9_lock_6 rfl ?_
    refine g_callVi (mi2 := mX9_isThing) (r := 62) (st := []) [sI a1] dX9_lock_7 lX9_103 kX9_isThing vX9_isThing rfl rfl rfl (Nat.le_of_ble_eq_true rfl) (Nat.le_of_ble_eq_true rfl) (Nat.le_of_ble_eq_true rfl) rfl ?_
    refine sG.mono h (kI_mono fun r1 μ1 h => ?_)
    refine g_if_ne 15 dX9_lock_10 (by decide) (fun q => ?_) (fun q => ?_)
    · have h := h.1 q
      refine g_iload_n dX9_lock_15 rfl ?_
      refine g_i2l dX9_lock_16 ?_
      refine g_lconst 0 dX9_lock_17 (by decide) ?_
      refine g_ldc2 dX9_lock_18 qX9_256 ?_
      refine g_callSi (mi2 := mX9_in) (st := []) [sL a2.toInt64, sL 0, sL 5] dX9_lock_21 lX9_92 kX9_in vX9_in rfl (Nat.le_of_ble_eq_true rfl) (Nat.le_of_ble_eq_true rfl) (Nat.le_of_ble_eq_true rfl) rfl ?_
      refine sG.mono h (kI_mono fun r2 μ2 h => ?_)
      refine g_if_ne 30 dX9_lock_24 (by decide) (fun q => ?_) (fun q => ?_)
      · have h := h.1 q
        refine g_aload_n dX9_lock_30 rfl ?_
        refine g_callVv (mi2 := mX9_keepNow) (r := 62) (st := []) [] dX9_lock_31 lX9_169 kX9_keepNow vX9_keepNow rfl rfl rfl (Nat.le_of_ble_eq_true rfl) (Nat.le_of_ble_eq_true rfl) (Nat.le_of_ble_eq_true rfl) rfl ?_
        refine sG.mono h (kV_mono fun μ3 h => ?_)
        refine g_iload_n dX9_lock_34 rfl ?_
        refine g_if_ge 42 dX9_lock_35 (by decide) (fun q => ?_) (fun q => ?_)
        · have h := h.1 q
          refine g_iconst 2 dX9_lock_42 (by decide) ?_
          refine g_iload_n dX9_lock_43 rfl ?_
          refine g_callSi (mi2 := mX9_at) (st := []) [sI 2, sI a1] dX9_lock_44 lX9_88 kX9_at vX9_at rfl (Nat.le_of_ble_eq_true rfl) (Nat.le_of_ble_eq_true rfl) (Nat.le_of_ble_eq_true rfl) rfl ?_
          refine sG.mono h (kI_mono fun r4 μ4 h => ?_)
          refine g_istore_n [some (sR 62), some (sI a1), some (sI a2), some (sI r4), none, none, none, none, none, none] dX9_lock_47 rfl (by decide) rfl ?_
          refine g_aload_n dX9_lock_48 rfl ?_
          refine g_getr (r2 := 63) dX9_lock_49 fX9_7 rfl rfl ?_
          refine g_iload_n dX9_lock_52 rfl ?_
          obtain ⟨v1, h⟩ := h
          refine h_iald (μ4.1 63 r4.toNatClampNeg) dX9_lock_53 rfl rfl v1 rfl ?_
          refine g_istore [some (sR 62), some (sI a1), some (sI a2), some (sI r4), some (sI (μ4.1 63 r4.toNatClampNeg)), none, none, none, none, none] dX9_lock_54 (by decide) rfl ?_
          refine g_aload_n dX9_lock_56 rfl ?_
          refine g_getr (r2 := 63) dX9_lock_57 fX9_7 rfl rfl ?_
          refine g_iload_n dX9_lock_60 rfl ?_
          refine g_iload_n dX9_lock_61 rfl ?_
          refine g_if_ge 70 dX9_lock_62 (by decide) (fun q => ?_) (fun q => ?_)
          · have h := h.1 q
            refine g_iconst 1 dX9_lock_70 (by decide) ?_
            refine h_iast (r4.toNatClampNeg) dX9_lock_71 rfl rfl v1 rfl ?_
            refine g_iconst 0 dX9_lock_72 (by decide) ?_
            refine g_istore [some (sR 62), some (sI a1), some (sI a2), some (sI r4), some (sI (μ4.1 63 r4.toNatClampNeg)), some (sI 0), none, none, none, none] dX9_lock_73 (by decide) rfl ?_
            refine g_iconst 0 dX9_lock_75 (by decide) ?_
            refine g_istore [some (sR 62), some (sI a1), some (sI a2), some (sI r4), some (sI (μ4.1 63 r4.toNatClampNeg)), some (sI 0), some (sI 0), none, none, none] dX9_lock_76 (by decide) rfl ?_
            exact sG.loc (s_le_s (s_le_s (s_le_s (s_le_s (s_le_s (s_le_s (s_le_s (s_le_n (s_le_n (s_le_n s_le_0)))))))))) h
          · have h := h.2 q
            refine g_iload dX9_lock_65 rfl ?_
            refine g_goto 71 dX9_lock_67 (by decide) ?_
            refine h_iast (r4.toNatClampNeg) dX9_lock_71 rfl rfl v1 rfl ?_
            refine g_iconst 0 dX9_lock_72 (by decide) ?_
            refine g_istore [some (sR 62), some (sI a1), some (sI a2), some (sI r4), some (sI (μ4.1 63 r4.toNatClampNeg)), some (sI 0), none, none, none, none] dX9_lock_73 (by decide) rfl ?_
            refine g_iconst 0 dX9_lock_75 (by decide) ?_
            refine g_istore [some (sR 62), some (sI a1), some (sI a2), some (sI r4), some (sI (μ4.1 63 r4.toNatClampNeg)), some (sI 0), some (sI 0), none, none, none] dX9_lock_76 (by decide) rfl ?_
            exact sG.loc (s_le_s (s_le_s (s_le_s (s_le_s (s_le_s (s_le_s (s_le_s (s_le_n (s_le_n (s_le_n s_le_0)))))))))) h
        · have h := h.2 q
          refine g_iconst 0 dX9_lock_38 (by decide) ?_
          refine g_goto 47 dX9_lock_39 (by decide) ?_
          refine g_istore_n [some (sR 62), some (sI a1), some (sI a2), some (sI 0), none, none, none, none, none, none] dX9_lock_47 rfl (by decide) rfl ?_
          refine g_aload_n dX9_lock_48 rfl ?_
          refine g_getr (r2 := 63) dX9_lock_49 fX9_7 rfl rfl ?_
          refine g_iload_n dX9_lock_52 rfl ?_
          refine h_iald (μ3.1 63 0) dX9_lock_53 rfl rfl (by unfold vp_in; decide +kernel) rfl ?_
          refine g_istore [some (sR 62), some (sI a1), some (sI a2), some (sI 0), some (sI (μ3.1 63 0)), none, none, none, none, none] dX9_lock_54 (by decide) rfl ?_
          refine g_aload_n dX9_lock_56 rfl ?_
          refine g_getr (r2 := 63) dX9_lock_57 fX9_7 rfl rfl ?_
          refine g_iload_n dX9_lock_60 rfl ?_
          refine g_iload_n dX9_lock_61 rfl ?_
          refine g_if_ge 70 dX9_lock_62 (by decide) (fun q => ?_) (fun q => ?_)
          · have h := h.1 q
            refine g_iconst 1 dX9_lock_70 (by decide) ?_
            refine h_iast 0 dX9_lock_71 rfl rfl (by unfold vp_in; decide +kernel) rfl ?_
            refine g_iconst 0 dX9_lock_72 (by decide) ?_
            refine g_istore [some (sR 62), some (sI a1), some (sI a2), some (sI 0), some (sI (μ3.1 63 0)), some (sI 0), none, none, none, none] dX9_lock_73 (by decide) rfl ?_
            refine g_iconst 0 dX9_lock_75 (by decide) ?_
            refine g_istore [some (sR 62), some (sI a1), some (sI a2), some (sI 0), some (sI (μ3.1 63 0)), some (sI 0), some (sI 0), none, none, none] dX9_lock_76 (by decide) rfl ?_
            exact sG.loc (s_le_s (s_le_s (s_le_s (s_le_s (s_le_s (s_le_s (s_le_s (s_le_n (s_le_n (s_le_n s_le_0)))))))))) h
          · have h := h.2 q
            refine g_iload dX9_lock_65 rfl ?_
            refine g_goto 71 dX9_lock_67 (by decide) ?_
            refine h_iast 0 dX9_lock_71 rfl rfl (by unfold vp_in; decide +kernel) rfl ?_
            refine g_iconst 0 dX9_lock_72 (by decide) ?_
            refine g_istore [some (sR 62), some (sI a1), some (sI a2), some (sI 0), some (sI (μ3.1 63 0)), some (sI 0), none, none, none, none] dX9_lock_73 (by decide) rfl ?_
            refine g_iconst 0 dX9_lock_75 (by decide) ?_
            refine g_istore [some (sR 62), some (sI a1), some (sI a2), some (sI 0), some (sI (μ3.1 63 0)), some (sI 0), some (sI 0), none, none, none] dX9_lock_76 (by decide) rfl ?_
            exact sG.loc (s_le_s (s_le_s (s_le_s (s_le_s (s_le_s (s_le_s (s_le_s (s_le_n (s_le_n (s_le_n s_le_0)))))))))) h
      · have h := h.2 q
        refine g_bipush (-2) dX9_lock_27 (by decide) ?_
        exact g_iret dX9_lock_29 rfl rfl h
    · have h := h.2 q
      refine g_iconst (-1) dX9_lock_13 (by decide) ?_
      exact g_iret dX9_lock_14 rfl rfl h
set_option maxRecDepth 20000 in
theorem sX9_lock_78 {d : Nat} {Q : Option sAV → sM → Prop} {μ : sM} {x1 : Int32} {x2 : Int32} {x3 : Int32} {x4 : Int32} {x5 : Int32} {x6 : Int32} (h : sCl sLL mX9_power d [sI 4, sI x2] μ (kI fun r1 μ1 => ((r1 ≤ x6 → (vp_in x3 28 ∧ sCl sLL mX9_putBack d [sR 62] (s_u μ1 63 (x3.toNatClampNeg) x4) (kV fun μ2 => Q (some (sI x5)) μ2))) ∧ (¬ r1 ≤ x6 → sCl sLL mX9_layRow d [sR 62, sI x6, sI x2] μ1 (kV fun μ2 => sCl sLL mX9_canGo d [sR 62, sI x2] μ2 (kI fun r3 μ3 => ((r3 = 0 → sG sLL mX9_lock (d + 1) Q 78 [some (sR 62), some (sI x1), some (sI x2), some (sI x3), some (sI x4), some (sI x5), some (sI (x6 + 1)), none, none, none] [] μ3) ∧ (¬ r3 = 0 → sCl sLL mX9_tableNow d [sR 62] μ3 (kI fun r4 μ4 => sG sLL mX9_lock (d + 1) Q 115 [some (sR 62), some (sI x1), some (sI x2), some (sI x3), some (sI x4), some (sI x5), some (sI x6), some (sI r4), some (sI 0), some (sI 0)] [] μ4))))))))) : sG sLL mX9_lock (d + 1) Q 78 [some (sR 62), some (sI x1), some (sI x2), some (sI x3), some (sI x4), some (sI x5), some (sI x6), none, none, none] [] μ := by
  refine g_iload dX9_lock_78 rfl ?_
  refine g_iconst 4 dX9_lock_80 (by decide) ?_
  refine g_iload_n dX9_lock_81 rfl ?_
  refine g_callSi (mi2 := mX9_power) (st := [sI x6]) [sI 4, sI x2] dX9_lock_82 lX9_199 kX9_power vX9_power rfl (Nat.le_of_ble_eq_true rfl) (Nat.le_of_ble_eq_true rfl) (Nat.le_of_ble_eq_true rfl) rfl ?_
  refine sG.mono h (kI_mono fun r1 μ1 h => ?_)
  refine g_icmp_ge 182 dX9_lock_85 (by decide) (fun q => ?_) (fun q => ?_)
  · have h := h.1 q
    refine g_aload_n dX9_lock_182 rfl ?_
    refine g_getr (r2 := 63) dX9_lock_183 fX9_7 rfl rfl ?_
    refine g_iload_n dX9_lock_186 rfl ?_
    refine g_iload dX9_lock_187 rfl ?_
    obtain ⟨v1, h⟩ := h
    refine h_iast (x3.toNatClampNeg) dX9_lock_189 rfl rfl v1 rfl ?_
    refine g_aload_n dX9_lock_190 rfl ?_
    refine g_callVv (mi2 := mX9_putBack) (r := 62) (st := []) [] dX9_lock_191 lX9_175 kX9_putBack vX9_putBack rfl rfl rfl (Nat.le_of_ble_eq_true rfl) (Nat.le_of_ble_eq_true rfl) (Nat.le_of_ble_eq_true rfl) rfl ?_
    refine sG.mono h (kV_mono fun μ2 h => ?_)
    refine g_iload dX9_lock_194 rfl ?_
    exact g_iret dX9_lock_196 rfl rfl h
  · have h := h.2 q
    refine g_aload_n dX9_lock_88 rfl ?_
    refine g_iload dX9_lock_89 rfl ?_
    refine g_iload_n dX9_lock_91 rfl ?_
    refine g_callVv (mi2 := mX9_layRow) (r := 62) (st := []) [sI x6, sI x2] dX9_lock_92 lX9_202 kX9_layRow vX9_layRow rfl rfl rfl (Nat.le_of_ble_eq_true rfl) (Nat.le_of_ble_eq_true rfl) (Nat.le_of_ble_eq_true rfl) rfl ?_
    refine sG.mono h (kV_mono fun μ2 h => ?_)
    refine g_aload_n dX9_lock_95 rfl ?_
    refine g_iload_n dX9_lock_96 rfl ?_
    refine g_callVi (mi2 := mX9_canGo) (r := 62) (st := []) [sI x2] dX9_lock_97 lX9_205 kX9_canGo vX9_canGo rfl rfl rfl (Nat.le_of_ble_eq_true rfl) (Nat.le_of_ble_eq_true rfl) (Nat.le_of_ble_eq_true rfl) rfl ?_
    refine sG.mono h (kI_mono fun r3 μ3 h => ?_)
    refine g_if_eq 176 dX9_lock_100 (by decide) (fun q => ?_) (fun q => ?_)
    · have h := h.1 q
      refine g_iinc (x6 + 1) [some (sR 62), some (sI x1), some (sI x2), some (sI x3), some (sI x4), some (sI x5), some (sI (x6 + 1)), none, none, none] dX9_lock_176 rfl rfl (by decide) rfl ?_
      refine g_goto 78 dX9_lock_179 (by decide) ?_
      exact sG.loc (s_le_s (s_le_s (s_le_s (s_le_s (s_le_s (s_le_s (s_le_s (s_le_n (s_le_n (s_le_n s_le_0)))))))))) h
    · have h := h.2 q
      refine g_aload_n dX9_lock_103 rfl ?_
      refine g_callVi (mi2 := mX9_tableNow) (r := 62) (st := []) [] dX9_lock_104 lX9_237 kX9_tableNow vX9_tableNow rfl rfl rfl (Nat.le_of_ble_eq_true rfl) (Nat.le_of_ble_eq_true rfl) (Nat.le_of_ble_eq_true rfl) rfl ?_
      refine sG.mono h (kI_mono fun r4 μ4 h => ?_)
      refine g_istore [some (sR 62), some (sI x1), some (sI x2), some (sI x3), some (sI x4), some (sI x5), some (sI x6), some (sI r4), none, none] dX9_lock_107 (by decide) rfl ?_
      refine g_iconst 0 dX9_lock_109 (by decide) ?_
      refine g_istore [some (sR 62), some (sI x1), some (sI x2), some (sI x3), some (sI x4), some (sI x5), some (sI x6), some (sI r4), some (sI 0), none] dX9_lock_110 (by decide) rfl ?_
      refine g_iconst 0 dX9_lock_112 (by decide) ?_
      refine g_istore [some (sR 62), some (sI x1), some (sI x2), some (sI x3), some (sI x4), some (sI x5), some (sI x6), some (sI r4), some (sI 0), some (sI 0)] dX9_lock_113 (by decide) rfl ?_
      exact sG.loc (s_le_s (s_le_s (s_le_s (s_le_s (s_le_s (s_le_s (s_le_s (s_le_s (s_le_s (s_le_s s_le_0)))))))))) h
set_option maxRecDepth 20000 in
theorem sX9_lock_115 {d : Nat} {Q : Option sAV → sM → Prop} {μ : sM} {x1 : Int32} {x2 : Int32} {x3 : Int32} {x4 : Int32} {x5 : Int32} {x6 : Int32} {x7 : Int32} {x8 : Int32} {x9 : Int32} (h : ((x5 ≤ x9 → (vp_in x5 1024 ∧ ((x8 = 0 → sG sLL mX9_lock (d + 1) Q 78 [some (sR 62), some (sI x1), some (sI x2), some (sI x3), some (sI x4), some (sI (x5 + 1)), some (sI (x6 + 1)), none, none, none] [] (s_u μ 83 (x5.toNatClampNeg) x7)) ∧ (¬ x8 = 0 → sG sLL mX9_lock (d + 1) Q 78 [some (sR 62), some (sI x1), some (sI x2), some (sI x3), some (sI x4), some (sI (x5 + 0)), some (sI (x6 + 1)), none, none, none] [] (s_u μ 83 (x5.toNatClampNeg) x7))))) ∧ (¬ x5 ≤ x9 → ((¬ x8 = 0 → sG sLL mX9_lock (d + 1) Q 115 [some (sR 62), some (sI x1), some (sI x2), some (sI x3), some (sI x4), some (sI x5), some (sI x6), some (sI x7), some (sI 1), some (sI (x9 + 1))] [] μ) ∧ (x8 = 0 → (vp_in x9 1024 ∧ ((¬ (μ.1 83 x9.toNatClampNeg) = x7 → sG sLL mX9_lock (d + 1) Q 115 [some (sR 62), some (sI x1), some (sI x2), some (sI x3), some (sI x4), some (sI x5), some (sI x6), some (sI x7), some (sI 0), some (sI (x9 + 1))] [] μ) ∧ ((μ.1 83 x9.toNatClampNeg) = x7 → sG sLL mX9_lock (d + 1) Q 115 [some (sR 62), some (sI x1), some (sI x2), some (sI x3), some (sI x4), some (sI x5), some (sI x6), some (sI x7), some (sI 1), some (sI (x9 + 1))] [] μ)))))))) : sG sLL mX9_lock (d + 1) Q 115 [some (sR 62), some (sI x1), some (sI x2), some (sI x3), some (sI x4), some (sI x5), some (sI x6), some (sI x7), some (sI x8), some (sI x9)] [] μ := by
  refine g_iload dX9_lock_115 rfl ?_
  refine g_iload dX9_lock_117 rfl ?_
  refine g_icmp_ge 152 dX9_lock_119 (by decide) (fun q => ?_) (fun q => ?_)
  · have h := h.1 q
    refine g_aload_n dX9_lock_152 rfl ?_
    refine g_getr (r2 := 83) dX9_lock_153 fX9_70 rfl rfl ?_
    refine g_iload dX9_lock_156 rfl ?_
    refine g_iload dX9_lock_158 rfl ?_
    obtain ⟨v1, h⟩ := h
    refine h_iast (x5.toNatClampNeg) dX9_lock_160 rfl rfl v1 rfl ?_
    refine g_iload dX9_lock_161 rfl ?_
    refine g_iload dX9_lock_163 rfl ?_
    refine g_if_eq 172 dX9_lock_165 (by decide) (fun q => ?_) (fun q => ?_)
    · have h := h.1 q
      refine g_iconst 1 dX9_lock_172 (by decide) ?_
      refine g_iadd dX9_lock_173 ?_
      refine g_istore [some (sR 62), some (sI x1), some (sI x2), some (sI x3), some (sI x4), some (sI (x5 + 1)), some (sI x6), some (sI x7), some (sI x8), some (sI x9)] dX9_lock_174 (by decide) rfl ?_
      refine g_iinc (x6 + 1) [some (sR 62), some (sI x1), some (sI x2), some (sI x3), some (sI x4), some (sI (x5 + 1)), some (sI (x6 + 1)), some (sI x7), some (sI x8), some (sI x9)] dX9_lock_176 rfl rfl (by decide) rfl ?_
      refine g_goto 78 dX9_lock_179 (by decide) ?_
      exact sG.loc (s_le_s (s_le_s (s_le_s (s_le_s (s_le_s (s_le_s (s_le_s (s_le_n (s_le_n (s_le_n s_le_0)))))))))) h
    · have h := h.2 q
      refine g_iconst 0 dX9_lock_168 (by decide) ?_
      refine g_goto 173 dX9_lock_169 (by decide) ?_
      refine g_iadd dX9_lock_173 ?_
      refine g_istore [some (sR 62), some (sI x1), some (sI x2), some (sI x3), some (sI x4), some (sI (x5 + 0)), some (sI x6), some (sI x7), some (sI x8), some (sI x9)] dX9_lock_174 (by decide) rfl ?_
      refine g_iinc (x6 + 1) [some (sR 62), some (sI x1), some (sI x2), some (sI x3), some (sI x4), some (sI (x5 + 0)), some (sI (x6 + 1)), some (sI x7), some (sI x8), some (sI x9)] dX9_lock_176 rfl rfl (by decide) rfl ?_
      refine g_goto 78 dX9_lock_179 (by decide) ?_
      exact sG.loc (s_le_s (s_le_s (s_le_s (s_le_s (s_le_s (s_le_s (s_le_s (s_le_n (s_le_n (s_le_n s_le_0)))))))))) h
  · have h := h.2 q
    refine g_iload dX9_lock_122 rfl ?_
    refine g_if_ne 139 dX9_lock_124 (by decide) (fun q => ?_) (fun q => ?_)
    · have h := h.1 q
      refine g_iconst 1 dX9_lock_139 (by decide) ?_
      refine g_goto 144 dX9_lock_140 (by decide) ?_
      refine g_istore [some (sR 62), some (sI x1), some (sI x2), some (sI x3), some (sI x4), some (sI x5), some (sI x6), some (sI x7), some (sI 1), some (sI x9)] dX9_lock_144 (by decide) rfl ?_
      refine g_iinc (x9 + 1) [some (sR 62), some (sI x1), some (sI x2), some (sI x3), some (sI x4), some (sI x5), some (sI x6), some (sI x7), some (sI 1), some (sI (x9 + 1))] dX9_lock_146 rfl rfl (by decide) rfl ?_
      refine g_goto 115 dX9_lock_149 (by decide) ?_
      exact sG.loc (s_le_s (s_le_s (s_le_s (s_le_s (s_le_s (s_le_s (s_le_s (s_le_s (s_le_s (s_le_s s_le_0)))))))))) h
    · have h := h.2 q
      refine g_aload_n dX9_lock_127 rfl ?_
      refine g_getr (r2 := 83) dX9_lock_128 fX9_70 rfl rfl ?_
      refine g_iload dX9_lock_131 rfl ?_
      obtain ⟨v1, h⟩ := h
      refine h_iald (μ.1 83 x9.toNatClampNeg) dX9_lock_133 rfl rfl v1 rfl ?_
      refine g_iload dX9_lock_134 rfl ?_
      refine g_icmp_ne 143 dX9_lock_136 (by decide) (fun q => ?_) (fun q => ?_)
      · have h := h.1 q
        refine g_iconst 0 dX9_lock_143 (by decide) ?_
        refine g_istore [some (sR 62), some (sI x1), some (sI x2), some (sI x3), some (sI x4), some (sI x5), some (sI x6), some (sI x7), some (sI 0), some (sI x9)] dX9_lock_144 (by decide) rfl ?_
        refine g_iinc (x9 + 1) [some (sR 62), some (sI x1), some (sI x2), some (sI x3), some (sI x4), some (sI x5), some (sI x6), some (sI x7), some (sI 0), some (sI (x9 + 1))] dX9_lock_146 rfl rfl (by decide) rfl ?_
        refine g_goto 115 dX9_lock_149 (by decide) ?_
        exact sG.loc (s_le_s (s_le_s (s_le_s (s_le_s (s_le_s (s_le_s (s_le_s (s_le_s (s_le_s (s_le_s s_le_0)))))))))) h
      · have h := h.2 q
        refine g_iconst 1 dX9_lock_139 (by decide) ?_
        refine g_goto 144 dX9_lock_140 (by decide) ?_
        refine g_istore [some (sR 62), some (sI x1), some (sI x2), some (sI x3), some (sI x4), some (sI x5), some (sI x6), some (sI x7), some (sI 1), some (sI x9)] dX9_lock_144 (by decide) rfl ?_
        refine g_iinc (x9 + 1) [some (sR 62), some (sI x1), some (sI x2), some (sI x3), some (sI x4), some (sI x5), some (sI x6), some (sI x7), some (sI 1), some (sI (x9 + 1))] dX9_lock_146 rfl rfl (by decide) rfl ?_
        refine g_goto 115 dX9_lock_149 (by decide) ?_
        exact sG.loc (s_le_s (s_le_s (s_le_s (s_le_s (s_le_s (s_le_s (s_le_s (s_le_s (s_le_s (s_le_s s_le_0)))))))))) h
set_option maxRecDepth 20000 in
theorem eX9_year {d : Nat} {Q : Option sAV → sM → Prop} {μ : sM} {a1 : Int32} {a2 : Int32} {a3 : Int32} (h : sCl sLL mX9_in d [sL a1.toInt64, sL 0, sL 9999] μ (kI fun r1 μ1 => ((r1 = 0 → Q (some (sI (-2))) μ1) ∧ (¬ r1 = 0 → sCl sLL mX9_in d [sL a2.toInt64, sL 1, sL 60] μ1 (kI fun r2 μ2 => ((r2 = 0 → Q (some (sI (-2))) μ2) ∧ (¬ r2 = 0 → sCl sLL mX9_in d [sL a3.toInt64, sL 0, sL 2] μ2 (kI fun r3 μ3 => ((¬ r3 = 0 → sCl sLL mX9_keepNow d [sR 62] μ3 (kV fun μ4 => sG sLL mX9_year (d + 1) Q 60 [some (sR 62), some (sI a1), some (sI a2), some (sI a3), some (sI a1), some (sI 0), some (sI 0), some (sI 0), none, none, none, none] [] (s_u μ4 62 12 0))) ∧ (r3 = 0 → Q (some (sI (-2))) μ3)))))))))) : sCl sLL mX9_year (d + 1) [sR 62, sI a1, sI a2, sI a3] μ Q := by
  refine sG.loc (al2 := [some (sR 62), some (sI a1), some (sI a2), some (sI a3), none, none, none, none, none, none, none, none]) (s_le_s (s_le_s (s_le_s (s_le_s (s_le_p (s_le_p (s_le_p (s_le_p (s_le_p (s_le_p (s_le_p (s_le_p s_le_0)))))))))))) ?_
  refine g_iload_n dX9_year_0 rfl ?_
  refine g_i2l dX9_year_1 ?_
  refine g_lconst 0 dX9_year_2 (by decide) ?_
  refine g_ldc2 dX9_year_3 qX9_258 ?_
  refine g_callSi (mi2 := mX9_in) (st := []) [sL a1.toInt64, sL 0, sL 9999] dX9_year_6 lX9_92 kX9_in vX9_in rfl (Nat.le_of_ble_eq_true rfl) (Nat.le_of_ble_eq_true rfl) (Nat.le_of_ble_eq_true rfl) rfl ?_
  refine sG.mono h (kI_mono fun r1 μ1 h => ?_)
  refine g_if_eq 36 dX9_year_9 (by decide) (fun q => ?_) (fun q => ?_)
  · have h := h.1 q
    refine g_bipush (-2) dX9_year_36 (by decide) ?_
    exact g_iret dX9_year_38 rfl rfl h
  · have h := h.2 q
    refine g_iload_n dX9_year_12 rfl ?_
    refine g_i2l dX9_year_13 ?_
    refine g_lconst 1 dX9_year_14 (by decide) ?_
    refine g_ldc2 dX9_year_15 qX9_260 ?_
    refine g_callSi (mi2 := mX9_in) (st := []) [sL a2.toInt64, sL 1, sL 60] dX9_year_18 lX9_92 kX9_in vX9_in rfl (Nat.le_of_ble_eq_true rfl) (Nat.le_of_ble_eq_true rfl) (Nat.le_of_ble_eq_true rfl) rfl ?_
    refine sG.mono h (kI_mono fun r2 μ2 h => ?_)
    refine g_if_eq 36 dX9_year_21 (by decide) (fun q => ?_) (fun q => ?_)
    · have h := h.1 q
      refine g_bipush (-2) dX9_year_36 (by decide) ?_
      exact g_iret dX9_year_38 rfl rfl h
    · have h := h.2 q
      refine g_iload_n dX9_year_24 rfl ?_
      refine g_i2l dX9_year_25 ?_
      refine g_lconst 0 dX9_year_26 (by decide) ?_
      refine g_ldc2 dX9_year_27 qX9_262 ?_
      refine g_callSi (mi2 := mX9_in) (st := []) [sL a3.toInt64, sL 0, sL 2] dX9_year_30 lX9_92 kX9_in vX9_in rfl (Nat.le_of_ble_eq_true rfl) (Nat.le_of_ble_eq_true rfl) (Nat.le_of_ble_eq_true rfl) rfl ?_
      refine sG.mono h (kI_mono fun r3 μ3 h => ?_)
      refine g_if_ne 39 dX9_year_33 (by decide) (fun q => ?_) (fun q => ?_)
      · have h := h.1 q
        refine g_aload_n dX9_year_39 rfl ?_
        refine g_callVv (mi2 := mX9_keepNow) (r := 62) (st := []) [] dX9_year_40 lX9_169 kX9_keepNow vX9_keepNow rfl rfl rfl (Nat.le_of_ble_eq_true rfl) (Nat.le_of_ble_eq_true rfl) (Nat.le_of_ble_eq_true rfl) rfl ?_
        refine sG.mono h (kV_mono fun μ4 h => ?_)
        refine g_iload_n dX9_year_43 rfl ?_
        refine g_istore [some (sR 62), some (sI a1), some (sI a2), some (sI a3), some (sI a1), none, none, none, none, none, none, none] dX9_year_44 (by decide) rfl ?_
        refine g_aload_n dX9_year_46 rfl ?_
        refine g_iconst 0 dX9_year_47 (by decide) ?_
        refine g_puti dX9_year_48 fX9_136 rfl rfl rfl rfl ?_
        refine g_iconst 0 dX9_year_51 (by decide) ?_
        refine g_istore [some (sR 62), some (sI a1), some (sI a2), some (sI a3), some (sI a1), some (sI 0), none, none, none, none, none, none] dX9_year_52 (by decide) rfl ?_
        refine g_iconst 0 dX9_year_54 (by decide) ?_
        refine g_istore [some (sR 62), some (sI a1), some (sI a2), some (sI a3), some (sI a1), some (sI 0), some (sI 0), none, none, none, none, none] dX9_year_55 (by decide) rfl ?_
        refine g_iconst 0 dX9_year_57 (by decide) ?_
        refine g_istore [some (sR 62), some (sI a1), some (sI a2), some (sI a3), some (sI a1), some (sI 0), some (sI 0), some (sI 0), none, none, none, none] dX9_year_58 (by decide) rfl ?_
        exact sG.loc (s_le_s (s_le_s (s_le_s (s_le_s (s_le_s (s_le_s (s_le_s (s_le_s (s_le_n (s_le_n (s_le_n (s_le_n s_le_0)))))))))))) h
      · have h := h.2 q
        refine g_bipush (-2) dX9_year_36 (by decide) ?_
        exact g_iret dX9_year_38 rfl rfl h
set_option maxRecDepth 20000 in
theorem sX9_year_60 {d : Nat} {Q : Option sAV → sM → Prop} {μ : sM} {x1 : Int32} {x2 : Int32} {x3 : Int32} {x4 : Int32} {x5 : Int32} {x6 : Int32} {x7 : Int32} (h : ((x2 ≤ x7 → sCl sLL mX9_putBack d [sR 62] μ (kV fun μ1 => ((¬ x3 = 0 → ((¬ x3 = 1 → Q (some (sI x6)) μ1) ∧ (x3 = 1 → Q (some (sI x5)) μ1))) ∧ (x3 = 0 → Q (some (sI (μ1.1 62 12))) μ1)))) ∧ (¬ x2 ≤ x7 → sCl sLL mX9_putBack d [sR 62] μ (kV fun μ1 => sG sLL mX9_year (d + 1) Q 85 [some (sR 62), some (sI x1), some (sI x2), some (sI x3), some (sI x4), some (sI x5), some (sI x6), some (sI x7), some (sI (μ1.1 62 12)), some (sI 0), none, none] [] (s_u μ1 62 11 (-6)))))) : sG sLL mX9_year (d + 1) Q 60 [some (sR 62), some (sI x1), some (sI x2), some (sI x3), some (sI x4), some (sI x5), some (sI x6), some (sI x7), none, none, none, none] [] μ := by
  refine g_iload dX9_year_60 rfl ?_
  refine g_iload_n dX9_year_62 rfl ?_
  refine g_icmp_ge 196 dX9_year_63 (by decide) (fun q => ?_) (fun q => ?_)
  · have h := h.1 q
    refine g_aload_n dX9_year_196 rfl ?_
    refine g_callVv (mi2 := mX9_putBack) (r := 62) (st := []) [] dX9_year_197 lX9_175 kX9_putBack vX9_putBack rfl rfl rfl (Nat.le_of_ble_eq_true rfl) (Nat.le_of_ble_eq_true rfl) (Nat.le_of_ble_eq_true rfl) rfl ?_
    refine sG.mono h (kV_mono fun μ1 h => ?_)
    refine g_iload_n dX9_year_200 rfl ?_
    refine g_if_ne 211 dX9_year_201 (by decide) (fun q => ?_) (fun q => ?_)
    · have h := h.1 q
      refine g_iload_n dX9_year_211 rfl ?_
      refine g_iconst 1 dX9_year_212 (by decide) ?_
      refine g_icmp_ne 221 dX9_year_213 (by decide) (fun q => ?_) (fun q => ?_)
      · have h := h.1 q
        refine g_iload dX9_year_221 rfl ?_
        exact g_iret dX9_year_223 rfl rfl h
      · have h := h.2 q
        refine g_iload dX9_year_216 rfl ?_
        refine g_goto 223 dX9_year_218 (by decide) ?_
        exact g_iret dX9_year_223 rfl rfl h
    · have h := h.2 q
      refine g_aload_n dX9_year_204 rfl ?_
      refine h_geti (μ1.1 62 12) dX9_year_205 fX9_136 rfl rfl rfl ?_
      refine g_goto 223 dX9_year_208 (by decide) ?_
      exact g_iret dX9_year_223 rfl rfl h
  · have h := h.2 q
    refine g_aload_n dX9_year_66 rfl ?_
    refine g_callVv (mi2 := mX9_putBack) (r := 62) (st := []) [] dX9_year_67 lX9_175 kX9_putBack vX9_putBack rfl rfl rfl (Nat.le_of_ble_eq_true rfl) (Nat.le_of_ble_eq_true rfl) (Nat.le_of_ble_eq_true rfl) rfl ?_
    refine sG.mono h (kV_mono fun μ1 h => ?_)
    refine g_aload_n dX9_year_70 rfl ?_
    refine g_bipush (-6) dX9_year_71 (by decide) ?_
    refine g_puti dX9_year_73 fX9_127 rfl rfl rfl rfl ?_
    refine g_aload_n dX9_year_76 rfl ?_
    refine h_geti (μ1.1 62 12) dX9_year_77 fX9_136 rfl rfl rfl ?_
    refine g_istore [some (sR 62), some (sI x1), some (sI x2), some (sI x3), some (sI x4), some (sI x5), some (sI x6), some (sI x7), some (sI (μ1.1 62 12)), none, none, none] dX9_year_80 (by decide) rfl ?_
    refine g_iconst 0 dX9_year_82 (by decide) ?_
    refine g_istore [some (sR 62), some (sI x1), some (sI x2), some (sI x3), some (sI x4), some (sI x5), some (sI x6), some (sI x7), some (sI (μ1.1 62 12)), some (sI 0), none, none] dX9_year_83 (by decide) rfl ?_
    exact sG.loc (s_le_s (s_le_s (s_le_s (s_le_s (s_le_s (s_le_s (s_le_s (s_le_s (s_le_s (s_le_s (s_le_n (s_le_n s_le_0)))))))))))) h
set_option maxRecDepth 20000 in
theorem sX9_year_85 {d : Nat} {Q : Option sAV → sM → Prop} {μ : sM} {x1 : Int32} {x2 : Int32} {x3 : Int32} {x4 : Int32} {x5 : Int32} {x6 : Int32} {x7 : Int32} {x8 : Int32} {x9 : Int32} (h : ((3 ≤ x9 → ((¬ (μ.1 62 12) = x8 → sG sLL mX9_year (d + 1) Q 60 [some (sR 62), some (sI x1), some (sI x2), some (sI x3), some (sI x4), some (sI x5), some (sI (x6 + 0)), some (sI (x7 + 1)), none, none, none, none] [] μ) ∧ ((μ.1 62 12) = x8 → sG sLL mX9_year (d + 1) Q 60 [some (sR 62), some (sI x1), some (sI x2), some (sI x3), some (sI x4), some (sI x5), some (sI (x6 + 1)), some (sI (x7 + 1)), none, none, none, none] [] μ))) ∧ (¬ 3 ≤ x9 → sCl sLL mX9_isThere d [sR 62, sI (s_rem (s_lrem ((75 * x4.toInt64) + 74) 65537).toInt32 4)] μ (kI fun r1 μ1 => ((r1 = 0 → sG sLL mX9_year (d + 1) Q 85 [some (sR 62), some (sI x1), some (sI x2), some (sI x3), some (sI (s_lrem ((75 * x4.toInt64) + 74) 65537).toInt32), some (sI (x5 + 0)), some (sI x6), some (sI x7), some (sI x8), some (sI (x9 + 1)), none, none] [] μ1) ∧ (¬ r1 = 0 → sCl sLL mX9_taken d [sR 62, sI (s_rem (s_lrem ((75 * x4.toInt64) + 74) 65537).toInt32 4)] μ1 (kI fun r2 μ2 => ((r2 < 0 → ((¬ r2 = 0 → sG sLL mX9_year (d + 1) Q 85 [some (sR 62), some (sI x1), some (sI x2), some (sI x3), some (sI (s_lrem ((75 * x4.toInt64) + 74) 65537).toInt32), some (sI (x5 + 0)), some (sI x6), some (sI x7), some (sI x8), some (sI (x9 + 1)), none, none] [] μ2) ∧ (r2 = 0 → sG sLL mX9_year (d + 1) Q 85 [some (sR 62), some (sI x1), some (sI x2), some (sI x3), some (sI (s_lrem ((75 * x4.toInt64) + 74) 65537).toInt32), some (sI (x5 + 1)), some (sI x6), some (sI x7), some (sI x8), some (sI (x9 + 1)), none, none] [] μ2))) ∧ (¬ r2 < 0 → sCl sLL mX9_use d [sR 62, sI (s_rem (s_lrem ((75 * x4.toInt64) + 74) 65537).toInt32 4), sI r2] μ2 (kV fun μ3 => ((¬ r2 = 0 → sG sLL mX9_year (d + 1) Q 85 [some (sR 62), some (sI x1), some (sI x2), some (sI x3), some (sI (s_lrem ((75 * x4.toInt64) + 74) 65537).toInt32), some (sI (x5 + 0)), some (sI x6), some (sI x7), some (sI x8), some (sI (x9 + 1)), none, none] [] μ3) ∧ (r2 = 0 → sG sLL mX9_year (d + 1) Q 85 [some (sR 62), some (sI x1), some (sI x2), some (sI x3), some (sI (s_lrem ((75 * x4.toInt64) + 74) 65537).toInt32), some (sI (x5 + 1)), some (sI x6), some (sI x7), some (sI x8), some (sI (x9 + 1)), none, none] [] μ3)))))))))))) : sG sLL mX9_year (d + 1) Q 85 [some (sR 62), some (sI x1), some (sI x2), some (sI x3), some (sI x4), some (sI x5), some (sI x6), some (sI x7), some (sI x8), some (sI x9), none, none] [] μ := by
  refine g_iload dX9_year_85 rfl ?_
  refine g_iconst 3 dX9_year_87 (by decide) ?_
  refine g_icmp_ge 171 dX9_year_88 (by decide) (fun q => ?_) (fun q => ?_)
  · have h := h.1 q
    refine g_iload dX9_year_171 rfl ?_
    refine g_aload_n dX9_year_173 rfl ?_
    refine h_geti (μ.1 62 12) dX9_year_174 fX9_136 rfl rfl rfl ?_
    refine g_iload dX9_year_177 rfl ?_
    refine g_icmp_ne 186 dX9_year_179 (by decide) (fun q => ?_) (fun q => ?_)
    · have h := h.1 q
      refine g_iconst 0 dX9_year_186 (by decide) ?_
      refine g_iadd dX9_year_187 ?_
      refine g_istore [some (sR 62), some (sI x1), some (sI x2), some (sI x3), some (sI x4), some (sI x5), some (sI (x6 + 0)), some (sI x7), some (sI x8), some (sI x9), none, none] dX9_year_188 (by decide) rfl ?_
      refine g_iinc (x7 + 1) [some (sR 62), some (sI x1), some (sI x2), some (sI x3), some (sI x4), some (sI x5), some (sI (x6 + 0)), some (sI (x7 + 1)), some (sI x8), some (sI x9), none, none] dX9_year_190 rfl rfl (by decide) rfl ?_
      refine g_goto 60 dX9_year_193 (by decide) ?_
      exact sG.loc (s_le_s (s_le_s (s_le_s (s_le_s (s_le_s (s_le_s (s_le_s (s_le_s (s_le_n (s_le_n (s_le_n (s_le_n s_le_0)))))))))))) h
    · have h := h.2 q
      refine g_iconst 1 dX9_year_182 (by decide) ?_
      refine g_goto 187 dX9_year_183 (by decide) ?_
      refine g_iadd dX9_year_187 ?_
      refine g_istore [some (sR 62), some (sI x1), some (sI x2), some (sI x3), some (sI x4), some (sI x5), some (sI (x6 + 1)), some (sI x7), some (sI x8), some (sI x9), none, none] dX9_year_188 (by decide) rfl ?_
      refine g_iinc (x7 + 1) [some (sR 62), some (sI x1), some (sI x2), some (sI x3), some (sI x4), some (sI x5), some (sI (x6 + 1)), some (sI (x7 + 1)), some (sI x8), some (sI x9), none, none] dX9_year_190 rfl rfl (by decide) rfl ?_
      refine g_goto 60 dX9_year_193 (by decide) ?_
      exact sG.loc (s_le_s (s_le_s (s_le_s (s_le_s (s_le_s (s_le_s (s_le_s (s_le_s (s_le_n (s_le_n (s_le_n (s_le_n s_le_0)))))))))))) h
  · have h := h.2 q
    refine g_ldc2 dX9_year_91 qX9_264 ?_
    refine g_iload dX9_year_94 rfl ?_
    refine g_i2l dX9_year_96 ?_
    refine g_lmul dX9_year_97 ?_
    refine g_ldc2 dX9_year_98 qX9_266 ?_
    refine g_ladd dX9_year_101 ?_
    refine g_ldc2 dX9_year_102 qX9_268 ?_
    refine h_lrem dX9_year_105 (by decide) ?_
    refine g_l2i dX9_year_106 ?_
    refine g_istore [some (sR 62), some (sI x1), some (sI x2), some (sI x3), some (sI (s_lrem ((75 * x4.toInt64) + 74) 65537).toInt32), some (sI x5), some (sI x6), some (sI x7), some (sI x8), some (sI x9), none, none] dX9_year_107 (by decide) rfl ?_
    refine g_iload dX9_year_109 rfl ?_
    refine g_iconst 4 dX9_year_111 (by decide) ?_
    refine h_irem dX9_year_112 (by decide) ?_
    refine g_istore [some (sR 62), some (sI x1), some (sI x2), some (sI x3), some (sI (s_lrem ((75 * x4.toInt64) + 74) 65537).toInt32), some (sI x5), some (sI x6), some (sI x7), some (sI x8), some (sI x9), some (sI (s_rem (s_lrem ((75 * x4.toInt64) + 74) 65537).toInt32 4)), none] dX9_year_113 (by decide) rfl ?_
    refine g_aload_n dX9_year_115 rfl ?_
    refine g_iload dX9_year_116 rfl ?_
    refine g_callVi (mi2 := mX9_isThere) (r := 62) (st := []) [sI (s_rem (s_lrem ((75 * x4.toInt64) + 74) 65537).toInt32 4)] dX9_year_118 lX9_113 kX9_isThere vX9_isThere rfl rfl rfl (Nat.le_of_ble_eq_true rfl) (Nat.le_of_ble_eq_true rfl) (Nat.le_of_ble_eq_true rfl) rfl ?_
    refine sG.mono h (kI_mono fun r1 μ1 h => ?_)
    refine g_if_eq 133 dX9_year_121 (by decide) (fun q => ?_) (fun q => ?_)
    · have h := h.1 q
      refine g_bipush (-6) dX9_year_133 (by decide) ?_
      refine g_istore [some (sR 62), some (sI x1), some (sI x2), some (sI x3), some (sI (s_lrem ((75 * x4.toInt64) + 74) 65537).toInt32), some (sI x5), some (sI x6), some (sI x7), some (sI x8), some (sI x9), some (sI (s_rem (s_lrem ((75 * x4.toInt64) + 74) 65537).toInt32 4)), some (sI (-6))] dX9_year_135 (by decide) rfl ?_
      refine g_iload dX9_year_137 rfl ?_
      refine g_if_lt 150 dX9_year_139 (by decide) (fun _ => ?_) (fun q => absurd q (by decide))
      refine g_iload dX9_year_150 rfl ?_
      refine g_iload dX9_year_152 rfl ?_
      refine g_if_ne 161 dX9_year_154 (by decide) (fun _ => ?_) (fun q => absurd q (by decide))
      refine g_iconst 0 dX9_year_161 (by decide) ?_
      refine g_iadd dX9_year_162 ?_
      refine g_istore [some (sR 62), some (sI x1), some (sI x2), some (sI x3), some (sI (s_lrem ((75 * x4.toInt64) + 74) 65537).toInt32), some (sI (x5 + 0)), some (sI x6), some (sI x7), some (sI x8), some (sI x9), some (sI (s_rem (s_lrem ((75 * x4.toInt64) + 74) 65537).toInt32 4)), some (sI (-6))] dX9_year_163 (by decide) rfl ?_
      refine g_iinc (x9 + 1) [some (sR 62), some (sI x1), some (sI x2), some (sI x3), some (sI (s_lrem ((75 * x4.toInt64) + 74) 65537).toInt32), some (sI (x5 + 0)), some (sI x6), some (sI x7), some (sI x8), some (sI (x9 + 1)), some (sI (s_rem (s_lrem ((75 * x4.toInt64) + 74) 65537).toInt32 4)), some (sI (-6))] dX9_year_165 rfl rfl (by decide) rfl ?_
      refine g_goto 85 dX9_year_168 (by decide) ?_
      exact sG.loc (s_le_s (s_le_s (s_le_s (s_le_s (s_le_s (s_le_s (s_le_s (s_le_s (s_le_s (s_le_s (s_le_n (s_le_n s_le_0)))))))))))) h
    · have h := h.2 q
      refine g_aload_n dX9_year_124 rfl ?_
      refine g_iload dX9_year_125 rfl ?_
      refine g_callVi (mi2 := mX9_taken) (r := 62) (st := []) [sI (s_rem (s_lrem ((75 * x4.toInt64) + 74) 65537).toInt32 4)] dX9_year_127 lX9_139 kX9_taken vX9_taken rfl rfl rfl (Nat.le_of_ble_eq_true rfl) (Nat.le_of_ble_eq_true rfl) (Nat.le_of_ble_eq_true rfl) rfl ?_
      refine sG.mono h (kI_mono fun r2 μ2 h => ?_)
      refine g_goto 135 dX9_year_130 (by decide) ?_
      refine g_istore [some (sR 62), some (sI x1), some (sI x2), some (sI x3), some (sI (s_lrem ((75 * x4.toInt64) + 74) 65537).toInt32), some (sI x5), some (sI x6), some (sI x7), some (sI x8), some (sI x9), some (sI (s_rem (s_lrem ((75 * x4.toInt64) + 74) 65537).toInt32 4)), some (sI r2)] dX9_year_135 (by decide) rfl ?_
      refine g_iload dX9_year_137 rfl ?_
      refine g_if_lt 150 dX9_year_139 (by decide) (fun q => ?_) (fun q => ?_)
      · have h := h.1 q
        refine g_iload dX9_year_150 rfl ?_
        refine g_iload dX9_year_152 rfl ?_
        refine g_if_ne 161 dX9_year_154 (by decide) (fun q => ?_) (fun q => ?_)
        · have h := h.1 q
          refine g_iconst 0 dX9_year_161 (by decide) ?_
          refine g_iadd dX9_year_162 ?_
          refine g_istore [some (sR 62), some (sI x1), some (sI x2), some (sI x3), some (sI (s_lrem ((75 * x4.toInt64) + 74) 65537).toInt32), some (sI (x5 + 0)), some (sI x6), some (sI x7), some (sI x8), some (sI x9), some (sI (s_rem (s_lrem ((75 * x4.toInt64) + 74) 65537).toInt32 4)), some (sI r2)] dX9_year_163 (by decide) rfl ?_
          refine g_iinc (x9 + 1) [some (sR 62), some (sI x1), some (sI x2), some (sI x3), some (sI (s_lrem ((75 * x4.toInt64) + 74) 65537).toInt32), some (sI (x5 + 0)), some (sI x6), some (sI x7), some (sI x8), some (sI (x9 + 1)), some (sI (s_rem (s_lrem ((75 * x4.toInt64) + 74) 65537).toInt32 4)), some (sI r2)] dX9_year_165 rfl rfl (by decide) rfl ?_
          refine g_goto 85 dX9_year_168 (by decide) ?_
          exact sG.loc (s_le_s (s_le_s (s_le_s (s_le_s (s_le_s (s_le_s (s_le_s (s_le_s (s_le_s (s_le_s (s_le_n (s_le_n s_le_0)))))))))))) h
        · have h := h.2 q
          refine g_iconst 1 dX9_year_157 (by decide) ?_
          refine g_goto 162 dX9_year_158 (by decide) ?_
          refine g_iadd dX9_year_162 ?_
          refine g_istore [some (sR 62), some (sI x1), some (sI x2), some (sI x3), some (sI (s_lrem ((75 * x4.toInt64) + 74) 65537).toInt32), some (sI (x5 + 1)), some (sI x6), some (sI x7), some (sI x8), some (sI x9), some (sI (s_rem (s_lrem ((75 * x4.toInt64) + 74) 65537).toInt32 4)), some (sI r2)] dX9_year_163 (by decide) rfl ?_
          refine g_iinc (x9 + 1) [some (sR 62), some (sI x1), some (sI x2), some (sI x3), some (sI (s_lrem ((75 * x4.toInt64) + 74) 65537).toInt32), some (sI (x5 + 1)), some (sI x6), some (sI x7), some (sI x8), some (sI (x9 + 1)), some (sI (s_rem (s_lrem ((75 * x4.toInt64) + 74) 65537).toInt32 4)), some (sI r2)] dX9_year_165 rfl rfl (by decide) rfl ?_
          refine g_goto 85 dX9_year_168 (by decide) ?_
          exact sG.loc (s_le_s (s_le_s (s_le_s (s_le_s (s_le_s (s_le_s (s_le_s (s_le_s (s_le_s (s_le_s (s_le_n (s_le_n s_le_0)))))))))))) h
      · have h := h.2 q
        refine g_aload_n dX9_year_142 rfl ?_
        refine g_iload dX9_year_143 rfl ?_
        refine g_iload dX9_year_145 rfl ?_
        refine g_callVv (mi2 := mX9_use) (r := 62) (st := []) [sI (s_rem (s_lrem ((75 * x4.toInt64) + 74) 65537).toInt32 4), sI r2] dX9_year_147 lX9_151 kX9_use vX9_use rfl rfl rfl (Nat.le_of_ble_eq_true rfl) (Nat.le_of_ble_eq_true rfl) (Nat.le_of_ble_eq_true rfl) rfl ?_
        refine sG.mono h (kV_mono fun μ3 h => ?_)
        refine g_iload dX9_year_150 rfl ?_
        refine g_iload dX9_year_152 rfl ?_
        refine g_if_ne 161 dX9_year_154 (by decide) (fun q => ?_) (fun q => ?_)
        · have h := h.1 q
          refine g_iconst 0 dX9_year_161 (by decide) ?_
          refine g_iadd dX9_year_162 ?_
          refine g_istore [some (sR 62), some (sI x1), some (sI x2), some (sI x3), some (sI (s_lrem ((75 * x4.toInt64) + 74) 65537).toInt32), some (sI (x5 + 0)), some (sI x6), some (sI x7), some (sI x8), some (sI x9), some (sI (s_rem (s_lrem ((75 * x4.toInt64) + 74) 65537).toInt32 4)), some (sI r2)] dX9_year_163 (by decide) rfl ?_
          refine g_iinc (x9 + 1) [some (sR 62), some (sI x1), some (sI x2), some (sI x3), some (sI (s_lrem ((75 * x4.toInt64) + 74) 65537).toInt32), some (sI (x5 + 0)), some (sI x6), some (sI x7), some (sI x8), some (sI (x9 + 1)), some (sI (s_rem (s_lrem ((75 * x4.toInt64) + 74) 65537).toInt32 4)), some (sI r2)] dX9_year_165 rfl rfl (by decide) rfl ?_
          refine g_goto 85 dX9_year_168 (by decide) ?_
          exact sG.loc (s_le_s (s_le_s (s_le_s (s_le_s (s_le_s (s_le_s (s_le_s (s_le_s (s_le_s (s_le_s (s_le_n (s_le_n s_le_0)))))))))))) h
        · have h := h.2 q
          refine g_iconst 1 dX9_year_157 (by decide) ?_
          refine g_goto 162 dX9_year_158 (by decide) ?_
          refine g_iadd dX9_year_162 ?_
          refine g_istore [some (sR 62), some (sI x1), some (sI x2), some (sI x3), some (sI (s_lrem ((75 * x4.toInt64) + 74) 65537).toInt32), some (sI (x5 + 1)), some (sI x6), some (sI x7), some (sI x8), some (sI x9), some (sI (s_rem (s_lrem ((75 * x4.toInt64) + 74) 65537).toInt32 4)), some (sI r2)] dX9_year_163 (by decide) rfl ?_
          refine g_iinc (x9 + 1) [some (sR 62), some (sI x1), some (sI x2), some (sI x3), some (sI (s_lrem ((75 * x4.toInt64) + 74) 65537).toInt32), some (sI (x5 + 1)), some (sI x6), some (sI x7), some (sI x8), some (sI (x9 + 1)), some (sI (s_rem (s_lrem ((75 * x4.toInt64) + 74) 65537).toInt32 4)), some (sI r2)] dX9_year_165 rfl rfl (by decide) rfl ?_
          refine g_goto 85 dX9_year_168 (by decide) ?_
          exact sG.loc (s_le_s (s_le_s (s_le_s (s_le_s (s_le_s (s_le_s (s_le_s (s_le_s (s_le_s (s_le_s (s_le_n (s_le_n s_le_0)))))))))))) h
set_option maxRecDepth 20000 in
theorem eX9_image {d : Nat} {Q : Option sAV → sM → Prop} {μ : sM} {a1 : Int32} (h : sCl sLL mX9_in d [sL a1.toInt64, sL 0, sL 1] μ (kI fun r1 μ1 => ((¬ r1 = 0 → sCl sLL mX9_passAll d [sR 62] (s_u (s_u μ1 62 36 (80 * a1)) 62 37 1) (kV fun μ2 => (vp_in a1 2 ∧ Q (some (sI 1)) (s_u μ2 85 (a1.toNatClampNeg) 1)))) ∧ (r1 = 0 → Q (some (sI (-2))) μ1)))) : sCl sLL mX9_image (d + 1) [sR 62, sI a1] μ Q := by
  refine sG.loc (al2 := [some (sR 62), some (sI a1)]) (s_le_s (s_le_s s_le_0)) ?_
  refine g_iload_n dX9_image_0 rfl ?_
  refine g_i2l dX9_image_1 ?_
  refine g_lconst 0 dX9_image_2 (by decide) ?_
  refine g_lconst 1 dX9_image_3 (by decide) ?_
  refine g_callSi (mi2 := mX9_in) (st := []) [sL a1.toInt64, sL 0, sL 1] dX9_image_4 lX9_92 kX9_in vX9_in rfl (Nat.le_of_ble_eq_true rfl) (Nat.le_of_ble_eq_true rfl) (Nat.le_of_ble_eq_true rfl) rfl ?_
  refine sG.mono h (kI_mono fun r1 μ1 h => ?_)
  refine g_if_ne 13 dX9_image_7 (by decide) (fun q => ?_) (fun q => ?_)
  · have h := h.1 q
    refine g_aload_n dX9_image_13 rfl ?_
    refine g_bipush 80 dX9_image_14 (by decide) ?_
    refine g_iload_n dX9_image_16 rfl ?_
    refine g_imul dX9_image_17 ?_
    refine g_puti dX9_image_18 fX9_274 rfl rfl rfl rfl ?_
    refine g_aload_n dX9_image_21 rfl ?_
    refine g_iconst 1 dX9_image_22 (by decide) ?_
    refine g_puti dX9_image_23 fX9_270 rfl rfl (by decide +kernel) (by decide +kernel) ?_
    refine g_aload_n dX9_image_26 rfl ?_
    refine g_callVv (mi2 := mX9_passAll) (r := 62) (st := []) [] dX9_image_27 lX9_280 kX9_passAll vX9_passAll rfl rfl rfl (Nat.le_of_ble_eq_true rfl) (Nat.le_of_ble_eq_true rfl) (Nat.le_of_ble_eq_true rfl) rfl ?_
    refine sG.mono h (kV_mono fun μ2 h => ?_)
    refine g_aload_n dX9_image_30 rfl ?_
    refine g_getr (r2 := 85) dX9_image_31 fX9_76 rfl rfl ?_
    refine g_iload_n dX9_image_34 rfl ?_
    refine g_iconst 1 dX9_image_35 (by decide) ?_
    obtain ⟨v1, h⟩ := h
    refine h_zast (a1.toNatClampNeg) 1 dX9_image_36 rfl rfl v1 rfl (by decide +kernel) ?_
    refine g_iconst 1 dX9_image_37 (by decide) ?_
    exact g_iret dX9_image_38 rfl rfl h
  · have h := h.2 q
    refine g_bipush (-2) dX9_image_10 (by decide) ?_
    exact g_iret dX9_image_12 rfl rfl h
set_option maxRecDepth 20000 in
theorem eX9_passAll {d : Nat} {Q : Option sAV → sM → Prop} {μ : sM} (h : sCl sLL mX9_pass d [sR 62, sI (μ.1 62 0)] μ (kI fun r1 μ1 => sCl sLL mX9_pass d [sR 62, sI (μ1.1 62 4)] (s_u μ1 62 0 r1) (kI fun r2 μ2 => sG sLL mX9_passAll (d + 1) Q 26 [some (sR 62), some (sI 0)] [] (s_u μ2 62 4 r2)))) : sCl sLL mX9_passAll (d + 1) [sR 62] μ Q := by
  refine sG.loc (al2 := [some (sR 62), none]) (s_le_s (s_le_p s_le_0)) ?_
  refine g_aload_n dX9_passAll_0 rfl ?_
  refine g_aload_n dX9_passAll_1 rfl ?_
  refine g_aload_n dX9_passAll_2 rfl ?_
  refine h_geti (μ.1 62 0) dX9_passAll_3 fX9_84 rfl rfl rfl ?_
  refine g_callVi (mi2 := mX9_pass) (r := 62) (st := [sR 62]) [sI (μ.1 62 0)] dX9_passAll_6 lX9_277 kX9_pass vX9_pass rfl rfl rfl (Nat.le_of_ble_eq_true rfl) (Nat.le_of_ble_eq_true rfl) (Nat.le_of_ble_eq_true rfl) rfl ?_
  refine sG.mono h (kI_mono fun r1 μ1 h => ?_)
  refine g_puti dX9_passAll_9 fX9_84 rfl rfl rfl rfl ?_
  refine g_aload_n dX9_passAll_12 rfl ?_
  refine g_aload_n dX9_passAll_13 rfl ?_
  refine g_aload_n dX9_passAll_14 rfl ?_
  refine h_geti (μ1.1 62 4) dX9_passAll_15 fX9_98 rfl rfl rfl ?_
  refine g_callVi (mi2 := mX9_pass) (r := 62) (st := [sR 62]) [sI (μ1.1 62 4)] dX9_passAll_18 lX9_277 kX9_pass vX9_pass rfl rfl rfl (Nat.le_of_ble_eq_true rfl) (Nat.le_of_ble_eq_true rfl) (Nat.le_of_ble_eq_true rfl) rfl ?_
  refine sG.mono h (kI_mono fun r2 μ2 h => ?_)
  refine g_puti dX9_passAll_21 fX9_98 rfl rfl rfl rfl ?_
  refine g_iconst 0 dX9_passAll_24 (by decide) ?_
  refine g_istore_n [some (sR 62), some (sI 0)] dX9_passAll_25 rfl (by decide) rfl ?_
  exact sG.loc (s_le_s (s_le_s s_le_0)) h
set_option maxRecDepth 20000 in
theorem sX9_passAll_26 {d : Nat} {Q : Option sAV → sM → Prop} {μ : sM} {x1 : Int32} (h : ((28 ≤ x1 → sG sLL mX9_passAll (d + 1) Q 56 [some (sR 62), some (sI 0)] [] μ) ∧ (¬ 28 ≤ x1 → (vp_in x1 28 ∧ sCl sLL mX9_pass d [sR 62, sI (μ.1 63 x1.toNatClampNeg)] μ (kI fun r1 μ1 => sG sLL mX9_passAll (d + 1) Q 26 [some (sR 62), some (sI (x1 + 1))] [] (s_u μ1 63 (x1.toNatClampNeg) r1)))))) : sG sLL mX9_passAll (d + 1) Q 26 [some (sR 62), some (sI x1)] [] μ := by
  refine g_iload_n dX9_passAll_26 rfl ?_
  refine g_bipush 28 dX9_passAll_27 (by decide) ?_
  refine g_icmp_ge 54 dX9_passAll_29 (by decide) (fun q => ?_) (fun q => ?_)
  · have h := h.1 q
    refine g_iconst 0 dX9_passAll_54 (by decide) ?_
    refine g_istore_n [some (sR 62), some (sI 0)] dX9_passAll_55 rfl (by decide) rfl ?_
    exact sG.loc (s_le_s (s_le_s s_le_0)) h
  · have h := h.2 q
    refine g_aload_n dX9_passAll_32 rfl ?_
    refine g_getr (r2 := 63) dX9_passAll_33 fX9_7 rfl rfl ?_
    refine g_iload_n dX9_passAll_36 rfl ?_
    refine g_aload_n dX9_passAll_37 rfl ?_
    refine g_aload_n dX9_passAll_38 rfl ?_
    refine g_getr (r2 := 63) dX9_passAll_39 fX9_7 rfl rfl ?_
    refine g_iload_n dX9_passAll_42 rfl ?_
    obtain ⟨v1, h⟩ := h
    refine h_iald (μ.1 63 x1.toNatClampNeg) dX9_passAll_43 rfl rfl v1 rfl ?_
    refine g_callVi (mi2 := mX9_pass) (r := 62) (st := [sI x1, sR 63]) [sI (μ.1 63 x1.toNatClampNeg)] dX9_passAll_44 lX9_277 kX9_pass vX9_pass rfl rfl rfl (Nat.le_of_ble_eq_true rfl) (Nat.le_of_ble_eq_true rfl) (Nat.le_of_ble_eq_true rfl) rfl ?_
    refine sG.mono h (kI_mono fun r1 μ1 h => ?_)
    refine h_iast (x1.toNatClampNeg) dX9_passAll_47 rfl rfl v1 rfl ?_
    refine g_iinc (x1 + 1) [some (sR 62), some (sI (x1 + 1))] dX9_passAll_48 rfl rfl (by decide) rfl ?_
    refine g_goto 26 dX9_passAll_51 (by decide) ?_
    exact sG.loc (s_le_s (s_le_s s_le_0)) h
set_option maxRecDepth 20000 in
theorem sX9_passAll_56 {d : Nat} {Q : Option sAV → sM → Prop} {μ : sM} {x1 : Int32} (h : ((7 ≤ x1 → sG sLL mX9_passAll (d + 1) Q 102 [some (sR 62), some (sI 0)] [] μ) ∧ (¬ 7 ≤ x1 → (vp_in x1 7 ∧ sCl sLL mX9_pass d [sR 62, sI (μ.1 64 x1.toNatClampNeg)] μ (kI fun r1 μ1 => sCl sLL mX9_pass d [sR 62, sI (μ1.1 65 x1.toNatClampNeg)] (s_u μ1 64 (x1.toNatClampNeg) r1) (kI fun r2 μ2 => sG sLL mX9_passAll (d + 1) Q 56 [some (sR 62), some (sI (x1 + 1))] [] (s_u μ2 65 (x1.toNatClampNeg) r2))))))) : sG sLL mX9_passAll (d + 1) Q 56 [some (sR 62), some (sI x1)] [] μ := by
  refine g_iload_n dX9_passAll_56 rfl ?_
  refine g_bipush 7 dX9_passAll_57 (by decide) ?_
  refine g_icmp_ge 100 dX9_passAll_59 (by decide) (fun q => ?_) (fun q => ?_)
  · have h := h.1 q
    refine g_iconst 0 dX9_passAll_100 (by decide) ?_
    refine g_istore_n [some (sR 62), some (sI 0)] dX9_passAll_101 rfl (by decide) rfl ?_
    exact sG.loc (s_le_s (s_le_s s_le_0)) h
  · have h := h.2 q
    refine g_aload_n dX9_passAll_62 rfl ?_
    refine g_getr (r2 := 64) dX9_passAll_63 fX9_13 rfl rfl ?_
    refine g_iload_n dX9_passAll_66 rfl ?_
    refine g_aload_n dX9_passAll_67 rfl ?_
    refine g_aload_n dX9_passAll_68 rfl ?_
    refine g_getr (r2 := 64) dX9_passAll_69 fX9_13 rfl rfl ?_
    refine g_iload_n dX9_passAll_72 rfl ?_
    obtain ⟨v1, h⟩ := h
    refine h_iald (μ.1 64 x1.toNatClampNeg) dX9_passAll_73 rfl rfl v1 rfl ?_
    refine g_callVi (mi2 := mX9_pass) (r := 62) (st := [sI x1, sR 64]) [sI (μ.1 64 x1.toNatClampNeg)] dX9_passAll_74 lX9_277 kX9_pass vX9_pass rfl rfl rfl (Nat.le_of_ble_eq_true rfl) (Nat.le_of_ble_eq_true rfl) (Nat.le_of_ble_eq_true rfl) rfl ?_
    refine sG.mono h (kI_mono fun r1 μ1 h => ?_)
    refine h_iast (x1.toNatClampNeg) dX9_passAll_77 rfl rfl v1 rfl ?_
    refine g_aload_n dX9_passAll_78 rfl ?_
    refine g_getr (r2 := 65) dX9_passAll_79 fX9_16 rfl rfl ?_
    refine g_iload_n dX9_passAll_82 rfl ?_
    refine g_aload_n dX9_passAll_83 rfl ?_
    refine g_aload_n dX9_passAll_84 rfl ?_
    refine g_getr (r2 := 65) dX9_passAll_85 fX9_16 rfl rfl ?_
    refine g_iload_n dX9_passAll_88 rfl ?_
    refine h_iald (μ1.1 65 x1.toNatClampNeg) dX9_passAll_89 rfl rfl v1 rfl ?_
    refine g_callVi (mi2 := mX9_pass) (r := 62) (st := [sI x1, sR 65]) [sI (μ1.1 65 x1.toNatClampNeg)] dX9_passAll_90 lX9_277 kX9_pass vX9_pass rfl rfl rfl (Nat.le_of_ble_eq_true rfl) (Nat.le_of_ble_eq_true rfl) (Nat.le_of_ble_eq_true rfl) rfl ?_
    refine sG.mono h (kI_mono fun r2 μ2 h => ?_)
    refine h_iast (x1.toNatClampNeg) dX9_passAll_93 rfl rfl v1 rfl ?_
    refine g_iinc (x1 + 1) [some (sR 62), some (sI (x1 + 1))] dX9_passAll_94 rfl rfl (by decide) rfl ?_
    refine g_goto 56 dX9_passAll_97 (by decide) ?_
    exact sG.loc (s_le_s (s_le_s s_le_0)) h
set_option maxRecDepth 20000 in
theorem sX9_passAll_102 {d : Nat} {Q : Option sAV → sM → Prop} {μ : sM} {x1 : Int32} (h : ((4 ≤ x1 → Q none μ) ∧ (¬ 4 ≤ x1 → (vp_in x1 4 ∧ sCl sLL mX9_pass d [sR 62, sI (μ.1 66 x1.toNatClampNeg)] μ (kI fun r1 μ1 => sCl sLL mX9_pass d [sR 62, sI (μ1.1 67 x1.toNatClampNeg)] (s_u μ1 66 (x1.toNatClampNeg) r1) (kI fun r2 μ2 => sCl sLL mX9_pass d [sR 62, sI (μ2.1 68 x1.toNatClampNeg)] (s_u μ2 67 (x1.toNatClampNeg) r2) (kI fun r3 μ3 => sCl sLL mX9_pass d [sR 62, sI (μ3.1 69 x1.toNatClampNeg)] (s_u μ3 68 (x1.toNatClampNeg) r3) (kI fun r4 μ4 => sG sLL mX9_passAll (d + 1) Q 102 [some (sR 62), some (sI (x1 + 1))] [] (s_u μ4 69 (x1.toNatClampNeg) r4))))))))) : sG sLL mX9_passAll (d + 1) Q 102 [some (sR 62), some (sI x1)] [] μ := by
  refine g_iload_n dX9_passAll_102 rfl ?_
  refine g_iconst 4 dX9_passAll_103 (by decide) ?_
  refine g_icmp_ge 177 dX9_passAll_104 (by decide) (fun q => ?_) (fun q => ?_)
  · have h := h.1 q
    exact g_vret dX9_passAll_177 rfl h
  · have h := h.2 q
    refine g_aload_n dX9_passAll_107 rfl ?_
    refine g_getr (r2 := 66) dX9_passAll_108 fX9_19 rfl rfl ?_
    refine g_iload_n dX9_passAll_111 rfl ?_
    refine g_aload_n dX9_passAll_112 rfl ?_
    refine g_aload_n dX9_passAll_113 rfl ?_
    refine g_getr (r2 := 66) dX9_passAll_114 fX9_19 rfl rfl ?_
    refine g_iload_n dX9_passAll_117 rfl ?_
    obtain ⟨v1, h⟩ := h
    refine h_iald (μ.1 66 x1.toNatClampNeg) dX9_passAll_118 rfl rfl v1 rfl ?_
    refine g_callVi (mi2 := mX9_pass) (r := 62) (st := [sI x1, sR 66]) [sI (μ.1 66 x1.toNatClampNeg)] dX9_passAll_119 lX9_277 kX9_pass vX9_pass rfl rfl rfl (Nat.le_of_ble_eq_true rfl) (Nat.le_of_ble_eq_true rfl) (Nat.le_of_ble_eq_true rfl) rfl ?_
    refine sG.mono h (kI_mono fun r1 μ1 h => ?_)
    refine h_iast (x1.toNatClampNeg) dX9_passAll_122 rfl rfl v1 rfl ?_
    refine g_aload_n dX9_passAll_123 rfl ?_
    refine g_getr (r2 := 67) dX9_passAll_124 fX9_22 rfl rfl ?_
    refine g_iload_n dX9_passAll_127 rfl ?_
    refine g_aload_n dX9_passAll_128 rfl ?_
    refine g_aload_n dX9_passAll_129 rfl ?_
    refine g_getr (r2 := 67) dX9_passAll_130 fX9_22 rfl rfl ?_
    refine g_iload_n dX9_passAll_133 rfl ?_
    refine h_iald (μ1.1 67 x1.toNatClampNeg) dX9_passAll_134 rfl rfl v1 rfl ?_
    refine g_callVi (mi2 := mX9_pass) (r := 62) (st := [sI x1, sR 67]) [sI (μ1.1 67 x1.toNatClampNeg)] dX9_passAll_135 lX9_277 kX9_pass vX9_pass rfl rfl rfl (Nat.le_of_ble_eq_true rfl) (Nat.le_of_ble_eq_true rfl) (Nat.le_of_ble_eq_true rfl) rfl ?_
    refine sG.mono h (kI_mono fun r2 μ2 h => ?_)
    refine h_iast (x1.toNatClampNeg) dX9_passAll_138 rfl rfl v1 rfl ?_
    refine g_aload_n dX9_passAll_139 rfl ?_
    refine g_getr (r2 := 68) dX9_passAll_140 fX9_25 rfl rfl ?_
    refine g_iload_n dX9_passAll_143 rfl ?_
    refine g_aload_n dX9_passAll_144 rfl ?_
    refine g_aload_n dX9_passAll_145 rfl ?_
    refine g_getr (r2 := 68) dX9_passAll_146 fX9_25 rfl rfl ?_
    refine g_iload_n dX9_passAll_149 rfl ?_
    refine h_iald (μ2.1 68 x1.toNatClampNeg) dX9_passAll_150 rfl rfl v1 rfl ?_
    refine g_callVi (mi2 := mX9_pass) (r := 62) (st := [sI x1, sR 68]) [sI (μ2.1 68 x1.toNatClampNeg)] dX9_passAll_151 lX9_277 kX9_pass vX9_pass rfl rfl rfl (Nat.le_of_ble_eq_true rfl) (Nat.le_of_ble_eq_true rfl) (Nat.le_of_ble_eq_true rfl) rfl ?_
    refine sG.mono h (kI_mono fun r3 μ3 h => ?_)
    refine h_iast (x1.toNatClampNeg) dX9_passAll_154 rfl rfl v1 rfl ?_
    refine g_aload_n dX9_passAll_155 rfl ?_
    refine g_getr (r2 := 69) dX9_passAll_156 fX9_28 rfl rfl ?_
    refine g_iload_n dX9_passAll_159 rfl ?_
    refine g_aload_n dX9_passAll_160 rfl ?_
    refine g_aload_n dX9_passAll_161 rfl ?_
    refine g_getr (r2 := 69) dX9_passAll_162 fX9_28 rfl rfl ?_
    refine g_iload_n dX9_passAll_165 rfl ?_
    refine h_iald (μ3.1 69 x1.toNatClampNeg) dX9_passAll_166 rfl rfl v1 rfl ?_
    refine g_callVi (mi2 := mX9_pass) (r := 62) (st := [sI x1, sR 69]) [sI (μ3.1 69 x1.toNatClampNeg)] dX9_passAll_167 lX9_277 kX9_pass vX9_pass rfl rfl rfl (Nat.le_of_ble_eq_true rfl) (Nat.le_of_ble_eq_true rfl) (Nat.le_of_ble_eq_true rfl) rfl ?_
    refine sG.mono h (kI_mono fun r4 μ4 h => ?_)
    refine h_iast (x1.toNatClampNeg) dX9_passAll_170 rfl rfl v1 rfl ?_
    refine g_iinc (x1 + 1) [some (sR 62), some (sI (x1 + 1))] dX9_passAll_171 rfl rfl (by decide) rfl ?_
    refine g_goto 102 dX9_passAll_174 (by decide) ?_
    exact sG.loc (s_le_s (s_le_s s_le_0)) h
set_option maxRecDepth 20000 in
theorem eX9_pass {d : Nat} {Q : Option sAV → sM → Prop} {μ : sM} {a1 : Int32} (h : (((μ.1 62 37) = 0 → (vp_in (μ.1 62 36) 160 ∧ Q (some (sI (μ.1 84 (μ.1 62 36).toNatClampNeg))) (s_u (s_u μ 84 ((μ.1 62 36).toNatClampNeg) (μ.1 84 (μ.1 62 36).toNatClampNeg)) 62 36 ((μ.1 62 36) + 1)))) ∧ (¬ (μ.1 62 37) = 0 → (vp_in (μ.1 62 36) 160 ∧ Q (some (sI a1)) (s_u (s_u μ 84 ((μ.1 62 36).toNatClampNeg) a1) 62 36 ((μ.1 62 36) + 1)))))) : sCl sLL mX9_pass d [sR 62, sI a1] μ Q := by
  refine sG.loc (al2 := [some (sR 62), some (sI a1), none]) (s_le_s (s_le_s (s_le_p s_le_0))) ?_
  refine g_aload_n dX9_pass_0 rfl ?_
  refine h_geti (μ.1 62 37) dX9_pass_1 fX9_270 rfl rfl rfl ?_
  refine g_if_eq 11 dX9_pass_4 (by decide) (fun q => ?_) (fun q => ?_)
  · have h := h.1 q
    refine g_aload_n dX9_pass_11 rfl ?_
    refine g_getr (r2 := 84) dX9_pass_12 fX9_73 rfl rfl ?_
    refine g_aload_n dX9_pass_15 rfl ?_
    refine h_geti (μ.1 62 36) dX9_pass_16 fX9_274 rfl rfl rfl ?_
    obtain ⟨v1, h⟩ := h
    refine h_iald (μ.1 84 (μ.1 62 36).toNatClampNeg) dX9_pass_19 rfl rfl v1 rfl ?_
    refine g_istore_n [some (sR 62), some (sI a1), some (sI (μ.1 84 (μ.1 62 36).toNatClampNeg))] dX9_pass_20 rfl (by decide) rfl ?_
    refine g_aload_n dX9_pass_21 rfl ?_
    refine g_getr (r2 := 84) dX9_pass_22 fX9_73 rfl rfl ?_
    refine g_aload_n dX9_pass_25 rfl ?_
    refine h_geti (μ.1 62 36) dX9_pass_26 fX9_274 rfl rfl rfl ?_
    refine g_iload_n dX9_pass_29 rfl ?_
    refine h_iast ((μ.1 62 36).toNatClampNeg) dX9_pass_30 rfl rfl v1 rfl ?_
    refine g_aload_n dX9_pass_31 rfl ?_
    refine g_dup_r dX9_pass_32 ?_
    refine h_geti (μ.1 62 36) dX9_pass_33 fX9_274 rfl rfl rfl ?_
    refine g_iconst 1 dX9_pass_36 (by decide) ?_
    refine g_iadd dX9_pass_37 ?_
    refine g_puti dX9_pass_38 fX9_274 rfl rfl rfl rfl ?_
    refine g_iload_n dX9_pass_41 rfl ?_
    exact g_iret dX9_pass_42 rfl rfl h
  · have h := h.2 q
    refine g_iload_n dX9_pass_7 rfl ?_
    refine g_goto 20 dX9_pass_8 (by decide) ?_
    refine g_istore_n [some (sR 62), some (sI a1), some (sI a1)] dX9_pass_20 rfl (by decide) rfl ?_
    refine g_aload_n dX9_pass_21 rfl ?_
    refine g_getr (r2 := 84) dX9_pass_22 fX9_73 rfl rfl ?_
    refine g_aload_n dX9_pass_25 rfl ?_
    refine h_geti (μ.1 62 36) dX9_pass_26 fX9_274 rfl rfl rfl ?_
    refine g_iload_n dX9_pass_29 rfl ?_
    obtain ⟨v1, h⟩ := h
    refine h_iast ((μ.1 62 36).toNatClampNeg) dX9_pass_30 rfl rfl v1 rfl ?_
    refine g_aload_n dX9_pass_31 rfl ?_
    refine g_dup_r dX9_pass_32 ?_
    refine h_geti (μ.1 62 36) dX9_pass_33 fX9_274 rfl rfl rfl ?_
    refine g_iconst 1 dX9_pass_36 (by decide) ?_
    refine g_iadd dX9_pass_37 ?_
    refine g_puti dX9_pass_38 fX9_274 rfl rfl rfl rfl ?_
    refine g_iload_n dX9_pass_41 rfl ?_
    exact g_iret dX9_pass_42 rfl rfl h
set_option maxRecDepth 20000 in
theorem eX9_restore {d : Nat} {Q : Option sAV → sM → Prop} {μ : sM} {a1 : Int32} (h : sCl sLL mX9_in d [sL a1.toInt64, sL 0, sL 1] μ (kI fun r1 μ1 => ((¬ r1 = 0 → (vp_in a1 2 ∧ ((¬ (μ1.1 85 a1.toNatClampNeg) = 0 → sCl sLL mX9_passAll d [sR 62] (s_u (s_u μ1 62 36 (80 * a1)) 62 37 0) (kV fun μ2 => Q (some (sI 1)) μ2)) ∧ ((μ1.1 85 a1.toNatClampNeg) = 0 → Q (some (sI (-3))) μ1)))) ∧ (r1 = 0 → Q (some (sI (-2))) μ1)))) : sCl sLL mX9_restore (d + 1) [sR 62, sI a1] μ Q := by
  refine sG.loc (al2 := [some (sR 62), some (sI a1)]) (s_le_s (s_le_s s_le_0)) ?_
  refine g_iload_n dX9_restore_0 rfl ?_
  refine g_i2l dX9_restore_1 ?_
  refine g_lconst 0 dX9_restore_2 (by decide) ?_
  refine g_lconst 1 dX9_restore_3 (by decide) ?_
  refine g_callSi (mi2 := mX9_in) (st := []) [sL a1.toInt64, sL 0, sL 1] dX9_restore_4 lX9_92 kX9_in vX9_in rfl (Nat.le_of_ble_eq_true rfl) (Nat.le_of_ble_eq_true rfl) (Nat.le_of_ble_eq_true rfl) rfl ?_
  refine sG.mono h (kI_mono fun r1 μ1 h => ?_)
  refine g_if_ne 13 dX9_restore_7 (by decide) (fun q => ?_) (fun q => ?_)
  · have h := h.1 q
    refine g_aload_n dX9_restore_13 rfl ?_
    refine g_getr (r2 := 85) dX9_restore_14 fX9_76 rfl rfl ?_
    refine g_iload_n dX9_restore_17 rfl ?_
    obtain ⟨v1, h⟩ := h
    refine h_zald (μ1.1 85 a1.toNatClampNeg) dX9_restore_18 rfl rfl v1 rfl ?_
    refine g_if_ne 25 dX9_restore_19 (by decide) (fun q => ?_) (fun q => ?_)
    · have h := h.1 q
      refine g_aload_n dX9_restore_25 rfl ?_
      refine g_bipush 80 dX9_restore_26 (by decide) ?_
      refine g_iload_n dX9_restore_28 rfl ?_
      refine g_imul dX9_restore_29 ?_
      refine g_puti dX9_restore_30 fX9_274 rfl rfl rfl rfl ?_
      refine g_aload_n dX9_restore_33 rfl ?_
      refine g_iconst 0 dX9_restore_34 (by decide) ?_
      refine g_puti dX9_restore_35 fX9_270 rfl rfl (by decide +kernel) (by decide +kernel) ?_
      refine g_aload_n dX9_restore_38 rfl ?_
      refine g_callVv (mi2 := mX9_passAll) (r := 62) (st := []) [] dX9_restore_39 lX9_280 kX9_passAll vX9_passAll rfl rfl rfl (Nat.le_of_ble_eq_true rfl) (Nat.le_of_ble_eq_true rfl) (Nat.le_of_ble_eq_true rfl) rfl ?_
      refine sG.mono h (kV_mono fun μ2 h => ?_)
      refine g_iconst 1 dX9_restore_42 (by decide) ?_
      exact g_iret dX9_restore_43 rfl rfl h
    · have h := h.2 q
      refine g_bipush (-3) dX9_restore_22 (by decide) ?_
      exact g_iret dX9_restore_24 rfl rfl h
  · have h := h.2 q
    refine g_bipush (-2) dX9_restore_10 (by decide) ?_
    exact g_iret dX9_restore_12 rfl rfl h
set_option maxRecDepth 20000 in
theorem eX9_told {d : Nat} {Q : Option sAV → sM → Prop} {μ : sM} {a1 : Int32} (h : sCl sLL mX9_in d [sL a1.toInt64, sL 100, sL 499] μ (kI fun r1 μ1 => ((r1 = 0 → sCl sLL mX9_in d [sL a1.toInt64, sL 10, sL 79] μ1 (kI fun r2 μ2 => ((r2 = 0 → ((¬ a1 = 0 → ((¬ a1 = 1 → ((¬ a1 = 2 → ((¬ a1 = 3 → Q (some (sI (-2))) μ2) ∧ (a1 = 3 → sCl sLL mX9_sights d [sR 62] μ2 (kI fun r3 μ3 => Q (some (sI r3)) μ3)))) ∧ (a1 = 2 → Q (some (sI (μ2.1 62 4))) μ2))) ∧ (a1 = 1 → Q (some (sI (μ2.1 62 0))) μ2))) ∧ (a1 = 0 → Q (some (sI (μ2.1 62 10))) μ2))) ∧ (¬ r2 = 0 → sCl sLL mX9_toldOfThing d [sR 62, sI ((a1 / 10) - 1), sI (s_rem a1 10)] μ2 (kI fun r3 μ3 => Q (some (sI r3)) μ3))))) ∧ (¬ r1 = 0 → sCl sLL mX9_toldOfGuest d [sR 62, sI ((a1 / 100) - 1), sI (s_rem a1 100)] μ1 (kI fun r2 μ2 => Q (some (sI r2)) μ2))))) : sCl sLL mX9_told (d + 1) [sR 62, sI a1] μ Q := by
  refine sG.loc (al2 := [some (sR 62), some (sI a1)]) (s_le_s (s_le_s s_le_0)) ?_
  refine g_iload_n dX9_told_0 rfl ?_
  refine g_i2l dX9_told_1 ?_
  refine g_ldc2 dX9_told_2 qX9_283 ?_
  refine g_ldc2 dX9_told_5 qX9_285 ?_
  refine g_callSi (mi2 := mX9_in) (st := []) [sL a1.toInt64, sL 100, sL 499] dX9_told_8 lX9_92 kX9_in vX9_in rfl (Nat.le_of_ble_eq_true rfl) (Nat.le_of_ble_eq_true rfl) (Nat.le_of_ble_eq_true rfl) rfl ?_
  refine sG.mono h (kI_mono fun r1 μ1 h => ?_)
  refine g_if_eq 29 dX9_told_11 (by decide) (fun q => ?_) (fun q => ?_)
  · have h := h.1 q
    refine g_iload_n dX9_told_29 rfl ?_
    refine g_i2l dX9_told_30 ?_
    refine g_ldc2 dX9_told_31 qX9_290 ?_
    refine g_ldc2 dX9_told_34 qX9_292 ?_
    refine g_callSi (mi2 := mX9_in) (st := []) [sL a1.toInt64, sL 10, sL 79] dX9_told_37 lX9_92 kX9_in vX9_in rfl (Nat.le_of_ble_eq_true rfl) (Nat.le_of_ble_eq_true rfl) (Nat.le_of_ble_eq_true rfl) rfl ?_
    refine sG.mono h (kI_mono fun r2 μ2 h => ?_)
    refine g_if_eq 58 dX9_told_40 (by decide) (fun q => ?_) (fun q => ?_)
    · have h := h.1 q
      refine g_iload_n dX9_told_58 rfl ?_
      refine g_if_ne 69 dX9_told_59 (by decide) (fun q => ?_) (fun q => ?_)
      · have h := h.1 q
        refine g_iload_n dX9_told_69 rfl ?_
        refine g_iconst 1 dX9_told_70 (by decide) ?_
        refine g_icmp_ne 81 dX9_told_71 (by decide) (fun q => ?_) (fun q => ?_)
        · have h := h.1 q
          refine g_iload_n dX9_told_81 rfl ?_
          refine g_iconst 2 dX9_told_82 (by decide) ?_
          refine g_icmp_ne 93 dX9_told_83 (by decide) (fun q => ?_) (fun q => ?_)
          · have h := h.1 q
            refine g_iload_n dX9_told_93 rfl ?_
            refine g_iconst 3 dX9_told_94 (by decide) ?_
            refine g_icmp_ne 105 dX9_told_95 (by decide) (fun q => ?_) (fun q => ?_)
            · have h := h.1 q
              refine g_bipush (-2) dX9_told_105 (by decide) ?_
              exact g_iret dX9_told_107 rfl rfl h
            · have h := h.2 q
              refine g_aload_n dX9_told_98 rfl ?_
              refine g_callVi (mi2 := mX9_sights) (r := 62) (st := []) [] dX9_told_99 lX9_181 kX9_sights vX9_sights rfl rfl rfl (Nat.le_of_ble_eq_true rfl) (Nat.le_of_ble_eq_true rfl) (Nat.le_of_ble_eq_true rfl) rfl ?_
              refine sG.mono h (kI_mono fun r3 μ3 h => ?_)
              refine g_goto 107 dX9_told_102 (by decide) ?_
              exact g_iret dX9_told_107 rfl rfl h
          · have h := h.2 q
            refine g_aload_n dX9_told_86 rfl ?_
            refine h_geti (μ2.1 62 4) dX9_told_87 fX9_98 rfl rfl rfl ?_
            refine g_goto 107 dX9_told_90 (by decide) ?_
            exact g_iret dX9_told_107 rfl rfl h
        · have h := h.2 q
          refine g_aload_n dX9_told_74 rfl ?_
          refine h_geti (μ2.1 62 0) dX9_told_75 fX9_84 rfl rfl rfl ?_
          refine g_goto 107 dX9_told_78 (by decide) ?_
          exact g_iret dX9_told_107 rfl rfl h
      · have h := h.2 q
        refine g_aload_n dX9_told_62 rfl ?_
        refine h_geti (μ2.1 62 10) dX9_told_63 fX9_120 rfl rfl rfl ?_
        refine g_goto 107 dX9_told_66 (by decide) ?_
        exact g_iret dX9_told_107 rfl rfl h
    · have h := h.2 q
      refine g_aload_n dX9_told_43 rfl ?_
      refine g_iload_n dX9_told_44 rfl ?_
      refine g_bipush 10 dX9_told_45 (by decide) ?_
      refine g_idiv dX9_told_47 (by decide) ?_
      refine g_iconst 1 dX9_told_48 (by decide) ?_
      refine g_isub dX9_told_49 ?_
      refine g_iload_n dX9_told_50 rfl ?_
      refine g_bipush 10 dX9_told_51 (by decide) ?_
      refine h_irem dX9_told_53 (by decide) ?_
      refine g_callVi (mi2 := mX9_toldOfThing) (r := 62) (st := []) [sI ((a1 / 10) - 1), sI (s_rem a1 10)] dX9_told_54 lX9_294 kX9_toldOfThing vX9_toldOfThing rfl rfl rfl (Nat.le_of_ble_eq_true rfl) (Nat.le_of_ble_eq_true rfl) (Nat.le_of_ble_eq_true rfl) rfl ?_
      refine sG.mono h (kI_mono fun r3 μ3 h => ?_)
      exact g_iret dX9_told_57 rfl rfl h
  · have h := h.2 q
    refine g_aload_n dX9_told_14 rfl ?_
    refine g_iload_n dX9_told_15 rfl ?_
    refine g_bipush 100 dX9_told_16 (by decide) ?_
    refine g_idiv dX9_told_18 (by decide) ?_
    refine g_iconst 1 dX9_told_19 (by decide) ?_
    refine g_isub dX9_told_20 ?_
    refine g_iload_n dX9_told_21 rfl ?_
    refine g_bipush 100 dX9_told_22 (by decide) ?_
    refine h_irem dX9_told_24 (by decide) ?_
    refine g_callVi (mi2 := mX9_toldOfGuest) (r := 62) (st := []) [sI ((a1 / 100) - 1), sI (s_rem a1 100)] dX9_told_25 lX9_287 kX9_toldOfGuest vX9_toldOfGuest rfl rfl rfl (Nat.le_of_ble_eq_true rfl) (Nat.le_of_ble_eq_true rfl) (Nat.le_of_ble_eq_true rfl) rfl ?_
    refine sG.mono h (kI_mono fun r2 μ2 h => ?_)
    exact g_iret dX9_told_28 rfl rfl h
set_option maxRecDepth 20000 in
theorem eX9_toldOfGuest {d : Nat} {Q : Option sAV → sM → Prop} {μ : sM} {a1 : Int32} {a2 : Int32} (h : sCl sLL mX9_isThere d [sR 62, sI a1] μ (kI fun r1 μ1 => ((¬ r1 = 0 → ((¬ a2 = 0 → ((¬ a2 = 1 → ((¬ a2 = 2 → ((¬ a2 = 3 → Q (some (sI (-2))) μ1) ∧ (a2 = 3 → (vp_in a1 4 ∧ Q (some (sI (μ1.1 69 a1.toNatClampNeg))) μ1)))) ∧ (a2 = 2 → (vp_in a1 4 ∧ Q (some (sI (μ1.1 68 a1.toNatClampNeg))) μ1)))) ∧ (a2 = 1 → (vp_in a1 4 ∧ Q (some (sI (μ1.1 67 a1.toNatClampNeg))) μ1)))) ∧ (a2 = 0 → (vp_in a1 4 ∧ Q (some (sI (μ1.1 66 a1.toNatClampNeg))) μ1)))) ∧ (r1 = 0 → Q (some (sI (-2))) μ1)))) : sCl sLL mX9_toldOfGuest (d + 1) [sR 62, sI a1, sI a2] μ Q := by
  refine sG.loc (al2 := [some (sR 62), some (sI a1), some (sI a2)]) (s_le_s (s_le_s (s_le_s s_le_0))) ?_
  refine g_aload_n dX9_toldOfGuest_0 rfl ?_
  refine g_iload_n dX9_toldOfGuest_1 rfl ?_
  refine g_callVi (mi2 := mX9_isThere) (r := 62) (st := []) [sI a1] dX9_toldOfGuest_2 lX9_113 kX9_isThere vX9_isThere rfl rfl rfl (Nat.le_of_ble_eq_true rfl) (Nat.le_of_ble_eq_true rfl) (Nat.le_of_ble_eq_true rfl) rfl ?_
  refine sG.mono h (kI_mono fun r1 μ1 h => ?_)
  refine g_if_ne 11 dX9_toldOfGuest_5 (by decide) (fun q => ?_) (fun q => ?_)
  · have h := h.1 q
    refine g_iload_n dX9_toldOfGuest_11 rfl ?_
    refine g_if_ne 24 dX9_toldOfGuest_12 (by decide) (fun q => ?_) (fun q => ?_)
    · have h := h.1 q
      refine g_iload_n dX9_toldOfGuest_24 rfl ?_
      refine g_iconst 1 dX9_toldOfGuest_25 (by decide) ?_
      refine g_icmp_ne 38 dX9_toldOfGuest_26 (by decide) (fun q => ?_) (fun q => ?_)
      · have h := h.1 q
        refine g_iload_n dX9_toldOfGuest_38 rfl ?_
        refine g_iconst 2 dX9_toldOfGuest_39 (by decide) ?_
        refine g_icmp_ne 52 dX9_toldOfGuest_40 (by decide) (fun q => ?_) (fun q => ?_)
        · have h := h.1 q
          refine g_iload_n dX9_toldOfGuest_52 rfl ?_
          refine g_iconst 3 dX9_toldOfGuest_53 (by decide) ?_
          refine g_icmp_ne 66 dX9_toldOfGuest_54 (by decide) (fun q => ?_) (fun q => ?_)
          · have h := h.1 q
            refine g_bipush (-2) dX9_toldOfGuest_66 (by decide) ?_
            exact g_iret dX9_toldOfGuest_68 rfl rfl h
          · have h := h.2 q
            refine g_aload_n dX9_toldOfGuest_57 rfl ?_
            refine g_getr (r2 := 69) dX9_toldOfGuest_58 fX9_28 rfl rfl ?_
            refine g_iload_n dX9_toldOfGuest_61 rfl ?_
            obtain ⟨v1, h⟩ := h
            refine h_iald (μ1.1 69 a1.toNatClampNeg) dX9_toldOfGuest_62 rfl rfl v1 rfl ?_
            refine g_goto 68 dX9_toldOfGuest_63 (by decide) ?_
            exact g_iret dX9_toldOfGuest_68 rfl rfl h
        · have h := h.2 q
          refine g_aload_n dX9_toldOfGuest_43 rfl ?_
          refine g_getr (r2 := 68) dX9_toldOfGuest_44 fX9_25 rfl rfl ?_
          refine g_iload_n dX9_toldOfGuest_47 rfl ?_
          obtain ⟨v1, h⟩ := h
          refine h_iald (μ1.1 68 a1.toNatClampNeg) dX9_toldOfGuest_48 rfl rfl v1 rfl ?_
          refine g_goto 68 dX9_toldOfGuest_49 (by decide) ?_
          exact g_iret dX9_toldOfGuest_68 rfl rfl h
      · have h := h.2 q
        refine g_aload_n dX9_toldOfGuest_29 rfl ?_
        refine g_getr (r2 := 67) dX9_toldOfGuest_30 fX9_22 rfl rfl ?_
        refine g_iload_n dX9_toldOfGuest_33 rfl ?_
        obtain ⟨v1, h⟩ := h
        refine h_iald (μ1.1 67 a1.toNatClampNeg) dX9_toldOfGuest_34 rfl rfl v1 rfl ?_
        refine g_goto 68 dX9_toldOfGuest_35 (by decide) ?_
        exact g_iret dX9_toldOfGuest_68 rfl rfl h
    · have h := h.2 q
      refine g_aload_n dX9_toldOfGuest_15 rfl ?_
      refine g_getr (r2 := 66) dX9_toldOfGuest_16 fX9_19 rfl rfl ?_
      refine g_iload_n dX9_toldOfGuest_19 rfl ?_
      obtain ⟨v1, h⟩ := h
      refine h_iald (μ1.1 66 a1.toNatClampNeg) dX9_toldOfGuest_20 rfl rfl v1 rfl ?_
      refine g_goto 68 dX9_toldOfGuest_21 (by decide) ?_
      exact g_iret dX9_toldOfGuest_68 rfl rfl h
  · have h := h.2 q
    refine g_bipush (-2) dX9_toldOfGuest_8 (by decide) ?_
    exact g_iret dX9_toldOfGuest_10 rfl rfl h
set_option maxRecDepth 20000 in
theorem eX9_toldOfThing {d : Nat} {Q : Option sAV → sM → Prop} {μ : sM} {a1 : Int32} {a2 : Int32} (h : sCl sLL mX9_isThing d [sR 62, sI a1] μ (kI fun r1 μ1 => ((r1 = 0 → Q (some (sI (-2))) μ1) ∧ (¬ r1 = 0 → ((a2 ≤ 5 → ((4 ≤ a2 → ((¬ a2 = 4 → (vp_in a1 7 ∧ Q (some (sI (μ1.1 65 a1.toNatClampNeg))) μ1)) ∧ (a2 = 4 → (vp_in a1 7 ∧ Q (some (sI (μ1.1 64 a1.toNatClampNeg))) μ1)))) ∧ (¬ 4 ≤ a2 → sCl sLL mX9_at d [sI a2, sI a1] μ1 (kI fun r2 μ2 => (vp_in r2 28 ∧ Q (some (sI (μ2.1 63 r2.toNatClampNeg))) μ2))))) ∧ (¬ a2 ≤ 5 → Q (some (sI (-2))) μ1)))))) : sCl sLL mX9_toldOfThing (d + 1) [sR 62, sI a1, sI a2] μ Q := by
  refine sG.loc (al2 := [some (sR 62), some (sI a1), some (sI a2)]) (s_le_s (s_le_s (s_le_s s_le_0))) ?_
  refine g_aload_n dX9_toldOfThing_0 rfl ?_
  refine g_iload_n dX9_toldOfThing_1 rfl ?_
  refine g_callVi (mi2 := mX9_isThing) (r := 62) (st := []) [sI a1] dX9_toldOfThing_2 lX9_103 kX9_isThing vX9_isThing rfl rfl rfl (Nat.le_of_ble_eq_true rfl) (Nat.le_of_ble_eq_true rfl) (Nat.le_of_ble_eq_true rfl) rfl ?_
  refine sG.mono h (kI_mono fun r1 μ1 h => ?_)
  refine g_if_eq 13 dX9_toldOfThing_5 (by decide) (fun q => ?_) (fun q => ?_)
  · have h := h.1 q
    refine g_bipush (-2) dX9_toldOfThing_13 (by decide) ?_
    exact g_iret dX9_toldOfThing_15 rfl rfl h
  · have h := h.2 q
    refine g_iload_n dX9_toldOfThing_8 rfl ?_
    refine g_iconst 5 dX9_toldOfThing_9 (by decide) ?_
    refine g_icmp_le 16 dX9_toldOfThing_10 (by decide) (fun q => ?_) (fun q => ?_)
    · have h := h.1 q
      refine g_iload_n dX9_toldOfThing_16 rfl ?_
      refine g_iconst 4 dX9_toldOfThing_17 (by decide) ?_
      refine g_icmp_ge 34 dX9_toldOfThing_18 (by decide) (fun q => ?_) (fun q => ?_)
      · have h := h.1 q
        refine g_iload_n dX9_toldOfThing_34 rfl ?_
        refine g_iconst 4 dX9_toldOfThing_35 (by decide) ?_
        refine g_icmp_ne 48 dX9_toldOfThing_36 (by decide) (fun q => ?_) (fun q => ?_)
        · have h := h.1 q
          refine g_aload_n dX9_toldOfThing_48 rfl ?_
          refine g_getr (r2 := 65) dX9_toldOfThing_49 fX9_16 rfl rfl ?_
          refine g_iload_n dX9_toldOfThing_52 rfl ?_
          obtain ⟨v1, h⟩ := h
          refine h_iald (μ1.1 65 a1.toNatClampNeg) dX9_toldOfThing_53 rfl rfl v1 rfl ?_
          exact g_iret dX9_toldOfThing_54 rfl rfl h
        · have h := h.2 q
          refine g_aload_n dX9_toldOfThing_39 rfl ?_
          refine g_getr (r2 := 64) dX9_toldOfThing_40 fX9_13 rfl rfl ?_
          refine g_iload_n dX9_toldOfThing_43 rfl ?_
          obtain ⟨v1, h⟩ := h
          refine h_iald (μ1.1 64 a1.toNatClampNeg) dX9_toldOfThing_44 rfl rfl v1 rfl ?_
          refine g_goto 54 dX9_toldOfThing_45 (by decide) ?_
          exact g_iret dX9_toldOfThing_54 rfl rfl h
      · have h := h.2 q
        refine g_aload_n dX9_toldOfThing_21 rfl ?_
        refine g_getr (r2 := 63) dX9_toldOfThing_22 fX9_7 rfl rfl ?_
        refine g_iload_n dX9_toldOfThing_25 rfl ?_
        refine g_iload_n dX9_toldOfThing_26 rfl ?_
        refine g_callSi (mi2 := mX9_at) (st := [sR 63]) [sI a2, sI a1] dX9_toldOfThing_27 lX9_88 kX9_at vX9_at rfl (Nat.le_of_ble_eq_true rfl) (Nat.le_of_ble_eq_true rfl) (Nat.le_of_ble_eq_true rfl) rfl ?_
        refine sG.mono h (kI_mono fun r2 μ2 h => ?_)
        obtain ⟨v1, h⟩ := h
        refine h_iald (μ2.1 63 r2.toNatClampNeg) dX9_toldOfThing_30 rfl rfl v1 rfl ?_
        refine g_goto 54 dX9_toldOfThing_31 (by decide) ?_
        exact g_iret dX9_toldOfThing_54 rfl rfl h
    · have h := h.2 q
      refine g_bipush (-2) dX9_toldOfThing_13 (by decide) ?_
      exact g_iret dX9_toldOfThing_15 rfl rfl h
