-- SMALL WORLDS for the constructors (printed by wip/whole/small.py)
abbrev sLT : sLy := ([sO_ 6 [0, 0, 0, 3, 4, 5, 6, 7, 8, 9, 10, 11], sA_ 7, sA_ 7, sA_ 7, sA_ 7, sA_ 7, sA_ 4, sA_ 4, sA_ 4, sA_ 4], fun _ => .int)
abbrev sLM : sLy := ([sO_ 9 [0, 3, 4, 5, 0, 6, 7, 8, 9, 10, 0, 0, 0, 11, 12, 0, 0, 0, 13, 14, 15, 16, 17, 18, 0, 0, 0, 0, 0, 19, 20, 21, 22, 23, 24, 25, 0, 0], sA_ 28, sA_ 7, sA_ 7, sA_ 4, sA_ 4, sA_ 4, sA_ 4, sA_ 40, sA_ 7, sA_ 7, sA_ 40, sA_ 7, sA_ 7, sA_ 7, sA_ 7, sA_ 6, sA_ 6, sA_ 7, sA_ 70, sA_ 4, sA_ 1024, sA_ 160, sA_ 2], fun r => if r = 23 then .boolean else .int)
set_option maxRecDepth 20000 in
theorem eX6_asAtFirstT {d : Nat} {Q : Option sAV → sM → Prop} {μ : sM} {a1 : Int32} (h : sG sLT mX6_asAtFirst (d + 1) Q 12 [some (sR 0), some (sI a1), some (sI 0)] [] (s_u (s_u μ 0 0 a1) 0 1 0)) : sCl sLT mX6_asAtFirst (d + 1) [sR 0, sI a1] μ Q := by
  refine sG.loc (al2 := [some (sR 0), some (sI a1), none]) (s_le_s (s_le_s (s_le_p s_le_0))) ?_
  refine g_aload_n dX6_asAtFirst_0 rfl ?_
  refine g_iload_n dX6_asAtFirst_1 rfl ?_
  refine g_puti dX6_asAtFirst_2 fX6_43 rfl rfl rfl rfl ?_
  refine g_aload_n dX6_asAtFirst_5 rfl ?_
  refine g_iconst 0 dX6_asAtFirst_6 (by decide) ?_
  refine g_puti dX6_asAtFirst_7 fX6_47 rfl rfl rfl rfl ?_
  refine g_iconst 0 dX6_asAtFirst_10 (by decide) ?_
  refine g_istore_n [some (sR 0), some (sI a1), some (sI 0)] dX6_asAtFirst_11 rfl (by decide) rfl ?_
  exact sG.loc (s_le_s (s_le_s (s_le_s s_le_0))) h
set_option maxRecDepth 20000 in
theorem sX6_asAtFirstT_12 {d : Nat} {Q : Option sAV → sM → Prop} {μ : sM} {x1 : Int32} {x2 : Int32} (h : ((7 ≤ x2 → sCl sLT mJ7_fill_53178 d [sR 2, sI 9] μ (kV fun μ1 => sCl sLT mJ7_fill_53178 d [sR 3, sI 9] μ1 (kV fun μ2 => sCl sLT mJ7_fill_53178 d [sR 4, sI 0] μ2 (kV fun μ3 => sCl sLT mJ7_fill_53178 d [sR 5, sI (-6)] μ3 (kV fun μ4 => Q none μ4))))) ∧ (¬ 7 ≤ x2 → (vp_in x2 7 ∧ sG sLT mX6_asAtFirst (d + 1) Q 12 [some (sR 0), some (sI x1), some (sI (x2 + 1))] [] (s_u μ 1 (x2.toNatClampNeg) x2))))) : sG sLT mX6_asAtFirst (d + 1) Q 12 [some (sR 0), some (sI x1), some (sI x2)] [] μ := by
  refine g_iload_n dX6_asAtFirst_12 rfl ?_
  refine g_bipush 7 dX6_asAtFirst_13 (by decide) ?_
  refine g_icmp_ge 31 dX6_asAtFirst_15 (by decide) (fun q => ?_) (fun q => ?_)
  · have h := h.1 q
    refine g_aload_n dX6_asAtFirst_31 rfl ?_
    refine g_getr (r2 := 2) dX6_asAtFirst_32 fX6_15 rfl rfl ?_
    refine g_bipush 9 dX6_asAtFirst_35 (by decide) ?_
    refine g_callSv (mi2 := mJ7_fill_53178) (st := []) [sR 2, sI 9] dX6_asAtFirst_37 lX6_50 kJ7_fill_53178 vJ7_fill_53178 rfl (Nat.le_of_ble_eq_true rfl) (Nat.le_of_ble_eq_true rfl) (Nat.le_of_ble_eq_true rfl) rfl ?_
    refine sG.mono h (kV_mono fun μ1 h => ?_)
    refine g_aload_n dX6_asAtFirst_40 rfl ?_
    refine g_getr (r2 := 3) dX6_asAtFirst_41 fX6_18 rfl rfl ?_
    refine g_bipush 9 dX6_asAtFirst_44 (by decide) ?_
    refine g_callSv (mi2 := mJ7_fill_53178) (st := []) [sR 3, sI 9] dX6_asAtFirst_46 lX6_50 kJ7_fill_53178 vJ7_fill_53178 rfl (Nat.le_of_ble_eq_true rfl) (Nat.le_of_ble_eq_true rfl) (Nat.le_of_ble_eq_true rfl) rfl ?_
    refine sG.mono h (kV_mono fun μ2 h => ?_)
    refine g_aload_n dX6_asAtFirst_49 rfl ?_
    refine g_getr (r2 := 4) dX6_asAtFirst_50 fX6_21 rfl rfl ?_
    refine g_iconst 0 dX6_asAtFirst_53 (by decide) ?_
    refine g_callSv (mi2 := mJ7_fill_53178) (st := []) [sR 4, sI 0] dX6_asAtFirst_54 lX6_50 kJ7_fill_53178 vJ7_fill_53178 rfl (Nat.le_of_ble_eq_true rfl) (Nat.le_of_ble_eq_true rfl) (Nat.le_of_ble_eq_true rfl) rfl ?_
    refine sG.mono h (kV_mono fun μ3 h => ?_)
    refine g_aload_n dX6_asAtFirst_57 rfl ?_
    refine g_getr (r2 := 5) dX6_asAtFirst_58 fX6_24 rfl rfl ?_
    refine g_bipush (-6) dX6_asAtFirst_61 (by decide) ?_
    refine g_callSv (mi2 := mJ7_fill_53178) (st := []) [sR 5, sI (-6)] dX6_asAtFirst_63 lX6_50 kJ7_fill_53178 vJ7_fill_53178 rfl (Nat.le_of_ble_eq_true rfl) (Nat.le_of_ble_eq_true rfl) (Nat.le_of_ble_eq_true rfl) rfl ?_
    refine sG.mono h (kV_mono fun μ4 h => ?_)
    exact g_vret dX6_asAtFirst_66 rfl h
  · have h := h.2 q
    refine g_aload_n dX6_asAtFirst_18 rfl ?_
    refine g_getr (r2 := 1) dX6_asAtFirst_19 fX6_9 rfl rfl ?_
    refine g_iload_n dX6_asAtFirst_22 rfl ?_
    refine g_iload_n dX6_asAtFirst_23 rfl ?_
    obtain ⟨v1, h⟩ := h
    refine h_iast (x2.toNatClampNeg) dX6_asAtFirst_24 rfl rfl v1 rfl ?_
    refine g_iinc (x2 + 1) [some (sR 0), some (sI x1), some (sI (x2 + 1))] dX6_asAtFirst_25 rfl rfl (by decide) rfl ?_
    refine g_goto 12 dX6_asAtFirst_28 (by decide) ?_
    exact sG.loc (s_le_s (s_le_s (s_le_s s_le_0))) h
set_option maxRecDepth 20000 in
theorem eX9_atM {d : Nat} {Q : Option sAV → sM → Prop} {μ : sM} {a0 : Int32} {a1 : Int32} (h : Q (some (sI ((7 * a0) + a1))) μ) : sCl sLM mX9_at d [sI a0, sI a1] μ Q := by
  refine sG.loc (al2 := [some (sI a0), some (sI a1)]) (s_le_s (s_le_s s_le_0)) ?_
  refine g_bipush 7 dX9_at_0 (by decide) ?_
  refine g_iload_n dX9_at_2 rfl ?_
  refine g_imul dX9_at_3 ?_
  refine g_iload_n dX9_at_4 rfl ?_
  refine g_iadd dX9_at_5 ?_
  exact g_iret dX9_at_6 rfl rfl h
set_option maxRecDepth 20000 in
theorem eX9_beginM {d : Nat} {Q : Option sAV → sM → Prop} {μ : sM} {a1 : Int32} (h : sG sLM mX9_begin (d + 1) Q 7 [some (sR 0), some (sI a1), some (sI 0)] [] (s_u μ 0 0 a1)) : sCl sLM mX9_begin (d + 1) [sR 0, sI a1] μ Q := by
  refine sG.loc (al2 := [some (sR 0), some (sI a1), none]) (s_le_s (s_le_s (s_le_p s_le_0))) ?_
  refine g_aload_n dX9_begin_0 rfl ?_
  refine g_iload_n dX9_begin_1 rfl ?_
  refine g_puti dX9_begin_2 fX9_84 rfl rfl rfl rfl ?_
  refine g_iconst 0 dX9_begin_5 (by decide) ?_
  refine g_istore_n [some (sR 0), some (sI a1), some (sI 0)] dX9_begin_6 rfl (by decide) rfl ?_
  exact sG.loc (s_le_s (s_le_s (s_le_s s_le_0))) h
set_option maxRecDepth 20000 in
theorem sX9_beginM_7 {d : Nat} {Q : Option sAV → sM → Prop} {μ : sM} {x1 : Int32} {x2 : Int32} (h : ((7 ≤ x2 → Q none μ) ∧ (¬ 7 ≤ x2 → sCl sLM mX9_at d [sI 0, sI x2] μ (kI fun r1 μ1 => (vp_in r1 28 ∧ sCl sLM mX9_at d [sI 1, sI x2] (s_u μ1 1 (r1.toNatClampNeg) x2) (kI fun r2 μ2 => (vp_in r2 28 ∧ sCl sLM mX9_at d [sI 2, sI x2] (s_u μ2 1 (r2.toNatClampNeg) 9) (kI fun r3 μ3 => (vp_in r3 28 ∧ sCl sLM mX9_at d [sI 3, sI x2] (s_u μ3 1 (r3.toNatClampNeg) 0) (kI fun r4 μ4 => (vp_in r4 28 ∧ (vp_in x2 7 ∧ sG sLM mX9_begin (d + 1) Q 7 [some (sR 0), some (sI x1), some (sI (x2 + 1))] [] (s_u (s_u (s_u μ4 1 (r4.toNatClampNeg) 9) 2 (x2.toNatClampNeg) 0) 3 (x2.toNatClampNeg) (-6)))))))))))))) : sG sLM mX9_begin (d + 1) Q 7 [some (sR 0), some (sI x1), some (sI x2)] [] μ := by
  refine g_iload_n dX9_begin_7 rfl ?_
  refine g_bipush 7 dX9_begin_8 (by decide) ?_
  refine g_icmp_ge 80 dX9_begin_10 (by decide) (fun q => ?_) (fun q => ?_)
  · have h := h.1 q
    exact g_vret dX9_begin_80 rfl h
  · have h := h.2 q
    refine g_aload_n dX9_begin_13 rfl ?_
    refine g_getr (r2 := 1) dX9_begin_14 fX9_7 rfl rfl ?_
    refine g_iconst 0 dX9_begin_17 (by decide) ?_
    refine g_iload_n dX9_begin_18 rfl ?_
    refine g_callSi (mi2 := mX9_at) (st := [sR 1]) [sI 0, sI x2] dX9_begin_19 lX9_88 kX9_at vX9_at rfl (Nat.le_of_ble_eq_true rfl) (Nat.le_of_ble_eq_true rfl) (Nat.le_of_ble_eq_true rfl) rfl ?_
    refine sG.mono h (kI_mono fun r1 μ1 h => ?_)
    refine g_iload_n dX9_begin_22 rfl ?_
    obtain ⟨v1, h⟩ := h
    refine h_iast (r1.toNatClampNeg) dX9_begin_23 rfl rfl v1 rfl ?_
    refine g_aload_n dX9_begin_24 rfl ?_
    refine g_getr (r2 := 1) dX9_begin_25 fX9_7 rfl rfl ?_
    refine g_iconst 1 dX9_begin_28 (by decide) ?_
    refine g_iload_n dX9_begin_29 rfl ?_
    refine g_callSi (mi2 := mX9_at) (st := [sR 1]) [sI 1, sI x2] dX9_begin_30 lX9_88 kX9_at vX9_at rfl (Nat.le_of_ble_eq_true rfl) (Nat.le_of_ble_eq_true rfl) (Nat.le_of_ble_eq_true rfl) rfl ?_
    refine sG.mono h (kI_mono fun r2 μ2 h => ?_)
    refine g_bipush 9 dX9_begin_33 (by decide) ?_
    obtain ⟨v2, h⟩ := h
    refine h_iast (r2.toNatClampNeg) dX9_begin_35 rfl rfl v2 rfl ?_
    refine g_aload_n dX9_begin_36 rfl ?_
    refine g_getr (r2 := 1) dX9_begin_37 fX9_7 rfl rfl ?_
    refine g_iconst 2 dX9_begin_40 (by decide) ?_
    refine g_iload_n dX9_begin_41 rfl ?_
    refine g_callSi (mi2 := mX9_at) (st := [sR 1]) [sI 2, sI x2] dX9_begin_42 lX9_88 kX9_at vX9_at rfl (Nat.le_of_ble_eq_true rfl) (Nat.le_of_ble_eq_true rfl) (Nat.le_of_ble_eq_true rfl) rfl ?_
    refine sG.mono h (kI_mono fun r3 μ3 h => ?_)
    refine g_iconst 0 dX9_begin_45 (by decide) ?_
    obtain ⟨v3, h⟩ := h
    refine h_iast (r3.toNatClampNeg) dX9_begin_46 rfl rfl v3 rfl ?_
    refine g_aload_n dX9_begin_47 rfl ?_
    refine g_getr (r2 := 1) dX9_begin_48 fX9_7 rfl rfl ?_
    refine g_iconst 3 dX9_begin_51 (by decide) ?_
    refine g_iload_n dX9_begin_52 rfl ?_
    refine g_callSi (mi2 := mX9_at) (st := [sR 1]) [sI 3, sI x2] dX9_begin_53 lX9_88 kX9_at vX9_at rfl (Nat.le_of_ble_eq_true rfl) (Nat.le_of_ble_eq_true rfl) (Nat.le_of_ble_eq_true rfl) rfl ?_
    refine sG.mono h (kI_mono fun r4 μ4 h => ?_)
    refine g_bipush 9 dX9_begin_56 (by decide) ?_
    obtain ⟨v4, h⟩ := h
    refine h_iast (r4.toNatClampNeg) dX9_begin_58 rfl rfl v4 rfl ?_
    refine g_aload_n dX9_begin_59 rfl ?_
    refine g_getr (r2 := 2) dX9_begin_60 fX9_13 rfl rfl ?_
    refine g_iload_n dX9_begin_63 rfl ?_
    refine g_iconst 0 dX9_begin_64 (by decide) ?_
    obtain ⟨v5, h⟩ := h
    refine h_iast (x2.toNatClampNeg) dX9_begin_65 rfl rfl v5 rfl ?_
    refine g_aload_n dX9_begin_66 rfl ?_
    refine g_getr (r2 := 3) dX9_begin_67 fX9_16 rfl rfl ?_
    refine g_iload_n dX9_begin_70 rfl ?_
    refine g_bipush (-6) dX9_begin_71 (by decide) ?_
    refine h_iast (x2.toNatClampNeg) dX9_begin_73 rfl rfl v5 rfl ?_
    refine g_iinc (x2 + 1) [some (sR 0), some (sI x1), some (sI (x2 + 1))] dX9_begin_74 rfl rfl (by decide) rfl ?_
    refine g_goto 7 dX9_begin_77 (by decide) ?_
    exact sG.loc (s_le_s (s_le_s (s_le_s s_le_0))) h
