-- SEGMENTS of X0 (printed by wip/whole/walker.py)
set_option maxRecDepth 20000 in
theorem eX0_weigh {d : Nat} {Q : Option sAV → sM → Prop} {μ : sM} {a1 : Int32} {a2 : Int32} (h : sG sLL mX0_weigh (d + 1) Q 5 [some (sR 57), some (sI a1), some (sI a2), some (sI 0), some (sI 0)] [] μ) : sCl sLL mX0_weigh (d + 1) [sR 57, sI a1, sI a2] μ Q := by
  refine sG.loc (al2 := [some (sR 57), some (sI a1), some (sI a2), none, none]) (s_le_s (s_le_s (s_le_s (s_le_p (s_le_p s_le_0))))) ?_
  refine g_iconst 0 dX0_weigh_0 (by decide) ?_
  refine g_istore_n [some (sR 57), some (sI a1), some (sI a2), some (sI 0), none] dX0_weigh_1 rfl (by decide) rfl ?_
  refine g_iconst 0 dX0_weigh_2 (by decide) ?_
  refine g_istore [some (sR 57), some (sI a1), some (sI a2), some (sI 0), some (sI 0)] dX0_weigh_3 (by decide) rfl ?_
  exact sG.loc (s_le_s (s_le_s (s_le_s (s_le_s (s_le_s s_le_0))))) h
set_option maxRecDepth 20000 in
theorem sX0_weigh_5 {d : Nat} {Q : Option sAV → sM → Prop} {μ : sM} {x1 : Int32} {x2 : Int32} {x3 : Int32} {x4 : Int32} (h : ((4 ≤ x4 → sG sLL mX0_weigh (d + 1) Q 50 [some (sR 57), some (sI x1), some (sI x2), some (sI x3), some (sI 0)] [] (s_ul μ 57 3 1)) ∧ (¬ 4 ≤ x4 → sCl sLL mX6_hasGuest d [sR 1, sI x4] μ (kI fun r1 μ1 => ((r1 = 0 → sG sLL mX0_weigh (d + 1) Q 5 [some (sR 57), some (sI x1), some (sI x2), some (sI x3), some (sI (x4 + 1))] [] μ1) ∧ (¬ r1 = 0 → (vp_in x4 4 ∧ sG sLL mX0_weigh (d + 1) Q 5 [some (sR 57), some (sI x1), some (sI x2), some (sI (x3 + (μ1.1 12 x4.toNatClampNeg))), some (sI (x4 + 1))] [] μ1))))))) : sG sLL mX0_weigh (d + 1) Q 5 [some (sR 57), some (sI x1), some (sI x2), some (sI x3), some (sI x4)] [] μ := by
  refine g_iload dX0_weigh_5 rfl ?_
  refine g_iconst 4 dX0_weigh_7 (by decide) ?_
  refine g_icmp_ge 42 dX0_weigh_8 (by decide) (fun q => ?_) (fun q => ?_)
  · have h := h.1 q
    refine g_aload_n dX0_weigh_42 rfl ?_
    refine g_lconst 1 dX0_weigh_43 (by decide) ?_
    refine g_putl dX0_weigh_44 fX0_29 rfl rfl rfl rfl ?_
    refine g_iconst 0 dX0_weigh_47 (by decide) ?_
    refine g_istore [some (sR 57), some (sI x1), some (sI x2), some (sI x3), some (sI 0)] dX0_weigh_48 (by decide) rfl ?_
    exact sG.loc (s_le_s (s_le_s (s_le_s (s_le_s (s_le_s s_le_0))))) h
  · have h := h.2 q
    refine g_aload_n dX0_weigh_11 rfl ?_
    refine g_getr (r2 := 1) dX0_weigh_12 fX0_9 rfl rfl ?_
    refine g_iload dX0_weigh_15 rfl ?_
    refine g_callVi (mi2 := mX6_hasGuest) (r := 1) (st := []) [sI x4] dX0_weigh_17 lX0_19 kX6_hasGuest vX6_hasGuest rfl rfl rfl (Nat.le_of_ble_eq_true rfl) (Nat.le_of_ble_eq_true rfl) (Nat.le_of_ble_eq_true rfl) rfl ?_
    refine sG.mono h (kI_mono fun r1 μ1 h => ?_)
    refine g_if_eq 36 dX0_weigh_20 (by decide) (fun q => ?_) (fun q => ?_)
    · have h := h.1 q
      refine g_iinc (x4 + 1) [some (sR 57), some (sI x1), some (sI x2), some (sI x3), some (sI (x4 + 1))] dX0_weigh_36 rfl rfl (by decide) rfl ?_
      refine g_goto 5 dX0_weigh_39 (by decide) ?_
      exact sG.loc (s_le_s (s_le_s (s_le_s (s_le_s (s_le_s s_le_0))))) h
    · have h := h.2 q
      refine g_iload_n dX0_weigh_23 rfl ?_
      refine g_aload_n dX0_weigh_24 rfl ?_
      refine g_getr (r2 := 1) dX0_weigh_25 fX0_9 rfl rfl ?_
      refine g_getr (r2 := 12) dX0_weigh_28 fX0_25 rfl rfl ?_
      refine g_iload dX0_weigh_31 rfl ?_
      obtain ⟨v1, h⟩ := h
      refine h_iald (μ1.1 12 x4.toNatClampNeg) dX0_weigh_33 rfl rfl v1 rfl ?_
      refine g_iadd dX0_weigh_34 ?_
      refine g_istore_n [some (sR 57), some (sI x1), some (sI x2), some (sI (x3 + (μ1.1 12 x4.toNatClampNeg))), some (sI x4)] dX0_weigh_35 rfl (by decide) rfl ?_
      refine g_iinc (x4 + 1) [some (sR 57), some (sI x1), some (sI x2), some (sI (x3 + (μ1.1 12 x4.toNatClampNeg))), some (sI (x4 + 1))] dX0_weigh_36 rfl rfl (by decide) rfl ?_
      refine g_goto 5 dX0_weigh_39 (by decide) ?_
      exact sG.loc (s_le_s (s_le_s (s_le_s (s_le_s (s_le_s s_le_0))))) h
set_option maxRecDepth 20000 in
theorem sX0_weigh_50 {d : Nat} {Q : Option sAV → sM → Prop} {μ : sM} {x1 : Int32} {x2 : Int32} {x3 : Int32} {x4 : Int32} (h : ((x1 ≤ x4 → sCl sLL mX1_begin d [sR 35] μ (kV fun μ1 => ((¬ x1 = 0 → sCl sLL mX0_ways d [sR 57, sI (if 6 < x1 then 6 else x1), sI x2] μ1 (kL fun r2 μ2 => sCl sLL mX0_reduce d [sR 57] (s_ul μ2 57 2 r2) (kV fun μ3 => Q none μ3))) ∧ (x1 = 0 → ((x2 = (-1) → sCl sLL mX0_ways d [sR 57, sI (if 6 < x1 then 6 else x1), sI x2] μ1 (kL fun r2 μ2 => sCl sLL mX0_reduce d [sR 57] (s_ul μ2 57 2 r2) (kV fun μ3 => Q none μ3))) ∧ (¬ x2 = (-1) → sCl sLL mX0_reduce d [sR 57] (s_ul μ1 57 2 0) (kV fun μ2 => Q none μ2))))))) ∧ (¬ x1 ≤ x4 → sG sLL mX0_weigh (d + 1) Q 50 [some (sR 57), some (sI x1), some (sI x2), some (sI x3), some (sI (x4 + 1))] [] (s_ul μ 57 3 ((μ.2 57 3) * x3.toInt64))))) : sG sLL mX0_weigh (d + 1) Q 50 [some (sR 57), some (sI x1), some (sI x2), some (sI x3), some (sI x4)] [] μ := by
  refine g_iload dX0_weigh_50 rfl ?_
  refine g_iload_n dX0_weigh_52 rfl ?_
  refine g_icmp_ge 73 dX0_weigh_53 (by decide) (fun q => ?_) (fun q => ?_)
  · have h := h.1 q
    refine g_aload_n dX0_weigh_73 rfl ?_
    refine g_getr (r2 := 35) dX0_weigh_74 fX0_15 rfl rfl ?_
    refine g_callVv (mi2 := mX1_begin) (r := 35) (st := []) [] dX0_weigh_77 lX0_33 kX1_begin vX1_begin rfl rfl rfl (Nat.le_of_ble_eq_true rfl) (Nat.le_of_ble_eq_true rfl) (Nat.le_of_ble_eq_true rfl) rfl ?_
    refine sG.mono h (kV_mono fun μ1 h => ?_)
    refine g_aload_n dX0_weigh_80 rfl ?_
    refine g_iload_n dX0_weigh_81 rfl ?_
    refine g_if_ne 94 dX0_weigh_82 (by decide) (fun q => ?_) (fun q => ?_)
    · have h := h.1 q
      refine g_aload_n dX0_weigh_94 rfl ?_
      refine g_iload_n dX0_weigh_95 rfl ?_
      refine g_bipush 6 dX0_weigh_96 (by decide) ?_
      refine g_mmin dX0_weigh_98 lX0_38 (Nat.le_of_ble_eq_true rfl) ?_
      refine g_iload_n dX0_weigh_101 rfl ?_
      refine g_callVl (mi2 := mX0_ways) (r := 57) (st := [sR 57]) [sI (if 6 < x1 then 6 else x1), sI x2] dX0_weigh_102 lX0_44 kX0_ways vX0_ways rfl rfl rfl (Nat.le_of_ble_eq_true rfl) (Nat.le_of_ble_eq_true rfl) (Nat.le_of_ble_eq_true rfl) rfl ?_
      refine sG.mono h (kL_mono fun r2 μ2 h => ?_)
      refine g_putl dX0_weigh_105 fX0_48 rfl rfl rfl rfl ?_
      refine g_aload_n dX0_weigh_108 rfl ?_
      refine g_callVv (mi2 := mX0_reduce) (r := 57) (st := []) [] dX0_weigh_109 lX0_51 kX0_reduce vX0_reduce rfl rfl rfl (Nat.le_of_ble_eq_true rfl) (Nat.le_of_ble_eq_true rfl) (Nat.le_of_ble_eq_true rfl) rfl ?_
      refine sG.mono h (kV_mono fun μ3 h => ?_)
      exact g_vret dX0_weigh_112 rfl h
    · have h := h.2 q
      refine g_iload_n dX0_weigh_85 rfl ?_
      refine g_iconst (-1) dX0_weigh_86 (by decide) ?_
      refine g_icmp_eq 94 dX0_weigh_87 (by decide) (fun q => ?_) (fun q => ?_)
      · have h := h.1 q
        refine g_aload_n dX0_weigh_94 rfl ?_
        refine g_iload_n dX0_weigh_95 rfl ?_
        refine g_bipush 6 dX0_weigh_96 (by decide) ?_
        refine g_mmin dX0_weigh_98 lX0_38 (Nat.le_of_ble_eq_true rfl) ?_
        refine g_iload_n dX0_weigh_101 rfl ?_
        refine g_callVl (mi2 := mX0_ways) (r := 57) (st := [sR 57]) [sI (if 6 < x1 then 6 else x1), sI x2] dX0_weigh_102 lX0_44 kX0_ways vX0_ways rfl rfl rfl (Nat.le_of_ble_eq_true rfl) (Nat.le_of_ble_eq_true rfl) (Nat.le_of_ble_eq_true rfl) rfl ?_
        refine sG.mono h (kL_mono fun r2 μ2 h => ?_)
        refine g_putl dX0_weigh_105 fX0_48 rfl rfl rfl rfl ?_
        refine g_aload_n dX0_weigh_108 rfl ?_
        refine g_callVv (mi2 := mX0_reduce) (r := 57) (st := []) [] dX0_weigh_109 lX0_51 kX0_reduce vX0_reduce rfl rfl rfl (Nat.le_of_ble_eq_true rfl) (Nat.le_of_ble_eq_true rfl) (Nat.le_of_ble_eq_true rfl) rfl ?_
        refine sG.mono h (kV_mono fun μ3 h => ?_)
        exact g_vret dX0_weigh_112 rfl h
      · have h := h.2 q
        refine g_lconst 0 dX0_weigh_90 (by decide) ?_
        refine g_goto 105 dX0_weigh_91 (by decide) ?_
        refine g_putl dX0_weigh_105 fX0_48 rfl rfl rfl rfl ?_
        refine g_aload_n dX0_weigh_108 rfl ?_
        refine g_callVv (mi2 := mX0_reduce) (r := 57) (st := []) [] dX0_weigh_109 lX0_51 kX0_reduce vX0_reduce rfl rfl rfl (Nat.le_of_ble_eq_true rfl) (Nat.le_of_ble_eq_true rfl) (Nat.le_of_ble_eq_true rfl) rfl ?_
        refine sG.mono h (kV_mono fun μ2 h => ?_)
        exact g_vret dX0_weigh_112 rfl h
  · have h := h.2 q
    refine g_aload_n dX0_weigh_56 rfl ?_
    refine g_dup_r dX0_weigh_57 ?_
    refine h_getl (μ.2 57 3) dX0_weigh_58 fX0_29 rfl rfl rfl ?_
    refine g_iload_n dX0_weigh_61 rfl ?_
    refine g_i2l dX0_weigh_62 ?_
    refine g_lmul dX0_weigh_63 ?_
    refine g_putl dX0_weigh_64 fX0_29 rfl rfl rfl rfl ?_
    refine g_iinc (x4 + 1) [some (sR 57), some (sI x1), some (sI x2), some (sI x3), some (sI (x4 + 1))] dX0_weigh_67 rfl rfl (by decide) rfl ?_
    refine g_goto 50 dX0_weigh_70 (by decide) ?_
    exact sG.loc (s_le_s (s_le_s (s_le_s (s_le_s (s_le_s s_le_0))))) h
set_option maxRecDepth 20000 in
theorem eX0_ways {d : Nat} {Q : Option sAV → sM → Prop} {μ : sM} {a1 : Int32} {a2 : Int32} (h : sCl sLL mX1_stillToEat d [sR 35, sR 8] μ (kI fun r1 μ1 => ((¬ r1 = (-6) → ((0 < a1 → sG sLL mX0_ways (d + 1) Q 43 [some (sR 57), some (sI a1), some (sI a2), some (sI r1), some (sL 0), none, some (sI 0), none, none, none] [] μ1) ∧ (¬ 0 < a1 → ((¬ r1 = 0 → Q (some (sL 0)) μ1) ∧ (r1 = 0 → Q (some (sL 1)) μ1))))) ∧ (r1 = (-6) → Q (some (sL 0)) μ1)))) : sCl sLL mX0_ways (d + 1) [sR 57, sI a1, sI a2] μ Q := by
  refine sG.loc (al2 := [some (sR 57), some (sI a1), some (sI a2), none, none, none, none, none, none, none]) (s_le_s (s_le_s (s_le_s (s_le_p (s_le_p (s_le_p (s_le_p (s_le_p (s_le_p (s_le_p s_le_0)))))))))) ?_
  refine g_aload_n dX0_ways_0 rfl ?_
  refine g_getr (r2 := 35) dX0_ways_1 fX0_15 rfl rfl ?_
  refine g_aload_n dX0_ways_4 rfl ?_
  refine g_getr (r2 := 1) dX0_ways_5 fX0_9 rfl rfl ?_
  refine g_getr (r2 := 8) dX0_ways_8 fX0_54 rfl rfl ?_
  refine g_callVi (mi2 := mX1_stillToEat) (r := 35) (st := []) [sR 8] dX0_ways_11 lX0_57 kX1_stillToEat vX1_stillToEat rfl rfl rfl (Nat.le_of_ble_eq_true rfl) (Nat.le_of_ble_eq_true rfl) (Nat.le_of_ble_eq_true rfl) rfl ?_
  refine sG.mono h (kI_mono fun r1 μ1 h => ?_)
  refine g_istore_n [some (sR 57), some (sI a1), some (sI a2), some (sI r1), none, none, none, none, none, none] dX0_ways_14 rfl (by decide) rfl ?_
  refine g_iload_n dX0_ways_15 rfl ?_
  refine g_bipush (-6) dX0_ways_16 (by decide) ?_
  refine g_icmp_ne 23 dX0_ways_18 (by decide) (fun q => ?_) (fun q => ?_)
  · have h := h.1 q
    refine g_iload_n dX0_ways_23 rfl ?_
    refine g_if_gt 37 dX0_ways_24 (by decide) (fun q => ?_) (fun q => ?_)
    · have h := h.1 q
      refine g_lconst 0 dX0_ways_37 (by decide) ?_
      refine g_lstore [some (sR 57), some (sI a1), some (sI a2), some (sI r1), some (sL 0), none, none, none, none, none] dX0_ways_38 (by decide) rfl ?_
      refine g_iconst 0 dX0_ways_40 (by decide) ?_
      refine g_istore [some (sR 57), some (sI a1), some (sI a2), some (sI r1), some (sL 0), none, some (sI 0), none, none, none] dX0_ways_41 (by decide) rfl ?_
      exact sG.loc (s_le_s (s_le_s (s_le_s (s_le_s (s_le_s (s_le_n (s_le_s (s_le_n (s_le_n (s_le_n s_le_0)))))))))) h
    · have h := h.2 q
      refine g_iload_n dX0_ways_27 rfl ?_
      refine g_if_ne 35 dX0_ways_28 (by decide) (fun q => ?_) (fun q => ?_)
      · have h := h.1 q
        refine g_lconst 0 dX0_ways_35 (by decide) ?_
        exact g_lret dX0_ways_36 rfl h
      · have h := h.2 q
        refine g_lconst 1 dX0_ways_31 (by decide) ?_
        refine g_goto 36 dX0_ways_32 (by decide) ?_
        exact g_lret dX0_ways_36 rfl h
  · have h := h.2 q
    refine g_lconst 0 dX0_ways_21 (by decide) ?_
    exact g_lret dX0_ways_22 rfl h
set_option maxRecDepth 20000 in
theorem sX0_ways_43 {d : Nat} {Q : Option sAV → sM → Prop} {μ : sM} {x1 : Int32} {x2 : Int32} {x3 : Int32} {y4 : Int64} {x6 : Int32} (h : ((4 ≤ x6 → Q (some (sL y4)) μ) ∧ (¬ 4 ≤ x6 → sCl sLL mX6_hasGuest d [sR 1, sI x6] μ (kI fun r1 μ1 => ((r1 = 0 → sG sLL mX0_ways (d + 1) Q 43 [some (sR 57), some (sI x1), some (sI x2), some (sI x3), some (sL y4), none, some (sI (x6 + 1)), none, none, none] [] μ1) ∧ (¬ r1 = 0 → ((x2 = (-1) → sCl sLL mX1_visit d [sR 35, sI x6] μ1 (kI fun r2 μ2 => (vp_in x6 4 ∧ sCl sLL mX0_ways d [sR 57, sI (x1 - 1), sI (-1)] μ2 (kL fun r3 μ3 => ((r2 ≤ 0 → sG sLL mX0_ways (d + 1) Q 43 [some (sR 57), some (sI x1), some (sI x2), some (sI x3), some (sL (y4 + ((μ2.1 12 x6.toNatClampNeg).toInt64 * r3))), none, some (sI (x6 + 1)), none, none, none] [] μ3) ∧ (¬ r2 ≤ 0 → sCl sLL mX1_takeBack d [sR 35, sI (μ2.1 35 3), sI r2, sI (μ1.1 35 3)] μ3 (kV fun μ4 => sG sLL mX0_ways (d + 1) Q 43 [some (sR 57), some (sI x1), some (sI x2), some (sI x3), some (sL (y4 + ((μ2.1 12 x6.toNatClampNeg).toInt64 * r3))), none, some (sI (x6 + 1)), none, none, none] [] μ4))))))) ∧ (¬ x2 = (-1) → ((x2 = x6 → sCl sLL mX1_visit d [sR 35, sI x6] μ1 (kI fun r2 μ2 => (vp_in x6 4 ∧ sCl sLL mX0_ways d [sR 57, sI (x1 - 1), sI (-1)] μ2 (kL fun r3 μ3 => ((r2 ≤ 0 → sG sLL mX0_ways (d + 1) Q 43 [some (sR 57), some (sI x1), some (sI x2), some (sI x3), some (sL (y4 + ((μ2.1 12 x6.toNatClampNeg).toInt64 * r3))), none, some (sI (x6 + 1)), none, none, none] [] μ3) ∧ (¬ r2 ≤ 0 → sCl sLL mX1_takeBack d [sR 35, sI (μ2.1 35 3), sI r2, sI (μ1.1 35 3)] μ3 (kV fun μ4 => sG sLL mX0_ways (d + 1) Q 43 [some (sR 57), some (sI x1), some (sI x2), some (sI x3), some (sL (y4 + ((μ2.1 12 x6.toNatClampNeg).toInt64 * r3))), none, some (sI (x6 + 1)), none, none, none] [] μ4))))))) ∧ (¬ x2 = x6 → sG sLL mX0_ways (d + 1) Q 43 [some (sR 57), some (sI x1), some (sI x2), some (sI x3), some (sL y4), none, some (sI (x6 + 1)), none, none, none] [] μ1)))))))))) : sG sLL mX0_ways (d + 1) Q 43 [some (sR 57), some (sI x1), some (sI x2), some (sI x3), some (sL y4), none, some (sI x6), none, none, none] [] μ := by
  refine g_iload dX0_ways_43 rfl ?_
  refine g_iconst 4 dX0_ways_45 (by decide) ?_
  refine g_icmp_ge 153 dX0_ways_46 (by decide) (fun q => ?_) (fun q => ?_)
  · have h := h.1 q
    refine g_lload dX0_ways_153 rfl ?_
    exact g_lret dX0_ways_155 rfl h
  · have h := h.2 q
    refine g_aload_n dX0_ways_49 rfl ?_
    refine g_getr (r2 := 1) dX0_ways_50 fX0_9 rfl rfl ?_
    refine g_iload dX0_ways_53 rfl ?_
    refine g_callVi (mi2 := mX6_hasGuest) (r := 1) (st := []) [sI x6] dX0_ways_55 lX0_19 kX6_hasGuest vX6_hasGuest rfl rfl rfl (Nat.le_of_ble_eq_true rfl) (Nat.le_of_ble_eq_true rfl) (Nat.le_of_ble_eq_true rfl) rfl ?_
    refine sG.mono h (kI_mono fun r1 μ1 h => ?_)
    refine g_if_eq 147 dX0_ways_58 (by decide) (fun q => ?_) (fun q => ?_)
    · have h := h.1 q
      refine g_iinc (x6 + 1) [some (sR 57), some (sI x1), some (sI x2), some (sI x3), some (sL y4), none, some (sI (x6 + 1)), none, none, none] dX0_ways_147 rfl rfl (by decide) rfl ?_
      refine g_goto 43 dX0_ways_150 (by decide) ?_
      exact sG.loc (s_le_s (s_le_s (s_le_s (s_le_s (s_le_s (s_le_n (s_le_s (s_le_n (s_le_n (s_le_n s_le_0)))))))))) h
    · have h := h.2 q
      refine g_iload_n dX0_ways_61 rfl ?_
      refine g_iconst (-1) dX0_ways_62 (by decide) ?_
      refine g_icmp_eq 75 dX0_ways_63 (by decide) (fun q => ?_) (fun q => ?_)
      · have h := h.1 q
        refine g_aload_n dX0_ways_75 rfl ?_
        refine g_getr (r2 := 35) dX0_ways_76 fX0_15 rfl rfl ?_
        refine h_geti (μ1.1 35 3) dX0_ways_79 fX0_61 rfl rfl rfl ?_
        refine g_istore [some (sR 57), some (sI x1), some (sI x2), some (sI x3), some (sL y4), none, some (sI x6), some (sI (μ1.1 35 3)), none, none] dX0_ways_82 (by decide) rfl ?_
        refine g_aload_n dX0_ways_84 rfl ?_
        refine g_getr (r2 := 35) dX0_ways_85 fX0_15 rfl rfl ?_
        refine g_iload dX0_ways_88 rfl ?_
        refine g_callVi (mi2 := mX1_visit) (r := 35) (st := []) [sI x6] dX0_ways_90 lX0_65 kX1_visit vX1_visit rfl rfl rfl (Nat.le_of_ble_eq_true rfl) (Nat.le_of_ble_eq_true rfl) (Nat.le_of_ble_eq_true rfl) rfl ?_
        refine sG.mono h (kI_mono fun r2 μ2 h => ?_)
        refine g_istore [some (sR 57), some (sI x1), some (sI x2), some (sI x3), some (sL y4), none, some (sI x6), some (sI (μ1.1 35 3)), some (sI r2), none] dX0_ways_93 (by decide) rfl ?_
        refine g_aload_n dX0_ways_95 rfl ?_
        refine g_getr (r2 := 35) dX0_ways_96 fX0_15 rfl rfl ?_
        refine h_geti (μ2.1 35 3) dX0_ways_99 fX0_61 rfl rfl rfl ?_
        refine g_istore [some (sR 57), some (sI x1), some (sI x2), some (sI x3), some (sL y4), none, some (sI x6), some (sI (μ1.1 35 3)), some (sI r2), some (sI (μ2.1 35 3))] dX0_ways_102 (by decide) rfl ?_
        refine g_lload dX0_ways_104 rfl ?_
        refine g_aload_n dX0_ways_106 rfl ?_
        refine g_getr (r2 := 1) dX0_ways_107 fX0_9 rfl rfl ?_
        refine g_getr (r2 := 12) dX0_ways_110 fX0_25 rfl rfl ?_
        refine g_iload dX0_ways_113 rfl ?_
        obtain ⟨v1, h⟩ := h
        refine h_iald (μ2.1 12 x6.toNatClampNeg) dX0_ways_115 rfl rfl v1 rfl ?_
        refine g_i2l dX0_ways_116 ?_
        refine g_aload_n dX0_ways_117 rfl ?_
        refine g_iload_n dX0_ways_118 rfl ?_
        refine g_iconst 1 dX0_ways_119 (by decide) ?_
        refine g_isub dX0_ways_120 ?_
        refine g_iconst (-1) dX0_ways_121 (by decide) ?_
        refine g_callVl (mi2 := mX0_ways) (r := 57) (st := [sL (μ2.1 12 x6.toNatClampNeg).toInt64, sL y4]) [sI (x1 - 1), sI (-1)] dX0_ways_122 lX0_44 kX0_ways vX0_ways rfl rfl rfl (Nat.le_of_ble_eq_true rfl) (Nat.le_of_ble_eq_true rfl) (Nat.le_of_ble_eq_true rfl) rfl ?_
        refine sG.mono h (kL_mono fun r3 μ3 h => ?_)
        refine g_lmul dX0_ways_125 ?_
        refine g_ladd dX0_ways_126 ?_
        refine g_lstore [some (sR 57), some (sI x1), some (sI x2), some (sI x3), some (sL (y4 + ((μ2.1 12 x6.toNatClampNeg).toInt64 * r3))), none, some (sI x6), some (sI (μ1.1 35 3)), some (sI r2), some (sI (μ2.1 35 3))] dX0_ways_127 (by decide) rfl ?_
        refine g_iload dX0_ways_129 rfl ?_
        refine g_if_le 147 dX0_ways_131 (by decide) (fun q => ?_) (fun q => ?_)
        · have h := h.1 q
          refine g_iinc (x6 + 1) [some (sR 57), some (sI x1), some (sI x2), some (sI x3), some (sL (y4 + ((μ2.1 12 x6.toNatClampNeg).toInt64 * r3))), none, some (sI (x6 + 1)), some (sI (μ1.1 35 3)), some (sI r2), some (sI (μ2.1 35 3))] dX0_ways_147 rfl rfl (by decide) rfl ?_
          refine g_goto 43 dX0_ways_150 (by decide) ?_
          exact sG.loc (s_le_s (s_le_s (s_le_s (s_le_s (s_le_s (s_le_n (s_le_s (s_le_n (s_le_n (s_le_n s_le_0)))))))))) h
        · have h := h.2 q
          refine g_aload_n dX0_ways_134 rfl ?_
          refine g_getr (r2 := 35) dX0_ways_135 fX0_15 rfl rfl ?_
          refine g_iload dX0_ways_138 rfl ?_
          refine g_iload dX0_ways_140 rfl ?_
          refine g_iload dX0_ways_142 rfl ?_
          refine g_callVv (mi2 := mX1_takeBack) (r := 35) (st := []) [sI (μ2.1 35 3), sI r2, sI (μ1.1 35 3)] dX0_ways_144 lX0_69 kX1_takeBack vX1_takeBack rfl rfl rfl (Nat.le_of_ble_eq_true rfl) (Nat.le_of_ble_eq_true rfl) (Nat.le_of_ble_eq_true rfl) rfl ?_
          refine sG.mono h (kV_mono fun μ4 h => ?_)
          refine g_iinc (x6 + 1) [some (sR 57), some (sI x1), some (sI x2), some (sI x3), some (sL (y4 + ((μ2.1 12 x6.toNatClampNeg).toInt64 * r3))), none, some (sI (x6 + 1)), some (sI (μ1.1 35 3)), some (sI r2), some (sI (μ2.1 35 3))] dX0_ways_147 rfl rfl (by decide) rfl ?_
          refine g_goto 43 dX0_ways_150 (by decide) ?_
          exact sG.loc (s_le_s (s_le_s (s_le_s (s_le_s (s_le_s (s_le_n (s_le_s (s_le_n (s_le_n (s_le_n s_le_0)))))))))) h
      · have h := h.2 q
        refine g_iload_n dX0_ways_66 rfl ?_
        refine g_iload dX0_ways_67 rfl ?_
        refine g_icmp_eq 75 dX0_ways_69 (by decide) (fun q => ?_) (fun q => ?_)
        · have h := h.1 q
          refine g_aload_n dX0_ways_75 rfl ?_
          refine g_getr (r2 := 35) dX0_ways_76 fX0_15 rfl rfl ?_
          refine h_geti (μ1.1 35 3) dX0_ways_79 fX0_61 rfl rfl rfl ?_
          refine g_istore [some (sR 57), some (sI x1), some (sI x2), some (sI x3), some (sL y4), none, some (sI x6), some (sI (μ1.1 35 3)), none, none] dX0_ways_82 (by decide) rfl ?_
          refine g_aload_n dX0_ways_84 rfl ?_
          refine g_getr (r2 := 35) dX0_ways_85 fX0_15 rfl rfl ?_
          refine g_iload dX0_ways_88 rfl ?_
          refine g_callVi (mi2 := mX1_visit) (r := 35) (st := []) [sI x6] dX0_ways_90 lX0_65 kX1_visit vX1_visit rfl rfl rfl (Nat.le_of_ble_eq_true rfl) (Nat.le_of_ble_eq_true rfl) (Nat.le_of_ble_eq_true rfl) rfl ?_
          refine sG.mono h (kI_mono fun r2 μ2 h => ?_)
          refine g_istore [some (sR 57), some (sI x1), some (sI x2), some (sI x3), some (sL y4), none, some (sI x6), some (sI (μ1.1 35 3)), some (sI r2), none] dX0_ways_93 (by decide) rfl ?_
          refine g_aload_n dX0_ways_95 rfl ?_
          refine g_getr (r2 := 35) dX0_ways_96 fX0_15 rfl rfl ?_
          refine h_geti (μ2.1 35 3) dX0_ways_99 fX0_61 rfl rfl rfl ?_
          refine g_istore [some (sR 57), some (sI x1), some (sI x2), some (sI x3), some (sL y4), none, some (sI x6), some (sI (μ1.1 35 3)), some (sI r2), some (sI (μ2.1 35 3))] dX0_ways_102 (by decide) rfl ?_
          refine g_lload dX0_ways_104 rfl ?_
          refine g_aload_n dX0_ways_106 rfl ?_
          refine g_getr (r2 := 1) dX0_ways_107 fX0_9 rfl rfl ?_
          refine g_getr (r2 := 12) dX0_ways_110 fX0_25 rfl rfl ?_
          refine g_iload dX0_ways_113 rfl ?_
          obtain ⟨v1, h⟩ := h
          refine h_iald (μ2.1 12 x6.toNatClampNeg) dX0_ways_115 rfl rfl v1 rfl ?_
          refine g_i2l dX0_ways_116 ?_
          refine g_aload_n dX0_ways_117 rfl ?_
          refine g_iload_n dX0_ways_118 rfl ?_
          refine g_iconst 1 dX0_ways_119 (by decide) ?_
          refine g_isub dX0_ways_120 ?_
          refine g_iconst (-1) dX0_ways_121 (by decide) ?_
          refine g_callVl (mi2 := mX0_ways) (r := 57) (st := [sL (μ2.1 12 x6.toNatClampNeg).toInt64, sL y4]) [sI (x1 - 1), sI (-1)] dX0_ways_122 lX0_44 kX0_ways vX0_ways rfl rfl rfl (Nat.le_of_ble_eq_true rfl) (Nat.le_of_ble_eq_true rfl) (Nat.le_of_ble_eq_true rfl) rfl ?_
          refine sG.mono h (kL_mono fun r3 μ3 h => ?_)
          refine g_lmul dX0_ways_125 ?_
          refine g_ladd dX0_ways_126 ?_
          refine g_lstore [some (sR 57), some (sI x1), some (sI x2), some (sI x3), some (sL (y4 + ((μ2.1 12 x6.toNatClampNeg).toInt64 * r3))), none, some (sI x6), some (sI (μ1.1 35 3)), some (sI r2), some (sI (μ2.1 35 3))] dX0_ways_127 (by decide) rfl ?_
          refine g_iload dX0_ways_129 rfl ?_
          refine g_if_le 147 dX0_ways_131 (by decide) (fun q => ?_) (fun q => ?_)
          · have h := h.1 q
            refine g_iinc (x6 + 1) [some (sR 57), some (sI x1), some (sI x2), some (sI x3), some (sL (y4 + ((μ2.1 12 x6.toNatClampNeg).toInt64 * r3))), none, some (sI (x6 + 1)), some (sI (μ1.1 35 3)), some (sI r2), some (sI (μ2.1 35 3))] dX0_ways_147 rfl rfl (by decide) rfl ?_
            refine g_goto 43 dX0_ways_150 (by decide) ?_
            exact sG.loc (s_le_s (s_le_s (s_le_s (s_le_s (s_le_s (s_le_n (s_le_s (s_le_n (s_le_n (s_le_n s_le_0)))))))))) h
          · have h := h.2 q
            refine g_aload_n dX0_ways_134 rfl ?_
            refine g_getr (r2 := 35) dX0_ways_135 fX0_15 rfl rfl ?_
            refine g_iload dX0_ways_138 rfl ?_
            refine g_iload dX0_ways_140 rfl ?_
            refine g_iload dX0_ways_142 rfl ?_
            refine g_callVv (mi2 := mX1_takeBack) (r := 35) (st := []) [sI (μ2.1 35 3), sI r2, sI (μ1.1 35 3)] dX0_ways_144 lX0_69 kX1_takeBack vX1_takeBack rfl rfl rfl (Nat.le_of_ble_eq_true rfl) (Nat.le_of_ble_eq_true rfl) (Nat.le_of_ble_eq_true rfl) rfl ?_
            refine sG.mono h (kV_mono fun μ4 h => ?_)
            refine g_iinc (x6 + 1) [some (sR 57), some (sI x1), some (sI x2), some (sI x3), some (sL (y4 + ((μ2.1 12 x6.toNatClampNeg).toInt64 * r3))), none, some (sI (x6 + 1)), some (sI (μ1.1 35 3)), some (sI r2), some (sI (μ2.1 35 3))] dX0_ways_147 rfl rfl (by decide) rfl ?_
            refine g_goto 43 dX0_ways_150 (by decide) ?_
            exact sG.loc (s_le_s (s_le_s (s_le_s (s_le_s (s_le_s (s_le_n (s_le_s (s_le_n (s_le_n (s_le_n s_le_0)))))))))) h
        · have h := h.2 q
          refine g_goto 147 dX0_ways_72 (by decide) ?_
          refine g_iinc (x6 + 1) [some (sR 57), some (sI x1), some (sI x2), some (sI x3), some (sL y4), none, some (sI (x6 + 1)), none, none, none] dX0_ways_147 rfl rfl (by decide) rfl ?_
          refine g_goto 43 dX0_ways_150 (by decide) ?_
          exact sG.loc (s_le_s (s_le_s (s_le_s (s_le_s (s_le_s (s_le_n (s_le_s (s_le_n (s_le_n (s_le_n s_le_0)))))))))) h
set_option maxRecDepth 20000 in
theorem eX0_reduce {d : Nat} {Q : Option sAV → sM → Prop} {μ : sM} (h : sG sLL mX0_reduce d Q 13 [some (sR 57), some (sL (μ.2 57 2)), none, some (sL (μ.2 57 3)), none, some (sI 0), none, none] [] μ) : sCl sLL mX0_reduce d [sR 57] μ Q := by
  refine sG.loc (al2 := [some (sR 57), none, none, none, none, none, none, none]) (s_le_s (s_le_p (s_le_p (s_le_p (s_le_p (s_le_p (s_le_p (s_le_p s_le_0)))))))) ?_
  refine g_aload_n dX0_reduce_0 rfl ?_
  refine h_getl (μ.2 57 2) dX0_reduce_1 fX0_48 rfl rfl rfl ?_
  refine g_lstore_n [some (sR 57), some (sL (μ.2 57 2)), none, none, none, none, none, none] dX0_reduce_4 rfl (by decide) rfl ?_
  refine g_aload_n dX0_reduce_5 rfl ?_
  refine h_getl (μ.2 57 3) dX0_reduce_6 fX0_29 rfl rfl rfl ?_
  refine g_lstore_n [some (sR 57), some (sL (μ.2 57 2)), none, some (sL (μ.2 57 3)), none, none, none, none] dX0_reduce_9 rfl (by decide) rfl ?_
  refine g_iconst 0 dX0_reduce_10 (by decide) ?_
  refine g_istore [some (sR 57), some (sL (μ.2 57 2)), none, some (sL (μ.2 57 3)), none, some (sI 0), none, none] dX0_reduce_11 (by decide) rfl ?_
  exact sG.loc (s_le_s (s_le_s (s_le_n (s_le_s (s_le_n (s_le_s (s_le_n (s_le_n s_le_0)))))))) h
set_option maxRecDepth 20000 in
theorem sX0_reduce_13 {d : Nat} {Q : Option sAV → sM → Prop} {μ : sM} {y1 : Int64} {y3 : Int64} {x5 : Int32} (h : ((100 ≤ x5 → (((lg_cmp y1 1) ≤ 0 → Q none μ) ∧ (¬ (lg_cmp y1 1) ≤ 0 → (¬ y1 = 0 ∧ Q none (s_ul (s_ul μ 57 2 ((μ.2 57 2) / y1)) 57 3 ((μ.2 57 3) / y1)))))) ∧ (¬ 100 ≤ x5 → (((lg_cmp y3 0) = 0 → (((lg_cmp y1 1) ≤ 0 → Q none μ) ∧ (¬ (lg_cmp y1 1) ≤ 0 → (¬ y1 = 0 ∧ Q none (s_ul (s_ul μ 57 2 ((μ.2 57 2) / y1)) 57 3 ((μ.2 57 3) / y1)))))) ∧ (¬ (lg_cmp y3 0) = 0 → (¬ y3 = 0 ∧ sG sLL mX0_reduce d Q 13 [some (sR 57), some (sL y3), none, some (sL (s_lrem y1 y3)), none, some (sI (x5 + 1)), none, none] [] μ)))))) : sG sLL mX0_reduce d Q 13 [some (sR 57), some (sL y1), none, some (sL y3), none, some (sI x5), none, none] [] μ := by
  refine g_iload dX0_reduce_13 rfl ?_
  refine g_bipush 100 dX0_reduce_15 (by decide) ?_
  refine g_icmp_ge 42 dX0_reduce_17 (by decide) (fun q => ?_) (fun q => ?_)
  · have h := h.1 q
    refine g_lload_n dX0_reduce_42 rfl ?_
    refine g_lconst 1 dX0_reduce_43 (by decide) ?_
    refine g_lcmp dX0_reduce_44 ?_
    refine g_if_le 68 dX0_reduce_45 (by decide) (fun q => ?_) (fun q => ?_)
    · have h := h.1 q
      exact g_vret dX0_reduce_68 rfl h
    · have h := h.2 q
      refine g_aload_n dX0_reduce_48 rfl ?_
      refine g_dup_r dX0_reduce_49 ?_
      refine h_getl (μ.2 57 2) dX0_reduce_50 fX0_48 rfl rfl rfl ?_
      refine g_lload_n dX0_reduce_53 rfl ?_
      obtain ⟨z1, h⟩ := h
      refine g_ldiv dX0_reduce_54 z1 ?_
      refine g_putl dX0_reduce_55 fX0_48 rfl rfl rfl rfl ?_
      refine g_aload_n dX0_reduce_58 rfl ?_
      refine g_dup_r dX0_reduce_59 ?_
      refine h_getl (μ.2 57 3) dX0_reduce_60 fX0_29 rfl rfl rfl ?_
      refine g_lload_n dX0_reduce_63 rfl ?_
      refine g_ldiv dX0_reduce_64 z1 ?_
      refine g_putl dX0_reduce_65 fX0_29 rfl rfl rfl rfl ?_
      exact g_vret dX0_reduce_68 rfl h
  · have h := h.2 q
    refine g_lload_n dX0_reduce_20 rfl ?_
    refine g_lconst 0 dX0_reduce_21 (by decide) ?_
    refine g_lcmp dX0_reduce_22 ?_
    refine g_if_eq 42 dX0_reduce_23 (by decide) (fun q => ?_) (fun q => ?_)
    · have h := h.1 q
      refine g_lload_n dX0_reduce_42 rfl ?_
      refine g_lconst 1 dX0_reduce_43 (by decide) ?_
      refine g_lcmp dX0_reduce_44 ?_
      refine g_if_le 68 dX0_reduce_45 (by decide) (fun q => ?_) (fun q => ?_)
      · have h := h.1 q
        exact g_vret dX0_reduce_68 rfl h
      · have h := h.2 q
        refine g_aload_n dX0_reduce_48 rfl ?_
        refine g_dup_r dX0_reduce_49 ?_
        refine h_getl (μ.2 57 2) dX0_reduce_50 fX0_48 rfl rfl rfl ?_
        refine g_lload_n dX0_reduce_53 rfl ?_
        obtain ⟨z1, h⟩ := h
        refine g_ldiv dX0_reduce_54 z1 ?_
        refine g_putl dX0_reduce_55 fX0_48 rfl rfl rfl rfl ?_
        refine g_aload_n dX0_reduce_58 rfl ?_
        refine g_dup_r dX0_reduce_59 ?_
        refine h_getl (μ.2 57 3) dX0_reduce_60 fX0_29 rfl rfl rfl ?_
        refine g_lload_n dX0_reduce_63 rfl ?_
        refine g_ldiv dX0_reduce_64 z1 ?_
        refine g_putl dX0_reduce_65 fX0_29 rfl rfl rfl rfl ?_
        exact g_vret dX0_reduce_68 rfl h
    · have h := h.2 q
      refine g_lload_n dX0_reduce_26 rfl ?_
      refine g_lload_n dX0_reduce_27 rfl ?_
      obtain ⟨z1, h⟩ := h
      refine h_lrem dX0_reduce_28 z1 ?_
      refine g_lstore [some (sR 57), some (sL y1), none, some (sL y3), none, some (sI x5), some (sL (s_lrem y1 y3)), none] dX0_reduce_29 (by decide) rfl ?_
      refine g_lload_n dX0_reduce_31 rfl ?_
      refine g_lstore_n [some (sR 57), some (sL y3), none, some (sL y3), none, some (sI x5), some (sL (s_lrem y1 y3)), none] dX0_reduce_32 rfl (by decide) rfl ?_
      refine g_lload dX0_reduce_33 rfl ?_
      refine g_lstore_n [some (sR 57), some (sL y3), none, some (sL (s_lrem y1 y3)), none, some (sI x5), some (sL (s_lrem y1 y3)), none] dX0_reduce_35 rfl (by decide) rfl ?_
      refine g_iinc (x5 + 1) [some (sR 57), some (sL y3), none, some (sL (s_lrem y1 y3)), none, some (sI (x5 + 1)), some (sL (s_lrem y1 y3)), none] dX0_reduce_36 rfl rfl (by decide) rfl ?_
      refine g_goto 13 dX0_reduce_39 (by decide) ?_
      exact sG.loc (s_le_s (s_le_s (s_le_n (s_le_s (s_le_n (s_le_s (s_le_n (s_le_n s_le_0)))))))) h
