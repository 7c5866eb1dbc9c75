-- SEGMENTS of X5 (printed by wip/whole/walker.py)
set_option maxRecDepth 20000 in
theorem eX5_gathera {d : Nat} {Q : Option sAV → sM → Prop} {μ : sM} {a2 : Int32} (h : sCl sLL mJ7_fill_53178 d [sR 46, sI (-6)] (s_cp μ 8 44 7) (kV fun μ1 => sCl sLL mJ7_fill_53178 d [sR 48, sI 0] μ1 (kV fun μ2 => sG sLL mX5_gather (d + 1) Q 31 [some (sR 43), some (sR 8), some (sI a2), some (sI 0)] [] μ2))) : sCl sLL mX5_gather (d + 1) [sR 43, sR 8, sI a2] μ Q := by
  refine sG.loc (al2 := [some (sR 43), some (sR 8), some (sI a2), none]) (s_le_s (s_le_s (s_le_s (s_le_p s_le_0)))) ?_
  refine g_aload_n dX5_gather_0 rfl ?_
  refine g_iconst 0 dX5_gather_1 (by decide) ?_
  refine g_aload_n dX5_gather_2 rfl ?_
  refine g_getr (r2 := 44) dX5_gather_3 fX5_9 rfl rfl ?_
  refine g_iconst 0 dX5_gather_6 (by decide) ?_
  refine g_bipush 7 dX5_gather_7 (by decide) ?_
  refine h_copy dX5_gather_9 lX5_40 rfl rfl rfl rfl (by decide) (Nat.le_of_ble_eq_true rfl) (Nat.le_of_ble_eq_true rfl) ?_
  refine g_aload_n dX5_gather_12 rfl ?_
  refine g_getr (r2 := 46) dX5_gather_13 fX5_18 rfl rfl ?_
  refine g_bipush (-6) dX5_gather_16 (by decide) ?_
  refine g_callSv (mi2 := mJ7_fill_53178) (st := []) [sR 46, sI (-6)] dX5_gather_18 lX5_46 kJ7_fill_53178 vJ7_fill_53178 rfl (Nat.le_of_ble_eq_true rfl) (Nat.le_of_ble_eq_true rfl) (Nat.le_of_ble_eq_true rfl) rfl ?_
  refine sG.mono h (kV_mono fun μ1 h => ?_)
  refine g_aload_n dX5_gather_21 rfl ?_
  refine g_getr (r2 := 48) dX5_gather_22 fX5_24 rfl rfl ?_
  refine g_iconst 0 dX5_gather_25 (by decide) ?_
  refine g_callSv (mi2 := mJ7_fill_53178) (st := []) [sR 48, sI 0] dX5_gather_26 lX5_46 kJ7_fill_53178 vJ7_fill_53178 rfl (Nat.le_of_ble_eq_true rfl) (Nat.le_of_ble_eq_true rfl) (Nat.le_of_ble_eq_true rfl) rfl ?_
  refine sG.mono h (kV_mono fun μ2 h => ?_)
  refine g_iconst 0 dX5_gather_29 (by decide) ?_
  refine g_istore_n [some (sR 43), some (sR 8), some (sI a2), some (sI 0)] dX5_gather_30 rfl (by decide) rfl ?_
  exact sG.loc (s_le_s (s_le_s (s_le_s (s_le_s s_le_0)))) h
set_option maxRecDepth 20000 in
theorem sX5_gathera_31 {d : Nat} {Q : Option sAV → sM → Prop} {μ : sM} {x2 : Int32} {x3 : Int32} (h : ((7 ≤ x3 → sCl sLL mX1_begin d [sR 35] (s_u (s_u (s_u (s_u μ 43 5 0) 43 6 (-6)) 43 7 0) 43 8 0) (kV fun μ1 => sCl sLL mX5_walk d [sR 43, sI 0, sI 0, sI (if 6 < x2 then 6 else x2)] μ1 (kV fun μ2 => Q none μ2))) ∧ (¬ 7 ≤ x3 → (vp_in x3 7 ∧ sCl sLL mJ7_fill_53178 d [sR (50 + x3.toNatClampNeg), sI 0] μ (kV fun μ1 => sG sLL mX5_gather (d + 1) Q 31 [some (sR 43), some (sR 8), some (sI x2), some (sI (x3 + 1))] [] μ1))))) : sG sLL mX5_gather (d + 1) Q 31 [some (sR 43), some (sR 8), some (sI x2), some (sI x3)] [] μ := by
  refine g_iload_n dX5_gather_31 rfl ?_
  refine g_bipush 7 dX5_gather_32 (by decide) ?_
  refine g_icmp_ge 53 dX5_gather_34 (by decide) (fun q => ?_) (fun q => ?_)
  · have h := h.1 q
    refine g_aload_n dX5_gather_53 rfl ?_
    refine g_iconst 0 dX5_gather_54 (by decide) ?_
    refine g_puti dX5_gather_55 fX5_52 rfl rfl rfl rfl ?_
    refine g_aload_n dX5_gather_58 rfl ?_
    refine g_bipush (-6) dX5_gather_59 (by decide) ?_
    refine g_puti dX5_gather_61 fX5_56 rfl rfl rfl rfl ?_
    refine g_aload_n dX5_gather_64 rfl ?_
    refine g_iconst 0 dX5_gather_65 (by decide) ?_
    refine g_puti dX5_gather_66 fX5_59 rfl rfl rfl rfl ?_
    refine g_aload_n dX5_gather_69 rfl ?_
    refine g_iconst 0 dX5_gather_70 (by decide) ?_
    refine g_puti dX5_gather_71 fX5_62 rfl rfl rfl rfl ?_
    refine g_aload_n dX5_gather_74 rfl ?_
    refine g_getr (r2 := 35) dX5_gather_75 fX5_36 rfl rfl ?_
    refine g_callVv (mi2 := mX1_begin) (r := 35) (st := []) [] dX5_gather_78 lX5_65 kX1_begin vX1_begin rfl rfl rfl (Nat.le_of_ble_eq_true rfl) (Nat.le_of_ble_eq_true rfl) (Nat.le_of_ble_eq_true rfl) rfl ?_
    refine sG.mono h (kV_mono fun μ1 h => ?_)
    refine g_aload_n dX5_gather_81 rfl ?_
    refine g_iconst 0 dX5_gather_82 (by decide) ?_
    refine g_iconst 0 dX5_gather_83 (by decide) ?_
    refine g_iload_n dX5_gather_84 rfl ?_
    refine g_bipush 6 dX5_gather_85 (by decide) ?_
    refine g_mmin dX5_gather_87 lX5_70 (Nat.le_of_ble_eq_true rfl) ?_
    refine g_callVv (mi2 := mX5_walk) (r := 43) (st := []) [sI 0, sI 0, sI (if 6 < x2 then 6 else x2)] dX5_gather_90 lX5_76 kX5_walk vX5_walk rfl rfl rfl (Nat.le_of_ble_eq_true rfl) (Nat.le_of_ble_eq_true rfl) (Nat.le_of_ble_eq_true rfl) rfl ?_
    refine sG.mono h (kV_mono fun μ2 h => ?_)
    exact g_vret dX5_gather_93 rfl h
  · have h := h.2 q
    refine g_aload_n dX5_gather_37 rfl ?_
    refine g_getr (r2 := 49) dX5_gather_38 fX5_29 rfl rfl ?_
    refine g_iload_n dX5_gather_41 rfl ?_
    obtain ⟨v1, h⟩ := h
    refine h_aald (50 + x3.toNatClampNeg) dX5_gather_42 rfl rfl v1 rfl ?_
    refine g_iconst 0 dX5_gather_43 (by decide) ?_
    refine g_callSv (mi2 := mJ7_fill_53178) (st := []) [sR (50 + x3.toNatClampNeg), sI 0] dX5_gather_44 lX5_46 kJ7_fill_53178 vJ7_fill_53178 rfl (Nat.le_of_ble_eq_true rfl) (Nat.le_of_ble_eq_true rfl) (Nat.le_of_ble_eq_true rfl) rfl ?_
    refine sG.mono h (kV_mono fun μ1 h => ?_)
    refine g_iinc (x3 + 1) [some (sR 43), some (sR 8), some (sI x2), some (sI (x3 + 1))] dX5_gather_47 rfl rfl (by decide) rfl ?_
    refine g_goto 31 dX5_gather_50 (by decide) ?_
    exact sG.loc (s_le_s (s_le_s (s_le_s (s_le_s s_le_0)))) h
set_option maxRecDepth 20000 in
theorem eX5_gatherb {d : Nat} {Q : Option sAV → sM → Prop} {μ : sM} {a2 : Int32} (h : sCl sLL mJ7_fill_53178 d [sR 46, sI (-6)] (s_cp μ 41 44 7) (kV fun μ1 => sCl sLL mJ7_fill_53178 d [sR 48, sI 0] μ1 (kV fun μ2 => sG sLL mX5_gather (d + 1) Q 31 [some (sR 43), some (sR 41), some (sI a2), some (sI 0)] [] μ2))) : sCl sLL mX5_gather (d + 1) [sR 43, sR 41, sI a2] μ Q := by
  refine sG.loc (al2 := [some (sR 43), some (sR 41), some (sI a2), none]) (s_le_s (s_le_s (s_le_s (s_le_p s_le_0)))) ?_
  refine g_aload_n dX5_gather_0 rfl ?_
  refine g_iconst 0 dX5_gather_1 (by decide) ?_
  refine g_aload_n dX5_gather_2 rfl ?_
  refine g_getr (r2 := 44) dX5_gather_3 fX5_9 rfl rfl ?_
  refine g_iconst 0 dX5_gather_6 (by decide) ?_
  refine g_bipush 7 dX5_gather_7 (by decide) ?_
  refine h_copy dX5_gather_9 lX5_40 rfl rfl rfl rfl (by decide) (Nat.le_of_ble_eq_true rfl) (Nat.le_of_ble_eq_true rfl) ?_
  refine g_aload_n dX5_gather_12 rfl ?_
  refine g_getr (r2 := 46) dX5_gather_13 fX5_18 rfl rfl ?_
  refine g_bipush (-6) dX5_gather_16 (by decide) ?_
  refine g_callSv (mi2 := mJ7_fill_53178) (st := []) [sR 46, sI (-6)] dX5_gather_18 lX5_46 kJ7_fill_53178 vJ7_fill_53178 rfl (Nat.le_of_ble_eq_true rfl) (Nat.le_of_ble_eq_true rfl) (Nat.le_of_ble_eq_true rfl) rfl ?_
  refine sG.mono h (kV_mono fun μ1 h => ?_)
  refine g_aload_n dX5_gather_21 rfl ?_
  refine g_getr (r2 := 48) dX5_gather_22 fX5_24 rfl rfl ?_
  refine g_iconst 0 dX5_gather_25 (by decide) ?_
  refine g_callSv (mi2 := mJ7_fill_53178) (st := []) [sR 48, sI 0] dX5_gather_26 lX5_46 kJ7_fill_53178 vJ7_fill_53178 rfl (Nat.le_of_ble_eq_true rfl) (Nat.le_of_ble_eq_true rfl) (Nat.le_of_ble_eq_true rfl) rfl ?_
  refine sG.mono h (kV_mono fun μ2 h => ?_)
  refine g_iconst 0 dX5_gather_29 (by decide) ?_
  refine g_istore_n [some (sR 43), some (sR 41), some (sI a2), some (sI 0)] dX5_gather_30 rfl (by decide) rfl ?_
  exact sG.loc (s_le_s (s_le_s (s_le_s (s_le_s s_le_0)))) h
set_option maxRecDepth 20000 in
theorem sX5_gatherb_31 {d : Nat} {Q : Option sAV → sM → Prop} {μ : sM} {x2 : Int32} {x3 : Int32} (h : ((7 ≤ x3 → sCl sLL mX1_begin d [sR 35] (s_u (s_u (s_u (s_u μ 43 5 0) 43 6 (-6)) 43 7 0) 43 8 0) (kV fun μ1 => sCl sLL mX5_walk d [sR 43, sI 0, sI 0, sI (if 6 < x2 then 6 else x2)] μ1 (kV fun μ2 => Q none μ2))) ∧ (¬ 7 ≤ x3 → (vp_in x3 7 ∧ sCl sLL mJ7_fill_53178 d [sR (50 + x3.toNatClampNeg), sI 0] μ (kV fun μ1 => sG sLL mX5_gather (d + 1) Q 31 [some (sR 43), some (sR 41), some (sI x2), some (sI (x3 + 1))] [] μ1))))) : sG sLL mX5_gather (d + 1) Q 31 [some (sR 43), some (sR 41), some (sI x2), some (sI x3)] [] μ := by
  refine g_iload_n dX5_gather_31 rfl ?_
  refine g_bipush 7 dX5_gather_32 (by decide) ?_
  refine g_icmp_ge 53 dX5_gather_34 (by decide) (fun q => ?_) (fun q => ?_)
  · have h := h.1 q
    refine g_aload_n dX5_gather_53 rfl ?_
    refine g_iconst 0 dX5_gather_54 (by decide) ?_
    refine g_puti dX5_gather_55 fX5_52 rfl rfl rfl rfl ?_
    refine g_aload_n dX5_gather_58 rfl ?_
    refine g_bipush (-6) dX5_gather_59 (by decide) ?_
    refine g_puti dX5_gather_61 fX5_56 rfl rfl rfl rfl ?_
    refine g_aload_n dX5_gather_64 rfl ?_
    refine g_iconst 0 dX5_gather_65 (by decide) ?_
    refine g_puti dX5_gather_66 fX5_59 rfl rfl rfl rfl ?_
    refine g_aload_n dX5_gather_69 rfl ?_
    refine g_iconst 0 dX5_gather_70 (by decide) ?_
    refine g_puti dX5_gather_71 fX5_62 rfl rfl rfl rfl ?_
    refine g_aload_n dX5_gather_74 rfl ?_
    refine g_getr (r2 := 35) dX5_gather_75 fX5_36 rfl rfl ?_
    refine g_callVv (mi2 := mX1_begin) (r := 35) (st := []) [] dX5_gather_78 lX5_65 kX1_begin vX1_begin rfl rfl rfl (Nat.le_of_ble_eq_true rfl) (Nat.le_of_ble_eq_true rfl) (Nat.le_of_ble_eq_true rfl) rfl ?_
    refine sG.mono h (kV_mono fun μ1 h => ?_)
    refine g_aload_n dX5_gather_81 rfl ?_
    refine g_iconst 0 dX5_gather_82 (by decide) ?_
    refine g_iconst 0 dX5_gather_83 (by decide) ?_
    refine g_iload_n dX5_gather_84 rfl ?_
    refine g_bipush 6 dX5_gather_85 (by decide) ?_
    refine g_mmin dX5_gather_87 lX5_70 (Nat.le_of_ble_eq_true rfl) ?_
    refine g_callVv (mi2 := mX5_walk) (r := 43) (st := []) [sI 0, sI 0, sI (if 6 < x2 then 6 else x2)] dX5_gather_90 lX5_76 kX5_walk vX5_walk rfl rfl rfl (Nat.le_of_ble_eq_true rfl) (Nat.le_of_ble_eq_true rfl) (Nat.le_of_ble_eq_true rfl) rfl ?_
    refine sG.mono h (kV_mono fun μ2 h => ?_)
    exact g_vret dX5_gather_93 rfl h
  · have h := h.2 q
    refine g_aload_n dX5_gather_37 rfl ?_
    refine g_getr (r2 := 49) dX5_gather_38 fX5_29 rfl rfl ?_
    refine g_iload_n dX5_gather_41 rfl ?_
    obtain ⟨v1, h⟩ := h
    refine h_aald (50 + x3.toNatClampNeg) dX5_gather_42 rfl rfl v1 rfl ?_
    refine g_iconst 0 dX5_gather_43 (by decide) ?_
    refine g_callSv (mi2 := mJ7_fill_53178) (st := []) [sR (50 + x3.toNatClampNeg), sI 0] dX5_gather_44 lX5_46 kJ7_fill_53178 vJ7_fill_53178 rfl (Nat.le_of_ble_eq_true rfl) (Nat.le_of_ble_eq_true rfl) (Nat.le_of_ble_eq_true rfl) rfl ?_
    refine sG.mono h (kV_mono fun μ1 h => ?_)
    refine g_iinc (x3 + 1) [some (sR 43), some (sR 41), some (sI x2), some (sI (x3 + 1))] dX5_gather_47 rfl rfl (by decide) rfl ?_
    refine g_goto 31 dX5_gather_50 (by decide) ?_
    exact sG.loc (s_le_s (s_le_s (s_le_s (s_le_s s_le_0)))) h
set_option maxRecDepth 20000 in
theorem eX5_walk {d : Nat} {Q : Option sAV → sM → Prop} {μ : sM} {a1 : Int32} {a2 : Int32} {a3 : Int32} (h : sCl sLL mX1_stillToEat d [sR 35, sR 44] μ (kI fun r1 μ1 => ((¬ r1 = 0 → ((r1 = (-6) → Q none μ1) ∧ (¬ r1 = (-6) → ((a1 < a3 → sG sLL mX5_walk (d + 1) Q 40 [some (sR 43), some (sI a1), some (sI a2), some (sI a3), some (sI r1), some (sI 0), none, none, none, none] [] μ1) ∧ (¬ a1 < a3 → Q none μ1))))) ∧ (r1 = 0 → sCl sLL mX5_note d [sR 43, sI a1, sI a2] μ1 (kV fun μ2 => ((r1 = (-6) → Q none μ2) ∧ (¬ r1 = (-6) → ((a1 < a3 → sG sLL mX5_walk (d + 1) Q 40 [some (sR 43), some (sI a1), some (sI a2), some (sI a3), some (sI r1), some (sI 0), none, none, none, none] [] μ2) ∧ (¬ a1 < a3 → Q none μ2))))))))) : sCl sLL mX5_walk (d + 1) [sR 43, sI a1, sI a2, sI a3] μ Q := by
  refine sG.loc (al2 := [some (sR 43), some (sI a1), some (sI a2), some (sI a3), none, none, none, none, none, none]) (s_le_s (s_le_s (s_le_s (s_le_s (s_le_p (s_le_p (s_le_p (s_le_p (s_le_p (s_le_p s_le_0)))))))))) ?_
  refine g_aload_n dX5_walk_0 rfl ?_
  refine g_getr (r2 := 35) dX5_walk_1 fX5_36 rfl rfl ?_
  refine g_aload_n dX5_walk_4 rfl ?_
  refine g_getr (r2 := 44) dX5_walk_5 fX5_9 rfl rfl ?_
  refine g_callVi (mi2 := mX1_stillToEat) (r := 35) (st := []) [sR 44] dX5_walk_8 lX5_80 kX1_stillToEat vX1_stillToEat rfl rfl rfl (Nat.le_of_ble_eq_true rfl) (Nat.le_of_ble_eq_true rfl) (Nat.le_of_ble_eq_true rfl) rfl ?_
  refine sG.mono h (kI_mono fun r1 μ1 h => ?_)
  refine g_istore [some (sR 43), some (sI a1), some (sI a2), some (sI a3), some (sI r1), none, none, none, none, none] dX5_walk_11 (by decide) rfl ?_
  refine g_iload dX5_walk_13 rfl ?_
  refine g_if_ne 24 dX5_walk_15 (by decide) (fun q => ?_) (fun q => ?_)
  · have h := h.1 q
    refine g_iload dX5_walk_24 rfl ?_
    refine g_bipush (-6) dX5_walk_26 (by decide) ?_
    refine g_icmp_eq 36 dX5_walk_28 (by decide) (fun q => ?_) (fun q => ?_)
    · have h := h.1 q
      exact g_vret dX5_walk_36 rfl h
    · have h := h.2 q
      refine g_iload_n dX5_walk_31 rfl ?_
      refine g_iload_n dX5_walk_32 rfl ?_
      refine g_icmp_lt 37 dX5_walk_33 (by decide) (fun q => ?_) (fun q => ?_)
      · have h := h.1 q
        refine g_iconst 0 dX5_walk_37 (by decide) ?_
        refine g_istore [some (sR 43), some (sI a1), some (sI a2), some (sI a3), some (sI r1), some (sI 0), none, none, none, none] dX5_walk_38 (by decide) rfl ?_
        exact sG.loc (s_le_s (s_le_s (s_le_s (s_le_s (s_le_s (s_le_s (s_le_n (s_le_n (s_le_n (s_le_n s_le_0)))))))))) h
      · have h := h.2 q
        exact g_vret dX5_walk_36 rfl h
  · have h := h.2 q
    refine g_aload_n dX5_walk_18 rfl ?_
    refine g_iload_n dX5_walk_19 rfl ?_
    refine g_iload_n dX5_walk_20 rfl ?_
    refine g_callVv (mi2 := mX5_note) (r := 43) (st := []) [sI a1, sI a2] dX5_walk_21 lX5_84 kX5_note vX5_note rfl rfl rfl (Nat.le_of_ble_eq_true rfl) (Nat.le_of_ble_eq_true rfl) (Nat.le_of_ble_eq_true rfl) rfl ?_
    refine sG.mono h (kV_mono fun μ2 h => ?_)
    refine g_iload dX5_walk_24 rfl ?_
    refine g_bipush (-6) dX5_walk_26 (by decide) ?_
    refine g_icmp_eq 36 dX5_walk_28 (by decide) (fun q => ?_) (fun q => ?_)
    · have h := h.1 q
      exact g_vret dX5_walk_36 rfl h
    · have h := h.2 q
      refine g_iload_n dX5_walk_31 rfl ?_
      refine g_iload_n dX5_walk_32 rfl ?_
      refine g_icmp_lt 37 dX5_walk_33 (by decide) (fun q => ?_) (fun q => ?_)
      · have h := h.1 q
        refine g_iconst 0 dX5_walk_37 (by decide) ?_
        refine g_istore [some (sR 43), some (sI a1), some (sI a2), some (sI a3), some (sI r1), some (sI 0), none, none, none, none] dX5_walk_38 (by decide) rfl ?_
        exact sG.loc (s_le_s (s_le_s (s_le_s (s_le_s (s_le_s (s_le_s (s_le_n (s_le_n (s_le_n (s_le_n s_le_0)))))))))) h
      · have h := h.2 q
        exact g_vret dX5_walk_36 rfl h
set_option maxRecDepth 20000 in
theorem sX5_walk_40 {d : Nat} {Q : Option sAV → sM → Prop} {μ : sM} {x1 : Int32} {x2 : Int32} {x3 : Int32} {x4 : Int32} {x5 : Int32} (h : ((4 ≤ x5 → Q none μ) ∧ (¬ 4 ≤ x5 → sCl sLL mX6_hasGuest d [sR 1, sI x5] μ (kI fun r1 μ1 => ((r1 = 0 → sG sLL mX5_walk (d + 1) Q 40 [some (sR 43), some (sI x1), some (sI x2), some (sI x3), some (sI x4), some (sI (x5 + 1)), none, none, none, none] [] μ1) ∧ (¬ r1 = 0 → sCl sLL mX1_choice d [sR 35, sI x5] μ1 (kI fun r2 μ2 => ((¬ r2 = (-6) → sCl sLL mX1_use d [sR 35, sI x5, sI r2] μ2 (kI fun r3 μ3 => (vp_in r2 7 ∧ ((¬ (μ3.1 46 r2.toNatClampNeg) = (-6) → (vp_in x1 6 ∧ sCl sLL mX5_walk d [sR 43, sI (x1 + 1), sI (x2 ||| ((1 : Int32) <<< (x5 &&& 31))), sI x3] (s_u μ3 45 (x1.toNatClampNeg) x5) (kV fun μ4 => sCl sLL mX1_takeBack d [sR 35, sI r2, sI r3, sI (μ2.1 35 3)] μ4 (kV fun μ5 => sG sLL mX5_walk (d + 1) Q 40 [some (sR 43), some (sI x1), some (sI x2), some (sI x3), some (sI x4), some (sI (x5 + 1)), none, none, none, none] [] μ5)))) ∧ ((μ3.1 46 r2.toNatClampNeg) = (-6) → (vp_in x1 6 ∧ sCl sLL mX5_walk d [sR 43, sI (x1 + 1), sI (x2 ||| ((1 : Int32) <<< (x5 &&& 31))), sI x3] (s_u (s_u μ3 46 (r2.toNatClampNeg) x5) 45 (x1.toNatClampNeg) x5) (kV fun μ4 => sCl sLL mX1_takeBack d [sR 35, sI r2, sI r3, sI (μ2.1 35 3)] (s_u μ4 46 (r2.toNatClampNeg) (-6)) (kV fun μ5 => sG sLL mX5_walk (d + 1) Q 40 [some (sR 43), some (sI x1), some (sI x2), some (sI x3), some (sI x4), some (sI (x5 + 1)), none, none, none, none] [] μ5)))))))) ∧ (r2 = (-6) → sG sLL mX5_walk (d + 1) Q 40 [some (sR 43), some (sI x1), some (sI x2), some (sI x3), some (sI x4), some (sI (x5 + 1)), none, none, none, none] [] μ2))))))))) : sG sLL mX5_walk (d + 1) Q 40 [some (sR 43), some (sI x1), some (sI x2), some (sI x3), some (sI x4), some (sI x5), none, none, none, none] [] μ := by
  refine g_iload dX5_walk_40 rfl ?_
  refine g_iconst 4 dX5_walk_42 (by decide) ?_
  refine g_icmp_ge 194 dX5_walk_43 (by decide) (fun q => ?_) (fun q => ?_)
  · have h := h.1 q
    exact g_vret dX5_walk_194 rfl h
  · have h := h.2 q
    refine g_aload_n dX5_walk_46 rfl ?_
    refine g_getr (r2 := 1) dX5_walk_47 fX5_32 rfl rfl ?_
    refine g_iload dX5_walk_50 rfl ?_
    refine g_callVi (mi2 := mX6_hasGuest) (r := 1) (st := []) [sI x5] dX5_walk_52 lX5_88 kX6_hasGuest vX6_hasGuest rfl rfl rfl (Nat.le_of_ble_eq_true rfl) (Nat.le_of_ble_eq_true rfl) (Nat.le_of_ble_eq_true rfl) rfl ?_
    refine sG.mono h (kI_mono fun r1 μ1 h => ?_)
    refine g_if_eq 70 dX5_walk_55 (by decide) (fun q => ?_) (fun q => ?_)
    · have h := h.1 q
      refine g_bipush (-6) dX5_walk_70 (by decide) ?_
      refine g_istore [some (sR 43), some (sI x1), some (sI x2), some (sI x3), some (sI x4), some (sI x5), some (sI (-6)), none, none, none] dX5_walk_72 (by decide) rfl ?_
      refine g_iload dX5_walk_74 rfl ?_
      refine g_bipush (-6) dX5_walk_76 (by decide) ?_
      refine g_icmp_ne 84 dX5_walk_78 (by decide) (fun q => absurd q (by decide)) (fun _ => ?_)
      refine g_goto 188 dX5_walk_81 (by decide) ?_
      refine g_iinc (x5 + 1) [some (sR 43), some (sI x1), some (sI x2), some (sI x3), some (sI x4), some (sI (x5 + 1)), some (sI (-6)), none, none, none] dX5_walk_188 rfl rfl (by decide) rfl ?_
      refine g_goto 40 dX5_walk_191 (by decide) ?_
      exact sG.loc (s_le_s (s_le_s (s_le_s (s_le_s (s_le_s (s_le_s (s_le_n (s_le_n (s_le_n (s_le_n s_le_0)))))))))) h
    · have h := h.2 q
      refine g_aload_n dX5_walk_58 rfl ?_
      refine g_getr (r2 := 35) dX5_walk_59 fX5_36 rfl rfl ?_
      refine g_iload dX5_walk_62 rfl ?_
      refine g_callVi (mi2 := mX1_choice) (r := 35) (st := []) [sI x5] dX5_walk_64 lX5_94 kX1_choice vX1_choice rfl rfl rfl (Nat.le_of_ble_eq_true rfl) (Nat.le_of_ble_eq_true rfl) (Nat.le_of_ble_eq_true rfl) rfl ?_
      refine sG.mono h (kI_mono fun r2 μ2 h => ?_)
      refine g_goto 72 dX5_walk_67 (by decide) ?_
      refine g_istore [some (sR 43), some (sI x1), some (sI x2), some (sI x3), some (sI x4), some (sI x5), some (sI r2), none, none, none] dX5_walk_72 (by decide) rfl ?_
      refine g_iload dX5_walk_74 rfl ?_
      refine g_bipush (-6) dX5_walk_76 (by decide) ?_
      refine g_icmp_ne 84 dX5_walk_78 (by decide) (fun q => ?_) (fun q => ?_)
      · have h := h.1 q
        refine g_aload_n dX5_walk_84 rfl ?_
        refine g_getr (r2 := 35) dX5_walk_85 fX5_36 rfl rfl ?_
        refine h_geti (μ2.1 35 3) dX5_walk_88 fX5_98 rfl rfl rfl ?_
        refine g_istore [some (sR 43), some (sI x1), some (sI x2), some (sI x3), some (sI x4), some (sI x5), some (sI r2), some (sI (μ2.1 35 3)), none, none] dX5_walk_91 (by decide) rfl ?_
        refine g_aload_n dX5_walk_93 rfl ?_
        refine g_getr (r2 := 35) dX5_walk_94 fX5_36 rfl rfl ?_
        refine g_iload dX5_walk_97 rfl ?_
        refine g_iload dX5_walk_99 rfl ?_
        refine g_callVi (mi2 := mX1_use) (r := 35) (st := []) [sI x5, sI r2] dX5_walk_101 lX5_101 kX1_use vX1_use rfl rfl rfl (Nat.le_of_ble_eq_true rfl) (Nat.le_of_ble_eq_true rfl) (Nat.le_of_ble_eq_true rfl) rfl ?_
        refine sG.mono h (kI_mono fun r3 μ3 h => ?_)
        refine g_istore [some (sR 43), some (sI x1), some (sI x2), some (sI x3), some (sI x4), some (sI x5), some (sI r2), some (sI (μ2.1 35 3)), some (sI r3), none] dX5_walk_104 (by decide) rfl ?_
        refine g_aload_n dX5_walk_106 rfl ?_
        refine g_getr (r2 := 46) dX5_walk_107 fX5_18 rfl rfl ?_
        refine g_iload dX5_walk_110 rfl ?_
        obtain ⟨v1, h⟩ := h
        refine h_iald (μ3.1 46 r2.toNatClampNeg) dX5_walk_112 rfl rfl v1 rfl ?_
        refine g_bipush (-6) dX5_walk_113 (by decide) ?_
        refine g_icmp_ne 122 dX5_walk_115 (by decide) (fun q => ?_) (fun q => ?_)
        · have h := h.1 q
          refine g_iconst 0 dX5_walk_122 (by decide) ?_
          refine g_istore [some (sR 43), some (sI x1), some (sI x2), some (sI x3), some (sI x4), some (sI x5), some (sI r2), some (sI (μ2.1 35 3)), some (sI r3), some (sI 0)] dX5_walk_123 (by decide) rfl ?_
          refine g_iload dX5_walk_125 rfl ?_
          refine g_if_eq 139 dX5_walk_127 (by decide) (fun _ => ?_) (fun q => absurd q (by decide))
          refine g_aload_n dX5_walk_139 rfl ?_
          refine g_getr (r2 := 45) dX5_walk_140 fX5_15 rfl rfl ?_
          refine g_iload_n dX5_walk_143 rfl ?_
          refine g_iload dX5_walk_144 rfl ?_
          obtain ⟨v2, h⟩ := h
          refine h_iast (x1.toNatClampNeg) dX5_walk_146 rfl rfl v2 rfl ?_
          refine g_aload_n dX5_walk_147 rfl ?_
          refine g_iload_n dX5_walk_148 rfl ?_
          refine g_iconst 1 dX5_walk_149 (by decide) ?_
          refine g_iadd dX5_walk_150 ?_
          refine g_iload_n dX5_walk_151 rfl ?_
          refine g_iconst 1 dX5_walk_152 (by decide) ?_
          refine g_iload dX5_walk_153 rfl ?_
          refine g_ishl dX5_walk_155 ?_
          refine g_ior dX5_walk_156 ?_
          refine g_iload_n dX5_walk_157 rfl ?_
          refine g_callVv (mi2 := mX5_walk) (r := 43) (st := []) [sI (x1 + 1), sI (x2 ||| ((1 : Int32) <<< (x5 &&& 31))), sI x3] dX5_walk_158 lX5_76 kX5_walk vX5_walk rfl rfl rfl (Nat.le_of_ble_eq_true rfl) (Nat.le_of_ble_eq_true rfl) (Nat.le_of_ble_eq_true rfl) rfl ?_
          refine sG.mono h (kV_mono fun μ4 h => ?_)
          refine g_iload dX5_walk_161 rfl ?_
          refine g_if_eq 175 dX5_walk_163 (by decide) (fun _ => ?_) (fun q => absurd q (by decide))
          refine g_aload_n dX5_walk_175 rfl ?_
          refine g_getr (r2 := 35) dX5_walk_176 fX5_36 rfl rfl ?_
          refine g_iload dX5_walk_179 rfl ?_
          refine g_iload dX5_walk_181 rfl ?_
          refine g_iload dX5_walk_183 rfl ?_
          refine g_callVv (mi2 := mX1_takeBack) (r := 35) (st := []) [sI r2, sI r3, sI (μ2.1 35 3)] dX5_walk_185 lX5_104 kX1_takeBack vX1_takeBack rfl rfl rfl (Nat.le_of_ble_eq_true rfl) (Nat.le_of_ble_eq_true rfl) (Nat.le_of_ble_eq_true rfl) rfl ?_
          refine sG.mono h (kV_mono fun μ5 h => ?_)
          refine g_iinc (x5 + 1) [some (sR 43), some (sI x1), some (sI x2), some (sI x3), some (sI x4), some (sI (x5 + 1)), some (sI r2), some (sI (μ2.1 35 3)), some (sI r3), some (sI 0)] dX5_walk_188 rfl rfl (by decide) rfl ?_
          refine g_goto 40 dX5_walk_191 (by decide) ?_
          exact sG.loc (s_le_s (s_le_s (s_le_s (s_le_s (s_le_s (s_le_s (s_le_n (s_le_n (s_le_n (s_le_n s_le_0)))))))))) h
        · have h := h.2 q
          refine g_iconst 1 dX5_walk_118 (by decide) ?_
          refine g_goto 123 dX5_walk_119 (by decide) ?_
          refine g_istore [some (sR 43), some (sI x1), some (sI x2), some (sI x3), some (sI x4), some (sI x5), some (sI r2), some (sI (μ2.1 35 3)), some (sI r3), some (sI 1)] dX5_walk_123 (by decide) rfl ?_
          refine g_iload dX5_walk_125 rfl ?_
          refine g_if_eq 139 dX5_walk_127 (by decide) (fun q => absurd q (by decide)) (fun _ => ?_)
          refine g_aload_n dX5_walk_130 rfl ?_
          refine g_getr (r2 := 46) dX5_walk_131 fX5_18 rfl rfl ?_
          refine g_iload dX5_walk_134 rfl ?_
          refine g_iload dX5_walk_136 rfl ?_
          refine h_iast (r2.toNatClampNeg) dX5_walk_138 rfl rfl v1 rfl ?_
          refine g_aload_n dX5_walk_139 rfl ?_
          refine g_getr (r2 := 45) dX5_walk_140 fX5_15 rfl rfl ?_
          refine g_iload_n dX5_walk_143 rfl ?_
          refine g_iload dX5_walk_144 rfl ?_
          obtain ⟨v2, h⟩ := h
          refine h_iast (x1.toNatClampNeg) dX5_walk_146 rfl rfl v2 rfl ?_
          refine g_aload_n dX5_walk_147 rfl ?_
          refine g_iload_n dX5_walk_148 rfl ?_
          refine g_iconst 1 dX5_walk_149 (by decide) ?_
          refine g_iadd dX5_walk_150 ?_
          refine g_iload_n dX5_walk_151 rfl ?_
          refine g_iconst 1 dX5_walk_152 (by decide) ?_
          refine g_iload dX5_walk_153 rfl ?_
          refine g_ishl dX5_walk_155 ?_
          refine g_ior dX5_walk_156 ?_
          refine g_iload_n dX5_walk_157 rfl ?_
          refine g_callVv (mi2 := mX5_walk) (r := 43) (st := []) [sI (x1 + 1), sI (x2 ||| ((1 : Int32) <<< (x5 &&& 31))), sI x3] dX5_walk_158 lX5_76 kX5_walk vX5_walk rfl rfl rfl (Nat.le_of_ble_eq_true rfl) (Nat.le_of_ble_eq_true rfl) (Nat.le_of_ble_eq_true rfl) rfl ?_
          refine sG.mono h (kV_mono fun μ4 h => ?_)
          refine g_iload dX5_walk_161 rfl ?_
          refine g_if_eq 175 dX5_walk_163 (by decide) (fun q => absurd q (by decide)) (fun _ => ?_)
          refine g_aload_n dX5_walk_166 rfl ?_
          refine g_getr (r2 := 46) dX5_walk_167 fX5_18 rfl rfl ?_
          refine g_iload dX5_walk_170 rfl ?_
          refine g_bipush (-6) dX5_walk_172 (by decide) ?_
          refine h_iast (r2.toNatClampNeg) dX5_walk_174 rfl rfl v1 rfl ?_
          refine g_aload_n dX5_walk_175 rfl ?_
          refine g_getr (r2 := 35) dX5_walk_176 fX5_36 rfl rfl ?_
          refine g_iload dX5_walk_179 rfl ?_
          refine g_iload dX5_walk_181 rfl ?_
          refine g_iload dX5_walk_183 rfl ?_
          refine g_callVv (mi2 := mX1_takeBack) (r := 35) (st := []) [sI r2, sI r3, sI (μ2.1 35 3)] dX5_walk_185 lX5_104 kX1_takeBack vX1_takeBack rfl rfl rfl (Nat.le_of_ble_eq_true rfl) (Nat.le_of_ble_eq_true rfl) (Nat.le_of_ble_eq_true rfl) rfl ?_
          refine sG.mono h (kV_mono fun μ5 h => ?_)
          refine g_iinc (x5 + 1) [some (sR 43), some (sI x1), some (sI x2), some (sI x3), some (sI x4), some (sI (x5 + 1)), some (sI r2), some (sI (μ2.1 35 3)), some (sI r3), some (sI 1)] dX5_walk_188 rfl rfl (by decide) rfl ?_
          refine g_goto 40 dX5_walk_191 (by decide) ?_
          exact sG.loc (s_le_s (s_le_s (s_le_s (s_le_s (s_le_s (s_le_s (s_le_n (s_le_n (s_le_n (s_le_n s_le_0)))))))))) h
      · have h := h.2 q
        refine g_goto 188 dX5_walk_81 (by decide) ?_
        refine g_iinc (x5 + 1) [some (sR 43), some (sI x1), some (sI x2), some (sI x3), some (sI x4), some (sI (x5 + 1)), some (sI r2), none, none, none] dX5_walk_188 rfl rfl (by decide) rfl ?_
        refine g_goto 40 dX5_walk_191 (by decide) ?_
        exact sG.loc (s_le_s (s_le_s (s_le_s (s_le_s (s_le_s (s_le_s (s_le_n (s_le_n (s_le_n (s_le_n s_le_0)))))))))) h
set_option maxRecDepth 20000 in
theorem eX5_note {d : Nat} {Q : Option sAV → sM → Prop} {μ : sM} {a1 : Int32} {a2 : Int32} (h : ((¬ (μ.1 43 5) = 0 → (((μ.1 43 5) = 0 → (¬ a1 < 0 ∧ (a1.toNatClampNeg ≤ 6 ∧ (a1.toNatClampNeg ≤ 6 ∧ sG sLL mX5_note (d + 1) Q 77 [some (sR 43), some (sI a1), some (sI a2), some (sI 0)] [] (s_u (s_cp (s_u (s_u (s_u μ 43 7 ((μ.1 43 7) &&& a2)) 43 8 ((μ.1 43 8) ||| a2)) 43 6 a1) 45 47 a1) 43 5 ((μ.1 43 5) + 1)))))) ∧ (¬ (μ.1 43 5) = 0 → (((μ.1 43 6) ≤ a1 → sG sLL mX5_note (d + 1) Q 77 [some (sR 43), some (sI a1), some (sI a2), some (sI 0)] [] (s_u (s_u (s_u μ 43 7 ((μ.1 43 7) &&& a2)) 43 8 ((μ.1 43 8) ||| a2)) 43 5 ((μ.1 43 5) + 1))) ∧ (¬ (μ.1 43 6) ≤ a1 → (¬ a1 < 0 ∧ (a1.toNatClampNeg ≤ 6 ∧ (a1.toNatClampNeg ≤ 6 ∧ sG sLL mX5_note (d + 1) Q 77 [some (sR 43), some (sI a1), some (sI a2), some (sI 0)] [] (s_u (s_cp (s_u (s_u (s_u μ 43 7 ((μ.1 43 7) &&& a2)) 43 8 ((μ.1 43 8) ||| a2)) 43 6 a1) 45 47 a1) 43 5 ((μ.1 43 5) + 1)))))))))) ∧ ((μ.1 43 5) = 0 → (((μ.1 43 5) = 0 → (¬ a1 < 0 ∧ (a1.toNatClampNeg ≤ 6 ∧ (a1.toNatClampNeg ≤ 6 ∧ sG sLL mX5_note (d + 1) Q 77 [some (sR 43), some (sI a1), some (sI a2), some (sI 0)] [] (s_u (s_cp (s_u (s_u (s_u μ 43 7 a2) 43 8 ((μ.1 43 8) ||| a2)) 43 6 a1) 45 47 a1) 43 5 ((μ.1 43 5) + 1)))))) ∧ (¬ (μ.1 43 5) = 0 → (((μ.1 43 6) ≤ a1 → sG sLL mX5_note (d + 1) Q 77 [some (sR 43), some (sI a1), some (sI a2), some (sI 0)] [] (s_u (s_u (s_u μ 43 7 a2) 43 8 ((μ.1 43 8) ||| a2)) 43 5 ((μ.1 43 5) + 1))) ∧ (¬ (μ.1 43 6) ≤ a1 → (¬ a1 < 0 ∧ (a1.toNatClampNeg ≤ 6 ∧ (a1.toNatClampNeg ≤ 6 ∧ sG sLL mX5_note (d + 1) Q 77 [some (sR 43), some (sI a1), some (sI a2), some (sI 0)] [] (s_u (s_cp (s_u (s_u (s_u μ 43 7 a2) 43 8 ((μ.1 43 8) ||| a2)) 43 6 a1) 45 47 a1) 43 5 ((μ.1 43 5) + 1)))))))))))) : sCl sLL mX5_note (d + 1) [sR 43, sI a1, sI a2] μ Q := by
  refine sG.loc (al2 := [some (sR 43), some (sI a1), some (sI a2), none]) (s_le_s (s_le_s (s_le_s (s_le_p s_le_0)))) ?_
  refine g_aload_n dX5_note_0 rfl ?_
  refine g_aload_n dX5_note_1 rfl ?_
  refine h_geti (μ.1 43 5) dX5_note_2 fX5_52 rfl rfl rfl ?_
  refine g_if_ne 12 dX5_note_5 (by decide) (fun q => ?_) (fun q => ?_)
  · have h := h.1 q
    refine g_aload_n dX5_note_12 rfl ?_
    refine h_geti (μ.1 43 7) dX5_note_13 fX5_59 rfl rfl rfl ?_
    refine g_iload_n dX5_note_16 rfl ?_
    refine g_iand dX5_note_17 ?_
    refine g_puti dX5_note_18 fX5_59 rfl rfl rfl rfl ?_
    refine g_aload_n dX5_note_21 rfl ?_
    refine g_dup_r dX5_note_22 ?_
    refine h_geti (μ.1 43 8) dX5_note_23 fX5_62 rfl rfl rfl ?_
    refine g_iload_n dX5_note_26 rfl ?_
    refine g_ior dX5_note_27 ?_
    refine g_puti dX5_note_28 fX5_62 rfl rfl rfl rfl ?_
    refine g_aload_n dX5_note_31 rfl ?_
    refine h_geti (μ.1 43 5) dX5_note_32 fX5_52 rfl rfl rfl ?_
    refine g_if_eq 46 dX5_note_35 (by decide) (fun q => ?_) (fun q => ?_)
    · have h := h.1 q
      refine g_aload_n dX5_note_46 rfl ?_
      refine g_iload_n dX5_note_47 rfl ?_
      refine g_puti dX5_note_48 fX5_56 rfl rfl rfl rfl ?_
      refine g_aload_n dX5_note_51 rfl ?_
      refine g_getr (r2 := 45) dX5_note_52 fX5_15 rfl rfl ?_
      refine g_iconst 0 dX5_note_55 (by decide) ?_
      refine g_aload_n dX5_note_56 rfl ?_
      refine g_getr (r2 := 47) dX5_note_57 fX5_21 rfl rfl ?_
      refine g_iconst 0 dX5_note_60 (by decide) ?_
      refine g_iload_n dX5_note_61 rfl ?_
      obtain ⟨c1, h⟩ := h
      obtain ⟨c2, h⟩ := h
      obtain ⟨c3, h⟩ := h
      refine h_copy dX5_note_62 lX5_40 rfl rfl rfl rfl c1 c2 c3 ?_
      refine g_aload_n dX5_note_65 rfl ?_
      refine g_dup_r dX5_note_66 ?_
      refine h_geti (μ.1 43 5) dX5_note_67 fX5_52 rfl rfl rfl ?_
      refine g_iconst 1 dX5_note_70 (by decide) ?_
      refine g_iadd dX5_note_71 ?_
      refine g_puti dX5_note_72 fX5_52 rfl rfl rfl rfl ?_
      refine g_iconst 0 dX5_note_75 (by decide) ?_
      refine g_istore_n [some (sR 43), some (sI a1), some (sI a2), some (sI 0)] dX5_note_76 rfl (by decide) rfl ?_
      exact sG.loc (s_le_s (s_le_s (s_le_s (s_le_s s_le_0)))) h
    · have h := h.2 q
      refine g_iload_n dX5_note_38 rfl ?_
      refine g_aload_n dX5_note_39 rfl ?_
      refine h_geti (μ.1 43 6) dX5_note_40 fX5_56 rfl rfl rfl ?_
      refine g_icmp_ge 65 dX5_note_43 (by decide) (fun q => ?_) (fun q => ?_)
      · have h := h.1 q
        refine g_aload_n dX5_note_65 rfl ?_
        refine g_dup_r dX5_note_66 ?_
        refine h_geti (μ.1 43 5) dX5_note_67 fX5_52 rfl rfl rfl ?_
        refine g_iconst 1 dX5_note_70 (by decide) ?_
        refine g_iadd dX5_note_71 ?_
        refine g_puti dX5_note_72 fX5_52 rfl rfl rfl rfl ?_
        refine g_iconst 0 dX5_note_75 (by decide) ?_
        refine g_istore_n [some (sR 43), some (sI a1), some (sI a2), some (sI 0)] dX5_note_76 rfl (by decide) rfl ?_
        exact sG.loc (s_le_s (s_le_s (s_le_s (s_le_s s_le_0)))) h
      · have h := h.2 q
        refine g_aload_n dX5_note_46 rfl ?_
        refine g_iload_n dX5_note_47 rfl ?_
        refine g_puti dX5_note_48 fX5_56 rfl rfl rfl rfl ?_
        refine g_aload_n dX5_note_51 rfl ?_
        refine g_getr (r2 := 45) dX5_note_52 fX5_15 rfl rfl ?_
        refine g_iconst 0 dX5_note_55 (by decide) ?_
        refine g_aload_n dX5_note_56 rfl ?_
        refine g_getr (r2 := 47) dX5_note_57 fX5_21 rfl rfl ?_
        refine g_iconst 0 dX5_note_60 (by decide) ?_
        refine g_iload_n dX5_note_61 rfl ?_
        obtain ⟨c1, h⟩ := h
        obtain ⟨c2, h⟩ := h
        obtain ⟨c3, h⟩ := h
        refine h_copy dX5_note_62 lX5_40 rfl rfl rfl rfl c1 c2 c3 ?_
        refine g_aload_n dX5_note_65 rfl ?_
        refine g_dup_r dX5_note_66 ?_
        refine h_geti (μ.1 43 5) dX5_note_67 fX5_52 rfl rfl rfl ?_
        refine g_iconst 1 dX5_note_70 (by decide) ?_
        refine g_iadd dX5_note_71 ?_
        refine g_puti dX5_note_72 fX5_52 rfl rfl rfl rfl ?_
        refine g_iconst 0 dX5_note_75 (by decide) ?_
        refine g_istore_n [some (sR 43), some (sI a1), some (sI a2), some (sI 0)] dX5_note_76 rfl (by decide) rfl ?_
        exact sG.loc (s_le_s (s_le_s (s_le_s (s_le_s s_le_0)))) h
  · have h := h.2 q
    refine g_iload_n dX5_note_8 rfl ?_
    refine g_goto 18 dX5_note_9 (by decide) ?_
    refine g_puti dX5_note_18 fX5_59 rfl rfl rfl rfl ?_
    refine g_aload_n dX5_note_21 rfl ?_
    refine g_dup_r dX5_note_22 ?_
    refine h_geti (μ.1 43 8) dX5_note_23 fX5_62 rfl rfl rfl ?_
    refine g_iload_n dX5_note_26 rfl ?_
    refine g_ior dX5_note_27 ?_
    refine g_puti dX5_note_28 fX5_62 rfl rfl rfl rfl ?_
    refine g_aload_n dX5_note_31 rfl ?_
    refine h_geti (μ.1 43 5) dX5_note_32 fX5_52 rfl rfl rfl ?_
    refine g_if_eq 46 dX5_note_35 (by decide) (fun q => ?_) (fun q => ?_)
    · have h := h.1 q
      refine g_aload_n dX5_note_46 rfl ?_
      refine g_iload_n dX5_note_47 rfl ?_
      refine g_puti dX5_note_48 fX5_56 rfl rfl rfl rfl ?_
      refine g_aload_n dX5_note_51 rfl ?_
      refine g_getr (r2 := 45) dX5_note_52 fX5_15 rfl rfl ?_
      refine g_iconst 0 dX5_note_55 (by decide) ?_
      refine g_aload_n dX5_note_56 rfl ?_
      refine g_getr (r2 := 47) dX5_note_57 fX5_21 rfl rfl ?_
      refine g_iconst 0 dX5_note_60 (by decide) ?_
      refine g_iload_n dX5_note_61 rfl ?_
      obtain ⟨c1, h⟩ := h
      obtain ⟨c2, h⟩ := h
      obtain ⟨c3, h⟩ := h
      refine h_copy dX5_note_62 lX5_40 rfl rfl rfl rfl c1 c2 c3 ?_
      refine g_aload_n dX5_note_65 rfl ?_
      refine g_dup_r dX5_note_66 ?_
      refine h_geti (μ.1 43 5) dX5_note_67 fX5_52 rfl rfl rfl ?_
      refine g_iconst 1 dX5_note_70 (by decide) ?_
      refine g_iadd dX5_note_71 ?_
      refine g_puti dX5_note_72 fX5_52 rfl rfl rfl rfl ?_
      refine g_iconst 0 dX5_note_75 (by decide) ?_
      refine g_istore_n [some (sR 43), some (sI a1), some (sI a2), some (sI 0)] dX5_note_76 rfl (by decide) rfl ?_
      exact sG.loc (s_le_s (s_le_s (s_le_s (s_le_s s_le_0)))) h
    · have h := h.2 q
      refine g_iload_n dX5_note_38 rfl ?_
      refine g_aload_n dX5_note_39 rfl ?_
      refine h_geti (μ.1 43 6) dX5_note_40 fX5_56 rfl rfl rfl ?_
      refine g_icmp_ge 65 dX5_note_43 (by decide) (fun q => ?_) (fun q => ?_)
      · have h := h.1 q
        refine g_aload_n dX5_note_65 rfl ?_
        refine g_dup_r dX5_note_66 ?_
        refine h_geti (μ.1 43 5) dX5_note_67 fX5_52 rfl rfl rfl ?_
        refine g_iconst 1 dX5_note_70 (by decide) ?_
        refine g_iadd dX5_note_71 ?_
        refine g_puti dX5_note_72 fX5_52 rfl rfl rfl rfl ?_
        refine g_iconst 0 dX5_note_75 (by decide) ?_
        refine g_istore_n [some (sR 43), some (sI a1), some (sI a2), some (sI 0)] dX5_note_76 rfl (by decide) rfl ?_
        exact sG.loc (s_le_s (s_le_s (s_le_s (s_le_s s_le_0)))) h
      · have h := h.2 q
        refine g_aload_n dX5_note_46 rfl ?_
        refine g_iload_n dX5_note_47 rfl ?_
        refine g_puti dX5_note_48 fX5_56 rfl rfl rfl rfl ?_
        refine g_aload_n dX5_note_51 rfl ?_
        refine g_getr (r2 := 45) dX5_note_52 fX5_15 rfl rfl ?_
        refine g_iconst 0 dX5_note_55 (by decide) ?_
        refine g_aload_n dX5_note_56 rfl ?_
        refine g_getr (r2 := 47) dX5_note_57 fX5_21 rfl rfl ?_
        refine g_iconst 0 dX5_note_60 (by decide) ?_
        refine g_iload_n dX5_note_61 rfl ?_
        obtain ⟨c1, h⟩ := h
        obtain ⟨c2, h⟩ := h
        obtain ⟨c3, h⟩ := h
        refine h_copy dX5_note_62 lX5_40 rfl rfl rfl rfl c1 c2 c3 ?_
        refine g_aload_n dX5_note_65 rfl ?_
        refine g_dup_r dX5_note_66 ?_
        refine h_geti (μ.1 43 5) dX5_note_67 fX5_52 rfl rfl rfl ?_
        refine g_iconst 1 dX5_note_70 (by decide) ?_
        refine g_iadd dX5_note_71 ?_
        refine g_puti dX5_note_72 fX5_52 rfl rfl rfl rfl ?_
        refine g_iconst 0 dX5_note_75 (by decide) ?_
        refine g_istore_n [some (sR 43), some (sI a1), some (sI a2), some (sI 0)] dX5_note_76 rfl (by decide) rfl ?_
        exact sG.loc (s_le_s (s_le_s (s_le_s (s_le_s s_le_0)))) h
set_option maxRecDepth 20000 in
theorem sX5_note_77 {d : Nat} {Q : Option sAV → sM → Prop} {μ : sM} {x1 : Int32} {x2 : Int32} {x3 : Int32} (h : (((μ.1 1 0) ≤ x3 → Q none μ) ∧ (¬ (μ.1 1 0) ≤ x3 → (vp_in x3 7 ∧ ((¬ (μ.1 46 x3.toNatClampNeg) = (-6) → (vp_in (μ.1 36 x3.toNatClampNeg) 10 ∧ sG sLL mX5_note (d + 1) Q 77 [some (sR 43), some (sI x1), some (sI x2), some (sI (x3 + 1))] [] (s_u (s_u μ 48 (x3.toNatClampNeg) ((μ.1 48 x3.toNatClampNeg) ||| ((1 : Int32) <<< ((μ.1 46 x3.toNatClampNeg) &&& 31)))) (50 + x3.toNatClampNeg) ((μ.1 36 x3.toNatClampNeg).toNatClampNeg) (((s_u μ 48 (x3.toNatClampNeg) ((μ.1 48 x3.toNatClampNeg) ||| ((1 : Int32) <<< ((μ.1 46 x3.toNatClampNeg) &&& 31)))).1 (50 + x3.toNatClampNeg) (μ.1 36 x3.toNatClampNeg).toNatClampNeg) + 1)))) ∧ ((μ.1 46 x3.toNatClampNeg) = (-6) → (vp_in (μ.1 36 x3.toNatClampNeg) 10 ∧ sG sLL mX5_note (d + 1) Q 77 [some (sR 43), some (sI x1), some (sI x2), some (sI (x3 + 1))] [] (s_u (s_u μ 48 (x3.toNatClampNeg) ((μ.1 48 x3.toNatClampNeg) ||| 16)) (50 + x3.toNatClampNeg) ((μ.1 36 x3.toNatClampNeg).toNatClampNeg) (((s_u μ 48 (x3.toNatClampNeg) ((μ.1 48 x3.toNatClampNeg) ||| 16)).1 (50 + x3.toNatClampNeg) (μ.1 36 x3.toNatClampNeg).toNatClampNeg) + 1))))))))) : sG sLL mX5_note (d + 1) Q 77 [some (sR 43), some (sI x1), some (sI x2), some (sI x3)] [] μ := by
  refine g_iload_n dX5_note_77 rfl ?_
  refine g_aload_n dX5_note_78 rfl ?_
  refine g_getr (r2 := 1) dX5_note_79 fX5_32 rfl rfl ?_
  refine h_geti (μ.1 1 0) dX5_note_82 fX5_107 rfl rfl rfl ?_
  refine g_icmp_ge 147 dX5_note_85 (by decide) (fun q => ?_) (fun q => ?_)
  · have h := h.1 q
    exact g_vret dX5_note_147 rfl h
  · have h := h.2 q
    refine g_aload_n dX5_note_88 rfl ?_
    refine g_getr (r2 := 48) dX5_note_89 fX5_24 rfl rfl ?_
    refine g_iload_n dX5_note_92 rfl ?_
    refine g_dup2 dX5_note_93 ?_
    obtain ⟨v1, h⟩ := h
    refine h_iald (μ.1 48 x3.toNatClampNeg) dX5_note_94 rfl rfl v1 rfl ?_
    refine g_aload_n dX5_note_95 rfl ?_
    refine g_getr (r2 := 46) dX5_note_96 fX5_18 rfl rfl ?_
    refine g_iload_n dX5_note_99 rfl ?_
    refine h_iald (μ.1 46 x3.toNatClampNeg) dX5_note_100 rfl rfl v1 rfl ?_
    refine g_bipush (-6) dX5_note_101 (by decide) ?_
    refine g_icmp_ne 111 dX5_note_103 (by decide) (fun q => ?_) (fun q => ?_)
    · have h := h.1 q
      refine g_iconst 1 dX5_note_111 (by decide) ?_
      refine g_aload_n dX5_note_112 rfl ?_
      refine g_getr (r2 := 46) dX5_note_113 fX5_18 rfl rfl ?_
      refine g_iload_n dX5_note_116 rfl ?_
      refine h_iald (μ.1 46 x3.toNatClampNeg) dX5_note_117 rfl rfl v1 rfl ?_
      refine g_ishl dX5_note_118 ?_
      refine g_ior dX5_note_119 ?_
      refine h_iast (x3.toNatClampNeg) dX5_note_120 rfl rfl v1 rfl ?_
      refine g_aload_n dX5_note_121 rfl ?_
      refine g_getr (r2 := 49) dX5_note_122 fX5_29 rfl rfl ?_
      refine g_iload_n dX5_note_125 rfl ?_
      refine h_aald (50 + x3.toNatClampNeg) dX5_note_126 rfl rfl v1 rfl ?_
      refine g_aload_n dX5_note_127 rfl ?_
      refine g_getr (r2 := 35) dX5_note_128 fX5_36 rfl rfl ?_
      refine g_getr (r2 := 36) dX5_note_131 fX5_110 rfl rfl ?_
      refine g_iload_n dX5_note_134 rfl ?_
      refine h_iald (μ.1 36 x3.toNatClampNeg) dX5_note_135 rfl rfl v1 rfl ?_
      refine g_dup2 dX5_note_136 ?_
      obtain ⟨v3, h⟩ := h
      refine h_iald ((s_u μ 48 (x3.toNatClampNeg) ((μ.1 48 x3.toNatClampNeg) ||| ((1 : Int32) <<< ((μ.1 46 x3.toNatClampNeg) &&& 31)))).1 (50 + x3.toNatClampNeg) (μ.1 36 x3.toNatClampNeg).toNatClampNeg) dX5_note_137 (s_rbl v1).1 (s_rbl v1).2 v3 rfl ?_
      refine g_iconst 1 dX5_note_138 (by decide) ?_
      refine g_iadd dX5_note_139 ?_
      refine h_iast ((μ.1 36 x3.toNatClampNeg).toNatClampNeg) dX5_note_140 (s_rbl v1).1 (s_rbl v1).2 v3 rfl ?_
      refine g_iinc (x3 + 1) [some (sR 43), some (sI x1), some (sI x2), some (sI (x3 + 1))] dX5_note_141 rfl rfl (by decide) rfl ?_
      refine g_goto 77 dX5_note_144 (by decide) ?_
      exact sG.loc (s_le_s (s_le_s (s_le_s (s_le_s s_le_0)))) h
    · have h := h.2 q
      refine g_bipush 16 dX5_note_106 (by decide) ?_
      refine g_goto 119 dX5_note_108 (by decide) ?_
      refine g_ior dX5_note_119 ?_
      refine h_iast (x3.toNatClampNeg) dX5_note_120 rfl rfl v1 rfl ?_
      refine g_aload_n dX5_note_121 rfl ?_
      refine g_getr (r2 := 49) dX5_note_122 fX5_29 rfl rfl ?_
      refine g_iload_n dX5_note_125 rfl ?_
      refine h_aald (50 + x3.toNatClampNeg) dX5_note_126 rfl rfl v1 rfl ?_
      refine g_aload_n dX5_note_127 rfl ?_
      refine g_getr (r2 := 35) dX5_note_128 fX5_36 rfl rfl ?_
      refine g_getr (r2 := 36) dX5_note_131 fX5_110 rfl rfl ?_
      refine g_iload_n dX5_note_134 rfl ?_
      refine h_iald (μ.1 36 x3.toNatClampNeg) dX5_note_135 rfl rfl v1 rfl ?_
      refine g_dup2 dX5_note_136 ?_
      obtain ⟨v3, h⟩ := h
      refine h_iald ((s_u μ 48 (x3.toNatClampNeg) ((μ.1 48 x3.toNatClampNeg) ||| 16)).1 (50 + x3.toNatClampNeg) (μ.1 36 x3.toNatClampNeg).toNatClampNeg) dX5_note_137 (s_rbl v1).1 (s_rbl v1).2 v3 rfl ?_
      refine g_iconst 1 dX5_note_138 (by decide) ?_
      refine g_iadd dX5_note_139 ?_
      refine h_iast ((μ.1 36 x3.toNatClampNeg).toNatClampNeg) dX5_note_140 (s_rbl v1).1 (s_rbl v1).2 v3 rfl ?_
      refine g_iinc (x3 + 1) [some (sR 43), some (sI x1), some (sI x2), some (sI (x3 + 1))] dX5_note_141 rfl rfl (by decide) rfl ?_
      refine g_goto 77 dX5_note_144 (by decide) ?_
      exact sG.loc (s_le_s (s_le_s (s_le_s (s_le_s s_le_0)))) h
set_option maxRecDepth 20000 in
theorem eX5_atPlace {d : Nat} {Q : Option sAV → sM → Prop} {μ : sM} {a1 : Int32} (h : ((a1 < 0 → Q (some (sI (-6))) μ) ∧ (¬ a1 < 0 → (((μ.1 43 6) ≤ a1 → Q (some (sI (-6))) μ) ∧ (¬ (μ.1 43 6) ≤ a1 → ((6 ≤ a1 → Q (some (sI (-6))) μ) ∧ (¬ 6 ≤ a1 → (vp_in a1 6 ∧ Q (some (sI (μ.1 47 a1.toNatClampNeg))) μ)))))))) : sCl sLL mX5_atPlace d [sR 43, sI a1] μ Q := by
  refine sG.loc (al2 := [some (sR 43), some (sI a1)]) (s_le_s (s_le_s s_le_0)) ?_
  refine g_iload_n dX5_atPlace_0 rfl ?_
  refine g_if_lt 27 dX5_atPlace_1 (by decide) (fun q => ?_) (fun q => ?_)
  · have h := h.1 q
    refine g_bipush (-6) dX5_atPlace_27 (by decide) ?_
    exact g_iret dX5_atPlace_29 rfl rfl h
  · have h := h.2 q
    refine g_iload_n dX5_atPlace_4 rfl ?_
    refine g_aload_n dX5_atPlace_5 rfl ?_
    refine h_geti (μ.1 43 6) dX5_atPlace_6 fX5_56 rfl rfl rfl ?_
    refine g_icmp_ge 27 dX5_atPlace_9 (by decide) (fun q => ?_) (fun q => ?_)
    · have h := h.1 q
      refine g_bipush (-6) dX5_atPlace_27 (by decide) ?_
      exact g_iret dX5_atPlace_29 rfl rfl h
    · have h := h.2 q
      refine g_iload_n dX5_atPlace_12 rfl ?_
      refine g_bipush 6 dX5_atPlace_13 (by decide) ?_
      refine g_icmp_ge 27 dX5_atPlace_15 (by decide) (fun q => ?_) (fun q => ?_)
      · have h := h.1 q
        refine g_bipush (-6) dX5_atPlace_27 (by decide) ?_
        exact g_iret dX5_atPlace_29 rfl rfl h
      · have h := h.2 q
        refine g_aload_n dX5_atPlace_18 rfl ?_
        refine g_getr (r2 := 47) dX5_atPlace_19 fX5_21 rfl rfl ?_
        refine g_iload_n dX5_atPlace_22 rfl ?_
        obtain ⟨v1, h⟩ := h
        refine h_iald (μ.1 47 a1.toNatClampNeg) dX5_atPlace_23 rfl rfl v1 rfl ?_
        refine g_goto 29 dX5_atPlace_24 (by decide) ?_
        exact g_iret dX5_atPlace_29 rfl rfl h
set_option maxRecDepth 20000 in
theorem eX5_bestToLookAt {d : Nat} {Q : Option sAV → sM → Prop} {μ : sM} (h : ((¬ (μ.1 43 5) = 0 → sG sLL mX5_bestToLookAt (d + 1) Q 17 [some (sR 43), some (sI (-6)), some (sI 0), some (sI 0), none] [] μ) ∧ ((μ.1 43 5) = 0 → Q (some (sI (-6))) μ))) : sCl sLL mX5_bestToLookAt (d + 1) [sR 43] μ Q := by
  refine sG.loc (al2 := [some (sR 43), none, none, none, none]) (s_le_s (s_le_p (s_le_p (s_le_p (s_le_p s_le_0))))) ?_
  refine g_aload_n dX5_bestToLookAt_0 rfl ?_
  refine h_geti (μ.1 43 5) dX5_bestToLookAt_1 fX5_52 rfl rfl rfl ?_
  refine g_if_ne 10 dX5_bestToLookAt_4 (by decide) (fun q => ?_) (fun q => ?_)
  · have h := h.1 q
    refine g_bipush (-6) dX5_bestToLookAt_10 (by decide) ?_
    refine g_istore_n [some (sR 43), some (sI (-6)), none, none, none] dX5_bestToLookAt_12 rfl (by decide) rfl ?_
    refine g_iconst 0 dX5_bestToLookAt_13 (by decide) ?_
    refine g_istore_n [some (sR 43), some (sI (-6)), some (sI 0), none, none] dX5_bestToLookAt_14 rfl (by decide) rfl ?_
    refine g_iconst 0 dX5_bestToLookAt_15 (by decide) ?_
    refine g_istore_n [some (sR 43), some (sI (-6)), some (sI 0), some (sI 0), none] dX5_bestToLookAt_16 rfl (by decide) rfl ?_
    exact sG.loc (s_le_s (s_le_s (s_le_s (s_le_s (s_le_n s_le_0))))) h
  · have h := h.2 q
    refine g_bipush (-6) dX5_bestToLookAt_7 (by decide) ?_
    exact g_iret dX5_bestToLookAt_9 rfl rfl h
set_option maxRecDepth 20000 in
theorem sX5_bestToLookAt_17 {d : Nat} {Q : Option sAV → sM → Prop} {μ : sM} {x1 : Int32} {x2 : Int32} {x3 : Int32} (h : (((μ.1 1 0) ≤ x3 → Q (some (sI x1)) μ) ∧ (¬ (μ.1 1 0) ≤ x3 → (vp_in x3 7 ∧ (((μ.1 44 x3.toNatClampNeg) = (-6) → sCl sLL mX5_mostLeftOver d [sR 43, sI x3] μ (kI fun r1 μ1 => ((x1 = (-6) → sG sLL mX5_bestToLookAt (d + 1) Q 17 [some (sR 43), some (sI x3), some (sI r1), some (sI (x3 + 1)), none] [] μ1) ∧ (¬ x1 = (-6) → ((x2 ≤ r1 → sG sLL mX5_bestToLookAt (d + 1) Q 17 [some (sR 43), some (sI x1), some (sI x2), some (sI (x3 + 1)), none] [] μ1) ∧ (¬ x2 ≤ r1 → sG sLL mX5_bestToLookAt (d + 1) Q 17 [some (sR 43), some (sI x3), some (sI r1), some (sI (x3 + 1)), none] [] μ1)))))) ∧ (¬ (μ.1 44 x3.toNatClampNeg) = (-6) → sG sLL mX5_bestToLookAt (d + 1) Q 17 [some (sR 43), some (sI x1), some (sI x2), some (sI (x3 + 1)), none] [] μ)))))) : sG sLL mX5_bestToLookAt (d + 1) Q 17 [some (sR 43), some (sI x1), some (sI x2), some (sI x3), none] [] μ := by
  refine g_iload_n dX5_bestToLookAt_17 rfl ?_
  refine g_aload_n dX5_bestToLookAt_18 rfl ?_
  refine g_getr (r2 := 1) dX5_bestToLookAt_19 fX5_32 rfl rfl ?_
  refine h_geti (μ.1 1 0) dX5_bestToLookAt_22 fX5_107 rfl rfl rfl ?_
  refine g_icmp_ge 72 dX5_bestToLookAt_25 (by decide) (fun q => ?_) (fun q => ?_)
  · have h := h.1 q
    refine g_iload_n dX5_bestToLookAt_72 rfl ?_
    exact g_iret dX5_bestToLookAt_73 rfl rfl h
  · have h := h.2 q
    refine g_aload_n dX5_bestToLookAt_28 rfl ?_
    refine g_getr (r2 := 44) dX5_bestToLookAt_29 fX5_9 rfl rfl ?_
    refine g_iload_n dX5_bestToLookAt_32 rfl ?_
    obtain ⟨v1, h⟩ := h
    refine h_iald (μ.1 44 x3.toNatClampNeg) dX5_bestToLookAt_33 rfl rfl v1 rfl ?_
    refine g_bipush (-6) dX5_bestToLookAt_34 (by decide) ?_
    refine g_icmp_eq 42 dX5_bestToLookAt_36 (by decide) (fun q => ?_) (fun q => ?_)
    · have h := h.1 q
      refine g_aload_n dX5_bestToLookAt_42 rfl ?_
      refine g_iload_n dX5_bestToLookAt_43 rfl ?_
      refine g_callVi (mi2 := mX5_mostLeftOver) (r := 43) (st := []) [sI x3] dX5_bestToLookAt_44 lX5_113 kX5_mostLeftOver vX5_mostLeftOver rfl rfl rfl (Nat.le_of_ble_eq_true rfl) (Nat.le_of_ble_eq_true rfl) (Nat.le_of_ble_eq_true rfl) rfl ?_
      refine sG.mono h (kI_mono fun r1 μ1 h => ?_)
      refine g_istore [some (sR 43), some (sI x1), some (sI x2), some (sI x3), some (sI r1)] dX5_bestToLookAt_47 (by decide) rfl ?_
      refine g_iload_n dX5_bestToLookAt_49 rfl ?_
      refine g_bipush (-6) dX5_bestToLookAt_50 (by decide) ?_
      refine g_icmp_eq 61 dX5_bestToLookAt_52 (by decide) (fun q => ?_) (fun q => ?_)
      · have h := h.1 q
        refine g_iload_n dX5_bestToLookAt_61 rfl ?_
        refine g_istore_n [some (sR 43), some (sI x3), some (sI x2), some (sI x3), some (sI r1)] dX5_bestToLookAt_62 rfl (by decide) rfl ?_
        refine g_iload dX5_bestToLookAt_63 rfl ?_
        refine g_istore_n [some (sR 43), some (sI x3), some (sI r1), some (sI x3), some (sI r1)] dX5_bestToLookAt_65 rfl (by decide) rfl ?_
        refine g_iinc (x3 + 1) [some (sR 43), some (sI x3), some (sI r1), some (sI (x3 + 1)), some (sI r1)] dX5_bestToLookAt_66 rfl rfl (by decide) rfl ?_
        refine g_goto 17 dX5_bestToLookAt_69 (by decide) ?_
        exact sG.loc (s_le_s (s_le_s (s_le_s (s_le_s (s_le_n s_le_0))))) h
      · have h := h.2 q
        refine g_iload dX5_bestToLookAt_55 rfl ?_
        refine g_iload_n dX5_bestToLookAt_57 rfl ?_
        refine g_icmp_ge 66 dX5_bestToLookAt_58 (by decide) (fun q => ?_) (fun q => ?_)
        · have h := h.1 q
          refine g_iinc (x3 + 1) [some (sR 43), some (sI x1), some (sI x2), some (sI (x3 + 1)), some (sI r1)] dX5_bestToLookAt_66 rfl rfl (by decide) rfl ?_
          refine g_goto 17 dX5_bestToLookAt_69 (by decide) ?_
          exact sG.loc (s_le_s (s_le_s (s_le_s (s_le_s (s_le_n s_le_0))))) h
        · have h := h.2 q
          refine g_iload_n dX5_bestToLookAt_61 rfl ?_
          refine g_istore_n [some (sR 43), some (sI x3), some (sI x2), some (sI x3), some (sI r1)] dX5_bestToLookAt_62 rfl (by decide) rfl ?_
          refine g_iload dX5_bestToLookAt_63 rfl ?_
          refine g_istore_n [some (sR 43), some (sI x3), some (sI r1), some (sI x3), some (sI r1)] dX5_bestToLookAt_65 rfl (by decide) rfl ?_
          refine g_iinc (x3 + 1) [some (sR 43), some (sI x3), some (sI r1), some (sI (x3 + 1)), some (sI r1)] dX5_bestToLookAt_66 rfl rfl (by decide) rfl ?_
          refine g_goto 17 dX5_bestToLookAt_69 (by decide) ?_
          exact sG.loc (s_le_s (s_le_s (s_le_s (s_le_s (s_le_n s_le_0))))) h
    · have h := h.2 q
      refine g_goto 66 dX5_bestToLookAt_39 (by decide) ?_
      refine g_iinc (x3 + 1) [some (sR 43), some (sI x1), some (sI x2), some (sI (x3 + 1)), none] dX5_bestToLookAt_66 rfl rfl (by decide) rfl ?_
      refine g_goto 17 dX5_bestToLookAt_69 (by decide) ?_
      exact sG.loc (s_le_s (s_le_s (s_le_s (s_le_s (s_le_n s_le_0))))) h
set_option maxRecDepth 20000 in
theorem eX5_mostLeftOver {d : Nat} {Q : Option sAV → sM → Prop} {μ : sM} {a1 : Int32} (h : sG sLL mX5_mostLeftOver (d + 1) Q 4 [some (sR 43), some (sI a1), some (sI 0), some (sI 0)] [] μ) : sCl sLL mX5_mostLeftOver (d + 1) [sR 43, sI a1] μ Q := by
  refine sG.loc (al2 := [some (sR 43), some (sI a1), none, none]) (s_le_s (s_le_s (s_le_p (s_le_p s_le_0)))) ?_
  refine g_iconst 0 dX5_mostLeftOver_0 (by decide) ?_
  refine g_istore_n [some (sR 43), some (sI a1), some (sI 0), none] dX5_mostLeftOver_1 rfl (by decide) rfl ?_
  refine g_iconst 0 dX5_mostLeftOver_2 (by decide) ?_
  refine g_istore_n [some (sR 43), some (sI a1), some (sI 0), some (sI 0)] dX5_mostLeftOver_3 rfl (by decide) rfl ?_
  exact sG.loc (s_le_s (s_le_s (s_le_s (s_le_s s_le_0)))) h
set_option maxRecDepth 20000 in
theorem sX5_mostLeftOver_4 {d : Nat} {Q : Option sAV → sM → Prop} {μ : sM} {x1 : Int32} {x2 : Int32} {x3 : Int32} (h : ((9 < x3 → Q (some (sI x2)) μ) ∧ (¬ 9 < x3 → (vp_in x1 7 ∧ (vp_in x3 10 ∧ sG sLL mX5_mostLeftOver (d + 1) Q 4 [some (sR 43), some (sI x1), some (sI (if x2 < (μ.1 (50 + x1.toNatClampNeg) x3.toNatClampNeg) then (μ.1 (50 + x1.toNatClampNeg) x3.toNatClampNeg) else x2)), some (sI (x3 + 1))] [] μ))))) : sG sLL mX5_mostLeftOver (d + 1) Q 4 [some (sR 43), some (sI x1), some (sI x2), some (sI x3)] [] μ := by
  refine g_iload_n dX5_mostLeftOver_4 rfl ?_
  refine g_bipush 9 dX5_mostLeftOver_5 (by decide) ?_
  refine g_icmp_gt 29 dX5_mostLeftOver_7 (by decide) (fun q => ?_) (fun q => ?_)
  · have h := h.1 q
    refine g_iload_n dX5_mostLeftOver_29 rfl ?_
    exact g_iret dX5_mostLeftOver_30 rfl rfl h
  · have h := h.2 q
    refine g_iload_n dX5_mostLeftOver_10 rfl ?_
    refine g_aload_n dX5_mostLeftOver_11 rfl ?_
    refine g_getr (r2 := 49) dX5_mostLeftOver_12 fX5_29 rfl rfl ?_
    refine g_iload_n dX5_mostLeftOver_15 rfl ?_
    obtain ⟨v1, h⟩ := h
    refine h_aald (50 + x1.toNatClampNeg) dX5_mostLeftOver_16 rfl rfl v1 rfl ?_
    refine g_iload_n dX5_mostLeftOver_17 rfl ?_
    obtain ⟨v3, h⟩ := h
    refine h_iald (μ.1 (50 + x1.toNatClampNeg) x3.toNatClampNeg) dX5_mostLeftOver_18 (s_rbl v1).1 (s_rbl v1).2 v3 rfl ?_
    refine g_mmax dX5_mostLeftOver_19 lX5_116 (Nat.le_of_ble_eq_true rfl) ?_
    refine g_istore_n [some (sR 43), some (sI x1), some (sI (if x2 < (μ.1 (50 + x1.toNatClampNeg) x3.toNatClampNeg) then (μ.1 (50 + x1.toNatClampNeg) x3.toNatClampNeg) else x2)), some (sI x3)] dX5_mostLeftOver_22 rfl (by decide) rfl ?_
    refine g_iinc (x3 + 1) [some (sR 43), some (sI x1), some (sI (if x2 < (μ.1 (50 + x1.toNatClampNeg) x3.toNatClampNeg) then (μ.1 (50 + x1.toNatClampNeg) x3.toNatClampNeg) else x2)), some (sI (x3 + 1))] dX5_mostLeftOver_23 rfl rfl (by decide) rfl ?_
    refine g_goto 4 dX5_mostLeftOver_26 (by decide) ?_
    exact sG.loc (s_le_s (s_le_s (s_le_s (s_le_s s_le_0)))) h
