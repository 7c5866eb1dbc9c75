-- SEGMENTS of X6,X7 (printed by wip/whole/walker.py)
set_option maxRecDepth 20000 in
theorem eX6_asAtFirst {d : Nat} {Q : Option sAV → sM → Prop} {μ : sM} {a1 : Int32} (h : sG sLL mX6_asAtFirst (d + 1) Q 12 [some (sR 1), some (sI a1), some (sI 0)] [] (s_u (s_u μ 1 0 a1) 1 1 0)) : sCl sLL mX6_asAtFirst (d + 1) [sR 1, sI a1] μ Q := by
  refine sG.loc (al2 := [some (sR 1), some (sI a1), none]) (s_le_s (s_le_s (s_le_p s_le_0))) ?_
  refine g_aload_n dX6_asAtFirst_0 rfl ?_
  refine g_iload_n dX6_asAtFirst_1 rfl ?_
  refine g_puti dX6_asAtFirst_2 fX6_43 rfl rfl rfl rfl ?_
  refine g_aload_n dX6_asAtFirst_5 rfl ?_
  refine g_iconst 0 dX6_asAtFirst_6 (by decide) ?_
  refine g_puti dX6_asAtFirst_7 fX6_47 rfl rfl rfl rfl ?_
  refine g_iconst 0 dX6_asAtFirst_10 (by decide) ?_
  refine g_istore_n [some (sR 1), some (sI a1), some (sI 0)] dX6_asAtFirst_11 rfl (by decide) rfl ?_
  exact sG.loc (s_le_s (s_le_s (s_le_s s_le_0))) h
set_option maxRecDepth 20000 in
theorem sX6_asAtFirst_12 {d : Nat} {Q : Option sAV → sM → Prop} {μ : sM} {x1 : Int32} {x2 : Int32} (h : ((7 ≤ x2 → sCl sLL mJ7_fill_53178 d [sR 5, sI 9] μ (kV fun μ1 => sCl sLL mJ7_fill_53178 d [sR 6, sI 9] μ1 (kV fun μ2 => sCl sLL mJ7_fill_53178 d [sR 7, sI 0] μ2 (kV fun μ3 => sCl sLL mJ7_fill_53178 d [sR 8, sI (-6)] μ3 (kV fun μ4 => Q none μ4))))) ∧ (¬ 7 ≤ x2 → (vp_in x2 7 ∧ sG sLL mX6_asAtFirst (d + 1) Q 12 [some (sR 1), some (sI x1), some (sI (x2 + 1))] [] (s_u μ 4 (x2.toNatClampNeg) x2))))) : sG sLL mX6_asAtFirst (d + 1) Q 12 [some (sR 1), some (sI x1), some (sI x2)] [] μ := by
  refine g_iload_n dX6_asAtFirst_12 rfl ?_
  refine g_bipush 7 dX6_asAtFirst_13 (by decide) ?_
  refine g_icmp_ge 31 dX6_asAtFirst_15 (by decide) (fun q => ?_) (fun q => ?_)
  · have h := h.1 q
    refine g_aload_n dX6_asAtFirst_31 rfl ?_
    refine g_getr (r2 := 5) dX6_asAtFirst_32 fX6_15 rfl rfl ?_
    refine g_bipush 9 dX6_asAtFirst_35 (by decide) ?_
    refine g_callSv (mi2 := mJ7_fill_53178) (st := []) [sR 5, sI 9] dX6_asAtFirst_37 lX6_50 kJ7_fill_53178 vJ7_fill_53178 rfl (Nat.le_of_ble_eq_true rfl) (Nat.le_of_ble_eq_true rfl) (Nat.le_of_ble_eq_true rfl) rfl ?_
    refine sG.mono h (kV_mono fun μ1 h => ?_)
    refine g_aload_n dX6_asAtFirst_40 rfl ?_
    refine g_getr (r2 := 6) dX6_asAtFirst_41 fX6_18 rfl rfl ?_
    refine g_bipush 9 dX6_asAtFirst_44 (by decide) ?_
    refine g_callSv (mi2 := mJ7_fill_53178) (st := []) [sR 6, sI 9] dX6_asAtFirst_46 lX6_50 kJ7_fill_53178 vJ7_fill_53178 rfl (Nat.le_of_ble_eq_true rfl) (Nat.le_of_ble_eq_true rfl) (Nat.le_of_ble_eq_true rfl) rfl ?_
    refine sG.mono h (kV_mono fun μ2 h => ?_)
    refine g_aload_n dX6_asAtFirst_49 rfl ?_
    refine g_getr (r2 := 7) dX6_asAtFirst_50 fX6_21 rfl rfl ?_
    refine g_iconst 0 dX6_asAtFirst_53 (by decide) ?_
    refine g_callSv (mi2 := mJ7_fill_53178) (st := []) [sR 7, sI 0] dX6_asAtFirst_54 lX6_50 kJ7_fill_53178 vJ7_fill_53178 rfl (Nat.le_of_ble_eq_true rfl) (Nat.le_of_ble_eq_true rfl) (Nat.le_of_ble_eq_true rfl) rfl ?_
    refine sG.mono h (kV_mono fun μ3 h => ?_)
    refine g_aload_n dX6_asAtFirst_57 rfl ?_
    refine g_getr (r2 := 8) dX6_asAtFirst_58 fX6_24 rfl rfl ?_
    refine g_bipush (-6) dX6_asAtFirst_61 (by decide) ?_
    refine g_callSv (mi2 := mJ7_fill_53178) (st := []) [sR 8, sI (-6)] dX6_asAtFirst_63 lX6_50 kJ7_fill_53178 vJ7_fill_53178 rfl (Nat.le_of_ble_eq_true rfl) (Nat.le_of_ble_eq_true rfl) (Nat.le_of_ble_eq_true rfl) rfl ?_
    refine sG.mono h (kV_mono fun μ4 h => ?_)
    exact g_vret dX6_asAtFirst_66 rfl h
  · have h := h.2 q
    refine g_aload_n dX6_asAtFirst_18 rfl ?_
    refine g_getr (r2 := 4) dX6_asAtFirst_19 fX6_9 rfl rfl ?_
    refine g_iload_n dX6_asAtFirst_22 rfl ?_
    refine g_iload_n dX6_asAtFirst_23 rfl ?_
    obtain ⟨v1, h⟩ := h
    refine h_iast (x2.toNatClampNeg) dX6_asAtFirst_24 rfl rfl v1 rfl ?_
    refine g_iinc (x2 + 1) [some (sR 1), some (sI x1), some (sI (x2 + 1))] dX6_asAtFirst_25 rfl rfl (by decide) rfl ?_
    refine g_goto 12 dX6_asAtFirst_28 (by decide) ?_
    exact sG.loc (s_le_s (s_le_s (s_le_s s_le_0))) h
set_option maxRecDepth 20000 in
theorem eX6_hasThing {d : Nat} {Q : Option sAV → sM → Prop} {μ : sM} {a1 : Int32} (h : ((a1 < 0 → Q (some (sI 0)) μ) ∧ (¬ a1 < 0 → (((μ.1 1 0) ≤ a1 → Q (some (sI 0)) μ) ∧ (¬ (μ.1 1 0) ≤ a1 → Q (some (sI 1)) μ))))) : sCl sLL mX6_hasThing d [sR 1, sI a1] μ Q := by
  refine sG.loc (al2 := [some (sR 1), some (sI a1)]) (s_le_s (s_le_s s_le_0)) ?_
  refine g_iload_n dX6_hasThing_0 rfl ?_
  refine g_if_lt 16 dX6_hasThing_1 (by decide) (fun q => ?_) (fun q => ?_)
  · have h := h.1 q
    refine g_iconst 0 dX6_hasThing_16 (by decide) ?_
    exact g_iret dX6_hasThing_17 rfl (s_nb (Or.inl rfl)) h
  · have h := h.2 q
    refine g_iload_n dX6_hasThing_4 rfl ?_
    refine g_aload_n dX6_hasThing_5 rfl ?_
    refine h_geti (μ.1 1 0) dX6_hasThing_6 fX6_43 rfl rfl rfl ?_
    refine g_icmp_ge 16 dX6_hasThing_9 (by decide) (fun q => ?_) (fun q => ?_)
    · have h := h.1 q
      refine g_iconst 0 dX6_hasThing_16 (by decide) ?_
      exact g_iret dX6_hasThing_17 rfl (s_nb (Or.inl rfl)) h
    · have h := h.2 q
      refine g_iconst 1 dX6_hasThing_12 (by decide) ?_
      refine g_goto 17 dX6_hasThing_13 (by decide) ?_
      exact g_iret dX6_hasThing_17 rfl (s_nb (Or.inr rfl)) h
set_option maxRecDepth 20000 in
theorem eX6_ofThing {d : Nat} {Q : Option sAV → sM → Prop} {μ : sM} {a1 : Int32} {a2 : Int32} (h : ((a2 = 0 → (vp_in a1 7 ∧ Q (some (sI (μ.1 4 a1.toNatClampNeg))) μ)) ∧ (¬ a2 = 0 → ((a2 = 1 → (vp_in a1 7 ∧ Q (some (sI (μ.1 5 a1.toNatClampNeg))) μ)) ∧ (¬ a2 = 1 → ((a2 = 2 → Q (some (sI (((μ.1 1 1) >>> (a1 &&& 31)) &&& 1))) μ) ∧ (¬ a2 = 2 → ((a2 = 3 → (vp_in a1 7 ∧ Q (some (sI (μ.1 6 a1.toNatClampNeg))) μ)) ∧ (¬ a2 = 3 → ((a2 = 4 → (vp_in a1 7 ∧ Q (some (sI (μ.1 7 a1.toNatClampNeg))) μ)) ∧ (¬ a2 = 4 → (vp_in a1 7 ∧ Q (some (sI (μ.1 8 a1.toNatClampNeg))) μ)))))))))))) : sCl sLL mX6_ofThing d [sR 1, sI a1, sI a2] μ Q := by
  refine sG.loc (al2 := [some (sR 1), some (sI a1), some (sI a2)]) (s_le_s (s_le_s (s_le_s s_le_0))) ?_
  refine g_iload_n dX6_ofThing_0 rfl ?_
  by_cases q0 : a2 = 0
  · have h := h.1 q0
    refine g_tin 36 0 dX6_ofThing_1 (by rw [q0]; decide) (by decide) rfl (by decide) ?_
    refine g_aload_n dX6_ofThing_36 rfl ?_
    refine g_getr (r2 := 4) dX6_ofThing_37 fX6_9 rfl rfl ?_
    refine g_iload_n dX6_ofThing_40 rfl ?_
    obtain ⟨v1, h⟩ := h
    refine h_iald (μ.1 4 a1.toNatClampNeg) dX6_ofThing_41 rfl rfl v1 rfl ?_
    exact g_iret dX6_ofThing_42 rfl rfl h
  · have h := h.2 q0
    by_cases q1 : a2 = 1
    · have h := h.1 q1
      refine g_tin 43 1 dX6_ofThing_1 (by rw [q1]; decide) (by decide) rfl (by decide) ?_
      refine g_aload_n dX6_ofThing_43 rfl ?_
      refine g_getr (r2 := 5) dX6_ofThing_44 fX6_15 rfl rfl ?_
      refine g_iload_n dX6_ofThing_47 rfl ?_
      obtain ⟨v1, h⟩ := h
      refine h_iald (μ.1 5 a1.toNatClampNeg) dX6_ofThing_48 rfl rfl v1 rfl ?_
      exact g_iret dX6_ofThing_49 rfl rfl h
    · have h := h.2 q1
      by_cases q2 : a2 = 2
      · have h := h.1 q2
        refine g_tin 50 2 dX6_ofThing_1 (by rw [q2]; decide) (by decide) rfl (by decide) ?_
        refine g_aload_n dX6_ofThing_50 rfl ?_
        refine h_geti (μ.1 1 1) dX6_ofThing_51 fX6_47 rfl rfl rfl ?_
        refine g_iload_n dX6_ofThing_54 rfl ?_
        refine g_ishr dX6_ofThing_55 ?_
        refine g_iconst 1 dX6_ofThing_56 (by decide) ?_
        refine g_iand dX6_ofThing_57 ?_
        exact g_iret dX6_ofThing_58 rfl rfl h
      · have h := h.2 q2
        by_cases q3 : a2 = 3
        · have h := h.1 q3
          refine g_tin 59 3 dX6_ofThing_1 (by rw [q3]; decide) (by decide) rfl (by decide) ?_
          refine g_aload_n dX6_ofThing_59 rfl ?_
          refine g_getr (r2 := 6) dX6_ofThing_60 fX6_18 rfl rfl ?_
          refine g_iload_n dX6_ofThing_63 rfl ?_
          obtain ⟨v1, h⟩ := h
          refine h_iald (μ.1 6 a1.toNatClampNeg) dX6_ofThing_64 rfl rfl v1 rfl ?_
          exact g_iret dX6_ofThing_65 rfl rfl h
        · have h := h.2 q3
          by_cases q4 : a2 = 4
          · have h := h.1 q4
            refine g_tin 66 4 dX6_ofThing_1 (by rw [q4]; decide) (by decide) rfl (by decide) ?_
            refine g_aload_n dX6_ofThing_66 rfl ?_
            refine g_getr (r2 := 7) dX6_ofThing_67 fX6_21 rfl rfl ?_
            refine g_iload_n dX6_ofThing_70 rfl ?_
            obtain ⟨v1, h⟩ := h
            refine h_iald (μ.1 7 a1.toNatClampNeg) dX6_ofThing_71 rfl rfl v1 rfl ?_
            exact g_iret dX6_ofThing_72 rfl rfl h
          · have h := h.2 q4
            have n0 := lv_neT (a := 0) q0 (by decide)
            have n1 := lv_neT (a := 1) q1 (by decide)
            have n2 := lv_neT (a := 2) q2 (by decide)
            have n3 := lv_neT (a := 3) q3 (by decide)
            have n4 := lv_neT (a := 4) q4 (by decide)
            refine g_tout 73 dX6_ofThing_1 (by omega) (by decide) ?_
            refine g_aload_n dX6_ofThing_73 rfl ?_
            refine g_getr (r2 := 8) dX6_ofThing_74 fX6_24 rfl rfl ?_
            refine g_iload_n dX6_ofThing_77 rfl ?_
            obtain ⟨v1, h⟩ := h
            refine h_iald (μ.1 8 a1.toNatClampNeg) dX6_ofThing_78 rfl rfl v1 rfl ?_
            exact g_iret dX6_ofThing_79 rfl rfl h
set_option maxRecDepth 20000 in
theorem eX6_change {d : Nat} {Q : Option sAV → sM → Prop} {μ : sM} {a1 : Int32} {a2 : Int32} {a3 : Int32} (h : ((a2 = 0 → (vp_in a1 7 ∧ Q none (s_u μ 4 (a1.toNatClampNeg) a3))) ∧ (¬ a2 = 0 → ((a2 = 1 → (vp_in a1 7 ∧ Q none (s_u (s_u (s_u μ 5 (a1.toNatClampNeg) a3) 6 (a1.toNatClampNeg) a3) 7 (a1.toNatClampNeg) 0))) ∧ (¬ a2 = 1 → ((a2 = 2 → Q none (s_u μ 1 1 (((μ.1 1 1) &&& (((1 : Int32) <<< (a1 &&& 31)) ^^^ (-1))) ||| (a3 <<< (a1 &&& 31))))) ∧ (¬ a2 = 2 → (vp_in a1 7 ∧ Q none (s_u μ 6 (a1.toNatClampNeg) a3))))))))) : sCl sLL mX6_change d [sR 1, sI a1, sI a2, sI a3] μ Q := by
  refine sG.loc (al2 := [some (sR 1), some (sI a1), some (sI a2), some (sI a3)]) (s_le_s (s_le_s (s_le_s (s_le_s s_le_0)))) ?_
  refine g_iload_n dX6_change_0 rfl ?_
  by_cases q0 : a2 = 0
  · have h := h.1 q0
    refine g_tin 28 0 dX6_change_1 (by rw [q0]; decide) (by decide) rfl (by decide) ?_
    refine g_aload_n dX6_change_28 rfl ?_
    refine g_getr (r2 := 4) dX6_change_29 fX6_9 rfl rfl ?_
    refine g_iload_n dX6_change_32 rfl ?_
    refine g_iload_n dX6_change_33 rfl ?_
    obtain ⟨v1, h⟩ := h
    refine h_iast (a1.toNatClampNeg) dX6_change_34 rfl rfl v1 rfl ?_
    refine g_goto 90 dX6_change_35 (by decide) ?_
    exact g_vret dX6_change_90 rfl h
  · have h := h.2 q0
    by_cases q1 : a2 = 1
    · have h := h.1 q1
      refine g_tin 38 1 dX6_change_1 (by rw [q1]; decide) (by decide) rfl (by decide) ?_
      refine g_aload_n dX6_change_38 rfl ?_
      refine g_getr (r2 := 5) dX6_change_39 fX6_15 rfl rfl ?_
      refine g_iload_n dX6_change_42 rfl ?_
      refine g_iload_n dX6_change_43 rfl ?_
      obtain ⟨v1, h⟩ := h
      refine h_iast (a1.toNatClampNeg) dX6_change_44 rfl rfl v1 rfl ?_
      refine g_aload_n dX6_change_45 rfl ?_
      refine g_getr (r2 := 6) dX6_change_46 fX6_18 rfl rfl ?_
      refine g_iload_n dX6_change_49 rfl ?_
      refine g_iload_n dX6_change_50 rfl ?_
      refine h_iast (a1.toNatClampNeg) dX6_change_51 rfl rfl v1 rfl ?_
      refine g_aload_n dX6_change_52 rfl ?_
      refine g_getr (r2 := 7) dX6_change_53 fX6_21 rfl rfl ?_
      refine g_iload_n dX6_change_56 rfl ?_
      refine g_iconst 0 dX6_change_57 (by decide) ?_
      refine h_iast (a1.toNatClampNeg) dX6_change_58 rfl rfl v1 rfl ?_
      refine g_goto 90 dX6_change_59 (by decide) ?_
      exact g_vret dX6_change_90 rfl h
    · have h := h.2 q1
      by_cases q2 : a2 = 2
      · have h := h.1 q2
        refine g_tin 62 2 dX6_change_1 (by rw [q2]; decide) (by decide) rfl (by decide) ?_
        refine g_aload_n dX6_change_62 rfl ?_
        refine g_aload_n dX6_change_63 rfl ?_
        refine h_geti (μ.1 1 1) dX6_change_64 fX6_47 rfl rfl rfl ?_
        refine g_iconst 1 dX6_change_67 (by decide) ?_
        refine g_iload_n dX6_change_68 rfl ?_
        refine g_ishl dX6_change_69 ?_
        refine g_iconst (-1) dX6_change_70 (by decide) ?_
        refine g_ixor dX6_change_71 ?_
        refine g_iand dX6_change_72 ?_
        refine g_iload_n dX6_change_73 rfl ?_
        refine g_iload_n dX6_change_74 rfl ?_
        refine g_ishl dX6_change_75 ?_
        refine g_ior dX6_change_76 ?_
        refine g_puti dX6_change_77 fX6_47 rfl rfl rfl rfl ?_
        refine g_goto 90 dX6_change_80 (by decide) ?_
        exact g_vret dX6_change_90 rfl h
      · have h := h.2 q2
        have n0 := lv_neT (a := 0) q0 (by decide)
        have n1 := lv_neT (a := 1) q1 (by decide)
        have n2 := lv_neT (a := 2) q2 (by decide)
        refine g_tout 83 dX6_change_1 (by omega) (by decide) ?_
        refine g_aload_n dX6_change_83 rfl ?_
        refine g_getr (r2 := 6) dX6_change_84 fX6_18 rfl rfl ?_
        refine g_iload_n dX6_change_87 rfl ?_
        refine g_iload_n dX6_change_88 rfl ?_
        obtain ⟨v1, h⟩ := h
        refine h_iast (a1.toNatClampNeg) dX6_change_89 rfl rfl v1 rfl ?_
        exact g_vret dX6_change_90 rfl h
set_option maxRecDepth 20000 in
theorem eX6_welcome {d : Nat} {Q : Option sAV → sM → Prop} {μ : sM} {a1 : Int32} {a2 : Int32} {a3 : Int32} {a4 : Int32} {a5 : Int32} (h : (vp_in a1 4 ∧ Q none (s_u (s_u (s_u (s_u (s_u μ 1 2 ((μ.1 1 2) ||| ((1 : Int32) <<< (a1 &&& 31)))) 9 (a1.toNatClampNeg) a2) 10 (a1.toNatClampNeg) a3) 11 (a1.toNatClampNeg) a4) 12 (a1.toNatClampNeg) a5))) : sCl sLL mX6_welcome d [sR 1, sI a1, sI a2, sI a3, sI a4, sI a5] μ Q := by
  refine sG.loc (al2 := [some (sR 1), some (sI a1), some (sI a2), some (sI a3), some (sI a4), some (sI a5)]) (s_le_s (s_le_s (s_le_s (s_le_s (s_le_s (s_le_s s_le_0)))))) ?_
  refine g_aload_n dX6_welcome_0 rfl ?_
  refine g_dup_r dX6_welcome_1 ?_
  refine h_geti (μ.1 1 2) dX6_welcome_2 fX6_56 rfl rfl rfl ?_
  refine g_iconst 1 dX6_welcome_5 (by decide) ?_
  refine g_iload_n dX6_welcome_6 rfl ?_
  refine g_ishl dX6_welcome_7 ?_
  refine g_ior dX6_welcome_8 ?_
  refine g_puti dX6_welcome_9 fX6_56 rfl rfl rfl rfl ?_
  refine g_aload_n dX6_welcome_12 rfl ?_
  refine g_getr (r2 := 9) dX6_welcome_13 fX6_27 rfl rfl ?_
  refine g_iload_n dX6_welcome_16 rfl ?_
  refine g_iload_n dX6_welcome_17 rfl ?_
  obtain ⟨v1, h⟩ := h
  refine h_iast (a1.toNatClampNeg) dX6_welcome_18 rfl rfl v1 rfl ?_
  refine g_aload_n dX6_welcome_19 rfl ?_
  refine g_getr (r2 := 10) dX6_welcome_20 fX6_30 rfl rfl ?_
  refine g_iload_n dX6_welcome_23 rfl ?_
  refine g_iload_n dX6_welcome_24 rfl ?_
  refine h_iast (a1.toNatClampNeg) dX6_welcome_25 rfl rfl v1 rfl ?_
  refine g_aload_n dX6_welcome_26 rfl ?_
  refine g_getr (r2 := 11) dX6_welcome_27 fX6_33 rfl rfl ?_
  refine g_iload_n dX6_welcome_30 rfl ?_
  refine g_iload dX6_welcome_31 rfl ?_
  refine h_iast (a1.toNatClampNeg) dX6_welcome_33 rfl rfl v1 rfl ?_
  refine g_aload_n dX6_welcome_34 rfl ?_
  refine g_getr (r2 := 12) dX6_welcome_35 fX6_36 rfl rfl ?_
  refine g_iload_n dX6_welcome_38 rfl ?_
  refine g_iload dX6_welcome_39 rfl ?_
  refine h_iast (a1.toNatClampNeg) dX6_welcome_41 rfl rfl v1 rfl ?_
  exact g_vret dX6_welcome_42 rfl h
set_option maxRecDepth 20000 in
theorem eX6_hasGuest {d : Nat} {Q : Option sAV → sM → Prop} {μ : sM} {a1 : Int32} (h : ((a1 < 0 → Q (some (sI 0)) μ) ∧ (¬ a1 < 0 → ((4 ≤ a1 → Q (some (sI 0)) μ) ∧ (¬ 4 ≤ a1 → ((¬ (((μ.1 1 2) >>> (a1 &&& 31)) &&& 1) = 1 → Q (some (sI 0)) μ) ∧ ((((μ.1 1 2) >>> (a1 &&& 31)) &&& 1) = 1 → Q (some (sI 1)) μ))))))) : sCl sLL mX6_hasGuest d [sR 1, sI a1] μ Q := by
  refine sG.loc (al2 := [some (sR 1), some (sI a1)]) (s_le_s (s_le_s s_le_0)) ?_
  refine g_iload_n dX6_hasGuest_0 rfl ?_
  refine g_if_lt 25 dX6_hasGuest_1 (by decide) (fun q => ?_) (fun q => ?_)
  · have h := h.1 q
    refine g_iconst 0 dX6_hasGuest_25 (by decide) ?_
    exact g_iret dX6_hasGuest_26 rfl (s_nb (Or.inl rfl)) h
  · have h := h.2 q
    refine g_iload_n dX6_hasGuest_4 rfl ?_
    refine g_iconst 4 dX6_hasGuest_5 (by decide) ?_
    refine g_icmp_ge 25 dX6_hasGuest_6 (by decide) (fun q => ?_) (fun q => ?_)
    · have h := h.1 q
      refine g_iconst 0 dX6_hasGuest_25 (by decide) ?_
      exact g_iret dX6_hasGuest_26 rfl (s_nb (Or.inl rfl)) h
    · have h := h.2 q
      refine g_aload_n dX6_hasGuest_9 rfl ?_
      refine h_geti (μ.1 1 2) dX6_hasGuest_10 fX6_56 rfl rfl rfl ?_
      refine g_iload_n dX6_hasGuest_13 rfl ?_
      refine g_ishr dX6_hasGuest_14 ?_
      refine g_iconst 1 dX6_hasGuest_15 (by decide) ?_
      refine g_iand dX6_hasGuest_16 ?_
      refine g_iconst 1 dX6_hasGuest_17 (by decide) ?_
      refine g_icmp_ne 25 dX6_hasGuest_18 (by decide) (fun q => ?_) (fun q => ?_)
      · have h := h.1 q
        refine g_iconst 0 dX6_hasGuest_25 (by decide) ?_
        exact g_iret dX6_hasGuest_26 rfl (s_nb (Or.inl rfl)) h
      · have h := h.2 q
        refine g_iconst 1 dX6_hasGuest_21 (by decide) ?_
        refine g_goto 26 dX6_hasGuest_22 (by decide) ?_
        exact g_iret dX6_hasGuest_26 rfl (s_nb (Or.inr rfl)) h
set_option maxRecDepth 20000 in
theorem eX6_sightBits {d : Nat} {Q : Option sAV → sM → Prop} {μ : sM} (h : sG sLL mX6_sightBits d Q 4 [some (sR 1), some (sI 0), some (sI 0)] [] μ) : sCl sLL mX6_sightBits d [sR 1] μ Q := by
  refine sG.loc (al2 := [some (sR 1), none, none]) (s_le_s (s_le_p (s_le_p s_le_0))) ?_
  refine g_iconst 0 dX6_sightBits_0 (by decide) ?_
  refine g_istore_n [some (sR 1), some (sI 0), none] dX6_sightBits_1 rfl (by decide) rfl ?_
  refine g_iconst 0 dX6_sightBits_2 (by decide) ?_
  refine g_istore_n [some (sR 1), some (sI 0), some (sI 0)] dX6_sightBits_3 rfl (by decide) rfl ?_
  exact sG.loc (s_le_s (s_le_s (s_le_s s_le_0))) h
set_option maxRecDepth 20000 in
theorem sX6_sightBits_4 {d : Nat} {Q : Option sAV → sM → Prop} {μ : sM} {x1 : Int32} {x2 : Int32} (h : ((7 ≤ x2 → Q (some (sI x1)) μ) ∧ (¬ 7 ≤ x2 → (vp_in x2 7 ∧ (((μ.1 8 x2.toNatClampNeg) = (-6) → sG sLL mX6_sightBits d Q 4 [some (sR 1), some (sI x1), some (sI (x2 + 1))] [] μ) ∧ (¬ (μ.1 8 x2.toNatClampNeg) = (-6) → sG sLL mX6_sightBits d Q 4 [some (sR 1), some (sI (x1 ||| ((1 : Int32) <<< (x2 &&& 31)))), some (sI (x2 + 1))] [] μ)))))) : sG sLL mX6_sightBits d Q 4 [some (sR 1), some (sI x1), some (sI x2)] [] μ := by
  refine g_iload_n dX6_sightBits_4 rfl ?_
  refine g_bipush 7 dX6_sightBits_5 (by decide) ?_
  refine g_icmp_ge 33 dX6_sightBits_7 (by decide) (fun q => ?_) (fun q => ?_)
  · have h := h.1 q
    refine g_iload_n dX6_sightBits_33 rfl ?_
    exact g_iret dX6_sightBits_34 rfl rfl h
  · have h := h.2 q
    refine g_aload_n dX6_sightBits_10 rfl ?_
    refine g_getr (r2 := 8) dX6_sightBits_11 fX6_24 rfl rfl ?_
    refine g_iload_n dX6_sightBits_14 rfl ?_
    obtain ⟨v1, h⟩ := h
    refine h_iald (μ.1 8 x2.toNatClampNeg) dX6_sightBits_15 rfl rfl v1 rfl ?_
    refine g_bipush (-6) dX6_sightBits_16 (by decide) ?_
    refine g_icmp_eq 27 dX6_sightBits_18 (by decide) (fun q => ?_) (fun q => ?_)
    · have h := h.1 q
      refine g_iinc (x2 + 1) [some (sR 1), some (sI x1), some (sI (x2 + 1))] dX6_sightBits_27 rfl rfl (by decide) rfl ?_
      refine g_goto 4 dX6_sightBits_30 (by decide) ?_
      exact sG.loc (s_le_s (s_le_s (s_le_s s_le_0))) h
    · have h := h.2 q
      refine g_iload_n dX6_sightBits_21 rfl ?_
      refine g_iconst 1 dX6_sightBits_22 (by decide) ?_
      refine g_iload_n dX6_sightBits_23 rfl ?_
      refine g_ishl dX6_sightBits_24 ?_
      refine g_ior dX6_sightBits_25 ?_
      refine g_istore_n [some (sR 1), some (sI (x1 ||| ((1 : Int32) <<< (x2 &&& 31)))), some (sI x2)] dX6_sightBits_26 rfl (by decide) rfl ?_
      refine g_iinc (x2 + 1) [some (sR 1), some (sI (x1 ||| ((1 : Int32) <<< (x2 &&& 31)))), some (sI (x2 + 1))] dX6_sightBits_27 rfl rfl (by decide) rfl ?_
      refine g_goto 4 dX6_sightBits_30 (by decide) ?_
      exact sG.loc (s_le_s (s_le_s (s_le_s s_le_0))) h
set_option maxRecDepth 20000 in
theorem eX7_howMany {d : Nat} {Q : Option sAV → sM → Prop} {μ : sM} (h : sG sLL mX7_howMany (d + 1) Q 2 [some (sR 60), some (sI 0), none, none] [] μ) : sCl sLL mX7_howMany (d + 1) [sR 60] μ Q := by
  refine sG.loc (al2 := [some (sR 60), none, none, none]) (s_le_s (s_le_p (s_le_p (s_le_p s_le_0)))) ?_
  refine g_iconst 0 dX7_howMany_0 (by decide) ?_
  refine g_istore_n [some (sR 60), some (sI 0), none, none] dX7_howMany_1 rfl (by decide) rfl ?_
  exact sG.loc (s_le_s (s_le_s (s_le_n (s_le_n s_le_0)))) h
set_option maxRecDepth 20000 in
theorem sX7_howMany_2 {d : Nat} {Q : Option sAV → sM → Prop} {μ : sM} {x1 : Int32} (h : ((4 ≤ x1 → sG sLL mX7_howMany (d + 1) Q 73 [some (sR 60), some (sI 0), some (sI 0), none] [] μ) ∧ (¬ 4 ≤ x1 → sCl sLL mX6_hasGuest d [sR 1, sI x1] μ (kI fun r1 μ1 => ((r1 = 0 → (vp_in x1 4 ∧ sG sLL mX7_howMany (d + 1) Q 2 [some (sR 60), some (sI (x1 + 1)), none, none] [] (s_u μ1 61 (x1.toNatClampNeg) (-6)))) ∧ (¬ r1 = 0 → sCl sLL mX1_choice d [sR 35, sI x1] μ1 (kI fun r2 μ2 => ((¬ r2 = (-6) → sCl sLL mX1_bite d [sR 35, sI x1, sI r2] μ2 (kI fun r3 μ3 => (vp_in x1 4 ∧ sG sLL mX7_howMany (d + 1) Q 2 [some (sR 60), some (sI (x1 + 1)), none, none] [] (s_u μ3 61 (x1.toNatClampNeg) ((10 * r2) + r3))))) ∧ (r2 = (-6) → (vp_in x1 4 ∧ sG sLL mX7_howMany (d + 1) Q 2 [some (sR 60), some (sI (x1 + 1)), none, none] [] (s_u μ2 61 (x1.toNatClampNeg) (-6)))))))))))) : sG sLL mX7_howMany (d + 1) Q 2 [some (sR 60), some (sI x1), none, none] [] μ := by
  refine g_iload_n dX7_howMany_2 rfl ?_
  refine g_iconst 4 dX7_howMany_3 (by decide) ?_
  refine g_icmp_ge 69 dX7_howMany_4 (by decide) (fun q => ?_) (fun q => ?_)
  · have h := h.1 q
    refine g_iconst 0 dX7_howMany_69 (by decide) ?_
    refine g_istore_n [some (sR 60), some (sI 0), none, none] dX7_howMany_70 rfl (by decide) rfl ?_
    refine g_iconst 0 dX7_howMany_71 (by decide) ?_
    refine g_istore_n [some (sR 60), some (sI 0), some (sI 0), none] dX7_howMany_72 rfl (by decide) rfl ?_
    exact sG.loc (s_le_s (s_le_s (s_le_s (s_le_n s_le_0)))) h
  · have h := h.2 q
    refine g_aload_n dX7_howMany_7 rfl ?_
    refine g_getr (r2 := 1) dX7_howMany_8 fX7_15 rfl rfl ?_
    refine g_iload_n dX7_howMany_11 rfl ?_
    refine g_callVi (mi2 := mX6_hasGuest) (r := 1) (st := []) [sI x1] dX7_howMany_12 lX7_23 kX6_hasGuest vX6_hasGuest rfl rfl rfl (Nat.le_of_ble_eq_true rfl) (Nat.le_of_ble_eq_true rfl) (Nat.le_of_ble_eq_true rfl) rfl ?_
    refine sG.mono h (kI_mono fun r1 μ1 h => ?_)
    refine g_if_eq 29 dX7_howMany_15 (by decide) (fun q => ?_) (fun q => ?_)
    · have h := h.1 q
      refine g_bipush (-6) dX7_howMany_29 (by decide) ?_
      refine g_istore_n [some (sR 60), some (sI x1), some (sI (-6)), none] dX7_howMany_31 rfl (by decide) rfl ?_
      refine g_aload_n dX7_howMany_32 rfl ?_
      refine g_getr (r2 := 61) dX7_howMany_33 fX7_9 rfl rfl ?_
      refine g_iload_n dX7_howMany_36 rfl ?_
      refine g_iload_n dX7_howMany_37 rfl ?_
      refine g_bipush (-6) dX7_howMany_38 (by decide) ?_
      refine g_icmp_ne 48 dX7_howMany_40 (by decide) (fun q => absurd q (by decide)) (fun _ => ?_)
      refine g_bipush (-6) dX7_howMany_43 (by decide) ?_
      refine g_goto 62 dX7_howMany_45 (by decide) ?_
      obtain ⟨v1, h⟩ := h
      refine h_iast (x1.toNatClampNeg) dX7_howMany_62 rfl rfl v1 rfl ?_
      refine g_iinc (x1 + 1) [some (sR 60), some (sI (x1 + 1)), some (sI (-6)), none] dX7_howMany_63 rfl rfl (by decide) rfl ?_
      refine g_goto 2 dX7_howMany_66 (by decide) ?_
      exact sG.loc (s_le_s (s_le_s (s_le_n (s_le_n s_le_0)))) h
    · have h := h.2 q
      refine g_aload_n dX7_howMany_18 rfl ?_
      refine g_getr (r2 := 35) dX7_howMany_19 fX7_19 rfl rfl ?_
      refine g_iload_n dX7_howMany_22 rfl ?_
      refine g_callVi (mi2 := mX1_choice) (r := 35) (st := []) [sI x1] dX7_howMany_23 lX7_29 kX1_choice vX1_choice rfl rfl rfl (Nat.le_of_ble_eq_true rfl) (Nat.le_of_ble_eq_true rfl) (Nat.le_of_ble_eq_true rfl) rfl ?_
      refine sG.mono h (kI_mono fun r2 μ2 h => ?_)
      refine g_goto 31 dX7_howMany_26 (by decide) ?_
      refine g_istore_n [some (sR 60), some (sI x1), some (sI r2), none] dX7_howMany_31 rfl (by decide) rfl ?_
      refine g_aload_n dX7_howMany_32 rfl ?_
      refine g_getr (r2 := 61) dX7_howMany_33 fX7_9 rfl rfl ?_
      refine g_iload_n dX7_howMany_36 rfl ?_
      refine g_iload_n dX7_howMany_37 rfl ?_
      refine g_bipush (-6) dX7_howMany_38 (by decide) ?_
      refine g_icmp_ne 48 dX7_howMany_40 (by decide) (fun q => ?_) (fun q => ?_)
      · have h := h.1 q
        refine g_bipush 10 dX7_howMany_48 (by decide) ?_
        refine g_iload_n dX7_howMany_50 rfl ?_
        refine g_imul dX7_howMany_51 ?_
        refine g_aload_n dX7_howMany_52 rfl ?_
        refine g_getr (r2 := 35) dX7_howMany_53 fX7_19 rfl rfl ?_
        refine g_iload_n dX7_howMany_56 rfl ?_
        refine g_iload_n dX7_howMany_57 rfl ?_
        refine g_callVi (mi2 := mX1_bite) (r := 35) (st := [sI (10 * r2), sI x1, sR 61]) [sI x1, sI r2] dX7_howMany_58 lX7_35 kX1_bite vX1_bite rfl rfl rfl (Nat.le_of_ble_eq_true rfl) (Nat.le_of_ble_eq_true rfl) (Nat.le_of_ble_eq_true rfl) rfl ?_
        refine sG.mono h (kI_mono fun r3 μ3 h => ?_)
        refine g_iadd dX7_howMany_61 ?_
        obtain ⟨v1, h⟩ := h
        refine h_iast (x1.toNatClampNeg) dX7_howMany_62 rfl rfl v1 rfl ?_
        refine g_iinc (x1 + 1) [some (sR 60), some (sI (x1 + 1)), some (sI r2), none] dX7_howMany_63 rfl rfl (by decide) rfl ?_
        refine g_goto 2 dX7_howMany_66 (by decide) ?_
        exact sG.loc (s_le_s (s_le_s (s_le_n (s_le_n s_le_0)))) h
      · have h := h.2 q
        refine g_bipush (-6) dX7_howMany_43 (by decide) ?_
        refine g_goto 62 dX7_howMany_45 (by decide) ?_
        obtain ⟨v1, h⟩ := h
        refine h_iast (x1.toNatClampNeg) dX7_howMany_62 rfl rfl v1 rfl ?_
        refine g_iinc (x1 + 1) [some (sR 60), some (sI (x1 + 1)), some (sI r2), none] dX7_howMany_63 rfl rfl (by decide) rfl ?_
        refine g_goto 2 dX7_howMany_66 (by decide) ?_
        exact sG.loc (s_le_s (s_le_s (s_le_n (s_le_n s_le_0)))) h
set_option maxRecDepth 20000 in
theorem sX7_howMany_73 {d : Nat} {Q : Option sAV → sM → Prop} {μ : sM} {x1 : Int32} {x2 : Int32} (h : ((4 ≤ x2 → Q (some (sI x1)) μ) ∧ (¬ 4 ≤ x2 → sG sLL mX7_howMany (d + 1) Q 82 [some (sR 60), some (sI x1), some (sI x2), some (sI (x2 + 1))] [] μ))) : sG sLL mX7_howMany (d + 1) Q 73 [some (sR 60), some (sI x1), some (sI x2), none] [] μ := by
  refine g_iload_n dX7_howMany_73 rfl ?_
  refine g_iconst 4 dX7_howMany_74 (by decide) ?_
  refine g_icmp_ge 111 dX7_howMany_75 (by decide) (fun q => ?_) (fun q => ?_)
  · have h := h.1 q
    refine g_iload_n dX7_howMany_111 rfl ?_
    exact g_iret dX7_howMany_112 rfl rfl h
  · have h := h.2 q
    refine g_iload_n dX7_howMany_78 rfl ?_
    refine g_iconst 1 dX7_howMany_79 (by decide) ?_
    refine g_iadd dX7_howMany_80 ?_
    refine g_istore_n [some (sR 60), some (sI x1), some (sI x2), some (sI (x2 + 1))] dX7_howMany_81 rfl (by decide) rfl ?_
    exact sG.loc (s_le_s (s_le_s (s_le_s (s_le_s s_le_0)))) h
set_option maxRecDepth 20000 in
theorem sX7_howMany_82 {d : Nat} {Q : Option sAV → sM → Prop} {μ : sM} {x1 : Int32} {x2 : Int32} {x3 : Int32} (h : ((4 ≤ x3 → sG sLL mX7_howMany (d + 1) Q 73 [some (sR 60), some (sI x1), some (sI (x2 + 1)), none] [] μ) ∧ (¬ 4 ≤ x3 → sCl sLL mX7_areAlike d [sR 60, sI x2, sI x3] μ (kI fun r1 μ1 => ((r1 = 0 → sG sLL mX7_howMany (d + 1) Q 82 [some (sR 60), some (sI x1), some (sI x2), some (sI (x3 + 1))] [] μ1) ∧ (¬ r1 = 0 → sG sLL mX7_howMany (d + 1) Q 82 [some (sR 60), some (sI (x1 + 1)), some (sI x2), some (sI (x3 + 1))] [] μ1)))))) : sG sLL mX7_howMany (d + 1) Q 82 [some (sR 60), some (sI x1), some (sI x2), some (sI x3)] [] μ := by
  refine g_iload_n dX7_howMany_82 rfl ?_
  refine g_iconst 4 dX7_howMany_83 (by decide) ?_
  refine g_icmp_ge 105 dX7_howMany_84 (by decide) (fun q => ?_) (fun q => ?_)
  · have h := h.1 q
    refine g_iinc (x2 + 1) [some (sR 60), some (sI x1), some (sI (x2 + 1)), some (sI x3)] dX7_howMany_105 rfl rfl (by decide) rfl ?_
    refine g_goto 73 dX7_howMany_108 (by decide) ?_
    exact sG.loc (s_le_s (s_le_s (s_le_s (s_le_n s_le_0)))) h
  · have h := h.2 q
    refine g_aload_n dX7_howMany_87 rfl ?_
    refine g_iload_n dX7_howMany_88 rfl ?_
    refine g_iload_n dX7_howMany_89 rfl ?_
    refine g_callVi (mi2 := mX7_areAlike) (r := 60) (st := []) [sI x2, sI x3] dX7_howMany_90 lX7_39 kX7_areAlike vX7_areAlike rfl rfl rfl (Nat.le_of_ble_eq_true rfl) (Nat.le_of_ble_eq_true rfl) (Nat.le_of_ble_eq_true rfl) rfl ?_
    refine sG.mono h (kI_mono fun r1 μ1 h => ?_)
    refine g_if_eq 99 dX7_howMany_93 (by decide) (fun q => ?_) (fun q => ?_)
    · have h := h.1 q
      refine g_iinc (x3 + 1) [some (sR 60), some (sI x1), some (sI x2), some (sI (x3 + 1))] dX7_howMany_99 rfl rfl (by decide) rfl ?_
      refine g_goto 82 dX7_howMany_102 (by decide) ?_
      exact sG.loc (s_le_s (s_le_s (s_le_s (s_le_s s_le_0)))) h
    · have h := h.2 q
      refine g_iinc (x1 + 1) [some (sR 60), some (sI (x1 + 1)), some (sI x2), some (sI x3)] dX7_howMany_96 rfl rfl (by decide) rfl ?_
      refine g_iinc (x3 + 1) [some (sR 60), some (sI (x1 + 1)), some (sI x2), some (sI (x3 + 1))] dX7_howMany_99 rfl rfl (by decide) rfl ?_
      refine g_goto 82 dX7_howMany_102 (by decide) ?_
      exact sG.loc (s_le_s (s_le_s (s_le_s (s_le_s s_le_0)))) h
set_option maxRecDepth 20000 in
theorem eX7_areAlike {d : Nat} {Q : Option sAV → sM → Prop} {μ : sM} {a1 : Int32} {a2 : Int32} (h : sCl sLL mX6_hasGuest d [sR 1, sI a1] μ (kI fun r1 μ1 => ((r1 = 0 → Q (some (sI 0)) μ1) ∧ (¬ r1 = 0 → sCl sLL mX6_hasGuest d [sR 1, sI a2] μ1 (kI fun r2 μ2 => ((r2 = 0 → Q (some (sI 0)) μ2) ∧ (¬ r2 = 0 → (vp_in a1 4 ∧ (vp_in a2 4 ∧ ((¬ (μ2.1 61 a1.toNatClampNeg) = (μ2.1 61 a2.toNatClampNeg) → Q (some (sI 0)) μ2) ∧ ((μ2.1 61 a1.toNatClampNeg) = (μ2.1 61 a2.toNatClampNeg) → Q (some (sI 1)) μ2))))))))))) : sCl sLL mX7_areAlike (d + 1) [sR 60, sI a1, sI a2] μ Q := by
  refine sG.loc (al2 := [some (sR 60), some (sI a1), some (sI a2)]) (s_le_s (s_le_s (s_le_s s_le_0))) ?_
  refine g_aload_n dX7_areAlike_0 rfl ?_
  refine g_getr (r2 := 1) dX7_areAlike_1 fX7_15 rfl rfl ?_
  refine g_iload_n dX7_areAlike_4 rfl ?_
  refine g_callVi (mi2 := mX6_hasGuest) (r := 1) (st := []) [sI a1] dX7_areAlike_5 lX7_23 kX6_hasGuest vX6_hasGuest rfl rfl rfl (Nat.le_of_ble_eq_true rfl) (Nat.le_of_ble_eq_true rfl) (Nat.le_of_ble_eq_true rfl) rfl ?_
  refine sG.mono h (kI_mono fun r1 μ1 h => ?_)
  refine g_if_eq 41 dX7_areAlike_8 (by decide) (fun q => ?_) (fun q => ?_)
  · have h := h.1 q
    refine g_iconst 0 dX7_areAlike_41 (by decide) ?_
    exact g_iret dX7_areAlike_42 rfl (s_nb (Or.inl rfl)) h
  · have h := h.2 q
    refine g_aload_n dX7_areAlike_11 rfl ?_
    refine g_getr (r2 := 1) dX7_areAlike_12 fX7_15 rfl rfl ?_
    refine g_iload_n dX7_areAlike_15 rfl ?_
    refine g_callVi (mi2 := mX6_hasGuest) (r := 1) (st := []) [sI a2] dX7_areAlike_16 lX7_23 kX6_hasGuest vX6_hasGuest rfl rfl rfl (Nat.le_of_ble_eq_true rfl) (Nat.le_of_ble_eq_true rfl) (Nat.le_of_ble_eq_true rfl) rfl ?_
    refine sG.mono h (kI_mono fun r2 μ2 h => ?_)
    refine g_if_eq 41 dX7_areAlike_19 (by decide) (fun q => ?_) (fun q => ?_)
    · have h := h.1 q
      refine g_iconst 0 dX7_areAlike_41 (by decide) ?_
      exact g_iret dX7_areAlike_42 rfl (s_nb (Or.inl rfl)) h
    · have h := h.2 q
      refine g_aload_n dX7_areAlike_22 rfl ?_
      refine g_getr (r2 := 61) dX7_areAlike_23 fX7_9 rfl rfl ?_
      refine g_iload_n dX7_areAlike_26 rfl ?_
      obtain ⟨v1, h⟩ := h
      refine h_iald (μ2.1 61 a1.toNatClampNeg) dX7_areAlike_27 rfl rfl v1 rfl ?_
      refine g_aload_n dX7_areAlike_28 rfl ?_
      refine g_getr (r2 := 61) dX7_areAlike_29 fX7_9 rfl rfl ?_
      refine g_iload_n dX7_areAlike_32 rfl ?_
      obtain ⟨v2, h⟩ := h
      refine h_iald (μ2.1 61 a2.toNatClampNeg) dX7_areAlike_33 rfl rfl v2 rfl ?_
      refine g_icmp_ne 41 dX7_areAlike_34 (by decide) (fun q => ?_) (fun q => ?_)
      · have h := h.1 q
        refine g_iconst 0 dX7_areAlike_41 (by decide) ?_
        exact g_iret dX7_areAlike_42 rfl (s_nb (Or.inl rfl)) h
      · have h := h.2 q
        refine g_iconst 1 dX7_areAlike_37 (by decide) ?_
        refine g_goto 42 dX7_areAlike_38 (by decide) ?_
        exact g_iret dX7_areAlike_42 rfl (s_nb (Or.inr rfl)) h
set_option maxRecDepth 20000 in
theorem eX7_atPlace {d : Nat} {Q : Option sAV → sM → Prop} {μ : sM} {a1 : Int32} (h : ((a1 < 0 → Q (some (sI (-6))) μ) ∧ (¬ a1 < 0 → sCl sLL mX7_howMany d [sR 60] μ (kI fun r1 μ1 => ((a1 < r1 → sG sLL mX7_atPlace (d + 1) Q 19 [some (sR 60), some (sI a1), some (sI a1), some (sI 0), none] [] μ1) ∧ (¬ a1 < r1 → Q (some (sI (-6))) μ1)))))) : sCl sLL mX7_atPlace (d + 1) [sR 60, sI a1] μ Q := by
  refine sG.loc (al2 := [some (sR 60), some (sI a1), none, none, none]) (s_le_s (s_le_s (s_le_p (s_le_p (s_le_p s_le_0))))) ?_
  refine g_iload_n dX7_atPlace_0 rfl ?_
  refine g_if_lt 12 dX7_atPlace_1 (by decide) (fun q => ?_) (fun q => ?_)
  · have h := h.1 q
    refine g_bipush (-6) dX7_atPlace_12 (by decide) ?_
    exact g_iret dX7_atPlace_14 rfl rfl h
  · have h := h.2 q
    refine g_iload_n dX7_atPlace_4 rfl ?_
    refine g_aload_n dX7_atPlace_5 rfl ?_
    refine g_callVi (mi2 := mX7_howMany) (r := 60) (st := [sI a1]) [] dX7_atPlace_6 lX7_43 kX7_howMany vX7_howMany rfl rfl rfl (Nat.le_of_ble_eq_true rfl) (Nat.le_of_ble_eq_true rfl) (Nat.le_of_ble_eq_true rfl) rfl ?_
    refine sG.mono h (kI_mono fun r1 μ1 h => ?_)
    refine g_icmp_lt 15 dX7_atPlace_9 (by decide) (fun q => ?_) (fun q => ?_)
    · have h := h.1 q
      refine g_iload_n dX7_atPlace_15 rfl ?_
      refine g_istore_n [some (sR 60), some (sI a1), some (sI a1), none, none] dX7_atPlace_16 rfl (by decide) rfl ?_
      refine g_iconst 0 dX7_atPlace_17 (by decide) ?_
      refine g_istore_n [some (sR 60), some (sI a1), some (sI a1), some (sI 0), none] dX7_atPlace_18 rfl (by decide) rfl ?_
      exact sG.loc (s_le_s (s_le_s (s_le_s (s_le_s (s_le_n s_le_0))))) h
    · have h := h.2 q
      refine g_bipush (-6) dX7_atPlace_12 (by decide) ?_
      exact g_iret dX7_atPlace_14 rfl rfl h
set_option maxRecDepth 20000 in
theorem sX7_atPlace_19 {d : Nat} {Q : Option sAV → sM → Prop} {μ : sM} {x1 : Int32} {x2 : Int32} {x3 : Int32} (h : ((4 ≤ x3 → Q (some (sI (-6))) μ) ∧ (¬ 4 ≤ x3 → sG sLL mX7_atPlace (d + 1) Q 29 [some (sR 60), some (sI x1), some (sI x2), some (sI x3), some (sI (x3 + 1))] [] μ))) : sG sLL mX7_atPlace (d + 1) Q 19 [some (sR 60), some (sI x1), some (sI x2), some (sI x3), none] [] μ := by
  refine g_iload_n dX7_atPlace_19 rfl ?_
  refine g_iconst 4 dX7_atPlace_20 (by decide) ?_
  refine g_icmp_ge 75 dX7_atPlace_21 (by decide) (fun q => ?_) (fun q => ?_)
  · have h := h.1 q
    refine g_bipush (-6) dX7_atPlace_75 (by decide) ?_
    exact g_iret dX7_atPlace_77 rfl rfl h
  · have h := h.2 q
    refine g_iload_n dX7_atPlace_24 rfl ?_
    refine g_iconst 1 dX7_atPlace_25 (by decide) ?_
    refine g_iadd dX7_atPlace_26 ?_
    refine g_istore [some (sR 60), some (sI x1), some (sI x2), some (sI x3), some (sI (x3 + 1))] dX7_atPlace_27 (by decide) rfl ?_
    exact sG.loc (s_le_s (s_le_s (s_le_s (s_le_s (s_le_s s_le_0))))) h
set_option maxRecDepth 20000 in
theorem sX7_atPlace_29 {d : Nat} {Q : Option sAV → sM → Prop} {μ : sM} {x1 : Int32} {x2 : Int32} {x3 : Int32} {x4 : Int32} (h : ((4 ≤ x4 → sG sLL mX7_atPlace (d + 1) Q 19 [some (sR 60), some (sI x1), some (sI x2), some (sI (x3 + 1)), none] [] μ) ∧ (¬ 4 ≤ x4 → sCl sLL mX7_areAlike d [sR 60, sI x3, sI x4] μ (kI fun r1 μ1 => ((¬ r1 = 0 → ((¬ x2 = 0 → sG sLL mX7_atPlace (d + 1) Q 29 [some (sR 60), some (sI x1), some (sI (x2 + (-1))), some (sI x3), some (sI (x4 + 1))] [] μ1) ∧ (x2 = 0 → Q (some (sI ((10 * x3) + x4))) μ1))) ∧ (r1 = 0 → sG sLL mX7_atPlace (d + 1) Q 29 [some (sR 60), some (sI x1), some (sI x2), some (sI x3), some (sI (x4 + 1))] [] μ1)))))) : sG sLL mX7_atPlace (d + 1) Q 29 [some (sR 60), some (sI x1), some (sI x2), some (sI x3), some (sI x4)] [] μ := by
  refine g_iload dX7_atPlace_29 rfl ?_
  refine g_iconst 4 dX7_atPlace_31 (by decide) ?_
  refine g_icmp_ge 69 dX7_atPlace_32 (by decide) (fun q => ?_) (fun q => ?_)
  · have h := h.1 q
    refine g_iinc (x3 + 1) [some (sR 60), some (sI x1), some (sI x2), some (sI (x3 + 1)), some (sI x4)] dX7_atPlace_69 rfl rfl (by decide) rfl ?_
    refine g_goto 19 dX7_atPlace_72 (by decide) ?_
    exact sG.loc (s_le_s (s_le_s (s_le_s (s_le_s (s_le_n s_le_0))))) h
  · have h := h.2 q
    refine g_aload_n dX7_atPlace_35 rfl ?_
    refine g_iload_n dX7_atPlace_36 rfl ?_
    refine g_iload dX7_atPlace_37 rfl ?_
    refine g_callVi (mi2 := mX7_areAlike) (r := 60) (st := []) [sI x3, sI x4] dX7_atPlace_39 lX7_39 kX7_areAlike vX7_areAlike rfl rfl rfl (Nat.le_of_ble_eq_true rfl) (Nat.le_of_ble_eq_true rfl) (Nat.le_of_ble_eq_true rfl) rfl ?_
    refine sG.mono h (kI_mono fun r1 μ1 h => ?_)
    refine g_if_ne 48 dX7_atPlace_42 (by decide) (fun q => ?_) (fun q => ?_)
    · have h := h.1 q
      refine g_iload_n dX7_atPlace_48 rfl ?_
      refine g_if_ne 60 dX7_atPlace_49 (by decide) (fun q => ?_) (fun q => ?_)
      · have h := h.1 q
        refine g_iinc (x2 + (-1)) [some (sR 60), some (sI x1), some (sI (x2 + (-1))), some (sI x3), some (sI x4)] dX7_atPlace_60 rfl rfl (by decide) rfl ?_
        refine g_iinc (x4 + 1) [some (sR 60), some (sI x1), some (sI (x2 + (-1))), some (sI x3), some (sI (x4 + 1))] dX7_atPlace_63 rfl rfl (by decide) rfl ?_
        refine g_goto 29 dX7_atPlace_66 (by decide) ?_
        exact sG.loc (s_le_s (s_le_s (s_le_s (s_le_s (s_le_s s_le_0))))) h
      · have h := h.2 q
        refine g_bipush 10 dX7_atPlace_52 (by decide) ?_
        refine g_iload_n dX7_atPlace_54 rfl ?_
        refine g_imul dX7_atPlace_55 ?_
        refine g_iload dX7_atPlace_56 rfl ?_
        refine g_iadd dX7_atPlace_58 ?_
        exact g_iret dX7_atPlace_59 rfl rfl h
    · have h := h.2 q
      refine g_goto 63 dX7_atPlace_45 (by decide) ?_
      refine g_iinc (x4 + 1) [some (sR 60), some (sI x1), some (sI x2), some (sI x3), some (sI (x4 + 1))] dX7_atPlace_63 rfl rfl (by decide) rfl ?_
      refine g_goto 29 dX7_atPlace_66 (by decide) ?_
      exact sG.loc (s_le_s (s_le_s (s_le_s (s_le_s (s_le_s s_le_0))))) h
set_option maxRecDepth 20000 in
theorem eX7_fewestLaidAnew {d : Nat} {Q : Option sAV → sM → Prop} {μ : sM} (h : sCl sLL mX7_howMany d [sR 60] μ (kI fun r1 μ1 => ((¬ r1 = 0 → sG sLL mX7_fewestLaidAnew (d + 1) Q 11 [some (sR 60), some (sI 0), none] [] μ1) ∧ (r1 = 0 → Q (some (sI 0)) μ1)))) : sCl sLL mX7_fewestLaidAnew (d + 1) [sR 60] μ Q := by
  refine sG.loc (al2 := [some (sR 60), none, none]) (s_le_s (s_le_p (s_le_p s_le_0))) ?_
  refine g_aload_n dX7_fewestLaidAnew_0 rfl ?_
  refine g_callVi (mi2 := mX7_howMany) (r := 60) (st := []) [] dX7_fewestLaidAnew_1 lX7_43 kX7_howMany vX7_howMany rfl rfl rfl (Nat.le_of_ble_eq_true rfl) (Nat.le_of_ble_eq_true rfl) (Nat.le_of_ble_eq_true rfl) rfl ?_
  refine sG.mono h (kI_mono fun r1 μ1 h => ?_)
  refine g_if_ne 9 dX7_fewestLaidAnew_4 (by decide) (fun q => ?_) (fun q => ?_)
  · have h := h.1 q
    refine g_iconst 0 dX7_fewestLaidAnew_9 (by decide) ?_
    refine g_istore_n [some (sR 60), some (sI 0), none] dX7_fewestLaidAnew_10 rfl (by decide) rfl ?_
    exact sG.loc (s_le_s (s_le_s (s_le_n s_le_0))) h
  · have h := h.2 q
    refine g_iconst 0 dX7_fewestLaidAnew_7 (by decide) ?_
    exact g_iret dX7_fewestLaidAnew_8 rfl rfl h
set_option maxRecDepth 20000 in
theorem sX7_fewestLaidAnew_11 {d : Nat} {Q : Option sAV → sM → Prop} {μ : sM} {x1 : Int32} (h : (((μ.1 1 0) ≤ x1 → sG sLL mX7_fewestLaidAnew (d + 1) Q 43 [some (sR 60), some (sI 1), none] [] μ) ∧ (¬ (μ.1 1 0) ≤ x1 → sCl sLL mX7_helps d [sR 60, sI x1, sI x1] μ (kI fun r1 μ1 => ((r1 = 0 → sG sLL mX7_fewestLaidAnew (d + 1) Q 11 [some (sR 60), some (sI (x1 + 1)), none] [] μ1) ∧ (¬ r1 = 0 → Q (some (sI ((1 : Int32) <<< (x1 &&& 31)))) μ1)))))) : sG sLL mX7_fewestLaidAnew (d + 1) Q 11 [some (sR 60), some (sI x1), none] [] μ := by
  refine g_iload_n dX7_fewestLaidAnew_11 rfl ?_
  refine g_aload_n dX7_fewestLaidAnew_12 rfl ?_
  refine g_getr (r2 := 1) dX7_fewestLaidAnew_13 fX7_15 rfl rfl ?_
  refine h_geti (μ.1 1 0) dX7_fewestLaidAnew_16 fX7_47 rfl rfl rfl ?_
  refine g_icmp_ge 41 dX7_fewestLaidAnew_19 (by decide) (fun q => ?_) (fun q => ?_)
  · have h := h.1 q
    refine g_iconst 1 dX7_fewestLaidAnew_41 (by decide) ?_
    refine g_istore_n [some (sR 60), some (sI 1), none] dX7_fewestLaidAnew_42 rfl (by decide) rfl ?_
    exact sG.loc (s_le_s (s_le_s (s_le_n s_le_0))) h
  · have h := h.2 q
    refine g_aload_n dX7_fewestLaidAnew_22 rfl ?_
    refine g_iload_n dX7_fewestLaidAnew_23 rfl ?_
    refine g_iload_n dX7_fewestLaidAnew_24 rfl ?_
    refine g_callVi (mi2 := mX7_helps) (r := 60) (st := []) [sI x1, sI x1] dX7_fewestLaidAnew_25 lX7_51 kX7_helps vX7_helps rfl rfl rfl (Nat.le_of_ble_eq_true rfl) (Nat.le_of_ble_eq_true rfl) (Nat.le_of_ble_eq_true rfl) rfl ?_
    refine sG.mono h (kI_mono fun r1 μ1 h => ?_)
    refine g_if_eq 35 dX7_fewestLaidAnew_28 (by decide) (fun q => ?_) (fun q => ?_)
    · have h := h.1 q
      refine g_iinc (x1 + 1) [some (sR 60), some (sI (x1 + 1)), none] dX7_fewestLaidAnew_35 rfl rfl (by decide) rfl ?_
      refine g_goto 11 dX7_fewestLaidAnew_38 (by decide) ?_
      exact sG.loc (s_le_s (s_le_s (s_le_n s_le_0))) h
    · have h := h.2 q
      refine g_iconst 1 dX7_fewestLaidAnew_31 (by decide) ?_
      refine g_iload_n dX7_fewestLaidAnew_32 rfl ?_
      refine g_ishl dX7_fewestLaidAnew_33 ?_
      exact g_iret dX7_fewestLaidAnew_34 rfl rfl h
set_option maxRecDepth 20000 in
theorem sX7_fewestLaidAnew_43 {d : Nat} {Q : Option sAV → sM → Prop} {μ : sM} {x1 : Int32} (h : (((μ.1 1 0) ≤ x1 → Q (some (sI (-6))) μ) ∧ (¬ (μ.1 1 0) ≤ x1 → sG sLL mX7_fewestLaidAnew (d + 1) Q 56 [some (sR 60), some (sI x1), some (sI 0)] [] μ))) : sG sLL mX7_fewestLaidAnew (d + 1) Q 43 [some (sR 60), some (sI x1), none] [] μ := by
  refine g_iload_n dX7_fewestLaidAnew_43 rfl ?_
  refine g_aload_n dX7_fewestLaidAnew_44 rfl ?_
  refine g_getr (r2 := 1) dX7_fewestLaidAnew_45 fX7_15 rfl rfl ?_
  refine h_geti (μ.1 1 0) dX7_fewestLaidAnew_48 fX7_47 rfl rfl rfl ?_
  refine g_icmp_ge 90 dX7_fewestLaidAnew_51 (by decide) (fun q => ?_) (fun q => ?_)
  · have h := h.1 q
    refine g_bipush (-6) dX7_fewestLaidAnew_90 (by decide) ?_
    exact g_iret dX7_fewestLaidAnew_92 rfl rfl h
  · have h := h.2 q
    refine g_iconst 0 dX7_fewestLaidAnew_54 (by decide) ?_
    refine g_istore_n [some (sR 60), some (sI x1), some (sI 0)] dX7_fewestLaidAnew_55 rfl (by decide) rfl ?_
    exact sG.loc (s_le_s (s_le_s (s_le_s s_le_0))) h
set_option maxRecDepth 20000 in
theorem sX7_fewestLaidAnew_56 {d : Nat} {Q : Option sAV → sM → Prop} {μ : sM} {x1 : Int32} {x2 : Int32} (h : ((x1 ≤ x2 → sG sLL mX7_fewestLaidAnew (d + 1) Q 43 [some (sR 60), some (sI (x1 + 1)), none] [] μ) ∧ (¬ x1 ≤ x2 → sCl sLL mX7_helps d [sR 60, sI x2, sI x1] μ (kI fun r1 μ1 => ((r1 = 0 → sG sLL mX7_fewestLaidAnew (d + 1) Q 56 [some (sR 60), some (sI x1), some (sI (x2 + 1))] [] μ1) ∧ (¬ r1 = 0 → Q (some (sI (((1 : Int32) <<< (x2 &&& 31)) ||| ((1 : Int32) <<< (x1 &&& 31))))) μ1)))))) : sG sLL mX7_fewestLaidAnew (d + 1) Q 56 [some (sR 60), some (sI x1), some (sI x2)] [] μ := by
  refine g_iload_n dX7_fewestLaidAnew_56 rfl ?_
  refine g_iload_n dX7_fewestLaidAnew_57 rfl ?_
  refine g_icmp_ge 84 dX7_fewestLaidAnew_58 (by decide) (fun q => ?_) (fun q => ?_)
  · have h := h.1 q
    refine g_iinc (x1 + 1) [some (sR 60), some (sI (x1 + 1)), some (sI x2)] dX7_fewestLaidAnew_84 rfl rfl (by decide) rfl ?_
    refine g_goto 43 dX7_fewestLaidAnew_87 (by decide) ?_
    exact sG.loc (s_le_s (s_le_s (s_le_n s_le_0))) h
  · have h := h.2 q
    refine g_aload_n dX7_fewestLaidAnew_61 rfl ?_
    refine g_iload_n dX7_fewestLaidAnew_62 rfl ?_
    refine g_iload_n dX7_fewestLaidAnew_63 rfl ?_
    refine g_callVi (mi2 := mX7_helps) (r := 60) (st := []) [sI x2, sI x1] dX7_fewestLaidAnew_64 lX7_51 kX7_helps vX7_helps rfl rfl rfl (Nat.le_of_ble_eq_true rfl) (Nat.le_of_ble_eq_true rfl) (Nat.le_of_ble_eq_true rfl) rfl ?_
    refine sG.mono h (kI_mono fun r1 μ1 h => ?_)
    refine g_if_eq 78 dX7_fewestLaidAnew_67 (by decide) (fun q => ?_) (fun q => ?_)
    · have h := h.1 q
      refine g_iinc (x2 + 1) [some (sR 60), some (sI x1), some (sI (x2 + 1))] dX7_fewestLaidAnew_78 rfl rfl (by decide) rfl ?_
      refine g_goto 56 dX7_fewestLaidAnew_81 (by decide) ?_
      exact sG.loc (s_le_s (s_le_s (s_le_s s_le_0))) h
    · have h := h.2 q
      refine g_iconst 1 dX7_fewestLaidAnew_70 (by decide) ?_
      refine g_iload_n dX7_fewestLaidAnew_71 rfl ?_
      refine g_ishl dX7_fewestLaidAnew_72 ?_
      refine g_iconst 1 dX7_fewestLaidAnew_73 (by decide) ?_
      refine g_iload_n dX7_fewestLaidAnew_74 rfl ?_
      refine g_ishl dX7_fewestLaidAnew_75 ?_
      refine g_ior dX7_fewestLaidAnew_76 ?_
      exact g_iret dX7_fewestLaidAnew_77 rfl rfl h
set_option maxRecDepth 20000 in
theorem eX7_helps {d : Nat} {Q : Option sAV → sM → Prop} {μ : sM} {a1 : Int32} {a2 : Int32} (h : (((((μ.1 1 1) >>> (a1 &&& 31)) &&& 1) = 1 → Q (some (sI 0)) μ) ∧ (¬ (((μ.1 1 1) >>> (a1 &&& 31)) &&& 1) = 1 → ((¬ (((μ.1 1 1) >>> (a2 &&& 31)) &&& 1) = 1 → sG sLL mX7_helps (d + 1) Q 37 [some (sR 60), some (sI a1), some (sI a2), some (sI 0), some (sI 0), none] [] μ) ∧ ((((μ.1 1 1) >>> (a2 &&& 31)) &&& 1) = 1 → Q (some (sI 0)) μ))))) : sCl sLL mX7_helps (d + 1) [sR 60, sI a1, sI a2] μ Q := by
  refine sG.loc (al2 := [some (sR 60), some (sI a1), some (sI a2), none, none, none]) (s_le_s (s_le_s (s_le_s (s_le_p (s_le_p (s_le_p s_le_0)))))) ?_
  refine g_aload_n dX7_helps_0 rfl ?_
  refine g_getr (r2 := 1) dX7_helps_1 fX7_15 rfl rfl ?_
  refine h_geti (μ.1 1 1) dX7_helps_4 fX7_54 rfl rfl rfl ?_
  refine g_iload_n dX7_helps_7 rfl ?_
  refine g_ishr dX7_helps_8 ?_
  refine g_iconst 1 dX7_helps_9 (by decide) ?_
  refine g_iand dX7_helps_10 ?_
  refine g_iconst 1 dX7_helps_11 (by decide) ?_
  refine g_icmp_eq 30 dX7_helps_12 (by decide) (fun q => ?_) (fun q => ?_)
  · have h := h.1 q
    refine g_iconst 0 dX7_helps_30 (by decide) ?_
    exact g_iret dX7_helps_31 rfl (s_nb (Or.inl rfl)) h
  · have h := h.2 q
    refine g_aload_n dX7_helps_15 rfl ?_
    refine g_getr (r2 := 1) dX7_helps_16 fX7_15 rfl rfl ?_
    refine h_geti (μ.1 1 1) dX7_helps_19 fX7_54 rfl rfl rfl ?_
    refine g_iload_n dX7_helps_22 rfl ?_
    refine g_ishr dX7_helps_23 ?_
    refine g_iconst 1 dX7_helps_24 (by decide) ?_
    refine g_iand dX7_helps_25 ?_
    refine g_iconst 1 dX7_helps_26 (by decide) ?_
    refine g_icmp_ne 32 dX7_helps_27 (by decide) (fun q => ?_) (fun q => ?_)
    · have h := h.1 q
      refine g_iconst 0 dX7_helps_32 (by decide) ?_
      refine g_istore_n [some (sR 60), some (sI a1), some (sI a2), some (sI 0), none, none] dX7_helps_33 rfl (by decide) rfl ?_
      refine g_iconst 0 dX7_helps_34 (by decide) ?_
      refine g_istore [some (sR 60), some (sI a1), some (sI a2), some (sI 0), some (sI 0), none] dX7_helps_35 (by decide) rfl ?_
      exact sG.loc (s_le_s (s_le_s (s_le_s (s_le_s (s_le_s (s_le_n s_le_0)))))) h
    · have h := h.2 q
      refine g_iconst 0 dX7_helps_30 (by decide) ?_
      exact g_iret dX7_helps_31 rfl (s_nb (Or.inl rfl)) h
set_option maxRecDepth 20000 in
theorem sX7_helps_37 {d : Nat} {Q : Option sAV → sM → Prop} {μ : sM} {x1 : Int32} {x2 : Int32} {x3 : Int32} {x4 : Int32} (h : ((9 < x4 → (vp_in x1 7 ∧ (vp_in x2 7 ∧ ((x3 = 0 ∨ x3 = 1) ∧ Q (some (sI x3)) (s_u (s_u μ 36 (x1.toNatClampNeg) (μ.1 6 x1.toNatClampNeg)) 36 (x2.toNatClampNeg) (μ.1 6 x2.toNatClampNeg)))))) ∧ (¬ 9 < x4 → ((¬ x3 = 0 → (vp_in x1 7 ∧ (vp_in x2 7 ∧ ((x3 = 0 ∨ x3 = 1) ∧ Q (some (sI x3)) (s_u (s_u μ 36 (x1.toNatClampNeg) (μ.1 6 x1.toNatClampNeg)) 36 (x2.toNatClampNeg) (μ.1 6 x2.toNatClampNeg)))))) ∧ (x3 = 0 → sG sLL mX7_helps (d + 1) Q 51 [some (sR 60), some (sI x1), some (sI x2), some (sI x3), some (sI x4), some (sI 0)] [] μ))))) : sG sLL mX7_helps (d + 1) Q 37 [some (sR 60), some (sI x1), some (sI x2), some (sI x3), some (sI x4), none] [] μ := by
  refine g_iload dX7_helps_37 rfl ?_
  refine g_bipush 9 dX7_helps_39 (by decide) ?_
  refine g_icmp_gt 109 dX7_helps_41 (by decide) (fun q => ?_) (fun q => ?_)
  · have h := h.1 q
    refine g_aload_n dX7_helps_109 rfl ?_
    refine g_getr (r2 := 35) dX7_helps_110 fX7_19 rfl rfl ?_
    refine g_getr (r2 := 36) dX7_helps_113 fX7_57 rfl rfl ?_
    refine g_iload_n dX7_helps_116 rfl ?_
    refine g_aload_n dX7_helps_117 rfl ?_
    refine g_getr (r2 := 1) dX7_helps_118 fX7_15 rfl rfl ?_
    refine g_getr (r2 := 6) dX7_helps_121 fX7_60 rfl rfl ?_
    refine g_iload_n dX7_helps_124 rfl ?_
    obtain ⟨v1, h⟩ := h
    refine h_iald (μ.1 6 x1.toNatClampNeg) dX7_helps_125 rfl rfl v1 rfl ?_
    refine h_iast (x1.toNatClampNeg) dX7_helps_126 rfl rfl v1 rfl ?_
    refine g_aload_n dX7_helps_127 rfl ?_
    refine g_getr (r2 := 35) dX7_helps_128 fX7_19 rfl rfl ?_
    refine g_getr (r2 := 36) dX7_helps_131 fX7_57 rfl rfl ?_
    refine g_iload_n dX7_helps_134 rfl ?_
    refine g_aload_n dX7_helps_135 rfl ?_
    refine g_getr (r2 := 1) dX7_helps_136 fX7_15 rfl rfl ?_
    refine g_getr (r2 := 6) dX7_helps_139 fX7_60 rfl rfl ?_
    refine g_iload_n dX7_helps_142 rfl ?_
    obtain ⟨v2, h⟩ := h
    refine h_iald (μ.1 6 x2.toNatClampNeg) dX7_helps_143 rfl rfl v2 rfl ?_
    refine h_iast (x2.toNatClampNeg) dX7_helps_144 rfl rfl v2 rfl ?_
    refine g_iload_n dX7_helps_145 rfl ?_
    obtain ⟨hb, h⟩ := h
    exact g_iret dX7_helps_146 rfl (s_nb hb) h
  · have h := h.2 q
    refine g_iload_n dX7_helps_44 rfl ?_
    refine g_if_ne 109 dX7_helps_45 (by decide) (fun q => ?_) (fun q => ?_)
    · have h := h.1 q
      refine g_aload_n dX7_helps_109 rfl ?_
      refine g_getr (r2 := 35) dX7_helps_110 fX7_19 rfl rfl ?_
      refine g_getr (r2 := 36) dX7_helps_113 fX7_57 rfl rfl ?_
      refine g_iload_n dX7_helps_116 rfl ?_
      refine g_aload_n dX7_helps_117 rfl ?_
      refine g_getr (r2 := 1) dX7_helps_118 fX7_15 rfl rfl ?_
      refine g_getr (r2 := 6) dX7_helps_121 fX7_60 rfl rfl ?_
      refine g_iload_n dX7_helps_124 rfl ?_
      obtain ⟨v1, h⟩ := h
      refine h_iald (μ.1 6 x1.toNatClampNeg) dX7_helps_125 rfl rfl v1 rfl ?_
      refine h_iast (x1.toNatClampNeg) dX7_helps_126 rfl rfl v1 rfl ?_
      refine g_aload_n dX7_helps_127 rfl ?_
      refine g_getr (r2 := 35) dX7_helps_128 fX7_19 rfl rfl ?_
      refine g_getr (r2 := 36) dX7_helps_131 fX7_57 rfl rfl ?_
      refine g_iload_n dX7_helps_134 rfl ?_
      refine g_aload_n dX7_helps_135 rfl ?_
      refine g_getr (r2 := 1) dX7_helps_136 fX7_15 rfl rfl ?_
      refine g_getr (r2 := 6) dX7_helps_139 fX7_60 rfl rfl ?_
      refine g_iload_n dX7_helps_142 rfl ?_
      obtain ⟨v2, h⟩ := h
      refine h_iald (μ.1 6 x2.toNatClampNeg) dX7_helps_143 rfl rfl v2 rfl ?_
      refine h_iast (x2.toNatClampNeg) dX7_helps_144 rfl rfl v2 rfl ?_
      refine g_iload_n dX7_helps_145 rfl ?_
      obtain ⟨hb, h⟩ := h
      exact g_iret dX7_helps_146 rfl (s_nb hb) h
    · have h := h.2 q
      refine g_iconst 0 dX7_helps_48 (by decide) ?_
      refine g_istore [some (sR 60), some (sI x1), some (sI x2), some (sI x3), some (sI x4), some (sI 0)] dX7_helps_49 (by decide) rfl ?_
      exact sG.loc (s_le_s (s_le_s (s_le_s (s_le_s (s_le_s (s_le_s s_le_0)))))) h
set_option maxRecDepth 20000 in
theorem sX7_helps_51 {d : Nat} {Q : Option sAV → sM → Prop} {μ : sM} {x1 : Int32} {x2 : Int32} {x3 : Int32} {x4 : Int32} {x5 : Int32} (h : ((9 < x5 → sG sLL mX7_helps (d + 1) Q 37 [some (sR 60), some (sI x1), some (sI x2), some (sI x3), some (sI (x4 + 1)), none] [] μ) ∧ (¬ 9 < x5 → ((¬ x3 = 0 → sG sLL mX7_helps (d + 1) Q 37 [some (sR 60), some (sI x1), some (sI x2), some (sI x3), some (sI (x4 + 1)), none] [] μ) ∧ (x3 = 0 → (vp_in x1 7 ∧ (vp_in x2 7 ∧ sCl sLL mX7_howMany d [sR 60] (s_u (s_u μ 36 (x1.toNatClampNeg) x4) 36 (x2.toNatClampNeg) x5) (kI fun r1 μ1 => ((¬ r1 = 0 → sG sLL mX7_helps (d + 1) Q 51 [some (sR 60), some (sI x1), some (sI x2), some (sI 0), some (sI x4), some (sI (x5 + 1))] [] μ1) ∧ (r1 = 0 → sG sLL mX7_helps (d + 1) Q 51 [some (sR 60), some (sI x1), some (sI x2), some (sI 1), some (sI x4), some (sI (x5 + 1))] [] μ1)))))))))) : sG sLL mX7_helps (d + 1) Q 51 [some (sR 60), some (sI x1), some (sI x2), some (sI x3), some (sI x4), some (sI x5)] [] μ := by
  refine g_iload dX7_helps_51 rfl ?_
  refine g_bipush 9 dX7_helps_53 (by decide) ?_
  refine g_icmp_gt 103 dX7_helps_55 (by decide) (fun q => ?_) (fun q => ?_)
  · have h := h.1 q
    refine g_iinc (x4 + 1) [some (sR 60), some (sI x1), some (sI x2), some (sI x3), some (sI (x4 + 1)), some (sI x5)] dX7_helps_103 rfl rfl (by decide) rfl ?_
    refine g_goto 37 dX7_helps_106 (by decide) ?_
    exact sG.loc (s_le_s (s_le_s (s_le_s (s_le_s (s_le_s (s_le_n s_le_0)))))) h
  · have h := h.2 q
    refine g_iload_n dX7_helps_58 rfl ?_
    refine g_if_ne 103 dX7_helps_59 (by decide) (fun q => ?_) (fun q => ?_)
    · have h := h.1 q
      refine g_iinc (x4 + 1) [some (sR 60), some (sI x1), some (sI x2), some (sI x3), some (sI (x4 + 1)), some (sI x5)] dX7_helps_103 rfl rfl (by decide) rfl ?_
      refine g_goto 37 dX7_helps_106 (by decide) ?_
      exact sG.loc (s_le_s (s_le_s (s_le_s (s_le_s (s_le_s (s_le_n s_le_0)))))) h
    · have h := h.2 q
      refine g_aload_n dX7_helps_62 rfl ?_
      refine g_getr (r2 := 35) dX7_helps_63 fX7_19 rfl rfl ?_
      refine g_getr (r2 := 36) dX7_helps_66 fX7_57 rfl rfl ?_
      refine g_iload_n dX7_helps_69 rfl ?_
      refine g_iload dX7_helps_70 rfl ?_
      obtain ⟨v1, h⟩ := h
      refine h_iast (x1.toNatClampNeg) dX7_helps_72 rfl rfl v1 rfl ?_
      refine g_aload_n dX7_helps_73 rfl ?_
      refine g_getr (r2 := 35) dX7_helps_74 fX7_19 rfl rfl ?_
      refine g_getr (r2 := 36) dX7_helps_77 fX7_57 rfl rfl ?_
      refine g_iload_n dX7_helps_80 rfl ?_
      refine g_iload dX7_helps_81 rfl ?_
      obtain ⟨v2, h⟩ := h
      refine h_iast (x2.toNatClampNeg) dX7_helps_83 rfl rfl v2 rfl ?_
      refine g_aload_n dX7_helps_84 rfl ?_
      refine g_callVi (mi2 := mX7_howMany) (r := 60) (st := []) [] dX7_helps_85 lX7_43 kX7_howMany vX7_howMany rfl rfl rfl (Nat.le_of_ble_eq_true rfl) (Nat.le_of_ble_eq_true rfl) (Nat.le_of_ble_eq_true rfl) rfl ?_
      refine sG.mono h (kI_mono fun r1 μ1 h => ?_)
      refine g_if_ne 95 dX7_helps_88 (by decide) (fun q => ?_) (fun q => ?_)
      · have h := h.1 q
        refine g_iconst 0 dX7_helps_95 (by decide) ?_
        refine g_istore_n [some (sR 60), some (sI x1), some (sI x2), some (sI 0), some (sI x4), some (sI x5)] dX7_helps_96 rfl (by decide) rfl ?_
        refine g_iinc (x5 + 1) [some (sR 60), some (sI x1), some (sI x2), some (sI 0), some (sI x4), some (sI (x5 + 1))] dX7_helps_97 rfl rfl (by decide) rfl ?_
        refine g_goto 51 dX7_helps_100 (by decide) ?_
        exact sG.loc (s_le_s (s_le_s (s_le_s (s_le_s (s_le_s (s_le_s s_le_0)))))) h
      · have h := h.2 q
        refine g_iconst 1 dX7_helps_91 (by decide) ?_
        refine g_goto 96 dX7_helps_92 (by decide) ?_
        refine g_istore_n [some (sR 60), some (sI x1), some (sI x2), some (sI 1), some (sI x4), some (sI x5)] dX7_helps_96 rfl (by decide) rfl ?_
        refine g_iinc (x5 + 1) [some (sR 60), some (sI x1), some (sI x2), some (sI 1), some (sI x4), some (sI (x5 + 1))] dX7_helps_97 rfl rfl (by decide) rfl ?_
        refine g_goto 51 dX7_helps_100 (by decide) ?_
        exact sG.loc (s_le_s (s_le_s (s_le_s (s_le_s (s_le_s (s_le_s s_le_0)))))) h
set_option maxRecDepth 20000 in
theorem eX6_copyFroma {d : Nat} {Q : Option sAV → sM → Prop} {μ : sM} (h : Q none (s_cp (s_cp (s_cp (s_cp (s_cp (s_cp (s_cp (s_cp (s_cp (s_u (s_u (s_u μ 1 0 (μ.1 2 0)) 1 1 (μ.1 2 1)) 1 2 (μ.1 2 2)) 13 4 7) 14 5 7) 15 6 7) 16 7 7) 17 8 7) 18 9 4) 19 10 4) 20 11 4) 21 12 4)) : sCl sLL mX6_copyFrom (d + 1) [sR 1, sR 2] μ Q := by
  refine sG.loc (al2 := [some (sR 1), some (sR 2)]) (s_le_s (s_le_s s_le_0)) ?_
  refine g_aload_n dX6_copyFrom_0 rfl ?_
  refine g_aload_n dX6_copyFrom_1 rfl ?_
  refine h_geti (μ.1 2 0) dX6_copyFrom_2 fX6_43 rfl rfl rfl ?_
  refine g_puti dX6_copyFrom_5 fX6_43 rfl rfl rfl rfl ?_
  refine g_aload_n dX6_copyFrom_8 rfl ?_
  refine g_aload_n dX6_copyFrom_9 rfl ?_
  refine h_geti (μ.1 2 1) dX6_copyFrom_10 fX6_47 rfl rfl rfl ?_
  refine g_puti dX6_copyFrom_13 fX6_47 rfl rfl rfl rfl ?_
  refine g_aload_n dX6_copyFrom_16 rfl ?_
  refine g_aload_n dX6_copyFrom_17 rfl ?_
  refine h_geti (μ.1 2 2) dX6_copyFrom_18 fX6_56 rfl rfl rfl ?_
  refine g_puti dX6_copyFrom_21 fX6_56 rfl rfl rfl rfl ?_
  refine g_aload_n dX6_copyFrom_24 rfl ?_
  refine g_getr (r2 := 13) dX6_copyFrom_25 fX6_9 rfl rfl ?_
  refine g_iconst 0 dX6_copyFrom_28 (by decide) ?_
  refine g_aload_n dX6_copyFrom_29 rfl ?_
  refine g_getr (r2 := 4) dX6_copyFrom_30 fX6_9 rfl rfl ?_
  refine g_iconst 0 dX6_copyFrom_33 (by decide) ?_
  refine g_bipush 7 dX6_copyFrom_34 (by decide) ?_
  refine h_copy dX6_copyFrom_36 lX6_59 rfl rfl rfl rfl (by decide) (Nat.le_of_ble_eq_true rfl) (Nat.le_of_ble_eq_true rfl) ?_
  refine g_aload_n dX6_copyFrom_39 rfl ?_
  refine g_getr (r2 := 14) dX6_copyFrom_40 fX6_15 rfl rfl ?_
  refine g_iconst 0 dX6_copyFrom_43 (by decide) ?_
  refine g_aload_n dX6_copyFrom_44 rfl ?_
  refine g_getr (r2 := 5) dX6_copyFrom_45 fX6_15 rfl rfl ?_
  refine g_iconst 0 dX6_copyFrom_48 (by decide) ?_
  refine g_bipush 7 dX6_copyFrom_49 (by decide) ?_
  refine h_copy dX6_copyFrom_51 lX6_59 rfl rfl rfl rfl (by decide) (Nat.le_of_ble_eq_true rfl) (Nat.le_of_ble_eq_true rfl) ?_
  refine g_aload_n dX6_copyFrom_54 rfl ?_
  refine g_getr (r2 := 15) dX6_copyFrom_55 fX6_18 rfl rfl ?_
  refine g_iconst 0 dX6_copyFrom_58 (by decide) ?_
  refine g_aload_n dX6_copyFrom_59 rfl ?_
  refine g_getr (r2 := 6) dX6_copyFrom_60 fX6_18 rfl rfl ?_
  refine g_iconst 0 dX6_copyFrom_63 (by decide) ?_
  refine g_bipush 7 dX6_copyFrom_64 (by decide) ?_
  refine h_copy dX6_copyFrom_66 lX6_59 rfl rfl rfl rfl (by decide) (Nat.le_of_ble_eq_true rfl) (Nat.le_of_ble_eq_true rfl) ?_
  refine g_aload_n dX6_copyFrom_69 rfl ?_
  refine g_getr (r2 := 16) dX6_copyFrom_70 fX6_21 rfl rfl ?_
  refine g_iconst 0 dX6_copyFrom_73 (by decide) ?_
  refine g_aload_n dX6_copyFrom_74 rfl ?_
  refine g_getr (r2 := 7) dX6_copyFrom_75 fX6_21 rfl rfl ?_
  refine g_iconst 0 dX6_copyFrom_78 (by decide) ?_
  refine g_bipush 7 dX6_copyFrom_79 (by decide) ?_
  refine h_copy dX6_copyFrom_81 lX6_59 rfl rfl rfl rfl (by decide) (Nat.le_of_ble_eq_true rfl) (Nat.le_of_ble_eq_true rfl) ?_
  refine g_aload_n dX6_copyFrom_84 rfl ?_
  refine g_getr (r2 := 17) dX6_copyFrom_85 fX6_24 rfl rfl ?_
  refine g_iconst 0 dX6_copyFrom_88 (by decide) ?_
  refine g_aload_n dX6_copyFrom_89 rfl ?_
  refine g_getr (r2 := 8) dX6_copyFrom_90 fX6_24 rfl rfl ?_
  refine g_iconst 0 dX6_copyFrom_93 (by decide) ?_
  refine g_bipush 7 dX6_copyFrom_94 (by decide) ?_
  refine h_copy dX6_copyFrom_96 lX6_59 rfl rfl rfl rfl (by decide) (Nat.le_of_ble_eq_true rfl) (Nat.le_of_ble_eq_true rfl) ?_
  refine g_aload_n dX6_copyFrom_99 rfl ?_
  refine g_getr (r2 := 18) dX6_copyFrom_100 fX6_27 rfl rfl ?_
  refine g_iconst 0 dX6_copyFrom_103 (by decide) ?_
  refine g_aload_n dX6_copyFrom_104 rfl ?_
  refine g_getr (r2 := 9) dX6_copyFrom_105 fX6_27 rfl rfl ?_
  refine g_iconst 0 dX6_copyFrom_108 (by decide) ?_
  refine g_iconst 4 dX6_copyFrom_109 (by decide) ?_
  refine h_copy dX6_copyFrom_110 lX6_59 rfl rfl rfl rfl (by decide) (Nat.le_of_ble_eq_true rfl) (Nat.le_of_ble_eq_true rfl) ?_
  refine g_aload_n dX6_copyFrom_113 rfl ?_
  refine g_getr (r2 := 19) dX6_copyFrom_114 fX6_30 rfl rfl ?_
  refine g_iconst 0 dX6_copyFrom_117 (by decide) ?_
  refine g_aload_n dX6_copyFrom_118 rfl ?_
  refine g_getr (r2 := 10) dX6_copyFrom_119 fX6_30 rfl rfl ?_
  refine g_iconst 0 dX6_copyFrom_122 (by decide) ?_
  refine g_iconst 4 dX6_copyFrom_123 (by decide) ?_
  refine h_copy dX6_copyFrom_124 lX6_59 rfl rfl rfl rfl (by decide) (Nat.le_of_ble_eq_true rfl) (Nat.le_of_ble_eq_true rfl) ?_
  refine g_aload_n dX6_copyFrom_127 rfl ?_
  refine g_getr (r2 := 20) dX6_copyFrom_128 fX6_33 rfl rfl ?_
  refine g_iconst 0 dX6_copyFrom_131 (by decide) ?_
  refine g_aload_n dX6_copyFrom_132 rfl ?_
  refine g_getr (r2 := 11) dX6_copyFrom_133 fX6_33 rfl rfl ?_
  refine g_iconst 0 dX6_copyFrom_136 (by decide) ?_
  refine g_iconst 4 dX6_copyFrom_137 (by decide) ?_
  refine h_copy dX6_copyFrom_138 lX6_59 rfl rfl rfl rfl (by decide) (Nat.le_of_ble_eq_true rfl) (Nat.le_of_ble_eq_true rfl) ?_
  refine g_aload_n dX6_copyFrom_141 rfl ?_
  refine g_getr (r2 := 21) dX6_copyFrom_142 fX6_36 rfl rfl ?_
  refine g_iconst 0 dX6_copyFrom_145 (by decide) ?_
  refine g_aload_n dX6_copyFrom_146 rfl ?_
  refine g_getr (r2 := 12) dX6_copyFrom_147 fX6_36 rfl rfl ?_
  refine g_iconst 0 dX6_copyFrom_150 (by decide) ?_
  refine g_iconst 4 dX6_copyFrom_151 (by decide) ?_
  refine h_copy dX6_copyFrom_152 lX6_59 rfl rfl rfl rfl (by decide) (Nat.le_of_ble_eq_true rfl) (Nat.le_of_ble_eq_true rfl) ?_
  exact g_vret dX6_copyFrom_155 rfl h
set_option maxRecDepth 20000 in
theorem eX6_copyFromb {d : Nat} {Q : Option sAV → sM → Prop} {μ : sM} (h : Q none (s_cp (s_cp (s_cp (s_cp (s_cp (s_cp (s_cp (s_cp (s_cp (s_u (s_u (s_u μ 1 0 (μ.1 3 0)) 1 1 (μ.1 3 1)) 1 2 (μ.1 3 2)) 22 4 7) 23 5 7) 24 6 7) 25 7 7) 26 8 7) 27 9 4) 28 10 4) 29 11 4) 30 12 4)) : sCl sLL mX6_copyFrom (d + 1) [sR 1, sR 3] μ Q := by
  refine sG.loc (al2 := [some (sR 1), some (sR 3)]) (s_le_s (s_le_s s_le_0)) ?_
  refine g_aload_n dX6_copyFrom_0 rfl ?_
  refine g_aload_n dX6_copyFrom_1 rfl ?_
  refine h_geti (μ.1 3 0) dX6_copyFrom_2 fX6_43 rfl rfl rfl ?_
  refine g_puti dX6_copyFrom_5 fX6_43 rfl rfl rfl rfl ?_
  refine g_aload_n dX6_copyFrom_8 rfl ?_
  refine g_aload_n dX6_copyFrom_9 rfl ?_
  refine h_geti (μ.1 3 1) dX6_copyFrom_10 fX6_47 rfl rfl rfl ?_
  refine g_puti dX6_copyFrom_13 fX6_47 rfl rfl rfl rfl ?_
  refine g_aload_n dX6_copyFrom_16 rfl ?_
  refine g_aload_n dX6_copyFrom_17 rfl ?_
  refine h_geti (μ.1 3 2) dX6_copyFrom_18 fX6_56 rfl rfl rfl ?_
  refine g_puti dX6_copyFrom_21 fX6_56 rfl rfl rfl rfl ?_
  refine g_aload_n dX6_copyFrom_24 rfl ?_
  refine g_getr (r2 := 22) dX6_copyFrom_25 fX6_9 rfl rfl ?_
  refine g_iconst 0 dX6_copyFrom_28 (by decide) ?_
  refine g_aload_n dX6_copyFrom_29 rfl ?_
  refine g_getr (r2 := 4) dX6_copyFrom_30 fX6_9 rfl rfl ?_
  refine g_iconst 0 dX6_copyFrom_33 (by decide) ?_
  refine g_bipush 7 dX6_copyFrom_34 (by decide) ?_
  refine h_copy dX6_copyFrom_36 lX6_59 rfl rfl rfl rfl (by decide) (Nat.le_of_ble_eq_true rfl) (Nat.le_of_ble_eq_true rfl) ?_
  refine g_aload_n dX6_copyFrom_39 rfl ?_
  refine g_getr (r2 := 23) dX6_copyFrom_40 fX6_15 rfl rfl ?_
  refine g_iconst 0 dX6_copyFrom_43 (by decide) ?_
  refine g_aload_n dX6_copyFrom_44 rfl ?_
  refine g_getr (r2 := 5) dX6_copyFrom_45 fX6_15 rfl rfl ?_
  refine g_iconst 0 dX6_copyFrom_48 (by decide) ?_
  refine g_bipush 7 dX6_copyFrom_49 (by decide) ?_
  refine h_copy dX6_copyFrom_51 lX6_59 rfl rfl rfl rfl (by decide) (Nat.le_of_ble_eq_true rfl) (Nat.le_of_ble_eq_true rfl) ?_
  refine g_aload_n dX6_copyFrom_54 rfl ?_
  refine g_getr (r2 := 24) dX6_copyFrom_55 fX6_18 rfl rfl ?_
  refine g_iconst 0 dX6_copyFrom_58 (by decide) ?_
  refine g_aload_n dX6_copyFrom_59 rfl ?_
  refine g_getr (r2 := 6) dX6_copyFrom_60 fX6_18 rfl rfl ?_
  refine g_iconst 0 dX6_copyFrom_63 (by decide) ?_
  refine g_bipush 7 dX6_copyFrom_64 (by decide) ?_
  refine h_copy dX6_copyFrom_66 lX6_59 rfl rfl rfl rfl (by decide) (Nat.le_of_ble_eq_true rfl) (Nat.le_of_ble_eq_true rfl) ?_
  refine g_aload_n dX6_copyFrom_69 rfl ?_
  refine g_getr (r2 := 25) dX6_copyFrom_70 fX6_21 rfl rfl ?_
  refine g_iconst 0 dX6_copyFrom_73 (by decide) ?_
  refine g_aload_n dX6_copyFrom_74 rfl ?_
  refine g_getr (r2 := 7) dX6_copyFrom_75 fX6_21 rfl rfl ?_
  refine g_iconst 0 dX6_copyFrom_78 (by decide) ?_
  refine g_bipush 7 dX6_copyFrom_79 (by decide) ?_
  refine h_copy dX6_copyFrom_81 lX6_59 rfl rfl rfl rfl (by decide) (Nat.le_of_ble_eq_true rfl) (Nat.le_of_ble_eq_true rfl) ?_
  refine g_aload_n dX6_copyFrom_84 rfl ?_
  refine g_getr (r2 := 26) dX6_copyFrom_85 fX6_24 rfl rfl ?_
  refine g_iconst 0 dX6_copyFrom_88 (by decide) ?_
  refine g_aload_n dX6_copyFrom_89 rfl ?_
  refine g_getr (r2 := 8) dX6_copyFrom_90 fX6_24 rfl rfl ?_
  refine g_iconst 0 dX6_copyFrom_93 (by decide) ?_
  refine g_bipush 7 dX6_copyFrom_94 (by decide) ?_
  refine h_copy dX6_copyFrom_96 lX6_59 rfl rfl rfl rfl (by decide) (Nat.le_of_ble_eq_true rfl) (Nat.le_of_ble_eq_true rfl) ?_
  refine g_aload_n dX6_copyFrom_99 rfl ?_
  refine g_getr (r2 := 27) dX6_copyFrom_100 fX6_27 rfl rfl ?_
  refine g_iconst 0 dX6_copyFrom_103 (by decide) ?_
  refine g_aload_n dX6_copyFrom_104 rfl ?_
  refine g_getr (r2 := 9) dX6_copyFrom_105 fX6_27 rfl rfl ?_
  refine g_iconst 0 dX6_copyFrom_108 (by decide) ?_
  refine g_iconst 4 dX6_copyFrom_109 (by decide) ?_
  refine h_copy dX6_copyFrom_110 lX6_59 rfl rfl rfl rfl (by decide) (Nat.le_of_ble_eq_true rfl) (Nat.le_of_ble_eq_true rfl) ?_
  refine g_aload_n dX6_copyFrom_113 rfl ?_
  refine g_getr (r2 := 28) dX6_copyFrom_114 fX6_30 rfl rfl ?_
  refine g_iconst 0 dX6_copyFrom_117 (by decide) ?_
  refine g_aload_n dX6_copyFrom_118 rfl ?_
  refine g_getr (r2 := 10) dX6_copyFrom_119 fX6_30 rfl rfl ?_
  refine g_iconst 0 dX6_copyFrom_122 (by decide) ?_
  refine g_iconst 4 dX6_copyFrom_123 (by decide) ?_
  refine h_copy dX6_copyFrom_124 lX6_59 rfl rfl rfl rfl (by decide) (Nat.le_of_ble_eq_true rfl) (Nat.le_of_ble_eq_true rfl) ?_
  refine g_aload_n dX6_copyFrom_127 rfl ?_
  refine g_getr (r2 := 29) dX6_copyFrom_128 fX6_33 rfl rfl ?_
  refine g_iconst 0 dX6_copyFrom_131 (by decide) ?_
  refine g_aload_n dX6_copyFrom_132 rfl ?_
  refine g_getr (r2 := 11) dX6_copyFrom_133 fX6_33 rfl rfl ?_
  refine g_iconst 0 dX6_copyFrom_136 (by decide) ?_
  refine g_iconst 4 dX6_copyFrom_137 (by decide) ?_
  refine h_copy dX6_copyFrom_138 lX6_59 rfl rfl rfl rfl (by decide) (Nat.le_of_ble_eq_true rfl) (Nat.le_of_ble_eq_true rfl) ?_
  refine g_aload_n dX6_copyFrom_141 rfl ?_
  refine g_getr (r2 := 30) dX6_copyFrom_142 fX6_36 rfl rfl ?_
  refine g_iconst 0 dX6_copyFrom_145 (by decide) ?_
  refine g_aload_n dX6_copyFrom_146 rfl ?_
  refine g_getr (r2 := 12) dX6_copyFrom_147 fX6_36 rfl rfl ?_
  refine g_iconst 0 dX6_copyFrom_150 (by decide) ?_
  refine g_iconst 4 dX6_copyFrom_151 (by decide) ?_
  refine h_copy dX6_copyFrom_152 lX6_59 rfl rfl rfl rfl (by decide) (Nat.le_of_ble_eq_true rfl) (Nat.le_of_ble_eq_true rfl) ?_
  exact g_vret dX6_copyFrom_155 rfl h
set_option maxRecDepth 20000 in
theorem eX6_copyFromc {d : Nat} {Q : Option sAV → sM → Prop} {μ : sM} (h : Q none (s_cp (s_cp (s_cp (s_cp (s_cp (s_cp (s_cp (s_cp (s_cp (s_u (s_u (s_u μ 2 0 (μ.1 1 0)) 2 1 (μ.1 1 1)) 2 2 (μ.1 1 2)) 4 13 7) 5 14 7) 6 15 7) 7 16 7) 8 17 7) 9 18 4) 10 19 4) 11 20 4) 12 21 4)) : sCl sLL mX6_copyFrom (d + 1) [sR 2, sR 1] μ Q := by
  refine sG.loc (al2 := [some (sR 2), some (sR 1)]) (s_le_s (s_le_s s_le_0)) ?_
  refine g_aload_n dX6_copyFrom_0 rfl ?_
  refine g_aload_n dX6_copyFrom_1 rfl ?_
  refine h_geti (μ.1 1 0) dX6_copyFrom_2 fX6_43 rfl rfl rfl ?_
  refine g_puti dX6_copyFrom_5 fX6_43 rfl rfl rfl rfl ?_
  refine g_aload_n dX6_copyFrom_8 rfl ?_
  refine g_aload_n dX6_copyFrom_9 rfl ?_
  refine h_geti (μ.1 1 1) dX6_copyFrom_10 fX6_47 rfl rfl rfl ?_
  refine g_puti dX6_copyFrom_13 fX6_47 rfl rfl rfl rfl ?_
  refine g_aload_n dX6_copyFrom_16 rfl ?_
  refine g_aload_n dX6_copyFrom_17 rfl ?_
  refine h_geti (μ.1 1 2) dX6_copyFrom_18 fX6_56 rfl rfl rfl ?_
  refine g_puti dX6_copyFrom_21 fX6_56 rfl rfl rfl rfl ?_
  refine g_aload_n dX6_copyFrom_24 rfl ?_
  refine g_getr (r2 := 4) dX6_copyFrom_25 fX6_9 rfl rfl ?_
  refine g_iconst 0 dX6_copyFrom_28 (by decide) ?_
  refine g_aload_n dX6_copyFrom_29 rfl ?_
  refine g_getr (r2 := 13) dX6_copyFrom_30 fX6_9 rfl rfl ?_
  refine g_iconst 0 dX6_copyFrom_33 (by decide) ?_
  refine g_bipush 7 dX6_copyFrom_34 (by decide) ?_
  refine h_copy dX6_copyFrom_36 lX6_59 rfl rfl rfl rfl (by decide) (Nat.le_of_ble_eq_true rfl) (Nat.le_of_ble_eq_true rfl) ?_
  refine g_aload_n dX6_copyFrom_39 rfl ?_
  refine g_getr (r2 := 5) dX6_copyFrom_40 fX6_15 rfl rfl ?_
  refine g_iconst 0 dX6_copyFrom_43 (by decide) ?_
  refine g_aload_n dX6_copyFrom_44 rfl ?_
  refine g_getr (r2 := 14) dX6_copyFrom_45 fX6_15 rfl rfl ?_
  refine g_iconst 0 dX6_copyFrom_48 (by decide) ?_
  refine g_bipush 7 dX6_copyFrom_49 (by decide) ?_
  refine h_copy dX6_copyFrom_51 lX6_59 rfl rfl rfl rfl (by decide) (Nat.le_of_ble_eq_true rfl) (Nat.le_of_ble_eq_true rfl) ?_
  refine g_aload_n dX6_copyFrom_54 rfl ?_
  refine g_getr (r2 := 6) dX6_copyFrom_55 fX6_18 rfl rfl ?_
  refine g_iconst 0 dX6_copyFrom_58 (by decide) ?_
  refine g_aload_n dX6_copyFrom_59 rfl ?_
  refine g_getr (r2 := 15) dX6_copyFrom_60 fX6_18 rfl rfl ?_
  refine g_iconst 0 dX6_copyFrom_63 (by decide) ?_
  refine g_bipush 7 dX6_copyFrom_64 (by decide) ?_
  refine h_copy dX6_copyFrom_66 lX6_59 rfl rfl rfl rfl (by decide) (Nat.le_of_ble_eq_true rfl) (Nat.le_of_ble_eq_true rfl) ?_
  refine g_aload_n dX6_copyFrom_69 rfl ?_
  refine g_getr (r2 := 7) dX6_copyFrom_70 fX6_21 rfl rfl ?_
  refine g_iconst 0 dX6_copyFrom_73 (by decide) ?_
  refine g_aload_n dX6_copyFrom_74 rfl ?_
  refine g_getr (r2 := 16) dX6_copyFrom_75 fX6_21 rfl rfl ?_
  refine g_iconst 0 dX6_copyFrom_78 (by decide) ?_
  refine g_bipush 7 dX6_copyFrom_79 (by decide) ?_
  refine h_copy dX6_copyFrom_81 lX6_59 rfl rfl rfl rfl (by decide) (Nat.le_of_ble_eq_true rfl) (Nat.le_of_ble_eq_true rfl) ?_
  refine g_aload_n dX6_copyFrom_84 rfl ?_
  refine g_getr (r2 := 8) dX6_copyFrom_85 fX6_24 rfl rfl ?_
  refine g_iconst 0 dX6_copyFrom_88 (by decide) ?_
  refine g_aload_n dX6_copyFrom_89 rfl ?_
  refine g_getr (r2 := 17) dX6_copyFrom_90 fX6_24 rfl rfl ?_
  refine g_iconst 0 dX6_copyFrom_93 (by decide) ?_
  refine g_bipush 7 dX6_copyFrom_94 (by decide) ?_
  refine h_copy dX6_copyFrom_96 lX6_59 rfl rfl rfl rfl (by decide) (Nat.le_of_ble_eq_true rfl) (Nat.le_of_ble_eq_true rfl) ?_
  refine g_aload_n dX6_copyFrom_99 rfl ?_
  refine g_getr (r2 := 9) dX6_copyFrom_100 fX6_27 rfl rfl ?_
  refine g_iconst 0 dX6_copyFrom_103 (by decide) ?_
  refine g_aload_n dX6_copyFrom_104 rfl ?_
  refine g_getr (r2 := 18) dX6_copyFrom_105 fX6_27 rfl rfl ?_
  refine g_iconst 0 dX6_copyFrom_108 (by decide) ?_
  refine g_iconst 4 dX6_copyFrom_109 (by decide) ?_
  refine h_copy dX6_copyFrom_110 lX6_59 rfl rfl rfl rfl (by decide) (Nat.le_of_ble_eq_true rfl) (Nat.le_of_ble_eq_true rfl) ?_
  refine g_aload_n dX6_copyFrom_113 rfl ?_
  refine g_getr (r2 := 10) dX6_copyFrom_114 fX6_30 rfl rfl ?_
  refine g_iconst 0 dX6_copyFrom_117 (by decide) ?_
  refine g_aload_n dX6_copyFrom_118 rfl ?_
  refine g_getr (r2 := 19) dX6_copyFrom_119 fX6_30 rfl rfl ?_
  refine g_iconst 0 dX6_copyFrom_122 (by decide) ?_
  refine g_iconst 4 dX6_copyFrom_123 (by decide) ?_
  refine h_copy dX6_copyFrom_124 lX6_59 rfl rfl rfl rfl (by decide) (Nat.le_of_ble_eq_true rfl) (Nat.le_of_ble_eq_true rfl) ?_
  refine g_aload_n dX6_copyFrom_127 rfl ?_
  refine g_getr (r2 := 11) dX6_copyFrom_128 fX6_33 rfl rfl ?_
  refine g_iconst 0 dX6_copyFrom_131 (by decide) ?_
  refine g_aload_n dX6_copyFrom_132 rfl ?_
  refine g_getr (r2 := 20) dX6_copyFrom_133 fX6_33 rfl rfl ?_
  refine g_iconst 0 dX6_copyFrom_136 (by decide) ?_
  refine g_iconst 4 dX6_copyFrom_137 (by decide) ?_
  refine h_copy dX6_copyFrom_138 lX6_59 rfl rfl rfl rfl (by decide) (Nat.le_of_ble_eq_true rfl) (Nat.le_of_ble_eq_true rfl) ?_
  refine g_aload_n dX6_copyFrom_141 rfl ?_
  refine g_getr (r2 := 12) dX6_copyFrom_142 fX6_36 rfl rfl ?_
  refine g_iconst 0 dX6_copyFrom_145 (by decide) ?_
  refine g_aload_n dX6_copyFrom_146 rfl ?_
  refine g_getr (r2 := 21) dX6_copyFrom_147 fX6_36 rfl rfl ?_
  refine g_iconst 0 dX6_copyFrom_150 (by decide) ?_
  refine g_iconst 4 dX6_copyFrom_151 (by decide) ?_
  refine h_copy dX6_copyFrom_152 lX6_59 rfl rfl rfl rfl (by decide) (Nat.le_of_ble_eq_true rfl) (Nat.le_of_ble_eq_true rfl) ?_
  exact g_vret dX6_copyFrom_155 rfl h
set_option maxRecDepth 20000 in
theorem eX6_copyFromd {d : Nat} {Q : Option sAV → sM → Prop} {μ : sM} (h : Q none (s_cp (s_cp (s_cp (s_cp (s_cp (s_cp (s_cp (s_cp (s_cp (s_u (s_u (s_u μ 3 0 (μ.1 1 0)) 3 1 (μ.1 1 1)) 3 2 (μ.1 1 2)) 4 22 7) 5 23 7) 6 24 7) 7 25 7) 8 26 7) 9 27 4) 10 28 4) 11 29 4) 12 30 4)) : sCl sLL mX6_copyFrom (d + 1) [sR 3, sR 1] μ Q := by
  refine sG.loc (al2 := [some (sR 3), some (sR 1)]) (s_le_s (s_le_s s_le_0)) ?_
  refine g_aload_n dX6_copyFrom_0 rfl ?_
  refine g_aload_n dX6_copyFrom_1 rfl ?_
  refine h_geti (μ.1 1 0) dX6_copyFrom_2 fX6_43 rfl rfl rfl ?_
  refine g_puti dX6_copyFrom_5 fX6_43 rfl rfl rfl rfl ?_
  refine g_aload_n dX6_copyFrom_8 rfl ?_
  refine g_aload_n dX6_copyFrom_9 rfl ?_
  refine h_geti (μ.1 1 1) dX6_copyFrom_10 fX6_47 rfl rfl rfl ?_
  refine g_puti dX6_copyFrom_13 fX6_47 rfl rfl rfl rfl ?_
  refine g_aload_n dX6_copyFrom_16 rfl ?_
  refine g_aload_n dX6_copyFrom_17 rfl ?_
  refine h_geti (μ.1 1 2) dX6_copyFrom_18 fX6_56 rfl rfl rfl ?_
  refine g_puti dX6_copyFrom_21 fX6_56 rfl rfl rfl rfl ?_
  refine g_aload_n dX6_copyFrom_24 rfl ?_
  refine g_getr (r2 := 4) dX6_copyFrom_25 fX6_9 rfl rfl ?_
  refine g_iconst 0 dX6_copyFrom_28 (by decide) ?_
  refine g_aload_n dX6_copyFrom_29 rfl ?_
  refine g_getr (r2 := 22) dX6_copyFrom_30 fX6_9 rfl rfl ?_
  refine g_iconst 0 dX6_copyFrom_33 (by decide) ?_
  refine g_bipush 7 dX6_copyFrom_34 (by decide) ?_
  refine h_copy dX6_copyFrom_36 lX6_59 rfl rfl rfl rfl (by decide) (Nat.le_of_ble_eq_true rfl) (Nat.le_of_ble_eq_true rfl) ?_
  refine g_aload_n dX6_copyFrom_39 rfl ?_
  refine g_getr (r2 := 5) dX6_copyFrom_40 fX6_15 rfl rfl ?_
  refine g_iconst 0 dX6_copyFrom_43 (by decide) ?_
  refine g_aload_n dX6_copyFrom_44 rfl ?_
  refine g_getr (r2 := 23) dX6_copyFrom_45 fX6_15 rfl rfl ?_
  refine g_iconst 0 dX6_copyFrom_48 (by decide) ?_
  refine g_bipush 7 dX6_copyFrom_49 (by decide) ?_
  refine h_copy dX6_copyFrom_51 lX6_59 rfl rfl rfl rfl (by decide) (Nat.le_of_ble_eq_true rfl) (Nat.le_of_ble_eq_true rfl) ?_
  refine g_aload_n dX6_copyFrom_54 rfl ?_
  refine g_getr (r2 := 6) dX6_copyFrom_55 fX6_18 rfl rfl ?_
  refine g_iconst 0 dX6_copyFrom_58 (by decide) ?_
  refine g_aload_n dX6_copyFrom_59 rfl ?_
  refine g_getr (r2 := 24) dX6_copyFrom_60 fX6_18 rfl rfl ?_
  refine g_iconst 0 dX6_copyFrom_63 (by decide) ?_
  refine g_bipush 7 dX6_copyFrom_64 (by decide) ?_
  refine h_copy dX6_copyFrom_66 lX6_59 rfl rfl rfl rfl (by decide) (Nat.le_of_ble_eq_true rfl) (Nat.le_of_ble_eq_true rfl) ?_
  refine g_aload_n dX6_copyFrom_69 rfl ?_
  refine g_getr (r2 := 7) dX6_copyFrom_70 fX6_21 rfl rfl ?_
  refine g_iconst 0 dX6_copyFrom_73 (by decide) ?_
  refine g_aload_n dX6_copyFrom_74 rfl ?_
  refine g_getr (r2 := 25) dX6_copyFrom_75 fX6_21 rfl rfl ?_
  refine g_iconst 0 dX6_copyFrom_78 (by decide) ?_
  refine g_bipush 7 dX6_copyFrom_79 (by decide) ?_
  refine h_copy dX6_copyFrom_81 lX6_59 rfl rfl rfl rfl (by decide) (Nat.le_of_ble_eq_true rfl) (Nat.le_of_ble_eq_true rfl) ?_
  refine g_aload_n dX6_copyFrom_84 rfl ?_
  refine g_getr (r2 := 8) dX6_copyFrom_85 fX6_24 rfl rfl ?_
  refine g_iconst 0 dX6_copyFrom_88 (by decide) ?_
  refine g_aload_n dX6_copyFrom_89 rfl ?_
  refine g_getr (r2 := 26) dX6_copyFrom_90 fX6_24 rfl rfl ?_
  refine g_iconst 0 dX6_copyFrom_93 (by decide) ?_
  refine g_bipush 7 dX6_copyFrom_94 (by decide) ?_
  refine h_copy dX6_copyFrom_96 lX6_59 rfl rfl rfl rfl (by decide) (Nat.le_of_ble_eq_true rfl) (Nat.le_of_ble_eq_true rfl) ?_
  refine g_aload_n dX6_copyFrom_99 rfl ?_
  refine g_getr (r2 := 9) dX6_copyFrom_100 fX6_27 rfl rfl ?_
  refine g_iconst 0 dX6_copyFrom_103 (by decide) ?_
  refine g_aload_n dX6_copyFrom_104 rfl ?_
  refine g_getr (r2 := 27) dX6_copyFrom_105 fX6_27 rfl rfl ?_
  refine g_iconst 0 dX6_copyFrom_108 (by decide) ?_
  refine g_iconst 4 dX6_copyFrom_109 (by decide) ?_
  refine h_copy dX6_copyFrom_110 lX6_59 rfl rfl rfl rfl (by decide) (Nat.le_of_ble_eq_true rfl) (Nat.le_of_ble_eq_true rfl) ?_
  refine g_aload_n dX6_copyFrom_113 rfl ?_
  refine g_getr (r2 := 10) dX6_copyFrom_114 fX6_30 rfl rfl ?_
  refine g_iconst 0 dX6_copyFrom_117 (by decide) ?_
  refine g_aload_n dX6_copyFrom_118 rfl ?_
  refine g_getr (r2 := 28) dX6_copyFrom_119 fX6_30 rfl rfl ?_
  refine g_iconst 0 dX6_copyFrom_122 (by decide) ?_
  refine g_iconst 4 dX6_copyFrom_123 (by decide) ?_
  refine h_copy dX6_copyFrom_124 lX6_59 rfl rfl rfl rfl (by decide) (Nat.le_of_ble_eq_true rfl) (Nat.le_of_ble_eq_true rfl) ?_
  refine g_aload_n dX6_copyFrom_127 rfl ?_
  refine g_getr (r2 := 11) dX6_copyFrom_128 fX6_33 rfl rfl ?_
  refine g_iconst 0 dX6_copyFrom_131 (by decide) ?_
  refine g_aload_n dX6_copyFrom_132 rfl ?_
  refine g_getr (r2 := 29) dX6_copyFrom_133 fX6_33 rfl rfl ?_
  refine g_iconst 0 dX6_copyFrom_136 (by decide) ?_
  refine g_iconst 4 dX6_copyFrom_137 (by decide) ?_
  refine h_copy dX6_copyFrom_138 lX6_59 rfl rfl rfl rfl (by decide) (Nat.le_of_ble_eq_true rfl) (Nat.le_of_ble_eq_true rfl) ?_
  refine g_aload_n dX6_copyFrom_141 rfl ?_
  refine g_getr (r2 := 12) dX6_copyFrom_142 fX6_36 rfl rfl ?_
  refine g_iconst 0 dX6_copyFrom_145 (by decide) ?_
  refine g_aload_n dX6_copyFrom_146 rfl ?_
  refine g_getr (r2 := 30) dX6_copyFrom_147 fX6_36 rfl rfl ?_
  refine g_iconst 0 dX6_copyFrom_150 (by decide) ?_
  refine g_iconst 4 dX6_copyFrom_151 (by decide) ?_
  refine h_copy dX6_copyFrom_152 lX6_59 rfl rfl rfl rfl (by decide) (Nat.le_of_ble_eq_true rfl) (Nat.le_of_ble_eq_true rfl) ?_
  exact g_vret dX6_copyFrom_155 rfl h
set_option maxRecDepth 20000 in
theorem eX6_ofGuest {d : Nat} {Q : Option sAV → sM → Prop} {μ : sM} {a1 : Int32} {a2 : Int32} (h : ((a2 = 0 → (vp_in a1 4 ∧ Q (some (sI (μ.1 9 a1.toNatClampNeg))) μ)) ∧ (¬ a2 = 0 → ((a2 = 1 → (vp_in a1 4 ∧ Q (some (sI (μ.1 10 a1.toNatClampNeg))) μ)) ∧ (¬ a2 = 1 → ((a2 = 2 → (vp_in a1 4 ∧ Q (some (sI (μ.1 11 a1.toNatClampNeg))) μ)) ∧ (¬ a2 = 2 → (vp_in a1 4 ∧ Q (some (sI (μ.1 12 a1.toNatClampNeg))) μ)))))))) : sCl sLL mX6_ofGuest d [sR 1, sI a1, sI a2] μ Q := by
  refine sG.loc (al2 := [some (sR 1), some (sI a1), some (sI a2)]) (s_le_s (s_le_s (s_le_s s_le_0))) ?_
  refine g_iload_n dX6_ofGuest_0 rfl ?_
  by_cases q0 : a2 = 0
  · have h := h.1 q0
    refine g_tin 28 0 dX6_ofGuest_1 (by rw [q0]; decide) (by decide) rfl (by decide) ?_
    refine g_aload_n dX6_ofGuest_28 rfl ?_
    refine g_getr (r2 := 9) dX6_ofGuest_29 fX6_27 rfl rfl ?_
    refine g_iload_n dX6_ofGuest_32 rfl ?_
    obtain ⟨v1, h⟩ := h
    refine h_iald (μ.1 9 a1.toNatClampNeg) dX6_ofGuest_33 rfl rfl v1 rfl ?_
    exact g_iret dX6_ofGuest_34 rfl rfl h
  · have h := h.2 q0
    by_cases q1 : a2 = 1
    · have h := h.1 q1
      refine g_tin 35 1 dX6_ofGuest_1 (by rw [q1]; decide) (by decide) rfl (by decide) ?_
      refine g_aload_n dX6_ofGuest_35 rfl ?_
      refine g_getr (r2 := 10) dX6_ofGuest_36 fX6_30 rfl rfl ?_
      refine g_iload_n dX6_ofGuest_39 rfl ?_
      obtain ⟨v1, h⟩ := h
      refine h_iald (μ.1 10 a1.toNatClampNeg) dX6_ofGuest_40 rfl rfl v1 rfl ?_
      exact g_iret dX6_ofGuest_41 rfl rfl h
    · have h := h.2 q1
      by_cases q2 : a2 = 2
      · have h := h.1 q2
        refine g_tin 42 2 dX6_ofGuest_1 (by rw [q2]; decide) (by decide) rfl (by decide) ?_
        refine g_aload_n dX6_ofGuest_42 rfl ?_
        refine g_getr (r2 := 11) dX6_ofGuest_43 fX6_33 rfl rfl ?_
        refine g_iload_n dX6_ofGuest_46 rfl ?_
        obtain ⟨v1, h⟩ := h
        refine h_iald (μ.1 11 a1.toNatClampNeg) dX6_ofGuest_47 rfl rfl v1 rfl ?_
        exact g_iret dX6_ofGuest_48 rfl rfl h
      · have h := h.2 q2
        have n0 := lv_neT (a := 0) q0 (by decide)
        have n1 := lv_neT (a := 1) q1 (by decide)
        have n2 := lv_neT (a := 2) q2 (by decide)
        refine g_tout 49 dX6_ofGuest_1 (by omega) (by decide) ?_
        refine g_aload_n dX6_ofGuest_49 rfl ?_
        refine g_getr (r2 := 12) dX6_ofGuest_50 fX6_36 rfl rfl ?_
        refine g_iload_n dX6_ofGuest_53 rfl ?_
        obtain ⟨v1, h⟩ := h
        refine h_iald (μ.1 12 a1.toNatClampNeg) dX6_ofGuest_54 rfl rfl v1 rfl ?_
        exact g_iret dX6_ofGuest_55 rfl rfl h
