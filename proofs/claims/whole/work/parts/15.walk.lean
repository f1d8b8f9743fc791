set_option maxRecDepth 20000 in
theorem c_X5_advance_18 (l : Launch) (E : uE) (a1 : Int32) (σ : uS) (σr : uS) (h : F_X5_advance_18 a1 σ = some σr) : CtV l E yX5_advance cX5_advance 7 2 44 [.ref (E.2.1 16), .int a1, .ref (E.2.1 18)] σ σr := by
  refine enterV 4 [some (.ref (E.2.1 16)), some (.int a1), some (.ref (E.2.1 18)), none, none, none, none] (by decide +kernel) rfl (Nat.le_of_ble_eq_true rfl) (fun o K hnL hC hab hR => ?_)
  have hC : Cx E K RX5 cX5_advance none 2 44 := hC
  have hN : ∀ k, k < 7 → k < K.2.2.2.2.2 := fun k hk => hnL ▸ hk
  delta F_X5_advance_18 at h
  refine g_iconst (pc := 0) hC ki_0 dX5_advance_0 ?_
  refine g_istore_n (lv2 := [some (.ref (E.2.1 16)), some (.int a1), some (.ref (E.2.1 18)), some (.int 0), none, none, none]) (pc := 1) hC dX5_advance_1 rfl (Or.inr rfl) (hN _ (by decide)) ?_
  have hL1 : ∀ (n : Nat) (w1 : Int32) (σ2 : uS) (z1 : uS), iter n (fun z => B_X5_advance_18_5 a1 z.1 z.2) (w1, σ2) = some z1 → (∀ (σ3 : uS), z1 = σ3 → Gd l E K 0 0 o σ3 110 [some (.ref (E.2.1 16)), some (.int a1), none, none, none, none, none] []) → Gd l E K 0 0 o σ2 2 [some (.ref (E.2.1 16)), some (.int a1), some (.ref (E.2.1 18)), some (.int w1), none, none, none] [] := by
    intro n
    induction n with
    | zero =>
      intro w1 σ2 z1 hi
      exact (iter_0 hi).elim
    | succ n ih1 =>
      intro w1 σ2 z1 hi1 kx1
      obtain ⟨r1, h, hi1⟩ := iter_s hi1
      replace h : B_X5_advance_18_5 a1 w1 σ2 = some r1 := h
      delta B_X5_advance_18_5 at h
      refine g_iload_n (pc := 2) hC dX5_advance_2 rfl ?_
      refine g_aload_n (pc := 3) hC dX5_advance_3 rfl ?_
      refine fg_X5_46_16 (pc := 4) hC dX5_advance_4 ?_
      refine g_iload_n (pc := 7) hC dX5_advance_7 rfl ?_
      obtain ⟨v4, hc, h⟩ := cp_e h
      refine g_callVi (pc := 8) (As := [.int a1]) (rest := [.int w1]) hC (c_X1_sizeOf l E a1 σ2 v4 hc) mi_X1_sizeOf mv_X1_sizeOf ob_11 rfl rfl lk_X5_114 rfl rfl (Nat.le_of_ble_eq_true rfl) ⟨by decide, by decide⟩ hab dX5_advance_8 ?_
      refine g_icmp_ge (tgt := 110) (pc := 11) hC dX5_advance_11 (by decide) (fun c5 => ?_) (fun c5 => ?_)
      · replace h := it_t c5 h
        refine g_mask [true, true, false, false, false, false, false] rfl ?_
        exact kx1 σ2 (iter_r h hi1)
      · replace h := it_f c5 h
        refine g_aload_n (pc := 14) hC dX5_advance_14 rfl ?_
        refine fg_X5_46_16 (pc := 15) hC dX5_advance_15 ?_
        refine g_iload_n (pc := 18) hC dX5_advance_18 rfl ?_
        refine g_iload_n (pc := 19) hC dX5_advance_19 rfl ?_
        obtain ⟨v6, hc, h⟩ := cp_e h
        refine g_callVi (pc := 20) (As := [.int a1, .int w1]) (rest := []) hC (c_X1_lagOf l E a1 w1 σ2 v6 hc) mi_X1_lagOf mv_X1_lagOf ob_11 rfl rfl lk_X5_82 rfl rfl (Nat.le_of_ble_eq_true rfl) ⟨by decide, by decide⟩ hab dX5_advance_20 ?_
        refine g_istore (lv2 := [some (.ref (E.2.1 16)), some (.int a1), some (.ref (E.2.1 18)), some (.int w1), some (.int v6), none, none]) (pc := 23) hC dX5_advance_23 rfl (Or.inr rfl) (hN _ (by decide)) ?_
        refine g_ldc (pc := 25) hC kc_X5_117 dX5_advance_25 ?_
        refine g_istore (lv2 := [some (.ref (E.2.1 16)), some (.int a1), some (.ref (E.2.1 18)), some (.int w1), some (.int v6), some (.int 536870912), none]) (pc := 27) hC dX5_advance_27 rfl (Or.inr rfl) (hN _ (by decide)) ?_
        refine g_iconst (pc := 29) hC ki_0 dX5_advance_29 ?_
        refine g_istore (lv2 := [some (.ref (E.2.1 16)), some (.int a1), some (.ref (E.2.1 18)), some (.int w1), some (.int v6), some (.int 536870912), some (.int 0)]) (pc := 30) hC dX5_advance_30 rfl (Or.inr rfl) (hN _ (by decide)) ?_
        have hL2 : ∀ (n : Nat) (w7 : Int32) (w8 : Int32) (z2 : Int32), iter n (fun z => B_X5_advance_18_3 a1 v6 σ2 z.1 z.2) (w7, w8) = some z2 → (∀ (v9 : Int32), z2 = v9 → Gd l E K 0 0 o σ2 86 [some (.ref (E.2.1 16)), some (.int a1), some (.ref (E.2.1 18)), some (.int w1), none, some (.int v9), none] []) → Gd l E K 0 0 o σ2 32 [some (.ref (E.2.1 16)), some (.int a1), some (.ref (E.2.1 18)), some (.int w1), some (.int v6), some (.int w7), some (.int w8)] [] := by
          intro n
          induction n with
          | zero =>
            intro w7 w8 z2 hi
            exact (iter_0 hi).elim
          | succ n ih2 =>
            intro w7 w8 z2 hi2 kx2
            obtain ⟨r2, h, hi2⟩ := iter_s hi2
            replace h : B_X5_advance_18_3 a1 v6 σ2 w7 w8 = some r2 := h
            delta B_X5_advance_18_3 at h
            refine g_iload (pc := 32) hC dX5_advance_32 rfl ?_
            refine g_aload_n (pc := 34) hC dX5_advance_34 rfl ?_
            refine fg_X5_46_16 (pc := 35) hC dX5_advance_35 ?_
            refine g_iload_n (pc := 38) hC dX5_advance_38 rfl ?_
            refine g_iconst (pc := 39) hC ki_1 dX5_advance_39 ?_
            refine g_isub (pc := 40) hC dX5_advance_40 ?_
            obtain ⟨v10, hc, h⟩ := cp_e h
            refine g_callVi (pc := 41) (As := [.int (a1 - 1)]) (rest := [.int w8]) hC (c_X1_sizeOf l E (a1 - 1) σ2 v10 hc) mi_X1_sizeOf mv_X1_sizeOf ob_11 rfl rfl lk_X5_114 rfl rfl (Nat.le_of_ble_eq_true rfl) ⟨by decide, by decide⟩ hab dX5_advance_41 ?_
            refine g_icmp_ge (tgt := 86) (pc := 44) hC dX5_advance_44 (by decide) (fun c11 => ?_) (fun c11 => ?_)
            · replace h := it_t c11 h
              refine g_mask [true, true, true, true, false, true, false] rfl ?_
              exact kx2 w7 (iter_r h hi2)
            · replace h := it_f c11 h
              refine g_iload (pc := 47) hC dX5_advance_47 rfl ?_
              refine g_aload_n (pc := 49) hC dX5_advance_49 rfl ?_
              refine fg_X5_40_16 (pc := 50) hC dX5_advance_50 ?_
              refine g_iload (pc := 53) hC dX5_advance_53 rfl ?_
              obtain ⟨v12, ev12, nv12, h⟩ := rd_e h
              refine g_iald (pc := 55) hC 25 (by decide) (ar_25 _ _ _) nv12 dX5_advance_55 ?_
              refine g_top ev12 ?_
              refine g_aload_n (pc := 56) hC dX5_advance_56 rfl ?_
              refine g_aload_n (pc := 57) hC dX5_advance_57 rfl ?_
              refine fg_X5_46_16 (pc := 58) hC dX5_advance_58 ?_
              refine g_iload_n (pc := 61) hC dX5_advance_61 rfl ?_
              refine g_iconst (pc := 62) hC ki_1 dX5_advance_62 ?_
              refine g_isub (pc := 63) hC dX5_advance_63 ?_
              refine g_iload (pc := 64) hC dX5_advance_64 rfl ?_
              obtain ⟨v13, hc, h⟩ := cp_e h
              refine g_callVi (pc := 66) (As := [.int (a1 - 1), .int w8]) (rest := [.ref (E.2.1 18), .int v12, .int w7]) hC (c_X1_lagOf l E (a1 - 1) w8 σ2 v13 hc) mi_X1_lagOf mv_X1_lagOf ob_11 rfl rfl lk_X5_82 rfl rfl (Nat.le_of_ble_eq_true rfl) ⟨by decide, by decide⟩ hab dX5_advance_66 ?_
              refine g_iload (pc := 69) hC dX5_advance_69 rfl ?_
              obtain ⟨v14, hc, h⟩ := cp_e h
              refine g_callVi (pc := 71) (As := [.int v13, .int v6]) (rest := [.int v12, .int w7]) hC (c_X9_price_18 l E v13 v6 σ2 v14 hc) mi_X9_price mv_X9_price ob_18 rfl rfl lk_X5_135 rfl rfl (Nat.le_of_ble_eq_true rfl) ⟨by decide, by decide⟩ hab dX5_advance_71 ?_
              refine g_iadd (pc := 74) hC dX5_advance_74 ?_
              obtain ⟨v15, hc, h⟩ := cp_e h
              refine g_callSi (pc := 75) (As := [.int w7, .int (v12 + v14)]) (rest := []) hC (c_J9_min_7cf53 l E w7 (v12 + v14) σ2 v15 hc) mi_J9_min_7cf53 ms_J9_min_7cf53 lk_X5_130 rfl rfl (Nat.le_of_ble_eq_true rfl) ⟨by decide, by decide⟩ hab dX5_advance_75 ?_
              refine g_istore (lv2 := [some (.ref (E.2.1 16)), some (.int a1), some (.ref (E.2.1 18)), some (.int w1), some (.int v6), some (.int v15), some (.int w8)]) (pc := 78) hC dX5_advance_78 rfl (Or.inr rfl) (hN _ (by decide)) ?_
              obtain ⟨v16, ev16, h⟩ := lt_e h
              refine g_iinc (v := v16) (lv2 := [some (.ref (E.2.1 16)), some (.int a1), some (.ref (E.2.1 18)), some (.int w1), some (.int v6), some (.int v15), some (.int v16)]) (pc := 80) hC dX5_advance_80 rfl ev16 rfl (Or.inr rfl) (hN _ (by decide)) ?_
              refine g_goto (tgt := 32) (pc := 83) hC dX5_advance_83 (by decide) ?_
              exact ih2 v15 v16 z2 (iter_l h hi2) kx2
        obtain ⟨z2, hz2, h⟩ := lp_e h
        refine hL2 FU 536870912 0 z2 hz2 (fun v9 ez => ?_)
        replace h : C_X5_advance_18_4 a1 w1 σ2 v9 = some r1 := by rw [ez] at h; exact h
        delta C_X5_advance_18_4 at h
        refine g_aload_n (pc := 86) hC dX5_advance_86 rfl ?_
        refine fg_X5_43_16 (pc := 87) hC dX5_advance_87 ?_
        refine g_iload_n (pc := 90) hC dX5_advance_90 rfl ?_
        refine g_iload (pc := 91) hC dX5_advance_91 rfl ?_
        refine g_aload_n (pc := 93) hC dX5_advance_93 rfl ?_
        refine fg_X5_46_16 (pc := 94) hC dX5_advance_94 ?_
        refine g_iload_n (pc := 97) hC dX5_advance_97 rfl ?_
        refine g_iload_n (pc := 98) hC dX5_advance_98 rfl ?_
        obtain ⟨v17, hc, h⟩ := cp_e h
        refine g_callVi (pc := 99) (As := [.int a1, .int w1]) (rest := [.int v9, .int w1, .ref (E.2.1 26)]) hC (c_X1_ownOf l E a1 w1 σ2 v17 hc) mi_X1_ownOf mv_X1_ownOf ob_11 rfl rfl lk_X5_111 rfl rfl (Nat.le_of_ble_eq_true rfl) ⟨by decide, by decide⟩ hab dX5_advance_99 ?_
        refine g_iadd (pc := 102) hC dX5_advance_102 ?_
        obtain ⟨σ18, eσ18, nσ18, h⟩ := wr_e h
        refine g_iast (pc := 103) hC 26 (by decide) (ar_26 _ _) nσ18 dX5_advance_103 eσ18 ?_
        obtain ⟨v19, ev19, h⟩ := lt_e h
        refine g_iinc (v := v19) (lv2 := [some (.ref (E.2.1 16)), some (.int a1), some (.ref (E.2.1 18)), some (.int v19), none, some (.int v9), none]) (pc := 104) hC dX5_advance_104 rfl ev19 rfl (Or.inr rfl) (hN _ (by decide)) ?_
        refine g_goto (tgt := 2) (pc := 107) hC dX5_advance_107 (by decide) ?_
        refine g_mask [true, true, true, true, false, false, false] rfl ?_
        exact ih1 v19 σ18 z1 (iter_l h hi1) kx1
  obtain ⟨z1, hz1, h⟩ := lp_e h
  refine hL1 FU 0 σ z1 hz1 (fun σ3 ez => ?_)
  replace h : C_X5_advance_18_9 a1 σ3 = some σr := by rw [ez] at h; exact h
  delta C_X5_advance_18_9 at h
  refine g_iconst (pc := 110) hC ki_0 dX5_advance_110 ?_
  refine g_istore_n (lv2 := [some (.ref (E.2.1 16)), some (.int a1), none, some (.int 0), none, none, none]) (pc := 111) hC dX5_advance_111 rfl (Or.inr rfl) (hN _ (by decide)) ?_
  have hL6 : ∀ (n : Nat) (w20 : Int32) (σ21 : uS) (z6 : uS), iter n (fun z => B_X5_advance_18_7 a1 z.1 z.2) (w20, σ21) = some z6 → (∀ (σ22 : uS), z6 = σ22 → Gd l E K 0 0 o σ22 142 [none, none, none, none, none, none, none] []) → Gd l E K 0 0 o σ21 112 [some (.ref (E.2.1 16)), some (.int a1), none, some (.int w20), none, none, none] [] := by
    intro n
    induction n with
    | zero =>
      intro w20 σ21 z6 hi
      exact (iter_0 hi).elim
    | succ n ih6 =>
      intro w20 σ21 z6 hi6 kx6
      obtain ⟨r6, h, hi6⟩ := iter_s hi6
      replace h : B_X5_advance_18_7 a1 w20 σ21 = some r6 := h
      delta B_X5_advance_18_7 at h
      refine g_iload_n (pc := 112) hC dX5_advance_112 rfl ?_
      refine g_aload_n (pc := 113) hC dX5_advance_113 rfl ?_
      refine fg_X5_46_16 (pc := 114) hC dX5_advance_114 ?_
      refine g_iload_n (pc := 117) hC dX5_advance_117 rfl ?_
      obtain ⟨v23, hc, h⟩ := cp_e h
      refine g_callVi (pc := 118) (As := [.int a1]) (rest := [.int w20]) hC (c_X1_sizeOf l E a1 σ21 v23 hc) mi_X1_sizeOf mv_X1_sizeOf ob_11 rfl rfl lk_X5_114 rfl rfl (Nat.le_of_ble_eq_true rfl) ⟨by decide, by decide⟩ hab dX5_advance_118 ?_
      refine g_icmp_ge (tgt := 142) (pc := 121) hC dX5_advance_121 (by decide) (fun c24 => ?_) (fun c24 => ?_)
      · replace h := it_t c24 h
        refine g_mask [false, false, false, false, false, false, false] rfl ?_
        exact kx6 σ21 (iter_r h hi6)
      · replace h := it_f c24 h
        refine g_aload_n (pc := 124) hC dX5_advance_124 rfl ?_
        refine fg_X5_40_16 (pc := 125) hC dX5_advance_125 ?_
        refine g_iload_n (pc := 128) hC dX5_advance_128 rfl ?_
        refine g_aload_n (pc := 129) hC dX5_advance_129 rfl ?_
        refine fg_X5_43_16 (pc := 130) hC dX5_advance_130 ?_
        refine g_iload_n (pc := 133) hC dX5_advance_133 rfl ?_
        obtain ⟨v25, ev25, nv25, h⟩ := rd_e h
        refine g_iald (pc := 134) hC 26 (by decide) (ar_26 _ _ _) nv25 dX5_advance_134 ?_
        refine g_top ev25 ?_
        obtain ⟨σ26, eσ26, nσ26, h⟩ := wr_e h
        refine g_iast (pc := 135) hC 25 (by decide) (ar_25 _ _) nσ26 dX5_advance_135 eσ26 ?_
        obtain ⟨v27, ev27, h⟩ := lt_e h
        refine g_iinc (v := v27) (lv2 := [some (.ref (E.2.1 16)), some (.int a1), none, some (.int v27), none, none, none]) (pc := 136) hC dX5_advance_136 rfl ev27 rfl (Or.inr rfl) (hN _ (by decide)) ?_
        refine g_goto (tgt := 112) (pc := 139) hC dX5_advance_139 (by decide) ?_
        exact ih6 v27 σ26 z6 (iter_l h hi6) kx6
  obtain ⟨z6, hz6, h⟩ := lp_e h
  refine hL6 FU 0 σ3 z6 hz6 (fun σ22 ez => ?_)
  replace h : C_X5_advance_18_8 σ22 = some σr := by rw [ez] at h; exact h
  delta C_X5_advance_18_8 at h
  exact g_retv (pc := 142) hC h hR dX5_advance_142
set_option maxRecDepth 20000 in
theorem c_X5_leastOfAll_18 (l : Launch) (E : uE) (a2 : Int32) (σ : uS) (r : Int32) (σr : uS) (h : F_X5_leastOfAll_18 a2 σ = some (r, σr)) : CtI l E yX5_leastOfAll cX5_leastOfAll 5 (some .int) 3 70 [.ref (E.2.1 16), .ref (E.2.1 18), .int a2] σ r σr := by
  refine enterI 2 [some (.ref (E.2.1 16)), some (.ref (E.2.1 18)), some (.int a2), none, none] (by decide +kernel) rfl (Nat.le_of_ble_eq_true rfl) (fun o K hnL hC hab hR => ?_)
  have hC : Cx E K RX5 cX5_leastOfAll (some .int) 3 70 := hC
  have hN : ∀ k, k < 5 → k < K.2.2.2.2.2 := fun k hk => hnL ▸ hk
  delta F_X5_leastOfAll_18 at h
  refine g_aload_n (pc := 0) hC dX5_leastOfAll_0 rfl ?_
  refine fg_X5_60_16 (pc := 1) hC dX5_leastOfAll_1 ?_
  refine g_if_ne (tgt := 9) (pc := 4) hC dX5_leastOfAll_4 (by decide) (fun c1 => ?_) (fun c1 => ?_)
  · replace h := it_f c1 h
    refine g_iconst (pc := 9) hC ki_0 dX5_leastOfAll_9 ?_
    refine g_istore_n (lv2 := [some (.ref (E.2.1 16)), some (.ref (E.2.1 18)), some (.int a2), some (.int 0), none]) (pc := 10) hC dX5_leastOfAll_10 rfl (Or.inr rfl) (hN _ (by decide)) ?_
    have hL1 : ∀ (n : Nat) (w2 : Int32) (σ3 : uS) (z1 : uS), iter n (fun z => B_X5_leastOfAll_18_10 a2 z.1 z.2) (w2, σ3) = some z1 → (∀ (σ4 : uS), z1 = σ4 → Gd l E K 0 0 o σ4 136 [some (.ref (E.2.1 16)), none, none, none, none] []) → Gd l E K 0 0 o σ3 11 [some (.ref (E.2.1 16)), some (.ref (E.2.1 18)), some (.int a2), some (.int w2), none] [] := by
      intro n
      induction n with
      | zero =>
        intro w2 σ3 z1 hi
        exact (iter_0 hi).elim
      | succ n ih1 =>
        intro w2 σ3 z1 hi1 kx1
        obtain ⟨r1, h, hi1⟩ := iter_s hi1
        replace h : B_X5_leastOfAll_18_10 a2 w2 σ3 = some r1 := h
        delta B_X5_leastOfAll_18_10 at h
        refine g_iload_n (pc := 11) hC dX5_leastOfAll_11 rfl ?_
        refine g_aload_n (pc := 12) hC dX5_leastOfAll_12 rfl ?_
        refine fg_X5_60_16 (pc := 13) hC dX5_leastOfAll_13 ?_
        refine g_icmp_ge (tgt := 136) (pc := 16) hC dX5_leastOfAll_16 (by decide) (fun c5 => ?_) (fun c5 => ?_)
        · replace h := it_t c5 h
          refine g_mask [true, false, false, false, false] rfl ?_
          exact kx1 σ3 (iter_r h hi1)
        · replace h := it_f c5 h
          refine g_iload_n (pc := 19) hC dX5_leastOfAll_19 rfl ?_
          have hJ71 : ∀ (σ16 : uS), J_X5_leastOfAll_18_9 a2 w2 σ16 = some r1 → Gd l E K 0 0 o σ16 71 [some (.ref (E.2.1 16)), some (.ref (E.2.1 18)), some (.int a2), some (.int w2), none] [] := by
            intro σ16 h
            delta J_X5_leastOfAll_18_9 at h
            refine g_iconst (pc := 71) hC ki_0 dX5_leastOfAll_71 ?_
            refine g_istore (lv2 := [some (.ref (E.2.1 16)), some (.ref (E.2.1 18)), some (.int a2), some (.int w2), some (.int 0)]) (pc := 72) hC dX5_leastOfAll_72 rfl (Or.inr rfl) (hN _ (by decide)) ?_
            have hL5 : ∀ (n : Nat) (w17 : Int32) (σ18 : uS) (z5 : uS), iter n (fun z => B_X5_leastOfAll_18_7 a2 w2 z.1 z.2) (w17, σ18) = some z5 → (∀ (σ19 : uS), z5 = σ19 → Gd l E K 0 0 o σ19 130 [some (.ref (E.2.1 16)), some (.ref (E.2.1 18)), some (.int a2), some (.int w2), none] []) → Gd l E K 0 0 o σ18 74 [some (.ref (E.2.1 16)), some (.ref (E.2.1 18)), some (.int a2), some (.int w2), some (.int w17)] [] := by
              intro n
              induction n with
              | zero =>
                intro w17 σ18 z5 hi
                exact (iter_0 hi).elim
              | succ n ih5 =>
                intro w17 σ18 z5 hi5 kx5
                obtain ⟨r5, h, hi5⟩ := iter_s hi5
                replace h : B_X5_leastOfAll_18_7 a2 w2 w17 σ18 = some r5 := h
                delta B_X5_leastOfAll_18_7 at h
                refine g_iload_n (pc := 74) hC dX5_leastOfAll_74 rfl ?_
                refine g_if_ne (tgt := 130) (pc := 75) hC dX5_leastOfAll_75 (by decide) (fun c20 => ?_) (fun c20 => ?_)
                · replace h := it_f c20 h
                  refine g_mask [true, true, true, true, false] rfl ?_
                  exact kx5 σ18 (iter_r h hi5)
                · replace h := it_t c20 h
                  refine g_iload (pc := 78) hC dX5_leastOfAll_78 rfl ?_
                  refine g_aload_n (pc := 80) hC dX5_leastOfAll_80 rfl ?_
                  refine fg_X5_46_16 (pc := 81) hC dX5_leastOfAll_81 ?_
                  refine g_iload_n (pc := 84) hC dX5_leastOfAll_84 rfl ?_
                  obtain ⟨v21, hc, h⟩ := cp_e h
                  refine g_callVi (pc := 85) (As := [.int w2]) (rest := [.int w17]) hC (c_X1_sizeOf l E w2 σ18 v21 hc) mi_X1_sizeOf mv_X1_sizeOf ob_11 rfl rfl lk_X5_114 rfl rfl (Nat.le_of_ble_eq_true rfl) ⟨by decide, by decide⟩ hab dX5_leastOfAll_85 ?_
                  refine g_icmp_ge (tgt := 130) (pc := 88) hC dX5_leastOfAll_88 (by decide) (fun c22 => ?_) (fun c22 => ?_)
                  · replace h := it_t c22 h
                    refine g_mask [true, true, true, true, false] rfl ?_
                    exact kx5 σ18 (iter_r h hi5)
                  · replace h := it_f c22 h
                    refine g_aload_n (pc := 91) hC dX5_leastOfAll_91 rfl ?_
                    refine fg_X5_40_16 (pc := 92) hC dX5_leastOfAll_92 ?_
                    refine g_iload (pc := 95) hC dX5_leastOfAll_95 rfl ?_
                    refine g_aload_n (pc := 97) hC dX5_leastOfAll_97 rfl ?_
                    refine fg_X5_46_16 (pc := 98) hC dX5_leastOfAll_98 ?_
                    refine g_iload_n (pc := 101) hC dX5_leastOfAll_101 rfl ?_
                    refine g_iload (pc := 102) hC dX5_leastOfAll_102 rfl ?_
                    obtain ⟨v23, hc, h⟩ := cp_e h
                    refine g_callVi (pc := 104) (As := [.int w2, .int w17]) (rest := [.int w17, .ref (E.2.1 25)]) hC (c_X1_halfOf l E w2 w17 σ18 v23 hc) mi_X1_halfOf mv_X1_halfOf ob_11 rfl rfl lk_X5_101 rfl rfl (Nat.le_of_ble_eq_true rfl) ⟨by decide, by decide⟩ hab dX5_leastOfAll_104 ?_
                    refine g_iconst (pc := 107) hC ki_m1 dX5_leastOfAll_107 ?_
                    have hJ123 : ∀ (v26 : Int32), J_X5_leastOfAll_18_6 w17 σ18 v26 = some r5 → Gd l E K 0 0 o σ18 123 [some (.ref (E.2.1 16)), some (.ref (E.2.1 18)), some (.int a2), some (.int w2), some (.int w17)] [.int v26, .int w17, .ref (E.2.1 25)] := by
                      intro v26 h
                      delta J_X5_leastOfAll_18_6 at h
                      obtain ⟨σ27, eσ27, nσ27, h⟩ := wr_e h
                      refine g_iast (pc := 123) hC 25 (by decide) (ar_25 _ _) nσ27 dX5_leastOfAll_123 eσ27 ?_
                      obtain ⟨v28, ev28, h⟩ := lt_e h
                      refine g_iinc (v := v28) (lv2 := [some (.ref (E.2.1 16)), some (.ref (E.2.1 18)), some (.int a2), some (.int w2), some (.int v28)]) (pc := 124) hC dX5_leastOfAll_124 rfl ev28 rfl (Or.inr rfl) (hN _ (by decide)) ?_
                      refine g_goto (tgt := 74) (pc := 127) hC dX5_leastOfAll_127 (by decide) ?_
                      exact ih5 v28 σ27 z5 (iter_l h hi5) kx5
                    refine g_icmp_ne (tgt := 121) (pc := 108) hC dX5_leastOfAll_108 (by decide) (fun c24 => ?_) (fun c24 => ?_)
                    · replace h := it_f c24 h
                      refine g_ldc (pc := 121) hC kc_X5_117 dX5_leastOfAll_121 ?_
                      exact hJ123 536870912 h
                    · replace h := it_t c24 h
                      refine g_aload_n (pc := 111) hC dX5_leastOfAll_111 rfl ?_
                      refine fg_X5_40_16 (pc := 112) hC dX5_leastOfAll_112 ?_
                      refine g_iload (pc := 115) hC dX5_leastOfAll_115 rfl ?_
                      obtain ⟨v25, ev25, nv25, h⟩ := rd_e h
                      refine g_iald (pc := 117) hC 25 (by decide) (ar_25 _ _ _) nv25 dX5_leastOfAll_117 ?_
                      refine g_top ev25 ?_
                      refine g_goto (tgt := 123) (pc := 118) hC dX5_leastOfAll_118 (by decide) ?_
                      exact hJ123 v25 h
            obtain ⟨z5, hz5, h⟩ := lp_e h
            refine hL5 FU 0 σ16 z5 hz5 (fun σ19 ez => ?_)
            replace h : C_X5_leastOfAll_18_8 w2 σ19 = some r1 := by rw [ez] at h; exact h
            delta C_X5_leastOfAll_18_8 at h
            obtain ⟨v29, ev29, h⟩ := lt_e h
            refine g_iinc (v := v29) (lv2 := [some (.ref (E.2.1 16)), some (.ref (E.2.1 18)), some (.int a2), some (.int v29), none]) (pc := 130) hC dX5_leastOfAll_130 rfl ev29 rfl (Or.inr rfl) (hN _ (by decide)) ?_
            refine g_goto (tgt := 11) (pc := 133) hC dX5_leastOfAll_133 (by decide) ?_
            exact ih1 v29 σ19 z1 (iter_l h hi1) kx1
          refine g_if_ne (tgt := 65) (pc := 20) hC dX5_leastOfAll_20 (by decide) (fun c6 => ?_) (fun c6 => ?_)
          · replace h := it_f c6 h
            refine g_aload_n (pc := 65) hC dX5_leastOfAll_65 rfl ?_
            refine g_iload_n (pc := 66) hC dX5_leastOfAll_66 rfl ?_
            refine g_aload_n (pc := 67) hC dX5_leastOfAll_67 rfl ?_
            obtain ⟨σ7, hc, h⟩ := cp_e h
            refine g_callVv (pc := 68) (As := [.int w2, .ref (E.2.1 18)]) (rest := []) hC (c_X5_advance_18 l E w2 σ3 σ7 hc) mi_X5_advance mv_X5_advance ob_16 rfl rfl lk_X5_118 rfl rfl (Nat.le_of_ble_eq_true rfl) ⟨by decide, by decide⟩ hab dX5_leastOfAll_68 ?_
            exact hJ71 σ7 h
          · replace h := it_t c6 h
            refine g_iconst (pc := 23) hC ki_0 dX5_leastOfAll_23 ?_
            refine g_istore (lv2 := [some (.ref (E.2.1 16)), some (.ref (E.2.1 18)), some (.int a2), some (.int w2), some (.int 0)]) (pc := 24) hC dX5_leastOfAll_24 rfl (Or.inr rfl) (hN _ (by decide)) ?_
            have hL2 : ∀ (n : Nat) (w8 : Int32) (σ9 : uS) (z2 : uS), iter n (fun z => B_X5_leastOfAll_18_3 z.1 z.2) (w8, σ9) = some z2 → (∀ (σ10 : uS), z2 = σ10 → Gd l E K 0 0 o σ10 62 [some (.ref (E.2.1 16)), some (.ref (E.2.1 18)), some (.int a2), some (.int w2), none] []) → Gd l E K 0 0 o σ9 26 [some (.ref (E.2.1 16)), some (.ref (E.2.1 18)), some (.int a2), some (.int w2), some (.int w8)] [] := by
              intro n
              induction n with
              | zero =>
                intro w8 σ9 z2 hi
                exact (iter_0 hi).elim
              | succ n ih2 =>
                intro w8 σ9 z2 hi2 kx2
                obtain ⟨r2, h, hi2⟩ := iter_s hi2
                replace h : B_X5_leastOfAll_18_3 w8 σ9 = some r2 := h
                delta B_X5_leastOfAll_18_3 at h
                refine g_iload (pc := 26) hC dX5_leastOfAll_26 rfl ?_
                refine g_aload_n (pc := 28) hC dX5_leastOfAll_28 rfl ?_
                refine fg_X5_46_16 (pc := 29) hC dX5_leastOfAll_29 ?_
                refine g_iconst (pc := 32) hC ki_0 dX5_leastOfAll_32 ?_
                obtain ⟨v11, hc, h⟩ := cp_e h
                refine g_callVi (pc := 33) (As := [.int 0]) (rest := [.int w8]) hC (c_X1_sizeOf l E 0 σ9 v11 hc) mi_X1_sizeOf mv_X1_sizeOf ob_11 rfl rfl lk_X5_114 rfl rfl (Nat.le_of_ble_eq_true rfl) ⟨by decide, by decide⟩ hab dX5_leastOfAll_33 ?_
                refine g_icmp_ge (tgt := 62) (pc := 36) hC dX5_leastOfAll_36 (by decide) (fun c12 => ?_) (fun c12 => ?_)
                · replace h := it_t c12 h
                  refine g_mask [true, true, true, true, false] rfl ?_
                  exact kx2 σ9 (iter_r h hi2)
                · replace h := it_f c12 h
                  refine g_aload_n (pc := 39) hC dX5_leastOfAll_39 rfl ?_
                  refine fg_X5_40_16 (pc := 40) hC dX5_leastOfAll_40 ?_
                  refine g_iload (pc := 43) hC dX5_leastOfAll_43 rfl ?_
                  refine g_aload_n (pc := 45) hC dX5_leastOfAll_45 rfl ?_
                  refine fg_X5_46_16 (pc := 46) hC dX5_leastOfAll_46 ?_
                  refine g_iconst (pc := 49) hC ki_0 dX5_leastOfAll_49 ?_
                  refine g_iload (pc := 50) hC dX5_leastOfAll_50 rfl ?_
                  obtain ⟨v13, hc, h⟩ := cp_e h
                  refine g_callVi (pc := 52) (As := [.int 0, .int w8]) (rest := [.int w8, .ref (E.2.1 25)]) hC (c_X1_ownOf l E 0 w8 σ9 v13 hc) mi_X1_ownOf mv_X1_ownOf ob_11 rfl rfl lk_X5_111 rfl rfl (Nat.le_of_ble_eq_true rfl) ⟨by decide, by decide⟩ hab dX5_leastOfAll_52 ?_
                  obtain ⟨σ14, eσ14, nσ14, h⟩ := wr_e h
                  refine g_iast (pc := 55) hC 25 (by decide) (ar_25 _ _) nσ14 dX5_leastOfAll_55 eσ14 ?_
                  obtain ⟨v15, ev15, h⟩ := lt_e h
                  refine g_iinc (v := v15) (lv2 := [some (.ref (E.2.1 16)), some (.ref (E.2.1 18)), some (.int a2), some (.int w2), some (.int v15)]) (pc := 56) hC dX5_leastOfAll_56 rfl ev15 rfl (Or.inr rfl) (hN _ (by decide)) ?_
                  refine g_goto (tgt := 26) (pc := 59) hC dX5_leastOfAll_59 (by decide) ?_
                  exact ih2 v15 σ14 z2 (iter_l h hi2) kx2
            obtain ⟨z2, hz2, h⟩ := lp_e h
            refine hL2 FU 0 σ3 z2 hz2 (fun σ10 ez => ?_)
            replace h : C_X5_leastOfAll_18_4 a2 w2 σ10 = some r1 := by rw [ez] at h; exact h
            delta C_X5_leastOfAll_18_4 at h
            refine g_goto (tgt := 71) (pc := 62) hC dX5_leastOfAll_62 (by decide) ?_
            exact hJ71 σ10 h
    obtain ⟨z1, hz1, h⟩ := lp_e h
    refine hL1 FU 0 σ z1 hz1 (fun σ4 ez => ?_)
    replace h : C_X5_leastOfAll_18_14 σ4 = some (r, σr) := by rw [ez] at h; exact h
    delta C_X5_leastOfAll_18_14 at h
    refine g_ldc (pc := 136) hC kc_X5_117 dX5_leastOfAll_136 ?_
    refine g_istore_n (lv2 := [some (.ref (E.2.1 16)), none, none, some (.int 536870912), none]) (pc := 138) hC dX5_leastOfAll_138 rfl (Or.inr rfl) (hN _ (by decide)) ?_
    refine g_iconst (pc := 139) hC ki_0 dX5_leastOfAll_139 ?_
    refine g_istore (lv2 := [some (.ref (E.2.1 16)), none, none, some (.int 536870912), some (.int 0)]) (pc := 140) hC dX5_leastOfAll_140 rfl (Or.inr rfl) (hN _ (by decide)) ?_
    have hL11 : ∀ (n : Nat) (w30 : Int32) (w31 : Int32) (z11 : Int32), iter n (fun z => B_X5_leastOfAll_18_12 σ4 z.1 z.2) (w30, w31) = some z11 → (∀ (v32 : Int32), z11 = v32 → Gd l E K 0 0 o σ4 178 [none, none, none, some (.int v32), none] []) → Gd l E K 0 0 o σ4 142 [some (.ref (E.2.1 16)), none, none, some (.int w30), some (.int w31)] [] := by
      intro n
      induction n with
      | zero =>
        intro w30 w31 z11 hi
        exact (iter_0 hi).elim
      | succ n ih11 =>
        intro w30 w31 z11 hi11 kx11
        obtain ⟨r11, h, hi11⟩ := iter_s hi11
        replace h : B_X5_leastOfAll_18_12 σ4 w30 w31 = some r11 := h
        delta B_X5_leastOfAll_18_12 at h
        refine g_iload (pc := 142) hC dX5_leastOfAll_142 rfl ?_
        refine g_aload_n (pc := 144) hC dX5_leastOfAll_144 rfl ?_
        refine fg_X5_46_16 (pc := 145) hC dX5_leastOfAll_145 ?_
        refine g_aload_n (pc := 148) hC dX5_leastOfAll_148 rfl ?_
        refine fg_X5_60_16 (pc := 149) hC dX5_leastOfAll_149 ?_
        refine g_iconst (pc := 152) hC ki_1 dX5_leastOfAll_152 ?_
        refine g_isub (pc := 153) hC dX5_leastOfAll_153 ?_
        obtain ⟨v33, hc, h⟩ := cp_e h
        refine g_callVi (pc := 154) (As := [.int ((σ4 16 12) - 1)]) (rest := [.int w31]) hC (c_X1_sizeOf l E ((σ4 16 12) - 1) σ4 v33 hc) mi_X1_sizeOf mv_X1_sizeOf ob_11 rfl rfl lk_X5_114 rfl rfl (Nat.le_of_ble_eq_true rfl) ⟨by decide, by decide⟩ hab dX5_leastOfAll_154 ?_
        refine g_icmp_ge (tgt := 178) (pc := 157) hC dX5_leastOfAll_157 (by decide) (fun c34 => ?_) (fun c34 => ?_)
        · replace h := it_t c34 h
          refine g_mask [false, false, false, true, false] rfl ?_
          exact kx11 w30 (iter_r h hi11)
        · replace h := it_f c34 h
          refine g_iload_n (pc := 160) hC dX5_leastOfAll_160 rfl ?_
          refine g_aload_n (pc := 161) hC dX5_leastOfAll_161 rfl ?_
          refine fg_X5_40_16 (pc := 162) hC dX5_leastOfAll_162 ?_
          refine g_iload (pc := 165) hC dX5_leastOfAll_165 rfl ?_
          obtain ⟨v35, ev35, nv35, h⟩ := rd_e h
          refine g_iald (pc := 167) hC 25 (by decide) (ar_25 _ _ _) nv35 dX5_leastOfAll_167 ?_
          refine g_top ev35 ?_
          obtain ⟨v36, hc, h⟩ := cp_e h
          refine g_callSi (pc := 168) (As := [.int w30, .int v35]) (rest := []) hC (c_J9_min_7cf53 l E w30 v35 σ4 v36 hc) mi_J9_min_7cf53 ms_J9_min_7cf53 lk_X5_130 rfl rfl (Nat.le_of_ble_eq_true rfl) ⟨by decide, by decide⟩ hab dX5_leastOfAll_168 ?_
          refine g_istore_n (lv2 := [some (.ref (E.2.1 16)), none, none, some (.int v36), some (.int w31)]) (pc := 171) hC dX5_leastOfAll_171 rfl (Or.inr rfl) (hN _ (by decide)) ?_
          obtain ⟨v37, ev37, h⟩ := lt_e h
          refine g_iinc (v := v37) (lv2 := [some (.ref (E.2.1 16)), none, none, some (.int v36), some (.int v37)]) (pc := 172) hC dX5_leastOfAll_172 rfl ev37 rfl (Or.inr rfl) (hN _ (by decide)) ?_
          refine g_goto (tgt := 142) (pc := 175) hC dX5_leastOfAll_175 (by decide) ?_
          exact ih11 v36 v37 z11 (iter_l h hi11) kx11
    obtain ⟨z11, hz11, h⟩ := lp_e h
    refine hL11 FU 536870912 0 z11 hz11 (fun v32 ez => ?_)
    replace h : C_X5_leastOfAll_18_13 σ4 v32 = some (r, σr) := by rw [ez] at h; exact h
    delta C_X5_leastOfAll_18_13 at h
    refine g_iload_n (pc := 178) hC dX5_leastOfAll_178 rfl ?_
    exact g_ret (pc := 179) hC h hR dX5_leastOfAll_179
  · replace h := it_t c1 h
    refine g_iconst (pc := 7) hC ki_0 dX5_leastOfAll_7 ?_
    exact g_ret (pc := 8) hC h hR dX5_leastOfAll_8
set_option maxRecDepth 20000 in
theorem c_X5_leastWith (l : Launch) (E : uE) (a1 : Int32) (a2 : Int32) (σ : uS) (r : Int32) (σr : uS) (h : F_X5_leastWith a1 a2 σ = some (r, σr)) : CtI l E yX5_leastWith cX5_leastWith 3 (some .int) 4 94 [.ref (E.2.1 16), .int a1, .int a2] σ r σr := by
  refine enterI 0 [some (.ref (E.2.1 16)), some (.int a1), some (.int a2)] (by decide +kernel) rfl (Nat.le_of_ble_eq_true rfl) (fun o K hnL hC hab hR => ?_)
  have hC : Cx E K RX5 cX5_leastWith (some .int) 4 94 := hC
  have hN : ∀ k, k < 3 → k < K.2.2.2.2.2 := fun k hk => hnL ▸ hk
  delta F_X5_leastWith at h
  refine g_aload_n (pc := 0) hC dX5_leastWith_0 rfl ?_
  refine fg_X5_18_16 (pc := 1) hC dX5_leastWith_1 ?_
  refine g_aload_n (pc := 4) hC dX5_leastWith_4 rfl ?_
  refine fg_X5_50_16 (pc := 5) hC dX5_leastWith_5 ?_
  refine g_bipush (pc := 8) hC kb_10 dX5_leastWith_8 ?_
  obtain ⟨v1, hc, h⟩ := cp_e h
  refine g_callVi (pc := 10) (As := [.int 10]) (rest := [.ref (E.2.1 18)]) hC (c_X0_of l E 10 σ v1 hc) mi_X0_of mv_X0_of ob_4 rfl rfl lk_X5_94 rfl rfl (Nat.le_of_ble_eq_true rfl) ⟨by decide, by decide⟩ hab dX5_leastWith_10 ?_
  refine g_iload_n (pc := 13) hC dX5_leastWith_13 rfl ?_
  refine g_iload_n (pc := 14) hC dX5_leastWith_14 rfl ?_
  obtain ⟨σ2, hc, h⟩ := cp_e h
  refine g_callVv (pc := 15) (As := [.int v1, .int a1, .int a2]) (rest := []) hC (c_X9_set_18 l E v1 a1 a2 σ σ2 hc) mi_X9_set mv_X9_set ob_18 rfl rfl lk_X5_126 rfl rfl (Nat.le_of_ble_eq_true rfl) ⟨by decide, by decide⟩ hab dX5_leastWith_15 ?_
  refine g_aload_n (pc := 18) hC dX5_leastWith_18 rfl ?_
  refine g_aload_n (pc := 19) hC dX5_leastWith_19 rfl ?_
  refine fg_X5_18_16 (pc := 20) hC dX5_leastWith_20 ?_
  refine g_iconst (pc := 23) hC ki_1 dX5_leastWith_23 ?_
  obtain ⟨v4, σ3, hc, h⟩ := cl_e h
  refine g_callVi (pc := 24) (As := [.ref (E.2.1 18), .int 1]) (rest := []) hC (c_X5_leastOfAll_18 l E 1 σ2 v4 σ3 hc) mi_X5_leastOfAll mv_X5_leastOfAll ob_16 rfl rfl lk_X5_122 rfl rfl (Nat.le_of_ble_eq_true rfl) ⟨by decide, by decide⟩ hab dX5_leastWith_24 ?_
  exact g_ret (pc := 27) hC h hR dX5_leastWith_27
set_option maxRecDepth 20000 in
theorem c_X5_chosenLive (l : Launch) (E : uE) (a1 : Int32) (a2 : Int32) (σ : uS) (r : Int32) (h : F_X5_chosenLive a1 a2 σ = some r) : CtI l E yX5_chosenLive cX5_chosenLive 6 (some .int) 2 45 [.ref (E.2.1 16), .int a1, .int a2] σ r σ := by
  refine enterI 3 [some (.ref (E.2.1 16)), some (.int a1), some (.int a2), none, none, none] (by decide +kernel) rfl (Nat.le_of_ble_eq_true rfl) (fun o K hnL hC hab hR => ?_)
  have hC : Cx E K RX5 cX5_chosenLive (some .int) 2 45 := hC
  have hN : ∀ k, k < 6 → k < K.2.2.2.2.2 := fun k hk => hnL ▸ hk
  delta F_X5_chosenLive at h
  refine g_iload_n (pc := 0) hC dX5_chosenLive_0 rfl ?_
  refine g_iload_n (pc := 1) hC dX5_chosenLive_1 rfl ?_
  refine g_iadd (pc := 2) hC dX5_chosenLive_2 ?_
  refine g_aload_n (pc := 3) hC dX5_chosenLive_3 rfl ?_
  refine fg_X5_60_16 (pc := 4) hC dX5_chosenLive_4 ?_
  refine g_iconst (pc := 7) hC ki_1 dX5_chosenLive_7 ?_
  refine g_isub (pc := 8) hC dX5_chosenLive_8 ?_
  obtain ⟨v1, hc, h⟩ := cp_e h
  refine g_callSi (pc := 9) (As := [.int (a1 + a2), .int ((σ 16 12) - 1)]) (rest := []) hC (c_J9_min_7cf53 l E (a1 + a2) ((σ 16 12) - 1) σ v1 hc) mi_J9_min_7cf53 ms_J9_min_7cf53 lk_X5_130 rfl rfl (Nat.le_of_ble_eq_true rfl) ⟨by decide, by decide⟩ hab dX5_chosenLive_9 ?_
  refine g_istore_n (lv2 := [some (.ref (E.2.1 16)), some (.int a1), some (.int a2), some (.int v1), none, none]) (pc := 12) hC dX5_chosenLive_12 rfl (Or.inr rfl) (hN _ (by decide)) ?_
  refine g_iload_n (pc := 13) hC dX5_chosenLive_13 rfl ?_
  have hJ22 : J_X5_chosenLive_4 = some r → Gd l E K 0 0 o σ 22 [none, none, none, none, none, none] [] := by
    intro h
    delta J_X5_chosenLive_4 at h
    refine g_iconst (pc := 22) hC ki_0 dX5_chosenLive_22 ?_
    exact g_retp (pc := 23) hC h hR dX5_chosenLive_23
  refine g_if_lt (tgt := 22) (pc := 14) hC dX5_chosenLive_14 (by decide) (fun c2 => ?_) (fun c2 => ?_)
  · replace h := it_t c2 h
    refine g_mask [false, false, false, false, false, false] rfl ?_
    exact hJ22 h
  · replace h := it_f c2 h
    refine g_iload_n (pc := 17) hC dX5_chosenLive_17 rfl ?_
    refine g_iload_n (pc := 18) hC dX5_chosenLive_18 rfl ?_
    refine g_icmp_ge (tgt := 24) (pc := 19) hC dX5_chosenLive_19 (by decide) (fun c3 => ?_) (fun c3 => ?_)
    · replace h := it_t c3 h
      refine g_aload_n (pc := 24) hC dX5_chosenLive_24 rfl ?_
      refine g_iload_n (pc := 25) hC dX5_chosenLive_25 rfl ?_
      obtain ⟨v4, hc, h⟩ := cp_e h
      refine g_callVi (pc := 26) (As := [.int v1]) (rest := []) hC (c_X5_firstAtEnd l E v1 σ v4 hc) mi_X5_firstAtEnd mv_X5_firstAtEnd ob_16 rfl rfl lk_X5_78 rfl rfl (Nat.le_of_ble_eq_true rfl) ⟨by decide, by decide⟩ hab dX5_chosenLive_26 ?_
      refine g_istore (lv2 := [some (.ref (E.2.1 16)), some (.int a1), some (.int a2), some (.int v1), some (.int v4), none]) (pc := 29) hC dX5_chosenLive_29 rfl (Or.inr rfl) (hN _ (by decide)) ?_
      refine g_iload_n (pc := 31) hC dX5_chosenLive_31 rfl ?_
      refine g_istore (lv2 := [some (.ref (E.2.1 16)), some (.int a1), some (.int a2), some (.int v1), some (.int v4), some (.int v1)]) (pc := 32) hC dX5_chosenLive_32 rfl (Or.inr rfl) (hN _ (by decide)) ?_
      have hL1 : ∀ (n : Nat) (w5 : Int32) (w6 : Int32) (z1 : Int32), iter n (fun z => B_X5_chosenLive_2 a1 σ z.1 z.2) (w5, w6) = some z1 → (∀ (v7 : Int32), z1 = v7 → Gd l E K 0 0 o σ 56 [none, none, none, none, some (.int v7), none] []) → Gd l E K 0 0 o σ 34 [some (.ref (E.2.1 16)), some (.int a1), none, none, some (.int w5), some (.int w6)] [] := by
        intro n
        induction n with
        | zero =>
          intro w5 w6 z1 hi
          exact (iter_0 hi).elim
        | succ n ih1 =>
          intro w5 w6 z1 hi1 kx1
          obtain ⟨r1, h, hi1⟩ := iter_s hi1
          replace h : B_X5_chosenLive_2 a1 σ w5 w6 = some r1 := h
          delta B_X5_chosenLive_2 at h
          refine g_iload (pc := 34) hC dX5_chosenLive_34 rfl ?_
          refine g_iload_n (pc := 36) hC dX5_chosenLive_36 rfl ?_
          refine g_icmp_le (tgt := 56) (pc := 37) hC dX5_chosenLive_37 (by decide) (fun c8 => ?_) (fun c8 => ?_)
          · replace h := it_t c8 h
            refine g_mask [false, false, false, false, true, false] rfl ?_
            exact kx1 w5 (iter_r h hi1)
          · replace h := it_f c8 h
            refine g_aload_n (pc := 40) hC dX5_chosenLive_40 rfl ?_
            refine g_iload (pc := 41) hC dX5_chosenLive_41 rfl ?_
            refine g_iload (pc := 43) hC dX5_chosenLive_43 rfl ?_
            obtain ⟨v9, hc, h⟩ := cp_e h
            refine g_callVi (pc := 45) (As := [.int w6, .int w5]) (rest := []) hC (c_X5_aheadOf l E w6 w5 σ v9 hc) mi_X5_aheadOf mv_X5_aheadOf ob_16 rfl rfl lk_X5_86 rfl rfl (Nat.le_of_ble_eq_true rfl) ⟨by decide, by decide⟩ hab dX5_chosenLive_45 ?_
            refine g_istore (lv2 := [some (.ref (E.2.1 16)), some (.int a1), none, none, some (.int v9), some (.int w6)]) (pc := 48) hC dX5_chosenLive_48 rfl (Or.inr rfl) (hN _ (by decide)) ?_
            obtain ⟨v10, ev10, h⟩ := lt_e h
            refine g_iinc (v := v10) (lv2 := [some (.ref (E.2.1 16)), some (.int a1), none, none, some (.int v9), some (.int v10)]) (pc := 50) hC dX5_chosenLive_50 rfl ev10 rfl (Or.inr rfl) (hN _ (by decide)) ?_
            refine g_goto (tgt := 34) (pc := 53) hC dX5_chosenLive_53 (by decide) ?_
            exact ih1 v9 v10 z1 (iter_l h hi1) kx1
      obtain ⟨z1, hz1, h⟩ := lp_e h
      refine g_mask [true, true, false, false, true, true] rfl ?_
      refine hL1 FU v4 v1 z1 hz1 (fun v7 ez => ?_)
      replace h : C_X5_chosenLive_3 v7 = some r := by rw [ez] at h; exact h
      delta C_X5_chosenLive_3 at h
      refine g_iload (pc := 56) hC dX5_chosenLive_56 rfl ?_
      exact g_retp (pc := 58) hC h hR dX5_chosenLive_58
    · replace h := it_f c3 h
      refine g_mask [false, false, false, false, false, false] rfl ?_
      exact hJ22 h
set_option maxRecDepth 20000 in
theorem c_X9_setBy_28_4 (l : Launch) (E : uE) (σ : uS) (σr : uS) (h : F_X9_setBy_28_4 σ = some σr) : CtV l E yX9_setBy cX9_setBy 2 1 23 [.ref (E.2.1 28), .ref (E.2.1 4)] σ σr := by
  refine enterV 0 [some (.ref (E.2.1 28)), some (.ref (E.2.1 4))] (by decide +kernel) rfl (Nat.le_of_ble_eq_true rfl) (fun o K hnL hC hab hR => ?_)
  have hC : Cx E K RX9 cX9_setBy none 1 23 := hC
  have hN : ∀ k, k < 2 → k < K.2.2.2.2.2 := fun k hk => hnL ▸ hk
  delta F_X9_setBy_28_4 at h
  refine g_aload_n (pc := 0) hC dX9_setBy_0 rfl ?_
  refine g_aload_n (pc := 1) hC dX9_setBy_1 rfl ?_
  refine g_bipush (pc := 2) hC kb_10 dX9_setBy_2 ?_
  obtain ⟨v1, hc, h⟩ := cp_e h
  refine g_callVi (pc := 4) (As := [.int 10]) (rest := [.ref (E.2.1 28)]) hC (c_X0_of l E 10 σ v1 hc) mi_X0_of mv_X0_of ob_4 rfl rfl lk_X9_23 rfl rfl (Nat.le_of_ble_eq_true rfl) ⟨by decide, by decide⟩ hab dX9_setBy_4 ?_
  refine g_aload_n (pc := 7) hC dX9_setBy_7 rfl ?_
  refine g_bipush (pc := 8) hC kb_11 dX9_setBy_8 ?_
  obtain ⟨v2, hc, h⟩ := cp_e h
  refine g_callVi (pc := 10) (As := [.int 11]) (rest := [.int v1, .ref (E.2.1 28)]) hC (c_X0_of l E 11 σ v2 hc) mi_X0_of mv_X0_of ob_4 rfl rfl lk_X9_23 rfl rfl (Nat.le_of_ble_eq_true rfl) ⟨by decide, by decide⟩ hab dX9_setBy_10 ?_
  refine g_aload_n (pc := 13) hC dX9_setBy_13 rfl ?_
  refine g_bipush (pc := 14) hC kb_12 dX9_setBy_14 ?_
  obtain ⟨v3, hc, h⟩ := cp_e h
  refine g_callVi (pc := 16) (As := [.int 12]) (rest := [.int v2, .int v1, .ref (E.2.1 28)]) hC (c_X0_of l E 12 σ v3 hc) mi_X0_of mv_X0_of ob_4 rfl rfl lk_X9_23 rfl rfl (Nat.le_of_ble_eq_true rfl) ⟨by decide, by decide⟩ hab dX9_setBy_16 ?_
  obtain ⟨σ4, hc, h⟩ := cp_e h
  refine g_callVv (pc := 19) (As := [.int v1, .int v2, .int v3]) (rest := []) hC (c_X9_set_28 l E v1 v2 v3 σ σ4 hc) mi_X9_set mv_X9_set ob_28 rfl rfl lk_X9_27 rfl rfl (Nat.le_of_ble_eq_true rfl) ⟨by decide, by decide⟩ hab dX9_setBy_19 ?_
  exact g_retv (pc := 22) hC h hR dX9_setBy_22
set_option maxRecDepth 20000 in
theorem c_X6_place (l : Launch) (E : uE) (a1 : Int32) (a2 : Int32) (σ : uS) (r : Int32) (h : F_X6_place a1 a2 σ = some r) : CtI l E yX6_place cX6_place 2 (some .int) 1 21 [.int a1, .int a2] σ r σ := by
  refine enterI 0 [some (.int a1), some (.int a2)] (by decide +kernel) rfl (Nat.le_of_ble_eq_true rfl) (fun o K hnL hC hab hR => ?_)
  have hC : Cx E K RX6 cX6_place (some .int) 1 21 := hC
  have hN : ∀ k, k < 2 → k < K.2.2.2.2.2 := fun k hk => hnL ▸ hk
  delta F_X6_place at h
  refine g_iload_n (pc := 0) hC dX6_place_0 rfl ?_
  refine g_iconst (pc := 1) hC ki_1 dX6_place_1 ?_
  refine g_iadd (pc := 2) hC dX6_place_2 ?_
  refine g_iload_n (pc := 3) hC dX6_place_3 rfl ?_
  obtain ⟨v1, hc, h⟩ := cp_e h
  refine g_callNi (pc := 4) (As := [.int (a1 + 1), .int a2]) (rest := []) hC (c_X11_cell l E (a1 + 1) a2 σ v1 hc) mi_X11_cell ms_X11_cell lk_X6_68 rfl rfl (Nat.le_of_ble_eq_true rfl) ⟨by decide, by decide⟩ hab dX6_place_4 ?_
  refine g_bipush (pc := 7) hC kb_8 dX6_place_7 ?_
  refine g_imul (pc := 9) hC dX6_place_9 ?_
  exact g_retp (pc := 10) hC h hR dX6_place_10
set_option maxRecDepth 20000 in
theorem c_X6_cheapestNext (l : Launch) (E : uE) (a1 : Int32) (σ : uS) (r : Int32) (h : F_X6_cheapestNext a1 σ = some r) : CtI l E yX6_cheapestNext cX6_cheapestNext 6 (some .int) 2 42 [.ref (E.2.1 27), .int a1] σ r σ := by
  refine enterI 4 [some (.ref (E.2.1 27)), some (.int a1), none, none, none, none] (by decide +kernel) rfl (Nat.le_of_ble_eq_true rfl) (fun o K hnL hC hab hR => ?_)
  have hC : Cx E K RX6 cX6_cheapestNext (some .int) 2 42 := hC
  have hN : ∀ k, k < 6 → k < K.2.2.2.2.2 := fun k hk => hnL ▸ hk
  delta F_X6_cheapestNext at h
  refine g_iconst (pc := 0) hC ki_m1 dX6_cheapestNext_0 ?_
  refine g_istore_n (lv2 := [some (.ref (E.2.1 27)), some (.int a1), some (.int (-1)), none, none, none]) (pc := 1) hC dX6_cheapestNext_1 rfl (Or.inr rfl) (hN _ (by decide)) ?_
  refine g_iconst (pc := 2) hC ki_0 dX6_cheapestNext_2 ?_
  refine g_istore_n (lv2 := [some (.ref (E.2.1 27)), some (.int a1), some (.int (-1)), some (.int 0), none, none]) (pc := 3) hC dX6_cheapestNext_3 rfl (Or.inr rfl) (hN _ (by decide)) ?_
  refine g_iconst (pc := 4) hC ki_0 dX6_cheapestNext_4 ?_
  refine g_istore (lv2 := [some (.ref (E.2.1 27)), some (.int a1), some (.int (-1)), some (.int 0), some (.int 0), none]) (pc := 5) hC dX6_cheapestNext_5 rfl (Or.inr rfl) (hN _ (by decide)) ?_
  have hL1 : ∀ (n : Nat) (w1 : Int32) (w2 : Int32) (w3 : Int32) (z1 : Int32), iter n (fun z => B_X6_cheapestNext_4 a1 σ z.1 z.2.1 z.2.2) (w1, w2, w3) = some z1 → (∀ (v4 : Int32), z1 = v4 → Gd l E K 0 0 o σ 107 [none, none, some (.int v4), none, none, none] []) → Gd l E K 0 0 o σ 7 [some (.ref (E.2.1 27)), some (.int a1), some (.int w1), some (.int w2), some (.int w3), none] [] := by
    intro n
    induction n with
    | zero =>
      intro w1 w2 w3 z1 hi
      exact (iter_0 hi).elim
    | succ n ih1 =>
      intro w1 w2 w3 z1 hi1 kx1
      obtain ⟨r1, h, hi1⟩ := iter_s hi1
      replace h : B_X6_cheapestNext_4 a1 σ w1 w2 w3 = some r1 := h
      delta B_X6_cheapestNext_4 at h
      refine g_iload (pc := 7) hC dX6_cheapestNext_7 rfl ?_
      refine g_aload_n (pc := 9) hC dX6_cheapestNext_9 rfl ?_
      refine fg_X6_34_27 (pc := 10) hC dX6_cheapestNext_10 ?_
      refine g_iload_n (pc := 13) hC dX6_cheapestNext_13 rfl ?_
      obtain ⟨v5, hc, h⟩ := cp_e h
      refine g_callVi (pc := 14) (As := [.int a1]) (rest := [.int w3]) hC (c_X1_sizeOf l E a1 σ v5 hc) mi_X1_sizeOf mv_X1_sizeOf ob_11 rfl rfl lk_X6_52 rfl rfl (Nat.le_of_ble_eq_true rfl) ⟨by decide, by decide⟩ hab dX6_cheapestNext_14 ?_
      refine g_icmp_ge (tgt := 107) (pc := 17) hC dX6_cheapestNext_17 (by decide) (fun c6 => ?_) (fun c6 => ?_)
      · replace h := it_t c6 h
        refine g_mask [false, false, true, false, false, false] rfl ?_
        exact kx1 w1 (iter_r h hi1)
      · replace h := it_f c6 h
        refine g_aload_n (pc := 20) hC dX6_cheapestNext_20 rfl ?_
        refine fg_X6_28_27 (pc := 21) hC dX6_cheapestNext_21 ?_
        refine g_iload (pc := 24) hC dX6_cheapestNext_24 rfl ?_
        obtain ⟨v7, ev7, nv7, h⟩ := rd_e h
        refine g_iald (pc := 26) hC 32 (by decide) (ar_32 _ _ _) nv7 dX6_cheapestNext_26 ?_
        refine g_top ev7 ?_
        refine g_aload_n (pc := 27) hC dX6_cheapestNext_27 rfl ?_
        refine fg_X6_25_27 (pc := 28) hC dX6_cheapestNext_28 ?_
        refine g_iload_n (pc := 31) hC dX6_cheapestNext_31 rfl ?_
        refine g_iconst (pc := 32) hC ki_1 dX6_cheapestNext_32 ?_
        refine g_iadd (pc := 33) hC dX6_cheapestNext_33 ?_
        refine g_iload (pc := 34) hC dX6_cheapestNext_34 rfl ?_
        obtain ⟨v8, hc, h⟩ := cp_e h
        refine g_callNi (pc := 36) (As := [.int (a1 + 1), .int w3]) (rest := [.ref (E.2.1 31), .int v7]) hC (c_X11_cell l E (a1 + 1) w3 σ v8 hc) mi_X11_cell ms_X11_cell lk_X6_68 rfl rfl (Nat.le_of_ble_eq_true rfl) ⟨by decide, by decide⟩ hab dX6_cheapestNext_36 ?_
        obtain ⟨v9, ev9, nv9, h⟩ := rd_e h
        refine g_iald (pc := 39) hC 31 (by decide) (ar_31 _ _ _) nv9 dX6_cheapestNext_39 ?_
        refine g_top ev9 ?_
        have hJ101 : ∀ (v20 : Int32) (v21 : Int32), J_X6_cheapestNext_3 w3 v20 v21 = some r1 → Gd l E K 0 0 o σ 101 [some (.ref (E.2.1 27)), some (.int a1), some (.int v20), some (.int v21), some (.int w3), none] [] := by
          intro v20 v21 h
          delta J_X6_cheapestNext_3 at h
          obtain ⟨v22, ev22, h⟩ := lt_e h
          refine g_iinc (v := v22) (lv2 := [some (.ref (E.2.1 27)), some (.int a1), some (.int v20), some (.int v21), some (.int v22), none]) (pc := 101) hC dX6_cheapestNext_101 rfl ev22 rfl (Or.inr rfl) (hN _ (by decide)) ?_
          refine g_goto (tgt := 7) (pc := 104) hC dX6_cheapestNext_104 (by decide) ?_
          exact ih1 v20 v21 v22 z1 (iter_l h hi1) kx1
        refine g_icmp_ge (tgt := 101) (pc := 40) hC dX6_cheapestNext_40 (by decide) (fun c10 => ?_) (fun c10 => ?_)
        · replace h := it_t c10 h
          exact hJ101 w1 w2 h
        · replace h := it_f c10 h
          refine g_aload_n (pc := 43) hC dX6_cheapestNext_43 rfl ?_
          refine fg_X6_28_27 (pc := 44) hC dX6_cheapestNext_44 ?_
          refine g_iload (pc := 47) hC dX6_cheapestNext_47 rfl ?_
          obtain ⟨v11, ev11, nv11, h⟩ := rd_e h
          refine g_iald (pc := 49) hC 32 (by decide) (ar_32 _ _ _) nv11 dX6_cheapestNext_49 ?_
          refine g_top ev11 ?_
          refine g_bipush (pc := 50) hC kb_8 dX6_cheapestNext_50 ?_
          refine g_icmp_ge (tgt := 101) (pc := 52) hC dX6_cheapestNext_52 (by decide) (fun c12 => ?_) (fun c12 => ?_)
          · replace h := it_t c12 h
            exact hJ101 w1 w2 h
          · replace h := it_f c12 h
            refine g_aload_n (pc := 55) hC dX6_cheapestNext_55 rfl ?_
            refine fg_X6_31_27 (pc := 56) hC dX6_cheapestNext_56 ?_
            refine g_iload (pc := 59) hC dX6_cheapestNext_59 rfl ?_
            obtain ⟨v13, ev13, nv13, h⟩ := rd_e h
            refine g_iald (pc := 61) hC 33 (by decide) (ar_33 _ _ _) nv13 dX6_cheapestNext_61 ?_
            refine g_top ev13 ?_
            refine g_aload_n (pc := 62) hC dX6_cheapestNext_62 rfl ?_
            refine fg_X6_18_27 (pc := 63) hC dX6_cheapestNext_63 ?_
            refine g_iload_n (pc := 66) hC dX6_cheapestNext_66 rfl ?_
            refine g_iload (pc := 67) hC dX6_cheapestNext_67 rfl ?_
            obtain ⟨v14, hc, h⟩ := cp_e h
            refine g_callSi (pc := 69) (As := [.int a1, .int w3]) (rest := [.ref (E.2.1 29), .int v13]) hC (c_X6_place l E a1 w3 σ v14 hc) mi_X6_place ms_X6_place lk_X6_64 rfl rfl (Nat.le_of_ble_eq_true rfl) ⟨by decide, by decide⟩ hab dX6_cheapestNext_69 ?_
            refine g_aload_n (pc := 72) hC dX6_cheapestNext_72 rfl ?_
            refine fg_X6_28_27 (pc := 73) hC dX6_cheapestNext_73 ?_
            refine g_iload (pc := 76) hC dX6_cheapestNext_76 rfl ?_
            obtain ⟨v15, ev15, nv15, h⟩ := rd_e h
            refine g_iald (pc := 78) hC 32 (by decide) (ar_32 _ _ _) nv15 dX6_cheapestNext_78 ?_
            refine g_top ev15 ?_
            refine g_iadd (pc := 79) hC dX6_cheapestNext_79 ?_
            obtain ⟨v16, ev16, nv16, h⟩ := rd_e h
            refine g_iald (pc := 80) hC 29 (by decide) (ar_29 _ _ _) nv16 dX6_cheapestNext_80 ?_
            refine g_top ev16 ?_
            refine g_iadd (pc := 81) hC dX6_cheapestNext_81 ?_
            obtain ⟨v17, ev17, h⟩ := lt_e h
            refine g_top ev17 ?_
            refine g_istore (lv2 := [some (.ref (E.2.1 27)), some (.int a1), some (.int w1), some (.int w2), some (.int w3), some (.int v17)]) (pc := 82) hC dX6_cheapestNext_82 rfl (Or.inr rfl) (hN _ (by decide)) ?_
            refine g_iload_n (pc := 84) hC dX6_cheapestNext_84 rfl ?_
            refine g_iconst (pc := 85) hC ki_m1 dX6_cheapestNext_85 ?_
            have hJ95 : J_X6_cheapestNext_2 v17 w3 = some r1 → Gd l E K 0 0 o σ 95 [some (.ref (E.2.1 27)), some (.int a1), none, none, some (.int w3), some (.int v17)] [] := by
              intro h
              delta J_X6_cheapestNext_2 at h
              refine g_iload (pc := 95) hC dX6_cheapestNext_95 rfl ?_
              refine g_istore_n (lv2 := [some (.ref (E.2.1 27)), some (.int a1), some (.int w3), none, some (.int w3), some (.int v17)]) (pc := 97) hC dX6_cheapestNext_97 rfl (Or.inr rfl) (hN _ (by decide)) ?_
              refine g_iload (pc := 98) hC dX6_cheapestNext_98 rfl ?_
              refine g_istore_n (lv2 := [some (.ref (E.2.1 27)), some (.int a1), some (.int w3), some (.int v17), some (.int w3), some (.int v17)]) (pc := 100) hC dX6_cheapestNext_100 rfl (Or.inr rfl) (hN _ (by decide)) ?_
              refine g_mask [true, true, true, true, true, false] rfl ?_
              exact hJ101 w3 v17 h
            refine g_icmp_eq (tgt := 95) (pc := 86) hC dX6_cheapestNext_86 (by decide) (fun c18 => ?_) (fun c18 => ?_)
            · replace h := it_t c18 h
              refine g_mask [true, true, false, false, true, true] rfl ?_
              exact hJ95 h
            · replace h := it_f c18 h
              refine g_iload (pc := 89) hC dX6_cheapestNext_89 rfl ?_
              refine g_iload_n (pc := 91) hC dX6_cheapestNext_91 rfl ?_
              refine g_icmp_ge (tgt := 101) (pc := 92) hC dX6_cheapestNext_92 (by decide) (fun c19 => ?_) (fun c19 => ?_)
              · replace h := it_t c19 h
                refine g_mask [true, true, true, true, true, false] rfl ?_
                exact hJ101 w1 w2 h
              · replace h := it_f c19 h
                refine g_mask [true, true, false, false, true, true] rfl ?_
                exact hJ95 h
  obtain ⟨z1, hz1, h⟩ := lp_e h
  refine hL1 FU (-1) 0 0 z1 hz1 (fun v4 ez => ?_)
  replace h : C_X6_cheapestNext_5 v4 = some r := by rw [ez] at h; exact h
  delta C_X6_cheapestNext_5 at h
  refine g_iload_n (pc := 107) hC dX6_cheapestNext_107 rfl ?_
  exact g_retp (pc := 108) hC h hR dX6_cheapestNext_108
set_option maxRecDepth 20000 in
theorem c_X6_findWays (l : Launch) (E : uE) (a1 : Int32) (a2 : Int32) (σ : uS) (σr : uS) (h : F_X6_findWays a1 a2 σ = some σr) : CtV l E yX6_findWays cX6_findWays 7 3 67 [.ref (E.2.1 27), .int a1, .int a2] σ σr := by
  refine enterV 4 [some (.ref (E.2.1 27)), some (.int a1), some (.int a2), none, none, none, none] (by decide +kernel) rfl (Nat.le_of_ble_eq_true rfl) (fun o K hnL hC hab hR => ?_)
  have hC : Cx E K RX6 cX6_findWays none 3 67 := hC
  have hN : ∀ k, k < 7 → k < K.2.2.2.2.2 := fun k hk => hnL ▸ hk
  delta F_X6_findWays at h
  refine g_aload_n (pc := 0) hC dX6_findWays_0 rfl ?_
  refine fg_X6_34_27 (pc := 1) hC dX6_findWays_1 ?_
  refine g_iload_n (pc := 4) hC dX6_findWays_4 rfl ?_
  refine g_iload_n (pc := 5) hC dX6_findWays_5 rfl ?_
  obtain ⟨v1, hc, h⟩ := cp_e h
  refine g_callVi (pc := 6) (As := [.int a1, .int a2]) (rest := []) hC (c_X1_ownOf l E a1 a2 σ v1 hc) mi_X1_ownOf mv_X1_ownOf ob_11 rfl rfl lk_X6_71 rfl rfl (Nat.le_of_ble_eq_true rfl) ⟨by decide, by decide⟩ hab dX6_findWays_6 ?_
  refine g_istore_n (lv2 := [some (.ref (E.2.1 27)), some (.int a1), some (.int a2), some (.int v1), none, none, none]) (pc := 9) hC dX6_findWays_9 rfl (Or.inr rfl) (hN _ (by decide)) ?_
  refine g_iload_n (pc := 10) hC dX6_findWays_10 rfl ?_
  refine g_iload_n (pc := 11) hC dX6_findWays_11 rfl ?_
  obtain ⟨v2, hc, h⟩ := cp_e h
  refine g_callSi (pc := 12) (As := [.int a1, .int a2]) (rest := []) hC (c_X6_place l E a1 a2 σ v2 hc) mi_X6_place ms_X6_place lk_X6_64 rfl rfl (Nat.le_of_ble_eq_true rfl) ⟨by decide, by decide⟩ hab dX6_findWays_12 ?_
  refine g_istore (lv2 := [some (.ref (E.2.1 27)), some (.int a1), some (.int a2), some (.int v1), some (.int v2), none, none]) (pc := 15) hC dX6_findWays_15 rfl (Or.inr rfl) (hN _ (by decide)) ?_
  refine g_iload_n (pc := 17) hC dX6_findWays_17 rfl ?_
  refine g_iconst (pc := 18) hC ki_1 dX6_findWays_18 ?_
  refine g_iadd (pc := 19) hC dX6_findWays_19 ?_
  refine g_aload_n (pc := 20) hC dX6_findWays_20 rfl ?_
  refine fg_X6_34_27 (pc := 21) hC dX6_findWays_21 ?_
  obtain ⟨v3, hc, h⟩ := cp_e h
  refine g_callVi (pc := 24) (As := []) (rest := [.int (a1 + 1)]) hC (c_X1_frameCount l E σ v3 hc) mi_X1_frameCount mv_X1_frameCount ob_11 rfl rfl lk_X6_46 rfl rfl (Nat.le_of_ble_eq_true rfl) ⟨by decide, by decide⟩ hab dX6_findWays_24 ?_
  refine g_icmp_lt (tgt := 52) (pc := 27) hC dX6_findWays_27 (by decide) (fun c4 => ?_) (fun c4 => ?_)
  · replace h := it_t c4 h
    refine g_iconst (pc := 52) hC ki_0 dX6_findWays_52 ?_
    refine g_istore (lv2 := [some (.ref (E.2.1 27)), some (.int a1), some (.int a2), some (.int v1), some (.int v2), some (.int 0), none]) (pc := 53) hC dX6_findWays_53 rfl (Or.inr rfl) (hN _ (by decide)) ?_
    have hL1 : ∀ (n : Nat) (w5 : Int32) (σ6 : uS) (z1 : uS), iter n (fun z => B_X6_findWays_3 a1 a2 z.1 z.2) (w5, σ6) = some z1 → (∀ (σ7 : uS), z1 = σ7 → Gd l E K 0 0 o σ7 127 [some (.ref (E.2.1 27)), some (.int a1), some (.int a2), some (.int v1), some (.int v2), none, none] []) → Gd l E K 0 0 o σ6 55 [some (.ref (E.2.1 27)), some (.int a1), some (.int a2), some (.int v1), some (.int v2), some (.int w5), none] [] := by
      intro n
      induction n with
      | zero =>
        intro w5 σ6 z1 hi
        exact (iter_0 hi).elim
      | succ n ih1 =>
        intro w5 σ6 z1 hi1 kx1
        obtain ⟨r1, h, hi1⟩ := iter_s hi1
        replace h : B_X6_findWays_3 a1 a2 w5 σ6 = some r1 := h
        delta B_X6_findWays_3 at h
        refine g_iload (pc := 55) hC dX6_findWays_55 rfl ?_
        refine g_aload_n (pc := 57) hC dX6_findWays_57 rfl ?_
        refine fg_X6_34_27 (pc := 58) hC dX6_findWays_58 ?_
        refine g_iload_n (pc := 61) hC dX6_findWays_61 rfl ?_
        refine g_iconst (pc := 62) hC ki_1 dX6_findWays_62 ?_
        refine g_iadd (pc := 63) hC dX6_findWays_63 ?_
        obtain ⟨v8, hc, h⟩ := cp_e h
        refine g_callVi (pc := 64) (As := [.int (a1 + 1)]) (rest := [.int w5]) hC (c_X1_sizeOf l E (a1 + 1) σ6 v8 hc) mi_X1_sizeOf mv_X1_sizeOf ob_11 rfl rfl lk_X6_52 rfl rfl (Nat.le_of_ble_eq_true rfl) ⟨by decide, by decide⟩ hab dX6_findWays_64 ?_
        refine g_icmp_ge (tgt := 127) (pc := 67) hC dX6_findWays_67 (by decide) (fun c9 => ?_) (fun c9 => ?_)
        · replace h := it_t c9 h
          refine g_mask [true, true, true, true, true, false, false] rfl ?_
          exact kx1 σ6 (iter_r h hi1)
        · replace h := it_f c9 h
          refine g_aload_n (pc := 70) hC dX6_findWays_70 rfl ?_
          refine fg_X6_28_27 (pc := 71) hC dX6_findWays_71 ?_
          refine g_iload (pc := 74) hC dX6_findWays_74 rfl ?_
          refine g_iconst (pc := 76) hC ki_0 dX6_findWays_76 ?_
          obtain ⟨σ10, eσ10, nσ10, h⟩ := wr_e h
          refine g_iast (pc := 77) hC 32 (by decide) (ar_32 _ _) nσ10 dX6_findWays_77 eσ10 ?_
          refine g_aload_n (pc := 78) hC dX6_findWays_78 rfl ?_
          refine fg_X6_31_27 (pc := 79) hC dX6_findWays_79 ?_
          refine g_iload (pc := 82) hC dX6_findWays_82 rfl ?_
          refine g_iload_n (pc := 84) hC dX6_findWays_84 rfl ?_
          have hJ120 : ∀ (v15 : Int32), J_X6_findWays_2 w5 σ10 v15 = some r1 → Gd l E K 0 0 o σ10 120 [some (.ref (E.2.1 27)), some (.int a1), some (.int a2), some (.int v1), some (.int v2), some (.int w5), none] [.int v15, .int w5, .ref (E.2.1 33)] := by
            intro v15 h
            delta J_X6_findWays_2 at h
            obtain ⟨σ16, eσ16, nσ16, h⟩ := wr_e h
            refine g_iast (pc := 120) hC 33 (by decide) (ar_33 _ _) nσ16 dX6_findWays_120 eσ16 ?_
            obtain ⟨v17, ev17, h⟩ := lt_e h
            refine g_iinc (v := v17) (lv2 := [some (.ref (E.2.1 27)), some (.int a1), some (.int a2), some (.int v1), some (.int v2), some (.int v17), none]) (pc := 121) hC dX6_findWays_121 rfl ev17 rfl (Or.inr rfl) (hN _ (by decide)) ?_
            refine g_goto (tgt := 55) (pc := 124) hC dX6_findWays_124 (by decide) ?_
            exact ih1 v17 σ16 z1 (iter_l h hi1) kx1
          refine g_if_ge (tgt := 92) (pc := 85) hC dX6_findWays_85 (by decide) (fun c11 => ?_) (fun c11 => ?_)
          · replace h := it_t c11 h
            refine g_aload_n (pc := 92) hC dX6_findWays_92 rfl ?_
            refine fg_X6_12_27 (pc := 93) hC dX6_findWays_93 ?_
            refine g_aload_n (pc := 96) hC dX6_findWays_96 rfl ?_
            refine fg_X6_34_27 (pc := 97) hC dX6_findWays_97 ?_
            refine g_iload_n (pc := 100) hC dX6_findWays_100 rfl ?_
            refine g_iload_n (pc := 101) hC dX6_findWays_101 rfl ?_
            obtain ⟨v12, hc, h⟩ := cp_e h
            refine g_callVi (pc := 102) (As := [.int a1, .int a2]) (rest := [.ref (E.2.1 28), .int w5, .ref (E.2.1 33)]) hC (c_X1_lagOf l E a1 a2 σ10 v12 hc) mi_X1_lagOf mv_X1_lagOf ob_11 rfl rfl lk_X6_74 rfl rfl (Nat.le_of_ble_eq_true rfl) ⟨by decide, by decide⟩ hab dX6_findWays_102 ?_
            refine g_aload_n (pc := 105) hC dX6_findWays_105 rfl ?_
            refine fg_X6_34_27 (pc := 106) hC dX6_findWays_106 ?_
            refine g_iload_n (pc := 109) hC dX6_findWays_109 rfl ?_
            refine g_iconst (pc := 110) hC ki_1 dX6_findWays_110 ?_
            refine g_iadd (pc := 111) hC dX6_findWays_111 ?_
            refine g_iload (pc := 112) hC dX6_findWays_112 rfl ?_
            obtain ⟨v13, hc, h⟩ := cp_e h
            refine g_callVi (pc := 114) (As := [.int (a1 + 1), .int w5]) (rest := [.int v12, .ref (E.2.1 28), .int w5, .ref (E.2.1 33)]) hC (c_X1_lagOf l E (a1 + 1) w5 σ10 v13 hc) mi_X1_lagOf mv_X1_lagOf ob_11 rfl rfl lk_X6_74 rfl rfl (Nat.le_of_ble_eq_true rfl) ⟨by decide, by decide⟩ hab dX6_findWays_114 ?_
            obtain ⟨v14, hc, h⟩ := cp_e h
            refine g_callVi (pc := 117) (As := [.int v12, .int v13]) (rest := [.int w5, .ref (E.2.1 33)]) hC (c_X9_price_28 l E v12 v13 σ10 v14 hc) mi_X9_price mv_X9_price ob_28 rfl rfl lk_X6_77 rfl rfl (Nat.le_of_ble_eq_true rfl) ⟨by decide, by decide⟩ hab dX6_findWays_117 ?_
            exact hJ120 v14 h
          · replace h := it_f c11 h
            refine g_iconst (pc := 88) hC ki_0 dX6_findWays_88 ?_
            refine g_goto (tgt := 120) (pc := 89) hC dX6_findWays_89 (by decide) ?_
            exact hJ120 0 h
    obtain ⟨z1, hz1, h⟩ := lp_e h
    refine hL1 FU 0 σ z1 hz1 (fun σ7 ez => ?_)
    replace h : C_X6_findWays_7 a1 a2 v1 v2 σ7 = some σr := by rw [ez] at h; exact h
    delta C_X6_findWays_7 at h
    refine g_iconst (pc := 127) hC ki_0 dX6_findWays_127 ?_
    refine g_istore (lv2 := [some (.ref (E.2.1 27)), some (.int a1), some (.int a2), some (.int v1), some (.int v2), some (.int 0), none]) (pc := 128) hC dX6_findWays_128 rfl (Or.inr rfl) (hN _ (by decide)) ?_
    refine g_aload_n (pc := 130) hC dX6_findWays_130 rfl ?_
    refine g_iload_n (pc := 131) hC dX6_findWays_131 rfl ?_
    refine g_iconst (pc := 132) hC ki_1 dX6_findWays_132 ?_
    refine g_iadd (pc := 133) hC dX6_findWays_133 ?_
    obtain ⟨v18, hc, h⟩ := cp_e h
    refine g_callVi (pc := 134) (As := [.int (a1 + 1)]) (rest := []) hC (c_X6_cheapestNext l E (a1 + 1) σ7 v18 hc) mi_X6_cheapestNext mv_X6_cheapestNext ob_27 rfl rfl lk_X6_80 rfl rfl (Nat.le_of_ble_eq_true rfl) ⟨by decide, by decide⟩ hab dX6_findWays_134 ?_
    refine g_istore (lv2 := [some (.ref (E.2.1 27)), some (.int a1), some (.int a2), some (.int v1), some (.int v2), some (.int 0), some (.int v18)]) (pc := 137) hC dX6_findWays_137 rfl (Or.inr rfl) (hN _ (by decide)) ?_
    have hL4 : ∀ (n : Nat) (w19 : Int32) (w20 : Int32) (σ21 : uS) (z4 : Int32 × uS), iter n (fun z => B_X6_findWays_5 a1 v1 v2 z.1 z.2.1 z.2.2) (w19, w20, σ21) = some z4 → (∀ (v22 : Int32) (σ23 : uS), z4 = (v22, σ23) → Gd l E K 0 0 o σ23 242 [some (.ref (E.2.1 27)), some (.int a1), some (.int a2), none, none, some (.int v22), none] []) → Gd l E K 0 0 o σ21 139 [some (.ref (E.2.1 27)), some (.int a1), some (.int a2), some (.int v1), some (.int v2), some (.int w19), some (.int w20)] [] := by
      intro n
      induction n with
      | zero =>
        intro w19 w20 σ21 z4 hi
        exact (iter_0 hi).elim
      | succ n ih4 =>
        intro w19 w20 σ21 z4 hi4 kx4
        obtain ⟨r4, h, hi4⟩ := iter_s hi4
        replace h : B_X6_findWays_5 a1 v1 v2 w19 w20 σ21 = some r4 := h
        delta B_X6_findWays_5 at h
        refine g_iload (pc := 139) hC dX6_findWays_139 rfl ?_
        refine g_bipush (pc := 141) hC kb_8 dX6_findWays_141 ?_
        refine g_icmp_ge (tgt := 242) (pc := 143) hC dX6_findWays_143 (by decide) (fun c24 => ?_) (fun c24 => ?_)
        · replace h := it_t c24 h
          refine g_mask [true, true, true, false, false, true, false] rfl ?_
          exact kx4 w19 σ21 (iter_r h hi4)
        · replace h := it_f c24 h
          refine g_iload (pc := 146) hC dX6_findWays_146 rfl ?_
          refine g_iconst (pc := 148) hC ki_m1 dX6_findWays_148 ?_
          refine g_icmp_eq (tgt := 242) (pc := 149) hC dX6_findWays_149 (by decide) (fun c25 => ?_) (fun c25 => ?_)
          · replace h := it_t c25 h
            refine g_mask [true, true, true, false, false, true, false] rfl ?_
            exact kx4 w19 σ21 (iter_r h hi4)
          · replace h := it_f c25 h
            refine g_aload_n (pc := 152) hC dX6_findWays_152 rfl ?_
            refine fg_X6_18_27 (pc := 153) hC dX6_findWays_153 ?_
            refine g_iload (pc := 156) hC dX6_findWays_156 rfl ?_
            refine g_iload (pc := 158) hC dX6_findWays_158 rfl ?_
            refine g_iadd (pc := 160) hC dX6_findWays_160 ?_
            refine g_iload_n (pc := 161) hC dX6_findWays_161 rfl ?_
            refine g_aload_n (pc := 162) hC dX6_findWays_162 rfl ?_
            refine fg_X6_31_27 (pc := 163) hC dX6_findWays_163 ?_
            refine g_iload (pc := 166) hC dX6_findWays_166 rfl ?_
            obtain ⟨v26, ev26, nv26, h⟩ := rd_e h
            refine g_iald (pc := 168) hC 33 (by decide) (ar_33 _ _ _) nv26 dX6_findWays_168 ?_
            refine g_top ev26 ?_
            refine g_iadd (pc := 169) hC dX6_findWays_169 ?_
            refine g_aload_n (pc := 170) hC dX6_findWays_170 rfl ?_
            refine fg_X6_18_27 (pc := 171) hC dX6_findWays_171 ?_
            refine g_iload_n (pc := 174) hC dX6_findWays_174 rfl ?_
            refine g_iconst (pc := 175) hC ki_1 dX6_findWays_175 ?_
            refine g_iadd (pc := 176) hC dX6_findWays_176 ?_
            refine g_iload (pc := 177) hC dX6_findWays_177 rfl ?_
            obtain ⟨v27, hc, h⟩ := cp_e h
            refine g_callSi (pc := 179) (As := [.int (a1 + 1), .int w20]) (rest := [.ref (E.2.1 29), .int (v1 + v26), .int (v2 + w19), .ref (E.2.1 29)]) hC (c_X6_place l E (a1 + 1) w20 σ21 v27 hc) mi_X6_place ms_X6_place lk_X6_64 rfl rfl (Nat.le_of_ble_eq_true rfl) ⟨by decide, by decide⟩ hab dX6_findWays_179 ?_
            refine g_aload_n (pc := 182) hC dX6_findWays_182 rfl ?_
            refine fg_X6_28_27 (pc := 183) hC dX6_findWays_183 ?_
            refine g_iload (pc := 186) hC dX6_findWays_186 rfl ?_
            obtain ⟨v28, ev28, nv28, h⟩ := rd_e h
            refine g_iald (pc := 188) hC 32 (by decide) (ar_32 _ _ _) nv28 dX6_findWays_188 ?_
            refine g_top ev28 ?_
            refine g_iadd (pc := 189) hC dX6_findWays_189 ?_
            obtain ⟨v29, ev29, nv29, h⟩ := rd_e h
            refine g_iald (pc := 190) hC 29 (by decide) (ar_29 _ _ _) nv29 dX6_findWays_190 ?_
            refine g_top ev29 ?_
            refine g_iadd (pc := 191) hC dX6_findWays_191 ?_
            obtain ⟨σ30, eσ30, nσ30, h⟩ := wr_e h
            refine g_iast (pc := 192) hC 29 (by decide) (ar_29 _ _) nσ30 dX6_findWays_192 eσ30 ?_
            refine g_aload_n (pc := 193) hC dX6_findWays_193 rfl ?_
            refine fg_X6_22_27 (pc := 194) hC dX6_findWays_194 ?_
            refine g_iload (pc := 197) hC dX6_findWays_197 rfl ?_
            refine g_iload (pc := 199) hC dX6_findWays_199 rfl ?_
            refine g_iadd (pc := 201) hC dX6_findWays_201 ?_
            refine g_iload (pc := 202) hC dX6_findWays_202 rfl ?_
            refine g_bipush (pc := 204) hC kb_8 dX6_findWays_204 ?_
            refine g_imul (pc := 206) hC dX6_findWays_206 ?_
            refine g_aload_n (pc := 207) hC dX6_findWays_207 rfl ?_
            refine fg_X6_28_27 (pc := 208) hC dX6_findWays_208 ?_
            refine g_iload (pc := 211) hC dX6_findWays_211 rfl ?_
            obtain ⟨v31, ev31, nv31, h⟩ := rd_e h
            refine g_iald (pc := 213) hC 32 (by decide) (ar_32 _ _ _) nv31 dX6_findWays_213 ?_
            refine g_top ev31 ?_
            refine g_iadd (pc := 214) hC dX6_findWays_214 ?_
            obtain ⟨σ32, eσ32, nσ32, h⟩ := wr_e h
            refine g_iast (pc := 215) hC 30 (by decide) (ar_30 _ _) nσ32 dX6_findWays_215 eσ32 ?_
            refine g_aload_n (pc := 216) hC dX6_findWays_216 rfl ?_
            refine fg_X6_28_27 (pc := 217) hC dX6_findWays_217 ?_
            refine g_iload (pc := 220) hC dX6_findWays_220 rfl ?_
            refine g_dup2 (pc := 222) hC rfl rfl dX6_findWays_222 ?_
            obtain ⟨v33, ev33, nv33, h⟩ := rd_e h
            refine g_iald (pc := 223) hC 32 (by decide) (ar_32 _ _ _) nv33 dX6_findWays_223 ?_
            refine g_top ev33 ?_
            refine g_iconst (pc := 224) hC ki_1 dX6_findWays_224 ?_
            refine g_iadd (pc := 225) hC dX6_findWays_225 ?_
            obtain ⟨σ34, eσ34, nσ34, h⟩ := wr_e h
            refine g_iast (pc := 226) hC 32 (by decide) (ar_32 _ _) nσ34 dX6_findWays_226 eσ34 ?_
            obtain ⟨v35, ev35, h⟩ := lt_e h
            refine g_iinc (v := v35) (lv2 := [some (.ref (E.2.1 27)), some (.int a1), some (.int a2), some (.int v1), some (.int v2), some (.int v35), some (.int w20)]) (pc := 227) hC dX6_findWays_227 rfl ev35 rfl (Or.inr rfl) (hN _ (by decide)) ?_
            refine g_aload_n (pc := 230) hC dX6_findWays_230 rfl ?_
            refine g_iload_n (pc := 231) hC dX6_findWays_231 rfl ?_
            refine g_iconst (pc := 232) hC ki_1 dX6_findWays_232 ?_
            refine g_iadd (pc := 233) hC dX6_findWays_233 ?_
            obtain ⟨v36, hc, h⟩ := cp_e h
            refine g_callVi (pc := 234) (As := [.int (a1 + 1)]) (rest := []) hC (c_X6_cheapestNext l E (a1 + 1) σ34 v36 hc) mi_X6_cheapestNext mv_X6_cheapestNext ob_27 rfl rfl lk_X6_80 rfl rfl (Nat.le_of_ble_eq_true rfl) ⟨by decide, by decide⟩ hab dX6_findWays_234 ?_
            refine g_istore (lv2 := [some (.ref (E.2.1 27)), some (.int a1), some (.int a2), some (.int v1), some (.int v2), some (.int v35), some (.int v36)]) (pc := 237) hC dX6_findWays_237 rfl (Or.inr rfl) (hN _ (by decide)) ?_
            refine g_goto (tgt := 139) (pc := 239) hC dX6_findWays_239 (by decide) ?_
            exact ih4 v35 v36 σ34 z4 (iter_l h hi4) kx4
    obtain ⟨z4, hz4, h⟩ := lp_e h
    refine hL4 FU 0 v18 σ7 z4 hz4 (fun v22 σ23 ez => ?_)
    replace h : C_X6_findWays_6 a1 a2 v22 σ23 = some σr := by rw [ez] at h; exact h
    delta C_X6_findWays_6 at h
    refine g_aload_n (pc := 242) hC dX6_findWays_242 rfl ?_
    refine fg_X6_25_27 (pc := 243) hC dX6_findWays_243 ?_
    refine g_iload_n (pc := 246) hC dX6_findWays_246 rfl ?_
    refine g_iconst (pc := 247) hC ki_1 dX6_findWays_247 ?_
    refine g_iadd (pc := 248) hC dX6_findWays_248 ?_
    refine g_iload_n (pc := 249) hC dX6_findWays_249 rfl ?_
    obtain ⟨v37, hc, h⟩ := cp_e h
    refine g_callNi (pc := 250) (As := [.int (a1 + 1), .int a2]) (rest := [.ref (E.2.1 31)]) hC (c_X11_cell l E (a1 + 1) a2 σ23 v37 hc) mi_X11_cell ms_X11_cell lk_X6_68 rfl rfl (Nat.le_of_ble_eq_true rfl) ⟨by decide, by decide⟩ hab dX6_findWays_250 ?_
    refine g_iload (pc := 253) hC dX6_findWays_253 rfl ?_
    obtain ⟨σ38, eσ38, nσ38, h⟩ := wr_e h
    refine g_iast (pc := 255) hC 31 (by decide) (ar_31 _ _) nσ38 dX6_findWays_255 eσ38 ?_
    exact g_retv (pc := 256) hC h hR dX6_findWays_256
  · replace h := it_f c4 h
    refine g_aload_n (pc := 30) hC dX6_findWays_30 rfl ?_
    refine fg_X6_18_27 (pc := 31) hC dX6_findWays_31 ?_
    refine g_iload (pc := 34) hC dX6_findWays_34 rfl ?_
    refine g_iload_n (pc := 36) hC dX6_findWays_36 rfl ?_
    obtain ⟨σ39, eσ39, nσ39, h⟩ := wr_e h
    refine g_iast (pc := 37) hC 29 (by decide) (ar_29 _ _) nσ39 dX6_findWays_37 eσ39 ?_
    refine g_aload_n (pc := 38) hC dX6_findWays_38 rfl ?_
    refine fg_X6_25_27 (pc := 39) hC dX6_findWays_39 ?_
    refine g_iload_n (pc := 42) hC dX6_findWays_42 rfl ?_
    refine g_iconst (pc := 43) hC ki_1 dX6_findWays_43 ?_
    refine g_iadd (pc := 44) hC dX6_findWays_44 ?_
    refine g_iload_n (pc := 45) hC dX6_findWays_45 rfl ?_
    obtain ⟨v40, hc, h⟩ := cp_e h
    refine g_callNi (pc := 46) (As := [.int (a1 + 1), .int a2]) (rest := [.ref (E.2.1 31)]) hC (c_X11_cell l E (a1 + 1) a2 σ39 v40 hc) mi_X11_cell ms_X11_cell lk_X6_68 rfl rfl (Nat.le_of_ble_eq_true rfl) ⟨by decide, by decide⟩ hab dX6_findWays_46 ?_
    refine g_iconst (pc := 49) hC ki_1 dX6_findWays_49 ?_
    obtain ⟨σ41, eσ41, nσ41, h⟩ := wr_e h
    refine g_iast (pc := 50) hC 31 (by decide) (ar_31 _ _) nσ41 dX6_findWays_50 eσ41 ?_
    exact g_retv (pc := 51) hC h hR dX6_findWays_51
set_option maxRecDepth 20000 in
theorem c_X6_find (l : Launch) (E : uE) (σ : uS) (σr : uS) (h : F_X6_find σ = some σr) : CtV l E yX6_find cX6_find 3 4 93 [.ref (E.2.1 27)] σ σr := by
  refine enterV 2 [some (.ref (E.2.1 27)), none, none] (by decide +kernel) rfl (Nat.le_of_ble_eq_true rfl) (fun o K hnL hC hab hR => ?_)
  have hC : Cx E K RX6 cX6_find none 4 93 := hC
  have hN : ∀ k, k < 3 → k < K.2.2.2.2.2 := fun k hk => hnL ▸ hk
  delta F_X6_find at h
  refine g_aload_n (pc := 0) hC dX6_find_0 rfl ?_
  refine fg_X6_12_27 (pc := 1) hC dX6_find_1 ?_
  refine g_aload_n (pc := 4) hC dX6_find_4 rfl ?_
  refine fg_X6_38_27 (pc := 5) hC dX6_find_5 ?_
  obtain ⟨σ1, hc, h⟩ := cp_e h
  refine g_callVv (pc := 8) (As := [.ref (E.2.1 4)]) (rest := []) hC (c_X9_setBy_28_4 l E σ σ1 hc) mi_X9_setBy mv_X9_setBy ob_28 rfl rfl lk_X6_42 rfl rfl (Nat.le_of_ble_eq_true rfl) ⟨by decide, by decide⟩ hab dX6_find_8 ?_
  refine g_aload_n (pc := 11) hC dX6_find_11 rfl ?_
  refine fg_X6_34_27 (pc := 12) hC dX6_find_12 ?_
  obtain ⟨v2, hc, h⟩ := cp_e h
  refine g_callVi (pc := 15) (As := []) (rest := []) hC (c_X1_frameCount l E σ1 v2 hc) mi_X1_frameCount mv_X1_frameCount ob_11 rfl rfl lk_X6_46 rfl rfl (Nat.le_of_ble_eq_true rfl) ⟨by decide, by decide⟩ hab dX6_find_15 ?_
  refine g_iconst (pc := 18) hC ki_1 dX6_find_18 ?_
  refine g_isub (pc := 19) hC dX6_find_19 ?_
  obtain ⟨v3, ev3, h⟩ := lt_e h
  refine g_top ev3 ?_
  refine g_istore_n (lv2 := [some (.ref (E.2.1 27)), some (.int v3), none]) (pc := 20) hC dX6_find_20 rfl (Or.inr rfl) (hN _ (by decide)) ?_
  have hL1 : ∀ (n : Nat) (w4 : Int32) (σ5 : uS) (z1 : uS), iter n (fun z => B_X6_find_5 z.1 z.2) (w4, σ5) = some z1 → (∀ (σ6 : uS), z1 = σ6 → Gd l E K 0 0 o σ6 57 [some (.ref (E.2.1 27)), none, none] []) → Gd l E K 0 0 o σ5 21 [some (.ref (E.2.1 27)), some (.int w4), none] [] := by
    intro n
    induction n with
    | zero =>
      intro w4 σ5 z1 hi
      exact (iter_0 hi).elim
    | succ n ih1 =>
      intro w4 σ5 z1 hi1 kx1
      obtain ⟨r1, h, hi1⟩ := iter_s hi1
      replace h : B_X6_find_5 w4 σ5 = some r1 := h
      delta B_X6_find_5 at h
      refine g_iload_n (pc := 21) hC dX6_find_21 rfl ?_
      refine g_if_lt (tgt := 57) (pc := 22) hC dX6_find_22 (by decide) (fun c7 => ?_) (fun c7 => ?_)
      · replace h := it_t c7 h
        refine g_mask [true, false, false] rfl ?_
        exact kx1 σ5 (iter_r h hi1)
      · replace h := it_f c7 h
        refine g_iconst (pc := 25) hC ki_0 dX6_find_25 ?_
        refine g_istore_n (lv2 := [some (.ref (E.2.1 27)), some (.int w4), some (.int 0)]) (pc := 26) hC dX6_find_26 rfl (Or.inr rfl) (hN _ (by decide)) ?_
        have hL2 : ∀ (n : Nat) (w8 : Int32) (σ9 : uS) (z2 : uS), iter n (fun z => B_X6_find_3 w4 z.1 z.2) (w8, σ9) = some z2 → (∀ (σ10 : uS), z2 = σ10 → Gd l E K 0 0 o σ10 51 [some (.ref (E.2.1 27)), some (.int w4), none] []) → Gd l E K 0 0 o σ9 27 [some (.ref (E.2.1 27)), some (.int w4), some (.int w8)] [] := by
          intro n
          induction n with
          | zero =>
            intro w8 σ9 z2 hi
            exact (iter_0 hi).elim
          | succ n ih2 =>
            intro w8 σ9 z2 hi2 kx2
            obtain ⟨r2, h, hi2⟩ := iter_s hi2
            replace h : B_X6_find_3 w4 w8 σ9 = some r2 := h
            delta B_X6_find_3 at h
            refine g_iload_n (pc := 27) hC dX6_find_27 rfl ?_
            refine g_aload_n (pc := 28) hC dX6_find_28 rfl ?_
            refine fg_X6_34_27 (pc := 29) hC dX6_find_29 ?_
            refine g_iload_n (pc := 32) hC dX6_find_32 rfl ?_
            obtain ⟨v11, hc, h⟩ := cp_e h
            refine g_callVi (pc := 33) (As := [.int w4]) (rest := [.int w8]) hC (c_X1_sizeOf l E w4 σ9 v11 hc) mi_X1_sizeOf mv_X1_sizeOf ob_11 rfl rfl lk_X6_52 rfl rfl (Nat.le_of_ble_eq_true rfl) ⟨by decide, by decide⟩ hab dX6_find_33 ?_
            refine g_icmp_ge (tgt := 51) (pc := 36) hC dX6_find_36 (by decide) (fun c12 => ?_) (fun c12 => ?_)
            · replace h := it_t c12 h
              refine g_mask [true, true, false] rfl ?_
              exact kx2 σ9 (iter_r h hi2)
            · replace h := it_f c12 h
              refine g_aload_n (pc := 39) hC dX6_find_39 rfl ?_
              refine g_iload_n (pc := 40) hC dX6_find_40 rfl ?_
              refine g_iload_n (pc := 41) hC dX6_find_41 rfl ?_
              obtain ⟨σ13, hc, h⟩ := cp_e h
              refine g_callVv (pc := 42) (As := [.int w4, .int w8]) (rest := []) hC (c_X6_findWays l E w4 w8 σ9 σ13 hc) mi_X6_findWays mv_X6_findWays ob_27 rfl rfl lk_X6_56 rfl rfl (Nat.le_of_ble_eq_true rfl) ⟨by decide, by decide⟩ hab dX6_find_42 ?_
              obtain ⟨v14, ev14, h⟩ := lt_e h
              refine g_iinc (v := v14) (lv2 := [some (.ref (E.2.1 27)), some (.int w4), some (.int v14)]) (pc := 45) hC dX6_find_45 rfl ev14 rfl (Or.inr rfl) (hN _ (by decide)) ?_
              refine g_goto (tgt := 27) (pc := 48) hC dX6_find_48 (by decide) ?_
              exact ih2 v14 σ13 z2 (iter_l h hi2) kx2
        obtain ⟨z2, hz2, h⟩ := lp_e h
        refine hL2 FU 0 σ5 z2 hz2 (fun σ10 ez => ?_)
        replace h : C_X6_find_4 w4 σ10 = some r1 := by rw [ez] at h; exact h
        delta C_X6_find_4 at h
        obtain ⟨v15, ev15, h⟩ := lt_e h
        refine g_iinc (v := v15) (lv2 := [some (.ref (E.2.1 27)), some (.int v15), none]) (pc := 51) hC dX6_find_51 rfl ev15 rfl (Or.inr rfl) (hN _ (by decide)) ?_
        refine g_goto (tgt := 21) (pc := 54) hC dX6_find_54 (by decide) ?_
        exact ih1 v15 σ10 z1 (iter_l h hi1) kx1
  obtain ⟨z1, hz1, h⟩ := lp_e h
  refine hL1 FU v3 σ1 z1 hz1 (fun σ6 ez => ?_)
  replace h : C_X6_find_6 σ6 = some σr := by rw [ez] at h; exact h
  delta C_X6_find_6 at h
  refine g_aload_n (pc := 57) hC dX6_find_57 rfl ?_
  refine g_iconst (pc := 58) hC ki_m1 dX6_find_58 ?_
  refine g_iconst (pc := 59) hC ki_0 dX6_find_59 ?_
  obtain ⟨σ16, hc, h⟩ := cp_e h
  refine g_callVv (pc := 60) (As := [.int (-1), .int 0]) (rest := []) hC (c_X6_findWays l E (-1) 0 σ6 σ16 hc) mi_X6_findWays mv_X6_findWays ob_27 rfl rfl lk_X6_56 rfl rfl (Nat.le_of_ble_eq_true rfl) ⟨by decide, by decide⟩ hab dX6_find_60 ?_
  exact g_retv (pc := 63) hC h hR dX6_find_63
set_option maxRecDepth 20000 in
theorem c_X6_priceOf (l : Launch) (E : uE) (a1 : Int32) (σ : uS) (r : Int32) (h : F_X6_priceOf a1 σ = some r) : CtI l E yX6_priceOf cX6_priceOf 2 (some .int) 0 0 [.ref (E.2.1 27), .int a1] σ r σ := by
  refine enterI 0 [some (.ref (E.2.1 27)), some (.int a1)] (by decide +kernel) rfl (Nat.le_of_ble_eq_true rfl) (fun o K hnL hC hab hR => ?_)
  have hC : Cx E K RX6 cX6_priceOf (some .int) 0 0 := hC
  have hN : ∀ k, k < 2 → k < K.2.2.2.2.2 := fun k hk => hnL ▸ hk
  delta F_X6_priceOf at h
  refine g_iload_n (pc := 0) hC dX6_priceOf_0 rfl ?_
  have hJ30 : ∀ (v6 : Int32), J_X6_priceOf_2 v6 = some r → Gd l E K 0 0 o σ 30 [none, none] [.int v6] := by
    intro v6 h
    delta J_X6_priceOf_2 at h
    exact g_retp (pc := 30) hC h hR dX6_priceOf_30
  have hJ20 : J_X6_priceOf_1 = some r → Gd l E K 0 0 o σ 20 [none, none] [] := by
    intro h
    delta J_X6_priceOf_1 at h
    refine g_iconst (pc := 20) hC ki_m1 dX6_priceOf_20 ?_
    refine g_goto (tgt := 30) (pc := 21) hC dX6_priceOf_21 (by decide) ?_
    exact hJ30 (-1) h
  refine g_if_lt (tgt := 20) (pc := 1) hC dX6_priceOf_1 (by decide) (fun c1 => ?_) (fun c1 => ?_)
  · replace h := it_t c1 h
    refine g_mask [false, false] rfl ?_
    exact hJ20 h
  · replace h := it_f c1 h
    refine g_iload_n (pc := 4) hC dX6_priceOf_4 rfl ?_
    refine g_aload_n (pc := 5) hC dX6_priceOf_5 rfl ?_
    refine fg_X6_25_27 (pc := 6) hC dX6_priceOf_6 ?_
    refine g_iconst (pc := 9) hC ki_0 dX6_priceOf_9 ?_
    obtain ⟨v2, ev2, nv2, h⟩ := rd_e h
    refine g_iald (pc := 10) hC 31 (by decide) (ar_31 _ _ _) nv2 dX6_priceOf_10 ?_
    refine g_top ev2 ?_
    refine g_icmp_ge (tgt := 20) (pc := 11) hC dX6_priceOf_11 (by decide) (fun c3 => ?_) (fun c3 => ?_)
    · replace h := it_t c3 h
      refine g_mask [false, false] rfl ?_
      exact hJ20 h
    · replace h := it_f c3 h
      refine g_iload_n (pc := 14) hC dX6_priceOf_14 rfl ?_
      refine g_bipush (pc := 15) hC kb_8 dX6_priceOf_15 ?_
      refine g_icmp_lt (tgt := 24) (pc := 17) hC dX6_priceOf_17 (by decide) (fun c4 => ?_) (fun c4 => ?_)
      · replace h := it_t c4 h
        refine g_aload_n (pc := 24) hC dX6_priceOf_24 rfl ?_
        refine fg_X6_18_27 (pc := 25) hC dX6_priceOf_25 ?_
        refine g_iload_n (pc := 28) hC dX6_priceOf_28 rfl ?_
        obtain ⟨v5, ev5, nv5, h⟩ := rd_e h
        refine g_iald (pc := 29) hC 29 (by decide) (ar_29 _ _ _) nv5 dX6_priceOf_29 ?_
        refine g_top ev5 ?_
        refine g_mask [false, false] rfl ?_
        exact hJ30 v5 h
      · replace h := it_f c4 h
        refine g_mask [false, false] rfl ?_
        exact hJ20 h
set_option maxRecDepth 20000 in
theorem c_X6_chosenIn (l : Launch) (E : uE) (a1 : Int32) (a2 : Int32) (σ : uS) (r : Int32) (h : F_X6_chosenIn a1 a2 σ = some r) : CtI l E yX6_chosenIn cX6_chosenIn 5 (some .int) 2 42 [.ref (E.2.1 27), .int a1, .int a2] σ r σ := by
  refine enterI 2 [some (.ref (E.2.1 27)), some (.int a1), some (.int a2), none, none] (by decide +kernel) rfl (Nat.le_of_ble_eq_true rfl) (fun o K hnL hC hab hR => ?_)
  have hC : Cx E K RX6 cX6_chosenIn (some .int) 2 42 := hC
  have hN : ∀ k, k < 5 → k < K.2.2.2.2.2 := fun k hk => hnL ▸ hk
  delta F_X6_chosenIn at h
  refine g_iload_n (pc := 0) hC dX6_chosenIn_0 rfl ?_
  have hJ35 : J_X6_chosenIn_5 = some r → Gd l E K 0 0 o σ 35 [none, none, none, none, none] [] := by
    intro h
    delta J_X6_chosenIn_5 at h
    refine g_iconst (pc := 35) hC ki_m1 dX6_chosenIn_35 ?_
    exact g_retp (pc := 36) hC h hR dX6_chosenIn_36
  refine g_if_lt (tgt := 35) (pc := 1) hC dX6_chosenIn_1 (by decide) (fun c1 => ?_) (fun c1 => ?_)
  · replace h := it_t c1 h
    refine g_mask [false, false, false, false, false] rfl ?_
    exact hJ35 h
  · replace h := it_f c1 h
    refine g_iload_n (pc := 4) hC dX6_chosenIn_4 rfl ?_
    refine g_aload_n (pc := 5) hC dX6_chosenIn_5 rfl ?_
    refine fg_X6_25_27 (pc := 6) hC dX6_chosenIn_6 ?_
    refine g_iconst (pc := 9) hC ki_0 dX6_chosenIn_9 ?_
    obtain ⟨v2, ev2, nv2, h⟩ := rd_e h
    refine g_iald (pc := 10) hC 31 (by decide) (ar_31 _ _ _) nv2 dX6_chosenIn_10 ?_
    refine g_top ev2 ?_
    refine g_icmp_ge (tgt := 35) (pc := 11) hC dX6_chosenIn_11 (by decide) (fun c3 => ?_) (fun c3 => ?_)
    · replace h := it_t c3 h
      refine g_mask [false, false, false, false, false] rfl ?_
      exact hJ35 h
    · replace h := it_f c3 h
      refine g_iload_n (pc := 14) hC dX6_chosenIn_14 rfl ?_
      refine g_bipush (pc := 15) hC kb_8 dX6_chosenIn_15 ?_
      refine g_icmp_ge (tgt := 35) (pc := 17) hC dX6_chosenIn_17 (by decide) (fun c4 => ?_) (fun c4 => ?_)
      · replace h := it_t c4 h
        refine g_mask [false, false, false, false, false] rfl ?_
        exact hJ35 h
      · replace h := it_f c4 h
        refine g_iload_n (pc := 20) hC dX6_chosenIn_20 rfl ?_
        refine g_if_lt (tgt := 35) (pc := 21) hC dX6_chosenIn_21 (by decide) (fun c5 => ?_) (fun c5 => ?_)
        · replace h := it_t c5 h
          refine g_mask [false, false, false, false, false] rfl ?_
          exact hJ35 h
        · replace h := it_f c5 h
          refine g_iload_n (pc := 24) hC dX6_chosenIn_24 rfl ?_
          refine g_aload_n (pc := 25) hC dX6_chosenIn_25 rfl ?_
          refine fg_X6_34_27 (pc := 26) hC dX6_chosenIn_26 ?_
          obtain ⟨v6, hc, h⟩ := cp_e h
          refine g_callVi (pc := 29) (As := []) (rest := [.int a2]) hC (c_X1_frameCount l E σ v6 hc) mi_X1_frameCount mv_X1_frameCount ob_11 rfl rfl lk_X6_46 rfl rfl (Nat.le_of_ble_eq_true rfl) ⟨by decide, by decide⟩ hab dX6_chosenIn_29 ?_
          refine g_icmp_lt (tgt := 37) (pc := 32) hC dX6_chosenIn_32 (by decide) (fun c7 => ?_) (fun c7 => ?_)
          · replace h := it_t c7 h
            refine g_aload_n (pc := 37) hC dX6_chosenIn_37 rfl ?_
            refine fg_X6_22_27 (pc := 38) hC dX6_chosenIn_38 ?_
            refine g_iload_n (pc := 41) hC dX6_chosenIn_41 rfl ?_
            obtain ⟨v8, ev8, nv8, h⟩ := rd_e h
            refine g_iald (pc := 42) hC 30 (by decide) (ar_30 _ _ _) nv8 dX6_chosenIn_42 ?_
            refine g_top ev8 ?_
            refine g_istore_n (lv2 := [some (.ref (E.2.1 27)), some (.int a1), some (.int a2), some (.int v8), none]) (pc := 43) hC dX6_chosenIn_43 rfl (Or.inr rfl) (hN _ (by decide)) ?_
            refine g_iconst (pc := 44) hC ki_0 dX6_chosenIn_44 ?_
            refine g_istore (lv2 := [some (.ref (E.2.1 27)), some (.int a1), some (.int a2), some (.int v8), some (.int 0)]) (pc := 45) hC dX6_chosenIn_45 rfl (Or.inr rfl) (hN _ (by decide)) ?_
            have hL1 : ∀ (n : Nat) (w9 : Int32) (w10 : Int32) (z1 : (Int32) ⊕ (Int32)), iter n (fun z => B_X6_chosenIn_3 a2 σ z.1 z.2) (w9, w10) = some z1 → (∀ (v11 : Int32), z1 = .inl v11 → Gd l E K 0 0 o σ 101 [none, none, none, some (.int v11), none] []) → (∀ q, z1 = .inr q → some q = some r) → Gd l E K 0 0 o σ 47 [some (.ref (E.2.1 27)), none, some (.int a2), some (.int w9), some (.int w10)] [] := by
              intro n
              induction n with
              | zero =>
                intro w9 w10 z1 hi
                exact (iter_0 hi).elim
              | succ n ih1 =>
                intro w9 w10 z1 hi1 kx1 kr1
                obtain ⟨r1, h, hi1⟩ := iter_s hi1
                replace h : B_X6_chosenIn_3 a2 σ w9 w10 = some r1 := h
                delta B_X6_chosenIn_3 at h
                refine g_iload (pc := 47) hC dX6_chosenIn_47 rfl ?_
                refine g_iload_n (pc := 49) hC dX6_chosenIn_49 rfl ?_
                refine g_icmp_ge (tgt := 101) (pc := 50) hC dX6_chosenIn_50 (by decide) (fun c12 => ?_) (fun c12 => ?_)
                · replace h := it_t c12 h
                  refine g_mask [false, false, false, true, false] rfl ?_
                  exact kx1 w9 (iter_r h hi1)
                · replace h := it_f c12 h
                  refine g_iload_n (pc := 53) hC dX6_chosenIn_53 rfl ?_
                  have hJ73 : J_X6_chosenIn_2 = some r1 → Gd l E K 0 0 o σ 73 [none, none, none, none, none] [] := by
                    intro h
                    delta J_X6_chosenIn_2 at h
                    refine g_iconst (pc := 73) hC ki_m1 dX6_chosenIn_73 ?_
                    exact g_retp (pc := 74) hC (kr1 _ (iter_r h hi1)) hR dX6_chosenIn_74
                  refine g_if_lt (tgt := 73) (pc := 54) hC dX6_chosenIn_54 (by decide) (fun c13 => ?_) (fun c13 => ?_)
                  · replace h := it_t c13 h
                    refine g_mask [false, false, false, false, false] rfl ?_
                    exact hJ73 h
                  · replace h := it_f c13 h
                    refine g_aload_n (pc := 57) hC dX6_chosenIn_57 rfl ?_
                    refine fg_X6_34_27 (pc := 58) hC dX6_chosenIn_58 ?_
                    refine g_iload (pc := 61) hC dX6_chosenIn_61 rfl ?_
                    refine g_iload_n (pc := 63) hC dX6_chosenIn_63 rfl ?_
                    refine g_bipush (pc := 64) hC kb_8 dX6_chosenIn_64 ?_
                    obtain ⟨v14, ev14, nv14, h⟩ := dv_e h
                    refine g_idiv (pc := 66) hC nv14 dX6_chosenIn_66 ?_
                    refine g_top ev14 ?_
                    obtain ⟨v15, hc, h⟩ := cp_e h
                    refine g_callVi (pc := 67) (As := [.int w10, .int v14]) (rest := []) hC (c_X1_has l E w10 v14 σ v15 hc) mi_X1_has mv_X1_has ob_11 rfl rfl lk_X6_60 rfl rfl (Nat.le_of_ble_eq_true rfl) ⟨by decide, by decide⟩ hab dX6_chosenIn_67 ?_
                    refine g_if_ne (tgt := 75) (pc := 70) hC dX6_chosenIn_70 (by decide) (fun c16 => ?_) (fun c16 => ?_)
                    · replace h := it_f c16 h
                      refine g_aload_n (pc := 75) hC dX6_chosenIn_75 rfl ?_
                      refine fg_X6_22_27 (pc := 76) hC dX6_chosenIn_76 ?_
                      refine g_iload (pc := 79) hC dX6_chosenIn_79 rfl ?_
                      refine g_iload_n (pc := 81) hC dX6_chosenIn_81 rfl ?_
                      refine g_bipush (pc := 82) hC kb_8 dX6_chosenIn_82 ?_
                      obtain ⟨v17, ev17, nv17, h⟩ := dv_e h
                      refine g_idiv (pc := 84) hC nv17 dX6_chosenIn_84 ?_
                      refine g_top ev17 ?_
                      obtain ⟨v18, hc, h⟩ := cp_e h
                      refine g_callSi (pc := 85) (As := [.int w10, .int v17]) (rest := [.ref (E.2.1 30)]) hC (c_X6_place l E w10 v17 σ v18 hc) mi_X6_place ms_X6_place lk_X6_64 rfl rfl (Nat.le_of_ble_eq_true rfl) ⟨by decide, by decide⟩ hab dX6_chosenIn_85 ?_
                      refine g_iload_n (pc := 88) hC dX6_chosenIn_88 rfl ?_
                      refine g_bipush (pc := 89) hC kb_8 dX6_chosenIn_89 ?_
                      obtain ⟨v19, ev19, nv19, h⟩ := rmd_e h
                      refine g_irem (pc := 91) hC nv19 dX6_chosenIn_91 ?_
                      refine g_top ev19 ?_
                      refine g_iadd (pc := 92) hC dX6_chosenIn_92 ?_
                      obtain ⟨v20, ev20, nv20, h⟩ := rd_e h
                      refine g_iald (pc := 93) hC 30 (by decide) (ar_30 _ _ _) nv20 dX6_chosenIn_93 ?_
                      refine g_top ev20 ?_
                      refine g_istore_n (lv2 := [some (.ref (E.2.1 27)), none, some (.int a2), some (.int v20), some (.int w10)]) (pc := 94) hC dX6_chosenIn_94 rfl (Or.inr rfl) (hN _ (by decide)) ?_
                      obtain ⟨v21, ev21, h⟩ := lt_e h
                      refine g_iinc (v := v21) (lv2 := [some (.ref (E.2.1 27)), none, some (.int a2), some (.int v20), some (.int v21)]) (pc := 95) hC dX6_chosenIn_95 rfl ev21 rfl (Or.inr rfl) (hN _ (by decide)) ?_
                      refine g_goto (tgt := 47) (pc := 98) hC dX6_chosenIn_98 (by decide) ?_
                      exact ih1 v20 v21 z1 (iter_l h hi1) kx1 kr1
                    · replace h := it_t c16 h
                      refine g_mask [false, false, false, false, false] rfl ?_
                      exact hJ73 h
            obtain ⟨z1, hz1, h⟩ := lp_e h
            refine g_mask [true, false, true, true, true] rfl ?_
            refine hL1 FU v8 0 z1 hz1 (fun v11 ez => ?_) (fun q ez => by rw [ez] at h; exact h)
            replace h : C_X6_chosenIn_4 v11 = some r := by rw [ez] at h; exact h
            delta C_X6_chosenIn_4 at h
            refine g_iload_n (pc := 101) hC dX6_chosenIn_101 rfl ?_
            refine g_bipush (pc := 102) hC kb_8 dX6_chosenIn_102 ?_
            obtain ⟨v22, ev22, nv22, h⟩ := dv_e h
            refine g_idiv (pc := 104) hC nv22 dX6_chosenIn_104 ?_
            refine g_top ev22 ?_
            exact g_retp (pc := 105) hC h hR dX6_chosenIn_105
          · replace h := it_f c7 h
            refine g_mask [false, false, false, false, false] rfl ?_
            exact hJ35 h
set_option maxRecDepth 20000 in
theorem c_X8_find (l : Launch) (E : uE) (σ : uS) (σr : uS) (h : F_X8_find σ = some σr) : CtV l E yX8_find cX8_find 2 1 21 [.ref (E.2.1 34)] σ σr := by
  refine enterV 1 [some (.ref (E.2.1 34)), none] (by decide +kernel) rfl (Nat.le_of_ble_eq_true rfl) (fun o K hnL hC hab hR => ?_)
  have hC : Cx E K RX8 cX8_find none 1 21 := hC
  have hN : ∀ k, k < 2 → k < K.2.2.2.2.2 := fun k hk => hnL ▸ hk
  delta F_X8_find at h
  refine g_aload_n (pc := 0) hC dX8_find_0 rfl ?_
  refine g_iconst (pc := 1) hC ki_0 dX8_find_1 ?_
  obtain ⟨σ1, eσ1, h⟩ := pf_e h
  refine fp_X8_33_34 (pc := 2) hC dX8_find_2 eσ1 ?_
  refine g_iconst (pc := 5) hC ki_0 dX8_find_5 ?_
  refine g_istore_n (lv2 := [some (.ref (E.2.1 34)), some (.int 0)]) (pc := 6) hC dX8_find_6 rfl (Or.inr rfl) (hN _ (by decide)) ?_
  have hL1 : ∀ (n : Nat) (w2 : Int32) (σ3 : uS) (z1 : uS), iter n (fun z => B_X8_find_4 z.1 z.2) (w2, σ3) = some z1 → (∀ (σ4 : uS), z1 = σ4 → Gd l E K 0 0 o σ4 122 [none, none] []) → Gd l E K 0 0 o σ3 7 [some (.ref (E.2.1 34)), some (.int w2)] [] := by
    intro n
    induction n with
    | zero =>
      intro w2 σ3 z1 hi
      exact (iter_0 hi).elim
    | succ n ih1 =>
      intro w2 σ3 z1 hi1 kx1
      obtain ⟨r1, h, hi1⟩ := iter_s hi1
      replace h : B_X8_find_4 w2 σ3 = some r1 := h
      delta B_X8_find_4 at h
      refine g_iload_n (pc := 7) hC dX8_find_7 rfl ?_
      refine g_aload_n (pc := 8) hC dX8_find_8 rfl ?_
      refine fg_X8_21_34 (pc := 9) hC dX8_find_9 ?_
      obtain ⟨v5, hc, h⟩ := cp_e h
      refine g_callVi (pc := 12) (As := []) (rest := [.int w2]) hC (c_X5_size l E σ3 v5 hc) mi_X5_size mv_X5_size ob_16 rfl rfl lk_X8_37 rfl rfl (Nat.le_of_ble_eq_true rfl) ⟨by decide, by decide⟩ hab dX8_find_12 ?_
      refine g_icmp_ge (tgt := 122) (pc := 15) hC dX8_find_15 (by decide) (fun c6 => ?_) (fun c6 => ?_)
      · replace h := it_t c6 h
        refine g_mask [false, false] rfl ?_
        exact kx1 σ3 (iter_r h hi1)
      · replace h := it_f c6 h
        refine g_iload_n (pc := 18) hC dX8_find_18 rfl ?_
        have hJ89 : ∀ (σ18 : uS), J_X8_find_3 w2 σ18 = some r1 → Gd l E K 0 0 o σ18 89 [some (.ref (E.2.1 34)), some (.int w2)] [] := by
          intro σ18 h
          delta J_X8_find_3 at h
          refine g_aload_n (pc := 89) hC dX8_find_89 rfl ?_
          refine fg_X8_15_34 (pc := 90) hC dX8_find_90 ?_
          refine g_aload_n (pc := 93) hC dX8_find_93 rfl ?_
          refine fg_X8_33_34 (pc := 94) hC dX8_find_94 ?_
          refine g_iconst (pc := 97) hC ki_1 dX8_find_97 ?_
          refine g_isub (pc := 98) hC dX8_find_98 ?_
          refine g_dup2 (pc := 99) hC rfl rfl dX8_find_99 ?_
          obtain ⟨v19, ev19, nv19, h⟩ := rd_e h
          refine g_iald (pc := 100) hC 36 (by decide) (ar_36 _ _ _) nv19 dX8_find_100 ?_
          refine g_top ev19 ?_
          refine g_iconst (pc := 101) hC ki_1 dX8_find_101 ?_
          refine g_iadd (pc := 102) hC dX8_find_102 ?_
          obtain ⟨σ20, eσ20, nσ20, h⟩ := wr_e h
          refine g_iast (pc := 103) hC 36 (by decide) (ar_36 _ _) nσ20 dX8_find_103 eσ20 ?_
          refine g_aload_n (pc := 104) hC dX8_find_104 rfl ?_
          refine fg_X8_18_34 (pc := 105) hC dX8_find_105 ?_
          refine g_iload_n (pc := 108) hC dX8_find_108 rfl ?_
          refine g_aload_n (pc := 109) hC dX8_find_109 rfl ?_
          refine fg_X8_33_34 (pc := 110) hC dX8_find_110 ?_
          refine g_iconst (pc := 113) hC ki_1 dX8_find_113 ?_
          refine g_isub (pc := 114) hC dX8_find_114 ?_
          obtain ⟨σ21, eσ21, nσ21, h⟩ := wr_e h
          refine g_iast (pc := 115) hC 37 (by decide) (ar_37 _ _) nσ21 dX8_find_115 eσ21 ?_
          obtain ⟨v22, ev22, h⟩ := lt_e h
          refine g_iinc (v := v22) (lv2 := [some (.ref (E.2.1 34)), some (.int v22)]) (pc := 116) hC dX8_find_116 rfl ev22 rfl (Or.inr rfl) (hN _ (by decide)) ?_
          refine g_goto (tgt := 7) (pc := 119) hC dX8_find_119 (by decide) ?_
          exact ih1 v22 σ21 z1 (iter_l h hi1) kx1
        have hJ59 : J_X8_find_2 w2 σ3 = some r1 → Gd l E K 0 0 o σ3 59 [some (.ref (E.2.1 34)), some (.int w2)] [] := by
          intro h
          delta J_X8_find_2 at h
          refine g_aload_n (pc := 59) hC dX8_find_59 rfl ?_
          refine fg_X8_9_34 (pc := 60) hC dX8_find_60 ?_
          refine g_aload_n (pc := 63) hC dX8_find_63 rfl ?_
          refine fg_X8_33_34 (pc := 64) hC dX8_find_64 ?_
          refine g_iload_n (pc := 67) hC dX8_find_67 rfl ?_
          obtain ⟨σ15, eσ15, nσ15, h⟩ := wr_e h
          refine g_iast (pc := 68) hC 35 (by decide) (ar_35 _ _) nσ15 dX8_find_68 eσ15 ?_
          refine g_aload_n (pc := 69) hC dX8_find_69 rfl ?_
          refine fg_X8_15_34 (pc := 70) hC dX8_find_70 ?_
          refine g_aload_n (pc := 73) hC dX8_find_73 rfl ?_
          refine fg_X8_33_34 (pc := 74) hC dX8_find_74 ?_
          refine g_iconst (pc := 77) hC ki_0 dX8_find_77 ?_
          obtain ⟨σ16, eσ16, nσ16, h⟩ := wr_e h
          refine g_iast (pc := 78) hC 36 (by decide) (ar_36 _ _) nσ16 dX8_find_78 eσ16 ?_
          refine g_aload_n (pc := 79) hC dX8_find_79 rfl ?_
          refine g_dup (pc := 80) hC rfl dX8_find_80 ?_
          refine fg_X8_33_34 (pc := 81) hC dX8_find_81 ?_
          refine g_iconst (pc := 84) hC ki_1 dX8_find_84 ?_
          refine g_iadd (pc := 85) hC dX8_find_85 ?_
          obtain ⟨σ17, eσ17, h⟩ := pf_e h
          refine fp_X8_33_34 (pc := 86) hC dX8_find_86 eσ17 ?_
          exact hJ89 σ17 h
        refine g_if_eq (tgt := 59) (pc := 19) hC dX8_find_19 (by decide) (fun c7 => ?_) (fun c7 => ?_)
        · replace h := it_t c7 h
          exact hJ59 h
        · replace h := it_f c7 h
          refine g_aload_n (pc := 22) hC dX8_find_22 rfl ?_
          refine fg_X8_21_34 (pc := 23) hC dX8_find_23 ?_
          refine g_iload_n (pc := 26) hC dX8_find_26 rfl ?_
          obtain ⟨v8, hc, h⟩ := cp_e h
          refine g_callVi (pc := 27) (As := [.int w2]) (rest := []) hC (c_X5_lagIn l E w2 σ3 v8 hc) mi_X5_lagIn mv_X5_lagIn ob_16 rfl rfl lk_X8_42 rfl rfl (Nat.le_of_ble_eq_true rfl) ⟨by decide, by decide⟩ hab dX8_find_27 ?_
          obtain ⟨v10, ev10, h⟩ := lt_e h
          have hJ38 : Gd l E K 0 0 o σ3 38 [some (.ref (E.2.1 34)), some (.int w2)] [.int v10] := by
            refine g_aload_n (pc := 38) hC dX8_find_38 rfl ?_
            refine fg_X8_21_34 (pc := 39) hC dX8_find_39 ?_
            refine g_iload_n (pc := 42) hC dX8_find_42 rfl ?_
            refine g_iconst (pc := 43) hC ki_1 dX8_find_43 ?_
            refine g_isub (pc := 44) hC dX8_find_44 ?_
            obtain ⟨v11, hc, h⟩ := cp_e h
            refine g_callVi (pc := 45) (As := [.int (w2 - 1)]) (rest := [.int v10]) hC (c_X5_lagIn l E (w2 - 1) σ3 v11 hc) mi_X5_lagIn mv_X5_lagIn ob_16 rfl rfl lk_X8_42 rfl rfl (Nat.le_of_ble_eq_true rfl) ⟨by decide, by decide⟩ hab dX8_find_45 ?_
            obtain ⟨v13, ev13, h⟩ := lt_e h
            have hJ56 : Gd l E K 0 0 o σ3 56 [some (.ref (E.2.1 34)), some (.int w2)] [.int v13, .int v10] := by
              refine g_icmp_eq (tgt := 89) (pc := 56) hC dX8_find_56 (by decide) (fun c14 => ?_) (fun c14 => ?_)
              · replace h := it_t c14 h
                exact hJ89 σ3 h
              · replace h := it_f c14 h
                exact hJ59 h
            refine g_if_ne (tgt := 55) (pc := 48) hC dX8_find_48 (by decide) (fun c12 => ?_) (fun c12 => ?_)
            · refine g_iconst (pc := 55) hC ki_0 dX8_find_55 ?_
              exact g_top (iv_f c12 ev13) hJ56
            · refine g_iconst (pc := 51) hC ki_1 dX8_find_51 ?_
              refine g_goto (tgt := 56) (pc := 52) hC dX8_find_52 (by decide) ?_
              exact g_top (iv_t c12 ev13) hJ56
          refine g_if_ne (tgt := 37) (pc := 30) hC dX8_find_30 (by decide) (fun c9 => ?_) (fun c9 => ?_)
          · refine g_iconst (pc := 37) hC ki_0 dX8_find_37 ?_
            exact g_top (iv_f c9 ev10) hJ38
          · refine g_iconst (pc := 33) hC ki_1 dX8_find_33 ?_
            refine g_goto (tgt := 38) (pc := 34) hC dX8_find_34 (by decide) ?_
            exact g_top (iv_t c9 ev10) hJ38
  obtain ⟨z1, hz1, h⟩ := lp_e h
  refine hL1 FU 0 σ1 z1 hz1 (fun σ4 ez => ?_)
  replace h : C_X8_find_5 σ4 = some σr := by rw [ez] at h; exact h
  delta C_X8_find_5 at h
  exact g_retv (pc := 122) hC h hR dX8_find_122
set_option maxRecDepth 20000 in
theorem c_X8_size (l : Launch) (E : uE) (σ : uS) (r : Int32) (h : F_X8_size σ = some r) : CtI l E yX8_size cX8_size 1 (some .int) 0 0 [.ref (E.2.1 34)] σ r σ := by
  refine enterI 0 [some (.ref (E.2.1 34))] (by decide +kernel) rfl (Nat.le_of_ble_eq_true rfl) (fun o K hnL hC hab hR => ?_)
  have hC : Cx E K RX8 cX8_size (some .int) 0 0 := hC
  have hN : ∀ k, k < 1 → k < K.2.2.2.2.2 := fun k hk => hnL ▸ hk
  delta F_X8_size at h
  refine g_aload_n (pc := 0) hC dX8_size_0 rfl ?_
  refine fg_X8_33_34 (pc := 1) hC dX8_size_1 ?_
  exact g_retp (pc := 4) hC h hR dX8_size_4
set_option maxRecDepth 20000 in
theorem c_X8_has (l : Launch) (E : uE) (a1 : Int32) (σ : uS) (r : Int32) (h : F_X8_has a1 σ = some r) : CtI l E yX8_has cX8_has 2 (some .boolean) 0 0 [.ref (E.2.1 34), .int a1] σ r σ := by
  refine enterI 0 [some (.ref (E.2.1 34)), some (.int a1)] (by decide +kernel) rfl (Nat.le_of_ble_eq_true rfl) (fun o K hnL hC hab hR => ?_)
  have hC : Cx E K RX8 cX8_has (some .boolean) 0 0 := hC
  have hN : ∀ k, k < 2 → k < K.2.2.2.2.2 := fun k hk => hnL ▸ hk
  delta F_X8_has at h
  refine g_iload_n (pc := 0) hC dX8_has_0 rfl ?_
  have hJ17 : ∀ (v3 : Int32), J_X8_has_2 v3 = some r → Gd l E K 0 0 o σ 17 [none, none] [.int v3] := by
    intro v3 h
    delta J_X8_has_2 at h
    obtain ⟨h01, h⟩ := bz_e h
    exact g_retzp (pc := 17) hC h01 h hR dX8_has_17
  have hJ16 : J_X8_has_1 = some r → Gd l E K 0 0 o σ 16 [none, none] [] := by
    intro h
    delta J_X8_has_1 at h
    refine g_iconst (pc := 16) hC ki_0 dX8_has_16 ?_
    exact hJ17 0 h
  refine g_if_lt (tgt := 16) (pc := 1) hC dX8_has_1 (by decide) (fun c1 => ?_) (fun c1 => ?_)
  · replace h := it_t c1 h
    refine g_mask [false, false] rfl ?_
    exact hJ16 h
  · replace h := it_f c1 h
    refine g_iload_n (pc := 4) hC dX8_has_4 rfl ?_
    refine g_aload_n (pc := 5) hC dX8_has_5 rfl ?_
    refine fg_X8_33_34 (pc := 6) hC dX8_has_6 ?_
    refine g_icmp_ge (tgt := 16) (pc := 9) hC dX8_has_9 (by decide) (fun c2 => ?_) (fun c2 => ?_)
    · replace h := it_t c2 h
      refine g_mask [false, false] rfl ?_
      exact hJ16 h
    · replace h := it_f c2 h
      refine g_iconst (pc := 12) hC ki_1 dX8_has_12 ?_
      refine g_goto (tgt := 17) (pc := 13) hC dX8_has_13 (by decide) ?_
      refine g_mask [false, false] rfl ?_
      exact hJ17 1 h
set_option maxRecDepth 20000 in
theorem c_X8_firstFrame (l : Launch) (E : uE) (a1 : Int32) (σ : uS) (r : Int32) (h : F_X8_firstFrame a1 σ = some r) : CtI l E yX8_firstFrame cX8_firstFrame 2 (some .int) 1 21 [.ref (E.2.1 34), .int a1] σ r σ := by
  refine enterI 0 [some (.ref (E.2.1 34)), some (.int a1)] (by decide +kernel) rfl (Nat.le_of_ble_eq_true rfl) (fun o K hnL hC hab hR => ?_)
  have hC : Cx E K RX8 cX8_firstFrame (some .int) 1 21 := hC
  have hN : ∀ k, k < 2 → k < K.2.2.2.2.2 := fun k hk => hnL ▸ hk
  delta F_X8_firstFrame at h
  refine g_aload_n (pc := 0) hC dX8_firstFrame_0 rfl ?_
  refine g_iload_n (pc := 1) hC dX8_firstFrame_1 rfl ?_
  obtain ⟨v1, hc, h⟩ := cp_e h
  refine g_callVi (pc := 2) (As := [.int a1]) (rest := []) hC (c_X8_has l E a1 σ v1 hc) mi_X8_has mv_X8_has ob_34 rfl rfl lk_X8_46 rfl rfl (Nat.le_of_ble_eq_true rfl) ⟨by decide, by decide⟩ hab dX8_firstFrame_2 ?_
  have hJ18 : ∀ (v4 : Int32), J_X8_firstFrame_1 v4 = some r → Gd l E K 0 0 o σ 18 [none, none] [.int v4] := by
    intro v4 h
    delta J_X8_firstFrame_1 at h
    exact g_retp (pc := 18) hC h hR dX8_firstFrame_18
  refine g_if_eq (tgt := 17) (pc := 5) hC dX8_firstFrame_5 (by decide) (fun c2 => ?_) (fun c2 => ?_)
  · replace h := it_t c2 h
    refine g_iconst (pc := 17) hC ki_m1 dX8_firstFrame_17 ?_
    refine g_mask [false, false] rfl ?_
    exact hJ18 (-1) h
  · replace h := it_f c2 h
    refine g_aload_n (pc := 8) hC dX8_firstFrame_8 rfl ?_
    refine fg_X8_9_34 (pc := 9) hC dX8_firstFrame_9 ?_
    refine g_iload_n (pc := 12) hC dX8_firstFrame_12 rfl ?_
    obtain ⟨v3, ev3, nv3, h⟩ := rd_e h
    refine g_iald (pc := 13) hC 35 (by decide) (ar_35 _ _ _) nv3 dX8_firstFrame_13 ?_
    refine g_top ev3 ?_
    refine g_goto (tgt := 18) (pc := 14) hC dX8_firstFrame_14 (by decide) ?_
    refine g_mask [false, false] rfl ?_
    exact hJ18 v3 h
set_option maxRecDepth 20000 in
theorem c_X8_length (l : Launch) (E : uE) (a1 : Int32) (σ : uS) (r : Int32) (h : F_X8_length a1 σ = some r) : CtI l E yX8_length cX8_length 2 (some .int) 1 21 [.ref (E.2.1 34), .int a1] σ r σ := by
  refine enterI 0 [some (.ref (E.2.1 34)), some (.int a1)] (by decide +kernel) rfl (Nat.le_of_ble_eq_true rfl) (fun o K hnL hC hab hR => ?_)
  have hC : Cx E K RX8 cX8_length (some .int) 1 21 := hC
  have hN : ∀ k, k < 2 → k < K.2.2.2.2.2 := fun k hk => hnL ▸ hk
  delta F_X8_length at h
  refine g_aload_n (pc := 0) hC dX8_length_0 rfl ?_
  refine g_iload_n (pc := 1) hC dX8_length_1 rfl ?_
  obtain ⟨v1, hc, h⟩ := cp_e h
  refine g_callVi (pc := 2) (As := [.int a1]) (rest := []) hC (c_X8_has l E a1 σ v1 hc) mi_X8_has mv_X8_has ob_34 rfl rfl lk_X8_46 rfl rfl (Nat.le_of_ble_eq_true rfl) ⟨by decide, by decide⟩ hab dX8_length_2 ?_
  have hJ18 : ∀ (v4 : Int32), J_X8_length_1 v4 = some r → Gd l E K 0 0 o σ 18 [none, none] [.int v4] := by
    intro v4 h
    delta J_X8_length_1 at h
    exact g_retp (pc := 18) hC h hR dX8_length_18
  refine g_if_eq (tgt := 17) (pc := 5) hC dX8_length_5 (by decide) (fun c2 => ?_) (fun c2 => ?_)
  · replace h := it_t c2 h
    refine g_iconst (pc := 17) hC ki_0 dX8_length_17 ?_
    refine g_mask [false, false] rfl ?_
    exact hJ18 0 h
  · replace h := it_f c2 h
    refine g_aload_n (pc := 8) hC dX8_length_8 rfl ?_
    refine fg_X8_15_34 (pc := 9) hC dX8_length_9 ?_
    refine g_iload_n (pc := 12) hC dX8_length_12 rfl ?_
    obtain ⟨v3, ev3, nv3, h⟩ := rd_e h
    refine g_iald (pc := 13) hC 36 (by decide) (ar_36 _ _ _) nv3 dX8_length_13 ?_
    refine g_top ev3 ?_
    refine g_goto (tgt := 18) (pc := 14) hC dX8_length_14 (by decide) ?_
    refine g_mask [false, false] rfl ?_
    exact hJ18 v3 h
set_option maxRecDepth 20000 in
theorem c_X8_isVoiced (l : Launch) (E : uE) (a1 : Int32) (σ : uS) (r : Int32) (h : F_X8_isVoiced a1 σ = some r) : CtI l E yX8_isVoiced cX8_isVoiced 2 (some .boolean) 1 21 [.ref (E.2.1 34), .int a1] σ r σ := by
  refine enterI 0 [some (.ref (E.2.1 34)), some (.int a1)] (by decide +kernel) rfl (Nat.le_of_ble_eq_true rfl) (fun o K hnL hC hab hR => ?_)
  have hC : Cx E K RX8 cX8_isVoiced (some .boolean) 1 21 := hC
  have hN : ∀ k, k < 2 → k < K.2.2.2.2.2 := fun k hk => hnL ▸ hk
  delta F_X8_isVoiced at h
  refine g_aload_n (pc := 0) hC dX8_isVoiced_0 rfl ?_
  refine g_iload_n (pc := 1) hC dX8_isVoiced_1 rfl ?_
  obtain ⟨v1, hc, h⟩ := cp_e h
  refine g_callVi (pc := 2) (As := [.int a1]) (rest := []) hC (c_X8_has l E a1 σ v1 hc) mi_X8_has mv_X8_has ob_34 rfl rfl lk_X8_46 rfl rfl (Nat.le_of_ble_eq_true rfl) ⟨by decide, by decide⟩ hab dX8_isVoiced_2 ?_
  have hJ29 : ∀ (v6 : Int32), J_X8_isVoiced_2 v6 = some r → Gd l E K 0 0 o σ 29 [none, none] [.int v6] := by
    intro v6 h
    delta J_X8_isVoiced_2 at h
    obtain ⟨h01, h⟩ := bz_e h
    exact g_retzp (pc := 29) hC h01 h hR dX8_isVoiced_29
  have hJ28 : J_X8_isVoiced_1 = some r → Gd l E K 0 0 o σ 28 [none, none] [] := by
    intro h
    delta J_X8_isVoiced_1 at h
    refine g_iconst (pc := 28) hC ki_0 dX8_isVoiced_28 ?_
    exact hJ29 0 h
  refine g_if_eq (tgt := 28) (pc := 5) hC dX8_isVoiced_5 (by decide) (fun c2 => ?_) (fun c2 => ?_)
  · replace h := it_t c2 h
    refine g_mask [false, false] rfl ?_
    exact hJ28 h
  · replace h := it_f c2 h
    refine g_aload_n (pc := 8) hC dX8_isVoiced_8 rfl ?_
    refine fg_X8_21_34 (pc := 9) hC dX8_isVoiced_9 ?_
    refine g_aload_n (pc := 12) hC dX8_isVoiced_12 rfl ?_
    refine fg_X8_9_34 (pc := 13) hC dX8_isVoiced_13 ?_
    refine g_iload_n (pc := 16) hC dX8_isVoiced_16 rfl ?_
    obtain ⟨v3, ev3, nv3, h⟩ := rd_e h
    refine g_iald (pc := 17) hC 35 (by decide) (ar_35 _ _ _) nv3 dX8_isVoiced_17 ?_
    refine g_top ev3 ?_
    obtain ⟨v4, hc, h⟩ := cp_e h
    refine g_callVi (pc := 18) (As := [.int v3]) (rest := []) hC (c_X5_lagIn l E v3 σ v4 hc) mi_X5_lagIn mv_X5_lagIn ob_16 rfl rfl lk_X8_42 rfl rfl (Nat.le_of_ble_eq_true rfl) ⟨by decide, by decide⟩ hab dX8_isVoiced_18 ?_
    refine g_if_eq (tgt := 28) (pc := 21) hC dX8_isVoiced_21 (by decide) (fun c5 => ?_) (fun c5 => ?_)
    · replace h := it_t c5 h
      refine g_mask [false, false] rfl ?_
      exact hJ28 h
    · replace h := it_f c5 h
      refine g_iconst (pc := 24) hC ki_1 dX8_isVoiced_24 ?_
      refine g_goto (tgt := 29) (pc := 25) hC dX8_isVoiced_25 (by decide) ?_
      refine g_mask [false, false] rfl ?_
      exact hJ29 1 h
set_option maxRecDepth 20000 in
theorem c_X8_from (l : Launch) (E : uE) (a1 : Int32) (σ : uS) (r : Int32) (h : F_X8_from a1 σ = some r) : CtI l E yX8_from cX8_from 2 (some .int) 1 21 [.ref (E.2.1 34), .int a1] σ r σ := by
  refine enterI 0 [some (.ref (E.2.1 34)), some (.int a1)] (by decide +kernel) rfl (Nat.le_of_ble_eq_true rfl) (fun o K hnL hC hab hR => ?_)
  have hC : Cx E K RX8 cX8_from (some .int) 1 21 := hC
  have hN : ∀ k, k < 2 → k < K.2.2.2.2.2 := fun k hk => hnL ▸ hk
  delta F_X8_from at h
  refine g_aload_n (pc := 0) hC dX8_from_0 rfl ?_
  refine g_iload_n (pc := 1) hC dX8_from_1 rfl ?_
  obtain ⟨v1, hc, h⟩ := cp_e h
  refine g_callVi (pc := 2) (As := [.int a1]) (rest := []) hC (c_X8_has l E a1 σ v1 hc) mi_X8_has mv_X8_has ob_34 rfl rfl lk_X8_46 rfl rfl (Nat.le_of_ble_eq_true rfl) ⟨by decide, by decide⟩ hab dX8_from_2 ?_
  have hJ27 : ∀ (v5 : Int32), J_X8_from_1 v5 = some r → Gd l E K 0 0 o σ 27 [none, none] [.int v5] := by
    intro v5 h
    delta J_X8_from_1 at h
    exact g_retp (pc := 27) hC h hR dX8_from_27
  refine g_if_eq (tgt := 26) (pc := 5) hC dX8_from_5 (by decide) (fun c2 => ?_) (fun c2 => ?_)
  · replace h := it_t c2 h
    refine g_iconst (pc := 26) hC ki_0 dX8_from_26 ?_
    refine g_mask [false, false] rfl ?_
    exact hJ27 0 h
  · replace h := it_f c2 h
    refine g_aload_n (pc := 8) hC dX8_from_8 rfl ?_
    refine fg_X8_9_34 (pc := 9) hC dX8_from_9 ?_
    refine g_iload_n (pc := 12) hC dX8_from_12 rfl ?_
    obtain ⟨v3, ev3, nv3, h⟩ := rd_e h
    refine g_iald (pc := 13) hC 35 (by decide) (ar_35 _ _ _) nv3 dX8_from_13 ?_
    refine g_top ev3 ?_
    refine g_aload_n (pc := 14) hC dX8_from_14 rfl ?_
    refine fg_X8_29_34 (pc := 15) hC dX8_from_15 ?_
    refine g_iconst (pc := 18) hC ki_2 dX8_from_18 ?_
    obtain ⟨v4, hc, h⟩ := cp_e h
    refine g_callVi (pc := 19) (As := [.int 2]) (rest := [.int v3]) hC (c_X0_of l E 2 σ v4 hc) mi_X0_of mv_X0_of ob_4 rfl rfl lk_X8_52 rfl rfl (Nat.le_of_ble_eq_true rfl) ⟨by decide, by decide⟩ hab dX8_from_19 ?_
    refine g_imul (pc := 22) hC dX8_from_22 ?_
    refine g_goto (tgt := 27) (pc := 23) hC dX8_from_23 (by decide) ?_
    refine g_mask [false, false] rfl ?_
    exact hJ27 (v3 * v4) h
