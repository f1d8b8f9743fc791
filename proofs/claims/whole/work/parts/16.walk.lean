set_option maxRecDepth 20000 in
theorem c_X8_to (l : Launch) (E : uE) (a1 : Int32) (σ : uS) (r : Int32) (h : F_X8_to a1 σ = some r) : CtI l E yX8_to cX8_to 2 (some .int) 1 21 [.ref (E.2.1 34), .int a1] σ r σ := by
  refine enterI 0 [some (.ref (E.2.1 34)), some (.int a1)] (by decide +kernel) rfl (Nat.le_of_ble_eq_true rfl) (fun o K hnL hC hab hR => ?_)
  have hC : Cx E K RX8 cX8_to (some .int) 1 21 := hC
  have hN : ∀ k, k < 2 → k < K.2.2.2.2.2 := fun k hk => hnL ▸ hk
  delta F_X8_to at h
  refine g_aload_n (pc := 0) hC dX8_to_0 rfl ?_
  refine g_iload_n (pc := 1) hC dX8_to_1 rfl ?_
  obtain ⟨v1, hc, h⟩ := cp_e h
  refine g_callVi (pc := 2) (As := [.int a1]) (rest := []) hC (c_X8_has l E a1 σ v1 hc) mi_X8_has mv_X8_has ob_34 rfl rfl lk_X8_46 rfl rfl (Nat.le_of_ble_eq_true rfl) ⟨by decide, by decide⟩ hab dX8_to_2 ?_
  have hJ44 : ∀ (v8 : Int32), J_X8_to_1 v8 = some r → Gd l E K 0 0 o σ 44 [none, none] [.int v8] := by
    intro v8 h
    delta J_X8_to_1 at h
    exact g_retp (pc := 44) hC h hR dX8_to_44
  refine g_if_eq (tgt := 43) (pc := 5) hC dX8_to_5 (by decide) (fun c2 => ?_) (fun c2 => ?_)
  · replace h := it_t c2 h
    refine g_iconst (pc := 43) hC ki_0 dX8_to_43 ?_
    refine g_mask [false, false] rfl ?_
    exact hJ44 0 h
  · replace h := it_f c2 h
    refine g_aload_n (pc := 8) hC dX8_to_8 rfl ?_
    refine fg_X8_25_34 (pc := 9) hC dX8_to_9 ?_
    obtain ⟨v3, hc, h⟩ := cp_e h
    refine g_callVi (pc := 12) (As := []) (rest := []) hC (c_X7_size l E σ v3 hc) mi_X7_size mv_X7_size ob_1 rfl rfl lk_X8_55 rfl rfl (Nat.le_of_ble_eq_true rfl) ⟨by decide, by decide⟩ hab dX8_to_12 ?_
    refine g_aload_n (pc := 15) hC dX8_to_15 rfl ?_
    refine fg_X8_9_34 (pc := 16) hC dX8_to_16 ?_
    refine g_iload_n (pc := 19) hC dX8_to_19 rfl ?_
    obtain ⟨v4, ev4, nv4, h⟩ := rd_e h
    refine g_iald (pc := 20) hC 35 (by decide) (ar_35 _ _ _) nv4 dX8_to_20 ?_
    refine g_top ev4 ?_
    refine g_aload_n (pc := 21) hC dX8_to_21 rfl ?_
    refine fg_X8_15_34 (pc := 22) hC dX8_to_22 ?_
    refine g_iload_n (pc := 25) hC dX8_to_25 rfl ?_
    obtain ⟨v5, ev5, nv5, h⟩ := rd_e h
    refine g_iald (pc := 26) hC 36 (by decide) (ar_36 _ _ _) nv5 dX8_to_26 ?_
    refine g_top ev5 ?_
    refine g_iadd (pc := 27) hC dX8_to_27 ?_
    refine g_aload_n (pc := 28) hC dX8_to_28 rfl ?_
    refine fg_X8_29_34 (pc := 29) hC dX8_to_29 ?_
    refine g_iconst (pc := 32) hC ki_2 dX8_to_32 ?_
    obtain ⟨v6, hc, h⟩ := cp_e h
    refine g_callVi (pc := 33) (As := [.int 2]) (rest := [.int (v4 + v5), .int v3]) hC (c_X0_of l E 2 σ v6 hc) mi_X0_of mv_X0_of ob_4 rfl rfl lk_X8_52 rfl rfl (Nat.le_of_ble_eq_true rfl) ⟨by decide, by decide⟩ hab dX8_to_33 ?_
    refine g_imul (pc := 36) hC dX8_to_36 ?_
    obtain ⟨v7, hc, h⟩ := cp_e h
    refine g_callSi (pc := 37) (As := [.int v3, .int ((v4 + v5) * v6)]) (rest := []) hC (c_J9_min_7cf53 l E v3 ((v4 + v5) * v6) σ v7 hc) mi_J9_min_7cf53 ms_J9_min_7cf53 lk_X8_58 rfl rfl (Nat.le_of_ble_eq_true rfl) ⟨by decide, by decide⟩ hab dX8_to_37 ?_
    refine g_goto (tgt := 44) (pc := 40) hC dX8_to_40 (by decide) ?_
    refine g_mask [false, false] rfl ?_
    exact hJ44 v7 h
set_option maxRecDepth 20000 in
theorem c_X8_lagAtSample (l : Launch) (E : uE) (a1 : Int32) (σ : uS) (r : Int32) (h : F_X8_lagAtSample a1 σ = some r) : CtI l E yX8_lagAtSample cX8_lagAtSample 2 (some .int) 2 43 [.ref (E.2.1 34), .int a1] σ r σ := by
  refine enterI 0 [some (.ref (E.2.1 34)), some (.int a1)] (by decide +kernel) rfl (Nat.le_of_ble_eq_true rfl) (fun o K hnL hC hab hR => ?_)
  have hC : Cx E K RX8 cX8_lagAtSample (some .int) 2 43 := hC
  have hN : ∀ k, k < 2 → k < K.2.2.2.2.2 := fun k hk => hnL ▸ hk
  delta F_X8_lagAtSample at h
  refine g_aload_n (pc := 0) hC dX8_lagAtSample_0 rfl ?_
  refine fg_X8_21_34 (pc := 1) hC dX8_lagAtSample_1 ?_
  refine g_iload_n (pc := 4) hC dX8_lagAtSample_4 rfl ?_
  refine g_aload_n (pc := 5) hC dX8_lagAtSample_5 rfl ?_
  refine fg_X8_29_34 (pc := 6) hC dX8_lagAtSample_6 ?_
  refine g_iconst (pc := 9) hC ki_2 dX8_lagAtSample_9 ?_
  obtain ⟨v1, hc, h⟩ := cp_e h
  refine g_callVi (pc := 10) (As := [.int 2]) (rest := [.int a1, .ref (E.2.1 16)]) hC (c_X0_of l E 2 σ v1 hc) mi_X0_of mv_X0_of ob_4 rfl rfl lk_X8_52 rfl rfl (Nat.le_of_ble_eq_true rfl) ⟨by decide, by decide⟩ hab dX8_lagAtSample_10 ?_
  obtain ⟨v2, hc, h⟩ := cp_e h
  refine g_callNi (pc := 13) (As := [.int a1, .int v1]) (rest := [.ref (E.2.1 16)]) hC (c_X11_quotient l E a1 v1 σ v2 hc) mi_X11_quotient ms_X11_quotient lk_X8_64 rfl rfl (Nat.le_of_ble_eq_true rfl) ⟨by decide, by decide⟩ hab dX8_lagAtSample_13 ?_
  obtain ⟨v3, hc, h⟩ := cp_e h
  refine g_callVi (pc := 16) (As := [.int v2]) (rest := []) hC (c_X5_lagIn l E v2 σ v3 hc) mi_X5_lagIn mv_X5_lagIn ob_16 rfl rfl lk_X8_42 rfl rfl (Nat.le_of_ble_eq_true rfl) ⟨by decide, by decide⟩ hab dX8_lagAtSample_16 ?_
  exact g_retp (pc := 19) hC h hR dX8_lagAtSample_19
set_option maxRecDepth 20000 in
theorem c_X8_ofSample (l : Launch) (E : uE) (a1 : Int32) (σ : uS) (r : Int32) (h : F_X8_ofSample a1 σ = some r) : CtI l E yX8_ofSample cX8_ofSample 3 (some .int) 2 43 [.ref (E.2.1 34), .int a1] σ r σ := by
  refine enterI 1 [some (.ref (E.2.1 34)), some (.int a1), none] (by decide +kernel) rfl (Nat.le_of_ble_eq_true rfl) (fun o K hnL hC hab hR => ?_)
  have hC : Cx E K RX8 cX8_ofSample (some .int) 2 43 := hC
  have hN : ∀ k, k < 3 → k < K.2.2.2.2.2 := fun k hk => hnL ▸ hk
  delta F_X8_ofSample at h
  refine g_iload_n (pc := 0) hC dX8_ofSample_0 rfl ?_
  refine g_aload_n (pc := 1) hC dX8_ofSample_1 rfl ?_
  refine fg_X8_29_34 (pc := 2) hC dX8_ofSample_2 ?_
  refine g_iconst (pc := 5) hC ki_2 dX8_ofSample_5 ?_
  obtain ⟨v1, hc, h⟩ := cp_e h
  refine g_callVi (pc := 6) (As := [.int 2]) (rest := [.int a1]) hC (c_X0_of l E 2 σ v1 hc) mi_X0_of mv_X0_of ob_4 rfl rfl lk_X8_52 rfl rfl (Nat.le_of_ble_eq_true rfl) ⟨by decide, by decide⟩ hab dX8_ofSample_6 ?_
  obtain ⟨v2, hc, h⟩ := cp_e h
  refine g_callNi (pc := 9) (As := [.int a1, .int v1]) (rest := []) hC (c_X11_quotient l E a1 v1 σ v2 hc) mi_X11_quotient ms_X11_quotient lk_X8_64 rfl rfl (Nat.le_of_ble_eq_true rfl) ⟨by decide, by decide⟩ hab dX8_ofSample_9 ?_
  refine g_istore_n (lv2 := [some (.ref (E.2.1 34)), some (.int a1), some (.int v2)]) (pc := 12) hC dX8_ofSample_12 rfl (Or.inr rfl) (hN _ (by decide)) ?_
  refine g_iload_n (pc := 13) hC dX8_ofSample_13 rfl ?_
  have hJ38 : ∀ (v7 : Int32), J_X8_ofSample_2 v7 = some r → Gd l E K 0 0 o σ 38 [none, none, none] [.int v7] := by
    intro v7 h
    delta J_X8_ofSample_2 at h
    exact g_retp (pc := 38) hC h hR dX8_ofSample_38
  have hJ28 : J_X8_ofSample_1 = some r → Gd l E K 0 0 o σ 28 [none, none, none] [] := by
    intro h
    delta J_X8_ofSample_1 at h
    refine g_iconst (pc := 28) hC ki_m1 dX8_ofSample_28 ?_
    refine g_goto (tgt := 38) (pc := 29) hC dX8_ofSample_29 (by decide) ?_
    exact hJ38 (-1) h
  refine g_if_lt (tgt := 28) (pc := 14) hC dX8_ofSample_14 (by decide) (fun c3 => ?_) (fun c3 => ?_)
  · replace h := it_t c3 h
    refine g_mask [false, false, false] rfl ?_
    exact hJ28 h
  · replace h := it_f c3 h
    refine g_iload_n (pc := 17) hC dX8_ofSample_17 rfl ?_
    refine g_aload_n (pc := 18) hC dX8_ofSample_18 rfl ?_
    refine fg_X8_21_34 (pc := 19) hC dX8_ofSample_19 ?_
    obtain ⟨v4, hc, h⟩ := cp_e h
    refine g_callVi (pc := 22) (As := []) (rest := [.int v2]) hC (c_X5_size l E σ v4 hc) mi_X5_size mv_X5_size ob_16 rfl rfl lk_X8_37 rfl rfl (Nat.le_of_ble_eq_true rfl) ⟨by decide, by decide⟩ hab dX8_ofSample_22 ?_
    refine g_icmp_lt (tgt := 32) (pc := 25) hC dX8_ofSample_25 (by decide) (fun c5 => ?_) (fun c5 => ?_)
    · replace h := it_t c5 h
      refine g_aload_n (pc := 32) hC dX8_ofSample_32 rfl ?_
      refine fg_X8_18_34 (pc := 33) hC dX8_ofSample_33 ?_
      refine g_iload_n (pc := 36) hC dX8_ofSample_36 rfl ?_
      obtain ⟨v6, ev6, nv6, h⟩ := rd_e h
      refine g_iald (pc := 37) hC 37 (by decide) (ar_37 _ _ _) nv6 dX8_ofSample_37 ?_
      refine g_top ev6 ?_
      refine g_mask [false, false, false] rfl ?_
      exact hJ38 v6 h
    · replace h := it_f c5 h
      refine g_mask [false, false, false] rfl ?_
      exact hJ28 h
set_option maxRecDepth 20000 in
theorem c_X4_findNotes (l : Launch) (E : uE) (σ : uS) (σr : uS) (h : F_X4_findNotes σ = some σr) : CtV l E yX4_findNotes cX4_findNotes 4 1 21 [.ref (E.2.1 38)] σ σr := by
  refine enterV 3 [some (.ref (E.2.1 38)), none, none, none] (by decide +kernel) rfl (Nat.le_of_ble_eq_true rfl) (fun o K hnL hC hab hR => ?_)
  have hC : Cx E K RX4 cX4_findNotes none 1 21 := hC
  have hN : ∀ k, k < 4 → k < K.2.2.2.2.2 := fun k hk => hnL ▸ hk
  delta F_X4_findNotes at h
  refine g_aload_n (pc := 0) hC dX4_findNotes_0 rfl ?_
  refine g_iconst (pc := 1) hC ki_0 dX4_findNotes_1 ?_
  obtain ⟨σ1, eσ1, h⟩ := pf_e h
  refine fp_X4_34_38 (pc := 2) hC dX4_findNotes_2 eσ1 ?_
  refine g_iconst (pc := 5) hC ki_0 dX4_findNotes_5 ?_
  refine g_istore_n (lv2 := [some (.ref (E.2.1 38)), some (.int 0), none, none]) (pc := 6) hC dX4_findNotes_6 rfl (Or.inr rfl) (hN _ (by decide)) ?_
  have hL1 : ∀ (n : Nat) (w2 : Int32) (σ3 : uS) (z1 : uS), iter n (fun z => B_X4_findNotes_6 z.1 z.2) (w2, σ3) = some z1 → (∀ (σ4 : uS), z1 = σ4 → Gd l E K 0 0 o σ4 115 [none, none, none, none] []) → Gd l E K 0 0 o σ3 7 [some (.ref (E.2.1 38)), some (.int w2), none, none] [] := by
    intro n
    induction n with
    | zero =>
      intro w2 σ3 z1 hi
      exact (iter_0 hi).elim
    | succ n ih1 =>
      intro w2 σ3 z1 hi1 kx1
      obtain ⟨r1, h, hi1⟩ := iter_s hi1
      replace h : B_X4_findNotes_6 w2 σ3 = some r1 := h
      delta B_X4_findNotes_6 at h
      refine g_iload_n (pc := 7) hC dX4_findNotes_7 rfl ?_
      refine g_aload_n (pc := 8) hC dX4_findNotes_8 rfl ?_
      refine fg_X4_27_38 (pc := 9) hC dX4_findNotes_9 ?_
      obtain ⟨v5, hc, h⟩ := cp_e h
      refine g_callVi (pc := 12) (As := []) (rest := [.int w2]) hC (c_X5_size l E σ3 v5 hc) mi_X5_size mv_X5_size ob_16 rfl rfl lk_X4_46 rfl rfl (Nat.le_of_ble_eq_true rfl) ⟨by decide, by decide⟩ hab dX4_findNotes_12 ?_
      refine g_icmp_ge (tgt := 115) (pc := 15) hC dX4_findNotes_15 (by decide) (fun c6 => ?_) (fun c6 => ?_)
      · replace h := it_t c6 h
        refine g_mask [false, false, false, false] rfl ?_
        exact kx1 σ3 (iter_r h hi1)
      · replace h := it_f c6 h
        refine g_aload_n (pc := 18) hC dX4_findNotes_18 rfl ?_
        refine fg_X4_27_38 (pc := 19) hC dX4_findNotes_19 ?_
        refine g_iload_n (pc := 22) hC dX4_findNotes_22 rfl ?_
        obtain ⟨v7, hc, h⟩ := cp_e h
        refine g_callVi (pc := 23) (As := [.int w2]) (rest := []) hC (c_X5_lagIn l E w2 σ3 v7 hc) mi_X5_lagIn mv_X5_lagIn ob_16 rfl rfl lk_X4_67 rfl rfl (Nat.le_of_ble_eq_true rfl) ⟨by decide, by decide⟩ hab dX4_findNotes_23 ?_
        refine g_istore_n (lv2 := [some (.ref (E.2.1 38)), some (.int w2), some (.int v7), none]) (pc := 26) hC dX4_findNotes_26 rfl (Or.inr rfl) (hN _ (by decide)) ?_
        refine g_iload_n (pc := 27) hC dX4_findNotes_27 rfl ?_
        have hJ109 : ∀ (σ21 : uS), J_X4_findNotes_5 w2 σ21 = some r1 → Gd l E K 0 0 o σ21 109 [some (.ref (E.2.1 38)), some (.int w2), none, none] [] := by
          intro σ21 h
          delta J_X4_findNotes_5 at h
          obtain ⟨v22, ev22, h⟩ := lt_e h
          refine g_iinc (v := v22) (lv2 := [some (.ref (E.2.1 38)), some (.int v22), none, none]) (pc := 109) hC dX4_findNotes_109 rfl ev22 rfl (Or.inr rfl) (hN _ (by decide)) ?_
          refine g_goto (tgt := 7) (pc := 112) hC dX4_findNotes_112 (by decide) ?_
          exact ih1 v22 σ21 z1 (iter_l h hi1) kx1
        refine g_if_eq (tgt := 109) (pc := 28) hC dX4_findNotes_28 (by decide) (fun c8 => ?_) (fun c8 => ?_)
        · replace h := it_t c8 h
          refine g_mask [true, true, false, false] rfl ?_
          exact hJ109 σ3 h
        · replace h := it_f c8 h
          refine g_iload_n (pc := 31) hC dX4_findNotes_31 rfl ?_
          have hJ49 : ∀ (v11 : Int32), J_X4_findNotes_4 v7 w2 σ3 v11 = some r1 → Gd l E K 0 0 o σ3 49 [some (.ref (E.2.1 38)), some (.int w2), some (.int v7), none] [.int v11] := by
            intro v11 h
            delta J_X4_findNotes_4 at h
            refine g_istore_n (lv2 := [some (.ref (E.2.1 38)), some (.int w2), some (.int v7), some (.int v11)]) (pc := 49) hC dX4_findNotes_49 rfl (Or.inr rfl) (hN _ (by decide)) ?_
            refine g_iload_n (pc := 50) hC dX4_findNotes_50 rfl ?_
            have hJ94 : ∀ (σ18 : uS), J_X4_findNotes_3 w2 σ18 = some r1 → Gd l E K 0 0 o σ18 94 [some (.ref (E.2.1 38)), some (.int w2), none, none] [] := by
              intro σ18 h
              delta J_X4_findNotes_3 at h
              refine g_aload_n (pc := 94) hC dX4_findNotes_94 rfl ?_
              refine fg_X4_15_38 (pc := 95) hC dX4_findNotes_95 ?_
              refine g_aload_n (pc := 98) hC dX4_findNotes_98 rfl ?_
              refine fg_X4_34_38 (pc := 99) hC dX4_findNotes_99 ?_
              refine g_iconst (pc := 102) hC ki_1 dX4_findNotes_102 ?_
              refine g_isub (pc := 103) hC dX4_findNotes_103 ?_
              refine g_dup2 (pc := 104) hC rfl rfl dX4_findNotes_104 ?_
              obtain ⟨v19, ev19, nv19, h⟩ := rd_e h
              refine g_iald (pc := 105) hC 40 (by decide) (ar_40 _ _ _) nv19 dX4_findNotes_105 ?_
              refine g_top ev19 ?_
              refine g_iconst (pc := 106) hC ki_1 dX4_findNotes_106 ?_
              refine g_iadd (pc := 107) hC dX4_findNotes_107 ?_
              obtain ⟨σ20, eσ20, nσ20, h⟩ := wr_e h
              refine g_iast (pc := 108) hC 40 (by decide) (ar_40 _ _) nσ20 dX4_findNotes_108 eσ20 ?_
              exact hJ109 σ20 h
            have hJ64 : J_X4_findNotes_2 w2 σ3 = some r1 → Gd l E K 0 0 o σ3 64 [some (.ref (E.2.1 38)), some (.int w2), none, none] [] := by
              intro h
              delta J_X4_findNotes_2 at h
              refine g_aload_n (pc := 64) hC dX4_findNotes_64 rfl ?_
              refine fg_X4_9_38 (pc := 65) hC dX4_findNotes_65 ?_
              refine g_aload_n (pc := 68) hC dX4_findNotes_68 rfl ?_
              refine fg_X4_34_38 (pc := 69) hC dX4_findNotes_69 ?_
              refine g_iload_n (pc := 72) hC dX4_findNotes_72 rfl ?_
              obtain ⟨σ15, eσ15, nσ15, h⟩ := wr_e h
              refine g_iast (pc := 73) hC 39 (by decide) (ar_39 _ _) nσ15 dX4_findNotes_73 eσ15 ?_
              refine g_aload_n (pc := 74) hC dX4_findNotes_74 rfl ?_
              refine fg_X4_15_38 (pc := 75) hC dX4_findNotes_75 ?_
              refine g_aload_n (pc := 78) hC dX4_findNotes_78 rfl ?_
              refine fg_X4_34_38 (pc := 79) hC dX4_findNotes_79 ?_
              refine g_iconst (pc := 82) hC ki_0 dX4_findNotes_82 ?_
              obtain ⟨σ16, eσ16, nσ16, h⟩ := wr_e h
              refine g_iast (pc := 83) hC 40 (by decide) (ar_40 _ _) nσ16 dX4_findNotes_83 eσ16 ?_
              refine g_aload_n (pc := 84) hC dX4_findNotes_84 rfl ?_
              refine g_dup (pc := 85) hC rfl dX4_findNotes_85 ?_
              refine fg_X4_34_38 (pc := 86) hC dX4_findNotes_86 ?_
              refine g_iconst (pc := 89) hC ki_1 dX4_findNotes_89 ?_
              refine g_iadd (pc := 90) hC dX4_findNotes_90 ?_
              obtain ⟨σ17, eσ17, h⟩ := pf_e h
              refine fp_X4_34_38 (pc := 91) hC dX4_findNotes_91 eσ17 ?_
              exact hJ94 σ17 h
            refine g_if_eq (tgt := 64) (pc := 51) hC dX4_findNotes_51 (by decide) (fun c12 => ?_) (fun c12 => ?_)
            · replace h := it_t c12 h
              refine g_mask [true, true, false, false] rfl ?_
              exact hJ64 h
            · replace h := it_f c12 h
              refine g_iload_n (pc := 54) hC dX4_findNotes_54 rfl ?_
              refine g_iload_n (pc := 55) hC dX4_findNotes_55 rfl ?_
              refine g_isub (pc := 56) hC dX4_findNotes_56 ?_
              obtain ⟨v13, hc, h⟩ := cp_e h
              refine g_callSi (pc := 57) (As := [.int (v7 - v11)]) (rest := []) hC (c_J9_abs_0f7a4 l E (v7 - v11) σ3 v13 hc) mi_J9_abs_0f7a4 ms_J9_abs_0f7a4 lk_X4_71 rfl rfl (Nat.le_of_ble_eq_true rfl) ⟨by decide, by decide⟩ hab dX4_findNotes_57 ?_
              refine g_iconst (pc := 60) hC ki_1 dX4_findNotes_60 ?_
              refine g_icmp_le (tgt := 94) (pc := 61) hC dX4_findNotes_61 (by decide) (fun c14 => ?_) (fun c14 => ?_)
              · replace h := it_t c14 h
                refine g_mask [true, true, false, false] rfl ?_
                exact hJ94 σ3 h
              · replace h := it_f c14 h
                refine g_mask [true, true, false, false] rfl ?_
                exact hJ64 h
          refine g_if_ne (tgt := 39) (pc := 32) hC dX4_findNotes_32 (by decide) (fun c9 => ?_) (fun c9 => ?_)
          · replace h := it_f c9 h
            refine g_aload_n (pc := 39) hC dX4_findNotes_39 rfl ?_
            refine fg_X4_27_38 (pc := 40) hC dX4_findNotes_40 ?_
            refine g_iload_n (pc := 43) hC dX4_findNotes_43 rfl ?_
            refine g_iconst (pc := 44) hC ki_1 dX4_findNotes_44 ?_
            refine g_isub (pc := 45) hC dX4_findNotes_45 ?_
            obtain ⟨v10, hc, h⟩ := cp_e h
            refine g_callVi (pc := 46) (As := [.int (w2 - 1)]) (rest := []) hC (c_X5_lagIn l E (w2 - 1) σ3 v10 hc) mi_X5_lagIn mv_X5_lagIn ob_16 rfl rfl lk_X4_67 rfl rfl (Nat.le_of_ble_eq_true rfl) ⟨by decide, by decide⟩ hab dX4_findNotes_46 ?_
            exact hJ49 v10 h
          · replace h := it_t c9 h
            refine g_iconst (pc := 35) hC ki_0 dX4_findNotes_35 ?_
            refine g_goto (tgt := 49) (pc := 36) hC dX4_findNotes_36 (by decide) ?_
            exact hJ49 0 h
  obtain ⟨z1, hz1, h⟩ := lp_e h
  refine hL1 FU 0 σ1 z1 hz1 (fun σ4 ez => ?_)
  replace h : C_X4_findNotes_7 σ4 = some σr := by rw [ez] at h; exact h
  delta C_X4_findNotes_7 at h
  exact g_retv (pc := 115) hC h hR dX4_findNotes_115
set_option maxRecDepth 20000 in
theorem c_X4_tallyLags_43 (l : Launch) (E : uE) (a2 : Int32) (a3 : Int32) (σ : uS) (r : Int32) (σr : uS) (h : F_X4_tallyLags_43 a2 a3 σ = some (r, σr)) : CtI l E yX4_tallyLags cX4_tallyLags 7 (some .int) 1 21 [.ref (E.2.1 38), .ref (E.2.1 43), .int a2, .int a3] σ r σr := by
  refine enterI 3 [some (.ref (E.2.1 38)), some (.ref (E.2.1 43)), some (.int a2), some (.int a3), none, none, none] (by decide +kernel) rfl (Nat.le_of_ble_eq_true rfl) (fun o K hnL hC hab hR => ?_)
  have hC : Cx E K RX4 cX4_tallyLags (some .int) 1 21 := hC
  have hN : ∀ k, k < 7 → k < K.2.2.2.2.2 := fun k hk => hnL ▸ hk
  delta F_X4_tallyLags_43 at h
  refine g_iconst (pc := 0) hC ki_0 dX4_tallyLags_0 ?_
  refine g_istore (lv2 := [some (.ref (E.2.1 38)), some (.ref (E.2.1 43)), some (.int a2), some (.int a3), some (.int 0), none, none]) (pc := 1) hC dX4_tallyLags_1 rfl (Or.inr rfl) (hN _ (by decide)) ?_
  refine g_iconst (pc := 3) hC ki_0 dX4_tallyLags_3 ?_
  refine g_istore (lv2 := [some (.ref (E.2.1 38)), some (.ref (E.2.1 43)), some (.int a2), some (.int a3), some (.int 0), some (.int 0), none]) (pc := 4) hC dX4_tallyLags_4 rfl (Or.inr rfl) (hN _ (by decide)) ?_
  have hL1 : ∀ (n : Nat) (w1 : Int32) (σ2 : uS) (z1 : uS), iter n (fun z => B_X4_tallyLags_43_2 z.1 z.2) (w1, σ2) = some z1 → (∀ (σ3 : uS), z1 = σ3 → Gd l E K 0 0 o σ3 24 [some (.ref (E.2.1 38)), some (.ref (E.2.1 43)), some (.int a2), some (.int a3), some (.int 0), none, none] []) → Gd l E K 0 0 o σ2 6 [some (.ref (E.2.1 38)), some (.ref (E.2.1 43)), some (.int a2), some (.int a3), some (.int 0), some (.int w1), none] [] := by
    intro n
    induction n with
    | zero =>
      intro w1 σ2 z1 hi
      exact (iter_0 hi).elim
    | succ n ih1 =>
      intro w1 σ2 z1 hi1 kx1
      obtain ⟨r1, h, hi1⟩ := iter_s hi1
      replace h : B_X4_tallyLags_43_2 w1 σ2 = some r1 := h
      delta B_X4_tallyLags_43_2 at h
      refine g_iload (pc := 6) hC dX4_tallyLags_6 rfl ?_
      refine g_bipush (pc := 8) hC kb_50 dX4_tallyLags_8 ?_
      refine g_icmp_ge (tgt := 24) (pc := 10) hC dX4_tallyLags_10 (by decide) (fun c4 => ?_) (fun c4 => ?_)
      · replace h := it_t c4 h
        refine g_mask [true, true, true, true, true, false, false] rfl ?_
        exact kx1 σ2 (iter_r h hi1)
      · replace h := it_f c4 h
        refine g_aload_n (pc := 13) hC dX4_tallyLags_13 rfl ?_
        refine g_iload (pc := 14) hC dX4_tallyLags_14 rfl ?_
        refine g_iconst (pc := 16) hC ki_0 dX4_tallyLags_16 ?_
        obtain ⟨σ5, eσ5, nσ5, h⟩ := wr_e h
        refine g_iast (pc := 17) hC 43 (by decide) (ar_43 _ _) nσ5 dX4_tallyLags_17 eσ5 ?_
        obtain ⟨v6, ev6, h⟩ := lt_e h
        refine g_iinc (v := v6) (lv2 := [some (.ref (E.2.1 38)), some (.ref (E.2.1 43)), some (.int a2), some (.int a3), some (.int 0), some (.int v6), none]) (pc := 18) hC dX4_tallyLags_18 rfl ev6 rfl (Or.inr rfl) (hN _ (by decide)) ?_
        refine g_goto (tgt := 6) (pc := 21) hC dX4_tallyLags_21 (by decide) ?_
        exact ih1 v6 σ5 z1 (iter_l h hi1) kx1
  obtain ⟨z1, hz1, h⟩ := lp_e h
  refine hL1 FU 0 σ z1 hz1 (fun σ3 ez => ?_)
  replace h : C_X4_tallyLags_43_7 a2 a3 σ3 = some (r, σr) := by rw [ez] at h; exact h
  delta C_X4_tallyLags_43_7 at h
  refine g_iload_n (pc := 24) hC dX4_tallyLags_24 rfl ?_
  refine g_istore (lv2 := [some (.ref (E.2.1 38)), some (.ref (E.2.1 43)), some (.int a2), some (.int a3), some (.int 0), some (.int a2), none]) (pc := 25) hC dX4_tallyLags_25 rfl (Or.inr rfl) (hN _ (by decide)) ?_
  have hL3 : ∀ (n : Nat) (w7 : Int32) (w8 : Int32) (σ9 : uS) (z3 : Int32 × uS), iter n (fun z => B_X4_tallyLags_43_5 a2 a3 z.1 z.2.1 z.2.2) (w7, w8, σ9) = some z3 → (∀ (v10 : Int32) (σ11 : uS), z3 = (v10, σ11) → Gd l E K 0 0 o σ11 75 [none, none, none, none, some (.int v10), none, none] []) → Gd l E K 0 0 o σ9 27 [some (.ref (E.2.1 38)), some (.ref (E.2.1 43)), some (.int a2), some (.int a3), some (.int w7), some (.int w8), none] [] := by
    intro n
    induction n with
    | zero =>
      intro w7 w8 σ9 z3 hi
      exact (iter_0 hi).elim
    | succ n ih3 =>
      intro w7 w8 σ9 z3 hi3 kx3
      obtain ⟨r3, h, hi3⟩ := iter_s hi3
      replace h : B_X4_tallyLags_43_5 a2 a3 w7 w8 σ9 = some r3 := h
      delta B_X4_tallyLags_43_5 at h
      refine g_iload (pc := 27) hC dX4_tallyLags_27 rfl ?_
      refine g_iload_n (pc := 29) hC dX4_tallyLags_29 rfl ?_
      refine g_iload_n (pc := 30) hC dX4_tallyLags_30 rfl ?_
      refine g_iadd (pc := 31) hC dX4_tallyLags_31 ?_
      refine g_icmp_ge (tgt := 75) (pc := 32) hC dX4_tallyLags_32 (by decide) (fun c12 => ?_) (fun c12 => ?_)
      · replace h := it_t c12 h
        refine g_mask [false, false, false, false, true, false, false] rfl ?_
        exact kx3 w7 σ9 (iter_r h hi3)
      · replace h := it_f c12 h
        refine g_aload_n (pc := 35) hC dX4_tallyLags_35 rfl ?_
        refine fg_X4_27_38 (pc := 36) hC dX4_tallyLags_36 ?_
        refine g_iload (pc := 39) hC dX4_tallyLags_39 rfl ?_
        obtain ⟨v13, hc, h⟩ := cp_e h
        refine g_callVi (pc := 41) (As := [.int w8]) (rest := []) hC (c_X5_lagIn l E w8 σ9 v13 hc) mi_X5_lagIn mv_X5_lagIn ob_16 rfl rfl lk_X4_67 rfl rfl (Nat.le_of_ble_eq_true rfl) ⟨by decide, by decide⟩ hab dX4_tallyLags_41 ?_
        refine g_istore (lv2 := [some (.ref (E.2.1 38)), some (.ref (E.2.1 43)), some (.int a2), some (.int a3), some (.int w7), some (.int w8), some (.int v13)]) (pc := 44) hC dX4_tallyLags_44 rfl (Or.inr rfl) (hN _ (by decide)) ?_
        refine g_iload (pc := 46) hC dX4_tallyLags_46 rfl ?_
        have hJ69 : ∀ (v19 : Int32) (σ20 : uS), J_X4_tallyLags_43_4 w8 v19 σ20 = some r3 → Gd l E K 0 0 o σ20 69 [some (.ref (E.2.1 38)), some (.ref (E.2.1 43)), some (.int a2), some (.int a3), some (.int v19), some (.int w8), none] [] := by
          intro v19 σ20 h
          delta J_X4_tallyLags_43_4 at h
          obtain ⟨v21, ev21, h⟩ := lt_e h
          refine g_iinc (v := v21) (lv2 := [some (.ref (E.2.1 38)), some (.ref (E.2.1 43)), some (.int a2), some (.int a3), some (.int v19), some (.int v21), none]) (pc := 69) hC dX4_tallyLags_69 rfl ev21 rfl (Or.inr rfl) (hN _ (by decide)) ?_
          refine g_goto (tgt := 27) (pc := 72) hC dX4_tallyLags_72 (by decide) ?_
          exact ih3 v19 v21 σ20 z3 (iter_l h hi3) kx3
        refine g_if_le (tgt := 69) (pc := 48) hC dX4_tallyLags_48 (by decide) (fun c14 => ?_) (fun c14 => ?_)
        · replace h := it_t c14 h
          refine g_mask [true, true, true, true, true, true, false] rfl ?_
          exact hJ69 w7 σ9 h
        · replace h := it_f c14 h
          refine g_iload (pc := 51) hC dX4_tallyLags_51 rfl ?_
          refine g_bipush (pc := 53) hC kb_50 dX4_tallyLags_53 ?_
          refine g_icmp_ge (tgt := 69) (pc := 55) hC dX4_tallyLags_55 (by decide) (fun c15 => ?_) (fun c15 => ?_)
          · replace h := it_t c15 h
            refine g_mask [true, true, true, true, true, true, false] rfl ?_
            exact hJ69 w7 σ9 h
          · replace h := it_f c15 h
            refine g_aload_n (pc := 58) hC dX4_tallyLags_58 rfl ?_
            refine g_iload (pc := 59) hC dX4_tallyLags_59 rfl ?_
            refine g_dup2 (pc := 61) hC rfl rfl dX4_tallyLags_61 ?_
            obtain ⟨v16, ev16, nv16, h⟩ := rd_e h
            refine g_iald (pc := 62) hC 43 (by decide) (ar_43 _ _ _) nv16 dX4_tallyLags_62 ?_
            refine g_top ev16 ?_
            refine g_iconst (pc := 63) hC ki_1 dX4_tallyLags_63 ?_
            refine g_iadd (pc := 64) hC dX4_tallyLags_64 ?_
            obtain ⟨σ17, eσ17, nσ17, h⟩ := wr_e h
            refine g_iast (pc := 65) hC 43 (by decide) (ar_43 _ _) nσ17 dX4_tallyLags_65 eσ17 ?_
            obtain ⟨v18, ev18, h⟩ := lt_e h
            refine g_iinc (v := v18) (lv2 := [some (.ref (E.2.1 38)), some (.ref (E.2.1 43)), some (.int a2), some (.int a3), some (.int v18), some (.int w8), some (.int v13)]) (pc := 66) hC dX4_tallyLags_66 rfl ev18 rfl (Or.inr rfl) (hN _ (by decide)) ?_
            refine g_mask [true, true, true, true, true, true, false] rfl ?_
            exact hJ69 v18 σ17 h
  obtain ⟨z3, hz3, h⟩ := lp_e h
  refine hL3 FU 0 a2 σ3 z3 hz3 (fun v10 σ11 ez => ?_)
  replace h : C_X4_tallyLags_43_6 v10 σ11 = some (r, σr) := by rw [ez] at h; exact h
  delta C_X4_tallyLags_43_6 at h
  refine g_iload (pc := 75) hC dX4_tallyLags_75 rfl ?_
  exact g_ret (pc := 77) hC h hR dX4_tallyLags_77
set_option maxRecDepth 20000 in
theorem c_X11_middleLag_43 (l : Launch) (E : uE) (a2 : Int32) (σ : uS) (r : Int32) (h : F_X11_middleLag_43 a2 σ = some r) : CtI l E yX11_middleLag cX11_middleLag 4 (some .int) 0 0 [.ref (E.2.1 43), .int a2] σ r σ := by
  refine enterI 2 [some (.ref (E.2.1 43)), some (.int a2), none, none] (by decide +kernel) rfl (Nat.le_of_ble_eq_true rfl) (fun o K hnL hC hab hR => ?_)
  have hC : Cx E K RX11 cX11_middleLag (some .int) 0 0 := hC
  have hN : ∀ k, k < 4 → k < K.2.2.2.2.2 := fun k hk => hnL ▸ hk
  delta F_X11_middleLag_43 at h
  refine g_iconst (pc := 0) hC ki_0 dX11_middleLag_0 ?_
  refine g_istore_n (lv2 := [some (.ref (E.2.1 43)), some (.int a2), some (.int 0), none]) (pc := 1) hC dX11_middleLag_1 rfl (Or.inr rfl) (hN _ (by decide)) ?_
  refine g_iconst (pc := 2) hC ki_0 dX11_middleLag_2 ?_
  refine g_istore_n (lv2 := [some (.ref (E.2.1 43)), some (.int a2), some (.int 0), some (.int 0)]) (pc := 3) hC dX11_middleLag_3 rfl (Or.inr rfl) (hN _ (by decide)) ?_
  have hL1 : ∀ (n : Nat) (w1 : Int32) (w2 : Int32) (z1 : (Unit) ⊕ (Int32)), iter n (fun z => B_X11_middleLag_43_2 a2 σ z.1 z.2) (w1, w2) = some z1 → (z1 = .inl () → Gd l E K 0 0 o σ 33 [none, none, none, none] []) → (∀ q, z1 = .inr q → some q = some r) → Gd l E K 0 0 o σ 4 [some (.ref (E.2.1 43)), some (.int a2), some (.int w1), some (.int w2)] [] := by
    intro n
    induction n with
    | zero =>
      intro w1 w2 z1 hi
      exact (iter_0 hi).elim
    | succ n ih1 =>
      intro w1 w2 z1 hi1 kx1 kr1
      obtain ⟨r1, h, hi1⟩ := iter_s hi1
      replace h : B_X11_middleLag_43_2 a2 σ w1 w2 = some r1 := h
      delta B_X11_middleLag_43_2 at h
      refine g_iload_n (pc := 4) hC dX11_middleLag_4 rfl ?_
      refine g_aload_n (pc := 5) hC dX11_middleLag_5 rfl ?_
      refine g_alen (pc := 6) hC 43 (by decide) (ar_43 _ _ _) rfl dX11_middleLag_6 ?_
      refine g_icmp_ge (tgt := 33) (pc := 7) hC dX11_middleLag_7 (by decide) (fun c3 => ?_) (fun c3 => ?_)
      · replace h := it_t c3 h
        refine g_mask [false, false, false, false] rfl ?_
        exact kx1 (iter_r h hi1)
      · replace h := it_f c3 h
        refine g_iload_n (pc := 10) hC dX11_middleLag_10 rfl ?_
        refine g_aload_n (pc := 11) hC dX11_middleLag_11 rfl ?_
        refine g_iload_n (pc := 12) hC dX11_middleLag_12 rfl ?_
        obtain ⟨v4, ev4, nv4, h⟩ := rd_e h
        refine g_iald (pc := 13) hC 43 (by decide) (ar_43 _ _ _) nv4 dX11_middleLag_13 ?_
        refine g_top ev4 ?_
        refine g_iadd (pc := 14) hC dX11_middleLag_14 ?_
        obtain ⟨v5, ev5, h⟩ := lt_e h
        refine g_top ev5 ?_
        refine g_istore_n (lv2 := [some (.ref (E.2.1 43)), some (.int a2), some (.int v5), some (.int w2)]) (pc := 15) hC dX11_middleLag_15 rfl (Or.inr rfl) (hN _ (by decide)) ?_
        refine g_iload_n (pc := 16) hC dX11_middleLag_16 rfl ?_
        refine g_iload_n (pc := 17) hC dX11_middleLag_17 rfl ?_
        refine g_iconst (pc := 18) hC ki_1 dX11_middleLag_18 ?_
        refine g_isub (pc := 19) hC dX11_middleLag_19 ?_
        refine g_iconst (pc := 20) hC ki_2 dX11_middleLag_20 ?_
        obtain ⟨v6, ev6, nv6, h⟩ := dv_e h
        refine g_idiv (pc := 21) hC nv6 dX11_middleLag_21 ?_
        refine g_top ev6 ?_
        refine g_icmp_le (tgt := 27) (pc := 22) hC dX11_middleLag_22 (by decide) (fun c7 => ?_) (fun c7 => ?_)
        · replace h := it_t c7 h
          obtain ⟨v8, ev8, h⟩ := lt_e h
          refine g_iinc (v := v8) (lv2 := [some (.ref (E.2.1 43)), some (.int a2), some (.int v5), some (.int v8)]) (pc := 27) hC dX11_middleLag_27 rfl ev8 rfl (Or.inr rfl) (hN _ (by decide)) ?_
          refine g_goto (tgt := 4) (pc := 30) hC dX11_middleLag_30 (by decide) ?_
          exact ih1 v5 v8 z1 (iter_l h hi1) kx1 kr1
        · replace h := it_f c7 h
          refine g_iload_n (pc := 25) hC dX11_middleLag_25 rfl ?_
          exact g_retp (pc := 26) hC (kr1 _ (iter_r h hi1)) hR dX11_middleLag_26
  obtain ⟨z1, hz1, h⟩ := lp_e h
  refine hL1 FU 0 0 z1 hz1 (fun ez => ?_) (fun q ez => by rw [ez] at h; exact h)
  replace h : C_X11_middleLag_43_3 = some r := by rw [ez] at h; exact h
  delta C_X11_middleLag_43_3 at h
  refine g_iconst (pc := 33) hC ki_m1 dX11_middleLag_33 ?_
  exact g_retp (pc := 34) hC h hR dX11_middleLag_34
set_option maxRecDepth 20000 in
theorem c_X4_tallyLags_42 (l : Launch) (E : uE) (a2 : Int32) (a3 : Int32) (σ : uS) (r : Int32) (σr : uS) (h : F_X4_tallyLags_42 a2 a3 σ = some (r, σr)) : CtI l E yX4_tallyLags cX4_tallyLags 7 (some .int) 1 21 [.ref (E.2.1 38), .ref (E.2.1 42), .int a2, .int a3] σ r σr := by
  refine enterI 3 [some (.ref (E.2.1 38)), some (.ref (E.2.1 42)), some (.int a2), some (.int a3), none, none, none] (by decide +kernel) rfl (Nat.le_of_ble_eq_true rfl) (fun o K hnL hC hab hR => ?_)
  have hC : Cx E K RX4 cX4_tallyLags (some .int) 1 21 := hC
  have hN : ∀ k, k < 7 → k < K.2.2.2.2.2 := fun k hk => hnL ▸ hk
  delta F_X4_tallyLags_42 at h
  refine g_iconst (pc := 0) hC ki_0 dX4_tallyLags_0 ?_
  refine g_istore (lv2 := [some (.ref (E.2.1 38)), some (.ref (E.2.1 42)), some (.int a2), some (.int a3), some (.int 0), none, none]) (pc := 1) hC dX4_tallyLags_1 rfl (Or.inr rfl) (hN _ (by decide)) ?_
  refine g_iconst (pc := 3) hC ki_0 dX4_tallyLags_3 ?_
  refine g_istore (lv2 := [some (.ref (E.2.1 38)), some (.ref (E.2.1 42)), some (.int a2), some (.int a3), some (.int 0), some (.int 0), none]) (pc := 4) hC dX4_tallyLags_4 rfl (Or.inr rfl) (hN _ (by decide)) ?_
  have hL1 : ∀ (n : Nat) (w1 : Int32) (σ2 : uS) (z1 : uS), iter n (fun z => B_X4_tallyLags_42_2 z.1 z.2) (w1, σ2) = some z1 → (∀ (σ3 : uS), z1 = σ3 → Gd l E K 0 0 o σ3 24 [some (.ref (E.2.1 38)), some (.ref (E.2.1 42)), some (.int a2), some (.int a3), some (.int 0), none, none] []) → Gd l E K 0 0 o σ2 6 [some (.ref (E.2.1 38)), some (.ref (E.2.1 42)), some (.int a2), some (.int a3), some (.int 0), some (.int w1), none] [] := by
    intro n
    induction n with
    | zero =>
      intro w1 σ2 z1 hi
      exact (iter_0 hi).elim
    | succ n ih1 =>
      intro w1 σ2 z1 hi1 kx1
      obtain ⟨r1, h, hi1⟩ := iter_s hi1
      replace h : B_X4_tallyLags_42_2 w1 σ2 = some r1 := h
      delta B_X4_tallyLags_42_2 at h
      refine g_iload (pc := 6) hC dX4_tallyLags_6 rfl ?_
      refine g_bipush (pc := 8) hC kb_50 dX4_tallyLags_8 ?_
      refine g_icmp_ge (tgt := 24) (pc := 10) hC dX4_tallyLags_10 (by decide) (fun c4 => ?_) (fun c4 => ?_)
      · replace h := it_t c4 h
        refine g_mask [true, true, true, true, true, false, false] rfl ?_
        exact kx1 σ2 (iter_r h hi1)
      · replace h := it_f c4 h
        refine g_aload_n (pc := 13) hC dX4_tallyLags_13 rfl ?_
        refine g_iload (pc := 14) hC dX4_tallyLags_14 rfl ?_
        refine g_iconst (pc := 16) hC ki_0 dX4_tallyLags_16 ?_
        obtain ⟨σ5, eσ5, nσ5, h⟩ := wr_e h
        refine g_iast (pc := 17) hC 42 (by decide) (ar_42 _ _) nσ5 dX4_tallyLags_17 eσ5 ?_
        obtain ⟨v6, ev6, h⟩ := lt_e h
        refine g_iinc (v := v6) (lv2 := [some (.ref (E.2.1 38)), some (.ref (E.2.1 42)), some (.int a2), some (.int a3), some (.int 0), some (.int v6), none]) (pc := 18) hC dX4_tallyLags_18 rfl ev6 rfl (Or.inr rfl) (hN _ (by decide)) ?_
        refine g_goto (tgt := 6) (pc := 21) hC dX4_tallyLags_21 (by decide) ?_
        exact ih1 v6 σ5 z1 (iter_l h hi1) kx1
  obtain ⟨z1, hz1, h⟩ := lp_e h
  refine hL1 FU 0 σ z1 hz1 (fun σ3 ez => ?_)
  replace h : C_X4_tallyLags_42_7 a2 a3 σ3 = some (r, σr) := by rw [ez] at h; exact h
  delta C_X4_tallyLags_42_7 at h
  refine g_iload_n (pc := 24) hC dX4_tallyLags_24 rfl ?_
  refine g_istore (lv2 := [some (.ref (E.2.1 38)), some (.ref (E.2.1 42)), some (.int a2), some (.int a3), some (.int 0), some (.int a2), none]) (pc := 25) hC dX4_tallyLags_25 rfl (Or.inr rfl) (hN _ (by decide)) ?_
  have hL3 : ∀ (n : Nat) (w7 : Int32) (w8 : Int32) (σ9 : uS) (z3 : Int32 × uS), iter n (fun z => B_X4_tallyLags_42_5 a2 a3 z.1 z.2.1 z.2.2) (w7, w8, σ9) = some z3 → (∀ (v10 : Int32) (σ11 : uS), z3 = (v10, σ11) → Gd l E K 0 0 o σ11 75 [none, none, none, none, some (.int v10), none, none] []) → Gd l E K 0 0 o σ9 27 [some (.ref (E.2.1 38)), some (.ref (E.2.1 42)), some (.int a2), some (.int a3), some (.int w7), some (.int w8), none] [] := by
    intro n
    induction n with
    | zero =>
      intro w7 w8 σ9 z3 hi
      exact (iter_0 hi).elim
    | succ n ih3 =>
      intro w7 w8 σ9 z3 hi3 kx3
      obtain ⟨r3, h, hi3⟩ := iter_s hi3
      replace h : B_X4_tallyLags_42_5 a2 a3 w7 w8 σ9 = some r3 := h
      delta B_X4_tallyLags_42_5 at h
      refine g_iload (pc := 27) hC dX4_tallyLags_27 rfl ?_
      refine g_iload_n (pc := 29) hC dX4_tallyLags_29 rfl ?_
      refine g_iload_n (pc := 30) hC dX4_tallyLags_30 rfl ?_
      refine g_iadd (pc := 31) hC dX4_tallyLags_31 ?_
      refine g_icmp_ge (tgt := 75) (pc := 32) hC dX4_tallyLags_32 (by decide) (fun c12 => ?_) (fun c12 => ?_)
      · replace h := it_t c12 h
        refine g_mask [false, false, false, false, true, false, false] rfl ?_
        exact kx3 w7 σ9 (iter_r h hi3)
      · replace h := it_f c12 h
        refine g_aload_n (pc := 35) hC dX4_tallyLags_35 rfl ?_
        refine fg_X4_27_38 (pc := 36) hC dX4_tallyLags_36 ?_
        refine g_iload (pc := 39) hC dX4_tallyLags_39 rfl ?_
        obtain ⟨v13, hc, h⟩ := cp_e h
        refine g_callVi (pc := 41) (As := [.int w8]) (rest := []) hC (c_X5_lagIn l E w8 σ9 v13 hc) mi_X5_lagIn mv_X5_lagIn ob_16 rfl rfl lk_X4_67 rfl rfl (Nat.le_of_ble_eq_true rfl) ⟨by decide, by decide⟩ hab dX4_tallyLags_41 ?_
        refine g_istore (lv2 := [some (.ref (E.2.1 38)), some (.ref (E.2.1 42)), some (.int a2), some (.int a3), some (.int w7), some (.int w8), some (.int v13)]) (pc := 44) hC dX4_tallyLags_44 rfl (Or.inr rfl) (hN _ (by decide)) ?_
        refine g_iload (pc := 46) hC dX4_tallyLags_46 rfl ?_
        have hJ69 : ∀ (v19 : Int32) (σ20 : uS), J_X4_tallyLags_42_4 w8 v19 σ20 = some r3 → Gd l E K 0 0 o σ20 69 [some (.ref (E.2.1 38)), some (.ref (E.2.1 42)), some (.int a2), some (.int a3), some (.int v19), some (.int w8), none] [] := by
          intro v19 σ20 h
          delta J_X4_tallyLags_42_4 at h
          obtain ⟨v21, ev21, h⟩ := lt_e h
          refine g_iinc (v := v21) (lv2 := [some (.ref (E.2.1 38)), some (.ref (E.2.1 42)), some (.int a2), some (.int a3), some (.int v19), some (.int v21), none]) (pc := 69) hC dX4_tallyLags_69 rfl ev21 rfl (Or.inr rfl) (hN _ (by decide)) ?_
          refine g_goto (tgt := 27) (pc := 72) hC dX4_tallyLags_72 (by decide) ?_
          exact ih3 v19 v21 σ20 z3 (iter_l h hi3) kx3
        refine g_if_le (tgt := 69) (pc := 48) hC dX4_tallyLags_48 (by decide) (fun c14 => ?_) (fun c14 => ?_)
        · replace h := it_t c14 h
          refine g_mask [true, true, true, true, true, true, false] rfl ?_
          exact hJ69 w7 σ9 h
        · replace h := it_f c14 h
          refine g_iload (pc := 51) hC dX4_tallyLags_51 rfl ?_
          refine g_bipush (pc := 53) hC kb_50 dX4_tallyLags_53 ?_
          refine g_icmp_ge (tgt := 69) (pc := 55) hC dX4_tallyLags_55 (by decide) (fun c15 => ?_) (fun c15 => ?_)
          · replace h := it_t c15 h
            refine g_mask [true, true, true, true, true, true, false] rfl ?_
            exact hJ69 w7 σ9 h
          · replace h := it_f c15 h
            refine g_aload_n (pc := 58) hC dX4_tallyLags_58 rfl ?_
            refine g_iload (pc := 59) hC dX4_tallyLags_59 rfl ?_
            refine g_dup2 (pc := 61) hC rfl rfl dX4_tallyLags_61 ?_
            obtain ⟨v16, ev16, nv16, h⟩ := rd_e h
            refine g_iald (pc := 62) hC 42 (by decide) (ar_42 _ _ _) nv16 dX4_tallyLags_62 ?_
            refine g_top ev16 ?_
            refine g_iconst (pc := 63) hC ki_1 dX4_tallyLags_63 ?_
            refine g_iadd (pc := 64) hC dX4_tallyLags_64 ?_
            obtain ⟨σ17, eσ17, nσ17, h⟩ := wr_e h
            refine g_iast (pc := 65) hC 42 (by decide) (ar_42 _ _) nσ17 dX4_tallyLags_65 eσ17 ?_
            obtain ⟨v18, ev18, h⟩ := lt_e h
            refine g_iinc (v := v18) (lv2 := [some (.ref (E.2.1 38)), some (.ref (E.2.1 42)), some (.int a2), some (.int a3), some (.int v18), some (.int w8), some (.int v13)]) (pc := 66) hC dX4_tallyLags_66 rfl ev18 rfl (Or.inr rfl) (hN _ (by decide)) ?_
            refine g_mask [true, true, true, true, true, true, false] rfl ?_
            exact hJ69 v18 σ17 h
  obtain ⟨z3, hz3, h⟩ := lp_e h
  refine hL3 FU 0 a2 σ3 z3 hz3 (fun v10 σ11 ez => ?_)
  replace h : C_X4_tallyLags_42_6 v10 σ11 = some (r, σr) := by rw [ez] at h; exact h
  delta C_X4_tallyLags_42_6 at h
  refine g_iload (pc := 75) hC dX4_tallyLags_75 rfl ?_
  exact g_ret (pc := 77) hC h hR dX4_tallyLags_77
set_option maxRecDepth 20000 in
theorem c_X4_findSteady (l : Launch) (E : uE) (σ : uS) (σr : uS) (h : F_X4_findSteady σ = some σr) : CtV l E yX4_findSteady cX4_findSteady 3 1 21 [.ref (E.2.1 38)] σ σr := by
  refine enterV 2 [some (.ref (E.2.1 38)), none, none] (by decide +kernel) rfl (Nat.le_of_ble_eq_true rfl) (fun o K hnL hC hab hR => ?_)
  have hC : Cx E K RX4 cX4_findSteady none 1 21 := hC
  have hN : ∀ k, k < 3 → k < K.2.2.2.2.2 := fun k hk => hnL ▸ hk
  delta F_X4_findSteady at h
  refine g_aload_n (pc := 0) hC dX4_findSteady_0 rfl ?_
  refine g_iconst (pc := 1) hC ki_m1 dX4_findSteady_1 ?_
  obtain ⟨σ1, eσ1, h⟩ := pf_e h
  refine fp_X4_61_38 (pc := 2) hC dX4_findSteady_2 eσ1 ?_
  refine g_aload_n (pc := 5) hC dX4_findSteady_5 rfl ?_
  refine g_iconst (pc := 6) hC ki_0 dX4_findSteady_6 ?_
  obtain ⟨σ2, eσ2, h⟩ := pf_e h
  refine fp_X4_64_38 (pc := 7) hC dX4_findSteady_7 eσ2 ?_
  refine g_iconst (pc := 10) hC ki_0 dX4_findSteady_10 ?_
  refine g_istore_n (lv2 := [some (.ref (E.2.1 38)), some (.int 0), none]) (pc := 11) hC dX4_findSteady_11 rfl (Or.inr rfl) (hN _ (by decide)) ?_
  refine g_iconst (pc := 12) hC ki_0 dX4_findSteady_12 ?_
  refine g_istore_n (lv2 := [some (.ref (E.2.1 38)), some (.int 0), some (.int 0)]) (pc := 13) hC dX4_findSteady_13 rfl (Or.inr rfl) (hN _ (by decide)) ?_
  have hL1 : ∀ (n : Nat) (w3 : Int32) (w4 : Int32) (σ5 : uS) (z1 : uS), iter n (fun z => B_X4_findSteady_3 z.1 z.2.1 z.2.2) (w3, w4, σ5) = some z1 → (∀ (σ6 : uS), z1 = σ6 → Gd l E K 0 0 o σ6 89 [none, none, none] []) → Gd l E K 0 0 o σ5 14 [some (.ref (E.2.1 38)), some (.int w3), some (.int w4)] [] := by
    intro n
    induction n with
    | zero =>
      intro w3 w4 σ5 z1 hi
      exact (iter_0 hi).elim
    | succ n ih1 =>
      intro w3 w4 σ5 z1 hi1 kx1
      obtain ⟨r1, h, hi1⟩ := iter_s hi1
      replace h : B_X4_findSteady_3 w3 w4 σ5 = some r1 := h
      delta B_X4_findSteady_3 at h
      refine g_iload_n (pc := 14) hC dX4_findSteady_14 rfl ?_
      refine g_aload_n (pc := 15) hC dX4_findSteady_15 rfl ?_
      refine fg_X4_27_38 (pc := 16) hC dX4_findSteady_16 ?_
      obtain ⟨v7, hc, h⟩ := cp_e h
      refine g_callVi (pc := 19) (As := []) (rest := [.int w4]) hC (c_X5_size l E σ5 v7 hc) mi_X5_size mv_X5_size ob_16 rfl rfl lk_X4_46 rfl rfl (Nat.le_of_ble_eq_true rfl) ⟨by decide, by decide⟩ hab dX4_findSteady_19 ?_
      refine g_icmp_ge (tgt := 89) (pc := 22) hC dX4_findSteady_22 (by decide) (fun c8 => ?_) (fun c8 => ?_)
      · replace h := it_t c8 h
        refine g_mask [false, false, false] rfl ?_
        exact kx1 σ5 (iter_r h hi1)
      · replace h := it_f c8 h
        refine g_aload_n (pc := 25) hC dX4_findSteady_25 rfl ?_
        refine fg_X4_27_38 (pc := 26) hC dX4_findSteady_26 ?_
        refine g_iload_n (pc := 29) hC dX4_findSteady_29 rfl ?_
        obtain ⟨v9, hc, h⟩ := cp_e h
        refine g_callVi (pc := 30) (As := [.int w4]) (rest := []) hC (c_X5_lagIn l E w4 σ5 v9 hc) mi_X5_lagIn mv_X5_lagIn ob_16 rfl rfl lk_X4_67 rfl rfl (Nat.le_of_ble_eq_true rfl) ⟨by decide, by decide⟩ hab dX4_findSteady_30 ?_
        refine g_aload_n (pc := 33) hC dX4_findSteady_33 rfl ?_
        refine fg_X4_27_38 (pc := 34) hC dX4_findSteady_34 ?_
        refine g_iload_n (pc := 37) hC dX4_findSteady_37 rfl ?_
        obtain ⟨v10, hc, h⟩ := cp_e h
        refine g_callVi (pc := 38) (As := [.int w3]) (rest := [.int v9]) hC (c_X5_lagIn l E w3 σ5 v10 hc) mi_X5_lagIn mv_X5_lagIn ob_16 rfl rfl lk_X4_67 rfl rfl (Nat.le_of_ble_eq_true rfl) ⟨by decide, by decide⟩ hab dX4_findSteady_38 ?_
        obtain ⟨v12, ev12, h⟩ := lt_e h
        have hJ46 : Gd l E K 0 0 o σ5 46 [some (.ref (E.2.1 38)), some (.int v12), some (.int w4)] [] := by
          refine g_aload_n (pc := 46) hC dX4_findSteady_46 rfl ?_
          refine fg_X4_27_38 (pc := 47) hC dX4_findSteady_47 ?_
          refine g_iload_n (pc := 50) hC dX4_findSteady_50 rfl ?_
          obtain ⟨v13, hc, h⟩ := cp_e h
          refine g_callVi (pc := 51) (As := [.int w4]) (rest := []) hC (c_X5_lagIn l E w4 σ5 v13 hc) mi_X5_lagIn mv_X5_lagIn ob_16 rfl rfl lk_X4_67 rfl rfl (Nat.le_of_ble_eq_true rfl) ⟨by decide, by decide⟩ hab dX4_findSteady_51 ?_
          have hJ83 : ∀ (σ18 : uS), J_X4_findSteady_2 v12 w4 σ18 = some r1 → Gd l E K 0 0 o σ18 83 [some (.ref (E.2.1 38)), some (.int v12), some (.int w4)] [] := by
            intro σ18 h
            delta J_X4_findSteady_2 at h
            obtain ⟨v19, ev19, h⟩ := lt_e h
            refine g_iinc (v := v19) (lv2 := [some (.ref (E.2.1 38)), some (.int v12), some (.int v19)]) (pc := 83) hC dX4_findSteady_83 rfl ev19 rfl (Or.inr rfl) (hN _ (by decide)) ?_
            refine g_goto (tgt := 14) (pc := 86) hC dX4_findSteady_86 (by decide) ?_
            exact ih1 v12 v19 σ18 z1 (iter_l h hi1) kx1
          refine g_if_eq (tgt := 83) (pc := 54) hC dX4_findSteady_54 (by decide) (fun c14 => ?_) (fun c14 => ?_)
          · replace h := it_t c14 h
            exact hJ83 σ5 h
          · replace h := it_f c14 h
            refine g_iload_n (pc := 57) hC dX4_findSteady_57 rfl ?_
            refine g_iload_n (pc := 58) hC dX4_findSteady_58 rfl ?_
            refine g_isub (pc := 59) hC dX4_findSteady_59 ?_
            refine g_iconst (pc := 60) hC ki_1 dX4_findSteady_60 ?_
            refine g_iadd (pc := 61) hC dX4_findSteady_61 ?_
            refine g_aload_n (pc := 62) hC dX4_findSteady_62 rfl ?_
            refine fg_X4_64_38 (pc := 63) hC dX4_findSteady_63 ?_
            refine g_icmp_le (tgt := 83) (pc := 66) hC dX4_findSteady_66 (by decide) (fun c15 => ?_) (fun c15 => ?_)
            · replace h := it_t c15 h
              exact hJ83 σ5 h
            · replace h := it_f c15 h
              refine g_aload_n (pc := 69) hC dX4_findSteady_69 rfl ?_
              refine g_iload_n (pc := 70) hC dX4_findSteady_70 rfl ?_
              obtain ⟨σ16, eσ16, h⟩ := pf_e h
              refine fp_X4_61_38 (pc := 71) hC dX4_findSteady_71 eσ16 ?_
              refine g_aload_n (pc := 74) hC dX4_findSteady_74 rfl ?_
              refine g_iload_n (pc := 75) hC dX4_findSteady_75 rfl ?_
              refine g_iload_n (pc := 76) hC dX4_findSteady_76 rfl ?_
              refine g_isub (pc := 77) hC dX4_findSteady_77 ?_
              refine g_iconst (pc := 78) hC ki_1 dX4_findSteady_78 ?_
              refine g_iadd (pc := 79) hC dX4_findSteady_79 ?_
              obtain ⟨σ17, eσ17, h⟩ := pf_e h
              refine fp_X4_64_38 (pc := 80) hC dX4_findSteady_80 eσ17 ?_
              exact hJ83 σ17 h
        refine g_icmp_eq (tgt := 46) (pc := 41) hC dX4_findSteady_41 (by decide) (fun c11 => ?_) (fun c11 => ?_)
        · have e9 := (iv_t c11 ev12)
          rw [e9] at hJ46
          exact hJ46
        · refine g_iload_n (pc := 44) hC dX4_findSteady_44 rfl ?_
          refine g_istore_n (lv2 := [some (.ref (E.2.1 38)), some (.int w4), some (.int w4)]) (pc := 45) hC dX4_findSteady_45 rfl (Or.inr rfl) (hN _ (by decide)) ?_
          have e9 := (iv_f c11 ev12)
          rw [e9] at hJ46
          exact hJ46
  obtain ⟨z1, hz1, h⟩ := lp_e h
  refine hL1 FU 0 0 σ2 z1 hz1 (fun σ6 ez => ?_)
  replace h : C_X4_findSteady_4 σ6 = some σr := by rw [ez] at h; exact h
  delta C_X4_findSteady_4 at h
  exact g_retv (pc := 89) hC h hR dX4_findSteady_89
set_option maxRecDepth 20000 in
theorem c_X4_find (l : Launch) (E : uE) (σ : uS) (σr : uS) (h : F_X4_find σ = some σr) : CtV l E yX4_find cX4_find 2 2 47 [.ref (E.2.1 38)] σ σr := by
  refine enterV 1 [some (.ref (E.2.1 38)), none] (by decide +kernel) rfl (Nat.le_of_ble_eq_true rfl) (fun o K hnL hC hab hR => ?_)
  have hC : Cx E K RX4 cX4_find none 2 47 := hC
  have hN : ∀ k, k < 2 → k < K.2.2.2.2.2 := fun k hk => hnL ▸ hk
  delta F_X4_find at h
  refine g_aload_n (pc := 0) hC dX4_find_0 rfl ?_
  obtain ⟨σ1, hc, h⟩ := cp_e h
  refine g_callVv (pc := 1) (As := []) (rest := []) hC (c_X4_findNotes l E σ σ1 hc) mi_X4_findNotes mv_X4_findNotes ob_38 rfl rfl lk_X4_31 rfl rfl (Nat.le_of_ble_eq_true rfl) ⟨by decide, by decide⟩ hab dX4_find_1 ?_
  refine g_iconst (pc := 4) hC ki_0 dX4_find_4 ?_
  refine g_istore_n (lv2 := [some (.ref (E.2.1 38)), some (.int 0)]) (pc := 5) hC dX4_find_5 rfl (Or.inr rfl) (hN _ (by decide)) ?_
  have hL1 : ∀ (n : Nat) (w2 : Int32) (σ3 : uS) (z1 : uS), iter n (fun z => B_X4_find_2 z.1 z.2) (w2, σ3) = some z1 → (∀ (σ4 : uS), z1 = σ4 → Gd l E K 0 0 o σ4 60 [some (.ref (E.2.1 38)), none] []) → Gd l E K 0 0 o σ3 6 [some (.ref (E.2.1 38)), some (.int w2)] [] := by
    intro n
    induction n with
    | zero =>
      intro w2 σ3 z1 hi
      exact (iter_0 hi).elim
    | succ n ih1 =>
      intro w2 σ3 z1 hi1 kx1
      obtain ⟨r1, h, hi1⟩ := iter_s hi1
      replace h : B_X4_find_2 w2 σ3 = some r1 := h
      delta B_X4_find_2 at h
      refine g_iload_n (pc := 6) hC dX4_find_6 rfl ?_
      refine g_aload_n (pc := 7) hC dX4_find_7 rfl ?_
      refine fg_X4_34_38 (pc := 8) hC dX4_find_8 ?_
      refine g_icmp_ge (tgt := 60) (pc := 11) hC dX4_find_11 (by decide) (fun c5 => ?_) (fun c5 => ?_)
      · replace h := it_t c5 h
        refine g_mask [true, false] rfl ?_
        exact kx1 σ3 (iter_r h hi1)
      · replace h := it_f c5 h
        refine g_aload_n (pc := 14) hC dX4_find_14 rfl ?_
        refine g_aload_n (pc := 15) hC dX4_find_15 rfl ?_
        refine fg_X4_24_38 (pc := 16) hC dX4_find_16 ?_
        refine g_aload_n (pc := 19) hC dX4_find_19 rfl ?_
        refine fg_X4_9_38 (pc := 20) hC dX4_find_20 ?_
        refine g_iload_n (pc := 23) hC dX4_find_23 rfl ?_
        obtain ⟨v6, ev6, nv6, h⟩ := rd_e h
        refine g_iald (pc := 24) hC 39 (by decide) (ar_39 _ _ _) nv6 dX4_find_24 ?_
        refine g_top ev6 ?_
        refine g_aload_n (pc := 25) hC dX4_find_25 rfl ?_
        refine fg_X4_15_38 (pc := 26) hC dX4_find_26 ?_
        refine g_iload_n (pc := 29) hC dX4_find_29 rfl ?_
        obtain ⟨v7, ev7, nv7, h⟩ := rd_e h
        refine g_iald (pc := 30) hC 40 (by decide) (ar_40 _ _ _) nv7 dX4_find_30 ?_
        refine g_top ev7 ?_
        obtain ⟨v9, σ8, hc, h⟩ := cl_e h
        refine g_callVi (pc := 31) (As := [.ref (E.2.1 43), .int v6, .int v7]) (rest := []) hC (c_X4_tallyLags_43 l E v6 v7 σ3 v9 σ8 hc) mi_X4_tallyLags mv_X4_tallyLags ob_38 rfl rfl lk_X4_38 rfl rfl (Nat.le_of_ble_eq_true rfl) ⟨by decide, by decide⟩ hab dX4_find_31 ?_
        refine g_pop (pc := 34) hC rfl dX4_find_34 ?_
        refine g_aload_n (pc := 35) hC dX4_find_35 rfl ?_
        refine fg_X4_18_38 (pc := 36) hC dX4_find_36 ?_
        refine g_iload_n (pc := 39) hC dX4_find_39 rfl ?_
        refine g_aload_n (pc := 40) hC dX4_find_40 rfl ?_
        refine fg_X4_24_38 (pc := 41) hC dX4_find_41 ?_
        refine g_aload_n (pc := 44) hC dX4_find_44 rfl ?_
        refine fg_X4_15_38 (pc := 45) hC dX4_find_45 ?_
        refine g_iload_n (pc := 48) hC dX4_find_48 rfl ?_
        obtain ⟨v10, ev10, nv10, h⟩ := rd_e h
        refine g_iald (pc := 49) hC 40 (by decide) (ar_40 _ _ _) nv10 dX4_find_49 ?_
        refine g_top ev10 ?_
        obtain ⟨v11, hc, h⟩ := cp_e h
        refine g_callNi (pc := 50) (As := [.ref (E.2.1 43), .int v10]) (rest := [.int w2, .ref (E.2.1 41)]) hC (c_X11_middleLag_43 l E v10 σ8 v11 hc) mi_X11_middleLag ms_X11_middleLag lk_X4_42 rfl rfl (Nat.le_of_ble_eq_true rfl) ⟨by decide, by decide⟩ hab dX4_find_50 ?_
        obtain ⟨σ12, eσ12, nσ12, h⟩ := wr_e h
        refine g_iast (pc := 53) hC 41 (by decide) (ar_41 _ _) nσ12 dX4_find_53 eσ12 ?_
        obtain ⟨v13, ev13, h⟩ := lt_e h
        refine g_iinc (v := v13) (lv2 := [some (.ref (E.2.1 38)), some (.int v13)]) (pc := 54) hC dX4_find_54 rfl ev13 rfl (Or.inr rfl) (hN _ (by decide)) ?_
        refine g_goto (tgt := 6) (pc := 57) hC dX4_find_57 (by decide) ?_
        exact ih1 v13 σ12 z1 (iter_l h hi1) kx1
  obtain ⟨z1, hz1, h⟩ := lp_e h
  refine hL1 FU 0 σ1 z1 hz1 (fun σ4 ez => ?_)
  replace h : C_X4_find_3 σ4 = some σr := by rw [ez] at h; exact h
  delta C_X4_find_3 at h
  refine g_aload_n (pc := 60) hC dX4_find_60 rfl ?_
  refine g_aload_n (pc := 61) hC dX4_find_61 rfl ?_
  refine g_aload_n (pc := 62) hC dX4_find_62 rfl ?_
  refine fg_X4_21_38 (pc := 63) hC dX4_find_63 ?_
  refine g_iconst (pc := 66) hC ki_0 dX4_find_66 ?_
  refine g_aload_n (pc := 67) hC dX4_find_67 rfl ?_
  refine fg_X4_27_38 (pc := 68) hC dX4_find_68 ?_
  obtain ⟨v14, hc, h⟩ := cp_e h
  refine g_callVi (pc := 71) (As := []) (rest := [.int 0, .ref (E.2.1 42), .ref (E.2.1 38), .ref (E.2.1 38)]) hC (c_X5_size l E σ4 v14 hc) mi_X5_size mv_X5_size ob_16 rfl rfl lk_X4_46 rfl rfl (Nat.le_of_ble_eq_true rfl) ⟨by decide, by decide⟩ hab dX4_find_71 ?_
  obtain ⟨v16, σ15, hc, h⟩ := cl_e h
  refine g_callVi (pc := 74) (As := [.ref (E.2.1 42), .int 0, .int v14]) (rest := [.ref (E.2.1 38)]) hC (c_X4_tallyLags_42 l E 0 v14 σ4 v16 σ15 hc) mi_X4_tallyLags mv_X4_tallyLags ob_38 rfl rfl lk_X4_38 rfl rfl (Nat.le_of_ble_eq_true rfl) ⟨by decide, by decide⟩ hab dX4_find_74 ?_
  obtain ⟨σ17, eσ17, h⟩ := pf_e h
  refine fp_X4_51_38 (pc := 77) hC dX4_find_77 eσ17 ?_
  refine g_aload_n (pc := 80) hC dX4_find_80 rfl ?_
  obtain ⟨σ18, hc, h⟩ := cp_e h
  refine g_callVv (pc := 81) (As := []) (rest := []) hC (c_X4_findSteady l E σ17 σ18 hc) mi_X4_findSteady mv_X4_findSteady ob_38 rfl rfl lk_X4_54 rfl rfl (Nat.le_of_ble_eq_true rfl) ⟨by decide, by decide⟩ hab dX4_find_81 ?_
  exact g_retv (pc := 84) hC h hR dX4_find_84
set_option maxRecDepth 20000 in
theorem c_X4_size (l : Launch) (E : uE) (σ : uS) (r : Int32) (h : F_X4_size σ = some r) : CtI l E yX4_size cX4_size 1 (some .int) 0 0 [.ref (E.2.1 38)] σ r σ := by
  refine enterI 0 [some (.ref (E.2.1 38))] (by decide +kernel) rfl (Nat.le_of_ble_eq_true rfl) (fun o K hnL hC hab hR => ?_)
  have hC : Cx E K RX4 cX4_size (some .int) 0 0 := hC
  have hN : ∀ k, k < 1 → k < K.2.2.2.2.2 := fun k hk => hnL ▸ hk
  delta F_X4_size at h
  refine g_aload_n (pc := 0) hC dX4_size_0 rfl ?_
  refine fg_X4_34_38 (pc := 1) hC dX4_size_1 ?_
  exact g_retp (pc := 4) hC h hR dX4_size_4
set_option maxRecDepth 20000 in
theorem c_X4_has (l : Launch) (E : uE) (a1 : Int32) (σ : uS) (r : Int32) (h : F_X4_has a1 σ = some r) : CtI l E yX4_has cX4_has 2 (some .boolean) 0 0 [.ref (E.2.1 38), .int a1] σ r σ := by
  refine enterI 0 [some (.ref (E.2.1 38)), some (.int a1)] (by decide +kernel) rfl (Nat.le_of_ble_eq_true rfl) (fun o K hnL hC hab hR => ?_)
  have hC : Cx E K RX4 cX4_has (some .boolean) 0 0 := hC
  have hN : ∀ k, k < 2 → k < K.2.2.2.2.2 := fun k hk => hnL ▸ hk
  delta F_X4_has at h
  refine g_iload_n (pc := 0) hC dX4_has_0 rfl ?_
  have hJ17 : ∀ (v3 : Int32), J_X4_has_2 v3 = some r → Gd l E K 0 0 o σ 17 [none, none] [.int v3] := by
    intro v3 h
    delta J_X4_has_2 at h
    obtain ⟨h01, h⟩ := bz_e h
    exact g_retzp (pc := 17) hC h01 h hR dX4_has_17
  have hJ16 : J_X4_has_1 = some r → Gd l E K 0 0 o σ 16 [none, none] [] := by
    intro h
    delta J_X4_has_1 at h
    refine g_iconst (pc := 16) hC ki_0 dX4_has_16 ?_
    exact hJ17 0 h
  refine g_if_lt (tgt := 16) (pc := 1) hC dX4_has_1 (by decide) (fun c1 => ?_) (fun c1 => ?_)
  · replace h := it_t c1 h
    refine g_mask [false, false] rfl ?_
    exact hJ16 h
  · replace h := it_f c1 h
    refine g_iload_n (pc := 4) hC dX4_has_4 rfl ?_
    refine g_aload_n (pc := 5) hC dX4_has_5 rfl ?_
    refine fg_X4_34_38 (pc := 6) hC dX4_has_6 ?_
    refine g_icmp_ge (tgt := 16) (pc := 9) hC dX4_has_9 (by decide) (fun c2 => ?_) (fun c2 => ?_)
    · replace h := it_t c2 h
      refine g_mask [false, false] rfl ?_
      exact hJ16 h
    · replace h := it_f c2 h
      refine g_iconst (pc := 12) hC ki_1 dX4_has_12 ?_
      refine g_goto (tgt := 17) (pc := 13) hC dX4_has_13 (by decide) ?_
      refine g_mask [false, false] rfl ?_
      exact hJ17 1 h
set_option maxRecDepth 20000 in
theorem c_X4_firstFrame (l : Launch) (E : uE) (a1 : Int32) (σ : uS) (r : Int32) (h : F_X4_firstFrame a1 σ = some r) : CtI l E yX4_firstFrame cX4_firstFrame 2 (some .int) 1 21 [.ref (E.2.1 38), .int a1] σ r σ := by
  refine enterI 0 [some (.ref (E.2.1 38)), some (.int a1)] (by decide +kernel) rfl (Nat.le_of_ble_eq_true rfl) (fun o K hnL hC hab hR => ?_)
  have hC : Cx E K RX4 cX4_firstFrame (some .int) 1 21 := hC
  have hN : ∀ k, k < 2 → k < K.2.2.2.2.2 := fun k hk => hnL ▸ hk
  delta F_X4_firstFrame at h
  refine g_aload_n (pc := 0) hC dX4_firstFrame_0 rfl ?_
  refine g_iload_n (pc := 1) hC dX4_firstFrame_1 rfl ?_
  obtain ⟨v1, hc, h⟩ := cp_e h
  refine g_callVi (pc := 2) (As := [.int a1]) (rest := []) hC (c_X4_has l E a1 σ v1 hc) mi_X4_has mv_X4_has ob_38 rfl rfl lk_X4_57 rfl rfl (Nat.le_of_ble_eq_true rfl) ⟨by decide, by decide⟩ hab dX4_firstFrame_2 ?_
  have hJ18 : ∀ (v4 : Int32), J_X4_firstFrame_1 v4 = some r → Gd l E K 0 0 o σ 18 [none, none] [.int v4] := by
    intro v4 h
    delta J_X4_firstFrame_1 at h
    exact g_retp (pc := 18) hC h hR dX4_firstFrame_18
  refine g_if_eq (tgt := 17) (pc := 5) hC dX4_firstFrame_5 (by decide) (fun c2 => ?_) (fun c2 => ?_)
  · replace h := it_t c2 h
    refine g_iconst (pc := 17) hC ki_m1 dX4_firstFrame_17 ?_
    refine g_mask [false, false] rfl ?_
    exact hJ18 (-1) h
  · replace h := it_f c2 h
    refine g_aload_n (pc := 8) hC dX4_firstFrame_8 rfl ?_
    refine fg_X4_9_38 (pc := 9) hC dX4_firstFrame_9 ?_
    refine g_iload_n (pc := 12) hC dX4_firstFrame_12 rfl ?_
    obtain ⟨v3, ev3, nv3, h⟩ := rd_e h
    refine g_iald (pc := 13) hC 39 (by decide) (ar_39 _ _ _) nv3 dX4_firstFrame_13 ?_
    refine g_top ev3 ?_
    refine g_goto (tgt := 18) (pc := 14) hC dX4_firstFrame_14 (by decide) ?_
    refine g_mask [false, false] rfl ?_
    exact hJ18 v3 h
set_option maxRecDepth 20000 in
theorem c_X4_length (l : Launch) (E : uE) (a1 : Int32) (σ : uS) (r : Int32) (h : F_X4_length a1 σ = some r) : CtI l E yX4_length cX4_length 2 (some .int) 1 21 [.ref (E.2.1 38), .int a1] σ r σ := by
  refine enterI 0 [some (.ref (E.2.1 38)), some (.int a1)] (by decide +kernel) rfl (Nat.le_of_ble_eq_true rfl) (fun o K hnL hC hab hR => ?_)
  have hC : Cx E K RX4 cX4_length (some .int) 1 21 := hC
  have hN : ∀ k, k < 2 → k < K.2.2.2.2.2 := fun k hk => hnL ▸ hk
  delta F_X4_length at h
  refine g_aload_n (pc := 0) hC dX4_length_0 rfl ?_
  refine g_iload_n (pc := 1) hC dX4_length_1 rfl ?_
  obtain ⟨v1, hc, h⟩ := cp_e h
  refine g_callVi (pc := 2) (As := [.int a1]) (rest := []) hC (c_X4_has l E a1 σ v1 hc) mi_X4_has mv_X4_has ob_38 rfl rfl lk_X4_57 rfl rfl (Nat.le_of_ble_eq_true rfl) ⟨by decide, by decide⟩ hab dX4_length_2 ?_
  have hJ18 : ∀ (v4 : Int32), J_X4_length_1 v4 = some r → Gd l E K 0 0 o σ 18 [none, none] [.int v4] := by
    intro v4 h
    delta J_X4_length_1 at h
    exact g_retp (pc := 18) hC h hR dX4_length_18
  refine g_if_eq (tgt := 17) (pc := 5) hC dX4_length_5 (by decide) (fun c2 => ?_) (fun c2 => ?_)
  · replace h := it_t c2 h
    refine g_iconst (pc := 17) hC ki_0 dX4_length_17 ?_
    refine g_mask [false, false] rfl ?_
    exact hJ18 0 h
  · replace h := it_f c2 h
    refine g_aload_n (pc := 8) hC dX4_length_8 rfl ?_
    refine fg_X4_15_38 (pc := 9) hC dX4_length_9 ?_
    refine g_iload_n (pc := 12) hC dX4_length_12 rfl ?_
    obtain ⟨v3, ev3, nv3, h⟩ := rd_e h
    refine g_iald (pc := 13) hC 40 (by decide) (ar_40 _ _ _) nv3 dX4_length_13 ?_
    refine g_top ev3 ?_
    refine g_goto (tgt := 18) (pc := 14) hC dX4_length_14 (by decide) ?_
    refine g_mask [false, false] rfl ?_
    exact hJ18 v3 h
set_option maxRecDepth 20000 in
theorem c_X4_lagOf (l : Launch) (E : uE) (a1 : Int32) (σ : uS) (r : Int32) (h : F_X4_lagOf a1 σ = some r) : CtI l E yX4_lagOf cX4_lagOf 2 (some .int) 1 21 [.ref (E.2.1 38), .int a1] σ r σ := by
  refine enterI 0 [some (.ref (E.2.1 38)), some (.int a1)] (by decide +kernel) rfl (Nat.le_of_ble_eq_true rfl) (fun o K hnL hC hab hR => ?_)
  have hC : Cx E K RX4 cX4_lagOf (some .int) 1 21 := hC
  have hN : ∀ k, k < 2 → k < K.2.2.2.2.2 := fun k hk => hnL ▸ hk
  delta F_X4_lagOf at h
  refine g_aload_n (pc := 0) hC dX4_lagOf_0 rfl ?_
  refine g_iload_n (pc := 1) hC dX4_lagOf_1 rfl ?_
  obtain ⟨v1, hc, h⟩ := cp_e h
  refine g_callVi (pc := 2) (As := [.int a1]) (rest := []) hC (c_X4_has l E a1 σ v1 hc) mi_X4_has mv_X4_has ob_38 rfl rfl lk_X4_57 rfl rfl (Nat.le_of_ble_eq_true rfl) ⟨by decide, by decide⟩ hab dX4_lagOf_2 ?_
  have hJ18 : ∀ (v4 : Int32), J_X4_lagOf_1 v4 = some r → Gd l E K 0 0 o σ 18 [none, none] [.int v4] := by
    intro v4 h
    delta J_X4_lagOf_1 at h
    exact g_retp (pc := 18) hC h hR dX4_lagOf_18
  refine g_if_eq (tgt := 17) (pc := 5) hC dX4_lagOf_5 (by decide) (fun c2 => ?_) (fun c2 => ?_)
  · replace h := it_t c2 h
    refine g_iconst (pc := 17) hC ki_0 dX4_lagOf_17 ?_
    refine g_mask [false, false] rfl ?_
    exact hJ18 0 h
  · replace h := it_f c2 h
    refine g_aload_n (pc := 8) hC dX4_lagOf_8 rfl ?_
    refine fg_X4_18_38 (pc := 9) hC dX4_lagOf_9 ?_
    refine g_iload_n (pc := 12) hC dX4_lagOf_12 rfl ?_
    obtain ⟨v3, ev3, nv3, h⟩ := rd_e h
    refine g_iald (pc := 13) hC 41 (by decide) (ar_41 _ _ _) nv3 dX4_lagOf_13 ?_
    refine g_top ev3 ?_
    refine g_goto (tgt := 18) (pc := 14) hC dX4_lagOf_14 (by decide) ?_
    refine g_mask [false, false] rfl ?_
    exact hJ18 v3 h
set_option maxRecDepth 20000 in
theorem c_X4_steadyFirst (l : Launch) (E : uE) (σ : uS) (r : Int32) (h : F_X4_steadyFirst σ = some r) : CtI l E yX4_steadyFirst cX4_steadyFirst 1 (some .int) 0 0 [.ref (E.2.1 38)] σ r σ := by
  refine enterI 0 [some (.ref (E.2.1 38))] (by decide +kernel) rfl (Nat.le_of_ble_eq_true rfl) (fun o K hnL hC hab hR => ?_)
  have hC : Cx E K RX4 cX4_steadyFirst (some .int) 0 0 := hC
  have hN : ∀ k, k < 1 → k < K.2.2.2.2.2 := fun k hk => hnL ▸ hk
  delta F_X4_steadyFirst at h
  refine g_aload_n (pc := 0) hC dX4_steadyFirst_0 rfl ?_
  refine fg_X4_61_38 (pc := 1) hC dX4_steadyFirst_1 ?_
  exact g_retp (pc := 4) hC h hR dX4_steadyFirst_4
set_option maxRecDepth 20000 in
theorem c_X4_steadyLength (l : Launch) (E : uE) (σ : uS) (r : Int32) (h : F_X4_steadyLength σ = some r) : CtI l E yX4_steadyLength cX4_steadyLength 1 (some .int) 0 0 [.ref (E.2.1 38)] σ r σ := by
  refine enterI 0 [some (.ref (E.2.1 38))] (by decide +kernel) rfl (Nat.le_of_ble_eq_true rfl) (fun o K hnL hC hab hR => ?_)
  have hC : Cx E K RX4 cX4_steadyLength (some .int) 0 0 := hC
  have hN : ∀ k, k < 1 → k < K.2.2.2.2.2 := fun k hk => hnL ▸ hk
  delta F_X4_steadyLength at h
  refine g_aload_n (pc := 0) hC dX4_steadyLength_0 rfl ?_
  refine fg_X4_64_38 (pc := 1) hC dX4_steadyLength_1 ?_
  exact g_retp (pc := 4) hC h hR dX4_steadyLength_4
set_option maxRecDepth 20000 in
theorem c_X4_steadyLag (l : Launch) (E : uE) (σ : uS) (r : Int32) (h : F_X4_steadyLag σ = some r) : CtI l E yX4_steadyLag cX4_steadyLag 1 (some .int) 1 21 [.ref (E.2.1 38)] σ r σ := by
  refine enterI 0 [some (.ref (E.2.1 38))] (by decide +kernel) rfl (Nat.le_of_ble_eq_true rfl) (fun o K hnL hC hab hR => ?_)
  have hC : Cx E K RX4 cX4_steadyLag (some .int) 1 21 := hC
  have hN : ∀ k, k < 1 → k < K.2.2.2.2.2 := fun k hk => hnL ▸ hk
  delta F_X4_steadyLag at h
  refine g_aload_n (pc := 0) hC dX4_steadyLag_0 rfl ?_
  refine fg_X4_64_38 (pc := 1) hC dX4_steadyLag_1 ?_
  have hJ22 : ∀ (v3 : Int32), J_X4_steadyLag_1 v3 = some r → Gd l E K 0 0 o σ 22 [none] [.int v3] := by
    intro v3 h
    delta J_X4_steadyLag_1 at h
    exact g_retp (pc := 22) hC h hR dX4_steadyLag_22
  refine g_if_ne (tgt := 11) (pc := 4) hC dX4_steadyLag_4 (by decide) (fun c1 => ?_) (fun c1 => ?_)
  · replace h := it_f c1 h
    refine g_aload_n (pc := 11) hC dX4_steadyLag_11 rfl ?_
    refine fg_X4_27_38 (pc := 12) hC dX4_steadyLag_12 ?_
    refine g_aload_n (pc := 15) hC dX4_steadyLag_15 rfl ?_
    refine fg_X4_61_38 (pc := 16) hC dX4_steadyLag_16 ?_
    obtain ⟨v2, hc, h⟩ := cp_e h
    refine g_callVi (pc := 19) (As := [.int (σ 38 8)]) (rest := []) hC (c_X5_lagIn l E (σ 38 8) σ v2 hc) mi_X5_lagIn mv_X5_lagIn ob_16 rfl rfl lk_X4_67 rfl rfl (Nat.le_of_ble_eq_true rfl) ⟨by decide, by decide⟩ hab dX4_steadyLag_19 ?_
    refine g_mask [false] rfl ?_
    exact hJ22 v2 h
  · replace h := it_t c1 h
    refine g_iconst (pc := 7) hC ki_0 dX4_steadyLag_7 ?_
    refine g_goto (tgt := 22) (pc := 8) hC dX4_steadyLag_8 (by decide) ?_
    refine g_mask [false] rfl ?_
    exact hJ22 0 h
set_option maxRecDepth 20000 in
theorem c_X4_unlikeLags (l : Launch) (E : uE) (σ : uS) (r : Int32) (h : F_X4_unlikeLags σ = some r) : CtI l E yX4_unlikeLags cX4_unlikeLags 3 (some .int) 0 0 [.ref (E.2.1 38)] σ r σ := by
  refine enterI 2 [some (.ref (E.2.1 38)), none, none] (by decide +kernel) rfl (Nat.le_of_ble_eq_true rfl) (fun o K hnL hC hab hR => ?_)
  have hC : Cx E K RX4 cX4_unlikeLags (some .int) 0 0 := hC
  have hN : ∀ k, k < 3 → k < K.2.2.2.2.2 := fun k hk => hnL ▸ hk
  delta F_X4_unlikeLags at h
  refine g_iconst (pc := 0) hC ki_0 dX4_unlikeLags_0 ?_
  refine g_istore_n (lv2 := [some (.ref (E.2.1 38)), some (.int 0), none]) (pc := 1) hC dX4_unlikeLags_1 rfl (Or.inr rfl) (hN _ (by decide)) ?_
  refine g_iconst (pc := 2) hC ki_0 dX4_unlikeLags_2 ?_
  refine g_istore_n (lv2 := [some (.ref (E.2.1 38)), some (.int 0), some (.int 0)]) (pc := 3) hC dX4_unlikeLags_3 rfl (Or.inr rfl) (hN _ (by decide)) ?_
  have hL1 : ∀ (n : Nat) (w1 : Int32) (w2 : Int32) (z1 : Int32), iter n (fun z => B_X4_unlikeLags_2 σ z.1 z.2) (w1, w2) = some z1 → (∀ (v3 : Int32), z1 = v3 → Gd l E K 0 0 o σ 33 [none, some (.int v3), none] []) → Gd l E K 0 0 o σ 4 [some (.ref (E.2.1 38)), some (.int w1), some (.int w2)] [] := by
    intro n
    induction n with
    | zero =>
      intro w1 w2 z1 hi
      exact (iter_0 hi).elim
    | succ n ih1 =>
      intro w1 w2 z1 hi1 kx1
      obtain ⟨r1, h, hi1⟩ := iter_s hi1
      replace h : B_X4_unlikeLags_2 σ w1 w2 = some r1 := h
      delta B_X4_unlikeLags_2 at h
      refine g_iload_n (pc := 4) hC dX4_unlikeLags_4 rfl ?_
      refine g_bipush (pc := 5) hC kb_50 dX4_unlikeLags_5 ?_
      refine g_icmp_ge (tgt := 33) (pc := 7) hC dX4_unlikeLags_7 (by decide) (fun c4 => ?_) (fun c4 => ?_)
      · replace h := it_t c4 h
        refine g_mask [false, true, false] rfl ?_
        exact kx1 w1 (iter_r h hi1)
      · replace h := it_f c4 h
        refine g_iload_n (pc := 10) hC dX4_unlikeLags_10 rfl ?_
        refine g_aload_n (pc := 11) hC dX4_unlikeLags_11 rfl ?_
        refine fg_X4_21_38 (pc := 12) hC dX4_unlikeLags_12 ?_
        refine g_iload_n (pc := 15) hC dX4_unlikeLags_15 rfl ?_
        obtain ⟨v5, ev5, nv5, h⟩ := rd_e h
        refine g_iald (pc := 16) hC 42 (by decide) (ar_42 _ _ _) nv5 dX4_unlikeLags_16 ?_
        refine g_top ev5 ?_
        obtain ⟨v7, ev7, h⟩ := lt_e h
        have hJ25 : Gd l E K 0 0 o σ 25 [some (.ref (E.2.1 38)), none, some (.int w2)] [.int v7, .int w1] := by
          refine g_iadd (pc := 25) hC dX4_unlikeLags_25 ?_
          obtain ⟨v8, ev8, h⟩ := lt_e h
          refine g_top ev8 ?_
          refine g_istore_n (lv2 := [some (.ref (E.2.1 38)), some (.int v8), some (.int w2)]) (pc := 26) hC dX4_unlikeLags_26 rfl (Or.inr rfl) (hN _ (by decide)) ?_
          obtain ⟨v9, ev9, h⟩ := lt_e h
          refine g_iinc (v := v9) (lv2 := [some (.ref (E.2.1 38)), some (.int v8), some (.int v9)]) (pc := 27) hC dX4_unlikeLags_27 rfl ev9 rfl (Or.inr rfl) (hN _ (by decide)) ?_
          refine g_goto (tgt := 4) (pc := 30) hC dX4_unlikeLags_30 (by decide) ?_
          exact ih1 v8 v9 z1 (iter_l h hi1) kx1
        refine g_if_le (tgt := 24) (pc := 17) hC dX4_unlikeLags_17 (by decide) (fun c6 => ?_) (fun c6 => ?_)
        · refine g_iconst (pc := 24) hC ki_0 dX4_unlikeLags_24 ?_
          refine g_mask [true, false, true] rfl ?_
          exact g_top (iv_t c6 ev7) hJ25
        · refine g_iconst (pc := 20) hC ki_1 dX4_unlikeLags_20 ?_
          refine g_goto (tgt := 25) (pc := 21) hC dX4_unlikeLags_21 (by decide) ?_
          refine g_mask [true, false, true] rfl ?_
          exact g_top (iv_f c6 ev7) hJ25
  obtain ⟨z1, hz1, h⟩ := lp_e h
  refine hL1 FU 0 0 z1 hz1 (fun v3 ez => ?_)
  replace h : C_X4_unlikeLags_3 v3 = some r := by rw [ez] at h; exact h
  delta C_X4_unlikeLags_3 at h
  refine g_iload_n (pc := 33) hC dX4_unlikeLags_33 rfl ?_
  exact g_retp (pc := 34) hC h hR dX4_unlikeLags_34
set_option maxRecDepth 20000 in
theorem c_X4_unlikeLag (l : Launch) (E : uE) (a1 : Int32) (σ : uS) (r : Int32) (h : F_X4_unlikeLag a1 σ = some r) : CtI l E yX4_unlikeLag cX4_unlikeLag 4 (some .int) 0 0 [.ref (E.2.1 38), .int a1] σ r σ := by
  refine enterI 2 [some (.ref (E.2.1 38)), some (.int a1), none, none] (by decide +kernel) rfl (Nat.le_of_ble_eq_true rfl) (fun o K hnL hC hab hR => ?_)
  have hC : Cx E K RX4 cX4_unlikeLag (some .int) 0 0 := hC
  have hN : ∀ k, k < 4 → k < K.2.2.2.2.2 := fun k hk => hnL ▸ hk
  delta F_X4_unlikeLag at h
  refine g_iconst (pc := 0) hC ki_0 dX4_unlikeLag_0 ?_
  refine g_istore_n (lv2 := [some (.ref (E.2.1 38)), some (.int a1), some (.int 0), none]) (pc := 1) hC dX4_unlikeLag_1 rfl (Or.inr rfl) (hN _ (by decide)) ?_
  refine g_iconst (pc := 2) hC ki_0 dX4_unlikeLag_2 ?_
  refine g_istore_n (lv2 := [some (.ref (E.2.1 38)), some (.int a1), some (.int 0), some (.int 0)]) (pc := 3) hC dX4_unlikeLag_3 rfl (Or.inr rfl) (hN _ (by decide)) ?_
  have hL1 : ∀ (n : Nat) (w1 : Int32) (w2 : Int32) (z1 : (Unit) ⊕ (Int32)), iter n (fun z => B_X4_unlikeLag_3 a1 σ z.1 z.2) (w1, w2) = some z1 → (z1 = .inl () → Gd l E K 0 0 o σ 35 [none, none, none, none] []) → (∀ q, z1 = .inr q → some q = some r) → Gd l E K 0 0 o σ 4 [some (.ref (E.2.1 38)), some (.int a1), some (.int w1), some (.int w2)] [] := by
    intro n
    induction n with
    | zero =>
      intro w1 w2 z1 hi
      exact (iter_0 hi).elim
    | succ n ih1 =>
      intro w1 w2 z1 hi1 kx1 kr1
      obtain ⟨r1, h, hi1⟩ := iter_s hi1
      replace h : B_X4_unlikeLag_3 a1 σ w1 w2 = some r1 := h
      delta B_X4_unlikeLag_3 at h
      refine g_iload_n (pc := 4) hC dX4_unlikeLag_4 rfl ?_
      refine g_bipush (pc := 5) hC kb_50 dX4_unlikeLag_5 ?_
      refine g_icmp_ge (tgt := 35) (pc := 7) hC dX4_unlikeLag_7 (by decide) (fun c3 => ?_) (fun c3 => ?_)
      · replace h := it_t c3 h
        refine g_mask [false, false, false, false] rfl ?_
        exact kx1 (iter_r h hi1)
      · replace h := it_f c3 h
        refine g_aload_n (pc := 10) hC dX4_unlikeLag_10 rfl ?_
        refine fg_X4_21_38 (pc := 11) hC dX4_unlikeLag_11 ?_
        refine g_iload_n (pc := 14) hC dX4_unlikeLag_14 rfl ?_
        obtain ⟨v4, ev4, nv4, h⟩ := rd_e h
        refine g_iald (pc := 15) hC 42 (by decide) (ar_42 _ _ _) nv4 dX4_unlikeLag_15 ?_
        refine g_top ev4 ?_
        have hJ29 : ∀ (v8 : Int32), J_X4_unlikeLag_2 w2 v8 = some r1 → Gd l E K 0 0 o σ 29 [some (.ref (E.2.1 38)), some (.int a1), some (.int v8), some (.int w2)] [] := by
          intro v8 h
          delta J_X4_unlikeLag_2 at h
          obtain ⟨v9, ev9, h⟩ := lt_e h
          refine g_iinc (v := v9) (lv2 := [some (.ref (E.2.1 38)), some (.int a1), some (.int v8), some (.int v9)]) (pc := 29) hC dX4_unlikeLag_29 rfl ev9 rfl (Or.inr rfl) (hN _ (by decide)) ?_
          refine g_goto (tgt := 4) (pc := 32) hC dX4_unlikeLag_32 (by decide) ?_
          exact ih1 v8 v9 z1 (iter_l h hi1) kx1 kr1
        refine g_if_le (tgt := 29) (pc := 16) hC dX4_unlikeLag_16 (by decide) (fun c5 => ?_) (fun c5 => ?_)
        · replace h := it_t c5 h
          exact hJ29 w1 h
        · replace h := it_f c5 h
          refine g_iload_n (pc := 19) hC dX4_unlikeLag_19 rfl ?_
          refine g_iload_n (pc := 20) hC dX4_unlikeLag_20 rfl ?_
          refine g_icmp_ne (tgt := 26) (pc := 21) hC dX4_unlikeLag_21 (by decide) (fun c6 => ?_) (fun c6 => ?_)
          · replace h := it_f c6 h
            obtain ⟨v7, ev7, h⟩ := lt_e h
            refine g_iinc (v := v7) (lv2 := [some (.ref (E.2.1 38)), some (.int a1), some (.int v7), some (.int w2)]) (pc := 26) hC dX4_unlikeLag_26 rfl ev7 rfl (Or.inr rfl) (hN _ (by decide)) ?_
            exact hJ29 v7 h
          · replace h := it_t c6 h
            refine g_iload_n (pc := 24) hC dX4_unlikeLag_24 rfl ?_
            exact g_retp (pc := 25) hC (kr1 _ (iter_r h hi1)) hR dX4_unlikeLag_25
  obtain ⟨z1, hz1, h⟩ := lp_e h
  refine hL1 FU 0 0 z1 hz1 (fun ez => ?_) (fun q ez => by rw [ez] at h; exact h)
  replace h : C_X4_unlikeLag_4 = some r := by rw [ez] at h; exact h
  delta C_X4_unlikeLag_4 at h
  refine g_iconst (pc := 35) hC ki_m1 dX4_unlikeLag_35 ?_
  exact g_retp (pc := 36) hC h hR dX4_unlikeLag_36
set_option maxRecDepth 20000 in
theorem c_X4_framesWith (l : Launch) (E : uE) (a1 : Int32) (σ : uS) (r : Int32) (h : F_X4_framesWith a1 σ = some r) : CtI l E yX4_framesWith cX4_framesWith 2 (some .int) 0 0 [.ref (E.2.1 38), .int a1] σ r σ := by
  refine enterI 0 [some (.ref (E.2.1 38)), some (.int a1)] (by decide +kernel) rfl (Nat.le_of_ble_eq_true rfl) (fun o K hnL hC hab hR => ?_)
  have hC : Cx E K RX4 cX4_framesWith (some .int) 0 0 := hC
  have hN : ∀ k, k < 2 → k < K.2.2.2.2.2 := fun k hk => hnL ▸ hk
  delta F_X4_framesWith at h
  refine g_iload_n (pc := 0) hC dX4_framesWith_0 rfl ?_
  have hJ20 : ∀ (v4 : Int32), J_X4_framesWith_2 v4 = some r → Gd l E K 0 0 o σ 20 [none, none] [.int v4] := by
    intro v4 h
    delta J_X4_framesWith_2 at h
    exact g_retp (pc := 20) hC h hR dX4_framesWith_20
  have hJ10 : J_X4_framesWith_1 = some r → Gd l E K 0 0 o σ 10 [none, none] [] := by
    intro h
    delta J_X4_framesWith_1 at h
    refine g_iconst (pc := 10) hC ki_0 dX4_framesWith_10 ?_
    refine g_goto (tgt := 20) (pc := 11) hC dX4_framesWith_11 (by decide) ?_
    exact hJ20 0 h
  refine g_if_lt (tgt := 10) (pc := 1) hC dX4_framesWith_1 (by decide) (fun c1 => ?_) (fun c1 => ?_)
  · replace h := it_t c1 h
    refine g_mask [false, false] rfl ?_
    exact hJ10 h
  · replace h := it_f c1 h
    refine g_iload_n (pc := 4) hC dX4_framesWith_4 rfl ?_
    refine g_bipush (pc := 5) hC kb_50 dX4_framesWith_5 ?_
    refine g_icmp_lt (tgt := 14) (pc := 7) hC dX4_framesWith_7 (by decide) (fun c2 => ?_) (fun c2 => ?_)
    · replace h := it_t c2 h
      refine g_aload_n (pc := 14) hC dX4_framesWith_14 rfl ?_
      refine fg_X4_21_38 (pc := 15) hC dX4_framesWith_15 ?_
      refine g_iload_n (pc := 18) hC dX4_framesWith_18 rfl ?_
      obtain ⟨v3, ev3, nv3, h⟩ := rd_e h
      refine g_iald (pc := 19) hC 42 (by decide) (ar_42 _ _ _) nv3 dX4_framesWith_19 ?_
      refine g_top ev3 ?_
      refine g_mask [false, false] rfl ?_
      exact hJ20 v3 h
    · replace h := it_f c2 h
      refine g_mask [false, false] rfl ?_
      exact hJ10 h
set_option maxRecDepth 20000 in
theorem c_X4_commonest (l : Launch) (E : uE) (σ : uS) (r : Int32) (h : F_X4_commonest σ = some r) : CtI l E yX4_commonest cX4_commonest 4 (some .int) 0 0 [.ref (E.2.1 38)] σ r σ := by
  refine enterI 3 [some (.ref (E.2.1 38)), none, none, none] (by decide +kernel) rfl (Nat.le_of_ble_eq_true rfl) (fun o K hnL hC hab hR => ?_)
  have hC : Cx E K RX4 cX4_commonest (some .int) 0 0 := hC
  have hN : ∀ k, k < 4 → k < K.2.2.2.2.2 := fun k hk => hnL ▸ hk
  delta F_X4_commonest at h
  refine g_iconst (pc := 0) hC ki_m1 dX4_commonest_0 ?_
  refine g_istore_n (lv2 := [some (.ref (E.2.1 38)), some (.int (-1)), none, none]) (pc := 1) hC dX4_commonest_1 rfl (Or.inr rfl) (hN _ (by decide)) ?_
  refine g_iconst (pc := 2) hC ki_0 dX4_commonest_2 ?_
  refine g_istore_n (lv2 := [some (.ref (E.2.1 38)), some (.int (-1)), some (.int 0), none]) (pc := 3) hC dX4_commonest_3 rfl (Or.inr rfl) (hN _ (by decide)) ?_
  refine g_iconst (pc := 4) hC ki_0 dX4_commonest_4 ?_
  refine g_istore_n (lv2 := [some (.ref (E.2.1 38)), some (.int (-1)), some (.int 0), some (.int 0)]) (pc := 5) hC dX4_commonest_5 rfl (Or.inr rfl) (hN _ (by decide)) ?_
  have hL1 : ∀ (n : Nat) (w1 : Int32) (w2 : Int32) (w3 : Int32) (z1 : Int32), iter n (fun z => B_X4_commonest_3 σ z.1 z.2.1 z.2.2) (w1, w2, w3) = some z1 → (∀ (v4 : Int32), z1 = v4 → Gd l E K 0 0 o σ 37 [none, some (.int v4), none, none] []) → Gd l E K 0 0 o σ 6 [some (.ref (E.2.1 38)), some (.int w1), some (.int w2), some (.int w3)] [] := by
    intro n
    induction n with
    | zero =>
      intro w1 w2 w3 z1 hi
      exact (iter_0 hi).elim
    | succ n ih1 =>
      intro w1 w2 w3 z1 hi1 kx1
      obtain ⟨r1, h, hi1⟩ := iter_s hi1
      replace h : B_X4_commonest_3 σ w1 w2 w3 = some r1 := h
      delta B_X4_commonest_3 at h
      refine g_iload_n (pc := 6) hC dX4_commonest_6 rfl ?_
      refine g_bipush (pc := 7) hC kb_50 dX4_commonest_7 ?_
      refine g_icmp_ge (tgt := 37) (pc := 9) hC dX4_commonest_9 (by decide) (fun c5 => ?_) (fun c5 => ?_)
      · replace h := it_t c5 h
        refine g_mask [false, true, false, false] rfl ?_
        exact kx1 w1 (iter_r h hi1)
      · replace h := it_f c5 h
        refine g_aload_n (pc := 12) hC dX4_commonest_12 rfl ?_
        refine fg_X4_21_38 (pc := 13) hC dX4_commonest_13 ?_
        refine g_iload_n (pc := 16) hC dX4_commonest_16 rfl ?_
        obtain ⟨v6, ev6, nv6, h⟩ := rd_e h
        refine g_iald (pc := 17) hC 42 (by decide) (ar_42 _ _ _) nv6 dX4_commonest_17 ?_
        refine g_top ev6 ?_
        refine g_iload_n (pc := 18) hC dX4_commonest_18 rfl ?_
        have hJ31 : ∀ (v9 : Int32) (v10 : Int32), J_X4_commonest_2 w3 v9 v10 = some r1 → Gd l E K 0 0 o σ 31 [some (.ref (E.2.1 38)), some (.int v9), some (.int v10), some (.int w3)] [] := by
          intro v9 v10 h
          delta J_X4_commonest_2 at h
          obtain ⟨v11, ev11, h⟩ := lt_e h
          refine g_iinc (v := v11) (lv2 := [some (.ref (E.2.1 38)), some (.int v9), some (.int v10), some (.int v11)]) (pc := 31) hC dX4_commonest_31 rfl ev11 rfl (Or.inr rfl) (hN _ (by decide)) ?_
          refine g_goto (tgt := 6) (pc := 34) hC dX4_commonest_34 (by decide) ?_
          exact ih1 v9 v10 v11 z1 (iter_l h hi1) kx1
        refine g_icmp_le (tgt := 31) (pc := 19) hC dX4_commonest_19 (by decide) (fun c7 => ?_) (fun c7 => ?_)
        · replace h := it_t c7 h
          exact hJ31 w1 w2 h
        · replace h := it_f c7 h
          refine g_aload_n (pc := 22) hC dX4_commonest_22 rfl ?_
          refine fg_X4_21_38 (pc := 23) hC dX4_commonest_23 ?_
          refine g_iload_n (pc := 26) hC dX4_commonest_26 rfl ?_
          obtain ⟨v8, ev8, nv8, h⟩ := rd_e h
          refine g_iald (pc := 27) hC 42 (by decide) (ar_42 _ _ _) nv8 dX4_commonest_27 ?_
          refine g_top ev8 ?_
          refine g_istore_n (lv2 := [some (.ref (E.2.1 38)), some (.int w1), some (.int v8), some (.int w3)]) (pc := 28) hC dX4_commonest_28 rfl (Or.inr rfl) (hN _ (by decide)) ?_
          refine g_iload_n (pc := 29) hC dX4_commonest_29 rfl ?_
          refine g_istore_n (lv2 := [some (.ref (E.2.1 38)), some (.int w3), some (.int v8), some (.int w3)]) (pc := 30) hC dX4_commonest_30 rfl (Or.inr rfl) (hN _ (by decide)) ?_
          exact hJ31 w3 v8 h
  obtain ⟨z1, hz1, h⟩ := lp_e h
  refine hL1 FU (-1) 0 0 z1 hz1 (fun v4 ez => ?_)
  replace h : C_X4_commonest_4 v4 = some r := by rw [ez] at h; exact h
  delta C_X4_commonest_4 at h
  refine g_iload_n (pc := 37) hC dX4_commonest_37 rfl ?_
  exact g_retp (pc := 38) hC h hR dX4_commonest_38
set_option maxRecDepth 20000 in
theorem c_X11_middleLag_42 (l : Launch) (E : uE) (a2 : Int32) (σ : uS) (r : Int32) (h : F_X11_middleLag_42 a2 σ = some r) : CtI l E yX11_middleLag cX11_middleLag 4 (some .int) 0 0 [.ref (E.2.1 42), .int a2] σ r σ := by
  refine enterI 2 [some (.ref (E.2.1 42)), some (.int a2), none, none] (by decide +kernel) rfl (Nat.le_of_ble_eq_true rfl) (fun o K hnL hC hab hR => ?_)
  have hC : Cx E K RX11 cX11_middleLag (some .int) 0 0 := hC
  have hN : ∀ k, k < 4 → k < K.2.2.2.2.2 := fun k hk => hnL ▸ hk
  delta F_X11_middleLag_42 at h
  refine g_iconst (pc := 0) hC ki_0 dX11_middleLag_0 ?_
  refine g_istore_n (lv2 := [some (.ref (E.2.1 42)), some (.int a2), some (.int 0), none]) (pc := 1) hC dX11_middleLag_1 rfl (Or.inr rfl) (hN _ (by decide)) ?_
  refine g_iconst (pc := 2) hC ki_0 dX11_middleLag_2 ?_
  refine g_istore_n (lv2 := [some (.ref (E.2.1 42)), some (.int a2), some (.int 0), some (.int 0)]) (pc := 3) hC dX11_middleLag_3 rfl (Or.inr rfl) (hN _ (by decide)) ?_
  have hL1 : ∀ (n : Nat) (w1 : Int32) (w2 : Int32) (z1 : (Unit) ⊕ (Int32)), iter n (fun z => B_X11_middleLag_42_2 a2 σ z.1 z.2) (w1, w2) = some z1 → (z1 = .inl () → Gd l E K 0 0 o σ 33 [none, none, none, none] []) → (∀ q, z1 = .inr q → some q = some r) → Gd l E K 0 0 o σ 4 [some (.ref (E.2.1 42)), some (.int a2), some (.int w1), some (.int w2)] [] := by
    intro n
    induction n with
    | zero =>
      intro w1 w2 z1 hi
      exact (iter_0 hi).elim
    | succ n ih1 =>
      intro w1 w2 z1 hi1 kx1 kr1
      obtain ⟨r1, h, hi1⟩ := iter_s hi1
      replace h : B_X11_middleLag_42_2 a2 σ w1 w2 = some r1 := h
      delta B_X11_middleLag_42_2 at h
      refine g_iload_n (pc := 4) hC dX11_middleLag_4 rfl ?_
      refine g_aload_n (pc := 5) hC dX11_middleLag_5 rfl ?_
      refine g_alen (pc := 6) hC 42 (by decide) (ar_42 _ _ _) rfl dX11_middleLag_6 ?_
      refine g_icmp_ge (tgt := 33) (pc := 7) hC dX11_middleLag_7 (by decide) (fun c3 => ?_) (fun c3 => ?_)
      · replace h := it_t c3 h
        refine g_mask [false, false, false, false] rfl ?_
        exact kx1 (iter_r h hi1)
      · replace h := it_f c3 h
        refine g_iload_n (pc := 10) hC dX11_middleLag_10 rfl ?_
        refine g_aload_n (pc := 11) hC dX11_middleLag_11 rfl ?_
        refine g_iload_n (pc := 12) hC dX11_middleLag_12 rfl ?_
        obtain ⟨v4, ev4, nv4, h⟩ := rd_e h
        refine g_iald (pc := 13) hC 42 (by decide) (ar_42 _ _ _) nv4 dX11_middleLag_13 ?_
        refine g_top ev4 ?_
        refine g_iadd (pc := 14) hC dX11_middleLag_14 ?_
        obtain ⟨v5, ev5, h⟩ := lt_e h
        refine g_top ev5 ?_
        refine g_istore_n (lv2 := [some (.ref (E.2.1 42)), some (.int a2), some (.int v5), some (.int w2)]) (pc := 15) hC dX11_middleLag_15 rfl (Or.inr rfl) (hN _ (by decide)) ?_
        refine g_iload_n (pc := 16) hC dX11_middleLag_16 rfl ?_
        refine g_iload_n (pc := 17) hC dX11_middleLag_17 rfl ?_
        refine g_iconst (pc := 18) hC ki_1 dX11_middleLag_18 ?_
        refine g_isub (pc := 19) hC dX11_middleLag_19 ?_
        refine g_iconst (pc := 20) hC ki_2 dX11_middleLag_20 ?_
        obtain ⟨v6, ev6, nv6, h⟩ := dv_e h
        refine g_idiv (pc := 21) hC nv6 dX11_middleLag_21 ?_
        refine g_top ev6 ?_
        refine g_icmp_le (tgt := 27) (pc := 22) hC dX11_middleLag_22 (by decide) (fun c7 => ?_) (fun c7 => ?_)
        · replace h := it_t c7 h
          obtain ⟨v8, ev8, h⟩ := lt_e h
          refine g_iinc (v := v8) (lv2 := [some (.ref (E.2.1 42)), some (.int a2), some (.int v5), some (.int v8)]) (pc := 27) hC dX11_middleLag_27 rfl ev8 rfl (Or.inr rfl) (hN _ (by decide)) ?_
          refine g_goto (tgt := 4) (pc := 30) hC dX11_middleLag_30 (by decide) ?_
          exact ih1 v5 v8 z1 (iter_l h hi1) kx1 kr1
        · replace h := it_f c7 h
          refine g_iload_n (pc := 25) hC dX11_middleLag_25 rfl ?_
          exact g_retp (pc := 26) hC (kr1 _ (iter_r h hi1)) hR dX11_middleLag_26
  obtain ⟨z1, hz1, h⟩ := lp_e h
  refine hL1 FU 0 0 z1 hz1 (fun ez => ?_) (fun q ez => by rw [ez] at h; exact h)
  replace h : C_X11_middleLag_42_3 = some r := by rw [ez] at h; exact h
  delta C_X11_middleLag_42_3 at h
  refine g_iconst (pc := 33) hC ki_m1 dX11_middleLag_33 ?_
  exact g_retp (pc := 34) hC h hR dX11_middleLag_34
set_option maxRecDepth 20000 in
theorem c_X4_middleOfAll (l : Launch) (E : uE) (σ : uS) (r : Int32) (h : F_X4_middleOfAll σ = some r) : CtI l E yX4_middleOfAll cX4_middleOfAll 1 (some .int) 1 23 [.ref (E.2.1 38)] σ r σ := by
  refine enterI 0 [some (.ref (E.2.1 38))] (by decide +kernel) rfl (Nat.le_of_ble_eq_true rfl) (fun o K hnL hC hab hR => ?_)
  have hC : Cx E K RX4 cX4_middleOfAll (some .int) 1 23 := hC
  have hN : ∀ k, k < 1 → k < K.2.2.2.2.2 := fun k hk => hnL ▸ hk
  delta F_X4_middleOfAll at h
  refine g_aload_n (pc := 0) hC dX4_middleOfAll_0 rfl ?_
  refine fg_X4_51_38 (pc := 1) hC dX4_middleOfAll_1 ?_
  have hJ22 : ∀ (v3 : Int32), J_X4_middleOfAll_1 v3 = some r → Gd l E K 0 0 o σ 22 [none] [.int v3] := by
    intro v3 h
    delta J_X4_middleOfAll_1 at h
    exact g_retp (pc := 22) hC h hR dX4_middleOfAll_22
  refine g_if_ne (tgt := 11) (pc := 4) hC dX4_middleOfAll_4 (by decide) (fun c1 => ?_) (fun c1 => ?_)
  · replace h := it_f c1 h
    refine g_aload_n (pc := 11) hC dX4_middleOfAll_11 rfl ?_
    refine fg_X4_21_38 (pc := 12) hC dX4_middleOfAll_12 ?_
    refine g_aload_n (pc := 15) hC dX4_middleOfAll_15 rfl ?_
    refine fg_X4_51_38 (pc := 16) hC dX4_middleOfAll_16 ?_
    obtain ⟨v2, hc, h⟩ := cp_e h
    refine g_callNi (pc := 19) (As := [.ref (E.2.1 42), .int (σ 38 7)]) (rest := []) hC (c_X11_middleLag_42 l E (σ 38 7) σ v2 hc) mi_X11_middleLag ms_X11_middleLag lk_X4_42 rfl rfl (Nat.le_of_ble_eq_true rfl) ⟨by decide, by decide⟩ hab dX4_middleOfAll_19 ?_
    refine g_mask [false] rfl ?_
    exact hJ22 v2 h
  · replace h := it_t c1 h
    refine g_iconst (pc := 7) hC ki_m1 dX4_middleOfAll_7 ?_
    refine g_goto (tgt := 22) (pc := 8) hC dX4_middleOfAll_8 (by decide) ?_
    refine g_mask [false] rfl ?_
    exact hJ22 (-1) h
set_option maxRecDepth 20000 in
theorem c_X3_findWorths (l : Launch) (E : uE) (a1 : Int32) (a2 : Int32) (σ : uS) (σr : uS) (h : F_X3_findWorths a1 a2 σ = some σr) : CtV l E yX3_findWorths cX3_findWorths 10 3 64 [.ref (E.2.1 44), .int a1, .int a2] σ σr := by
  refine enterV 7 [some (.ref (E.2.1 44)), some (.int a1), some (.int a2), none, none, none, none, none, none, none] (by decide +kernel) rfl (Nat.le_of_ble_eq_true rfl) (fun o K hnL hC hab hR => ?_)
  have hC : Cx E K RX3 cX3_findWorths none 3 64 := hC
  have hN : ∀ k, k < 10 → k < K.2.2.2.2.2 := fun k hk => hnL ▸ hk
  delta F_X3_findWorths at h
  refine g_aload_n (pc := 0) hC dX3_findWorths_0 rfl ?_
  refine fg_X3_38_44 (pc := 1) hC dX3_findWorths_1 ?_
  refine g_bipush (pc := 4) hC kb_13 dX3_findWorths_4 ?_
  obtain ⟨v1, hc, h⟩ := cp_e h
  refine g_callVi (pc := 6) (As := [.int 13]) (rest := []) hC (c_X0_of l E 13 σ v1 hc) mi_X0_of mv_X0_of ob_4 rfl rfl lk_X3_113 rfl rfl (Nat.le_of_ble_eq_true rfl) ⟨by decide, by decide⟩ hab dX3_findWorths_6 ?_
  refine g_istore_n (lv2 := [some (.ref (E.2.1 44)), some (.int a1), some (.int a2), some (.int v1), none, none, none, none, none, none]) (pc := 9) hC dX3_findWorths_9 rfl (Or.inr rfl) (hN _ (by decide)) ?_
  refine g_iload_n (pc := 10) hC dX3_findWorths_10 rfl ?_
  refine g_sipush (pc := 11) hC ks_800 dX3_findWorths_11 ?_
  obtain ⟨v2, hc, h⟩ := cp_e h
  refine g_callSi (pc := 14) (As := [.int a2, .int 800]) (rest := []) hC (c_J9_min_7cf53 l E a2 800 σ v2 hc) mi_J9_min_7cf53 ms_J9_min_7cf53 lk_X3_116 rfl rfl (Nat.le_of_ble_eq_true rfl) ⟨by decide, by decide⟩ hab dX3_findWorths_14 ?_
  refine g_iconst (pc := 17) hC ki_1 dX3_findWorths_17 ?_
  refine g_isub (pc := 18) hC dX3_findWorths_18 ?_
  obtain ⟨v3, ev3, h⟩ := lt_e h
  refine g_top ev3 ?_
  refine g_istore (lv2 := [some (.ref (E.2.1 44)), some (.int a1), some (.int a2), some (.int v1), some (.int v3), none, none, none, none, none]) (pc := 19) hC dX3_findWorths_19 rfl (Or.inr rfl) (hN _ (by decide)) ?_
  have hL1 : ∀ (n : Nat) (w4 : Int32) (σ5 : uS) (z1 : uS), iter n (fun z => B_X3_findWorths_7 a1 a2 v1 z.1 z.2) (w4, σ5) = some z1 → (∀ (σ6 : uS), z1 = σ6 → Gd l E K 0 0 o σ6 173 [none, none, none, none, none, none, none, none, none, none] []) → Gd l E K 0 0 o σ5 21 [some (.ref (E.2.1 44)), some (.int a1), some (.int a2), some (.int v1), some (.int w4), none, none, none, none, none] [] := by
    intro n
    induction n with
    | zero =>
      intro w4 σ5 z1 hi
      exact (iter_0 hi).elim
    | succ n ih1 =>
      intro w4 σ5 z1 hi1 kx1
      obtain ⟨r1, h, hi1⟩ := iter_s hi1
      replace h : B_X3_findWorths_7 a1 a2 v1 w4 σ5 = some r1 := h
      delta B_X3_findWorths_7 at h
      refine g_iload (pc := 21) hC dX3_findWorths_21 rfl ?_
      refine g_iload_n (pc := 23) hC dX3_findWorths_23 rfl ?_
      refine g_icmp_lt (tgt := 173) (pc := 24) hC dX3_findWorths_24 (by decide) (fun c7 => ?_) (fun c7 => ?_)
      · replace h := it_t c7 h
        refine g_mask [false, false, false, false, false, false, false, false, false, false] rfl ?_
        exact kx1 σ5 (iter_r h hi1)
      · replace h := it_f c7 h
        refine g_iload (pc := 27) hC dX3_findWorths_27 rfl ?_
        refine g_aload_n (pc := 29) hC dX3_findWorths_29 rfl ?_
        refine fg_X3_30_44 (pc := 30) hC dX3_findWorths_30 ?_
        refine g_iload (pc := 33) hC dX3_findWorths_33 rfl ?_
        obtain ⟨v8, hc, h⟩ := cp_e h
        refine g_callVi (pc := 35) (As := [.int w4]) (rest := [.int w4]) hC (c_X8_lagAtSample l E w4 σ5 v8 hc) mi_X8_lagAtSample mv_X8_lagAtSample ob_34 rfl rfl lk_X3_108 rfl rfl (Nat.le_of_ble_eq_true rfl) ⟨by decide, by decide⟩ hab dX3_findWorths_35 ?_
        refine g_iadd (pc := 38) hC dX3_findWorths_38 ?_
        obtain ⟨v9, ev9, h⟩ := lt_e h
        refine g_top ev9 ?_
        refine g_istore (lv2 := [some (.ref (E.2.1 44)), some (.int a1), some (.int a2), some (.int v1), some (.int w4), some (.int v9), none, none, none, none]) (pc := 39) hC dX3_findWorths_39 rfl (Or.inr rfl) (hN _ (by decide)) ?_
        refine g_iload (pc := 41) hC dX3_findWorths_41 rfl ?_
        refine g_iload (pc := 43) hC dX3_findWorths_43 rfl ?_
        refine g_isub (pc := 45) hC dX3_findWorths_45 ?_
        refine g_iconst (pc := 46) hC ki_4 dX3_findWorths_46 ?_
        obtain ⟨v10, ev10, nv10, h⟩ := dv_e h
        refine g_idiv (pc := 47) hC nv10 dX3_findWorths_47 ?_
        refine g_top ev10 ?_
        refine g_istore (lv2 := [some (.ref (E.2.1 44)), some (.int a1), some (.int a2), some (.int v1), some (.int w4), some (.int v9), some (.int v10), none, none, none]) (pc := 48) hC dX3_findWorths_48 rfl (Or.inr rfl) (hN _ (by decide)) ?_
        refine g_iconst (pc := 50) hC ki_0 dX3_findWorths_50 ?_
        refine g_istore (lv2 := [some (.ref (E.2.1 44)), some (.int a1), some (.int a2), some (.int v1), some (.int w4), some (.int v9), some (.int v10), some (.int 0), none, none]) (pc := 51) hC dX3_findWorths_51 rfl (Or.inr rfl) (hN _ (by decide)) ?_
        refine g_aload_n (pc := 53) hC dX3_findWorths_53 rfl ?_
        refine fg_X3_15_44 (pc := 54) hC dX3_findWorths_54 ?_
        refine g_iload (pc := 57) hC dX3_findWorths_57 rfl ?_
        refine g_iconst (pc := 59) hC ki_m1 dX3_findWorths_59 ?_
        obtain ⟨σ11, eσ11, nσ11, h⟩ := wr_e h
        refine g_iast (pc := 60) hC 46 (by decide) (ar_46 _ _) nσ11 dX3_findWorths_60 eσ11 ?_
        refine g_iload (pc := 61) hC dX3_findWorths_61 rfl ?_
        refine g_iload (pc := 63) hC dX3_findWorths_63 rfl ?_
        refine g_isub (pc := 65) hC dX3_findWorths_65 ?_
        obtain ⟨v12, ev12, h⟩ := lt_e h
        refine g_top ev12 ?_
        refine g_istore (lv2 := [some (.ref (E.2.1 44)), some (.int a1), some (.int a2), some (.int v1), some (.int w4), some (.int v9), some (.int v10), some (.int 0), some (.int v12), none]) (pc := 66) hC dX3_findWorths_66 rfl (Or.inr rfl) (hN _ (by decide)) ?_
        have hL2 : ∀ (n : Nat) (w13 : Int32) (w14 : Int32) (σ15 : uS) (z2 : Int32 × uS), iter n (fun z => B_X3_findWorths_5 a2 v1 v9 v10 w4 z.1 z.2.1 z.2.2) (w13, w14, σ15) = some z2 → (∀ (v16 : Int32) (σ17 : uS), z2 = (v16, σ17) → Gd l E K 0 0 o σ17 148 [some (.ref (E.2.1 44)), some (.int a1), some (.int a2), some (.int v1), some (.int w4), none, none, some (.int v16), none, none] []) → Gd l E K 0 0 o σ15 68 [some (.ref (E.2.1 44)), some (.int a1), some (.int a2), some (.int v1), some (.int w4), some (.int v9), some (.int v10), some (.int w13), some (.int w14), none] [] := by
          intro n
          induction n with
          | zero =>
            intro w13 w14 σ15 z2 hi
            exact (iter_0 hi).elim
          | succ n ih2 =>
            intro w13 w14 σ15 z2 hi2 kx2
            obtain ⟨r2, h, hi2⟩ := iter_s hi2
            replace h : B_X3_findWorths_5 a2 v1 v9 v10 w4 w13 w14 σ15 = some r2 := h
            delta B_X3_findWorths_5 at h
            refine g_iload (pc := 68) hC dX3_findWorths_68 rfl ?_
            refine g_iload (pc := 70) hC dX3_findWorths_70 rfl ?_
            refine g_icmp_le (tgt := 148) (pc := 72) hC dX3_findWorths_72 (by decide) (fun c18 => ?_) (fun c18 => ?_)
            · replace h := it_t c18 h
              refine g_mask [true, true, true, true, true, false, false, true, false, false] rfl ?_
              exact kx2 w13 σ15 (iter_r h hi2)
            · replace h := it_f c18 h
              refine g_iload (pc := 75) hC dX3_findWorths_75 rfl ?_
              refine g_iload (pc := 77) hC dX3_findWorths_77 rfl ?_
              refine g_iload (pc := 79) hC dX3_findWorths_79 rfl ?_
              refine g_iadd (pc := 81) hC dX3_findWorths_81 ?_
              refine g_icmp_gt (tgt := 148) (pc := 82) hC dX3_findWorths_82 (by decide) (fun c19 => ?_) (fun c19 => ?_)
              · replace h := it_t c19 h
                refine g_mask [true, true, true, true, true, false, false, true, false, false] rfl ?_
                exact kx2 w13 σ15 (iter_r h hi2)
              · replace h := it_f c19 h
                refine g_iload (pc := 85) hC dX3_findWorths_85 rfl ?_
                refine g_iload_n (pc := 87) hC dX3_findWorths_87 rfl ?_
                refine g_icmp_ge (tgt := 148) (pc := 88) hC dX3_findWorths_88 (by decide) (fun c20 => ?_) (fun c20 => ?_)
                · replace h := it_t c20 h
                  refine g_mask [true, true, true, true, true, false, false, true, false, false] rfl ?_
                  exact kx2 w13 σ15 (iter_r h hi2)
                · replace h := it_f c20 h
                  refine g_aload_n (pc := 91) hC dX3_findWorths_91 rfl ?_
                  refine fg_X3_9_44 (pc := 92) hC dX3_findWorths_92 ?_
                  refine g_iload (pc := 95) hC dX3_findWorths_95 rfl ?_
                  obtain ⟨v21, ev21, nv21, h⟩ := rd_e h
                  refine g_iald (pc := 97) hC 45 (by decide) (ar_45 _ _ _) nv21 dX3_findWorths_97 ?_
                  refine g_top ev21 ?_
                  refine g_iload_n (pc := 98) hC dX3_findWorths_98 rfl ?_
                  refine g_iload (pc := 99) hC dX3_findWorths_99 rfl ?_
                  refine g_iload (pc := 101) hC dX3_findWorths_101 rfl ?_
                  refine g_isub (pc := 103) hC dX3_findWorths_103 ?_
                  obtain ⟨v22, hc, h⟩ := cp_e h
                  refine g_callSi (pc := 104) (As := [.int (w14 - v9)]) (rest := [.int v1, .int v21]) hC (c_J9_abs_0f7a4 l E (w14 - v9) σ15 v22 hc) mi_J9_abs_0f7a4 ms_J9_abs_0f7a4 lk_X3_90 rfl rfl (Nat.le_of_ble_eq_true rfl) ⟨by decide, by decide⟩ hab dX3_findWorths_104 ?_
                  refine g_imul (pc := 107) hC dX3_findWorths_107 ?_
                  refine g_isub (pc := 108) hC dX3_findWorths_108 ?_
                  obtain ⟨v23, ev23, h⟩ := lt_e h
                  refine g_top ev23 ?_
                  refine g_istore (lv2 := [some (.ref (E.2.1 44)), some (.int a1), some (.int a2), some (.int v1), some (.int w4), some (.int v9), some (.int v10), some (.int w13), some (.int w14), some (.int v23)]) (pc := 109) hC dX3_findWorths_109 rfl (Or.inr rfl) (hN _ (by decide)) ?_
                  refine g_aload_n (pc := 111) hC dX3_findWorths_111 rfl ?_
                  refine fg_X3_15_44 (pc := 112) hC dX3_findWorths_112 ?_
                  refine g_iload (pc := 115) hC dX3_findWorths_115 rfl ?_
                  obtain ⟨v24, ev24, nv24, h⟩ := rd_e h
                  refine g_iald (pc := 117) hC 46 (by decide) (ar_46 _ _ _) nv24 dX3_findWorths_117 ?_
                  refine g_top ev24 ?_
                  refine g_iconst (pc := 118) hC ki_m1 dX3_findWorths_118 ?_
                  have hJ142 : ∀ (v28 : Int32) (σ29 : uS), J_X3_findWorths_4 w14 v28 σ29 = some r2 → Gd l E K 0 0 o σ29 142 [some (.ref (E.2.1 44)), some (.int a1), some (.int a2), some (.int v1), some (.int w4), some (.int v9), some (.int v10), some (.int v28), some (.int w14), none] [] := by
                    intro v28 σ29 h
                    delta J_X3_findWorths_4 at h
                    obtain ⟨v30, ev30, h⟩ := lt_e h
                    refine g_iinc (v := v30) (lv2 := [some (.ref (E.2.1 44)), some (.int a1), some (.int a2), some (.int v1), some (.int w4), some (.int v9), some (.int v10), some (.int v28), some (.int v30), none]) (pc := 142) hC dX3_findWorths_142 rfl ev30 rfl (Or.inr rfl) (hN _ (by decide)) ?_
                    refine g_goto (tgt := 68) (pc := 145) hC dX3_findWorths_145 (by decide) ?_
                    exact ih2 v28 v30 σ29 z2 (iter_l h hi2) kx2
                  have hJ129 : J_X3_findWorths_3 v23 w4 w14 σ15 = some r2 → Gd l E K 0 0 o σ15 129 [some (.ref (E.2.1 44)), some (.int a1), some (.int a2), some (.int v1), some (.int w4), some (.int v9), some (.int v10), none, some (.int w14), some (.int v23)] [] := by
                    intro h
                    delta J_X3_findWorths_3 at h
                    refine g_aload_n (pc := 129) hC dX3_findWorths_129 rfl ?_
                    refine fg_X3_15_44 (pc := 130) hC dX3_findWorths_130 ?_
                    refine g_iload (pc := 133) hC dX3_findWorths_133 rfl ?_
                    refine g_iload (pc := 135) hC dX3_findWorths_135 rfl ?_
                    obtain ⟨σ27, eσ27, nσ27, h⟩ := wr_e h
                    refine g_iast (pc := 137) hC 46 (by decide) (ar_46 _ _) nσ27 dX3_findWorths_137 eσ27 ?_
                    refine g_iload (pc := 138) hC dX3_findWorths_138 rfl ?_
                    refine g_istore (lv2 := [some (.ref (E.2.1 44)), some (.int a1), some (.int a2), some (.int v1), some (.int w4), some (.int v9), some (.int v10), some (.int v23), some (.int w14), some (.int v23)]) (pc := 140) hC dX3_findWorths_140 rfl (Or.inr rfl) (hN _ (by decide)) ?_
                    refine g_mask [true, true, true, true, true, true, true, true, true, false] rfl ?_
                    exact hJ142 v23 σ27 h
                  refine g_icmp_eq (tgt := 129) (pc := 119) hC dX3_findWorths_119 (by decide) (fun c25 => ?_) (fun c25 => ?_)
                  · replace h := it_t c25 h
                    refine g_mask [true, true, true, true, true, true, true, false, true, true] rfl ?_
                    exact hJ129 h
                  · replace h := it_f c25 h
                    refine g_iload (pc := 122) hC dX3_findWorths_122 rfl ?_
                    refine g_iload (pc := 124) hC dX3_findWorths_124 rfl ?_
                    refine g_icmp_le (tgt := 142) (pc := 126) hC dX3_findWorths_126 (by decide) (fun c26 => ?_) (fun c26 => ?_)
                    · replace h := it_t c26 h
                      refine g_mask [true, true, true, true, true, true, true, true, true, false] rfl ?_
                      exact hJ142 w13 σ15 h
                    · replace h := it_f c26 h
                      refine g_mask [true, true, true, true, true, true, true, false, true, true] rfl ?_
                      exact hJ129 h
        obtain ⟨z2, hz2, h⟩ := lp_e h
        refine hL2 FU 0 v12 σ11 z2 hz2 (fun v16 σ17 ez => ?_)
        replace h : C_X3_findWorths_6 w4 v16 σ17 = some r1 := by rw [ez] at h; exact h
        delta C_X3_findWorths_6 at h
        refine g_aload_n (pc := 148) hC dX3_findWorths_148 rfl ?_
        refine fg_X3_9_44 (pc := 149) hC dX3_findWorths_149 ?_
        refine g_iload (pc := 152) hC dX3_findWorths_152 rfl ?_
        refine g_iload (pc := 154) hC dX3_findWorths_154 rfl ?_
        refine g_aload_n (pc := 156) hC dX3_findWorths_156 rfl ?_
        refine fg_X3_34_44 (pc := 157) hC dX3_findWorths_157 ?_
        refine g_iload (pc := 160) hC dX3_findWorths_160 rfl ?_
        obtain ⟨v31, hc, h⟩ := cp_e h
        refine g_callVi (pc := 162) (As := [.int w4]) (rest := [.int v16, .int w4, .ref (E.2.1 45)]) hC (c_X7_at l E w4 σ17 v31 hc) mi_X7_at mv_X7_at ob_1 rfl rfl lk_X3_92 rfl rfl (Nat.le_of_ble_eq_true rfl) ⟨by decide, by decide⟩ hab dX3_findWorths_162 ?_
        refine g_iadd (pc := 165) hC dX3_findWorths_165 ?_
        obtain ⟨σ32, eσ32, nσ32, h⟩ := wr_e h
        refine g_iast (pc := 166) hC 45 (by decide) (ar_45 _ _) nσ32 dX3_findWorths_166 eσ32 ?_
        obtain ⟨v33, ev33, h⟩ := lt_e h
        refine g_iinc (v := v33) (lv2 := [some (.ref (E.2.1 44)), some (.int a1), some (.int a2), some (.int v1), some (.int v33), none, none, some (.int v16), none, none]) (pc := 167) hC dX3_findWorths_167 rfl ev33 rfl (Or.inr rfl) (hN _ (by decide)) ?_
        refine g_goto (tgt := 21) (pc := 170) hC dX3_findWorths_170 (by decide) ?_
        refine g_mask [true, true, true, true, true, false, false, false, false, false] rfl ?_
        exact ih1 v33 σ32 z1 (iter_l h hi1) kx1
  obtain ⟨z1, hz1, h⟩ := lp_e h
  refine hL1 FU v3 σ z1 hz1 (fun σ6 ez => ?_)
  replace h : C_X3_findWorths_8 σ6 = some σr := by rw [ez] at h; exact h
  delta C_X3_findWorths_8 at h
  exact g_retv (pc := 173) hC h hR dX3_findWorths_173
