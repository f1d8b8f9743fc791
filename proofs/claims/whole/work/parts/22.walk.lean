set_option maxRecDepth 20000 in
theorem c_X12_ranksFrom (l : Launch) (E : uE) (a1 : Int32) (a2 : Int32) (σ : uS) (σr : uS) (h : F_X12_ranksFrom a1 a2 σ = some σr) : CtV l E yX12_ranksFrom cX12_ranksFrom 6 3 68 [.ref (E.2.1 55), .int a1, .int a2] σ σr := by
  refine enterV 3 [some (.ref (E.2.1 55)), some (.int a1), some (.int a2), none, none, none] (by decide +kernel) rfl (Nat.le_of_ble_eq_true rfl) (fun o K hnL hC hab hR => ?_)
  have hC : Cx E K RX12 cX12_ranksFrom none 3 68 := hC
  have hN : ∀ k, k < 6 → k < K.2.2.2.2.2 := fun k hk => hnL ▸ hk
  delta F_X12_ranksFrom at h
  refine g_aload_n (pc := 0) hC dX12_ranksFrom_0 rfl ?_
  refine fg_X12_65_55 (pc := 1) hC dX12_ranksFrom_1 ?_
  refine g_bipush (pc := 4) hC kb_6 dX12_ranksFrom_4 ?_
  refine g_iload_n (pc := 6) hC dX12_ranksFrom_6 rfl ?_
  refine g_imul (pc := 7) hC dX12_ranksFrom_7 ?_
  refine g_iload_n (pc := 8) hC dX12_ranksFrom_8 rfl ?_
  refine g_iadd (pc := 9) hC dX12_ranksFrom_9 ?_
  refine g_iconst (pc := 10) hC ki_0 dX12_ranksFrom_10 ?_
  obtain ⟨σ1, eσ1, nσ1, h⟩ := wr_e h
  refine g_iast (pc := 11) hC 74 (by decide) (ar_74 _ _) nσ1 dX12_ranksFrom_11 eσ1 ?_
  refine g_iload_n (pc := 12) hC dX12_ranksFrom_12 rfl ?_
  refine g_aload_n (pc := 13) hC dX12_ranksFrom_13 rfl ?_
  refine fg_X12_189_55 (pc := 14) hC dX12_ranksFrom_14 ?_
  refine g_iconst (pc := 17) hC ki_1 dX12_ranksFrom_17 ?_
  refine g_isub (pc := 18) hC dX12_ranksFrom_18 ?_
  refine g_icmp_ne (tgt := 37) (pc := 19) hC dX12_ranksFrom_19 (by decide) (fun c2 => ?_) (fun c2 => ?_)
  · replace h := it_f c2 h
    refine g_iconst (pc := 37) hC ki_0 dX12_ranksFrom_37 ?_
    refine g_istore_n (lv2 := [some (.ref (E.2.1 55)), some (.int a1), some (.int a2), some (.int 0), none, none]) (pc := 38) hC dX12_ranksFrom_38 rfl (Or.inr rfl) (hN _ (by decide)) ?_
    have hL1 : ∀ (n : Nat) (w3 : Int32) (σ4 : uS) (z1 : uS), iter n (fun z => B_X12_ranksFrom_5 a1 a2 z.1 z.2) (w3, σ4) = some z1 → (∀ (σ5 : uS), z1 = σ5 → Gd l E K 0 0 o σ5 126 [none, none, none, none, none, none] []) → Gd l E K 0 0 o σ4 39 [some (.ref (E.2.1 55)), some (.int a1), some (.int a2), some (.int w3), none, none] [] := by
      intro n
      induction n with
      | zero =>
        intro w3 σ4 z1 hi
        exact (iter_0 hi).elim
      | succ n ih1 =>
        intro w3 σ4 z1 hi1 kx1
        obtain ⟨r1, h, hi1⟩ := iter_s hi1
        replace h : B_X12_ranksFrom_5 a1 a2 w3 σ4 = some r1 := h
        delta B_X12_ranksFrom_5 at h
        refine g_iload_n (pc := 39) hC dX12_ranksFrom_39 rfl ?_
        refine g_aload_n (pc := 40) hC dX12_ranksFrom_40 rfl ?_
        refine fg_X12_40_55 (pc := 41) hC dX12_ranksFrom_41 ?_
        refine g_iload_n (pc := 44) hC dX12_ranksFrom_44 rfl ?_
        refine g_iconst (pc := 45) hC ki_1 dX12_ranksFrom_45 ?_
        refine g_iadd (pc := 46) hC dX12_ranksFrom_46 ?_
        obtain ⟨v6, ev6, nv6, h⟩ := rd_e h
        refine g_iald (pc := 47) hC 66 (by decide) (ar_66 _ _ _) nv6 dX12_ranksFrom_47 ?_
        refine g_top ev6 ?_
        refine g_icmp_ge (tgt := 126) (pc := 48) hC dX12_ranksFrom_48 (by decide) (fun c7 => ?_) (fun c7 => ?_)
        · replace h := it_t c7 h
          refine g_mask [false, false, false, false, false, false] rfl ?_
          exact kx1 σ4 (iter_r h hi1)
        · replace h := it_f c7 h
          refine g_aload_n (pc := 51) hC dX12_ranksFrom_51 rfl ?_
          refine g_iload_n (pc := 52) hC dX12_ranksFrom_52 rfl ?_
          refine g_iload_n (pc := 53) hC dX12_ranksFrom_53 rfl ?_
          obtain ⟨v8, hc, h⟩ := cp_e h
          refine g_callVi (pc := 54) (As := [.int a1, .int a2]) (rest := []) hC (c_X12_ownAt l E a1 a2 σ4 v8 hc) mi_X12_ownAt mv_X12_ownAt ob_55 rfl rfl lk_X12_201 rfl rfl (Nat.le_of_ble_eq_true rfl) ⟨by decide, by decide⟩ hab dX12_ranksFrom_54 ?_
          refine g_aload_n (pc := 57) hC dX12_ranksFrom_57 rfl ?_
          refine g_iload_n (pc := 58) hC dX12_ranksFrom_58 rfl ?_
          refine g_iload_n (pc := 59) hC dX12_ranksFrom_59 rfl ?_
          refine g_iload_n (pc := 60) hC dX12_ranksFrom_60 rfl ?_
          obtain ⟨v9, hc, h⟩ := cp_e h
          refine g_callVi (pc := 61) (As := [.int a1, .int a2, .int w3]) (rest := [.int v8]) hC (c_X12_between l E a1 a2 w3 σ4 v9 hc) mi_X12_between mv_X12_between ob_55 rfl rfl lk_X12_223 rfl rfl (Nat.le_of_ble_eq_true rfl) ⟨by decide, by decide⟩ hab dX12_ranksFrom_61 ?_
          refine g_iadd (pc := 64) hC dX12_ranksFrom_64 ?_
          obtain ⟨v10, ev10, h⟩ := lt_e h
          refine g_top ev10 ?_
          refine g_istore (lv2 := [some (.ref (E.2.1 55)), some (.int a1), some (.int a2), some (.int w3), some (.int v10), none]) (pc := 65) hC dX12_ranksFrom_65 rfl (Or.inr rfl) (hN _ (by decide)) ?_
          refine g_iconst (pc := 67) hC ki_0 dX12_ranksFrom_67 ?_
          refine g_istore (lv2 := [some (.ref (E.2.1 55)), some (.int a1), some (.int a2), some (.int w3), some (.int v10), some (.int 0)]) (pc := 68) hC dX12_ranksFrom_68 rfl (Or.inr rfl) (hN _ (by decide)) ?_
          have hL2 : ∀ (n : Nat) (w11 : Int32) (σ12 : uS) (z2 : uS), iter n (fun z => B_X12_ranksFrom_3 a1 a2 v10 w3 z.1 z.2) (w11, σ12) = some z2 → (∀ (σ13 : uS), z2 = σ13 → Gd l E K 0 0 o σ13 120 [some (.ref (E.2.1 55)), some (.int a1), some (.int a2), some (.int w3), none, none] []) → Gd l E K 0 0 o σ12 70 [some (.ref (E.2.1 55)), some (.int a1), some (.int a2), some (.int w3), some (.int v10), some (.int w11)] [] := by
            intro n
            induction n with
            | zero =>
              intro w11 σ12 z2 hi
              exact (iter_0 hi).elim
            | succ n ih2 =>
              intro w11 σ12 z2 hi2 kx2
              obtain ⟨r2, h, hi2⟩ := iter_s hi2
              replace h : B_X12_ranksFrom_3 a1 a2 v10 w3 w11 σ12 = some r2 := h
              delta B_X12_ranksFrom_3 at h
              refine g_iload (pc := 70) hC dX12_ranksFrom_70 rfl ?_
              refine g_aload_n (pc := 72) hC dX12_ranksFrom_72 rfl ?_
              refine fg_X12_65_55 (pc := 73) hC dX12_ranksFrom_73 ?_
              refine g_bipush (pc := 76) hC kb_6 dX12_ranksFrom_76 ?_
              refine g_iload_n (pc := 78) hC dX12_ranksFrom_78 rfl ?_
              refine g_iconst (pc := 79) hC ki_1 dX12_ranksFrom_79 ?_
              refine g_iadd (pc := 80) hC dX12_ranksFrom_80 ?_
              refine g_imul (pc := 81) hC dX12_ranksFrom_81 ?_
              refine g_iload_n (pc := 82) hC dX12_ranksFrom_82 rfl ?_
              refine g_iadd (pc := 83) hC dX12_ranksFrom_83 ?_
              obtain ⟨v14, ev14, nv14, h⟩ := rd_e h
              refine g_iald (pc := 84) hC 74 (by decide) (ar_74 _ _ _) nv14 dX12_ranksFrom_84 ?_
              refine g_top ev14 ?_
              refine g_icmp_ge (tgt := 120) (pc := 85) hC dX12_ranksFrom_85 (by decide) (fun c15 => ?_) (fun c15 => ?_)
              · replace h := it_t c15 h
                refine g_mask [true, true, true, true, false, false] rfl ?_
                exact kx2 σ12 (iter_r h hi2)
              · replace h := it_f c15 h
                refine g_aload_n (pc := 88) hC dX12_ranksFrom_88 rfl ?_
                refine g_iload_n (pc := 89) hC dX12_ranksFrom_89 rfl ?_
                refine g_iload_n (pc := 90) hC dX12_ranksFrom_90 rfl ?_
                refine g_iload (pc := 91) hC dX12_ranksFrom_91 rfl ?_
                refine g_aload_n (pc := 93) hC dX12_ranksFrom_93 rfl ?_
                refine fg_X12_56_55 (pc := 94) hC dX12_ranksFrom_94 ?_
                refine g_iload_n (pc := 97) hC dX12_ranksFrom_97 rfl ?_
                refine g_iconst (pc := 98) hC ki_1 dX12_ranksFrom_98 ?_
                refine g_iadd (pc := 99) hC dX12_ranksFrom_99 ?_
                refine g_iload_n (pc := 100) hC dX12_ranksFrom_100 rfl ?_
                refine g_iload (pc := 101) hC dX12_ranksFrom_101 rfl ?_
                obtain ⟨v16, hc, h⟩ := cp_e h
                refine g_callSi (pc := 103) (As := [.int (a1 + 1), .int w3, .int w11]) (rest := [.ref (E.2.1 71), .int v10, .int a2, .int a1, .ref (E.2.1 55)]) hC (c_X12_rankAt l E (a1 + 1) w3 w11 σ12 v16 hc) mi_X12_rankAt ms_X12_rankAt lk_X12_267 rfl rfl (Nat.le_of_ble_eq_true rfl) ⟨by decide, by decide⟩ hab dX12_ranksFrom_103 ?_
                obtain ⟨v17, ev17, nv17, h⟩ := rd_e h
                refine g_iald (pc := 106) hC 71 (by decide) (ar_71 _ _ _) nv17 dX12_ranksFrom_106 ?_
                refine g_top ev17 ?_
                refine g_iadd (pc := 107) hC dX12_ranksFrom_107 ?_
                refine g_iload_n (pc := 108) hC dX12_ranksFrom_108 rfl ?_
                refine g_iload (pc := 109) hC dX12_ranksFrom_109 rfl ?_
                obtain ⟨σ18, hc, h⟩ := cp_e h
                refine g_callVv (pc := 111) (As := [.int a1, .int a2, .int (v10 + v17), .int w3, .int w11]) (rest := []) hC (c_X12_ranks l E a1 a2 (v10 + v17) w3 w11 σ12 σ18 hc) mi_X12_ranks mv_X12_ranks ob_55 rfl rfl lk_X12_270 rfl rfl (Nat.le_of_ble_eq_true rfl) ⟨by decide, by decide⟩ hab dX12_ranksFrom_111 ?_
                obtain ⟨v19, ev19, h⟩ := lt_e h
                refine g_iinc (v := v19) (lv2 := [some (.ref (E.2.1 55)), some (.int a1), some (.int a2), some (.int w3), some (.int v10), some (.int v19)]) (pc := 114) hC dX12_ranksFrom_114 rfl ev19 rfl (Or.inr rfl) (hN _ (by decide)) ?_
                refine g_goto (tgt := 70) (pc := 117) hC dX12_ranksFrom_117 (by decide) ?_
                exact ih2 v19 σ18 z2 (iter_l h hi2) kx2
          obtain ⟨z2, hz2, h⟩ := lp_e h
          refine hL2 FU 0 σ4 z2 hz2 (fun σ13 ez => ?_)
          replace h : C_X12_ranksFrom_4 w3 σ13 = some r1 := by rw [ez] at h; exact h
          delta C_X12_ranksFrom_4 at h
          obtain ⟨v20, ev20, h⟩ := lt_e h
          refine g_iinc (v := v20) (lv2 := [some (.ref (E.2.1 55)), some (.int a1), some (.int a2), some (.int v20), none, none]) (pc := 120) hC dX12_ranksFrom_120 rfl ev20 rfl (Or.inr rfl) (hN _ (by decide)) ?_
          refine g_goto (tgt := 39) (pc := 123) hC dX12_ranksFrom_123 (by decide) ?_
          exact ih1 v20 σ13 z1 (iter_l h hi1) kx1
    obtain ⟨z1, hz1, h⟩ := lp_e h
    refine hL1 FU 0 σ1 z1 hz1 (fun σ5 ez => ?_)
    replace h : C_X12_ranksFrom_6 σ5 = some σr := by rw [ez] at h; exact h
    delta C_X12_ranksFrom_6 at h
    exact g_retv (pc := 126) hC h hR dX12_ranksFrom_126
  · replace h := it_t c2 h
    refine g_aload_n (pc := 22) hC dX12_ranksFrom_22 rfl ?_
    refine g_iload_n (pc := 23) hC dX12_ranksFrom_23 rfl ?_
    refine g_iload_n (pc := 24) hC dX12_ranksFrom_24 rfl ?_
    refine g_aload_n (pc := 25) hC dX12_ranksFrom_25 rfl ?_
    refine g_iload_n (pc := 26) hC dX12_ranksFrom_26 rfl ?_
    refine g_iload_n (pc := 27) hC dX12_ranksFrom_27 rfl ?_
    obtain ⟨v21, hc, h⟩ := cp_e h
    refine g_callVi (pc := 28) (As := [.int a1, .int a2]) (rest := [.int a2, .int a1, .ref (E.2.1 55)]) hC (c_X12_ownAt l E a1 a2 σ1 v21 hc) mi_X12_ownAt mv_X12_ownAt ob_55 rfl rfl lk_X12_201 rfl rfl (Nat.le_of_ble_eq_true rfl) ⟨by decide, by decide⟩ hab dX12_ranksFrom_28 ?_
    refine g_iconst (pc := 31) hC ki_m1 dX12_ranksFrom_31 ?_
    refine g_iconst (pc := 32) hC ki_m1 dX12_ranksFrom_32 ?_
    obtain ⟨σ22, hc, h⟩ := cp_e h
    refine g_callVv (pc := 33) (As := [.int a1, .int a2, .int v21, .int (-1), .int (-1)]) (rest := []) hC (c_X12_ranks l E a1 a2 v21 (-1) (-1) σ1 σ22 hc) mi_X12_ranks mv_X12_ranks ob_55 rfl rfl lk_X12_270 rfl rfl (Nat.le_of_ble_eq_true rfl) ⟨by decide, by decide⟩ hab dX12_ranksFrom_33 ?_
    exact g_retv (pc := 36) hC h hR dX12_ranksFrom_36
set_option maxRecDepth 20000 in
theorem c_X12_tops (l : Launch) (E : uE) (a1 : Int32) (a2 : Int32) (a3 : Int32) (σ : uS) (σr : uS) (h : F_X12_tops a1 a2 a3 σ = some σr) : CtV l E yX12_tops cX12_tops 6 0 0 [.ref (E.2.1 55), .int a1, .int a2, .int a3] σ σr := by
  refine enterV 2 [some (.ref (E.2.1 55)), some (.int a1), some (.int a2), some (.int a3), none, none] (by decide +kernel) rfl (Nat.le_of_ble_eq_true rfl) (fun o K hnL hC hab hR => ?_)
  have hC : Cx E K RX12 cX12_tops none 0 0 := hC
  have hN : ∀ k, k < 6 → k < K.2.2.2.2.2 := fun k hk => hnL ▸ hk
  delta F_X12_tops at h
  refine g_aload_n (pc := 0) hC dX12_tops_0 rfl ?_
  refine fg_X12_274_55 (pc := 1) hC dX12_tops_1 ?_
  obtain ⟨v1, ev1, h⟩ := lt_e h
  refine g_top ev1 ?_
  refine g_istore (lv2 := [some (.ref (E.2.1 55)), some (.int a1), some (.int a2), some (.int a3), some (.int v1), none]) (pc := 4) hC dX12_tops_4 rfl (Or.inr rfl) (hN _ (by decide)) ?_
  have hL1 : ∀ (n : Nat) (w2 : Int32) (z1 : Int32), iter n (fun z => B_X12_tops_2 a1 σ z) w2 = some z1 → (∀ (v3 : Int32), z1 = v3 → Gd l E K 0 0 o σ 30 [some (.ref (E.2.1 55)), some (.int a1), some (.int a2), some (.int a3), some (.int v3), none] []) → Gd l E K 0 0 o σ 6 [some (.ref (E.2.1 55)), some (.int a1), some (.int a2), some (.int a3), some (.int w2), none] [] := by
    intro n
    induction n with
    | zero =>
      intro w2 z1 hi
      exact (iter_0 hi).elim
    | succ n ih1 =>
      intro w2 z1 hi1 kx1
      obtain ⟨r1, h, hi1⟩ := iter_s hi1
      replace h : B_X12_tops_2 a1 σ w2 = some r1 := h
      delta B_X12_tops_2 at h
      refine g_iload (pc := 6) hC dX12_tops_6 rfl ?_
      refine g_if_le (tgt := 30) (pc := 8) hC dX12_tops_8 (by decide) (fun c4 => ?_) (fun c4 => ?_)
      · replace h := it_t c4 h
        exact kx1 w2 (iter_r h hi1)
      · replace h := it_f c4 h
        refine g_aload_n (pc := 11) hC dX12_tops_11 rfl ?_
        refine fg_X12_68_55 (pc := 12) hC dX12_tops_12 ?_
        refine g_iload (pc := 15) hC dX12_tops_15 rfl ?_
        refine g_iconst (pc := 17) hC ki_1 dX12_tops_17 ?_
        refine g_isub (pc := 18) hC dX12_tops_18 ?_
        obtain ⟨v5, ev5, nv5, h⟩ := rd_e h
        refine g_iald (pc := 19) hC 75 (by decide) (ar_75 _ _ _) nv5 dX12_tops_19 ?_
        refine g_top ev5 ?_
        refine g_iload_n (pc := 20) hC dX12_tops_20 rfl ?_
        refine g_icmp_le (tgt := 30) (pc := 21) hC dX12_tops_21 (by decide) (fun c6 => ?_) (fun c6 => ?_)
        · replace h := it_t c6 h
          exact kx1 w2 (iter_r h hi1)
        · replace h := it_f c6 h
          obtain ⟨v7, ev7, h⟩ := lt_e h
          refine g_iinc (v := v7) (lv2 := [some (.ref (E.2.1 55)), some (.int a1), some (.int a2), some (.int a3), some (.int v7), none]) (pc := 24) hC dX12_tops_24 rfl ev7 rfl (Or.inr rfl) (hN _ (by decide)) ?_
          refine g_goto (tgt := 6) (pc := 27) hC dX12_tops_27 (by decide) ?_
          exact ih1 v7 z1 (iter_l h hi1) kx1
  obtain ⟨z1, hz1, h⟩ := lp_e h
  refine hL1 FU v1 z1 hz1 (fun v3 ez => ?_)
  replace h : C_X12_tops_6 a1 a2 a3 σ v3 = some σr := by rw [ez] at h; exact h
  delta C_X12_tops_6 at h
  refine g_iload (pc := 30) hC dX12_tops_30 rfl ?_
  refine g_bipush (pc := 32) hC kb_8 dX12_tops_32 ?_
  refine g_icmp_ne (tgt := 38) (pc := 34) hC dX12_tops_34 (by decide) (fun c8 => ?_) (fun c8 => ?_)
  · replace h := it_f c8 h
    refine g_aload_n (pc := 38) hC dX12_tops_38 rfl ?_
    refine g_aload_n (pc := 39) hC dX12_tops_39 rfl ?_
    refine fg_X12_274_55 (pc := 40) hC dX12_tops_40 ?_
    refine g_bipush (pc := 43) hC kb_8 dX12_tops_43 ?_
    obtain ⟨v10, ev10, h⟩ := lt_e h
    have hJ59 : Gd l E K 0 0 o σ 59 [some (.ref (E.2.1 55)), some (.int a1), some (.int a2), some (.int a3), some (.int v3), none] [.int v10, .ref (E.2.1 55)] := by
      obtain ⟨σ11, eσ11, h⟩ := pf_e h
      refine fp_X12_274_55 (pc := 59) hC dX12_tops_59 eσ11 ?_
      refine g_aload_n (pc := 62) hC dX12_tops_62 rfl ?_
      refine fg_X12_274_55 (pc := 63) hC dX12_tops_63 ?_
      refine g_iconst (pc := 66) hC ki_1 dX12_tops_66 ?_
      refine g_isub (pc := 67) hC dX12_tops_67 ?_
      obtain ⟨v12, ev12, h⟩ := lt_e h
      refine g_top ev12 ?_
      refine g_istore (lv2 := [some (.ref (E.2.1 55)), some (.int a1), some (.int a2), some (.int a3), some (.int v3), some (.int v12)]) (pc := 68) hC dX12_tops_68 rfl (Or.inr rfl) (hN _ (by decide)) ?_
      have hL3 : ∀ (n : Nat) (w13 : Int32) (σ14 : uS) (z3 : uS), iter n (fun z => B_X12_tops_4 v3 z.1 z.2) (w13, σ14) = some z3 → (∀ (σ15 : uS), z3 = σ15 → Gd l E K 0 0 o σ15 131 [some (.ref (E.2.1 55)), some (.int a1), some (.int a2), some (.int a3), some (.int v3), none] []) → Gd l E K 0 0 o σ14 70 [some (.ref (E.2.1 55)), some (.int a1), some (.int a2), some (.int a3), some (.int v3), some (.int w13)] [] := by
        intro n
        induction n with
        | zero =>
          intro w13 σ14 z3 hi
          exact (iter_0 hi).elim
        | succ n ih3 =>
          intro w13 σ14 z3 hi3 kx3
          obtain ⟨r3, h, hi3⟩ := iter_s hi3
          replace h : B_X12_tops_4 v3 w13 σ14 = some r3 := h
          delta B_X12_tops_4 at h
          refine g_iload (pc := 70) hC dX12_tops_70 rfl ?_
          refine g_iload (pc := 72) hC dX12_tops_72 rfl ?_
          refine g_icmp_le (tgt := 131) (pc := 74) hC dX12_tops_74 (by decide) (fun c16 => ?_) (fun c16 => ?_)
          · replace h := it_t c16 h
            refine g_mask [true, true, true, true, true, false] rfl ?_
            exact kx3 σ14 (iter_r h hi3)
          · replace h := it_f c16 h
            refine g_aload_n (pc := 77) hC dX12_tops_77 rfl ?_
            refine fg_X12_68_55 (pc := 78) hC dX12_tops_78 ?_
            refine g_iload (pc := 81) hC dX12_tops_81 rfl ?_
            refine g_aload_n (pc := 83) hC dX12_tops_83 rfl ?_
            refine fg_X12_68_55 (pc := 84) hC dX12_tops_84 ?_
            refine g_iload (pc := 87) hC dX12_tops_87 rfl ?_
            refine g_iconst (pc := 89) hC ki_1 dX12_tops_89 ?_
            refine g_isub (pc := 90) hC dX12_tops_90 ?_
            obtain ⟨v17, ev17, nv17, h⟩ := rd_e h
            refine g_iald (pc := 91) hC 75 (by decide) (ar_75 _ _ _) nv17 dX12_tops_91 ?_
            refine g_top ev17 ?_
            obtain ⟨σ18, eσ18, nσ18, h⟩ := wr_e h
            refine g_iast (pc := 92) hC 75 (by decide) (ar_75 _ _) nσ18 dX12_tops_92 eσ18 ?_
            refine g_aload_n (pc := 93) hC dX12_tops_93 rfl ?_
            refine fg_X12_71_55 (pc := 94) hC dX12_tops_94 ?_
            refine g_iload (pc := 97) hC dX12_tops_97 rfl ?_
            refine g_aload_n (pc := 99) hC dX12_tops_99 rfl ?_
            refine fg_X12_71_55 (pc := 100) hC dX12_tops_100 ?_
            refine g_iload (pc := 103) hC dX12_tops_103 rfl ?_
            refine g_iconst (pc := 105) hC ki_1 dX12_tops_105 ?_
            refine g_isub (pc := 106) hC dX12_tops_106 ?_
            obtain ⟨v19, ev19, nv19, h⟩ := rd_e h
            refine g_iald (pc := 107) hC 76 (by decide) (ar_76 _ _ _) nv19 dX12_tops_107 ?_
            refine g_top ev19 ?_
            obtain ⟨σ20, eσ20, nσ20, h⟩ := wr_e h
            refine g_iast (pc := 108) hC 76 (by decide) (ar_76 _ _) nσ20 dX12_tops_108 eσ20 ?_
            refine g_aload_n (pc := 109) hC dX12_tops_109 rfl ?_
            refine fg_X12_74_55 (pc := 110) hC dX12_tops_110 ?_
            refine g_iload (pc := 113) hC dX12_tops_113 rfl ?_
            refine g_aload_n (pc := 115) hC dX12_tops_115 rfl ?_
            refine fg_X12_74_55 (pc := 116) hC dX12_tops_116 ?_
            refine g_iload (pc := 119) hC dX12_tops_119 rfl ?_
            refine g_iconst (pc := 121) hC ki_1 dX12_tops_121 ?_
            refine g_isub (pc := 122) hC dX12_tops_122 ?_
            obtain ⟨v21, ev21, nv21, h⟩ := rd_e h
            refine g_iald (pc := 123) hC 77 (by decide) (ar_77 _ _ _) nv21 dX12_tops_123 ?_
            refine g_top ev21 ?_
            obtain ⟨σ22, eσ22, nσ22, h⟩ := wr_e h
            refine g_iast (pc := 124) hC 77 (by decide) (ar_77 _ _) nσ22 dX12_tops_124 eσ22 ?_
            obtain ⟨v23, ev23, h⟩ := lt_e h
            refine g_iinc (v := v23) (lv2 := [some (.ref (E.2.1 55)), some (.int a1), some (.int a2), some (.int a3), some (.int v3), some (.int v23)]) (pc := 125) hC dX12_tops_125 rfl ev23 rfl (Or.inr rfl) (hN _ (by decide)) ?_
            refine g_goto (tgt := 70) (pc := 128) hC dX12_tops_128 (by decide) ?_
            exact ih3 v23 σ22 z3 (iter_l h hi3) kx3
      obtain ⟨z3, hz3, h⟩ := lp_e h
      refine hL3 FU v12 σ11 z3 hz3 (fun σ15 ez => ?_)
      replace h : C_X12_tops_5 a1 a2 a3 v3 σ15 = some σr := by rw [ez] at h; exact h
      delta C_X12_tops_5 at h
      refine g_aload_n (pc := 131) hC dX12_tops_131 rfl ?_
      refine fg_X12_68_55 (pc := 132) hC dX12_tops_132 ?_
      refine g_iload (pc := 135) hC dX12_tops_135 rfl ?_
      refine g_iload_n (pc := 137) hC dX12_tops_137 rfl ?_
      obtain ⟨σ24, eσ24, nσ24, h⟩ := wr_e h
      refine g_iast (pc := 138) hC 75 (by decide) (ar_75 _ _) nσ24 dX12_tops_138 eσ24 ?_
      refine g_aload_n (pc := 139) hC dX12_tops_139 rfl ?_
      refine fg_X12_71_55 (pc := 140) hC dX12_tops_140 ?_
      refine g_iload (pc := 143) hC dX12_tops_143 rfl ?_
      refine g_iload_n (pc := 145) hC dX12_tops_145 rfl ?_
      obtain ⟨σ25, eσ25, nσ25, h⟩ := wr_e h
      refine g_iast (pc := 146) hC 76 (by decide) (ar_76 _ _) nσ25 dX12_tops_146 eσ25 ?_
      refine g_aload_n (pc := 147) hC dX12_tops_147 rfl ?_
      refine fg_X12_74_55 (pc := 148) hC dX12_tops_148 ?_
      refine g_iload (pc := 151) hC dX12_tops_151 rfl ?_
      refine g_iload_n (pc := 153) hC dX12_tops_153 rfl ?_
      obtain ⟨σ26, eσ26, nσ26, h⟩ := wr_e h
      refine g_iast (pc := 154) hC 77 (by decide) (ar_77 _ _) nσ26 dX12_tops_154 eσ26 ?_
      exact g_retv (pc := 155) hC h hR dX12_tops_155
    refine g_icmp_ge (tgt := 57) (pc := 45) hC dX12_tops_45 (by decide) (fun c9 => ?_) (fun c9 => ?_)
    · refine g_bipush (pc := 57) hC kb_8 dX12_tops_57 ?_
      exact g_top (iv_t c9 ev10) hJ59
    · refine g_aload_n (pc := 48) hC dX12_tops_48 rfl ?_
      refine fg_X12_274_55 (pc := 49) hC dX12_tops_49 ?_
      refine g_iconst (pc := 52) hC ki_1 dX12_tops_52 ?_
      refine g_iadd (pc := 53) hC dX12_tops_53 ?_
      refine g_goto (tgt := 59) (pc := 54) hC dX12_tops_54 (by decide) ?_
      exact g_top (iv_f c9 ev10) hJ59
  · replace h := it_t c8 h
    exact g_retv (pc := 37) hC h hR dX12_tops_37
set_option maxRecDepth 20000 in
theorem c_X12_laysTops (l : Launch) (E : uE) (σ : uS) (σr : uS) (h : F_X12_laysTops σ = some σr) : CtV l E yX12_laysTops cX12_laysTops 3 5 111 [.ref (E.2.1 55)] σ σr := by
  refine enterV 2 [some (.ref (E.2.1 55)), none, none] (by decide +kernel) rfl (Nat.le_of_ble_eq_true rfl) (fun o K hnL hC hab hR => ?_)
  have hC : Cx E K RX12 cX12_laysTops none 5 111 := hC
  have hN : ∀ k, k < 3 → k < K.2.2.2.2.2 := fun k hk => hnL ▸ hk
  delta F_X12_laysTops at h
  refine g_aload_n (pc := 0) hC dX12_laysTops_0 rfl ?_
  obtain ⟨σ1, hc, h⟩ := cp_e h
  refine g_callVv (pc := 1) (As := []) (rest := []) hC (c_X12_laysAll l E σ σ1 hc) mi_X12_laysAll mv_X12_laysAll ob_55 rfl rfl lk_X12_239 rfl rfl (Nat.le_of_ble_eq_true rfl) ⟨by decide, by decide⟩ hab dX12_laysTops_1 ?_
  refine g_aload_n (pc := 4) hC dX12_laysTops_4 rfl ?_
  obtain ⟨σ2, hc, h⟩ := cp_e h
  refine g_callVv (pc := 5) (As := []) (rest := []) hC (c_X12_opens l E σ1 σ2 hc) mi_X12_opens mv_X12_opens ob_55 rfl rfl lk_X12_242 rfl rfl (Nat.le_of_ble_eq_true rfl) ⟨by decide, by decide⟩ hab dX12_laysTops_5 ?_
  refine g_aload_n (pc := 8) hC dX12_laysTops_8 rfl ?_
  refine g_iconst (pc := 9) hC ki_0 dX12_laysTops_9 ?_
  obtain ⟨σ3, eσ3, h⟩ := pf_e h
  refine fp_X12_274_55 (pc := 10) hC dX12_laysTops_10 eσ3 ?_
  refine g_aload_n (pc := 13) hC dX12_laysTops_13 rfl ?_
  refine fg_X12_189_55 (pc := 14) hC dX12_laysTops_14 ?_
  refine g_iconst (pc := 17) hC ki_1 dX12_laysTops_17 ?_
  refine g_isub (pc := 18) hC dX12_laysTops_18 ?_
  obtain ⟨v4, ev4, h⟩ := lt_e h
  refine g_top ev4 ?_
  refine g_istore_n (lv2 := [some (.ref (E.2.1 55)), some (.int v4), none]) (pc := 19) hC dX12_laysTops_19 rfl (Or.inr rfl) (hN _ (by decide)) ?_
  have hL1 : ∀ (n : Nat) (w5 : Int32) (σ6 : uS) (z1 : uS), iter n (fun z => B_X12_laysTops_5 z.1 z.2) (w5, σ6) = some z1 → (∀ (σ7 : uS), z1 = σ7 → Gd l E K 0 0 o σ7 54 [some (.ref (E.2.1 55)), none, none] []) → Gd l E K 0 0 o σ6 20 [some (.ref (E.2.1 55)), some (.int w5), none] [] := by
    intro n
    induction n with
    | zero =>
      intro w5 σ6 z1 hi
      exact (iter_0 hi).elim
    | succ n ih1 =>
      intro w5 σ6 z1 hi1 kx1
      obtain ⟨r1, h, hi1⟩ := iter_s hi1
      replace h : B_X12_laysTops_5 w5 σ6 = some r1 := h
      delta B_X12_laysTops_5 at h
      refine g_iload_n (pc := 20) hC dX12_laysTops_20 rfl ?_
      refine g_if_lt (tgt := 54) (pc := 21) hC dX12_laysTops_21 (by decide) (fun c8 => ?_) (fun c8 => ?_)
      · replace h := it_t c8 h
        refine g_mask [true, false, false] rfl ?_
        exact kx1 σ6 (iter_r h hi1)
      · replace h := it_f c8 h
        refine g_iconst (pc := 24) hC ki_0 dX12_laysTops_24 ?_
        refine g_istore_n (lv2 := [some (.ref (E.2.1 55)), some (.int w5), some (.int 0)]) (pc := 25) hC dX12_laysTops_25 rfl (Or.inr rfl) (hN _ (by decide)) ?_
        have hL2 : ∀ (n : Nat) (w9 : Int32) (σ10 : uS) (z2 : uS), iter n (fun z => B_X12_laysTops_3 w5 z.1 z.2) (w9, σ10) = some z2 → (∀ (σ11 : uS), z2 = σ11 → Gd l E K 0 0 o σ11 48 [some (.ref (E.2.1 55)), some (.int w5), none] []) → Gd l E K 0 0 o σ10 26 [some (.ref (E.2.1 55)), some (.int w5), some (.int w9)] [] := by
          intro n
          induction n with
          | zero =>
            intro w9 σ10 z2 hi
            exact (iter_0 hi).elim
          | succ n ih2 =>
            intro w9 σ10 z2 hi2 kx2
            obtain ⟨r2, h, hi2⟩ := iter_s hi2
            replace h : B_X12_laysTops_3 w5 w9 σ10 = some r2 := h
            delta B_X12_laysTops_3 at h
            refine g_iload_n (pc := 26) hC dX12_laysTops_26 rfl ?_
            refine g_aload_n (pc := 27) hC dX12_laysTops_27 rfl ?_
            refine fg_X12_40_55 (pc := 28) hC dX12_laysTops_28 ?_
            refine g_iload_n (pc := 31) hC dX12_laysTops_31 rfl ?_
            obtain ⟨v12, ev12, nv12, h⟩ := rd_e h
            refine g_iald (pc := 32) hC 66 (by decide) (ar_66 _ _ _) nv12 dX12_laysTops_32 ?_
            refine g_top ev12 ?_
            refine g_icmp_ge (tgt := 48) (pc := 33) hC dX12_laysTops_33 (by decide) (fun c13 => ?_) (fun c13 => ?_)
            · replace h := it_t c13 h
              refine g_mask [true, true, false] rfl ?_
              exact kx2 σ10 (iter_r h hi2)
            · replace h := it_f c13 h
              refine g_aload_n (pc := 36) hC dX12_laysTops_36 rfl ?_
              refine g_iload_n (pc := 37) hC dX12_laysTops_37 rfl ?_
              refine g_iload_n (pc := 38) hC dX12_laysTops_38 rfl ?_
              obtain ⟨σ14, hc, h⟩ := cp_e h
              refine g_callVv (pc := 39) (As := [.int w5, .int w9]) (rest := []) hC (c_X12_ranksFrom l E w5 w9 σ10 σ14 hc) mi_X12_ranksFrom mv_X12_ranksFrom ob_55 rfl rfl lk_X12_277 rfl rfl (Nat.le_of_ble_eq_true rfl) ⟨by decide, by decide⟩ hab dX12_laysTops_39 ?_
              obtain ⟨v15, ev15, h⟩ := lt_e h
              refine g_iinc (v := v15) (lv2 := [some (.ref (E.2.1 55)), some (.int w5), some (.int v15)]) (pc := 42) hC dX12_laysTops_42 rfl ev15 rfl (Or.inr rfl) (hN _ (by decide)) ?_
              refine g_goto (tgt := 26) (pc := 45) hC dX12_laysTops_45 (by decide) ?_
              exact ih2 v15 σ14 z2 (iter_l h hi2) kx2
        obtain ⟨z2, hz2, h⟩ := lp_e h
        refine hL2 FU 0 σ6 z2 hz2 (fun σ11 ez => ?_)
        replace h : C_X12_laysTops_4 w5 σ11 = some r1 := by rw [ez] at h; exact h
        delta C_X12_laysTops_4 at h
        obtain ⟨v16, ev16, h⟩ := lt_e h
        refine g_iinc (v := v16) (lv2 := [some (.ref (E.2.1 55)), some (.int v16), none]) (pc := 48) hC dX12_laysTops_48 rfl ev16 rfl (Or.inr rfl) (hN _ (by decide)) ?_
        refine g_goto (tgt := 20) (pc := 51) hC dX12_laysTops_51 (by decide) ?_
        exact ih1 v16 σ11 z1 (iter_l h hi1) kx1
  obtain ⟨z1, hz1, h⟩ := lp_e h
  refine hL1 FU v4 σ3 z1 hz1 (fun σ7 ez => ?_)
  replace h : C_X12_laysTops_12 σ7 = some σr := by rw [ez] at h; exact h
  delta C_X12_laysTops_12 at h
  refine g_aload_n (pc := 54) hC dX12_laysTops_54 rfl ?_
  refine fg_X12_189_55 (pc := 55) hC dX12_laysTops_55 ?_
  refine g_if_ne (tgt := 69) (pc := 58) hC dX12_laysTops_58 (by decide) (fun c17 => ?_) (fun c17 => ?_)
  · replace h := it_f c17 h
    refine g_iconst (pc := 69) hC ki_0 dX12_laysTops_69 ?_
    refine g_istore_n (lv2 := [some (.ref (E.2.1 55)), some (.int 0), none]) (pc := 70) hC dX12_laysTops_70 rfl (Or.inr rfl) (hN _ (by decide)) ?_
    have hL6 : ∀ (n : Nat) (w18 : Int32) (σ19 : uS) (z6 : uS), iter n (fun z => B_X12_laysTops_10 z.1 z.2) (w18, σ19) = some z6 → (∀ (σ20 : uS), z6 = σ20 → Gd l E K 0 0 o σ20 122 [none, none, none] []) → Gd l E K 0 0 o σ19 71 [some (.ref (E.2.1 55)), some (.int w18), none] [] := by
      intro n
      induction n with
      | zero =>
        intro w18 σ19 z6 hi
        exact (iter_0 hi).elim
      | succ n ih6 =>
        intro w18 σ19 z6 hi6 kx6
        obtain ⟨r6, h, hi6⟩ := iter_s hi6
        replace h : B_X12_laysTops_10 w18 σ19 = some r6 := h
        delta B_X12_laysTops_10 at h
        refine g_iload_n (pc := 71) hC dX12_laysTops_71 rfl ?_
        refine g_aload_n (pc := 72) hC dX12_laysTops_72 rfl ?_
        refine fg_X12_40_55 (pc := 73) hC dX12_laysTops_73 ?_
        refine g_iconst (pc := 76) hC ki_0 dX12_laysTops_76 ?_
        obtain ⟨v21, ev21, nv21, h⟩ := rd_e h
        refine g_iald (pc := 77) hC 66 (by decide) (ar_66 _ _ _) nv21 dX12_laysTops_77 ?_
        refine g_top ev21 ?_
        refine g_icmp_ge (tgt := 122) (pc := 78) hC dX12_laysTops_78 (by decide) (fun c22 => ?_) (fun c22 => ?_)
        · replace h := it_t c22 h
          refine g_mask [false, false, false] rfl ?_
          exact kx6 σ19 (iter_r h hi6)
        · replace h := it_f c22 h
          refine g_iconst (pc := 81) hC ki_0 dX12_laysTops_81 ?_
          refine g_istore_n (lv2 := [some (.ref (E.2.1 55)), some (.int w18), some (.int 0)]) (pc := 82) hC dX12_laysTops_82 rfl (Or.inr rfl) (hN _ (by decide)) ?_
          have hL7 : ∀ (n : Nat) (w23 : Int32) (σ24 : uS) (z7 : uS), iter n (fun z => B_X12_laysTops_8 w18 z.1 z.2) (w23, σ24) = some z7 → (∀ (σ25 : uS), z7 = σ25 → Gd l E K 0 0 o σ25 116 [some (.ref (E.2.1 55)), some (.int w18), none] []) → Gd l E K 0 0 o σ24 83 [some (.ref (E.2.1 55)), some (.int w18), some (.int w23)] [] := by
            intro n
            induction n with
            | zero =>
              intro w23 σ24 z7 hi
              exact (iter_0 hi).elim
            | succ n ih7 =>
              intro w23 σ24 z7 hi7 kx7
              obtain ⟨r7, h, hi7⟩ := iter_s hi7
              replace h : B_X12_laysTops_8 w18 w23 σ24 = some r7 := h
              delta B_X12_laysTops_8 at h
              refine g_iload_n (pc := 83) hC dX12_laysTops_83 rfl ?_
              refine g_aload_n (pc := 84) hC dX12_laysTops_84 rfl ?_
              refine fg_X12_65_55 (pc := 85) hC dX12_laysTops_85 ?_
              refine g_iload_n (pc := 88) hC dX12_laysTops_88 rfl ?_
              obtain ⟨v26, ev26, nv26, h⟩ := rd_e h
              refine g_iald (pc := 89) hC 74 (by decide) (ar_74 _ _ _) nv26 dX12_laysTops_89 ?_
              refine g_top ev26 ?_
              refine g_icmp_ge (tgt := 116) (pc := 90) hC dX12_laysTops_90 (by decide) (fun c27 => ?_) (fun c27 => ?_)
              · replace h := it_t c27 h
                refine g_mask [true, true, false] rfl ?_
                exact kx7 σ24 (iter_r h hi7)
              · replace h := it_f c27 h
                refine g_aload_n (pc := 93) hC dX12_laysTops_93 rfl ?_
                refine g_aload_n (pc := 94) hC dX12_laysTops_94 rfl ?_
                refine fg_X12_56_55 (pc := 95) hC dX12_laysTops_95 ?_
                refine g_iconst (pc := 98) hC ki_0 dX12_laysTops_98 ?_
                refine g_iload_n (pc := 99) hC dX12_laysTops_99 rfl ?_
                refine g_iload_n (pc := 100) hC dX12_laysTops_100 rfl ?_
                obtain ⟨v28, hc, h⟩ := cp_e h
                refine g_callSi (pc := 101) (As := [.int 0, .int w18, .int w23]) (rest := [.ref (E.2.1 71), .ref (E.2.1 55)]) hC (c_X12_rankAt l E 0 w18 w23 σ24 v28 hc) mi_X12_rankAt ms_X12_rankAt lk_X12_267 rfl rfl (Nat.le_of_ble_eq_true rfl) ⟨by decide, by decide⟩ hab dX12_laysTops_101 ?_
                obtain ⟨v29, ev29, nv29, h⟩ := rd_e h
                refine g_iald (pc := 104) hC 71 (by decide) (ar_71 _ _ _) nv29 dX12_laysTops_104 ?_
                refine g_top ev29 ?_
                refine g_iload_n (pc := 105) hC dX12_laysTops_105 rfl ?_
                refine g_iload_n (pc := 106) hC dX12_laysTops_106 rfl ?_
                obtain ⟨σ30, hc, h⟩ := cp_e h
                refine g_callVv (pc := 107) (As := [.int v29, .int w18, .int w23]) (rest := []) hC (c_X12_tops l E v29 w18 w23 σ24 σ30 hc) mi_X12_tops mv_X12_tops ob_55 rfl rfl lk_X12_280 rfl rfl (Nat.le_of_ble_eq_true rfl) ⟨by decide, by decide⟩ hab dX12_laysTops_107 ?_
                obtain ⟨v31, ev31, h⟩ := lt_e h
                refine g_iinc (v := v31) (lv2 := [some (.ref (E.2.1 55)), some (.int w18), some (.int v31)]) (pc := 110) hC dX12_laysTops_110 rfl ev31 rfl (Or.inr rfl) (hN _ (by decide)) ?_
                refine g_goto (tgt := 83) (pc := 113) hC dX12_laysTops_113 (by decide) ?_
                exact ih7 v31 σ30 z7 (iter_l h hi7) kx7
          obtain ⟨z7, hz7, h⟩ := lp_e h
          refine hL7 FU 0 σ19 z7 hz7 (fun σ25 ez => ?_)
          replace h : C_X12_laysTops_9 w18 σ25 = some r6 := by rw [ez] at h; exact h
          delta C_X12_laysTops_9 at h
          obtain ⟨v32, ev32, h⟩ := lt_e h
          refine g_iinc (v := v32) (lv2 := [some (.ref (E.2.1 55)), some (.int v32), none]) (pc := 116) hC dX12_laysTops_116 rfl ev32 rfl (Or.inr rfl) (hN _ (by decide)) ?_
          refine g_goto (tgt := 71) (pc := 119) hC dX12_laysTops_119 (by decide) ?_
          exact ih6 v32 σ25 z6 (iter_l h hi6) kx6
    obtain ⟨z6, hz6, h⟩ := lp_e h
    refine hL6 FU 0 σ7 z6 hz6 (fun σ20 ez => ?_)
    replace h : C_X12_laysTops_11 σ20 = some σr := by rw [ez] at h; exact h
    delta C_X12_laysTops_11 at h
    exact g_retv (pc := 122) hC h hR dX12_laysTops_122
  · replace h := it_t c17 h
    refine g_aload_n (pc := 61) hC dX12_laysTops_61 rfl ?_
    refine g_iconst (pc := 62) hC ki_0 dX12_laysTops_62 ?_
    refine g_iconst (pc := 63) hC ki_m1 dX12_laysTops_63 ?_
    refine g_iconst (pc := 64) hC ki_m1 dX12_laysTops_64 ?_
    obtain ⟨σ33, hc, h⟩ := cp_e h
    refine g_callVv (pc := 65) (As := [.int 0, .int (-1), .int (-1)]) (rest := []) hC (c_X12_tops l E 0 (-1) (-1) σ7 σ33 hc) mi_X12_tops mv_X12_tops ob_55 rfl rfl lk_X12_280 rfl rfl (Nat.le_of_ble_eq_true rfl) ⟨by decide, by decide⟩ hab dX12_laysTops_65 ?_
    exact g_retv (pc := 68) hC h hR dX12_laysTops_68
set_option maxRecDepth 20000 in
theorem c_X12_best (l : Launch) (E : uE) (a1 : Int32) (σ : uS) (r : Int32) (σr : uS) (h : F_X12_best a1 σ = some (r, σr)) : CtI l E yX12_best cX12_best 2 (some .int) 6 133 [.ref (E.2.1 55), .int a1] σ r σr := by
  refine enterI 0 [some (.ref (E.2.1 55)), some (.int a1)] (by decide +kernel) rfl (Nat.le_of_ble_eq_true rfl) (fun o K hnL hC hab hR => ?_)
  have hC : Cx E K RX12 cX12_best (some .int) 6 133 := hC
  have hN : ∀ k, k < 2 → k < K.2.2.2.2.2 := fun k hk => hnL ▸ hk
  delta F_X12_best at h
  refine g_aload_n (pc := 0) hC dX12_best_0 rfl ?_
  refine g_iconst (pc := 1) hC ki_0 dX12_best_1 ?_
  obtain ⟨σ1, eσ1, h⟩ := pf_e h
  refine fp_X12_119_55 (pc := 2) hC dX12_best_2 eσ1 ?_
  refine g_aload_n (pc := 5) hC dX12_best_5 rfl ?_
  refine g_iload_n (pc := 6) hC dX12_best_6 rfl ?_
  refine g_iconst (pc := 7) hC ki_0 dX12_best_7 ?_
  refine g_bipush (pc := 8) hC kb_7 dX12_best_8 ?_
  obtain ⟨v2, hc, h⟩ := cp_e h
  refine g_callSi (pc := 10) (As := [.int a1, .int 0, .int 7]) (rest := [.ref (E.2.1 55)]) hC (c_X12_isIn l E a1 0 7 σ1 v2 hc) mi_X12_isIn ms_X12_isIn lk_X12_133 rfl rfl (Nat.le_of_ble_eq_true rfl) ⟨by decide, by decide⟩ hab dX12_best_10 ?_
  refine g_iconst (pc := 13) hC ki_1 dX12_best_13 ?_
  obtain ⟨v4, σ3, hc, h⟩ := cl_e h
  refine g_callVi (pc := 14) (As := [.int v2, .int 1]) (rest := []) hC (c_X12_right l E v2 1 σ1 v4 σ3 hc) mi_X12_right mv_X12_right ob_55 rfl rfl lk_X12_148 rfl rfl (Nat.le_of_ble_eq_true rfl) ⟨by decide, by decide⟩ hab dX12_best_14 ?_
  refine g_if_ne (tgt := 22) (pc := 17) hC dX12_best_17 (by decide) (fun c5 => ?_) (fun c5 => ?_)
  · replace h := it_f c5 h
    refine g_aload_n (pc := 22) hC dX12_best_22 rfl ?_
    obtain ⟨σ6, hc, h⟩ := cp_e h
    refine g_callVv (pc := 23) (As := []) (rest := []) hC (c_X12_laysTops l E σ3 σ6 hc) mi_X12_laysTops mv_X12_laysTops ob_55 rfl rfl lk_X12_284 rfl rfl (Nat.le_of_ble_eq_true rfl) ⟨by decide, by decide⟩ hab dX12_best_23 ?_
    refine g_iload_n (pc := 26) hC dX12_best_26 rfl ?_
    refine g_aload_n (pc := 27) hC dX12_best_27 rfl ?_
    refine fg_X12_274_55 (pc := 28) hC dX12_best_28 ?_
    have hJ44 : ∀ (v9 : Int32), J_X12_best_1 σ6 v9 = some (r, σr) → Gd l E K 0 0 o σ6 44 [none, none] [.int v9] := by
      intro v9 h
      delta J_X12_best_1 at h
      exact g_ret (pc := 44) hC h hR dX12_best_44
    refine g_icmp_ge (tgt := 43) (pc := 31) hC dX12_best_31 (by decide) (fun c7 => ?_) (fun c7 => ?_)
    · replace h := it_t c7 h
      refine g_iconst (pc := 43) hC ki_m1 dX12_best_43 ?_
      refine g_mask [false, false] rfl ?_
      exact hJ44 (-1) h
    · replace h := it_f c7 h
      refine g_aload_n (pc := 34) hC dX12_best_34 rfl ?_
      refine fg_X12_68_55 (pc := 35) hC dX12_best_35 ?_
      refine g_iload_n (pc := 38) hC dX12_best_38 rfl ?_
      obtain ⟨v8, ev8, nv8, h⟩ := rd_e h
      refine g_iald (pc := 39) hC 75 (by decide) (ar_75 _ _ _) nv8 dX12_best_39 ?_
      refine g_top ev8 ?_
      refine g_goto (tgt := 44) (pc := 40) hC dX12_best_40 (by decide) ?_
      refine g_mask [false, false] rfl ?_
      exact hJ44 v8 h
  · replace h := it_t c5 h
    refine g_iconst (pc := 20) hC ki_0 dX12_best_20 ?_
    exact g_ret (pc := 21) hC h hR dX12_best_21
set_option maxRecDepth 20000 in
theorem c_X12_bestAt (l : Launch) (E : uE) (a1 : Int32) (a2 : Int32) (σ : uS) (r : Int32) (σr : uS) (h : F_X12_bestAt a1 a2 σ = some (r, σr)) : CtI l E yX12_bestAt cX12_bestAt 7 (some .int) 6 133 [.ref (E.2.1 55), .int a1, .int a2] σ r σr := by
  refine enterI 4 [some (.ref (E.2.1 55)), some (.int a1), some (.int a2), none, none, none, none] (by decide +kernel) rfl (Nat.le_of_ble_eq_true rfl) (fun o K hnL hC hab hR => ?_)
  have hC : Cx E K RX12 cX12_bestAt (some .int) 6 133 := hC
  have hN : ∀ k, k < 7 → k < K.2.2.2.2.2 := fun k hk => hnL ▸ hk
  delta F_X12_bestAt at h
  refine g_aload_n (pc := 0) hC dX12_bestAt_0 rfl ?_
  refine g_iconst (pc := 1) hC ki_0 dX12_bestAt_1 ?_
  obtain ⟨σ1, eσ1, h⟩ := pf_e h
  refine fp_X12_119_55 (pc := 2) hC dX12_bestAt_2 eσ1 ?_
  refine g_aload_n (pc := 5) hC dX12_bestAt_5 rfl ?_
  refine g_iload_n (pc := 6) hC dX12_bestAt_6 rfl ?_
  refine g_iconst (pc := 7) hC ki_0 dX12_bestAt_7 ?_
  refine g_bipush (pc := 8) hC kb_7 dX12_bestAt_8 ?_
  obtain ⟨v2, hc, h⟩ := cp_e h
  refine g_callSi (pc := 10) (As := [.int a1, .int 0, .int 7]) (rest := [.ref (E.2.1 55)]) hC (c_X12_isIn l E a1 0 7 σ1 v2 hc) mi_X12_isIn ms_X12_isIn lk_X12_133 rfl rfl (Nat.le_of_ble_eq_true rfl) ⟨by decide, by decide⟩ hab dX12_bestAt_10 ?_
  refine g_iconst (pc := 13) hC ki_1 dX12_bestAt_13 ?_
  obtain ⟨v4, σ3, hc, h⟩ := cl_e h
  refine g_callVi (pc := 14) (As := [.int v2, .int 1]) (rest := []) hC (c_X12_right l E v2 1 σ1 v4 σ3 hc) mi_X12_right mv_X12_right ob_55 rfl rfl lk_X12_148 rfl rfl (Nat.le_of_ble_eq_true rfl) ⟨by decide, by decide⟩ hab dX12_bestAt_14 ?_
  have hJ39 : ∀ (σ24 : uS), J_X12_bestAt_4 σ24 = some (r, σr) → Gd l E K 0 0 o σ24 39 [none, none, none, none, none, none, none] [] := by
    intro σ24 h
    delta J_X12_bestAt_4 at h
    refine g_iconst (pc := 39) hC ki_0 dX12_bestAt_39 ?_
    exact g_ret (pc := 40) hC h hR dX12_bestAt_40
  refine g_if_eq (tgt := 39) (pc := 17) hC dX12_bestAt_17 (by decide) (fun c5 => ?_) (fun c5 => ?_)
  · replace h := it_t c5 h
    refine g_mask [false, false, false, false, false, false, false] rfl ?_
    exact hJ39 σ3 h
  · replace h := it_f c5 h
    refine g_aload_n (pc := 20) hC dX12_bestAt_20 rfl ?_
    refine g_iload_n (pc := 21) hC dX12_bestAt_21 rfl ?_
    refine g_iconst (pc := 22) hC ki_0 dX12_bestAt_22 ?_
    refine g_aload_n (pc := 23) hC dX12_bestAt_23 rfl ?_
    obtain ⟨v6, hc, h⟩ := cp_e h
    refine g_callVi (pc := 24) (As := []) (rest := [.int 0, .int a2, .ref (E.2.1 55)]) hC (c_X12_frames l E σ3 v6 hc) mi_X12_frames mv_X12_frames ob_55 rfl rfl lk_X12_156 rfl rfl (Nat.le_of_ble_eq_true rfl) ⟨by decide, by decide⟩ hab dX12_bestAt_24 ?_
    refine g_iconst (pc := 27) hC ki_1 dX12_bestAt_27 ?_
    refine g_isub (pc := 28) hC dX12_bestAt_28 ?_
    obtain ⟨v7, hc, h⟩ := cp_e h
    refine g_callSi (pc := 29) (As := [.int a2, .int 0, .int (v6 - 1)]) (rest := [.ref (E.2.1 55)]) hC (c_X12_isIn l E a2 0 (v6 - 1) σ3 v7 hc) mi_X12_isIn ms_X12_isIn lk_X12_133 rfl rfl (Nat.le_of_ble_eq_true rfl) ⟨by decide, by decide⟩ hab dX12_bestAt_29 ?_
    refine g_iconst (pc := 32) hC ki_2 dX12_bestAt_32 ?_
    obtain ⟨v9, σ8, hc, h⟩ := cl_e h
    refine g_callVi (pc := 33) (As := [.int v7, .int 2]) (rest := []) hC (c_X12_right l E v7 2 σ3 v9 σ8 hc) mi_X12_right mv_X12_right ob_55 rfl rfl lk_X12_148 rfl rfl (Nat.le_of_ble_eq_true rfl) ⟨by decide, by decide⟩ hab dX12_bestAt_33 ?_
    refine g_if_ne (tgt := 41) (pc := 36) hC dX12_bestAt_36 (by decide) (fun c10 => ?_) (fun c10 => ?_)
    · replace h := it_f c10 h
      refine g_aload_n (pc := 41) hC dX12_bestAt_41 rfl ?_
      obtain ⟨σ11, hc, h⟩ := cp_e h
      refine g_callVv (pc := 42) (As := []) (rest := []) hC (c_X12_laysTops l E σ8 σ11 hc) mi_X12_laysTops mv_X12_laysTops ob_55 rfl rfl lk_X12_284 rfl rfl (Nat.le_of_ble_eq_true rfl) ⟨by decide, by decide⟩ hab dX12_bestAt_42 ?_
      refine g_iload_n (pc := 45) hC dX12_bestAt_45 rfl ?_
      refine g_aload_n (pc := 46) hC dX12_bestAt_46 rfl ?_
      refine fg_X12_274_55 (pc := 47) hC dX12_bestAt_47 ?_
      refine g_icmp_lt (tgt := 55) (pc := 50) hC dX12_bestAt_50 (by decide) (fun c12 => ?_) (fun c12 => ?_)
      · replace h := it_t c12 h
        refine g_aload_n (pc := 55) hC dX12_bestAt_55 rfl ?_
        refine fg_X12_71_55 (pc := 56) hC dX12_bestAt_56 ?_
        refine g_iload_n (pc := 59) hC dX12_bestAt_59 rfl ?_
        obtain ⟨v13, ev13, nv13, h⟩ := rd_e h
        refine g_iald (pc := 60) hC 76 (by decide) (ar_76 _ _ _) nv13 dX12_bestAt_60 ?_
        refine g_top ev13 ?_
        refine g_istore_n (lv2 := [some (.ref (E.2.1 55)), some (.int a1), some (.int a2), some (.int v13), none, none, none]) (pc := 61) hC dX12_bestAt_61 rfl (Or.inr rfl) (hN _ (by decide)) ?_
        refine g_aload_n (pc := 62) hC dX12_bestAt_62 rfl ?_
        refine fg_X12_74_55 (pc := 63) hC dX12_bestAt_63 ?_
        refine g_iload_n (pc := 66) hC dX12_bestAt_66 rfl ?_
        obtain ⟨v14, ev14, nv14, h⟩ := rd_e h
        refine g_iald (pc := 67) hC 77 (by decide) (ar_77 _ _ _) nv14 dX12_bestAt_67 ?_
        refine g_top ev14 ?_
        refine g_istore (lv2 := [some (.ref (E.2.1 55)), some (.int a1), some (.int a2), some (.int v13), some (.int v14), none, none]) (pc := 68) hC dX12_bestAt_68 rfl (Or.inr rfl) (hN _ (by decide)) ?_
        refine g_iconst (pc := 70) hC ki_0 dX12_bestAt_70 ?_
        refine g_istore (lv2 := [some (.ref (E.2.1 55)), some (.int a1), some (.int a2), some (.int v13), some (.int v14), some (.int 0), none]) (pc := 71) hC dX12_bestAt_71 rfl (Or.inr rfl) (hN _ (by decide)) ?_
        have hL1 : ∀ (n : Nat) (w15 : Int32) (w16 : Int32) (w17 : Int32) (z1 : Int32), iter n (fun z => B_X12_bestAt_2 a2 σ11 z.1 z.2.1 z.2.2) (w15, w16, w17) = some z1 → (∀ (v18 : Int32), z1 = v18 → Gd l E K 0 0 o σ11 112 [none, none, none, some (.int v18), none, none, none] []) → Gd l E K 0 0 o σ11 73 [some (.ref (E.2.1 55)), none, some (.int a2), some (.int w15), some (.int w16), some (.int w17), none] [] := by
          intro n
          induction n with
          | zero =>
            intro w15 w16 w17 z1 hi
            exact (iter_0 hi).elim
          | succ n ih1 =>
            intro w15 w16 w17 z1 hi1 kx1
            obtain ⟨r1, h, hi1⟩ := iter_s hi1
            replace h : B_X12_bestAt_2 a2 σ11 w15 w16 w17 = some r1 := h
            delta B_X12_bestAt_2 at h
            refine g_iload (pc := 73) hC dX12_bestAt_73 rfl ?_
            refine g_iload_n (pc := 75) hC dX12_bestAt_75 rfl ?_
            refine g_icmp_ge (tgt := 112) (pc := 76) hC dX12_bestAt_76 (by decide) (fun c19 => ?_) (fun c19 => ?_)
            · replace h := it_t c19 h
              refine g_mask [false, false, false, true, false, false, false] rfl ?_
              exact kx1 w15 (iter_r h hi1)
            · replace h := it_f c19 h
              refine g_iload (pc := 79) hC dX12_bestAt_79 rfl ?_
              refine g_iload_n (pc := 81) hC dX12_bestAt_81 rfl ?_
              refine g_iload (pc := 82) hC dX12_bestAt_82 rfl ?_
              obtain ⟨v20, hc, h⟩ := cp_e h
              refine g_callSi (pc := 84) (As := [.int w17, .int w15, .int w16]) (rest := []) hC (c_X12_rankAt l E w17 w15 w16 σ11 v20 hc) mi_X12_rankAt ms_X12_rankAt lk_X12_267 rfl rfl (Nat.le_of_ble_eq_true rfl) ⟨by decide, by decide⟩ hab dX12_bestAt_84 ?_
              refine g_istore (lv2 := [some (.ref (E.2.1 55)), none, some (.int a2), some (.int w15), some (.int w16), some (.int w17), some (.int v20)]) (pc := 87) hC dX12_bestAt_87 rfl (Or.inr rfl) (hN _ (by decide)) ?_
              refine g_aload_n (pc := 89) hC dX12_bestAt_89 rfl ?_
              refine fg_X12_59_55 (pc := 90) hC dX12_bestAt_90 ?_
              refine g_iload (pc := 93) hC dX12_bestAt_93 rfl ?_
              obtain ⟨v21, ev21, nv21, h⟩ := rd_e h
              refine g_iald (pc := 95) hC 72 (by decide) (ar_72 _ _ _) nv21 dX12_bestAt_95 ?_
              refine g_top ev21 ?_
              refine g_istore_n (lv2 := [some (.ref (E.2.1 55)), none, some (.int a2), some (.int v21), some (.int w16), some (.int w17), some (.int v20)]) (pc := 96) hC dX12_bestAt_96 rfl (Or.inr rfl) (hN _ (by decide)) ?_
              refine g_aload_n (pc := 97) hC dX12_bestAt_97 rfl ?_
              refine fg_X12_62_55 (pc := 98) hC dX12_bestAt_98 ?_
              refine g_iload (pc := 101) hC dX12_bestAt_101 rfl ?_
              obtain ⟨v22, ev22, nv22, h⟩ := rd_e h
              refine g_iald (pc := 103) hC 73 (by decide) (ar_73 _ _ _) nv22 dX12_bestAt_103 ?_
              refine g_top ev22 ?_
              refine g_istore (lv2 := [some (.ref (E.2.1 55)), none, some (.int a2), some (.int v21), some (.int v22), some (.int w17), some (.int v20)]) (pc := 104) hC dX12_bestAt_104 rfl (Or.inr rfl) (hN _ (by decide)) ?_
              obtain ⟨v23, ev23, h⟩ := lt_e h
              refine g_iinc (v := v23) (lv2 := [some (.ref (E.2.1 55)), none, some (.int a2), some (.int v21), some (.int v22), some (.int v23), some (.int v20)]) (pc := 106) hC dX12_bestAt_106 rfl ev23 rfl (Or.inr rfl) (hN _ (by decide)) ?_
              refine g_goto (tgt := 73) (pc := 109) hC dX12_bestAt_109 (by decide) ?_
              refine g_mask [true, false, true, true, true, true, false] rfl ?_
              exact ih1 v21 v22 v23 z1 (iter_l h hi1) kx1
        obtain ⟨z1, hz1, h⟩ := lp_e h
        refine g_mask [true, false, true, true, true, true, false] rfl ?_
        refine hL1 FU v13 v14 0 z1 hz1 (fun v18 ez => ?_)
        replace h : C_X12_bestAt_3 σ11 v18 = some (r, σr) := by rw [ez] at h; exact h
        delta C_X12_bestAt_3 at h
        refine g_iload_n (pc := 112) hC dX12_bestAt_112 rfl ?_
        exact g_ret (pc := 113) hC h hR dX12_bestAt_113
      · replace h := it_f c12 h
        refine g_iconst (pc := 53) hC ki_m1 dX12_bestAt_53 ?_
        exact g_ret (pc := 54) hC h hR dX12_bestAt_54
    · replace h := it_t c10 h
      refine g_mask [false, false, false, false, false, false, false] rfl ?_
      exact hJ39 σ8 h
set_option maxRecDepth 20000 in
theorem c_X12_laysSpans (l : Launch) (E : uE) (σ : uS) (σr : uS) (h : F_X12_laysSpans σ = some σr) : CtV l E yX12_laysSpans cX12_laysSpans 2 6 137 [.ref (E.2.1 55)] σ σr := by
  refine enterV 1 [some (.ref (E.2.1 55)), none] (by decide +kernel) rfl (Nat.le_of_ble_eq_true rfl) (fun o K hnL hC hab hR => ?_)
  have hC : Cx E K RX12 cX12_laysSpans none 6 137 := hC
  have hN : ∀ k, k < 2 → k < K.2.2.2.2.2 := fun k hk => hnL ▸ hk
  delta F_X12_laysSpans at h
  refine g_aload_n (pc := 0) hC dX12_laysSpans_0 rfl ?_
  obtain ⟨σ1, hc, h⟩ := cp_e h
  refine g_callVv (pc := 1) (As := []) (rest := []) hC (c_X12_laysPath l E σ σ1 hc) mi_X12_laysPath mv_X12_laysPath ob_55 rfl rfl lk_X12_254 rfl rfl (Nat.le_of_ble_eq_true rfl) ⟨by decide, by decide⟩ hab dX12_laysSpans_1 ?_
  refine g_aload_n (pc := 4) hC dX12_laysSpans_4 rfl ?_
  refine g_iconst (pc := 5) hC ki_0 dX12_laysSpans_5 ?_
  obtain ⟨σ2, eσ2, h⟩ := pf_e h
  refine fp_X12_287_55 (pc := 6) hC dX12_laysSpans_6 eσ2 ?_
  refine g_iconst (pc := 9) hC ki_0 dX12_laysSpans_9 ?_
  refine g_istore_n (lv2 := [some (.ref (E.2.1 55)), some (.int 0)]) (pc := 10) hC dX12_laysSpans_10 rfl (Or.inr rfl) (hN _ (by decide)) ?_
  have hL1 : ∀ (n : Nat) (w3 : Int32) (σ4 : uS) (z1 : uS), iter n (fun z => B_X12_laysSpans_4 z.1 z.2) (w3, σ4) = some z1 → (∀ (σ5 : uS), z1 = σ5 → Gd l E K 0 0 o σ5 80 [some (.ref (E.2.1 55)), none] []) → Gd l E K 0 0 o σ4 11 [some (.ref (E.2.1 55)), some (.int w3)] [] := by
    intro n
    induction n with
    | zero =>
      intro w3 σ4 z1 hi
      exact (iter_0 hi).elim
    | succ n ih1 =>
      intro w3 σ4 z1 hi1 kx1
      obtain ⟨r1, h, hi1⟩ := iter_s hi1
      replace h : B_X12_laysSpans_4 w3 σ4 = some r1 := h
      delta B_X12_laysSpans_4 at h
      refine g_iload_n (pc := 11) hC dX12_laysSpans_11 rfl ?_
      refine g_aload_n (pc := 12) hC dX12_laysSpans_12 rfl ?_
      refine fg_X12_189_55 (pc := 13) hC dX12_laysSpans_13 ?_
      refine g_icmp_ge (tgt := 80) (pc := 16) hC dX12_laysSpans_16 (by decide) (fun c6 => ?_) (fun c6 => ?_)
      · replace h := it_t c6 h
        refine g_mask [true, false] rfl ?_
        exact kx1 σ4 (iter_r h hi1)
      · replace h := it_f c6 h
        refine g_iload_n (pc := 19) hC dX12_laysSpans_19 rfl ?_
        have hJ74 : ∀ (σ17 : uS), J_X12_laysSpans_3 w3 σ17 = some r1 → Gd l E K 0 0 o σ17 74 [some (.ref (E.2.1 55)), some (.int w3)] [] := by
          intro σ17 h
          delta J_X12_laysSpans_3 at h
          obtain ⟨v18, ev18, h⟩ := lt_e h
          refine g_iinc (v := v18) (lv2 := [some (.ref (E.2.1 55)), some (.int v18)]) (pc := 74) hC dX12_laysSpans_74 rfl ev18 rfl (Or.inr rfl) (hN _ (by decide)) ?_
          refine g_goto (tgt := 11) (pc := 77) hC dX12_laysSpans_77 (by decide) ?_
          exact ih1 v18 σ17 z1 (iter_l h hi1) kx1
        have hJ54 : J_X12_laysSpans_2 w3 σ4 = some r1 → Gd l E K 0 0 o σ4 54 [some (.ref (E.2.1 55)), some (.int w3)] [] := by
          intro h
          delta J_X12_laysSpans_2 at h
          refine g_aload_n (pc := 54) hC dX12_laysSpans_54 rfl ?_
          refine fg_X12_77_55 (pc := 55) hC dX12_laysSpans_55 ?_
          refine g_aload_n (pc := 58) hC dX12_laysSpans_58 rfl ?_
          refine fg_X12_287_55 (pc := 59) hC dX12_laysSpans_59 ?_
          refine g_iload_n (pc := 62) hC dX12_laysSpans_62 rfl ?_
          obtain ⟨σ15, eσ15, nσ15, h⟩ := wr_e h
          refine g_iast (pc := 63) hC 78 (by decide) (ar_78 _ _) nσ15 dX12_laysSpans_63 eσ15 ?_
          refine g_aload_n (pc := 64) hC dX12_laysSpans_64 rfl ?_
          refine g_dup (pc := 65) hC rfl dX12_laysSpans_65 ?_
          refine fg_X12_287_55 (pc := 66) hC dX12_laysSpans_66 ?_
          refine g_iconst (pc := 69) hC ki_1 dX12_laysSpans_69 ?_
          refine g_iadd (pc := 70) hC dX12_laysSpans_70 ?_
          obtain ⟨σ16, eσ16, h⟩ := pf_e h
          refine fp_X12_287_55 (pc := 71) hC dX12_laysSpans_71 eσ16 ?_
          exact hJ74 σ16 h
        refine g_if_eq (tgt := 54) (pc := 20) hC dX12_laysSpans_20 (by decide) (fun c7 => ?_) (fun c7 => ?_)
        · replace h := it_t c7 h
          exact hJ54 h
        · replace h := it_f c7 h
          refine g_aload_n (pc := 23) hC dX12_laysSpans_23 rfl ?_
          refine g_iload_n (pc := 24) hC dX12_laysSpans_24 rfl ?_
          obtain ⟨v8, hc, h⟩ := cp_e h
          refine g_callVi (pc := 25) (As := [.int w3]) (rest := []) hC (c_X12_lagOnPath l E w3 σ4 v8 hc) mi_X12_lagOnPath mv_X12_lagOnPath ob_55 rfl rfl lk_X12_251 rfl rfl (Nat.le_of_ble_eq_true rfl) ⟨by decide, by decide⟩ hab dX12_laysSpans_25 ?_
          obtain ⟨v10, ev10, h⟩ := lt_e h
          have hJ36 : Gd l E K 0 0 o σ4 36 [some (.ref (E.2.1 55)), some (.int w3)] [.int v10] := by
            refine g_aload_n (pc := 36) hC dX12_laysSpans_36 rfl ?_
            refine g_iload_n (pc := 37) hC dX12_laysSpans_37 rfl ?_
            refine g_iconst (pc := 38) hC ki_1 dX12_laysSpans_38 ?_
            refine g_isub (pc := 39) hC dX12_laysSpans_39 ?_
            obtain ⟨v11, hc, h⟩ := cp_e h
            refine g_callVi (pc := 40) (As := [.int (w3 - 1)]) (rest := [.int v10]) hC (c_X12_lagOnPath l E (w3 - 1) σ4 v11 hc) mi_X12_lagOnPath mv_X12_lagOnPath ob_55 rfl rfl lk_X12_251 rfl rfl (Nat.le_of_ble_eq_true rfl) ⟨by decide, by decide⟩ hab dX12_laysSpans_40 ?_
            obtain ⟨v13, ev13, h⟩ := lt_e h
            have hJ51 : Gd l E K 0 0 o σ4 51 [some (.ref (E.2.1 55)), some (.int w3)] [.int v13, .int v10] := by
              refine g_icmp_eq (tgt := 74) (pc := 51) hC dX12_laysSpans_51 (by decide) (fun c14 => ?_) (fun c14 => ?_)
              · replace h := it_t c14 h
                exact hJ74 σ4 h
              · replace h := it_f c14 h
                exact hJ54 h
            refine g_if_le (tgt := 50) (pc := 43) hC dX12_laysSpans_43 (by decide) (fun c12 => ?_) (fun c12 => ?_)
            · refine g_iconst (pc := 50) hC ki_0 dX12_laysSpans_50 ?_
              exact g_top (iv_t c12 ev13) hJ51
            · refine g_iconst (pc := 46) hC ki_1 dX12_laysSpans_46 ?_
              refine g_goto (tgt := 51) (pc := 47) hC dX12_laysSpans_47 (by decide) ?_
              exact g_top (iv_f c12 ev13) hJ51
          refine g_if_le (tgt := 35) (pc := 28) hC dX12_laysSpans_28 (by decide) (fun c9 => ?_) (fun c9 => ?_)
          · refine g_iconst (pc := 35) hC ki_0 dX12_laysSpans_35 ?_
            exact g_top (iv_t c9 ev10) hJ36
          · refine g_iconst (pc := 31) hC ki_1 dX12_laysSpans_31 ?_
            refine g_goto (tgt := 36) (pc := 32) hC dX12_laysSpans_32 (by decide) ?_
            exact g_top (iv_f c9 ev10) hJ36
  obtain ⟨z1, hz1, h⟩ := lp_e h
  refine hL1 FU 0 σ2 z1 hz1 (fun σ5 ez => ?_)
  replace h : C_X12_laysSpans_5 σ5 = some σr := by rw [ez] at h; exact h
  delta C_X12_laysSpans_5 at h
  refine g_aload_n (pc := 80) hC dX12_laysSpans_80 rfl ?_
  refine fg_X12_77_55 (pc := 81) hC dX12_laysSpans_81 ?_
  refine g_aload_n (pc := 84) hC dX12_laysSpans_84 rfl ?_
  refine fg_X12_287_55 (pc := 85) hC dX12_laysSpans_85 ?_
  refine g_aload_n (pc := 88) hC dX12_laysSpans_88 rfl ?_
  refine fg_X12_189_55 (pc := 89) hC dX12_laysSpans_89 ?_
  obtain ⟨σ19, eσ19, nσ19, h⟩ := wr_e h
  refine g_iast (pc := 92) hC 78 (by decide) (ar_78 _ _) nσ19 dX12_laysSpans_92 eσ19 ?_
  exact g_retv (pc := 93) hC h hR dX12_laysSpans_93
set_option maxRecDepth 20000 in
theorem c_X12_isVoiced (l : Launch) (E : uE) (a1 : Int32) (σ : uS) (r : Int32) (h : F_X12_isVoiced a1 σ = some r) : CtI l E yX12_isVoiced cX12_isVoiced 2 (some .boolean) 2 43 [.ref (E.2.1 55), .int a1] σ r σ := by
  refine enterI 0 [some (.ref (E.2.1 55)), some (.int a1)] (by decide +kernel) rfl (Nat.le_of_ble_eq_true rfl) (fun o K hnL hC hab hR => ?_)
  have hC : Cx E K RX12 cX12_isVoiced (some .boolean) 2 43 := hC
  have hN : ∀ k, k < 2 → k < K.2.2.2.2.2 := fun k hk => hnL ▸ hk
  delta F_X12_isVoiced at h
  refine g_aload_n (pc := 0) hC dX12_isVoiced_0 rfl ?_
  refine g_aload_n (pc := 1) hC dX12_isVoiced_1 rfl ?_
  refine fg_X12_77_55 (pc := 2) hC dX12_isVoiced_2 ?_
  refine g_iload_n (pc := 5) hC dX12_isVoiced_5 rfl ?_
  obtain ⟨v1, ev1, nv1, h⟩ := rd_e h
  refine g_iald (pc := 6) hC 78 (by decide) (ar_78 _ _ _) nv1 dX12_isVoiced_6 ?_
  refine g_top ev1 ?_
  obtain ⟨v2, hc, h⟩ := cp_e h
  refine g_callVi (pc := 7) (As := [.int v1]) (rest := []) hC (c_X12_lagOnPath l E v1 σ v2 hc) mi_X12_lagOnPath mv_X12_lagOnPath ob_55 rfl rfl lk_X12_251 rfl rfl (Nat.le_of_ble_eq_true rfl) ⟨by decide, by decide⟩ hab dX12_isVoiced_7 ?_
  obtain ⟨v4, ev4, h⟩ := lt_e h
  have hJ18 : Gd l E K 0 0 o σ 18 [none, none] [.int v4] := by
    obtain ⟨h01, h⟩ := bz_e h
    exact g_retzp (pc := 18) hC h01 h hR dX12_isVoiced_18
  refine g_if_le (tgt := 17) (pc := 10) hC dX12_isVoiced_10 (by decide) (fun c3 => ?_) (fun c3 => ?_)
  · refine g_iconst (pc := 17) hC ki_0 dX12_isVoiced_17 ?_
    refine g_mask [false, false] rfl ?_
    exact g_top (iv_t c3 ev4) hJ18
  · refine g_iconst (pc := 13) hC ki_1 dX12_isVoiced_13 ?_
    refine g_goto (tgt := 18) (pc := 14) hC dX12_isVoiced_14 (by decide) ?_
    refine g_mask [false, false] rfl ?_
    exact g_top (iv_f c3 ev4) hJ18
set_option maxRecDepth 20000 in
theorem c_X12_firstSample (l : Launch) (E : uE) (a1 : Int32) (σ : uS) (r : Int32) (h : F_X12_firstSample a1 σ = some r) : CtI l E yX12_firstSample cX12_firstSample 2 (some .int) 0 0 [.ref (E.2.1 55), .int a1] σ r σ := by
  refine enterI 0 [some (.ref (E.2.1 55)), some (.int a1)] (by decide +kernel) rfl (Nat.le_of_ble_eq_true rfl) (fun o K hnL hC hab hR => ?_)
  have hC : Cx E K RX12 cX12_firstSample (some .int) 0 0 := hC
  have hN : ∀ k, k < 2 → k < K.2.2.2.2.2 := fun k hk => hnL ▸ hk
  delta F_X12_firstSample at h
  refine g_aload_n (pc := 0) hC dX12_firstSample_0 rfl ?_
  refine fg_X12_77_55 (pc := 1) hC dX12_firstSample_1 ?_
  refine g_iload_n (pc := 4) hC dX12_firstSample_4 rfl ?_
  obtain ⟨v1, ev1, nv1, h⟩ := rd_e h
  refine g_iald (pc := 5) hC 78 (by decide) (ar_78 _ _ _) nv1 dX12_firstSample_5 ?_
  refine g_top ev1 ?_
  refine g_aload_n (pc := 6) hC dX12_firstSample_6 rfl ?_
  refine fg_X12_7_55 (pc := 7) hC dX12_firstSample_7 ?_
  refine g_iconst (pc := 10) hC ki_2 dX12_firstSample_10 ?_
  obtain ⟨v2, ev2, nv2, h⟩ := rd_e h
  refine g_iald (pc := 11) hC 56 (by decide) (ar_56 _ _ _) nv2 dX12_firstSample_11 ?_
  refine g_top ev2 ?_
  refine g_imul (pc := 12) hC dX12_firstSample_12 ?_
  exact g_retp (pc := 13) hC h hR dX12_firstSample_13
set_option maxRecDepth 20000 in
theorem c_X12_behindSpan (l : Launch) (E : uE) (a1 : Int32) (σ : uS) (r : Int32) (h : F_X12_behindSpan a1 σ = some r) : CtI l E yX12_behindSpan cX12_behindSpan 3 (some .int) 0 0 [.ref (E.2.1 55), .int a1] σ r σ := by
  refine enterI 1 [some (.ref (E.2.1 55)), some (.int a1), none] (by decide +kernel) rfl (Nat.le_of_ble_eq_true rfl) (fun o K hnL hC hab hR => ?_)
  have hC : Cx E K RX12 cX12_behindSpan (some .int) 0 0 := hC
  have hN : ∀ k, k < 3 → k < K.2.2.2.2.2 := fun k hk => hnL ▸ hk
  delta F_X12_behindSpan at h
  refine g_aload_n (pc := 0) hC dX12_behindSpan_0 rfl ?_
  refine fg_X12_77_55 (pc := 1) hC dX12_behindSpan_1 ?_
  refine g_iload_n (pc := 4) hC dX12_behindSpan_4 rfl ?_
  refine g_iconst (pc := 5) hC ki_1 dX12_behindSpan_5 ?_
  refine g_iadd (pc := 6) hC dX12_behindSpan_6 ?_
  obtain ⟨v1, ev1, nv1, h⟩ := rd_e h
  refine g_iald (pc := 7) hC 78 (by decide) (ar_78 _ _ _) nv1 dX12_behindSpan_7 ?_
  refine g_top ev1 ?_
  refine g_aload_n (pc := 8) hC dX12_behindSpan_8 rfl ?_
  refine fg_X12_7_55 (pc := 9) hC dX12_behindSpan_9 ?_
  refine g_iconst (pc := 12) hC ki_2 dX12_behindSpan_12 ?_
  obtain ⟨v2, ev2, nv2, h⟩ := rd_e h
  refine g_iald (pc := 13) hC 56 (by decide) (ar_56 _ _ _) nv2 dX12_behindSpan_13 ?_
  refine g_top ev2 ?_
  refine g_imul (pc := 14) hC dX12_behindSpan_14 ?_
  obtain ⟨v3, ev3, h⟩ := lt_e h
  refine g_top ev3 ?_
  refine g_istore_n (lv2 := [some (.ref (E.2.1 55)), some (.int a1), some (.int v3)]) (pc := 15) hC dX12_behindSpan_15 rfl (Or.inr rfl) (hN _ (by decide)) ?_
  refine g_iload_n (pc := 16) hC dX12_behindSpan_16 rfl ?_
  refine g_aload_n (pc := 17) hC dX12_behindSpan_17 rfl ?_
  refine fg_X12_130_55 (pc := 18) hC dX12_behindSpan_18 ?_
  obtain ⟨v5, ev5, h⟩ := lt_e h
  have hJ32 : Gd l E K 0 0 o σ 32 [none, none, none] [.int v5] := by
    exact g_retp (pc := 32) hC h hR dX12_behindSpan_32
  refine g_icmp_ge (tgt := 28) (pc := 21) hC dX12_behindSpan_21 (by decide) (fun c4 => ?_) (fun c4 => ?_)
  · refine g_aload_n (pc := 28) hC dX12_behindSpan_28 rfl ?_
    refine fg_X12_130_55 (pc := 29) hC dX12_behindSpan_29 ?_
    refine g_mask [false, false, false] rfl ?_
    exact g_top (iv_t c4 ev5) hJ32
  · refine g_iload_n (pc := 24) hC dX12_behindSpan_24 rfl ?_
    refine g_goto (tgt := 32) (pc := 25) hC dX12_behindSpan_25 (by decide) ?_
    refine g_mask [false, false, false] rfl ?_
    exact g_top (iv_f c4 ev5) hJ32
set_option maxRecDepth 20000 in
theorem c_X12_spans (l : Launch) (E : uE) (σ : uS) (r : Int32) (σr : uS) (h : F_X12_spans σ = some (r, σr)) : CtI l E yX12_spans cX12_spans 1 (some .int) 7 158 [.ref (E.2.1 55)] σ r σr := by
  refine enterI 0 [some (.ref (E.2.1 55))] (by decide +kernel) rfl (Nat.le_of_ble_eq_true rfl) (fun o K hnL hC hab hR => ?_)
  have hC : Cx E K RX12 cX12_spans (some .int) 7 158 := hC
  have hN : ∀ k, k < 1 → k < K.2.2.2.2.2 := fun k hk => hnL ▸ hk
  delta F_X12_spans at h
  refine g_aload_n (pc := 0) hC dX12_spans_0 rfl ?_
  refine g_iconst (pc := 1) hC ki_0 dX12_spans_1 ?_
  obtain ⟨σ1, eσ1, h⟩ := pf_e h
  refine fp_X12_119_55 (pc := 2) hC dX12_spans_2 eσ1 ?_
  refine g_aload_n (pc := 5) hC dX12_spans_5 rfl ?_
  obtain ⟨σ2, hc, h⟩ := cp_e h
  refine g_callVv (pc := 6) (As := []) (rest := []) hC (c_X12_laysSpans l E σ1 σ2 hc) mi_X12_laysSpans mv_X12_laysSpans ob_55 rfl rfl lk_X12_290 rfl rfl (Nat.le_of_ble_eq_true rfl) ⟨by decide, by decide⟩ hab dX12_spans_6 ?_
  refine g_aload_n (pc := 9) hC dX12_spans_9 rfl ?_
  refine fg_X12_287_55 (pc := 10) hC dX12_spans_10 ?_
  exact g_ret (pc := 13) hC h hR dX12_spans_13
set_option maxRecDepth 20000 in
theorem c_X12_periodAt (l : Launch) (E : uE) (a1 : Int32) (a2 : Int32) (σ : uS) (r : Int32) (h : F_X12_periodAt a1 a2 σ = some r) : CtI l E yX12_periodAt cX12_periodAt 5 (some .int) 2 43 [.ref (E.2.1 55), .int a1, .int a2] σ r σ := by
  refine enterI 2 [some (.ref (E.2.1 55)), some (.int a1), some (.int a2), none, none] (by decide +kernel) rfl (Nat.le_of_ble_eq_true rfl) (fun o K hnL hC hab hR => ?_)
  have hC : Cx E K RX12 cX12_periodAt (some .int) 2 43 := hC
  have hN : ∀ k, k < 5 → k < K.2.2.2.2.2 := fun k hk => hnL ▸ hk
  delta F_X12_periodAt at h
  refine g_iload_n (pc := 0) hC dX12_periodAt_0 rfl ?_
  refine g_aload_n (pc := 1) hC dX12_periodAt_1 rfl ?_
  refine fg_X12_7_55 (pc := 2) hC dX12_periodAt_2 ?_
  refine g_iconst (pc := 5) hC ki_2 dX12_periodAt_5 ?_
  obtain ⟨v1, ev1, nv1, h⟩ := rd_e h
  refine g_iald (pc := 6) hC 56 (by decide) (ar_56 _ _ _) nv1 dX12_periodAt_6 ?_
  refine g_top ev1 ?_
  obtain ⟨v2, ev2, nv2, h⟩ := dv_e h
  refine g_idiv (pc := 7) hC nv2 dX12_periodAt_7 ?_
  refine g_top ev2 ?_
  refine g_istore_n (lv2 := [some (.ref (E.2.1 55)), some (.int a1), some (.int a2), some (.int v2), none]) (pc := 8) hC dX12_periodAt_8 rfl (Or.inr rfl) (hN _ (by decide)) ?_
  refine g_aload_n (pc := 9) hC dX12_periodAt_9 rfl ?_
  refine fg_X12_77_55 (pc := 10) hC dX12_periodAt_10 ?_
  refine g_iload_n (pc := 13) hC dX12_periodAt_13 rfl ?_
  refine g_iconst (pc := 14) hC ki_1 dX12_periodAt_14 ?_
  refine g_iadd (pc := 15) hC dX12_periodAt_15 ?_
  obtain ⟨v3, ev3, nv3, h⟩ := rd_e h
  refine g_iald (pc := 16) hC 78 (by decide) (ar_78 _ _ _) nv3 dX12_periodAt_16 ?_
  refine g_top ev3 ?_
  refine g_iconst (pc := 17) hC ki_1 dX12_periodAt_17 ?_
  refine g_isub (pc := 18) hC dX12_periodAt_18 ?_
  obtain ⟨v4, ev4, h⟩ := lt_e h
  refine g_top ev4 ?_
  refine g_istore (lv2 := [some (.ref (E.2.1 55)), some (.int a1), some (.int a2), some (.int v2), some (.int v4)]) (pc := 19) hC dX12_periodAt_19 rfl (Or.inr rfl) (hN _ (by decide)) ?_
  refine g_aload_n (pc := 21) hC dX12_periodAt_21 rfl ?_
  refine g_iload_n (pc := 22) hC dX12_periodAt_22 rfl ?_
  refine g_iload (pc := 23) hC dX12_periodAt_23 rfl ?_
  obtain ⟨v6, ev6, h⟩ := lt_e h
  have hJ34 : Gd l E K 0 0 o σ 34 [none, none, none, none, none] [.int v6, .ref (E.2.1 55)] := by
    obtain ⟨v7, hc, h⟩ := cp_e h
    refine g_callVi (pc := 34) (As := [.int v6]) (rest := []) hC (c_X12_lagOnPath l E v6 σ v7 hc) mi_X12_lagOnPath mv_X12_lagOnPath ob_55 rfl rfl lk_X12_251 rfl rfl (Nat.le_of_ble_eq_true rfl) ⟨by decide, by decide⟩ hab dX12_periodAt_34 ?_
    exact g_retp (pc := 37) hC h hR dX12_periodAt_37
  refine g_icmp_ge (tgt := 32) (pc := 25) hC dX12_periodAt_25 (by decide) (fun c5 => ?_) (fun c5 => ?_)
  · refine g_iload (pc := 32) hC dX12_periodAt_32 rfl ?_
    refine g_mask [false, false, false, false, false] rfl ?_
    exact g_top (iv_t c5 ev6) hJ34
  · refine g_iload_n (pc := 28) hC dX12_periodAt_28 rfl ?_
    refine g_goto (tgt := 34) (pc := 29) hC dX12_periodAt_29 (by decide) ?_
    refine g_mask [false, false, false, false, false] rfl ?_
    exact g_top (iv_f c5 ev6) hJ34
set_option maxRecDepth 20000 in
theorem c_X12_lesser (l : Launch) (E : uE) (a1 : Int32) (a2 : Int32) (σ : uS) (r : Int32) (h : F_X12_lesser a1 a2 σ = some r) : CtI l E yX12_lesser cX12_lesser 2 (some .int) 0 0 [.int a1, .int a2] σ r σ := by
  refine enterI 0 [some (.int a1), some (.int a2)] (by decide +kernel) rfl (Nat.le_of_ble_eq_true rfl) (fun o K hnL hC hab hR => ?_)
  have hC : Cx E K RX12 cX12_lesser (some .int) 0 0 := hC
  have hN : ∀ k, k < 2 → k < K.2.2.2.2.2 := fun k hk => hnL ▸ hk
  delta F_X12_lesser at h
  refine g_iload_n (pc := 0) hC dX12_lesser_0 rfl ?_
  refine g_iload_n (pc := 1) hC dX12_lesser_1 rfl ?_
  obtain ⟨v2, ev2, h⟩ := lt_e h
  have hJ10 : Gd l E K 0 0 o σ 10 [none, none] [.int v2] := by
    exact g_retp (pc := 10) hC h hR dX12_lesser_10
  refine g_icmp_ge (tgt := 9) (pc := 2) hC dX12_lesser_2 (by decide) (fun c1 => ?_) (fun c1 => ?_)
  · refine g_iload_n (pc := 9) hC dX12_lesser_9 rfl ?_
    refine g_mask [false, false] rfl ?_
    exact g_top (iv_t c1 ev2) hJ10
  · refine g_iload_n (pc := 5) hC dX12_lesser_5 rfl ?_
    refine g_goto (tgt := 10) (pc := 6) hC dX12_lesser_6 (by decide) ?_
    refine g_mask [false, false] rfl ?_
    exact g_top (iv_f c1 ev2) hJ10
set_option maxRecDepth 20000 in
theorem c_X12_laysBehind (l : Launch) (E : uE) (a1 : Int32) (a2 : Int32) (σ : uS) (σr : uS) (h : F_X12_laysBehind a1 a2 σ = some σr) : CtV l E yX12_laysBehind cX12_laysBehind 10 3 67 [.ref (E.2.1 55), .int a1, .int a2] σ σr := by
  refine enterV 7 [some (.ref (E.2.1 55)), some (.int a1), some (.int a2), none, none, none, none, none, none, none] (by decide +kernel) rfl (Nat.le_of_ble_eq_true rfl) (fun o K hnL hC hab hR => ?_)
  have hC : Cx E K RX12 cX12_laysBehind none 3 67 := hC
  have hN : ∀ k, k < 10 → k < K.2.2.2.2.2 := fun k hk => hnL ▸ hk
  delta F_X12_laysBehind at h
  refine g_aload_n (pc := 0) hC dX12_laysBehind_0 rfl ?_
  refine g_iload_n (pc := 1) hC dX12_laysBehind_1 rfl ?_
  refine g_iload_n (pc := 2) hC dX12_laysBehind_2 rfl ?_
  obtain ⟨v1, hc, h⟩ := cp_e h
  refine g_callVi (pc := 3) (As := [.int a1, .int a2]) (rest := []) hC (c_X12_periodAt l E a1 a2 σ v1 hc) mi_X12_periodAt mv_X12_periodAt ob_55 rfl rfl lk_X12_344 rfl rfl (Nat.le_of_ble_eq_true rfl) ⟨by decide, by decide⟩ hab dX12_laysBehind_3 ?_
  refine g_istore_n (lv2 := [some (.ref (E.2.1 55)), some (.int a1), some (.int a2), some (.int v1), none, none, none, none, none, none]) (pc := 6) hC dX12_laysBehind_6 rfl (Or.inr rfl) (hN _ (by decide)) ?_
  refine g_iload_n (pc := 7) hC dX12_laysBehind_7 rfl ?_
  refine g_iload_n (pc := 8) hC dX12_laysBehind_8 rfl ?_
  refine g_iadd (pc := 9) hC dX12_laysBehind_9 ?_
  refine g_iload_n (pc := 10) hC dX12_laysBehind_10 rfl ?_
  refine g_iconst (pc := 11) hC ki_4 dX12_laysBehind_11 ?_
  obtain ⟨v2, ev2, nv2, h⟩ := dv_e h
  refine g_idiv (pc := 12) hC nv2 dX12_laysBehind_12 ?_
  refine g_top ev2 ?_
  refine g_isub (pc := 13) hC dX12_laysBehind_13 ?_
  obtain ⟨v3, ev3, h⟩ := lt_e h
  refine g_top ev3 ?_
  refine g_istore (lv2 := [some (.ref (E.2.1 55)), some (.int a1), some (.int a2), some (.int v1), some (.int v3), none, none, none, none, none]) (pc := 14) hC dX12_laysBehind_14 rfl (Or.inr rfl) (hN _ (by decide)) ?_
  refine g_iload_n (pc := 16) hC dX12_laysBehind_16 rfl ?_
  refine g_iload_n (pc := 17) hC dX12_laysBehind_17 rfl ?_
  refine g_iadd (pc := 18) hC dX12_laysBehind_18 ?_
  refine g_iload_n (pc := 19) hC dX12_laysBehind_19 rfl ?_
  refine g_iconst (pc := 20) hC ki_4 dX12_laysBehind_20 ?_
  obtain ⟨v4, ev4, nv4, h⟩ := dv_e h
  refine g_idiv (pc := 21) hC nv4 dX12_laysBehind_21 ?_
  refine g_top ev4 ?_
  refine g_iadd (pc := 22) hC dX12_laysBehind_22 ?_
  refine g_aload_n (pc := 23) hC dX12_laysBehind_23 rfl ?_
  refine g_iload_n (pc := 24) hC dX12_laysBehind_24 rfl ?_
  obtain ⟨v5, hc, h⟩ := cp_e h
  refine g_callVi (pc := 25) (As := [.int a1]) (rest := [.int ((a2 + v1) + v4)]) hC (c_X12_behindSpan l E a1 σ v5 hc) mi_X12_behindSpan mv_X12_behindSpan ob_55 rfl rfl lk_X12_302 rfl rfl (Nat.le_of_ble_eq_true rfl) ⟨by decide, by decide⟩ hab dX12_laysBehind_25 ?_
  refine g_iconst (pc := 28) hC ki_1 dX12_laysBehind_28 ?_
  refine g_isub (pc := 29) hC dX12_laysBehind_29 ?_
  obtain ⟨v6, hc, h⟩ := cp_e h
  refine g_callSi (pc := 30) (As := [.int ((a2 + v1) + v4), .int (v5 - 1)]) (rest := []) hC (c_X12_lesser l E ((a2 + v1) + v4) (v5 - 1) σ v6 hc) mi_X12_lesser ms_X12_lesser lk_X12_329 rfl rfl (Nat.le_of_ble_eq_true rfl) ⟨by decide, by decide⟩ hab dX12_laysBehind_30 ?_
  refine g_istore (lv2 := [some (.ref (E.2.1 55)), some (.int a1), some (.int a2), some (.int v1), some (.int v3), some (.int v6), none, none, none, none]) (pc := 33) hC dX12_laysBehind_33 rfl (Or.inr rfl) (hN _ (by decide)) ?_
  refine g_iconst (pc := 35) hC ki_m1 dX12_laysBehind_35 ?_
  refine g_istore (lv2 := [some (.ref (E.2.1 55)), some (.int a1), some (.int a2), some (.int v1), some (.int v3), some (.int v6), some (.int (-1)), none, none, none]) (pc := 36) hC dX12_laysBehind_36 rfl (Or.inr rfl) (hN _ (by decide)) ?_
  refine g_iconst (pc := 38) hC ki_0 dX12_laysBehind_38 ?_
  refine g_istore (lv2 := [some (.ref (E.2.1 55)), some (.int a1), some (.int a2), some (.int v1), some (.int v3), some (.int v6), some (.int (-1)), some (.int 0), none, none]) (pc := 39) hC dX12_laysBehind_39 rfl (Or.inr rfl) (hN _ (by decide)) ?_
  refine g_iload (pc := 41) hC dX12_laysBehind_41 rfl ?_
  refine g_istore (lv2 := [some (.ref (E.2.1 55)), some (.int a1), some (.int a2), some (.int v1), some (.int v3), some (.int v6), some (.int (-1)), some (.int 0), some (.int v3), none]) (pc := 43) hC dX12_laysBehind_43 rfl (Or.inr rfl) (hN _ (by decide)) ?_
  have hL1 : ∀ (n : Nat) (w7 : Int32) (w8 : Int32) (w9 : Int32) (z1 : Int32 × Int32), iter n (fun z => B_X12_laysBehind_4 a2 v1 v6 σ z.1 z.2.1 z.2.2) (w7, w8, w9) = some z1 → (∀ (v10 : Int32) (v11 : Int32), z1 = (v10, v11) → Gd l E K 0 0 o σ 105 [some (.ref (E.2.1 55)), none, some (.int a2), none, none, none, some (.int v10), some (.int v11), none, none] []) → Gd l E K 0 0 o σ 45 [some (.ref (E.2.1 55)), none, some (.int a2), some (.int v1), none, some (.int v6), some (.int w7), some (.int w8), some (.int w9), none] [] := by
    intro n
    induction n with
    | zero =>
      intro w7 w8 w9 z1 hi
      exact (iter_0 hi).elim
    | succ n ih1 =>
      intro w7 w8 w9 z1 hi1 kx1
      obtain ⟨r1, h, hi1⟩ := iter_s hi1
      replace h : B_X12_laysBehind_4 a2 v1 v6 σ w7 w8 w9 = some r1 := h
      delta B_X12_laysBehind_4 at h
      refine g_iload (pc := 45) hC dX12_laysBehind_45 rfl ?_
      refine g_iload (pc := 47) hC dX12_laysBehind_47 rfl ?_
      refine g_icmp_gt (tgt := 105) (pc := 49) hC dX12_laysBehind_49 (by decide) (fun c12 => ?_) (fun c12 => ?_)
      · replace h := it_t c12 h
        refine g_mask [true, false, true, false, false, false, true, true, false, false] rfl ?_
        exact kx1 w7 w8 (iter_r h hi1)
      · replace h := it_f c12 h
        refine g_aload_n (pc := 52) hC dX12_laysBehind_52 rfl ?_
        refine fg_X12_101_55 (pc := 53) hC dX12_laysBehind_53 ?_
        refine g_iload (pc := 56) hC dX12_laysBehind_56 rfl ?_
        obtain ⟨v13, ev13, nv13, h⟩ := rd_e h
        refine g_iald (pc := 58) hC 86 (by decide) (ar_86 _ _ _) nv13 dX12_laysBehind_58 ?_
        refine g_top ev13 ?_
        refine g_aload_n (pc := 59) hC dX12_laysBehind_59 rfl ?_
        refine fg_X12_7_55 (pc := 60) hC dX12_laysBehind_60 ?_
        refine g_bipush (pc := 63) hC kb_13 dX12_laysBehind_63 ?_
        obtain ⟨v14, ev14, nv14, h⟩ := rd_e h
        refine g_iald (pc := 65) hC 56 (by decide) (ar_56 _ _ _) nv14 dX12_laysBehind_65 ?_
        refine g_top ev14 ?_
        refine g_iload (pc := 66) hC dX12_laysBehind_66 rfl ?_
        refine g_iload_n (pc := 68) hC dX12_laysBehind_68 rfl ?_
        refine g_isub (pc := 69) hC dX12_laysBehind_69 ?_
        refine g_iload_n (pc := 70) hC dX12_laysBehind_70 rfl ?_
        obtain ⟨v15, hc, h⟩ := cp_e h
        refine g_callSi (pc := 71) (As := [.int (w9 - a2), .int v1]) (rest := [.int v14, .int v13]) hC (c_X12_apart l E (w9 - a2) v1 σ v15 hc) mi_X12_apart ms_X12_apart lk_X12_163 rfl rfl (Nat.le_of_ble_eq_true rfl) ⟨by decide, by decide⟩ hab dX12_laysBehind_71 ?_
        refine g_imul (pc := 74) hC dX12_laysBehind_74 ?_
        refine g_isub (pc := 75) hC dX12_laysBehind_75 ?_
        obtain ⟨v16, ev16, h⟩ := lt_e h
        refine g_top ev16 ?_
        refine g_istore (lv2 := [some (.ref (E.2.1 55)), none, some (.int a2), some (.int v1), none, some (.int v6), some (.int w7), some (.int w8), some (.int w9), some (.int v16)]) (pc := 76) hC dX12_laysBehind_76 rfl (Or.inr rfl) (hN _ (by decide)) ?_
        refine g_iload (pc := 78) hC dX12_laysBehind_78 rfl ?_
        refine g_iconst (pc := 80) hC ki_m1 dX12_laysBehind_80 ?_
        have hJ99 : ∀ (v19 : Int32) (v20 : Int32), J_X12_laysBehind_3 w9 v19 v20 = some r1 → Gd l E K 0 0 o σ 99 [some (.ref (E.2.1 55)), none, some (.int a2), some (.int v1), none, some (.int v6), some (.int v19), some (.int v20), some (.int w9), none] [] := by
          intro v19 v20 h
          delta J_X12_laysBehind_3 at h
          obtain ⟨v21, ev21, h⟩ := lt_e h
          refine g_iinc (v := v21) (lv2 := [some (.ref (E.2.1 55)), none, some (.int a2), some (.int v1), none, some (.int v6), some (.int v19), some (.int v20), some (.int v21), none]) (pc := 99) hC dX12_laysBehind_99 rfl ev21 rfl (Or.inr rfl) (hN _ (by decide)) ?_
          refine g_goto (tgt := 45) (pc := 102) hC dX12_laysBehind_102 (by decide) ?_
          exact ih1 v19 v20 v21 z1 (iter_l h hi1) kx1
        have hJ91 : J_X12_laysBehind_2 v16 w9 = some r1 → Gd l E K 0 0 o σ 91 [some (.ref (E.2.1 55)), none, some (.int a2), some (.int v1), none, some (.int v6), none, none, some (.int w9), some (.int v16)] [] := by
          intro h
          delta J_X12_laysBehind_2 at h
          refine g_iload (pc := 91) hC dX12_laysBehind_91 rfl ?_
          refine g_istore (lv2 := [some (.ref (E.2.1 55)), none, some (.int a2), some (.int v1), none, some (.int v6), some (.int w9), none, some (.int w9), some (.int v16)]) (pc := 93) hC dX12_laysBehind_93 rfl (Or.inr rfl) (hN _ (by decide)) ?_
          refine g_iload (pc := 95) hC dX12_laysBehind_95 rfl ?_
          refine g_istore (lv2 := [some (.ref (E.2.1 55)), none, some (.int a2), some (.int v1), none, some (.int v6), some (.int w9), some (.int v16), some (.int w9), some (.int v16)]) (pc := 97) hC dX12_laysBehind_97 rfl (Or.inr rfl) (hN _ (by decide)) ?_
          refine g_mask [true, false, true, true, false, true, true, true, true, false] rfl ?_
          exact hJ99 w9 v16 h
        refine g_icmp_eq (tgt := 91) (pc := 81) hC dX12_laysBehind_81 (by decide) (fun c17 => ?_) (fun c17 => ?_)
        · replace h := it_t c17 h
          refine g_mask [true, false, true, true, false, true, false, false, true, true] rfl ?_
          exact hJ91 h
        · replace h := it_f c17 h
          refine g_iload (pc := 84) hC dX12_laysBehind_84 rfl ?_
          refine g_iload (pc := 86) hC dX12_laysBehind_86 rfl ?_
          refine g_icmp_le (tgt := 99) (pc := 88) hC dX12_laysBehind_88 (by decide) (fun c18 => ?_) (fun c18 => ?_)
          · replace h := it_t c18 h
            refine g_mask [true, false, true, true, false, true, true, true, true, false] rfl ?_
            exact hJ99 w7 w8 h
          · replace h := it_f c18 h
            refine g_mask [true, false, true, true, false, true, false, false, true, true] rfl ?_
            exact hJ91 h
  obtain ⟨z1, hz1, h⟩ := lp_e h
  refine g_mask [true, false, true, true, false, true, true, true, true, false] rfl ?_
  refine hL1 FU (-1) 0 v3 z1 hz1 (fun v10 v11 ez => ?_)
  replace h : C_X12_laysBehind_5 a2 σ v10 v11 = some σr := by rw [ez] at h; exact h
  delta C_X12_laysBehind_5 at h
  refine g_aload_n (pc := 105) hC dX12_laysBehind_105 rfl ?_
  refine fg_X12_104_55 (pc := 106) hC dX12_laysBehind_106 ?_
  refine g_iload_n (pc := 109) hC dX12_laysBehind_109 rfl ?_
  refine g_iload (pc := 110) hC dX12_laysBehind_110 rfl ?_
  obtain ⟨σ22, eσ22, nσ22, h⟩ := wr_e h
  refine g_iast (pc := 112) hC 87 (by decide) (ar_87 _ _) nσ22 dX12_laysBehind_112 eσ22 ?_
  refine g_aload_n (pc := 113) hC dX12_laysBehind_113 rfl ?_
  refine fg_X12_101_55 (pc := 114) hC dX12_laysBehind_114 ?_
  refine g_iload_n (pc := 117) hC dX12_laysBehind_117 rfl ?_
  refine g_aload_n (pc := 118) hC dX12_laysBehind_118 rfl ?_
  refine fg_X12_19_55 (pc := 119) hC dX12_laysBehind_119 ?_
  refine g_iload_n (pc := 122) hC dX12_laysBehind_122 rfl ?_
  obtain ⟨v23, ev23, nv23, h⟩ := rd_e h
  refine g_iald (pc := 123) hC 59 (by decide) (ar_59 _ _ _) nv23 dX12_laysBehind_123 ?_
  refine g_top ev23 ?_
  refine g_iload (pc := 124) hC dX12_laysBehind_124 rfl ?_
  refine g_iadd (pc := 126) hC dX12_laysBehind_126 ?_
  obtain ⟨σ24, eσ24, nσ24, h⟩ := wr_e h
  refine g_iast (pc := 127) hC 86 (by decide) (ar_86 _ _) nσ24 dX12_laysBehind_127 eσ24 ?_
  exact g_retv (pc := 128) hC h hR dX12_laysBehind_128
set_option maxRecDepth 20000 in
theorem c_X12_marksOf (l : Launch) (E : uE) (a1 : Int32) (σ : uS) (σr : uS) (h : F_X12_marksOf a1 σ = some σr) : CtV l E yX12_marksOf cX12_marksOf 6 4 96 [.ref (E.2.1 55), .int a1] σ σr := by
  refine enterV 4 [some (.ref (E.2.1 55)), some (.int a1), none, none, none, none] (by decide +kernel) rfl (Nat.le_of_ble_eq_true rfl) (fun o K hnL hC hab hR => ?_)
  have hC : Cx E K RX12 cX12_marksOf none 4 96 := hC
  have hN : ∀ k, k < 6 → k < K.2.2.2.2.2 := fun k hk => hnL ▸ hk
  delta F_X12_marksOf at h
  refine g_aload_n (pc := 0) hC dX12_marksOf_0 rfl ?_
  refine g_iload_n (pc := 1) hC dX12_marksOf_1 rfl ?_
  obtain ⟨v1, hc, h⟩ := cp_e h
  refine g_callVi (pc := 2) (As := [.int a1]) (rest := []) hC (c_X12_firstSample l E a1 σ v1 hc) mi_X12_firstSample mv_X12_firstSample ob_55 rfl rfl lk_X12_299 rfl rfl (Nat.le_of_ble_eq_true rfl) ⟨by decide, by decide⟩ hab dX12_marksOf_2 ?_
  refine g_istore_n (lv2 := [some (.ref (E.2.1 55)), some (.int a1), some (.int v1), none, none, none]) (pc := 5) hC dX12_marksOf_5 rfl (Or.inr rfl) (hN _ (by decide)) ?_
  refine g_aload_n (pc := 6) hC dX12_marksOf_6 rfl ?_
  refine g_iload_n (pc := 7) hC dX12_marksOf_7 rfl ?_
  obtain ⟨v2, hc, h⟩ := cp_e h
  refine g_callVi (pc := 8) (As := [.int a1]) (rest := []) hC (c_X12_behindSpan l E a1 σ v2 hc) mi_X12_behindSpan mv_X12_behindSpan ob_55 rfl rfl lk_X12_302 rfl rfl (Nat.le_of_ble_eq_true rfl) ⟨by decide, by decide⟩ hab dX12_marksOf_8 ?_
  refine g_istore_n (lv2 := [some (.ref (E.2.1 55)), some (.int a1), some (.int v1), some (.int v2), none, none]) (pc := 11) hC dX12_marksOf_11 rfl (Or.inr rfl) (hN _ (by decide)) ?_
  refine g_iload_n (pc := 12) hC dX12_marksOf_12 rfl ?_
  refine g_iconst (pc := 13) hC ki_1 dX12_marksOf_13 ?_
  refine g_isub (pc := 14) hC dX12_marksOf_14 ?_
  obtain ⟨v3, ev3, h⟩ := lt_e h
  refine g_top ev3 ?_
  refine g_istore (lv2 := [some (.ref (E.2.1 55)), some (.int a1), some (.int v1), some (.int v2), some (.int v3), none]) (pc := 15) hC dX12_marksOf_15 rfl (Or.inr rfl) (hN _ (by decide)) ?_
  have hL1 : ∀ (n : Nat) (w4 : Int32) (σ5 : uS) (z1 : uS), iter n (fun z => B_X12_marksOf_2 a1 v1 z.1 z.2) (w4, σ5) = some z1 → (∀ (σ6 : uS), z1 = σ6 → Gd l E K 0 0 o σ6 36 [some (.ref (E.2.1 55)), some (.int a1), some (.int v1), some (.int v2), none, none] []) → Gd l E K 0 0 o σ5 17 [some (.ref (E.2.1 55)), some (.int a1), some (.int v1), some (.int v2), some (.int w4), none] [] := by
    intro n
    induction n with
    | zero =>
      intro w4 σ5 z1 hi
      exact (iter_0 hi).elim
    | succ n ih1 =>
      intro w4 σ5 z1 hi1 kx1
      obtain ⟨r1, h, hi1⟩ := iter_s hi1
      replace h : B_X12_marksOf_2 a1 v1 w4 σ5 = some r1 := h
      delta B_X12_marksOf_2 at h
      refine g_iload (pc := 17) hC dX12_marksOf_17 rfl ?_
      refine g_iload_n (pc := 19) hC dX12_marksOf_19 rfl ?_
      refine g_icmp_lt (tgt := 36) (pc := 20) hC dX12_marksOf_20 (by decide) (fun c7 => ?_) (fun c7 => ?_)
      · replace h := it_t c7 h
        refine g_mask [true, true, true, true, false, false] rfl ?_
        exact kx1 σ5 (iter_r h hi1)
      · replace h := it_f c7 h
        refine g_aload_n (pc := 23) hC dX12_marksOf_23 rfl ?_
        refine g_iload_n (pc := 24) hC dX12_marksOf_24 rfl ?_
        refine g_iload (pc := 25) hC dX12_marksOf_25 rfl ?_
        obtain ⟨σ8, hc, h⟩ := cp_e h
        refine g_callVv (pc := 27) (As := [.int a1, .int w4]) (rest := []) hC (c_X12_laysBehind l E a1 w4 σ5 σ8 hc) mi_X12_laysBehind mv_X12_laysBehind ob_55 rfl rfl lk_X12_347 rfl rfl (Nat.le_of_ble_eq_true rfl) ⟨by decide, by decide⟩ hab dX12_marksOf_27 ?_
        obtain ⟨v9, ev9, h⟩ := lt_e h
        refine g_iinc (v := v9) (lv2 := [some (.ref (E.2.1 55)), some (.int a1), some (.int v1), some (.int v2), some (.int v9), none]) (pc := 30) hC dX12_marksOf_30 rfl ev9 rfl (Or.inr rfl) (hN _ (by decide)) ?_
        refine g_goto (tgt := 17) (pc := 33) hC dX12_marksOf_33 (by decide) ?_
        exact ih1 v9 σ8 z1 (iter_l h hi1) kx1
  obtain ⟨z1, hz1, h⟩ := lp_e h
  refine hL1 FU v3 σ z1 hz1 (fun σ6 ez => ?_)
  replace h : C_X12_marksOf_9 a1 v1 v2 σ6 = some σr := by rw [ez] at h; exact h
  delta C_X12_marksOf_9 at h
  refine g_iload_n (pc := 36) hC dX12_marksOf_36 rfl ?_
  refine g_istore (lv2 := [some (.ref (E.2.1 55)), some (.int a1), some (.int v1), some (.int v2), some (.int v1), none]) (pc := 37) hC dX12_marksOf_37 rfl (Or.inr rfl) (hN _ (by decide)) ?_
  refine g_iload_n (pc := 39) hC dX12_marksOf_39 rfl ?_
  refine g_istore (lv2 := [some (.ref (E.2.1 55)), some (.int a1), some (.int v1), some (.int v2), some (.int v1), some (.int v1)]) (pc := 40) hC dX12_marksOf_40 rfl (Or.inr rfl) (hN _ (by decide)) ?_
  have hL3 : ∀ (n : Nat) (w10 : Int32) (w11 : Int32) (z3 : Int32), iter n (fun z => B_X12_marksOf_4 a1 v1 v2 σ6 z.1 z.2) (w10, w11) = some z3 → (∀ (v12 : Int32), z3 = v12 → Gd l E K 0 0 o σ6 91 [some (.ref (E.2.1 55)), some (.int a1), none, none, some (.int v12), none] []) → Gd l E K 0 0 o σ6 42 [some (.ref (E.2.1 55)), some (.int a1), some (.int v1), some (.int v2), some (.int w10), some (.int w11)] [] := by
    intro n
    induction n with
    | zero =>
      intro w10 w11 z3 hi
      exact (iter_0 hi).elim
    | succ n ih3 =>
      intro w10 w11 z3 hi3 kx3
      obtain ⟨r3, h, hi3⟩ := iter_s hi3
      replace h : B_X12_marksOf_4 a1 v1 v2 σ6 w10 w11 = some r3 := h
      delta B_X12_marksOf_4 at h
      refine g_iload (pc := 42) hC dX12_marksOf_42 rfl ?_
      refine g_iload_n (pc := 44) hC dX12_marksOf_44 rfl ?_
      refine g_aload_n (pc := 45) hC dX12_marksOf_45 rfl ?_
      refine g_iload_n (pc := 46) hC dX12_marksOf_46 rfl ?_
      refine g_iload_n (pc := 47) hC dX12_marksOf_47 rfl ?_
      obtain ⟨v13, hc, h⟩ := cp_e h
      refine g_callVi (pc := 48) (As := [.int a1, .int v1]) (rest := [.int v1, .int w11]) hC (c_X12_periodAt l E a1 v1 σ6 v13 hc) mi_X12_periodAt mv_X12_periodAt ob_55 rfl rfl lk_X12_344 rfl rfl (Nat.le_of_ble_eq_true rfl) ⟨by decide, by decide⟩ hab dX12_marksOf_48 ?_
      refine g_iadd (pc := 51) hC dX12_marksOf_51 ?_
      refine g_iload_n (pc := 52) hC dX12_marksOf_52 rfl ?_
      obtain ⟨v14, hc, h⟩ := cp_e h
      refine g_callSi (pc := 53) (As := [.int (v1 + v13), .int v2]) (rest := [.int w11]) hC (c_X12_lesser l E (v1 + v13) v2 σ6 v14 hc) mi_X12_lesser ms_X12_lesser lk_X12_329 rfl rfl (Nat.le_of_ble_eq_true rfl) ⟨by decide, by decide⟩ hab dX12_marksOf_53 ?_
      refine g_icmp_ge (tgt := 91) (pc := 56) hC dX12_marksOf_56 (by decide) (fun c15 => ?_) (fun c15 => ?_)
      · replace h := it_t c15 h
        refine g_mask [true, true, false, false, true, false] rfl ?_
        exact kx3 w10 (iter_r h hi3)
      · replace h := it_f c15 h
        refine g_aload_n (pc := 59) hC dX12_marksOf_59 rfl ?_
        refine fg_X12_101_55 (pc := 60) hC dX12_marksOf_60 ?_
        refine g_iload (pc := 63) hC dX12_marksOf_63 rfl ?_
        obtain ⟨v16, ev16, nv16, h⟩ := rd_e h
        refine g_iald (pc := 65) hC 86 (by decide) (ar_86 _ _ _) nv16 dX12_marksOf_65 ?_
        refine g_top ev16 ?_
        refine g_aload_n (pc := 66) hC dX12_marksOf_66 rfl ?_
        refine fg_X12_101_55 (pc := 67) hC dX12_marksOf_67 ?_
        refine g_iload (pc := 70) hC dX12_marksOf_70 rfl ?_
        obtain ⟨v17, ev17, nv17, h⟩ := rd_e h
        refine g_iald (pc := 72) hC 86 (by decide) (ar_86 _ _ _) nv17 dX12_marksOf_72 ?_
        refine g_top ev17 ?_
        obtain ⟨v19, ev19, h⟩ := lt_e h
        have hJ83 : Gd l E K 0 0 o σ6 83 [some (.ref (E.2.1 55)), some (.int a1), some (.int v1), some (.int v2), none, some (.int w11)] [.int v19] := by
          refine g_istore (lv2 := [some (.ref (E.2.1 55)), some (.int a1), some (.int v1), some (.int v2), some (.int v19), some (.int w11)]) (pc := 83) hC dX12_marksOf_83 rfl (Or.inr rfl) (hN _ (by decide)) ?_
          obtain ⟨v20, ev20, h⟩ := lt_e h
          refine g_iinc (v := v20) (lv2 := [some (.ref (E.2.1 55)), some (.int a1), some (.int v1), some (.int v2), some (.int v19), some (.int v20)]) (pc := 85) hC dX12_marksOf_85 rfl ev20 rfl (Or.inr rfl) (hN _ (by decide)) ?_
          refine g_goto (tgt := 42) (pc := 88) hC dX12_marksOf_88 (by decide) ?_
          exact ih3 v19 v20 z3 (iter_l h hi3) kx3
        refine g_icmp_le (tgt := 81) (pc := 73) hC dX12_marksOf_73 (by decide) (fun c18 => ?_) (fun c18 => ?_)
        · refine g_iload (pc := 81) hC dX12_marksOf_81 rfl ?_
          refine g_mask [true, true, true, true, false, true] rfl ?_
          exact g_top (iv_t c18 ev19) hJ83
        · refine g_iload (pc := 76) hC dX12_marksOf_76 rfl ?_
          refine g_goto (tgt := 83) (pc := 78) hC dX12_marksOf_78 (by decide) ?_
          refine g_mask [true, true, true, true, false, true] rfl ?_
          exact g_top (iv_f c18 ev19) hJ83
  obtain ⟨z3, hz3, h⟩ := lp_e h
  refine hL3 FU v1 v1 z3 hz3 (fun v12 ez => ?_)
  replace h : C_X12_marksOf_8 a1 σ6 v12 = some σr := by rw [ez] at h; exact h
  delta C_X12_marksOf_8 at h
  refine g_aload_n (pc := 91) hC dX12_marksOf_91 rfl ?_
  refine fg_X12_116_55 (pc := 92) hC dX12_marksOf_92 ?_
  refine g_iload_n (pc := 95) hC dX12_marksOf_95 rfl ?_
  refine g_aload_n (pc := 96) hC dX12_marksOf_96 rfl ?_
  refine fg_X12_101_55 (pc := 97) hC dX12_marksOf_97 ?_
  refine g_iload (pc := 100) hC dX12_marksOf_100 rfl ?_
  obtain ⟨v21, ev21, nv21, h⟩ := rd_e h
  refine g_iald (pc := 102) hC 86 (by decide) (ar_86 _ _ _) nv21 dX12_marksOf_102 ?_
  refine g_top ev21 ?_
  obtain ⟨σ22, eσ22, nσ22, h⟩ := wr_e h
  refine g_iast (pc := 103) hC 91 (by decide) (ar_91 _ _) nσ22 dX12_marksOf_103 eσ22 ?_
  refine g_iload (pc := 104) hC dX12_marksOf_104 rfl ?_
  refine g_istore (lv2 := [some (.ref (E.2.1 55)), some (.int a1), none, none, some (.int v12), some (.int v12)]) (pc := 106) hC dX12_marksOf_106 rfl (Or.inr rfl) (hN _ (by decide)) ?_
  have hL5 : ∀ (n : Nat) (w23 : Int32) (σ24 : uS) (z5 : uS), iter n (fun z => B_X12_marksOf_6 a1 z.1 z.2) (w23, σ24) = some z5 → (∀ (σ25 : uS), z5 = σ25 → Gd l E K 0 0 o σ25 157 [none, none, none, none, none, none] []) → Gd l E K 0 0 o σ24 108 [some (.ref (E.2.1 55)), some (.int a1), none, none, none, some (.int w23)] [] := by
    intro n
    induction n with
    | zero =>
      intro w23 σ24 z5 hi
      exact (iter_0 hi).elim
    | succ n ih5 =>
      intro w23 σ24 z5 hi5 kx5
      obtain ⟨r5, h, hi5⟩ := iter_s hi5
      replace h : B_X12_marksOf_6 a1 w23 σ24 = some r5 := h
      delta B_X12_marksOf_6 at h
      refine g_iload (pc := 108) hC dX12_marksOf_108 rfl ?_
      refine g_iconst (pc := 110) hC ki_m1 dX12_marksOf_110 ?_
      refine g_icmp_eq (tgt := 157) (pc := 111) hC dX12_marksOf_111 (by decide) (fun c26 => ?_) (fun c26 => ?_)
      · replace h := it_t c26 h
        refine g_mask [false, false, false, false, false, false] rfl ?_
        exact kx5 σ24 (iter_r h hi5)
      · replace h := it_f c26 h
        refine g_aload_n (pc := 114) hC dX12_marksOf_114 rfl ?_
        refine fg_X12_107_55 (pc := 115) hC dX12_marksOf_115 ?_
        refine g_aload_n (pc := 118) hC dX12_marksOf_118 rfl ?_
        refine fg_X12_350_55 (pc := 119) hC dX12_marksOf_119 ?_
        refine g_iload (pc := 122) hC dX12_marksOf_122 rfl ?_
        obtain ⟨σ27, eσ27, nσ27, h⟩ := wr_e h
        refine g_iast (pc := 124) hC 88 (by decide) (ar_88 _ _) nσ27 dX12_marksOf_124 eσ27 ?_
        refine g_aload_n (pc := 125) hC dX12_marksOf_125 rfl ?_
        refine fg_X12_110_55 (pc := 126) hC dX12_marksOf_126 ?_
        refine g_aload_n (pc := 129) hC dX12_marksOf_129 rfl ?_
        refine fg_X12_350_55 (pc := 130) hC dX12_marksOf_130 ?_
        refine g_iload_n (pc := 133) hC dX12_marksOf_133 rfl ?_
        obtain ⟨σ28, eσ28, nσ28, h⟩ := wr_e h
        refine g_iast (pc := 134) hC 89 (by decide) (ar_89 _ _) nσ28 dX12_marksOf_134 eσ28 ?_
        refine g_aload_n (pc := 135) hC dX12_marksOf_135 rfl ?_
        refine g_dup (pc := 136) hC rfl dX12_marksOf_136 ?_
        refine fg_X12_350_55 (pc := 137) hC dX12_marksOf_137 ?_
        refine g_iconst (pc := 140) hC ki_1 dX12_marksOf_140 ?_
        refine g_iadd (pc := 141) hC dX12_marksOf_141 ?_
        obtain ⟨σ29, eσ29, h⟩ := pf_e h
        refine fp_X12_350_55 (pc := 142) hC dX12_marksOf_142 eσ29 ?_
        refine g_aload_n (pc := 145) hC dX12_marksOf_145 rfl ?_
        refine fg_X12_104_55 (pc := 146) hC dX12_marksOf_146 ?_
        refine g_iload (pc := 149) hC dX12_marksOf_149 rfl ?_
        obtain ⟨v30, ev30, nv30, h⟩ := rd_e h
        refine g_iald (pc := 151) hC 87 (by decide) (ar_87 _ _ _) nv30 dX12_marksOf_151 ?_
        refine g_top ev30 ?_
        refine g_istore (lv2 := [some (.ref (E.2.1 55)), some (.int a1), none, none, none, some (.int v30)]) (pc := 152) hC dX12_marksOf_152 rfl (Or.inr rfl) (hN _ (by decide)) ?_
        refine g_goto (tgt := 108) (pc := 154) hC dX12_marksOf_154 (by decide) ?_
        exact ih5 v30 σ29 z5 (iter_l h hi5) kx5
  obtain ⟨z5, hz5, h⟩ := lp_e h
  refine g_mask [true, true, false, false, false, true] rfl ?_
  refine hL5 FU v12 σ22 z5 hz5 (fun σ25 ez => ?_)
  replace h : C_X12_marksOf_7 σ25 = some σr := by rw [ez] at h; exact h
  delta C_X12_marksOf_7 at h
  exact g_retv (pc := 157) hC h hR dX12_marksOf_157
set_option maxRecDepth 20000 in
theorem c_X12_laysMarks (l : Launch) (E : uE) (σ : uS) (σr : uS) (h : F_X12_laysMarks σ = some σr) : CtV l E yX12_laysMarks cX12_laysMarks 2 7 158 [.ref (E.2.1 55)] σ σr := by
  refine enterV 1 [some (.ref (E.2.1 55)), none] (by decide +kernel) rfl (Nat.le_of_ble_eq_true rfl) (fun o K hnL hC hab hR => ?_)
  have hC : Cx E K RX12 cX12_laysMarks none 7 158 := hC
  have hN : ∀ k, k < 2 → k < K.2.2.2.2.2 := fun k hk => hnL ▸ hk
  delta F_X12_laysMarks at h
  refine g_aload_n (pc := 0) hC dX12_laysMarks_0 rfl ?_
  obtain ⟨σ1, hc, h⟩ := cp_e h
  refine g_callVv (pc := 1) (As := []) (rest := []) hC (c_X12_laysSpans l E σ σ1 hc) mi_X12_laysSpans mv_X12_laysSpans ob_55 rfl rfl lk_X12_290 rfl rfl (Nat.le_of_ble_eq_true rfl) ⟨by decide, by decide⟩ hab dX12_laysMarks_1 ?_
  refine g_aload_n (pc := 4) hC dX12_laysMarks_4 rfl ?_
  refine g_iconst (pc := 5) hC ki_0 dX12_laysMarks_5 ?_
  obtain ⟨σ2, eσ2, h⟩ := pf_e h
  refine fp_X12_350_55 (pc := 6) hC dX12_laysMarks_6 eσ2 ?_
  refine g_iconst (pc := 9) hC ki_0 dX12_laysMarks_9 ?_
  refine g_istore_n (lv2 := [some (.ref (E.2.1 55)), some (.int 0)]) (pc := 10) hC dX12_laysMarks_10 rfl (Or.inr rfl) (hN _ (by decide)) ?_
  have hL1 : ∀ (n : Nat) (w3 : Int32) (σ4 : uS) (z1 : uS), iter n (fun z => B_X12_laysMarks_3 z.1 z.2) (w3, σ4) = some z1 → (∀ (σ5 : uS), z1 = σ5 → Gd l E K 0 0 o σ5 55 [some (.ref (E.2.1 55)), none] []) → Gd l E K 0 0 o σ4 11 [some (.ref (E.2.1 55)), some (.int w3)] [] := by
    intro n
    induction n with
    | zero =>
      intro w3 σ4 z1 hi
      exact (iter_0 hi).elim
    | succ n ih1 =>
      intro w3 σ4 z1 hi1 kx1
      obtain ⟨r1, h, hi1⟩ := iter_s hi1
      replace h : B_X12_laysMarks_3 w3 σ4 = some r1 := h
      delta B_X12_laysMarks_3 at h
      refine g_iload_n (pc := 11) hC dX12_laysMarks_11 rfl ?_
      refine g_aload_n (pc := 12) hC dX12_laysMarks_12 rfl ?_
      refine fg_X12_287_55 (pc := 13) hC dX12_laysMarks_13 ?_
      refine g_icmp_ge (tgt := 55) (pc := 16) hC dX12_laysMarks_16 (by decide) (fun c6 => ?_) (fun c6 => ?_)
      · replace h := it_t c6 h
        refine g_mask [true, false] rfl ?_
        exact kx1 σ4 (iter_r h hi1)
      · replace h := it_f c6 h
        refine g_aload_n (pc := 19) hC dX12_laysMarks_19 rfl ?_
        refine fg_X12_113_55 (pc := 20) hC dX12_laysMarks_20 ?_
        refine g_iload_n (pc := 23) hC dX12_laysMarks_23 rfl ?_
        refine g_aload_n (pc := 24) hC dX12_laysMarks_24 rfl ?_
        refine fg_X12_350_55 (pc := 25) hC dX12_laysMarks_25 ?_
        obtain ⟨σ7, eσ7, nσ7, h⟩ := wr_e h
        refine g_iast (pc := 28) hC 90 (by decide) (ar_90 _ _) nσ7 dX12_laysMarks_28 eσ7 ?_
        refine g_aload_n (pc := 29) hC dX12_laysMarks_29 rfl ?_
        refine fg_X12_116_55 (pc := 30) hC dX12_laysMarks_30 ?_
        refine g_iload_n (pc := 33) hC dX12_laysMarks_33 rfl ?_
        refine g_iconst (pc := 34) hC ki_0 dX12_laysMarks_34 ?_
        obtain ⟨σ8, eσ8, nσ8, h⟩ := wr_e h
        refine g_iast (pc := 35) hC 91 (by decide) (ar_91 _ _) nσ8 dX12_laysMarks_35 eσ8 ?_
        refine g_aload_n (pc := 36) hC dX12_laysMarks_36 rfl ?_
        refine g_iload_n (pc := 37) hC dX12_laysMarks_37 rfl ?_
        obtain ⟨v9, hc, h⟩ := cp_e h
        refine g_callVi (pc := 38) (As := [.int w3]) (rest := []) hC (c_X12_isVoiced l E w3 σ8 v9 hc) mi_X12_isVoiced mv_X12_isVoiced ob_55 rfl rfl lk_X12_296 rfl rfl (Nat.le_of_ble_eq_true rfl) ⟨by decide, by decide⟩ hab dX12_laysMarks_38 ?_
        have hJ49 : ∀ (σ12 : uS), J_X12_laysMarks_2 w3 σ12 = some r1 → Gd l E K 0 0 o σ12 49 [some (.ref (E.2.1 55)), some (.int w3)] [] := by
          intro σ12 h
          delta J_X12_laysMarks_2 at h
          obtain ⟨v13, ev13, h⟩ := lt_e h
          refine g_iinc (v := v13) (lv2 := [some (.ref (E.2.1 55)), some (.int v13)]) (pc := 49) hC dX12_laysMarks_49 rfl ev13 rfl (Or.inr rfl) (hN _ (by decide)) ?_
          refine g_goto (tgt := 11) (pc := 52) hC dX12_laysMarks_52 (by decide) ?_
          exact ih1 v13 σ12 z1 (iter_l h hi1) kx1
        refine g_if_eq (tgt := 49) (pc := 41) hC dX12_laysMarks_41 (by decide) (fun c10 => ?_) (fun c10 => ?_)
        · replace h := it_t c10 h
          exact hJ49 σ8 h
        · replace h := it_f c10 h
          refine g_aload_n (pc := 44) hC dX12_laysMarks_44 rfl ?_
          refine g_iload_n (pc := 45) hC dX12_laysMarks_45 rfl ?_
          obtain ⟨σ11, hc, h⟩ := cp_e h
          refine g_callVv (pc := 46) (As := [.int w3]) (rest := []) hC (c_X12_marksOf l E w3 σ8 σ11 hc) mi_X12_marksOf mv_X12_marksOf ob_55 rfl rfl lk_X12_353 rfl rfl (Nat.le_of_ble_eq_true rfl) ⟨by decide, by decide⟩ hab dX12_laysMarks_46 ?_
          exact hJ49 σ11 h
  obtain ⟨z1, hz1, h⟩ := lp_e h
  refine hL1 FU 0 σ2 z1 hz1 (fun σ5 ez => ?_)
  replace h : C_X12_laysMarks_4 σ5 = some σr := by rw [ez] at h; exact h
  delta C_X12_laysMarks_4 at h
  refine g_aload_n (pc := 55) hC dX12_laysMarks_55 rfl ?_
  refine fg_X12_113_55 (pc := 56) hC dX12_laysMarks_56 ?_
  refine g_aload_n (pc := 59) hC dX12_laysMarks_59 rfl ?_
  refine fg_X12_287_55 (pc := 60) hC dX12_laysMarks_60 ?_
  refine g_aload_n (pc := 63) hC dX12_laysMarks_63 rfl ?_
  refine fg_X12_350_55 (pc := 64) hC dX12_laysMarks_64 ?_
  obtain ⟨σ14, eσ14, nσ14, h⟩ := wr_e h
  refine g_iast (pc := 67) hC 90 (by decide) (ar_90 _ _) nσ14 dX12_laysMarks_67 eσ14 ?_
  exact g_retv (pc := 68) hC h hR dX12_laysMarks_68
