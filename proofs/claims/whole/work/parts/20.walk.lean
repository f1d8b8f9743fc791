set_option maxRecDepth 20000 in
theorem c_X12_loud (l : Launch) (E : uE) (a1 : Int32) (σ : uS) (r : Int32) (σr : uS) (h : F_X12_loud a1 σ = some (r, σr)) : CtI l E yX12_loud cX12_loud 2 (some .int) 2 44 [.ref (E.2.1 55), .int a1] σ r σr := by
  refine enterI 0 [some (.ref (E.2.1 55)), some (.int a1)] (by decide +kernel) rfl (Nat.le_of_ble_eq_true rfl) (fun o K hnL hC hab hR => ?_)
  have hC : Cx E K RX12 cX12_loud (some .int) 2 44 := hC
  have hN : ∀ k, k < 2 → k < K.2.2.2.2.2 := fun k hk => hnL ▸ hk
  delta F_X12_loud at h
  refine g_aload_n (pc := 0) hC dX12_loud_0 rfl ?_
  refine g_iconst (pc := 1) hC ki_0 dX12_loud_1 ?_
  obtain ⟨σ1, eσ1, h⟩ := pf_e h
  refine fp_X12_119_55 (pc := 2) hC dX12_loud_2 eσ1 ?_
  refine g_aload_n (pc := 5) hC dX12_loud_5 rfl ?_
  refine g_iload_n (pc := 6) hC dX12_loud_6 rfl ?_
  obtain ⟨v3, σ2, hc, h⟩ := cl_e h
  refine g_callVi (pc := 7) (As := [.int a1]) (rest := []) hC (c_X12_isFrame l E a1 σ1 v3 σ2 hc) mi_X12_isFrame mv_X12_isFrame ob_55 rfl rfl lk_X12_167 rfl rfl (Nat.le_of_ble_eq_true rfl) ⟨by decide, by decide⟩ hab dX12_loud_7 ?_
  have hJ22 : ∀ (v6 : Int32), J_X12_loud_1 σ2 v6 = some (r, σr) → Gd l E K 0 0 o σ2 22 [none, none] [.int v6] := by
    intro v6 h
    delta J_X12_loud_1 at h
    exact g_ret (pc := 22) hC h hR dX12_loud_22
  refine g_if_eq (tgt := 21) (pc := 10) hC dX12_loud_10 (by decide) (fun c4 => ?_) (fun c4 => ?_)
  · replace h := it_t c4 h
    refine g_iconst (pc := 21) hC ki_0 dX12_loud_21 ?_
    refine g_mask [false, false] rfl ?_
    exact hJ22 0 h
  · replace h := it_f c4 h
    refine g_aload_n (pc := 13) hC dX12_loud_13 rfl ?_
    refine g_iload_n (pc := 14) hC dX12_loud_14 rfl ?_
    obtain ⟨v5, hc, h⟩ := cp_e h
    refine g_callVi (pc := 15) (As := [.int a1]) (rest := []) hC (c_X12_loudOf l E a1 σ2 v5 hc) mi_X12_loudOf mv_X12_loudOf ob_55 rfl rfl lk_X12_177 rfl rfl (Nat.le_of_ble_eq_true rfl) ⟨by decide, by decide⟩ hab dX12_loud_15 ?_
    refine g_goto (tgt := 22) (pc := 18) hC dX12_loud_18 (by decide) ?_
    refine g_mask [false, false] rfl ?_
    exact hJ22 v5 h
set_option maxRecDepth 20000 in
theorem c_X12_isDipAt (l : Launch) (E : uE) (a1 : Int32) (σ : uS) (r : Int32) (h : F_X12_isDipAt a1 σ = some r) : CtI l E yX12_isDipAt cX12_isDipAt 2 (some .boolean) 0 0 [.ref (E.2.1 55), .int a1] σ r σ := by
  refine enterI 0 [some (.ref (E.2.1 55)), some (.int a1)] (by decide +kernel) rfl (Nat.le_of_ble_eq_true rfl) (fun o K hnL hC hab hR => ?_)
  have hC : Cx E K RX12 cX12_isDipAt (some .boolean) 0 0 := hC
  have hN : ∀ k, k < 2 → k < K.2.2.2.2.2 := fun k hk => hnL ▸ hk
  delta F_X12_isDipAt at h
  refine g_aload_n (pc := 0) hC dX12_isDipAt_0 rfl ?_
  refine fg_X12_31_55 (pc := 1) hC dX12_isDipAt_1 ?_
  refine g_iload_n (pc := 4) hC dX12_isDipAt_4 rfl ?_
  obtain ⟨v1, ev1, nv1, h⟩ := rd_e h
  refine g_iald (pc := 5) hC 63 (by decide) (ar_63 _ _ _) nv1 dX12_isDipAt_5 ?_
  refine g_top ev1 ?_
  refine g_aload_n (pc := 6) hC dX12_isDipAt_6 rfl ?_
  refine fg_X12_7_55 (pc := 7) hC dX12_isDipAt_7 ?_
  refine g_bipush (pc := 10) hC kb_6 dX12_isDipAt_10 ?_
  obtain ⟨v2, ev2, nv2, h⟩ := rd_e h
  refine g_iald (pc := 12) hC 56 (by decide) (ar_56 _ _ _) nv2 dX12_isDipAt_12 ?_
  refine g_top ev2 ?_
  have hJ55 : ∀ (v10 : Int32), J_X12_isDipAt_2 v10 = some r → Gd l E K 0 0 o σ 55 [none, none] [.int v10] := by
    intro v10 h
    delta J_X12_isDipAt_2 at h
    obtain ⟨h01, h⟩ := bz_e h
    exact g_retzp (pc := 55) hC h01 h hR dX12_isDipAt_55
  have hJ54 : J_X12_isDipAt_1 = some r → Gd l E K 0 0 o σ 54 [none, none] [] := by
    intro h
    delta J_X12_isDipAt_1 at h
    refine g_iconst (pc := 54) hC ki_0 dX12_isDipAt_54 ?_
    exact hJ55 0 h
  refine g_icmp_gt (tgt := 54) (pc := 13) hC dX12_isDipAt_13 (by decide) (fun c3 => ?_) (fun c3 => ?_)
  · replace h := it_t c3 h
    refine g_mask [false, false] rfl ?_
    exact hJ54 h
  · replace h := it_f c3 h
    refine g_aload_n (pc := 16) hC dX12_isDipAt_16 rfl ?_
    refine fg_X12_31_55 (pc := 17) hC dX12_isDipAt_17 ?_
    refine g_iload_n (pc := 20) hC dX12_isDipAt_20 rfl ?_
    obtain ⟨v4, ev4, nv4, h⟩ := rd_e h
    refine g_iald (pc := 21) hC 63 (by decide) (ar_63 _ _ _) nv4 dX12_isDipAt_21 ?_
    refine g_top ev4 ?_
    refine g_aload_n (pc := 22) hC dX12_isDipAt_22 rfl ?_
    refine fg_X12_31_55 (pc := 23) hC dX12_isDipAt_23 ?_
    refine g_iload_n (pc := 26) hC dX12_isDipAt_26 rfl ?_
    refine g_iconst (pc := 27) hC ki_1 dX12_isDipAt_27 ?_
    refine g_isub (pc := 28) hC dX12_isDipAt_28 ?_
    obtain ⟨v5, ev5, nv5, h⟩ := rd_e h
    refine g_iald (pc := 29) hC 63 (by decide) (ar_63 _ _ _) nv5 dX12_isDipAt_29 ?_
    refine g_top ev5 ?_
    refine g_icmp_ge (tgt := 54) (pc := 30) hC dX12_isDipAt_30 (by decide) (fun c6 => ?_) (fun c6 => ?_)
    · replace h := it_t c6 h
      refine g_mask [false, false] rfl ?_
      exact hJ54 h
    · replace h := it_f c6 h
      refine g_aload_n (pc := 33) hC dX12_isDipAt_33 rfl ?_
      refine fg_X12_31_55 (pc := 34) hC dX12_isDipAt_34 ?_
      refine g_iload_n (pc := 37) hC dX12_isDipAt_37 rfl ?_
      obtain ⟨v7, ev7, nv7, h⟩ := rd_e h
      refine g_iald (pc := 38) hC 63 (by decide) (ar_63 _ _ _) nv7 dX12_isDipAt_38 ?_
      refine g_top ev7 ?_
      refine g_aload_n (pc := 39) hC dX12_isDipAt_39 rfl ?_
      refine fg_X12_31_55 (pc := 40) hC dX12_isDipAt_40 ?_
      refine g_iload_n (pc := 43) hC dX12_isDipAt_43 rfl ?_
      refine g_iconst (pc := 44) hC ki_1 dX12_isDipAt_44 ?_
      refine g_iadd (pc := 45) hC dX12_isDipAt_45 ?_
      obtain ⟨v8, ev8, nv8, h⟩ := rd_e h
      refine g_iald (pc := 46) hC 63 (by decide) (ar_63 _ _ _) nv8 dX12_isDipAt_46 ?_
      refine g_top ev8 ?_
      refine g_icmp_gt (tgt := 54) (pc := 47) hC dX12_isDipAt_47 (by decide) (fun c9 => ?_) (fun c9 => ?_)
      · replace h := it_t c9 h
        refine g_mask [false, false] rfl ?_
        exact hJ54 h
      · replace h := it_f c9 h
        refine g_iconst (pc := 50) hC ki_1 dX12_isDipAt_50 ?_
        refine g_goto (tgt := 55) (pc := 51) hC dX12_isDipAt_51 (by decide) ?_
        refine g_mask [false, false] rfl ?_
        exact hJ55 1 h
set_option maxRecDepth 20000 in
theorem c_X12_laysDips (l : Launch) (E : uE) (a1 : Int32) (σ : uS) (σr : uS) (h : F_X12_laysDips a1 σ = some σr) : CtV l E yX12_laysDips cX12_laysDips 4 2 44 [.ref (E.2.1 55), .int a1] σ σr := by
  refine enterV 2 [some (.ref (E.2.1 55)), some (.int a1), none, none] (by decide +kernel) rfl (Nat.le_of_ble_eq_true rfl) (fun o K hnL hC hab hR => ?_)
  have hC : Cx E K RX12 cX12_laysDips none 2 44 := hC
  have hN : ∀ k, k < 4 → k < K.2.2.2.2.2 := fun k hk => hnL ▸ hk
  delta F_X12_laysDips at h
  refine g_aload_n (pc := 0) hC dX12_laysDips_0 rfl ?_
  refine g_iload_n (pc := 1) hC dX12_laysDips_1 rfl ?_
  obtain ⟨v1, hc, h⟩ := cp_e h
  refine g_callVi (pc := 2) (As := [.int a1]) (rest := []) hC (c_X12_loudOf l E a1 σ v1 hc) mi_X12_loudOf mv_X12_loudOf ob_55 rfl rfl lk_X12_177 rfl rfl (Nat.le_of_ble_eq_true rfl) ⟨by decide, by decide⟩ hab dX12_laysDips_2 ?_
  refine g_aload_n (pc := 5) hC dX12_laysDips_5 rfl ?_
  refine fg_X12_7_55 (pc := 6) hC dX12_laysDips_6 ?_
  refine g_bipush (pc := 9) hC kb_14 dX12_laysDips_9 ?_
  obtain ⟨v2, ev2, nv2, h⟩ := rd_e h
  refine g_iald (pc := 11) hC 56 (by decide) (ar_56 _ _ _) nv2 dX12_laysDips_11 ?_
  refine g_top ev2 ?_
  obtain ⟨v4, ev4, h⟩ := lt_e h
  have hJ20 : Gd l E K 0 0 o σ 20 [some (.ref (E.2.1 55)), none, none, none] [.int v4] := by
    refine g_istore_n (lv2 := [some (.ref (E.2.1 55)), none, some (.int v4), none]) (pc := 20) hC dX12_laysDips_20 rfl (Or.inr rfl) (hN _ (by decide)) ?_
    refine g_aload_n (pc := 21) hC dX12_laysDips_21 rfl ?_
    refine fg_X12_7_55 (pc := 22) hC dX12_laysDips_22 ?_
    refine g_iconst (pc := 25) hC ki_4 dX12_laysDips_25 ?_
    obtain ⟨v5, ev5, nv5, h⟩ := rd_e h
    refine g_iald (pc := 26) hC 56 (by decide) (ar_56 _ _ _) nv5 dX12_laysDips_26 ?_
    refine g_top ev5 ?_
    refine g_istore_n (lv2 := [some (.ref (E.2.1 55)), none, some (.int v4), some (.int v5)]) (pc := 27) hC dX12_laysDips_27 rfl (Or.inr rfl) (hN _ (by decide)) ?_
    have hL1 : ∀ (n : Nat) (w6 : Int32) (σ7 : uS) (z1 : uS), iter n (fun z => B_X12_laysDips_4 v4 z.1 z.2) (w6, σ7) = some z1 → (∀ (σ8 : uS), z1 = σ8 → Gd l E K 0 0 o σ8 67 [none, none, none, none] []) → Gd l E K 0 0 o σ7 28 [some (.ref (E.2.1 55)), none, some (.int v4), some (.int w6)] [] := by
      intro n
      induction n with
      | zero =>
        intro w6 σ7 z1 hi
        exact (iter_0 hi).elim
      | succ n ih1 =>
        intro w6 σ7 z1 hi1 kx1
        obtain ⟨r1, h, hi1⟩ := iter_s hi1
        replace h : B_X12_laysDips_4 v4 w6 σ7 = some r1 := h
        delta B_X12_laysDips_4 at h
        refine g_iload_n (pc := 28) hC dX12_laysDips_28 rfl ?_
        refine g_aload_n (pc := 29) hC dX12_laysDips_29 rfl ?_
        refine fg_X12_7_55 (pc := 30) hC dX12_laysDips_30 ?_
        refine g_iconst (pc := 33) hC ki_5 dX12_laysDips_33 ?_
        obtain ⟨v9, ev9, nv9, h⟩ := rd_e h
        refine g_iald (pc := 34) hC 56 (by decide) (ar_56 _ _ _) nv9 dX12_laysDips_34 ?_
        refine g_top ev9 ?_
        refine g_icmp_gt (tgt := 67) (pc := 35) hC dX12_laysDips_35 (by decide) (fun c10 => ?_) (fun c10 => ?_)
        · replace h := it_t c10 h
          refine g_mask [false, false, false, false] rfl ?_
          exact kx1 σ7 (iter_r h hi1)
        · replace h := it_f c10 h
          refine g_aload_n (pc := 38) hC dX12_laysDips_38 rfl ?_
          refine fg_X12_43_55 (pc := 39) hC dX12_laysDips_39 ?_
          refine g_iload_n (pc := 42) hC dX12_laysDips_42 rfl ?_
          refine g_iload_n (pc := 43) hC dX12_laysDips_43 rfl ?_
          have hJ60 : ∀ (v14 : Int32), J_X12_laysDips_3 w6 σ7 v14 = some r1 → Gd l E K 0 0 o σ7 60 [some (.ref (E.2.1 55)), none, some (.int v4), some (.int w6)] [.int v14, .int w6, .ref (E.2.1 67)] := by
            intro v14 h
            delta J_X12_laysDips_3 at h
            obtain ⟨σ15, eσ15, nσ15, h⟩ := wr_e h
            refine g_zast (pc := 60) hC 67 (by decide) (ar_67 _ _) nσ15 dX12_laysDips_60 eσ15 ?_
            obtain ⟨v16, ev16, h⟩ := lt_e h
            refine g_iinc (v := v16) (lv2 := [some (.ref (E.2.1 55)), none, some (.int v4), some (.int v16)]) (pc := 61) hC dX12_laysDips_61 rfl ev16 rfl (Or.inr rfl) (hN _ (by decide)) ?_
            refine g_goto (tgt := 28) (pc := 64) hC dX12_laysDips_64 (by decide) ?_
            exact ih1 v16 σ15 z1 (iter_l h hi1) kx1
          have hJ59 : J_X12_laysDips_2 w6 σ7 = some r1 → Gd l E K 0 0 o σ7 59 [some (.ref (E.2.1 55)), none, some (.int v4), some (.int w6)] [.int w6, .ref (E.2.1 67)] := by
            intro h
            delta J_X12_laysDips_2 at h
            refine g_iconst (pc := 59) hC ki_0 dX12_laysDips_59 ?_
            exact hJ60 0 h
          refine g_if_eq (tgt := 59) (pc := 44) hC dX12_laysDips_44 (by decide) (fun c11 => ?_) (fun c11 => ?_)
          · replace h := it_t c11 h
            exact hJ59 h
          · replace h := it_f c11 h
            refine g_aload_n (pc := 47) hC dX12_laysDips_47 rfl ?_
            refine g_iload_n (pc := 48) hC dX12_laysDips_48 rfl ?_
            obtain ⟨v12, hc, h⟩ := cp_e h
            refine g_callVi (pc := 49) (As := [.int w6]) (rest := [.int w6, .ref (E.2.1 67)]) hC (c_X12_isDipAt l E w6 σ7 v12 hc) mi_X12_isDipAt mv_X12_isDipAt ob_55 rfl rfl lk_X12_180 rfl rfl (Nat.le_of_ble_eq_true rfl) ⟨by decide, by decide⟩ hab dX12_laysDips_49 ?_
            refine g_if_eq (tgt := 59) (pc := 52) hC dX12_laysDips_52 (by decide) (fun c13 => ?_) (fun c13 => ?_)
            · replace h := it_t c13 h
              exact hJ59 h
            · replace h := it_f c13 h
              refine g_iconst (pc := 55) hC ki_1 dX12_laysDips_55 ?_
              refine g_goto (tgt := 60) (pc := 56) hC dX12_laysDips_56 (by decide) ?_
              exact hJ60 1 h
    obtain ⟨z1, hz1, h⟩ := lp_e h
    refine hL1 FU v5 σ z1 hz1 (fun σ8 ez => ?_)
    replace h : C_X12_laysDips_5 σ8 = some σr := by rw [ez] at h; exact h
    delta C_X12_laysDips_5 at h
    exact g_retv (pc := 67) hC h hR dX12_laysDips_67
  refine g_icmp_lt (tgt := 19) (pc := 12) hC dX12_laysDips_12 (by decide) (fun c3 => ?_) (fun c3 => ?_)
  · refine g_iconst (pc := 19) hC ki_0 dX12_laysDips_19 ?_
    refine g_mask [true, false, false, false] rfl ?_
    exact g_top (iv_t c3 ev4) hJ20
  · refine g_iconst (pc := 15) hC ki_1 dX12_laysDips_15 ?_
    refine g_goto (tgt := 20) (pc := 16) hC dX12_laysDips_16 (by decide) ?_
    refine g_mask [true, false, false, false] rfl ?_
    exact g_top (iv_f c3 ev4) hJ20
set_option maxRecDepth 20000 in
theorem c_X12_aheadOf (l : Launch) (E : uE) (a1 : Int32) (σ : uS) (r : Int32) (h : F_X12_aheadOf a1 σ = some r) : CtI l E yX12_aheadOf cX12_aheadOf 4 (some .int) 0 0 [.ref (E.2.1 55), .int a1] σ r σ := by
  refine enterI 2 [some (.ref (E.2.1 55)), some (.int a1), none, none] (by decide +kernel) rfl (Nat.le_of_ble_eq_true rfl) (fun o K hnL hC hab hR => ?_)
  have hC : Cx E K RX12 cX12_aheadOf (some .int) 0 0 := hC
  have hN : ∀ k, k < 4 → k < K.2.2.2.2.2 := fun k hk => hnL ▸ hk
  delta F_X12_aheadOf at h
  refine g_iconst (pc := 0) hC ki_0 dX12_aheadOf_0 ?_
  refine g_istore_n (lv2 := [some (.ref (E.2.1 55)), some (.int a1), some (.int 0), none]) (pc := 1) hC dX12_aheadOf_1 rfl (Or.inr rfl) (hN _ (by decide)) ?_
  refine g_aload_n (pc := 2) hC dX12_aheadOf_2 rfl ?_
  refine fg_X12_7_55 (pc := 3) hC dX12_aheadOf_3 ?_
  refine g_iconst (pc := 6) hC ki_4 dX12_aheadOf_6 ?_
  obtain ⟨v1, ev1, nv1, h⟩ := rd_e h
  refine g_iald (pc := 7) hC 56 (by decide) (ar_56 _ _ _) nv1 dX12_aheadOf_7 ?_
  refine g_top ev1 ?_
  refine g_istore_n (lv2 := [some (.ref (E.2.1 55)), some (.int a1), some (.int 0), some (.int v1)]) (pc := 8) hC dX12_aheadOf_8 rfl (Or.inr rfl) (hN _ (by decide)) ?_
  have hL1 : ∀ (n : Nat) (w2 : Int32) (w3 : Int32) (z1 : Int32), iter n (fun z => B_X12_aheadOf_4 a1 σ z.1 z.2) (w2, w3) = some z1 → (∀ (v4 : Int32), z1 = v4 → Gd l E K 0 0 o σ 72 [none, none, some (.int v4), none] []) → Gd l E K 0 0 o σ 9 [some (.ref (E.2.1 55)), some (.int a1), some (.int w2), some (.int w3)] [] := by
    intro n
    induction n with
    | zero =>
      intro w2 w3 z1 hi
      exact (iter_0 hi).elim
    | succ n ih1 =>
      intro w2 w3 z1 hi1 kx1
      obtain ⟨r1, h, hi1⟩ := iter_s hi1
      replace h : B_X12_aheadOf_4 a1 σ w2 w3 = some r1 := h
      delta B_X12_aheadOf_4 at h
      refine g_iload_n (pc := 9) hC dX12_aheadOf_9 rfl ?_
      refine g_aload_n (pc := 10) hC dX12_aheadOf_10 rfl ?_
      refine fg_X12_7_55 (pc := 11) hC dX12_aheadOf_11 ?_
      refine g_iconst (pc := 14) hC ki_5 dX12_aheadOf_14 ?_
      obtain ⟨v5, ev5, nv5, h⟩ := rd_e h
      refine g_iald (pc := 15) hC 56 (by decide) (ar_56 _ _ _) nv5 dX12_aheadOf_15 ?_
      refine g_top ev5 ?_
      refine g_icmp_gt (tgt := 72) (pc := 16) hC dX12_aheadOf_16 (by decide) (fun c6 => ?_) (fun c6 => ?_)
      · replace h := it_t c6 h
        refine g_mask [false, false, true, false] rfl ?_
        exact kx1 w2 (iter_r h hi1)
      · replace h := it_f c6 h
        refine g_aload_n (pc := 19) hC dX12_aheadOf_19 rfl ?_
        refine fg_X12_43_55 (pc := 20) hC dX12_aheadOf_20 ?_
        refine g_iload_n (pc := 23) hC dX12_aheadOf_23 rfl ?_
        obtain ⟨v7, ev7, nv7, h⟩ := rd_e h
        refine g_zald (pc := 24) hC 67 (by decide) (ar_67 _ _ _) nv7 dX12_aheadOf_24 ?_
        refine g_top ev7 ?_
        have hJ66 : ∀ (v17 : Int32), J_X12_aheadOf_3 w3 v17 = some r1 → Gd l E K 0 0 o σ 66 [some (.ref (E.2.1 55)), some (.int a1), some (.int v17), some (.int w3)] [] := by
          intro v17 h
          delta J_X12_aheadOf_3 at h
          obtain ⟨v18, ev18, h⟩ := lt_e h
          refine g_iinc (v := v18) (lv2 := [some (.ref (E.2.1 55)), some (.int a1), some (.int v17), some (.int v18)]) (pc := 66) hC dX12_aheadOf_66 rfl ev18 rfl (Or.inr rfl) (hN _ (by decide)) ?_
          refine g_goto (tgt := 9) (pc := 69) hC dX12_aheadOf_69 (by decide) ?_
          exact ih1 v17 v18 z1 (iter_l h hi1) kx1
        refine g_if_eq (tgt := 66) (pc := 25) hC dX12_aheadOf_25 (by decide) (fun c8 => ?_) (fun c8 => ?_)
        · replace h := it_t c8 h
          exact hJ66 w2 h
        · replace h := it_f c8 h
          refine g_aload_n (pc := 28) hC dX12_aheadOf_28 rfl ?_
          refine fg_X12_31_55 (pc := 29) hC dX12_aheadOf_29 ?_
          refine g_iload_n (pc := 32) hC dX12_aheadOf_32 rfl ?_
          obtain ⟨v9, ev9, nv9, h⟩ := rd_e h
          refine g_iald (pc := 33) hC 63 (by decide) (ar_63 _ _ _) nv9 dX12_aheadOf_33 ?_
          refine g_top ev9 ?_
          refine g_aload_n (pc := 34) hC dX12_aheadOf_34 rfl ?_
          refine fg_X12_31_55 (pc := 35) hC dX12_aheadOf_35 ?_
          refine g_iload_n (pc := 38) hC dX12_aheadOf_38 rfl ?_
          obtain ⟨v10, ev10, nv10, h⟩ := rd_e h
          refine g_iald (pc := 39) hC 63 (by decide) (ar_63 _ _ _) nv10 dX12_aheadOf_39 ?_
          refine g_top ev10 ?_
          have hJ63 : J_X12_aheadOf_2 w2 w3 = some r1 → Gd l E K 0 0 o σ 63 [some (.ref (E.2.1 55)), some (.int a1), some (.int w2), some (.int w3)] [] := by
            intro h
            delta J_X12_aheadOf_2 at h
            obtain ⟨v16, ev16, h⟩ := lt_e h
            refine g_iinc (v := v16) (lv2 := [some (.ref (E.2.1 55)), some (.int a1), some (.int v16), some (.int w3)]) (pc := 63) hC dX12_aheadOf_63 rfl ev16 rfl (Or.inr rfl) (hN _ (by decide)) ?_
            exact hJ66 v16 h
          refine g_icmp_lt (tgt := 63) (pc := 40) hC dX12_aheadOf_40 (by decide) (fun c11 => ?_) (fun c11 => ?_)
          · replace h := it_t c11 h
            exact hJ63 h
          · replace h := it_f c11 h
            refine g_aload_n (pc := 43) hC dX12_aheadOf_43 rfl ?_
            refine fg_X12_31_55 (pc := 44) hC dX12_aheadOf_44 ?_
            refine g_iload_n (pc := 47) hC dX12_aheadOf_47 rfl ?_
            obtain ⟨v12, ev12, nv12, h⟩ := rd_e h
            refine g_iald (pc := 48) hC 63 (by decide) (ar_63 _ _ _) nv12 dX12_aheadOf_48 ?_
            refine g_top ev12 ?_
            refine g_aload_n (pc := 49) hC dX12_aheadOf_49 rfl ?_
            refine fg_X12_31_55 (pc := 50) hC dX12_aheadOf_50 ?_
            refine g_iload_n (pc := 53) hC dX12_aheadOf_53 rfl ?_
            obtain ⟨v13, ev13, nv13, h⟩ := rd_e h
            refine g_iald (pc := 54) hC 63 (by decide) (ar_63 _ _ _) nv13 dX12_aheadOf_54 ?_
            refine g_top ev13 ?_
            refine g_icmp_ne (tgt := 66) (pc := 55) hC dX12_aheadOf_55 (by decide) (fun c14 => ?_) (fun c14 => ?_)
            · replace h := it_f c14 h
              exact hJ66 w2 h
            · replace h := it_t c14 h
              refine g_iload_n (pc := 58) hC dX12_aheadOf_58 rfl ?_
              refine g_iload_n (pc := 59) hC dX12_aheadOf_59 rfl ?_
              refine g_icmp_ge (tgt := 66) (pc := 60) hC dX12_aheadOf_60 (by decide) (fun c15 => ?_) (fun c15 => ?_)
              · replace h := it_t c15 h
                exact hJ66 w2 h
              · replace h := it_f c15 h
                exact hJ63 h
  obtain ⟨z1, hz1, h⟩ := lp_e h
  refine hL1 FU 0 v1 z1 hz1 (fun v4 ez => ?_)
  replace h : C_X12_aheadOf_5 v4 = some r := by rw [ez] at h; exact h
  delta C_X12_aheadOf_5 at h
  refine g_iload_n (pc := 72) hC dX12_aheadOf_72 rfl ?_
  exact g_retp (pc := 73) hC h hR dX12_aheadOf_73
set_option maxRecDepth 20000 in
theorem c_X12_laysFrame (l : Launch) (E : uE) (a1 : Int32) (σ : uS) (σr : uS) (h : F_X12_laysFrame a1 σ = some σr) : CtV l E yX12_laysFrame cX12_laysFrame 4 3 67 [.ref (E.2.1 55), .int a1] σ σr := by
  refine enterV 2 [some (.ref (E.2.1 55)), some (.int a1), none, none] (by decide +kernel) rfl (Nat.le_of_ble_eq_true rfl) (fun o K hnL hC hab hR => ?_)
  have hC : Cx E K RX12 cX12_laysFrame none 3 67 := hC
  have hN : ∀ k, k < 4 → k < K.2.2.2.2.2 := fun k hk => hnL ▸ hk
  delta F_X12_laysFrame at h
  refine g_aload_n (pc := 0) hC dX12_laysFrame_0 rfl ?_
  refine g_iload_n (pc := 1) hC dX12_laysFrame_1 rfl ?_
  obtain ⟨σ1, hc, h⟩ := cp_e h
  refine g_callVv (pc := 2) (As := [.int a1]) (rest := []) hC (c_X12_laysDiffs l E a1 σ σ1 hc) mi_X12_laysDiffs mv_X12_laysDiffs ob_55 rfl rfl lk_X12_174 rfl rfl (Nat.le_of_ble_eq_true rfl) ⟨by decide, by decide⟩ hab dX12_laysFrame_2 ?_
  refine g_aload_n (pc := 5) hC dX12_laysFrame_5 rfl ?_
  refine g_iload_n (pc := 6) hC dX12_laysFrame_6 rfl ?_
  obtain ⟨σ2, hc, h⟩ := cp_e h
  refine g_callVv (pc := 7) (As := [.int a1]) (rest := []) hC (c_X12_laysDips l E a1 σ1 σ2 hc) mi_X12_laysDips mv_X12_laysDips ob_55 rfl rfl lk_X12_183 rfl rfl (Nat.le_of_ble_eq_true rfl) ⟨by decide, by decide⟩ hab dX12_laysFrame_7 ?_
  refine g_iconst (pc := 10) hC ki_0 dX12_laysFrame_10 ?_
  refine g_istore_n (lv2 := [some (.ref (E.2.1 55)), some (.int a1), some (.int 0), none]) (pc := 11) hC dX12_laysFrame_11 rfl (Or.inr rfl) (hN _ (by decide)) ?_
  refine g_aload_n (pc := 12) hC dX12_laysFrame_12 rfl ?_
  refine fg_X12_7_55 (pc := 13) hC dX12_laysFrame_13 ?_
  refine g_iconst (pc := 16) hC ki_4 dX12_laysFrame_16 ?_
  obtain ⟨v3, ev3, nv3, h⟩ := rd_e h
  refine g_iald (pc := 17) hC 56 (by decide) (ar_56 _ _ _) nv3 dX12_laysFrame_17 ?_
  refine g_top ev3 ?_
  refine g_istore_n (lv2 := [some (.ref (E.2.1 55)), some (.int a1), some (.int 0), some (.int v3)]) (pc := 18) hC dX12_laysFrame_18 rfl (Or.inr rfl) (hN _ (by decide)) ?_
  have hL1 : ∀ (n : Nat) (w4 : Int32) (w5 : Int32) (σ6 : uS) (z1 : Int32 × uS), iter n (fun z => B_X12_laysFrame_3 a1 z.1 z.2.1 z.2.2) (w4, w5, σ6) = some z1 → (∀ (v7 : Int32) (σ8 : uS), z1 = (v7, σ8) → Gd l E K 0 0 o σ8 104 [some (.ref (E.2.1 55)), some (.int a1), some (.int v7), none] []) → Gd l E K 0 0 o σ6 19 [some (.ref (E.2.1 55)), some (.int a1), some (.int w4), some (.int w5)] [] := by
    intro n
    induction n with
    | zero =>
      intro w4 w5 σ6 z1 hi
      exact (iter_0 hi).elim
    | succ n ih1 =>
      intro w4 w5 σ6 z1 hi1 kx1
      obtain ⟨r1, h, hi1⟩ := iter_s hi1
      replace h : B_X12_laysFrame_3 a1 w4 w5 σ6 = some r1 := h
      delta B_X12_laysFrame_3 at h
      refine g_iload_n (pc := 19) hC dX12_laysFrame_19 rfl ?_
      refine g_aload_n (pc := 20) hC dX12_laysFrame_20 rfl ?_
      refine fg_X12_7_55 (pc := 21) hC dX12_laysFrame_21 ?_
      refine g_iconst (pc := 24) hC ki_5 dX12_laysFrame_24 ?_
      obtain ⟨v9, ev9, nv9, h⟩ := rd_e h
      refine g_iald (pc := 25) hC 56 (by decide) (ar_56 _ _ _) nv9 dX12_laysFrame_25 ?_
      refine g_top ev9 ?_
      refine g_icmp_gt (tgt := 104) (pc := 26) hC dX12_laysFrame_26 (by decide) (fun c10 => ?_) (fun c10 => ?_)
      · replace h := it_t c10 h
        refine g_mask [true, true, true, false] rfl ?_
        exact kx1 w4 σ6 (iter_r h hi1)
      · replace h := it_f c10 h
        refine g_aload_n (pc := 29) hC dX12_laysFrame_29 rfl ?_
        refine fg_X12_43_55 (pc := 30) hC dX12_laysFrame_30 ?_
        refine g_iload_n (pc := 33) hC dX12_laysFrame_33 rfl ?_
        obtain ⟨v11, ev11, nv11, h⟩ := rd_e h
        refine g_zald (pc := 34) hC 67 (by decide) (ar_67 _ _ _) nv11 dX12_laysFrame_34 ?_
        refine g_top ev11 ?_
        have hJ98 : ∀ (v21 : Int32) (σ22 : uS), J_X12_laysFrame_2 w5 v21 σ22 = some r1 → Gd l E K 0 0 o σ22 98 [some (.ref (E.2.1 55)), some (.int a1), some (.int v21), some (.int w5)] [] := by
          intro v21 σ22 h
          delta J_X12_laysFrame_2 at h
          obtain ⟨v23, ev23, h⟩ := lt_e h
          refine g_iinc (v := v23) (lv2 := [some (.ref (E.2.1 55)), some (.int a1), some (.int v21), some (.int v23)]) (pc := 98) hC dX12_laysFrame_98 rfl ev23 rfl (Or.inr rfl) (hN _ (by decide)) ?_
          refine g_goto (tgt := 19) (pc := 101) hC dX12_laysFrame_101 (by decide) ?_
          exact ih1 v21 v23 σ22 z1 (iter_l h hi1) kx1
        refine g_if_eq (tgt := 98) (pc := 35) hC dX12_laysFrame_35 (by decide) (fun c12 => ?_) (fun c12 => ?_)
        · replace h := it_t c12 h
          exact hJ98 w4 σ6 h
        · replace h := it_f c12 h
          refine g_aload_n (pc := 38) hC dX12_laysFrame_38 rfl ?_
          refine g_iload_n (pc := 39) hC dX12_laysFrame_39 rfl ?_
          obtain ⟨v13, hc, h⟩ := cp_e h
          refine g_callVi (pc := 40) (As := [.int w5]) (rest := []) hC (c_X12_aheadOf l E w5 σ6 v13 hc) mi_X12_aheadOf mv_X12_aheadOf ob_55 rfl rfl lk_X12_186 rfl rfl (Nat.le_of_ble_eq_true rfl) ⟨by decide, by decide⟩ hab dX12_laysFrame_40 ?_
          refine g_aload_n (pc := 43) hC dX12_laysFrame_43 rfl ?_
          refine fg_X12_7_55 (pc := 44) hC dX12_laysFrame_44 ?_
          refine g_bipush (pc := 47) hC kb_7 dX12_laysFrame_47 ?_
          obtain ⟨v14, ev14, nv14, h⟩ := rd_e h
          refine g_iald (pc := 49) hC 56 (by decide) (ar_56 _ _ _) nv14 dX12_laysFrame_49 ?_
          refine g_top ev14 ?_
          refine g_icmp_lt (tgt := 56) (pc := 50) hC dX12_laysFrame_50 (by decide) (fun c15 => ?_) (fun c15 => ?_)
          · replace h := it_t c15 h
            refine g_aload_n (pc := 56) hC dX12_laysFrame_56 rfl ?_
            refine fg_X12_34_55 (pc := 57) hC dX12_laysFrame_57 ?_
            refine g_bipush (pc := 60) hC kb_6 dX12_laysFrame_60 ?_
            refine g_iload_n (pc := 62) hC dX12_laysFrame_62 rfl ?_
            refine g_imul (pc := 63) hC dX12_laysFrame_63 ?_
            refine g_iload_n (pc := 64) hC dX12_laysFrame_64 rfl ?_
            refine g_iadd (pc := 65) hC dX12_laysFrame_65 ?_
            refine g_iload_n (pc := 66) hC dX12_laysFrame_66 rfl ?_
            obtain ⟨σ16, eσ16, nσ16, h⟩ := wr_e h
            refine g_iast (pc := 67) hC 64 (by decide) (ar_64 _ _) nσ16 dX12_laysFrame_67 eσ16 ?_
            refine g_aload_n (pc := 68) hC dX12_laysFrame_68 rfl ?_
            refine fg_X12_37_55 (pc := 69) hC dX12_laysFrame_69 ?_
            refine g_bipush (pc := 72) hC kb_6 dX12_laysFrame_72 ?_
            refine g_iload_n (pc := 74) hC dX12_laysFrame_74 rfl ?_
            refine g_imul (pc := 75) hC dX12_laysFrame_75 ?_
            refine g_iload_n (pc := 76) hC dX12_laysFrame_76 rfl ?_
            refine g_iadd (pc := 77) hC dX12_laysFrame_77 ?_
            refine g_aload_n (pc := 78) hC dX12_laysFrame_78 rfl ?_
            refine fg_X12_31_55 (pc := 79) hC dX12_laysFrame_79 ?_
            refine g_iload_n (pc := 82) hC dX12_laysFrame_82 rfl ?_
            obtain ⟨v17, ev17, nv17, h⟩ := rd_e h
            refine g_iald (pc := 83) hC 63 (by decide) (ar_63 _ _ _) nv17 dX12_laysFrame_83 ?_
            refine g_top ev17 ?_
            refine g_aload_n (pc := 84) hC dX12_laysFrame_84 rfl ?_
            refine fg_X12_7_55 (pc := 85) hC dX12_laysFrame_85 ?_
            refine g_bipush (pc := 88) hC kb_8 dX12_laysFrame_88 ?_
            obtain ⟨v18, ev18, nv18, h⟩ := rd_e h
            refine g_iald (pc := 90) hC 56 (by decide) (ar_56 _ _ _) nv18 dX12_laysFrame_90 ?_
            refine g_top ev18 ?_
            refine g_iload_n (pc := 91) hC dX12_laysFrame_91 rfl ?_
            refine g_imul (pc := 92) hC dX12_laysFrame_92 ?_
            refine g_iadd (pc := 93) hC dX12_laysFrame_93 ?_
            obtain ⟨σ19, eσ19, nσ19, h⟩ := wr_e h
            refine g_iast (pc := 94) hC 65 (by decide) (ar_65 _ _) nσ19 dX12_laysFrame_94 eσ19 ?_
            obtain ⟨v20, ev20, h⟩ := lt_e h
            refine g_iinc (v := v20) (lv2 := [some (.ref (E.2.1 55)), some (.int a1), some (.int v20), some (.int w5)]) (pc := 95) hC dX12_laysFrame_95 rfl ev20 rfl (Or.inr rfl) (hN _ (by decide)) ?_
            exact hJ98 v20 σ19 h
          · replace h := it_f c15 h
            refine g_goto (tgt := 98) (pc := 53) hC dX12_laysFrame_53 (by decide) ?_
            exact hJ98 w4 σ6 h
  obtain ⟨z1, hz1, h⟩ := lp_e h
  refine hL1 FU 0 v3 σ2 z1 hz1 (fun v7 σ8 ez => ?_)
  replace h : C_X12_laysFrame_4 a1 v7 σ8 = some σr := by rw [ez] at h; exact h
  delta C_X12_laysFrame_4 at h
  refine g_aload_n (pc := 104) hC dX12_laysFrame_104 rfl ?_
  refine fg_X12_34_55 (pc := 105) hC dX12_laysFrame_105 ?_
  refine g_bipush (pc := 108) hC kb_6 dX12_laysFrame_108 ?_
  refine g_iload_n (pc := 110) hC dX12_laysFrame_110 rfl ?_
  refine g_imul (pc := 111) hC dX12_laysFrame_111 ?_
  refine g_iload_n (pc := 112) hC dX12_laysFrame_112 rfl ?_
  refine g_iadd (pc := 113) hC dX12_laysFrame_113 ?_
  refine g_iconst (pc := 114) hC ki_0 dX12_laysFrame_114 ?_
  obtain ⟨σ24, eσ24, nσ24, h⟩ := wr_e h
  refine g_iast (pc := 115) hC 64 (by decide) (ar_64 _ _) nσ24 dX12_laysFrame_115 eσ24 ?_
  refine g_aload_n (pc := 116) hC dX12_laysFrame_116 rfl ?_
  refine fg_X12_37_55 (pc := 117) hC dX12_laysFrame_117 ?_
  refine g_bipush (pc := 120) hC kb_6 dX12_laysFrame_120 ?_
  refine g_iload_n (pc := 122) hC dX12_laysFrame_122 rfl ?_
  refine g_imul (pc := 123) hC dX12_laysFrame_123 ?_
  refine g_iload_n (pc := 124) hC dX12_laysFrame_124 rfl ?_
  refine g_iadd (pc := 125) hC dX12_laysFrame_125 ?_
  refine g_aload_n (pc := 126) hC dX12_laysFrame_126 rfl ?_
  refine fg_X12_7_55 (pc := 127) hC dX12_laysFrame_127 ?_
  refine g_bipush (pc := 130) hC kb_9 dX12_laysFrame_130 ?_
  obtain ⟨v25, ev25, nv25, h⟩ := rd_e h
  refine g_iald (pc := 132) hC 56 (by decide) (ar_56 _ _ _) nv25 dX12_laysFrame_132 ?_
  refine g_top ev25 ?_
  obtain ⟨σ26, eσ26, nσ26, h⟩ := wr_e h
  refine g_iast (pc := 133) hC 65 (by decide) (ar_65 _ _) nσ26 dX12_laysFrame_133 eσ26 ?_
  refine g_aload_n (pc := 134) hC dX12_laysFrame_134 rfl ?_
  refine fg_X12_40_55 (pc := 135) hC dX12_laysFrame_135 ?_
  refine g_iload_n (pc := 138) hC dX12_laysFrame_138 rfl ?_
  refine g_iload_n (pc := 139) hC dX12_laysFrame_139 rfl ?_
  refine g_iconst (pc := 140) hC ki_1 dX12_laysFrame_140 ?_
  refine g_iadd (pc := 141) hC dX12_laysFrame_141 ?_
  obtain ⟨σ27, eσ27, nσ27, h⟩ := wr_e h
  refine g_iast (pc := 142) hC 66 (by decide) (ar_66 _ _) nσ27 dX12_laysFrame_142 eσ27 ?_
  exact g_retv (pc := 143) hC h hR dX12_laysFrame_143
set_option maxRecDepth 20000 in
theorem c_X12_laysAll (l : Launch) (E : uE) (σ : uS) (σr : uS) (h : F_X12_laysAll σ = some σr) : CtV l E yX12_laysAll cX12_laysAll 2 4 90 [.ref (E.2.1 55)] σ σr := by
  refine enterV 1 [some (.ref (E.2.1 55)), none] (by decide +kernel) rfl (Nat.le_of_ble_eq_true rfl) (fun o K hnL hC hab hR => ?_)
  have hC : Cx E K RX12 cX12_laysAll none 4 90 := hC
  have hN : ∀ k, k < 2 → k < K.2.2.2.2.2 := fun k hk => hnL ▸ hk
  delta F_X12_laysAll at h
  refine g_aload_n (pc := 0) hC dX12_laysAll_0 rfl ?_
  refine g_aload_n (pc := 1) hC dX12_laysAll_1 rfl ?_
  obtain ⟨v1, hc, h⟩ := cp_e h
  refine g_callVi (pc := 2) (As := []) (rest := [.ref (E.2.1 55)]) hC (c_X12_frames l E σ v1 hc) mi_X12_frames mv_X12_frames ob_55 rfl rfl lk_X12_156 rfl rfl (Nat.le_of_ble_eq_true rfl) ⟨by decide, by decide⟩ hab dX12_laysAll_2 ?_
  obtain ⟨σ2, eσ2, h⟩ := pf_e h
  refine fp_X12_189_55 (pc := 5) hC dX12_laysAll_5 eσ2 ?_
  refine g_iconst (pc := 8) hC ki_0 dX12_laysAll_8 ?_
  refine g_istore_n (lv2 := [some (.ref (E.2.1 55)), some (.int 0)]) (pc := 9) hC dX12_laysAll_9 rfl (Or.inr rfl) (hN _ (by decide)) ?_
  have hL1 : ∀ (n : Nat) (w3 : Int32) (σ4 : uS) (z1 : uS), iter n (fun z => B_X12_laysAll_2 z.1 z.2) (w3, σ4) = some z1 → (∀ (σ5 : uS), z1 = σ5 → Gd l E K 0 0 o σ5 29 [none, none] []) → Gd l E K 0 0 o σ4 10 [some (.ref (E.2.1 55)), some (.int w3)] [] := by
    intro n
    induction n with
    | zero =>
      intro w3 σ4 z1 hi
      exact (iter_0 hi).elim
    | succ n ih1 =>
      intro w3 σ4 z1 hi1 kx1
      obtain ⟨r1, h, hi1⟩ := iter_s hi1
      replace h : B_X12_laysAll_2 w3 σ4 = some r1 := h
      delta B_X12_laysAll_2 at h
      refine g_iload_n (pc := 10) hC dX12_laysAll_10 rfl ?_
      refine g_aload_n (pc := 11) hC dX12_laysAll_11 rfl ?_
      refine fg_X12_189_55 (pc := 12) hC dX12_laysAll_12 ?_
      refine g_icmp_ge (tgt := 29) (pc := 15) hC dX12_laysAll_15 (by decide) (fun c6 => ?_) (fun c6 => ?_)
      · replace h := it_t c6 h
        refine g_mask [false, false] rfl ?_
        exact kx1 σ4 (iter_r h hi1)
      · replace h := it_f c6 h
        refine g_aload_n (pc := 18) hC dX12_laysAll_18 rfl ?_
        refine g_iload_n (pc := 19) hC dX12_laysAll_19 rfl ?_
        obtain ⟨σ7, hc, h⟩ := cp_e h
        refine g_callVv (pc := 20) (As := [.int w3]) (rest := []) hC (c_X12_laysFrame l E w3 σ4 σ7 hc) mi_X12_laysFrame mv_X12_laysFrame ob_55 rfl rfl lk_X12_192 rfl rfl (Nat.le_of_ble_eq_true rfl) ⟨by decide, by decide⟩ hab dX12_laysAll_20 ?_
        obtain ⟨v8, ev8, h⟩ := lt_e h
        refine g_iinc (v := v8) (lv2 := [some (.ref (E.2.1 55)), some (.int v8)]) (pc := 23) hC dX12_laysAll_23 rfl ev8 rfl (Or.inr rfl) (hN _ (by decide)) ?_
        refine g_goto (tgt := 10) (pc := 26) hC dX12_laysAll_26 (by decide) ?_
        exact ih1 v8 σ7 z1 (iter_l h hi1) kx1
  obtain ⟨z1, hz1, h⟩ := lp_e h
  refine hL1 FU 0 σ2 z1 hz1 (fun σ5 ez => ?_)
  replace h : C_X12_laysAll_3 σ5 = some σr := by rw [ez] at h; exact h
  delta C_X12_laysAll_3 at h
  exact g_retv (pc := 29) hC h hR dX12_laysAll_29
set_option maxRecDepth 20000 in
theorem c_X12_lagAt1 (l : Launch) (E : uE) (a1 : Int32) (a2 : Int32) (σ : uS) (r : Int32) (h : F_X12_lagAt1 a1 a2 σ = some r) : CtI l E yX12_lagAt1 cX12_lagAt1 3 (some .int) 0 0 [.ref (E.2.1 55), .int a1, .int a2] σ r σ := by
  refine enterI 0 [some (.ref (E.2.1 55)), some (.int a1), some (.int a2)] (by decide +kernel) rfl (Nat.le_of_ble_eq_true rfl) (fun o K hnL hC hab hR => ?_)
  have hC : Cx E K RX12 cX12_lagAt1 (some .int) 0 0 := hC
  have hN : ∀ k, k < 3 → k < K.2.2.2.2.2 := fun k hk => hnL ▸ hk
  delta F_X12_lagAt1 at h
  refine g_aload_n (pc := 0) hC dX12_lagAt1_0 rfl ?_
  refine fg_X12_34_55 (pc := 1) hC dX12_lagAt1_1 ?_
  refine g_bipush (pc := 4) hC kb_6 dX12_lagAt1_4 ?_
  refine g_iload_n (pc := 6) hC dX12_lagAt1_6 rfl ?_
  refine g_imul (pc := 7) hC dX12_lagAt1_7 ?_
  refine g_iload_n (pc := 8) hC dX12_lagAt1_8 rfl ?_
  refine g_iadd (pc := 9) hC dX12_lagAt1_9 ?_
  obtain ⟨v1, ev1, nv1, h⟩ := rd_e h
  refine g_iald (pc := 10) hC 64 (by decide) (ar_64 _ _ _) nv1 dX12_lagAt1_10 ?_
  refine g_top ev1 ?_
  exact g_retp (pc := 11) hC h hR dX12_lagAt1_11
set_option maxRecDepth 20000 in
theorem c_X12_ownAt (l : Launch) (E : uE) (a1 : Int32) (a2 : Int32) (σ : uS) (r : Int32) (h : F_X12_ownAt a1 a2 σ = some r) : CtI l E yX12_ownAt cX12_ownAt 3 (some .int) 0 0 [.ref (E.2.1 55), .int a1, .int a2] σ r σ := by
  refine enterI 0 [some (.ref (E.2.1 55)), some (.int a1), some (.int a2)] (by decide +kernel) rfl (Nat.le_of_ble_eq_true rfl) (fun o K hnL hC hab hR => ?_)
  have hC : Cx E K RX12 cX12_ownAt (some .int) 0 0 := hC
  have hN : ∀ k, k < 3 → k < K.2.2.2.2.2 := fun k hk => hnL ▸ hk
  delta F_X12_ownAt at h
  refine g_aload_n (pc := 0) hC dX12_ownAt_0 rfl ?_
  refine fg_X12_37_55 (pc := 1) hC dX12_ownAt_1 ?_
  refine g_bipush (pc := 4) hC kb_6 dX12_ownAt_4 ?_
  refine g_iload_n (pc := 6) hC dX12_ownAt_6 rfl ?_
  refine g_imul (pc := 7) hC dX12_ownAt_7 ?_
  refine g_iload_n (pc := 8) hC dX12_ownAt_8 rfl ?_
  refine g_iadd (pc := 9) hC dX12_ownAt_9 ?_
  obtain ⟨v1, ev1, nv1, h⟩ := rd_e h
  refine g_iald (pc := 10) hC 65 (by decide) (ar_65 _ _ _) nv1 dX12_ownAt_10 ?_
  refine g_top ev1 ?_
  exact g_retp (pc := 11) hC h hR dX12_ownAt_11
set_option maxRecDepth 20000 in
theorem c_X12_doubleOf (l : Launch) (E : uE) (a1 : Int32) (a2 : Int32) (σ : uS) (r : Int32) (h : F_X12_doubleOf a1 a2 σ = some r) : CtI l E yX12_doubleOf cX12_doubleOf 6 (some .int) 1 22 [.ref (E.2.1 55), .int a1, .int a2] σ r σ := by
  refine enterI 3 [some (.ref (E.2.1 55)), some (.int a1), some (.int a2), none, none, none] (by decide +kernel) rfl (Nat.le_of_ble_eq_true rfl) (fun o K hnL hC hab hR => ?_)
  have hC : Cx E K RX12 cX12_doubleOf (some .int) 1 22 := hC
  have hN : ∀ k, k < 6 → k < K.2.2.2.2.2 := fun k hk => hnL ▸ hk
  delta F_X12_doubleOf at h
  refine g_aload_n (pc := 0) hC dX12_doubleOf_0 rfl ?_
  refine g_iload_n (pc := 1) hC dX12_doubleOf_1 rfl ?_
  refine g_iload_n (pc := 2) hC dX12_doubleOf_2 rfl ?_
  obtain ⟨v1, hc, h⟩ := cp_e h
  refine g_callVi (pc := 3) (As := [.int a1, .int a2]) (rest := []) hC (c_X12_lagAt1 l E a1 a2 σ v1 hc) mi_X12_lagAt1 mv_X12_lagAt1 ob_55 rfl rfl lk_X12_195 rfl rfl (Nat.le_of_ble_eq_true rfl) ⟨by decide, by decide⟩ hab dX12_doubleOf_3 ?_
  refine g_istore_n (lv2 := [some (.ref (E.2.1 55)), some (.int a1), some (.int a2), some (.int v1), none, none]) (pc := 6) hC dX12_doubleOf_6 rfl (Or.inr rfl) (hN _ (by decide)) ?_
  refine g_iload_n (pc := 7) hC dX12_doubleOf_7 rfl ?_
  refine g_if_ne (tgt := 13) (pc := 8) hC dX12_doubleOf_8 (by decide) (fun c2 => ?_) (fun c2 => ?_)
  · replace h := it_f c2 h
    refine g_iconst (pc := 13) hC ki_0 dX12_doubleOf_13 ?_
    refine g_istore (lv2 := [some (.ref (E.2.1 55)), some (.int a1), some (.int a2), some (.int v1), some (.int 0), none]) (pc := 14) hC dX12_doubleOf_14 rfl (Or.inr rfl) (hN _ (by decide)) ?_
    have hL1 : ∀ (n : Nat) (w3 : Int32) (z1 : (Unit) ⊕ (Int32)), iter n (fun z => B_X12_doubleOf_3 a1 a2 v1 σ z) w3 = some z1 → (z1 = .inl () → Gd l E K 0 0 o σ 68 [none, none, none, none, none, none] []) → (∀ q, z1 = .inr q → some q = some r) → Gd l E K 0 0 o σ 16 [some (.ref (E.2.1 55)), some (.int a1), some (.int a2), some (.int v1), some (.int w3), none] [] := by
      intro n
      induction n with
      | zero =>
        intro w3 z1 hi
        exact (iter_0 hi).elim
      | succ n ih1 =>
        intro w3 z1 hi1 kx1 kr1
        obtain ⟨r1, h, hi1⟩ := iter_s hi1
        replace h : B_X12_doubleOf_3 a1 a2 v1 σ w3 = some r1 := h
        delta B_X12_doubleOf_3 at h
        refine g_iload (pc := 16) hC dX12_doubleOf_16 rfl ?_
        refine g_aload_n (pc := 18) hC dX12_doubleOf_18 rfl ?_
        refine fg_X12_40_55 (pc := 19) hC dX12_doubleOf_19 ?_
        refine g_iload_n (pc := 22) hC dX12_doubleOf_22 rfl ?_
        obtain ⟨v4, ev4, nv4, h⟩ := rd_e h
        refine g_iald (pc := 23) hC 66 (by decide) (ar_66 _ _ _) nv4 dX12_doubleOf_23 ?_
        refine g_top ev4 ?_
        refine g_icmp_ge (tgt := 68) (pc := 24) hC dX12_doubleOf_24 (by decide) (fun c5 => ?_) (fun c5 => ?_)
        · replace h := it_t c5 h
          refine g_mask [false, false, false, false, false, false] rfl ?_
          exact kx1 (iter_r h hi1)
        · replace h := it_f c5 h
          refine g_aload_n (pc := 27) hC dX12_doubleOf_27 rfl ?_
          refine g_iload_n (pc := 28) hC dX12_doubleOf_28 rfl ?_
          refine g_iload (pc := 29) hC dX12_doubleOf_29 rfl ?_
          obtain ⟨v6, hc, h⟩ := cp_e h
          refine g_callVi (pc := 31) (As := [.int a1, .int w3]) (rest := []) hC (c_X12_lagAt1 l E a1 w3 σ v6 hc) mi_X12_lagAt1 mv_X12_lagAt1 ob_55 rfl rfl lk_X12_195 rfl rfl (Nat.le_of_ble_eq_true rfl) ⟨by decide, by decide⟩ hab dX12_doubleOf_31 ?_
          refine g_istore (lv2 := [some (.ref (E.2.1 55)), some (.int a1), some (.int a2), some (.int v1), some (.int w3), some (.int v6)]) (pc := 34) hC dX12_doubleOf_34 rfl (Or.inr rfl) (hN _ (by decide)) ?_
          refine g_iload (pc := 36) hC dX12_doubleOf_36 rfl ?_
          refine g_iload_n (pc := 38) hC dX12_doubleOf_38 rfl ?_
          have hJ62 : J_X12_doubleOf_2 w3 = some r1 → Gd l E K 0 0 o σ 62 [some (.ref (E.2.1 55)), some (.int a1), some (.int a2), some (.int v1), some (.int w3), none] [] := by
            intro h
            delta J_X12_doubleOf_2 at h
            obtain ⟨v11, ev11, h⟩ := lt_e h
            refine g_iinc (v := v11) (lv2 := [some (.ref (E.2.1 55)), some (.int a1), some (.int a2), some (.int v1), some (.int v11), none]) (pc := 62) hC dX12_doubleOf_62 rfl ev11 rfl (Or.inr rfl) (hN _ (by decide)) ?_
            refine g_goto (tgt := 16) (pc := 65) hC dX12_doubleOf_65 (by decide) ?_
            exact ih1 v11 z1 (iter_l h hi1) kx1 kr1
          refine g_icmp_eq (tgt := 62) (pc := 39) hC dX12_doubleOf_39 (by decide) (fun c7 => ?_) (fun c7 => ?_)
          · replace h := it_t c7 h
            refine g_mask [true, true, true, true, true, false] rfl ?_
            exact hJ62 h
          · replace h := it_f c7 h
            refine g_iload (pc := 42) hC dX12_doubleOf_42 rfl ?_
            refine g_if_le (tgt := 62) (pc := 44) hC dX12_doubleOf_44 (by decide) (fun c8 => ?_) (fun c8 => ?_)
            · replace h := it_t c8 h
              refine g_mask [true, true, true, true, true, false] rfl ?_
              exact hJ62 h
            · replace h := it_f c8 h
              refine g_iload_n (pc := 47) hC dX12_doubleOf_47 rfl ?_
              refine g_iconst (pc := 48) hC ki_2 dX12_doubleOf_48 ?_
              refine g_iload (pc := 49) hC dX12_doubleOf_49 rfl ?_
              refine g_imul (pc := 51) hC dX12_doubleOf_51 ?_
              obtain ⟨v9, hc, h⟩ := cp_e h
              refine g_callSi (pc := 52) (As := [.int v1, .int (2 * v6)]) (rest := []) hC (c_X12_apart l E v1 (2 * v6) σ v9 hc) mi_X12_apart ms_X12_apart lk_X12_163 rfl rfl (Nat.le_of_ble_eq_true rfl) ⟨by decide, by decide⟩ hab dX12_doubleOf_52 ?_
              refine g_iconst (pc := 55) hC ki_1 dX12_doubleOf_55 ?_
              refine g_icmp_gt (tgt := 62) (pc := 56) hC dX12_doubleOf_56 (by decide) (fun c10 => ?_) (fun c10 => ?_)
              · replace h := it_t c10 h
                refine g_mask [true, true, true, true, true, false] rfl ?_
                exact hJ62 h
              · replace h := it_f c10 h
                refine g_iload (pc := 59) hC dX12_doubleOf_59 rfl ?_
                exact g_retp (pc := 61) hC (kr1 _ (iter_r h hi1)) hR dX12_doubleOf_61
    obtain ⟨z1, hz1, h⟩ := lp_e h
    refine hL1 FU 0 z1 hz1 (fun ez => ?_) (fun q ez => by rw [ez] at h; exact h)
    replace h : C_X12_doubleOf_4 = some r := by rw [ez] at h; exact h
    delta C_X12_doubleOf_4 at h
    refine g_iconst (pc := 68) hC ki_m1 dX12_doubleOf_68 ?_
    exact g_retp (pc := 69) hC h hR dX12_doubleOf_69
  · replace h := it_t c2 h
    refine g_iconst (pc := 11) hC ki_m1 dX12_doubleOf_11 ?_
    exact g_retp (pc := 12) hC h hR dX12_doubleOf_12
set_option maxRecDepth 20000 in
theorem c_X12_candidates (l : Launch) (E : uE) (a1 : Int32) (σ : uS) (r : Int32) (σr : uS) (h : F_X12_candidates a1 σ = some (r, σr)) : CtI l E yX12_candidates cX12_candidates 2 (some .int) 4 90 [.ref (E.2.1 55), .int a1] σ r σr := by
  refine enterI 0 [some (.ref (E.2.1 55)), some (.int a1)] (by decide +kernel) rfl (Nat.le_of_ble_eq_true rfl) (fun o K hnL hC hab hR => ?_)
  have hC : Cx E K RX12 cX12_candidates (some .int) 4 90 := hC
  have hN : ∀ k, k < 2 → k < K.2.2.2.2.2 := fun k hk => hnL ▸ hk
  delta F_X12_candidates at h
  refine g_aload_n (pc := 0) hC dX12_candidates_0 rfl ?_
  refine g_iconst (pc := 1) hC ki_0 dX12_candidates_1 ?_
  obtain ⟨σ1, eσ1, h⟩ := pf_e h
  refine fp_X12_119_55 (pc := 2) hC dX12_candidates_2 eσ1 ?_
  refine g_aload_n (pc := 5) hC dX12_candidates_5 rfl ?_
  refine g_iload_n (pc := 6) hC dX12_candidates_6 rfl ?_
  obtain ⟨v3, σ2, hc, h⟩ := cl_e h
  refine g_callVi (pc := 7) (As := [.int a1]) (rest := []) hC (c_X12_isFrame l E a1 σ1 v3 σ2 hc) mi_X12_isFrame mv_X12_isFrame ob_55 rfl rfl lk_X12_167 rfl rfl (Nat.le_of_ble_eq_true rfl) ⟨by decide, by decide⟩ hab dX12_candidates_7 ?_
  refine g_if_ne (tgt := 15) (pc := 10) hC dX12_candidates_10 (by decide) (fun c4 => ?_) (fun c4 => ?_)
  · replace h := it_f c4 h
    refine g_aload_n (pc := 15) hC dX12_candidates_15 rfl ?_
    refine g_iload_n (pc := 16) hC dX12_candidates_16 rfl ?_
    obtain ⟨σ5, hc, h⟩ := cp_e h
    refine g_callVv (pc := 17) (As := [.int a1]) (rest := []) hC (c_X12_laysFrame l E a1 σ2 σ5 hc) mi_X12_laysFrame mv_X12_laysFrame ob_55 rfl rfl lk_X12_192 rfl rfl (Nat.le_of_ble_eq_true rfl) ⟨by decide, by decide⟩ hab dX12_candidates_17 ?_
    refine g_aload_n (pc := 20) hC dX12_candidates_20 rfl ?_
    refine fg_X12_40_55 (pc := 21) hC dX12_candidates_21 ?_
    refine g_iload_n (pc := 24) hC dX12_candidates_24 rfl ?_
    obtain ⟨v6, ev6, nv6, h⟩ := rd_e h
    refine g_iald (pc := 25) hC 66 (by decide) (ar_66 _ _ _) nv6 dX12_candidates_25 ?_
    refine g_top ev6 ?_
    exact g_ret (pc := 26) hC h hR dX12_candidates_26
  · replace h := it_t c4 h
    refine g_iconst (pc := 13) hC ki_0 dX12_candidates_13 ?_
    exact g_ret (pc := 14) hC h hR dX12_candidates_14
set_option maxRecDepth 20000 in
theorem c_X12_isCandidate (l : Launch) (E : uE) (a1 : Int32) (a2 : Int32) (σ : uS) (r : Int32) (σr : uS) (h : F_X12_isCandidate a1 a2 σ = some (r, σr)) : CtI l E yX12_isCandidate cX12_isCandidate 3 (some .boolean) 4 90 [.ref (E.2.1 55), .int a1, .int a2] σ r σr := by
  refine enterI 0 [some (.ref (E.2.1 55)), some (.int a1), some (.int a2)] (by decide +kernel) rfl (Nat.le_of_ble_eq_true rfl) (fun o K hnL hC hab hR => ?_)
  have hC : Cx E K RX12 cX12_isCandidate (some .boolean) 4 90 := hC
  have hN : ∀ k, k < 3 → k < K.2.2.2.2.2 := fun k hk => hnL ▸ hk
  delta F_X12_isCandidate at h
  refine g_aload_n (pc := 0) hC dX12_isCandidate_0 rfl ?_
  refine g_iload_n (pc := 1) hC dX12_isCandidate_1 rfl ?_
  obtain ⟨v2, σ1, hc, h⟩ := cl_e h
  refine g_callVi (pc := 2) (As := [.int a1]) (rest := []) hC (c_X12_isFrame l E a1 σ v2 σ1 hc) mi_X12_isFrame mv_X12_isFrame ob_55 rfl rfl lk_X12_167 rfl rfl (Nat.le_of_ble_eq_true rfl) ⟨by decide, by decide⟩ hab dX12_isCandidate_2 ?_
  refine g_if_ne (tgt := 10) (pc := 5) hC dX12_isCandidate_5 (by decide) (fun c3 => ?_) (fun c3 => ?_)
  · replace h := it_f c3 h
    refine g_aload_n (pc := 10) hC dX12_isCandidate_10 rfl ?_
    refine g_iload_n (pc := 11) hC dX12_isCandidate_11 rfl ?_
    obtain ⟨σ4, hc, h⟩ := cp_e h
    refine g_callVv (pc := 12) (As := [.int a1]) (rest := []) hC (c_X12_laysFrame l E a1 σ1 σ4 hc) mi_X12_laysFrame mv_X12_laysFrame ob_55 rfl rfl lk_X12_192 rfl rfl (Nat.le_of_ble_eq_true rfl) ⟨by decide, by decide⟩ hab dX12_isCandidate_12 ?_
    refine g_aload_n (pc := 15) hC dX12_isCandidate_15 rfl ?_
    refine g_iload_n (pc := 16) hC dX12_isCandidate_16 rfl ?_
    refine g_iconst (pc := 17) hC ki_0 dX12_isCandidate_17 ?_
    refine g_aload_n (pc := 18) hC dX12_isCandidate_18 rfl ?_
    refine fg_X12_40_55 (pc := 19) hC dX12_isCandidate_19 ?_
    refine g_iload_n (pc := 22) hC dX12_isCandidate_22 rfl ?_
    obtain ⟨v5, ev5, nv5, h⟩ := rd_e h
    refine g_iald (pc := 23) hC 66 (by decide) (ar_66 _ _ _) nv5 dX12_isCandidate_23 ?_
    refine g_top ev5 ?_
    refine g_iconst (pc := 24) hC ki_1 dX12_isCandidate_24 ?_
    refine g_isub (pc := 25) hC dX12_isCandidate_25 ?_
    obtain ⟨v6, hc, h⟩ := cp_e h
    refine g_callSi (pc := 26) (As := [.int a2, .int 0, .int (v5 - 1)]) (rest := [.ref (E.2.1 55)]) hC (c_X12_isIn l E a2 0 (v5 - 1) σ4 v6 hc) mi_X12_isIn ms_X12_isIn lk_X12_133 rfl rfl (Nat.le_of_ble_eq_true rfl) ⟨by decide, by decide⟩ hab dX12_isCandidate_26 ?_
    refine g_iconst (pc := 29) hC ki_1 dX12_isCandidate_29 ?_
    obtain ⟨v8, σ7, hc, h⟩ := cl_e h
    refine g_callVi (pc := 30) (As := [.int v6, .int 1]) (rest := []) hC (c_X12_right l E v6 1 σ4 v8 σ7 hc) mi_X12_right mv_X12_right ob_55 rfl rfl lk_X12_148 rfl rfl (Nat.le_of_ble_eq_true rfl) ⟨by decide, by decide⟩ hab dX12_isCandidate_30 ?_
    obtain ⟨h01, h⟩ := bz_e h
    exact g_retz (pc := 33) hC h01 h hR dX12_isCandidate_33
  · replace h := it_t c3 h
    refine g_iconst (pc := 8) hC ki_0 dX12_isCandidate_8 ?_
    exact g_retz (pc := 9) hC (Or.inl rfl) h hR dX12_isCandidate_9
set_option maxRecDepth 20000 in
theorem c_X12_candidate (l : Launch) (E : uE) (a1 : Int32) (a2 : Int32) (a3 : Int32) (σ : uS) (r : Int32) (σr : uS) (h : F_X12_candidate a1 a2 a3 σ = some (r, σr)) : CtI l E yX12_candidate cX12_candidate 6 (some .int) 5 112 [.ref (E.2.1 55), .int a1, .int a2, .int a3] σ r σr := by
  refine enterI 2 [some (.ref (E.2.1 55)), some (.int a1), some (.int a2), some (.int a3), none, none] (by decide +kernel) rfl (Nat.le_of_ble_eq_true rfl) (fun o K hnL hC hab hR => ?_)
  have hC : Cx E K RX12 cX12_candidate (some .int) 5 112 := hC
  have hN : ∀ k, k < 6 → k < K.2.2.2.2.2 := fun k hk => hnL ▸ hk
  delta F_X12_candidate at h
  refine g_aload_n (pc := 0) hC dX12_candidate_0 rfl ?_
  refine g_iconst (pc := 1) hC ki_0 dX12_candidate_1 ?_
  obtain ⟨σ1, eσ1, h⟩ := pf_e h
  refine fp_X12_119_55 (pc := 2) hC dX12_candidate_2 eσ1 ?_
  refine g_aload_n (pc := 5) hC dX12_candidate_5 rfl ?_
  refine g_iload_n (pc := 6) hC dX12_candidate_6 rfl ?_
  refine g_iload_n (pc := 7) hC dX12_candidate_7 rfl ?_
  obtain ⟨v3, σ2, hc, h⟩ := cl_e h
  refine g_callVi (pc := 8) (As := [.int a1, .int a2]) (rest := []) hC (c_X12_isCandidate l E a1 a2 σ1 v3 σ2 hc) mi_X12_isCandidate mv_X12_isCandidate ob_55 rfl rfl lk_X12_198 rfl rfl (Nat.le_of_ble_eq_true rfl) ⟨by decide, by decide⟩ hab dX12_candidate_8 ?_
  have hJ28 : ∀ (σ26 : uS), J_X12_candidate_4 σ26 = some (r, σr) → Gd l E K 0 0 o σ26 28 [none, none, none, none, none, none] [] := by
    intro σ26 h
    delta J_X12_candidate_4 at h
    refine g_iconst (pc := 28) hC ki_0 dX12_candidate_28 ?_
    exact g_ret (pc := 29) hC h hR dX12_candidate_29
  refine g_if_eq (tgt := 28) (pc := 11) hC dX12_candidate_11 (by decide) (fun c4 => ?_) (fun c4 => ?_)
  · replace h := it_t c4 h
    refine g_mask [false, false, false, false, false, false] rfl ?_
    exact hJ28 σ2 h
  · replace h := it_f c4 h
    refine g_aload_n (pc := 14) hC dX12_candidate_14 rfl ?_
    refine g_iload_n (pc := 15) hC dX12_candidate_15 rfl ?_
    refine g_iconst (pc := 16) hC ki_0 dX12_candidate_16 ?_
    refine g_iconst (pc := 17) hC ki_3 dX12_candidate_17 ?_
    obtain ⟨v5, hc, h⟩ := cp_e h
    refine g_callSi (pc := 18) (As := [.int a3, .int 0, .int 3]) (rest := [.ref (E.2.1 55)]) hC (c_X12_isIn l E a3 0 3 σ2 v5 hc) mi_X12_isIn ms_X12_isIn lk_X12_133 rfl rfl (Nat.le_of_ble_eq_true rfl) ⟨by decide, by decide⟩ hab dX12_candidate_18 ?_
    refine g_iconst (pc := 21) hC ki_1 dX12_candidate_21 ?_
    obtain ⟨v7, σ6, hc, h⟩ := cl_e h
    refine g_callVi (pc := 22) (As := [.int v5, .int 1]) (rest := []) hC (c_X12_right l E v5 1 σ2 v7 σ6 hc) mi_X12_right mv_X12_right ob_55 rfl rfl lk_X12_148 rfl rfl (Nat.le_of_ble_eq_true rfl) ⟨by decide, by decide⟩ hab dX12_candidate_22 ?_
    refine g_if_ne (tgt := 30) (pc := 25) hC dX12_candidate_25 (by decide) (fun c8 => ?_) (fun c8 => ?_)
    · replace h := it_f c8 h
      refine g_iload_n (pc := 30) hC dX12_candidate_30 rfl ?_
      by_cases c9 : a3 = 0
      · replace h := it_t c9 h
        refine g_tabIn (tgt := 56) (off := 25) (pc := 31) hC dX12_candidate_31 (by rw [c9]; decide) (by rw [c9]; decide) (by rw [c9]; rfl) (by decide) ?_
        refine g_aload_n (pc := 56) hC dX12_candidate_56 rfl ?_
        refine g_iload_n (pc := 57) hC dX12_candidate_57 rfl ?_
        refine g_iload_n (pc := 58) hC dX12_candidate_58 rfl ?_
        obtain ⟨v10, hc, h⟩ := cp_e h
        refine g_callVi (pc := 59) (As := [.int a1, .int a2]) (rest := []) hC (c_X12_lagAt1 l E a1 a2 σ6 v10 hc) mi_X12_lagAt1 mv_X12_lagAt1 ob_55 rfl rfl lk_X12_195 rfl rfl (Nat.le_of_ble_eq_true rfl) ⟨by decide, by decide⟩ hab dX12_candidate_59 ?_
        exact g_ret (pc := 62) hC h hR dX12_candidate_62
      · replace h := it_f c9 h
        by_cases c11 : a3 = 1
        · replace h := it_t c11 h
          refine g_tabIn (tgt := 63) (off := 32) (pc := 31) hC dX12_candidate_31 (by rw [c11]; decide) (by rw [c11]; decide) (by rw [c11]; rfl) (by decide) ?_
          refine g_aload_n (pc := 63) hC dX12_candidate_63 rfl ?_
          refine g_iload_n (pc := 64) hC dX12_candidate_64 rfl ?_
          refine g_iload_n (pc := 65) hC dX12_candidate_65 rfl ?_
          obtain ⟨v12, hc, h⟩ := cp_e h
          refine g_callVi (pc := 66) (As := [.int a1, .int a2]) (rest := []) hC (c_X12_ownAt l E a1 a2 σ6 v12 hc) mi_X12_ownAt mv_X12_ownAt ob_55 rfl rfl lk_X12_201 rfl rfl (Nat.le_of_ble_eq_true rfl) ⟨by decide, by decide⟩ hab dX12_candidate_66 ?_
          exact g_ret (pc := 69) hC h hR dX12_candidate_69
        · replace h := it_f c11 h
          by_cases c13 : a3 = 2
          · replace h := it_t c13 h
            refine g_tabIn (tgt := 70) (off := 39) (pc := 31) hC dX12_candidate_31 (by rw [c13]; decide) (by rw [c13]; decide) (by rw [c13]; rfl) (by decide) ?_
            refine g_aload_n (pc := 70) hC dX12_candidate_70 rfl ?_
            refine g_iload_n (pc := 71) hC dX12_candidate_71 rfl ?_
            refine g_iload_n (pc := 72) hC dX12_candidate_72 rfl ?_
            obtain ⟨v14, hc, h⟩ := cp_e h
            refine g_callVi (pc := 73) (As := [.int a1, .int a2]) (rest := []) hC (c_X12_doubleOf l E a1 a2 σ6 v14 hc) mi_X12_doubleOf mv_X12_doubleOf ob_55 rfl rfl lk_X12_204 rfl rfl (Nat.le_of_ble_eq_true rfl) ⟨by decide, by decide⟩ hab dX12_candidate_73 ?_
            exact g_ret (pc := 76) hC h hR dX12_candidate_76
          · replace h := it_f c13 h
            have q0 := sw_ne (n := 0) c9 rfl
            have q1 := sw_ne (n := 1) c11 rfl
            have q2 := sw_ne (n := 2) c13 rfl
            refine g_tabOut (tgt := 77) (pc := 31) hC dX12_candidate_31 (by omega) (by decide) ?_
            refine g_iconst (pc := 77) hC ki_0 dX12_candidate_77 ?_
            refine g_istore (lv2 := [some (.ref (E.2.1 55)), some (.int a1), some (.int a2), some (.int a3), some (.int 0), none]) (pc := 78) hC dX12_candidate_78 rfl (Or.inr rfl) (hN _ (by decide)) ?_
            refine g_iconst (pc := 80) hC ki_0 dX12_candidate_80 ?_
            refine g_istore (lv2 := [some (.ref (E.2.1 55)), some (.int a1), some (.int a2), some (.int a3), some (.int 0), some (.int 0)]) (pc := 81) hC dX12_candidate_81 rfl (Or.inr rfl) (hN _ (by decide)) ?_
            have hL1 : ∀ (n : Nat) (w15 : Int32) (w16 : Int32) (z1 : Int32), iter n (fun z => B_X12_candidate_2 a1 a2 σ6 z.1 z.2) (w15, w16) = some z1 → (∀ (v17 : Int32), z1 = v17 → Gd l E K 0 0 o σ6 126 [none, none, none, none, some (.int v17), none] []) → Gd l E K 0 0 o σ6 83 [some (.ref (E.2.1 55)), some (.int a1), some (.int a2), none, some (.int w15), some (.int w16)] [] := by
              intro n
              induction n with
              | zero =>
                intro w15 w16 z1 hi
                exact (iter_0 hi).elim
              | succ n ih1 =>
                intro w15 w16 z1 hi1 kx1
                obtain ⟨r1, h, hi1⟩ := iter_s hi1
                replace h : B_X12_candidate_2 a1 a2 σ6 w15 w16 = some r1 := h
                delta B_X12_candidate_2 at h
                refine g_iload (pc := 83) hC dX12_candidate_83 rfl ?_
                refine g_aload_n (pc := 85) hC dX12_candidate_85 rfl ?_
                refine fg_X12_40_55 (pc := 86) hC dX12_candidate_86 ?_
                refine g_iload_n (pc := 89) hC dX12_candidate_89 rfl ?_
                obtain ⟨v18, ev18, nv18, h⟩ := rd_e h
                refine g_iald (pc := 90) hC 66 (by decide) (ar_66 _ _ _) nv18 dX12_candidate_90 ?_
                refine g_top ev18 ?_
                refine g_icmp_ge (tgt := 126) (pc := 91) hC dX12_candidate_91 (by decide) (fun c19 => ?_) (fun c19 => ?_)
                · replace h := it_t c19 h
                  refine g_mask [false, false, false, false, true, false] rfl ?_
                  exact kx1 w15 (iter_r h hi1)
                · replace h := it_f c19 h
                  refine g_iload (pc := 94) hC dX12_candidate_94 rfl ?_
                  refine g_aload_n (pc := 96) hC dX12_candidate_96 rfl ?_
                  refine g_iload_n (pc := 97) hC dX12_candidate_97 rfl ?_
                  refine g_iload (pc := 98) hC dX12_candidate_98 rfl ?_
                  obtain ⟨v20, hc, h⟩ := cp_e h
                  refine g_callVi (pc := 100) (As := [.int a1, .int w16]) (rest := [.int w15]) hC (c_X12_ownAt l E a1 w16 σ6 v20 hc) mi_X12_ownAt mv_X12_ownAt ob_55 rfl rfl lk_X12_201 rfl rfl (Nat.le_of_ble_eq_true rfl) ⟨by decide, by decide⟩ hab dX12_candidate_100 ?_
                  refine g_aload_n (pc := 103) hC dX12_candidate_103 rfl ?_
                  refine g_iload_n (pc := 104) hC dX12_candidate_104 rfl ?_
                  refine g_iload_n (pc := 105) hC dX12_candidate_105 rfl ?_
                  obtain ⟨v21, hc, h⟩ := cp_e h
                  refine g_callVi (pc := 106) (As := [.int a1, .int a2]) (rest := [.int v20, .int w15]) hC (c_X12_ownAt l E a1 a2 σ6 v21 hc) mi_X12_ownAt mv_X12_ownAt ob_55 rfl rfl lk_X12_201 rfl rfl (Nat.le_of_ble_eq_true rfl) ⟨by decide, by decide⟩ hab dX12_candidate_106 ?_
                  obtain ⟨v23, ev23, h⟩ := lt_e h
                  have hJ117 : Gd l E K 0 0 o σ6 117 [some (.ref (E.2.1 55)), some (.int a1), some (.int a2), none, none, some (.int w16)] [.int v23, .int w15] := by
                    refine g_iadd (pc := 117) hC dX12_candidate_117 ?_
                    obtain ⟨v24, ev24, h⟩ := lt_e h
                    refine g_top ev24 ?_
                    refine g_istore (lv2 := [some (.ref (E.2.1 55)), some (.int a1), some (.int a2), none, some (.int v24), some (.int w16)]) (pc := 118) hC dX12_candidate_118 rfl (Or.inr rfl) (hN _ (by decide)) ?_
                    obtain ⟨v25, ev25, h⟩ := lt_e h
                    refine g_iinc (v := v25) (lv2 := [some (.ref (E.2.1 55)), some (.int a1), some (.int a2), none, some (.int v24), some (.int v25)]) (pc := 120) hC dX12_candidate_120 rfl ev25 rfl (Or.inr rfl) (hN _ (by decide)) ?_
                    refine g_goto (tgt := 83) (pc := 123) hC dX12_candidate_123 (by decide) ?_
                    exact ih1 v24 v25 z1 (iter_l h hi1) kx1
                  refine g_icmp_ge (tgt := 116) (pc := 109) hC dX12_candidate_109 (by decide) (fun c22 => ?_) (fun c22 => ?_)
                  · refine g_iconst (pc := 116) hC ki_0 dX12_candidate_116 ?_
                    refine g_mask [true, true, true, false, false, true] rfl ?_
                    exact g_top (iv_t c22 ev23) hJ117
                  · refine g_iconst (pc := 112) hC ki_1 dX12_candidate_112 ?_
                    refine g_goto (tgt := 117) (pc := 113) hC dX12_candidate_113 (by decide) ?_
                    refine g_mask [true, true, true, false, false, true] rfl ?_
                    exact g_top (iv_f c22 ev23) hJ117
            obtain ⟨z1, hz1, h⟩ := lp_e h
            refine g_mask [true, true, true, false, true, true] rfl ?_
            refine hL1 FU 0 0 z1 hz1 (fun v17 ez => ?_)
            replace h : C_X12_candidate_3 σ6 v17 = some (r, σr) := by rw [ez] at h; exact h
            delta C_X12_candidate_3 at h
            refine g_iload (pc := 126) hC dX12_candidate_126 rfl ?_
            exact g_ret (pc := 128) hC h hR dX12_candidate_128
    · replace h := it_t c8 h
      refine g_mask [false, false, false, false, false, false] rfl ?_
      exact hJ28 σ6 h
set_option maxRecDepth 20000 in
theorem c_X12_fine (l : Launch) (E : uE) (a1 : Int32) (a2 : Int32) (a3 : Int32) (σ : uS) (r : Int32) (σr : uS) (h : F_X12_fine a1 a2 a3 σ = some (r, σr)) : CtI l E yX12_fine cX12_fine 8 (some .int) 5 112 [.ref (E.2.1 55), .int a1, .int a2, .int a3] σ r σr := by
  refine enterI 4 [some (.ref (E.2.1 55)), some (.int a1), some (.int a2), some (.int a3), none, none, none, none] (by decide +kernel) rfl (Nat.le_of_ble_eq_true rfl) (fun o K hnL hC hab hR => ?_)
  have hC : Cx E K RX12 cX12_fine (some .int) 5 112 := hC
  have hN : ∀ k, k < 8 → k < K.2.2.2.2.2 := fun k hk => hnL ▸ hk
  delta F_X12_fine at h
  refine g_aload_n (pc := 0) hC dX12_fine_0 rfl ?_
  refine g_iconst (pc := 1) hC ki_0 dX12_fine_1 ?_
  obtain ⟨σ1, eσ1, h⟩ := pf_e h
  refine fp_X12_119_55 (pc := 2) hC dX12_fine_2 eσ1 ?_
  refine g_aload_n (pc := 5) hC dX12_fine_5 rfl ?_
  refine g_iload_n (pc := 6) hC dX12_fine_6 rfl ?_
  refine g_iload_n (pc := 7) hC dX12_fine_7 rfl ?_
  obtain ⟨v3, σ2, hc, h⟩ := cl_e h
  refine g_callVi (pc := 8) (As := [.int a1, .int a2]) (rest := []) hC (c_X12_isCandidate l E a1 a2 σ1 v3 σ2 hc) mi_X12_isCandidate mv_X12_isCandidate ob_55 rfl rfl lk_X12_198 rfl rfl (Nat.le_of_ble_eq_true rfl) ⟨by decide, by decide⟩ hab dX12_fine_8 ?_
  have hJ36 : ∀ (σ29 : uS), J_X12_fine_2 σ29 = some (r, σr) → Gd l E K 0 0 o σ29 36 [none, none, none, none, none, none, none, none] [] := by
    intro σ29 h
    delta J_X12_fine_2 at h
    refine g_iconst (pc := 36) hC ki_0 dX12_fine_36 ?_
    exact g_ret (pc := 37) hC h hR dX12_fine_37
  refine g_if_eq (tgt := 36) (pc := 11) hC dX12_fine_11 (by decide) (fun c4 => ?_) (fun c4 => ?_)
  · replace h := it_t c4 h
    refine g_mask [false, false, false, false, false, false, false, false] rfl ?_
    exact hJ36 σ2 h
  · replace h := it_f c4 h
    refine g_aload_n (pc := 14) hC dX12_fine_14 rfl ?_
    refine g_aload_n (pc := 15) hC dX12_fine_15 rfl ?_
    refine g_iload_n (pc := 16) hC dX12_fine_16 rfl ?_
    refine g_iload_n (pc := 17) hC dX12_fine_17 rfl ?_
    obtain ⟨v5, hc, h⟩ := cp_e h
    refine g_callVi (pc := 18) (As := [.int a1, .int a2]) (rest := [.ref (E.2.1 55)]) hC (c_X12_lagAt1 l E a1 a2 σ2 v5 hc) mi_X12_lagAt1 mv_X12_lagAt1 ob_55 rfl rfl lk_X12_195 rfl rfl (Nat.le_of_ble_eq_true rfl) ⟨by decide, by decide⟩ hab dX12_fine_18 ?_
    obtain ⟨v7, ev7, h⟩ := lt_e h
    have hJ29 : Gd l E K 0 0 o σ2 29 [some (.ref (E.2.1 55)), some (.int a1), some (.int a2), some (.int a3), none, none, none, none] [.int v7, .ref (E.2.1 55)] := by
      refine g_iconst (pc := 29) hC ki_1 dX12_fine_29 ?_
      obtain ⟨v9, σ8, hc, h⟩ := cl_e h
      refine g_callVi (pc := 30) (As := [.int v7, .int 1]) (rest := []) hC (c_X12_right l E v7 1 σ2 v9 σ8 hc) mi_X12_right mv_X12_right ob_55 rfl rfl lk_X12_148 rfl rfl (Nat.le_of_ble_eq_true rfl) ⟨by decide, by decide⟩ hab dX12_fine_30 ?_
      refine g_if_ne (tgt := 38) (pc := 33) hC dX12_fine_33 (by decide) (fun c10 => ?_) (fun c10 => ?_)
      · replace h := it_f c10 h
        refine g_aload_n (pc := 38) hC dX12_fine_38 rfl ?_
        refine g_iload_n (pc := 39) hC dX12_fine_39 rfl ?_
        refine g_iload_n (pc := 40) hC dX12_fine_40 rfl ?_
        obtain ⟨v11, hc, h⟩ := cp_e h
        refine g_callVi (pc := 41) (As := [.int a1, .int a2]) (rest := []) hC (c_X12_lagAt1 l E a1 a2 σ8 v11 hc) mi_X12_lagAt1 mv_X12_lagAt1 ob_55 rfl rfl lk_X12_195 rfl rfl (Nat.le_of_ble_eq_true rfl) ⟨by decide, by decide⟩ hab dX12_fine_41 ?_
        refine g_istore (lv2 := [some (.ref (E.2.1 55)), some (.int a1), some (.int a2), some (.int a3), some (.int v11), none, none, none]) (pc := 44) hC dX12_fine_44 rfl (Or.inr rfl) (hN _ (by decide)) ?_
        refine g_iconst (pc := 46) hC ki_2 dX12_fine_46 ?_
        refine g_aload_n (pc := 47) hC dX12_fine_47 rfl ?_
        refine fg_X12_28_55 (pc := 48) hC dX12_fine_48 ?_
        refine g_iload (pc := 51) hC dX12_fine_51 rfl ?_
        refine g_iconst (pc := 53) hC ki_1 dX12_fine_53 ?_
        refine g_isub (pc := 54) hC dX12_fine_54 ?_
        obtain ⟨v12, ev12, nv12, h⟩ := rd_e h
        refine g_iald (pc := 55) hC 62 (by decide) (ar_62 _ _ _) nv12 dX12_fine_55 ?_
        refine g_top ev12 ?_
        refine g_iconst (pc := 56) hC ki_2 dX12_fine_56 ?_
        refine g_aload_n (pc := 57) hC dX12_fine_57 rfl ?_
        refine fg_X12_28_55 (pc := 58) hC dX12_fine_58 ?_
        refine g_iload (pc := 61) hC dX12_fine_61 rfl ?_
        obtain ⟨v13, ev13, nv13, h⟩ := rd_e h
        refine g_iald (pc := 63) hC 62 (by decide) (ar_62 _ _ _) nv13 dX12_fine_63 ?_
        refine g_top ev13 ?_
        refine g_imul (pc := 64) hC dX12_fine_64 ?_
        refine g_isub (pc := 65) hC dX12_fine_65 ?_
        refine g_aload_n (pc := 66) hC dX12_fine_66 rfl ?_
        refine fg_X12_28_55 (pc := 67) hC dX12_fine_67 ?_
        refine g_iload (pc := 70) hC dX12_fine_70 rfl ?_
        refine g_iconst (pc := 72) hC ki_1 dX12_fine_72 ?_
        refine g_iadd (pc := 73) hC dX12_fine_73 ?_
        obtain ⟨v14, ev14, nv14, h⟩ := rd_e h
        refine g_iald (pc := 74) hC 62 (by decide) (ar_62 _ _ _) nv14 dX12_fine_74 ?_
        refine g_top ev14 ?_
        refine g_iadd (pc := 75) hC dX12_fine_75 ?_
        refine g_imul (pc := 76) hC dX12_fine_76 ?_
        obtain ⟨v15, ev15, h⟩ := lt_e h
        refine g_top ev15 ?_
        refine g_istore (lv2 := [some (.ref (E.2.1 55)), some (.int a1), some (.int a2), some (.int a3), some (.int v11), some (.int v15), none, none]) (pc := 77) hC dX12_fine_77 rfl (Or.inr rfl) (hN _ (by decide)) ?_
        refine g_iload (pc := 79) hC dX12_fine_79 rfl ?_
        refine g_if_ne (tgt := 95) (pc := 81) hC dX12_fine_81 (by decide) (fun c16 => ?_) (fun c16 => ?_)
        · replace h := it_f c16 h
          refine g_iload (pc := 95) hC dX12_fine_95 rfl ?_
          refine g_iload (pc := 97) hC dX12_fine_97 rfl ?_
          refine g_imul (pc := 99) hC dX12_fine_99 ?_
          refine g_aload_n (pc := 100) hC dX12_fine_100 rfl ?_
          refine fg_X12_28_55 (pc := 101) hC dX12_fine_101 ?_
          refine g_iload (pc := 104) hC dX12_fine_104 rfl ?_
          refine g_iconst (pc := 106) hC ki_1 dX12_fine_106 ?_
          refine g_isub (pc := 107) hC dX12_fine_107 ?_
          obtain ⟨v17, ev17, nv17, h⟩ := rd_e h
          refine g_iald (pc := 108) hC 62 (by decide) (ar_62 _ _ _) nv17 dX12_fine_108 ?_
          refine g_top ev17 ?_
          refine g_iadd (pc := 109) hC dX12_fine_109 ?_
          refine g_aload_n (pc := 110) hC dX12_fine_110 rfl ?_
          refine fg_X12_28_55 (pc := 111) hC dX12_fine_111 ?_
          refine g_iload (pc := 114) hC dX12_fine_114 rfl ?_
          refine g_iconst (pc := 116) hC ki_1 dX12_fine_116 ?_
          refine g_iadd (pc := 117) hC dX12_fine_117 ?_
          obtain ⟨v18, ev18, nv18, h⟩ := rd_e h
          refine g_iald (pc := 118) hC 62 (by decide) (ar_62 _ _ _) nv18 dX12_fine_118 ?_
          refine g_top ev18 ?_
          refine g_isub (pc := 119) hC dX12_fine_119 ?_
          obtain ⟨v19, ev19, h⟩ := lt_e h
          refine g_top ev19 ?_
          refine g_istore (lv2 := [some (.ref (E.2.1 55)), some (.int a1), some (.int a2), some (.int a3), some (.int v11), some (.int v15), some (.int v19), none]) (pc := 120) hC dX12_fine_120 rfl (Or.inr rfl) (hN _ (by decide)) ?_
          refine g_iload (pc := 122) hC dX12_fine_122 rfl ?_
          refine g_iload (pc := 124) hC dX12_fine_124 rfl ?_
          obtain ⟨v20, hc, h⟩ := cp_e h
          refine g_callSi (pc := 126) (As := [.int v19, .int v15]) (rest := []) hC (c_X12_divisor l E v19 v15 σ8 v20 hc) mi_X12_divisor ms_X12_divisor lk_X12_207 rfl rfl (Nat.le_of_ble_eq_true rfl) ⟨by decide, by decide⟩ hab dX12_fine_126 ?_
          refine g_istore (lv2 := [some (.ref (E.2.1 55)), some (.int a1), some (.int a2), some (.int a3), some (.int v11), some (.int v15), some (.int v19), some (.int v20)]) (pc := 129) hC dX12_fine_129 rfl (Or.inr rfl) (hN _ (by decide)) ?_
          refine g_iload (pc := 131) hC dX12_fine_131 rfl ?_
          obtain ⟨v22, ev22, h⟩ := lt_e h
          have hJ144 : Gd l E K 0 0 o σ8 144 [none, none, none, some (.int a3), none, some (.int v15), some (.int v19), none] [.int v22] := by
            refine g_istore (lv2 := [none, none, none, some (.int a3), none, some (.int v15), some (.int v19), some (.int v22)]) (pc := 144) hC dX12_fine_144 rfl (Or.inr rfl) (hN _ (by decide)) ?_
            refine g_iload_n (pc := 146) hC dX12_fine_146 rfl ?_
            have hJ163 : ∀ (v26 : Int32), J_X12_fine_1 σ8 v26 = some (r, σr) → Gd l E K 0 0 o σ8 163 [none, none, none, none, none, none, none, none] [.int v26] := by
              intro v26 h
              delta J_X12_fine_1 at h
              exact g_ret (pc := 163) hC h hR dX12_fine_163
            refine g_if_eq (tgt := 158) (pc := 147) hC dX12_fine_147 (by decide) (fun c23 => ?_) (fun c23 => ?_)
            · replace h := it_t c23 h
              refine g_iload (pc := 158) hC dX12_fine_158 rfl ?_
              refine g_iload (pc := 160) hC dX12_fine_160 rfl ?_
              obtain ⟨v24, ev24, nv24, h⟩ := dv_e h
              refine g_idiv (pc := 162) hC nv24 dX12_fine_162 ?_
              refine g_top ev24 ?_
              refine g_mask [false, false, false, false, false, false, false, false] rfl ?_
              exact hJ163 v24 h
            · replace h := it_f c23 h
              refine g_iload (pc := 150) hC dX12_fine_150 rfl ?_
              refine g_iload (pc := 152) hC dX12_fine_152 rfl ?_
              obtain ⟨v25, ev25, nv25, h⟩ := dv_e h
              refine g_idiv (pc := 154) hC nv25 dX12_fine_154 ?_
              refine g_top ev25 ?_
              refine g_goto (tgt := 163) (pc := 155) hC dX12_fine_155 (by decide) ?_
              refine g_mask [false, false, false, false, false, false, false, false] rfl ?_
              exact hJ163 v25 h
          refine g_if_ge (tgt := 142) (pc := 133) hC dX12_fine_133 (by decide) (fun c21 => ?_) (fun c21 => ?_)
          · refine g_iload (pc := 142) hC dX12_fine_142 rfl ?_
            refine g_mask [false, false, false, true, false, true, true, false] rfl ?_
            exact g_top (iv_t c21 ev22) hJ144
          · refine g_iload (pc := 136) hC dX12_fine_136 rfl ?_
            refine g_ineg (pc := 138) hC dX12_fine_138 ?_
            refine g_goto (tgt := 144) (pc := 139) hC dX12_fine_139 (by decide) ?_
            refine g_mask [false, false, false, true, false, true, true, false] rfl ?_
            exact g_top (iv_f c21 ev22) hJ144
        · replace h := it_t c16 h
          refine g_iload_n (pc := 84) hC dX12_fine_84 rfl ?_
          obtain ⟨v28, ev28, h⟩ := lt_e h
          have hJ94 : Gd l E K 0 0 o σ8 94 [none, none, none, none, none, none, none, none] [.int v28] := by
            exact g_ret (pc := 94) hC h hR dX12_fine_94
          refine g_if_eq (tgt := 92) (pc := 85) hC dX12_fine_85 (by decide) (fun c27 => ?_) (fun c27 => ?_)
          · refine g_iload (pc := 92) hC dX12_fine_92 rfl ?_
            refine g_mask [false, false, false, false, false, false, false, false] rfl ?_
            exact g_top (iv_t c27 ev28) hJ94
          · refine g_iconst (pc := 88) hC ki_1 dX12_fine_88 ?_
            refine g_goto (tgt := 94) (pc := 89) hC dX12_fine_89 (by decide) ?_
            refine g_mask [false, false, false, false, false, false, false, false] rfl ?_
            exact g_top (iv_f c27 ev28) hJ94
      · replace h := it_t c10 h
        refine g_mask [false, false, false, false, false, false, false, false] rfl ?_
        exact hJ36 σ8 h
    refine g_if_le (tgt := 28) (pc := 21) hC dX12_fine_21 (by decide) (fun c6 => ?_) (fun c6 => ?_)
    · refine g_iconst (pc := 28) hC ki_0 dX12_fine_28 ?_
      exact g_top (iv_t c6 ev7) hJ29
    · refine g_iconst (pc := 24) hC ki_1 dX12_fine_24 ?_
      refine g_goto (tgt := 29) (pc := 25) hC dX12_fine_25 (by decide) ?_
      exact g_top (iv_f c6 ev7) hJ29
set_option maxRecDepth 20000 in
theorem c_X12_isOctave (l : Launch) (E : uE) (a1 : Int32) (a2 : Int32) (σ : uS) (r : Int32) (h : F_X12_isOctave a1 a2 σ = some r) : CtI l E yX12_isOctave cX12_isOctave 4 (some .boolean) 0 0 [.int a1, .int a2] σ r σ := by
  refine enterI 2 [some (.int a1), some (.int a2), none, none] (by decide +kernel) rfl (Nat.le_of_ble_eq_true rfl) (fun o K hnL hC hab hR => ?_)
  have hC : Cx E K RX12 cX12_isOctave (some .boolean) 0 0 := hC
  have hN : ∀ k, k < 4 → k < K.2.2.2.2.2 := fun k hk => hnL ▸ hk
  delta F_X12_isOctave at h
  refine g_iload_n (pc := 0) hC dX12_isOctave_0 rfl ?_
  refine g_iload_n (pc := 1) hC dX12_isOctave_1 rfl ?_
  obtain ⟨v2, ev2, h⟩ := lt_e h
  have hJ10 : Gd l E K 0 0 o σ 10 [some (.int a1), some (.int a2), none, none] [.int v2] := by
    refine g_istore_n (lv2 := [some (.int a1), some (.int a2), some (.int v2), none]) (pc := 10) hC dX12_isOctave_10 rfl (Or.inr rfl) (hN _ (by decide)) ?_
    refine g_iload_n (pc := 11) hC dX12_isOctave_11 rfl ?_
    refine g_iload_n (pc := 12) hC dX12_isOctave_12 rfl ?_
    obtain ⟨v4, ev4, h⟩ := lt_e h
    have hJ21 : Gd l E K 0 0 o σ 21 [none, none, some (.int v2), none] [.int v4] := by
      refine g_istore_n (lv2 := [none, none, some (.int v2), some (.int v4)]) (pc := 21) hC dX12_isOctave_21 rfl (Or.inr rfl) (hN _ (by decide)) ?_
      refine g_iload_n (pc := 22) hC dX12_isOctave_22 rfl ?_
      refine g_iconst (pc := 23) hC ki_2 dX12_isOctave_23 ?_
      refine g_iload_n (pc := 24) hC dX12_isOctave_24 rfl ?_
      refine g_imul (pc := 25) hC dX12_isOctave_25 ?_
      refine g_iconst (pc := 26) hC ki_1 dX12_isOctave_26 ?_
      refine g_isub (pc := 27) hC dX12_isOctave_27 ?_
      obtain ⟨v6, ev6, h⟩ := lt_e h
      have hJ36 : Gd l E K 0 0 o σ 36 [none, none, none, none] [.int v6] := by
        obtain ⟨h01, h⟩ := bz_e h
        exact g_retzp (pc := 36) hC h01 h hR dX12_isOctave_36
      refine g_icmp_lt (tgt := 35) (pc := 28) hC dX12_isOctave_28 (by decide) (fun c5 => ?_) (fun c5 => ?_)
      · refine g_iconst (pc := 35) hC ki_0 dX12_isOctave_35 ?_
        refine g_mask [false, false, false, false] rfl ?_
        exact g_top (iv_t c5 ev6) hJ36
      · refine g_iconst (pc := 31) hC ki_1 dX12_isOctave_31 ?_
        refine g_goto (tgt := 36) (pc := 32) hC dX12_isOctave_32 (by decide) ?_
        refine g_mask [false, false, false, false] rfl ?_
        exact g_top (iv_f c5 ev6) hJ36
    refine g_icmp_ge (tgt := 20) (pc := 13) hC dX12_isOctave_13 (by decide) (fun c3 => ?_) (fun c3 => ?_)
    · refine g_iload_n (pc := 20) hC dX12_isOctave_20 rfl ?_
      refine g_mask [false, false, true, false] rfl ?_
      exact g_top (iv_t c3 ev4) hJ21
    · refine g_iload_n (pc := 16) hC dX12_isOctave_16 rfl ?_
      refine g_goto (tgt := 21) (pc := 17) hC dX12_isOctave_17 (by decide) ?_
      refine g_mask [false, false, true, false] rfl ?_
      exact g_top (iv_f c3 ev4) hJ21
  refine g_icmp_ge (tgt := 9) (pc := 2) hC dX12_isOctave_2 (by decide) (fun c1 => ?_) (fun c1 => ?_)
  · refine g_iload_n (pc := 9) hC dX12_isOctave_9 rfl ?_
    exact g_top (iv_t c1 ev2) hJ10
  · refine g_iload_n (pc := 5) hC dX12_isOctave_5 rfl ?_
    refine g_goto (tgt := 10) (pc := 6) hC dX12_isOctave_6 (by decide) ?_
    exact g_top (iv_f c1 ev2) hJ10
set_option maxRecDepth 20000 in
theorem c_X12_step (l : Launch) (E : uE) (a1 : Int32) (a2 : Int32) (σ : uS) (r : Int32) (h : F_X12_step a1 a2 σ = some r) : CtI l E yX12_step cX12_step 3 (some .int) 1 23 [.ref (E.2.1 55), .int a1, .int a2] σ r σ := by
  refine enterI 0 [some (.ref (E.2.1 55)), some (.int a1), some (.int a2)] (by decide +kernel) rfl (Nat.le_of_ble_eq_true rfl) (fun o K hnL hC hab hR => ?_)
  have hC : Cx E K RX12 cX12_step (some .int) 1 23 := hC
  have hN : ∀ k, k < 3 → k < K.2.2.2.2.2 := fun k hk => hnL ▸ hk
  delta F_X12_step at h
  refine g_iload_n (pc := 0) hC dX12_step_0 rfl ?_
  have hJ8 : J_X12_step_1 a1 a2 σ = some r → Gd l E K 0 0 o σ 8 [some (.ref (E.2.1 55)), some (.int a1), some (.int a2)] [] := by
    intro h
    delta J_X12_step_1 at h
    refine g_iload_n (pc := 8) hC dX12_step_8 rfl ?_
    refine g_iload_n (pc := 9) hC dX12_step_9 rfl ?_
    obtain ⟨v9, ev9, h⟩ := lt_e h
    have hJ21 : Gd l E K 0 0 o σ 21 [none, none, none] [.int v9] := by
      exact g_retp (pc := 21) hC h hR dX12_step_21
    refine g_icmp_ne (tgt := 17) (pc := 10) hC dX12_step_10 (by decide) (fun c8 => ?_) (fun c8 => ?_)
    · refine g_aload_n (pc := 17) hC dX12_step_17 rfl ?_
      refine fg_X12_210_55 (pc := 18) hC dX12_step_18 ?_
      refine g_mask [false, false, false] rfl ?_
      exact g_top (iv_f c8 ev9) hJ21
    · refine g_iconst (pc := 13) hC ki_0 dX12_step_13 ?_
      refine g_goto (tgt := 21) (pc := 14) hC dX12_step_14 (by decide) ?_
      refine g_mask [false, false, false] rfl ?_
      exact g_top (iv_t c8 ev9) hJ21
  refine g_if_eq (tgt := 8) (pc := 1) hC dX12_step_1 (by decide) (fun c1 => ?_) (fun c1 => ?_)
  · replace h := it_t c1 h
    exact hJ8 h
  · replace h := it_f c1 h
    refine g_iload_n (pc := 4) hC dX12_step_4 rfl ?_
    refine g_if_ne (tgt := 22) (pc := 5) hC dX12_step_5 (by decide) (fun c2 => ?_) (fun c2 => ?_)
    · replace h := it_f c2 h
      refine g_aload_n (pc := 22) hC dX12_step_22 rfl ?_
      refine fg_X12_7_55 (pc := 23) hC dX12_step_23 ?_
      refine g_bipush (pc := 26) hC kb_10 dX12_step_26 ?_
      obtain ⟨v3, ev3, nv3, h⟩ := rd_e h
      refine g_iald (pc := 28) hC 56 (by decide) (ar_56 _ _ _) nv3 dX12_step_28 ?_
      refine g_top ev3 ?_
      refine g_iload_n (pc := 29) hC dX12_step_29 rfl ?_
      refine g_iload_n (pc := 30) hC dX12_step_30 rfl ?_
      obtain ⟨v4, hc, h⟩ := cp_e h
      refine g_callSi (pc := 31) (As := [.int a1, .int a2]) (rest := [.int v3]) hC (c_X12_apart l E a1 a2 σ v4 hc) mi_X12_apart ms_X12_apart lk_X12_163 rfl rfl (Nat.le_of_ble_eq_true rfl) ⟨by decide, by decide⟩ hab dX12_step_31 ?_
      refine g_imul (pc := 34) hC dX12_step_34 ?_
      refine g_iload_n (pc := 35) hC dX12_step_35 rfl ?_
      refine g_iload_n (pc := 36) hC dX12_step_36 rfl ?_
      obtain ⟨v5, hc, h⟩ := cp_e h
      refine g_callSi (pc := 37) (As := [.int a1, .int a2]) (rest := [.int (v3 * v4)]) hC (c_X12_isOctave l E a1 a2 σ v5 hc) mi_X12_isOctave ms_X12_isOctave lk_X12_213 rfl rfl (Nat.le_of_ble_eq_true rfl) ⟨by decide, by decide⟩ hab dX12_step_37 ?_
      obtain ⟨v7, ev7, h⟩ := lt_e h
      have hJ51 : Gd l E K 0 0 o σ 51 [none, none, none] [.int v7, .int (v3 * v4)] := by
        refine g_iadd (pc := 51) hC dX12_step_51 ?_
        exact g_retp (pc := 52) hC h hR dX12_step_52
      refine g_if_eq (tgt := 50) (pc := 40) hC dX12_step_40 (by decide) (fun c6 => ?_) (fun c6 => ?_)
      · refine g_iconst (pc := 50) hC ki_0 dX12_step_50 ?_
        refine g_mask [false, false, false] rfl ?_
        exact g_top (iv_t c6 ev7) hJ51
      · refine g_aload_n (pc := 43) hC dX12_step_43 rfl ?_
        refine fg_X12_216_55 (pc := 44) hC dX12_step_44 ?_
        refine g_goto (tgt := 51) (pc := 47) hC dX12_step_47 (by decide) ?_
        refine g_mask [false, false, false] rfl ?_
        exact g_top (iv_f c6 ev7) hJ51
    · replace h := it_t c2 h
      exact hJ8 h
set_option maxRecDepth 20000 in
theorem c_X12_between (l : Launch) (E : uE) (a1 : Int32) (a2 : Int32) (a3 : Int32) (σ : uS) (r : Int32) (h : F_X12_between a1 a2 a3 σ = some r) : CtI l E yX12_between cX12_between 4 (some .int) 2 45 [.ref (E.2.1 55), .int a1, .int a2, .int a3] σ r σ := by
  refine enterI 0 [some (.ref (E.2.1 55)), some (.int a1), some (.int a2), some (.int a3)] (by decide +kernel) rfl (Nat.le_of_ble_eq_true rfl) (fun o K hnL hC hab hR => ?_)
  have hC : Cx E K RX12 cX12_between (some .int) 2 45 := hC
  have hN : ∀ k, k < 4 → k < K.2.2.2.2.2 := fun k hk => hnL ▸ hk
  delta F_X12_between at h
  refine g_aload_n (pc := 0) hC dX12_between_0 rfl ?_
  refine g_aload_n (pc := 1) hC dX12_between_1 rfl ?_
  refine g_iload_n (pc := 2) hC dX12_between_2 rfl ?_
  refine g_iload_n (pc := 3) hC dX12_between_3 rfl ?_
  obtain ⟨v1, hc, h⟩ := cp_e h
  refine g_callVi (pc := 4) (As := [.int a1, .int a2]) (rest := [.ref (E.2.1 55)]) hC (c_X12_lagAt1 l E a1 a2 σ v1 hc) mi_X12_lagAt1 mv_X12_lagAt1 ob_55 rfl rfl lk_X12_195 rfl rfl (Nat.le_of_ble_eq_true rfl) ⟨by decide, by decide⟩ hab dX12_between_4 ?_
  refine g_aload_n (pc := 7) hC dX12_between_7 rfl ?_
  refine g_iload_n (pc := 8) hC dX12_between_8 rfl ?_
  refine g_iconst (pc := 9) hC ki_1 dX12_between_9 ?_
  refine g_iadd (pc := 10) hC dX12_between_10 ?_
  refine g_iload_n (pc := 11) hC dX12_between_11 rfl ?_
  obtain ⟨v2, hc, h⟩ := cp_e h
  refine g_callVi (pc := 12) (As := [.int (a1 + 1), .int a3]) (rest := [.int v1, .ref (E.2.1 55)]) hC (c_X12_lagAt1 l E (a1 + 1) a3 σ v2 hc) mi_X12_lagAt1 mv_X12_lagAt1 ob_55 rfl rfl lk_X12_195 rfl rfl (Nat.le_of_ble_eq_true rfl) ⟨by decide, by decide⟩ hab dX12_between_12 ?_
  obtain ⟨v3, hc, h⟩ := cp_e h
  refine g_callVi (pc := 15) (As := [.int v1, .int v2]) (rest := []) hC (c_X12_step l E v1 v2 σ v3 hc) mi_X12_step mv_X12_step ob_55 rfl rfl lk_X12_219 rfl rfl (Nat.le_of_ble_eq_true rfl) ⟨by decide, by decide⟩ hab dX12_between_15 ?_
  exact g_retp (pc := 18) hC h hR dX12_between_18
set_option maxRecDepth 20000 in
theorem c_X12_opens (l : Launch) (E : uE) (σ : uS) (σr : uS) (h : F_X12_opens σ = some σr) : CtV l E yX12_opens cX12_opens 2 0 0 [.ref (E.2.1 55)] σ σr := by
  refine enterV 1 [some (.ref (E.2.1 55)), none] (by decide +kernel) rfl (Nat.le_of_ble_eq_true rfl) (fun o K hnL hC hab hR => ?_)
  have hC : Cx E K RX12 cX12_opens none 0 0 := hC
  have hN : ∀ k, k < 2 → k < K.2.2.2.2.2 := fun k hk => hnL ▸ hk
  delta F_X12_opens at h
  refine g_iconst (pc := 0) hC ki_0 dX12_opens_0 ?_
  refine g_istore_n (lv2 := [some (.ref (E.2.1 55)), some (.int 0)]) (pc := 1) hC dX12_opens_1 rfl (Or.inr rfl) (hN _ (by decide)) ?_
  have hL1 : ∀ (n : Nat) (w1 : Int32) (σ2 : uS) (z1 : uS), iter n (fun z => B_X12_opens_2 z.1 z.2) (w1, σ2) = some z1 → (∀ (σ3 : uS), z1 = σ3 → Gd l E K 0 0 o σ3 22 [some (.ref (E.2.1 55)), none] []) → Gd l E K 0 0 o σ2 2 [some (.ref (E.2.1 55)), some (.int w1)] [] := by
    intro n
    induction n with
    | zero =>
      intro w1 σ2 z1 hi
      exact (iter_0 hi).elim
    | succ n ih1 =>
      intro w1 σ2 z1 hi1 kx1
      obtain ⟨r1, h, hi1⟩ := iter_s hi1
      replace h : B_X12_opens_2 w1 σ2 = some r1 := h
      delta B_X12_opens_2 at h
      refine g_iload_n (pc := 2) hC dX12_opens_2 rfl ?_
      refine g_sipush (pc := 3) hC ks_660 dX12_opens_3 ?_
      refine g_icmp_ge (tgt := 22) (pc := 6) hC dX12_opens_6 (by decide) (fun c4 => ?_) (fun c4 => ?_)
      · replace h := it_t c4 h
        refine g_mask [true, false] rfl ?_
        exact kx1 σ2 (iter_r h hi1)
      · replace h := it_f c4 h
        refine g_aload_n (pc := 9) hC dX12_opens_9 rfl ?_
        refine fg_X12_53_55 (pc := 10) hC dX12_opens_10 ?_
        refine g_iload_n (pc := 13) hC dX12_opens_13 rfl ?_
        refine g_iconst (pc := 14) hC ki_0 dX12_opens_14 ?_
        obtain ⟨σ5, eσ5, nσ5, h⟩ := wr_e h
        refine g_zast (pc := 15) hC 70 (by decide) (ar_70 _ _) nσ5 dX12_opens_15 eσ5 ?_
        obtain ⟨v6, ev6, h⟩ := lt_e h
        refine g_iinc (v := v6) (lv2 := [some (.ref (E.2.1 55)), some (.int v6)]) (pc := 16) hC dX12_opens_16 rfl ev6 rfl (Or.inr rfl) (hN _ (by decide)) ?_
        refine g_goto (tgt := 2) (pc := 19) hC dX12_opens_19 (by decide) ?_
        exact ih1 v6 σ5 z1 (iter_l h hi1) kx1
  obtain ⟨z1, hz1, h⟩ := lp_e h
  refine hL1 FU 0 σ z1 hz1 (fun σ3 ez => ?_)
  replace h : C_X12_opens_3 σ3 = some σr := by rw [ez] at h; exact h
  delta C_X12_opens_3 at h
  refine g_aload_n (pc := 22) hC dX12_opens_22 rfl ?_
  refine g_aload_n (pc := 23) hC dX12_opens_23 rfl ?_
  refine fg_X12_7_55 (pc := 24) hC dX12_opens_24 ?_
  refine g_bipush (pc := 27) hC kb_11 dX12_opens_27 ?_
  obtain ⟨v7, ev7, nv7, h⟩ := rd_e h
  refine g_iald (pc := 29) hC 56 (by decide) (ar_56 _ _ _) nv7 dX12_opens_29 ?_
  refine g_top ev7 ?_
  obtain ⟨σ8, eσ8, h⟩ := pf_e h
  refine fp_X12_216_55 (pc := 30) hC dX12_opens_30 eσ8 ?_
  refine g_aload_n (pc := 33) hC dX12_opens_33 rfl ?_
  refine g_aload_n (pc := 34) hC dX12_opens_34 rfl ?_
  refine fg_X12_7_55 (pc := 35) hC dX12_opens_35 ?_
  refine g_bipush (pc := 38) hC kb_12 dX12_opens_38 ?_
  obtain ⟨v9, ev9, nv9, h⟩ := rd_e h
  refine g_iald (pc := 40) hC 56 (by decide) (ar_56 _ _ _) nv9 dX12_opens_40 ?_
  refine g_top ev9 ?_
  obtain ⟨σ10, eσ10, h⟩ := pf_e h
  refine fp_X12_210_55 (pc := 41) hC dX12_opens_41 eσ10 ?_
  exact g_retv (pc := 44) hC h hR dX12_opens_44
set_option maxRecDepth 20000 in
theorem c_X12_leavesOnly (l : Launch) (E : uE) (a1 : Int32) (a2 : Int32) (σ : uS) (σr : uS) (h : F_X12_leavesOnly a1 a2 σ = some σr) : CtV l E yX12_leavesOnly cX12_leavesOnly 4 0 0 [.ref (E.2.1 55), .int a1, .int a2] σ σr := by
  refine enterV 1 [some (.ref (E.2.1 55)), some (.int a1), some (.int a2), none] (by decide +kernel) rfl (Nat.le_of_ble_eq_true rfl) (fun o K hnL hC hab hR => ?_)
  have hC : Cx E K RX12 cX12_leavesOnly none 0 0 := hC
  have hN : ∀ k, k < 4 → k < K.2.2.2.2.2 := fun k hk => hnL ▸ hk
  delta F_X12_leavesOnly at h
  refine g_iconst (pc := 0) hC ki_0 dX12_leavesOnly_0 ?_
  refine g_istore_n (lv2 := [some (.ref (E.2.1 55)), some (.int a1), some (.int a2), some (.int 0)]) (pc := 1) hC dX12_leavesOnly_1 rfl (Or.inr rfl) (hN _ (by decide)) ?_
  have hL1 : ∀ (n : Nat) (w1 : Int32) (σ2 : uS) (z1 : uS), iter n (fun z => B_X12_leavesOnly_3 a1 a2 z.1 z.2) (w1, σ2) = some z1 → (∀ (σ3 : uS), z1 = σ3 → Gd l E K 0 0 o σ3 35 [none, none, none, none] []) → Gd l E K 0 0 o σ2 2 [some (.ref (E.2.1 55)), some (.int a1), some (.int a2), some (.int w1)] [] := by
    intro n
    induction n with
    | zero =>
      intro w1 σ2 z1 hi
      exact (iter_0 hi).elim
    | succ n ih1 =>
      intro w1 σ2 z1 hi1 kx1
      obtain ⟨r1, h, hi1⟩ := iter_s hi1
      replace h : B_X12_leavesOnly_3 a1 a2 w1 σ2 = some r1 := h
      delta B_X12_leavesOnly_3 at h
      refine g_iload_n (pc := 2) hC dX12_leavesOnly_2 rfl ?_
      refine g_aload_n (pc := 3) hC dX12_leavesOnly_3 rfl ?_
      refine fg_X12_40_55 (pc := 4) hC dX12_leavesOnly_4 ?_
      refine g_iload_n (pc := 7) hC dX12_leavesOnly_7 rfl ?_
      obtain ⟨v4, ev4, nv4, h⟩ := rd_e h
      refine g_iald (pc := 8) hC 66 (by decide) (ar_66 _ _ _) nv4 dX12_leavesOnly_8 ?_
      refine g_top ev4 ?_
      refine g_icmp_ge (tgt := 35) (pc := 9) hC dX12_leavesOnly_9 (by decide) (fun c5 => ?_) (fun c5 => ?_)
      · replace h := it_t c5 h
        refine g_mask [false, false, false, false] rfl ?_
        exact kx1 σ2 (iter_r h hi1)
      · replace h := it_f c5 h
        refine g_iload_n (pc := 12) hC dX12_leavesOnly_12 rfl ?_
        refine g_iload_n (pc := 13) hC dX12_leavesOnly_13 rfl ?_
        have hJ29 : ∀ (σ8 : uS), J_X12_leavesOnly_2 w1 σ8 = some r1 → Gd l E K 0 0 o σ8 29 [some (.ref (E.2.1 55)), some (.int a1), some (.int a2), some (.int w1)] [] := by
          intro σ8 h
          delta J_X12_leavesOnly_2 at h
          obtain ⟨v9, ev9, h⟩ := lt_e h
          refine g_iinc (v := v9) (lv2 := [some (.ref (E.2.1 55)), some (.int a1), some (.int a2), some (.int v9)]) (pc := 29) hC dX12_leavesOnly_29 rfl ev9 rfl (Or.inr rfl) (hN _ (by decide)) ?_
          refine g_goto (tgt := 2) (pc := 32) hC dX12_leavesOnly_32 (by decide) ?_
          exact ih1 v9 σ8 z1 (iter_l h hi1) kx1
        refine g_icmp_eq (tgt := 29) (pc := 14) hC dX12_leavesOnly_14 (by decide) (fun c6 => ?_) (fun c6 => ?_)
        · replace h := it_t c6 h
          exact hJ29 σ2 h
        · replace h := it_f c6 h
          refine g_aload_n (pc := 17) hC dX12_leavesOnly_17 rfl ?_
          refine fg_X12_53_55 (pc := 18) hC dX12_leavesOnly_18 ?_
          refine g_bipush (pc := 21) hC kb_6 dX12_leavesOnly_21 ?_
          refine g_iload_n (pc := 23) hC dX12_leavesOnly_23 rfl ?_
          refine g_imul (pc := 24) hC dX12_leavesOnly_24 ?_
          refine g_iload_n (pc := 25) hC dX12_leavesOnly_25 rfl ?_
          refine g_iadd (pc := 26) hC dX12_leavesOnly_26 ?_
          refine g_iconst (pc := 27) hC ki_1 dX12_leavesOnly_27 ?_
          obtain ⟨σ7, eσ7, nσ7, h⟩ := wr_e h
          refine g_zast (pc := 28) hC 70 (by decide) (ar_70 _ _) nσ7 dX12_leavesOnly_28 eσ7 ?_
          exact hJ29 σ7 h
  obtain ⟨z1, hz1, h⟩ := lp_e h
  refine hL1 FU 0 σ z1 hz1 (fun σ3 ez => ?_)
  replace h : C_X12_leavesOnly_4 σ3 = some σr := by rw [ez] at h; exact h
  delta C_X12_leavesOnly_4 at h
  exact g_retv (pc := 35) hC h hR dX12_leavesOnly_35
set_option maxRecDepth 20000 in
theorem c_X12_leastBehind (l : Launch) (E : uE) (a1 : Int32) (a2 : Int32) (σ : uS) (r : Int32) (h : F_X12_leastBehind a1 a2 σ = some r) : CtI l E yX12_leastBehind cX12_leastBehind 6 (some .int) 3 68 [.ref (E.2.1 55), .int a1, .int a2] σ r σ := by
  refine enterI 3 [some (.ref (E.2.1 55)), some (.int a1), some (.int a2), none, none, none] (by decide +kernel) rfl (Nat.le_of_ble_eq_true rfl) (fun o K hnL hC hab hR => ?_)
  have hC : Cx E K RX12 cX12_leastBehind (some .int) 3 68 := hC
  have hN : ∀ k, k < 6 → k < K.2.2.2.2.2 := fun k hk => hnL ▸ hk
  delta F_X12_leastBehind at h
  refine g_ldc (pc := 0) hC kc_X12_222 dX12_leastBehind_0 ?_
  refine g_istore_n (lv2 := [some (.ref (E.2.1 55)), some (.int a1), some (.int a2), some (.int 2000000000), none, none]) (pc := 2) hC dX12_leastBehind_2 rfl (Or.inr rfl) (hN _ (by decide)) ?_
  refine g_iconst (pc := 3) hC ki_0 dX12_leastBehind_3 ?_
  refine g_istore (lv2 := [some (.ref (E.2.1 55)), some (.int a1), some (.int a2), some (.int 2000000000), some (.int 0), none]) (pc := 4) hC dX12_leastBehind_4 rfl (Or.inr rfl) (hN _ (by decide)) ?_
  have hL1 : ∀ (n : Nat) (w1 : Int32) (w2 : Int32) (z1 : Int32), iter n (fun z => B_X12_leastBehind_3 a1 a2 σ z.1 z.2) (w1, w2) = some z1 → (∀ (v3 : Int32), z1 = v3 → Gd l E K 0 0 o σ 75 [none, none, none, some (.int v3), none, none] []) → Gd l E K 0 0 o σ 6 [some (.ref (E.2.1 55)), some (.int a1), some (.int a2), some (.int w1), some (.int w2), none] [] := by
    intro n
    induction n with
    | zero =>
      intro w1 w2 z1 hi
      exact (iter_0 hi).elim
    | succ n ih1 =>
      intro w1 w2 z1 hi1 kx1
      obtain ⟨r1, h, hi1⟩ := iter_s hi1
      replace h : B_X12_leastBehind_3 a1 a2 σ w1 w2 = some r1 := h
      delta B_X12_leastBehind_3 at h
      refine g_iload (pc := 6) hC dX12_leastBehind_6 rfl ?_
      refine g_aload_n (pc := 8) hC dX12_leastBehind_8 rfl ?_
      refine fg_X12_40_55 (pc := 9) hC dX12_leastBehind_9 ?_
      refine g_iload_n (pc := 12) hC dX12_leastBehind_12 rfl ?_
      refine g_iconst (pc := 13) hC ki_1 dX12_leastBehind_13 ?_
      refine g_iadd (pc := 14) hC dX12_leastBehind_14 ?_
      obtain ⟨v4, ev4, nv4, h⟩ := rd_e h
      refine g_iald (pc := 15) hC 66 (by decide) (ar_66 _ _ _) nv4 dX12_leastBehind_15 ?_
      refine g_top ev4 ?_
      refine g_icmp_ge (tgt := 75) (pc := 16) hC dX12_leastBehind_16 (by decide) (fun c5 => ?_) (fun c5 => ?_)
      · replace h := it_t c5 h
        refine g_mask [false, false, false, true, false, false] rfl ?_
        exact kx1 w1 (iter_r h hi1)
      · replace h := it_f c5 h
        refine g_aload_n (pc := 19) hC dX12_leastBehind_19 rfl ?_
        refine fg_X12_47_55 (pc := 20) hC dX12_leastBehind_20 ?_
        refine g_bipush (pc := 23) hC kb_6 dX12_leastBehind_23 ?_
        refine g_iload_n (pc := 25) hC dX12_leastBehind_25 rfl ?_
        refine g_iconst (pc := 26) hC ki_1 dX12_leastBehind_26 ?_
        refine g_iadd (pc := 27) hC dX12_leastBehind_27 ?_
        refine g_imul (pc := 28) hC dX12_leastBehind_28 ?_
        refine g_iload (pc := 29) hC dX12_leastBehind_29 rfl ?_
        refine g_iadd (pc := 31) hC dX12_leastBehind_31 ?_
        obtain ⟨v6, ev6, nv6, h⟩ := rd_e h
        refine g_iald (pc := 32) hC 68 (by decide) (ar_68 _ _ _) nv6 dX12_leastBehind_32 ?_
        refine g_top ev6 ?_
        refine g_istore (lv2 := [some (.ref (E.2.1 55)), some (.int a1), some (.int a2), some (.int w1), some (.int w2), some (.int v6)]) (pc := 33) hC dX12_leastBehind_33 rfl (Or.inr rfl) (hN _ (by decide)) ?_
        refine g_iload (pc := 35) hC dX12_leastBehind_35 rfl ?_
        refine g_ldc (pc := 37) hC kc_X12_222 dX12_leastBehind_37 ?_
        have hJ69 : ∀ (v12 : Int32), J_X12_leastBehind_2 w2 v12 = some r1 → Gd l E K 0 0 o σ 69 [some (.ref (E.2.1 55)), some (.int a1), some (.int a2), some (.int v12), some (.int w2), none] [] := by
          intro v12 h
          delta J_X12_leastBehind_2 at h
          obtain ⟨v13, ev13, h⟩ := lt_e h
          refine g_iinc (v := v13) (lv2 := [some (.ref (E.2.1 55)), some (.int a1), some (.int a2), some (.int v12), some (.int v13), none]) (pc := 69) hC dX12_leastBehind_69 rfl ev13 rfl (Or.inr rfl) (hN _ (by decide)) ?_
          refine g_goto (tgt := 6) (pc := 72) hC dX12_leastBehind_72 (by decide) ?_
          exact ih1 v12 v13 z1 (iter_l h hi1) kx1
        refine g_icmp_ge (tgt := 69) (pc := 39) hC dX12_leastBehind_39 (by decide) (fun c7 => ?_) (fun c7 => ?_)
        · replace h := it_t c7 h
          refine g_mask [true, true, true, true, true, false] rfl ?_
          exact hJ69 w1 h
        · replace h := it_f c7 h
          refine g_aload_n (pc := 42) hC dX12_leastBehind_42 rfl ?_
          refine g_iload_n (pc := 43) hC dX12_leastBehind_43 rfl ?_
          refine g_iload_n (pc := 44) hC dX12_leastBehind_44 rfl ?_
          refine g_iload (pc := 45) hC dX12_leastBehind_45 rfl ?_
          obtain ⟨v8, hc, h⟩ := cp_e h
          refine g_callVi (pc := 47) (As := [.int a1, .int a2, .int w2]) (rest := []) hC (c_X12_between l E a1 a2 w2 σ v8 hc) mi_X12_between mv_X12_between ob_55 rfl rfl lk_X12_223 rfl rfl (Nat.le_of_ble_eq_true rfl) ⟨by decide, by decide⟩ hab dX12_leastBehind_47 ?_
          refine g_iload (pc := 50) hC dX12_leastBehind_50 rfl ?_
          refine g_iadd (pc := 52) hC dX12_leastBehind_52 ?_
          refine g_iload_n (pc := 53) hC dX12_leastBehind_53 rfl ?_
          refine g_icmp_ge (tgt := 69) (pc := 54) hC dX12_leastBehind_54 (by decide) (fun c9 => ?_) (fun c9 => ?_)
          · replace h := it_t c9 h
            refine g_mask [true, true, true, true, true, false] rfl ?_
            exact hJ69 w1 h
          · replace h := it_f c9 h
            refine g_aload_n (pc := 57) hC dX12_leastBehind_57 rfl ?_
            refine g_iload_n (pc := 58) hC dX12_leastBehind_58 rfl ?_
            refine g_iload_n (pc := 59) hC dX12_leastBehind_59 rfl ?_
            refine g_iload (pc := 60) hC dX12_leastBehind_60 rfl ?_
            obtain ⟨v10, hc, h⟩ := cp_e h
            refine g_callVi (pc := 62) (As := [.int a1, .int a2, .int w2]) (rest := []) hC (c_X12_between l E a1 a2 w2 σ v10 hc) mi_X12_between mv_X12_between ob_55 rfl rfl lk_X12_223 rfl rfl (Nat.le_of_ble_eq_true rfl) ⟨by decide, by decide⟩ hab dX12_leastBehind_62 ?_
            refine g_iload (pc := 65) hC dX12_leastBehind_65 rfl ?_
            refine g_iadd (pc := 67) hC dX12_leastBehind_67 ?_
            obtain ⟨v11, ev11, h⟩ := lt_e h
            refine g_top ev11 ?_
            refine g_istore_n (lv2 := [some (.ref (E.2.1 55)), some (.int a1), some (.int a2), some (.int v11), some (.int w2), some (.int v6)]) (pc := 68) hC dX12_leastBehind_68 rfl (Or.inr rfl) (hN _ (by decide)) ?_
            refine g_mask [true, true, true, true, true, false] rfl ?_
            exact hJ69 v11 h
  obtain ⟨z1, hz1, h⟩ := lp_e h
  refine hL1 FU 2000000000 0 z1 hz1 (fun v3 ez => ?_)
  replace h : C_X12_leastBehind_4 v3 = some r := by rw [ez] at h; exact h
  delta C_X12_leastBehind_4 at h
  refine g_iload_n (pc := 75) hC dX12_leastBehind_75 rfl ?_
  exact g_retp (pc := 76) hC h hR dX12_leastBehind_76
set_option maxRecDepth 20000 in
theorem c_X12_laysCosts (l : Launch) (E : uE) (a1 : Int32) (σ : uS) (σr : uS) (h : F_X12_laysCosts a1 σ = some σr) : CtV l E yX12_laysCosts cX12_laysCosts 5 4 93 [.ref (E.2.1 55), .int a1] σ σr := by
  refine enterV 3 [some (.ref (E.2.1 55)), some (.int a1), none, none, none] (by decide +kernel) rfl (Nat.le_of_ble_eq_true rfl) (fun o K hnL hC hab hR => ?_)
  have hC : Cx E K RX12 cX12_laysCosts none 4 93 := hC
  have hN : ∀ k, k < 5 → k < K.2.2.2.2.2 := fun k hk => hnL ▸ hk
  delta F_X12_laysCosts at h
  refine g_aload_n (pc := 0) hC dX12_laysCosts_0 rfl ?_
  refine g_iload_n (pc := 1) hC dX12_laysCosts_1 rfl ?_
  obtain ⟨σ1, eσ1, h⟩ := pf_e h
  refine fp_X12_227_55 (pc := 2) hC dX12_laysCosts_2 eσ1 ?_
  refine g_iload_n (pc := 5) hC dX12_laysCosts_5 rfl ?_
  refine g_istore_n (lv2 := [some (.ref (E.2.1 55)), some (.int a1), some (.int a1), none, none]) (pc := 6) hC dX12_laysCosts_6 rfl (Or.inr rfl) (hN _ (by decide)) ?_
  have hL1 : ∀ (n : Nat) (w2 : Int32) (σ3 : uS) (z1 : uS), iter n (fun z => B_X12_laysCosts_8 a1 z.1 z.2) (w2, σ3) = some z1 → (∀ (σ4 : uS), z1 = σ4 → Gd l E K 0 0 o σ4 98 [none, none, none, none, none] []) → Gd l E K 0 0 o σ3 7 [some (.ref (E.2.1 55)), some (.int a1), some (.int w2), none, none] [] := by
    intro n
    induction n with
    | zero =>
      intro w2 σ3 z1 hi
      exact (iter_0 hi).elim
    | succ n ih1 =>
      intro w2 σ3 z1 hi1 kx1
      obtain ⟨r1, h, hi1⟩ := iter_s hi1
      replace h : B_X12_laysCosts_8 a1 w2 σ3 = some r1 := h
      delta B_X12_laysCosts_8 at h
      refine g_iload_n (pc := 7) hC dX12_laysCosts_7 rfl ?_
      refine g_if_lt (tgt := 98) (pc := 8) hC dX12_laysCosts_8 (by decide) (fun c5 => ?_) (fun c5 => ?_)
      · replace h := it_t c5 h
        refine g_mask [false, false, false, false, false] rfl ?_
        exact kx1 σ3 (iter_r h hi1)
      · replace h := it_f c5 h
        refine g_iconst (pc := 11) hC ki_0 dX12_laysCosts_11 ?_
        refine g_istore_n (lv2 := [some (.ref (E.2.1 55)), some (.int a1), some (.int w2), some (.int 0), none]) (pc := 12) hC dX12_laysCosts_12 rfl (Or.inr rfl) (hN _ (by decide)) ?_
        have hL2 : ∀ (n : Nat) (w6 : Int32) (σ7 : uS) (z2 : uS), iter n (fun z => B_X12_laysCosts_6 a1 w2 z.1 z.2) (w6, σ7) = some z2 → (∀ (σ8 : uS), z2 = σ8 → Gd l E K 0 0 o σ8 92 [some (.ref (E.2.1 55)), some (.int a1), some (.int w2), none, none] []) → Gd l E K 0 0 o σ7 13 [some (.ref (E.2.1 55)), some (.int a1), some (.int w2), some (.int w6), none] [] := by
          intro n
          induction n with
          | zero =>
            intro w6 σ7 z2 hi
            exact (iter_0 hi).elim
          | succ n ih2 =>
            intro w6 σ7 z2 hi2 kx2
            obtain ⟨r2, h, hi2⟩ := iter_s hi2
            replace h : B_X12_laysCosts_6 a1 w2 w6 σ7 = some r2 := h
            delta B_X12_laysCosts_6 at h
            refine g_iload_n (pc := 13) hC dX12_laysCosts_13 rfl ?_
            refine g_aload_n (pc := 14) hC dX12_laysCosts_14 rfl ?_
            refine fg_X12_40_55 (pc := 15) hC dX12_laysCosts_15 ?_
            refine g_iload_n (pc := 18) hC dX12_laysCosts_18 rfl ?_
            obtain ⟨v9, ev9, nv9, h⟩ := rd_e h
            refine g_iald (pc := 19) hC 66 (by decide) (ar_66 _ _ _) nv9 dX12_laysCosts_19 ?_
            refine g_top ev9 ?_
            refine g_icmp_ge (tgt := 92) (pc := 20) hC dX12_laysCosts_20 (by decide) (fun c10 => ?_) (fun c10 => ?_)
            · replace h := it_t c10 h
              refine g_mask [true, true, true, false, false] rfl ?_
              exact kx2 σ7 (iter_r h hi2)
            · replace h := it_f c10 h
              refine g_iload_n (pc := 23) hC dX12_laysCosts_23 rfl ?_
              refine g_iload_n (pc := 24) hC dX12_laysCosts_24 rfl ?_
              have hJ38 : ∀ (v13 : Int32), J_X12_laysCosts_5 w2 w6 σ7 v13 = some r2 → Gd l E K 0 0 o σ7 38 [some (.ref (E.2.1 55)), some (.int a1), some (.int w2), some (.int w6), none] [.int v13] := by
                intro v13 h
                delta J_X12_laysCosts_5 at h
                refine g_istore (lv2 := [some (.ref (E.2.1 55)), some (.int a1), some (.int w2), some (.int w6), some (.int v13)]) (pc := 38) hC dX12_laysCosts_38 rfl (Or.inr rfl) (hN _ (by decide)) ?_
                refine g_aload_n (pc := 40) hC dX12_laysCosts_40 rfl ?_
                refine fg_X12_47_55 (pc := 41) hC dX12_laysCosts_41 ?_
                refine g_bipush (pc := 44) hC kb_6 dX12_laysCosts_44 ?_
                refine g_iload_n (pc := 46) hC dX12_laysCosts_46 rfl ?_
                refine g_imul (pc := 47) hC dX12_laysCosts_47 ?_
                refine g_iload_n (pc := 48) hC dX12_laysCosts_48 rfl ?_
                refine g_iadd (pc := 49) hC dX12_laysCosts_49 ?_
                refine g_aload_n (pc := 50) hC dX12_laysCosts_50 rfl ?_
                refine fg_X12_53_55 (pc := 51) hC dX12_laysCosts_51 ?_
                refine g_bipush (pc := 54) hC kb_6 dX12_laysCosts_54 ?_
                refine g_iload_n (pc := 56) hC dX12_laysCosts_56 rfl ?_
                refine g_imul (pc := 57) hC dX12_laysCosts_57 ?_
                refine g_iload_n (pc := 58) hC dX12_laysCosts_58 rfl ?_
                refine g_iadd (pc := 59) hC dX12_laysCosts_59 ?_
                obtain ⟨v14, ev14, nv14, h⟩ := rd_e h
                refine g_zald (pc := 60) hC 70 (by decide) (ar_70 _ _ _) nv14 dX12_laysCosts_60 ?_
                refine g_top ev14 ?_
                have hJ85 : ∀ (v18 : Int32), J_X12_laysCosts_4 w2 w6 σ7 v18 = some r2 → Gd l E K 0 0 o σ7 85 [some (.ref (E.2.1 55)), some (.int a1), some (.int w2), some (.int w6), none] [.int v18, .int ((6 * w2) + w6), .ref (E.2.1 68)] := by
                  intro v18 h
                  delta J_X12_laysCosts_4 at h
                  obtain ⟨σ19, eσ19, nσ19, h⟩ := wr_e h
                  refine g_iast (pc := 85) hC 68 (by decide) (ar_68 _ _) nσ19 dX12_laysCosts_85 eσ19 ?_
                  obtain ⟨v20, ev20, h⟩ := lt_e h
                  refine g_iinc (v := v20) (lv2 := [some (.ref (E.2.1 55)), some (.int a1), some (.int w2), some (.int v20), none]) (pc := 86) hC dX12_laysCosts_86 rfl ev20 rfl (Or.inr rfl) (hN _ (by decide)) ?_
                  refine g_goto (tgt := 13) (pc := 89) hC dX12_laysCosts_89 (by decide) ?_
                  exact ih2 v20 σ19 z2 (iter_l h hi2) kx2
                have hJ71 : J_X12_laysCosts_3 w2 w6 σ7 = some r2 → Gd l E K 0 0 o σ7 71 [some (.ref (E.2.1 55)), some (.int a1), some (.int w2), some (.int w6), none] [.int ((6 * w2) + w6), .ref (E.2.1 68)] := by
                  intro h
                  delta J_X12_laysCosts_3 at h
                  refine g_ldc (pc := 71) hC kc_X12_222 dX12_laysCosts_71 ?_
                  refine g_goto (tgt := 85) (pc := 73) hC dX12_laysCosts_73 (by decide) ?_
                  exact hJ85 2000000000 h
                refine g_if_ne (tgt := 71) (pc := 61) hC dX12_laysCosts_61 (by decide) (fun c15 => ?_) (fun c15 => ?_)
                · replace h := it_f c15 h
                  refine g_mask [true, true, true, true, false] rfl ?_
                  exact hJ71 h
                · replace h := it_t c15 h
                  refine g_iload (pc := 64) hC dX12_laysCosts_64 rfl ?_
                  refine g_ldc (pc := 66) hC kc_X12_222 dX12_laysCosts_66 ?_
                  refine g_icmp_ne (tgt := 76) (pc := 68) hC dX12_laysCosts_68 (by decide) (fun c16 => ?_) (fun c16 => ?_)
                  · replace h := it_f c16 h
                    refine g_aload_n (pc := 76) hC dX12_laysCosts_76 rfl ?_
                    refine g_iload_n (pc := 77) hC dX12_laysCosts_77 rfl ?_
                    refine g_iload_n (pc := 78) hC dX12_laysCosts_78 rfl ?_
                    obtain ⟨v17, hc, h⟩ := cp_e h
                    refine g_callVi (pc := 79) (As := [.int w2, .int w6]) (rest := [.int ((6 * w2) + w6), .ref (E.2.1 68)]) hC (c_X12_ownAt l E w2 w6 σ7 v17 hc) mi_X12_ownAt mv_X12_ownAt ob_55 rfl rfl lk_X12_201 rfl rfl (Nat.le_of_ble_eq_true rfl) ⟨by decide, by decide⟩ hab dX12_laysCosts_79 ?_
                    refine g_iload (pc := 82) hC dX12_laysCosts_82 rfl ?_
                    refine g_iadd (pc := 84) hC dX12_laysCosts_84 ?_
                    refine g_mask [true, true, true, true, false] rfl ?_
                    exact hJ85 (v17 + v13) h
                  · replace h := it_t c16 h
                    refine g_mask [true, true, true, true, false] rfl ?_
                    exact hJ71 h
              refine g_icmp_ne (tgt := 32) (pc := 25) hC dX12_laysCosts_25 (by decide) (fun c11 => ?_) (fun c11 => ?_)
              · replace h := it_f c11 h
                refine g_aload_n (pc := 32) hC dX12_laysCosts_32 rfl ?_
                refine g_iload_n (pc := 33) hC dX12_laysCosts_33 rfl ?_
                refine g_iload_n (pc := 34) hC dX12_laysCosts_34 rfl ?_
                obtain ⟨v12, hc, h⟩ := cp_e h
                refine g_callVi (pc := 35) (As := [.int w2, .int w6]) (rest := []) hC (c_X12_leastBehind l E w2 w6 σ7 v12 hc) mi_X12_leastBehind mv_X12_leastBehind ob_55 rfl rfl lk_X12_230 rfl rfl (Nat.le_of_ble_eq_true rfl) ⟨by decide, by decide⟩ hab dX12_laysCosts_35 ?_
                exact hJ38 v12 h
              · replace h := it_t c11 h
                refine g_iconst (pc := 28) hC ki_0 dX12_laysCosts_28 ?_
                refine g_goto (tgt := 38) (pc := 29) hC dX12_laysCosts_29 (by decide) ?_
                exact hJ38 0 h
        obtain ⟨z2, hz2, h⟩ := lp_e h
        refine hL2 FU 0 σ3 z2 hz2 (fun σ8 ez => ?_)
        replace h : C_X12_laysCosts_7 w2 σ8 = some r1 := by rw [ez] at h; exact h
        delta C_X12_laysCosts_7 at h
        obtain ⟨v21, ev21, h⟩ := lt_e h
        refine g_iinc (v := v21) (lv2 := [some (.ref (E.2.1 55)), some (.int a1), some (.int v21), none, none]) (pc := 92) hC dX12_laysCosts_92 rfl ev21 rfl (Or.inr rfl) (hN _ (by decide)) ?_
        refine g_goto (tgt := 7) (pc := 95) hC dX12_laysCosts_95 (by decide) ?_
        exact ih1 v21 σ8 z1 (iter_l h hi1) kx1
  obtain ⟨z1, hz1, h⟩ := lp_e h
  refine hL1 FU a1 σ1 z1 hz1 (fun σ4 ez => ?_)
  replace h : C_X12_laysCosts_9 σ4 = some σr := by rw [ez] at h; exact h
  delta C_X12_laysCosts_9 at h
  exact g_retv (pc := 98) hC h hR dX12_laysCosts_98
