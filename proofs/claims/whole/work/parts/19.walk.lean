set_option maxRecDepth 20000 in
theorem c_X11_lowest (l : Launch) (E : uE) (a1 : Int32) (a2 : Int32) (a3 : Int32) (σ : uS) (r : Int32) (h : F_X11_lowest a1 a2 a3 σ = some r) : CtI l E yX11_lowest cX11_lowest 4 (some .int) 2 43 [.int a1, .int a2, .int a3] σ r σ := by
  refine enterI 1 [some (.int a1), some (.int a2), some (.int a3), none] (by decide +kernel) rfl (Nat.le_of_ble_eq_true rfl) (fun o K hnL hC hab hR => ?_)
  have hC : Cx E K RX11 cX11_lowest (some .int) 2 43 := hC
  have hN : ∀ k, k < 4 → k < K.2.2.2.2.2 := fun k hk => hnL ▸ hk
  delta F_X11_lowest at h
  refine g_iload_n (pc := 0) hC dX11_lowest_0 rfl ?_
  obtain ⟨v1, hc, h⟩ := cp_e h
  refine g_callSi (pc := 1) (As := [.int a1]) (rest := []) hC (c_J9_abs_0f7a4 l E a1 σ v1 hc) mi_J9_abs_0f7a4 ms_J9_abs_0f7a4 lk_X11_383 rfl rfl (Nat.le_of_ble_eq_true rfl) ⟨by decide, by decide⟩ hab dX11_lowest_1 ?_
  refine g_iload_n (pc := 4) hC dX11_lowest_4 rfl ?_
  obtain ⟨v2, hc, h⟩ := cp_e h
  refine g_callSi (pc := 5) (As := [.int a2]) (rest := [.int v1]) hC (c_J9_abs_0f7a4 l E a2 σ v2 hc) mi_J9_abs_0f7a4 ms_J9_abs_0f7a4 lk_X11_383 rfl rfl (Nat.le_of_ble_eq_true rfl) ⟨by decide, by decide⟩ hab dX11_lowest_5 ?_
  obtain ⟨v3, hc, h⟩ := cp_e h
  refine g_callSi (pc := 8) (As := [.int v1, .int v2]) (rest := []) hC (c_X11_commonPart l E v1 v2 σ v3 hc) mi_X11_commonPart ms_X11_commonPart lk_X11_386 rfl rfl (Nat.le_of_ble_eq_true rfl) ⟨by decide, by decide⟩ hab dX11_lowest_8 ?_
  refine g_istore_n (lv2 := [some (.int a1), some (.int a2), some (.int a3), some (.int v3)]) (pc := 11) hC dX11_lowest_11 rfl (Or.inr rfl) (hN _ (by decide)) ?_
  refine g_iload_n (pc := 12) hC dX11_lowest_12 rfl ?_
  obtain ⟨v5, ev5, h⟩ := lt_e h
  have hJ21 : Gd l E K 0 0 o σ 21 [none, none, none, some (.int v3)] [.int v5] := by
    refine g_iload_n (pc := 21) hC dX11_lowest_21 rfl ?_
    obtain ⟨v6, hc, h⟩ := cp_e h
    refine g_callSi (pc := 22) (As := [.int v5, .int v3]) (rest := []) hC (c_X11_quotient l E v5 v3 σ v6 hc) mi_X11_quotient ms_X11_quotient lk_X11_118 rfl rfl (Nat.le_of_ble_eq_true rfl) ⟨by decide, by decide⟩ hab dX11_lowest_22 ?_
    exact g_retp (pc := 25) hC h hR dX11_lowest_25
  refine g_if_eq (tgt := 20) (pc := 13) hC dX11_lowest_13 (by decide) (fun c4 => ?_) (fun c4 => ?_)
  · refine g_iload_n (pc := 20) hC dX11_lowest_20 rfl ?_
    refine g_mask [false, false, false, true] rfl ?_
    exact g_top (iv_t c4 ev5) hJ21
  · refine g_iload_n (pc := 16) hC dX11_lowest_16 rfl ?_
    refine g_goto (tgt := 21) (pc := 17) hC dX11_lowest_17 (by decide) ?_
    refine g_mask [false, false, false, true] rfl ?_
    exact g_top (iv_f c4 ev5) hJ21
set_option maxRecDepth 20000 in
theorem c_X12_thrown (l : Launch) (E : uE) (σ : uS) (r : Int32) (h : F_X12_thrown σ = some r) : CtI l E yX12_thrown cX12_thrown 1 (some .int) 0 0 [.ref (E.2.1 55)] σ r σ := by
  refine enterI 0 [some (.ref (E.2.1 55))] (by decide +kernel) rfl (Nat.le_of_ble_eq_true rfl) (fun o K hnL hC hab hR => ?_)
  have hC : Cx E K RX12 cX12_thrown (some .int) 0 0 := hC
  have hN : ∀ k, k < 1 → k < K.2.2.2.2.2 := fun k hk => hnL ▸ hk
  delta F_X12_thrown at h
  refine g_aload_n (pc := 0) hC dX12_thrown_0 rfl ?_
  refine fg_X12_119_55 (pc := 1) hC dX12_thrown_1 ?_
  exact g_retp (pc := 4) hC h hR dX12_thrown_4
set_option maxRecDepth 20000 in
theorem c_X12_right (l : Launch) (E : uE) (a1 : Int32) (a2 : Int32) (σ : uS) (r : Int32) (σr : uS) (h : F_X12_right a1 a2 σ = some (r, σr)) : CtI l E yX12_right cX12_right 3 (some .boolean) 0 0 [.ref (E.2.1 55), .int a1, .int a2] σ r σr := by
  refine enterI 0 [some (.ref (E.2.1 55)), some (.int a1), some (.int a2)] (by decide +kernel) rfl (Nat.le_of_ble_eq_true rfl) (fun o K hnL hC hab hR => ?_)
  have hC : Cx E K RX12 cX12_right (some .boolean) 0 0 := hC
  have hN : ∀ k, k < 3 → k < K.2.2.2.2.2 := fun k hk => hnL ▸ hk
  delta F_X12_right at h
  refine g_aload_n (pc := 0) hC dX12_right_0 rfl ?_
  refine fg_X12_119_55 (pc := 1) hC dX12_right_1 ?_
  have hJ16 : ∀ (σ4 : uS), J_X12_right_1 σ4 = some (r, σr) → Gd l E K 0 0 o σ4 16 [some (.ref (E.2.1 55)), none, none] [] := by
    intro σ4 h
    delta J_X12_right_1 at h
    refine g_aload_n (pc := 16) hC dX12_right_16 rfl ?_
    refine fg_X12_119_55 (pc := 17) hC dX12_right_17 ?_
    obtain ⟨v6, ev6, h⟩ := lt_e h
    have hJ28 : Gd l E K 0 0 o σ4 28 [none, none, none] [.int v6] := by
      obtain ⟨h01, h⟩ := bz_e h
      exact g_retz (pc := 28) hC h01 h hR dX12_right_28
    refine g_if_ne (tgt := 27) (pc := 20) hC dX12_right_20 (by decide) (fun c5 => ?_) (fun c5 => ?_)
    · refine g_iconst (pc := 27) hC ki_0 dX12_right_27 ?_
      refine g_mask [false, false, false] rfl ?_
      exact g_top (iv_f c5 ev6) hJ28
    · refine g_iconst (pc := 23) hC ki_1 dX12_right_23 ?_
      refine g_goto (tgt := 28) (pc := 24) hC dX12_right_24 (by decide) ?_
      refine g_mask [false, false, false] rfl ?_
      exact g_top (iv_t c5 ev6) hJ28
  refine g_if_ne (tgt := 16) (pc := 4) hC dX12_right_4 (by decide) (fun c1 => ?_) (fun c1 => ?_)
  · replace h := it_f c1 h
    refine g_mask [true, false, false] rfl ?_
    exact hJ16 σ h
  · replace h := it_t c1 h
    refine g_iload_n (pc := 7) hC dX12_right_7 rfl ?_
    refine g_if_ne (tgt := 16) (pc := 8) hC dX12_right_8 (by decide) (fun c2 => ?_) (fun c2 => ?_)
    · replace h := it_f c2 h
      refine g_mask [true, false, false] rfl ?_
      exact hJ16 σ h
    · replace h := it_t c2 h
      refine g_aload_n (pc := 11) hC dX12_right_11 rfl ?_
      refine g_iload_n (pc := 12) hC dX12_right_12 rfl ?_
      obtain ⟨σ3, eσ3, h⟩ := pf_e h
      refine fp_X12_119_55 (pc := 13) hC dX12_right_13 eσ3 ?_
      refine g_mask [true, false, false] rfl ?_
      exact hJ16 σ3 h
set_option maxRecDepth 20000 in
theorem c_X12_isIn (l : Launch) (E : uE) (a1 : Int32) (a2 : Int32) (a3 : Int32) (σ : uS) (r : Int32) (h : F_X12_isIn a1 a2 a3 σ = some r) : CtI l E yX12_isIn cX12_isIn 3 (some .boolean) 0 0 [.int a1, .int a2, .int a3] σ r σ := by
  refine enterI 0 [some (.int a1), some (.int a2), some (.int a3)] (by decide +kernel) rfl (Nat.le_of_ble_eq_true rfl) (fun o K hnL hC hab hR => ?_)
  have hC : Cx E K RX12 cX12_isIn (some .boolean) 0 0 := hC
  have hN : ∀ k, k < 3 → k < K.2.2.2.2.2 := fun k hk => hnL ▸ hk
  delta F_X12_isIn at h
  refine g_iload_n (pc := 0) hC dX12_isIn_0 rfl ?_
  refine g_iload_n (pc := 1) hC dX12_isIn_1 rfl ?_
  have hJ15 : ∀ (v3 : Int32), J_X12_isIn_2 v3 = some r → Gd l E K 0 0 o σ 15 [none, none, none] [.int v3] := by
    intro v3 h
    delta J_X12_isIn_2 at h
    obtain ⟨h01, h⟩ := bz_e h
    exact g_retzp (pc := 15) hC h01 h hR dX12_isIn_15
  have hJ14 : J_X12_isIn_1 = some r → Gd l E K 0 0 o σ 14 [none, none, none] [] := by
    intro h
    delta J_X12_isIn_1 at h
    refine g_iconst (pc := 14) hC ki_0 dX12_isIn_14 ?_
    exact hJ15 0 h
  refine g_icmp_lt (tgt := 14) (pc := 2) hC dX12_isIn_2 (by decide) (fun c1 => ?_) (fun c1 => ?_)
  · replace h := it_t c1 h
    refine g_mask [false, false, false] rfl ?_
    exact hJ14 h
  · replace h := it_f c1 h
    refine g_iload_n (pc := 5) hC dX12_isIn_5 rfl ?_
    refine g_iload_n (pc := 6) hC dX12_isIn_6 rfl ?_
    refine g_icmp_gt (tgt := 14) (pc := 7) hC dX12_isIn_7 (by decide) (fun c2 => ?_) (fun c2 => ?_)
    · replace h := it_t c2 h
      refine g_mask [false, false, false] rfl ?_
      exact hJ14 h
    · replace h := it_f c2 h
      refine g_iconst (pc := 10) hC ki_1 dX12_isIn_10 ?_
      refine g_goto (tgt := 15) (pc := 11) hC dX12_isIn_11 (by decide) ?_
      refine g_mask [false, false, false] rfl ?_
      exact hJ15 1 h
set_option maxRecDepth 20000 in
theorem c_X12_apart (l : Launch) (E : uE) (a1 : Int32) (a2 : Int32) (σ : uS) (r : Int32) (h : F_X12_apart a1 a2 σ = some r) : CtI l E yX12_apart cX12_apart 2 (some .int) 0 0 [.int a1, .int a2] σ r σ := by
  refine enterI 0 [some (.int a1), some (.int a2)] (by decide +kernel) rfl (Nat.le_of_ble_eq_true rfl) (fun o K hnL hC hab hR => ?_)
  have hC : Cx E K RX12 cX12_apart (some .int) 0 0 := hC
  have hN : ∀ k, k < 2 → k < K.2.2.2.2.2 := fun k hk => hnL ▸ hk
  delta F_X12_apart at h
  refine g_iload_n (pc := 0) hC dX12_apart_0 rfl ?_
  refine g_iload_n (pc := 1) hC dX12_apart_1 rfl ?_
  obtain ⟨v2, ev2, h⟩ := lt_e h
  have hJ14 : Gd l E K 0 0 o σ 14 [none, none] [.int v2] := by
    exact g_retp (pc := 14) hC h hR dX12_apart_14
  refine g_icmp_le (tgt := 11) (pc := 2) hC dX12_apart_2 (by decide) (fun c1 => ?_) (fun c1 => ?_)
  · refine g_iload_n (pc := 11) hC dX12_apart_11 rfl ?_
    refine g_iload_n (pc := 12) hC dX12_apart_12 rfl ?_
    refine g_isub (pc := 13) hC dX12_apart_13 ?_
    refine g_mask [false, false] rfl ?_
    exact g_top (iv_t c1 ev2) hJ14
  · refine g_iload_n (pc := 5) hC dX12_apart_5 rfl ?_
    refine g_iload_n (pc := 6) hC dX12_apart_6 rfl ?_
    refine g_isub (pc := 7) hC dX12_apart_7 ?_
    refine g_goto (tgt := 14) (pc := 8) hC dX12_apart_8 (by decide) ?_
    refine g_mask [false, false] rfl ?_
    exact g_top (iv_f c1 ev2) hJ14
set_option maxRecDepth 20000 in
theorem c_X12_divisor (l : Launch) (E : uE) (a1 : Int32) (a2 : Int32) (σ : uS) (r : Int32) (h : F_X12_divisor a1 a2 σ = some r) : CtI l E yX12_divisor cX12_divisor 5 (some .int) 0 0 [.int a1, .int a2] σ r σ := by
  refine enterI 3 [some (.int a1), some (.int a2), none, none, none] (by decide +kernel) rfl (Nat.le_of_ble_eq_true rfl) (fun o K hnL hC hab hR => ?_)
  have hC : Cx E K RX12 cX12_divisor (some .int) 0 0 := hC
  have hN : ∀ k, k < 5 → k < K.2.2.2.2.2 := fun k hk => hnL ▸ hk
  delta F_X12_divisor at h
  refine g_iload_n (pc := 0) hC dX12_divisor_0 rfl ?_
  refine g_istore_n (lv2 := [some (.int a1), some (.int a2), some (.int a1), none, none]) (pc := 1) hC dX12_divisor_1 rfl (Or.inr rfl) (hN _ (by decide)) ?_
  refine g_iload_n (pc := 2) hC dX12_divisor_2 rfl ?_
  refine g_istore_n (lv2 := [some (.int a1), some (.int a2), some (.int a1), some (.int a2), none]) (pc := 3) hC dX12_divisor_3 rfl (Or.inr rfl) (hN _ (by decide)) ?_
  have hL1 : ∀ (n : Nat) (w1 : Int32) (w2 : Int32) (z1 : Int32), iter n (fun z => B_X12_divisor_2 z.1 z.2) (w1, w2) = some z1 → (∀ (v3 : Int32), z1 = v3 → Gd l E K 0 0 o σ 21 [none, none, some (.int v3), none, none] []) → Gd l E K 0 0 o σ 4 [none, none, some (.int w1), some (.int w2), none] [] := by
    intro n
    induction n with
    | zero =>
      intro w1 w2 z1 hi
      exact (iter_0 hi).elim
    | succ n ih1 =>
      intro w1 w2 z1 hi1 kx1
      obtain ⟨r1, h, hi1⟩ := iter_s hi1
      replace h : B_X12_divisor_2 w1 w2 = some r1 := h
      delta B_X12_divisor_2 at h
      refine g_iload_n (pc := 4) hC dX12_divisor_4 rfl ?_
      refine g_if_eq (tgt := 21) (pc := 5) hC dX12_divisor_5 (by decide) (fun c4 => ?_) (fun c4 => ?_)
      · replace h := it_t c4 h
        refine g_mask [false, false, true, false, false] rfl ?_
        exact kx1 w1 (iter_r h hi1)
      · replace h := it_f c4 h
        refine g_iload_n (pc := 8) hC dX12_divisor_8 rfl ?_
        refine g_iload_n (pc := 9) hC dX12_divisor_9 rfl ?_
        obtain ⟨v5, ev5, nv5, h⟩ := rmd_e h
        refine g_irem (pc := 10) hC nv5 dX12_divisor_10 ?_
        refine g_top ev5 ?_
        refine g_istore (lv2 := [none, none, some (.int w1), some (.int w2), some (.int v5)]) (pc := 11) hC dX12_divisor_11 rfl (Or.inr rfl) (hN _ (by decide)) ?_
        refine g_iload_n (pc := 13) hC dX12_divisor_13 rfl ?_
        refine g_istore_n (lv2 := [none, none, some (.int w2), some (.int w2), some (.int v5)]) (pc := 14) hC dX12_divisor_14 rfl (Or.inr rfl) (hN _ (by decide)) ?_
        refine g_iload (pc := 15) hC dX12_divisor_15 rfl ?_
        refine g_istore_n (lv2 := [none, none, some (.int w2), some (.int v5), some (.int v5)]) (pc := 17) hC dX12_divisor_17 rfl (Or.inr rfl) (hN _ (by decide)) ?_
        refine g_goto (tgt := 4) (pc := 18) hC dX12_divisor_18 (by decide) ?_
        refine g_mask [false, false, true, true, false] rfl ?_
        exact ih1 w2 v5 z1 (iter_l h hi1) kx1
  obtain ⟨z1, hz1, h⟩ := lp_e h
  refine g_mask [false, false, true, true, false] rfl ?_
  refine hL1 FU a1 a2 z1 hz1 (fun v3 ez => ?_)
  replace h : C_X12_divisor_3 v3 = some r := by rw [ez] at h; exact h
  delta C_X12_divisor_3 at h
  refine g_iload_n (pc := 21) hC dX12_divisor_21 rfl ?_
  obtain ⟨v7, ev7, h⟩ := lt_e h
  have hJ31 : Gd l E K 0 0 o σ 31 [none, none, none, none, none] [.int v7] := by
    exact g_retp (pc := 31) hC h hR dX12_divisor_31
  refine g_if_ge (tgt := 30) (pc := 22) hC dX12_divisor_22 (by decide) (fun c6 => ?_) (fun c6 => ?_)
  · refine g_iload_n (pc := 30) hC dX12_divisor_30 rfl ?_
    refine g_mask [false, false, false, false, false] rfl ?_
    exact g_top (iv_t c6 ev7) hJ31
  · refine g_iload_n (pc := 25) hC dX12_divisor_25 rfl ?_
    refine g_ineg (pc := 26) hC dX12_divisor_26 ?_
    refine g_goto (tgt := 31) (pc := 27) hC dX12_divisor_27 (by decide) ?_
    refine g_mask [false, false, false, false, false] rfl ?_
    exact g_top (iv_f c6 ev7) hJ31
set_option maxRecDepth 20000 in
theorem c_X12_down (l : Launch) (E : uE) (a1 : Int32) (a2 : Int32) (σ : uS) (r : Int32) (h : F_X12_down a1 a2 σ = some r) : CtI l E yX12_down cX12_down 3 (some .int) 0 0 [.int a1, .int a2] σ r σ := by
  refine enterI 1 [some (.int a1), some (.int a2), none] (by decide +kernel) rfl (Nat.le_of_ble_eq_true rfl) (fun o K hnL hC hab hR => ?_)
  have hC : Cx E K RX12 cX12_down (some .int) 0 0 := hC
  have hN : ∀ k, k < 3 → k < K.2.2.2.2.2 := fun k hk => hnL ▸ hk
  delta F_X12_down at h
  refine g_iload_n (pc := 0) hC dX12_down_0 rfl ?_
  refine g_iload_n (pc := 1) hC dX12_down_1 rfl ?_
  obtain ⟨v1, ev1, nv1, h⟩ := dv_e h
  refine g_idiv (pc := 2) hC nv1 dX12_down_2 ?_
  refine g_top ev1 ?_
  refine g_istore_n (lv2 := [some (.int a1), some (.int a2), some (.int v1)]) (pc := 3) hC dX12_down_3 rfl (Or.inr rfl) (hN _ (by decide)) ?_
  refine g_iload_n (pc := 4) hC dX12_down_4 rfl ?_
  refine g_iload_n (pc := 5) hC dX12_down_5 rfl ?_
  obtain ⟨v2, ev2, nv2, h⟩ := rmd_e h
  refine g_irem (pc := 6) hC nv2 dX12_down_6 ?_
  refine g_top ev2 ?_
  have hJ21 : ∀ (v5 : Int32), J_X12_down_2 v5 = some r → Gd l E K 0 0 o σ 21 [none, none, none] [.int v5] := by
    intro v5 h
    delta J_X12_down_2 at h
    exact g_retp (pc := 21) hC h hR dX12_down_21
  have hJ20 : J_X12_down_1 v1 = some r → Gd l E K 0 0 o σ 20 [none, none, some (.int v1)] [] := by
    intro h
    delta J_X12_down_1 at h
    refine g_iload_n (pc := 20) hC dX12_down_20 rfl ?_
    refine g_mask [false, false, false] rfl ?_
    exact hJ21 v1 h
  refine g_if_eq (tgt := 20) (pc := 7) hC dX12_down_7 (by decide) (fun c3 => ?_) (fun c3 => ?_)
  · replace h := it_t c3 h
    refine g_mask [false, false, true] rfl ?_
    exact hJ20 h
  · replace h := it_f c3 h
    refine g_iload_n (pc := 10) hC dX12_down_10 rfl ?_
    refine g_if_ge (tgt := 20) (pc := 11) hC dX12_down_11 (by decide) (fun c4 => ?_) (fun c4 => ?_)
    · replace h := it_t c4 h
      refine g_mask [false, false, true] rfl ?_
      exact hJ20 h
    · replace h := it_f c4 h
      refine g_iload_n (pc := 14) hC dX12_down_14 rfl ?_
      refine g_iconst (pc := 15) hC ki_1 dX12_down_15 ?_
      refine g_isub (pc := 16) hC dX12_down_16 ?_
      refine g_goto (tgt := 21) (pc := 17) hC dX12_down_17 (by decide) ?_
      refine g_mask [false, false, false] rfl ?_
      exact hJ21 (v1 - 1) h
set_option maxRecDepth 20000 in
theorem c_X12_comes (l : Launch) (E : uE) (a1 : Int32) (σ : uS) (σr : uS) (h : F_X12_comes a1 σ = some σr) : CtV l E yX12_comes cX12_comes 4 0 0 [.ref (E.2.1 55), .int a1] σ σr := by
  refine enterV 2 [some (.ref (E.2.1 55)), some (.int a1), none, none] (by decide +kernel) rfl (Nat.le_of_ble_eq_true rfl) (fun o K hnL hC hab hR => ?_)
  have hC : Cx E K RX12 cX12_comes none 0 0 := hC
  have hN : ∀ k, k < 4 → k < K.2.2.2.2.2 := fun k hk => hnL ▸ hk
  delta F_X12_comes at h
  refine g_bipush (pc := 0) hC kb_24 dX12_comes_0 ?_
  refine g_istore_n (lv2 := [some (.ref (E.2.1 55)), some (.int a1), some (.int 24), none]) (pc := 2) hC dX12_comes_2 rfl (Or.inr rfl) (hN _ (by decide)) ?_
  have hL1 : ∀ (n : Nat) (w1 : Int32) (σ2 : uS) (z1 : uS), iter n (fun z => B_X12_comes_2 a1 z.1 z.2) (w1, σ2) = some z1 → (∀ (σ3 : uS), z1 = σ3 → Gd l E K 0 0 o σ3 55 [none, none, none, none] []) → Gd l E K 0 0 o σ2 3 [some (.ref (E.2.1 55)), some (.int a1), some (.int w1), none] [] := by
    intro n
    induction n with
    | zero =>
      intro w1 σ2 z1 hi
      exact (iter_0 hi).elim
    | succ n ih1 =>
      intro w1 σ2 z1 hi1 kx1
      obtain ⟨r1, h, hi1⟩ := iter_s hi1
      replace h : B_X12_comes_2 a1 w1 σ2 = some r1 := h
      delta B_X12_comes_2 at h
      refine g_iload_n (pc := 3) hC dX12_comes_3 rfl ?_
      refine g_if_lt (tgt := 55) (pc := 4) hC dX12_comes_4 (by decide) (fun c4 => ?_) (fun c4 => ?_)
      · replace h := it_t c4 h
        refine g_mask [false, false, false, false] rfl ?_
        exact kx1 σ2 (iter_r h hi1)
      · replace h := it_f c4 h
        refine g_iload_n (pc := 7) hC dX12_comes_7 rfl ?_
        refine g_iload_n (pc := 8) hC dX12_comes_8 rfl ?_
        refine g_ishr (pc := 9) hC dX12_comes_9 ?_
        refine g_sipush (pc := 10) hC ks_255 dX12_comes_10 ?_
        refine g_iand (pc := 13) hC dX12_comes_13 ?_
        obtain ⟨v5, ev5, h⟩ := lt_e h
        refine g_top ev5 ?_
        refine g_istore_n (lv2 := [some (.ref (E.2.1 55)), some (.int a1), some (.int w1), some (.int v5)]) (pc := 14) hC dX12_comes_14 rfl (Or.inr rfl) (hN _ (by decide)) ?_
        refine g_aload_n (pc := 15) hC dX12_comes_15 rfl ?_
        refine fg_X12_22_55 (pc := 16) hC dX12_comes_16 ?_
        refine g_aload_n (pc := 19) hC dX12_comes_19 rfl ?_
        refine fg_X12_123_55 (pc := 20) hC dX12_comes_20 ?_
        refine g_iload_n (pc := 23) hC dX12_comes_23 rfl ?_
        refine g_bipush (pc := 24) hC kb_127 dX12_comes_24 ?_
        obtain ⟨v7, ev7, h⟩ := lt_e h
        have hJ38 : Gd l E K 0 0 o σ2 38 [some (.ref (E.2.1 55)), some (.int a1), some (.int w1), none] [.int v7, .int (σ2 55 7), .ref (E.2.1 60)] := by
          obtain ⟨σ8, eσ8, nσ8, h⟩ := wr_e h
          refine g_iast (pc := 38) hC 60 (by decide) (ar_60 _ _) nσ8 dX12_comes_38 eσ8 ?_
          refine g_aload_n (pc := 39) hC dX12_comes_39 rfl ?_
          refine g_dup (pc := 40) hC rfl dX12_comes_40 ?_
          refine fg_X12_123_55 (pc := 41) hC dX12_comes_41 ?_
          refine g_iconst (pc := 44) hC ki_1 dX12_comes_44 ?_
          refine g_iadd (pc := 45) hC dX12_comes_45 ?_
          obtain ⟨σ9, eσ9, h⟩ := pf_e h
          refine fp_X12_123_55 (pc := 46) hC dX12_comes_46 eσ9 ?_
          obtain ⟨v10, ev10, h⟩ := lt_e h
          refine g_iinc (v := v10) (lv2 := [some (.ref (E.2.1 55)), some (.int a1), some (.int v10), none]) (pc := 49) hC dX12_comes_49 rfl ev10 rfl (Or.inr rfl) (hN _ (by decide)) ?_
          refine g_goto (tgt := 3) (pc := 52) hC dX12_comes_52 (by decide) ?_
          exact ih1 v10 σ9 z1 (iter_l h hi1) kx1
        refine g_icmp_le (tgt := 37) (pc := 26) hC dX12_comes_26 (by decide) (fun c6 => ?_) (fun c6 => ?_)
        · refine g_iload_n (pc := 37) hC dX12_comes_37 rfl ?_
          refine g_mask [true, true, true, false] rfl ?_
          exact g_top (iv_t c6 ev7) hJ38
        · refine g_iload_n (pc := 29) hC dX12_comes_29 rfl ?_
          refine g_sipush (pc := 30) hC ks_256 dX12_comes_30 ?_
          refine g_isub (pc := 33) hC dX12_comes_33 ?_
          refine g_goto (tgt := 38) (pc := 34) hC dX12_comes_34 (by decide) ?_
          refine g_mask [true, true, true, false] rfl ?_
          exact g_top (iv_f c6 ev7) hJ38
  obtain ⟨z1, hz1, h⟩ := lp_e h
  refine hL1 FU 24 σ z1 hz1 (fun σ3 ez => ?_)
  replace h : C_X12_comes_3 σ3 = some σr := by rw [ez] at h; exact h
  delta C_X12_comes_3 at h
  exact g_retv (pc := 55) hC h hR dX12_comes_55
set_option maxRecDepth 20000 in
theorem c_X12_feed (l : Launch) (E : uE) (a1 : Int32) (a2 : Int32) (a3 : Int32) (a4 : Int32) (a5 : Int32) (σ : uS) (r : Int32) (σr : uS) (h : F_X12_feed a1 a2 a3 a4 a5 σ = some (r, σr)) : CtI l E yX12_feed cX12_feed 6 (some .int) 1 23 [.ref (E.2.1 55), .int a1, .int a2, .int a3, .int a4, .int a5] σ r σr := by
  refine enterI 0 [some (.ref (E.2.1 55)), some (.int a1), some (.int a2), some (.int a3), some (.int a4), some (.int a5)] (by decide +kernel) rfl (Nat.le_of_ble_eq_true rfl) (fun o K hnL hC hab hR => ?_)
  have hC : Cx E K RX12 cX12_feed (some .int) 1 23 := hC
  have hN : ∀ k, k < 6 → k < K.2.2.2.2.2 := fun k hk => hnL ▸ hk
  delta F_X12_feed at h
  refine g_aload_n (pc := 0) hC dX12_feed_0 rfl ?_
  refine g_iconst (pc := 1) hC ki_0 dX12_feed_1 ?_
  obtain ⟨σ1, eσ1, h⟩ := pf_e h
  refine fp_X12_119_55 (pc := 2) hC dX12_feed_2 eσ1 ?_
  refine g_aload_n (pc := 5) hC dX12_feed_5 rfl ?_
  refine fg_X12_123_55 (pc := 6) hC dX12_feed_6 ?_
  refine g_bipush (pc := 9) hC kb_20 dX12_feed_9 ?_
  refine g_iadd (pc := 11) hC dX12_feed_11 ?_
  refine g_sipush (pc := 12) hC ks_400 dX12_feed_12 ?_
  refine g_icmp_le (tgt := 20) (pc := 15) hC dX12_feed_15 (by decide) (fun c2 => ?_) (fun c2 => ?_)
  · replace h := it_t c2 h
    refine g_aload_n (pc := 20) hC dX12_feed_20 rfl ?_
    refine g_iload_n (pc := 21) hC dX12_feed_21 rfl ?_
    obtain ⟨σ3, hc, h⟩ := cp_e h
    refine g_callVv (pc := 22) (As := [.int a1]) (rest := []) hC (c_X12_comes l E a1 σ1 σ3 hc) mi_X12_comes mv_X12_comes ob_55 rfl rfl lk_X12_126 rfl rfl (Nat.le_of_ble_eq_true rfl) ⟨by decide, by decide⟩ hab dX12_feed_22 ?_
    refine g_aload_n (pc := 25) hC dX12_feed_25 rfl ?_
    refine g_iload_n (pc := 26) hC dX12_feed_26 rfl ?_
    obtain ⟨σ4, hc, h⟩ := cp_e h
    refine g_callVv (pc := 27) (As := [.int a2]) (rest := []) hC (c_X12_comes l E a2 σ3 σ4 hc) mi_X12_comes mv_X12_comes ob_55 rfl rfl lk_X12_126 rfl rfl (Nat.le_of_ble_eq_true rfl) ⟨by decide, by decide⟩ hab dX12_feed_27 ?_
    refine g_aload_n (pc := 30) hC dX12_feed_30 rfl ?_
    refine g_iload_n (pc := 31) hC dX12_feed_31 rfl ?_
    obtain ⟨σ5, hc, h⟩ := cp_e h
    refine g_callVv (pc := 32) (As := [.int a3]) (rest := []) hC (c_X12_comes l E a3 σ4 σ5 hc) mi_X12_comes mv_X12_comes ob_55 rfl rfl lk_X12_126 rfl rfl (Nat.le_of_ble_eq_true rfl) ⟨by decide, by decide⟩ hab dX12_feed_32 ?_
    refine g_aload_n (pc := 35) hC dX12_feed_35 rfl ?_
    refine g_iload (pc := 36) hC dX12_feed_36 rfl ?_
    obtain ⟨σ6, hc, h⟩ := cp_e h
    refine g_callVv (pc := 38) (As := [.int a4]) (rest := []) hC (c_X12_comes l E a4 σ5 σ6 hc) mi_X12_comes mv_X12_comes ob_55 rfl rfl lk_X12_126 rfl rfl (Nat.le_of_ble_eq_true rfl) ⟨by decide, by decide⟩ hab dX12_feed_38 ?_
    refine g_aload_n (pc := 41) hC dX12_feed_41 rfl ?_
    refine g_iload (pc := 42) hC dX12_feed_42 rfl ?_
    obtain ⟨σ7, hc, h⟩ := cp_e h
    refine g_callVv (pc := 44) (As := [.int a5]) (rest := []) hC (c_X12_comes l E a5 σ6 σ7 hc) mi_X12_comes mv_X12_comes ob_55 rfl rfl lk_X12_126 rfl rfl (Nat.le_of_ble_eq_true rfl) ⟨by decide, by decide⟩ hab dX12_feed_44 ?_
    refine g_aload_n (pc := 47) hC dX12_feed_47 rfl ?_
    refine fg_X12_123_55 (pc := 48) hC dX12_feed_48 ?_
    exact g_ret (pc := 51) hC h hR dX12_feed_51
  · replace h := it_f c2 h
    refine g_iconst (pc := 18) hC ki_m1 dX12_feed_18 ?_
    exact g_ret (pc := 19) hC h hR dX12_feed_19
set_option maxRecDepth 20000 in
theorem c_X12_adds (l : Launch) (E : uE) (a1 : Int32) (σ : uS) (σr : uS) (h : F_X12_adds a1 σ = some σr) : CtV l E yX12_adds cX12_adds 2 0 0 [.ref (E.2.1 55), .int a1] σ σr := by
  refine enterV 0 [some (.ref (E.2.1 55)), some (.int a1)] (by decide +kernel) rfl (Nat.le_of_ble_eq_true rfl) (fun o K hnL hC hab hR => ?_)
  have hC : Cx E K RX12 cX12_adds none 0 0 := hC
  have hN : ∀ k, k < 2 → k < K.2.2.2.2.2 := fun k hk => hnL ▸ hk
  delta F_X12_adds at h
  refine g_aload_n (pc := 0) hC dX12_adds_0 rfl ?_
  refine fg_X12_19_55 (pc := 1) hC dX12_adds_1 ?_
  refine g_aload_n (pc := 4) hC dX12_adds_4 rfl ?_
  refine fg_X12_130_55 (pc := 5) hC dX12_adds_5 ?_
  refine g_iload_n (pc := 8) hC dX12_adds_8 rfl ?_
  obtain ⟨σ1, eσ1, nσ1, h⟩ := wr_e h
  refine g_iast (pc := 9) hC 59 (by decide) (ar_59 _ _) nσ1 dX12_adds_9 eσ1 ?_
  refine g_aload_n (pc := 10) hC dX12_adds_10 rfl ?_
  refine g_dup (pc := 11) hC rfl dX12_adds_11 ?_
  refine fg_X12_130_55 (pc := 12) hC dX12_adds_12 ?_
  refine g_iconst (pc := 15) hC ki_1 dX12_adds_15 ?_
  refine g_iadd (pc := 16) hC dX12_adds_16 ?_
  obtain ⟨σ2, eσ2, h⟩ := pf_e h
  refine fp_X12_130_55 (pc := 17) hC dX12_adds_17 eσ2 ?_
  exact g_retv (pc := 20) hC h hR dX12_adds_20
set_option maxRecDepth 20000 in
theorem c_X12_samples (l : Launch) (E : uE) (a1 : Int32) (σ : uS) (r : Int32) (σr : uS) (h : F_X12_samples a1 σ = some (r, σr)) : CtI l E yX12_samples cX12_samples 3 (some .int) 1 22 [.ref (E.2.1 55), .int a1] σ r σr := by
  refine enterI 1 [some (.ref (E.2.1 55)), some (.int a1), none] (by decide +kernel) rfl (Nat.le_of_ble_eq_true rfl) (fun o K hnL hC hab hR => ?_)
  have hC : Cx E K RX12 cX12_samples (some .int) 1 22 := hC
  have hN : ∀ k, k < 3 → k < K.2.2.2.2.2 := fun k hk => hnL ▸ hk
  delta F_X12_samples at h
  refine g_aload_n (pc := 0) hC dX12_samples_0 rfl ?_
  refine g_iconst (pc := 1) hC ki_0 dX12_samples_1 ?_
  obtain ⟨σ1, eσ1, h⟩ := pf_e h
  refine fp_X12_119_55 (pc := 2) hC dX12_samples_2 eσ1 ?_
  refine g_iload_n (pc := 5) hC dX12_samples_5 rfl ?_
  refine g_iconst (pc := 6) hC ki_0 dX12_samples_6 ?_
  refine g_aload_n (pc := 7) hC dX12_samples_7 rfl ?_
  refine fg_X12_123_55 (pc := 8) hC dX12_samples_8 ?_
  obtain ⟨v2, hc, h⟩ := cp_e h
  refine g_callSi (pc := 11) (As := [.int a1, .int 0, .int (σ1 55 7)]) (rest := []) hC (c_X12_isIn l E a1 0 (σ1 55 7) σ1 v2 hc) mi_X12_isIn ms_X12_isIn lk_X12_133 rfl rfl (Nat.le_of_ble_eq_true rfl) ⟨by decide, by decide⟩ hab dX12_samples_11 ?_
  have hJ29 : J_X12_samples_4 σ1 = some (r, σr) → Gd l E K 0 0 o σ1 29 [none, none, none] [] := by
    intro h
    delta J_X12_samples_4 at h
    refine g_sipush (pc := 29) hC ks_m1000 dX12_samples_29 ?_
    exact g_ret (pc := 32) hC h hR dX12_samples_32
  refine g_if_eq (tgt := 29) (pc := 14) hC dX12_samples_14 (by decide) (fun c3 => ?_) (fun c3 => ?_)
  · replace h := it_t c3 h
    refine g_mask [false, false, false] rfl ?_
    exact hJ29 h
  · replace h := it_f c3 h
    refine g_aload_n (pc := 17) hC dX12_samples_17 rfl ?_
    refine fg_X12_130_55 (pc := 18) hC dX12_samples_18 ?_
    refine g_iload_n (pc := 21) hC dX12_samples_21 rfl ?_
    refine g_iadd (pc := 22) hC dX12_samples_22 ?_
    refine g_sipush (pc := 23) hC ks_800 dX12_samples_23 ?_
    refine g_icmp_le (tgt := 33) (pc := 26) hC dX12_samples_26 (by decide) (fun c4 => ?_) (fun c4 => ?_)
    · replace h := it_t c4 h
      refine g_iconst (pc := 33) hC ki_0 dX12_samples_33 ?_
      refine g_istore_n (lv2 := [some (.ref (E.2.1 55)), some (.int a1), some (.int 0)]) (pc := 34) hC dX12_samples_34 rfl (Or.inr rfl) (hN _ (by decide)) ?_
      have hL1 : ∀ (n : Nat) (w5 : Int32) (σ6 : uS) (z1 : uS), iter n (fun z => B_X12_samples_2 a1 z.1 z.2) (w5, σ6) = some z1 → (∀ (σ7 : uS), z1 = σ7 → Gd l E K 0 0 o σ7 56 [some (.ref (E.2.1 55)), none, none] []) → Gd l E K 0 0 o σ6 35 [some (.ref (E.2.1 55)), some (.int a1), some (.int w5)] [] := by
        intro n
        induction n with
        | zero =>
          intro w5 σ6 z1 hi
          exact (iter_0 hi).elim
        | succ n ih1 =>
          intro w5 σ6 z1 hi1 kx1
          obtain ⟨r1, h, hi1⟩ := iter_s hi1
          replace h : B_X12_samples_2 a1 w5 σ6 = some r1 := h
          delta B_X12_samples_2 at h
          refine g_iload_n (pc := 35) hC dX12_samples_35 rfl ?_
          refine g_iload_n (pc := 36) hC dX12_samples_36 rfl ?_
          refine g_icmp_ge (tgt := 56) (pc := 37) hC dX12_samples_37 (by decide) (fun c8 => ?_) (fun c8 => ?_)
          · replace h := it_t c8 h
            refine g_mask [true, false, false] rfl ?_
            exact kx1 σ6 (iter_r h hi1)
          · replace h := it_f c8 h
            refine g_aload_n (pc := 40) hC dX12_samples_40 rfl ?_
            refine g_aload_n (pc := 41) hC dX12_samples_41 rfl ?_
            refine fg_X12_22_55 (pc := 42) hC dX12_samples_42 ?_
            refine g_iload_n (pc := 45) hC dX12_samples_45 rfl ?_
            obtain ⟨v9, ev9, nv9, h⟩ := rd_e h
            refine g_iald (pc := 46) hC 60 (by decide) (ar_60 _ _ _) nv9 dX12_samples_46 ?_
            refine g_top ev9 ?_
            obtain ⟨σ10, hc, h⟩ := cp_e h
            refine g_callVv (pc := 47) (As := [.int v9]) (rest := []) hC (c_X12_adds l E v9 σ6 σ10 hc) mi_X12_adds mv_X12_adds ob_55 rfl rfl lk_X12_137 rfl rfl (Nat.le_of_ble_eq_true rfl) ⟨by decide, by decide⟩ hab dX12_samples_47 ?_
            obtain ⟨v11, ev11, h⟩ := lt_e h
            refine g_iinc (v := v11) (lv2 := [some (.ref (E.2.1 55)), some (.int a1), some (.int v11)]) (pc := 50) hC dX12_samples_50 rfl ev11 rfl (Or.inr rfl) (hN _ (by decide)) ?_
            refine g_goto (tgt := 35) (pc := 53) hC dX12_samples_53 (by decide) ?_
            exact ih1 v11 σ10 z1 (iter_l h hi1) kx1
      obtain ⟨z1, hz1, h⟩ := lp_e h
      refine hL1 FU 0 σ1 z1 hz1 (fun σ7 ez => ?_)
      replace h : C_X12_samples_3 σ7 = some (r, σr) := by rw [ez] at h; exact h
      delta C_X12_samples_3 at h
      refine g_aload_n (pc := 56) hC dX12_samples_56 rfl ?_
      refine g_iconst (pc := 57) hC ki_0 dX12_samples_57 ?_
      obtain ⟨σ12, eσ12, h⟩ := pf_e h
      refine fp_X12_123_55 (pc := 58) hC dX12_samples_58 eσ12 ?_
      refine g_aload_n (pc := 61) hC dX12_samples_61 rfl ?_
      refine fg_X12_130_55 (pc := 62) hC dX12_samples_62 ?_
      exact g_ret (pc := 65) hC h hR dX12_samples_65
    · replace h := it_f c4 h
      refine g_mask [false, false, false] rfl ?_
      exact hJ29 h
set_option maxRecDepth 20000 in
theorem c_X12_cycles (l : Launch) (E : uE) (a1 : Int32) (a2 : Int32) (a3 : Int32) (σ : uS) (r : Int32) (σr : uS) (h : F_X12_cycles a1 a2 a3 σ = some (r, σr)) : CtI l E yX12_cycles cX12_cycles 6 (some .int) 1 22 [.ref (E.2.1 55), .int a1, .int a2, .int a3] σ r σr := by
  refine enterI 2 [some (.ref (E.2.1 55)), some (.int a1), some (.int a2), some (.int a3), none, none] (by decide +kernel) rfl (Nat.le_of_ble_eq_true rfl) (fun o K hnL hC hab hR => ?_)
  have hC : Cx E K RX12 cX12_cycles (some .int) 1 22 := hC
  have hN : ∀ k, k < 6 → k < K.2.2.2.2.2 := fun k hk => hnL ▸ hk
  delta F_X12_cycles at h
  refine g_aload_n (pc := 0) hC dX12_cycles_0 rfl ?_
  refine g_iconst (pc := 1) hC ki_0 dX12_cycles_1 ?_
  obtain ⟨σ1, eσ1, h⟩ := pf_e h
  refine fp_X12_119_55 (pc := 2) hC dX12_cycles_2 eσ1 ?_
  refine g_iload_n (pc := 5) hC dX12_cycles_5 rfl ?_
  refine g_iconst (pc := 6) hC ki_2 dX12_cycles_6 ?_
  refine g_bipush (pc := 7) hC kb_48 dX12_cycles_7 ?_
  obtain ⟨v2, hc, h⟩ := cp_e h
  refine g_callSi (pc := 9) (As := [.int a1, .int 2, .int 48]) (rest := []) hC (c_X12_isIn l E a1 2 48 σ1 v2 hc) mi_X12_isIn ms_X12_isIn lk_X12_133 rfl rfl (Nat.le_of_ble_eq_true rfl) ⟨by decide, by decide⟩ hab dX12_cycles_9 ?_
  have hJ49 : J_X12_cycles_7 σ1 = some (r, σr) → Gd l E K 0 0 o σ1 49 [none, none, none, none, none, none] [] := by
    intro h
    delta J_X12_cycles_7 at h
    refine g_sipush (pc := 49) hC ks_m1000 dX12_cycles_49 ?_
    exact g_ret (pc := 52) hC h hR dX12_cycles_52
  refine g_if_eq (tgt := 49) (pc := 12) hC dX12_cycles_12 (by decide) (fun c3 => ?_) (fun c3 => ?_)
  · replace h := it_t c3 h
    refine g_mask [false, false, false, false, false, false] rfl ?_
    exact hJ49 h
  · replace h := it_f c3 h
    refine g_iload_n (pc := 15) hC dX12_cycles_15 rfl ?_
    refine g_iconst (pc := 16) hC ki_0 dX12_cycles_16 ?_
    refine g_bipush (pc := 17) hC kb_127 dX12_cycles_17 ?_
    obtain ⟨v4, hc, h⟩ := cp_e h
    refine g_callSi (pc := 19) (As := [.int a2, .int 0, .int 127]) (rest := []) hC (c_X12_isIn l E a2 0 127 σ1 v4 hc) mi_X12_isIn ms_X12_isIn lk_X12_133 rfl rfl (Nat.le_of_ble_eq_true rfl) ⟨by decide, by decide⟩ hab dX12_cycles_19 ?_
    refine g_if_eq (tgt := 49) (pc := 22) hC dX12_cycles_22 (by decide) (fun c5 => ?_) (fun c5 => ?_)
    · replace h := it_t c5 h
      refine g_mask [false, false, false, false, false, false] rfl ?_
      exact hJ49 h
    · replace h := it_f c5 h
      refine g_iload_n (pc := 25) hC dX12_cycles_25 rfl ?_
      refine g_iconst (pc := 26) hC ki_1 dX12_cycles_26 ?_
      refine g_bipush (pc := 27) hC kb_50 dX12_cycles_27 ?_
      obtain ⟨v6, hc, h⟩ := cp_e h
      refine g_callSi (pc := 29) (As := [.int a3, .int 1, .int 50]) (rest := []) hC (c_X12_isIn l E a3 1 50 σ1 v6 hc) mi_X12_isIn ms_X12_isIn lk_X12_133 rfl rfl (Nat.le_of_ble_eq_true rfl) ⟨by decide, by decide⟩ hab dX12_cycles_29 ?_
      refine g_if_eq (tgt := 49) (pc := 32) hC dX12_cycles_32 (by decide) (fun c7 => ?_) (fun c7 => ?_)
      · replace h := it_t c7 h
        refine g_mask [false, false, false, false, false, false] rfl ?_
        exact hJ49 h
      · replace h := it_f c7 h
        refine g_aload_n (pc := 35) hC dX12_cycles_35 rfl ?_
        refine fg_X12_130_55 (pc := 36) hC dX12_cycles_36 ?_
        refine g_iload_n (pc := 39) hC dX12_cycles_39 rfl ?_
        refine g_iload_n (pc := 40) hC dX12_cycles_40 rfl ?_
        refine g_imul (pc := 41) hC dX12_cycles_41 ?_
        refine g_iadd (pc := 42) hC dX12_cycles_42 ?_
        refine g_sipush (pc := 43) hC ks_800 dX12_cycles_43 ?_
        refine g_icmp_le (tgt := 53) (pc := 46) hC dX12_cycles_46 (by decide) (fun c8 => ?_) (fun c8 => ?_)
        · replace h := it_t c8 h
          refine g_iconst (pc := 53) hC ki_0 dX12_cycles_53 ?_
          refine g_istore (lv2 := [some (.ref (E.2.1 55)), some (.int a1), some (.int a2), some (.int a3), some (.int 0), none]) (pc := 54) hC dX12_cycles_54 rfl (Or.inr rfl) (hN _ (by decide)) ?_
          have hL1 : ∀ (n : Nat) (w9 : Int32) (σ10 : uS) (z1 : uS), iter n (fun z => B_X12_cycles_5 a1 a2 a3 z.1 z.2) (w9, σ10) = some z1 → (∀ (σ11 : uS), z1 = σ11 → Gd l E K 0 0 o σ11 97 [some (.ref (E.2.1 55)), none, none, none, none, none] []) → Gd l E K 0 0 o σ10 56 [some (.ref (E.2.1 55)), some (.int a1), some (.int a2), some (.int a3), some (.int w9), none] [] := by
            intro n
            induction n with
            | zero =>
              intro w9 σ10 z1 hi
              exact (iter_0 hi).elim
            | succ n ih1 =>
              intro w9 σ10 z1 hi1 kx1
              obtain ⟨r1, h, hi1⟩ := iter_s hi1
              replace h : B_X12_cycles_5 a1 a2 a3 w9 σ10 = some r1 := h
              delta B_X12_cycles_5 at h
              refine g_iload (pc := 56) hC dX12_cycles_56 rfl ?_
              refine g_iload_n (pc := 58) hC dX12_cycles_58 rfl ?_
              refine g_icmp_ge (tgt := 97) (pc := 59) hC dX12_cycles_59 (by decide) (fun c12 => ?_) (fun c12 => ?_)
              · replace h := it_t c12 h
                refine g_mask [true, false, false, false, false, false] rfl ?_
                exact kx1 σ10 (iter_r h hi1)
              · replace h := it_f c12 h
                refine g_iconst (pc := 62) hC ki_0 dX12_cycles_62 ?_
                refine g_istore (lv2 := [some (.ref (E.2.1 55)), some (.int a1), some (.int a2), some (.int a3), some (.int w9), some (.int 0)]) (pc := 63) hC dX12_cycles_63 rfl (Or.inr rfl) (hN _ (by decide)) ?_
                have hL2 : ∀ (n : Nat) (w13 : Int32) (σ14 : uS) (z2 : uS), iter n (fun z => B_X12_cycles_3 a1 a2 z.1 z.2) (w13, σ14) = some z2 → (∀ (σ15 : uS), z2 = σ15 → Gd l E K 0 0 o σ15 91 [some (.ref (E.2.1 55)), some (.int a1), some (.int a2), some (.int a3), some (.int w9), none] []) → Gd l E K 0 0 o σ14 65 [some (.ref (E.2.1 55)), some (.int a1), some (.int a2), some (.int a3), some (.int w9), some (.int w13)] [] := by
                  intro n
                  induction n with
                  | zero =>
                    intro w13 σ14 z2 hi
                    exact (iter_0 hi).elim
                  | succ n ih2 =>
                    intro w13 σ14 z2 hi2 kx2
                    obtain ⟨r2, h, hi2⟩ := iter_s hi2
                    replace h : B_X12_cycles_3 a1 a2 w13 σ14 = some r2 := h
                    delta B_X12_cycles_3 at h
                    refine g_iload (pc := 65) hC dX12_cycles_65 rfl ?_
                    refine g_iload_n (pc := 67) hC dX12_cycles_67 rfl ?_
                    refine g_icmp_ge (tgt := 91) (pc := 68) hC dX12_cycles_68 (by decide) (fun c16 => ?_) (fun c16 => ?_)
                    · replace h := it_t c16 h
                      refine g_mask [true, true, true, true, true, false] rfl ?_
                      exact kx2 σ14 (iter_r h hi2)
                    · replace h := it_f c16 h
                      refine g_aload_n (pc := 71) hC dX12_cycles_71 rfl ?_
                      refine g_iload_n (pc := 72) hC dX12_cycles_72 rfl ?_
                      refine g_iconst (pc := 73) hC ki_2 dX12_cycles_73 ?_
                      refine g_iload_n (pc := 74) hC dX12_cycles_74 rfl ?_
                      refine g_imul (pc := 75) hC dX12_cycles_75 ?_
                      refine g_iload (pc := 76) hC dX12_cycles_76 rfl ?_
                      refine g_imul (pc := 78) hC dX12_cycles_78 ?_
                      refine g_iload_n (pc := 79) hC dX12_cycles_79 rfl ?_
                      obtain ⟨v17, ev17, nv17, h⟩ := dv_e h
                      refine g_idiv (pc := 80) hC nv17 dX12_cycles_80 ?_
                      refine g_top ev17 ?_
                      refine g_isub (pc := 81) hC dX12_cycles_81 ?_
                      obtain ⟨σ18, hc, h⟩ := cp_e h
                      refine g_callVv (pc := 82) (As := [.int (a2 - v17)]) (rest := []) hC (c_X12_adds l E (a2 - v17) σ14 σ18 hc) mi_X12_adds mv_X12_adds ob_55 rfl rfl lk_X12_137 rfl rfl (Nat.le_of_ble_eq_true rfl) ⟨by decide, by decide⟩ hab dX12_cycles_82 ?_
                      obtain ⟨v19, ev19, h⟩ := lt_e h
                      refine g_iinc (v := v19) (lv2 := [some (.ref (E.2.1 55)), some (.int a1), some (.int a2), some (.int a3), some (.int w9), some (.int v19)]) (pc := 85) hC dX12_cycles_85 rfl ev19 rfl (Or.inr rfl) (hN _ (by decide)) ?_
                      refine g_goto (tgt := 65) (pc := 88) hC dX12_cycles_88 (by decide) ?_
                      exact ih2 v19 σ18 z2 (iter_l h hi2) kx2
                obtain ⟨z2, hz2, h⟩ := lp_e h
                refine hL2 FU 0 σ10 z2 hz2 (fun σ15 ez => ?_)
                replace h : C_X12_cycles_4 w9 σ15 = some r1 := by rw [ez] at h; exact h
                delta C_X12_cycles_4 at h
                obtain ⟨v20, ev20, h⟩ := lt_e h
                refine g_iinc (v := v20) (lv2 := [some (.ref (E.2.1 55)), some (.int a1), some (.int a2), some (.int a3), some (.int v20), none]) (pc := 91) hC dX12_cycles_91 rfl ev20 rfl (Or.inr rfl) (hN _ (by decide)) ?_
                refine g_goto (tgt := 56) (pc := 94) hC dX12_cycles_94 (by decide) ?_
                exact ih1 v20 σ15 z1 (iter_l h hi1) kx1
          obtain ⟨z1, hz1, h⟩ := lp_e h
          refine hL1 FU 0 σ1 z1 hz1 (fun σ11 ez => ?_)
          replace h : C_X12_cycles_6 σ11 = some (r, σr) := by rw [ez] at h; exact h
          delta C_X12_cycles_6 at h
          refine g_aload_n (pc := 97) hC dX12_cycles_97 rfl ?_
          refine fg_X12_130_55 (pc := 98) hC dX12_cycles_98 ?_
          exact g_ret (pc := 101) hC h hR dX12_cycles_101
        · replace h := it_f c8 h
          refine g_mask [false, false, false, false, false, false] rfl ?_
          exact hJ49 h
set_option maxRecDepth 20000 in
theorem c_X12_draw (l : Launch) (E : uE) (a1 : Int32) (σ : uS) (r : Int32) (σr : uS) (h : F_X12_draw a1 σ = some (r, σr)) : CtI l E yX12_draw cX12_draw 2 (some .int) 0 0 [.ref (E.2.1 55), .int a1] σ r σr := by
  refine enterI 0 [some (.ref (E.2.1 55)), some (.int a1)] (by decide +kernel) rfl (Nat.le_of_ble_eq_true rfl) (fun o K hnL hC hab hR => ?_)
  have hC : Cx E K RX12 cX12_draw (some .int) 0 0 := hC
  have hN : ∀ k, k < 2 → k < K.2.2.2.2.2 := fun k hk => hnL ▸ hk
  delta F_X12_draw at h
  refine g_aload_n (pc := 0) hC dX12_draw_0 rfl ?_
  refine g_aload_n (pc := 1) hC dX12_draw_1 rfl ?_
  refine fg_X12_140_55 (pc := 2) hC dX12_draw_2 ?_
  refine g_ldc (pc := 5) hC kc_X12_143 dX12_draw_5 ?_
  refine g_imul (pc := 7) hC dX12_draw_7 ?_
  refine g_sipush (pc := 8) hC ks_12345 dX12_draw_8 ?_
  refine g_iadd (pc := 11) hC dX12_draw_11 ?_
  obtain ⟨σ1, eσ1, h⟩ := pf_e h
  refine fp_X12_140_55 (pc := 12) hC dX12_draw_12 eσ1 ?_
  refine g_aload_n (pc := 15) hC dX12_draw_15 rfl ?_
  refine fg_X12_140_55 (pc := 16) hC dX12_draw_16 ?_
  refine g_bipush (pc := 19) hC kb_16 dX12_draw_19 ?_
  refine g_iushr (pc := 21) hC dX12_draw_21 ?_
  refine g_sipush (pc := 22) hC ks_32767 dX12_draw_22 ?_
  refine g_iand (pc := 25) hC dX12_draw_25 ?_
  refine g_iload_n (pc := 26) hC dX12_draw_26 rfl ?_
  obtain ⟨v2, ev2, nv2, h⟩ := rmd_e h
  refine g_irem (pc := 27) hC nv2 dX12_draw_27 ?_
  refine g_top ev2 ?_
  exact g_ret (pc := 28) hC h hR dX12_draw_28
set_option maxRecDepth 20000 in
theorem c_X12_noise (l : Launch) (E : uE) (a1 : Int32) (a2 : Int32) (a3 : Int32) (σ : uS) (r : Int32) (σr : uS) (h : F_X12_noise a1 a2 a3 σ = some (r, σr)) : CtI l E yX12_noise cX12_noise 5 (some .int) 1 22 [.ref (E.2.1 55), .int a1, .int a2, .int a3] σ r σr := by
  refine enterI 1 [some (.ref (E.2.1 55)), some (.int a1), some (.int a2), some (.int a3), none] (by decide +kernel) rfl (Nat.le_of_ble_eq_true rfl) (fun o K hnL hC hab hR => ?_)
  have hC : Cx E K RX12 cX12_noise (some .int) 1 22 := hC
  have hN : ∀ k, k < 5 → k < K.2.2.2.2.2 := fun k hk => hnL ▸ hk
  delta F_X12_noise at h
  refine g_aload_n (pc := 0) hC dX12_noise_0 rfl ?_
  refine g_iconst (pc := 1) hC ki_0 dX12_noise_1 ?_
  obtain ⟨σ1, eσ1, h⟩ := pf_e h
  refine fp_X12_119_55 (pc := 2) hC dX12_noise_2 eσ1 ?_
  refine g_iload_n (pc := 5) hC dX12_noise_5 rfl ?_
  refine g_iconst (pc := 6) hC ki_1 dX12_noise_6 ?_
  refine g_sipush (pc := 7) hC ks_400 dX12_noise_7 ?_
  obtain ⟨v2, hc, h⟩ := cp_e h
  refine g_callSi (pc := 10) (As := [.int a2, .int 1, .int 400]) (rest := []) hC (c_X12_isIn l E a2 1 400 σ1 v2 hc) mi_X12_isIn ms_X12_isIn lk_X12_133 rfl rfl (Nat.le_of_ble_eq_true rfl) ⟨by decide, by decide⟩ hab dX12_noise_10 ?_
  have hJ38 : J_X12_noise_4 σ1 = some (r, σr) → Gd l E K 0 0 o σ1 38 [none, none, none, none, none] [] := by
    intro h
    delta J_X12_noise_4 at h
    refine g_sipush (pc := 38) hC ks_m1000 dX12_noise_38 ?_
    exact g_ret (pc := 41) hC h hR dX12_noise_41
  refine g_if_eq (tgt := 38) (pc := 13) hC dX12_noise_13 (by decide) (fun c3 => ?_) (fun c3 => ?_)
  · replace h := it_t c3 h
    refine g_mask [false, false, false, false, false] rfl ?_
    exact hJ38 h
  · replace h := it_f c3 h
    refine g_iload_n (pc := 16) hC dX12_noise_16 rfl ?_
    refine g_iconst (pc := 17) hC ki_0 dX12_noise_17 ?_
    refine g_bipush (pc := 18) hC kb_127 dX12_noise_18 ?_
    obtain ⟨v4, hc, h⟩ := cp_e h
    refine g_callSi (pc := 20) (As := [.int a3, .int 0, .int 127]) (rest := []) hC (c_X12_isIn l E a3 0 127 σ1 v4 hc) mi_X12_isIn ms_X12_isIn lk_X12_133 rfl rfl (Nat.le_of_ble_eq_true rfl) ⟨by decide, by decide⟩ hab dX12_noise_20 ?_
    refine g_if_eq (tgt := 38) (pc := 23) hC dX12_noise_23 (by decide) (fun c5 => ?_) (fun c5 => ?_)
    · replace h := it_t c5 h
      refine g_mask [false, false, false, false, false] rfl ?_
      exact hJ38 h
    · replace h := it_f c5 h
      refine g_aload_n (pc := 26) hC dX12_noise_26 rfl ?_
      refine fg_X12_130_55 (pc := 27) hC dX12_noise_27 ?_
      refine g_iload_n (pc := 30) hC dX12_noise_30 rfl ?_
      refine g_iadd (pc := 31) hC dX12_noise_31 ?_
      refine g_sipush (pc := 32) hC ks_800 dX12_noise_32 ?_
      refine g_icmp_le (tgt := 42) (pc := 35) hC dX12_noise_35 (by decide) (fun c6 => ?_) (fun c6 => ?_)
      · replace h := it_t c6 h
        refine g_aload_n (pc := 42) hC dX12_noise_42 rfl ?_
        refine g_iload_n (pc := 43) hC dX12_noise_43 rfl ?_
        obtain ⟨σ7, eσ7, h⟩ := pf_e h
        refine fp_X12_140_55 (pc := 44) hC dX12_noise_44 eσ7 ?_
        refine g_iconst (pc := 47) hC ki_0 dX12_noise_47 ?_
        refine g_istore (lv2 := [some (.ref (E.2.1 55)), some (.int a1), some (.int a2), some (.int a3), some (.int 0)]) (pc := 48) hC dX12_noise_48 rfl (Or.inr rfl) (hN _ (by decide)) ?_
        have hL1 : ∀ (n : Nat) (w8 : Int32) (σ9 : uS) (z1 : uS), iter n (fun z => B_X12_noise_2 a2 a3 z.1 z.2) (w8, σ9) = some z1 → (∀ (σ10 : uS), z1 = σ10 → Gd l E K 0 0 o σ10 77 [some (.ref (E.2.1 55)), none, none, none, none] []) → Gd l E K 0 0 o σ9 50 [some (.ref (E.2.1 55)), none, some (.int a2), some (.int a3), some (.int w8)] [] := by
          intro n
          induction n with
          | zero =>
            intro w8 σ9 z1 hi
            exact (iter_0 hi).elim
          | succ n ih1 =>
            intro w8 σ9 z1 hi1 kx1
            obtain ⟨r1, h, hi1⟩ := iter_s hi1
            replace h : B_X12_noise_2 a2 a3 w8 σ9 = some r1 := h
            delta B_X12_noise_2 at h
            refine g_iload (pc := 50) hC dX12_noise_50 rfl ?_
            refine g_iload_n (pc := 52) hC dX12_noise_52 rfl ?_
            refine g_icmp_ge (tgt := 77) (pc := 53) hC dX12_noise_53 (by decide) (fun c11 => ?_) (fun c11 => ?_)
            · replace h := it_t c11 h
              refine g_mask [true, false, false, false, false] rfl ?_
              exact kx1 σ9 (iter_r h hi1)
            · replace h := it_f c11 h
              refine g_aload_n (pc := 56) hC dX12_noise_56 rfl ?_
              refine g_aload_n (pc := 57) hC dX12_noise_57 rfl ?_
              refine g_iconst (pc := 58) hC ki_2 dX12_noise_58 ?_
              refine g_iload_n (pc := 59) hC dX12_noise_59 rfl ?_
              refine g_imul (pc := 60) hC dX12_noise_60 ?_
              refine g_iconst (pc := 61) hC ki_1 dX12_noise_61 ?_
              refine g_iadd (pc := 62) hC dX12_noise_62 ?_
              obtain ⟨v13, σ12, hc, h⟩ := cl_e h
              refine g_callVi (pc := 63) (As := [.int ((2 * a3) + 1)]) (rest := [.ref (E.2.1 55)]) hC (c_X12_draw l E ((2 * a3) + 1) σ9 v13 σ12 hc) mi_X12_draw mv_X12_draw ob_55 rfl rfl lk_X12_144 rfl rfl (Nat.le_of_ble_eq_true rfl) ⟨by decide, by decide⟩ hab dX12_noise_63 ?_
              refine g_iload_n (pc := 66) hC dX12_noise_66 rfl ?_
              refine g_isub (pc := 67) hC dX12_noise_67 ?_
              obtain ⟨σ14, hc, h⟩ := cp_e h
              refine g_callVv (pc := 68) (As := [.int (v13 - a3)]) (rest := []) hC (c_X12_adds l E (v13 - a3) σ12 σ14 hc) mi_X12_adds mv_X12_adds ob_55 rfl rfl lk_X12_137 rfl rfl (Nat.le_of_ble_eq_true rfl) ⟨by decide, by decide⟩ hab dX12_noise_68 ?_
              obtain ⟨v15, ev15, h⟩ := lt_e h
              refine g_iinc (v := v15) (lv2 := [some (.ref (E.2.1 55)), none, some (.int a2), some (.int a3), some (.int v15)]) (pc := 71) hC dX12_noise_71 rfl ev15 rfl (Or.inr rfl) (hN _ (by decide)) ?_
              refine g_goto (tgt := 50) (pc := 74) hC dX12_noise_74 (by decide) ?_
              exact ih1 v15 σ14 z1 (iter_l h hi1) kx1
        obtain ⟨z1, hz1, h⟩ := lp_e h
        refine g_mask [true, false, true, true, true] rfl ?_
        refine hL1 FU 0 σ7 z1 hz1 (fun σ10 ez => ?_)
        replace h : C_X12_noise_3 σ10 = some (r, σr) := by rw [ez] at h; exact h
        delta C_X12_noise_3 at h
        refine g_aload_n (pc := 77) hC dX12_noise_77 rfl ?_
        refine fg_X12_130_55 (pc := 78) hC dX12_noise_78 ?_
        exact g_ret (pc := 81) hC h hR dX12_noise_81
      · replace h := it_f c6 h
        refine g_mask [false, false, false, false, false] rfl ?_
        exact hJ38 h
set_option maxRecDepth 20000 in
theorem c_X12_poke (l : Launch) (E : uE) (a1 : Int32) (a2 : Int32) (σ : uS) (r : Int32) (σr : uS) (h : F_X12_poke a1 a2 σ = some (r, σr)) : CtI l E yX12_poke cX12_poke 4 (some .int) 1 22 [.ref (E.2.1 55), .int a1, .int a2] σ r σr := by
  refine enterI 1 [some (.ref (E.2.1 55)), some (.int a1), some (.int a2), none] (by decide +kernel) rfl (Nat.le_of_ble_eq_true rfl) (fun o K hnL hC hab hR => ?_)
  have hC : Cx E K RX12 cX12_poke (some .int) 1 22 := hC
  have hN : ∀ k, k < 4 → k < K.2.2.2.2.2 := fun k hk => hnL ▸ hk
  delta F_X12_poke at h
  refine g_aload_n (pc := 0) hC dX12_poke_0 rfl ?_
  refine g_iconst (pc := 1) hC ki_0 dX12_poke_1 ?_
  obtain ⟨σ1, eσ1, h⟩ := pf_e h
  refine fp_X12_119_55 (pc := 2) hC dX12_poke_2 eσ1 ?_
  refine g_iload_n (pc := 5) hC dX12_poke_5 rfl ?_
  refine g_iconst (pc := 6) hC ki_0 dX12_poke_6 ?_
  refine g_aload_n (pc := 7) hC dX12_poke_7 rfl ?_
  refine fg_X12_130_55 (pc := 8) hC dX12_poke_8 ?_
  refine g_iconst (pc := 11) hC ki_1 dX12_poke_11 ?_
  refine g_isub (pc := 12) hC dX12_poke_12 ?_
  obtain ⟨v2, hc, h⟩ := cp_e h
  refine g_callSi (pc := 13) (As := [.int a1, .int 0, .int ((σ1 55 6) - 1)]) (rest := []) hC (c_X12_isIn l E a1 0 ((σ1 55 6) - 1) σ1 v2 hc) mi_X12_isIn ms_X12_isIn lk_X12_133 rfl rfl (Nat.le_of_ble_eq_true rfl) ⟨by decide, by decide⟩ hab dX12_poke_13 ?_
  have hJ30 : J_X12_poke_1 σ1 = some (r, σr) → Gd l E K 0 0 o σ1 30 [none, none, none, none] [] := by
    intro h
    delta J_X12_poke_1 at h
    refine g_sipush (pc := 30) hC ks_m1000 dX12_poke_30 ?_
    exact g_ret (pc := 33) hC h hR dX12_poke_33
  refine g_if_eq (tgt := 30) (pc := 16) hC dX12_poke_16 (by decide) (fun c3 => ?_) (fun c3 => ?_)
  · replace h := it_t c3 h
    refine g_mask [false, false, false, false] rfl ?_
    exact hJ30 h
  · replace h := it_f c3 h
    refine g_iload_n (pc := 19) hC dX12_poke_19 rfl ?_
    refine g_bipush (pc := 20) hC kb_m128 dX12_poke_20 ?_
    refine g_bipush (pc := 22) hC kb_127 dX12_poke_22 ?_
    obtain ⟨v4, hc, h⟩ := cp_e h
    refine g_callSi (pc := 24) (As := [.int a2, .int (-128), .int 127]) (rest := []) hC (c_X12_isIn l E a2 (-128) 127 σ1 v4 hc) mi_X12_isIn ms_X12_isIn lk_X12_133 rfl rfl (Nat.le_of_ble_eq_true rfl) ⟨by decide, by decide⟩ hab dX12_poke_24 ?_
    refine g_if_ne (tgt := 34) (pc := 27) hC dX12_poke_27 (by decide) (fun c5 => ?_) (fun c5 => ?_)
    · replace h := it_f c5 h
      refine g_aload_n (pc := 34) hC dX12_poke_34 rfl ?_
      refine fg_X12_19_55 (pc := 35) hC dX12_poke_35 ?_
      refine g_iload_n (pc := 38) hC dX12_poke_38 rfl ?_
      obtain ⟨v6, ev6, nv6, h⟩ := rd_e h
      refine g_iald (pc := 39) hC 59 (by decide) (ar_59 _ _ _) nv6 dX12_poke_39 ?_
      refine g_top ev6 ?_
      refine g_istore_n (lv2 := [some (.ref (E.2.1 55)), some (.int a1), some (.int a2), some (.int v6)]) (pc := 40) hC dX12_poke_40 rfl (Or.inr rfl) (hN _ (by decide)) ?_
      refine g_aload_n (pc := 41) hC dX12_poke_41 rfl ?_
      refine fg_X12_19_55 (pc := 42) hC dX12_poke_42 ?_
      refine g_iload_n (pc := 45) hC dX12_poke_45 rfl ?_
      refine g_iload_n (pc := 46) hC dX12_poke_46 rfl ?_
      obtain ⟨σ7, eσ7, nσ7, h⟩ := wr_e h
      refine g_iast (pc := 47) hC 59 (by decide) (ar_59 _ _) nσ7 dX12_poke_47 eσ7 ?_
      refine g_iload_n (pc := 48) hC dX12_poke_48 rfl ?_
      exact g_ret (pc := 49) hC h hR dX12_poke_49
    · replace h := it_t c5 h
      refine g_mask [false, false, false, false] rfl ?_
      exact hJ30 h
set_option maxRecDepth 20000 in
theorem c_X12_cut (l : Launch) (E : uE) (a1 : Int32) (σ : uS) (r : Int32) (σr : uS) (h : F_X12_cut a1 σ = some (r, σr)) : CtI l E yX12_cut cX12_cut 2 (some .int) 1 22 [.ref (E.2.1 55), .int a1] σ r σr := by
  refine enterI 0 [some (.ref (E.2.1 55)), some (.int a1)] (by decide +kernel) rfl (Nat.le_of_ble_eq_true rfl) (fun o K hnL hC hab hR => ?_)
  have hC : Cx E K RX12 cX12_cut (some .int) 1 22 := hC
  have hN : ∀ k, k < 2 → k < K.2.2.2.2.2 := fun k hk => hnL ▸ hk
  delta F_X12_cut at h
  refine g_aload_n (pc := 0) hC dX12_cut_0 rfl ?_
  refine g_iconst (pc := 1) hC ki_0 dX12_cut_1 ?_
  obtain ⟨σ1, eσ1, h⟩ := pf_e h
  refine fp_X12_119_55 (pc := 2) hC dX12_cut_2 eσ1 ?_
  refine g_iload_n (pc := 5) hC dX12_cut_5 rfl ?_
  refine g_iconst (pc := 6) hC ki_0 dX12_cut_6 ?_
  refine g_aload_n (pc := 7) hC dX12_cut_7 rfl ?_
  refine fg_X12_130_55 (pc := 8) hC dX12_cut_8 ?_
  obtain ⟨v2, hc, h⟩ := cp_e h
  refine g_callSi (pc := 11) (As := [.int a1, .int 0, .int (σ1 55 6)]) (rest := []) hC (c_X12_isIn l E a1 0 (σ1 55 6) σ1 v2 hc) mi_X12_isIn ms_X12_isIn lk_X12_133 rfl rfl (Nat.le_of_ble_eq_true rfl) ⟨by decide, by decide⟩ hab dX12_cut_11 ?_
  refine g_if_ne (tgt := 21) (pc := 14) hC dX12_cut_14 (by decide) (fun c3 => ?_) (fun c3 => ?_)
  · replace h := it_f c3 h
    refine g_aload_n (pc := 21) hC dX12_cut_21 rfl ?_
    refine g_dup (pc := 22) hC rfl dX12_cut_22 ?_
    refine fg_X12_130_55 (pc := 23) hC dX12_cut_23 ?_
    refine g_iload_n (pc := 26) hC dX12_cut_26 rfl ?_
    refine g_isub (pc := 27) hC dX12_cut_27 ?_
    obtain ⟨σ4, eσ4, h⟩ := pf_e h
    refine fp_X12_130_55 (pc := 28) hC dX12_cut_28 eσ4 ?_
    refine g_aload_n (pc := 31) hC dX12_cut_31 rfl ?_
    refine fg_X12_130_55 (pc := 32) hC dX12_cut_32 ?_
    exact g_ret (pc := 35) hC h hR dX12_cut_35
  · replace h := it_t c3 h
    refine g_sipush (pc := 17) hC ks_m1000 dX12_cut_17 ?_
    exact g_ret (pc := 20) hC h hR dX12_cut_20
set_option maxRecDepth 20000 in
theorem c_X12_sample (l : Launch) (E : uE) (a1 : Int32) (σ : uS) (r : Int32) (σr : uS) (h : F_X12_sample a1 σ = some (r, σr)) : CtI l E yX12_sample cX12_sample 2 (some .int) 1 22 [.ref (E.2.1 55), .int a1] σ r σr := by
  refine enterI 0 [some (.ref (E.2.1 55)), some (.int a1)] (by decide +kernel) rfl (Nat.le_of_ble_eq_true rfl) (fun o K hnL hC hab hR => ?_)
  have hC : Cx E K RX12 cX12_sample (some .int) 1 22 := hC
  have hN : ∀ k, k < 2 → k < K.2.2.2.2.2 := fun k hk => hnL ▸ hk
  delta F_X12_sample at h
  refine g_aload_n (pc := 0) hC dX12_sample_0 rfl ?_
  refine g_iconst (pc := 1) hC ki_0 dX12_sample_1 ?_
  obtain ⟨σ1, eσ1, h⟩ := pf_e h
  refine fp_X12_119_55 (pc := 2) hC dX12_sample_2 eσ1 ?_
  refine g_aload_n (pc := 5) hC dX12_sample_5 rfl ?_
  refine g_iload_n (pc := 6) hC dX12_sample_6 rfl ?_
  refine g_iconst (pc := 7) hC ki_0 dX12_sample_7 ?_
  refine g_aload_n (pc := 8) hC dX12_sample_8 rfl ?_
  refine fg_X12_130_55 (pc := 9) hC dX12_sample_9 ?_
  refine g_iconst (pc := 12) hC ki_1 dX12_sample_12 ?_
  refine g_isub (pc := 13) hC dX12_sample_13 ?_
  obtain ⟨v2, hc, h⟩ := cp_e h
  refine g_callSi (pc := 14) (As := [.int a1, .int 0, .int ((σ1 55 6) - 1)]) (rest := [.ref (E.2.1 55)]) hC (c_X12_isIn l E a1 0 ((σ1 55 6) - 1) σ1 v2 hc) mi_X12_isIn ms_X12_isIn lk_X12_133 rfl rfl (Nat.le_of_ble_eq_true rfl) ⟨by decide, by decide⟩ hab dX12_sample_14 ?_
  refine g_iconst (pc := 17) hC ki_1 dX12_sample_17 ?_
  obtain ⟨v4, σ3, hc, h⟩ := cl_e h
  refine g_callVi (pc := 18) (As := [.int v2, .int 1]) (rest := []) hC (c_X12_right l E v2 1 σ1 v4 σ3 hc) mi_X12_right mv_X12_right ob_55 rfl rfl lk_X12_148 rfl rfl (Nat.le_of_ble_eq_true rfl) ⟨by decide, by decide⟩ hab dX12_sample_18 ?_
  have hJ34 : ∀ (v7 : Int32), J_X12_sample_1 σ3 v7 = some (r, σr) → Gd l E K 0 0 o σ3 34 [none, none] [.int v7] := by
    intro v7 h
    delta J_X12_sample_1 at h
    exact g_ret (pc := 34) hC h hR dX12_sample_34
  refine g_if_eq (tgt := 33) (pc := 21) hC dX12_sample_21 (by decide) (fun c5 => ?_) (fun c5 => ?_)
  · replace h := it_t c5 h
    refine g_iconst (pc := 33) hC ki_0 dX12_sample_33 ?_
    refine g_mask [false, false] rfl ?_
    exact hJ34 0 h
  · replace h := it_f c5 h
    refine g_aload_n (pc := 24) hC dX12_sample_24 rfl ?_
    refine fg_X12_19_55 (pc := 25) hC dX12_sample_25 ?_
    refine g_iload_n (pc := 28) hC dX12_sample_28 rfl ?_
    obtain ⟨v6, ev6, nv6, h⟩ := rd_e h
    refine g_iald (pc := 29) hC 59 (by decide) (ar_59 _ _ _) nv6 dX12_sample_29 ?_
    refine g_top ev6 ?_
    refine g_goto (tgt := 34) (pc := 30) hC dX12_sample_30 (by decide) ?_
    refine g_mask [false, false] rfl ?_
    exact hJ34 v6 h
set_option maxRecDepth 20000 in
theorem c_X12_at (l : Launch) (E : uE) (a1 : Int32) (σ : uS) (r : Int32) (h : F_X12_at a1 σ = some r) : CtI l E yX12_at cX12_at 2 (some .int) 1 22 [.ref (E.2.1 55), .int a1] σ r σ := by
  refine enterI 0 [some (.ref (E.2.1 55)), some (.int a1)] (by decide +kernel) rfl (Nat.le_of_ble_eq_true rfl) (fun o K hnL hC hab hR => ?_)
  have hC : Cx E K RX12 cX12_at (some .int) 1 22 := hC
  have hN : ∀ k, k < 2 → k < K.2.2.2.2.2 := fun k hk => hnL ▸ hk
  delta F_X12_at at h
  refine g_iload_n (pc := 0) hC dX12_at_0 rfl ?_
  refine g_iconst (pc := 1) hC ki_0 dX12_at_1 ?_
  refine g_aload_n (pc := 2) hC dX12_at_2 rfl ?_
  refine fg_X12_130_55 (pc := 3) hC dX12_at_3 ?_
  refine g_iconst (pc := 6) hC ki_1 dX12_at_6 ?_
  refine g_isub (pc := 7) hC dX12_at_7 ?_
  obtain ⟨v1, hc, h⟩ := cp_e h
  refine g_callSi (pc := 8) (As := [.int a1, .int 0, .int ((σ 55 6) - 1)]) (rest := []) hC (c_X12_isIn l E a1 0 ((σ 55 6) - 1) σ v1 hc) mi_X12_isIn ms_X12_isIn lk_X12_133 rfl rfl (Nat.le_of_ble_eq_true rfl) ⟨by decide, by decide⟩ hab dX12_at_8 ?_
  have hJ24 : ∀ (v4 : Int32), J_X12_at_1 v4 = some r → Gd l E K 0 0 o σ 24 [none, none] [.int v4] := by
    intro v4 h
    delta J_X12_at_1 at h
    exact g_retp (pc := 24) hC h hR dX12_at_24
  refine g_if_eq (tgt := 23) (pc := 11) hC dX12_at_11 (by decide) (fun c2 => ?_) (fun c2 => ?_)
  · replace h := it_t c2 h
    refine g_iconst (pc := 23) hC ki_0 dX12_at_23 ?_
    refine g_mask [false, false] rfl ?_
    exact hJ24 0 h
  · replace h := it_f c2 h
    refine g_aload_n (pc := 14) hC dX12_at_14 rfl ?_
    refine fg_X12_19_55 (pc := 15) hC dX12_at_15 ?_
    refine g_iload_n (pc := 18) hC dX12_at_18 rfl ?_
    obtain ⟨v3, ev3, nv3, h⟩ := rd_e h
    refine g_iald (pc := 19) hC 59 (by decide) (ar_59 _ _ _) nv3 dX12_at_19 ?_
    refine g_top ev3 ?_
    refine g_goto (tgt := 24) (pc := 20) hC dX12_at_20 (by decide) ?_
    refine g_mask [false, false] rfl ?_
    exact hJ24 v3 h
set_option maxRecDepth 20000 in
theorem c_X12_canBe (l : Launch) (E : uE) (a1 : Int32) (a2 : Int32) (σ : uS) (r : Int32) (h : F_X12_canBe a1 a2 σ = some r) : CtI l E yX12_canBe cX12_canBe 3 (some .boolean) 1 22 [.ref (E.2.1 55), .int a1, .int a2] σ r σ := by
  refine enterI 0 [some (.ref (E.2.1 55)), some (.int a1), some (.int a2)] (by decide +kernel) rfl (Nat.le_of_ble_eq_true rfl) (fun o K hnL hC hab hR => ?_)
  have hC : Cx E K RX12 cX12_canBe (some .boolean) 1 22 := hC
  have hN : ∀ k, k < 3 → k < K.2.2.2.2.2 := fun k hk => hnL ▸ hk
  delta F_X12_canBe at h
  refine g_iload_n (pc := 0) hC dX12_canBe_0 rfl ?_
  refine g_iconst (pc := 1) hC ki_2 dX12_canBe_1 ?_
  refine g_bipush (pc := 2) hC kb_15 dX12_canBe_2 ?_
  obtain ⟨v1, hc, h⟩ := cp_e h
  refine g_callSi (pc := 4) (As := [.int a1, .int 2, .int 15]) (rest := []) hC (c_X12_isIn l E a1 2 15 σ v1 hc) mi_X12_isIn ms_X12_isIn lk_X12_133 rfl rfl (Nat.le_of_ble_eq_true rfl) ⟨by decide, by decide⟩ hab dX12_canBe_4 ?_
  have hJ29 : J_X12_canBe_3 = some r → Gd l E K 0 0 o σ 29 [none, none, none] [] := by
    intro h
    delta J_X12_canBe_3 at h
    refine g_iconst (pc := 29) hC ki_0 dX12_canBe_29 ?_
    exact g_retzp (pc := 30) hC (Or.inl rfl) h hR dX12_canBe_30
  refine g_if_eq (tgt := 29) (pc := 7) hC dX12_canBe_7 (by decide) (fun c2 => ?_) (fun c2 => ?_)
  · replace h := it_t c2 h
    refine g_mask [false, false, false] rfl ?_
    exact hJ29 h
  · replace h := it_f c2 h
    refine g_iload_n (pc := 10) hC dX12_canBe_10 rfl ?_
    refine g_aload_n (pc := 11) hC dX12_canBe_11 rfl ?_
    refine fg_X12_13_55 (pc := 12) hC dX12_canBe_12 ?_
    refine g_iload_n (pc := 15) hC dX12_canBe_15 rfl ?_
    obtain ⟨v3, ev3, nv3, h⟩ := rd_e h
    refine g_iald (pc := 16) hC 57 (by decide) (ar_57 _ _ _) nv3 dX12_canBe_16 ?_
    refine g_top ev3 ?_
    refine g_aload_n (pc := 17) hC dX12_canBe_17 rfl ?_
    refine fg_X12_16_55 (pc := 18) hC dX12_canBe_18 ?_
    refine g_iload_n (pc := 21) hC dX12_canBe_21 rfl ?_
    obtain ⟨v4, ev4, nv4, h⟩ := rd_e h
    refine g_iald (pc := 22) hC 58 (by decide) (ar_58 _ _ _) nv4 dX12_canBe_22 ?_
    refine g_top ev4 ?_
    obtain ⟨v5, hc, h⟩ := cp_e h
    refine g_callSi (pc := 23) (As := [.int a2, .int v3, .int v4]) (rest := []) hC (c_X12_isIn l E a2 v3 v4 σ v5 hc) mi_X12_isIn ms_X12_isIn lk_X12_133 rfl rfl (Nat.le_of_ble_eq_true rfl) ⟨by decide, by decide⟩ hab dX12_canBe_23 ?_
    refine g_if_ne (tgt := 31) (pc := 26) hC dX12_canBe_26 (by decide) (fun c6 => ?_) (fun c6 => ?_)
    · replace h := it_f c6 h
      refine g_iload_n (pc := 31) hC dX12_canBe_31 rfl ?_
      refine g_iconst (pc := 32) hC ki_4 dX12_canBe_32 ?_
      refine g_icmp_ne (tgt := 52) (pc := 33) hC dX12_canBe_33 (by decide) (fun c7 => ?_) (fun c7 => ?_)
      · replace h := it_f c7 h
        refine g_iload_n (pc := 52) hC dX12_canBe_52 rfl ?_
        refine g_iconst (pc := 53) hC ki_5 dX12_canBe_53 ?_
        have hJ72 : ∀ (v11 : Int32), J_X12_canBe_2 v11 = some r → Gd l E K 0 0 o σ 72 [none, none, none] [.int v11] := by
          intro v11 h
          delta J_X12_canBe_2 at h
          obtain ⟨h01, h⟩ := bz_e h
          exact g_retzp (pc := 72) hC h01 h hR dX12_canBe_72
        have hJ67 : J_X12_canBe_1 = some r → Gd l E K 0 0 o σ 67 [none, none, none] [] := by
          intro h
          delta J_X12_canBe_1 at h
          refine g_iconst (pc := 67) hC ki_1 dX12_canBe_67 ?_
          refine g_goto (tgt := 72) (pc := 68) hC dX12_canBe_68 (by decide) ?_
          exact hJ72 1 h
        refine g_icmp_ne (tgt := 67) (pc := 54) hC dX12_canBe_54 (by decide) (fun c8 => ?_) (fun c8 => ?_)
        · replace h := it_f c8 h
          refine g_mask [false, false, false] rfl ?_
          exact hJ67 h
        · replace h := it_t c8 h
          refine g_iload_n (pc := 57) hC dX12_canBe_57 rfl ?_
          refine g_aload_n (pc := 58) hC dX12_canBe_58 rfl ?_
          refine fg_X12_7_55 (pc := 59) hC dX12_canBe_59 ?_
          refine g_iconst (pc := 62) hC ki_4 dX12_canBe_62 ?_
          obtain ⟨v9, ev9, nv9, h⟩ := rd_e h
          refine g_iald (pc := 63) hC 56 (by decide) (ar_56 _ _ _) nv9 dX12_canBe_63 ?_
          refine g_top ev9 ?_
          refine g_icmp_le (tgt := 71) (pc := 64) hC dX12_canBe_64 (by decide) (fun c10 => ?_) (fun c10 => ?_)
          · replace h := it_t c10 h
            refine g_iconst (pc := 71) hC ki_0 dX12_canBe_71 ?_
            refine g_mask [false, false, false] rfl ?_
            exact hJ72 0 h
          · replace h := it_f c10 h
            refine g_mask [false, false, false] rfl ?_
            exact hJ67 h
      · replace h := it_t c7 h
        refine g_iload_n (pc := 36) hC dX12_canBe_36 rfl ?_
        refine g_aload_n (pc := 37) hC dX12_canBe_37 rfl ?_
        refine fg_X12_7_55 (pc := 38) hC dX12_canBe_38 ?_
        refine g_iconst (pc := 41) hC ki_5 dX12_canBe_41 ?_
        obtain ⟨v12, ev12, nv12, h⟩ := rd_e h
        refine g_iald (pc := 42) hC 56 (by decide) (ar_56 _ _ _) nv12 dX12_canBe_42 ?_
        refine g_top ev12 ?_
        obtain ⟨v14, ev14, h⟩ := lt_e h
        have hJ51 : Gd l E K 0 0 o σ 51 [none, none, none] [.int v14] := by
          obtain ⟨h01, h⟩ := bz_e h
          exact g_retzp (pc := 51) hC h01 h hR dX12_canBe_51
        refine g_icmp_ge (tgt := 50) (pc := 43) hC dX12_canBe_43 (by decide) (fun c13 => ?_) (fun c13 => ?_)
        · refine g_iconst (pc := 50) hC ki_0 dX12_canBe_50 ?_
          refine g_mask [false, false, false] rfl ?_
          exact g_top (iv_t c13 ev14) hJ51
        · refine g_iconst (pc := 46) hC ki_1 dX12_canBe_46 ?_
          refine g_goto (tgt := 51) (pc := 47) hC dX12_canBe_47 (by decide) ?_
          refine g_mask [false, false, false] rfl ?_
          exact g_top (iv_f c13 ev14) hJ51
    · replace h := it_t c6 h
      refine g_mask [false, false, false] rfl ?_
      exact hJ29 h
set_option maxRecDepth 20000 in
theorem c_X12_bound (l : Launch) (E : uE) (a1 : Int32) (a2 : Int32) (σ : uS) (r : Int32) (σr : uS) (h : F_X12_bound a1 a2 σ = some (r, σr)) : CtI l E yX12_bound cX12_bound 4 (some .int) 2 44 [.ref (E.2.1 55), .int a1, .int a2] σ r σr := by
  refine enterI 1 [some (.ref (E.2.1 55)), some (.int a1), some (.int a2), none] (by decide +kernel) rfl (Nat.le_of_ble_eq_true rfl) (fun o K hnL hC hab hR => ?_)
  have hC : Cx E K RX12 cX12_bound (some .int) 2 44 := hC
  have hN : ∀ k, k < 4 → k < K.2.2.2.2.2 := fun k hk => hnL ▸ hk
  delta F_X12_bound at h
  refine g_aload_n (pc := 0) hC dX12_bound_0 rfl ?_
  refine g_iconst (pc := 1) hC ki_0 dX12_bound_1 ?_
  obtain ⟨σ1, eσ1, h⟩ := pf_e h
  refine fp_X12_119_55 (pc := 2) hC dX12_bound_2 eσ1 ?_
  refine g_aload_n (pc := 5) hC dX12_bound_5 rfl ?_
  refine g_iload_n (pc := 6) hC dX12_bound_6 rfl ?_
  refine g_iload_n (pc := 7) hC dX12_bound_7 rfl ?_
  obtain ⟨v2, hc, h⟩ := cp_e h
  refine g_callVi (pc := 8) (As := [.int a1, .int a2]) (rest := []) hC (c_X12_canBe l E a1 a2 σ1 v2 hc) mi_X12_canBe mv_X12_canBe ob_55 rfl rfl lk_X12_152 rfl rfl (Nat.le_of_ble_eq_true rfl) ⟨by decide, by decide⟩ hab dX12_bound_8 ?_
  refine g_if_ne (tgt := 18) (pc := 11) hC dX12_bound_11 (by decide) (fun c3 => ?_) (fun c3 => ?_)
  · replace h := it_f c3 h
    refine g_aload_n (pc := 18) hC dX12_bound_18 rfl ?_
    refine fg_X12_7_55 (pc := 19) hC dX12_bound_19 ?_
    refine g_iload_n (pc := 22) hC dX12_bound_22 rfl ?_
    obtain ⟨v4, ev4, nv4, h⟩ := rd_e h
    refine g_iald (pc := 23) hC 56 (by decide) (ar_56 _ _ _) nv4 dX12_bound_23 ?_
    refine g_top ev4 ?_
    refine g_istore_n (lv2 := [some (.ref (E.2.1 55)), some (.int a1), some (.int a2), some (.int v4)]) (pc := 24) hC dX12_bound_24 rfl (Or.inr rfl) (hN _ (by decide)) ?_
    refine g_aload_n (pc := 25) hC dX12_bound_25 rfl ?_
    refine fg_X12_7_55 (pc := 26) hC dX12_bound_26 ?_
    refine g_iload_n (pc := 29) hC dX12_bound_29 rfl ?_
    refine g_iload_n (pc := 30) hC dX12_bound_30 rfl ?_
    obtain ⟨σ5, eσ5, nσ5, h⟩ := wr_e h
    refine g_iast (pc := 31) hC 56 (by decide) (ar_56 _ _) nσ5 dX12_bound_31 eσ5 ?_
    refine g_iload_n (pc := 32) hC dX12_bound_32 rfl ?_
    exact g_ret (pc := 33) hC h hR dX12_bound_33
  · replace h := it_t c3 h
    refine g_sipush (pc := 14) hC ks_m1000 dX12_bound_14 ?_
    exact g_ret (pc := 17) hC h hR dX12_bound_17
set_option maxRecDepth 20000 in
theorem c_X12_frames (l : Launch) (E : uE) (σ : uS) (r : Int32) (h : F_X12_frames σ = some r) : CtI l E yX12_frames cX12_frames 2 (some .int) 0 0 [.ref (E.2.1 55)] σ r σ := by
  refine enterI 1 [some (.ref (E.2.1 55)), none] (by decide +kernel) rfl (Nat.le_of_ble_eq_true rfl) (fun o K hnL hC hab hR => ?_)
  have hC : Cx E K RX12 cX12_frames (some .int) 0 0 := hC
  have hN : ∀ k, k < 2 → k < K.2.2.2.2.2 := fun k hk => hnL ▸ hk
  delta F_X12_frames at h
  refine g_aload_n (pc := 0) hC dX12_frames_0 rfl ?_
  refine fg_X12_130_55 (pc := 1) hC dX12_frames_1 ?_
  refine g_aload_n (pc := 4) hC dX12_frames_4 rfl ?_
  refine fg_X12_7_55 (pc := 5) hC dX12_frames_5 ?_
  refine g_iconst (pc := 8) hC ki_3 dX12_frames_8 ?_
  obtain ⟨v1, ev1, nv1, h⟩ := rd_e h
  refine g_iald (pc := 9) hC 56 (by decide) (ar_56 _ _ _) nv1 dX12_frames_9 ?_
  refine g_top ev1 ?_
  refine g_isub (pc := 10) hC dX12_frames_10 ?_
  refine g_aload_n (pc := 11) hC dX12_frames_11 rfl ?_
  refine fg_X12_7_55 (pc := 12) hC dX12_frames_12 ?_
  refine g_iconst (pc := 15) hC ki_5 dX12_frames_15 ?_
  obtain ⟨v2, ev2, nv2, h⟩ := rd_e h
  refine g_iald (pc := 16) hC 56 (by decide) (ar_56 _ _ _) nv2 dX12_frames_16 ?_
  refine g_top ev2 ?_
  refine g_isub (pc := 17) hC dX12_frames_17 ?_
  refine g_iconst (pc := 18) hC ki_1 dX12_frames_18 ?_
  refine g_isub (pc := 19) hC dX12_frames_19 ?_
  obtain ⟨v3, ev3, h⟩ := lt_e h
  refine g_top ev3 ?_
  refine g_istore_n (lv2 := [some (.ref (E.2.1 55)), some (.int v3)]) (pc := 20) hC dX12_frames_20 rfl (Or.inr rfl) (hN _ (by decide)) ?_
  refine g_iload_n (pc := 21) hC dX12_frames_21 rfl ?_
  have hJ39 : ∀ (v7 : Int32), J_X12_frames_1 v7 = some r → Gd l E K 0 0 o σ 39 [none, none] [.int v7] := by
    intro v7 h
    delta J_X12_frames_1 at h
    exact g_retp (pc := 39) hC h hR dX12_frames_39
  refine g_if_ge (tgt := 29) (pc := 22) hC dX12_frames_22 (by decide) (fun c4 => ?_) (fun c4 => ?_)
  · replace h := it_t c4 h
    refine g_iload_n (pc := 29) hC dX12_frames_29 rfl ?_
    refine g_aload_n (pc := 30) hC dX12_frames_30 rfl ?_
    refine fg_X12_7_55 (pc := 31) hC dX12_frames_31 ?_
    refine g_iconst (pc := 34) hC ki_2 dX12_frames_34 ?_
    obtain ⟨v5, ev5, nv5, h⟩ := rd_e h
    refine g_iald (pc := 35) hC 56 (by decide) (ar_56 _ _ _) nv5 dX12_frames_35 ?_
    refine g_top ev5 ?_
    obtain ⟨v6, ev6, nv6, h⟩ := dv_e h
    refine g_idiv (pc := 36) hC nv6 dX12_frames_36 ?_
    refine g_top ev6 ?_
    refine g_iconst (pc := 37) hC ki_1 dX12_frames_37 ?_
    refine g_iadd (pc := 38) hC dX12_frames_38 ?_
    refine g_mask [false, false] rfl ?_
    exact hJ39 (v6 + 1) h
  · replace h := it_f c4 h
    refine g_iconst (pc := 25) hC ki_0 dX12_frames_25 ?_
    refine g_goto (tgt := 39) (pc := 26) hC dX12_frames_26 (by decide) ?_
    refine g_mask [false, false] rfl ?_
    exact hJ39 0 h
set_option maxRecDepth 20000 in
theorem c_X12_count (l : Launch) (E : uE) (a1 : Int32) (σ : uS) (r : Int32) (σr : uS) (h : F_X12_count a1 σ = some (r, σr)) : CtI l E yX12_count cX12_count 2 (some .int) 1 22 [.ref (E.2.1 55), .int a1] σ r σr := by
  refine enterI 0 [some (.ref (E.2.1 55)), some (.int a1)] (by decide +kernel) rfl (Nat.le_of_ble_eq_true rfl) (fun o K hnL hC hab hR => ?_)
  have hC : Cx E K RX12 cX12_count (some .int) 1 22 := hC
  have hN : ∀ k, k < 2 → k < K.2.2.2.2.2 := fun k hk => hnL ▸ hk
  delta F_X12_count at h
  refine g_aload_n (pc := 0) hC dX12_count_0 rfl ?_
  refine g_iconst (pc := 1) hC ki_0 dX12_count_1 ?_
  obtain ⟨σ1, eσ1, h⟩ := pf_e h
  refine fp_X12_119_55 (pc := 2) hC dX12_count_2 eσ1 ?_
  refine g_aload_n (pc := 5) hC dX12_count_5 rfl ?_
  refine g_iload_n (pc := 6) hC dX12_count_6 rfl ?_
  refine g_iconst (pc := 7) hC ki_0 dX12_count_7 ?_
  refine g_bipush (pc := 8) hC kb_17 dX12_count_8 ?_
  obtain ⟨v2, hc, h⟩ := cp_e h
  refine g_callSi (pc := 10) (As := [.int a1, .int 0, .int 17]) (rest := [.ref (E.2.1 55)]) hC (c_X12_isIn l E a1 0 17 σ1 v2 hc) mi_X12_isIn ms_X12_isIn lk_X12_133 rfl rfl (Nat.le_of_ble_eq_true rfl) ⟨by decide, by decide⟩ hab dX12_count_10 ?_
  refine g_iconst (pc := 13) hC ki_1 dX12_count_13 ?_
  obtain ⟨v4, σ3, hc, h⟩ := cl_e h
  refine g_callVi (pc := 14) (As := [.int v2, .int 1]) (rest := []) hC (c_X12_right l E v2 1 σ1 v4 σ3 hc) mi_X12_right mv_X12_right ob_55 rfl rfl lk_X12_148 rfl rfl (Nat.le_of_ble_eq_true rfl) ⟨by decide, by decide⟩ hab dX12_count_14 ?_
  refine g_if_ne (tgt := 22) (pc := 17) hC dX12_count_17 (by decide) (fun c5 => ?_) (fun c5 => ?_)
  · replace h := it_f c5 h
    refine g_iload_n (pc := 22) hC dX12_count_22 rfl ?_
    by_cases c6 : a1 = 0
    · replace h := it_t c6 h
      refine g_look (tgt := 64) (off := 41) (pc := 23) hC dX12_count_23 rfl (by rw [c6]; rfl) (by decide) ?_
      refine g_aload_n (pc := 64) hC dX12_count_64 rfl ?_
      refine fg_X12_130_55 (pc := 65) hC dX12_count_65 ?_
      exact g_ret (pc := 68) hC h hR dX12_count_68
    · replace h := it_f c6 h
      by_cases c7 : a1 = 1
      · replace h := it_t c7 h
        refine g_look (tgt := 69) (off := 46) (pc := 23) hC dX12_count_23 rfl (by rw [c7]; rfl) (by decide) ?_
        refine g_aload_n (pc := 69) hC dX12_count_69 rfl ?_
        obtain ⟨v8, hc, h⟩ := cp_e h
        refine g_callVi (pc := 70) (As := []) (rest := []) hC (c_X12_frames l E σ3 v8 hc) mi_X12_frames mv_X12_frames ob_55 rfl rfl lk_X12_156 rfl rfl (Nat.le_of_ble_eq_true rfl) ⟨by decide, by decide⟩ hab dX12_count_70 ?_
        exact g_ret (pc := 73) hC h hR dX12_count_73
      · replace h := it_f c7 h
        by_cases c9 : a1 = 16
        · replace h := it_t c9 h
          refine g_look (tgt := 74) (off := 51) (pc := 23) hC dX12_count_23 rfl (by rw [c9]; rfl) (by decide) ?_
          refine g_aload_n (pc := 74) hC dX12_count_74 rfl ?_
          refine fg_X12_123_55 (pc := 75) hC dX12_count_75 ?_
          exact g_ret (pc := 78) hC h hR dX12_count_78
        · replace h := it_f c9 h
          by_cases c10 : a1 = 17
          · replace h := it_t c10 h
            refine g_look (tgt := 79) (off := 56) (pc := 23) hC dX12_count_23 rfl (by rw [c10]; rfl) (by decide) ?_
            refine g_aload_n (pc := 79) hC dX12_count_79 rfl ?_
            refine fg_X12_160_55 (pc := 80) hC dX12_count_80 ?_
            exact g_ret (pc := 83) hC h hR dX12_count_83
          · replace h := it_f c10 h
            have q0 := sw_ne (n := 0) c6 rfl
            have q1 := sw_ne (n := 1) c7 rfl
            have q2 := sw_ne (n := 16) c9 rfl
            have q3 := sw_ne (n := 17) c10 rfl
            refine g_look (tgt := 84) (off := 61) (pc := 23) hC dX12_count_23 rfl (by simp [Op.lookupswitch.offset, q0, q0.symm, q1, q1.symm, q2, q2.symm, q3, q3.symm]) (by decide) ?_
            refine g_aload_n (pc := 84) hC dX12_count_84 rfl ?_
            refine fg_X12_7_55 (pc := 85) hC dX12_count_85 ?_
            refine g_iload_n (pc := 88) hC dX12_count_88 rfl ?_
            obtain ⟨v11, ev11, nv11, h⟩ := rd_e h
            refine g_iald (pc := 89) hC 56 (by decide) (ar_56 _ _ _) nv11 dX12_count_89 ?_
            refine g_top ev11 ?_
            exact g_ret (pc := 90) hC h hR dX12_count_90
  · replace h := it_t c5 h
    refine g_iconst (pc := 20) hC ki_0 dX12_count_20 ?_
    exact g_ret (pc := 21) hC h hR dX12_count_21
set_option maxRecDepth 20000 in
theorem c_X12_laysDiffs (l : Launch) (E : uE) (a1 : Int32) (σ : uS) (σr : uS) (h : F_X12_laysDiffs a1 σ = some σr) : CtV l E yX12_laysDiffs cX12_laysDiffs 7 1 21 [.ref (E.2.1 55), .int a1] σ σr := by
  refine enterV 5 [some (.ref (E.2.1 55)), some (.int a1), none, none, none, none, none] (by decide +kernel) rfl (Nat.le_of_ble_eq_true rfl) (fun o K hnL hC hab hR => ?_)
  have hC : Cx E K RX12 cX12_laysDiffs none 1 21 := hC
  have hN : ∀ k, k < 7 → k < K.2.2.2.2.2 := fun k hk => hnL ▸ hk
  delta F_X12_laysDiffs at h
  refine g_iload_n (pc := 0) hC dX12_laysDiffs_0 rfl ?_
  refine g_aload_n (pc := 1) hC dX12_laysDiffs_1 rfl ?_
  refine fg_X12_7_55 (pc := 2) hC dX12_laysDiffs_2 ?_
  refine g_iconst (pc := 5) hC ki_2 dX12_laysDiffs_5 ?_
  obtain ⟨v1, ev1, nv1, h⟩ := rd_e h
  refine g_iald (pc := 6) hC 56 (by decide) (ar_56 _ _ _) nv1 dX12_laysDiffs_6 ?_
  refine g_top ev1 ?_
  refine g_imul (pc := 7) hC dX12_laysDiffs_7 ?_
  obtain ⟨v2, ev2, h⟩ := lt_e h
  refine g_top ev2 ?_
  refine g_istore_n (lv2 := [some (.ref (E.2.1 55)), some (.int a1), some (.int v2), none, none, none, none]) (pc := 8) hC dX12_laysDiffs_8 rfl (Or.inr rfl) (hN _ (by decide)) ?_
  refine g_iconst (pc := 9) hC ki_0 dX12_laysDiffs_9 ?_
  refine g_istore_n (lv2 := [some (.ref (E.2.1 55)), some (.int a1), some (.int v2), some (.int 0), none, none, none]) (pc := 10) hC dX12_laysDiffs_10 rfl (Or.inr rfl) (hN _ (by decide)) ?_
  refine g_iconst (pc := 11) hC ki_0 dX12_laysDiffs_11 ?_
  refine g_istore (lv2 := [some (.ref (E.2.1 55)), some (.int a1), some (.int v2), some (.int 0), some (.int 0), none, none]) (pc := 12) hC dX12_laysDiffs_12 rfl (Or.inr rfl) (hN _ (by decide)) ?_
  have hL1 : ∀ (n : Nat) (w3 : Int32) (w4 : Int32) (σ5 : uS) (z1 : uS), iter n (fun z => B_X12_laysDiffs_7 v2 z.1 z.2.1 z.2.2) (w3, w4, σ5) = some z1 → (∀ (σ6 : uS), z1 = σ6 → Gd l E K 0 0 o σ6 141 [none, none, none, none, none, none, none] []) → Gd l E K 0 0 o σ5 14 [some (.ref (E.2.1 55)), none, some (.int v2), some (.int w3), some (.int w4), none, none] [] := by
    intro n
    induction n with
    | zero =>
      intro w3 w4 σ5 z1 hi
      exact (iter_0 hi).elim
    | succ n ih1 =>
      intro w3 w4 σ5 z1 hi1 kx1
      obtain ⟨r1, h, hi1⟩ := iter_s hi1
      replace h : B_X12_laysDiffs_7 v2 w3 w4 σ5 = some r1 := h
      delta B_X12_laysDiffs_7 at h
      refine g_iload (pc := 14) hC dX12_laysDiffs_14 rfl ?_
      refine g_aload_n (pc := 16) hC dX12_laysDiffs_16 rfl ?_
      refine fg_X12_7_55 (pc := 17) hC dX12_laysDiffs_17 ?_
      refine g_iconst (pc := 20) hC ki_5 dX12_laysDiffs_20 ?_
      obtain ⟨v7, ev7, nv7, h⟩ := rd_e h
      refine g_iald (pc := 21) hC 56 (by decide) (ar_56 _ _ _) nv7 dX12_laysDiffs_21 ?_
      refine g_top ev7 ?_
      refine g_iconst (pc := 22) hC ki_1 dX12_laysDiffs_22 ?_
      refine g_iadd (pc := 23) hC dX12_laysDiffs_23 ?_
      refine g_icmp_gt (tgt := 141) (pc := 24) hC dX12_laysDiffs_24 (by decide) (fun c8 => ?_) (fun c8 => ?_)
      · replace h := it_t c8 h
        refine g_mask [false, false, false, false, false, false, false] rfl ?_
        exact kx1 σ5 (iter_r h hi1)
      · replace h := it_f c8 h
        refine g_iconst (pc := 27) hC ki_0 dX12_laysDiffs_27 ?_
        refine g_istore (lv2 := [some (.ref (E.2.1 55)), none, some (.int v2), some (.int w3), some (.int w4), some (.int 0), none]) (pc := 28) hC dX12_laysDiffs_28 rfl (Or.inr rfl) (hN _ (by decide)) ?_
        refine g_iconst (pc := 30) hC ki_0 dX12_laysDiffs_30 ?_
        refine g_istore (lv2 := [some (.ref (E.2.1 55)), none, some (.int v2), some (.int w3), some (.int w4), some (.int 0), some (.int 0)]) (pc := 31) hC dX12_laysDiffs_31 rfl (Or.inr rfl) (hN _ (by decide)) ?_
        have hL2 : ∀ (n : Nat) (w9 : Int32) (w10 : Int32) (z2 : Int32), iter n (fun z => B_X12_laysDiffs_3 v2 w4 σ5 z.1 z.2) (w9, w10) = some z2 → (∀ (v11 : Int32), z2 = v11 → Gd l E K 0 0 o σ5 79 [some (.ref (E.2.1 55)), none, some (.int v2), some (.int w3), some (.int w4), some (.int v11), none] []) → Gd l E K 0 0 o σ5 33 [some (.ref (E.2.1 55)), none, some (.int v2), some (.int w3), some (.int w4), some (.int w9), some (.int w10)] [] := by
          intro n
          induction n with
          | zero =>
            intro w9 w10 z2 hi
            exact (iter_0 hi).elim
          | succ n ih2 =>
            intro w9 w10 z2 hi2 kx2
            obtain ⟨r2, h, hi2⟩ := iter_s hi2
            replace h : B_X12_laysDiffs_3 v2 w4 σ5 w9 w10 = some r2 := h
            delta B_X12_laysDiffs_3 at h
            refine g_iload (pc := 33) hC dX12_laysDiffs_33 rfl ?_
            refine g_aload_n (pc := 35) hC dX12_laysDiffs_35 rfl ?_
            refine fg_X12_7_55 (pc := 36) hC dX12_laysDiffs_36 ?_
            refine g_iconst (pc := 39) hC ki_3 dX12_laysDiffs_39 ?_
            obtain ⟨v12, ev12, nv12, h⟩ := rd_e h
            refine g_iald (pc := 40) hC 56 (by decide) (ar_56 _ _ _) nv12 dX12_laysDiffs_40 ?_
            refine g_top ev12 ?_
            refine g_icmp_ge (tgt := 79) (pc := 41) hC dX12_laysDiffs_41 (by decide) (fun c13 => ?_) (fun c13 => ?_)
            · replace h := it_t c13 h
              refine g_mask [true, false, true, true, true, true, false] rfl ?_
              exact kx2 w9 (iter_r h hi2)
            · replace h := it_f c13 h
              refine g_iload (pc := 44) hC dX12_laysDiffs_44 rfl ?_
              refine g_aload_n (pc := 46) hC dX12_laysDiffs_46 rfl ?_
              refine fg_X12_19_55 (pc := 47) hC dX12_laysDiffs_47 ?_
              refine g_iload_n (pc := 50) hC dX12_laysDiffs_50 rfl ?_
              refine g_iload (pc := 51) hC dX12_laysDiffs_51 rfl ?_
              refine g_iadd (pc := 53) hC dX12_laysDiffs_53 ?_
              obtain ⟨v14, ev14, nv14, h⟩ := rd_e h
              refine g_iald (pc := 54) hC 59 (by decide) (ar_59 _ _ _) nv14 dX12_laysDiffs_54 ?_
              refine g_top ev14 ?_
              refine g_aload_n (pc := 55) hC dX12_laysDiffs_55 rfl ?_
              refine fg_X12_19_55 (pc := 56) hC dX12_laysDiffs_56 ?_
              refine g_iload_n (pc := 59) hC dX12_laysDiffs_59 rfl ?_
              refine g_iload (pc := 60) hC dX12_laysDiffs_60 rfl ?_
              refine g_iadd (pc := 62) hC dX12_laysDiffs_62 ?_
              refine g_iload (pc := 63) hC dX12_laysDiffs_63 rfl ?_
              refine g_iadd (pc := 65) hC dX12_laysDiffs_65 ?_
              obtain ⟨v15, ev15, nv15, h⟩ := rd_e h
              refine g_iald (pc := 66) hC 59 (by decide) (ar_59 _ _ _) nv15 dX12_laysDiffs_66 ?_
              refine g_top ev15 ?_
              obtain ⟨v16, hc, h⟩ := cp_e h
              refine g_callSi (pc := 67) (As := [.int v14, .int v15]) (rest := [.int w9]) hC (c_X12_apart l E v14 v15 σ5 v16 hc) mi_X12_apart ms_X12_apart lk_X12_163 rfl rfl (Nat.le_of_ble_eq_true rfl) ⟨by decide, by decide⟩ hab dX12_laysDiffs_67 ?_
              refine g_iadd (pc := 70) hC dX12_laysDiffs_70 ?_
              obtain ⟨v17, ev17, h⟩ := lt_e h
              refine g_top ev17 ?_
              refine g_istore (lv2 := [some (.ref (E.2.1 55)), none, some (.int v2), some (.int w3), some (.int w4), some (.int v17), some (.int w10)]) (pc := 71) hC dX12_laysDiffs_71 rfl (Or.inr rfl) (hN _ (by decide)) ?_
              obtain ⟨v18, ev18, h⟩ := lt_e h
              refine g_iinc (v := v18) (lv2 := [some (.ref (E.2.1 55)), none, some (.int v2), some (.int w3), some (.int w4), some (.int v17), some (.int v18)]) (pc := 73) hC dX12_laysDiffs_73 rfl ev18 rfl (Or.inr rfl) (hN _ (by decide)) ?_
              refine g_goto (tgt := 33) (pc := 76) hC dX12_laysDiffs_76 (by decide) ?_
              exact ih2 v17 v18 z2 (iter_l h hi2) kx2
        obtain ⟨z2, hz2, h⟩ := lp_e h
        refine hL2 FU 0 0 z2 hz2 (fun v11 ez => ?_)
        replace h : C_X12_laysDiffs_6 w3 w4 σ5 v11 = some r1 := by rw [ez] at h; exact h
        delta C_X12_laysDiffs_6 at h
        refine g_aload_n (pc := 79) hC dX12_laysDiffs_79 rfl ?_
        refine fg_X12_28_55 (pc := 80) hC dX12_laysDiffs_80 ?_
        refine g_iload (pc := 83) hC dX12_laysDiffs_83 rfl ?_
        refine g_iload (pc := 85) hC dX12_laysDiffs_85 rfl ?_
        obtain ⟨σ19, eσ19, nσ19, h⟩ := wr_e h
        refine g_iast (pc := 87) hC 62 (by decide) (ar_62 _ _) nσ19 dX12_laysDiffs_87 eσ19 ?_
        refine g_iload_n (pc := 88) hC dX12_laysDiffs_88 rfl ?_
        refine g_iload (pc := 89) hC dX12_laysDiffs_89 rfl ?_
        obtain ⟨v21, ev21, h⟩ := lt_e h
        have hJ100 : Gd l E K 0 0 o σ19 100 [some (.ref (E.2.1 55)), none, some (.int v2), none, some (.int w4), some (.int v11), none] [.int v21, .int w3] := by
          refine g_iadd (pc := 100) hC dX12_laysDiffs_100 ?_
          obtain ⟨v22, ev22, h⟩ := lt_e h
          refine g_top ev22 ?_
          refine g_istore_n (lv2 := [some (.ref (E.2.1 55)), none, some (.int v2), some (.int v22), some (.int w4), some (.int v11), none]) (pc := 101) hC dX12_laysDiffs_101 rfl (Or.inr rfl) (hN _ (by decide)) ?_
          refine g_aload_n (pc := 102) hC dX12_laysDiffs_102 rfl ?_
          refine fg_X12_31_55 (pc := 103) hC dX12_laysDiffs_103 ?_
          refine g_iload (pc := 106) hC dX12_laysDiffs_106 rfl ?_
          refine g_iload (pc := 108) hC dX12_laysDiffs_108 rfl ?_
          have hJ134 : ∀ (v26 : Int32), J_X12_laysDiffs_5 v22 w4 σ19 v26 = some r1 → Gd l E K 0 0 o σ19 134 [some (.ref (E.2.1 55)), none, some (.int v2), some (.int v22), some (.int w4), none, none] [.int v26, .int w4, .ref (E.2.1 63)] := by
            intro v26 h
            delta J_X12_laysDiffs_5 at h
            obtain ⟨σ27, eσ27, nσ27, h⟩ := wr_e h
            refine g_iast (pc := 134) hC 63 (by decide) (ar_63 _ _) nσ27 dX12_laysDiffs_134 eσ27 ?_
            obtain ⟨v28, ev28, h⟩ := lt_e h
            refine g_iinc (v := v28) (lv2 := [some (.ref (E.2.1 55)), none, some (.int v2), some (.int v22), some (.int v28), none, none]) (pc := 135) hC dX12_laysDiffs_135 rfl ev28 rfl (Or.inr rfl) (hN _ (by decide)) ?_
            refine g_goto (tgt := 14) (pc := 138) hC dX12_laysDiffs_138 (by decide) ?_
            exact ih1 v22 v28 σ27 z1 (iter_l h hi1) kx1
          have hJ117 : J_X12_laysDiffs_4 v22 w4 σ19 = some r1 → Gd l E K 0 0 o σ19 117 [some (.ref (E.2.1 55)), none, some (.int v2), some (.int v22), some (.int w4), none, none] [.int w4, .ref (E.2.1 63)] := by
            intro h
            delta J_X12_laysDiffs_4 at h
            refine g_sipush (pc := 117) hC ks_1000 dX12_laysDiffs_117 ?_
            refine g_goto (tgt := 134) (pc := 120) hC dX12_laysDiffs_120 (by decide) ?_
            exact hJ134 1000 h
          refine g_if_eq (tgt := 117) (pc := 110) hC dX12_laysDiffs_110 (by decide) (fun c23 => ?_) (fun c23 => ?_)
          · replace h := it_t c23 h
            refine g_mask [true, false, true, true, true, false, false] rfl ?_
            exact hJ117 h
          · replace h := it_f c23 h
            refine g_iload_n (pc := 113) hC dX12_laysDiffs_113 rfl ?_
            refine g_if_ne (tgt := 123) (pc := 114) hC dX12_laysDiffs_114 (by decide) (fun c24 => ?_) (fun c24 => ?_)
            · replace h := it_f c24 h
              refine g_sipush (pc := 123) hC ks_1000 dX12_laysDiffs_123 ?_
              refine g_iload (pc := 126) hC dX12_laysDiffs_126 rfl ?_
              refine g_imul (pc := 128) hC dX12_laysDiffs_128 ?_
              refine g_iload (pc := 129) hC dX12_laysDiffs_129 rfl ?_
              refine g_imul (pc := 131) hC dX12_laysDiffs_131 ?_
              refine g_iload_n (pc := 132) hC dX12_laysDiffs_132 rfl ?_
              obtain ⟨v25, ev25, nv25, h⟩ := dv_e h
              refine g_idiv (pc := 133) hC nv25 dX12_laysDiffs_133 ?_
              refine g_top ev25 ?_
              refine g_mask [true, false, true, true, true, false, false] rfl ?_
              exact hJ134 v25 h
            · replace h := it_t c24 h
              refine g_mask [true, false, true, true, true, false, false] rfl ?_
              exact hJ117 h
        refine g_if_ne (tgt := 98) (pc := 91) hC dX12_laysDiffs_91 (by decide) (fun c20 => ?_) (fun c20 => ?_)
        · refine g_iload (pc := 98) hC dX12_laysDiffs_98 rfl ?_
          refine g_mask [true, false, true, false, true, true, false] rfl ?_
          exact g_top (iv_f c20 ev21) hJ100
        · refine g_iconst (pc := 94) hC ki_0 dX12_laysDiffs_94 ?_
          refine g_goto (tgt := 100) (pc := 95) hC dX12_laysDiffs_95 (by decide) ?_
          refine g_mask [true, false, true, false, true, true, false] rfl ?_
          exact g_top (iv_t c20 ev21) hJ100
  obtain ⟨z1, hz1, h⟩ := lp_e h
  refine g_mask [true, false, true, true, true, false, false] rfl ?_
  refine hL1 FU 0 0 σ z1 hz1 (fun σ6 ez => ?_)
  replace h : C_X12_laysDiffs_8 σ6 = some σr := by rw [ez] at h; exact h
  delta C_X12_laysDiffs_8 at h
  exact g_retv (pc := 141) hC h hR dX12_laysDiffs_141
set_option maxRecDepth 20000 in
theorem c_X12_loudOf (l : Launch) (E : uE) (a1 : Int32) (σ : uS) (r : Int32) (h : F_X12_loudOf a1 σ = some r) : CtI l E yX12_loudOf cX12_loudOf 4 (some .int) 1 21 [.ref (E.2.1 55), .int a1] σ r σ := by
  refine enterI 2 [some (.ref (E.2.1 55)), some (.int a1), none, none] (by decide +kernel) rfl (Nat.le_of_ble_eq_true rfl) (fun o K hnL hC hab hR => ?_)
  have hC : Cx E K RX12 cX12_loudOf (some .int) 1 21 := hC
  have hN : ∀ k, k < 4 → k < K.2.2.2.2.2 := fun k hk => hnL ▸ hk
  delta F_X12_loudOf at h
  refine g_iconst (pc := 0) hC ki_0 dX12_loudOf_0 ?_
  refine g_istore_n (lv2 := [some (.ref (E.2.1 55)), some (.int a1), some (.int 0), none]) (pc := 1) hC dX12_loudOf_1 rfl (Or.inr rfl) (hN _ (by decide)) ?_
  refine g_iconst (pc := 2) hC ki_0 dX12_loudOf_2 ?_
  refine g_istore_n (lv2 := [some (.ref (E.2.1 55)), some (.int a1), some (.int 0), some (.int 0)]) (pc := 3) hC dX12_loudOf_3 rfl (Or.inr rfl) (hN _ (by decide)) ?_
  have hL1 : ∀ (n : Nat) (w1 : Int32) (w2 : Int32) (z1 : Int32), iter n (fun z => B_X12_loudOf_2 a1 σ z.1 z.2) (w1, w2) = some z1 → (∀ (v3 : Int32), z1 = v3 → Gd l E K 0 0 o σ 42 [none, none, some (.int v3), none] []) → Gd l E K 0 0 o σ 4 [some (.ref (E.2.1 55)), some (.int a1), some (.int w1), some (.int w2)] [] := by
    intro n
    induction n with
    | zero =>
      intro w1 w2 z1 hi
      exact (iter_0 hi).elim
    | succ n ih1 =>
      intro w1 w2 z1 hi1 kx1
      obtain ⟨r1, h, hi1⟩ := iter_s hi1
      replace h : B_X12_loudOf_2 a1 σ w1 w2 = some r1 := h
      delta B_X12_loudOf_2 at h
      refine g_iload_n (pc := 4) hC dX12_loudOf_4 rfl ?_
      refine g_aload_n (pc := 5) hC dX12_loudOf_5 rfl ?_
      refine fg_X12_7_55 (pc := 6) hC dX12_loudOf_6 ?_
      refine g_iconst (pc := 9) hC ki_3 dX12_loudOf_9 ?_
      obtain ⟨v4, ev4, nv4, h⟩ := rd_e h
      refine g_iald (pc := 10) hC 56 (by decide) (ar_56 _ _ _) nv4 dX12_loudOf_10 ?_
      refine g_top ev4 ?_
      refine g_icmp_ge (tgt := 42) (pc := 11) hC dX12_loudOf_11 (by decide) (fun c5 => ?_) (fun c5 => ?_)
      · replace h := it_t c5 h
        refine g_mask [false, false, true, false] rfl ?_
        exact kx1 w1 (iter_r h hi1)
      · replace h := it_f c5 h
        refine g_iload_n (pc := 14) hC dX12_loudOf_14 rfl ?_
        refine g_aload_n (pc := 15) hC dX12_loudOf_15 rfl ?_
        refine fg_X12_19_55 (pc := 16) hC dX12_loudOf_16 ?_
        refine g_iload_n (pc := 19) hC dX12_loudOf_19 rfl ?_
        refine g_aload_n (pc := 20) hC dX12_loudOf_20 rfl ?_
        refine fg_X12_7_55 (pc := 21) hC dX12_loudOf_21 ?_
        refine g_iconst (pc := 24) hC ki_2 dX12_loudOf_24 ?_
        obtain ⟨v6, ev6, nv6, h⟩ := rd_e h
        refine g_iald (pc := 25) hC 56 (by decide) (ar_56 _ _ _) nv6 dX12_loudOf_25 ?_
        refine g_top ev6 ?_
        refine g_imul (pc := 26) hC dX12_loudOf_26 ?_
        refine g_iload_n (pc := 27) hC dX12_loudOf_27 rfl ?_
        refine g_iadd (pc := 28) hC dX12_loudOf_28 ?_
        obtain ⟨v7, ev7, nv7, h⟩ := rd_e h
        refine g_iald (pc := 29) hC 59 (by decide) (ar_59 _ _ _) nv7 dX12_loudOf_29 ?_
        refine g_top ev7 ?_
        refine g_iconst (pc := 30) hC ki_0 dX12_loudOf_30 ?_
        obtain ⟨v8, hc, h⟩ := cp_e h
        refine g_callSi (pc := 31) (As := [.int v7, .int 0]) (rest := [.int w1]) hC (c_X12_apart l E v7 0 σ v8 hc) mi_X12_apart ms_X12_apart lk_X12_163 rfl rfl (Nat.le_of_ble_eq_true rfl) ⟨by decide, by decide⟩ hab dX12_loudOf_31 ?_
        refine g_iadd (pc := 34) hC dX12_loudOf_34 ?_
        obtain ⟨v9, ev9, h⟩ := lt_e h
        refine g_top ev9 ?_
        refine g_istore_n (lv2 := [some (.ref (E.2.1 55)), some (.int a1), some (.int v9), some (.int w2)]) (pc := 35) hC dX12_loudOf_35 rfl (Or.inr rfl) (hN _ (by decide)) ?_
        obtain ⟨v10, ev10, h⟩ := lt_e h
        refine g_iinc (v := v10) (lv2 := [some (.ref (E.2.1 55)), some (.int a1), some (.int v9), some (.int v10)]) (pc := 36) hC dX12_loudOf_36 rfl ev10 rfl (Or.inr rfl) (hN _ (by decide)) ?_
        refine g_goto (tgt := 4) (pc := 39) hC dX12_loudOf_39 (by decide) ?_
        exact ih1 v9 v10 z1 (iter_l h hi1) kx1
  obtain ⟨z1, hz1, h⟩ := lp_e h
  refine hL1 FU 0 0 z1 hz1 (fun v3 ez => ?_)
  replace h : C_X12_loudOf_3 v3 = some r := by rw [ez] at h; exact h
  delta C_X12_loudOf_3 at h
  refine g_iload_n (pc := 42) hC dX12_loudOf_42 rfl ?_
  exact g_retp (pc := 43) hC h hR dX12_loudOf_43
set_option maxRecDepth 20000 in
theorem c_X12_isFrame (l : Launch) (E : uE) (a1 : Int32) (σ : uS) (r : Int32) (σr : uS) (h : F_X12_isFrame a1 σ = some (r, σr)) : CtI l E yX12_isFrame cX12_isFrame 2 (some .boolean) 1 22 [.ref (E.2.1 55), .int a1] σ r σr := by
  refine enterI 0 [some (.ref (E.2.1 55)), some (.int a1)] (by decide +kernel) rfl (Nat.le_of_ble_eq_true rfl) (fun o K hnL hC hab hR => ?_)
  have hC : Cx E K RX12 cX12_isFrame (some .boolean) 1 22 := hC
  have hN : ∀ k, k < 2 → k < K.2.2.2.2.2 := fun k hk => hnL ▸ hk
  delta F_X12_isFrame at h
  refine g_aload_n (pc := 0) hC dX12_isFrame_0 rfl ?_
  refine g_iload_n (pc := 1) hC dX12_isFrame_1 rfl ?_
  refine g_iconst (pc := 2) hC ki_0 dX12_isFrame_2 ?_
  refine g_aload_n (pc := 3) hC dX12_isFrame_3 rfl ?_
  obtain ⟨v1, hc, h⟩ := cp_e h
  refine g_callVi (pc := 4) (As := []) (rest := [.int 0, .int a1, .ref (E.2.1 55)]) hC (c_X12_frames l E σ v1 hc) mi_X12_frames mv_X12_frames ob_55 rfl rfl lk_X12_156 rfl rfl (Nat.le_of_ble_eq_true rfl) ⟨by decide, by decide⟩ hab dX12_isFrame_4 ?_
  refine g_iconst (pc := 7) hC ki_1 dX12_isFrame_7 ?_
  refine g_isub (pc := 8) hC dX12_isFrame_8 ?_
  obtain ⟨v2, hc, h⟩ := cp_e h
  refine g_callSi (pc := 9) (As := [.int a1, .int 0, .int (v1 - 1)]) (rest := [.ref (E.2.1 55)]) hC (c_X12_isIn l E a1 0 (v1 - 1) σ v2 hc) mi_X12_isIn ms_X12_isIn lk_X12_133 rfl rfl (Nat.le_of_ble_eq_true rfl) ⟨by decide, by decide⟩ hab dX12_isFrame_9 ?_
  refine g_iconst (pc := 12) hC ki_1 dX12_isFrame_12 ?_
  obtain ⟨v4, σ3, hc, h⟩ := cl_e h
  refine g_callVi (pc := 13) (As := [.int v2, .int 1]) (rest := []) hC (c_X12_right l E v2 1 σ v4 σ3 hc) mi_X12_right mv_X12_right ob_55 rfl rfl lk_X12_148 rfl rfl (Nat.le_of_ble_eq_true rfl) ⟨by decide, by decide⟩ hab dX12_isFrame_13 ?_
  obtain ⟨h01, h⟩ := bz_e h
  exact g_retz (pc := 16) hC h01 h hR dX12_isFrame_16
set_option maxRecDepth 20000 in
theorem c_X12_isLag (l : Launch) (E : uE) (a1 : Int32) (σ : uS) (r : Int32) (σr : uS) (h : F_X12_isLag a1 σ = some (r, σr)) : CtI l E yX12_isLag cX12_isLag 2 (some .boolean) 1 22 [.ref (E.2.1 55), .int a1] σ r σr := by
  refine enterI 0 [some (.ref (E.2.1 55)), some (.int a1)] (by decide +kernel) rfl (Nat.le_of_ble_eq_true rfl) (fun o K hnL hC hab hR => ?_)
  have hC : Cx E K RX12 cX12_isLag (some .boolean) 1 22 := hC
  have hN : ∀ k, k < 2 → k < K.2.2.2.2.2 := fun k hk => hnL ▸ hk
  delta F_X12_isLag at h
  refine g_aload_n (pc := 0) hC dX12_isLag_0 rfl ?_
  refine g_iload_n (pc := 1) hC dX12_isLag_1 rfl ?_
  refine g_iconst (pc := 2) hC ki_0 dX12_isLag_2 ?_
  refine g_aload_n (pc := 3) hC dX12_isLag_3 rfl ?_
  refine fg_X12_7_55 (pc := 4) hC dX12_isLag_4 ?_
  refine g_iconst (pc := 7) hC ki_5 dX12_isLag_7 ?_
  obtain ⟨v1, ev1, nv1, h⟩ := rd_e h
  refine g_iald (pc := 8) hC 56 (by decide) (ar_56 _ _ _) nv1 dX12_isLag_8 ?_
  refine g_top ev1 ?_
  refine g_iconst (pc := 9) hC ki_1 dX12_isLag_9 ?_
  refine g_iadd (pc := 10) hC dX12_isLag_10 ?_
  obtain ⟨v2, hc, h⟩ := cp_e h
  refine g_callSi (pc := 11) (As := [.int a1, .int 0, .int (v1 + 1)]) (rest := [.ref (E.2.1 55)]) hC (c_X12_isIn l E a1 0 (v1 + 1) σ v2 hc) mi_X12_isIn ms_X12_isIn lk_X12_133 rfl rfl (Nat.le_of_ble_eq_true rfl) ⟨by decide, by decide⟩ hab dX12_isLag_11 ?_
  refine g_iconst (pc := 14) hC ki_1 dX12_isLag_14 ?_
  obtain ⟨v4, σ3, hc, h⟩ := cl_e h
  refine g_callVi (pc := 15) (As := [.int v2, .int 1]) (rest := []) hC (c_X12_right l E v2 1 σ v4 σ3 hc) mi_X12_right mv_X12_right ob_55 rfl rfl lk_X12_148 rfl rfl (Nat.le_of_ble_eq_true rfl) ⟨by decide, by decide⟩ hab dX12_isLag_15 ?_
  obtain ⟨h01, h⟩ := bz_e h
  exact g_retz (pc := 18) hC h01 h hR dX12_isLag_18
set_option maxRecDepth 20000 in
theorem c_X12_diff (l : Launch) (E : uE) (a1 : Int32) (a2 : Int32) (σ : uS) (r : Int32) (σr : uS) (h : F_X12_diff a1 a2 σ = some (r, σr)) : CtI l E yX12_diff cX12_diff 3 (some .int) 2 47 [.ref (E.2.1 55), .int a1, .int a2] σ r σr := by
  refine enterI 0 [some (.ref (E.2.1 55)), some (.int a1), some (.int a2)] (by decide +kernel) rfl (Nat.le_of_ble_eq_true rfl) (fun o K hnL hC hab hR => ?_)
  have hC : Cx E K RX12 cX12_diff (some .int) 2 47 := hC
  have hN : ∀ k, k < 3 → k < K.2.2.2.2.2 := fun k hk => hnL ▸ hk
  delta F_X12_diff at h
  refine g_aload_n (pc := 0) hC dX12_diff_0 rfl ?_
  refine g_iconst (pc := 1) hC ki_0 dX12_diff_1 ?_
  obtain ⟨σ1, eσ1, h⟩ := pf_e h
  refine fp_X12_119_55 (pc := 2) hC dX12_diff_2 eσ1 ?_
  refine g_aload_n (pc := 5) hC dX12_diff_5 rfl ?_
  refine g_iload_n (pc := 6) hC dX12_diff_6 rfl ?_
  obtain ⟨v3, σ2, hc, h⟩ := cl_e h
  refine g_callVi (pc := 7) (As := [.int a1]) (rest := []) hC (c_X12_isFrame l E a1 σ1 v3 σ2 hc) mi_X12_isFrame mv_X12_isFrame ob_55 rfl rfl lk_X12_167 rfl rfl (Nat.le_of_ble_eq_true rfl) ⟨by decide, by decide⟩ hab dX12_diff_7 ?_
  have hJ21 : ∀ (σ10 : uS), J_X12_diff_1 σ10 = some (r, σr) → Gd l E K 0 0 o σ10 21 [none, none, none] [] := by
    intro σ10 h
    delta J_X12_diff_1 at h
    refine g_iconst (pc := 21) hC ki_0 dX12_diff_21 ?_
    exact g_ret (pc := 22) hC h hR dX12_diff_22
  refine g_if_eq (tgt := 21) (pc := 10) hC dX12_diff_10 (by decide) (fun c4 => ?_) (fun c4 => ?_)
  · replace h := it_t c4 h
    refine g_mask [false, false, false] rfl ?_
    exact hJ21 σ2 h
  · replace h := it_f c4 h
    refine g_aload_n (pc := 13) hC dX12_diff_13 rfl ?_
    refine g_iload_n (pc := 14) hC dX12_diff_14 rfl ?_
    obtain ⟨v6, σ5, hc, h⟩ := cl_e h
    refine g_callVi (pc := 15) (As := [.int a2]) (rest := []) hC (c_X12_isLag l E a2 σ2 v6 σ5 hc) mi_X12_isLag mv_X12_isLag ob_55 rfl rfl lk_X12_171 rfl rfl (Nat.le_of_ble_eq_true rfl) ⟨by decide, by decide⟩ hab dX12_diff_15 ?_
    refine g_if_ne (tgt := 23) (pc := 18) hC dX12_diff_18 (by decide) (fun c7 => ?_) (fun c7 => ?_)
    · replace h := it_f c7 h
      refine g_aload_n (pc := 23) hC dX12_diff_23 rfl ?_
      refine g_iload_n (pc := 24) hC dX12_diff_24 rfl ?_
      obtain ⟨σ8, hc, h⟩ := cp_e h
      refine g_callVv (pc := 25) (As := [.int a1]) (rest := []) hC (c_X12_laysDiffs l E a1 σ5 σ8 hc) mi_X12_laysDiffs mv_X12_laysDiffs ob_55 rfl rfl lk_X12_174 rfl rfl (Nat.le_of_ble_eq_true rfl) ⟨by decide, by decide⟩ hab dX12_diff_25 ?_
      refine g_aload_n (pc := 28) hC dX12_diff_28 rfl ?_
      refine fg_X12_28_55 (pc := 29) hC dX12_diff_29 ?_
      refine g_iload_n (pc := 32) hC dX12_diff_32 rfl ?_
      obtain ⟨v9, ev9, nv9, h⟩ := rd_e h
      refine g_iald (pc := 33) hC 62 (by decide) (ar_62 _ _ _) nv9 dX12_diff_33 ?_
      refine g_top ev9 ?_
      exact g_ret (pc := 34) hC h hR dX12_diff_34
    · replace h := it_t c7 h
      refine g_mask [false, false, false] rfl ?_
      exact hJ21 σ5 h
set_option maxRecDepth 20000 in
theorem c_X12_rel (l : Launch) (E : uE) (a1 : Int32) (a2 : Int32) (σ : uS) (r : Int32) (σr : uS) (h : F_X12_rel a1 a2 σ = some (r, σr)) : CtI l E yX12_rel cX12_rel 3 (some .int) 2 47 [.ref (E.2.1 55), .int a1, .int a2] σ r σr := by
  refine enterI 0 [some (.ref (E.2.1 55)), some (.int a1), some (.int a2)] (by decide +kernel) rfl (Nat.le_of_ble_eq_true rfl) (fun o K hnL hC hab hR => ?_)
  have hC : Cx E K RX12 cX12_rel (some .int) 2 47 := hC
  have hN : ∀ k, k < 3 → k < K.2.2.2.2.2 := fun k hk => hnL ▸ hk
  delta F_X12_rel at h
  refine g_aload_n (pc := 0) hC dX12_rel_0 rfl ?_
  refine g_iconst (pc := 1) hC ki_0 dX12_rel_1 ?_
  obtain ⟨σ1, eσ1, h⟩ := pf_e h
  refine fp_X12_119_55 (pc := 2) hC dX12_rel_2 eσ1 ?_
  refine g_aload_n (pc := 5) hC dX12_rel_5 rfl ?_
  refine g_iload_n (pc := 6) hC dX12_rel_6 rfl ?_
  obtain ⟨v3, σ2, hc, h⟩ := cl_e h
  refine g_callVi (pc := 7) (As := [.int a1]) (rest := []) hC (c_X12_isFrame l E a1 σ1 v3 σ2 hc) mi_X12_isFrame mv_X12_isFrame ob_55 rfl rfl lk_X12_167 rfl rfl (Nat.le_of_ble_eq_true rfl) ⟨by decide, by decide⟩ hab dX12_rel_7 ?_
  have hJ21 : ∀ (σ10 : uS), J_X12_rel_1 σ10 = some (r, σr) → Gd l E K 0 0 o σ10 21 [none, none, none] [] := by
    intro σ10 h
    delta J_X12_rel_1 at h
    refine g_iconst (pc := 21) hC ki_0 dX12_rel_21 ?_
    exact g_ret (pc := 22) hC h hR dX12_rel_22
  refine g_if_eq (tgt := 21) (pc := 10) hC dX12_rel_10 (by decide) (fun c4 => ?_) (fun c4 => ?_)
  · replace h := it_t c4 h
    refine g_mask [false, false, false] rfl ?_
    exact hJ21 σ2 h
  · replace h := it_f c4 h
    refine g_aload_n (pc := 13) hC dX12_rel_13 rfl ?_
    refine g_iload_n (pc := 14) hC dX12_rel_14 rfl ?_
    obtain ⟨v6, σ5, hc, h⟩ := cl_e h
    refine g_callVi (pc := 15) (As := [.int a2]) (rest := []) hC (c_X12_isLag l E a2 σ2 v6 σ5 hc) mi_X12_isLag mv_X12_isLag ob_55 rfl rfl lk_X12_171 rfl rfl (Nat.le_of_ble_eq_true rfl) ⟨by decide, by decide⟩ hab dX12_rel_15 ?_
    refine g_if_ne (tgt := 23) (pc := 18) hC dX12_rel_18 (by decide) (fun c7 => ?_) (fun c7 => ?_)
    · replace h := it_f c7 h
      refine g_aload_n (pc := 23) hC dX12_rel_23 rfl ?_
      refine g_iload_n (pc := 24) hC dX12_rel_24 rfl ?_
      obtain ⟨σ8, hc, h⟩ := cp_e h
      refine g_callVv (pc := 25) (As := [.int a1]) (rest := []) hC (c_X12_laysDiffs l E a1 σ5 σ8 hc) mi_X12_laysDiffs mv_X12_laysDiffs ob_55 rfl rfl lk_X12_174 rfl rfl (Nat.le_of_ble_eq_true rfl) ⟨by decide, by decide⟩ hab dX12_rel_25 ?_
      refine g_aload_n (pc := 28) hC dX12_rel_28 rfl ?_
      refine fg_X12_31_55 (pc := 29) hC dX12_rel_29 ?_
      refine g_iload_n (pc := 32) hC dX12_rel_32 rfl ?_
      obtain ⟨v9, ev9, nv9, h⟩ := rd_e h
      refine g_iald (pc := 33) hC 63 (by decide) (ar_63 _ _ _) nv9 dX12_rel_33 ?_
      refine g_top ev9 ?_
      exact g_ret (pc := 34) hC h hR dX12_rel_34
    · replace h := it_t c7 h
      refine g_mask [false, false, false] rfl ?_
      exact hJ21 σ5 h
