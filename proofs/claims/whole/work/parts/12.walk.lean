set_option maxRecDepth 20000 in
theorem c_X7_size (l : Launch) (E : uE) (σ : uS) (r : Int32) (h : F_X7_size σ = some r) : CtI l E yX7_size cX7_size 1 (some .int) 0 0 [.ref (E.2.1 1)] σ r σ := by
  refine enterI 0 [some (.ref (E.2.1 1))] (by decide +kernel) rfl (Nat.le_of_ble_eq_true rfl) (fun o K hnL hC hab hR => ?_)
  have hC : Cx E K RX7 cX7_size (some .int) 0 0 := hC
  have hN : ∀ k, k < 1 → k < K.2.2.2.2.2 := fun k hk => hnL ▸ hk
  delta F_X7_size at h
  refine g_aload_n (pc := 0) hC dX7_size_0 rfl ?_
  refine fg_X7_18_1 (pc := 1) hC dX7_size_1 ?_
  exact g_retp (pc := 4) hC h hR dX7_size_4
set_option maxRecDepth 20000 in
theorem c_X7_has (l : Launch) (E : uE) (a1 : Int32) (σ : uS) (r : Int32) (h : F_X7_has a1 σ = some r) : CtI l E yX7_has cX7_has 2 (some .boolean) 0 0 [.ref (E.2.1 1), .int a1] σ r σ := by
  refine enterI 0 [some (.ref (E.2.1 1)), some (.int a1)] (by decide +kernel) rfl (Nat.le_of_ble_eq_true rfl) (fun o K hnL hC hab hR => ?_)
  have hC : Cx E K RX7 cX7_has (some .boolean) 0 0 := hC
  have hN : ∀ k, k < 2 → k < K.2.2.2.2.2 := fun k hk => hnL ▸ hk
  delta F_X7_has at h
  refine g_iload_n (pc := 0) hC dX7_has_0 rfl ?_
  have hJ17 : ∀ (v3 : Int32), J_X7_has_2 v3 = some r → Gd l E K 0 0 o σ 17 [none, none] [.int v3] := by
    intro v3 h
    delta J_X7_has_2 at h
    obtain ⟨h01, h⟩ := bz_e h
    exact g_retzp (pc := 17) hC h01 h hR dX7_has_17
  have hJ16 : J_X7_has_1 = some r → Gd l E K 0 0 o σ 16 [none, none] [] := by
    intro h
    delta J_X7_has_1 at h
    refine g_iconst (pc := 16) hC ki_0 dX7_has_16 ?_
    exact hJ17 0 h
  refine g_if_lt (tgt := 16) (pc := 1) hC dX7_has_1 (by decide) (fun c1 => ?_) (fun c1 => ?_)
  · replace h := it_t c1 h
    refine g_mask [false, false] rfl ?_
    exact hJ16 h
  · replace h := it_f c1 h
    refine g_iload_n (pc := 4) hC dX7_has_4 rfl ?_
    refine g_aload_n (pc := 5) hC dX7_has_5 rfl ?_
    refine fg_X7_18_1 (pc := 6) hC dX7_has_6 ?_
    refine g_icmp_ge (tgt := 16) (pc := 9) hC dX7_has_9 (by decide) (fun c2 => ?_) (fun c2 => ?_)
    · replace h := it_t c2 h
      refine g_mask [false, false] rfl ?_
      exact hJ16 h
    · replace h := it_f c2 h
      refine g_iconst (pc := 12) hC ki_1 dX7_has_12 ?_
      refine g_goto (tgt := 17) (pc := 13) hC dX7_has_13 (by decide) ?_
      refine g_mask [false, false] rfl ?_
      exact hJ17 1 h
set_option maxRecDepth 20000 in
theorem c_X7_hasRoom (l : Launch) (E : uE) (a1 : Int32) (σ : uS) (r : Int32) (h : F_X7_hasRoom a1 σ = some r) : CtI l E yX7_hasRoom cX7_hasRoom 2 (some .boolean) 0 0 [.ref (E.2.1 1), .int a1] σ r σ := by
  refine enterI 0 [some (.ref (E.2.1 1)), some (.int a1)] (by decide +kernel) rfl (Nat.le_of_ble_eq_true rfl) (fun o K hnL hC hab hR => ?_)
  have hC : Cx E K RX7 cX7_hasRoom (some .boolean) 0 0 := hC
  have hN : ∀ k, k < 2 → k < K.2.2.2.2.2 := fun k hk => hnL ▸ hk
  delta F_X7_hasRoom at h
  refine g_aload_n (pc := 0) hC dX7_hasRoom_0 rfl ?_
  refine fg_X7_18_1 (pc := 1) hC dX7_hasRoom_1 ?_
  refine g_iload_n (pc := 4) hC dX7_hasRoom_4 rfl ?_
  refine g_iadd (pc := 5) hC dX7_hasRoom_5 ?_
  refine g_sipush (pc := 6) hC ks_800 dX7_hasRoom_6 ?_
  obtain ⟨v2, ev2, h⟩ := lt_e h
  have hJ17 : Gd l E K 0 0 o σ 17 [none, none] [.int v2] := by
    obtain ⟨h01, h⟩ := bz_e h
    exact g_retzp (pc := 17) hC h01 h hR dX7_hasRoom_17
  refine g_icmp_gt (tgt := 16) (pc := 9) hC dX7_hasRoom_9 (by decide) (fun c1 => ?_) (fun c1 => ?_)
  · refine g_iconst (pc := 16) hC ki_0 dX7_hasRoom_16 ?_
    refine g_mask [false, false] rfl ?_
    exact g_top (iv_t c1 ev2) hJ17
  · refine g_iconst (pc := 12) hC ki_1 dX7_hasRoom_12 ?_
    refine g_goto (tgt := 17) (pc := 13) hC dX7_hasRoom_13 (by decide) ?_
    refine g_mask [false, false] rfl ?_
    exact g_top (iv_f c1 ev2) hJ17
set_option maxRecDepth 20000 in
theorem c_X7_at (l : Launch) (E : uE) (a1 : Int32) (σ : uS) (r : Int32) (h : F_X7_at a1 σ = some r) : CtI l E yX7_at cX7_at 2 (some .int) 0 0 [.ref (E.2.1 1), .int a1] σ r σ := by
  refine enterI 0 [some (.ref (E.2.1 1)), some (.int a1)] (by decide +kernel) rfl (Nat.le_of_ble_eq_true rfl) (fun o K hnL hC hab hR => ?_)
  have hC : Cx E K RX7 cX7_at (some .int) 0 0 := hC
  have hN : ∀ k, k < 2 → k < K.2.2.2.2.2 := fun k hk => hnL ▸ hk
  delta F_X7_at at h
  refine g_iload_n (pc := 0) hC dX7_at_0 rfl ?_
  have hJ22 : ∀ (v4 : Int32), J_X7_at_2 v4 = some r → Gd l E K 0 0 o σ 22 [none, none] [.int v4] := by
    intro v4 h
    delta J_X7_at_2 at h
    exact g_retp (pc := 22) hC h hR dX7_at_22
  have hJ12 : J_X7_at_1 = some r → Gd l E K 0 0 o σ 12 [none, none] [] := by
    intro h
    delta J_X7_at_1 at h
    refine g_iconst (pc := 12) hC ki_0 dX7_at_12 ?_
    refine g_goto (tgt := 22) (pc := 13) hC dX7_at_13 (by decide) ?_
    exact hJ22 0 h
  refine g_if_lt (tgt := 12) (pc := 1) hC dX7_at_1 (by decide) (fun c1 => ?_) (fun c1 => ?_)
  · replace h := it_t c1 h
    refine g_mask [false, false] rfl ?_
    exact hJ12 h
  · replace h := it_f c1 h
    refine g_iload_n (pc := 4) hC dX7_at_4 rfl ?_
    refine g_aload_n (pc := 5) hC dX7_at_5 rfl ?_
    refine fg_X7_18_1 (pc := 6) hC dX7_at_6 ?_
    refine g_icmp_lt (tgt := 16) (pc := 9) hC dX7_at_9 (by decide) (fun c2 => ?_) (fun c2 => ?_)
    · replace h := it_t c2 h
      refine g_aload_n (pc := 16) hC dX7_at_16 rfl ?_
      refine fg_X7_9_1 (pc := 17) hC dX7_at_17 ?_
      refine g_iload_n (pc := 20) hC dX7_at_20 rfl ?_
      obtain ⟨v3, ev3, nv3, h⟩ := rd_e h
      refine g_iald (pc := 21) hC 2 (by decide) (ar_2 _ _ _) nv3 dX7_at_21 ?_
      refine g_top ev3 ?_
      refine g_mask [false, false] rfl ?_
      exact hJ22 v3 h
    · replace h := it_f c2 h
      refine g_mask [false, false] rfl ?_
      exact hJ12 h
set_option maxRecDepth 20000 in
theorem c_X7_put (l : Launch) (E : uE) (a1 : Int32) (a2 : Int32) (σ : uS) (σr : uS) (h : F_X7_put a1 a2 σ = some σr) : CtV l E yX7_put cX7_put 3 1 21 [.ref (E.2.1 1), .int a1, .int a2] σ σr := by
  refine enterV 0 [some (.ref (E.2.1 1)), some (.int a1), some (.int a2)] (by decide +kernel) rfl (Nat.le_of_ble_eq_true rfl) (fun o K hnL hC hab hR => ?_)
  have hC : Cx E K RX7 cX7_put none 1 21 := hC
  have hN : ∀ k, k < 3 → k < K.2.2.2.2.2 := fun k hk => hnL ▸ hk
  delta F_X7_put at h
  refine g_aload_n (pc := 0) hC dX7_put_0 rfl ?_
  refine g_iload_n (pc := 1) hC dX7_put_1 rfl ?_
  obtain ⟨v1, hc, h⟩ := cp_e h
  refine g_callVi (pc := 2) (As := [.int a1]) (rest := []) hC (c_X7_has l E a1 σ v1 hc) mi_X7_has mv_X7_has ob_1 rfl rfl lk_X7_22 rfl rfl (Nat.le_of_ble_eq_true rfl) ⟨by decide, by decide⟩ hab dX7_put_2 ?_
  have hJ15 : ∀ (σ4 : uS), J_X7_put_1 σ4 = some σr → Gd l E K 0 0 o σ4 15 [none, none, none] [] := by
    intro σ4 h
    delta J_X7_put_1 at h
    exact g_retv (pc := 15) hC h hR dX7_put_15
  refine g_if_eq (tgt := 15) (pc := 5) hC dX7_put_5 (by decide) (fun c2 => ?_) (fun c2 => ?_)
  · replace h := it_t c2 h
    refine g_mask [false, false, false] rfl ?_
    exact hJ15 σ h
  · replace h := it_f c2 h
    refine g_aload_n (pc := 8) hC dX7_put_8 rfl ?_
    refine fg_X7_9_1 (pc := 9) hC dX7_put_9 ?_
    refine g_iload_n (pc := 12) hC dX7_put_12 rfl ?_
    refine g_iload_n (pc := 13) hC dX7_put_13 rfl ?_
    obtain ⟨σ3, eσ3, nσ3, h⟩ := wr_e h
    refine g_iast (pc := 14) hC 2 (by decide) (ar_2 _ _) nσ3 dX7_put_14 eσ3 ?_
    refine g_mask [false, false, false] rfl ?_
    exact hJ15 σ3 h
set_option maxRecDepth 20000 in
theorem c_X7_append (l : Launch) (E : uE) (a1 : Int32) (σ : uS) (σr : uS) (h : F_X7_append a1 σ = some σr) : CtV l E yX7_append cX7_append 2 0 0 [.ref (E.2.1 1), .int a1] σ σr := by
  refine enterV 0 [some (.ref (E.2.1 1)), some (.int a1)] (by decide +kernel) rfl (Nat.le_of_ble_eq_true rfl) (fun o K hnL hC hab hR => ?_)
  have hC : Cx E K RX7 cX7_append none 0 0 := hC
  have hN : ∀ k, k < 2 → k < K.2.2.2.2.2 := fun k hk => hnL ▸ hk
  delta F_X7_append at h
  refine g_aload_n (pc := 0) hC dX7_append_0 rfl ?_
  refine fg_X7_18_1 (pc := 1) hC dX7_append_1 ?_
  refine g_sipush (pc := 4) hC ks_800 dX7_append_4 ?_
  have hJ30 : ∀ (σ4 : uS), J_X7_append_1 σ4 = some σr → Gd l E K 0 0 o σ4 30 [none, none] [] := by
    intro σ4 h
    delta J_X7_append_1 at h
    exact g_retv (pc := 30) hC h hR dX7_append_30
  refine g_icmp_ge (tgt := 30) (pc := 7) hC dX7_append_7 (by decide) (fun c1 => ?_) (fun c1 => ?_)
  · replace h := it_t c1 h
    refine g_mask [false, false] rfl ?_
    exact hJ30 σ h
  · replace h := it_f c1 h
    refine g_aload_n (pc := 10) hC dX7_append_10 rfl ?_
    refine fg_X7_9_1 (pc := 11) hC dX7_append_11 ?_
    refine g_aload_n (pc := 14) hC dX7_append_14 rfl ?_
    refine fg_X7_18_1 (pc := 15) hC dX7_append_15 ?_
    refine g_iload_n (pc := 18) hC dX7_append_18 rfl ?_
    obtain ⟨σ2, eσ2, nσ2, h⟩ := wr_e h
    refine g_iast (pc := 19) hC 2 (by decide) (ar_2 _ _) nσ2 dX7_append_19 eσ2 ?_
    refine g_aload_n (pc := 20) hC dX7_append_20 rfl ?_
    refine g_dup (pc := 21) hC rfl dX7_append_21 ?_
    refine fg_X7_18_1 (pc := 22) hC dX7_append_22 ?_
    refine g_iconst (pc := 25) hC ki_1 dX7_append_25 ?_
    refine g_iadd (pc := 26) hC dX7_append_26 ?_
    obtain ⟨σ3, eσ3, h⟩ := pf_e h
    refine fp_X7_18_1 (pc := 27) hC dX7_append_27 eσ3 ?_
    refine g_mask [false, false] rfl ?_
    exact hJ30 σ3 h
set_option maxRecDepth 20000 in
theorem c_J9_max_7cf53 (l : Launch) (E : uE) (a1 : Int32) (a2 : Int32) (σ : uS) (r : Int32) (h : F_J9_max_7cf53 a1 a2 σ = some r) : CtI l E yJ9_max_7cf53 cJ9_max_7cf53 2 (some .int) 0 0 [.int a1, .int a2] σ r σ := by
  refine enterI 0 [some (.int a1), some (.int a2)] (by decide +kernel) rfl (Nat.le_of_ble_eq_true rfl) (fun o K hnL hC hab hR => ?_)
  have hC : Cx E K RJ9 cJ9_max_7cf53 (some .int) 0 0 := hC
  have hN : ∀ k, k < 2 → k < K.2.2.2.2.2 := fun k hk => hnL ▸ hk
  delta F_J9_max_7cf53 at h
  refine g_iload_n (pc := 0) hC dJ9_max_7cf53_0 rfl ?_
  refine g_iload_n (pc := 1) hC dJ9_max_7cf53_1 rfl ?_
  obtain ⟨v2, ev2, h⟩ := lt_e h
  have hJ10 : Gd l E K 0 0 o σ 10 [none, none] [.int v2] := by
    exact g_retp (pc := 10) hC h hR dJ9_max_7cf53_10
  refine g_icmp_lt (tgt := 9) (pc := 2) hC dJ9_max_7cf53_2 (by decide) (fun c1 => ?_) (fun c1 => ?_)
  · refine g_iload_n (pc := 9) hC dJ9_max_7cf53_9 rfl ?_
    refine g_mask [false, false] rfl ?_
    exact g_top (iv_t c1 ev2) hJ10
  · refine g_iload_n (pc := 5) hC dJ9_max_7cf53_5 rfl ?_
    refine g_goto (tgt := 10) (pc := 6) hC dJ9_max_7cf53_6 (by decide) ?_
    refine g_mask [false, false] rfl ?_
    exact g_top (iv_f c1 ev2) hJ10
set_option maxRecDepth 20000 in
theorem c_X7_drop (l : Launch) (E : uE) (a1 : Int32) (σ : uS) (σr : uS) (h : F_X7_drop a1 σ = some σr) : CtV l E yX7_drop cX7_drop 2 1 21 [.ref (E.2.1 1), .int a1] σ σr := by
  refine enterV 0 [some (.ref (E.2.1 1)), some (.int a1)] (by decide +kernel) rfl (Nat.le_of_ble_eq_true rfl) (fun o K hnL hC hab hR => ?_)
  have hC : Cx E K RX7 cX7_drop none 1 21 := hC
  have hN : ∀ k, k < 2 → k < K.2.2.2.2.2 := fun k hk => hnL ▸ hk
  delta F_X7_drop at h
  refine g_aload_n (pc := 0) hC dX7_drop_0 rfl ?_
  refine g_iconst (pc := 1) hC ki_0 dX7_drop_1 ?_
  refine g_aload_n (pc := 2) hC dX7_drop_2 rfl ?_
  refine fg_X7_18_1 (pc := 3) hC dX7_drop_3 ?_
  refine g_iload_n (pc := 6) hC dX7_drop_6 rfl ?_
  refine g_isub (pc := 7) hC dX7_drop_7 ?_
  obtain ⟨v1, hc, h⟩ := cp_e h
  refine g_callSi (pc := 8) (As := [.int 0, .int ((σ 1 2) - a1)]) (rest := [.ref (E.2.1 1)]) hC (c_J9_max_7cf53 l E 0 ((σ 1 2) - a1) σ v1 hc) mi_J9_max_7cf53 ms_J9_max_7cf53 lk_X7_26 rfl rfl (Nat.le_of_ble_eq_true rfl) ⟨by decide, by decide⟩ hab dX7_drop_8 ?_
  obtain ⟨σ2, eσ2, h⟩ := pf_e h
  refine fp_X7_18_1 (pc := 11) hC dX7_drop_11 eσ2 ?_
  exact g_retv (pc := 14) hC h hR dX7_drop_14
set_option maxRecDepth 20000 in
theorem c_X7_offItself (l : Launch) (E : uE) (a1 : Int32) (a2 : Int32) (a3 : Int32) (σ : uS) (r : Int32) (h : F_X7_offItself a1 a2 a3 σ = some r) : CtI l E yX7_offItself cX7_offItself 7 (some .int) 0 0 [.ref (E.2.1 1), .int a1, .int a2, .int a3] σ r σ := by
  refine enterI 3 [some (.ref (E.2.1 1)), some (.int a1), some (.int a2), some (.int a3), none, none, none] (by decide +kernel) rfl (Nat.le_of_ble_eq_true rfl) (fun o K hnL hC hab hR => ?_)
  have hC : Cx E K RX7 cX7_offItself (some .int) 0 0 := hC
  have hN : ∀ k, k < 7 → k < K.2.2.2.2.2 := fun k hk => hnL ▸ hk
  delta F_X7_offItself at h
  refine g_iload_n (pc := 0) hC dX7_offItself_0 rfl ?_
  have hJ20 : J_X7_offItself_4 = some r → Gd l E K 0 0 o σ 20 [none, none, none, none, none, none, none] [] := by
    intro h
    delta J_X7_offItself_4 at h
    refine g_iconst (pc := 20) hC ki_0 dX7_offItself_20 ?_
    exact g_retp (pc := 21) hC h hR dX7_offItself_21
  refine g_if_lt (tgt := 20) (pc := 1) hC dX7_offItself_1 (by decide) (fun c1 => ?_) (fun c1 => ?_)
  · replace h := it_t c1 h
    refine g_mask [false, false, false, false, false, false, false] rfl ?_
    exact hJ20 h
  · replace h := it_f c1 h
    refine g_iload_n (pc := 4) hC dX7_offItself_4 rfl ?_
    refine g_if_lt (tgt := 20) (pc := 5) hC dX7_offItself_5 (by decide) (fun c2 => ?_) (fun c2 => ?_)
    · replace h := it_t c2 h
      refine g_mask [false, false, false, false, false, false, false] rfl ?_
      exact hJ20 h
    · replace h := it_f c2 h
      refine g_iload_n (pc := 8) hC dX7_offItself_8 rfl ?_
      refine g_iload_n (pc := 9) hC dX7_offItself_9 rfl ?_
      refine g_iadd (pc := 10) hC dX7_offItself_10 ?_
      refine g_iload_n (pc := 11) hC dX7_offItself_11 rfl ?_
      refine g_iadd (pc := 12) hC dX7_offItself_12 ?_
      refine g_aload_n (pc := 13) hC dX7_offItself_13 rfl ?_
      refine fg_X7_18_1 (pc := 14) hC dX7_offItself_14 ?_
      refine g_icmp_le (tgt := 22) (pc := 17) hC dX7_offItself_17 (by decide) (fun c3 => ?_) (fun c3 => ?_)
      · replace h := it_t c3 h
        refine g_iconst (pc := 22) hC ki_0 dX7_offItself_22 ?_
        refine g_istore (lv2 := [some (.ref (E.2.1 1)), some (.int a1), some (.int a2), some (.int a3), some (.int 0), none, none]) (pc := 23) hC dX7_offItself_23 rfl (Or.inr rfl) (hN _ (by decide)) ?_
        refine g_iload_n (pc := 25) hC dX7_offItself_25 rfl ?_
        refine g_istore (lv2 := [some (.ref (E.2.1 1)), some (.int a1), some (.int a2), some (.int a3), some (.int 0), some (.int a1), none]) (pc := 26) hC dX7_offItself_26 rfl (Or.inr rfl) (hN _ (by decide)) ?_
        have hL1 : ∀ (n : Nat) (w4 : Int32) (w5 : Int32) (z1 : Int32), iter n (fun z => B_X7_offItself_2 a1 a2 a3 σ z.1 z.2) (w4, w5) = some z1 → (∀ (v6 : Int32), z1 = v6 → Gd l E K 0 0 o σ 79 [none, none, none, none, some (.int v6), none, none] []) → Gd l E K 0 0 o σ 28 [some (.ref (E.2.1 1)), some (.int a1), some (.int a2), some (.int a3), some (.int w4), some (.int w5), none] [] := by
          intro n
          induction n with
          | zero =>
            intro w4 w5 z1 hi
            exact (iter_0 hi).elim
          | succ n ih1 =>
            intro w4 w5 z1 hi1 kx1
            obtain ⟨r1, h, hi1⟩ := iter_s hi1
            replace h : B_X7_offItself_2 a1 a2 a3 σ w4 w5 = some r1 := h
            delta B_X7_offItself_2 at h
            refine g_iload (pc := 28) hC dX7_offItself_28 rfl ?_
            refine g_iload_n (pc := 30) hC dX7_offItself_30 rfl ?_
            refine g_iload_n (pc := 31) hC dX7_offItself_31 rfl ?_
            refine g_iadd (pc := 32) hC dX7_offItself_32 ?_
            refine g_icmp_ge (tgt := 79) (pc := 33) hC dX7_offItself_33 (by decide) (fun c7 => ?_) (fun c7 => ?_)
            · replace h := it_t c7 h
              refine g_mask [false, false, false, false, true, false, false] rfl ?_
              exact kx1 w4 (iter_r h hi1)
            · replace h := it_f c7 h
              refine g_aload_n (pc := 36) hC dX7_offItself_36 rfl ?_
              refine fg_X7_9_1 (pc := 37) hC dX7_offItself_37 ?_
              refine g_iload (pc := 40) hC dX7_offItself_40 rfl ?_
              obtain ⟨v8, ev8, nv8, h⟩ := rd_e h
              refine g_iald (pc := 42) hC 2 (by decide) (ar_2 _ _ _) nv8 dX7_offItself_42 ?_
              refine g_top ev8 ?_
              refine g_aload_n (pc := 43) hC dX7_offItself_43 rfl ?_
              refine fg_X7_9_1 (pc := 44) hC dX7_offItself_44 ?_
              refine g_iload (pc := 47) hC dX7_offItself_47 rfl ?_
              refine g_iload_n (pc := 49) hC dX7_offItself_49 rfl ?_
              refine g_iadd (pc := 50) hC dX7_offItself_50 ?_
              obtain ⟨v9, ev9, nv9, h⟩ := rd_e h
              refine g_iald (pc := 51) hC 2 (by decide) (ar_2 _ _ _) nv9 dX7_offItself_51 ?_
              refine g_top ev9 ?_
              refine g_isub (pc := 52) hC dX7_offItself_52 ?_
              obtain ⟨v10, ev10, h⟩ := lt_e h
              refine g_top ev10 ?_
              refine g_istore (lv2 := [some (.ref (E.2.1 1)), some (.int a1), some (.int a2), some (.int a3), some (.int w4), some (.int w5), some (.int v10)]) (pc := 53) hC dX7_offItself_53 rfl (Or.inr rfl) (hN _ (by decide)) ?_
              refine g_iload (pc := 55) hC dX7_offItself_55 rfl ?_
              refine g_iload (pc := 57) hC dX7_offItself_57 rfl ?_
              obtain ⟨v12, ev12, h⟩ := lt_e h
              have hJ70 : Gd l E K 0 0 o σ 70 [some (.ref (E.2.1 1)), some (.int a1), some (.int a2), some (.int a3), none, some (.int w5), none] [.int v12, .int w4] := by
                refine g_iadd (pc := 70) hC dX7_offItself_70 ?_
                obtain ⟨v13, ev13, h⟩ := lt_e h
                refine g_top ev13 ?_
                refine g_istore (lv2 := [some (.ref (E.2.1 1)), some (.int a1), some (.int a2), some (.int a3), some (.int v13), some (.int w5), none]) (pc := 71) hC dX7_offItself_71 rfl (Or.inr rfl) (hN _ (by decide)) ?_
                obtain ⟨v14, ev14, h⟩ := lt_e h
                refine g_iinc (v := v14) (lv2 := [some (.ref (E.2.1 1)), some (.int a1), some (.int a2), some (.int a3), some (.int v13), some (.int v14), none]) (pc := 73) hC dX7_offItself_73 rfl ev14 rfl (Or.inr rfl) (hN _ (by decide)) ?_
                refine g_goto (tgt := 28) (pc := 76) hC dX7_offItself_76 (by decide) ?_
                exact ih1 v13 v14 z1 (iter_l h hi1) kx1
              refine g_if_ge (tgt := 68) (pc := 59) hC dX7_offItself_59 (by decide) (fun c11 => ?_) (fun c11 => ?_)
              · refine g_iload (pc := 68) hC dX7_offItself_68 rfl ?_
                refine g_mask [true, true, true, true, false, true, false] rfl ?_
                exact g_top (iv_t c11 ev12) hJ70
              · refine g_iload (pc := 62) hC dX7_offItself_62 rfl ?_
                refine g_ineg (pc := 64) hC dX7_offItself_64 ?_
                refine g_goto (tgt := 70) (pc := 65) hC dX7_offItself_65 (by decide) ?_
                refine g_mask [true, true, true, true, false, true, false] rfl ?_
                exact g_top (iv_f c11 ev12) hJ70
        obtain ⟨z1, hz1, h⟩ := lp_e h
        refine hL1 FU 0 a1 z1 hz1 (fun v6 ez => ?_)
        replace h : C_X7_offItself_3 v6 = some r := by rw [ez] at h; exact h
        delta C_X7_offItself_3 at h
        refine g_iload (pc := 79) hC dX7_offItself_79 rfl ?_
        exact g_retp (pc := 81) hC h hR dX7_offItself_81
      · replace h := it_f c3 h
        refine g_mask [false, false, false, false, false, false, false] rfl ?_
        exact hJ20 h
set_option maxRecDepth 20000 in
theorem c_J9_abs_0f7a4 (l : Launch) (E : uE) (a1 : Int32) (σ : uS) (r : Int32) (h : F_J9_abs_0f7a4 a1 σ = some r) : CtI l E yJ9_abs_0f7a4 cJ9_abs_0f7a4 1 (some .int) 0 0 [.int a1] σ r σ := by
  refine enterI 0 [some (.int a1)] (by decide +kernel) rfl (Nat.le_of_ble_eq_true rfl) (fun o K hnL hC hab hR => ?_)
  have hC : Cx E K RJ9 cJ9_abs_0f7a4 (some .int) 0 0 := hC
  have hN : ∀ k, k < 1 → k < K.2.2.2.2.2 := fun k hk => hnL ▸ hk
  delta F_J9_abs_0f7a4 at h
  refine g_iload_n (pc := 0) hC dJ9_abs_0f7a4_0 rfl ?_
  obtain ⟨v2, ev2, h⟩ := lt_e h
  have hJ10 : Gd l E K 0 0 o σ 10 [none] [.int v2] := by
    exact g_retp (pc := 10) hC h hR dJ9_abs_0f7a4_10
  refine g_if_ge (tgt := 9) (pc := 1) hC dJ9_abs_0f7a4_1 (by decide) (fun c1 => ?_) (fun c1 => ?_)
  · refine g_iload_n (pc := 9) hC dJ9_abs_0f7a4_9 rfl ?_
    refine g_mask [false] rfl ?_
    exact g_top (iv_t c1 ev2) hJ10
  · refine g_iload_n (pc := 4) hC dJ9_abs_0f7a4_4 rfl ?_
    refine g_ineg (pc := 5) hC dJ9_abs_0f7a4_5 ?_
    refine g_goto (tgt := 10) (pc := 6) hC dJ9_abs_0f7a4_6 (by decide) ?_
    refine g_mask [false] rfl ?_
    exact g_top (iv_f c1 ev2) hJ10
set_option maxRecDepth 20000 in
theorem c_X7_loudness (l : Launch) (E : uE) (a1 : Int32) (a2 : Int32) (σ : uS) (r : Int32) (h : F_X7_loudness a1 a2 σ = some r) : CtI l E yX7_loudness cX7_loudness 5 (some .int) 1 21 [.ref (E.2.1 1), .int a1, .int a2] σ r σ := by
  refine enterI 2 [some (.ref (E.2.1 1)), some (.int a1), some (.int a2), none, none] (by decide +kernel) rfl (Nat.le_of_ble_eq_true rfl) (fun o K hnL hC hab hR => ?_)
  have hC : Cx E K RX7 cX7_loudness (some .int) 1 21 := hC
  have hN : ∀ k, k < 5 → k < K.2.2.2.2.2 := fun k hk => hnL ▸ hk
  delta F_X7_loudness at h
  refine g_iconst (pc := 0) hC ki_0 dX7_loudness_0 ?_
  refine g_istore_n (lv2 := [some (.ref (E.2.1 1)), some (.int a1), some (.int a2), some (.int 0), none]) (pc := 1) hC dX7_loudness_1 rfl (Or.inr rfl) (hN _ (by decide)) ?_
  refine g_iload_n (pc := 2) hC dX7_loudness_2 rfl ?_
  refine g_istore (lv2 := [some (.ref (E.2.1 1)), some (.int a1), some (.int a2), some (.int 0), some (.int a1)]) (pc := 3) hC dX7_loudness_3 rfl (Or.inr rfl) (hN _ (by decide)) ?_
  have hL1 : ∀ (n : Nat) (w1 : Int32) (w2 : Int32) (z1 : Int32), iter n (fun z => B_X7_loudness_2 a1 a2 σ z.1 z.2) (w1, w2) = some z1 → (∀ (v3 : Int32), z1 = v3 → Gd l E K 0 0 o σ 31 [none, none, none, some (.int v3), none] []) → Gd l E K 0 0 o σ 5 [some (.ref (E.2.1 1)), some (.int a1), some (.int a2), some (.int w1), some (.int w2)] [] := by
    intro n
    induction n with
    | zero =>
      intro w1 w2 z1 hi
      exact (iter_0 hi).elim
    | succ n ih1 =>
      intro w1 w2 z1 hi1 kx1
      obtain ⟨r1, h, hi1⟩ := iter_s hi1
      replace h : B_X7_loudness_2 a1 a2 σ w1 w2 = some r1 := h
      delta B_X7_loudness_2 at h
      refine g_iload (pc := 5) hC dX7_loudness_5 rfl ?_
      refine g_iload_n (pc := 7) hC dX7_loudness_7 rfl ?_
      refine g_iload_n (pc := 8) hC dX7_loudness_8 rfl ?_
      refine g_iadd (pc := 9) hC dX7_loudness_9 ?_
      refine g_icmp_ge (tgt := 31) (pc := 10) hC dX7_loudness_10 (by decide) (fun c4 => ?_) (fun c4 => ?_)
      · replace h := it_t c4 h
        refine g_mask [false, false, false, true, false] rfl ?_
        exact kx1 w1 (iter_r h hi1)
      · replace h := it_f c4 h
        refine g_iload_n (pc := 13) hC dX7_loudness_13 rfl ?_
        refine g_aload_n (pc := 14) hC dX7_loudness_14 rfl ?_
        refine g_iload (pc := 15) hC dX7_loudness_15 rfl ?_
        obtain ⟨v5, hc, h⟩ := cp_e h
        refine g_callVi (pc := 17) (As := [.int w2]) (rest := [.int w1]) hC (c_X7_at l E w2 σ v5 hc) mi_X7_at mv_X7_at ob_1 rfl rfl lk_X7_32 rfl rfl (Nat.le_of_ble_eq_true rfl) ⟨by decide, by decide⟩ hab dX7_loudness_17 ?_
        obtain ⟨v6, hc, h⟩ := cp_e h
        refine g_callSi (pc := 20) (As := [.int v5]) (rest := [.int w1]) hC (c_J9_abs_0f7a4 l E v5 σ v6 hc) mi_J9_abs_0f7a4 ms_J9_abs_0f7a4 lk_X7_36 rfl rfl (Nat.le_of_ble_eq_true rfl) ⟨by decide, by decide⟩ hab dX7_loudness_20 ?_
        refine g_iadd (pc := 23) hC dX7_loudness_23 ?_
        obtain ⟨v7, ev7, h⟩ := lt_e h
        refine g_top ev7 ?_
        refine g_istore_n (lv2 := [some (.ref (E.2.1 1)), some (.int a1), some (.int a2), some (.int v7), some (.int w2)]) (pc := 24) hC dX7_loudness_24 rfl (Or.inr rfl) (hN _ (by decide)) ?_
        obtain ⟨v8, ev8, h⟩ := lt_e h
        refine g_iinc (v := v8) (lv2 := [some (.ref (E.2.1 1)), some (.int a1), some (.int a2), some (.int v7), some (.int v8)]) (pc := 25) hC dX7_loudness_25 rfl ev8 rfl (Or.inr rfl) (hN _ (by decide)) ?_
        refine g_goto (tgt := 5) (pc := 28) hC dX7_loudness_28 (by decide) ?_
        exact ih1 v7 v8 z1 (iter_l h hi1) kx1
  obtain ⟨z1, hz1, h⟩ := lp_e h
  refine hL1 FU 0 a1 z1 hz1 (fun v3 ez => ?_)
  replace h : C_X7_loudness_3 v3 = some r := by rw [ez] at h; exact h
  delta C_X7_loudness_3 at h
  refine g_iload_n (pc := 31) hC dX7_loudness_31 rfl ?_
  exact g_retp (pc := 32) hC h hR dX7_loudness_32
set_option maxRecDepth 20000 in
theorem c_X7_tapeSize (l : Launch) (E : uE) (σ : uS) (r : Int32) (h : F_X7_tapeSize σ = some r) : CtI l E yX7_tapeSize cX7_tapeSize 1 (some .int) 0 0 [.ref (E.2.1 1)] σ r σ := by
  refine enterI 0 [some (.ref (E.2.1 1))] (by decide +kernel) rfl (Nat.le_of_ble_eq_true rfl) (fun o K hnL hC hab hR => ?_)
  have hC : Cx E K RX7 cX7_tapeSize (some .int) 0 0 := hC
  have hN : ∀ k, k < 1 → k < K.2.2.2.2.2 := fun k hk => hnL ▸ hk
  delta F_X7_tapeSize at h
  refine g_aload_n (pc := 0) hC dX7_tapeSize_0 rfl ?_
  refine fg_X7_39_1 (pc := 1) hC dX7_tapeSize_1 ?_
  exact g_retp (pc := 4) hC h hR dX7_tapeSize_4
set_option maxRecDepth 20000 in
theorem c_X7_tapeNumber (l : Launch) (E : uE) (a1 : Int32) (σ : uS) (σr : uS) (h : F_X7_tapeNumber a1 σ = some σr) : CtV l E yX7_tapeNumber cX7_tapeNumber 3 0 0 [.ref (E.2.1 1), .int a1] σ σr := by
  refine enterV 1 [some (.ref (E.2.1 1)), some (.int a1), none] (by decide +kernel) rfl (Nat.le_of_ble_eq_true rfl) (fun o K hnL hC hab hR => ?_)
  have hC : Cx E K RX7 cX7_tapeNumber none 0 0 := hC
  have hN : ∀ k, k < 3 → k < K.2.2.2.2.2 := fun k hk => hnL ▸ hk
  delta F_X7_tapeNumber at h
  refine g_bipush (pc := 0) hC kb_24 dX7_tapeNumber_0 ?_
  refine g_istore_n (lv2 := [some (.ref (E.2.1 1)), some (.int a1), some (.int 24)]) (pc := 2) hC dX7_tapeNumber_2 rfl (Or.inr rfl) (hN _ (by decide)) ?_
  have hL1 : ∀ (n : Nat) (w1 : Int32) (σ2 : uS) (z1 : uS), iter n (fun z => B_X7_tapeNumber_2 a1 z.1 z.2) (w1, σ2) = some z1 → (∀ (σ3 : uS), z1 = σ3 → Gd l E K 0 0 o σ3 46 [none, none, none] []) → Gd l E K 0 0 o σ2 3 [some (.ref (E.2.1 1)), some (.int a1), some (.int w1)] [] := by
    intro n
    induction n with
    | zero =>
      intro w1 σ2 z1 hi
      exact (iter_0 hi).elim
    | succ n ih1 =>
      intro w1 σ2 z1 hi1 kx1
      obtain ⟨r1, h, hi1⟩ := iter_s hi1
      replace h : B_X7_tapeNumber_2 a1 w1 σ2 = some r1 := h
      delta B_X7_tapeNumber_2 at h
      refine g_iload_n (pc := 3) hC dX7_tapeNumber_3 rfl ?_
      refine g_if_lt (tgt := 46) (pc := 4) hC dX7_tapeNumber_4 (by decide) (fun c4 => ?_) (fun c4 => ?_)
      · replace h := it_t c4 h
        refine g_mask [false, false, false] rfl ?_
        exact kx1 σ2 (iter_r h hi1)
      · replace h := it_f c4 h
        refine g_aload_n (pc := 7) hC dX7_tapeNumber_7 rfl ?_
        refine fg_X7_39_1 (pc := 8) hC dX7_tapeNumber_8 ?_
        refine g_sipush (pc := 11) hC ks_400 dX7_tapeNumber_11 ?_
        refine g_icmp_ge (tgt := 46) (pc := 14) hC dX7_tapeNumber_14 (by decide) (fun c5 => ?_) (fun c5 => ?_)
        · replace h := it_t c5 h
          refine g_mask [false, false, false] rfl ?_
          exact kx1 σ2 (iter_r h hi1)
        · replace h := it_f c5 h
          refine g_aload_n (pc := 17) hC dX7_tapeNumber_17 rfl ?_
          refine fg_X7_15_1 (pc := 18) hC dX7_tapeNumber_18 ?_
          refine g_aload_n (pc := 21) hC dX7_tapeNumber_21 rfl ?_
          refine fg_X7_39_1 (pc := 22) hC dX7_tapeNumber_22 ?_
          refine g_iload_n (pc := 25) hC dX7_tapeNumber_25 rfl ?_
          refine g_iload_n (pc := 26) hC dX7_tapeNumber_26 rfl ?_
          refine g_ishr (pc := 27) hC dX7_tapeNumber_27 ?_
          refine g_i2b (pc := 28) hC dX7_tapeNumber_28 ?_
          obtain ⟨σ6, eσ6, nσ6, h⟩ := wr_e h
          refine g_iast (pc := 29) hC 3 (by decide) (ar_3 _ _) nσ6 dX7_tapeNumber_29 eσ6 ?_
          refine g_aload_n (pc := 30) hC dX7_tapeNumber_30 rfl ?_
          refine g_dup (pc := 31) hC rfl dX7_tapeNumber_31 ?_
          refine fg_X7_39_1 (pc := 32) hC dX7_tapeNumber_32 ?_
          refine g_iconst (pc := 35) hC ki_1 dX7_tapeNumber_35 ?_
          refine g_iadd (pc := 36) hC dX7_tapeNumber_36 ?_
          obtain ⟨σ7, eσ7, h⟩ := pf_e h
          refine fp_X7_39_1 (pc := 37) hC dX7_tapeNumber_37 eσ7 ?_
          obtain ⟨v8, ev8, h⟩ := lt_e h
          refine g_iinc (v := v8) (lv2 := [some (.ref (E.2.1 1)), some (.int a1), some (.int v8)]) (pc := 40) hC dX7_tapeNumber_40 rfl ev8 rfl (Or.inr rfl) (hN _ (by decide)) ?_
          refine g_goto (tgt := 3) (pc := 43) hC dX7_tapeNumber_43 (by decide) ?_
          exact ih1 v8 σ7 z1 (iter_l h hi1) kx1
  obtain ⟨z1, hz1, h⟩ := lp_e h
  refine hL1 FU 24 σ z1 hz1 (fun σ3 ez => ?_)
  replace h : C_X7_tapeNumber_3 σ3 = some σr := by rw [ez] at h; exact h
  delta C_X7_tapeNumber_3 at h
  exact g_retv (pc := 46) hC h hR dX7_tapeNumber_46
set_option maxRecDepth 20000 in
theorem c_X7_appendFromTape (l : Launch) (E : uE) (a1 : Int32) (σ : uS) (σr : uS) (h : F_X7_appendFromTape a1 σ = some σr) : CtV l E yX7_appendFromTape cX7_appendFromTape 3 1 21 [.ref (E.2.1 1), .int a1] σ σr := by
  refine enterV 1 [some (.ref (E.2.1 1)), some (.int a1), none] (by decide +kernel) rfl (Nat.le_of_ble_eq_true rfl) (fun o K hnL hC hab hR => ?_)
  have hC : Cx E K RX7 cX7_appendFromTape none 1 21 := hC
  have hN : ∀ k, k < 3 → k < K.2.2.2.2.2 := fun k hk => hnL ▸ hk
  delta F_X7_appendFromTape at h
  refine g_iconst (pc := 0) hC ki_0 dX7_appendFromTape_0 ?_
  refine g_istore_n (lv2 := [some (.ref (E.2.1 1)), some (.int a1), some (.int 0)]) (pc := 1) hC dX7_appendFromTape_1 rfl (Or.inr rfl) (hN _ (by decide)) ?_
  have hL1 : ∀ (n : Nat) (w1 : Int32) (σ2 : uS) (z1 : uS), iter n (fun z => B_X7_appendFromTape_2 a1 z.1 z.2) (w1, σ2) = some z1 → (∀ (σ3 : uS), z1 = σ3 → Gd l E K 0 0 o σ3 31 [some (.ref (E.2.1 1)), none, none] []) → Gd l E K 0 0 o σ2 2 [some (.ref (E.2.1 1)), some (.int a1), some (.int w1)] [] := by
    intro n
    induction n with
    | zero =>
      intro w1 σ2 z1 hi
      exact (iter_0 hi).elim
    | succ n ih1 =>
      intro w1 σ2 z1 hi1 kx1
      obtain ⟨r1, h, hi1⟩ := iter_s hi1
      replace h : B_X7_appendFromTape_2 a1 w1 σ2 = some r1 := h
      delta B_X7_appendFromTape_2 at h
      refine g_iload_n (pc := 2) hC dX7_appendFromTape_2 rfl ?_
      refine g_iload_n (pc := 3) hC dX7_appendFromTape_3 rfl ?_
      refine g_icmp_ge (tgt := 31) (pc := 4) hC dX7_appendFromTape_4 (by decide) (fun c4 => ?_) (fun c4 => ?_)
      · replace h := it_t c4 h
        refine g_mask [true, false, false] rfl ?_
        exact kx1 σ2 (iter_r h hi1)
      · replace h := it_f c4 h
        refine g_iload_n (pc := 7) hC dX7_appendFromTape_7 rfl ?_
        refine g_aload_n (pc := 8) hC dX7_appendFromTape_8 rfl ?_
        refine fg_X7_39_1 (pc := 9) hC dX7_appendFromTape_9 ?_
        refine g_icmp_ge (tgt := 31) (pc := 12) hC dX7_appendFromTape_12 (by decide) (fun c5 => ?_) (fun c5 => ?_)
        · replace h := it_t c5 h
          refine g_mask [true, false, false] rfl ?_
          exact kx1 σ2 (iter_r h hi1)
        · replace h := it_f c5 h
          refine g_aload_n (pc := 15) hC dX7_appendFromTape_15 rfl ?_
          refine g_aload_n (pc := 16) hC dX7_appendFromTape_16 rfl ?_
          refine fg_X7_15_1 (pc := 17) hC dX7_appendFromTape_17 ?_
          refine g_iload_n (pc := 20) hC dX7_appendFromTape_20 rfl ?_
          obtain ⟨v6, ev6, nv6, h⟩ := rd_e h
          refine g_iald (pc := 21) hC 3 (by decide) (ar_3 _ _ _) nv6 dX7_appendFromTape_21 ?_
          refine g_top ev6 ?_
          obtain ⟨σ7, hc, h⟩ := cp_e h
          refine g_callVv (pc := 22) (As := [.int v6]) (rest := []) hC (c_X7_append l E v6 σ2 σ7 hc) mi_X7_append mv_X7_append ob_1 rfl rfl lk_X7_42 rfl rfl (Nat.le_of_ble_eq_true rfl) ⟨by decide, by decide⟩ hab dX7_appendFromTape_22 ?_
          obtain ⟨v8, ev8, h⟩ := lt_e h
          refine g_iinc (v := v8) (lv2 := [some (.ref (E.2.1 1)), some (.int a1), some (.int v8)]) (pc := 25) hC dX7_appendFromTape_25 rfl ev8 rfl (Or.inr rfl) (hN _ (by decide)) ?_
          refine g_goto (tgt := 2) (pc := 28) hC dX7_appendFromTape_28 (by decide) ?_
          exact ih1 v8 σ7 z1 (iter_l h hi1) kx1
  obtain ⟨z1, hz1, h⟩ := lp_e h
  refine hL1 FU 0 σ z1 hz1 (fun σ3 ez => ?_)
  replace h : C_X7_appendFromTape_3 σ3 = some σr := by rw [ez] at h; exact h
  delta C_X7_appendFromTape_3 at h
  refine g_aload_n (pc := 31) hC dX7_appendFromTape_31 rfl ?_
  refine g_iconst (pc := 32) hC ki_0 dX7_appendFromTape_32 ?_
  obtain ⟨σ9, eσ9, h⟩ := pf_e h
  refine fp_X7_39_1 (pc := 33) hC dX7_appendFromTape_33 eσ9 ?_
  exact g_retv (pc := 36) hC h hR dX7_appendFromTape_36
set_option maxRecDepth 20000 in
theorem c_X0_of (l : Launch) (E : uE) (a1 : Int32) (σ : uS) (r : Int32) (h : F_X0_of a1 σ = some r) : CtI l E yX0_of cX0_of 2 (some .int) 0 0 [.ref (E.2.1 4), .int a1] σ r σ := by
  refine enterI 0 [some (.ref (E.2.1 4)), some (.int a1)] (by decide +kernel) rfl (Nat.le_of_ble_eq_true rfl) (fun o K hnL hC hab hR => ?_)
  have hC : Cx E K RX0 cX0_of (some .int) 0 0 := hC
  have hN : ∀ k, k < 2 → k < K.2.2.2.2.2 := fun k hk => hnL ▸ hk
  delta F_X0_of at h
  refine g_iload_n (pc := 0) hC dX0_of_0 rfl ?_
  refine g_iconst (pc := 1) hC ki_2 dX0_of_1 ?_
  have hJ21 : ∀ (v4 : Int32), J_X0_of_2 v4 = some r → Gd l E K 0 0 o σ 21 [none, none] [.int v4] := by
    intro v4 h
    delta J_X0_of_2 at h
    exact g_retp (pc := 21) hC h hR dX0_of_21
  have hJ11 : J_X0_of_1 = some r → Gd l E K 0 0 o σ 11 [none, none] [] := by
    intro h
    delta J_X0_of_1 at h
    refine g_iconst (pc := 11) hC ki_0 dX0_of_11 ?_
    refine g_goto (tgt := 21) (pc := 12) hC dX0_of_12 (by decide) ?_
    exact hJ21 0 h
  refine g_icmp_lt (tgt := 11) (pc := 2) hC dX0_of_2 (by decide) (fun c1 => ?_) (fun c1 => ?_)
  · replace h := it_t c1 h
    refine g_mask [false, false] rfl ?_
    exact hJ11 h
  · replace h := it_f c1 h
    refine g_iload_n (pc := 5) hC dX0_of_5 rfl ?_
    refine g_bipush (pc := 6) hC kb_15 dX0_of_6 ?_
    refine g_icmp_le (tgt := 15) (pc := 8) hC dX0_of_8 (by decide) (fun c2 => ?_) (fun c2 => ?_)
    · replace h := it_t c2 h
      refine g_aload_n (pc := 15) hC dX0_of_15 rfl ?_
      refine fg_X0_9_4 (pc := 16) hC dX0_of_16 ?_
      refine g_iload_n (pc := 19) hC dX0_of_19 rfl ?_
      obtain ⟨v3, ev3, nv3, h⟩ := rd_e h
      refine g_iald (pc := 20) hC 5 (by decide) (ar_5 _ _ _) nv3 dX0_of_20 ?_
      refine g_top ev3 ?_
      refine g_mask [false, false] rfl ?_
      exact hJ21 v3 h
    · replace h := it_f c2 h
      refine g_mask [false, false] rfl ?_
      exact hJ11 h
set_option maxRecDepth 20000 in
theorem c_X0_allows (l : Launch) (E : uE) (a1 : Int32) (a2 : Int32) (σ : uS) (r : Int32) (h : F_X0_allows a1 a2 σ = some r) : CtI l E yX0_allows cX0_allows 3 (some .boolean) 0 0 [.ref (E.2.1 4), .int a1, .int a2] σ r σ := by
  refine enterI 0 [some (.ref (E.2.1 4)), some (.int a1), some (.int a2)] (by decide +kernel) rfl (Nat.le_of_ble_eq_true rfl) (fun o K hnL hC hab hR => ?_)
  have hC : Cx E K RX0 cX0_allows (some .boolean) 0 0 := hC
  have hN : ∀ k, k < 3 → k < K.2.2.2.2.2 := fun k hk => hnL ▸ hk
  delta F_X0_allows at h
  refine g_iload_n (pc := 0) hC dX0_allows_0 rfl ?_
  refine g_iconst (pc := 1) hC ki_2 dX0_allows_1 ?_
  have hJ29 : J_X0_allows_3 = some r → Gd l E K 0 0 o σ 29 [none, none, none] [] := by
    intro h
    delta J_X0_allows_3 at h
    refine g_iconst (pc := 29) hC ki_0 dX0_allows_29 ?_
    exact g_retzp (pc := 30) hC (Or.inl rfl) h hR dX0_allows_30
  refine g_icmp_lt (tgt := 29) (pc := 2) hC dX0_allows_2 (by decide) (fun c1 => ?_) (fun c1 => ?_)
  · replace h := it_t c1 h
    refine g_mask [false, false, false] rfl ?_
    exact hJ29 h
  · replace h := it_f c1 h
    refine g_iload_n (pc := 5) hC dX0_allows_5 rfl ?_
    refine g_bipush (pc := 6) hC kb_15 dX0_allows_6 ?_
    refine g_icmp_gt (tgt := 29) (pc := 8) hC dX0_allows_8 (by decide) (fun c2 => ?_) (fun c2 => ?_)
    · replace h := it_t c2 h
      refine g_mask [false, false, false] rfl ?_
      exact hJ29 h
    · replace h := it_f c2 h
      refine g_iload_n (pc := 11) hC dX0_allows_11 rfl ?_
      refine g_stLEAST (pc := 12) hC fs_X0_16 dX0_allows_12 ?_
      refine g_iload_n (pc := 15) hC dX0_allows_15 rfl ?_
      obtain ⟨v3, ev3, nv3, h⟩ := rd_e h
      refine g_slLEAST (pc := 16) hC nv3 dX0_allows_16 ?_
      refine g_top ev3 ?_
      refine g_icmp_lt (tgt := 29) (pc := 17) hC dX0_allows_17 (by decide) (fun c4 => ?_) (fun c4 => ?_)
      · replace h := it_t c4 h
        refine g_mask [false, false, false] rfl ?_
        exact hJ29 h
      · replace h := it_f c4 h
        refine g_iload_n (pc := 20) hC dX0_allows_20 rfl ?_
        refine g_stMOST (pc := 21) hC fs_X0_19 dX0_allows_21 ?_
        refine g_iload_n (pc := 24) hC dX0_allows_24 rfl ?_
        obtain ⟨v5, ev5, nv5, h⟩ := rd_e h
        refine g_slMOST (pc := 25) hC nv5 dX0_allows_25 ?_
        refine g_top ev5 ?_
        refine g_icmp_le (tgt := 31) (pc := 26) hC dX0_allows_26 (by decide) (fun c6 => ?_) (fun c6 => ?_)
        · replace h := it_t c6 h
          refine g_iload_n (pc := 31) hC dX0_allows_31 rfl ?_
          refine g_iconst (pc := 32) hC ki_4 dX0_allows_32 ?_
          refine g_icmp_ne (tgt := 52) (pc := 33) hC dX0_allows_33 (by decide) (fun c7 => ?_) (fun c7 => ?_)
          · replace h := it_f c7 h
            refine g_iload_n (pc := 52) hC dX0_allows_52 rfl ?_
            refine g_iconst (pc := 53) hC ki_5 dX0_allows_53 ?_
            have hJ72 : ∀ (v11 : Int32), J_X0_allows_2 v11 = some r → Gd l E K 0 0 o σ 72 [none, none, none] [.int v11] := by
              intro v11 h
              delta J_X0_allows_2 at h
              obtain ⟨h01, h⟩ := bz_e h
              exact g_retzp (pc := 72) hC h01 h hR dX0_allows_72
            have hJ67 : J_X0_allows_1 = some r → Gd l E K 0 0 o σ 67 [none, none, none] [] := by
              intro h
              delta J_X0_allows_1 at h
              refine g_iconst (pc := 67) hC ki_1 dX0_allows_67 ?_
              refine g_goto (tgt := 72) (pc := 68) hC dX0_allows_68 (by decide) ?_
              exact hJ72 1 h
            refine g_icmp_ne (tgt := 67) (pc := 54) hC dX0_allows_54 (by decide) (fun c8 => ?_) (fun c8 => ?_)
            · replace h := it_f c8 h
              refine g_mask [false, false, false] rfl ?_
              exact hJ67 h
            · replace h := it_t c8 h
              refine g_aload_n (pc := 57) hC dX0_allows_57 rfl ?_
              refine fg_X0_9_4 (pc := 58) hC dX0_allows_58 ?_
              refine g_iconst (pc := 61) hC ki_4 dX0_allows_61 ?_
              obtain ⟨v9, ev9, nv9, h⟩ := rd_e h
              refine g_iald (pc := 62) hC 5 (by decide) (ar_5 _ _ _) nv9 dX0_allows_62 ?_
              refine g_top ev9 ?_
              refine g_iload_n (pc := 63) hC dX0_allows_63 rfl ?_
              refine g_icmp_ge (tgt := 71) (pc := 64) hC dX0_allows_64 (by decide) (fun c10 => ?_) (fun c10 => ?_)
              · replace h := it_t c10 h
                refine g_iconst (pc := 71) hC ki_0 dX0_allows_71 ?_
                refine g_mask [false, false, false] rfl ?_
                exact hJ72 0 h
              · replace h := it_f c10 h
                refine g_mask [false, false, false] rfl ?_
                exact hJ67 h
          · replace h := it_t c7 h
            refine g_iload_n (pc := 36) hC dX0_allows_36 rfl ?_
            refine g_aload_n (pc := 37) hC dX0_allows_37 rfl ?_
            refine fg_X0_9_4 (pc := 38) hC dX0_allows_38 ?_
            refine g_iconst (pc := 41) hC ki_5 dX0_allows_41 ?_
            obtain ⟨v12, ev12, nv12, h⟩ := rd_e h
            refine g_iald (pc := 42) hC 5 (by decide) (ar_5 _ _ _) nv12 dX0_allows_42 ?_
            refine g_top ev12 ?_
            obtain ⟨v14, ev14, h⟩ := lt_e h
            have hJ51 : Gd l E K 0 0 o σ 51 [none, none, none] [.int v14] := by
              obtain ⟨h01, h⟩ := bz_e h
              exact g_retzp (pc := 51) hC h01 h hR dX0_allows_51
            refine g_icmp_ge (tgt := 50) (pc := 43) hC dX0_allows_43 (by decide) (fun c13 => ?_) (fun c13 => ?_)
            · refine g_iconst (pc := 50) hC ki_0 dX0_allows_50 ?_
              refine g_mask [false, false, false] rfl ?_
              exact g_top (iv_t c13 ev14) hJ51
            · refine g_iconst (pc := 46) hC ki_1 dX0_allows_46 ?_
              refine g_goto (tgt := 51) (pc := 47) hC dX0_allows_47 (by decide) ?_
              refine g_mask [false, false, false] rfl ?_
              exact g_top (iv_f c13 ev14) hJ51
        · replace h := it_f c6 h
          refine g_mask [false, false, false] rfl ?_
          exact hJ29 h
set_option maxRecDepth 20000 in
theorem c_X0_put (l : Launch) (E : uE) (a1 : Int32) (a2 : Int32) (σ : uS) (σr : uS) (h : F_X0_put a1 a2 σ = some σr) : CtV l E yX0_put cX0_put 3 1 22 [.ref (E.2.1 4), .int a1, .int a2] σ σr := by
  refine enterV 0 [some (.ref (E.2.1 4)), some (.int a1), some (.int a2)] (by decide +kernel) rfl (Nat.le_of_ble_eq_true rfl) (fun o K hnL hC hab hR => ?_)
  have hC : Cx E K RX0 cX0_put none 1 22 := hC
  have hN : ∀ k, k < 3 → k < K.2.2.2.2.2 := fun k hk => hnL ▸ hk
  delta F_X0_put at h
  refine g_aload_n (pc := 0) hC dX0_put_0 rfl ?_
  refine g_iload_n (pc := 1) hC dX0_put_1 rfl ?_
  refine g_iload_n (pc := 2) hC dX0_put_2 rfl ?_
  obtain ⟨v1, hc, h⟩ := cp_e h
  refine g_callVi (pc := 3) (As := [.int a1, .int a2]) (rest := []) hC (c_X0_allows l E a1 a2 σ v1 hc) mi_X0_allows mv_X0_allows ob_4 rfl rfl lk_X0_22 rfl rfl (Nat.le_of_ble_eq_true rfl) ⟨by decide, by decide⟩ hab dX0_put_3 ?_
  have hJ16 : ∀ (σ4 : uS), J_X0_put_1 σ4 = some σr → Gd l E K 0 0 o σ4 16 [none, none, none] [] := by
    intro σ4 h
    delta J_X0_put_1 at h
    exact g_retv (pc := 16) hC h hR dX0_put_16
  refine g_if_eq (tgt := 16) (pc := 6) hC dX0_put_6 (by decide) (fun c2 => ?_) (fun c2 => ?_)
  · replace h := it_t c2 h
    refine g_mask [false, false, false] rfl ?_
    exact hJ16 σ h
  · replace h := it_f c2 h
    refine g_aload_n (pc := 9) hC dX0_put_9 rfl ?_
    refine fg_X0_9_4 (pc := 10) hC dX0_put_10 ?_
    refine g_iload_n (pc := 13) hC dX0_put_13 rfl ?_
    refine g_iload_n (pc := 14) hC dX0_put_14 rfl ?_
    obtain ⟨σ3, eσ3, nσ3, h⟩ := wr_e h
    refine g_iast (pc := 15) hC 5 (by decide) (ar_5 _ _) nσ3 dX0_put_15 eσ3 ?_
    refine g_mask [false, false, false] rfl ?_
    exact hJ16 σ3 h
set_option maxRecDepth 20000 in
theorem c_X9_set_17 (l : Launch) (E : uE) (a1 : Int32) (a2 : Int32) (a3 : Int32) (σ : uS) (σr : uS) (h : F_X9_set_17 a1 a2 a3 σ = some σr) : CtV l E yX9_set cX9_set 4 0 0 [.ref (E.2.1 17), .int a1, .int a2, .int a3] σ σr := by
  refine enterV 0 [some (.ref (E.2.1 17)), some (.int a1), some (.int a2), some (.int a3)] (by decide +kernel) rfl (Nat.le_of_ble_eq_true rfl) (fun o K hnL hC hab hR => ?_)
  have hC : Cx E K RX9 cX9_set none 0 0 := hC
  have hN : ∀ k, k < 4 → k < K.2.2.2.2.2 := fun k hk => hnL ▸ hk
  delta F_X9_set_17 at h
  refine g_aload_n (pc := 0) hC dX9_set_0 rfl ?_
  refine g_iload_n (pc := 1) hC dX9_set_1 rfl ?_
  obtain ⟨σ1, eσ1, h⟩ := pf_e h
  refine fp_X9_9_17 (pc := 2) hC dX9_set_2 eσ1 ?_
  refine g_aload_n (pc := 5) hC dX9_set_5 rfl ?_
  refine g_iload_n (pc := 6) hC dX9_set_6 rfl ?_
  obtain ⟨σ2, eσ2, h⟩ := pf_e h
  refine fp_X9_15_17 (pc := 7) hC dX9_set_7 eσ2 ?_
  refine g_aload_n (pc := 10) hC dX9_set_10 rfl ?_
  refine g_iload_n (pc := 11) hC dX9_set_11 rfl ?_
  obtain ⟨σ3, eσ3, h⟩ := pf_e h
  refine fp_X9_18_17 (pc := 12) hC dX9_set_12 eσ3 ?_
  exact g_retv (pc := 15) hC h hR dX9_set_15
set_option maxRecDepth 20000 in
theorem c_X9_set_18 (l : Launch) (E : uE) (a1 : Int32) (a2 : Int32) (a3 : Int32) (σ : uS) (σr : uS) (h : F_X9_set_18 a1 a2 a3 σ = some σr) : CtV l E yX9_set cX9_set 4 0 0 [.ref (E.2.1 18), .int a1, .int a2, .int a3] σ σr := by
  refine enterV 0 [some (.ref (E.2.1 18)), some (.int a1), some (.int a2), some (.int a3)] (by decide +kernel) rfl (Nat.le_of_ble_eq_true rfl) (fun o K hnL hC hab hR => ?_)
  have hC : Cx E K RX9 cX9_set none 0 0 := hC
  have hN : ∀ k, k < 4 → k < K.2.2.2.2.2 := fun k hk => hnL ▸ hk
  delta F_X9_set_18 at h
  refine g_aload_n (pc := 0) hC dX9_set_0 rfl ?_
  refine g_iload_n (pc := 1) hC dX9_set_1 rfl ?_
  obtain ⟨σ1, eσ1, h⟩ := pf_e h
  refine fp_X9_9_18 (pc := 2) hC dX9_set_2 eσ1 ?_
  refine g_aload_n (pc := 5) hC dX9_set_5 rfl ?_
  refine g_iload_n (pc := 6) hC dX9_set_6 rfl ?_
  obtain ⟨σ2, eσ2, h⟩ := pf_e h
  refine fp_X9_15_18 (pc := 7) hC dX9_set_7 eσ2 ?_
  refine g_aload_n (pc := 10) hC dX9_set_10 rfl ?_
  refine g_iload_n (pc := 11) hC dX9_set_11 rfl ?_
  obtain ⟨σ3, eσ3, h⟩ := pf_e h
  refine fp_X9_18_18 (pc := 12) hC dX9_set_12 eσ3 ?_
  exact g_retv (pc := 15) hC h hR dX9_set_15
set_option maxRecDepth 20000 in
theorem c_X9_set_28 (l : Launch) (E : uE) (a1 : Int32) (a2 : Int32) (a3 : Int32) (σ : uS) (σr : uS) (h : F_X9_set_28 a1 a2 a3 σ = some σr) : CtV l E yX9_set cX9_set 4 0 0 [.ref (E.2.1 28), .int a1, .int a2, .int a3] σ σr := by
  refine enterV 0 [some (.ref (E.2.1 28)), some (.int a1), some (.int a2), some (.int a3)] (by decide +kernel) rfl (Nat.le_of_ble_eq_true rfl) (fun o K hnL hC hab hR => ?_)
  have hC : Cx E K RX9 cX9_set none 0 0 := hC
  have hN : ∀ k, k < 4 → k < K.2.2.2.2.2 := fun k hk => hnL ▸ hk
  delta F_X9_set_28 at h
  refine g_aload_n (pc := 0) hC dX9_set_0 rfl ?_
  refine g_iload_n (pc := 1) hC dX9_set_1 rfl ?_
  obtain ⟨σ1, eσ1, h⟩ := pf_e h
  refine fp_X9_9_28 (pc := 2) hC dX9_set_2 eσ1 ?_
  refine g_aload_n (pc := 5) hC dX9_set_5 rfl ?_
  refine g_iload_n (pc := 6) hC dX9_set_6 rfl ?_
  obtain ⟨σ2, eσ2, h⟩ := pf_e h
  refine fp_X9_15_28 (pc := 7) hC dX9_set_7 eσ2 ?_
  refine g_aload_n (pc := 10) hC dX9_set_10 rfl ?_
  refine g_iload_n (pc := 11) hC dX9_set_11 rfl ?_
  obtain ⟨σ3, eσ3, h⟩ := pf_e h
  refine fp_X9_18_28 (pc := 12) hC dX9_set_12 eσ3 ?_
  exact g_retv (pc := 15) hC h hR dX9_set_15
set_option maxRecDepth 20000 in
theorem c_X9_price_17 (l : Launch) (E : uE) (a1 : Int32) (a2 : Int32) (σ : uS) (r : Int32) (h : F_X9_price_17 a1 a2 σ = some r) : CtI l E yX9_price cX9_price 5 (some .int) 0 0 [.ref (E.2.1 17), .int a1, .int a2] σ r σ := by
  refine enterI 2 [some (.ref (E.2.1 17)), some (.int a1), some (.int a2), none, none] (by decide +kernel) rfl (Nat.le_of_ble_eq_true rfl) (fun o K hnL hC hab hR => ?_)
  have hC : Cx E K RX9 cX9_price (some .int) 0 0 := hC
  have hN : ∀ k, k < 5 → k < K.2.2.2.2.2 := fun k hk => hnL ▸ hk
  delta F_X9_price_17 at h
  refine g_iload_n (pc := 0) hC dX9_price_0 rfl ?_
  have hJ8 : J_X9_price_17_1 a1 a2 σ = some r → Gd l E K 0 0 o σ 8 [some (.ref (E.2.1 17)), some (.int a1), some (.int a2), none, none] [] := by
    intro h
    delta J_X9_price_17_1 at h
    refine g_iload_n (pc := 8) hC dX9_price_8 rfl ?_
    refine g_iload_n (pc := 9) hC dX9_price_9 rfl ?_
    obtain ⟨v10, ev10, h⟩ := lt_e h
    have hJ21 : Gd l E K 0 0 o σ 21 [none, none, none, none, none] [.int v10] := by
      exact g_retp (pc := 21) hC h hR dX9_price_21
    refine g_icmp_ne (tgt := 17) (pc := 10) hC dX9_price_10 (by decide) (fun c9 => ?_) (fun c9 => ?_)
    · refine g_aload_n (pc := 17) hC dX9_price_17 rfl ?_
      refine fg_X9_18_17 (pc := 18) hC dX9_price_18 ?_
      refine g_mask [false, false, false, false, false] rfl ?_
      exact g_top (iv_f c9 ev10) hJ21
    · refine g_iconst (pc := 13) hC ki_0 dX9_price_13 ?_
      refine g_goto (tgt := 21) (pc := 14) hC dX9_price_14 (by decide) ?_
      refine g_mask [false, false, false, false, false] rfl ?_
      exact g_top (iv_t c9 ev10) hJ21
  refine g_if_eq (tgt := 8) (pc := 1) hC dX9_price_1 (by decide) (fun c1 => ?_) (fun c1 => ?_)
  · replace h := it_t c1 h
    exact hJ8 h
  · replace h := it_f c1 h
    refine g_iload_n (pc := 4) hC dX9_price_4 rfl ?_
    refine g_if_ne (tgt := 22) (pc := 5) hC dX9_price_5 (by decide) (fun c2 => ?_) (fun c2 => ?_)
    · replace h := it_f c2 h
      refine g_iload_n (pc := 22) hC dX9_price_22 rfl ?_
      refine g_iload_n (pc := 23) hC dX9_price_23 rfl ?_
      obtain ⟨v4, ev4, h⟩ := lt_e h
      have hJ32 : Gd l E K 0 0 o σ 32 [some (.ref (E.2.1 17)), some (.int a1), some (.int a2), none, none] [.int v4] := by
        refine g_istore_n (lv2 := [some (.ref (E.2.1 17)), some (.int a1), some (.int a2), some (.int v4), none]) (pc := 32) hC dX9_price_32 rfl (Or.inr rfl) (hN _ (by decide)) ?_
        refine g_iload_n (pc := 33) hC dX9_price_33 rfl ?_
        refine g_iload_n (pc := 34) hC dX9_price_34 rfl ?_
        obtain ⟨v6, ev6, h⟩ := lt_e h
        have hJ43 : Gd l E K 0 0 o σ 43 [some (.ref (E.2.1 17)), none, none, some (.int v4), none] [.int v6] := by
          refine g_istore (lv2 := [some (.ref (E.2.1 17)), none, none, some (.int v4), some (.int v6)]) (pc := 43) hC dX9_price_43 rfl (Or.inr rfl) (hN _ (by decide)) ?_
          refine g_aload_n (pc := 45) hC dX9_price_45 rfl ?_
          refine fg_X9_9_17 (pc := 46) hC dX9_price_46 ?_
          refine g_iload_n (pc := 49) hC dX9_price_49 rfl ?_
          refine g_iload (pc := 50) hC dX9_price_50 rfl ?_
          refine g_isub (pc := 52) hC dX9_price_52 ?_
          refine g_imul (pc := 53) hC dX9_price_53 ?_
          refine g_iload_n (pc := 54) hC dX9_price_54 rfl ?_
          refine g_iconst (pc := 55) hC ki_2 dX9_price_55 ?_
          refine g_iload (pc := 56) hC dX9_price_56 rfl ?_
          refine g_imul (pc := 58) hC dX9_price_58 ?_
          refine g_iconst (pc := 59) hC ki_1 dX9_price_59 ?_
          refine g_isub (pc := 60) hC dX9_price_60 ?_
          obtain ⟨v8, ev8, h⟩ := lt_e h
          have hJ72 : Gd l E K 0 0 o σ 72 [none, none, none, none, none] [.int v8, .int ((σ 17 0) * (v4 - v6))] := by
            refine g_iadd (pc := 72) hC dX9_price_72 ?_
            exact g_retp (pc := 73) hC h hR dX9_price_73
          refine g_icmp_lt (tgt := 71) (pc := 61) hC dX9_price_61 (by decide) (fun c7 => ?_) (fun c7 => ?_)
          · refine g_iconst (pc := 71) hC ki_0 dX9_price_71 ?_
            refine g_mask [false, false, false, false, false] rfl ?_
            exact g_top (iv_t c7 ev8) hJ72
          · refine g_aload_n (pc := 64) hC dX9_price_64 rfl ?_
            refine fg_X9_15_17 (pc := 65) hC dX9_price_65 ?_
            refine g_goto (tgt := 72) (pc := 68) hC dX9_price_68 (by decide) ?_
            refine g_mask [false, false, false, false, false] rfl ?_
            exact g_top (iv_f c7 ev8) hJ72
        refine g_icmp_le (tgt := 42) (pc := 35) hC dX9_price_35 (by decide) (fun c5 => ?_) (fun c5 => ?_)
        · refine g_iload_n (pc := 42) hC dX9_price_42 rfl ?_
          refine g_mask [true, false, false, true, false] rfl ?_
          exact g_top (iv_t c5 ev6) hJ43
        · refine g_iload_n (pc := 38) hC dX9_price_38 rfl ?_
          refine g_goto (tgt := 43) (pc := 39) hC dX9_price_39 (by decide) ?_
          refine g_mask [true, false, false, true, false] rfl ?_
          exact g_top (iv_f c5 ev6) hJ43
      refine g_icmp_le (tgt := 31) (pc := 24) hC dX9_price_24 (by decide) (fun c3 => ?_) (fun c3 => ?_)
      · refine g_iload_n (pc := 31) hC dX9_price_31 rfl ?_
        exact g_top (iv_t c3 ev4) hJ32
      · refine g_iload_n (pc := 27) hC dX9_price_27 rfl ?_
        refine g_goto (tgt := 32) (pc := 28) hC dX9_price_28 (by decide) ?_
        exact g_top (iv_f c3 ev4) hJ32
    · replace h := it_t c2 h
      exact hJ8 h
set_option maxRecDepth 20000 in
theorem c_X9_price_18 (l : Launch) (E : uE) (a1 : Int32) (a2 : Int32) (σ : uS) (r : Int32) (h : F_X9_price_18 a1 a2 σ = some r) : CtI l E yX9_price cX9_price 5 (some .int) 0 0 [.ref (E.2.1 18), .int a1, .int a2] σ r σ := by
  refine enterI 2 [some (.ref (E.2.1 18)), some (.int a1), some (.int a2), none, none] (by decide +kernel) rfl (Nat.le_of_ble_eq_true rfl) (fun o K hnL hC hab hR => ?_)
  have hC : Cx E K RX9 cX9_price (some .int) 0 0 := hC
  have hN : ∀ k, k < 5 → k < K.2.2.2.2.2 := fun k hk => hnL ▸ hk
  delta F_X9_price_18 at h
  refine g_iload_n (pc := 0) hC dX9_price_0 rfl ?_
  have hJ8 : J_X9_price_18_1 a1 a2 σ = some r → Gd l E K 0 0 o σ 8 [some (.ref (E.2.1 18)), some (.int a1), some (.int a2), none, none] [] := by
    intro h
    delta J_X9_price_18_1 at h
    refine g_iload_n (pc := 8) hC dX9_price_8 rfl ?_
    refine g_iload_n (pc := 9) hC dX9_price_9 rfl ?_
    obtain ⟨v10, ev10, h⟩ := lt_e h
    have hJ21 : Gd l E K 0 0 o σ 21 [none, none, none, none, none] [.int v10] := by
      exact g_retp (pc := 21) hC h hR dX9_price_21
    refine g_icmp_ne (tgt := 17) (pc := 10) hC dX9_price_10 (by decide) (fun c9 => ?_) (fun c9 => ?_)
    · refine g_aload_n (pc := 17) hC dX9_price_17 rfl ?_
      refine fg_X9_18_18 (pc := 18) hC dX9_price_18 ?_
      refine g_mask [false, false, false, false, false] rfl ?_
      exact g_top (iv_f c9 ev10) hJ21
    · refine g_iconst (pc := 13) hC ki_0 dX9_price_13 ?_
      refine g_goto (tgt := 21) (pc := 14) hC dX9_price_14 (by decide) ?_
      refine g_mask [false, false, false, false, false] rfl ?_
      exact g_top (iv_t c9 ev10) hJ21
  refine g_if_eq (tgt := 8) (pc := 1) hC dX9_price_1 (by decide) (fun c1 => ?_) (fun c1 => ?_)
  · replace h := it_t c1 h
    exact hJ8 h
  · replace h := it_f c1 h
    refine g_iload_n (pc := 4) hC dX9_price_4 rfl ?_
    refine g_if_ne (tgt := 22) (pc := 5) hC dX9_price_5 (by decide) (fun c2 => ?_) (fun c2 => ?_)
    · replace h := it_f c2 h
      refine g_iload_n (pc := 22) hC dX9_price_22 rfl ?_
      refine g_iload_n (pc := 23) hC dX9_price_23 rfl ?_
      obtain ⟨v4, ev4, h⟩ := lt_e h
      have hJ32 : Gd l E K 0 0 o σ 32 [some (.ref (E.2.1 18)), some (.int a1), some (.int a2), none, none] [.int v4] := by
        refine g_istore_n (lv2 := [some (.ref (E.2.1 18)), some (.int a1), some (.int a2), some (.int v4), none]) (pc := 32) hC dX9_price_32 rfl (Or.inr rfl) (hN _ (by decide)) ?_
        refine g_iload_n (pc := 33) hC dX9_price_33 rfl ?_
        refine g_iload_n (pc := 34) hC dX9_price_34 rfl ?_
        obtain ⟨v6, ev6, h⟩ := lt_e h
        have hJ43 : Gd l E K 0 0 o σ 43 [some (.ref (E.2.1 18)), none, none, some (.int v4), none] [.int v6] := by
          refine g_istore (lv2 := [some (.ref (E.2.1 18)), none, none, some (.int v4), some (.int v6)]) (pc := 43) hC dX9_price_43 rfl (Or.inr rfl) (hN _ (by decide)) ?_
          refine g_aload_n (pc := 45) hC dX9_price_45 rfl ?_
          refine fg_X9_9_18 (pc := 46) hC dX9_price_46 ?_
          refine g_iload_n (pc := 49) hC dX9_price_49 rfl ?_
          refine g_iload (pc := 50) hC dX9_price_50 rfl ?_
          refine g_isub (pc := 52) hC dX9_price_52 ?_
          refine g_imul (pc := 53) hC dX9_price_53 ?_
          refine g_iload_n (pc := 54) hC dX9_price_54 rfl ?_
          refine g_iconst (pc := 55) hC ki_2 dX9_price_55 ?_
          refine g_iload (pc := 56) hC dX9_price_56 rfl ?_
          refine g_imul (pc := 58) hC dX9_price_58 ?_
          refine g_iconst (pc := 59) hC ki_1 dX9_price_59 ?_
          refine g_isub (pc := 60) hC dX9_price_60 ?_
          obtain ⟨v8, ev8, h⟩ := lt_e h
          have hJ72 : Gd l E K 0 0 o σ 72 [none, none, none, none, none] [.int v8, .int ((σ 18 0) * (v4 - v6))] := by
            refine g_iadd (pc := 72) hC dX9_price_72 ?_
            exact g_retp (pc := 73) hC h hR dX9_price_73
          refine g_icmp_lt (tgt := 71) (pc := 61) hC dX9_price_61 (by decide) (fun c7 => ?_) (fun c7 => ?_)
          · refine g_iconst (pc := 71) hC ki_0 dX9_price_71 ?_
            refine g_mask [false, false, false, false, false] rfl ?_
            exact g_top (iv_t c7 ev8) hJ72
          · refine g_aload_n (pc := 64) hC dX9_price_64 rfl ?_
            refine fg_X9_15_18 (pc := 65) hC dX9_price_65 ?_
            refine g_goto (tgt := 72) (pc := 68) hC dX9_price_68 (by decide) ?_
            refine g_mask [false, false, false, false, false] rfl ?_
            exact g_top (iv_f c7 ev8) hJ72
        refine g_icmp_le (tgt := 42) (pc := 35) hC dX9_price_35 (by decide) (fun c5 => ?_) (fun c5 => ?_)
        · refine g_iload_n (pc := 42) hC dX9_price_42 rfl ?_
          refine g_mask [true, false, false, true, false] rfl ?_
          exact g_top (iv_t c5 ev6) hJ43
        · refine g_iload_n (pc := 38) hC dX9_price_38 rfl ?_
          refine g_goto (tgt := 43) (pc := 39) hC dX9_price_39 (by decide) ?_
          refine g_mask [true, false, false, true, false] rfl ?_
          exact g_top (iv_f c5 ev6) hJ43
      refine g_icmp_le (tgt := 31) (pc := 24) hC dX9_price_24 (by decide) (fun c3 => ?_) (fun c3 => ?_)
      · refine g_iload_n (pc := 31) hC dX9_price_31 rfl ?_
        exact g_top (iv_t c3 ev4) hJ32
      · refine g_iload_n (pc := 27) hC dX9_price_27 rfl ?_
        refine g_goto (tgt := 32) (pc := 28) hC dX9_price_28 (by decide) ?_
        exact g_top (iv_f c3 ev4) hJ32
    · replace h := it_t c2 h
      exact hJ8 h
set_option maxRecDepth 20000 in
theorem c_X9_price_28 (l : Launch) (E : uE) (a1 : Int32) (a2 : Int32) (σ : uS) (r : Int32) (h : F_X9_price_28 a1 a2 σ = some r) : CtI l E yX9_price cX9_price 5 (some .int) 0 0 [.ref (E.2.1 28), .int a1, .int a2] σ r σ := by
  refine enterI 2 [some (.ref (E.2.1 28)), some (.int a1), some (.int a2), none, none] (by decide +kernel) rfl (Nat.le_of_ble_eq_true rfl) (fun o K hnL hC hab hR => ?_)
  have hC : Cx E K RX9 cX9_price (some .int) 0 0 := hC
  have hN : ∀ k, k < 5 → k < K.2.2.2.2.2 := fun k hk => hnL ▸ hk
  delta F_X9_price_28 at h
  refine g_iload_n (pc := 0) hC dX9_price_0 rfl ?_
  have hJ8 : J_X9_price_28_1 a1 a2 σ = some r → Gd l E K 0 0 o σ 8 [some (.ref (E.2.1 28)), some (.int a1), some (.int a2), none, none] [] := by
    intro h
    delta J_X9_price_28_1 at h
    refine g_iload_n (pc := 8) hC dX9_price_8 rfl ?_
    refine g_iload_n (pc := 9) hC dX9_price_9 rfl ?_
    obtain ⟨v10, ev10, h⟩ := lt_e h
    have hJ21 : Gd l E K 0 0 o σ 21 [none, none, none, none, none] [.int v10] := by
      exact g_retp (pc := 21) hC h hR dX9_price_21
    refine g_icmp_ne (tgt := 17) (pc := 10) hC dX9_price_10 (by decide) (fun c9 => ?_) (fun c9 => ?_)
    · refine g_aload_n (pc := 17) hC dX9_price_17 rfl ?_
      refine fg_X9_18_28 (pc := 18) hC dX9_price_18 ?_
      refine g_mask [false, false, false, false, false] rfl ?_
      exact g_top (iv_f c9 ev10) hJ21
    · refine g_iconst (pc := 13) hC ki_0 dX9_price_13 ?_
      refine g_goto (tgt := 21) (pc := 14) hC dX9_price_14 (by decide) ?_
      refine g_mask [false, false, false, false, false] rfl ?_
      exact g_top (iv_t c9 ev10) hJ21
  refine g_if_eq (tgt := 8) (pc := 1) hC dX9_price_1 (by decide) (fun c1 => ?_) (fun c1 => ?_)
  · replace h := it_t c1 h
    exact hJ8 h
  · replace h := it_f c1 h
    refine g_iload_n (pc := 4) hC dX9_price_4 rfl ?_
    refine g_if_ne (tgt := 22) (pc := 5) hC dX9_price_5 (by decide) (fun c2 => ?_) (fun c2 => ?_)
    · replace h := it_f c2 h
      refine g_iload_n (pc := 22) hC dX9_price_22 rfl ?_
      refine g_iload_n (pc := 23) hC dX9_price_23 rfl ?_
      obtain ⟨v4, ev4, h⟩ := lt_e h
      have hJ32 : Gd l E K 0 0 o σ 32 [some (.ref (E.2.1 28)), some (.int a1), some (.int a2), none, none] [.int v4] := by
        refine g_istore_n (lv2 := [some (.ref (E.2.1 28)), some (.int a1), some (.int a2), some (.int v4), none]) (pc := 32) hC dX9_price_32 rfl (Or.inr rfl) (hN _ (by decide)) ?_
        refine g_iload_n (pc := 33) hC dX9_price_33 rfl ?_
        refine g_iload_n (pc := 34) hC dX9_price_34 rfl ?_
        obtain ⟨v6, ev6, h⟩ := lt_e h
        have hJ43 : Gd l E K 0 0 o σ 43 [some (.ref (E.2.1 28)), none, none, some (.int v4), none] [.int v6] := by
          refine g_istore (lv2 := [some (.ref (E.2.1 28)), none, none, some (.int v4), some (.int v6)]) (pc := 43) hC dX9_price_43 rfl (Or.inr rfl) (hN _ (by decide)) ?_
          refine g_aload_n (pc := 45) hC dX9_price_45 rfl ?_
          refine fg_X9_9_28 (pc := 46) hC dX9_price_46 ?_
          refine g_iload_n (pc := 49) hC dX9_price_49 rfl ?_
          refine g_iload (pc := 50) hC dX9_price_50 rfl ?_
          refine g_isub (pc := 52) hC dX9_price_52 ?_
          refine g_imul (pc := 53) hC dX9_price_53 ?_
          refine g_iload_n (pc := 54) hC dX9_price_54 rfl ?_
          refine g_iconst (pc := 55) hC ki_2 dX9_price_55 ?_
          refine g_iload (pc := 56) hC dX9_price_56 rfl ?_
          refine g_imul (pc := 58) hC dX9_price_58 ?_
          refine g_iconst (pc := 59) hC ki_1 dX9_price_59 ?_
          refine g_isub (pc := 60) hC dX9_price_60 ?_
          obtain ⟨v8, ev8, h⟩ := lt_e h
          have hJ72 : Gd l E K 0 0 o σ 72 [none, none, none, none, none] [.int v8, .int ((σ 28 0) * (v4 - v6))] := by
            refine g_iadd (pc := 72) hC dX9_price_72 ?_
            exact g_retp (pc := 73) hC h hR dX9_price_73
          refine g_icmp_lt (tgt := 71) (pc := 61) hC dX9_price_61 (by decide) (fun c7 => ?_) (fun c7 => ?_)
          · refine g_iconst (pc := 71) hC ki_0 dX9_price_71 ?_
            refine g_mask [false, false, false, false, false] rfl ?_
            exact g_top (iv_t c7 ev8) hJ72
          · refine g_aload_n (pc := 64) hC dX9_price_64 rfl ?_
            refine fg_X9_15_28 (pc := 65) hC dX9_price_65 ?_
            refine g_goto (tgt := 72) (pc := 68) hC dX9_price_68 (by decide) ?_
            refine g_mask [false, false, false, false, false] rfl ?_
            exact g_top (iv_f c7 ev8) hJ72
        refine g_icmp_le (tgt := 42) (pc := 35) hC dX9_price_35 (by decide) (fun c5 => ?_) (fun c5 => ?_)
        · refine g_iload_n (pc := 42) hC dX9_price_42 rfl ?_
          refine g_mask [true, false, false, true, false] rfl ?_
          exact g_top (iv_t c5 ev6) hJ43
        · refine g_iload_n (pc := 38) hC dX9_price_38 rfl ?_
          refine g_goto (tgt := 43) (pc := 39) hC dX9_price_39 (by decide) ?_
          refine g_mask [true, false, false, true, false] rfl ?_
          exact g_top (iv_f c5 ev6) hJ43
      refine g_icmp_le (tgt := 31) (pc := 24) hC dX9_price_24 (by decide) (fun c3 => ?_) (fun c3 => ?_)
      · refine g_iload_n (pc := 31) hC dX9_price_31 rfl ?_
        exact g_top (iv_t c3 ev4) hJ32
      · refine g_iload_n (pc := 27) hC dX9_price_27 rfl ?_
        refine g_goto (tgt := 32) (pc := 28) hC dX9_price_28 (by decide) ?_
        exact g_top (iv_f c3 ev4) hJ32
    · replace h := it_t c2 h
      exact hJ8 h
set_option maxRecDepth 20000 in
theorem c_X2_reach (l : Launch) (E : uE) (σ : uS) (r : Int32) (h : F_X2_reach σ = some r) : CtI l E yX2_reach cX2_reach 1 (some .int) 1 21 [.ref (E.2.1 6)] σ r σ := by
  refine enterI 0 [some (.ref (E.2.1 6))] (by decide +kernel) rfl (Nat.le_of_ble_eq_true rfl) (fun o K hnL hC hab hR => ?_)
  have hC : Cx E K RX2 cX2_reach (some .int) 1 21 := hC
  have hN : ∀ k, k < 1 → k < K.2.2.2.2.2 := fun k hk => hnL ▸ hk
  delta F_X2_reach at h
  refine g_aload_n (pc := 0) hC dX2_reach_0 rfl ?_
  refine fg_X2_29_6 (pc := 1) hC dX2_reach_1 ?_
  refine g_iconst (pc := 4) hC ki_3 dX2_reach_4 ?_
  obtain ⟨v1, hc, h⟩ := cp_e h
  refine g_callVi (pc := 5) (As := [.int 3]) (rest := []) hC (c_X0_of l E 3 σ v1 hc) mi_X0_of mv_X0_of ob_4 rfl rfl lk_X2_44 rfl rfl (Nat.le_of_ble_eq_true rfl) ⟨by decide, by decide⟩ hab dX2_reach_5 ?_
  refine g_aload_n (pc := 8) hC dX2_reach_8 rfl ?_
  refine fg_X2_29_6 (pc := 9) hC dX2_reach_9 ?_
  refine g_iconst (pc := 12) hC ki_5 dX2_reach_12 ?_
  obtain ⟨v2, hc, h⟩ := cp_e h
  refine g_callVi (pc := 13) (As := [.int 5]) (rest := [.int v1]) hC (c_X0_of l E 5 σ v2 hc) mi_X0_of mv_X0_of ob_4 rfl rfl lk_X2_44 rfl rfl (Nat.le_of_ble_eq_true rfl) ⟨by decide, by decide⟩ hab dX2_reach_13 ?_
  refine g_iadd (pc := 16) hC dX2_reach_16 ?_
  refine g_iconst (pc := 17) hC ki_1 dX2_reach_17 ?_
  refine g_iadd (pc := 18) hC dX2_reach_18 ?_
  exact g_retp (pc := 19) hC h hR dX2_reach_19
set_option maxRecDepth 20000 in
theorem c_J9_floorDiv_7cf53 (l : Launch) (E : uE) (a1 : Int32) (a2 : Int32) (σ : uS) (r : Int32) (h : F_J9_floorDiv_7cf53 a1 a2 σ = some r) : CtI l E yJ9_floorDiv_7cf53 cJ9_floorDiv_7cf53 3 (some .int) 0 0 [.int a1, .int a2] σ r σ := by
  refine enterI 1 [some (.int a1), some (.int a2), none] (by decide +kernel) rfl (Nat.le_of_ble_eq_true rfl) (fun o K hnL hC hab hR => ?_)
  have hC : Cx E K RJ9 cJ9_floorDiv_7cf53 (some .int) 0 0 := hC
  have hN : ∀ k, k < 3 → k < K.2.2.2.2.2 := fun k hk => hnL ▸ hk
  delta F_J9_floorDiv_7cf53 at h
  refine g_iload_n (pc := 0) hC dJ9_floorDiv_7cf53_0 rfl ?_
  refine g_iload_n (pc := 1) hC dJ9_floorDiv_7cf53_1 rfl ?_
  obtain ⟨v1, ev1, nv1, h⟩ := dv_e h
  refine g_idiv (pc := 2) hC nv1 dJ9_floorDiv_7cf53_2 ?_
  refine g_top ev1 ?_
  refine g_istore_n (lv2 := [some (.int a1), some (.int a2), some (.int v1)]) (pc := 3) hC dJ9_floorDiv_7cf53_3 rfl (Or.inr rfl) (hN _ (by decide)) ?_
  refine g_iload_n (pc := 4) hC dJ9_floorDiv_7cf53_4 rfl ?_
  refine g_iload_n (pc := 5) hC dJ9_floorDiv_7cf53_5 rfl ?_
  refine g_ixor (pc := 6) hC dJ9_floorDiv_7cf53_6 ?_
  have hJ21 : J_J9_floorDiv_7cf53_1 v1 = some r → Gd l E K 0 0 o σ 21 [none, none, some (.int v1)] [] := by
    intro h
    delta J_J9_floorDiv_7cf53_1 at h
    refine g_iload_n (pc := 21) hC dJ9_floorDiv_7cf53_21 rfl ?_
    exact g_retp (pc := 22) hC h hR dJ9_floorDiv_7cf53_22
  refine g_if_ge (tgt := 21) (pc := 7) hC dJ9_floorDiv_7cf53_7 (by decide) (fun c2 => ?_) (fun c2 => ?_)
  · replace h := it_t c2 h
    refine g_mask [false, false, true] rfl ?_
    exact hJ21 h
  · replace h := it_f c2 h
    refine g_iload_n (pc := 10) hC dJ9_floorDiv_7cf53_10 rfl ?_
    refine g_iload_n (pc := 11) hC dJ9_floorDiv_7cf53_11 rfl ?_
    refine g_imul (pc := 12) hC dJ9_floorDiv_7cf53_12 ?_
    refine g_iload_n (pc := 13) hC dJ9_floorDiv_7cf53_13 rfl ?_
    refine g_icmp_eq (tgt := 21) (pc := 14) hC dJ9_floorDiv_7cf53_14 (by decide) (fun c3 => ?_) (fun c3 => ?_)
    · replace h := it_t c3 h
      refine g_mask [false, false, true] rfl ?_
      exact hJ21 h
    · replace h := it_f c3 h
      refine g_iload_n (pc := 17) hC dJ9_floorDiv_7cf53_17 rfl ?_
      refine g_iconst (pc := 18) hC ki_1 dJ9_floorDiv_7cf53_18 ?_
      refine g_isub (pc := 19) hC dJ9_floorDiv_7cf53_19 ?_
      exact g_retp (pc := 20) hC h hR dJ9_floorDiv_7cf53_20
set_option maxRecDepth 20000 in
theorem c_X11_quotient (l : Launch) (E : uE) (a1 : Int32) (a2 : Int32) (σ : uS) (r : Int32) (h : F_X11_quotient a1 a2 σ = some r) : CtI l E yX11_quotient cX11_quotient 2 (some .int) 1 22 [.int a1, .int a2] σ r σ := by
  refine enterI 0 [some (.int a1), some (.int a2)] (by decide +kernel) rfl (Nat.le_of_ble_eq_true rfl) (fun o K hnL hC hab hR => ?_)
  have hC : Cx E K RX11 cX11_quotient (some .int) 1 22 := hC
  have hN : ∀ k, k < 2 → k < K.2.2.2.2.2 := fun k hk => hnL ▸ hk
  delta F_X11_quotient at h
  refine g_iload_n (pc := 0) hC dX11_quotient_0 rfl ?_
  have hJ13 : ∀ (v3 : Int32), J_X11_quotient_1 v3 = some r → Gd l E K 0 0 o σ 13 [none, none] [.int v3] := by
    intro v3 h
    delta J_X11_quotient_1 at h
    exact g_retp (pc := 13) hC h hR dX11_quotient_13
  refine g_if_gt (tgt := 8) (pc := 1) hC dX11_quotient_1 (by decide) (fun c1 => ?_) (fun c1 => ?_)
  · replace h := it_t c1 h
    refine g_iload_n (pc := 8) hC dX11_quotient_8 rfl ?_
    refine g_iload_n (pc := 9) hC dX11_quotient_9 rfl ?_
    obtain ⟨v2, hc, h⟩ := cp_e h
    refine g_callSi (pc := 10) (As := [.int a1, .int a2]) (rest := []) hC (c_J9_floorDiv_7cf53 l E a1 a2 σ v2 hc) mi_J9_floorDiv_7cf53 ms_J9_floorDiv_7cf53 lk_X11_378 rfl rfl (Nat.le_of_ble_eq_true rfl) ⟨by decide, by decide⟩ hab dX11_quotient_10 ?_
    refine g_mask [false, false] rfl ?_
    exact hJ13 v2 h
  · replace h := it_f c1 h
    refine g_iconst (pc := 4) hC ki_0 dX11_quotient_4 ?_
    refine g_goto (tgt := 13) (pc := 5) hC dX11_quotient_5 (by decide) ?_
    refine g_mask [false, false] rfl ?_
    exact hJ13 0 h
set_option maxRecDepth 20000 in
theorem c_J9_min_7cf53 (l : Launch) (E : uE) (a1 : Int32) (a2 : Int32) (σ : uS) (r : Int32) (h : F_J9_min_7cf53 a1 a2 σ = some r) : CtI l E yJ9_min_7cf53 cJ9_min_7cf53 2 (some .int) 0 0 [.int a1, .int a2] σ r σ := by
  refine enterI 0 [some (.int a1), some (.int a2)] (by decide +kernel) rfl (Nat.le_of_ble_eq_true rfl) (fun o K hnL hC hab hR => ?_)
  have hC : Cx E K RJ9 cJ9_min_7cf53 (some .int) 0 0 := hC
  have hN : ∀ k, k < 2 → k < K.2.2.2.2.2 := fun k hk => hnL ▸ hk
  delta F_J9_min_7cf53 at h
  refine g_iload_n (pc := 0) hC dJ9_min_7cf53_0 rfl ?_
  refine g_iload_n (pc := 1) hC dJ9_min_7cf53_1 rfl ?_
  obtain ⟨v2, ev2, h⟩ := lt_e h
  have hJ10 : Gd l E K 0 0 o σ 10 [none, none] [.int v2] := by
    exact g_retp (pc := 10) hC h hR dJ9_min_7cf53_10
  refine g_icmp_gt (tgt := 9) (pc := 2) hC dJ9_min_7cf53_2 (by decide) (fun c1 => ?_) (fun c1 => ?_)
  · refine g_iload_n (pc := 9) hC dJ9_min_7cf53_9 rfl ?_
    refine g_mask [false, false] rfl ?_
    exact g_top (iv_t c1 ev2) hJ10
  · refine g_iload_n (pc := 5) hC dJ9_min_7cf53_5 rfl ?_
    refine g_goto (tgt := 10) (pc := 6) hC dJ9_min_7cf53_6 (by decide) ?_
    refine g_mask [false, false] rfl ?_
    exact g_top (iv_f c1 ev2) hJ10
set_option maxRecDepth 20000 in
theorem c_X2_size (l : Launch) (E : uE) (σ : uS) (r : Int32) (h : F_X2_size σ = some r) : CtI l E yX2_size cX2_size 2 (some .int) 2 43 [.ref (E.2.1 6)] σ r σ := by
  refine enterI 1 [some (.ref (E.2.1 6)), none] (by decide +kernel) rfl (Nat.le_of_ble_eq_true rfl) (fun o K hnL hC hab hR => ?_)
  have hC : Cx E K RX2 cX2_size (some .int) 2 43 := hC
  have hN : ∀ k, k < 2 → k < K.2.2.2.2.2 := fun k hk => hnL ▸ hk
  delta F_X2_size at h
  refine g_aload_n (pc := 0) hC dX2_size_0 rfl ?_
  refine fg_X2_25_6 (pc := 1) hC dX2_size_1 ?_
  obtain ⟨v1, hc, h⟩ := cp_e h
  refine g_callVi (pc := 4) (As := []) (rest := []) hC (c_X7_size l E σ v1 hc) mi_X7_size mv_X7_size ob_1 rfl rfl lk_X2_33 rfl rfl (Nat.le_of_ble_eq_true rfl) ⟨by decide, by decide⟩ hab dX2_size_4 ?_
  refine g_aload_n (pc := 7) hC dX2_size_7 rfl ?_
  obtain ⟨v2, hc, h⟩ := cp_e h
  refine g_callVi (pc := 8) (As := []) (rest := [.int v1]) hC (c_X2_reach l E σ v2 hc) mi_X2_reach mv_X2_reach ob_6 rfl rfl lk_X2_39 rfl rfl (Nat.le_of_ble_eq_true rfl) ⟨by decide, by decide⟩ hab dX2_size_8 ?_
  refine g_isub (pc := 11) hC dX2_size_11 ?_
  obtain ⟨v3, ev3, h⟩ := lt_e h
  refine g_top ev3 ?_
  refine g_istore_n (lv2 := [some (.ref (E.2.1 6)), some (.int v3)]) (pc := 12) hC dX2_size_12 rfl (Or.inr rfl) (hN _ (by decide)) ?_
  refine g_iload_n (pc := 13) hC dX2_size_13 rfl ?_
  have hJ40 : ∀ (v8 : Int32), J_X2_size_1 v8 = some r → Gd l E K 0 0 o σ 40 [none, none] [.int v8] := by
    intro v8 h
    delta J_X2_size_1 at h
    exact g_retp (pc := 40) hC h hR dX2_size_40
  refine g_if_ge (tgt := 21) (pc := 14) hC dX2_size_14 (by decide) (fun c4 => ?_) (fun c4 => ?_)
  · replace h := it_t c4 h
    refine g_bipush (pc := 21) hC kb_100 dX2_size_21 ?_
    refine g_iload_n (pc := 23) hC dX2_size_23 rfl ?_
    refine g_aload_n (pc := 24) hC dX2_size_24 rfl ?_
    refine fg_X2_29_6 (pc := 25) hC dX2_size_25 ?_
    refine g_iconst (pc := 28) hC ki_2 dX2_size_28 ?_
    obtain ⟨v5, hc, h⟩ := cp_e h
    refine g_callVi (pc := 29) (As := [.int 2]) (rest := [.int v3, .int 100]) hC (c_X0_of l E 2 σ v5 hc) mi_X0_of mv_X0_of ob_4 rfl rfl lk_X2_44 rfl rfl (Nat.le_of_ble_eq_true rfl) ⟨by decide, by decide⟩ hab dX2_size_29 ?_
    obtain ⟨v6, hc, h⟩ := cp_e h
    refine g_callNi (pc := 32) (As := [.int v3, .int v5]) (rest := [.int 100]) hC (c_X11_quotient l E v3 v5 σ v6 hc) mi_X11_quotient ms_X11_quotient lk_X2_48 rfl rfl (Nat.le_of_ble_eq_true rfl) ⟨by decide, by decide⟩ hab dX2_size_32 ?_
    refine g_iconst (pc := 35) hC ki_1 dX2_size_35 ?_
    refine g_iadd (pc := 36) hC dX2_size_36 ?_
    obtain ⟨v7, hc, h⟩ := cp_e h
    refine g_callSi (pc := 37) (As := [.int 100, .int (v6 + 1)]) (rest := []) hC (c_J9_min_7cf53 l E 100 (v6 + 1) σ v7 hc) mi_J9_min_7cf53 ms_J9_min_7cf53 lk_X2_52 rfl rfl (Nat.le_of_ble_eq_true rfl) ⟨by decide, by decide⟩ hab dX2_size_37 ?_
    refine g_mask [false, false] rfl ?_
    exact hJ40 v7 h
  · replace h := it_f c4 h
    refine g_iconst (pc := 17) hC ki_0 dX2_size_17 ?_
    refine g_goto (tgt := 40) (pc := 18) hC dX2_size_18 (by decide) ?_
    refine g_mask [false, false] rfl ?_
    exact hJ40 0 h
set_option maxRecDepth 20000 in
theorem c_X2_has (l : Launch) (E : uE) (a1 : Int32) (σ : uS) (r : Int32) (h : F_X2_has a1 σ = some r) : CtI l E yX2_has cX2_has 2 (some .boolean) 3 64 [.ref (E.2.1 6), .int a1] σ r σ := by
  refine enterI 0 [some (.ref (E.2.1 6)), some (.int a1)] (by decide +kernel) rfl (Nat.le_of_ble_eq_true rfl) (fun o K hnL hC hab hR => ?_)
  have hC : Cx E K RX2 cX2_has (some .boolean) 3 64 := hC
  have hN : ∀ k, k < 2 → k < K.2.2.2.2.2 := fun k hk => hnL ▸ hk
  delta F_X2_has at h
  refine g_iload_n (pc := 0) hC dX2_has_0 rfl ?_
  have hJ17 : ∀ (v4 : Int32), J_X2_has_2 v4 = some r → Gd l E K 0 0 o σ 17 [none, none] [.int v4] := by
    intro v4 h
    delta J_X2_has_2 at h
    obtain ⟨h01, h⟩ := bz_e h
    exact g_retzp (pc := 17) hC h01 h hR dX2_has_17
  have hJ16 : J_X2_has_1 = some r → Gd l E K 0 0 o σ 16 [none, none] [] := by
    intro h
    delta J_X2_has_1 at h
    refine g_iconst (pc := 16) hC ki_0 dX2_has_16 ?_
    exact hJ17 0 h
  refine g_if_lt (tgt := 16) (pc := 1) hC dX2_has_1 (by decide) (fun c1 => ?_) (fun c1 => ?_)
  · replace h := it_t c1 h
    refine g_mask [false, false] rfl ?_
    exact hJ16 h
  · replace h := it_f c1 h
    refine g_iload_n (pc := 4) hC dX2_has_4 rfl ?_
    refine g_aload_n (pc := 5) hC dX2_has_5 rfl ?_
    obtain ⟨v2, hc, h⟩ := cp_e h
    refine g_callVi (pc := 6) (As := []) (rest := [.int a1]) hC (c_X2_size l E σ v2 hc) mi_X2_size mv_X2_size ob_6 rfl rfl lk_X2_57 rfl rfl (Nat.le_of_ble_eq_true rfl) ⟨by decide, by decide⟩ hab dX2_has_6 ?_
    refine g_icmp_ge (tgt := 16) (pc := 9) hC dX2_has_9 (by decide) (fun c3 => ?_) (fun c3 => ?_)
    · replace h := it_t c3 h
      refine g_mask [false, false] rfl ?_
      exact hJ16 h
    · replace h := it_f c3 h
      refine g_iconst (pc := 12) hC ki_1 dX2_has_12 ?_
      refine g_goto (tgt := 17) (pc := 13) hC dX2_has_13 (by decide) ?_
      refine g_mask [false, false] rfl ?_
      exact hJ17 1 h
set_option maxRecDepth 20000 in
theorem c_X2_diffAt (l : Launch) (E : uE) (a1 : Int32) (a2 : Int32) (σ : uS) (r : Int32) (h : F_X2_diffAt a1 a2 σ = some r) : CtI l E yX2_diffAt cX2_diffAt 3 (some .int) 0 0 [.ref (E.2.1 6), .int a1, .int a2] σ r σ := by
  refine enterI 0 [some (.ref (E.2.1 6)), some (.int a1), some (.int a2)] (by decide +kernel) rfl (Nat.le_of_ble_eq_true rfl) (fun o K hnL hC hab hR => ?_)
  have hC : Cx E K RX2 cX2_diffAt (some .int) 0 0 := hC
  have hN : ∀ k, k < 3 → k < K.2.2.2.2.2 := fun k hk => hnL ▸ hk
  delta F_X2_diffAt at h
  refine g_iload_n (pc := 0) hC dX2_diffAt_0 rfl ?_
  have hJ20 : J_X2_diffAt_1 = some r → Gd l E K 0 0 o σ 20 [none, none, none] [] := by
    intro h
    delta J_X2_diffAt_1 at h
    refine g_iconst (pc := 20) hC ki_0 dX2_diffAt_20 ?_
    exact g_retp (pc := 21) hC h hR dX2_diffAt_21
  refine g_if_lt (tgt := 20) (pc := 1) hC dX2_diffAt_1 (by decide) (fun c1 => ?_) (fun c1 => ?_)
  · replace h := it_t c1 h
    refine g_mask [false, false, false] rfl ?_
    exact hJ20 h
  · replace h := it_f c1 h
    refine g_iload_n (pc := 4) hC dX2_diffAt_4 rfl ?_
    refine g_bipush (pc := 5) hC kb_100 dX2_diffAt_5 ?_
    refine g_icmp_ge (tgt := 20) (pc := 7) hC dX2_diffAt_7 (by decide) (fun c2 => ?_) (fun c2 => ?_)
    · replace h := it_t c2 h
      refine g_mask [false, false, false] rfl ?_
      exact hJ20 h
    · replace h := it_f c2 h
      refine g_iload_n (pc := 10) hC dX2_diffAt_10 rfl ?_
      refine g_if_lt (tgt := 20) (pc := 11) hC dX2_diffAt_11 (by decide) (fun c3 => ?_) (fun c3 => ?_)
      · replace h := it_t c3 h
        refine g_mask [false, false, false] rfl ?_
        exact hJ20 h
      · replace h := it_f c3 h
        refine g_iload_n (pc := 14) hC dX2_diffAt_14 rfl ?_
        refine g_bipush (pc := 15) hC kb_50 dX2_diffAt_15 ?_
        refine g_icmp_lt (tgt := 22) (pc := 17) hC dX2_diffAt_17 (by decide) (fun c4 => ?_) (fun c4 => ?_)
        · replace h := it_t c4 h
          refine g_aload_n (pc := 22) hC dX2_diffAt_22 rfl ?_
          refine fg_X2_9_6 (pc := 23) hC dX2_diffAt_23 ?_
          refine g_iload_n (pc := 26) hC dX2_diffAt_26 rfl ?_
          refine g_bipush (pc := 27) hC kb_50 dX2_diffAt_27 ?_
          refine g_imul (pc := 29) hC dX2_diffAt_29 ?_
          refine g_iload_n (pc := 30) hC dX2_diffAt_30 rfl ?_
          refine g_iadd (pc := 31) hC dX2_diffAt_31 ?_
          obtain ⟨v5, ev5, nv5, h⟩ := rd_e h
          refine g_iald (pc := 32) hC 7 (by decide) (ar_7 _ _ _) nv5 dX2_diffAt_32 ?_
          refine g_top ev5 ?_
          exact g_retp (pc := 33) hC h hR dX2_diffAt_33
        · replace h := it_f c4 h
          refine g_mask [false, false, false] rfl ?_
          exact hJ20 h
set_option maxRecDepth 20000 in
theorem c_X2_relAt (l : Launch) (E : uE) (a1 : Int32) (a2 : Int32) (σ : uS) (r : Int32) (h : F_X2_relAt a1 a2 σ = some r) : CtI l E yX2_relAt cX2_relAt 3 (some .int) 0 0 [.ref (E.2.1 6), .int a1, .int a2] σ r σ := by
  refine enterI 0 [some (.ref (E.2.1 6)), some (.int a1), some (.int a2)] (by decide +kernel) rfl (Nat.le_of_ble_eq_true rfl) (fun o K hnL hC hab hR => ?_)
  have hC : Cx E K RX2 cX2_relAt (some .int) 0 0 := hC
  have hN : ∀ k, k < 3 → k < K.2.2.2.2.2 := fun k hk => hnL ▸ hk
  delta F_X2_relAt at h
  refine g_iload_n (pc := 0) hC dX2_relAt_0 rfl ?_
  have hJ20 : J_X2_relAt_1 = some r → Gd l E K 0 0 o σ 20 [none, none, none] [] := by
    intro h
    delta J_X2_relAt_1 at h
    refine g_iconst (pc := 20) hC ki_0 dX2_relAt_20 ?_
    exact g_retp (pc := 21) hC h hR dX2_relAt_21
  refine g_if_lt (tgt := 20) (pc := 1) hC dX2_relAt_1 (by decide) (fun c1 => ?_) (fun c1 => ?_)
  · replace h := it_t c1 h
    refine g_mask [false, false, false] rfl ?_
    exact hJ20 h
  · replace h := it_f c1 h
    refine g_iload_n (pc := 4) hC dX2_relAt_4 rfl ?_
    refine g_bipush (pc := 5) hC kb_100 dX2_relAt_5 ?_
    refine g_icmp_ge (tgt := 20) (pc := 7) hC dX2_relAt_7 (by decide) (fun c2 => ?_) (fun c2 => ?_)
    · replace h := it_t c2 h
      refine g_mask [false, false, false] rfl ?_
      exact hJ20 h
    · replace h := it_f c2 h
      refine g_iload_n (pc := 10) hC dX2_relAt_10 rfl ?_
      refine g_if_lt (tgt := 20) (pc := 11) hC dX2_relAt_11 (by decide) (fun c3 => ?_) (fun c3 => ?_)
      · replace h := it_t c3 h
        refine g_mask [false, false, false] rfl ?_
        exact hJ20 h
      · replace h := it_f c3 h
        refine g_iload_n (pc := 14) hC dX2_relAt_14 rfl ?_
        refine g_bipush (pc := 15) hC kb_50 dX2_relAt_15 ?_
        refine g_icmp_lt (tgt := 22) (pc := 17) hC dX2_relAt_17 (by decide) (fun c4 => ?_) (fun c4 => ?_)
        · replace h := it_t c4 h
          refine g_aload_n (pc := 22) hC dX2_relAt_22 rfl ?_
          refine fg_X2_15_6 (pc := 23) hC dX2_relAt_23 ?_
          refine g_iload_n (pc := 26) hC dX2_relAt_26 rfl ?_
          refine g_bipush (pc := 27) hC kb_50 dX2_relAt_27 ?_
          refine g_imul (pc := 29) hC dX2_relAt_29 ?_
          refine g_iload_n (pc := 30) hC dX2_relAt_30 rfl ?_
          refine g_iadd (pc := 31) hC dX2_relAt_31 ?_
          obtain ⟨v5, ev5, nv5, h⟩ := rd_e h
          refine g_iald (pc := 32) hC 8 (by decide) (ar_8 _ _ _) nv5 dX2_relAt_32 ?_
          refine g_top ev5 ?_
          exact g_retp (pc := 33) hC h hR dX2_relAt_33
        · replace h := it_f c4 h
          refine g_mask [false, false, false] rfl ?_
          exact hJ20 h
set_option maxRecDepth 20000 in
theorem c_X2_loudAt (l : Launch) (E : uE) (a1 : Int32) (σ : uS) (r : Int32) (h : F_X2_loudAt a1 σ = some r) : CtI l E yX2_loudAt cX2_loudAt 2 (some .int) 0 0 [.ref (E.2.1 6), .int a1] σ r σ := by
  refine enterI 0 [some (.ref (E.2.1 6)), some (.int a1)] (by decide +kernel) rfl (Nat.le_of_ble_eq_true rfl) (fun o K hnL hC hab hR => ?_)
  have hC : Cx E K RX2 cX2_loudAt (some .int) 0 0 := hC
  have hN : ∀ k, k < 2 → k < K.2.2.2.2.2 := fun k hk => hnL ▸ hk
  delta F_X2_loudAt at h
  refine g_iload_n (pc := 0) hC dX2_loudAt_0 rfl ?_
  have hJ20 : ∀ (v4 : Int32), J_X2_loudAt_2 v4 = some r → Gd l E K 0 0 o σ 20 [none, none] [.int v4] := by
    intro v4 h
    delta J_X2_loudAt_2 at h
    exact g_retp (pc := 20) hC h hR dX2_loudAt_20
  have hJ10 : J_X2_loudAt_1 = some r → Gd l E K 0 0 o σ 10 [none, none] [] := by
    intro h
    delta J_X2_loudAt_1 at h
    refine g_iconst (pc := 10) hC ki_0 dX2_loudAt_10 ?_
    refine g_goto (tgt := 20) (pc := 11) hC dX2_loudAt_11 (by decide) ?_
    exact hJ20 0 h
  refine g_if_lt (tgt := 10) (pc := 1) hC dX2_loudAt_1 (by decide) (fun c1 => ?_) (fun c1 => ?_)
  · replace h := it_t c1 h
    refine g_mask [false, false] rfl ?_
    exact hJ10 h
  · replace h := it_f c1 h
    refine g_iload_n (pc := 4) hC dX2_loudAt_4 rfl ?_
    refine g_bipush (pc := 5) hC kb_100 dX2_loudAt_5 ?_
    refine g_icmp_lt (tgt := 14) (pc := 7) hC dX2_loudAt_7 (by decide) (fun c2 => ?_) (fun c2 => ?_)
    · replace h := it_t c2 h
      refine g_aload_n (pc := 14) hC dX2_loudAt_14 rfl ?_
      refine fg_X2_18_6 (pc := 15) hC dX2_loudAt_15 ?_
      refine g_iload_n (pc := 18) hC dX2_loudAt_18 rfl ?_
      obtain ⟨v3, ev3, nv3, h⟩ := rd_e h
      refine g_iald (pc := 19) hC 9 (by decide) (ar_9 _ _ _) nv3 dX2_loudAt_19 ?_
      refine g_top ev3 ?_
      refine g_mask [false, false] rfl ?_
      exact hJ20 v3 h
    · replace h := it_f c2 h
      refine g_mask [false, false] rfl ?_
      exact hJ10 h
set_option maxRecDepth 20000 in
theorem c_X2_measure (l : Launch) (E : uE) (a1 : Int32) (σ : uS) (σr : uS) (h : F_X2_measure a1 σ = some σr) : CtV l E yX2_measure cX2_measure 8 2 45 [.ref (E.2.1 6), .int a1] σ σr := by
  refine enterV 6 [some (.ref (E.2.1 6)), some (.int a1), none, none, none, none, none, none] (by decide +kernel) rfl (Nat.le_of_ble_eq_true rfl) (fun o K hnL hC hab hR => ?_)
  have hC : Cx E K RX2 cX2_measure none 2 45 := hC
  have hN : ∀ k, k < 8 → k < K.2.2.2.2.2 := fun k hk => hnL ▸ hk
  delta F_X2_measure at h
  refine g_iload_n (pc := 0) hC dX2_measure_0 rfl ?_
  have hJ19 : J_X2_measure_5 σ = some σr → Gd l E K 0 0 o σ 19 [none, none, none, none, none, none, none, none] [] := by
    intro h
    delta J_X2_measure_5 at h
    exact g_retv (pc := 19) hC h hR dX2_measure_19
  refine g_if_lt (tgt := 19) (pc := 1) hC dX2_measure_1 (by decide) (fun c1 => ?_) (fun c1 => ?_)
  · replace h := it_t c1 h
    refine g_mask [false, false, false, false, false, false, false, false] rfl ?_
    exact hJ19 h
  · replace h := it_f c1 h
    refine g_iload_n (pc := 4) hC dX2_measure_4 rfl ?_
    refine g_bipush (pc := 5) hC kb_100 dX2_measure_5 ?_
    refine g_icmp_ge (tgt := 19) (pc := 7) hC dX2_measure_7 (by decide) (fun c2 => ?_) (fun c2 => ?_)
    · replace h := it_t c2 h
      refine g_mask [false, false, false, false, false, false, false, false] rfl ?_
      exact hJ19 h
    · replace h := it_f c2 h
      refine g_aload_n (pc := 10) hC dX2_measure_10 rfl ?_
      refine fg_X2_21_6 (pc := 11) hC dX2_measure_11 ?_
      refine g_iload_n (pc := 14) hC dX2_measure_14 rfl ?_
      obtain ⟨v3, ev3, nv3, h⟩ := rd_e h
      refine g_zald (pc := 15) hC 10 (by decide) (ar_10 _ _ _) nv3 dX2_measure_15 ?_
      refine g_top ev3 ?_
      refine g_if_eq (tgt := 20) (pc := 16) hC dX2_measure_16 (by decide) (fun c4 => ?_) (fun c4 => ?_)
      · replace h := it_t c4 h
        refine g_iload_n (pc := 20) hC dX2_measure_20 rfl ?_
        refine g_aload_n (pc := 21) hC dX2_measure_21 rfl ?_
        refine fg_X2_29_6 (pc := 22) hC dX2_measure_22 ?_
        refine g_iconst (pc := 25) hC ki_2 dX2_measure_25 ?_
        obtain ⟨v5, hc, h⟩ := cp_e h
        refine g_callVi (pc := 26) (As := [.int 2]) (rest := [.int a1]) hC (c_X0_of l E 2 σ v5 hc) mi_X0_of mv_X0_of ob_4 rfl rfl lk_X2_44 rfl rfl (Nat.le_of_ble_eq_true rfl) ⟨by decide, by decide⟩ hab dX2_measure_26 ?_
        refine g_imul (pc := 29) hC dX2_measure_29 ?_
        obtain ⟨v6, ev6, h⟩ := lt_e h
        refine g_top ev6 ?_
        refine g_istore_n (lv2 := [some (.ref (E.2.1 6)), some (.int a1), some (.int v6), none, none, none, none, none]) (pc := 30) hC dX2_measure_30 rfl (Or.inr rfl) (hN _ (by decide)) ?_
        refine g_aload_n (pc := 31) hC dX2_measure_31 rfl ?_
        refine fg_X2_29_6 (pc := 32) hC dX2_measure_32 ?_
        refine g_iconst (pc := 35) hC ki_3 dX2_measure_35 ?_
        obtain ⟨v7, hc, h⟩ := cp_e h
        refine g_callVi (pc := 36) (As := [.int 3]) (rest := []) hC (c_X0_of l E 3 σ v7 hc) mi_X0_of mv_X0_of ob_4 rfl rfl lk_X2_44 rfl rfl (Nat.le_of_ble_eq_true rfl) ⟨by decide, by decide⟩ hab dX2_measure_36 ?_
        refine g_istore_n (lv2 := [some (.ref (E.2.1 6)), some (.int a1), some (.int v6), some (.int v7), none, none, none, none]) (pc := 39) hC dX2_measure_39 rfl (Or.inr rfl) (hN _ (by decide)) ?_
        refine g_bipush (pc := 40) hC kb_50 dX2_measure_40 ?_
        refine g_aload_n (pc := 42) hC dX2_measure_42 rfl ?_
        refine fg_X2_29_6 (pc := 43) hC dX2_measure_43 ?_
        refine g_iconst (pc := 46) hC ki_5 dX2_measure_46 ?_
        obtain ⟨v8, hc, h⟩ := cp_e h
        refine g_callVi (pc := 47) (As := [.int 5]) (rest := [.int 50]) hC (c_X0_of l E 5 σ v8 hc) mi_X0_of mv_X0_of ob_4 rfl rfl lk_X2_44 rfl rfl (Nat.le_of_ble_eq_true rfl) ⟨by decide, by decide⟩ hab dX2_measure_47 ?_
        refine g_iconst (pc := 50) hC ki_2 dX2_measure_50 ?_
        refine g_iadd (pc := 51) hC dX2_measure_51 ?_
        obtain ⟨v9, hc, h⟩ := cp_e h
        refine g_callSi (pc := 52) (As := [.int 50, .int (v8 + 2)]) (rest := []) hC (c_J9_min_7cf53 l E 50 (v8 + 2) σ v9 hc) mi_J9_min_7cf53 ms_J9_min_7cf53 lk_X2_52 rfl rfl (Nat.le_of_ble_eq_true rfl) ⟨by decide, by decide⟩ hab dX2_measure_52 ?_
        refine g_istore (lv2 := [some (.ref (E.2.1 6)), some (.int a1), some (.int v6), some (.int v7), some (.int v9), none, none, none]) (pc := 55) hC dX2_measure_55 rfl (Or.inr rfl) (hN _ (by decide)) ?_
        refine g_iconst (pc := 57) hC ki_0 dX2_measure_57 ?_
        refine g_istore (lv2 := [some (.ref (E.2.1 6)), some (.int a1), some (.int v6), some (.int v7), some (.int v9), some (.int 0), none, none]) (pc := 58) hC dX2_measure_58 rfl (Or.inr rfl) (hN _ (by decide)) ?_
        refine g_iconst (pc := 60) hC ki_0 dX2_measure_60 ?_
        refine g_istore (lv2 := [some (.ref (E.2.1 6)), some (.int a1), some (.int v6), some (.int v7), some (.int v9), some (.int 0), some (.int 0), none]) (pc := 61) hC dX2_measure_61 rfl (Or.inr rfl) (hN _ (by decide)) ?_
        have hL1 : ∀ (n : Nat) (w10 : Int32) (w11 : Int32) (σ12 : uS) (z1 : uS), iter n (fun z => B_X2_measure_3 a1 v6 v7 v9 z.1 z.2.1 z.2.2) (w10, w11, σ12) = some z1 → (∀ (σ13 : uS), z1 = σ13 → Gd l E K 0 0 o σ13 147 [some (.ref (E.2.1 6)), some (.int a1), some (.int v6), some (.int v7), none, none, none, none] []) → Gd l E K 0 0 o σ12 63 [some (.ref (E.2.1 6)), some (.int a1), some (.int v6), some (.int v7), some (.int v9), some (.int w10), some (.int w11), none] [] := by
          intro n
          induction n with
          | zero =>
            intro w10 w11 σ12 z1 hi
            exact (iter_0 hi).elim
          | succ n ih1 =>
            intro w10 w11 σ12 z1 hi1 kx1
            obtain ⟨r1, h, hi1⟩ := iter_s hi1
            replace h : B_X2_measure_3 a1 v6 v7 v9 w10 w11 σ12 = some r1 := h
            delta B_X2_measure_3 at h
            refine g_iload (pc := 63) hC dX2_measure_63 rfl ?_
            refine g_iload (pc := 65) hC dX2_measure_65 rfl ?_
            refine g_icmp_ge (tgt := 147) (pc := 67) hC dX2_measure_67 (by decide) (fun c14 => ?_) (fun c14 => ?_)
            · replace h := it_t c14 h
              refine g_mask [true, true, true, true, false, false, false, false] rfl ?_
              exact kx1 σ12 (iter_r h hi1)
            · replace h := it_f c14 h
              refine g_aload_n (pc := 70) hC dX2_measure_70 rfl ?_
              refine fg_X2_25_6 (pc := 71) hC dX2_measure_71 ?_
              refine g_iload_n (pc := 74) hC dX2_measure_74 rfl ?_
              refine g_iload_n (pc := 75) hC dX2_measure_75 rfl ?_
              refine g_iload (pc := 76) hC dX2_measure_76 rfl ?_
              obtain ⟨v15, hc, h⟩ := cp_e h
              refine g_callVi (pc := 78) (As := [.int v6, .int v7, .int w11]) (rest := []) hC (c_X7_offItself l E v6 v7 w11 σ12 v15 hc) mi_X7_offItself mv_X7_offItself ob_1 rfl rfl lk_X2_62 rfl rfl (Nat.le_of_ble_eq_true rfl) ⟨by decide, by decide⟩ hab dX2_measure_78 ?_
              refine g_istore (lv2 := [some (.ref (E.2.1 6)), some (.int a1), some (.int v6), some (.int v7), some (.int v9), some (.int w10), some (.int w11), some (.int v15)]) (pc := 81) hC dX2_measure_81 rfl (Or.inr rfl) (hN _ (by decide)) ?_
              refine g_iload (pc := 83) hC dX2_measure_83 rfl ?_
              refine g_iload (pc := 85) hC dX2_measure_85 rfl ?_
              refine g_iadd (pc := 87) hC dX2_measure_87 ?_
              obtain ⟨v16, ev16, h⟩ := lt_e h
              refine g_top ev16 ?_
              refine g_istore (lv2 := [some (.ref (E.2.1 6)), some (.int a1), some (.int v6), some (.int v7), some (.int v9), some (.int v16), some (.int w11), some (.int v15)]) (pc := 88) hC dX2_measure_88 rfl (Or.inr rfl) (hN _ (by decide)) ?_
              refine g_aload_n (pc := 90) hC dX2_measure_90 rfl ?_
              refine fg_X2_9_6 (pc := 91) hC dX2_measure_91 ?_
              refine g_iload_n (pc := 94) hC dX2_measure_94 rfl ?_
              refine g_bipush (pc := 95) hC kb_50 dX2_measure_95 ?_
              refine g_imul (pc := 97) hC dX2_measure_97 ?_
              refine g_iload (pc := 98) hC dX2_measure_98 rfl ?_
              refine g_iadd (pc := 100) hC dX2_measure_100 ?_
              refine g_iload (pc := 101) hC dX2_measure_101 rfl ?_
              obtain ⟨σ17, eσ17, nσ17, h⟩ := wr_e h
              refine g_iast (pc := 103) hC 7 (by decide) (ar_7 _ _) nσ17 dX2_measure_103 eσ17 ?_
              refine g_aload_n (pc := 104) hC dX2_measure_104 rfl ?_
              refine fg_X2_15_6 (pc := 105) hC dX2_measure_105 ?_
              refine g_iload_n (pc := 108) hC dX2_measure_108 rfl ?_
              refine g_bipush (pc := 109) hC kb_50 dX2_measure_109 ?_
              refine g_imul (pc := 111) hC dX2_measure_111 ?_
              refine g_iload (pc := 112) hC dX2_measure_112 rfl ?_
              refine g_iadd (pc := 114) hC dX2_measure_114 ?_
              refine g_iload (pc := 115) hC dX2_measure_115 rfl ?_
              have hJ140 : ∀ (v20 : Int32), J_X2_measure_2 a1 v16 w11 σ17 v20 = some r1 → Gd l E K 0 0 o σ17 140 [some (.ref (E.2.1 6)), some (.int a1), some (.int v6), some (.int v7), some (.int v9), some (.int v16), some (.int w11), none] [.int v20, .int ((a1 * 50) + w11), .ref (E.2.1 8)] := by
                intro v20 h
                delta J_X2_measure_2 at h
                obtain ⟨σ21, eσ21, nσ21, h⟩ := wr_e h
                refine g_iast (pc := 140) hC 8 (by decide) (ar_8 _ _) nσ21 dX2_measure_140 eσ21 ?_
                obtain ⟨v22, ev22, h⟩ := lt_e h
                refine g_iinc (v := v22) (lv2 := [some (.ref (E.2.1 6)), some (.int a1), some (.int v6), some (.int v7), some (.int v9), some (.int v16), some (.int v22), none]) (pc := 141) hC dX2_measure_141 rfl ev22 rfl (Or.inr rfl) (hN _ (by decide)) ?_
                refine g_goto (tgt := 63) (pc := 144) hC dX2_measure_144 (by decide) ?_
                exact ih1 v16 v22 σ21 z1 (iter_l h hi1) kx1
              refine g_if_ne (tgt := 126) (pc := 117) hC dX2_measure_117 (by decide) (fun c18 => ?_) (fun c18 => ?_)
              · replace h := it_f c18 h
                refine g_sipush (pc := 126) hC ks_1000 dX2_measure_126 ?_
                refine g_iload (pc := 129) hC dX2_measure_129 rfl ?_
                refine g_imul (pc := 131) hC dX2_measure_131 ?_
                refine g_iload (pc := 132) hC dX2_measure_132 rfl ?_
                refine g_imul (pc := 134) hC dX2_measure_134 ?_
                refine g_iload (pc := 135) hC dX2_measure_135 rfl ?_
                obtain ⟨v19, hc, h⟩ := cp_e h
                refine g_callNi (pc := 137) (As := [.int ((1000 * w11) * v15), .int v16]) (rest := [.int ((a1 * 50) + w11), .ref (E.2.1 8)]) hC (c_X11_quotient l E ((1000 * w11) * v15) v16 σ17 v19 hc) mi_X11_quotient ms_X11_quotient lk_X2_48 rfl rfl (Nat.le_of_ble_eq_true rfl) ⟨by decide, by decide⟩ hab dX2_measure_137 ?_
                refine g_mask [true, true, true, true, true, true, true, false] rfl ?_
                exact hJ140 v19 h
              · replace h := it_t c18 h
                refine g_sipush (pc := 120) hC ks_1000 dX2_measure_120 ?_
                refine g_goto (tgt := 140) (pc := 123) hC dX2_measure_123 (by decide) ?_
                refine g_mask [true, true, true, true, true, true, true, false] rfl ?_
                exact hJ140 1000 h
        obtain ⟨z1, hz1, h⟩ := lp_e h
        refine hL1 FU 0 0 σ z1 hz1 (fun σ13 ez => ?_)
        replace h : C_X2_measure_4 a1 v6 v7 σ13 = some σr := by rw [ez] at h; exact h
        delta C_X2_measure_4 at h
        refine g_aload_n (pc := 147) hC dX2_measure_147 rfl ?_
        refine fg_X2_18_6 (pc := 148) hC dX2_measure_148 ?_
        refine g_iload_n (pc := 151) hC dX2_measure_151 rfl ?_
        refine g_aload_n (pc := 152) hC dX2_measure_152 rfl ?_
        refine fg_X2_25_6 (pc := 153) hC dX2_measure_153 ?_
        refine g_iload_n (pc := 156) hC dX2_measure_156 rfl ?_
        refine g_iload_n (pc := 157) hC dX2_measure_157 rfl ?_
        obtain ⟨v23, hc, h⟩ := cp_e h
        refine g_callVi (pc := 158) (As := [.int v6, .int v7]) (rest := [.int a1, .ref (E.2.1 9)]) hC (c_X7_loudness l E v6 v7 σ13 v23 hc) mi_X7_loudness mv_X7_loudness ob_1 rfl rfl lk_X2_66 rfl rfl (Nat.le_of_ble_eq_true rfl) ⟨by decide, by decide⟩ hab dX2_measure_158 ?_
        obtain ⟨σ24, eσ24, nσ24, h⟩ := wr_e h
        refine g_iast (pc := 161) hC 9 (by decide) (ar_9 _ _) nσ24 dX2_measure_161 eσ24 ?_
        refine g_aload_n (pc := 162) hC dX2_measure_162 rfl ?_
        refine fg_X2_21_6 (pc := 163) hC dX2_measure_163 ?_
        refine g_iload_n (pc := 166) hC dX2_measure_166 rfl ?_
        refine g_iconst (pc := 167) hC ki_1 dX2_measure_167 ?_
        obtain ⟨σ25, eσ25, nσ25, h⟩ := wr_e h
        refine g_zast (pc := 168) hC 10 (by decide) (ar_10 _ _) nσ25 dX2_measure_168 eσ25 ?_
        exact g_retv (pc := 169) hC h hR dX2_measure_169
      · replace h := it_f c4 h
        refine g_mask [false, false, false, false, false, false, false, false] rfl ?_
        exact hJ19 h
set_option maxRecDepth 20000 in
theorem c_X2_find (l : Launch) (E : uE) (σ : uS) (σr : uS) (h : F_X2_find σ = some σr) : CtV l E yX2_find cX2_find 3 3 72 [.ref (E.2.1 6)] σ σr := by
  refine enterV 2 [some (.ref (E.2.1 6)), none, none] (by decide +kernel) rfl (Nat.le_of_ble_eq_true rfl) (fun o K hnL hC hab hR => ?_)
  have hC : Cx E K RX2 cX2_find none 3 72 := hC
  have hN : ∀ k, k < 3 → k < K.2.2.2.2.2 := fun k hk => hnL ▸ hk
  delta F_X2_find at h
  refine g_aload_n (pc := 0) hC dX2_find_0 rfl ?_
  obtain ⟨v1, hc, h⟩ := cp_e h
  refine g_callVi (pc := 1) (As := []) (rest := []) hC (c_X2_size l E σ v1 hc) mi_X2_size mv_X2_size ob_6 rfl rfl lk_X2_57 rfl rfl (Nat.le_of_ble_eq_true rfl) ⟨by decide, by decide⟩ hab dX2_find_1 ?_
  refine g_istore_n (lv2 := [some (.ref (E.2.1 6)), some (.int v1), none]) (pc := 4) hC dX2_find_4 rfl (Or.inr rfl) (hN _ (by decide)) ?_
  refine g_iconst (pc := 5) hC ki_0 dX2_find_5 ?_
  refine g_istore_n (lv2 := [some (.ref (E.2.1 6)), some (.int v1), some (.int 0)]) (pc := 6) hC dX2_find_6 rfl (Or.inr rfl) (hN _ (by decide)) ?_
  have hL1 : ∀ (n : Nat) (w2 : Int32) (σ3 : uS) (z1 : uS), iter n (fun z => B_X2_find_2 v1 z.1 z.2) (w2, σ3) = some z1 → (∀ (σ4 : uS), z1 = σ4 → Gd l E K 0 0 o σ4 23 [none, none, none] []) → Gd l E K 0 0 o σ3 7 [some (.ref (E.2.1 6)), some (.int v1), some (.int w2)] [] := by
    intro n
    induction n with
    | zero =>
      intro w2 σ3 z1 hi
      exact (iter_0 hi).elim
    | succ n ih1 =>
      intro w2 σ3 z1 hi1 kx1
      obtain ⟨r1, h, hi1⟩ := iter_s hi1
      replace h : B_X2_find_2 v1 w2 σ3 = some r1 := h
      delta B_X2_find_2 at h
      refine g_iload_n (pc := 7) hC dX2_find_7 rfl ?_
      refine g_iload_n (pc := 8) hC dX2_find_8 rfl ?_
      refine g_icmp_ge (tgt := 23) (pc := 9) hC dX2_find_9 (by decide) (fun c5 => ?_) (fun c5 => ?_)
      · replace h := it_t c5 h
        refine g_mask [false, false, false] rfl ?_
        exact kx1 σ3 (iter_r h hi1)
      · replace h := it_f c5 h
        refine g_aload_n (pc := 12) hC dX2_find_12 rfl ?_
        refine g_iload_n (pc := 13) hC dX2_find_13 rfl ?_
        obtain ⟨σ6, hc, h⟩ := cp_e h
        refine g_callVv (pc := 14) (As := [.int w2]) (rest := []) hC (c_X2_measure l E w2 σ3 σ6 hc) mi_X2_measure mv_X2_measure ob_6 rfl rfl lk_X2_58 rfl rfl (Nat.le_of_ble_eq_true rfl) ⟨by decide, by decide⟩ hab dX2_find_14 ?_
        obtain ⟨v7, ev7, h⟩ := lt_e h
        refine g_iinc (v := v7) (lv2 := [some (.ref (E.2.1 6)), some (.int v1), some (.int v7)]) (pc := 17) hC dX2_find_17 rfl ev7 rfl (Or.inr rfl) (hN _ (by decide)) ?_
        refine g_goto (tgt := 7) (pc := 20) hC dX2_find_20 (by decide) ?_
        exact ih1 v7 σ6 z1 (iter_l h hi1) kx1
  obtain ⟨z1, hz1, h⟩ := lp_e h
  refine hL1 FU 0 σ z1 hz1 (fun σ4 ez => ?_)
  replace h : C_X2_find_3 σ4 = some σr := by rw [ez] at h; exact h
  delta C_X2_find_3 at h
  exact g_retv (pc := 23) hC h hR dX2_find_23
