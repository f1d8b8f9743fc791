/-! what both sides owe, call by call; the law's loop over it -/
def OpsAt (Inv : uS → Prop) (c : Nat) (s : Nat → Int32) : Prop := match c with
  | 0 => OpV Inv (F_X11_feed (s 1) (s 2) (s 3) (s 4) (s 5)) (F_X12_feed (s 1) (s 2) (s 3) (s 4) (s 5))
  | 1 => OpV Inv (F_X11_samples (s 1)) (F_X12_samples (s 1))
  | 2 => OpV Inv (F_X11_cycles (s 1) (s 2) (s 3)) (F_X12_cycles (s 1) (s 2) (s 3))
  | 3 => OpV Inv (F_X11_noise (s 1) (s 2) (s 3)) (F_X12_noise (s 1) (s 2) (s 3))
  | 4 => OpV Inv (F_X11_poke (s 1) (s 2)) (F_X12_poke (s 1) (s 2))
  | 5 => OpV Inv (F_X11_cut (s 1)) (F_X12_cut (s 1))
  | 6 => OpT Inv [(1, 1)] (F_X11_sample (s 1)) (F_X12_sample (s 1))
  | 7 => OpV Inv (F_X11_bound (s 1) (s 2)) (F_X12_bound (s 1) (s 2))
  | 8 => OpT Inv [(1, 1)] (F_X11_count (s 1)) (F_X12_count (s 1))
  | 9 => OpT Inv [(1, 1)] (F_X11_diff (s 1) (s 2)) (F_X12_diff (s 1) (s 2))
  | 10 => OpT Inv [(1, 1)] (F_X11_rel (s 1) (s 2)) (F_X12_rel (s 1) (s 2))
  | 11 => OpT Inv [(1, 1)] (F_X11_loud (s 1)) (F_X12_loud (s 1))
  | 12 => OpT Inv [(1, 1)] (F_X11_candidates (s 1)) (F_X12_candidates (s 1))
  | 13 => OpT Inv [(1, 1)] (F_X11_candidate (s 1) (s 2) (s 3)) (F_X12_candidate (s 1) (s 2) (s 3))
  | 14 => OpT Inv [(1, 1)] (F_X11_fine (s 1) (s 2) (if s 3 = 0 then 0 else 1)) (F_X12_fine (s 1) (s 2) (if s 3 = 0 then 0 else 1))
  | 15 => OpT Inv [(1, 1)] (F_X11_cost (s 1)) (F_X12_cost (s 1))
  | 16 => OpT Inv [(1, 1)] (F_X11_path (s 1)) (F_X12_path (s 1))
  | 17 => OpT Inv [(1, 1)] (F_X11_lag (s 1)) (F_X12_lag (s 1))
  | 18 => OpT Inv [(1, 1)] (F_X11_through (s 1) (s 2)) (F_X12_through (s 1) (s 2))
  | 19 => OpT Inv [(1, 1), (2, 2)] (F_X11_both (s 1) (s 2) (s 3) (s 4)) (F_X12_both (s 1) (s 2) (s 3) (s 4))
  | 20 => OpV Inv (F_X11_single) (F_X12_single)
  | 21 => OpT Inv [(1, 1), (2, 2)] (F_X11_live (s 1) (s 2)) (F_X12_live (s 1) (s 2))
  | 22 => OpT Inv [(1, 1)] (F_X11_settles (s 1)) (F_X12_settles (s 1))
  | 23 => OpT Inv [(2, 1)] (F_X11_best (s 1)) (F_X12_best (s 1))
  | 24 => OpT Inv [(2, 1), (1, 2)] (F_X11_bestAt (s 1) (s 2)) (F_X12_bestAt (s 1) (s 2))
  | 25 => OpT Inv [(2, 1)] (F_X11_would (s 1) (s 2)) (F_X12_would (s 1) (s 2))
  | 26 => OpV Inv (F_X11_doubled) (F_X12_doubled)
  | 27 => OpV Inv (F_X11_spans) (F_X12_spans)
  | 28 => OpT Inv [(1, 1)] (F_X11_span (s 1) (s 2)) (F_X12_span (s 1) (s 2))
  | 29 => OpV Inv (F_X11_notes) (F_X12_notes)
  | 30 => OpT Inv [(1, 1)] (F_X11_note (s 1) (s 2)) (F_X12_note (s 1) (s 2))
  | 31 => OpT Inv [(1, 1)] (F_X11_steady (s 1)) (F_X12_steady (s 1))
  | 32 => OpV Inv (F_X11_lags) (F_X12_lags)
  | 33 => OpT Inv [(1, 1)] (F_X11_lagAt (s 1) (s 2)) (F_X12_lagAt (s 1) (s 2))
  | 34 => OpT Inv [(1, 1)] (F_X11_common (s 1)) (F_X12_common (s 1))
  | 35 => OpV Inv (F_X11_tune (s 1)) (F_X12_tune (s 1))
  | 36 => OpV Inv (F_X11_hush) (F_X12_hush)
  | 37 => OpT Inv [(1, 1)] (F_X11_match (s 1)) (F_X12_match (s 1))
  | 38 => OpT Inv [(1, 1)] (F_X11_matched (s 1)) (F_X12_matched (s 1))
  | 39 => OpV Inv (F_X11_marks) (F_X12_marks)
  | 40 => OpT Inv [(1, 1)] (F_X11_mark (s 1)) (F_X12_mark (s 1))
  | 41 => OpV Inv (F_X11_near (s 1)) (F_X12_near (s 1))
  | 42 => OpV Inv (F_X11_behind (s 1)) (F_X12_behind (s 1))
  | 43 => OpT Inv [(1, 1)] (F_X11_gaps (s 1)) (F_X12_gaps (s 1))
  | 44 => OpT Inv [(1, 1)] (F_X11_rough (s 1)) (F_X12_rough (s 1))
  | 45 => OpV Inv (F_X11_roughest) (F_X12_roughest)
  | 46 => OpT Inv [(1, 1)] (F_X11_mean (if s 1 = 0 then 0 else 1)) (F_X12_mean (if s 1 = 0 then 0 else 1))
  | 47 => OpT Inv [(1, 1), (2, 2)] (F_X11_anew (s 1) (s 2) (s 3)) (F_X12_anew (s 1) (s 2) (s 3))
  | _ => True
def OpsOk (Inv : uS → Prop) : Prop := ∀ (c : Nat) (s : Nat → Int32), OpsAt Inv c s
theorem and63 (x : Int32) : ∃ c : Nat, c < 64 ∧ x &&& 63 = Int32.ofNat c := by
  refine ⟨(x &&& 63).toBitVec.toNat, ?_, ?_⟩
  · rw [Int32.toBitVec_and, BitVec.toNat_and]
    exact Nat.lt_of_le_of_lt Nat.and_le_right (by decide)
  · apply Int32.toBitVec_inj.mp
    rw [Int32.toBitVec_ofNat']
    simp
theorem w_in {i k L : Nat} {kk : Int32} (hk : kk = zI k) (hL : L ≤ 3072) (h : 6 * i + k < L) : vp_in (zI (6 * i : Nat) + kk) L := by
  rw [hk, show zI (6 * i : Nat) + zI k = zI ((6 * i + k : Nat) : Int) from by rw [e_add rfl rfl]; congr 1]
  exact vin_in (z_idx (by omega) ⟨by omega, by omega⟩).1
set_option maxHeartbeats 8000000 in
set_option maxRecDepth 100000 in
theorem law_loop {l : Launch} {E : uE} {K : uK} {bb L : Nat} {xs : Nat → Int32} {Inv : uS → Prop} (hops : OpsOk Inv) (hl9 : l.stackTraces = false) (hC : Cx E K RL cL_law (some .boolean) 11 414) (hN : 7 = K.2.2.2.2.2) (hL : Lx E K bb L xs) (hLn : L ≤ 3072) (hRm : ∀ a b, a ≤ 1119 → b ≤ 65510 → Rm K a b) (hX : ∀ (a b : Nat) (o : Int64) (σ : uS) (w : Int32), a ≤ 1119 → b ≤ 65510 → Gd l E K a b o σ 2656 [some (.ref bb), some (.ref (E.2.1 0)), some (.ref (E.2.1 55)), some (.ref (E.2.1 92)), some (.int w), none, none] []) : ∀ (n i : Nat), i + n = 513 → 6 * i ≤ L → ∀ (a b : Nat) (o : Int64) (σ : uS), a + n ≤ 1119 → b + 6 * n ≤ 65510 → Inv σ → Gd l E K a b o σ 23 [some (.ref bb), some (.ref (E.2.1 0)), some (.ref (E.2.1 55)), some (.ref (E.2.1 92)), some (.int (zI (6 * i : Nat))), none, none] [] := by
  intro n
  induction n with
  | zero =>
    intro i hi hiL
    omega
  | succ n ih =>
    intro i hi hiL a b o σ ha hb hI
    refine g_iload (pc := 23) hC dL_law_23 rfl ?_
    refine g_aload_n (pc := 25) hC dL_law_25 rfl ?_
    refine g_slen (pc := 26) hC hL dL_law_26 ?_
    refine g_bipush (pc := 27) hC kb_6 dL_law_27 ?_
    refine g_isub (pc := 29) hC dL_law_29 ?_
    have hLz : Int32.ofNat L - 6 = zI ((L : Int) - 6) := e_sub (show Int32.ofNat L = zI (L : Int) from Int32.ofInt_eq_ofNat.symm) kz_6
    rw [hLz]
    refine g_icmp_gt (tgt := 2656) (pc := 30) hC dL_law_30 (by decide) (fun _ => hX a b o σ _ (by omega) (by omega)) (fun hg => ?_)
    rw [c_lt rfl rfl (by omega) (by omega)] at hg
    have hgo : 6 * i + 6 ≤ L := by omega
    refine g_aload_n (pc := 33) hC dL_law_33 rfl ?_
    refine g_iload (pc := 34) hC dL_law_34 rfl ?_
    refine g_sld (pc := 36) hC hL (i := zI (6 * i : Nat)) (vin_in (z_idx (by omega) ⟨by omega, by omega⟩).1) rfl dL_law_36 ?_
    refine g_bipush (pc := 37) hC (show (Int8.ofInt 63).toInt32 = 63 by decide) dL_law_37 ?_
    refine g_iand (pc := 39) hC dL_law_39 ?_
    have hnx : ∀ (a2 b2 : Nat) (o2 : Int64) (σ2 : uS), a2 ≤ a + 1 → b2 ≤ b + 6 → Inv σ2 → Gd l E K a2 b2 o2 σ2 2650 [some (.ref bb), some (.ref (E.2.1 0)), some (.ref (E.2.1 55)), some (.ref (E.2.1 92)), some (.int (zI (6 * i : Nat))), none, none] [] := by
      intro a2 b2 o2 σ2 h1 h2 h3
      refine g_iinc (pc := 2650) hC dL_law_2650 rfl (v := zI (6 * (i + 1) : Nat)) ?_ rfl (Or.inr rfl) (by rw [← hN]; decide) ?_
      · rw [show (Int32.ofInt 6) = zI 6 from rfl, e_add rfl rfl]
        congr 1
      · refine g_goto (tgt := 23) (pc := 2653) hC dL_law_2653 (by decide) ?_
        exact ih (i + 1) (by omega) (by omega) a2 b2 o2 σ2 (by omega) (by omega) h3
    have hR0 : Rm K a b := hRm a b (by omega) (by omega)
    have hR1 : Rm K (a + 1) (b + 6) := hRm _ _ (by omega) (by omega)
    have n1 : vp_in (zI (6 * i : Nat) + 1) L := w_in (k := 1) kz_1 hLn (by omega)
    have n2 : vp_in (zI (6 * i : Nat) + 2) L := w_in (k := 2) kz_2 hLn (by omega)
    have n3 : vp_in (zI (6 * i : Nat) + 3) L := w_in (k := 3) kz_3 hLn (by omega)
    have n4 : vp_in (zI (6 * i : Nat) + 4) L := w_in (k := 4) kz_4 hLn (by omega)
    have n5 : vp_in (zI (6 * i : Nat) + 5) L := w_in (k := 5) kz_5 hLn (by omega)
    obtain ⟨s, hs1, hs2, hs3, hs4, hs5⟩ : ∃ s : Nat → Int32, s 1 = xs (zI (6 * i : Nat) + 1).toNatClampNeg ∧ s 2 = xs (zI (6 * i : Nat) + 2).toNatClampNeg ∧ s 3 = xs (zI (6 * i : Nat) + 3).toNatClampNeg ∧ s 4 = xs (zI (6 * i : Nat) + 4).toNatClampNeg ∧ s 5 = xs (zI (6 * i : Nat) + 5).toNatClampNeg := ⟨fun k => match k with
      | 1 => xs (zI (6 * i : Nat) + 1).toNatClampNeg
      | 2 => xs (zI (6 * i : Nat) + 2).toNatClampNeg
      | 3 => xs (zI (6 * i : Nat) + 3).toNatClampNeg
      | 4 => xs (zI (6 * i : Nat) + 4).toNatClampNeg
      | _ => xs (zI (6 * i : Nat) + 5).toNatClampNeg, rfl, rfl, rfl, rfl, rfl⟩
    obtain ⟨c, hc, e⟩ := and63 (xs (zI (6 * i : Nat)).toNatClampNeg)
    rw [e]
    have hop := hops c s
    match c, hc, hop with
    | 0, _, hop =>
      refine g_tabIn (tgt := 248) (off := 208) (pc := 40) hC dL_law_40 (by decide) (by decide) (by rfl) (by decide) ?_
      obtain ⟨r, σ1, σ2, h1, h2, h3⟩ := (show OpV _ _ _ from hop) σ hI
      exact law_0 hC hN hL (zI (6 * i : Nat)) (s 1) hs1 n1 (s 2) hs2 n2 (s 3) hs3 n3 (s 4) hs4 n4 (s 5) hs5 n5 r σ1 σ2 h1 h2 hR0 (hnx _ _ _ _ (by omega) (by omega) h3)
    | 1, _, hop =>
      refine g_tabIn (tgt := 321) (off := 281) (pc := 40) hC dL_law_40 (by decide) (by decide) (by rfl) (by decide) ?_
      obtain ⟨r, σ1, σ2, h1, h2, h3⟩ := (show OpV _ _ _ from hop) σ hI
      exact law_1 hC hN hL (zI (6 * i : Nat)) (s 1) hs1 n1 r σ1 σ2 h1 h2 hR0 (hnx _ _ _ _ (by omega) (by omega) h3)
    | 2, _, hop =>
      refine g_tabIn (tgt := 346) (off := 306) (pc := 40) hC dL_law_40 (by decide) (by decide) (by rfl) (by decide) ?_
      obtain ⟨r, σ1, σ2, h1, h2, h3⟩ := (show OpV _ _ _ from hop) σ hI
      exact law_2 hC hN hL (zI (6 * i : Nat)) (s 1) hs1 n1 (s 2) hs2 n2 (s 3) hs3 n3 r σ1 σ2 h1 h2 hR0 (hnx _ _ _ _ (by omega) (by omega) h3)
    | 3, _, hop =>
      refine g_tabIn (tgt := 395) (off := 355) (pc := 40) hC dL_law_40 (by decide) (by decide) (by rfl) (by decide) ?_
      obtain ⟨r, σ1, σ2, h1, h2, h3⟩ := (show OpV _ _ _ from hop) σ hI
      exact law_3 hC hN hL (zI (6 * i : Nat)) (s 1) hs1 n1 (s 2) hs2 n2 (s 3) hs3 n3 r σ1 σ2 h1 h2 hR0 (hnx _ _ _ _ (by omega) (by omega) h3)
    | 4, _, hop =>
      refine g_tabIn (tgt := 444) (off := 404) (pc := 40) hC dL_law_40 (by decide) (by decide) (by rfl) (by decide) ?_
      obtain ⟨r, σ1, σ2, h1, h2, h3⟩ := (show OpV _ _ _ from hop) σ hI
      exact law_4 hC hN hL (zI (6 * i : Nat)) (s 1) hs1 n1 (s 2) hs2 n2 r σ1 σ2 h1 h2 hR0 (hnx _ _ _ _ (by omega) (by omega) h3)
    | 5, _, hop =>
      refine g_tabIn (tgt := 481) (off := 441) (pc := 40) hC dL_law_40 (by decide) (by decide) (by rfl) (by decide) ?_
      obtain ⟨r, σ1, σ2, h1, h2, h3⟩ := (show OpV _ _ _ from hop) σ hI
      exact law_5 hC hN hL (zI (6 * i : Nat)) (s 1) hs1 n1 r σ1 σ2 h1 h2 hR0 (hnx _ _ _ _ (by omega) (by omega) h3)
    | 6, _, hop =>
      refine g_tabIn (tgt := 506) (off := 466) (pc := 40) hC dL_law_40 (by decide) (by decide) (by rfl) (by decide) ?_
      rcases (show OpT _ _ _ _ from hop) σ hI with ⟨r, σ1, σ2, h1, h2, h3, h4⟩ | ⟨q, hq, r, σ1, σ2, h1, h2, h3, h4⟩
      · exact law_6_r hC hN hL (zI (6 * i : Nat)) (s 1) hs1 n1 r σ1 σ2 h1 h2 h3 hR0 (hnx _ _ _ _ (by omega) (by omega) h4)
      · obtain rfl := List.mem_singleton.mp hq
        exact law_6_x1 hC hN hL (zI (6 * i : Nat)) (s 1) hs1 n1 hl9 r σ1 σ2 h1 h2 h3 hR1 (hnx _ _ _ _ (by omega) (by omega) h4)
    | 7, _, hop =>
      refine g_tabIn (tgt := 562) (off := 522) (pc := 40) hC dL_law_40 (by decide) (by decide) (by rfl) (by decide) ?_
      obtain ⟨r, σ1, σ2, h1, h2, h3⟩ := (show OpV _ _ _ from hop) σ hI
      exact law_7 hC hN hL (zI (6 * i : Nat)) (s 1) hs1 n1 (s 2) hs2 n2 r σ1 σ2 h1 h2 hR0 (hnx _ _ _ _ (by omega) (by omega) h3)
    | 8, _, hop =>
      refine g_tabIn (tgt := 599) (off := 559) (pc := 40) hC dL_law_40 (by decide) (by decide) (by rfl) (by decide) ?_
      rcases (show OpT _ _ _ _ from hop) σ hI with ⟨r, σ1, σ2, h1, h2, h3, h4⟩ | ⟨q, hq, r, σ1, σ2, h1, h2, h3, h4⟩
      · exact law_8_r hC hN hL (zI (6 * i : Nat)) (s 1) hs1 n1 r σ1 σ2 h1 h2 h3 hR0 (hnx _ _ _ _ (by omega) (by omega) h4)
      · obtain rfl := List.mem_singleton.mp hq
        exact law_8_x1 hC hN hL (zI (6 * i : Nat)) (s 1) hs1 n1 hl9 r σ1 σ2 h1 h2 h3 hR1 (hnx _ _ _ _ (by omega) (by omega) h4)
    | 9, _, hop =>
      refine g_tabIn (tgt := 655) (off := 615) (pc := 40) hC dL_law_40 (by decide) (by decide) (by rfl) (by decide) ?_
      rcases (show OpT _ _ _ _ from hop) σ hI with ⟨r, σ1, σ2, h1, h2, h3, h4⟩ | ⟨q, hq, r, σ1, σ2, h1, h2, h3, h4⟩
      · exact law_9_r hC hN hL (zI (6 * i : Nat)) (s 1) hs1 n1 (s 2) hs2 n2 r σ1 σ2 h1 h2 h3 hR0 (hnx _ _ _ _ (by omega) (by omega) h4)
      · obtain rfl := List.mem_singleton.mp hq
        exact law_9_x1 hC hN hL (zI (6 * i : Nat)) (s 1) hs1 n1 (s 2) hs2 n2 hl9 r σ1 σ2 h1 h2 h3 hR1 (hnx _ _ _ _ (by omega) (by omega) h4)
    | 10, _, hop =>
      refine g_tabIn (tgt := 723) (off := 683) (pc := 40) hC dL_law_40 (by decide) (by decide) (by rfl) (by decide) ?_
      rcases (show OpT _ _ _ _ from hop) σ hI with ⟨r, σ1, σ2, h1, h2, h3, h4⟩ | ⟨q, hq, r, σ1, σ2, h1, h2, h3, h4⟩
      · exact law_10_r hC hN hL (zI (6 * i : Nat)) (s 1) hs1 n1 (s 2) hs2 n2 r σ1 σ2 h1 h2 h3 hR0 (hnx _ _ _ _ (by omega) (by omega) h4)
      · obtain rfl := List.mem_singleton.mp hq
        exact law_10_x1 hC hN hL (zI (6 * i : Nat)) (s 1) hs1 n1 (s 2) hs2 n2 hl9 r σ1 σ2 h1 h2 h3 hR1 (hnx _ _ _ _ (by omega) (by omega) h4)
    | 11, _, hop =>
      refine g_tabIn (tgt := 791) (off := 751) (pc := 40) hC dL_law_40 (by decide) (by decide) (by rfl) (by decide) ?_
      rcases (show OpT _ _ _ _ from hop) σ hI with ⟨r, σ1, σ2, h1, h2, h3, h4⟩ | ⟨q, hq, r, σ1, σ2, h1, h2, h3, h4⟩
      · exact law_11_r hC hN hL (zI (6 * i : Nat)) (s 1) hs1 n1 r σ1 σ2 h1 h2 h3 hR0 (hnx _ _ _ _ (by omega) (by omega) h4)
      · obtain rfl := List.mem_singleton.mp hq
        exact law_11_x1 hC hN hL (zI (6 * i : Nat)) (s 1) hs1 n1 hl9 r σ1 σ2 h1 h2 h3 hR1 (hnx _ _ _ _ (by omega) (by omega) h4)
    | 12, _, hop =>
      refine g_tabIn (tgt := 847) (off := 807) (pc := 40) hC dL_law_40 (by decide) (by decide) (by rfl) (by decide) ?_
      rcases (show OpT _ _ _ _ from hop) σ hI with ⟨r, σ1, σ2, h1, h2, h3, h4⟩ | ⟨q, hq, r, σ1, σ2, h1, h2, h3, h4⟩
      · exact law_12_r hC hN hL (zI (6 * i : Nat)) (s 1) hs1 n1 r σ1 σ2 h1 h2 h3 hR0 (hnx _ _ _ _ (by omega) (by omega) h4)
      · obtain rfl := List.mem_singleton.mp hq
        exact law_12_x1 hC hN hL (zI (6 * i : Nat)) (s 1) hs1 n1 hl9 r σ1 σ2 h1 h2 h3 hR1 (hnx _ _ _ _ (by omega) (by omega) h4)
    | 13, _, hop =>
      refine g_tabIn (tgt := 903) (off := 863) (pc := 40) hC dL_law_40 (by decide) (by decide) (by rfl) (by decide) ?_
      rcases (show OpT _ _ _ _ from hop) σ hI with ⟨r, σ1, σ2, h1, h2, h3, h4⟩ | ⟨q, hq, r, σ1, σ2, h1, h2, h3, h4⟩
      · exact law_13_r hC hN hL (zI (6 * i : Nat)) (s 1) hs1 n1 (s 2) hs2 n2 (s 3) hs3 n3 r σ1 σ2 h1 h2 h3 hR0 (hnx _ _ _ _ (by omega) (by omega) h4)
      · obtain rfl := List.mem_singleton.mp hq
        exact law_13_x1 hC hN hL (zI (6 * i : Nat)) (s 1) hs1 n1 (s 2) hs2 n2 (s 3) hs3 n3 hl9 r σ1 σ2 h1 h2 h3 hR1 (hnx _ _ _ _ (by omega) (by omega) h4)
    | 14, _, hop =>
      refine g_tabIn (tgt := 983) (off := 943) (pc := 40) hC dL_law_40 (by decide) (by decide) (by rfl) (by decide) ?_
      rcases (show OpT _ _ _ _ from hop) σ hI with ⟨r, σ1, σ2, h1, h2, h3, h4⟩ | ⟨q, hq, r, σ1, σ2, h1, h2, h3, h4⟩
      · exact law_14_r hC hN hL (zI (6 * i : Nat)) (s 1) hs1 n1 (s 2) hs2 n2 (s 3) hs3 n3 (if s 3 = 0 then 0 else 1) rfl r σ1 σ2 h1 h2 h3 hR0 (hnx _ _ _ _ (by omega) (by omega) h4)
      · obtain rfl := List.mem_singleton.mp hq
        exact law_14_x1 hC hN hL (zI (6 * i : Nat)) (s 1) hs1 n1 (s 2) hs2 n2 (s 3) hs3 n3 (if s 3 = 0 then 0 else 1) rfl hl9 r σ1 σ2 h1 h2 h3 hR1 (hnx _ _ _ _ (by omega) (by omega) h4)
    | 15, _, hop =>
      refine g_tabIn (tgt := 1079) (off := 1039) (pc := 40) hC dL_law_40 (by decide) (by decide) (by rfl) (by decide) ?_
      rcases (show OpT _ _ _ _ from hop) σ hI with ⟨r, σ1, σ2, h1, h2, h3, h4⟩ | ⟨q, hq, r, σ1, σ2, h1, h2, h3, h4⟩
      · exact law_15_r hC hN hL (zI (6 * i : Nat)) (s 1) hs1 n1 r σ1 σ2 h1 h2 h3 hR0 (hnx _ _ _ _ (by omega) (by omega) h4)
      · obtain rfl := List.mem_singleton.mp hq
        exact law_15_x1 hC hN hL (zI (6 * i : Nat)) (s 1) hs1 n1 hl9 r σ1 σ2 h1 h2 h3 hR1 (hnx _ _ _ _ (by omega) (by omega) h4)
    | 16, _, hop =>
      refine g_tabIn (tgt := 1135) (off := 1095) (pc := 40) hC dL_law_40 (by decide) (by decide) (by rfl) (by decide) ?_
      rcases (show OpT _ _ _ _ from hop) σ hI with ⟨r, σ1, σ2, h1, h2, h3, h4⟩ | ⟨q, hq, r, σ1, σ2, h1, h2, h3, h4⟩
      · exact law_16_r hC hN hL (zI (6 * i : Nat)) (s 1) hs1 n1 r σ1 σ2 h1 h2 h3 hR0 (hnx _ _ _ _ (by omega) (by omega) h4)
      · obtain rfl := List.mem_singleton.mp hq
        exact law_16_x1 hC hN hL (zI (6 * i : Nat)) (s 1) hs1 n1 hl9 r σ1 σ2 h1 h2 h3 hR1 (hnx _ _ _ _ (by omega) (by omega) h4)
    | 17, _, hop =>
      refine g_tabIn (tgt := 1191) (off := 1151) (pc := 40) hC dL_law_40 (by decide) (by decide) (by rfl) (by decide) ?_
      rcases (show OpT _ _ _ _ from hop) σ hI with ⟨r, σ1, σ2, h1, h2, h3, h4⟩ | ⟨q, hq, r, σ1, σ2, h1, h2, h3, h4⟩
      · exact law_17_r hC hN hL (zI (6 * i : Nat)) (s 1) hs1 n1 r σ1 σ2 h1 h2 h3 hR0 (hnx _ _ _ _ (by omega) (by omega) h4)
      · obtain rfl := List.mem_singleton.mp hq
        exact law_17_x1 hC hN hL (zI (6 * i : Nat)) (s 1) hs1 n1 hl9 r σ1 σ2 h1 h2 h3 hR1 (hnx _ _ _ _ (by omega) (by omega) h4)
    | 18, _, hop =>
      refine g_tabIn (tgt := 1247) (off := 1207) (pc := 40) hC dL_law_40 (by decide) (by decide) (by rfl) (by decide) ?_
      rcases (show OpT _ _ _ _ from hop) σ hI with ⟨r, σ1, σ2, h1, h2, h3, h4⟩ | ⟨q, hq, r, σ1, σ2, h1, h2, h3, h4⟩
      · exact law_18_r hC hN hL (zI (6 * i : Nat)) (s 1) hs1 n1 (s 2) hs2 n2 r σ1 σ2 h1 h2 h3 hR0 (hnx _ _ _ _ (by omega) (by omega) h4)
      · obtain rfl := List.mem_singleton.mp hq
        exact law_18_x1 hC hN hL (zI (6 * i : Nat)) (s 1) hs1 n1 (s 2) hs2 n2 hl9 r σ1 σ2 h1 h2 h3 hR1 (hnx _ _ _ _ (by omega) (by omega) h4)
    | 19, _, hop =>
      refine g_tabIn (tgt := 1315) (off := 1275) (pc := 40) hC dL_law_40 (by decide) (by decide) (by rfl) (by decide) ?_
      rcases (show OpT _ _ _ _ from hop) σ hI with ⟨r, σ1, σ2, h1, h2, h3, h4⟩ | ⟨q, hq, r, σ1, σ2, h1, h2, h3, h4⟩
      · exact law_19_r hC hN hL (zI (6 * i : Nat)) (s 1) hs1 n1 (s 2) hs2 n2 (s 3) hs3 n3 (s 4) hs4 n4 r σ1 σ2 h1 h2 h3 hR0 (hnx _ _ _ _ (by omega) (by omega) h4)
      · rcases List.mem_cons.mp hq with rfl | hq
        · exact law_19_x1 hC hN hL (zI (6 * i : Nat)) (s 1) hs1 n1 (s 2) hs2 n2 (s 3) hs3 n3 (s 4) hs4 n4 hl9 r σ1 σ2 h1 h2 h3 hR1 (hnx _ _ _ _ (by omega) (by omega) h4)
        · obtain rfl := List.mem_singleton.mp hq
          exact law_19_x2 hC hN hL (zI (6 * i : Nat)) (s 1) hs1 n1 (s 2) hs2 n2 (s 3) hs3 n3 (s 4) hs4 n4 hl9 r σ1 σ2 h1 h2 h3 hR1 (hnx _ _ _ _ (by omega) (by omega) h4)
    | 20, _, hop =>
      refine g_tabIn (tgt := 1407) (off := 1367) (pc := 40) hC dL_law_40 (by decide) (by decide) (by rfl) (by decide) ?_
      obtain ⟨r, σ1, σ2, h1, h2, h3⟩ := (show OpV _ _ _ from hop) σ hI
      exact law_20 hC hN hL (zI (6 * i : Nat))  r σ1 σ2 h1 h2 hR0 (hnx _ _ _ _ (by omega) (by omega) h3)
    | 21, _, hop =>
      refine g_tabIn (tgt := 1420) (off := 1380) (pc := 40) hC dL_law_40 (by decide) (by decide) (by rfl) (by decide) ?_
      rcases (show OpT _ _ _ _ from hop) σ hI with ⟨r, σ1, σ2, h1, h2, h3, h4⟩ | ⟨q, hq, r, σ1, σ2, h1, h2, h3, h4⟩
      · exact law_21_r hC hN hL (zI (6 * i : Nat)) (s 1) hs1 n1 (s 2) hs2 n2 r σ1 σ2 h1 h2 h3 hR0 (hnx _ _ _ _ (by omega) (by omega) h4)
      · rcases List.mem_cons.mp hq with rfl | hq
        · exact law_21_x1 hC hN hL (zI (6 * i : Nat)) (s 1) hs1 n1 (s 2) hs2 n2 hl9 r σ1 σ2 h1 h2 h3 hR1 (hnx _ _ _ _ (by omega) (by omega) h4)
        · obtain rfl := List.mem_singleton.mp hq
          exact law_21_x2 hC hN hL (zI (6 * i : Nat)) (s 1) hs1 n1 (s 2) hs2 n2 hl9 r σ1 σ2 h1 h2 h3 hR1 (hnx _ _ _ _ (by omega) (by omega) h4)
    | 22, _, hop =>
      refine g_tabIn (tgt := 1488) (off := 1448) (pc := 40) hC dL_law_40 (by decide) (by decide) (by rfl) (by decide) ?_
      rcases (show OpT _ _ _ _ from hop) σ hI with ⟨r, σ1, σ2, h1, h2, h3, h4⟩ | ⟨q, hq, r, σ1, σ2, h1, h2, h3, h4⟩
      · exact law_22_r hC hN hL (zI (6 * i : Nat)) (s 1) hs1 n1 r σ1 σ2 h1 h2 h3 hR0 (hnx _ _ _ _ (by omega) (by omega) h4)
      · obtain rfl := List.mem_singleton.mp hq
        exact law_22_x1 hC hN hL (zI (6 * i : Nat)) (s 1) hs1 n1 hl9 r σ1 σ2 h1 h2 h3 hR1 (hnx _ _ _ _ (by omega) (by omega) h4)
    | 23, _, hop =>
      refine g_tabIn (tgt := 1544) (off := 1504) (pc := 40) hC dL_law_40 (by decide) (by decide) (by rfl) (by decide) ?_
      rcases (show OpT _ _ _ _ from hop) σ hI with ⟨r, σ1, σ2, h1, h2, h3, h4⟩ | ⟨q, hq, r, σ1, σ2, h1, h2, h3, h4⟩
      · exact law_23_r hC hN hL (zI (6 * i : Nat)) (s 1) hs1 n1 r σ1 σ2 h1 h2 h3 hR0 (hnx _ _ _ _ (by omega) (by omega) h4)
      · obtain rfl := List.mem_singleton.mp hq
        exact law_23_x2 hC hN hL (zI (6 * i : Nat)) (s 1) hs1 n1 hl9 r σ1 σ2 h1 h2 h3 hR1 (hnx _ _ _ _ (by omega) (by omega) h4)
    | 24, _, hop =>
      refine g_tabIn (tgt := 1600) (off := 1560) (pc := 40) hC dL_law_40 (by decide) (by decide) (by rfl) (by decide) ?_
      rcases (show OpT _ _ _ _ from hop) σ hI with ⟨r, σ1, σ2, h1, h2, h3, h4⟩ | ⟨q, hq, r, σ1, σ2, h1, h2, h3, h4⟩
      · exact law_24_r hC hN hL (zI (6 * i : Nat)) (s 1) hs1 n1 (s 2) hs2 n2 r σ1 σ2 h1 h2 h3 hR0 (hnx _ _ _ _ (by omega) (by omega) h4)
      · rcases List.mem_cons.mp hq with rfl | hq
        · exact law_24_x2 hC hN hL (zI (6 * i : Nat)) (s 1) hs1 n1 (s 2) hs2 n2 hl9 r σ1 σ2 h1 h2 h3 hR1 (hnx _ _ _ _ (by omega) (by omega) h4)
        · obtain rfl := List.mem_singleton.mp hq
          exact law_24_x1 hC hN hL (zI (6 * i : Nat)) (s 1) hs1 n1 (s 2) hs2 n2 hl9 r σ1 σ2 h1 h2 h3 hR1 (hnx _ _ _ _ (by omega) (by omega) h4)
    | 25, _, hop =>
      refine g_tabIn (tgt := 1668) (off := 1628) (pc := 40) hC dL_law_40 (by decide) (by decide) (by rfl) (by decide) ?_
      rcases (show OpT _ _ _ _ from hop) σ hI with ⟨r, σ1, σ2, h1, h2, h3, h4⟩ | ⟨q, hq, r, σ1, σ2, h1, h2, h3, h4⟩
      · exact law_25_r hC hN hL (zI (6 * i : Nat)) (s 1) hs1 n1 (s 2) hs2 n2 r σ1 σ2 h1 h2 h3 hR0 (hnx _ _ _ _ (by omega) (by omega) h4)
      · obtain rfl := List.mem_singleton.mp hq
        exact law_25_x2 hC hN hL (zI (6 * i : Nat)) (s 1) hs1 n1 (s 2) hs2 n2 hl9 r σ1 σ2 h1 h2 h3 hR1 (hnx _ _ _ _ (by omega) (by omega) h4)
    | 26, _, hop =>
      refine g_tabIn (tgt := 1736) (off := 1696) (pc := 40) hC dL_law_40 (by decide) (by decide) (by rfl) (by decide) ?_
      obtain ⟨r, σ1, σ2, h1, h2, h3⟩ := (show OpV _ _ _ from hop) σ hI
      exact law_26 hC hN hL (zI (6 * i : Nat))  r σ1 σ2 h1 h2 hR0 (hnx _ _ _ _ (by omega) (by omega) h3)
    | 27, _, hop =>
      refine g_tabIn (tgt := 1749) (off := 1709) (pc := 40) hC dL_law_40 (by decide) (by decide) (by rfl) (by decide) ?_
      obtain ⟨r, σ1, σ2, h1, h2, h3⟩ := (show OpV _ _ _ from hop) σ hI
      exact law_27 hC hN hL (zI (6 * i : Nat))  r σ1 σ2 h1 h2 hR0 (hnx _ _ _ _ (by omega) (by omega) h3)
    | 28, _, hop =>
      refine g_tabIn (tgt := 1762) (off := 1722) (pc := 40) hC dL_law_40 (by decide) (by decide) (by rfl) (by decide) ?_
      rcases (show OpT _ _ _ _ from hop) σ hI with ⟨r, σ1, σ2, h1, h2, h3, h4⟩ | ⟨q, hq, r, σ1, σ2, h1, h2, h3, h4⟩
      · exact law_28_r hC hN hL (zI (6 * i : Nat)) (s 1) hs1 n1 (s 2) hs2 n2 r σ1 σ2 h1 h2 h3 hR0 (hnx _ _ _ _ (by omega) (by omega) h4)
      · obtain rfl := List.mem_singleton.mp hq
        exact law_28_x1 hC hN hL (zI (6 * i : Nat)) (s 1) hs1 n1 (s 2) hs2 n2 hl9 r σ1 σ2 h1 h2 h3 hR1 (hnx _ _ _ _ (by omega) (by omega) h4)
    | 29, _, hop =>
      refine g_tabIn (tgt := 1830) (off := 1790) (pc := 40) hC dL_law_40 (by decide) (by decide) (by rfl) (by decide) ?_
      obtain ⟨r, σ1, σ2, h1, h2, h3⟩ := (show OpV _ _ _ from hop) σ hI
      exact law_29 hC hN hL (zI (6 * i : Nat))  r σ1 σ2 h1 h2 hR0 (hnx _ _ _ _ (by omega) (by omega) h3)
    | 30, _, hop =>
      refine g_tabIn (tgt := 1843) (off := 1803) (pc := 40) hC dL_law_40 (by decide) (by decide) (by rfl) (by decide) ?_
      rcases (show OpT _ _ _ _ from hop) σ hI with ⟨r, σ1, σ2, h1, h2, h3, h4⟩ | ⟨q, hq, r, σ1, σ2, h1, h2, h3, h4⟩
      · exact law_30_r hC hN hL (zI (6 * i : Nat)) (s 1) hs1 n1 (s 2) hs2 n2 r σ1 σ2 h1 h2 h3 hR0 (hnx _ _ _ _ (by omega) (by omega) h4)
      · obtain rfl := List.mem_singleton.mp hq
        exact law_30_x1 hC hN hL (zI (6 * i : Nat)) (s 1) hs1 n1 (s 2) hs2 n2 hl9 r σ1 σ2 h1 h2 h3 hR1 (hnx _ _ _ _ (by omega) (by omega) h4)
    | 31, _, hop =>
      refine g_tabIn (tgt := 1911) (off := 1871) (pc := 40) hC dL_law_40 (by decide) (by decide) (by rfl) (by decide) ?_
      rcases (show OpT _ _ _ _ from hop) σ hI with ⟨r, σ1, σ2, h1, h2, h3, h4⟩ | ⟨q, hq, r, σ1, σ2, h1, h2, h3, h4⟩
      · exact law_31_r hC hN hL (zI (6 * i : Nat)) (s 1) hs1 n1 r σ1 σ2 h1 h2 h3 hR0 (hnx _ _ _ _ (by omega) (by omega) h4)
      · obtain rfl := List.mem_singleton.mp hq
        exact law_31_x1 hC hN hL (zI (6 * i : Nat)) (s 1) hs1 n1 hl9 r σ1 σ2 h1 h2 h3 hR1 (hnx _ _ _ _ (by omega) (by omega) h4)
    | 32, _, hop =>
      refine g_tabIn (tgt := 1967) (off := 1927) (pc := 40) hC dL_law_40 (by decide) (by decide) (by rfl) (by decide) ?_
      obtain ⟨r, σ1, σ2, h1, h2, h3⟩ := (show OpV _ _ _ from hop) σ hI
      exact law_32 hC hN hL (zI (6 * i : Nat))  r σ1 σ2 h1 h2 hR0 (hnx _ _ _ _ (by omega) (by omega) h3)
    | 33, _, hop =>
      refine g_tabIn (tgt := 1980) (off := 1940) (pc := 40) hC dL_law_40 (by decide) (by decide) (by rfl) (by decide) ?_
      rcases (show OpT _ _ _ _ from hop) σ hI with ⟨r, σ1, σ2, h1, h2, h3, h4⟩ | ⟨q, hq, r, σ1, σ2, h1, h2, h3, h4⟩
      · exact law_33_r hC hN hL (zI (6 * i : Nat)) (s 1) hs1 n1 (s 2) hs2 n2 r σ1 σ2 h1 h2 h3 hR0 (hnx _ _ _ _ (by omega) (by omega) h4)
      · obtain rfl := List.mem_singleton.mp hq
        exact law_33_x1 hC hN hL (zI (6 * i : Nat)) (s 1) hs1 n1 (s 2) hs2 n2 hl9 r σ1 σ2 h1 h2 h3 hR1 (hnx _ _ _ _ (by omega) (by omega) h4)
    | 34, _, hop =>
      refine g_tabIn (tgt := 2048) (off := 2008) (pc := 40) hC dL_law_40 (by decide) (by decide) (by rfl) (by decide) ?_
      rcases (show OpT _ _ _ _ from hop) σ hI with ⟨r, σ1, σ2, h1, h2, h3, h4⟩ | ⟨q, hq, r, σ1, σ2, h1, h2, h3, h4⟩
      · exact law_34_r hC hN hL (zI (6 * i : Nat)) (s 1) hs1 n1 r σ1 σ2 h1 h2 h3 hR0 (hnx _ _ _ _ (by omega) (by omega) h4)
      · obtain rfl := List.mem_singleton.mp hq
        exact law_34_x1 hC hN hL (zI (6 * i : Nat)) (s 1) hs1 n1 hl9 r σ1 σ2 h1 h2 h3 hR1 (hnx _ _ _ _ (by omega) (by omega) h4)
    | 35, _, hop =>
      refine g_tabIn (tgt := 2104) (off := 2064) (pc := 40) hC dL_law_40 (by decide) (by decide) (by rfl) (by decide) ?_
      obtain ⟨r, σ1, σ2, h1, h2, h3⟩ := (show OpV _ _ _ from hop) σ hI
      exact law_35 hC hN hL (zI (6 * i : Nat)) (s 1) hs1 n1 r σ1 σ2 h1 h2 hR0 (hnx _ _ _ _ (by omega) (by omega) h3)
    | 36, _, hop =>
      refine g_tabIn (tgt := 2129) (off := 2089) (pc := 40) hC dL_law_40 (by decide) (by decide) (by rfl) (by decide) ?_
      obtain ⟨r, σ1, σ2, h1, h2, h3⟩ := (show OpV _ _ _ from hop) σ hI
      exact law_36 hC hN hL (zI (6 * i : Nat))  r σ1 σ2 h1 h2 hR0 (hnx _ _ _ _ (by omega) (by omega) h3)
    | 37, _, hop =>
      refine g_tabIn (tgt := 2142) (off := 2102) (pc := 40) hC dL_law_40 (by decide) (by decide) (by rfl) (by decide) ?_
      rcases (show OpT _ _ _ _ from hop) σ hI with ⟨r, σ1, σ2, h1, h2, h3, h4⟩ | ⟨q, hq, r, σ1, σ2, h1, h2, h3, h4⟩
      · exact law_37_r hC hN hL (zI (6 * i : Nat)) (s 1) hs1 n1 r σ1 σ2 h1 h2 h3 hR0 (hnx _ _ _ _ (by omega) (by omega) h4)
      · obtain rfl := List.mem_singleton.mp hq
        exact law_37_x1 hC hN hL (zI (6 * i : Nat)) (s 1) hs1 n1 hl9 r σ1 σ2 h1 h2 h3 hR1 (hnx _ _ _ _ (by omega) (by omega) h4)
    | 38, _, hop =>
      refine g_tabIn (tgt := 2198) (off := 2158) (pc := 40) hC dL_law_40 (by decide) (by decide) (by rfl) (by decide) ?_
      rcases (show OpT _ _ _ _ from hop) σ hI with ⟨r, σ1, σ2, h1, h2, h3, h4⟩ | ⟨q, hq, r, σ1, σ2, h1, h2, h3, h4⟩
      · exact law_38_r hC hN hL (zI (6 * i : Nat)) (s 1) hs1 n1 r σ1 σ2 h1 h2 h3 hR0 (hnx _ _ _ _ (by omega) (by omega) h4)
      · obtain rfl := List.mem_singleton.mp hq
        exact law_38_x1 hC hN hL (zI (6 * i : Nat)) (s 1) hs1 n1 hl9 r σ1 σ2 h1 h2 h3 hR1 (hnx _ _ _ _ (by omega) (by omega) h4)
    | 39, _, hop =>
      refine g_tabIn (tgt := 2254) (off := 2214) (pc := 40) hC dL_law_40 (by decide) (by decide) (by rfl) (by decide) ?_
      obtain ⟨r, σ1, σ2, h1, h2, h3⟩ := (show OpV _ _ _ from hop) σ hI
      exact law_39 hC hN hL (zI (6 * i : Nat))  r σ1 σ2 h1 h2 hR0 (hnx _ _ _ _ (by omega) (by omega) h3)
    | 40, _, hop =>
      refine g_tabIn (tgt := 2267) (off := 2227) (pc := 40) hC dL_law_40 (by decide) (by decide) (by rfl) (by decide) ?_
      rcases (show OpT _ _ _ _ from hop) σ hI with ⟨r, σ1, σ2, h1, h2, h3, h4⟩ | ⟨q, hq, r, σ1, σ2, h1, h2, h3, h4⟩
      · exact law_40_r hC hN hL (zI (6 * i : Nat)) (s 1) hs1 n1 r σ1 σ2 h1 h2 h3 hR0 (hnx _ _ _ _ (by omega) (by omega) h4)
      · obtain rfl := List.mem_singleton.mp hq
        exact law_40_x1 hC hN hL (zI (6 * i : Nat)) (s 1) hs1 n1 hl9 r σ1 σ2 h1 h2 h3 hR1 (hnx _ _ _ _ (by omega) (by omega) h4)
    | 41, _, hop =>
      refine g_tabIn (tgt := 2323) (off := 2283) (pc := 40) hC dL_law_40 (by decide) (by decide) (by rfl) (by decide) ?_
      obtain ⟨r, σ1, σ2, h1, h2, h3⟩ := (show OpV _ _ _ from hop) σ hI
      exact law_41 hC hN hL (zI (6 * i : Nat)) (s 1) hs1 n1 r σ1 σ2 h1 h2 hR0 (hnx _ _ _ _ (by omega) (by omega) h3)
    | 42, _, hop =>
      refine g_tabIn (tgt := 2348) (off := 2308) (pc := 40) hC dL_law_40 (by decide) (by decide) (by rfl) (by decide) ?_
      obtain ⟨r, σ1, σ2, h1, h2, h3⟩ := (show OpV _ _ _ from hop) σ hI
      exact law_42 hC hN hL (zI (6 * i : Nat)) (s 1) hs1 n1 r σ1 σ2 h1 h2 hR0 (hnx _ _ _ _ (by omega) (by omega) h3)
    | 43, _, hop =>
      refine g_tabIn (tgt := 2373) (off := 2333) (pc := 40) hC dL_law_40 (by decide) (by decide) (by rfl) (by decide) ?_
      rcases (show OpT _ _ _ _ from hop) σ hI with ⟨r, σ1, σ2, h1, h2, h3, h4⟩ | ⟨q, hq, r, σ1, σ2, h1, h2, h3, h4⟩
      · exact law_43_r hC hN hL (zI (6 * i : Nat)) (s 1) hs1 n1 r σ1 σ2 h1 h2 h3 hR0 (hnx _ _ _ _ (by omega) (by omega) h4)
      · obtain rfl := List.mem_singleton.mp hq
        exact law_43_x1 hC hN hL (zI (6 * i : Nat)) (s 1) hs1 n1 hl9 r σ1 σ2 h1 h2 h3 hR1 (hnx _ _ _ _ (by omega) (by omega) h4)
    | 44, _, hop =>
      refine g_tabIn (tgt := 2429) (off := 2389) (pc := 40) hC dL_law_40 (by decide) (by decide) (by rfl) (by decide) ?_
      rcases (show OpT _ _ _ _ from hop) σ hI with ⟨r, σ1, σ2, h1, h2, h3, h4⟩ | ⟨q, hq, r, σ1, σ2, h1, h2, h3, h4⟩
      · exact law_44_r hC hN hL (zI (6 * i : Nat)) (s 1) hs1 n1 r σ1 σ2 h1 h2 h3 hR0 (hnx _ _ _ _ (by omega) (by omega) h4)
      · obtain rfl := List.mem_singleton.mp hq
        exact law_44_x1 hC hN hL (zI (6 * i : Nat)) (s 1) hs1 n1 hl9 r σ1 σ2 h1 h2 h3 hR1 (hnx _ _ _ _ (by omega) (by omega) h4)
    | 45, _, hop =>
      refine g_tabIn (tgt := 2485) (off := 2445) (pc := 40) hC dL_law_40 (by decide) (by decide) (by rfl) (by decide) ?_
      obtain ⟨r, σ1, σ2, h1, h2, h3⟩ := (show OpV _ _ _ from hop) σ hI
      exact law_45 hC hN hL (zI (6 * i : Nat))  r σ1 σ2 h1 h2 hR0 (hnx _ _ _ _ (by omega) (by omega) h3)
    | 46, _, hop =>
      refine g_tabIn (tgt := 2498) (off := 2458) (pc := 40) hC dL_law_40 (by decide) (by decide) (by rfl) (by decide) ?_
      rcases (show OpT _ _ _ _ from hop) σ hI with ⟨r, σ1, σ2, h1, h2, h3, h4⟩ | ⟨q, hq, r, σ1, σ2, h1, h2, h3, h4⟩
      · exact law_46_r hC hN hL (zI (6 * i : Nat)) (s 1) hs1 n1 (if s 1 = 0 then 0 else 1) rfl r σ1 σ2 h1 h2 h3 hR0 (hnx _ _ _ _ (by omega) (by omega) h4)
      · obtain rfl := List.mem_singleton.mp hq
        exact law_46_x1 hC hN hL (zI (6 * i : Nat)) (s 1) hs1 n1 (if s 1 = 0 then 0 else 1) rfl hl9 r σ1 σ2 h1 h2 h3 hR1 (hnx _ _ _ _ (by omega) (by omega) h4)
    | 47, _, hop =>
      refine g_tabIn (tgt := 2570) (off := 2530) (pc := 40) hC dL_law_40 (by decide) (by decide) (by rfl) (by decide) ?_
      rcases (show OpT _ _ _ _ from hop) σ hI with ⟨r, σ1, σ2, h1, h2, h3, h4⟩ | ⟨q, hq, r, σ1, σ2, h1, h2, h3, h4⟩
      · exact law_47_r hC hN hL (zI (6 * i : Nat)) (s 1) hs1 n1 (s 2) hs2 n2 (s 3) hs3 n3 r σ1 σ2 h1 h2 h3 hR0 (hnx _ _ _ _ (by omega) (by omega) h4)
      · rcases List.mem_cons.mp hq with rfl | hq
        · exact law_47_x1 hC hN hL (zI (6 * i : Nat)) (s 1) hs1 n1 (s 2) hs2 n2 (s 3) hs3 n3 hl9 r σ1 σ2 h1 h2 h3 hR1 (hnx _ _ _ _ (by omega) (by omega) h4)
        · obtain rfl := List.mem_singleton.mp hq
          exact law_47_x2 hC hN hL (zI (6 * i : Nat)) (s 1) hs1 n1 (s 2) hs2 n2 (s 3) hs3 n3 hl9 r σ1 σ2 h1 h2 h3 hR1 (hnx _ _ _ _ (by omega) (by omega) h4)
    | c + 48, hc, _ =>
      have ht : (Int32.ofNat (c + 48)).toInt = ((c + 48 : Nat) : Int) := by
        rw [← Int32.ofInt_eq_ofNat]
        exact toInt_zI (by omega)
      exact g_tabOut (tgt := 2650) (pc := 40) hC dL_law_40 (Or.inr (by rw [ht]; omega)) (by decide) (hnx _ _ _ _ (by omega) (by omega) hI)
