/-! the reference lays frames -/
theorem m_laysFrame {x B : Nat → Int} {n : Nat} {g : uZ} (hM : MB x B n g) (hn : n ≤ 800) (hB : BOk B) (hx : XOk x) {f : Nat} (hf : f < nfS B n) : ∃ g', GF_X12_laysFrame f g = some g' ∧ MR x B g' f ∧ (∀ L, L ≤ bN B 5 + 1 → g' 62 L = dfS x (bN B 2) (bN B 3) f L ∧ g' 63 L = relF x B f L) ∧ (∀ j, j < 6 * f ∨ 6 * f + 6 ≤ j → g' 64 j = g 64 j ∧ g' 65 j = g 65 j) ∧ (∀ j, j ≠ f → g' 66 j = g 66 j) := by
  have h3 := hB.b3
  have h4 := hB.b4
  have h5 := hB.b5
  have h7 := hB.b7
  have h8 := hB.b8
  have h9 := hB.b9
  have hlh := hB.lh
  have h100 := nfS_100 hB hn
  have hfit := (nfS_lt hB n f).mp hf
  have hlen := clS_len x B f
  unfold GF_X12_laysFrame
  obtain ⟨g1, e1, r1⟩ := m_laysDiffs hM hn hB hx (f := f) hfit
  have hF1 : Fr [62, 63] [] g g1 := fF_X12_laysDiffs Fr.rf e1
  have hM1 := hM.cg hF1 (by decide) (by decide) (by decide)
  obtain ⟨g2, e2, r2⟩ := m_laysDips hM1 hn hB hx (f := f) hfit (fun l hl => (r1 l hl).2)
  have hF2 : Fr [67] [] g1 g2 := fF_X12_laysDips Fr.rf e2
  have hM2 := hM1.cg hF2 (by decide) (by decide) (by decide)
  have g62 : g2 62 = g1 62 := hF2.f 62 (by decide) (by decide)
  have g63 : g2 63 = g1 63 := hF2.f 63 (by decide) (by decide)
  have r63 : ∀ l, l ≤ bN B 5 + 1 → g2 63 l = relF x B f l := fun l hl => by rw [g63]; exact (r1 l hl).2
  have g64 : g2 64 = g 64 := (hF2.f 64 (by decide) (by decide)).trans (hF1.f 64 (by decide) (by decide))
  have g65 : g2 65 = g 65 := (hF2.f 65 (by decide) (by decide)).trans (hF1.f 65 (by decide) (by decide))
  have g66 : g2 66 = g 66 := (hF2.f 66 (by decide) (by decide)).trans (hF1.f 66 (by decide) (by decide))
  rw [e1, cp_ok, e2, cp_ok, hM2.2.2, rdB4, h4.1]
  generalize hP : (fun L => DS x B f L && decide (ahd (DS x B f) (relF x B f) (lgs B) L < bN B 7)) = P
  have hcl : clS x B f = (List.range' (bN B 4) (bN B 5 + 1 - bN B 4)).filter P := by rw [← hP]; rfl
  have hpre : ∀ t, t ≤ bN B 5 + 1 - bN B 4 → ((List.range' (bN B 4) t).filter P).length ≤ (clS x B f).length := fun t ht => by
    have e : List.range' (bN B 4) (bN B 5 + 1 - bN B 4) = List.range' (bN B 4) t ++ List.range' (bN B 4 + t) (bN B 5 + 1 - bN B 4 - t) := by
      rw [List.range'_append_1]
      congr 1
      omega
    rw [hcl, e, List.filter_append, List.length_append]
    omega
  have hsucc : ∀ t, (List.range' (bN B 4) (t + 1)).filter P = (List.range' (bN B 4) t).filter P ++ (if P (bN B 4 + t) = true then [bN B 4 + t] else []) := fun t => by
    rw [List.range'_1_concat, List.filter_append]
    congr 1
    cases hp : P (bN B 4 + t) <;> simp [hp]
  refine lp_go (fun t q => q.2.1 = ((bN B 4 + t : Nat) : Int) ∧ q.1 = (((List.range' (bN B 4) t).filter P).length : Int) ∧ Fr [64, 65] [] g2 q.2.2 ∧ arr q.2.2 64 (6 * f) ((List.range' (bN B 4) t).filter P) ∧ (∀ i, i < ((List.range' (bN B 4) t).filter P).length → q.2.2 65 (6 * f + i) = relF x B f (((List.range' (bN B 4) t).filter P).getD i 0) + (bN B 8 : Int) * ((((List.range' (bN B 4) t).filter P).getD i 0 : Nat) : Int)) ∧ ∀ j, j < 6 * f ∨ 6 * f + 6 ≤ j → q.2.2 64 j = g 64 j ∧ q.2.2 65 j = g 65 j) (fun q => q.1 = ((clS x B f).length : Int) ∧ Fr [64, 65] [] g2 q.2 ∧ arr q.2 64 (6 * f) (clS x B f) ∧ (∀ i, i < (clS x B f).length → q.2 65 (6 * f + i) = relF x B f ((clS x B f).getD i 0) + (bN B 8 : Int) * (((clS x B f).getD i 0 : Nat) : Int)) ∧ ∀ j, j < 6 * f ∨ 6 * f + 6 ≤ j → q.2 64 j = g 64 j ∧ q.2 65 j = g 65 j) (bN B 5 + 1 - bN B 4) (by omega) ⟨by simp, rfl, Fr.rf, fun i hi => by simp at hi, fun i hi => by simp at hi, fun j _ => by dsimp only; rw [g64, g65]; exact ⟨rfl, rfl⟩⟩ ?_ ?_ ?_
  · rintro t ⟨v, w, q⟩ ht ⟨e1, e2, hF, ha, ho, hout⟩
    simp only at e1 e2 hF ha ho hout
    subst e1 e2
    have hMq := hM2.cg hF (by decide) (by decide) (by decide)
    have q63 : ∀ l, l ≤ bN B 5 + 1 → q 63 l = relF x B f l := by rw [hF.f 63 (by decide) (by decide)]; exact r63
    have q67 : ∀ L, bN B 4 ≤ L → L ≤ bN B 5 → q 67 L = if DS x B f L = true then 1 else 0 := by rw [hF.f 67 (by decide) (by decide)]; exact r2
    have hp1 := hpre t (by omega)
    have hp2 := hpre (t + 1) (by omega)
    have hst := hsucc t
    have hPt : P (bN B 4 + t) = (DS x B f (bN B 4 + t) && decide (ahd (DS x B f) (relF x B f) (lgs B) (bN B 4 + t) < bN B 7)) := by rw [← hP]
    dsimp only
    rw [hst] at hp2 ⊢
    generalize (List.range' (bN B 4) t).filter P = K at *
    have no : P (bN B 4 + t) = false → ∃ a', GJ_X12_laysFrame_2 ((bN B 4 + t : Nat) : Int) (K.length : Int) q = some (Sum.inl (β := Int × uZ) a') ∧ a'.2.1 = ((bN B 4 + (t + 1) : Nat) : Int) ∧ a'.1 = ((K ++ if P (bN B 4 + t) = true then [bN B 4 + t] else []).length : Int) ∧ Fr [64, 65] [] g2 a'.2.2 ∧ arr a'.2.2 64 (6 * f) (K ++ if P (bN B 4 + t) = true then [bN B 4 + t] else []) ∧ (∀ i, i < (K ++ if P (bN B 4 + t) = true then [bN B 4 + t] else []).length → a'.2.2 65 (6 * f + i) = relF x B f ((K ++ if P (bN B 4 + t) = true then [bN B 4 + t] else []).getD i 0) + (bN B 8 : Int) * (((K ++ if P (bN B 4 + t) = true then [bN B 4 + t] else []).getD i 0 : Nat) : Int)) ∧ ∀ j, j < 6 * f ∨ 6 * f + 6 ≤ j → a'.2.2 64 j = g 64 j ∧ a'.2.2 65 j = g 65 j := by
      intro hp
      rw [hp, if_neg (by simp), List.append_nil]
      unfold GJ_X12_laysFrame_2
      rw [lt_ok]
      refine ⟨_, rfl, ?_⟩
      dsimp only
      exact ⟨by omega, rfl, hF, ha, ho, hout⟩
    unfold GB_X12_laysFrame_3
    rw [hMq.2.2, rdB5, ck_ok (by omega), ck_ok (by omega), if_neg (by omega), rdZ_at (bN B 4 + t) rfl (by omega), q67 _ (by omega) (by omega), ck_ok (by split <;> omega)]
    cases hd : DS x B f (bN B 4 + t)
    · rw [b0, if_pos rfl]
      exact no (by rw [hPt, hd]; rfl)
    · have hab : ahd (DS x B f) (relF x B f) (lgs B) (bN B 4 + t) ≤ 50 := by
        have := List.countP_le_length (p := ahp (DS x B f) (relF x B f) (bN B 4 + t)) (l := lgs B)
        unfold lgs at this
        rw [List.length_range'] at this
        unfold ahd lgs
        omega
      rw [b1, if_neg (by omega), m_aheadOf hMq hB hx (by omega) q63 q67, cp_ok, rdB7, ck_ok (by omega), ck_ok (by omega)]
      by_cases hlt : ahd (DS x B f) (relF x B f) (lgs B) (bN B 4 + t) < bN B 7
      · have hp : P (bN B 4 + t) = true := by rw [hPt, hd, decide_eq_true hlt]; rfl
        rw [hp, if_pos rfl, List.length_append, List.length_singleton] at hp2
        rw [if_pos (by omega), hp, if_pos rfl, wrZ_at (6 * f + K.length) (by omega) (by omega), rdZ_at (bN B 4 + t) rfl (by omega), upZ_n (by decide : (63 : Nat) ≠ 64), upZ_n (by decide : (56 : Nat) ≠ 64), hMq.2.2, rdB8, wrZ_at (6 * f + K.length) (by omega) (by omega), lt_ok, q63 _ (by omega), h8.1]
        unfold GJ_X12_laysFrame_2
        rw [lt_ok]
        refine ⟨_, rfl, ?_⟩
        dsimp only
        refine ⟨by omega, by simp, (hF.wr (by decide)).wr (by decide), fun i hi => ?_, fun i hi => ?_, fun j hj => ?_⟩
        · rw [List.length_append, List.length_singleton] at hi
          rw [upZ_n (by decide : (64 : Nat) ≠ 65), upZ_s]
          by_cases hik : i = K.length
          · subst hik
            rw [if_pos rfl]
            simp
          · rw [if_neg (by omega), ha i (by omega), List.getD_eq_getElem?_getD, List.getD_eq_getElem?_getD, List.getElem?_append_left (by omega)]
        · rw [List.length_append, List.length_singleton] at hi
          rw [upZ_s]
          by_cases hik : i = K.length
          · subst hik
            rw [if_pos rfl]
            simp
          · rw [if_neg (by omega), upZ_n (by decide : (65 : Nat) ≠ 64), ho i (by omega), List.getD_eq_getElem?_getD, List.getD_eq_getElem?_getD, List.getElem?_append_left (by omega)]
        · rw [upZ_n (by decide : (64 : Nat) ≠ 65), upZ_s, upZ_s, upZ_n (by decide : (65 : Nat) ≠ 64), if_neg (by omega), if_neg (by omega)]
          exact hout j hj
      · rw [if_neg (by omega)]
        exact no (by rw [hPt, decide_eq_false hlt]; simp)
  · rintro ⟨v, w, q⟩ ⟨e1, e2, hF, ha, ho, hout⟩
    simp only at e1 e2 hF ha ho hout
    subst e1 e2
    have hMq := hM2.cg hF (by decide) (by decide) (by decide)
    rw [← hcl] at ha ho ⊢
    dsimp only
    unfold GB_X12_laysFrame_3
    rw [hMq.2.2, rdB5, ck_ok (by omega), ck_ok (by omega), if_pos (by omega)]
    exact ⟨_, rfl, rfl, hF, ha, ho, hout⟩
  · rintro ⟨v, q⟩ ⟨e1, hF, ha, ho, hout⟩
    simp only at e1 hF ha ho hout
    subst e1
    have hMq := hM2.cg hF (by decide) (by decide) (by decide)
    have hmm : mS x B f = (clS x B f).length + 1 := rfl
    have hlg : ∀ i, lgS x B f i = (clS x B f).getD i 0 := fun _ => rfl
    dsimp only
    unfold GC_X12_laysFrame_4
    rw [wrZ_at (6 * f + (clS x B f).length) (by omega) (by omega), upZ_n (by decide : (56 : Nat) ≠ 64), hMq.2.2, rdB9, wrZ_at (6 * f + (clS x B f).length) (by omega) (by omega), wrZ_at f rfl (by omega)]
    refine ⟨_, rfl, ⟨by rw [upZ_ss, hmm]; omega, fun i hi => ⟨?_, ?_⟩⟩, fun L hL => ?_, fun j hj => ?_, fun j hj => ?_⟩
    · rw [upZ_n (by decide : (64 : Nat) ≠ 66), upZ_n (by decide : (64 : Nat) ≠ 65), upZ_s, hlg]
      by_cases hik : i = (clS x B f).length
      · rw [if_pos (by omega), hik, List.getD_eq_getElem?_getD, List.getElem?_eq_none (by omega)]
        rfl
      · rw [if_neg (by omega)]
        exact ha i (by omega)
    · have hl := lgS_r hB (x := x) f i
      rw [upZ_n (by decide : (65 : Nat) ≠ 66), upZ_s]
      unfold owS
      by_cases hik : i = (clS x B f).length
      · rw [if_pos (by omega), if_pos (hl.2.2 (by omega)), h9.1]
      · rw [if_neg (by omega), upZ_n (by decide : (65 : Nat) ≠ 64), if_neg (by have := hl.1 (by omega); omega), ho i (by omega), hlg]
    · rw [upZ_n (by decide), upZ_n (by decide), upZ_n (by decide), upZ_n (by decide), upZ_n (by decide), upZ_n (by decide), hF.f 62 (by decide) (by decide), hF.f 63 (by decide) (by decide), g62]
      exact ⟨(r1 L hL).1, r63 L hL⟩
    · rw [upZ_n (by decide : (64 : Nat) ≠ 66), upZ_n (by decide : (64 : Nat) ≠ 65), upZ_n (by decide : (65 : Nat) ≠ 66), upZ_s, upZ_s, if_neg (by omega), if_neg (by omega), upZ_n (by decide : (65 : Nat) ≠ 64)]
      exact hout j hj
    · rw [upZ_sn hj, upZ_n (by decide), upZ_n (by decide), hF.f 66 (by decide) (by decide), g66]
theorem m_laysAll {x B : Nat → Int} {n : Nat} {g : uZ} (hM : MB x B n g) (hn : n ≤ 800) (hB : BOk B) (hx : XOk x) : ∃ g', GF_X12_laysAll g = some g' ∧ g' 55 17 = (nfS B n : Int) ∧ ∀ f, f < nfS B n → MR x B g' f := by
  have h100 := nfS_100 hB hn
  unfold GF_X12_laysAll
  rw [m_frames hM hn hB, cp_ok, pfZ_ok]
  refine lp_go (fun t q => q.1 = t ∧ Fr [62, 63, 64, 65, 66, 67] [(55, 17)] g q.2 ∧ q.2 55 17 = (nfS B n : Int) ∧ ∀ f, f < t → MR x B q.2 f) (fun q => q 55 17 = (nfS B n : Int) ∧ ∀ f, f < nfS B n → MR x B q f) (nfS B n) (by omega) ⟨rfl, Fr.rf.pf (by decide), by dsimp only; exact upZ_ss _ _ _ _, fun f hf => by omega⟩ ?_ ?_ (fun q hq => ⟨q, rfl, hq⟩)
  · rintro t ⟨w, q⟩ ht ⟨e1, hF, q17, hq⟩
    simp only at e1 hF q17 hq
    subst e1
    have hMq := hM.cg hF (by decide) (by decide) (by decide)
    obtain ⟨q2, e2, hmr, -, ho, ho66⟩ := m_laysFrame hMq hn hB hx ht
    have hF2 : Fr [62, 63, 64, 65, 66, 67] [] q q2 := fF_X12_laysFrame Fr.rf e2
    dsimp only
    unfold GB_X12_laysAll_2
    rw [ck_ok (by omega), ck_ok (by omega), if_neg (by omega), e2, cp_ok, lt_ok]
    refine ⟨_, rfl, ?_⟩
    dsimp only
    refine ⟨by omega, hF.tr hF2 (by decide) (by decide), (hF2 55 17 (by decide) (by decide)).trans q17, fun f hf => ?_⟩
    by_cases hft : f = t
    · subst hft
      exact hmr
    · obtain ⟨c1, c2⟩ := hq f (by omega)
      refine ⟨by rw [ho66 f hft]; exact c1, fun i hi => ?_⟩
      have h6 := mS_6 hB (x := x) f
      have hh := ho (6 * f + i) (by omega)
      rw [hh.1, hh.2]
      exact c2 i hi
  · rintro ⟨w, q⟩ ⟨e1, hF, q17, hq⟩
    simp only at e1 hF q17 hq
    subst e1
    dsimp only
    unfold GB_X12_laysAll_2
    rw [ck_ok (by omega), ck_ok (by omega), if_pos (by omega)]
    exact ⟨_, rfl, q17, hq⟩
