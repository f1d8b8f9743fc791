/-! the reference: its own base, frames -/
def MB (x B : Nat → Int) (n : Nat) (g : uZ) : Prop := g 55 6 = n ∧ g 59 = x ∧ g 56 = B
theorem MB.cg {x B : Nat → Int} {n : Nat} {L : List Nat} {M : List (Nat × Nat)} {g g' : uZ} (h : MB x B n g) (hF : Fr L M g g') (h1 : (59 : Nat) ∉ L ∧ 59 ∉ M.map Prod.fst) (h2 : (56 : Nat) ∉ L ∧ 56 ∉ M.map Prod.fst) (h3 : (55 : Nat) ∉ L ∧ (55, 6) ∉ M) : MB x B n g' := ⟨(hF 55 6 h3.1 h3.2).trans h.1, (hF.f 59 h1.1 h1.2).trans h.2.1, (hF.f 56 h2.1 h2.2).trans h.2.2⟩
theorem rdB2 {β : Type} {f : Nat → Int} {k : Int → Option β} : rdZ f 16 2 k = k (f 2) := by
  rw [rdZ_ok (by omega) (by omega)]
  rfl
theorem rdB3 {β : Type} {f : Nat → Int} {k : Int → Option β} : rdZ f 16 3 k = k (f 3) := by
  rw [rdZ_ok (by omega) (by omega)]
  rfl
theorem rdB4 {β : Type} {f : Nat → Int} {k : Int → Option β} : rdZ f 16 4 k = k (f 4) := by
  rw [rdZ_ok (by omega) (by omega)]
  rfl
theorem rdB5 {β : Type} {f : Nat → Int} {k : Int → Option β} : rdZ f 16 5 k = k (f 5) := by
  rw [rdZ_ok (by omega) (by omega)]
  rfl
theorem rdB6 {β : Type} {f : Nat → Int} {k : Int → Option β} : rdZ f 16 6 k = k (f 6) := by
  rw [rdZ_ok (by omega) (by omega)]
  rfl
theorem rdB7 {β : Type} {f : Nat → Int} {k : Int → Option β} : rdZ f 16 7 k = k (f 7) := by
  rw [rdZ_ok (by omega) (by omega)]
  rfl
theorem rdB8 {β : Type} {f : Nat → Int} {k : Int → Option β} : rdZ f 16 8 k = k (f 8) := by
  rw [rdZ_ok (by omega) (by omega)]
  rfl
theorem rdB9 {β : Type} {f : Nat → Int} {k : Int → Option β} : rdZ f 16 9 k = k (f 9) := by
  rw [rdZ_ok (by omega) (by omega)]
  rfl
theorem rdB10 {β : Type} {f : Nat → Int} {k : Int → Option β} : rdZ f 16 10 k = k (f 10) := by
  rw [rdZ_ok (by omega) (by omega)]
  rfl
theorem rdB11 {β : Type} {f : Nat → Int} {k : Int → Option β} : rdZ f 16 11 k = k (f 11) := by
  rw [rdZ_ok (by omega) (by omega)]
  rfl
theorem rdB12 {β : Type} {f : Nat → Int} {k : Int → Option β} : rdZ f 16 12 k = k (f 12) := by
  rw [rdZ_ok (by omega) (by omega)]
  rfl
theorem rdB13 {β : Type} {f : Nat → Int} {k : Int → Option β} : rdZ f 16 13 k = k (f 13) := by
  rw [rdZ_ok (by omega) (by omega)]
  rfl
theorem rdB14 {β : Type} {f : Nat → Int} {k : Int → Option β} : rdZ f 16 14 k = k (f 14) := by
  rw [rdZ_ok (by omega) (by omega)]
  rfl
theorem rdB15 {β : Type} {f : Nat → Int} {k : Int → Option β} : rdZ f 16 15 k = k (f 15) := by
  rw [rdZ_ok (by omega) (by omega)]
  rfl
theorem m_isIn (g : uZ) {v a b : Int} (hv : inR v) (ha : inR a) (hb : inR b) : GF_X12_isIn v a b g = some (if a ≤ v ∧ v ≤ b then 1 else 0) := by
  unfold GF_X12_isIn GJ_X12_isIn_1 GJ_X12_isIn_2
  by_cases h1 : v < a
  · simp -implicitDefEqProofs (disch := omega) only [ck_ok, ck_t, if_pos, if_neg, rdZ_ok, wrZ_ok, pfZ_ok, lt_ok, cp_ok, clZ_ok, bzZ_0, bzZ_1, dvZ_ok, rmdZ_ok, tn0, tn1, tn2, tn3, tn4, tn5, tn6, tn7, tn8, tn9, tn10, tn11, tn12, tn13, tn14, tn15, tn16, tn17]
  · by_cases h2 : b < v
    · simp -implicitDefEqProofs (disch := omega) only [ck_ok, ck_t, if_pos, if_neg, rdZ_ok, wrZ_ok, pfZ_ok, lt_ok, cp_ok, clZ_ok, bzZ_0, bzZ_1, dvZ_ok, rmdZ_ok, tn0, tn1, tn2, tn3, tn4, tn5, tn6, tn7, tn8, tn9, tn10, tn11, tn12, tn13, tn14, tn15, tn16, tn17]
    · simp -implicitDefEqProofs (disch := omega) only [ck_ok, ck_t, if_pos, if_neg, rdZ_ok, wrZ_ok, pfZ_ok, lt_ok, cp_ok, clZ_ok, bzZ_0, bzZ_1, dvZ_ok, rmdZ_ok, tn0, tn1, tn2, tn3, tn4, tn5, tn6, tn7, tn8, tn9, tn10, tn11, tn12, tn13, tn14, tn15, tn16, tn17]
theorem m_right1 {g : uZ} (h : g 55 9 = 0) (w : Int) : GF_X12_right 1 w g = some (1, g) := by
  unfold GF_X12_right GJ_X12_right_1
  simp -implicitDefEqProofs (disch := omega) only [ck_ok, ck_t, if_pos, if_neg, rdZ_ok, wrZ_ok, pfZ_ok, lt_ok, cp_ok, clZ_ok, bzZ_0, bzZ_1, dvZ_ok, rmdZ_ok, tn0, tn1, tn2, tn3, tn4, tn5, tn6, tn7, tn8, tn9, tn10, tn11, tn12, tn13, tn14, tn15, tn16, tn17, h]
  rfl
theorem m_right0 {g : uZ} (h : g 55 9 = 0) {w : Int} (hw : w = 1 ∨ w = 2) : GF_X12_right 0 w g = some (0, upZ g 55 9 w) := by
  unfold GF_X12_right GJ_X12_right_1
  simp -implicitDefEqProofs (disch := omega) only [ck_ok, ck_t, if_pos, if_neg, rdZ_ok, wrZ_ok, pfZ_ok, lt_ok, cp_ok, clZ_ok, bzZ_0, bzZ_1, dvZ_ok, rmdZ_ok, tn0, tn1, tn2, tn3, tn4, tn5, tn6, tn7, tn8, tn9, tn10, tn11, tn12, tn13, tn14, tn15, tn16, tn17, h, upZ_ss]
  rfl
theorem m_frames {x B : Nat → Int} {n : Nat} {g : uZ} (hM : MB x B n g) (hn : n ≤ 800) (hB : BOk B) : GF_X12_frames g = some (nfS B n : Int) := by
  obtain ⟨h6, h59, h56⟩ := hM
  have h2 := hB.b2
  have h3 := hB.b3
  have h5 := hB.b5
  have h100 := nfS_100 hB hn
  unfold GF_X12_frames GJ_X12_frames_1
  rw [h56, rdB3, rdB5, lt_ok, h6, ck_ok (by omega)]
  unfold nfS at *
  have hr : rcS B = bN B 3 + bN B 5 + 1 := rfl
  by_cases hc : n < rcS B
  · rw [if_pos hc, if_neg (by omega)]
    rfl
  · rw [if_neg hc] at *
    rw [if_pos (by omega), rdB2, dvZ_ok (by omega) (by omega) (by omega), Int.tdiv_eq_ediv_of_nonneg (by omega), h2.1]
    have e : ((n : Int) - B 3 - B 5 - 1) = ((n - rcS B : Nat) : Int) := by omega
    rw [e, ← Int.natCast_ediv]
    rfl
theorem m_isFrame {x B : Nat → Int} {n : Nat} {g : uZ} (hM : MB x B n g) (hn : n ≤ 800) (hB : BOk B) (h9 : g 55 9 = 0) {f : Int} (hf : inR f) : GF_X12_isFrame f g = some (if 0 ≤ f ∧ f < nfS B n then (1, g) else (0, upZ g 55 9 1)) := by
  have h100 := nfS_100 hB hn
  unfold GF_X12_isFrame
  rw [m_frames hM hn hB, cp_ok]
  generalize nfS B n = q at *
  rw [m_isIn g hf (by omega) (by omega), cp_ok]
  by_cases h : 0 ≤ f ∧ f < q
  · rw [if_pos h, if_pos (by omega), m_right1 h9, clZ_ok, bzZ_1]
  · rw [if_neg h, if_neg (by omega), m_right0 h9 (Or.inl rfl), clZ_ok, bzZ_0]
theorem m_isLag {x B : Nat → Int} {n : Nat} {g : uZ} (hM : MB x B n g) (hB : BOk B) (h9 : g 55 9 = 0) {L : Int} (hL : inR L) : GF_X12_isLag L g = some (if 0 ≤ L ∧ L ≤ (bN B 5 + 1 : Nat) then (1, g) else (0, upZ g 55 9 1)) := by
  have h5 := hB.b5
  unfold GF_X12_isLag
  rw [hM.2.2, rdB5, m_isIn g hL (by omega) (by omega), cp_ok]
  by_cases h : 0 ≤ L ∧ L ≤ (bN B 5 + 1 : Nat)
  · rw [if_pos h, if_pos (by omega), m_right1 h9, clZ_ok, bzZ_1]
  · rw [if_neg h, if_neg (by omega), m_right0 h9 (Or.inl rfl), clZ_ok, bzZ_0]
theorem p11_isLag {g : uZ} (hB : BOk (g 5)) {L : Int} (hL : inR L) : GF_X11_isLag L g = some (if 0 ≤ L ∧ L ≤ (bN (g 5) 5 + 1 : Nat) then 1 else 0) := by
  have h5 := hB.b5
  unfold GF_X11_isLag GJ_X11_isLag_1 GJ_X11_isLag_2
  rw [p0_5]
  by_cases h1 : L < 0
  · simp -implicitDefEqProofs (disch := omega) only [ck_ok, ck_t, if_pos, if_neg, rdZ_ok, wrZ_ok, pfZ_ok, lt_ok, cp_ok, clZ_ok, bzZ_0, bzZ_1, dvZ_ok, rmdZ_ok, tn0, tn1, tn2, tn3, tn4, tn5, tn6, tn7, tn8, tn9, tn10, tn11, tn12, tn13, tn14, tn15, tn16, tn17]
  · by_cases h2 : L ≤ (bN (g 5) 5 + 1 : Nat)
    · simp -implicitDefEqProofs (disch := omega) only [ck_ok, ck_t, if_pos, if_neg, rdZ_ok, wrZ_ok, pfZ_ok, lt_ok, cp_ok, clZ_ok, bzZ_0, bzZ_1, dvZ_ok, rmdZ_ok, tn0, tn1, tn2, tn3, tn4, tn5, tn6, tn7, tn8, tn9, tn10, tn11, tn12, tn13, tn14, tn15, tn16, tn17]
    · simp -implicitDefEqProofs (disch := omega) only [ck_ok, ck_t, if_pos, if_neg, rdZ_ok, wrZ_ok, pfZ_ok, lt_ok, cp_ok, clZ_ok, bzZ_0, bzZ_1, dvZ_ok, rmdZ_ok, tn0, tn1, tn2, tn3, tn4, tn5, tn6, tn7, tn8, tn9, tn10, tn11, tn12, tn13, tn14, tn15, tn16, tn17]
theorem m_loudOf {x B : Nat → Int} {n : Nat} {g : uZ} (hM : MB x B n g) (hn : n ≤ 800) (hB : BOk B) (hx : XOk x) {f : Nat} (hfit : f * bN B 2 + bN B 3 ≤ n) : GF_X12_loudOf f g = some (ldS x (bN B 2) (bN B 3) f) := by
  obtain ⟨h6, h59, h56⟩ := hM
  have h2 := hB.b2
  have h3 := hB.b3
  have es : (f : Int) * B 2 = ((f * bN B 2 : Nat) : Int) := by rw [h2.1]; simp
  unfold GF_X12_loudOf ldS
  generalize hS : f * bN B 2 = S at *
  generalize hW : bN B 3 = W at *
  rw [lp_for (fun i => (sm i (fun i => ab (x (S + i))), (i : Int))) W (sm W (fun i => ab (x (S + i)))) (by rfl) (by omega)]
  · rfl
  · intro i hi
    have x1 := hx (S + i)
    unfold GB_X12_loudOf_2
    simp only
    rw [h56, h59, rdB3, ck_ok (by omega), ck_ok (by omega), if_neg (by omega), rdB2, es, rdZ_at (S + i) (by omega) (by omega), m_apart g (by omega) (by omega), cp_ok, lt_ok, lt_ok, sm_s, Int.sub_zero]
    rfl
  · unfold GB_X12_loudOf_2
    simp only
    rw [h56, rdB3, ck_ok (by omega), ck_ok (by omega), if_pos (by omega)]
theorem m_laysDiffs {x B : Nat → Int} {n : Nat} {g : uZ} (hM : MB x B n g) (hn : n ≤ 800) (hB : BOk B) (hx : XOk x) {f : Nat} (hfit : f * bN B 2 + rcS B ≤ n) : ∃ g', GF_X12_laysDiffs f g = some g' ∧ ∀ L, L ≤ bN B 5 + 1 → g' 62 L = dfS x (bN B 2) (bN B 3) f L ∧ g' 63 L = rlS x (bN B 2) (bN B 3) f L := by
  have h2 := hB.b2
  have h3 := hB.b3
  have h5 := hB.b5
  have hr : rcS B = bN B 3 + bN B 5 + 1 := rfl
  have es : (f : Int) * B 2 = ((f * bN B 2 : Nat) : Int) := by rw [h2.1]; simp
  unfold GF_X12_laysDiffs
  rw [hM.2.2, rdB2, lt_ok, es]
  generalize hhop : bN B 2 = hop at *
  generalize hwide : bN B 3 = wide at *
  generalize hhigh : bN B 5 = high at *
  refine lp_go (fun i q => q.1 = sm i (fun l => dfS x hop wide f l) ∧ q.2.1 = i ∧ Fr [62, 63] [] g q.2.2 ∧ (∀ L, L < i → q.2.2 62 L = dfS x hop wide f L ∧ q.2.2 63 L = rlS x hop wide f L)) (fun q => ∀ L, L < high + 2 → q 62 L = dfS x hop wide f L ∧ q 63 L = rlS x hop wide f L) (high + 2) (by omega) ⟨rfl, rfl, Fr.rf, fun L hL => by omega⟩ ?_ ?_ (fun q hq => ⟨q, rfl, fun L hL => hq L (by omega)⟩)
  · rintro i ⟨s, w, q⟩ hi ⟨e1, e2, hF, hrow⟩
    simp only at e1 e2 hF hrow
    subst e1 e2
    have hMq := hM.cg hF (by decide) (by decide) (by decide)
    have ht := tg_bd hx (hop := hop) (wide := wide) (f := f) (L := i) (by omega) (by omega)
    have hm := rl_num hx (hop := hop) (wide := wide) (f := f) (L := i) (by omega) (by omega)
    have hd : sm i (fun l => dfS x hop wide f l) + dfS x hop wide f i = tgS x hop wide f i := rfl
    dsimp only
    unfold GB_X12_laysDiffs_7
    rw [hMq.2.2, rdB5, ck_ok (by omega), ck_ok (by omega), if_neg (by omega)]
    rw [lp_for (fun j => (sm j (fun k => ab (x (f * hop + k) - x (f * hop + k + i))), (j : Int))) wide (dfS x hop wide f i) (by rfl) (by omega)]
    · unfold GC_X12_laysDiffs_6 GJ_X12_laysDiffs_4 GJ_X12_laysDiffs_5
      have fin : ∀ v : Int, v = rlS x hop wide f i → ∃ a', (wrZ (upZ q 62 i (dfS x hop wide f i)) 63 50 (i : Int) v fun g27 => lt ((i : Int) + 1) fun v28 => some (Sum.inl (tgS x hop wide f i, (v28, g27)))) = some (Sum.inl (β := uZ) a') ∧ a'.1 = sm (i + 1) (fun l => dfS x hop wide f l) ∧ a'.2.1 = ((i + 1 : Nat) : Int) ∧ Fr [62, 63] [] g a'.2.2 ∧ (∀ L, L < i + 1 → a'.2.2 62 L = dfS x hop wide f L ∧ a'.2.2 63 L = rlS x hop wide f L) := by
        intro v hv
        rw [wrZ_at i rfl (by omega), lt_ok]
        refine ⟨_, rfl, rfl, by simp, (hF.wr (by decide)).wr (by decide), fun L hL => ?_⟩
        simp only [upZ_s, upZ_n (show (62 : Nat) ≠ 63 by decide), upZ_n (show (63 : Nat) ≠ 62 by decide)]
        by_cases hLi : L = i
        · subst hLi
          simp [hv]
        · rw [if_neg (by omega), if_neg (by omega)]
          exact hrow L (by omega)
      have hi0 : (if (i : Int) = 0 then 0 else dfS x hop wide f i) = dfS x hop wide f i := by
        split
        · rename_i h0
          obtain rfl : i = 0 := by omega
          rw [dfS_0]
        · rfl
      rw [wrZ_at i rfl (by omega), ck_ok (by omega), lt_ok, hi0, lt_ok, hd]
      by_cases h0 : (i : Int) = 0
      · rw [if_pos h0]
        refine fin 1000 ?_
        obtain rfl : i = 0 := by omega
        unfold rlS
        rw [if_pos (by rw [← hd, dfS_0]; rfl)]
      · rw [if_neg h0, ck_ok (by omega)]
        by_cases hz : tgS x hop wide f i = 0
        · rw [if_pos hz]
          exact fin 1000 (by unfold rlS; rw [if_pos hz])
        · rw [if_neg hz, dvZ_ok (by omega) (by omega) hz, Int.tdiv_eq_ediv_of_nonneg hm.1]
          exact fin _ (by unfold rlS; rw [if_neg hz])
    · intro j hj
      have x1 := hx (f * hop + j)
      have x2 := hx (f * hop + j + i)
      unfold GB_X12_laysDiffs_3
      simp only
      rw [hMq.2.2, hMq.2.1, rdB3, ck_ok (by omega), ck_ok (by omega), if_neg (by omega), rdZ_at (f * hop + j) (by omega) (by omega), rdZ_at (f * hop + j + i) (by omega) (by omega), m_apart q (by omega) (by omega), cp_ok, lt_ok, lt_ok, sm_s]
      rfl
    · unfold GB_X12_laysDiffs_3
      simp only
      rw [hMq.2.2, rdB3, ck_ok (by omega), ck_ok (by omega), if_pos (by omega)]
      rfl
  · rintro ⟨s, w, q⟩ ⟨e1, e2, hF, hrow⟩
    simp only at e1 e2 hF hrow
    subst e1 e2
    have hMq := hM.cg hF (by decide) (by decide) (by decide)
    dsimp only
    unfold GB_X12_laysDiffs_7
    rw [hMq.2.2, rdB5, ck_ok (by omega), ck_ok (by omega), if_pos (by omega)]
    exact ⟨_, rfl, hrow⟩
