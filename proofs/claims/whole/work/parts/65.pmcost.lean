/-! the reference's costs, from the last frame to the first one -/
def MT (N : Nat) (m : Nat → Nat) (lag : Nat → Nat → Nat) (own : Nat → Nat → Int) (g : uZ) : Prop := N ≤ 100 ∧ ∀ f, f < N → 1 ≤ m f ∧ m f ≤ 6 ∧ g 66 f = m f ∧ ∀ i, i < m f → g 64 (6 * f + i) = (lag f i : Int) ∧ lag f i ≤ 48 ∧ g 65 (6 * f + i) = own f i ∧ 0 ≤ own f i ∧ own f i ≤ 50000
theorem MT.cg {N : Nat} {m : Nat → Nat} {lag : Nat → Nat → Nat} {own : Nat → Nat → Int} {g g' : uZ} (h : MT N m lag own g) (h64 : g' 64 = g 64) (h65 : g' 65 = g 65) (h66 : g' 66 = g 66) : MT N m lag own g' := by
  unfold MT
  rw [h64, h65, h66]
  exact h
/-- the prices that hold -/
def MP (j o v : Nat) (g : uZ) : Prop := g 56 10 = j ∧ g 55 21 = o ∧ g 55 22 = v ∧ j ≤ 50 ∧ o ≤ 2000 ∧ v ≤ 2000
theorem m_isOctave (g : uZ) {a b : Nat} (ha : a ≤ 48) (hb : b ≤ 48) : GF_X12_isOctave a b g = some (if ((max a b : Nat) : Int) < 2 * ((min a b : Nat) : Int) - 1 then 0 else 1) := by
  unfold GF_X12_isOctave
  by_cases hab : b ≤ a
  · rw [Nat.max_eq_left hab, Nat.min_eq_right hab]
    by_cases hc : (a : Int) < 2 * (b : Int) - 1
    · simp -implicitDefEqProofs (disch := omega) only [ck_ok, ck_t, if_pos, if_neg, rdZ_ok, wrZ_ok, pfZ_ok, lt_ok, cp_ok, clZ_ok, bzZ_0, bzZ_1, dvZ_ok, rmdZ_ok, tn0, tn1, tn2, tn3, tn4, tn5, tn6, tn7, tn8, tn9, tn10, tn11, tn12, tn13, tn14, tn15, tn16, tn17]
    · simp -implicitDefEqProofs (disch := omega) only [ck_ok, ck_t, if_pos, if_neg, rdZ_ok, wrZ_ok, pfZ_ok, lt_ok, cp_ok, clZ_ok, bzZ_0, bzZ_1, dvZ_ok, rmdZ_ok, tn0, tn1, tn2, tn3, tn4, tn5, tn6, tn7, tn8, tn9, tn10, tn11, tn12, tn13, tn14, tn15, tn16, tn17]
  · rw [Nat.max_eq_right (by omega), Nat.min_eq_left (by omega)]
    by_cases hc : (b : Int) < 2 * (a : Int) - 1
    · simp -implicitDefEqProofs (disch := omega) only [ck_ok, ck_t, if_pos, if_neg, rdZ_ok, wrZ_ok, pfZ_ok, lt_ok, cp_ok, clZ_ok, bzZ_0, bzZ_1, dvZ_ok, rmdZ_ok, tn0, tn1, tn2, tn3, tn4, tn5, tn6, tn7, tn8, tn9, tn10, tn11, tn12, tn13, tn14, tn15, tn16, tn17]
    · simp -implicitDefEqProofs (disch := omega) only [ck_ok, ck_t, if_pos, if_neg, rdZ_ok, wrZ_ok, pfZ_ok, lt_ok, cp_ok, clZ_ok, bzZ_0, bzZ_1, dvZ_ok, rmdZ_ok, tn0, tn1, tn2, tn3, tn4, tn5, tn6, tn7, tn8, tn9, tn10, tn11, tn12, tn13, tn14, tn15, tn16, tn17]
theorem m_step {g : uZ} {j o v a b : Nat} (hP : MP j o v g) (ha : a ≤ 48) (hb : b ≤ 48) : GF_X12_step a b g = some (spS j o v a b) := by
  obtain ⟨p1, p2, p3, hj, ho, hv⟩ := hP
  unfold GF_X12_step GJ_X12_step_1 spS
  rw [p2, p3]
  by_cases ha0 : a = 0
  · by_cases hab : a = b
    · simp -implicitDefEqProofs (disch := omega) only [ck_ok, ck_t, if_pos, if_neg, rdZ_ok, wrZ_ok, pfZ_ok, lt_ok, cp_ok, clZ_ok, bzZ_0, bzZ_1, dvZ_ok, rmdZ_ok, tn0, tn1, tn2, tn3, tn4, tn5, tn6, tn7, tn8, tn9, tn10, tn11, tn12, tn13, tn14, tn15, tn16, tn17]
    · simp -implicitDefEqProofs (disch := omega) only [ck_ok, ck_t, if_pos, if_neg, rdZ_ok, wrZ_ok, pfZ_ok, lt_ok, cp_ok, clZ_ok, bzZ_0, bzZ_1, dvZ_ok, rmdZ_ok, tn0, tn1, tn2, tn3, tn4, tn5, tn6, tn7, tn8, tn9, tn10, tn11, tn12, tn13, tn14, tn15, tn16, tn17]
  · by_cases hb0 : b = 0
    · by_cases hab : a = b
      · simp -implicitDefEqProofs (disch := omega) only [ck_ok, ck_t, if_pos, if_neg, rdZ_ok, wrZ_ok, pfZ_ok, lt_ok, cp_ok, clZ_ok, bzZ_0, bzZ_1, dvZ_ok, rmdZ_ok, tn0, tn1, tn2, tn3, tn4, tn5, tn6, tn7, tn8, tn9, tn10, tn11, tn12, tn13, tn14, tn15, tn16, tn17]
      · simp -implicitDefEqProofs (disch := omega) only [ck_ok, ck_t, if_pos, if_neg, rdZ_ok, wrZ_ok, pfZ_ok, lt_ok, cp_ok, clZ_ok, bzZ_0, bzZ_1, dvZ_ok, rmdZ_ok, tn0, tn1, tn2, tn3, tn4, tn5, tn6, tn7, tn8, tn9, tn10, tn11, tn12, tn13, tn14, tn15, tn16, tn17]
    · have hap : ab ((a : Int) - b) = ((max a b : Nat) - (min a b : Nat) : Int) := by
        unfold ab
        split <;> omega
      rw [ck_ok (by omega), if_neg (by omega), ck_ok (by omega), if_neg (by omega), rdB10, p1, m_apart g (by omega) (by omega), cp_ok, m_isOctave g ha hb, cp_ok, hap, if_neg (c := a = 0 ∨ b = 0) (by omega)]
      by_cases hc : ((max a b : Nat) : Int) < 2 * ((min a b : Nat) : Int) - 1
      · rw [if_pos hc, if_pos hc, ck_ok (by omega), lt_ok, if_pos rfl]
      · rw [if_neg hc, if_neg hc, ck_ok (by omega), lt_ok, if_neg (by omega)]
theorem MT.lag {N : Nat} {m : Nat → Nat} {lag : Nat → Nat → Nat} {own : Nat → Nat → Int} {g : uZ} (h : MT N m lag own g) {f i : Nat} (hf : f < N) (hi : i < m f) : GF_X12_lagAt1 f i g = some (lag f i : Int) := by
  have h1 := h.2 f hf
  have h0 := h.1
  unfold GF_X12_lagAt1
  rw [rdZ_at (6 * f + i) (by omega) (by omega), (h1.2.2.2 i hi).1]
theorem MT.own {N : Nat} {m : Nat → Nat} {lag : Nat → Nat → Nat} {own : Nat → Nat → Int} {g : uZ} (h : MT N m lag own g) {f i : Nat} (hf : f < N) (hi : i < m f) : GF_X12_ownAt f i g = some (own f i) := by
  have h1 := h.2 f hf
  have h0 := h.1
  unfold GF_X12_ownAt
  rw [rdZ_at (6 * f + i) (by omega) (by omega), (h1.2.2.2 i hi).2.2.1]
theorem MT.btw {N : Nat} {m : Nat → Nat} {lag : Nat → Nat → Nat} {own : Nat → Nat → Int} {g : uZ} {j o v : Nat} (h : MT N m lag own g) (hP : MP j o v g) {f i k : Nat} (hf : f + 1 < N) (hi : i < m f) (hk : k < m (f + 1)) : GF_X12_between f i k g = some (spS j o v (lag f i) (lag (f + 1) k)) := by
  have e : (f : Int) + 1 = ((f + 1 : Nat) : Int) := by omega
  unfold GF_X12_between
  rw [h.lag (by omega) hi, cp_ok, e, h.lag hf hk, cp_ok, m_step hP ((h.2 f (by omega)).2.2.2 i hi).2.1 ((h.2 (f + 1) hf).2.2.2 k hk).2.1, cp_ok]
theorem m_opens {x B : Nat → Int} {n : Nat} {g : uZ} (hM : MB x B n g) (hB : BOk B) : ∃ g', GF_X12_opens g = some g' ∧ (∀ z, z < 660 → g' 70 z = 0) ∧ MP (bN B 10) (bN B 11) (bN B 12) g' := by
  have b10 := hB.b10
  have b11 := hB.b11
  have b12 := hB.b12
  unfold GF_X12_opens
  refine lp_go (fun t q => q.1 = t ∧ Fr [70] [] g q.2 ∧ ∀ z, z < t → q.2 70 z = 0) (fun q => Fr [70] [] g q ∧ ∀ z, z < 660 → q 70 z = 0) 660 (by omega) ⟨rfl, Fr.rf, fun z hz => by omega⟩ ?_ ?_ ?_
  · rintro t ⟨w, q⟩ ht ⟨e1, hF, hq⟩
    simp only at e1 hF hq
    subst e1
    dsimp only
    unfold GB_X12_opens_2
    rw [ck_ok (by omega), if_neg (by omega), wrZ_at t rfl (by omega), nar0, lt_ok]
    refine ⟨_, rfl, ?_⟩
    dsimp only
    refine ⟨by omega, hF.wr (by decide), fun z hz => ?_⟩
    rw [upZ_s]
    split
    · rfl
    · exact hq z (by omega)
  · rintro ⟨w, q⟩ ⟨e1, hF, hq⟩
    simp only at e1 hF hq
    subst e1
    dsimp only
    unfold GB_X12_opens_2
    rw [ck_ok (by omega), if_pos (by omega)]
    exact ⟨_, rfl, hF, hq⟩
  · rintro q ⟨hF, hq⟩
    have hMq := hM.cg hF (by decide) (by decide) (by decide)
    unfold GC_X12_opens_3
    rw [hMq.2.2, rdB11, pfZ_ok, upZ_n (by decide : (56 : Nat) ≠ 55), hMq.2.2, rdB12, pfZ_ok]
    refine ⟨_, rfl, fun z hz => ?_, ?_, ?_, ?_, by omega, by omega, by omega⟩
    · rw [upZ_n (by decide), upZ_n (by decide)]
      exact hq z hz
    · rw [upZ_n (by decide), upZ_n (by decide), hMq.2.2]
      exact b10.1
    · rw [upZ_sn (by decide), upZ_ss]
      exact b11.1
    · rw [upZ_ss]
      exact b12.1
/-- costs of a frame -/
def RowC (m : Nat → Nat) (own : Nat → Nat → Int) (st : Nat → Nat → Nat → Int) (A : Nat → Nat → Bool) (e : Nat) (q : uZ) (f : Nat) : Prop := ∀ i, i < m f → TP m own st A 2000000000 e f i (q 68 (6 * f + i)) ∧ 0 ≤ q 68 (6 * f + i) ∧ (q 68 (6 * f + i) = 2000000000 ∨ q 68 (6 * f + i) ≤ 60000 * ((e + 1 - f : Nat) : Int))
theorem m_leastBehind {N : Nat} {m : Nat → Nat} {lag : Nat → Nat → Nat} {own : Nat → Nat → Int} {A : Nat → Nat → Bool} {g : uZ} {j o v e f i : Nat} (hT : MT N m lag own g) (hP : MP j o v g) (he : e < N) (hf : f < e) (hi : i < m f) (hr : RowC m own (fun e a b => spS j o v (lag e a) (lag (e + 1) b)) A e g (f + 1)) : ∃ r, GF_X12_leastBehind f i g = some r ∧ 0 ≤ r ∧ ((r = 2000000000 ∧ ∀ k, k < m (f + 1) → g 68 (6 * (f + 1) + k) = 2000000000) ∨ (r ≤ 60000 * ((e + 1 - f : Nat) : Int) - 55000 ∧ (∃ k, k < m (f + 1) ∧ g 68 (6 * (f + 1) + k) < 2000000000 ∧ r = spS j o v (lag f i) (lag (f + 1) k) + g 68 (6 * (f + 1) + k)) ∧ ∀ k, k < m (f + 1) → g 68 (6 * (f + 1) + k) < 2000000000 → r ≤ spS j o v (lag f i) (lag (f + 1) k) + g 68 (6 * (f + 1) + k))) := by
  have h100 := hT.1
  obtain ⟨n1, n6, nz, hcandn⟩ := hT.2 (f + 1) (by omega)
  obtain ⟨-, -, -, hcand⟩ := hT.2 f (by omega)
  have hl := (hcand i hi).2.1
  have hV : ∀ k, k < m (f + 1) → 0 ≤ g 68 (6 * (f + 1) + k) ∧ (g 68 (6 * (f + 1) + k) = 2000000000 ∨ g 68 (6 * (f + 1) + k) ≤ 60000 * ((e + 1 - (f + 1) : Nat) : Int)) ∧ 0 ≤ spS j o v (lag f i) (lag (f + 1) k) ∧ spS j o v (lag f i) (lag (f + 1) k) ≤ 4400 := fun k hk => by
    have h1 := hr k hk
    have h2 := spS_r hP.2.2.2.1 hP.2.2.2.2.1 hP.2.2.2.2.2 hl (hcandn k hk).2.1
    exact ⟨h1.2.1, h1.2.2, h2⟩
  unfold GF_X12_leastBehind
  refine lp_go (fun (s : Nat) (z : Int × Int) => z.2 = (s : Int) ∧ 0 ≤ z.1 ∧ ((z.1 = 2000000000 ∧ ∀ k, k < s → g 68 (6 * (f + 1) + k) = 2000000000) ∨ (z.1 ≤ 60000 * ((e + 1 - f : Nat) : Int) - 55000 ∧ (∃ k, k < s ∧ g 68 (6 * (f + 1) + k) < 2000000000 ∧ z.1 = spS j o v (lag f i) (lag (f + 1) k) + g 68 (6 * (f + 1) + k)) ∧ ∀ k, k < s → g 68 (6 * (f + 1) + k) < 2000000000 → z.1 ≤ spS j o v (lag f i) (lag (f + 1) k) + g 68 (6 * (f + 1) + k)))) (fun z : Int => 0 ≤ z ∧ ((z = 2000000000 ∧ ∀ k, k < m (f + 1) → g 68 (6 * (f + 1) + k) = 2000000000) ∨ (z ≤ 60000 * ((e + 1 - f : Nat) : Int) - 55000 ∧ (∃ k, k < m (f + 1) ∧ g 68 (6 * (f + 1) + k) < 2000000000 ∧ z = spS j o v (lag f i) (lag (f + 1) k) + g 68 (6 * (f + 1) + k)) ∧ ∀ k, k < m (f + 1) → g 68 (6 * (f + 1) + k) < 2000000000 → z ≤ spS j o v (lag f i) (lag (f + 1) k) + g 68 (6 * (f + 1) + k)))) (m (f + 1)) (by omega) ⟨rfl, by dsimp only; omega, Or.inl ⟨rfl, fun k hk => by omega⟩⟩ ?_ ?_ (fun q hq => ⟨q, rfl, hq⟩)
  · rintro s ⟨z1, z2⟩ hs ⟨e2, hz0, hz⟩
    simp only at e2 hz0 hz
    subst e2
    have hvs := hV s hs
    have ee : (f : Int) + 1 = ((f + 1 : Nat) : Int) := by omega
    have hz1 : z1 ≤ 2000000000 := by
      rcases hz with ⟨h, -⟩ | ⟨h, -⟩ <;> omega
    dsimp only
    unfold GB_X12_leastBehind_3 GJ_X12_leastBehind_2
    rw [rdZ_at (f + 1) (by omega) (by omega), nz, ck_ok (by omega), ck_ok (by omega), if_neg (by omega), rdZ_at (6 * (f + 1) + s) (by omega) (by omega), ck_ok (by omega)]
    by_cases hfar : 2000000000 ≤ g 68 (6 * (f + 1) + s)
    · rw [if_pos hfar, lt_ok]
      refine ⟨_, rfl, ?_⟩
      dsimp only
      refine ⟨by omega, hz0, ?_⟩
      rcases hz with ⟨h1, h2⟩ | ⟨h1, ⟨k, hk, h2⟩, h3⟩
      · refine Or.inl ⟨h1, fun k hk => ?_⟩
        by_cases hks : k = s
        · rw [hks]; omega
        · exact h2 k (by omega)
      · refine Or.inr ⟨h1, ⟨k, by omega, h2⟩, fun l hl2 hlt => ?_⟩
        by_cases hls : l = s
        · rw [hls] at hlt; omega
        · exact h3 l (by omega) hlt
    · rw [if_neg hfar, hT.btw hP (by omega) hi hs, cp_ok, ck_ok (by omega), ck_ok (by omega)]
      by_cases hle : z1 ≤ spS j o v (lag f i) (lag (f + 1) s) + g 68 (6 * (f + 1) + s)
      · rw [if_pos hle, lt_ok]
        refine ⟨_, rfl, ?_⟩
        dsimp only
        refine ⟨by omega, hz0, ?_⟩
        rcases hz with ⟨h1, h2⟩ | ⟨h1, ⟨k, hk, h2⟩, h3⟩
        · omega
        · refine Or.inr ⟨h1, ⟨k, by omega, h2⟩, fun l hl2 hlt => ?_⟩
          by_cases hls : l = s
          · rw [hls]; omega
          · exact h3 l (by omega) hlt
      · rw [if_neg hle, cp_ok, lt_ok, lt_ok]
        refine ⟨_, rfl, ?_⟩
        dsimp only
        refine ⟨by omega, by omega, Or.inr ⟨by omega, ⟨s, by omega, by omega, rfl⟩, fun l hl2 hlt => ?_⟩⟩
        by_cases hls : l = s
        · rw [hls]; omega
        · rcases hz with ⟨h1, h2⟩ | ⟨h1, -, h3⟩
          · have := h2 l (by omega)
            omega
          · have := h3 l (by omega) hlt
            omega
  · rintro ⟨z1, z2⟩ ⟨e2, hz0, hz⟩
    simp only at e2 hz0 hz
    subst e2
    have ee : (f : Int) + 1 = ((f + 1 : Nat) : Int) := by omega
    dsimp only
    unfold GB_X12_leastBehind_3
    rw [rdZ_at (f + 1) (by omega) (by omega), nz, ck_ok (by omega), ck_ok (by omega), if_pos (by omega)]
    exact ⟨_, rfl, hz0, hz⟩
