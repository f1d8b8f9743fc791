/-! the reference's candidates -/
def MR (x B : Nat → Int) (g : uZ) (f : Nat) : Prop := g 66 f = (mS x B f : Int) ∧ ∀ i, i < mS x B f → g 64 (6 * f + i) = (lgS x B f i : Int) ∧ g 65 (6 * f + i) = owS x B f i
theorem b0 : (if false = true then (1 : Int) else 0) = 0 := rfl
theorem b1 : (if true = true then (1 : Int) else 0) = 1 := rfl
theorem relF_R {x B : Nat → Int} (hB : BOk B) (hx : XOk x) (f : Nat) {l : Nat} (hl : l ≤ bN B 5 + 1) : inR (relF x B f l) := by
  have h3 := hB.b3
  have h5 := hB.b5
  have := rlS_bd hx (hop := bN B 2) (f := f) (wide := bN B 3) (L := l) (by omega) (by omega)
  unfold relF
  omega
theorem m_isDipAt {x B : Nat → Int} {n : Nat} {g : uZ} (hM : MB x B n g) (hB : BOk B) (hx : XOk x) {f L : Nat} (h1 : 1 ≤ L) (hL : L ≤ bN B 5) (h63 : ∀ l, l ≤ bN B 5 + 1 → g 63 l = relF x B f l) : GF_X12_isDipAt L g = some (if dipS x B f L = true then 1 else 0) := by
  have h5 := hB.b5
  have h6 := hB.b6
  have r0 := relF_R hB hx f (l := L) (by omega)
  have r1 := relF_R hB hx f (l := L - 1) (by omega)
  have r2 := relF_R hB hx f (l := L + 1) (by omega)
  unfold GF_X12_isDipAt GJ_X12_isDipAt_1 GJ_X12_isDipAt_2
  rw [hM.2.2, rdZ_at L rfl (by omega), rdB6, h63 L (by omega), ck_ok (by omega), ck_ok r0]
  unfold dipS dipR
  by_cases c1 : relF x B f L ≤ (bN B 6 : Int)
  · rw [if_neg (by omega), rdZ_at L rfl (by omega), rdZ_at (L - 1) (by omega) (by omega), h63 L (by omega), h63 (L - 1) (by omega), ck_ok r1, ck_ok r0]
    by_cases c2 : relF x B f L < relF x B f (L - 1)
    · rw [if_neg (by omega), rdZ_at L rfl (by omega), rdZ_at (L + 1) (by omega) (by omega), h63 L (by omega), h63 (L + 1) (by omega), ck_ok r2, ck_ok r0]
      by_cases c3 : relF x B f L ≤ relF x B f (L + 1)
      · rw [if_neg (by omega), bzZ_1]
        simp [c1, c2, c3]
      · rw [if_pos (by omega), bzZ_0]
        simp [c3]
    · rw [if_pos (by omega), bzZ_0]
      simp [c2]
  · rw [if_pos (by omega), bzZ_0]
    simp [c1]
theorem m_laysDips {x B : Nat → Int} {n : Nat} {g : uZ} (hM : MB x B n g) (hn : n ≤ 800) (hB : BOk B) (hx : XOk x) {f : Nat} (hfit : f * bN B 2 + rcS B ≤ n) (h63 : ∀ l, l ≤ bN B 5 + 1 → g 63 l = relF x B f l) : ∃ g', GF_X12_laysDips f g = some g' ∧ ∀ L, bN B 4 ≤ L → L ≤ bN B 5 → g' 67 L = if DS x B f L = true then 1 else 0 := by
  have h3 := hB.b3
  have h4 := hB.b4
  have h5 := hB.b5
  have h14 := hB.b14
  have hlh := hB.lh
  have hr : rcS B = bN B 3 + bN B 5 + 1 := rfl
  have hl := ldS_r hx (bN B 2) (bN B 3) f
  unfold GF_X12_laysDips
  rw [m_loudOf hM hn hB hx (by omega), cp_ok, hM.2.2, rdB14, ck_ok (by omega), ck_ok (by omega), lt_ok, rdB4]
  have hlou : (if ldS x (bN B 2) (bN B 3) f < B 14 then (0 : Int) else 1) = if louF x B f = true then 1 else 0 := by
    unfold louF
    by_cases hc : ldS x (bN B 2) (bN B 3) f < B 14
    · rw [if_pos hc, decide_eq_false (by omega)]
      rfl
    · rw [if_neg hc, decide_eq_true (by omega)]
      rfl
  rw [hlou, h4.1]
  refine lp_go (fun t q => q.1 = ((bN B 4 + t : Nat) : Int) ∧ Fr [67] [] g q.2 ∧ ∀ L, bN B 4 ≤ L → L < bN B 4 + t → q.2 67 L = if DS x B f L = true then 1 else 0) (fun q => ∀ L, bN B 4 ≤ L → L ≤ bN B 5 → q 67 L = if DS x B f L = true then 1 else 0) (bN B 5 + 1 - bN B 4) (by omega) ⟨by simp, Fr.rf, fun L h1 h2 => by omega⟩ ?_ ?_ (fun q hq => ⟨q, rfl, hq⟩)
  · rintro t ⟨w, q⟩ ht ⟨e1, hF, hq⟩
    simp only at e1 hF hq
    subst e1
    have hMq := hM.cg hF (by decide) (by decide) (by decide)
    have q63 : ∀ l, l ≤ bN B 5 + 1 → q 63 l = relF x B f l := by rw [hF.f 63 (by decide) (by decide)]; exact h63
    have fin : ∀ v : Int, v = (if DS x B f (bN B 4 + t) = true then 1 else 0) → ∃ a', GJ_X12_laysDips_3 ((bN B 4 + t : Nat) : Int) q v = some (Sum.inl a') ∧ a'.1 = ((bN B 4 + (t + 1) : Nat) : Int) ∧ Fr [67] [] g a'.2 ∧ ∀ L, bN B 4 ≤ L → L < bN B 4 + (t + 1) → a'.2 67 L = if DS x B f L = true then 1 else 0 := by
      intro v hv
      have hnar : (vp_nar .boolean (zI v)).toInt = v := by
        rw [hv]
        split
        · exact nar1
        · exact nar0
      unfold GJ_X12_laysDips_3
      rw [wrZ_at (bN B 4 + t) rfl (by omega), hnar, lt_ok]
      refine ⟨_, rfl, ?_⟩
      dsimp only
      refine ⟨by omega, hF.wr (by decide), fun L h1 h2 => ?_⟩
      rw [upZ_s]
      by_cases hL : L = bN B 4 + t
      · rw [if_pos hL, hv, hL]
      · rw [if_neg hL]
        exact hq L h1 (by omega)
    dsimp only
    unfold GB_X12_laysDips_4 GJ_X12_laysDips_2
    rw [hMq.2.2, rdB5, ck_ok (by omega), ck_ok (by omega), if_neg (by omega), ck_ok (by split <;> omega)]
    cases hlo : louF x B f
    · rw [b0, if_pos rfl]
      exact fin 0 (by unfold DS; rw [hlo]; rfl)
    · rw [b1, if_neg (by omega), m_isDipAt hMq hB hx (by omega) (by omega) q63, cp_ok, ck_ok (by split <;> omega)]
      cases hd : dipS x B f (bN B 4 + t)
      · rw [b0, if_pos rfl]
        exact fin 0 (by unfold DS; rw [hlo, hd]; rfl)
      · rw [b1, if_neg (by omega)]
        exact fin 1 (by unfold DS; rw [hlo, hd]; rfl)
  · rintro ⟨w, q⟩ ⟨e1, hF, hq⟩
    simp only at e1 hF hq
    subst e1
    have hMq := hM.cg hF (by decide) (by decide) (by decide)
    dsimp only
    unfold GB_X12_laysDips_4
    rw [hMq.2.2, rdB5, ck_ok (by omega), ck_ok (by omega), if_pos (by omega)]
    exact ⟨_, rfl, fun L h1 h2 => hq L h1 (by omega)⟩
theorem m_aheadOf {x B : Nat → Int} {n : Nat} {g : uZ} (hM : MB x B n g) (hB : BOk B) (hx : XOk x) {f L : Nat} (hL : L ≤ bN B 5) (h63 : ∀ l, l ≤ bN B 5 + 1 → g 63 l = relF x B f l) (h67 : ∀ L, bN B 4 ≤ L → L ≤ bN B 5 → g 67 L = if DS x B f L = true then 1 else 0) : GF_X12_aheadOf L g = some ((ahd (DS x B f) (relF x B f) (lgs B) L : Nat) : Int) := by
  have h4 := hB.b4
  have h5 := hB.b5
  have hlh := hB.lh
  have r0 := relF_R hB hx f (l := L) (by omega)
  unfold GF_X12_aheadOf
  rw [hM.2.2, rdB4, h4.1]
  unfold lgs ahd
  rw [lp_for (fun t => (((List.countP (ahp (DS x B f) (relF x B f) L) (List.range' (bN B 4) t) : Nat) : Int), ((bN B 4 + t : Nat) : Int))) (bN B 5 + 1 - bN B 4) ((List.countP (ahp (DS x B f) (relF x B f) L) (List.range' (bN B 4) (bN B 5 + 1 - bN B 4)) : Nat) : Int) (by simp) (by omega)]
  · rfl
  · intro t ht
    have r1 := relF_R hB hx f (l := bN B 4 + t) (by omega)
    have hc : List.countP (ahp (DS x B f) (relF x B f) L) (List.range' (bN B 4) (t + 1)) = List.countP (ahp (DS x B f) (relF x B f) L) (List.range' (bN B 4) t) + if ahp (DS x B f) (relF x B f) L (bN B 4 + t) = true then 1 else 0 := by
      rw [List.range'_1_concat, List.countP_append]
      congr 1
      rw [List.countP_cons]
      simp
    have hb : List.countP (ahp (DS x B f) (relF x B f) L) (List.range' (bN B 4) t) ≤ t := by
      have := List.countP_le_length (p := ahp (DS x B f) (relF x B f) L) (l := List.range' (bN B 4) t)
      simpa using this
    dsimp only
    rw [hc]
    generalize List.countP (ahp (DS x B f) (relF x B f) L) (List.range' (bN B 4) t) = cn at *
    unfold GB_X12_aheadOf_4 GJ_X12_aheadOf_2 GJ_X12_aheadOf_3
    rw [hM.2.2, rdB5, ck_ok (by omega), ck_ok (by omega), if_neg (by omega), rdZ_at (bN B 4 + t) rfl (by omega), h67 _ (by omega) (by omega), ck_ok (by split <;> omega)]
    cases hd : DS x B f (bN B 4 + t)
    · rw [b0, if_pos rfl, lt_ok, if_neg (by simp [ahp, hd])]
      congr 3
    · rw [b1, if_neg (by omega), rdZ_at (bN B 4 + t) rfl (by omega), rdZ_at L rfl (by omega), h63 _ (by omega), h63 L (by omega), ck_ok r1, ck_ok r0]
      by_cases c1 : relF x B f (bN B 4 + t) < relF x B f L
      · rw [if_pos c1, lt_ok, lt_ok, if_pos (by simp [ahp, hd, c1])]
        congr 3
      · rw [if_neg c1, rdZ_at (bN B 4 + t) rfl (by omega), rdZ_at L rfl (by omega), h63 _ (by omega), h63 L (by omega), ck_ok r1, ck_ok r0]
        by_cases c2 : relF x B f (bN B 4 + t) = relF x B f L
        · rw [if_pos c2, ck_ok (by omega)]
          by_cases c3 : (L : Int) ≤ ((bN B 4 + t : Nat) : Int)
          · rw [if_pos c3, lt_ok, if_neg (by simp [ahp, hd, c1, c2]; omega)]
            congr 3
          · rw [if_neg c3, lt_ok, lt_ok, if_pos (by simp [ahp, hd, c2]; omega)]
            congr 3
        · rw [if_neg c2, lt_ok, if_neg (by simp [ahp, hd, c1, c2])]
          congr 3
  · dsimp only
    unfold GB_X12_aheadOf_4
    rw [hM.2.2, rdB5, ck_ok (by omega), ck_ok (by omega), if_pos (by omega)]
