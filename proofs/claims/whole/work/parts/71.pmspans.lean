/-! SPANS, as the reference lays them -/
theorem m_lagOnPath {g : uZ} {N f : Nat} {m : Nat → Nat} {lag : Nat → Nat → Nat} {own : Nat → Nat → Int} (hT : MT N m lag own g) (h0 : 0 ≤ g 69 f) (hm : (g 69 f).toNat < m f) (hf : f < N) : GF_X12_lagOnPath (f : Int) g = some (lag f (g 69 f).toNat : Int) := by
  have hN := hT.1
  unfold GF_X12_lagOnPath
  rw [rdZ_at f (by omega) (by omega)]
  have e : g 69 f = ((g 69 f).toNat : Int) := by omega
  rw [e, hT.lag hf hm, cp_ok]
  rfl
def MSp (L : Nat → Int) (f : Nat) (g : uZ) : Prop := g 55 33 = (nS L f : Int) ∧ ∀ i, i < nS L f → ∃ j, j < f ∧ g 78 i = (j : Int) ∧ brS L j = true ∧ nS L j = i
theorem m_spans {g : uZ} {N : Nat} {m : Nat → Nat} {lag : Nat → Nat → Nat} {own : Nat → Nat → Int} {L : Nat → Int} (h17 : g 55 17 = N) (hT : MT N m lag own g) (hp : ∀ f, f < N → 0 ≤ g 69 f ∧ (g 69 f).toNat < m f) (hL : ∀ f, f < N → L f = (lag f (g 69 f).toNat : Int)) : ∃ g', (pfZ g 55 33 0 fun g2 => lp (fun z => GB_X12_laysSpans_4 z.1 z.2) (0, g2) (fun z => GC_X12_laysSpans_5 z)) = some g' ∧ Fr [78] [(55, 33)] g g' ∧ MSp L N g' ∧ g' 78 (nS L N) = (N : Int) := by
  have hN := hT.1
  rw [pfZ_ok]
  refine lp_go (fun t z => z.1 = (t : Int) ∧ Fr [78] [(55, 33)] g z.2 ∧ MSp L t z.2) (fun z => Fr [78] [(55, 33)] g z ∧ MSp L N z) N (by omega) ⟨rfl, Fr.rf.pf (by decide), by dsimp only; rw [upZ_ss]; rfl, fun i hi => absurd hi (Nat.not_lt_zero _)⟩ ?_ ?_ ?_
  · rintro t ⟨w, z⟩ ht ⟨e1, hF, s1, s2⟩
    simp only at e1 hF s1 s2
    subst e1
    have hle := nS_le L t
    have e : nS L (t + 1) = nS L t + if brS L t then 1 else 0 := rfl
    have z17 : z 55 17 = (N : Int) := (hF 55 17 (by decide) (by decide)).trans h17
    have z69 : z 69 = g 69 := hF.f 69 (by decide) (by decide)
    have hTz : MT N m lag own z := by
      unfold MT
      rw [hF.f 66 (by decide) (by decide), hF.f 64 (by decide) (by decide), hF.f 65 (by decide) (by decide)]
      exact hT
    dsimp only
    have open1 : ∀ _ : Unit, brS L t = true → ∃ a', GJ_X12_laysSpans_2 (t : Int) z = some (Sum.inl a') ∧ a'.1 = ((t + 1 : Nat) : Int) ∧ Fr [78] [(55, 33)] g a'.2 ∧ MSp L (t + 1) a'.2 := by
      intro _ hb
      rw [hb, if_pos rfl] at e
      unfold GJ_X12_laysSpans_2 GJ_X12_laysSpans_3
      rw [wrZ_at (nS L t) s1 (by omega), pfZ_ok, lt_ok]
      refine ⟨_, rfl, ?_⟩
      dsimp only
      refine ⟨by omega, (hF.wr (by decide)).pf (by decide), ?_, fun i hi => ?_⟩
      · rw [upZ_ss, upZ_n (by decide), s1, e]
        omega
      · rw [upZ_n (by decide)]
        by_cases hin : i = nS L t
        · subst hin
          exact ⟨t, by omega, upZ_ss _ _ _ _, hb, rfl⟩
        · rw [upZ_sn (by omega)]
          obtain ⟨j, q1, q2⟩ := s2 i (by omega)
          exact ⟨j, by omega, q2⟩
    have stay1 : ∀ _ : Unit, brS L t = false → ∃ a', GJ_X12_laysSpans_3 (t : Int) z = some (Sum.inl a') ∧ a'.1 = ((t + 1 : Nat) : Int) ∧ Fr [78] [(55, 33)] g a'.2 ∧ MSp L (t + 1) a'.2 := by
      intro _ hb
      rw [hb, if_neg (by decide)] at e
      replace e : nS L (t + 1) = nS L t := by omega
      unfold GJ_X12_laysSpans_3
      rw [lt_ok]
      refine ⟨_, rfl, ?_⟩
      dsimp only
      refine ⟨by omega, hF, by rw [e]; exact s1, fun i hi => ?_⟩
      obtain ⟨j, q1, q2⟩ := s2 i (by omega)
      exact ⟨j, by omega, q2⟩
    unfold GB_X12_laysSpans_4
    rw [z17, ck_ok (by omega), ck_ok (by omega), if_neg (by omega)]
    by_cases h0 : t = 0
    · rw [if_pos (by omega)]
      exact open1 () (by subst h0; rfl)
    · have p1 := hp t ht
      have p2 := hp (t - 1) (by omega)
      have et : ((t : Int) - 1) = ((t - 1 : Nat) : Int) := by omega
      have l1 := ((hT.2 t ht).2.2.2 _ p1.2).2.1
      have l2 := ((hT.2 (t - 1) (by omega)).2.2.2 _ p2.2).2.1
      have L1 := hL t ht
      have L2 := hL (t - 1) (by omega)
      rw [if_neg (by omega), et, m_lagOnPath hTz (by rw [z69]; exact p1.1) (by rw [z69]; exact p1.2) ht, cp_ok, z69, ck_ok (by omega), lt_ok, m_lagOnPath hTz (by rw [z69]; exact p2.1) (by rw [z69]; exact p2.2) (by omega), cp_ok, z69, ck_ok (by omega), lt_ok, ← L1, ← L2]
      have hbe : brS L t = (decide (L t = 0) != decide (L (t - 1) = 0)) := by
        unfold brS
        have : (t == 0) = false := by simp [h0]
        rw [this, Bool.false_or]
      by_cases ha : L t = 0 <;> by_cases hc : L (t - 1) = 0
      · rw [if_pos (by omega), if_pos (by omega), ck_ok (by omega), ck_ok (by omega), if_pos rfl]
        exact stay1 () (by rw [hbe]; simp [ha, hc])
      · rw [if_pos (by omega), if_neg (by omega), ck_ok (by omega), ck_ok (by omega), if_neg (by omega)]
        exact open1 () (by rw [hbe]; simp [ha, hc])
      · rw [if_neg (by omega), if_pos (by omega), ck_ok (by omega), ck_ok (by omega), if_neg (by omega)]
        exact open1 () (by rw [hbe]; simp [ha, hc])
      · rw [if_neg (by omega), if_neg (by omega), ck_ok (by omega), ck_ok (by omega), if_pos rfl]
        exact stay1 () (by rw [hbe]; simp [ha, hc])
  · rintro ⟨w, z⟩ ⟨e1, hF, hs⟩
    simp only at e1 hF hs
    subst e1
    dsimp only
    refine ⟨z, ?_, hF, hs⟩
    have z17 : z 55 17 = (N : Int) := (hF 55 17 (by decide) (by decide)).trans h17
    unfold GB_X12_laysSpans_4
    rw [z17, ck_ok (by omega), ck_ok (by omega), if_pos (by omega)]
  · rintro z ⟨hF, s1, s2⟩
    have hle := nS_le L N
    have z17 : z 55 17 = (N : Int) := (hF 55 17 (by decide) (by decide)).trans h17
    unfold GC_X12_laysSpans_5
    rw [z17, wrZ_at (nS L N) s1 (by omega)]
    refine ⟨_, rfl, hF.wr (by decide), ⟨by rw [upZ_n (by decide)]; exact s1, fun i hi => ?_⟩, upZ_ss _ _ _ _⟩
    rw [upZ_sn (by omega)]
    exact s2 i hi
