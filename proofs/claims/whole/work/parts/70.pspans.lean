/-! SPANS, as the class finds them -/
def brS (L : Nat → Int) (f : Nat) : Bool := f == 0 || (decide (L f = 0) != decide (L (f - 1) = 0))
def nS (L : Nat → Int) : Nat → Nat
  | 0 => 0
  | f + 1 => nS L f + if brS L f then 1 else 0
theorem nS_le (L : Nat → Int) (f : Nat) : nS L f ≤ f := by
  induction f with
  | zero => exact Nat.le_refl _
  | succ f ih => unfold nS; split <;> omega
theorem nS_1 (L : Nat → Int) : nS L 1 = 1 := rfl
theorem nS_mono (L : Nat → Int) {a b : Nat} (h : a ≤ b) : nS L a ≤ nS L b := by
  induction b with
  | zero => have : a = 0 := by omega
            subst this; exact Nat.le_refl _
  | succ b ih =>
    by_cases hb : a = b + 1
    · subst hb; exact Nat.le_refl _
    · have := ih (by omega)
      have e : nS L (b + 1) = nS L b + if brS L b then 1 else 0 := rfl
      rw [e]; split <;> omega
theorem nS_pos (L : Nat → Int) {f : Nat} (h : 1 ≤ f) : 1 ≤ nS L f := by
  have := nS_mono L h
  rw [nS_1] at this
  exact this
def SP (L : Nat → Int) (f : Nat) (g : uZ) : Prop := g 34 6 = (nS L f : Int) ∧ (∀ i, i < nS L f → ∃ j, j < f ∧ g 35 i = (j : Int) ∧ brS L j = true ∧ nS L j = i) ∧ (∀ i, i + 1 < nS L f → g 35 i + g 36 i = g 35 (i + 1)) ∧ (∀ i, i + 1 = nS L f → g 35 i + g 36 i = (f : Int)) ∧ ∀ j, j < f → g 37 j = (nS L (j + 1) : Int) - 1
theorem p5_lagIn {g : uZ} {N f : Nat} (h16 : g 16 12 = N) (hN : N ≤ 100) (hf : f < N) : GF_X5_lagIn (f : Int) g = some (g 24 f) := by
  unfold GF_X5_lagIn GJ_X5_lagIn_2
  rw [h16, ck_ok (by omega), if_neg (by omega), ck_ok (by omega), if_pos (by omega), rdZ_at f (by omega) (by omega)]
theorem p8_find {g : uZ} {N : Nat} (h16 : g 16 12 = N) (hN : N ≤ 100) (hL : ∀ f, f < N → 0 ≤ g 24 f ∧ g 24 f ≤ 1000) : ∃ g', GF_X8_find g = some g' ∧ SP (g 24) N g' := by
  unfold GF_X8_find
  rw [pfZ_ok]
  refine lp_go (fun t z => z.1 = (t : Int) ∧ z.2 16 12 = (N : Int) ∧ z.2 24 = g 24 ∧ SP (g 24) t z.2) (fun z => SP (g 24) N z) N (by omega) ⟨rfl, by dsimp only; rw [upZ_n (by decide)]; exact h16, by dsimp only; rw [upZ_n (by decide)], by dsimp only; rw [upZ_ss]; rfl, fun i hi => absurd hi (Nat.not_lt_zero _), fun i hi => absurd hi (Nat.not_lt_zero _), fun i hi => absurd hi (Nat.succ_ne_zero _), fun j hj => absurd hj (Nat.not_lt_zero _)⟩ ?_ ?_ (fun q hq => ⟨q, rfl, hq⟩)
  · rintro t ⟨w, z⟩ ht ⟨e1, z16, z24, s1, s2, s3, s4, s5⟩
    simp only at e1 z16 z24 s1 s2 s3 s4 s5
    subst e1
    have hle := nS_le (g 24) t
    have e : nS (g 24) (t + 1) = nS (g 24) t + if brS (g 24) t then 1 else 0 := rfl
    dsimp only
    have open1 : ∀ _ : Unit, brS (g 24) t = true → ∃ a', GJ_X8_find_2 (t : Int) z = some (Sum.inl a') ∧ a'.1 = ((t + 1 : Nat) : Int) ∧ a'.2 16 12 = (N : Int) ∧ a'.2 24 = g 24 ∧ SP (g 24) (t + 1) a'.2 := by
      intro _ hb
      rw [hb, if_pos rfl] at e
      unfold GJ_X8_find_2 GJ_X8_find_3
      rw [wrZ_at (nS (g 24) t) s1 (by omega)]
      generalize hz1 : upZ z 35 (nS (g 24) t) (t : Int) = z1
      have a34 : z1 34 6 = (nS (g 24) t : Int) := by rw [← hz1, upZ_n (by decide)]; exact s1
      rw [wrZ_at (nS (g 24) t) a34 (by omega)]
      generalize hz2 : upZ z1 36 (nS (g 24) t) 0 = z2
      have b34 : z2 34 6 = (nS (g 24) t : Int) := by rw [← hz2, upZ_n (by decide)]; exact a34
      rw [pfZ_ok, b34]
      generalize hz3 : upZ z2 34 6 ((nS (g 24) t : Int) + 1) = z3
      have c34 : z3 34 6 = (nS (g 24) t : Int) + 1 := by rw [← hz3, upZ_ss]
      rw [c34, rdZ_at (nS (g 24) t) (by omega) (by omega), wrZ_at (nS (g 24) t) (by omega) (by omega)]
      have c36 : z3 36 (nS (g 24) t) = 0 := by rw [← hz3, upZ_n (by decide), ← hz2, upZ_ss]
      rw [c36]
      generalize hz4 : upZ z3 36 (nS (g 24) t) (0 + 1) = z4
      have d34 : z4 34 6 = (nS (g 24) t : Int) + 1 := by rw [← hz4, upZ_n (by decide)]; exact c34
      rw [d34, wrZ_at t rfl (by omega), lt_ok]
      have f16 : z4 16 = z 16 := by rw [← hz4, upZ_n (by decide), ← hz3, upZ_n (by decide), ← hz2, upZ_n (by decide), ← hz1, upZ_n (by decide)]
      have f24 : z4 24 = z 24 := by rw [← hz4, upZ_n (by decide), ← hz3, upZ_n (by decide), ← hz2, upZ_n (by decide), ← hz1, upZ_n (by decide)]
      have f37 : z4 37 = z 37 := by rw [← hz4, upZ_n (by decide), ← hz3, upZ_n (by decide), ← hz2, upZ_n (by decide), ← hz1, upZ_n (by decide)]
      have f35 : z4 35 = upZ z 35 (nS (g 24) t) (t : Int) 35 := by rw [← hz4, upZ_n (by decide), ← hz3, upZ_n (by decide), ← hz2, upZ_n (by decide), ← hz1]
      have f35n : ∀ i, i ≠ nS (g 24) t → z4 35 i = z 35 i := fun i hi => by rw [f35, upZ_sn (by omega)]
      have f35s : z4 35 (nS (g 24) t) = (t : Int) := by rw [f35, upZ_ss]
      have f36s : z4 36 (nS (g 24) t) = 1 := by rw [← hz4, upZ_ss]; rfl
      have f36n : ∀ i, i ≠ nS (g 24) t → z4 36 i = z 36 i := fun i hi => by rw [← hz4, upZ_sn (by omega), ← hz3, upZ_n (by decide), ← hz2, upZ_sn (by omega), ← hz1, upZ_n (by decide)]
      refine ⟨_, rfl, ?_⟩
      dsimp only
      refine ⟨by omega, by rw [upZ_n (by decide), f16]; exact z16, by rw [upZ_n (by decide), f24]; exact z24, by rw [upZ_n (by decide), d34, e]; omega, fun i hi => ?_, fun i hi => ?_, fun i hi => ?_, fun j hj => ?_⟩
      · rw [upZ_n (by decide)]
        by_cases hin : i = nS (g 24) t
        · subst hin
          exact ⟨t, by omega, f35s, hb, rfl⟩
        · rw [f35n i hin]
          obtain ⟨j, q1, q2⟩ := s2 i (by omega)
          exact ⟨j, by omega, q2⟩
      · rw [upZ_n (by decide), upZ_n (by decide), f35n i (by omega), f36n i (by omega)]
        by_cases hin : i + 1 = nS (g 24) t
        · rw [hin, f35s]
          exact s4 i hin
        · rw [f35n (i + 1) hin]
          exact s3 i (by omega)
      · have hin : i = nS (g 24) t := by omega
        subst hin
        rw [upZ_n (by decide), upZ_n (by decide), f35s, f36s]
        omega
      · by_cases hjt : j = t
        · subst hjt
          rw [upZ_ss, e]
          omega
        · rw [upZ_sn (by omega), f37]
          exact s5 j (by omega)
    have stay1 : ∀ _ : Unit, brS (g 24) t = false → 1 ≤ nS (g 24) t → ∃ a', GJ_X8_find_3 (t : Int) z = some (Sum.inl a') ∧ a'.1 = ((t + 1 : Nat) : Int) ∧ a'.2 16 12 = (N : Int) ∧ a'.2 24 = g 24 ∧ SP (g 24) (t + 1) a'.2 := by
      intro _ hb hn
      rw [hb, if_neg (by decide)] at e
      replace e : nS (g 24) (t + 1) = nS (g 24) t := by omega
      obtain ⟨k, hk⟩ : ∃ k, nS (g 24) t = k + 1 := ⟨nS (g 24) t - 1, by omega⟩
      unfold GJ_X8_find_3
      rw [s1, rdZ_at k (by omega) (by omega), wrZ_at k (by omega) (by omega)]
      generalize hz4 : upZ z 36 k (z 36 k + 1) = z4
      have d34 : z4 34 6 = (nS (g 24) t : Int) := by rw [← hz4, upZ_n (by decide)]; exact s1
      rw [d34, wrZ_at t rfl (by omega), lt_ok]
      have f16 : z4 16 = z 16 := by rw [← hz4, upZ_n (by decide)]
      have f24 : z4 24 = z 24 := by rw [← hz4, upZ_n (by decide)]
      have f37 : z4 37 = z 37 := by rw [← hz4, upZ_n (by decide)]
      have f35 : z4 35 = z 35 := by rw [← hz4, upZ_n (by decide)]
      have f36s : z4 36 k = z 36 k + 1 := by rw [← hz4, upZ_ss]
      have f36n : ∀ i, i ≠ k → z4 36 i = z 36 i := fun i hi => by rw [← hz4, upZ_sn (by omega)]
      refine ⟨_, rfl, ?_⟩
      dsimp only
      refine ⟨by omega, by rw [upZ_n (by decide), f16]; exact z16, by rw [upZ_n (by decide), f24]; exact z24, by rw [upZ_n (by decide), d34, e], fun i hi => ?_, fun i hi => ?_, fun i hi => ?_, fun j hj => ?_⟩
      · rw [upZ_n (by decide), f35]
        obtain ⟨j, q1, q2⟩ := s2 i (by omega)
        exact ⟨j, by omega, q2⟩
      · rw [upZ_n (by decide), upZ_n (by decide), f35, f36n i (by omega)]
        exact s3 i (by omega)
      · have hin : i = k := by omega
        subst hin
        have := s4 i (by omega)
        rw [upZ_n (by decide), upZ_n (by decide), f35, f36s]
        omega
      · by_cases hjt : j = t
        · subst hjt
          rw [upZ_ss, e]
        · rw [upZ_sn (by omega), f37]
          exact s5 j (by omega)
    unfold GB_X8_find_4 GF_X5_size
    rw [cp_ok, z16, ck_ok (by omega), ck_ok (by omega), if_neg (by omega)]
    by_cases h0 : t = 0
    · rw [if_pos (by omega)]
      exact open1 () (by subst h0; rfl)
    · have l1 := hL t ht
      have l2 := hL (t - 1) (by omega)
      have et : ((t : Int) - 1) = ((t - 1 : Nat) : Int) := by omega
      rw [if_neg (by omega), et, p5_lagIn z16 hN ht, cp_ok, z24, ck_ok (by omega), lt_ok, p5_lagIn z16 hN (by omega), cp_ok, z24, ck_ok (by omega), lt_ok]
      have hn := nS_pos (g 24) (f := t) (by omega)
      have hbe : brS (g 24) t = (decide (g 24 t = 0) != decide (g 24 (t - 1) = 0)) := by
        unfold brS
        have : (t == 0) = false := by simp [h0]
        rw [this, Bool.false_or]
      by_cases ha : g 24 t = 0 <;> by_cases hc : g 24 (t - 1) = 0
      · rw [if_pos ha, if_pos hc, ck_ok (by omega), ck_ok (by omega), if_pos rfl]
        exact stay1 () (by rw [hbe]; simp [ha, hc]) hn
      · rw [if_pos ha, if_neg hc, ck_ok (by omega), ck_ok (by omega), if_neg (by omega)]
        exact open1 () (by rw [hbe]; simp [ha, hc])
      · rw [if_neg ha, if_pos hc, ck_ok (by omega), ck_ok (by omega), if_neg (by omega)]
        exact open1 () (by rw [hbe]; simp [ha, hc])
      · rw [if_neg ha, if_neg hc, ck_ok (by omega), ck_ok (by omega), if_pos rfl]
        exact stay1 () (by rw [hbe]; simp [ha, hc]) hn
  · rintro ⟨w, z⟩ ⟨e1, z16, z24, hs⟩
    simp only at e1 z16 z24 hs
    subst e1
    dsimp only
    refine ⟨z, ?_, hs⟩
    unfold GB_X8_find_4 GF_X5_size
    rw [cp_ok, z16, ck_ok (by omega), ck_ok (by omega), if_pos (by omega)]
