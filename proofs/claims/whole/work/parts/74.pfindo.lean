/-! Notes.findNotes -/
theorem p4_findNotes {g : uZ} {N : Nat} (h16 : g 16 12 = N) (hN : N ≤ 100) (hL : ∀ f, f < N → 0 ≤ g 24 f ∧ g 24 f ≤ 1000) : ∃ g', GF_X4_findNotes g = some g' ∧ NP (g 24) N g' := by
  unfold GF_X4_findNotes
  rw [pfZ_ok]
  refine lp_go (fun t z => z.1 = (t : Int) ∧ z.2 16 12 = (N : Int) ∧ z.2 24 = g 24 ∧ NP (g 24) t z.2 ∧ (0 < t → g 24 (t - 1) ≠ 0 → ∃ k, nN (g 24) t = k + 1 ∧ z.2 39 k + z.2 40 k = (t : Int))) (fun z => NP (g 24) N z) N (by omega) ⟨rfl, by dsimp only; rw [upZ_n (by decide)]; exact h16, by dsimp only; rw [upZ_n (by decide)], ⟨by dsimp only; rw [upZ_ss]; rfl, fun i hi => absurd hi (Nat.not_lt_zero _)⟩, fun h => absurd h (Nat.lt_irrefl _)⟩ ?_ ?_ (fun q hq => ⟨q, rfl, hq⟩)
  · rintro t ⟨w, z⟩ ht ⟨e1, z16, z24, ⟨s1, s2⟩, s3⟩
    simp only at e1 z16 z24 s1 s2 s3
    subst e1
    have hle := nN_le (g 24) t
    have e : nN (g 24) (t + 1) = nN (g 24) t + if bnN (g 24) t then 1 else 0 := rfl
    dsimp only
    have open1 : ∀ _ : Unit, bnN (g 24) t = true → ∃ a', GJ_X4_findNotes_2 (t : Int) z = some (Sum.inl a') ∧ a'.1 = ((t + 1 : Nat) : Int) ∧ a'.2 16 12 = (N : Int) ∧ a'.2 24 = g 24 ∧ NP (g 24) (t + 1) a'.2 ∧ (0 < t + 1 → g 24 (t + 1 - 1) ≠ 0 → ∃ k, nN (g 24) (t + 1) = k + 1 ∧ a'.2 39 k + a'.2 40 k = ((t + 1 : Nat) : Int)) := by
      intro _ hb
      rw [hb, if_pos rfl] at e
      unfold GJ_X4_findNotes_2 GJ_X4_findNotes_3 GJ_X4_findNotes_5
      rw [wrZ_at (nN (g 24) t) s1 (by omega)]
      generalize hz1 : upZ z 39 (nN (g 24) t) (t : Int) = z1
      have a34 : z1 38 6 = (nN (g 24) t : Int) := by rw [← hz1, upZ_n (by decide)]; exact s1
      rw [wrZ_at (nN (g 24) t) a34 (by omega)]
      generalize hz2 : upZ z1 40 (nN (g 24) t) 0 = z2
      have b34 : z2 38 6 = (nN (g 24) t : Int) := by rw [← hz2, upZ_n (by decide)]; exact a34
      rw [pfZ_ok, b34]
      generalize hz3 : upZ z2 38 6 ((nN (g 24) t : Int) + 1) = z3
      have c34 : z3 38 6 = (nN (g 24) t : Int) + 1 := by rw [← hz3, upZ_ss]
      rw [c34, rdZ_at (nN (g 24) t) (by omega) (by omega), wrZ_at (nN (g 24) t) (by omega) (by omega)]
      have c36 : z3 40 (nN (g 24) t) = 0 := by rw [← hz3, upZ_n (by decide), ← hz2, upZ_ss]
      rw [c36, lt_ok]
      generalize hz4 : upZ z3 40 (nN (g 24) t) (0 + 1) = z4
      have d34 : z4 38 6 = (nN (g 24) t : Int) + 1 := by rw [← hz4, upZ_n (by decide)]; exact c34
      have f16 : z4 16 = z 16 := by rw [← hz4, upZ_n (by decide), ← hz3, upZ_n (by decide), ← hz2, upZ_n (by decide), ← hz1, upZ_n (by decide)]
      have f24 : z4 24 = z 24 := by rw [← hz4, upZ_n (by decide), ← hz3, upZ_n (by decide), ← hz2, upZ_n (by decide), ← hz1, upZ_n (by decide)]
      have f35 : z4 39 = upZ z 39 (nN (g 24) t) (t : Int) 39 := by rw [← hz4, upZ_n (by decide), ← hz3, upZ_n (by decide), ← hz2, upZ_n (by decide), ← hz1]
      have f35n : ∀ i, i ≠ nN (g 24) t → z4 39 i = z 39 i := fun i hi => by rw [f35, upZ_sn (by omega)]
      have f35s : z4 39 (nN (g 24) t) = (t : Int) := by rw [f35, upZ_ss]
      have f36s : z4 40 (nN (g 24) t) = 1 := by rw [← hz4, upZ_ss]; rfl
      have f36n : ∀ i, i ≠ nN (g 24) t → z4 40 i = z 40 i := fun i hi => by rw [← hz4, upZ_sn (by omega), ← hz3, upZ_n (by decide), ← hz2, upZ_sn (by omega), ← hz1, upZ_n (by decide)]
      refine ⟨_, rfl, ?_⟩
      dsimp only
      refine ⟨by omega, by rw [f16]; exact z16, by rw [f24]; exact z24, ⟨by rw [d34, e]; omega, fun i hi => ?_⟩, fun _ _ => ⟨nN (g 24) t, e, by rw [f35s, f36s]; omega⟩⟩
      by_cases hin : i = nN (g 24) t
      · subst hin
        exact ⟨t, 1, f35s, f36s, ntS.fresh hb⟩
      · rw [f35n i hin, f36n i hin]
        obtain ⟨a, l, q1, q2, q3⟩ := s2 i (by omega)
        exact ⟨a, l, q1, q2, q3.stay (bnN.ct hb).1⟩
    have stay1 : ∀ _ : Unit, ctN (g 24) t = true → bnN (g 24) t = false → 0 < t → g 24 (t - 1) ≠ 0 → ∃ a', GJ_X4_findNotes_3 (t : Int) z = some (Sum.inl a') ∧ a'.1 = ((t + 1 : Nat) : Int) ∧ a'.2 16 12 = (N : Int) ∧ a'.2 24 = g 24 ∧ NP (g 24) (t + 1) a'.2 ∧ (0 < t + 1 → g 24 (t + 1 - 1) ≠ 0 → ∃ k, nN (g 24) (t + 1) = k + 1 ∧ a'.2 39 k + a'.2 40 k = ((t + 1 : Nat) : Int)) := by
      intro _ hc hb ht0 hne
      rw [hb, if_neg (by decide)] at e
      replace e : nN (g 24) (t + 1) = nN (g 24) t := by omega
      obtain ⟨k, hk, hkt⟩ := s3 ht0 hne
      unfold GJ_X4_findNotes_3 GJ_X4_findNotes_5
      rw [s1, rdZ_at k (by omega) (by omega), wrZ_at k (by omega) (by omega), lt_ok]
      refine ⟨_, rfl, ?_⟩
      dsimp only
      obtain ⟨b, m, r1, r2, r3⟩ := s2 k (by omega)
      refine ⟨by omega, by rw [upZ_n (by decide)]; exact z16, by rw [upZ_n (by decide)]; exact z24, ⟨by rw [upZ_n (by decide), e]; exact s1, fun i hi => ?_⟩, fun _ _ => ⟨k, by omega, by rw [upZ_n (by decide), upZ_ss]; omega⟩⟩
      rw [upZ_n (by decide)]
      by_cases hin : i = k
      · subst hin
        exact ⟨b, m + 1, r1, by rw [upZ_ss, r2]; omega, r3.go (by omega) hc⟩
      · rw [upZ_sn (by omega)]
        obtain ⟨a, l, q1, q2, q3⟩ := s2 i (by omega)
        exact ⟨a, l, q1, q2, q3.old r3 (by omega)⟩
    have l1 := hL t ht
    unfold GB_X4_findNotes_6 GF_X5_size
    rw [cp_ok, z16, ck_ok (by omega), ck_ok (by omega), if_neg (by omega), p5_lagIn z16 hN ht, cp_ok, z24, ck_ok (by omega)]
    by_cases ha : g 24 t = 0
    · have hc : ctN (g 24) t = false := by unfold ctN; simp [ha]
      have hb : bnN (g 24) t = false := by unfold bnN; simp [ha]
      rw [hb, if_neg (by decide)] at e
      rw [if_pos ha]
      unfold GJ_X4_findNotes_5
      rw [lt_ok]
      refine ⟨_, rfl, ?_⟩
      dsimp only
      refine ⟨by omega, z16, z24, ⟨by rw [s1]; omega, fun i hi => ?_⟩, fun _ h => absurd ha h⟩
      obtain ⟨a, l, q1, q2, q3⟩ := s2 i (by omega)
      exact ⟨a, l, q1, q2, q3.stay hc⟩
    · rw [if_neg ha]
      by_cases h0 : t = 0
      · rw [if_pos (by omega)]
        unfold GJ_X4_findNotes_4
        rw [ck_ok (by omega), if_pos rfl]
        exact open1 () (by unfold bnN ctN; simp [ha, h0]; rw [← h0]; exact ha)
      · have l2 := hL (t - 1) (by omega)
        have et : ((t : Int) - 1) = ((t - 1 : Nat) : Int) := by omega
        rw [if_neg (by omega), et, p5_lagIn z16 hN (by omega), cp_ok, z24]
        unfold GJ_X4_findNotes_4
        rw [ck_ok (by omega)]
        by_cases hz : g 24 (t - 1) = 0
        · rw [if_pos hz]
          exact open1 () (by unfold bnN ctN; simp [ha, hz])
        · rw [if_neg hz, p_abs z (by unfold inR; omega), cp_ok]
          by_cases hd : g 24 t - g 24 (t - 1) ≤ 1 ∧ g 24 (t - 1) - g 24 t ≤ 1
          · have hc : ctN (g 24) t = true := by unfold ctN; rw [decide_eq_true_eq]; exact ⟨by omega, ha, hz, hd.1, hd.2⟩
            rw [ck_ok (by unfold ab; split <;> omega), if_pos (by unfold ab; split <;> omega)]
            exact stay1 () hc (by unfold bnN; rw [hc]; simp) (by omega) hz
          · have hc : ctN (g 24) t = false := by unfold ctN; rw [decide_eq_false_iff_not]; exact fun q => hd ⟨q.2.2.2.1, q.2.2.2.2⟩
            rw [ck_ok (by unfold ab; split <;> omega), if_neg (by unfold ab; split <;> omega)]
            exact open1 () (by unfold bnN; rw [hc]; simp [ha])
  · rintro ⟨w, z⟩ ⟨e1, z16, z24, hs, -⟩
    simp only at e1 z16 z24 hs
    subst e1
    dsimp only
    refine ⟨z, ?_, hs⟩
    unfold GB_X4_findNotes_6 GF_X5_size
    rw [cp_ok, z16, ck_ok (by omega), ck_ok (by omega), if_pos (by omega)]
