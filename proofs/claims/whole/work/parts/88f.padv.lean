/-! the class goes one frame on -/
theorem p5_advance17 {g : uZ} {N : Nat} {m : Nat → Nat} {lag : Nat → Nat → Nat} {own : Nat → Nat → Int} {A : Nat → Nat → Bool} {j o v e : Nat} (hC : CT N m lag own g) (h0 : g 17 0 = j) (h1 : g 17 1 = o) (h2 : g 17 2 = v) (hj : j ≤ 50) (ho : o ≤ 2000) (hv : v ≤ 2000) (he : e + 1 < N) (hA : ∀ k, A (e + 1) k = true) (hrow : ∀ k, k < m e → HP m own (fun e a b => spS j o v (lag e a) (lag (e + 1) b)) A e k (g 25 k)) : ∃ g', GF_X5_advance_17 ((e + 1 : Nat) : Int) g = some g' ∧ ∀ k, k < m (e + 1) → HP m own (fun e a b => spS j o v (lag e a) (lag (e + 1) b)) A (e + 1) k (g' 25 k) := by
  have hN := hC.2.1
  have hm0 := hC.2.2 e (by omega)
  have hm1 := hC.2.2 (e + 1) he
  have et : (((e + 1 : Nat) : Int) - 1) = (e : Int) := by omega
  have bnd : ∀ k, k < m e → 0 ≤ g 25 k ∧ g 25 k ≤ FARc + 60000 := fun k hk => by
    rcases hrow k hk with ⟨b1, b2, -⟩ | ⟨b1, b2, -⟩
    · unfold FARc at *; omega
    · unfold FARc at *; omega
  unfold GF_X5_advance_17
  refine lp_go (fun t z => z.1 = (t : Int) ∧ Fr [26] [] g z.2 ∧ ∀ k, k < t → HP m own (fun e a b => spS j o v (lag e a) (lag (e + 1) b)) A (e + 1) k (z.2 26 k)) (fun z => Fr [26] [] g z ∧ ∀ k, k < m (e + 1) → HP m own (fun e a b => spS j o v (lag e a) (lag (e + 1) b)) A (e + 1) k (z 26 k)) (m (e + 1)) (by omega) ⟨rfl, Fr.rf, fun k hk => absurd hk (Nat.not_lt_zero _)⟩ ?_ ?_ ?_
  · rintro t ⟨w, z⟩ ht ⟨e1, hF, hz⟩
    simp only at e1 hF hz
    subst e1
    dsimp only
    have hCz := hC.cg (hF 11 6 (by decide) (by decide)) (hF.f 12 (by decide) (by decide)) (hF.f 13 (by decide) (by decide)) (hF.f 15 (by decide) (by decide))
    have z25 : z 25 = g 25 := hF.f 25 (by decide) (by decide)
    have zp : z 17 = g 17 := hF.f 17 (by decide) (by decide)
    have lt1 := (hm1.2.2.2 t ht).2.1
    have ot := (hm1.2.2.2 t ht).2.2.2
    unfold GB_X5_advance_17_5
    rw [hCz.size he, cp_ok, ck_ok (by omega), ck_ok (by omega), if_neg (by omega), hCz.lag he ht, cp_ok]
    refine lp_gi (fun s y => y.2 = (s : Int) ∧ y.1 ≤ FARc ∧ 0 ≤ y.1 ∧ (∀ k, k < s → y.1 ≤ g 25 k + spS j o v (lag e k) (lag (e + 1) t)) ∧ (y.1 = FARc ∨ ∃ k, k < s ∧ y.1 = g 25 k + spS j o v (lag e k) (lag (e + 1) t))) (fun r => r ≤ FARc ∧ 0 ≤ r ∧ (∀ k, k < m e → r ≤ g 25 k + spS j o v (lag e k) (lag (e + 1) t)) ∧ (r = FARc ∨ ∃ k, k < m e ∧ r = g 25 k + spS j o v (lag e k) (lag (e + 1) t))) (m e) (by omega) ⟨rfl, Int.le_refl _, by decide, fun k hk => absurd hk (Nat.not_lt_zero _), Or.inl rfl⟩ ?_ ?_ ?_
    · rintro s ⟨r, w⟩ hs ⟨e1, q1, q2, q3, q4⟩
      simp only at e1 q1 q2 q3 q4
      subst e1
      dsimp only
      have ls := (hm0.2.2.2 s hs).2.1
      have sp := spS_r (j := j) (o := o) (v := v) hj ho hv ls lt1
      have b := bnd s hs
      unfold GB_X5_advance_17_3
      rw [et, hCz.size (show e < N by omega), cp_ok, ck_ok (by omega), ck_ok (by omega), if_neg (by omega), rdZ_at s rfl (by omega), z25, hCz.lag (show e < N by omega) hs, cp_ok, p9_price17 (by rw [zp]; exact h0) (by rw [zp]; exact h1) (by rw [zp]; exact h2) ls lt1, cp_ok, p_min z (by unfold FARc at *; omega) (by unfold FARc at *; omega), cp_ok, lt_ok]
      refine ⟨_, rfl, ?_⟩
      dsimp only
      by_cases c : g 25 s + spS j o v (lag e s) (lag (e + 1) t) < r
      · rw [if_pos c]
        refine ⟨by omega, by omega, by omega, fun k hk => ?_, Or.inr ⟨s, by omega, rfl⟩⟩
        by_cases ks : k = s
        · subst ks; exact Int.le_refl _
        · have := q3 k (by omega)
          omega
      · rw [if_neg c]
        refine ⟨by omega, q1, q2, fun k hk => ?_, ?_⟩
        · by_cases ks : k = s
          · subst ks; omega
          · exact q3 k (by omega)
        · rcases q4 with q4 | ⟨k, hk, q4⟩
          · exact Or.inl q4
          · exact Or.inr ⟨k, by omega, q4⟩
    · rintro ⟨r, w⟩ ⟨e1, q⟩
      simp only at e1 q
      subst e1
      dsimp only
      refine ⟨r, ?_, q⟩
      unfold GB_X5_advance_17_3
      rw [et, hCz.size (show e < N by omega), cp_ok, ck_ok (by omega), ck_ok (by omega), if_pos (by omega)]
    · rintro r ⟨q1, q2, q3, q4⟩
      unfold GC_X5_advance_17_4
      rw [hCz.own he ht, cp_ok, wrZ_at t rfl (by omega), lt_ok]
      refine ⟨_, rfl, ?_⟩
      dsimp only
      refine ⟨by omega, hF.wr (by decide), fun k hk => ?_⟩
      by_cases kt : k = t
      · subst kt
        rw [upZ_ss]
        refine HP.step (T := fun k => g 25 k) (by omega) hA ht ot (fun k' hk' => spS_r hj ho hv (hm0.2.2.2 k' hk').2.1 lt1) hrow ?_
        rcases q4 with q4 | q4
        · exact Or.inl ⟨q4, fun k' hk' => by have := q3 k' hk'; rw [q4] at this; exact this⟩
        · by_cases c : r < FARc
          · exact Or.inr ⟨c, q4, q3⟩
          · have e5 : r = FARc := by omega
            exact Or.inl ⟨e5, fun k' hk' => by have := q3 k' hk'; rw [e5] at this; exact this⟩
      · rw [upZ_sn (by omega)]
        exact hz k (by omega)
  · rintro ⟨w, z⟩ ⟨e1, hF, hz⟩
    simp only at e1 hF hz
    subst e1
    dsimp only
    refine ⟨z, ?_, hF, hz⟩
    have hCz := hC.cg (hF 11 6 (by decide) (by decide)) (hF.f 12 (by decide) (by decide)) (hF.f 13 (by decide) (by decide)) (hF.f 15 (by decide) (by decide))
    unfold GB_X5_advance_17_5
    rw [hCz.size he, cp_ok, ck_ok (by omega), ck_ok (by omega), if_pos (by omega)]
  · rintro z ⟨hF, hz⟩
    unfold GC_X5_advance_17_9
    refine lp_go (fun t y => y.1 = (t : Int) ∧ Fr [25] [] z y.2 ∧ ∀ k, k < t → y.2 25 k = z 26 k) (fun y => ∀ k, k < m (e + 1) → y 25 k = z 26 k) (m (e + 1)) (by omega) ⟨rfl, Fr.rf, fun k hk => absurd hk (Nat.not_lt_zero _)⟩ ?_ ?_ (fun q hq => ⟨q, rfl, fun k hk => by rw [hq k hk]; exact hz k hk⟩)
    · rintro t ⟨w, y⟩ ht ⟨e1, hG, hy⟩
      simp only at e1 hG hy
      subst e1
      dsimp only
      have hCz := hC.cg ((hG 11 6 (by decide) (by decide)).trans (hF 11 6 (by decide) (by decide))) ((hG.f 12 (by decide) (by decide)).trans (hF.f 12 (by decide) (by decide))) ((hG.f 13 (by decide) (by decide)).trans (hF.f 13 (by decide) (by decide))) ((hG.f 15 (by decide) (by decide)).trans (hF.f 15 (by decide) (by decide)))
      unfold GB_X5_advance_17_7
      rw [hCz.size he, cp_ok, ck_ok (by omega), ck_ok (by omega), if_neg (by omega), rdZ_at t rfl (by omega), hG.f 26 (by decide) (by decide), wrZ_at t rfl (by omega), lt_ok]
      refine ⟨_, rfl, ?_⟩
      dsimp only
      refine ⟨by omega, hG.wr (by decide), fun k hk => ?_⟩
      by_cases kt : k = t
      · subst kt
        exact upZ_ss _ _ _ _
      · rw [upZ_sn (by omega)]
        exact hy k (by omega)
    · rintro ⟨w, y⟩ ⟨e1, hG, hy⟩
      simp only at e1 hG hy
      subst e1
      dsimp only
      have hCz := hC.cg ((hG 11 6 (by decide) (by decide)).trans (hF 11 6 (by decide) (by decide))) ((hG.f 12 (by decide) (by decide)).trans (hF.f 12 (by decide) (by decide))) ((hG.f 13 (by decide) (by decide)).trans (hF.f 13 (by decide) (by decide))) ((hG.f 15 (by decide) (by decide)).trans (hF.f 15 (by decide) (by decide)))
      refine ⟨y, ?_, hy⟩
      unfold GB_X5_advance_17_7
      rw [hCz.size he, cp_ok, ck_ok (by omega), ck_ok (by omega), if_pos (by omega)]
theorem p5_advance18 {g : uZ} {N : Nat} {m : Nat → Nat} {lag : Nat → Nat → Nat} {own : Nat → Nat → Int} {A : Nat → Nat → Bool} {j o v e : Nat} (hC : CT N m lag own g) (h0 : g 18 0 = j) (h1 : g 18 1 = o) (h2 : g 18 2 = v) (hj : j ≤ 50) (ho : o ≤ 2000) (hv : v ≤ 2000) (he : e + 1 < N) (hA : ∀ k, A (e + 1) k = true) (hrow : ∀ k, k < m e → HP m own (fun e a b => spS j o v (lag e a) (lag (e + 1) b)) A e k (g 25 k)) : ∃ g', GF_X5_advance_18 ((e + 1 : Nat) : Int) g = some g' ∧ ∀ k, k < m (e + 1) → HP m own (fun e a b => spS j o v (lag e a) (lag (e + 1) b)) A (e + 1) k (g' 25 k) := by
  have hN := hC.2.1
  have hm0 := hC.2.2 e (by omega)
  have hm1 := hC.2.2 (e + 1) he
  have et : (((e + 1 : Nat) : Int) - 1) = (e : Int) := by omega
  have bnd : ∀ k, k < m e → 0 ≤ g 25 k ∧ g 25 k ≤ FARc + 60000 := fun k hk => by
    rcases hrow k hk with ⟨b1, b2, -⟩ | ⟨b1, b2, -⟩
    · unfold FARc at *; omega
    · unfold FARc at *; omega
  unfold GF_X5_advance_18
  refine lp_go (fun t z => z.1 = (t : Int) ∧ Fr [26] [] g z.2 ∧ ∀ k, k < t → HP m own (fun e a b => spS j o v (lag e a) (lag (e + 1) b)) A (e + 1) k (z.2 26 k)) (fun z => Fr [26] [] g z ∧ ∀ k, k < m (e + 1) → HP m own (fun e a b => spS j o v (lag e a) (lag (e + 1) b)) A (e + 1) k (z 26 k)) (m (e + 1)) (by omega) ⟨rfl, Fr.rf, fun k hk => absurd hk (Nat.not_lt_zero _)⟩ ?_ ?_ ?_
  · rintro t ⟨w, z⟩ ht ⟨e1, hF, hz⟩
    simp only at e1 hF hz
    subst e1
    dsimp only
    have hCz := hC.cg (hF 11 6 (by decide) (by decide)) (hF.f 12 (by decide) (by decide)) (hF.f 13 (by decide) (by decide)) (hF.f 15 (by decide) (by decide))
    have z25 : z 25 = g 25 := hF.f 25 (by decide) (by decide)
    have zp : z 18 = g 18 := hF.f 18 (by decide) (by decide)
    have lt1 := (hm1.2.2.2 t ht).2.1
    have ot := (hm1.2.2.2 t ht).2.2.2
    unfold GB_X5_advance_18_5
    rw [hCz.size he, cp_ok, ck_ok (by omega), ck_ok (by omega), if_neg (by omega), hCz.lag he ht, cp_ok]
    refine lp_gi (fun s y => y.2 = (s : Int) ∧ y.1 ≤ FARc ∧ 0 ≤ y.1 ∧ (∀ k, k < s → y.1 ≤ g 25 k + spS j o v (lag e k) (lag (e + 1) t)) ∧ (y.1 = FARc ∨ ∃ k, k < s ∧ y.1 = g 25 k + spS j o v (lag e k) (lag (e + 1) t))) (fun r => r ≤ FARc ∧ 0 ≤ r ∧ (∀ k, k < m e → r ≤ g 25 k + spS j o v (lag e k) (lag (e + 1) t)) ∧ (r = FARc ∨ ∃ k, k < m e ∧ r = g 25 k + spS j o v (lag e k) (lag (e + 1) t))) (m e) (by omega) ⟨rfl, Int.le_refl _, by decide, fun k hk => absurd hk (Nat.not_lt_zero _), Or.inl rfl⟩ ?_ ?_ ?_
    · rintro s ⟨r, w⟩ hs ⟨e1, q1, q2, q3, q4⟩
      simp only at e1 q1 q2 q3 q4
      subst e1
      dsimp only
      have ls := (hm0.2.2.2 s hs).2.1
      have sp := spS_r (j := j) (o := o) (v := v) hj ho hv ls lt1
      have b := bnd s hs
      unfold GB_X5_advance_18_3
      rw [et, hCz.size (show e < N by omega), cp_ok, ck_ok (by omega), ck_ok (by omega), if_neg (by omega), rdZ_at s rfl (by omega), z25, hCz.lag (show e < N by omega) hs, cp_ok, p9_price18 (by rw [zp]; exact h0) (by rw [zp]; exact h1) (by rw [zp]; exact h2) ls lt1, cp_ok, p_min z (by unfold FARc at *; omega) (by unfold FARc at *; omega), cp_ok, lt_ok]
      refine ⟨_, rfl, ?_⟩
      dsimp only
      by_cases c : g 25 s + spS j o v (lag e s) (lag (e + 1) t) < r
      · rw [if_pos c]
        refine ⟨by omega, by omega, by omega, fun k hk => ?_, Or.inr ⟨s, by omega, rfl⟩⟩
        by_cases ks : k = s
        · subst ks; exact Int.le_refl _
        · have := q3 k (by omega)
          omega
      · rw [if_neg c]
        refine ⟨by omega, q1, q2, fun k hk => ?_, ?_⟩
        · by_cases ks : k = s
          · subst ks; omega
          · exact q3 k (by omega)
        · rcases q4 with q4 | ⟨k, hk, q4⟩
          · exact Or.inl q4
          · exact Or.inr ⟨k, by omega, q4⟩
    · rintro ⟨r, w⟩ ⟨e1, q⟩
      simp only at e1 q
      subst e1
      dsimp only
      refine ⟨r, ?_, q⟩
      unfold GB_X5_advance_18_3
      rw [et, hCz.size (show e < N by omega), cp_ok, ck_ok (by omega), ck_ok (by omega), if_pos (by omega)]
    · rintro r ⟨q1, q2, q3, q4⟩
      unfold GC_X5_advance_18_4
      rw [hCz.own he ht, cp_ok, wrZ_at t rfl (by omega), lt_ok]
      refine ⟨_, rfl, ?_⟩
      dsimp only
      refine ⟨by omega, hF.wr (by decide), fun k hk => ?_⟩
      by_cases kt : k = t
      · subst kt
        rw [upZ_ss]
        refine HP.step (T := fun k => g 25 k) (by omega) hA ht ot (fun k' hk' => spS_r hj ho hv (hm0.2.2.2 k' hk').2.1 lt1) hrow ?_
        rcases q4 with q4 | q4
        · exact Or.inl ⟨q4, fun k' hk' => by have := q3 k' hk'; rw [q4] at this; exact this⟩
        · by_cases c : r < FARc
          · exact Or.inr ⟨c, q4, q3⟩
          · have e5 : r = FARc := by omega
            exact Or.inl ⟨e5, fun k' hk' => by have := q3 k' hk'; rw [e5] at this; exact this⟩
      · rw [upZ_sn (by omega)]
        exact hz k (by omega)
  · rintro ⟨w, z⟩ ⟨e1, hF, hz⟩
    simp only at e1 hF hz
    subst e1
    dsimp only
    refine ⟨z, ?_, hF, hz⟩
    have hCz := hC.cg (hF 11 6 (by decide) (by decide)) (hF.f 12 (by decide) (by decide)) (hF.f 13 (by decide) (by decide)) (hF.f 15 (by decide) (by decide))
    unfold GB_X5_advance_18_5
    rw [hCz.size he, cp_ok, ck_ok (by omega), ck_ok (by omega), if_pos (by omega)]
  · rintro z ⟨hF, hz⟩
    unfold GC_X5_advance_18_9
    refine lp_go (fun t y => y.1 = (t : Int) ∧ Fr [25] [] z y.2 ∧ ∀ k, k < t → y.2 25 k = z 26 k) (fun y => ∀ k, k < m (e + 1) → y 25 k = z 26 k) (m (e + 1)) (by omega) ⟨rfl, Fr.rf, fun k hk => absurd hk (Nat.not_lt_zero _)⟩ ?_ ?_ (fun q hq => ⟨q, rfl, fun k hk => by rw [hq k hk]; exact hz k hk⟩)
    · rintro t ⟨w, y⟩ ht ⟨e1, hG, hy⟩
      simp only at e1 hG hy
      subst e1
      dsimp only
      have hCz := hC.cg ((hG 11 6 (by decide) (by decide)).trans (hF 11 6 (by decide) (by decide))) ((hG.f 12 (by decide) (by decide)).trans (hF.f 12 (by decide) (by decide))) ((hG.f 13 (by decide) (by decide)).trans (hF.f 13 (by decide) (by decide))) ((hG.f 15 (by decide) (by decide)).trans (hF.f 15 (by decide) (by decide)))
      unfold GB_X5_advance_18_7
      rw [hCz.size he, cp_ok, ck_ok (by omega), ck_ok (by omega), if_neg (by omega), rdZ_at t rfl (by omega), hG.f 26 (by decide) (by decide), wrZ_at t rfl (by omega), lt_ok]
      refine ⟨_, rfl, ?_⟩
      dsimp only
      refine ⟨by omega, hG.wr (by decide), fun k hk => ?_⟩
      by_cases kt : k = t
      · subst kt
        exact upZ_ss _ _ _ _
      · rw [upZ_sn (by omega)]
        exact hy k (by omega)
    · rintro ⟨w, y⟩ ⟨e1, hG, hy⟩
      simp only at e1 hG hy
      subst e1
      dsimp only
      have hCz := hC.cg ((hG 11 6 (by decide) (by decide)).trans (hF 11 6 (by decide) (by decide))) ((hG.f 12 (by decide) (by decide)).trans (hF.f 12 (by decide) (by decide))) ((hG.f 13 (by decide) (by decide)).trans (hF.f 13 (by decide) (by decide))) ((hG.f 15 (by decide) (by decide)).trans (hF.f 15 (by decide) (by decide)))
      refine ⟨y, ?_, hy⟩
      unfold GB_X5_advance_18_7
      rw [hCz.size he, cp_ok, ck_ok (by omega), ck_ok (by omega), if_pos (by omega)]
