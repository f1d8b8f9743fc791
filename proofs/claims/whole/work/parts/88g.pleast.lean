/-! the class: the least of all, some being shut -/
theorem p5_shut17 {g : uZ} {N : Nat} {m : Nat → Nat} {lag : Nat → Nat → Nat} {own : Nat → Nat → Int} {st : Nat → Nat → Nat → Int} {A : Nat → Nat → Bool} {hf : Nat → Nat → Int} {a : Int} {t : Nat} (hC : CT N m lag own g) (ha : inR a) (ht : t < N) (h14 : ∀ k, k < m t → g 14 (6 * t + k) = hf t k ∧ -1 ≤ hf t k ∧ hf t k ≤ 6) (hA : ∀ k, A t k = (decide (a ≠ 0) || decide (hf t k = -1))) (hrow : ∀ k, k < m t → HP m own st (fun f k => decide (f = t) || A f k) t k (g 25 k)) : ∃ z, GJ_X5_leastOfAll_17_9 a (t : Int) g = some (.inl z) ∧ z.1 = ((t + 1 : Nat) : Int) ∧ Fr [25] [] g z.2 ∧ ∀ k, k < m t → HP m own st A t k (z.2 25 k) := by
  have hN := hC.2.1
  have hm := hC.2.2 t ht
  have sh : ∀ k, k < m t → HP m own st A t k (if A t k = true then g 25 k else FARc) := fun k hk => (hrow k hk).shut (fun f k hlt => by simp [Nat.ne_of_lt hlt]) (by simp)
  unfold GJ_X5_leastOfAll_17_9
  by_cases a0 : a = 0
  · refine lp_gi (fun s z => z.1 = (s : Int) ∧ Fr [25] [] g z.2 ∧ (∀ k, k < s → HP m own st A t k (z.2 25 k)) ∧ ∀ k, s ≤ k → z.2 25 k = g 25 k) (fun z => Fr [25] [] g z ∧ ∀ k, k < m t → HP m own st A t k (z 25 k)) (m t) (by omega) ⟨rfl, Fr.rf, fun k hk => absurd hk (Nat.not_lt_zero _), fun k _ => rfl⟩ ?_ ?_ ?_
    · rintro s ⟨w, z⟩ hs ⟨e1, hF, hz, hr⟩
      simp only at e1 hF hz hr
      subst e1
      dsimp only
      have hCz := hC.cg (hF 11 6 (by decide) (by decide)) (hF.f 12 (by decide) (by decide)) (hF.f 13 (by decide) (by decide)) (hF.f 15 (by decide) (by decide))
      have q := h14 s hs
      have zm : z 15 t = (m t : Int) := by rw [hF.f 15 (by decide) (by decide)]; exact hm.2.2.1
      have hAs := hA s
      have shs := sh s hs
      unfold GB_X5_leastOfAll_17_7 GJ_X5_leastOfAll_17_6
      rw [ck_ok ha, if_pos a0, hCz.size ht, cp_ok, ck_ok (by omega), ck_ok (by omega), if_neg (by omega), p1_halfOf (hCz.1) hN ht zm hm.2.1 hs, cp_ok, hF.f 14 (by decide) (by decide), q.1, ck_ok (by omega)]
      by_cases c : hf t s = -1
      · have At : A t s = true := by rw [hAs]; simp [c]
        rw [if_pos At] at shs
        rw [if_pos c, rdZ_at s rfl (by omega), hr s (Nat.le_refl _), wrZ_at s rfl (by omega), lt_ok]
        refine ⟨_, rfl, ?_⟩
        dsimp only
        refine ⟨by omega, hF.wr (by decide), fun k hk => ?_, fun k hk => ?_⟩
        · by_cases ks : k = s
          · subst ks
            rw [upZ_ss]
            exact shs
          · rw [upZ_sn (by omega)]
            exact hz k (by omega)
        · rw [upZ_sn (by omega)]
          exact hr k (by omega)
      · have At : ¬ A t s = true := by rw [hAs]; simp [c, a0]
        rw [if_neg At] at shs
        rw [if_neg c, wrZ_at s rfl (by omega), lt_ok]
        refine ⟨_, rfl, ?_⟩
        dsimp only
        refine ⟨by omega, hF.wr (by decide), fun k hk => ?_, fun k hk => ?_⟩
        · by_cases ks : k = s
          · subst ks
            rw [upZ_ss]
            exact shs
          · rw [upZ_sn (by omega)]
            exact hz k (by omega)
        · rw [upZ_sn (by omega)]
          exact hr k (by omega)
    · rintro ⟨w, z⟩ ⟨e1, hF, hz, -⟩
      simp only at e1 hF hz
      subst e1
      dsimp only
      have hCz := hC.cg (hF 11 6 (by decide) (by decide)) (hF.f 12 (by decide) (by decide)) (hF.f 13 (by decide) (by decide)) (hF.f 15 (by decide) (by decide))
      refine ⟨z, ?_, hF, hz⟩
      unfold GB_X5_leastOfAll_17_7
      rw [ck_ok ha, if_pos a0, hCz.size ht, cp_ok, ck_ok (by omega), ck_ok (by omega), if_pos (by omega)]
    · rintro z ⟨hF, hz⟩
      unfold GC_X5_leastOfAll_17_8
      rw [lt_ok]
      exact ⟨_, rfl, by dsimp only; omega, hF, hz⟩
  · rw [lp_for (fun _ => ((0 : Int), g)) 0 g (by rfl) (by omega) (fun i hi => by omega) (by
      dsimp only
      unfold GB_X5_leastOfAll_17_7
      rw [ck_ok ha, if_neg a0])]
    unfold GC_X5_leastOfAll_17_8
    rw [lt_ok]
    refine ⟨_, rfl, by dsimp only; omega, Fr.rf, fun k hk => ?_⟩
    have := sh k hk
    rw [if_pos (by rw [hA k]; simp [a0])] at this
    exact this
theorem p5_least17 {g : uZ} {N : Nat} {m : Nat → Nat} {lag : Nat → Nat → Nat} {own : Nat → Nat → Int} {A : Nat → Nat → Bool} {hf : Nat → Nat → Int} {a : Int} {j o v : Nat} (hC : CT N m lag own g) (h16 : g 16 12 = N) (ha : inR a) (h0 : g 17 0 = j) (h1 : g 17 1 = o) (h2 : g 17 2 = v) (hj : j ≤ 50) (ho : o ≤ 2000) (hv : v ≤ 2000) (hN1 : 1 ≤ N) (h14 : ∀ t, t < N → ∀ k, k < m t → g 14 (6 * t + k) = hf t k ∧ -1 ≤ hf t k ∧ hf t k ≤ 6) (hA : ∀ t k, A t k = (decide (a ≠ 0) || decide (hf t k = -1))) (hex : ∃ q, aP m A q 0 (N - 1)) : ∃ z, GF_X5_leastOfAll_17 a g = some z ∧ PM m own (fun e a b => spS j o v (lag e a) (lag (e + 1) b)) A (N - 1) z.1 := by
  have hN := hC.2.1
  unfold GF_X5_leastOfAll_17
  rw [h16, ck_ok (by omega), if_neg (by omega)]
  refine lp_go (fun t z => z.1 = (t : Int) ∧ Fr [25, 26] [] g z.2 ∧ ∀ e, t = e + 1 → ∀ k, k < m e → HP m own (fun e a b => spS j o v (lag e a) (lag (e + 1) b)) A e k (z.2 25 k)) (fun z => Fr [25, 26] [] g z ∧ ∀ k, k < m (N - 1) → HP m own (fun e a b => spS j o v (lag e a) (lag (e + 1) b)) A (N - 1) k (z 25 k)) N (by omega) ⟨rfl, Fr.rf, fun e he => by omega⟩ ?_ ?_ ?_
  · rintro t ⟨w, z⟩ ht ⟨e1, hF, hz⟩
    simp only at e1 hF hz
    subst e1
    dsimp only
    have hm := hC.2.2 t ht
    have hCz := hC.cg (hF 11 6 (by decide) (by decide)) (hF.f 12 (by decide) (by decide)) (hF.f 13 (by decide) (by decide)) (hF.f 15 (by decide) (by decide))
    have z16 : z 16 12 = (N : Int) := (hF 16 12 (by decide) (by decide)).trans h16
    have tail : ∀ y : uZ, Fr [25, 26] [] g y → (∀ k, k < m t → HP m own (fun e a b => spS j o v (lag e a) (lag (e + 1) b)) (fun f k => decide (f = t) || A f k) t k (y 25 k)) → ∃ a', GJ_X5_leastOfAll_17_9 a (t : Int) y = some (.inl a') ∧ a'.1 = ((t + 1 : Nat) : Int) ∧ Fr [25, 26] [] g a'.2 ∧ ∀ e, t + 1 = e + 1 → ∀ k, k < m e → HP m own (fun e a b => spS j o v (lag e a) (lag (e + 1) b)) A e k (a'.2 25 k) := by
      intro y hG hy
      have hCy := hC.cg (hG 11 6 (by decide) (by decide)) (hG.f 12 (by decide) (by decide)) (hG.f 13 (by decide) (by decide)) (hG.f 15 (by decide) (by decide))
      obtain ⟨x, q1, q2, q3, q4⟩ := p5_shut17 (hf := hf) (A := A) hCy ha ht (by rw [hG.f 14 (by decide) (by decide)]; exact h14 t ht) (hA t) hy
      refine ⟨x, q1, q2, hG.tr q3 (by decide) (by decide), fun e he => ?_⟩
      obtain rfl : e = t := by omega
      exact q4
    unfold GB_X5_leastOfAll_17_10
    rw [z16, ck_ok (by omega), ck_ok (by omega), if_neg (by omega)]
    by_cases t0 : t = 0
    · subst t0
      rw [if_pos (by omega)]
      refine lp_gi (fun s y => y.1 = (s : Int) ∧ Fr [25, 26] [] g y.2 ∧ ∀ k, k < s → y.2 25 k = own 0 k) (fun y => Fr [25, 26] [] g y ∧ ∀ k, k < m 0 → y 25 k = own 0 k) (m 0) (by omega) ⟨rfl, hF, fun k hk => absurd hk (Nat.not_lt_zero _)⟩ ?_ ?_ ?_
      · rintro s ⟨w, y⟩ hs ⟨e1, hG, hy⟩
        simp only at e1 hG hy
        subst e1
        dsimp only
        have hCy := hC.cg (hG 11 6 (by decide) (by decide)) (hG.f 12 (by decide) (by decide)) (hG.f 13 (by decide) (by decide)) (hG.f 15 (by decide) (by decide))
        have sz := hCy.size ht
        have ow := hCy.own ht hs
        rw [show ((0 : Nat) : Int) = 0 from rfl] at sz ow
        unfold GB_X5_leastOfAll_17_3
        rw [sz, cp_ok, ck_ok (by omega), ck_ok (by omega), if_neg (by omega), ow, cp_ok, wrZ_at s rfl (by omega), lt_ok]
        refine ⟨_, rfl, ?_⟩
        dsimp only
        refine ⟨by omega, hG.wr (by decide), fun k hk => ?_⟩
        by_cases ks : k = s
        · subst ks
          exact upZ_ss _ _ _ _
        · rw [upZ_sn (by omega)]
          exact hy k (by omega)
      · rintro ⟨w, y⟩ ⟨e1, hG, hy⟩
        simp only at e1 hG hy
        subst e1
        dsimp only
        have hCy := hC.cg (hG 11 6 (by decide) (by decide)) (hG.f 12 (by decide) (by decide)) (hG.f 13 (by decide) (by decide)) (hG.f 15 (by decide) (by decide))
        have sz := hCy.size ht
        rw [show ((0 : Nat) : Int) = 0 from rfl] at sz
        refine ⟨y, ?_, hG, hy⟩
        unfold GB_X5_leastOfAll_17_3
        rw [sz, cp_ok, ck_ok (by omega), ck_ok (by omega), if_pos (by omega)]
      · rintro y ⟨hG, hy⟩
        unfold GC_X5_leastOfAll_17_4
        refine tail y hG (fun k hk => ?_)
        have ob := (hm.2.2.2 k hk).2.2.2
        rw [hy k hk]
        refine Or.inr ⟨ob.1, by omega, ⟨fun _ => k, fun j' _ hj' => ?_, rfl, rfl⟩, fun q _ hq => ?_⟩
        · obtain rfl : j' = 0 := by omega
          exact ⟨hk, by simp⟩
        · have : cst own (fun e a b => spS j o v (lag e a) (lag (e + 1) b)) q 0 = own 0 (q 0) := rfl
          rw [this, hq]
          exact Int.le_refl _
    · obtain ⟨e, rfl⟩ : ∃ e, t = e + 1 := ⟨t - 1, by omega⟩
      have z17 : z 17 = g 17 := hF.f 17 (by decide) (by decide)
      obtain ⟨y, q1, q2⟩ := p5_advance17 (A := fun f k => decide (f = e + 1) || A f k) hCz (by rw [z17]; exact h0) (by rw [z17]; exact h1) (by rw [z17]; exact h2) hj ho hv ht (fun k => by simp) (fun k hk => (hz e rfl k hk).cg (fun f k' hlt => by simp [Nat.ne_of_lt (Nat.lt_succ_of_le hlt)]))
      rw [if_neg (by omega), q1, cp_ok]
      exact tail y (hF.tr (fF_X5_advance_17 Fr.rf q1) (by decide) (by decide)) q2
  · rintro ⟨w, z⟩ ⟨e1, hF, hz⟩
    simp only at e1 hF hz
    subst e1
    dsimp only
    refine ⟨z, ?_, hF, hz (N - 1) (by omega)⟩
    have z16 : z 16 12 = (N : Int) := (hF 16 12 (by decide) (by decide)).trans h16
    unfold GB_X5_leastOfAll_17_10
    rw [z16, ck_ok (by omega), ck_ok (by omega), if_pos (by omega)]
  · rintro z ⟨hF, hz⟩
    have hm := hC.2.2 (N - 1) (by omega)
    have hCz := hC.cg (hF 11 6 (by decide) (by decide)) (hF.f 12 (by decide) (by decide)) (hF.f 13 (by decide) (by decide)) (hF.f 15 (by decide) (by decide))
    have z16 : z 16 12 = (N : Int) := (hF 16 12 (by decide) (by decide)).trans h16
    have eN : ((N : Int) - 1) = ((N - 1 : Nat) : Int) := by omega
    have bnd : ∀ k, k < m (N - 1) → 0 ≤ z 25 k ∧ z 25 k ≤ FARc + 60000 := fun k hk => by
      rcases hz k hk with ⟨b1, b2, -⟩ | ⟨b1, b2, -⟩
      · unfold FARc at *; omega
      · unfold FARc at *; omega
    unfold GC_X5_leastOfAll_17_14
    refine lp_go (fun s y => y.2 = (s : Int) ∧ y.1 ≤ FARc ∧ 0 ≤ y.1 ∧ (∀ k, k < s → y.1 ≤ z 25 k) ∧ (y.1 = FARc ∨ ∃ k, k < s ∧ y.1 = z 25 k)) (fun r => r ≤ FARc ∧ 0 ≤ r ∧ (∀ k, k < m (N - 1) → r ≤ z 25 k) ∧ (r = FARc ∨ ∃ k, k < m (N - 1) ∧ r = z 25 k)) (m (N - 1)) (by omega) ⟨rfl, Int.le_refl _, by decide, fun k hk => absurd hk (Nat.not_lt_zero _), Or.inl rfl⟩ ?_ ?_ ?_
    · rintro s ⟨r, w⟩ hs ⟨e1, q1, q2, q3, q4⟩
      simp only at e1 q1 q2 q3 q4
      subst e1
      dsimp only
      have b := bnd s hs
      unfold GB_X5_leastOfAll_17_12
      rw [z16, eN, hCz.size (by omega), cp_ok, ck_ok (by omega), ck_ok (by omega), if_neg (by omega), rdZ_at s rfl (by omega), p_min z (by unfold FARc at *; omega) (by unfold FARc at *; omega), cp_ok, lt_ok]
      refine ⟨_, rfl, ?_⟩
      dsimp only
      by_cases c : z 25 s < r
      · rw [if_pos c]
        refine ⟨by omega, by omega, by omega, fun k hk => ?_, Or.inr ⟨s, by omega, rfl⟩⟩
        by_cases ks : k = s
        · subst ks; exact Int.le_refl _
        · have := q3 k (by omega)
          omega
      · rw [if_neg c]
        refine ⟨by omega, q1, q2, fun k hk => ?_, ?_⟩
        · by_cases ks : k = s
          · subst ks; omega
          · exact q3 k (by omega)
        · rcases q4 with q4 | ⟨k, hk, q4⟩
          · exact Or.inl q4
          · exact Or.inr ⟨k, by omega, q4⟩
    · rintro ⟨r, w⟩ ⟨e1, q⟩
      simp only at e1 q
      subst e1
      dsimp only
      refine ⟨r, ?_, q⟩
      unfold GB_X5_leastOfAll_17_12
      rw [z16, eN, hCz.size (by omega), cp_ok, ck_ok (by omega), ck_ok (by omega), if_pos (by omega)]
    · rintro r ⟨q1, q2, q3, q4⟩
      refine ⟨_, rfl, HP.last (T := fun k => z 25 k) (by omega) hz ?_ hex⟩
      rcases q4 with q4 | q4
      · exact Or.inl ⟨q4, fun k' hk' => by have := q3 k' hk'; rw [q4] at this; exact this⟩
      · by_cases c : r < FARc
        · exact Or.inr ⟨c, q4, q3⟩
        · have e5 : r = FARc := by omega
          exact Or.inl ⟨e5, fun k' hk' => by have := q3 k' hk'; rw [e5] at this; exact this⟩
theorem p5_shut18 {g : uZ} {N : Nat} {m : Nat → Nat} {lag : Nat → Nat → Nat} {own : Nat → Nat → Int} {st : Nat → Nat → Nat → Int} {A : Nat → Nat → Bool} {hf : Nat → Nat → Int} {a : Int} {t : Nat} (hC : CT N m lag own g) (ha : inR a) (ht : t < N) (h14 : ∀ k, k < m t → g 14 (6 * t + k) = hf t k ∧ -1 ≤ hf t k ∧ hf t k ≤ 6) (hA : ∀ k, A t k = (decide (a ≠ 0) || decide (hf t k = -1))) (hrow : ∀ k, k < m t → HP m own st (fun f k => decide (f = t) || A f k) t k (g 25 k)) : ∃ z, GJ_X5_leastOfAll_18_9 a (t : Int) g = some (.inl z) ∧ z.1 = ((t + 1 : Nat) : Int) ∧ Fr [25] [] g z.2 ∧ ∀ k, k < m t → HP m own st A t k (z.2 25 k) := by
  have hN := hC.2.1
  have hm := hC.2.2 t ht
  have sh : ∀ k, k < m t → HP m own st A t k (if A t k = true then g 25 k else FARc) := fun k hk => (hrow k hk).shut (fun f k hlt => by simp [Nat.ne_of_lt hlt]) (by simp)
  unfold GJ_X5_leastOfAll_18_9
  by_cases a0 : a = 0
  · refine lp_gi (fun s z => z.1 = (s : Int) ∧ Fr [25] [] g z.2 ∧ (∀ k, k < s → HP m own st A t k (z.2 25 k)) ∧ ∀ k, s ≤ k → z.2 25 k = g 25 k) (fun z => Fr [25] [] g z ∧ ∀ k, k < m t → HP m own st A t k (z 25 k)) (m t) (by omega) ⟨rfl, Fr.rf, fun k hk => absurd hk (Nat.not_lt_zero _), fun k _ => rfl⟩ ?_ ?_ ?_
    · rintro s ⟨w, z⟩ hs ⟨e1, hF, hz, hr⟩
      simp only at e1 hF hz hr
      subst e1
      dsimp only
      have hCz := hC.cg (hF 11 6 (by decide) (by decide)) (hF.f 12 (by decide) (by decide)) (hF.f 13 (by decide) (by decide)) (hF.f 15 (by decide) (by decide))
      have q := h14 s hs
      have zm : z 15 t = (m t : Int) := by rw [hF.f 15 (by decide) (by decide)]; exact hm.2.2.1
      have hAs := hA s
      have shs := sh s hs
      unfold GB_X5_leastOfAll_18_7 GJ_X5_leastOfAll_18_6
      rw [ck_ok ha, if_pos a0, hCz.size ht, cp_ok, ck_ok (by omega), ck_ok (by omega), if_neg (by omega), p1_halfOf (hCz.1) hN ht zm hm.2.1 hs, cp_ok, hF.f 14 (by decide) (by decide), q.1, ck_ok (by omega)]
      by_cases c : hf t s = -1
      · have At : A t s = true := by rw [hAs]; simp [c]
        rw [if_pos At] at shs
        rw [if_pos c, rdZ_at s rfl (by omega), hr s (Nat.le_refl _), wrZ_at s rfl (by omega), lt_ok]
        refine ⟨_, rfl, ?_⟩
        dsimp only
        refine ⟨by omega, hF.wr (by decide), fun k hk => ?_, fun k hk => ?_⟩
        · by_cases ks : k = s
          · subst ks
            rw [upZ_ss]
            exact shs
          · rw [upZ_sn (by omega)]
            exact hz k (by omega)
        · rw [upZ_sn (by omega)]
          exact hr k (by omega)
      · have At : ¬ A t s = true := by rw [hAs]; simp [c, a0]
        rw [if_neg At] at shs
        rw [if_neg c, wrZ_at s rfl (by omega), lt_ok]
        refine ⟨_, rfl, ?_⟩
        dsimp only
        refine ⟨by omega, hF.wr (by decide), fun k hk => ?_, fun k hk => ?_⟩
        · by_cases ks : k = s
          · subst ks
            rw [upZ_ss]
            exact shs
          · rw [upZ_sn (by omega)]
            exact hz k (by omega)
        · rw [upZ_sn (by omega)]
          exact hr k (by omega)
    · rintro ⟨w, z⟩ ⟨e1, hF, hz, -⟩
      simp only at e1 hF hz
      subst e1
      dsimp only
      have hCz := hC.cg (hF 11 6 (by decide) (by decide)) (hF.f 12 (by decide) (by decide)) (hF.f 13 (by decide) (by decide)) (hF.f 15 (by decide) (by decide))
      refine ⟨z, ?_, hF, hz⟩
      unfold GB_X5_leastOfAll_18_7
      rw [ck_ok ha, if_pos a0, hCz.size ht, cp_ok, ck_ok (by omega), ck_ok (by omega), if_pos (by omega)]
    · rintro z ⟨hF, hz⟩
      unfold GC_X5_leastOfAll_18_8
      rw [lt_ok]
      exact ⟨_, rfl, by dsimp only; omega, hF, hz⟩
  · rw [lp_for (fun _ => ((0 : Int), g)) 0 g (by rfl) (by omega) (fun i hi => by omega) (by
      dsimp only
      unfold GB_X5_leastOfAll_18_7
      rw [ck_ok ha, if_neg a0])]
    unfold GC_X5_leastOfAll_18_8
    rw [lt_ok]
    refine ⟨_, rfl, by dsimp only; omega, Fr.rf, fun k hk => ?_⟩
    have := sh k hk
    rw [if_pos (by rw [hA k]; simp [a0])] at this
    exact this
theorem p5_least18 {g : uZ} {N : Nat} {m : Nat → Nat} {lag : Nat → Nat → Nat} {own : Nat → Nat → Int} {A : Nat → Nat → Bool} {hf : Nat → Nat → Int} {a : Int} {j o v : Nat} (hC : CT N m lag own g) (h16 : g 16 12 = N) (ha : inR a) (h0 : g 18 0 = j) (h1 : g 18 1 = o) (h2 : g 18 2 = v) (hj : j ≤ 50) (ho : o ≤ 2000) (hv : v ≤ 2000) (hN1 : 1 ≤ N) (h14 : ∀ t, t < N → ∀ k, k < m t → g 14 (6 * t + k) = hf t k ∧ -1 ≤ hf t k ∧ hf t k ≤ 6) (hA : ∀ t k, A t k = (decide (a ≠ 0) || decide (hf t k = -1))) (hex : ∃ q, aP m A q 0 (N - 1)) : ∃ z, GF_X5_leastOfAll_18 a g = some z ∧ PM m own (fun e a b => spS j o v (lag e a) (lag (e + 1) b)) A (N - 1) z.1 := by
  have hN := hC.2.1
  unfold GF_X5_leastOfAll_18
  rw [h16, ck_ok (by omega), if_neg (by omega)]
  refine lp_go (fun t z => z.1 = (t : Int) ∧ Fr [25, 26] [] g z.2 ∧ ∀ e, t = e + 1 → ∀ k, k < m e → HP m own (fun e a b => spS j o v (lag e a) (lag (e + 1) b)) A e k (z.2 25 k)) (fun z => Fr [25, 26] [] g z ∧ ∀ k, k < m (N - 1) → HP m own (fun e a b => spS j o v (lag e a) (lag (e + 1) b)) A (N - 1) k (z 25 k)) N (by omega) ⟨rfl, Fr.rf, fun e he => by omega⟩ ?_ ?_ ?_
  · rintro t ⟨w, z⟩ ht ⟨e1, hF, hz⟩
    simp only at e1 hF hz
    subst e1
    dsimp only
    have hm := hC.2.2 t ht
    have hCz := hC.cg (hF 11 6 (by decide) (by decide)) (hF.f 12 (by decide) (by decide)) (hF.f 13 (by decide) (by decide)) (hF.f 15 (by decide) (by decide))
    have z16 : z 16 12 = (N : Int) := (hF 16 12 (by decide) (by decide)).trans h16
    have tail : ∀ y : uZ, Fr [25, 26] [] g y → (∀ k, k < m t → HP m own (fun e a b => spS j o v (lag e a) (lag (e + 1) b)) (fun f k => decide (f = t) || A f k) t k (y 25 k)) → ∃ a', GJ_X5_leastOfAll_18_9 a (t : Int) y = some (.inl a') ∧ a'.1 = ((t + 1 : Nat) : Int) ∧ Fr [25, 26] [] g a'.2 ∧ ∀ e, t + 1 = e + 1 → ∀ k, k < m e → HP m own (fun e a b => spS j o v (lag e a) (lag (e + 1) b)) A e k (a'.2 25 k) := by
      intro y hG hy
      have hCy := hC.cg (hG 11 6 (by decide) (by decide)) (hG.f 12 (by decide) (by decide)) (hG.f 13 (by decide) (by decide)) (hG.f 15 (by decide) (by decide))
      obtain ⟨x, q1, q2, q3, q4⟩ := p5_shut18 (hf := hf) (A := A) hCy ha ht (by rw [hG.f 14 (by decide) (by decide)]; exact h14 t ht) (hA t) hy
      refine ⟨x, q1, q2, hG.tr q3 (by decide) (by decide), fun e he => ?_⟩
      obtain rfl : e = t := by omega
      exact q4
    unfold GB_X5_leastOfAll_18_10
    rw [z16, ck_ok (by omega), ck_ok (by omega), if_neg (by omega)]
    by_cases t0 : t = 0
    · subst t0
      rw [if_pos (by omega)]
      refine lp_gi (fun s y => y.1 = (s : Int) ∧ Fr [25, 26] [] g y.2 ∧ ∀ k, k < s → y.2 25 k = own 0 k) (fun y => Fr [25, 26] [] g y ∧ ∀ k, k < m 0 → y 25 k = own 0 k) (m 0) (by omega) ⟨rfl, hF, fun k hk => absurd hk (Nat.not_lt_zero _)⟩ ?_ ?_ ?_
      · rintro s ⟨w, y⟩ hs ⟨e1, hG, hy⟩
        simp only at e1 hG hy
        subst e1
        dsimp only
        have hCy := hC.cg (hG 11 6 (by decide) (by decide)) (hG.f 12 (by decide) (by decide)) (hG.f 13 (by decide) (by decide)) (hG.f 15 (by decide) (by decide))
        have sz := hCy.size ht
        have ow := hCy.own ht hs
        rw [show ((0 : Nat) : Int) = 0 from rfl] at sz ow
        unfold GB_X5_leastOfAll_18_3
        rw [sz, cp_ok, ck_ok (by omega), ck_ok (by omega), if_neg (by omega), ow, cp_ok, wrZ_at s rfl (by omega), lt_ok]
        refine ⟨_, rfl, ?_⟩
        dsimp only
        refine ⟨by omega, hG.wr (by decide), fun k hk => ?_⟩
        by_cases ks : k = s
        · subst ks
          exact upZ_ss _ _ _ _
        · rw [upZ_sn (by omega)]
          exact hy k (by omega)
      · rintro ⟨w, y⟩ ⟨e1, hG, hy⟩
        simp only at e1 hG hy
        subst e1
        dsimp only
        have hCy := hC.cg (hG 11 6 (by decide) (by decide)) (hG.f 12 (by decide) (by decide)) (hG.f 13 (by decide) (by decide)) (hG.f 15 (by decide) (by decide))
        have sz := hCy.size ht
        rw [show ((0 : Nat) : Int) = 0 from rfl] at sz
        refine ⟨y, ?_, hG, hy⟩
        unfold GB_X5_leastOfAll_18_3
        rw [sz, cp_ok, ck_ok (by omega), ck_ok (by omega), if_pos (by omega)]
      · rintro y ⟨hG, hy⟩
        unfold GC_X5_leastOfAll_18_4
        refine tail y hG (fun k hk => ?_)
        have ob := (hm.2.2.2 k hk).2.2.2
        rw [hy k hk]
        refine Or.inr ⟨ob.1, by omega, ⟨fun _ => k, fun j' _ hj' => ?_, rfl, rfl⟩, fun q _ hq => ?_⟩
        · obtain rfl : j' = 0 := by omega
          exact ⟨hk, by simp⟩
        · have : cst own (fun e a b => spS j o v (lag e a) (lag (e + 1) b)) q 0 = own 0 (q 0) := rfl
          rw [this, hq]
          exact Int.le_refl _
    · obtain ⟨e, rfl⟩ : ∃ e, t = e + 1 := ⟨t - 1, by omega⟩
      have z17 : z 18 = g 18 := hF.f 18 (by decide) (by decide)
      obtain ⟨y, q1, q2⟩ := p5_advance18 (A := fun f k => decide (f = e + 1) || A f k) hCz (by rw [z17]; exact h0) (by rw [z17]; exact h1) (by rw [z17]; exact h2) hj ho hv ht (fun k => by simp) (fun k hk => (hz e rfl k hk).cg (fun f k' hlt => by simp [Nat.ne_of_lt (Nat.lt_succ_of_le hlt)]))
      rw [if_neg (by omega), q1, cp_ok]
      exact tail y (hF.tr (fF_X5_advance_18 Fr.rf q1) (by decide) (by decide)) q2
  · rintro ⟨w, z⟩ ⟨e1, hF, hz⟩
    simp only at e1 hF hz
    subst e1
    dsimp only
    refine ⟨z, ?_, hF, hz (N - 1) (by omega)⟩
    have z16 : z 16 12 = (N : Int) := (hF 16 12 (by decide) (by decide)).trans h16
    unfold GB_X5_leastOfAll_18_10
    rw [z16, ck_ok (by omega), ck_ok (by omega), if_pos (by omega)]
  · rintro z ⟨hF, hz⟩
    have hm := hC.2.2 (N - 1) (by omega)
    have hCz := hC.cg (hF 11 6 (by decide) (by decide)) (hF.f 12 (by decide) (by decide)) (hF.f 13 (by decide) (by decide)) (hF.f 15 (by decide) (by decide))
    have z16 : z 16 12 = (N : Int) := (hF 16 12 (by decide) (by decide)).trans h16
    have eN : ((N : Int) - 1) = ((N - 1 : Nat) : Int) := by omega
    have bnd : ∀ k, k < m (N - 1) → 0 ≤ z 25 k ∧ z 25 k ≤ FARc + 60000 := fun k hk => by
      rcases hz k hk with ⟨b1, b2, -⟩ | ⟨b1, b2, -⟩
      · unfold FARc at *; omega
      · unfold FARc at *; omega
    unfold GC_X5_leastOfAll_18_14
    refine lp_go (fun s y => y.2 = (s : Int) ∧ y.1 ≤ FARc ∧ 0 ≤ y.1 ∧ (∀ k, k < s → y.1 ≤ z 25 k) ∧ (y.1 = FARc ∨ ∃ k, k < s ∧ y.1 = z 25 k)) (fun r => r ≤ FARc ∧ 0 ≤ r ∧ (∀ k, k < m (N - 1) → r ≤ z 25 k) ∧ (r = FARc ∨ ∃ k, k < m (N - 1) ∧ r = z 25 k)) (m (N - 1)) (by omega) ⟨rfl, Int.le_refl _, by decide, fun k hk => absurd hk (Nat.not_lt_zero _), Or.inl rfl⟩ ?_ ?_ ?_
    · rintro s ⟨r, w⟩ hs ⟨e1, q1, q2, q3, q4⟩
      simp only at e1 q1 q2 q3 q4
      subst e1
      dsimp only
      have b := bnd s hs
      unfold GB_X5_leastOfAll_18_12
      rw [z16, eN, hCz.size (by omega), cp_ok, ck_ok (by omega), ck_ok (by omega), if_neg (by omega), rdZ_at s rfl (by omega), p_min z (by unfold FARc at *; omega) (by unfold FARc at *; omega), cp_ok, lt_ok]
      refine ⟨_, rfl, ?_⟩
      dsimp only
      by_cases c : z 25 s < r
      · rw [if_pos c]
        refine ⟨by omega, by omega, by omega, fun k hk => ?_, Or.inr ⟨s, by omega, rfl⟩⟩
        by_cases ks : k = s
        · subst ks; exact Int.le_refl _
        · have := q3 k (by omega)
          omega
      · rw [if_neg c]
        refine ⟨by omega, q1, q2, fun k hk => ?_, ?_⟩
        · by_cases ks : k = s
          · subst ks; omega
          · exact q3 k (by omega)
        · rcases q4 with q4 | ⟨k, hk, q4⟩
          · exact Or.inl q4
          · exact Or.inr ⟨k, by omega, q4⟩
    · rintro ⟨r, w⟩ ⟨e1, q⟩
      simp only at e1 q
      subst e1
      dsimp only
      refine ⟨r, ?_, q⟩
      unfold GB_X5_leastOfAll_18_12
      rw [z16, eN, hCz.size (by omega), cp_ok, ck_ok (by omega), ck_ok (by omega), if_pos (by omega)]
    · rintro r ⟨q1, q2, q3, q4⟩
      refine ⟨_, rfl, HP.last (T := fun k => z 25 k) (by omega) hz ?_ hex⟩
      rcases q4 with q4 | q4
      · exact Or.inl ⟨q4, fun k' hk' => by have := q3 k' hk'; rw [q4] at this; exact this⟩
      · by_cases c : r < FARc
        · exact Or.inr ⟨c, q4, q3⟩
        · have e5 : r = FARc := by omega
          exact Or.inl ⟨e5, fun k' hk' => by have := q3 k' hk'; rw [e5] at this; exact this⟩
