/-! the steadiest run -/
def runS (L : Nat → Int) (N a l : Nat) : Prop := 1 ≤ l ∧ a + l ≤ N ∧ L a ≠ 0 ∧ ∀ j, j < l → L (a + j) = L a
def stS (L : Nat → Int) (N : Nat) (a l : Int) : Prop := (a = -1 ∧ l = 0 ∧ ∀ b m, ¬ runS L N b m) ∨ ∃ c k : Nat, a = (c : Int) ∧ l = (k : Int) ∧ runS L N c k ∧ ∀ b m, runS L N b m → m ≤ k ∧ (m = k → c ≤ b)
theorem stS.uniq {L : Nat → Int} {N : Nat} {a l b k : Int} (h1 : stS L N a l) (h2 : stS L N b k) : a = b ∧ l = k := by
  rcases h1 with ⟨p1, p2, p3⟩ | ⟨c, d, p1, p2, p3, p4⟩ <;> rcases h2 with ⟨q1, q2, q3⟩ | ⟨c', d', q1, q2, q3, q4⟩
  · omega
  · exact absurd q3 (p3 _ _)
  · exact absurd p3 (q3 _ _)
  · have r1 := p4 _ _ q3
    have r2 := q4 _ _ p3
    have e : d = d' := by omega
    have r3 := r1.2 e.symm
    have r4 := r2.2 e
    omega
theorem stS.zero (L : Nat → Int) : stS L 0 (-1) 0 := Or.inl ⟨rfl, rfl, fun b m h => by have h1 := h.1; have h2 := h.2.1; omega⟩
theorem runS.bd {L : Nat → Int} {N b m w t t' : Nat} (h : runS L N b m) (hbt : t < b + m) (hwt : w ≤ t) (hw : ∀ j, w ≤ j → j < t' → L j = L w) (hb : w = 0 ∨ L (w - 1) ≠ L w) : w ≤ b := by
  rcases Nat.lt_or_ge b w with q | q
  · exfalso
    rcases hb with hb | hb
    · omega
    · have h1 := h.2.2.2 (w - 1 - b) (by omega)
      have h2 := h.2.2.2 (w - b) (by omega)
      rw [show b + (w - 1 - b) = w - 1 by omega] at h1
      rw [show b + (w - b) = w by omega] at h2
      exact hb (h1.trans h2.symm)
  · exact q
theorem runS.less {L : Nat → Int} {N M b m : Nat} (h : runS L N b m) (hM : b + m ≤ M) : runS L M b m := ⟨h.1, hM, h.2.2⟩
theorem stS.ext {L : Nat → Int} {t t' w : Nat} {a l : Int} (h : stS L t a l) (htt : t < t') (hwt : w ≤ t) (hw : ∀ j, w ≤ j → j < t' → L j = L w) (hb : w = 0 ∨ L (w - 1) ≠ L w) : (L w = 0 → stS L t' a l) ∧ (L w ≠ 0 → (t' : Int) - w ≤ l → stS L t' a l) ∧ (L w ≠ 0 → l < (t' : Int) - w → stS L t' w ((t' : Int) - w)) := by
  have hnew : ∀ b m, runS L t' b m → t < b + m → w ≤ b := fun b m hr hlt => hr.bd hlt hwt hw hb
  refine ⟨fun h0 => ?_, fun h0 hl => ?_, fun h0 hl => ?_⟩
  · have hno : ∀ b m, runS L t' b m → runS L t b m := fun b m hr => by
      rcases Nat.lt_or_ge t (b + m) with q | q
      · have h1 := hnew b m hr q
        have h2 := hr.2.2.1
        have h3 := hr.1
        have h4 := hr.2.1
        rw [hw b h1 (by omega)] at h2
        exact absurd h0 h2
      · exact hr.less q
    rcases h with ⟨p1, p2, p3⟩ | ⟨c, d, p1, p2, p3, p4⟩
    · exact Or.inl ⟨p1, p2, fun b m hr => p3 b m (hno b m hr)⟩
    · exact Or.inr ⟨c, d, p1, p2, ⟨p3.1, by have := p3.2.1; omega, p3.2.2⟩, fun b m hr => p4 b m (hno b m hr)⟩
  · rcases h with ⟨p1, p2, p3⟩ | ⟨c, d, p1, p2, p3, p4⟩
    · omega
    · refine Or.inr ⟨c, d, p1, p2, ⟨p3.1, by have := p3.2.1; omega, p3.2.2⟩, fun b m hr => ?_⟩
      rcases Nat.lt_or_ge t (b + m) with q | q
      · have h1 := hnew b m hr q
        have h4 := hr.2.1
        have h5 := p3.2.1
        omega
      · exact p4 b m (hr.less q)
  · refine Or.inr ⟨w, t' - w, rfl, by omega, ⟨by omega, by omega, h0, fun j hj => hw _ (by omega) (by omega)⟩, fun b m hr => ?_⟩
    rcases Nat.lt_or_ge t (b + m) with q | q
    · have h1 := hnew b m hr q
      have h4 := hr.2.1
      omega
    · have hr2 := hr.less q
      rcases h with ⟨p1, p2, p3⟩ | ⟨c, d, p1, p2, p3, p4⟩
      · exact absurd hr2 (p3 b m)
      · have := (p4 b m hr2).1
        omega
theorem p4_findSteady {g : uZ} {N : Nat} (h16 : g 16 12 = N) (hN : N ≤ 100) (hL : ∀ f, f < N → 0 ≤ g 24 f ∧ g 24 f ≤ 1000) : ∃ g', GF_X4_findSteady g = some g' ∧ stS (g 24) N (g' 38 8) (g' 38 9) := by
  unfold GF_X4_findSteady
  rw [pfZ_ok, pfZ_ok]
  refine lp_go (fun t z => ∃ w : Nat, z.1 = (w : Int) ∧ z.2.1 = (t : Int) ∧ z.2.2 16 12 = (N : Int) ∧ z.2.2 24 = g 24 ∧ stS (g 24) t (z.2.2 38 8) (z.2.2 38 9) ∧ (w = 0 ∨ g 24 (w - 1) ≠ g 24 w) ∧ (w = 0 ∨ w < t) ∧ ∀ j, w ≤ j → j < t → g 24 j = g 24 w) (fun z => stS (g 24) N (z 38 8) (z 38 9)) N (by omega) ⟨0, rfl, rfl, by dsimp only; rw [upZ_n (by decide), upZ_n (by decide)]; exact h16, by dsimp only; rw [upZ_n (by decide), upZ_n (by decide)], by dsimp only; rw [upZ_ss, upZ_sn (by decide), upZ_ss]; exact stS.zero _, Or.inl rfl, Or.inl rfl, fun j h1 h2 => absurd h2 (Nat.not_lt_zero _)⟩ ?_ ?_ (fun q hq => ⟨q, rfl, hq⟩)
  · rintro t ⟨wi, ti, z⟩ ht ⟨w, e1, e2, z16, z24, hst, hb, hwt, hw⟩
    simp only at e1 e2 z16 z24 hst
    subst e1 e2
    dsimp only
    have l1 := hL t ht
    have l2 := hL w (by omega)
    unfold GB_X4_findSteady_3 GF_X5_size
    rw [cp_ok, z16, ck_ok (by omega), ck_ok (by omega), if_neg (by omega), p5_lagIn z16 hN ht, cp_ok, z24, p5_lagIn z16 hN (by omega), cp_ok, z24, ck_ok (by omega), ck_ok (by omega), lt_ok, cp_ok, ck_ok (by omega)]
    obtain ⟨w', ew, hb', hwt', hw'⟩ : ∃ w' : Nat, (if g 24 t = g 24 w then (w : Int) else (t : Int)) = (w' : Int) ∧ (w' = 0 ∨ g 24 (w' - 1) ≠ g 24 w') ∧ w' ≤ t ∧ ∀ j, w' ≤ j → j < t + 1 → g 24 j = g 24 w' := by
      by_cases q : g 24 t = g 24 w
      · refine ⟨w, if_pos q, hb, by omega, fun j h1 h2 => ?_⟩
        by_cases hj : j = t
        · subst hj; exact q
        · exact hw j h1 (by omega)
      · refine ⟨t, if_neg q, ?_, by omega, fun j h1 h2 => ?_⟩
        · by_cases h0 : t = 0
          · exact Or.inl h0
          · right
            have hwt2 : w ≤ t - 1 := by omega
            rw [hw (t - 1) hwt2 (by omega)]
            exact fun h => q h.symm
        · have : j = t := by omega
          subst this; rfl
    rw [ew]
    have hx := hst.ext (t' := t + 1) (w := w') (by omega) hwt' hw' hb'
    have hv : g 24 w' = g 24 t := (hw' t hwt' (by omega)).symm
    rw [hv] at hx
    have hlen : 0 ≤ z 38 9 ∧ z 38 9 ≤ 100 := by
      rcases hst with ⟨-, p2, -⟩ | ⟨c, d, -, p2, p3, -⟩
      · omega
      · have := p3.2.1
        omega
    unfold GJ_X4_findSteady_2
    by_cases ha : g 24 t = 0
    · rw [if_pos ha, lt_ok]
      exact ⟨_, rfl, w', rfl, by dsimp only; omega, z16, z24, hx.1 ha, hb', by omega, hw'⟩
    · rw [if_neg ha, ck_ok (by omega), ck_ok (by omega)]
      by_cases hc : (t : Int) - (w' : Int) + 1 ≤ z 38 9
      · rw [if_pos hc, lt_ok]
        exact ⟨_, rfl, w', rfl, by dsimp only; omega, z16, z24, hx.2.1 ha (by omega), hb', by omega, hw'⟩
      · rw [if_neg hc, pfZ_ok, pfZ_ok, lt_ok]
        refine ⟨_, rfl, w', rfl, by dsimp only; omega, by dsimp only; rw [upZ_n (by decide), upZ_n (by decide)]; exact z16, by dsimp only; rw [upZ_n (by decide), upZ_n (by decide)]; exact z24, ?_, hb', by omega, hw'⟩
        dsimp only
        rw [upZ_ss, upZ_sn (by decide), upZ_ss]
        have := hx.2.2 ha (by omega)
        rw [show (t : Int) - (w' : Int) + 1 = ((t + 1 : Nat) : Int) - (w' : Int) by omega]
        exact this
  · rintro ⟨wi, ti, z⟩ ⟨w, e1, e2, z16, z24, hst, -⟩
    simp only at e1 e2 z16 z24 hst
    subst e1 e2
    dsimp only
    refine ⟨z, ?_, hst⟩
    unfold GB_X4_findSteady_3 GF_X5_size
    rw [cp_ok, z16, ck_ok (by omega), ck_ok (by omega), if_pos (by omega)]
