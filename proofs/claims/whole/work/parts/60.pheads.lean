/-! steps and tables in the class's rooms -/
def spS (j o v a b : Nat) : Int := if a = 0 ∨ b = 0 then (if a = b then 0 else (v : Int)) else (j : Int) * ((max a b : Nat) - (min a b : Nat) : Int) + (if ((max a b : Nat) : Int) < 2 * ((min a b : Nat) : Int) - 1 then 0 else (o : Int))
theorem spS_r {j o v a b : Nat} (hj : j ≤ 50) (ho : o ≤ 2000) (hv : v ≤ 2000) (ha : a ≤ 48) (hb : b ≤ 48) : 0 ≤ spS j o v a b ∧ spS j o v a b ≤ 4400 := by
  unfold spS
  split
  · split <;> omega
  · have h1 : 0 ≤ ((max a b : Nat) - (min a b : Nat) : Int) ∧ ((max a b : Nat) - (min a b : Nat) : Int) ≤ 48 := by omega
    have h2 : (j : Int) * ((max a b : Nat) - (min a b : Nat) : Int) ≤ 50 * 48 := Int.mul_le_mul (by omega) h1.2 h1.1 (by omega)
    have h3 : 0 ≤ (j : Int) * ((max a b : Nat) - (min a b : Nat) : Int) := Int.mul_nonneg (by omega) h1.1
    split <;> omega
theorem p9_price17 {g : uZ} {j o v a b : Nat} (h0 : g 17 0 = j) (h1 : g 17 1 = o) (h2 : g 17 2 = v) (ha : a ≤ 48) (hb : b ≤ 48) : GF_X9_price_17 a b g = some (spS j o v a b) := by
  unfold GF_X9_price_17 GJ_X9_price_17_1 spS
  rw [h0, h1, h2]
  by_cases ha0 : a = 0
  · by_cases hab : a = b
    · simp -implicitDefEqProofs (disch := omega) only [ck_ok, ck_t, if_pos, if_neg, rdZ_ok, wrZ_ok, pfZ_ok, lt_ok, cp_ok, clZ_ok, bzZ_0, bzZ_1, dvZ_ok, rmdZ_ok, tn0, tn1, tn2, tn3, tn4, tn5, tn6, tn7, tn8, tn9, tn10, tn11, tn12, tn13, tn14, tn15, tn16, tn17]
    · simp -implicitDefEqProofs (disch := omega) only [ck_ok, ck_t, if_pos, if_neg, rdZ_ok, wrZ_ok, pfZ_ok, lt_ok, cp_ok, clZ_ok, bzZ_0, bzZ_1, dvZ_ok, rmdZ_ok, tn0, tn1, tn2, tn3, tn4, tn5, tn6, tn7, tn8, tn9, tn10, tn11, tn12, tn13, tn14, tn15, tn16, tn17]
  · by_cases hb0 : b = 0
    · by_cases hab : a = b
      · simp -implicitDefEqProofs (disch := omega) only [ck_ok, ck_t, if_pos, if_neg, rdZ_ok, wrZ_ok, pfZ_ok, lt_ok, cp_ok, clZ_ok, bzZ_0, bzZ_1, dvZ_ok, rmdZ_ok, tn0, tn1, tn2, tn3, tn4, tn5, tn6, tn7, tn8, tn9, tn10, tn11, tn12, tn13, tn14, tn15, tn16, tn17]
      · simp -implicitDefEqProofs (disch := omega) only [ck_ok, ck_t, if_pos, if_neg, rdZ_ok, wrZ_ok, pfZ_ok, lt_ok, cp_ok, clZ_ok, bzZ_0, bzZ_1, dvZ_ok, rmdZ_ok, tn0, tn1, tn2, tn3, tn4, tn5, tn6, tn7, tn8, tn9, tn10, tn11, tn12, tn13, tn14, tn15, tn16, tn17]
    · by_cases hab : a ≤ b
      · rw [Nat.max_eq_right hab, Nat.min_eq_left hab]
        simp -implicitDefEqProofs (disch := omega) only [ck_ok, ck_t, if_pos, if_neg, rdZ_ok, wrZ_ok, pfZ_ok, lt_ok, cp_ok, clZ_ok, bzZ_0, bzZ_1, dvZ_ok, rmdZ_ok, tn0, tn1, tn2, tn3, tn4, tn5, tn6, tn7, tn8, tn9, tn10, tn11, tn12, tn13, tn14, tn15, tn16, tn17]
      · rw [Nat.max_eq_left (by omega), Nat.min_eq_right (by omega)]
        simp -implicitDefEqProofs (disch := omega) only [ck_ok, ck_t, if_pos, if_neg, rdZ_ok, wrZ_ok, pfZ_ok, lt_ok, cp_ok, clZ_ok, bzZ_0, bzZ_1, dvZ_ok, rmdZ_ok, tn0, tn1, tn2, tn3, tn4, tn5, tn6, tn7, tn8, tn9, tn10, tn11, tn12, tn13, tn14, tn15, tn16, tn17]
theorem p9_price18 {g : uZ} {j o v a b : Nat} (h0 : g 18 0 = j) (h1 : g 18 1 = o) (h2 : g 18 2 = v) (ha : a ≤ 48) (hb : b ≤ 48) : GF_X9_price_18 a b g = some (spS j o v a b) := by
  unfold GF_X9_price_18 GJ_X9_price_18_1 spS
  rw [h0, h1, h2]
  by_cases ha0 : a = 0
  · by_cases hab : a = b
    · simp -implicitDefEqProofs (disch := omega) only [ck_ok, ck_t, if_pos, if_neg, rdZ_ok, wrZ_ok, pfZ_ok, lt_ok, cp_ok, clZ_ok, bzZ_0, bzZ_1, dvZ_ok, rmdZ_ok, tn0, tn1, tn2, tn3, tn4, tn5, tn6, tn7, tn8, tn9, tn10, tn11, tn12, tn13, tn14, tn15, tn16, tn17]
    · simp -implicitDefEqProofs (disch := omega) only [ck_ok, ck_t, if_pos, if_neg, rdZ_ok, wrZ_ok, pfZ_ok, lt_ok, cp_ok, clZ_ok, bzZ_0, bzZ_1, dvZ_ok, rmdZ_ok, tn0, tn1, tn2, tn3, tn4, tn5, tn6, tn7, tn8, tn9, tn10, tn11, tn12, tn13, tn14, tn15, tn16, tn17]
  · by_cases hb0 : b = 0
    · by_cases hab : a = b
      · simp -implicitDefEqProofs (disch := omega) only [ck_ok, ck_t, if_pos, if_neg, rdZ_ok, wrZ_ok, pfZ_ok, lt_ok, cp_ok, clZ_ok, bzZ_0, bzZ_1, dvZ_ok, rmdZ_ok, tn0, tn1, tn2, tn3, tn4, tn5, tn6, tn7, tn8, tn9, tn10, tn11, tn12, tn13, tn14, tn15, tn16, tn17]
      · simp -implicitDefEqProofs (disch := omega) only [ck_ok, ck_t, if_pos, if_neg, rdZ_ok, wrZ_ok, pfZ_ok, lt_ok, cp_ok, clZ_ok, bzZ_0, bzZ_1, dvZ_ok, rmdZ_ok, tn0, tn1, tn2, tn3, tn4, tn5, tn6, tn7, tn8, tn9, tn10, tn11, tn12, tn13, tn14, tn15, tn16, tn17]
    · by_cases hab : a ≤ b
      · rw [Nat.max_eq_right hab, Nat.min_eq_left hab]
        simp -implicitDefEqProofs (disch := omega) only [ck_ok, ck_t, if_pos, if_neg, rdZ_ok, wrZ_ok, pfZ_ok, lt_ok, cp_ok, clZ_ok, bzZ_0, bzZ_1, dvZ_ok, rmdZ_ok, tn0, tn1, tn2, tn3, tn4, tn5, tn6, tn7, tn8, tn9, tn10, tn11, tn12, tn13, tn14, tn15, tn16, tn17]
      · rw [Nat.max_eq_left (by omega), Nat.min_eq_right (by omega)]
        simp -implicitDefEqProofs (disch := omega) only [ck_ok, ck_t, if_pos, if_neg, rdZ_ok, wrZ_ok, pfZ_ok, lt_ok, cp_ok, clZ_ok, bzZ_0, bzZ_1, dvZ_ok, rmdZ_ok, tn0, tn1, tn2, tn3, tn4, tn5, tn6, tn7, tn8, tn9, tn10, tn11, tn12, tn13, tn14, tn15, tn16, tn17]
theorem p9_price28 {g : uZ} {j o v a b : Nat} (h0 : g 28 0 = j) (h1 : g 28 1 = o) (h2 : g 28 2 = v) (ha : a ≤ 48) (hb : b ≤ 48) : GF_X9_price_28 a b g = some (spS j o v a b) := by
  unfold GF_X9_price_28 GJ_X9_price_28_1 spS
  rw [h0, h1, h2]
  by_cases ha0 : a = 0
  · by_cases hab : a = b
    · simp -implicitDefEqProofs (disch := omega) only [ck_ok, ck_t, if_pos, if_neg, rdZ_ok, wrZ_ok, pfZ_ok, lt_ok, cp_ok, clZ_ok, bzZ_0, bzZ_1, dvZ_ok, rmdZ_ok, tn0, tn1, tn2, tn3, tn4, tn5, tn6, tn7, tn8, tn9, tn10, tn11, tn12, tn13, tn14, tn15, tn16, tn17]
    · simp -implicitDefEqProofs (disch := omega) only [ck_ok, ck_t, if_pos, if_neg, rdZ_ok, wrZ_ok, pfZ_ok, lt_ok, cp_ok, clZ_ok, bzZ_0, bzZ_1, dvZ_ok, rmdZ_ok, tn0, tn1, tn2, tn3, tn4, tn5, tn6, tn7, tn8, tn9, tn10, tn11, tn12, tn13, tn14, tn15, tn16, tn17]
  · by_cases hb0 : b = 0
    · by_cases hab : a = b
      · simp -implicitDefEqProofs (disch := omega) only [ck_ok, ck_t, if_pos, if_neg, rdZ_ok, wrZ_ok, pfZ_ok, lt_ok, cp_ok, clZ_ok, bzZ_0, bzZ_1, dvZ_ok, rmdZ_ok, tn0, tn1, tn2, tn3, tn4, tn5, tn6, tn7, tn8, tn9, tn10, tn11, tn12, tn13, tn14, tn15, tn16, tn17]
      · simp -implicitDefEqProofs (disch := omega) only [ck_ok, ck_t, if_pos, if_neg, rdZ_ok, wrZ_ok, pfZ_ok, lt_ok, cp_ok, clZ_ok, bzZ_0, bzZ_1, dvZ_ok, rmdZ_ok, tn0, tn1, tn2, tn3, tn4, tn5, tn6, tn7, tn8, tn9, tn10, tn11, tn12, tn13, tn14, tn15, tn16, tn17]
    · by_cases hab : a ≤ b
      · rw [Nat.max_eq_right hab, Nat.min_eq_left hab]
        simp -implicitDefEqProofs (disch := omega) only [ck_ok, ck_t, if_pos, if_neg, rdZ_ok, wrZ_ok, pfZ_ok, lt_ok, cp_ok, clZ_ok, bzZ_0, bzZ_1, dvZ_ok, rmdZ_ok, tn0, tn1, tn2, tn3, tn4, tn5, tn6, tn7, tn8, tn9, tn10, tn11, tn12, tn13, tn14, tn15, tn16, tn17]
      · rw [Nat.max_eq_left (by omega), Nat.min_eq_right (by omega)]
        simp -implicitDefEqProofs (disch := omega) only [ck_ok, ck_t, if_pos, if_neg, rdZ_ok, wrZ_ok, pfZ_ok, lt_ok, cp_ok, clZ_ok, bzZ_0, bzZ_1, dvZ_ok, rmdZ_ok, tn0, tn1, tn2, tn3, tn4, tn5, tn6, tn7, tn8, tn9, tn10, tn11, tn12, tn13, tn14, tn15, tn16, tn17]
/-- a frame's candidates, over tables -/
def CT (N : Nat) (m : Nat → Nat) (lag : Nat → Nat → Nat) (own : Nat → Nat → Int) (g : uZ) : Prop := g 11 6 = N ∧ N ≤ 100 ∧ ∀ f, f < N → 1 ≤ m f ∧ m f ≤ 6 ∧ g 15 f = m f ∧ ∀ i, i < m f → g 12 (6 * f + i) = (lag f i : Int) ∧ lag f i ≤ 48 ∧ g 13 (6 * f + i) = own f i ∧ 0 ≤ own f i ∧ own f i ≤ 50000
theorem CT.cg {N : Nat} {m : Nat → Nat} {lag : Nat → Nat → Nat} {own : Nat → Nat → Int} {g g' : uZ} (h : CT N m lag own g) (h11 : g' 11 6 = g 11 6) (h12 : g' 12 = g 12) (h13 : g' 13 = g 13) (h15 : g' 15 = g 15) : CT N m lag own g' := by
  unfold CT
  rw [h11, h12, h13, h15]
  exact h
theorem CT.size {N : Nat} {m : Nat → Nat} {lag : Nat → Nat → Nat} {own : Nat → Nat → Int} {g : uZ} (h : CT N m lag own g) {f : Nat} (hf : f < N) : GF_X1_sizeOf f g = some (m f : Int) := p1_sizeOf h.1 h.2.1 hf (h.2.2 f hf).2.2.1
theorem CT.lag {N : Nat} {m : Nat → Nat} {lag : Nat → Nat → Nat} {own : Nat → Nat → Int} {g : uZ} (h : CT N m lag own g) {f i : Nat} (hf : f < N) (hi : i < m f) : GF_X1_lagOf f i g = some (lag f i : Int) := by
  rw [p1_lagOf h.1 h.2.1 hf (h.2.2 f hf).2.2.1 (h.2.2 f hf).2.1 hi, ((h.2.2 f hf).2.2.2 i hi).1]
theorem CT.own {N : Nat} {m : Nat → Nat} {lag : Nat → Nat → Nat} {own : Nat → Nat → Int} {g : uZ} (h : CT N m lag own g) {f i : Nat} (hf : f < N) (hi : i < m f) : GF_X1_ownOf f i g = some (own f i) := by
  rw [p1_ownOf h.1 h.2.1 hf (h.2.2 f hf).2.2.1 (h.2.2 f hf).2.1 hi, ((h.2.2 f hf).2.2.2 i hi).2.2.1]
/-- heads of a frame, out of those of the frame ahead -/
def HR (m : Nat → Nat) (own : Nat → Nat → Int) (st : Nat → Nat → Nat → Int) (H K : Nat → Int) (e i : Nat) (h : Int) (c : Nat) : Prop := match e with
  | 0 => h = own 0 i ∧ c = 0
  | e + 1 => c < m e ∧ h = H (6 * e + c) + st e c i + own (e + 1) i ∧ ∀ k, k < m e → k ≠ c → H (6 * e + c) + st e c i < H (6 * e + k) + st e k i ∨ (H (6 * e + c) + st e c i = H (6 * e + k) + st e k i ∧ K (6 * e + c) < K (6 * e + k))
theorem p5_findHeads {g : uZ} {N : Nat} {m : Nat → Nat} {lag : Nat → Nat → Nat} {own : Nat → Nat → Int} {j o v f : Nat} (hC : CT N m lag own g) (h0 : g 17 0 = j) (h1 : g 17 1 = o) (h2 : g 17 2 = v) (hj : j ≤ 50) (ho : o ≤ 2000) (hv : v ≤ 2000) (hf : f < N) (hprev : ∀ e, f = e + 1 → ∀ k, k < m e → 0 ≤ g 19 (6 * e + k) ∧ g 19 (6 * e + k) ≤ 60000 * f ∧ 0 ≤ g 20 (6 * e + k) ∧ g 20 (6 * e + k) < m e ∧ ∀ l, l < m e → l ≠ k → g 20 (6 * e + l) ≠ g 20 (6 * e + k)) : ∃ g', GF_X5_findHeads f g = some g' ∧ (∀ i, i < m f → ∃ c : Nat, g' 21 (6 * f + i) = c ∧ 0 ≤ g' 19 (6 * f + i) ∧ g' 19 (6 * f + i) ≤ 60000 * (f + 1 : Nat) ∧ HR m own (fun e a b => spS j o v (lag e a) (lag (e + 1) b)) (g 19) (g 20) f i (g' 19 (6 * f + i)) c) ∧ ∀ z, z < 6 * f ∨ 6 * f + 6 ≤ z → g' 19 z = g 19 z ∧ g' 21 z = g 21 z := by
  obtain ⟨c11, c100, hCf⟩ := id hC
  obtain ⟨m1, m6, mz, hcand⟩ := hCf f hf
  unfold GF_X5_findHeads
  refine lp_go (fun t q => q.1 = t ∧ Fr [19, 21] [] g q.2 ∧ (∀ i, i < t → ∃ c : Nat, q.2 21 (6 * f + i) = c ∧ 0 ≤ q.2 19 (6 * f + i) ∧ q.2 19 (6 * f + i) ≤ 60000 * (f + 1 : Nat) ∧ HR m own (fun e a b => spS j o v (lag e a) (lag (e + 1) b)) (g 19) (g 20) f i (q.2 19 (6 * f + i)) c) ∧ ∀ z, z < 6 * f ∨ 6 * f + 6 ≤ z → q.2 19 z = g 19 z ∧ q.2 21 z = g 21 z) (fun q => (∀ i, i < m f → ∃ c : Nat, q 21 (6 * f + i) = c ∧ 0 ≤ q 19 (6 * f + i) ∧ q 19 (6 * f + i) ≤ 60000 * (f + 1 : Nat) ∧ HR m own (fun e a b => spS j o v (lag e a) (lag (e + 1) b)) (g 19) (g 20) f i (q 19 (6 * f + i)) c) ∧ ∀ z, z < 6 * f ∨ 6 * f + 6 ≤ z → q 19 z = g 19 z ∧ q 21 z = g 21 z) (m f) (by omega) ⟨rfl, Fr.rf, fun i hi => by omega, fun z _ => ⟨rfl, rfl⟩⟩ ?_ ?_ (fun q hq => ⟨q, rfl, hq⟩)
  · rintro t ⟨w, q⟩ ht ⟨e1, hF, hq, hout⟩
    simp only at e1 hF hq hout
    subst e1
    have hCq : CT N m lag own q := hC.cg (hF 11 6 (by decide) (by decide)) (hF.f 12 (by decide) (by decide)) (hF.f 13 (by decide) (by decide)) (hF.f 15 (by decide) (by decide))
    have q17 : q 17 = g 17 := hF.f 17 (by decide) (by decide)
    have q20 : q 20 = g 20 := hF.f 20 (by decide) (by decide)
    obtain ⟨-, hl48, -, ho0, ho5⟩ := hcand t ht
    dsimp only
    unfold GB_X5_findHeads_7
    rw [hCq.size hf, cp_ok, ck_ok (by omega), ck_ok (by omega), if_neg (by omega), hCq.lag hf ht, cp_ok]
    have fin : ∀ (h : Int) (c : Nat), 0 ≤ h → h ≤ 60000 * (f : Int) + 5000 → HR m own (fun e a b => spS j o v (lag e a) (lag (e + 1) b)) (g 19) (g 20) f t (h + own f t) c → ∃ a', GC_X5_findHeads_6 f t q h c = some (Sum.inl a') ∧ a'.1 = ((t + 1 : Nat) : Int) ∧ Fr [19, 21] [] g a'.2 ∧ (∀ i, i < t + 1 → ∃ c : Nat, a'.2 21 (6 * f + i) = c ∧ 0 ≤ a'.2 19 (6 * f + i) ∧ a'.2 19 (6 * f + i) ≤ 60000 * (f + 1 : Nat) ∧ HR m own (fun e a b => spS j o v (lag e a) (lag (e + 1) b)) (g 19) (g 20) f i (a'.2 19 (6 * f + i)) c) ∧ ∀ z, z < 6 * f ∨ 6 * f + 6 ≤ z → a'.2 19 z = g 19 z ∧ a'.2 21 z = g 21 z := by
      intro h c hh0 hh1 hHR
      unfold GC_X5_findHeads_6 GF_X11_cell
      rw [cp_ok, hCq.own hf ht, cp_ok, wrZ_at (6 * f + t) (by omega) (by omega), cp_ok, wrZ_at (6 * f + t) (by omega) (by omega), lt_ok]
      refine ⟨_, rfl, ?_⟩
      dsimp only
      refine ⟨by omega, (hF.wr (by decide)).wr (by decide), fun i hi => ?_, fun z hz => ?_⟩
      · rw [upZ_n (by decide : (19 : Nat) ≠ 21), upZ_s, upZ_s, upZ_n (by decide : (21 : Nat) ≠ 19)]
        by_cases hit : i = t
        · subst hit
          rw [if_pos rfl, if_pos rfl]
          exact ⟨c, rfl, by omega, by omega, hHR⟩
        · rw [if_neg (by omega), if_neg (by omega)]
          exact hq i (by omega)
      · rw [upZ_n (by decide : (19 : Nat) ≠ 21), upZ_s, upZ_s, upZ_n (by decide : (21 : Nat) ≠ 19), if_neg (by omega), if_neg (by omega)]
        exact hout z hz
    cases f with
    | zero =>
      rw [lp_for (fun _ => ((0 : Int), ((0 : Int), (0 : Int)))) 0 ((0 : Int), (0 : Int)) rfl (by omega) (fun i hi => by omega) (by dsimp only; unfold GB_X5_findHeads_5; rw [ck_ok (by omega), if_pos (by omega)])]
      exact fin 0 0 (by omega) (by omega) ⟨by omega, rfl⟩
    | succ e =>
      have hp := hprev e rfl
      obtain ⟨n1, n6, nz, hcande⟩ := hCf e (by omega)
      have q19 : ∀ k, k < m e → q 19 (6 * e + k) = g 19 (6 * e + k) := fun k hk => (hout _ (by omega)).1
      have ee : ((e + 1 : Nat) : Int) - 1 = (e : Int) := by omega
      have hst : ∀ k, k < m e → 0 ≤ spS j o v (lag e k) (lag (e + 1) t) ∧ spS j o v (lag e k) (lag (e + 1) t) ≤ 4400 := fun k hk => spS_r hj ho hv (hcande k hk).2.1 hl48
      generalize hV : (fun k => g 19 (6 * e + k) + spS j o v (lag e k) (lag (e + 1) t)) = V
      have hVk : ∀ k, g 19 (6 * e + k) + spS j o v (lag e k) (lag (e + 1) t) = V k := fun k => by rw [← hV]
      have hVr : ∀ k, k < m e → 0 ≤ V k ∧ V k ≤ 60000 * ((e + 1 : Nat) : Int) + 5000 := fun k hk => by
        have h3 := hp k hk
        have h4 := hst k hk
        rw [← hVk]
        omega
      suffices hh : ∃ b : Int × Int, (∃ c : Nat, c < m e ∧ b.2 = (c : Int) ∧ b.1 = V c ∧ ∀ k, k < m e → k ≠ c → V c < V k ∨ (V c = V k ∧ g 20 (6 * e + c) < g 20 (6 * e + k))) ∧ lp (fun z => GB_X5_findHeads_5 ((e + 1 : Nat) : Int) (lag (e + 1) t) q z.1 z.2.1 z.2.2) (0, (0, 0)) (fun z => GC_X5_findHeads_6 ((e + 1 : Nat) : Int) t q z.1 z.2) = GC_X5_findHeads_6 ((e + 1 : Nat) : Int) t q b.1 b.2 by
        obtain ⟨⟨b1, b2⟩, ⟨c, hc, hb2, hb1, hm⟩, hb⟩ := hh
        simp only at hb1 hb2
        subst hb1 hb2
        rw [hb]
        refine fin (V c) c (hVr c hc).1 (hVr c hc).2 ⟨hc, ?_, fun k hk hkc => ?_⟩
        · rw [← hVk]
        · rw [hVk, hVk]
          exact hm k hk hkc
      refine lp_run (fun (s : Nat) (z : Int × Int × Int) => z.2.2 = (s : Int) ∧ (s = 0 ∧ z.1 = 0 ∧ z.2.1 = 0 ∨ ∃ c : Nat, c < s ∧ z.2.1 = (c : Int) ∧ z.1 = V c ∧ ∀ k, k < s → k ≠ c → V c < V k ∨ (V c = V k ∧ g 20 (6 * e + c) < g 20 (6 * e + k)))) (fun b : Int × Int => ∃ c : Nat, c < m e ∧ b.2 = (c : Int) ∧ b.1 = V c ∧ ∀ k, k < m e → k ≠ c → V c < V k ∨ (V c = V k ∧ g 20 (6 * e + c) < g 20 (6 * e + k))) (m e) (by omega) ⟨rfl, Or.inl ⟨rfl, rfl, rfl⟩⟩ ?_ ?_
      · rintro s ⟨z1, z2, z3⟩ hs ⟨e3, hz⟩
        simp only at e3 hz
        subst e3
        have hvs := hVr s hs
        dsimp only
        unfold GB_X5_findHeads_5 GJ_X5_findHeads_3 GJ_X5_findHeads_4 GF_X11_cell
        rw [ck_ok (by omega), if_neg (by omega), ee, hCq.size (by omega), cp_ok, ck_ok (by omega), ck_ok (by omega), if_neg (by omega), cp_ok, rdZ_at (6 * e + s) (by omega) (by omega), hCq.lag (by omega) hs, cp_ok, p9_price17 (by rw [q17]; exact h0) (by rw [q17]; exact h1) (by rw [q17]; exact h2) (hcande s hs).2.1 hl48, cp_ok, lt_ok, q19 s hs, hVk s]
        have take : (s = 0 ∨ ∃ c : Nat, c < s ∧ (∀ k, k < s → k ≠ c → V c < V k ∨ (V c = V k ∧ g 20 (6 * e + c) < g 20 (6 * e + k))) ∧ (V s < V c ∨ (V s = V c ∧ g 20 (6 * e + s) < g 20 (6 * e + c)))) → ∃ a', (lt ((s : Int) + 1) fun v30 => some (Sum.inl (β := Int × Int) (V s, ((s : Int), v30)))) = some (Sum.inl a') ∧ a'.2.2 = ((s + 1 : Nat) : Int) ∧ (s + 1 = 0 ∧ a'.1 = 0 ∧ a'.2.1 = 0 ∨ ∃ c : Nat, c < s + 1 ∧ a'.2.1 = (c : Int) ∧ a'.1 = V c ∧ ∀ k, k < s + 1 → k ≠ c → V c < V k ∨ (V c = V k ∧ g 20 (6 * e + c) < g 20 (6 * e + k))) := by
          intro hcase
          rw [lt_ok]
          refine ⟨_, rfl, by simp, Or.inr ⟨s, by omega, rfl, rfl, fun k hk hks => ?_⟩⟩
          rcases hcase with h | ⟨c, hc, hm, hlt⟩
          · omega
          · by_cases hkc : k = c
            · subst hkc
              exact hlt
            · rcases hm k (by omega) hkc with h | h <;> omega
        by_cases hs0 : (s : Int) = 0
        · rw [if_pos hs0]
          exact take (Or.inl (by omega))
        · rw [if_neg hs0]
          rcases hz with ⟨h, -, -⟩ | ⟨c, hc, e2, e1, hm⟩
          · omega
          · subst e1 e2
            have hvc := hVr c (by omega)
            rw [ck_ok (by omega), ck_ok (by omega)]
            have keep : (V c < V s ∨ (V c = V s ∧ g 20 (6 * e + c) < g 20 (6 * e + s))) → ∃ a', (lt ((s : Int) + 1) fun v30 => some (Sum.inl (β := Int × Int) (V c, ((c : Int), v30)))) = some (Sum.inl a') ∧ a'.2.2 = ((s + 1 : Nat) : Int) ∧ (s + 1 = 0 ∧ a'.1 = 0 ∧ a'.2.1 = 0 ∨ ∃ c : Nat, c < s + 1 ∧ a'.2.1 = (c : Int) ∧ a'.1 = V c ∧ ∀ k, k < s + 1 → k ≠ c → V c < V k ∨ (V c = V k ∧ g 20 (6 * e + c) < g 20 (6 * e + k))) := by
              intro hcase
              rw [lt_ok]
              refine ⟨_, rfl, by simp, Or.inr ⟨c, by omega, rfl, rfl, fun k hk hkc => ?_⟩⟩
              by_cases hks : k = s
              · subst hks
                exact hcase
              · exact hm k (by omega) hkc
            by_cases hlt : V s < V c
            · rw [if_pos hlt]
              exact take (Or.inr ⟨c, hc, hm, Or.inl hlt⟩)
            · rw [if_neg hlt]
              by_cases heq : V s = V c
              · have k1 := hp s hs
                have k2 := hp c (by omega)
                have k3 := k1.2.2.2.2 c (by omega) (by omega)
                rw [if_pos heq, cp_ok, rdZ_at (6 * e + s) (by omega) (by omega), cp_ok, rdZ_at (6 * e + c) (by omega) (by omega), q20, ck_ok (by omega), ck_ok (by omega)]
                by_cases hr : g 20 (6 * e + c) ≤ g 20 (6 * e + s)
                · rw [if_pos hr]
                  exact keep (Or.inr ⟨heq.symm, by omega⟩)
                · rw [if_neg hr]
                  exact take (Or.inr ⟨c, hc, hm, Or.inr ⟨heq, by omega⟩⟩)
              · rw [if_neg heq]
                exact keep (Or.inl (by omega))
      · rintro ⟨z1, z2, z3⟩ ⟨e3, hz⟩
        simp only at e3 hz
        subst e3
        dsimp only
        unfold GB_X5_findHeads_5
        rw [ck_ok (by omega), if_neg (by omega), ee, hCq.size (by omega), cp_ok, ck_ok (by omega), ck_ok (by omega), if_pos (by omega)]
        rcases hz with ⟨h, -, -⟩ | ⟨c, hc, e2, e1, hm⟩
        · omega
        · exact ⟨_, rfl, c, hc, e2, e1, hm⟩
  · rintro ⟨w, q⟩ ⟨e1, hF, hq, hout⟩
    simp only at e1 hF hq hout
    subst e1
    have hCq : CT N m lag own q := hC.cg (hF 11 6 (by decide) (by decide)) (hF.f 12 (by decide) (by decide)) (hF.f 13 (by decide) (by decide)) (hF.f 15 (by decide) (by decide))
    dsimp only
    unfold GB_X5_findHeads_7
    rw [hCq.size hf, cp_ok, ck_ok (by omega), ck_ok (by omega), if_pos (by omega)]
    exact ⟨_, rfl, hq, hout⟩
