/-! frames measured: the class keeps rows, the reference lays one -/
theorem nar0 : (vp_nar .boolean ((0 : Int32))).toInt = 0 := by decide +kernel
theorem nar1 : (vp_nar .boolean ((1 : Int32))).toInt = 1 := by decide +kernel
theorem rl_num {x : Nat → Int} (hx : XOk x) {hop wide f L : Nat} (hw : wide ≤ 60) (hL : L ≤ 49) : 0 ≤ 1000 * (L : Int) * dfS x hop wide f L ∧ 1000 * (L : Int) * dfS x hop wide f L ≤ 749700000 := by
  have h := dfS_r hx hop wide f L
  have h1 : dfS x hop wide f L ≤ 15300 := by omega
  have h2 : 1000 * (L : Int) ≤ 49000 := by omega
  constructor
  · exact Int.mul_nonneg (by omega) h.1
  · have := Int.mul_le_mul h2 h1 h.1 (by omega : (0 : Int) ≤ 49000)
    omega
theorem tg_bd {x : Nat → Int} (hx : XOk x) {hop wide f L : Nat} (hw : wide ≤ 60) (hL : L ≤ 49) : 0 ≤ tgS x hop wide f L ∧ tgS x hop wide f L ≤ 765000 := by
  have h := tgS_r hx hop wide f L
  have h1 : ((L + 1 : Nat) : Int) * (wide * 255) ≤ 50 * 15300 := Int.mul_le_mul (by omega) (by omega) (by omega) (by omega)
  omega
theorem rlS_bd {x : Nat → Int} (hx : XOk x) {hop wide f L : Nat} (hw : wide ≤ 60) (hL : L ≤ 49) : 0 ≤ rlS x hop wide f L ∧ rlS x hop wide f L ≤ 49000 := by
  have h1 := rl_num hx (hop := hop) (f := f) hw hL
  have h2 := tg_bd hx (hop := hop) (f := f) hw hL
  have h3 := dfS_tg hx hop wide f L
  have h4 := dfS_r hx hop wide f L
  unfold rlS
  split
  · omega
  · rename_i hz
    refine ⟨Int.ediv_nonneg h1.1 h2.1, ?_⟩
    have hp : 0 < tgS x hop wide f L := by omega
    rw [← Int.lt_add_one_iff]
    apply (Int.ediv_lt_iff_lt_mul hp).mpr
    have h5 : 1000 * (L : Int) * dfS x hop wide f L ≤ 49000 * tgS x hop wide f L := Int.mul_le_mul (by omega) h3 h4.1 (by omega)
    omega
/-- rows of a frame in the class's rooms -/
def rowOk (x : Nat → Int) (hop wide high : Nat) (g : uZ) (f : Nat) : Prop := (∀ L, L ≤ high + 1 → g 7 (50 * f + L) = dfS x hop wide f L ∧ g 8 (50 * f + L) = rlS x hop wide f L) ∧ g 9 f = ldS x hop wide f
theorem p2_measure {g : uZ} {n : Nat} (h : g 1 2 = n) (hn : n ≤ 800) (hB : BOk (g 5)) (hx : XOk (g 2)) {f : Nat} (hf : f < 100) (hfit : f * bN (g 5) 2 + rcS (g 5) ≤ n) (hz : g 10 f = 0) : ∃ g', GF_X2_measure f g = some g' ∧ rowOk (g 2) (bN (g 5) 2) (bN (g 5) 3) (bN (g 5) 5) g' f ∧ (∀ j, j < 50 * f ∨ 50 * f + 50 ≤ j → g' 7 j = g 7 j ∧ g' 8 j = g 8 j) ∧ (∀ j, j ≠ f → g' 9 j = g 9 j) ∧ g' 10 f = 1 ∧ (∀ j, j ≠ f → g' 10 j = g 10 j) := by
  have h2 := hB.b2
  have h3 := hB.b3
  have h5 := hB.b5
  have hr : rcS (g 5) = bN (g 5) 3 + bN (g 5) 5 + 1 := rfl
  unfold GF_X2_measure
  rw [ck_ok (by omega), if_neg (by omega), if_neg (by omega), rdZ_at f rfl (by omega), ck_ok (by omega), if_pos hz, p0_2, cp_ok, lt_ok, p0_3, cp_ok, p0_5, cp_ok, p_min g (by omega) (by omega), cp_ok, h2.1, h3.1, h5.1]
  have ec : (if ((bN (g 5) 5 : Nat) : Int) + 2 < 50 then ((bN (g 5) 5 : Nat) : Int) + 2 else 50) = ((bN (g 5) 5 + 2 : Nat) : Int) := by split <;> omega
  have es : (f : Int) * ((bN (g 5) 2 : Nat) : Int) = ((f * bN (g 5) 2 : Nat) : Int) := by simp
  rw [ec, es]
  generalize hhop : bN (g 5) 2 = hop at *
  generalize hwide : bN (g 5) 3 = wide at *
  generalize hhigh : bN (g 5) 5 = high at *
  refine lp_go (fun i q => q.1 = sm i (fun l => dfS (g 2) hop wide f l) ∧ q.2.1 = i ∧ Fr [7, 8] [] g q.2.2 ∧ (∀ L, L < i → q.2.2 7 (50 * f + L) = dfS (g 2) hop wide f L ∧ q.2.2 8 (50 * f + L) = rlS (g 2) hop wide f L) ∧ (∀ j, j < 50 * f ∨ 50 * f + 50 ≤ j → q.2.2 7 j = g 7 j ∧ q.2.2 8 j = g 8 j)) (fun q => Fr [7, 8] [] g q ∧ (∀ L, L < high + 2 → q 7 (50 * f + L) = dfS (g 2) hop wide f L ∧ q 8 (50 * f + L) = rlS (g 2) hop wide f L) ∧ (∀ j, j < 50 * f ∨ 50 * f + 50 ≤ j → q 7 j = g 7 j ∧ q 8 j = g 8 j)) (high + 2) (by omega) ⟨rfl, rfl, Fr.rf, fun L hL => by omega, fun j _ => ⟨rfl, rfl⟩⟩ ?_ ?_ ?_
  · rintro i ⟨s, w, q⟩ hi ⟨e1, e2, hF, hrow, hout⟩
    simp only at e1 e2 hF hrow hout
    subst e1 e2
    have q1 : q 1 2 = n := (hF 1 2 (by decide) (by decide)).trans h
    have q2 : q 2 = g 2 := hF.f 2 (by decide) (by decide)
    have ht := tg_bd hx (hop := hop) (wide := wide) (f := f) (L := i) (by omega) (by omega)
    have hm := rl_num hx (hop := hop) (wide := wide) (f := f) (L := i) (by omega) (by omega)
    have hd : sm i (fun l => dfS (g 2) hop wide f l) + dfS (g 2) hop wide f i = tgS (g 2) hop wide f i := rfl
    dsimp only
    unfold GB_X2_measure_3 GJ_X2_measure_2
    rw [ck_ok (by omega), ck_ok (by omega), if_neg (by omega), p7_off q1 hn (q2 ▸ hx) (hop := hop) (f := f) (by omega) (by omega) rfl, cp_ok, lt_ok, q2, hd, wrZ_at (50 * f + i) (by omega) (by omega), ck_ok (by omega)]
    have fin : ∀ v : Int, v = rlS (g 2) hop wide f i → ∃ a', (wrZ (upZ q 7 (50 * f + i) (dfS (g 2) hop wide f i)) 8 5000 ((f : Int) * 50 + i) v fun g17 => lt ((i : Int) + 1) fun v18 => some (Sum.inl (tgS (g 2) hop wide f i, (v18, g17)))) = some (Sum.inl (β := uZ) a') ∧ a'.1 = sm (i + 1) (fun l => dfS (g 2) hop wide f l) ∧ a'.2.1 = ((i + 1 : Nat) : Int) ∧ Fr [7, 8] [] g a'.2.2 ∧ (∀ L, L < i + 1 → a'.2.2 7 (50 * f + L) = dfS (g 2) hop wide f L ∧ a'.2.2 8 (50 * f + L) = rlS (g 2) hop wide f L) ∧ (∀ j, j < 50 * f ∨ 50 * f + 50 ≤ j → a'.2.2 7 j = g 7 j ∧ a'.2.2 8 j = g 8 j) := by
      intro v hv
      rw [wrZ_at (50 * f + i) (by omega) (by omega), lt_ok]
      refine ⟨_, rfl, rfl, by simp, (hF.wr (by decide)).wr (by decide), fun L hL => ?_, fun j hj => ?_⟩
      · simp only [upZ_s, upZ_n (show (7 : Nat) ≠ 8 by decide), upZ_n (show (8 : Nat) ≠ 7 by decide)]
        by_cases hLi : L = i
        · subst hLi
          simp [hv]
        · rw [if_neg (by omega), if_neg (by omega)]
          exact hrow L (by omega)
      · simp only [upZ_s, upZ_n (show (7 : Nat) ≠ 8 by decide), upZ_n (show (8 : Nat) ≠ 7 by decide)]
        rw [if_neg (by omega), if_neg (by omega)]
        exact hout j hj
    by_cases hz : tgS (g 2) hop wide f i = 0
    · rw [if_pos hz]
      exact fin 1000 (by unfold rlS; rw [if_pos hz])
    · rw [if_neg hz, p_quot _ (by omega) (by omega) (by omega), cp_ok]
      exact fin _ (by unfold rlS; rw [if_neg hz])
  · rintro ⟨s, w, q⟩ ⟨e1, e2, hF, hrow, hout⟩
    simp only at e1 e2 hF hrow hout
    subst e1 e2
    dsimp only
    unfold GB_X2_measure_3
    rw [ck_ok (by omega), ck_ok (by omega), if_pos (by omega)]
    exact ⟨_, rfl, hF, hrow, hout⟩
  · rintro q ⟨hF, hrow, hout⟩
    have q1 : q 1 2 = n := (hF 1 2 (by decide) (by decide)).trans h
    have q2 : q 2 = g 2 := hF.f 2 (by decide) (by decide)
    have q9 : q 9 = g 9 := hF.f 9 (by decide) (by decide)
    have q10 : q 10 = g 10 := hF.f 10 (by decide) (by decide)
    unfold GC_X2_measure_4
    rw [p7_loud q1 hn (q2 ▸ hx) (hop := hop) (f := f) (by omega) (by omega) rfl, cp_ok, wrZ_at f rfl (by omega), wrZ_at f rfl (by omega), nar1, q2]
    refine ⟨_, rfl, ⟨fun L hL => ?_, ?_⟩, fun j hj => ?_, fun j hj => ?_, ?_, fun j hj => ?_⟩
    · rw [upZ_n (by decide), upZ_n (by decide), upZ_n (by decide), upZ_n (by decide)]
      exact hrow L (by omega)
    · rw [upZ_n (by decide), upZ_ss]
    · rw [upZ_n (by decide), upZ_n (by decide), upZ_n (by decide), upZ_n (by decide)]
      exact hout j hj
    · rw [upZ_n (by decide), upZ_sn hj, q9]
    · rw [upZ_ss]
    · rw [upZ_sn hj, upZ_n (by decide), q10]
