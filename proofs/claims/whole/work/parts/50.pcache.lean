/-! what the class keeps of frames -/
def Cache (x B : Nat → Int) (n : Nat) (g : uZ) : Prop := ∀ f, f < 100 → g 10 f = 0 ∨ (g 10 f = 1 ∧ f * bN B 2 + rcS B ≤ n ∧ rowOk x (bN B 2) (bN B 3) (bN B 5) g f)
theorem rowOk.cg {x : Nat → Int} {hop wide high f : Nat} {g g' : uZ} (h : rowOk x hop wide high g f) (h7 : ∀ L, L ≤ high + 1 → g' 7 (50 * f + L) = g 7 (50 * f + L) ∧ g' 8 (50 * f + L) = g 8 (50 * f + L)) (h9 : g' 9 f = g 9 f) : rowOk x hop wide high g' f := ⟨fun L hL => by rw [(h7 L hL).1, (h7 L hL).2]; exact h.1 L hL, by rw [h9]; exact h.2⟩
theorem rowOk.x {x y : Nat → Int} {hop wide high f : Nat} {g : uZ} (h : rowOk x hop wide high g f) (e : ∀ j, f * hop ≤ j → j < f * hop + (wide + high + 1) → x j = y j) : rowOk y hop wide high g f := ⟨fun L hL => by rw [← dfS_eq e (by omega), ← rlS_eq e (by omega)]; exact h.1 L hL, by rw [← ldS_eq e (by omega)]; exact h.2⟩
theorem p2_meas {g : uZ} {n : Nat} (h : g 1 2 = n) (hn : n ≤ 800) (hB : BOk (g 5)) (hx : XOk (g 2)) (hc : Cache (g 2) (g 5) n g) {f : Nat} (hf : f < nfS (g 5) n) : ∃ g', GF_X2_measure f g = some g' ∧ Cache (g 2) (g 5) n g' ∧ (g' 10 f = 1 ∧ ∀ j, j ≠ f → g' 10 j = g 10 j) ∧ ∀ j, rowOk (g 2) (bN (g 5) 2) (bN (g 5) 3) (bN (g 5) 5) g j → rowOk (g 2) (bN (g 5) 2) (bN (g 5) 3) (bN (g 5) 5) g' j := by
  have h5 := hB.b5
  have h100 := nfS_100 hB hn
  have hfit := (nfS_lt hB n f).mp hf
  have hci := hc f (by omega)
  by_cases hz : g 10 f = 0
  · obtain ⟨g', em, hrow, hout, hout9, k1, k2⟩ := p2_measure h hn hB hx (f := f) (by omega) hfit hz
    have keep : ∀ j, j ≠ f → rowOk (g 2) (bN (g 5) 2) (bN (g 5) 3) (bN (g 5) 5) g j → rowOk (g 2) (bN (g 5) 2) (bN (g 5) 3) (bN (g 5) 5) g' j := fun j hj h3 => h3.cg (fun L hL => hout _ (by omega)) (hout9 j hj)
    refine ⟨g', em, fun j hj => ?_, ⟨k1, k2⟩, fun j hj => ?_⟩
    · by_cases hjf : j = f
      · subst hjf
        exact Or.inr ⟨k1, hfit, hrow⟩
      · rw [k2 j hjf]
        rcases hc j hj with hh | ⟨h1, h2, h3⟩
        · exact Or.inl hh
        · exact Or.inr ⟨h1, h2, keep j hjf h3⟩
    · by_cases hjf : j = f
      · subst hjf
        exact hrow
      · exact keep j hjf hj
  · refine ⟨g, ?_, hc, ⟨?_, fun _ _ => rfl⟩, fun _ hj => hj⟩
    · unfold GF_X2_measure GJ_X2_measure_5
      rw [ck_ok (by omega), if_neg (by omega), if_neg (by omega), rdZ_at f rfl (by omega), ck_ok (by omega), if_neg hz]
    · rcases hci with hh | hh
      · exact absurd hh hz
      · exact hh.1
theorem p2_find {g : uZ} {n : Nat} (h : g 1 2 = n) (hn : n ≤ 800) (hB : BOk (g 5)) (hx : XOk (g 2)) (hc : Cache (g 2) (g 5) n g) : ∃ g', GF_X2_find g = some g' ∧ Cache (g 2) (g 5) n g' ∧ ∀ f, f < nfS (g 5) n → rowOk (g 2) (bN (g 5) 2) (bN (g 5) 3) (bN (g 5) 5) g' f := by
  have h100 := nfS_100 hB hn
  unfold GF_X2_find
  rw [p2_size h hn hB, cp_ok]
  refine lp_go (fun i q => q.1 = i ∧ Fr [7, 8, 9, 10] [] g q.2 ∧ Cache (g 2) (g 5) n q.2 ∧ ∀ f, f < i → q.2 10 f = 1) (fun q => Cache (g 2) (g 5) n q ∧ ∀ f, f < nfS (g 5) n → q 10 f = 1) (nfS (g 5) n) (by omega) ⟨rfl, Fr.rf, hc, fun f hf => by omega⟩ ?_ ?_ ?_
  · rintro i ⟨w, q⟩ hi ⟨e1, hF, hC, hk⟩
    simp only at e1 hF hC hk
    subst e1
    have q1 : q 1 2 = n := (hF 1 2 (by decide) (by decide)).trans h
    have q2 : q 2 = g 2 := hF.f 2 (by decide) (by decide)
    have q5 : q 5 = g 5 := hF.f 5 (by decide) (by decide)
    obtain ⟨q', em, hC2, ⟨k1, k2⟩, -⟩ := p2_meas q1 hn (q5 ▸ hB) (q2 ▸ hx) (by rw [q2, q5]; exact hC) (f := i) (by rw [q5]; exact hi)
    rw [q2, q5] at hC2
    have hFm : Fr [7, 8, 9, 10] [] q q' := fF_X2_measure Fr.rf em
    dsimp only
    unfold GB_X2_find_2
    rw [ck_ok (by omega), ck_ok (by omega), if_neg (by omega), em, cp_ok, lt_ok]
    refine ⟨_, rfl, ?_⟩
    dsimp only
    refine ⟨by simp, hF.tr hFm (by decide) (by decide), hC2, fun f hf => ?_⟩
    by_cases hfi : f = i
    · subst hfi
      exact k1
    · rw [k2 f hfi]
      exact hk f (by omega)
  · rintro ⟨w, q⟩ ⟨e1, hF, hC, hk⟩
    simp only at e1 hF hC hk
    subst e1
    dsimp only
    unfold GB_X2_find_2
    rw [ck_ok (by omega), ck_ok (by omega), if_pos (by omega)]
    exact ⟨_, rfl, hC, hk⟩
  · rintro q ⟨hC, hk⟩
    refine ⟨q, rfl, hC, fun f hf => ?_⟩
    rcases hC f (by omega) with hh | hh
    · have := hk f hf
      omega
    · exact hh.2.2
theorem p2_forgetAll (g : uZ) : ∃ g', GF_X2_forgetAll g = some g' ∧ ∀ f, f < 100 → g' 10 f = 0 := by
  unfold GF_X2_forgetAll
  refine lp_go (fun i q => q.1 = i ∧ ∀ f, f < i → q.2 10 f = 0) (fun q => ∀ f, f < 100 → q 10 f = 0) 100 (by omega) ⟨rfl, fun f hf => by omega⟩ ?_ ?_ (fun q hq => ⟨q, rfl, hq⟩)
  · rintro i ⟨w, q⟩ hi ⟨e1, hk⟩
    simp only at e1 hk
    subst e1
    dsimp only
    unfold GB_X2_forgetAll_2
    rw [ck_ok (by omega), if_neg (by omega), wrZ_at i rfl (by omega), nar0, lt_ok]
    refine ⟨_, rfl, ?_⟩
    dsimp only
    refine ⟨by simp, fun f hf => ?_⟩
    rw [upZ_s]
    split
    · rfl
    · exact hk f (by omega)
  · rintro ⟨w, q⟩ ⟨e1, hk⟩
    simp only at e1 hk
    subst e1
    dsimp only
    unfold GB_X2_forgetAll_2
    rw [ck_ok (by omega), if_pos (by omega)]
    exact ⟨_, rfl, hk⟩
theorem p2_forgetThose {g : uZ} (hB : BOk (g 5)) {a b : Int} (ha : inR a) (hb : inR b) : ∃ g', GF_X2_forgetThose a b g = some g' ∧ ∀ f, f < 100 → g' 10 f = if ((f * bN (g 5) 2 : Nat) : Int) < b ∧ a < ((f * bN (g 5) 2 + rcS (g 5) : Nat) : Int) then 0 else g 10 f := by
  have h2 := hB.b2
  have h3 := hB.b3
  have h5 := hB.b5
  have hr : rcS (g 5) = bN (g 5) 3 + bN (g 5) 5 + 1 := rfl
  unfold GF_X2_forgetThose
  refine lp_go (fun i q => q.1 = ((i * bN (g 5) 2 : Nat) : Int) ∧ q.2.1 = i ∧ q.2.2 5 = g 5 ∧ ∀ f, f < 100 → q.2.2 10 f = if f < i ∧ ((f * bN (g 5) 2 : Nat) : Int) < b ∧ a < ((f * bN (g 5) 2 + rcS (g 5) : Nat) : Int) then 0 else g 10 f) (fun q => ∀ f, f < 100 → q 10 f = if ((f * bN (g 5) 2 : Nat) : Int) < b ∧ a < ((f * bN (g 5) 2 + rcS (g 5) : Nat) : Int) then 0 else g 10 f) 100 (by omega) ⟨by simp, rfl, rfl, fun f hf => by rw [if_neg (by omega)]⟩ ?_ ?_ (fun q hq => ⟨q, rfl, hq⟩)
  · rintro i ⟨w, v, q⟩ hi ⟨e1, e2, q5, hk⟩
    simp only at e1 e2 q5 hk
    subst e1 e2
    have hmul : i * bN (g 5) 2 ≤ 100 * 40 := Nat.mul_le_mul (by omega) (by omega)
    have hsucc : (i + 1) * bN (g 5) 2 = i * bN (g 5) 2 + bN (g 5) 2 := Nat.succ_mul _ _
    have fin : ∀ q' : uZ, q' 5 = g 5 → (∀ f, f < 100 → q' 10 f = if f < i + 1 ∧ ((f * bN (g 5) 2 : Nat) : Int) < b ∧ a < ((f * bN (g 5) 2 + rcS (g 5) : Nat) : Int) then 0 else g 10 f) → ∃ a', GJ_X2_forgetThose_2 ((i * bN (g 5) 2 : Nat) : Int) i q' = some (Sum.inl a') ∧ a'.1 = (((i + 1) * bN (g 5) 2 : Nat) : Int) ∧ a'.2.1 = ((i + 1 : Nat) : Int) ∧ a'.2.2 5 = g 5 ∧ ∀ f, f < 100 → a'.2.2 10 f = if f < i + 1 ∧ ((f * bN (g 5) 2 : Nat) : Int) < b ∧ a < ((f * bN (g 5) 2 + rcS (g 5) : Nat) : Int) then 0 else g 10 f := by
      intro q' h5' hk'
      unfold GJ_X2_forgetThose_2
      rw [p0_2, cp_ok, lt_ok, lt_ok, h5']
      exact ⟨_, rfl, by simp only; omega, by simp, h5', hk'⟩
    dsimp only
    unfold GB_X2_forgetThose_3
    rw [ck_ok (by omega), if_neg (by omega), ck_ok (by omega), ck_ok (by omega)]
    have same : ¬ (((i * bN (g 5) 2 : Nat) : Int) < b ∧ a < ((i * bN (g 5) 2 + rcS (g 5) : Nat) : Int)) → ∀ f, f < 100 → q 10 f = if f < i + 1 ∧ ((f * bN (g 5) 2 : Nat) : Int) < b ∧ a < ((f * bN (g 5) 2 + rcS (g 5) : Nat) : Int) then 0 else g 10 f := by
      intro hno f hf
      rw [hk f hf]
      by_cases hfi : f = i
      · subst hfi
        rw [if_neg (by omega), if_neg (fun h => hno h.2)]
      · by_cases hlt : f < i
        · simp only [hlt, show f < i + 1 by omega, true_and]
        · rw [if_neg (by omega), if_neg (by omega)]
    by_cases h1 : b ≤ ((i * bN (g 5) 2 : Nat) : Int)
    · rw [if_pos h1]
      exact fin q q5 (same (by omega))
    · rw [if_neg h1, p2_reach (q5 ▸ hB), q5, cp_ok, ck_ok (by omega), ck_ok ha]
      by_cases h4 : ((i * bN (g 5) 2 : Nat) : Int) + (rcS (g 5) : Int) ≤ a
      · rw [if_pos h4]
        exact fin q q5 (same (by omega))
      · rw [if_neg h4, wrZ_at i rfl (by omega), nar0]
        refine fin _ (by rw [upZ_n (by decide)]; exact q5) (fun f hf => ?_)
        by_cases hfi : f = i
        · subst hfi
          rw [upZ_ss, if_pos (by omega)]
        · rw [upZ_sn hfi, hk f hf]
          by_cases hlt : f < i
          · simp only [hlt, show f < i + 1 by omega, true_and]
          · rw [if_neg (by omega), if_neg (by omega)]
  · rintro ⟨w, v, q⟩ ⟨e1, e2, q5, hk⟩
    simp only at e1 e2 q5 hk
    subst e1 e2
    dsimp only
    unfold GB_X2_forgetThose_3
    rw [ck_ok (by omega), if_pos (by omega)]
    refine ⟨_, rfl, fun f hf => ?_⟩
    rw [hk f hf]
    simp only [hf, true_and]
