/-! samples, cycles, noise, bound -/
def apd (x : Nat → Int) (n : Nat) (s : Nat → Int) (t : Nat) : Nat → Int := fun j => if n ≤ j ∧ j < n + t then s (j - n) else x j
theorem apd_0 (x : Nat → Int) (n : Nat) (s : Nat → Int) : apd x n s 0 = x := by
  funext j
  unfold apd
  rw [if_neg (by omega)]
theorem apd_s {g : uZ} {x : Nat → Int} {c n t : Nat} {s : Nat → Int} (h : g c = apd x n s t) : upZ g c (n + t) (s t) c = apd x n s (t + 1) := by
  funext j
  by_cases q : j = n + t
  · subst q
    rw [upZ_ss]
    unfold apd
    rw [if_pos (by omega), show n + t - n = t by omega]
  · rw [upZ_sn q, h]
    unfold apd
    by_cases q2 : n ≤ j ∧ j < n + t
    · rw [if_pos q2, if_pos (by omega)]
    · rw [if_neg q2, if_neg (by omega)]
theorem p7_append {g : uZ} {x : Nat → Int} {n t : Nat} {s : Nat → Int} {v : Int} (h1 : g 1 2 = ((n + t : Nat) : Int)) (h2 : g 2 = apd x n s t) (hn : n + t < 800) (hv : v = s t) : ∃ g', GF_X7_append v g = some g' ∧ g' 1 2 = ((n + (t + 1) : Nat) : Int) ∧ g' 2 = apd x n s (t + 1) := by
  unfold GF_X7_append GJ_X7_append_1
  rw [h1, ck_ok (by omega), if_neg (by omega), wrZ_at (n + t) rfl (by omega), pfZ_ok, upZ_n (by decide), h1]
  refine ⟨_, rfl, by rw [upZ_ss]; omega, ?_⟩
  rw [upZ_n (by decide), hv]
  exact apd_s h2
theorem m_adds {g : uZ} {x : Nat → Int} {n t : Nat} {s : Nat → Int} {v : Int} (h1 : g 55 6 = ((n + t : Nat) : Int)) (h2 : g 59 = apd x n s t) (hn : n + t < 800) (hv : v = s t) : ∃ g', GF_X12_adds v g = some g' ∧ g' 55 6 = ((n + (t + 1) : Nat) : Int) ∧ g' 59 = apd x n s (t + 1) := by
  unfold GF_X12_adds
  rw [h1, wrZ_at (n + t) rfl (by omega), pfZ_ok, upZ_n (by decide), h1]
  refine ⟨_, rfl, by rw [upZ_ss]; omega, ?_⟩
  rw [upZ_n (by decide), hv]
  exact apd_s h2
/-- the class after samples came behind -/
theorem p11_grown {R M : uZ → Prop} {n t : Nat} {s : Nat → Int} {g g5 : uZ} (hI : IVn R M n g) (hnt : n + t ≤ 800) (hs : ∀ j, j < t → -128 ≤ s j ∧ s j ≤ 127) (f5 : Fr [2] [(1, 2), (1, 3)] g g5) (h1 : g5 1 2 = ((n + t : Nat) : Int)) (h2 : g5 2 = apd (g 2) n s t) : ∃ g', GF_X11_changedFrom (n : Int) ((n + t : Nat) : Int) g5 = some (((n + t : Nat) : Int), g') ∧ CP (n + t) g' ∧ Fr [10] [(0, 10), (0, 11), (0, 12)] g5 g' := by
  have e5 : g5 5 = g 5 := f5.f 5 (by decide) (by decide)
  have e10 : g5 10 = g 10 := f5.f 10 (by decide) (by decide)
  refine p11_changed h1 hnt ?_ (by rw [e5]; exact hI.b) (by omega) (by omega) (fun f hf => ?_)
  · rw [h2]
    intro j
    unfold apd
    split
    · exact hs _ (by omega)
    · exact hI.x j
  · rw [e10, e5]
    rcases hI.2.2.2.2.1 f hf with q | ⟨q1, q2, q3⟩
    · exact Or.inl q
    · refine Or.inr ⟨q1, Or.inr ⟨by omega, ?_⟩⟩
      have r5 : rowOk (g 2) (bN (g 5) 2) (bN (g 5) 3) (bN (g 5) 5) g5 f := f5.tra (fun q => rowOk (g 2) (bN (g 5) 2) (bN (g 5) 3) (bN (g 5) 5) q f) q3
      refine r5.x (fun j h3 h4 => ?_)
      rw [h2]
      unfold apd
      rw [if_neg (by unfold rcS at q2; omega)]
/-- both sides after the same samples came behind -/
theorem grown_iv {R M : uZ → Prop} {n t : Nat} {s : Nat → Int} {g g5 g7 g9 : uZ} {L : List (Nat × Nat)} (hI : IVn R M n g) (f5 : Fr [2] [(1, 2), (1, 3)] g g5) (h2 : g5 2 = apd (g 2) n s t) (hcp : CP (n + t) g7) (f7 : Fr [10] [(0, 10), (0, 11), (0, 12)] g5 g7) (f9 : Fr [59] L g7 g9) (hL : ∀ q ∈ L, q.1 = 55) (h6 : g9 55 6 = ((n + t : Nat) : Int)) (h59 : g9 59 = apd (g 2) n s t) (htt : TT g9) : IV R M g9 := by
  have hf : ∀ c, c ≠ 59 → c ≠ 55 → g9 c = g7 c := fun c h1 h2 => funext fun j => f9 c j (fun h => h1 (List.mem_singleton.mp h)) (fun h => h2 (hL _ h))
  have e2 : g9 2 = apd (g 2) n s t := by rw [hf 2 (by decide) (by decide), f7.f 2 (by decide) (by decide)]; exact h2
  have e5 : g9 5 = g 5 := by rw [hf 5 (by decide) (by decide), f7.f 5 (by decide) (by decide), f5.f 5 (by decide) (by decide)]
  obtain ⟨c1, c2, c3, c4, c5, c6⟩ := hcp
  have hcp9 : CP (n + t) g9 := by
    refine ⟨by rw [hf 1 (by decide) (by decide)]; exact c1, c2, by rw [hf 2 (by decide) (by decide)]; exact c3, by rw [hf 5 (by decide) (by decide)]; exact c4, ?_, by rw [hf 0 (by decide) (by decide)]; exact c6⟩
    unfold Cache rowOk
    rw [hf 2 (by decide) (by decide), hf 5 (by decide) (by decide), hf 7 (by decide) (by decide), hf 8 (by decide) (by decide), hf 9 (by decide) (by decide), hf 10 (by decide) (by decide)]
    exact c5
  refine hcp9.iv ⟨h6, by rw [h59, e2], ?_⟩ htt
  rw [hf 56 (by decide) (by decide), f7.f 56 (by decide) (by decide), f5.f 56 (by decide) (by decide), e5]
  exact hI.sz.2.2
theorem p7_room {g : uZ} {n : Nat} {a : Int} (h : g 1 2 = (n : Int)) (ha : inR ((n : Int) + a)) : GF_X7_hasRoom a g = some (if 800 < (n : Int) + a then 0 else 1) := by
  unfold GF_X7_hasRoom
  rw [h, ck_ok ha, lt_ok]
  split
  · rw [bzZ_0]
  · rw [bzZ_1]
theorem o_samples {R M : uZ → Prop} (hR : Kp R) (hM : Kp M) {a : Int} (ha : inR a) : opV (IV R M) (GF_X11_samples a) (GF_X12_samples a) := by
  rintro g ⟨n, hI⟩
  have hn := hI.n
  obtain ⟨s1, s2, s3⟩ := hI.sz
  obtain ⟨⟨tp, t0, t1, t2⟩, t3, t4, t5, t6, t7, t8⟩ := id hI.2.2.2.2.2.2.2
  have e6 : upZ g 55 9 0 55 6 = (n : Int) := by rw [upZ_sn (by decide)]; exact s1
  have e7 : upZ g 55 9 0 55 7 = (tp : Int) := by rw [upZ_sn (by decide)]; exact t2
  by_cases hA : (0 ≤ a ∧ a ≤ (tp : Int)) ∧ (n : Int) + a ≤ 800
  · obtain ⟨k, rfl⟩ : ∃ k : Nat, a = (k : Int) := ⟨a.toNat, by omega⟩
    obtain ⟨g5, h5, c1, c2, c3⟩ : ∃ g5, GF_X7_appendFromTape (k : Int) g = some g5 ∧ g5 1 2 = ((n + k : Nat) : Int) ∧ g5 2 = apd (g 2) n (g 3) k ∧ g5 1 3 = 0 := by
      unfold GF_X7_appendFromTape
      refine lp_go (fun t z => z.1 = (t : Int) ∧ Fr [2] [(1, 2)] g z.2 ∧ z.2 1 2 = ((n + t : Nat) : Int) ∧ z.2 2 = apd (g 2) n (g 3) t) (fun z => z 1 2 = ((n + k : Nat) : Int) ∧ z 2 = apd (g 2) n (g 3) k) k (by omega) ⟨rfl, Fr.rf, hI.s, (apd_0 _ _ _).symm⟩ ?_ ?_ (fun z hz => ?_)
      · rintro t ⟨w, z⟩ ht ⟨e1, hF, z1, z2⟩
        simp only at e1 hF z1 z2
        subst e1
        dsimp only
        have z3 : z 3 = g 3 := hF.f 3 (by decide) (by decide)
        obtain ⟨z', q1, q2, q3⟩ := p7_append (v := g 3 t) z1 z2 (by omega) rfl
        unfold GB_X7_appendFromTape_2
        rw [ck_ok (by omega), ck_ok (by omega), if_neg (by omega), hF 1 3 (by decide) (by decide), t1, ck_ok (by omega), if_neg (by omega), rdZ_at t rfl (by omega), z3, q1, cp_ok, lt_ok]
        exact ⟨_, rfl, by dsimp only; omega, hF.tr (fF_X7_append Fr.rf q1) (by decide) (by decide), q2, q3⟩
      · rintro ⟨w, z⟩ ⟨e1, hF, z1, z2⟩
        simp only at e1 hF z1 z2
        subst e1
        dsimp only
        refine ⟨z, ?_, z1, z2⟩
        unfold GB_X7_appendFromTape_2
        rw [ck_ok (by omega), ck_ok (by omega), if_pos (by omega)]
      · unfold GC_X7_appendFromTape_3
        rw [pfZ_ok]
        exact ⟨_, rfl, by rw [upZ_sn (by decide)]; exact hz.1, by rw [upZ_n (by decide)]; exact hz.2, upZ_ss _ _ _ _⟩
    have f5 : Fr [2] [(1, 2), (1, 3)] g g5 := fF_X7_appendFromTape Fr.rf h5
    obtain ⟨g7, h7, hcp, f7⟩ := p11_grown hI (by omega) (fun j _ => t3 j) f5 c1 c2
    have f57 : Fr [2, 10] [(0, 10), (0, 11), (0, 12), (1, 2), (1, 3)] g g7 := ((Fr.rf (L := [2, 10]) (M := [(0, 10), (0, 11), (0, 12), (1, 2), (1, 3)])).tr f5 (by decide) (by decide)).tr f7 (by decide) (by decide)
    have f71 : Fr [] [(55, 9)] g7 (upZ g7 55 9 0) := fr9 g7 0
    have k6 : upZ g7 55 9 0 55 6 = (n : Int) := by rw [upZ_sn (by decide), f57 55 6 (by decide) (by decide)]; exact s1
    have k7 : upZ g7 55 9 0 55 7 = (tp : Int) := by rw [upZ_sn (by decide), f57 55 7 (by decide) (by decide)]; exact t2
    have k59 : upZ g7 55 9 0 59 = g 2 := by rw [upZ_n (by decide), f57.f 59 (by decide) (by decide)]; exact s2
    have k60 : upZ g7 55 9 0 60 = g 3 := by rw [upZ_n (by decide), f57.f 60 (by decide) (by decide)]; exact t4
    obtain ⟨⟨r, g9⟩, h9, d0, d1, d2, d3⟩ : ∃ z, lp (fun z => GB_X12_samples_2 (k : Int) z.1 z.2) (0, upZ g7 55 9 0) (fun z => GC_X12_samples_3 z) = some z ∧ z.1 = ((n + k : Nat) : Int) ∧ z.2 55 6 = ((n + k : Nat) : Int) ∧ z.2 59 = apd (g 2) n (g 3) k ∧ z.2 55 7 = 0 := by
      refine lp_go (fun t z => z.1 = (t : Int) ∧ Fr [59] [(55, 6)] (upZ g7 55 9 0) z.2 ∧ z.2 55 6 = ((n + t : Nat) : Int) ∧ z.2 59 = apd (g 2) n (g 3) t) (fun z => z 55 6 = ((n + k : Nat) : Int) ∧ z 59 = apd (g 2) n (g 3) k) k (by omega) ⟨rfl, Fr.rf, k6, by dsimp only; rw [k59]; exact (apd_0 _ _ _).symm⟩ ?_ ?_ (fun z hz => ?_)
      · rintro t ⟨w, z⟩ ht ⟨e1, hF, z1, z2⟩
        simp only at e1 hF z1 z2
        subst e1
        dsimp only
        have z3 : z 60 = g 3 := (hF.f 60 (by decide) (by decide)).trans k60
        obtain ⟨z', q1, q2, q3⟩ := m_adds (v := g 3 t) z1 z2 (by omega) rfl
        unfold GB_X12_samples_2
        rw [ck_ok (by omega), ck_ok (by omega), if_neg (by omega), rdZ_at t rfl (by omega), z3, q1, cp_ok, lt_ok]
        exact ⟨_, rfl, by dsimp only; omega, hF.tr (fF_X12_adds Fr.rf q1) (by decide) (by decide), q2, q3⟩
      · rintro ⟨w, z⟩ ⟨e1, hF, z1, z2⟩
        simp only at e1 hF z1 z2
        subst e1
        dsimp only
        refine ⟨z, ?_, z1, z2⟩
        unfold GB_X12_samples_2
        rw [ck_ok (by omega), ck_ok (by omega), if_pos (by omega)]
      · unfold GC_X12_samples_3
        rw [pfZ_ok, upZ_sn (by decide)]
        exact ⟨_, rfl, hz.1, by dsimp only; rw [upZ_sn (by decide)]; exact hz.1, by dsimp only; rw [upZ_n (by decide)]; exact hz.2, by dsimp only; exact upZ_ss _ _ _ _⟩
    simp only at d0 d1 d2 d3
    have hB : GF_X12_samples (k : Int) g7 = some (((n + k : Nat) : Int), g9) := by
      unfold GF_X12_samples
      rw [pfZ_ok, k7, m_isIn _ ha (by decide) (by omega), cp_ok, if_pos hA.1, ck_ok (by decide), if_neg (by decide), k6, ck_ok (by omega), if_pos hA.2, h9, d0]
    refine ⟨_, g7, g9, ?_, hB, ?_⟩
    · unfold GF_X11_samples GF_X7_tapeSize GF_X7_size
      rw [ck_ok ha, if_neg (by omega), cp_ok, t1, ck_ok (by omega), if_neg (by omega), p7_room hI.s (by omega), cp_ok, if_neg (by omega), ck_ok (by decide), if_neg (by decide), cp_ok, h5, cp_ok, cp_ok, hI.s, c1, h7, clZ_ok]
    · have f9 : Fr [59] [(55, 6), (55, 7), (55, 9)] g7 g9 := fF_X12_samples Fr.rf hB
      refine grown_iv hI f5 c2 hcp f7 f9 (by decide) d1 d2 ?_
      have w3 : g9 3 = g 3 := (f9.f 3 (by decide) (by decide)).trans (f57.f 3 (by decide) (by decide))
      have w60 : g9 60 = g 60 := (f9.f 60 (by decide) (by decide)).trans (f57.f 60 (by decide) (by decide))
      have w51 : g9 51 = g 51 := (f9.f 51 (by decide) (by decide)).trans (f57.f 51 (by decide) (by decide))
      have w52 : g9 52 = g 52 := (f9.f 52 (by decide) (by decide)).trans (f57.f 52 (by decide) (by decide))
      have w61 : g9 61 = g 61 := (f9.f 61 (by decide) (by decide)).trans (f57.f 61 (by decide) (by decide))
      have w57 : g9 57 = g 57 := (f9.f 57 (by decide) (by decide)).trans (f57.f 57 (by decide) (by decide))
      have w58 : g9 58 = g 58 := (f9.f 58 (by decide) (by decide)).trans (f57.f 58 (by decide) (by decide))
      have w8 : g9 55 8 = g 55 8 := (f9 55 8 (by decide) (by decide)).trans (f57 55 8 (by decide) (by decide))
      have w13 : g9 1 3 = 0 := by rw [f9 1 3 (by decide) (by decide), f7 1 3 (by decide) (by decide)]; exact c3
      unfold TT
      rw [w3, w60, w51, w52, w61, w57, w58, w8]
      exact ⟨⟨0, by omega, w13, d3⟩, t3, t4, t5, t6, t7, t8⟩
  · have hB : GF_X12_samples a g = some (-1000, upZ g 55 9 0) := by
      unfold GF_X12_samples GJ_X12_samples_4
      rw [pfZ_ok, e7, m_isIn _ ha (by decide) (by omega), cp_ok]
      by_cases q : 0 ≤ a ∧ a ≤ (tp : Int)
      · rw [if_pos q, ck_ok (by decide), if_neg (by decide), e6, ck_ok (by omega), if_neg (by omega)]
      · rw [if_neg q, ck_ok (by decide), if_pos rfl]
    refine ⟨_, g, _, ?_, hB, n, hI.flag hR hM 0⟩
    unfold GF_X11_samples GJ_X11_samples_1 GF_X7_tapeSize
    rw [ck_ok ha]
    by_cases a0 : a < 0
    · rw [if_pos a0]
    · rw [if_neg a0, cp_ok, t1, ck_ok (by omega)]
      by_cases a1 : (tp : Int) < a
      · rw [if_pos a1]
      · rw [if_neg a1, p7_room hI.s (by omega), cp_ok, if_pos (by omega), ck_ok (by decide), if_pos rfl]
