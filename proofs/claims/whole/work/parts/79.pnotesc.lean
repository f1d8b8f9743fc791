/-! Notes.find -/
def mdV (L : Nat → Int) (a l v : Nat) : Prop := v < 50 ∧ cmV L a l v ≤ (l - 1) / 2 ∧ (l - 1) / 2 < cmV L a l (v + 1)
theorem mdV.uniq {L : Nat → Int} {a l u v : Nat} (h1 : mdV L a l u) (h2 : mdV L a l v) : u = v := cmV_uniq h1.2.1 h1.2.2 h2.2.1 h2.2.2
theorem cmT_cmV (L : Nat → Int) (a l n : Nat) : cmT (fun v => ctV L a l (v : Int)) n = cmV L a l n := by
  induction n with
  | zero => rfl
  | succ n ih => unfold cmT cmV; rw [ih]
theorem cmV_nil (L : Nat → Int) (a n : Nat) : cmV L a 0 n = 0 := by
  induction n with
  | zero => rfl
  | succ n ih => unfold cmV; rw [ih]; rfl
theorem cmV_all {L : Nat → Int} {a l n : Nat} (h : ∀ j, j < l → 0 ≤ L (a + j) ∧ L (a + j) < (n : Int)) : cmV L a l n = l := by
  induction l with
  | zero => exact cmV_nil L a n
  | succ l ih =>
    have h1 := h l (by omega)
    rw [cmV_step L a l h1.1, if_pos h1.2, ih (fun j hj => h j (by omega))]
theorem ctV_none {L : Nat → Int} {a l : Nat} {v : Int} (h : ∀ j, j < l → L (a + j) ≠ v) : ctV L a l v = 0 := by
  induction l with
  | zero => rfl
  | succ l ih => unfold ctV; rw [ih (fun j hj => h j (by omega)), if_neg (h l (by omega))]
theorem ntS.nz {L : Nat → Int} {f i a l : Nat} (h : ntS L f i a l) : ∀ j, j < l → L (a + j) ≠ 0 := by
  intro j hj
  by_cases h0 : j = 0
  · subst h0
    exact (bnN.ct h.1).2
  · have := h.2.2.2.2.1 (a + j) (by omega) (by omega)
    unfold ctN at this
    rw [decide_eq_true_eq] at this
    exact this.2.1
def NQ (L : Nat → Int) (N : Nat) (g : uZ) : Prop := g 38 6 = (nN L N : Int) ∧ (∀ i, i < nN L N → ∃ a l v : Nat, g 39 i = (a : Int) ∧ g 40 i = (l : Int) ∧ g 41 i = (v : Int) ∧ ntS L N i a l ∧ mdV L a l v) ∧ g 42 0 = 0 ∧ (∀ v : Nat, 0 < v → v < 50 → g 42 v = (ctV L 0 N (v : Int) : Int)) ∧ g 38 7 = (N : Int) - (ctV L 0 N 0 : Int) ∧ stS L N (g 38 8) (g 38 9)
theorem p4_find {g : uZ} {N : Nat} (h16 : g 16 12 = N) (hN : N ≤ 100) (hL : ∀ f, f < N → 0 ≤ g 24 f ∧ g 24 f ≤ 48) : ∃ g', GF_X4_find g = some g' ∧ NQ (g 24) N g' := by
  unfold GF_X4_find
  obtain ⟨g1, h1, n1, n2⟩ := p4_findNotes h16 hN (fun f hf => ⟨(hL f hf).1, by have := (hL f hf).2; omega⟩)
  have f1 := fF_X4_findNotes Fr.rf h1
  have a16 : g1 16 12 = (N : Int) := (f1 16 12 (by decide) (by decide)).trans h16
  have a24 : g1 24 = g 24 := f1.f 24 (by decide) (by decide)
  have hle := nN_le (g 24) N
  rw [h1, cp_ok]
  refine lp_go (fun t z => z.1 = (t : Int) ∧ Fr [41, 43] [] g1 z.2 ∧ ∀ i, i < t → ∃ a l v : Nat, g1 39 i = (a : Int) ∧ g1 40 i = (l : Int) ∧ z.2 41 i = (v : Int) ∧ ntS (g 24) N i a l ∧ mdV (g 24) a l v) (fun z => Fr [41, 43] [] g1 z ∧ ∀ i, i < nN (g 24) N → ∃ a l v : Nat, g1 39 i = (a : Int) ∧ g1 40 i = (l : Int) ∧ z 41 i = (v : Int) ∧ ntS (g 24) N i a l ∧ mdV (g 24) a l v) (nN (g 24) N) (by omega) ⟨rfl, Fr.rf, fun i hi => absurd hi (Nat.not_lt_zero _)⟩ ?_ ?_ ?_
  · rintro t ⟨w, z⟩ ht ⟨e1, hF, hv⟩
    simp only at e1 hF hv
    subst e1
    dsimp only
    obtain ⟨a, l, q1, q2, q3⟩ := n2 t ht
    have hal := q3.2.2.2.1
    have hl1 := q3.2.2.1
    have z16 : z 16 12 = (N : Int) := (hF 16 12 (by decide) (by decide)).trans a16
    have z24 : z 24 = g 24 := (hF.f 24 (by decide) (by decide)).trans a24
    have z39 : z 39 = g1 39 := hF.f 39 (by decide) (by decide)
    have z40 : z 40 = g1 40 := hF.f 40 (by decide) (by decide)
    have z38 : z 38 6 = (nN (g 24) N : Int) := (hF 38 6 (by decide) (by decide)).trans n1
    unfold GB_X4_find_2
    rw [z38, ck_ok (by omega), ck_ok (by omega), if_neg (by omega), rdZ_at t rfl (by omega), z39, q1, rdZ_at t rfl (by omega), z40, q2]
    obtain ⟨⟨c, y⟩, h2, r1, r2, r3⟩ := p4_tally43 (g := z) z16 hN (by rw [z24]; exact hL) hal
    simp only at r1 r2 r3
    have f2 := fF_X4_tallyLags_43 Fr.rf h2
    unfold fp_0 at f2
    simp only at f2
    have y40 : y 40 t = (l : Int) := by rw [f2.f 40 (by decide) (by decide), z40]; exact q2
    rw [h2, clZ_ok, rdZ_at t rfl (by omega), y40]
    have hT : ∀ v : Nat, v < 50 → y 43 v = ((ctV (g 24) a l (v : Int) : Nat) : Int) := by
      intro v hv
      by_cases h0 : v = 0
      · subst h0
        rw [r2, show ((0 : Nat) : Int) = 0 from rfl, ctV_none q3.nz]
        rfl
      · rw [r3 v (by omega) hv, z24]
    obtain ⟨m, h3, v, rfl, s1, s2, s3⟩ := p_middle43 (g := y) (T := fun v => ctV (g 24) a l (v : Int)) (l := l) hT (fun v => by have := ctV_le (g 24) a l (v : Int); omega) hl1 (by omega) (by rw [cmT_cmV, cmV_all (fun j hj => by have := hL (a + j) (by omega); omega)]; omega)
    rw [cmT_cmV] at s2 s3
    rw [h3, cp_ok, wrZ_at t rfl (by omega), lt_ok]
    refine ⟨_, rfl, ?_⟩
    dsimp only
    refine ⟨by omega, (hF.tr f2 (by decide) (by decide)).wr (by decide), fun i hi => ?_⟩
    by_cases hit : i = t
    · subst hit
      exact ⟨a, l, v, q1, q2, upZ_ss _ _ _ _, q3, s1, s2, s3⟩
    · rw [upZ_sn (by omega), f2.f 41 (by decide) (by decide)]
      exact hv i (by omega)
  · rintro ⟨w, z⟩ ⟨e1, hF, hv⟩
    simp only at e1 hF hv
    subst e1
    dsimp only
    refine ⟨z, ?_, hF, hv⟩
    have z38 : z 38 6 = (nN (g 24) N : Int) := (hF 38 6 (by decide) (by decide)).trans n1
    unfold GB_X4_find_2
    rw [z38, ck_ok (by omega), ck_ok (by omega), if_pos (by omega)]
  · rintro z ⟨hF, hv⟩
    have z16 : z 16 12 = (N : Int) := (hF 16 12 (by decide) (by decide)).trans a16
    have z24 : z 24 = g 24 := (hF.f 24 (by decide) (by decide)).trans a24
    unfold GC_X4_find_3 GF_X5_size
    rw [cp_ok, z16]
    obtain ⟨⟨c, y⟩, h2, r1, r2, r3⟩ := p4_tally42 (g := z) (a := 0) (l := N) z16 hN (by rw [z24]; exact hL) (by omega)
    simp only at r1 r2 r3
    have f2 := fF_X4_tallyLags_42 Fr.rf h2
    unfold fp_0 at f2
    simp only at f2
    rw [show ((0 : Nat) : Int) = 0 from rfl] at h2
    rw [h2, clZ_ok, pfZ_ok]
    generalize hy : upZ y 38 7 c = y2
    have f3 : Fr [42] [(38, 7)] z y2 := by rw [← hy]; exact ((Fr.rf (L := [42]) (M := [(38, 7)])).tr f2 (by decide) (by decide)).pf (by decide)
    have y16 : y2 16 12 = (N : Int) := (f3 16 12 (by decide) (by decide)).trans z16
    have y24 : y2 24 = g 24 := (f3.f 24 (by decide) (by decide)).trans z24
    obtain ⟨x, h4, hst⟩ := p4_findSteady (g := y2) y16 hN (by rw [y24]; exact fun f hf => ⟨(hL f hf).1, by have := (hL f hf).2; omega⟩)
    have f4 := fF_X4_findSteady Fr.rf h4
    rw [y24] at hst
    rw [h4, cp_ok]
    have f5 : Fr [42] [(38, 7), (38, 8), (38, 9)] z x := ((Fr.rf (L := [42]) (M := [(38, 7), (38, 8), (38, 9)])).tr f3 (by decide) (by decide)).tr f4 (by decide) (by decide)
    refine ⟨x, rfl, ?_, fun i hi => ?_, ?_, fun v h0 h1 => ?_, ?_, hst⟩
    · rw [f5 38 6 (by decide) (by decide), hF 38 6 (by decide) (by decide)]
      exact n1
    · rw [f5.f 39 (by decide) (by decide), f5.f 40 (by decide) (by decide), f5.f 41 (by decide) (by decide), hF.f 39 (by decide) (by decide), hF.f 40 (by decide) (by decide)]
      exact hv i hi
    · rw [f4.f 42 (by decide) (by decide), ← hy, upZ_n (by decide)]
      exact r2
    · rw [f4.f 42 (by decide) (by decide), ← hy, upZ_n (by decide), r3 v h0 h1, z24]
    · rw [f4 38 7 (by decide) (by decide), ← hy, upZ_ss, r1, z24]
