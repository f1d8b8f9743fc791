/-! calls, over Int -/
def opV (I : uZ → Prop) (A B : uZ → Option (Int × uZ)) : Prop := ∀ g, I g → ∃ r g1 g2, A g = some (r, g1) ∧ B g1 = some (r, g2) ∧ I g2
def opT (I : uZ → Prop) (xs : List (Nat × Int)) (A : uZ → Option ((Int ⊕ Nat) × uZ)) (B : uZ → Option (Int × uZ)) : Prop := ∀ g, I g → (∃ r g1 g2, A g = some (.inl r, g1) ∧ B g1 = some (r, g2) ∧ g2 55 9 = 0 ∧ I g2) ∨ (∃ q ∈ xs, ∃ r g1 g2, A g = some (.inr q.1, g1) ∧ B g1 = some (r, g2) ∧ g2 55 9 = q.2 ∧ I g2)
theorem fr9 (g : uZ) (v : Int) : Fr [] [(55, 9)] g (upZ g 55 9 v) := Fr.rf.pf (by decide)
theorem IVn.mb {R M : uZ → Prop} {n : Nat} {g z : uZ} (h : IVn R M n g) (hz : Fr [] [(55, 9)] g z) : MB (g 2) (g 5) n z := h.2.2.2.2.2.2.1.cg hz (by decide) (by decide) (by decide)
theorem IVn.x {R M : uZ → Prop} {n : Nat} {g : uZ} (h : IVn R M n g) : XOk (g 2) := h.2.2.1
theorem IVn.b {R M : uZ → Prop} {n : Nat} {g : uZ} (h : IVn R M n g) : BOk (g 5) := h.2.2.2.1
theorem IVn.n {R M : uZ → Prop} {n : Nat} {g : uZ} (h : IVn R M n g) : n ≤ 800 := h.2.1
theorem IVn.s {R M : uZ → Prop} {n : Nat} {g : uZ} (h : IVn R M n g) : g 1 2 = (n : Int) := h.1
theorem IVn.f {R M : uZ → Prop} {n : Nat} {g : uZ} (h : IVn R M n g) : nfS (g 5) n ≤ 100 := nfS_100 h.b h.n
theorem IVn.flag {R M : uZ → Prop} (hR : Kp R) (hM : Kp M) {n : Nat} {g : uZ} (h : IVn R M n g) (v : Int) : IVn R M n (upZ g 55 9 v) := h.fr hR hM (fr9 g v) (by decide) (by decide)
theorem iv_laysPath {R M : uZ → Prop} {n : Nat} {g z : uZ} (h : IVn R M n g) (hP : PW (g 2) (g 5) n g) (hz : Fr [] [(55, 9)] g z) : ∃ g2, GF_X12_laysPath z = some g2 ∧ LGP (nfS (g 5) n) (g 24) g2 ∧ (∀ f, f < nfS (g 5) n → g2 69 f = g 23 f) ∧ g2 55 9 = z 55 9 ∧ MO (nfS (g 5) n) (mS (g 2) (g 5)) (lgS (g 2) (g 5)) (owS (g 2) (g 5)) (bN (g 5) 10) (bN (g 5) 11) (bN (g 5) 12) g2 := by
  obtain ⟨g2, h1, h2⟩ := m_laysPath (h.mb hz) h.n h.b h.x
  have f := fF_X12_laysPath Fr.rf h1
  obtain ⟨h3, h4⟩ := hP.lp h.b h.x h.n h2
  exact ⟨g2, h1, h3, h4, f 55 9 (by decide) (by decide), h2⟩
theorem p5_chosenIn {g : uZ} {N f : Nat} (h16 : g 16 12 = N) (hN : N ≤ 100) (hf : f < N) : GF_X5_chosenIn (f : Int) g = some (g 23 f) := by
  unfold GF_X5_chosenIn GJ_X5_chosenIn_2
  rw [h16, ck_ok (by omega), if_neg (by omega), ck_ok (by omega), if_pos (by omega), rdZ_at f (by omega) (by omega)]
theorem findPath_5 {g g1 : uZ} (h : GF_X11_findPath g = some g1) : g1 5 = g 5 := (fF_X11_findPath Fr.rf h).f 5 (by decide) (by decide)
theorem o_lag {R M : uZ → Prop} (hR : Kp R) (hM : Kp M) {a : Int} (ha : inR a) : opT (IV R M) [(1, 1)] (GF_X11_lag a) (GF_X12_lag a) := by
  rintro g ⟨n, hI⟩
  have hN := hI.f
  unfold GF_X11_lag
  rw [p2_has hI.s hI.n hI.b ha, cp_ok]
  by_cases hf : 0 ≤ a ∧ a < nfS (g 5) n
  · left
    rw [if_pos hf, ck_ok (by decide), if_neg (by decide)]
    obtain ⟨g1, h1, hI1, hfl, hP⟩ := iv_findPath hI
    have e5 := findPath_5 h1
    obtain ⟨f, rfl⟩ : ∃ f : Nat, a = (f : Int) := ⟨a.toNat, by omega⟩
    have hfN : f < nfS (g1 5) n := by rw [e5]; omega
    rw [h1, cp_ok, p5_lagIn hP.2.2.2.1.1 hI1.f hfN, cp_ok]
    have h9 : upZ g1 55 9 0 55 9 = 0 := upZ_ss _ _ _ _
    obtain ⟨g2, h2, hL, -, k9, -⟩ := iv_laysPath hI1 hP (fr9 g1 0)
    have hB : GF_X12_lag (f : Int) g1 = some (g1 24 f, g2) := by
      unfold GF_X12_lag
      rw [pfZ_ok, m_isFrame (hI1.mb (fr9 g1 0)) hI1.n hI1.b h9 ha, if_pos (by omega), clZ_ok, ck_ok (by decide), if_neg (by decide), h2, cp_ok, hL.at hfN, cp_ok]
    exact ⟨_, _, g2, rfl, hB, k9.trans h9, n, hI1.fr hR hM (show Fr _ _ g1 g2 from fF_X12_lag Fr.rf hB) (by decide) (by decide)⟩
  · right
    rw [if_neg hf, ck_ok (by decide), if_pos rfl]
    have h9 : upZ g 55 9 0 55 9 = 0 := upZ_ss _ _ _ _
    have hB : GF_X12_lag a g = some (0, upZ (upZ g 55 9 0) 55 9 1) := by
      unfold GF_X12_lag
      rw [pfZ_ok, m_isFrame (hI.mb (fr9 g 0)) hI.n hI.b h9 ha, if_neg hf, clZ_ok, ck_ok (by decide), if_pos rfl]
    exact ⟨(1, 1), List.mem_singleton.mpr rfl, _, _, _, rfl, hB, upZ_ss _ _ _ _, n, (hI.flag hR hM 0).flag hR hM 1⟩
theorem o_path {R M : uZ → Prop} (hR : Kp R) (hM : Kp M) {a : Int} (ha : inR a) : opT (IV R M) [(1, 1)] (GF_X11_path a) (GF_X12_path a) := by
  rintro g ⟨n, hI⟩
  have hN := hI.f
  unfold GF_X11_path
  rw [p2_has hI.s hI.n hI.b ha, cp_ok]
  by_cases hf : 0 ≤ a ∧ a < nfS (g 5) n
  · left
    rw [if_pos hf, ck_ok (by decide), if_neg (by decide)]
    obtain ⟨g1, h1, hI1, hfl, hP⟩ := iv_findPath hI
    have e5 := findPath_5 h1
    obtain ⟨f, rfl⟩ : ∃ f : Nat, a = (f : Int) := ⟨a.toNat, by omega⟩
    have hfN : f < nfS (g1 5) n := by rw [e5]; omega
    rw [h1, cp_ok, p5_chosenIn hP.2.2.2.1.1 hI1.f hfN, cp_ok]
    have h9 : upZ g1 55 9 0 55 9 = 0 := upZ_ss _ _ _ _
    obtain ⟨g2, h2, -, h69, k9, -⟩ := iv_laysPath hI1 hP (fr9 g1 0)
    have hB : GF_X12_path (f : Int) g1 = some (g1 23 f, g2) := by
      unfold GF_X12_path
      rw [pfZ_ok, m_isFrame (hI1.mb (fr9 g1 0)) hI1.n hI1.b h9 ha, if_pos (by omega), clZ_ok, ck_ok (by decide), if_neg (by decide), h2, cp_ok, rdZ_at f rfl (by have := hI1.f; omega), h69 f hfN]
    exact ⟨_, _, g2, rfl, hB, k9.trans h9, n, hI1.fr hR hM (show Fr _ _ g1 g2 from fF_X12_path Fr.rf hB) (by decide) (by decide)⟩
  · right
    rw [if_neg hf, ck_ok (by decide), if_pos rfl]
    have h9 : upZ g 55 9 0 55 9 = 0 := upZ_ss _ _ _ _
    have hB : GF_X12_path a g = some (0, upZ (upZ g 55 9 0) 55 9 1) := by
      unfold GF_X12_path
      rw [pfZ_ok, m_isFrame (hI.mb (fr9 g 0)) hI.n hI.b h9 ha, if_neg hf, clZ_ok, ck_ok (by decide), if_pos rfl]
    exact ⟨(1, 1), List.mem_singleton.mpr rfl, _, _, _, rfl, hB, upZ_ss _ _ _ _, n, (hI.flag hR hM 0).flag hR hM 1⟩
theorem iv_notes {R M : uZ → Prop} {n : Nat} {g z : uZ} (h : IVn R M n g) (hP : PW (g 2) (g 5) n g) (hz : Fr [] [(55, 9)] g z) : ∃ g2, GF_X12_laysNotes z = some g2 ∧ MN (g 24) (nfS (g 5) n) (nfS (g 5) n) g2 ∧ g2 55 9 = z 55 9 := by
  obtain ⟨g2, h2, hL, -, k9, -⟩ := iv_laysPath h hP hz
  obtain ⟨g3, h3, h4⟩ := m_notes hL
  have e : GF_X12_laysNotes z = some g3 := by
    unfold GF_X12_laysNotes
    rw [h2, cp_ok]
    exact h3
  exact ⟨g3, e, h4, fF_X12_laysNotes Fr.rf e 55 9 (by decide) (by decide)⟩
theorem o_notes {R M : uZ → Prop} (hR : Kp R) (hM : Kp M) : opV (IV R M) GF_X11_notes GF_X12_notes := by
  rintro g ⟨n, hI⟩
  obtain ⟨g1, h1, hI1, hfl, hP⟩ := iv_findPath hI
  obtain ⟨g2, h2, hm, -⟩ := iv_notes hI1 hP (fr9 g1 0)
  have hB : GF_X12_notes g1 = some (g1 38 6, g2) := by
    unfold GF_X12_notes
    rw [pfZ_ok, h2, cp_ok, hm.1, hP.2.2.2.2.2.2.1.1]
  refine ⟨g1 38 6, g1, g2, ?_, hB, n, hI1.fr hR hM (show Fr _ _ g1 g2 from fF_X12_notes Fr.rf hB) (by decide) (by decide)⟩
  unfold GF_X11_notes GF_X4_size
  rw [h1, cp_ok, cp_ok]
theorem p4_has {g : uZ} {k : Nat} (h : g 38 6 = (k : Int)) (hk : k ≤ 100) {a : Int} (ha : inR a) : GF_X4_has a g = some (if 0 ≤ a ∧ a < (k : Int) then 1 else 0) := by
  unfold GF_X4_has GJ_X4_has_1 GJ_X4_has_2
  rw [ck_ok ha, h]
  by_cases h0 : a < 0
  · rw [if_pos h0, bzZ_0, if_neg (by omega)]
  · rw [if_neg h0, ck_ok (by omega)]
    by_cases h1 : (k : Int) ≤ a
    · rw [if_pos h1, bzZ_0, if_neg (by omega)]
    · rw [if_neg h1, bzZ_1, if_pos (by omega)]
theorem o_note {R M : uZ → Prop} (hR : Kp R) (hM : Kp M) {a b : Int} (ha : inR a) (hb : inR b) : opT (IV R M) [(1, 1)] (GF_X11_note a b) (GF_X12_note a b) := by
  rintro g ⟨n, hI⟩
  obtain ⟨g1, h1, hI1, hfl, hP⟩ := iv_findPath hI
  have hN := hI1.f
  have h9 : upZ g1 55 9 0 55 9 = 0 := upZ_ss _ _ _ _
  obtain ⟨g2, h2, ⟨m1, m2⟩, k9⟩ := iv_notes hI1 hP (fr9 g1 0)
  rw [h9] at k9
  obtain ⟨n1, n2, -⟩ := hP.2.2.2.2.2.2.1
  have hle := nN_le (g1 24) (nfS (g1 5) n)
  unfold GF_X11_note GJ_X11_note_1 GJ_X11_note_2
  rw [h1, cp_ok, p4_has n1 (by omega) ha, cp_ok]
  have thr : ∀ _ : Unit, ¬ ((0 ≤ a ∧ a < (nN (g1 24) (nfS (g1 5) n) : Int)) ∧ 0 ≤ b ∧ b ≤ 2) → GF_X12_note a b g1 = some (0, upZ g2 55 9 1) := by
    intro _ hno
    unfold GF_X12_note GJ_X12_note_1 GJ_X12_note_3
    rw [pfZ_ok, h2, cp_ok, m1, m_isIn g2 ha (by decide) (by omega), cp_ok]
    by_cases q : 0 ≤ a ∧ a ≤ (nN (g1 24) (nfS (g1 5) n) : Int) - 1
    · rw [if_pos q, ck_ok (by decide), if_neg (by decide), m_isIn g2 hb (by decide) (by decide), cp_ok, if_neg (by omega), ck_ok (by decide), if_pos rfl, m_right0 k9 (Or.inl rfl), clZ_ok, ck_ok (by decide), if_pos rfl]
    · rw [if_neg q, ck_ok (by decide), if_pos rfl, m_right0 k9 (Or.inl rfl), clZ_ok, ck_ok (by decide), if_pos rfl]
  have fin : ∀ (r : Int) (g3 : uZ), GF_X12_note a b g1 = some (r, g3) → IV R M g3 := fun r g3 e => ⟨n, hI1.fr hR hM (show Fr _ _ g1 g3 from fF_X12_note Fr.rf e) (by decide) (by decide)⟩
  by_cases hA : (0 ≤ a ∧ a < (nN (g1 24) (nfS (g1 5) n) : Int)) ∧ 0 ≤ b ∧ b ≤ 2
  · left
    obtain ⟨i, rfl⟩ : ∃ i : Nat, a = (i : Int) := ⟨a.toNat, by omega⟩
    obtain ⟨s, l, v, q1, q2, q3, q4, q5⟩ := n2 i (by omega)
    obtain ⟨s', l', v', r1, r2, r3, r4, r5⟩ := m2 i (by omega)
    obtain ⟨e1, e2⟩ := q4.uniq r4
    subst e1 e2
    have e3 := q5.uniq r5
    subst e3
    have hB : GF_X12_note (i : Int) b g1 = some (if b = 0 then (s : Int) else if b = 1 then (l : Int) else (v : Int), g2) := by
      unfold GF_X12_note GJ_X12_note_3 GJ_X12_note_2
      rw [pfZ_ok, h2, cp_ok, m1, m_isIn g2 ha (by decide) (by omega), cp_ok, if_pos (by omega), ck_ok (by decide), if_neg (by decide), m_isIn g2 hb (by decide) (by decide), cp_ok, if_pos (by omega), ck_ok (by decide), if_neg (by decide), m_right1 k9, clZ_ok, ck_ok (by decide), if_neg (by decide), ck_ok hb]
      by_cases b0 : b = 0
      · rw [if_pos b0, if_pos b0, rdZ_at i rfl (by omega), r1]
      · by_cases b1 : b = 1
        · rw [if_neg b0, if_neg b0, if_pos b1, if_pos b1, rdZ_at i rfl (by omega), r2]
        · rw [if_neg b0, if_neg b0, if_neg b1, if_neg b1, rdZ_at i rfl (by omega), r3]
    refine ⟨_, g1, g2, ?_, hB, k9, fin _ _ hB⟩
    rw [if_pos hA.1, ck_ok (by decide), if_neg (by decide), ck_ok hb, if_neg (by omega), if_neg (by omega), ck_ok (by decide), if_neg (by decide)]
    have F1 : GF_X4_firstFrame (i : Int) g1 = some (s : Int) := by
      unfold GF_X4_firstFrame GJ_X4_firstFrame_1
      rw [p4_has n1 (by omega) ha, cp_ok, if_pos hA.1, ck_ok (by decide), if_neg (by decide), rdZ_at i rfl (by omega), q1]
    have F2 : GF_X4_length (i : Int) g1 = some (l : Int) := by
      unfold GF_X4_length GJ_X4_length_1
      rw [p4_has n1 (by omega) ha, cp_ok, if_pos hA.1, ck_ok (by decide), if_neg (by decide), rdZ_at i rfl (by omega), q2]
    have F3 : GF_X4_lagOf (i : Int) g1 = some (v : Int) := by
      unfold GF_X4_lagOf GJ_X4_lagOf_1
      rw [p4_has n1 (by omega) ha, cp_ok, if_pos hA.1, ck_ok (by decide), if_neg (by decide), rdZ_at i rfl (by omega), q3]
    rw [F1, F2, F3, cp_ok, cp_ok, cp_ok, ck_ok hb]
    by_cases b0 : b = 0
    · rw [if_pos b0, if_pos b0]
    · by_cases b1 : b = 1
      · rw [if_neg b0, if_neg b0, if_pos b1, if_pos b1]
      · rw [if_neg b0, if_neg b0, if_neg b1, if_neg b1]
  · right
    have hB := thr () hA
    refine ⟨(1, 1), List.mem_singleton.mpr rfl, _, g1, _, ?_, hB, upZ_ss _ _ _ _, fin _ _ hB⟩
    by_cases q : 0 ≤ a ∧ a < (nN (g1 24) (nfS (g1 5) n) : Int)
    · rw [if_pos q, ck_ok (by decide), if_neg (by decide), ck_ok hb]
      by_cases b0 : b < 0
      · rw [if_pos b0, ck_ok (by decide), if_pos rfl]
      · rw [if_neg b0, if_pos (by omega), ck_ok (by decide), if_pos rfl]
    · rw [if_neg q, ck_ok (by decide), if_pos rfl, ck_ok (by decide), if_pos rfl]
