/-! call span -/
theorem iv_marks0 {R M : uZ → Prop} {n : Nat} {g z : uZ} (hI : IVn R M n g) (hP : PW (g 2) (g 5) n g) (hz : Fr [] [(55, 9)] g z) : ∃ g2, GF_X12_laysMarks z = some g2 ∧ g2 55 9 = z 55 9 ∧ RlS (g 2) (g 5) (g 24) n (nS (g 24) (nfS (g 5) n)) (sbC (nfS (g 5) n) (nS (g 24) (nfS (g 5) n)) g) g2 := by
  obtain ⟨-, -, ⟨-, hSB, -⟩, hL⟩ := PW.cls (x := g 2) (B := g 5) hP hI.s hI.n hI.x hI.b
  obtain ⟨gs, s1, s2, s3, s4, s5⟩ := iv_spans hI hP hz
  have fs := fF_X12_laysSpans Fr.rf s1
  have mb := (hI.mb hz).cg fs (by decide) (by decide) (by decide)
  have hR : RlS (g 2) (g 5) (g 24) n (nS (g 24) (nfS (g 5) n)) (sbC (nfS (g 5) n) (nS (g 24) (nfS (g 5) n)) g) gs := ⟨⟨mb.1, hI.n, mb.2.1, mb.2.2, s5⟩, ⟨hI.x, hI.b⟩, ⟨s2.1, hSB, s2.sb s3 hSB⟩, hL⟩
  obtain ⟨g2, l1, l2, -⟩ := m_layMarks hR
  have e : GF_X12_laysMarks z = some g2 := by
    unfold GF_X12_laysMarks
    rw [s1, cp_ok]
    exact l1
  exact ⟨g2, e, (l2 55 9 (by decide) (by decide)).trans s4, hR.fr l2 (by decide) (by decide) (by decide)⟩
theorem RlS.first {x B L : Nat → Int} {n S i : Nat} {sb : Nat → Nat} {g : uZ} (h : RlS x B L n S sb g) (hi : i < S) : GF_X12_firstSample (i : Int) g = some (frS B sb i : Int) := by
  have hS := h.S
  obtain ⟨⟨a1, a2, a3, a4, a5⟩, ⟨d1, d2⟩, ⟨b1, b2, b3⟩, -⟩ := h
  unfold GF_X12_firstSample frS
  rw [rdZ_at i rfl (by omega), b3 i (by omega), rdB2, a4, d2.b2.1, Int.natCast_mul]
theorem RlS.behind {x B L : Nat → Int} {n S i : Nat} {sb : Nat → Nat} {g : uZ} (h : RlS x B L n S sb g) (hi : i < S) : GF_X12_behindSpan (i : Int) g = some (toS B n sb i : Int) := by
  have hS := h.S
  obtain ⟨⟨a1, a2, a3, a4, a5⟩, ⟨d1, d2⟩, ⟨b1, b2, b3⟩, -⟩ := h
  have hN := a5.le
  have h2 := d2.b2
  have nx := b2.nx hi
  have hm : sb (i + 1) * bN B 2 ≤ 100 * 40 := Nat.mul_le_mul (by omega) (by omega)
  unfold GF_X12_behindSpan toS
  rw [rdZ_at (i + 1) (by omega) (by omega), b3 (i + 1) (by omega), rdB2, a4, h2.1, lt_ok, ← Int.natCast_mul, a1, ck_ok (by omega), ck_ok (by omega), lt_ok]
  congr 1
  split <;> split <;> omega
theorem o_span {R : uZ → Prop} (hR : KpL exR R) {a b : Int} (ha : inR a) (hb : inR b) : opT (IV R MKg) [(1, 1)] (GF_X11_span a b) (GF_X12_span a b) := by
  have hR' : Kp R := hR.kp (by decide)
  have hM' : Kp MKg := kM.kp (by decide)
  rintro g ⟨n, hI⟩
  obtain ⟨g1, h1, hI1, hfl, hP⟩ := iv_findPath hI
  have hcl := PW.cls (x := g1 2) (B := g1 5) hP hI1.s hI1.n hI1.x hI1.b
  have hS := hcl.S
  have h34 := hcl.2.2.1.1
  have h35 := hcl.2.2.1.2.2
  obtain ⟨g2, h2, k9, hRl⟩ := iv_marks0 hI1 hP (fr9 g1 0)
  rw [upZ_ss] at k9
  have r33 := hRl.2.2.1.1
  have r78 := hRl.2.2.1.2.2
  unfold GF_X11_span GJ_X11_span_1 GJ_X11_span_2
  rw [h1, cp_ok, p8_has h34 hS ha, cp_ok]
  by_cases hA : (0 ≤ a ∧ a < (nS (g1 24) (nfS (g1 5) n) : Int)) ∧ 0 ≤ b ∧ b ≤ 6
  · left
    obtain ⟨i, rfl⟩ : ∃ i : Nat, a = (i : Int) := ⟨a.toNat, by omega⟩
    have hi : i < nS (g1 24) (nfS (g1 5) n) := by omega
    rw [if_pos hA.1, ck_ok (show inR 1 by decide), if_neg (show ¬ (1 : Int) = 0 by decide), ck_ok hb, if_neg (show ¬ b < 0 by omega), if_neg (show ¬ 6 < b by omega), ck_ok (show inR 1 by decide), if_neg (show ¬ (1 : Int) = 0 by decide), ck_ok hb]
    have q35 := h35 i hi
    by_cases b5 : b = 5 ∨ b = 6
    · rw [if_neg (by omega), if_neg (by omega), if_neg (by omega), if_neg (by omega), if_neg (by omega)]
      obtain ⟨g3, m1, hI3, hP3, ⟨cn, hm⟩, -⟩ := iv_findMarks hR hI1
      obtain ⟨g4, m2, j9, hRl4, c49, c88, c90, c91⟩ := iv_marks hI3 hP3 hm (fr9 g3 0)
      rw [upZ_ss] at j9
      have hcl3 := PW.cls (x := g3 2) (B := g3 5) hP3 hI3.s hI3.n hI3.x hI3.b
      have fm := fF_X11_findMarks Fr.rf m1
      have eS : nS (g3 24) (nfS (g3 5) n) = nS (g1 24) (nfS (g1 5) n) := by
        have x1 := hcl3.2.2.1.1
        have x2 : g3 34 6 = g1 34 6 := by
          unfold GF_X11_findMarks GJ_X11_findMarks_1 at m1
          have fp1 : GF_X11_findPath g1 = some g1 := by
            unfold GF_X11_findPath
            rw [hfl, ck_ok (by decide), if_neg (by decide)]
          rw [fp1, cp_ok] at m1
          by_cases z : g1 0 12 = 0
          · rw [z, ck_ok (by decide), if_pos rfl] at m1
            obtain ⟨gz, cz, hz, -⟩ := p3_find hcl
            rw [hz, cp_ok, pfZ_ok] at m1
            cases m1
            rw [upZ_n (by decide), (show Fr [45, 46, 47, 48, 49, 50] [(44, 9)] g1 gz from fF_X3_find Fr.rf hz) 34 6 (by decide) (by decide)]
          · rcases hI1.2.2.2.2.2.1 with q' | q'
            · exact absurd (hfl.symm.trans q'.1) (by decide)
            · rcases q'.2.2.2 with q'' | q''
              · exact absurd q'' z
              · rw [q''.1, ck_ok (by decide), if_neg (by decide)] at m1
                cases m1
                rfl
        omega
      rw [eS] at c90 c91
      have n49 := hm.2.2.1
      rw [eS] at n49
      have h343 : g3 34 6 = (nS (g1 24) (nfS (g1 5) n) : Int) := by rw [← eS]; exact hcl3.2.2.1.1
      have r334 : g4 55 33 = (nS (g1 24) (nfS (g1 5) n) : Int) := by rw [← eS]; exact hRl4.2.2.1.1
      have hB : GF_X12_span (i : Int) b g3 = some (if b = 5 then g3 49 (i + 1) - g3 49 i else g3 50 i, g4) := by
        unfold GF_X12_span GJ_X12_span_2
        rw [pfZ_ok, m2, cp_ok, r334, m_isIn _ ha (by decide) (by omega), cp_ok, if_pos (by omega), ck_ok (by decide), if_neg (by decide), m_isIn _ hb (by decide) (by decide), cp_ok, if_pos (by omega), ck_ok (by decide), if_neg (by decide), m_right1 j9, clZ_ok, ck_ok (by decide), if_neg (by decide), ck_ok hb, if_neg (show ¬ b = 0 by omega), if_neg (show ¬ b = 1 by omega), if_neg (show ¬ b = 2 by omega), if_neg (show ¬ b = 3 by omega), if_neg (show ¬ b = 4 by omega)]
        by_cases z : b = 5
        · rw [if_pos z, if_pos z, rdZ_at (i + 1) (by omega) (by omega), rdZ_at i rfl (by omega), c90 (i + 1) (by omega), c90 i (by omega), n49 (i + 1) (by omega), n49 i (by omega)]
        · rw [if_neg z, if_neg z, rdZ_at i rfl (by omega), c91 i hi]
      refine ⟨_, g3, g4, ?_, hB, j9, n, hI3.fr hR' hM' (show Fr _ _ g3 g4 from fF_X12_span Fr.rf hB) (by decide) (by decide)⟩
      rw [m1, cp_ok]
      unfold GF_X3_sizeIn GF_X3_worthIn GJ_X3_sizeIn_1 GJ_X3_worthIn_1
      by_cases z : b = 5
      · rw [if_pos z, if_pos z, p8_has h343 hS ha, if_pos hA.1, cp_ok, ck_ok (by decide), if_neg (by decide), rdZ_at (i + 1) (by omega) (by omega), rdZ_at i rfl (by omega), cp_ok]
      · rw [if_neg z, if_neg z, cp_ok, p8_has h343 hS ha, if_pos hA.1, cp_ok, ck_ok (by decide), if_neg (by decide), rdZ_at i rfl (by omega), cp_ok]
    · have hB : GF_X12_span (i : Int) b g1 = some (if b = 0 then g1 35 i else if b = 1 then g1 36 i else if b = 2 then (if g1 24 (sbC (nfS (g1 5) n) (nS (g1 24) (nfS (g1 5) n)) g1 i) = 0 then 0 else 1) else if b = 3 then (frS (g1 5) (sbC (nfS (g1 5) n) (nS (g1 24) (nfS (g1 5) n)) g1) i : Int) else (toS (g1 5) n (sbC (nfS (g1 5) n) (nS (g1 24) (nfS (g1 5) n)) g1) i : Int), g2) := by
        unfold GF_X12_span GJ_X12_span_2
        rw [pfZ_ok, h2, cp_ok, r33, m_isIn _ ha (by decide) (by omega), cp_ok, if_pos (by omega), ck_ok (by decide), if_neg (by decide), m_isIn _ hb (by decide) (by decide), cp_ok, if_pos (by omega), ck_ok (by decide), if_neg (by decide), m_right1 k9, clZ_ok, ck_ok (by decide), if_neg (by decide), ck_ok hb]
        by_cases b0 : b = 0
        · rw [if_pos b0, if_pos b0, rdZ_at i rfl (by omega), r78 i (by omega), q35.1]
        · rw [if_neg b0, if_neg b0]
          by_cases b1 : b = 1
          · rw [if_pos b1, if_pos b1, rdZ_at (i + 1) (by omega) (by omega), rdZ_at i rfl (by omega), r78 i (by omega), r78 (i + 1) (by omega), ← q35.2, ← q35.1, show g1 35 i + g1 36 i - g1 35 i = g1 36 i by omega]
          · rw [if_neg b1, if_neg b1]
            by_cases b2 : b = 2
            · rw [if_pos b2, if_pos b2, hRl.voiced hi, cp_ok]
              by_cases z : g1 24 (sbC (nfS (g1 5) n) (nS (g1 24) (nfS (g1 5) n)) g1 i) = 0
              · rw [if_pos z, ck_ok (by decide), lt_ok, if_pos rfl]
              · rw [if_neg z, ck_ok (by decide), lt_ok, if_neg (by decide)]
            · rw [if_neg b2, if_neg b2]
              by_cases b3 : b = 3
              · rw [if_pos b3, if_pos b3, hRl.first hi, cp_ok]
              · rw [if_neg b3, if_neg b3, if_pos (show b = 4 by omega), hRl.behind hi, cp_ok]
      refine ⟨_, g1, g2, ?_, hB, k9, n, hI1.fr hR' hM' (show Fr _ _ g1 g2 from fF_X12_span Fr.rf hB) (by decide) (by decide)⟩
      have F0 : GF_X8_firstFrame (i : Int) g1 = some (g1 35 i) := by
        unfold GF_X8_firstFrame GJ_X8_firstFrame_1
        rw [p8_has h34 hS ha, cp_ok, if_pos hA.1, ck_ok (by decide), if_neg (by decide), rdZ_at i rfl (by omega)]
      have F1 : GF_X8_length (i : Int) g1 = some (g1 36 i) := by
        unfold GF_X8_length GJ_X8_length_1
        rw [p8_has h34 hS ha, cp_ok, if_pos hA.1, ck_ok (by decide), if_neg (by decide), rdZ_at i rfl (by omega)]
      rw [F0, F1, cp_ok, cp_ok, hcl.voiced hi, hcl.from hi, hcl.to hi, cp_ok, cp_ok, cp_ok]
      by_cases b0 : b = 0
      · rw [if_pos b0, if_pos b0]
      · rw [if_neg b0, if_neg b0]
        by_cases b1 : b = 1
        · rw [if_pos b1, if_pos b1]
        · rw [if_neg b1, if_neg b1]
          by_cases b2 : b = 2
          · rw [if_pos b2, if_pos b2]
            by_cases z : g1 24 (sbC (nfS (g1 5) n) (nS (g1 24) (nfS (g1 5) n)) g1 i) = 0
            · rw [if_pos z, ck_ok (by decide), lt_ok, if_pos rfl]
            · rw [if_neg z, ck_ok (by decide), lt_ok, if_neg (by decide)]
          · rw [if_neg b2, if_neg b2]
            by_cases b3 : b = 3
            · rw [if_pos b3, if_pos b3]
            · rw [if_neg b3, if_neg b3, if_pos (show b = 4 by omega)]
  · right
    have hB : GF_X12_span a b g1 = some (0, upZ g2 55 9 1) := by
      unfold GF_X12_span GJ_X12_span_1 GJ_X12_span_2
      rw [pfZ_ok, h2, cp_ok, r33, m_isIn _ ha (by decide) (by omega), cp_ok]
      by_cases q : 0 ≤ a ∧ a < (nS (g1 24) (nfS (g1 5) n) : Int)
      · rw [if_pos (by omega), ck_ok (by decide), if_neg (by decide), m_isIn _ hb (by decide) (by decide), cp_ok, if_neg (by omega), ck_ok (by decide), if_pos rfl, m_right0 k9 (Or.inl rfl), clZ_ok, ck_ok (by decide), if_pos rfl]
      · rw [if_neg (by omega), ck_ok (by decide), if_pos rfl, m_right0 k9 (Or.inl rfl), clZ_ok, ck_ok (by decide), if_pos rfl]
    refine ⟨(1, 1), by simp, _, g1, _, ?_, hB, upZ_ss _ _ _ _, n, hI1.fr hR' hM' (show Fr _ _ g1 _ from fF_X12_span Fr.rf hB) (by decide) (by decide)⟩
    by_cases q : 0 ≤ a ∧ a < (nS (g1 24) (nfS (g1 5) n) : Int)
    · rw [if_pos q, ck_ok (show inR 1 by decide), if_neg (show ¬ (1 : Int) = 0 by decide), ck_ok hb]
      by_cases b0 : b < 0
      · rw [if_pos b0, ck_ok (show inR 0 by decide), if_pos rfl]
      · rw [if_neg b0, if_pos (show 6 < b by omega), ck_ok (show inR 0 by decide), if_pos rfl]
    · rw [if_neg q, ck_ok (show inR 0 by decide), if_pos rfl, ck_ok (show inR 0 by decide), if_pos rfl]
