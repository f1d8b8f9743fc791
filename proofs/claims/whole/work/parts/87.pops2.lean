/-! steady, lags, lagAt, common, spans -/
theorem o_steady {R M : uZ → Prop} (hR : Kp R) (hM : Kp M) {a : Int} (ha : inR a) : opT (IV R M) [(1, 1)] (GF_X11_steady a) (GF_X12_steady a) := by
  rintro g ⟨n, hI⟩
  by_cases hA : 0 ≤ a ∧ a ≤ 2
  · left
    obtain ⟨g1, h1, hI1, hfl, hP⟩ := iv_findPath hI
    have hN := hI1.f
    have h9 : upZ g1 55 9 0 55 9 = 0 := upZ_ss _ _ _ _
    obtain ⟨g2, h2, hL, -, k9, -⟩ := iv_laysPath hI1 hP (fr9 g1 0)
    rw [h9] at k9
    have hst := hP.2.2.2.2.2.2.1.2.2.2.2.2
    obtain ⟨b, hb, hst2⟩ := m_steady (k := fun z => GC_X12_steady_8 a g2 z.1 z.2) hL
    obtain ⟨e1, e2⟩ := hst.uniq hst2
    have hlen : (g1 38 8 = -1 ∧ g1 38 9 = 0) ∨ ∃ c : Nat, g1 38 8 = (c : Int) ∧ c < nfS (g1 5) n ∧ 1 ≤ g1 38 9 ∧ g1 38 9 ≤ 100 := by
      rcases hst with ⟨p1, p2, -⟩ | ⟨c, d, p1, p2, p3, -⟩
      · exact Or.inl ⟨p1, p2⟩
      · have p4 := p3.1
        have p5 := p3.2.1
        exact Or.inr ⟨c, p1, by omega, by omega, by omega⟩
    have hB : GF_X12_steady a g1 = some (if a = 0 then g1 38 8 else if a = 1 then g1 38 9 else if g1 38 9 = 0 then 0 else g1 24 (g1 38 8).toNat, g2) := by
      unfold GF_X12_steady
      rw [pfZ_ok, m_isIn _ ha (by decide) (by decide), cp_ok, if_pos hA, m_right1 h9, clZ_ok, ck_ok (by decide), if_neg (by decide), h2, cp_ok, hb, ← e1, ← e2]
      unfold GC_X12_steady_8 GJ_X12_steady_7
      rw [ck_ok ha]
      by_cases a2 : a = 2
      · rw [if_pos a2, if_neg (show ¬ a = 0 by omega), if_neg (show ¬ a = 1 by omega)]
        rcases hlen with ⟨p1, p2⟩ | ⟨c, p1, p2, p3, p4⟩
        · rw [ck_ok (by omega), if_pos p1, if_pos p2]
        · rw [ck_ok (by omega), if_neg (by omega), if_neg (by omega), p1, hL.at p2, cp_ok, Int.toNat_natCast]
      · rw [if_neg a2, lt_ok]
        by_cases a0 : a = 0
        · rw [if_pos a0, if_pos a0]
        · rw [if_neg a0, if_neg a0, if_pos (by omega)]
    refine ⟨_, g1, g2, ?_, hB, k9, n, hI1.fr hR hM (show Fr _ _ g1 g2 from fF_X12_steady Fr.rf hB) (by decide) (by decide)⟩
    unfold GF_X11_steady GJ_X11_steady_2 GF_X4_steadyFirst GF_X4_steadyLength GF_X4_steadyLag GJ_X4_steadyLag_1
    rw [ck_ok ha, if_neg (by omega), if_neg (by omega), ck_ok (by decide), if_neg (by decide), h1, cp_ok, ck_ok ha, cp_ok, cp_ok]
    by_cases a0 : a = 0
    · rw [if_pos a0, if_pos a0]
    · rw [if_neg a0, if_neg a0]
      by_cases a1 : a = 1
      · rw [if_pos a1, if_pos a1]
      · rw [if_neg a1, if_neg a1]
        rcases hlen with ⟨p1, p2⟩ | ⟨c, p1, p2, p3, p4⟩
        · rw [ck_ok (by omega), if_pos p2, if_pos p2, cp_ok]
        · rw [ck_ok (by omega), if_neg (by omega), if_neg (by omega), p1, p5_lagIn hP.2.2.2.1.1 hN p2, cp_ok, cp_ok, Int.toNat_natCast]
  · right
    have h9 : upZ g 55 9 0 55 9 = 0 := upZ_ss _ _ _ _
    have hB : GF_X12_steady a g = some (0, upZ (upZ g 55 9 0) 55 9 1) := by
      unfold GF_X12_steady
      rw [pfZ_ok, m_isIn _ ha (by decide) (by decide), cp_ok, if_neg hA, m_right0 h9 (Or.inl rfl), clZ_ok, ck_ok (by decide), if_pos rfl]
    refine ⟨(1, 1), List.mem_singleton.mpr rfl, _, g, _, ?_, hB, upZ_ss _ _ _ _, n, (hI.flag hR hM 0).flag hR hM 1⟩
    unfold GF_X11_steady GJ_X11_steady_1 GJ_X11_steady_2
    rw [ck_ok ha]
    by_cases a0 : a < 0
    · rw [if_pos a0, ck_ok (by decide), if_pos rfl]
    · rw [if_neg a0, if_pos (by omega), ck_ok (by decide), if_pos rfl]
theorem iv_often {R M : uZ → Prop} {n : Nat} {g z : uZ} (h : IVn R M n g) (hP : PW (g 2) (g 5) n g) (hz : Fr [] [(55, 9)] g z) : ∃ g2, GF_X12_laysOften z = some g2 ∧ (∀ v : Nat, v < 50 → g2 83 v = taS (g 24) (nfS (g 5) n) v) ∧ g2 55 9 = z 55 9 := by
  obtain ⟨g2, h2, hL, -, k9, -⟩ := iv_laysPath h hP hz
  obtain ⟨g3, h3, h4⟩ := m_often hL
  have e : GF_X12_laysOften z = some g3 := by
    unfold GF_X12_laysOften
    rw [h2, cp_ok]
    exact h3
  exact ⟨g3, e, h4, fF_X12_laysOften Fr.rf e 55 9 (by decide) (by decide)⟩
theorem PW.tally {x B : Nat → Int} {n : Nat} {g : uZ} (h : PW x B n g) : ∀ v, v < 50 → g 42 v = taS (g 24) (nfS B n) v := by
  intro v hv
  obtain ⟨-, -, t0, t1, -, -⟩ := h.2.2.2.2.2.2.1
  unfold taS
  by_cases q : v = 0
  · subst q
    rw [if_pos rfl]
    exact t0
  · rw [if_neg q]
    exact t1 v (by omega) hv
theorem o_lags {R M : uZ → Prop} (hR : Kp R) (hM : Kp M) : opV (IV R M) GF_X11_lags GF_X12_lags := by
  rintro g ⟨n, hI⟩
  obtain ⟨g1, h1, hI1, hfl, hP⟩ := iv_findPath hI
  obtain ⟨g2, h2, hT, -⟩ := iv_often hI1 hP (fr9 g1 0)
  have hB : GF_X12_lags g1 = some ((ul (taS (g1 24) (nfS (g1 5) n)) 50 : Int), g2) := by
    unfold GF_X12_lags
    rw [pfZ_ok, h2, cp_ok]
    exact m_lags hT (fun v => taS_bd hI1.f) rfl
  refine ⟨_, g1, g2, ?_, hB, n, hI1.fr hR hM (show Fr _ _ g1 g2 from fF_X12_lags Fr.rf hB) (by decide) (by decide)⟩
  unfold GF_X11_lags
  rw [h1, cp_ok, p4_unlikeLags hP.tally (fun v => taS_bd hI1.f), cp_ok]
theorem o_lagAt {R M : uZ → Prop} (hR : Kp R) (hM : Kp M) {a b : Int} (ha : inR a) (hb : inR b) : opT (IV R M) [(1, 1)] (GF_X11_lagAt a b) (GF_X12_lagAt a b) := by
  rintro g ⟨n, hI⟩
  obtain ⟨g1, h1, hI1, hfl, hP⟩ := iv_findPath hI
  have h9 : upZ g1 55 9 0 55 9 = 0 := upZ_ss _ _ _ _
  obtain ⟨g2, h2, hT, k9⟩ := iv_often hI1 hP (fr9 g1 0)
  rw [h9] at k9
  have hbd : ∀ v, 0 ≤ taS (g1 24) (nfS (g1 5) n) v ∧ taS (g1 24) (nfS (g1 5) n) v ≤ 100 := fun v => taS_bd hI1.f
  have u50 := ul_le (taS (g1 24) (nfS (g1 5) n)) 50
  obtain ⟨⟨r, g3⟩, h3, hcase⟩ := m_lagAt ha hb k9 hT hbd rfl
  have hB : GF_X12_lagAt a b g1 = some (r, g3) := by
    unfold GF_X12_lagAt
    rw [pfZ_ok, h2, cp_ok]
    exact h3
  have fin : IV R M g3 := ⟨n, hI1.fr hR hM (show Fr _ _ g1 g3 from fF_X12_lagAt Fr.rf hB) (by decide) (by decide)⟩
  unfold GF_X11_lagAt GJ_X11_lagAt_1 GJ_X11_lagAt_3 GJ_X11_lagAt_2
  rw [h1, cp_ok, ck_ok ha, p4_unlikeLags hP.tally hbd, cp_ok, ck_ok (show inR (ul (taS (g1 24) (nfS (g1 5) n)) 50 : Int) by omega), ck_ok hb]
  rcases hcase with ⟨hno, e⟩ | ⟨c1, c2, c3, c4, v, v1, v2, v3, e⟩
  · right
    cases e
    refine ⟨(1, 1), List.mem_singleton.mpr rfl, _, g1, _, ?_, hB, upZ_ss _ _ _ _, fin⟩
    rw [ck_ok (show inR 0 by decide), if_pos (show (0 : Int) = 0 from rfl)]
    by_cases q1 : a < 0
    · rw [if_pos q1]
    · rw [if_neg q1]
      by_cases q2 : (ul (taS (g1 24) (nfS (g1 5) n)) 50 : Int) ≤ a
      · rw [if_pos q2]
      · rw [if_neg q2]
        by_cases q3 : b < 0
        · rw [if_pos q3]
        · rw [if_neg q3, if_pos (by omega)]
  · left
    cases e
    obtain ⟨k, rfl⟩ : ∃ k : Nat, a = (k : Int) := ⟨a.toNat, by omega⟩
    obtain ⟨u, hu, u1, u2, u3⟩ := p4_unlikeLag (k := k) hP.tally hbd (by omega)
    have huv : u = v := ul_uniq u2 v2 (by omega)
    subst huv
    refine ⟨_, g1, g2, ?_, hB, k9, fin⟩
    rw [if_neg (show ¬ (k : Int) < 0 by omega), if_neg (show ¬ (ul (taS (g1 24) (nfS (g1 5) n)) 50 : Int) ≤ (k : Int) by omega), if_neg (show ¬ b < 0 by omega), if_neg (show ¬ 1 < b by omega), ck_ok (show inR 1 by decide), if_neg (show ¬ (1 : Int) = 0 by decide), hu, cp_ok, ck_ok hb]
    by_cases b0 : b = 0
    · rw [if_pos b0, if_pos b0]
    · unfold GF_X4_framesWith GJ_X4_framesWith_2
      rw [if_neg b0, if_neg b0, ck_ok (by omega), if_neg (by omega), if_pos (by omega), rdZ_at u rfl u1, hP.tally u u1, cp_ok]
theorem cmT_ta {L : Nat → Int} {N : Nat} {n : Nat} (hn : 1 ≤ n) : cmT (fun v => (taS L N v).toNat) n + ctV L 0 N 0 = cmV L 0 N n := by
  induction n with
  | zero => omega
  | succ n ih =>
    by_cases q : n = 0
    · subst q
      unfold cmT cmV cmT cmV taS
      simp
    · have := ih (by omega)
      have e1 : cmT (fun v => (taS L N v).toNat) (n + 1) = cmT (fun v => (taS L N v).toNat) n + (taS L N n).toNat := rfl
      have e2 : cmV L 0 N (n + 1) = cmV L 0 N n + ctV L 0 N (n : Int) := rfl
      have e3 : taS L N n = (ctV L 0 N (n : Int) : Int) := by unfold taS; rw [if_neg q]
      rw [e1, e2, e3]
      omega
theorem o_common {R M : uZ → Prop} (hR : Kp R) (hM : Kp M) {a : Int} (ha : inR a) : opT (IV R M) [(1, 1)] (GF_X11_common a) (GF_X12_common a) := by
  rintro g ⟨n, hI⟩
  by_cases hA : 0 ≤ a ∧ a ≤ 1
  · left
    obtain ⟨g1, h1, hI1, hfl, hP⟩ := iv_findPath hI
    have hN := hI1.f
    have h9 : upZ g1 55 9 0 55 9 = 0 := upZ_ss _ _ _ _
    obtain ⟨g2, h2, hT, k9⟩ := iv_often hI1 hP (fr9 g1 0)
    rw [h9] at k9
    have hbd : ∀ v, 0 ≤ taS (g1 24) (nfS (g1 5) n) v ∧ taS (g1 24) (nfS (g1 5) n) v ≤ 100 := fun v => taS_bd hI1.f
    have h387 : g1 38 7 = (nfS (g1 5) n : Int) - (ctV (g1 24) 0 (nfS (g1 5) n) 0 : Int) := hP.2.2.2.2.2.2.1.2.2.2.2.1
    have hct := ctV_le (g1 24) 0 (nfS (g1 5) n) 0
    have hall : cmV (g1 24) 0 (nfS (g1 5) n) 50 = nfS (g1 5) n := cmV_all (fun j hj => by have := hP.2.2.2.2.2.2.2 (0 + j) (by omega); omega)
    have hta := cmT_ta (L := g1 24) (N := nfS (g1 5) n) (n := 50) (by omega)
    have hsm := smT_cmT hbd 50
    have hcm := cmF_in hbd 50
    obtain ⟨r, hr1, hr2⟩ : ∃ r : Int, (∀ _ : Unit, (if a = 0 then GF_X4_commonest g1 else GF_X4_middleOfAll g1) = some r) ∧ GC_X12_common_7 a g2 (cmF (taS (g1 24) (nfS (g1 5) n)) 50).1 (smT (taS (g1 24) (nfS (g1 5) n)) 50) = some (r, g2) := by
      unfold GC_X12_common_7 GJ_X12_common_5 GJ_X12_common_6
      rw [ck_ok ha]
      by_cases a0 : a = 0
      · refine ⟨(cmF (taS (g1 24) (nfS (g1 5) n)) 50).1, fun _ => ?_, ?_⟩
        · rw [if_pos a0, p4_commonest hP.tally hbd]
        · rw [if_pos a0]
      · unfold GF_X4_middleOfAll GJ_X4_middleOfAll_1
        have hsb : 0 ≤ smT (taS (g1 24) (nfS (g1 5) n)) 50 ∧ smT (taS (g1 24) (nfS (g1 5) n)) 50 ≤ 100 := by omega
        by_cases hz : smT (taS (g1 24) (nfS (g1 5) n)) 50 = 0
        · have hz2 : g1 38 7 = 0 := by omega
          have hm1 : (cmF (taS (g1 24) (nfS (g1 5) n)) 50).1 = -1 := by
            rcases hcm with q | ⟨u, c0, c1, c2, c3⟩
            · exact q.1
            · exfalso
              have hmono : ∀ k, (u + 1) + k ≤ 50 → 0 < cmT (fun v => (taS (g1 24) (nfS (g1 5) n) v).toNat) ((u + 1) + k) := by
                intro k
                induction k with
                | zero =>
                  intro _
                  have e : cmT (fun v => (taS (g1 24) (nfS (g1 5) n) v).toNat) (u + 1) = cmT (fun v => (taS (g1 24) (nfS (g1 5) n) v).toNat) u + (taS (g1 24) (nfS (g1 5) n) u).toNat := rfl
                  rw [Nat.add_zero, e]
                  omega
                | succ k ih =>
                  intro hk
                  have e : cmT (fun v => (taS (g1 24) (nfS (g1 5) n) v).toNat) (u + 1 + (k + 1)) = cmT (fun v => (taS (g1 24) (nfS (g1 5) n) v).toNat) (u + 1 + k) + (taS (g1 24) (nfS (g1 5) n) (u + 1 + k)).toNat := rfl
                  have := ih (by omega)
                  omega
              have := hmono (49 - u) (by omega)
              rw [show u + 1 + (49 - u) = 50 by omega] at this
              omega
          refine ⟨-1, fun _ => ?_, ?_⟩
          · rw [if_neg a0, ck_ok (by omega), if_pos hz2]
          · rw [if_neg a0, ck_ok (by omega), if_pos hz, hm1]
        · obtain ⟨l, hl⟩ : ∃ l : Nat, g1 38 7 = (l : Int) := ⟨nfS (g1 5) n - ctV (g1 24) 0 (nfS (g1 5) n) 0, by omega⟩
          have hsl : smT (taS (g1 24) (nfS (g1 5) n)) 50 = (l : Int) := by omega
          have hh : (l - 1) / 2 < cmT (fun v => (taS (g1 24) (nfS (g1 5) n) v).toNat) 50 := by omega
          obtain ⟨z1, e1, v, rfl, s1, s2, s3⟩ := p_middle42 (g := g1) (T := fun v => (taS (g1 24) (nfS (g1 5) n) v).toNat) (l := l) (fun v hv => by rw [hP.tally v hv]; have := hbd v; omega) (fun v => by have := hbd v; omega) (by omega) (by omega) hh
          obtain ⟨z2, e2, w, rfl, t1, t2, t3⟩ := m_inMiddle (g := g2) (l := l) hT hbd rfl (by omega) (by omega) hh
          have hvw : v = w := by
            have mono : ∀ {p q : Nat}, p ≤ q → cmT (fun v => (taS (g1 24) (nfS (g1 5) n) v).toNat) p ≤ cmT (fun v => (taS (g1 24) (nfS (g1 5) n) v).toNat) q := by
              intro p q hpq
              induction q with
              | zero => rw [show p = 0 by omega]; exact Nat.le_refl _
              | succ q ih =>
                by_cases hb : p = q + 1
                · rw [hb]; exact Nat.le_refl _
                · have := ih (by omega)
                  have e : cmT (fun v => (taS (g1 24) (nfS (g1 5) n) v).toNat) (q + 1) = cmT (fun v => (taS (g1 24) (nfS (g1 5) n) v).toNat) q + (taS (g1 24) (nfS (g1 5) n) q).toNat := rfl
                  omega
            rcases Nat.lt_trichotomy v w with q | q | q
            · have := mono (p := v + 1) (q := w) q
              omega
            · exact q
            · have := mono (p := w + 1) (q := v) q
              omega
          subst hvw
          refine ⟨(v : Int), fun _ => ?_, ?_⟩
          · rw [if_neg a0, ck_ok (by omega), if_neg (by omega), hl, e1, cp_ok]
          · rw [if_neg a0, ck_ok (by omega), if_neg hz, hsl, e2, cp_ok]
    have hB : GF_X12_common a g1 = some (r, g2) := by
      unfold GF_X12_common
      rw [pfZ_ok, m_isIn _ ha (by decide) (by decide), cp_ok, if_pos hA, m_right1 h9, clZ_ok, ck_ok (by decide), if_neg (by decide), h2, cp_ok, m_common hT hbd rfl]
      dsimp only
      exact hr2
    refine ⟨r, g1, g2, ?_, hB, k9, n, hI1.fr hR hM (show Fr _ _ g1 g2 from fF_X12_common Fr.rf hB) (by decide) (by decide)⟩
    have hr := hr1 ()
    unfold GF_X11_common GJ_X11_common_3 GJ_X11_common_2
    rw [ck_ok ha, if_neg (by omega), if_neg (by omega), ck_ok (by decide), if_neg (by decide), h1, cp_ok, ck_ok ha]
    by_cases a0 : a = 0
    · rw [if_pos a0] at hr
      rw [if_pos a0, hr, cp_ok]
    · rw [if_neg a0] at hr
      rw [if_neg a0, hr, cp_ok]
  · right
    have h9 : upZ g 55 9 0 55 9 = 0 := upZ_ss _ _ _ _
    have hB : GF_X12_common a g = some (0, upZ (upZ g 55 9 0) 55 9 1) := by
      unfold GF_X12_common
      rw [pfZ_ok, m_isIn _ ha (by decide) (by decide), cp_ok, if_neg hA, m_right0 h9 (Or.inl rfl), clZ_ok, ck_ok (by decide), if_pos rfl]
    refine ⟨(1, 1), List.mem_singleton.mpr rfl, _, g, _, ?_, hB, upZ_ss _ _ _ _, n, (hI.flag hR hM 0).flag hR hM 1⟩
    unfold GF_X11_common GJ_X11_common_1 GJ_X11_common_3
    rw [ck_ok ha]
    by_cases a0 : a < 0
    · rw [if_pos a0, ck_ok (by decide), if_pos rfl]
    · rw [if_neg a0, if_pos (by omega), ck_ok (by decide), if_pos rfl]
