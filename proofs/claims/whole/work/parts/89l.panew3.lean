/-! set anew: the call -/
theorem anew_both {n S C : Nat} {x B L : Nat → Int} {sb cn : Nat → Nat} {g1 g2 : uZ} {a b : Int} {s : Nat} (hcl : ClS x B L n S sb g1) (h37 : ∀ j, j < nfS B n → g1 37 j = (nS L (j + 1) : Int) - 1) (hk : MKp x B L n sb S cn (g1 47) (g1 48) (g1 50)) (h44 : g1 44 9 = (C : Int)) (eC : cn S = C) (h49 : ∀ i, i ≤ S → g1 49 i = (cn i : Int)) (mq : MQd n C (g1 47) (g1 48)) (hRl : RlS x B L n S sb g2) (hr : RM g2 C (g1 47) (g1 48)) (h90 : ∀ i, i ≤ S → g2 90 i = (cn i : Int)) (ha : 1 ≤ a ∧ a ≤ 4) (hb : 1 ≤ b ∧ b ≤ 4) (hs : s < n) : ∃ z, GF_X3_renewed a b (s : Int) g1 = some z ∧ lp (fun z => GB_X12_anew_4 a b (s : Int) g2 z) 0 (fun z => ex2 (fun x => GC_X12_anew_5 (s : Int) g2) (fun q => some q) z) = some (z, g2) := by
  have hS := hcl.S
  obtain ⟨⟨c1, c2, c3, c4, c5, c6⟩, ⟨d1, d2⟩, ⟨b1, b2, b3⟩, hL⟩ := id hcl
  have hb2 := d2.b2
  have hN := nfS_100 d2 c2
  have hin : ∀ j, j < S → frS B sb j ≤ s → s < toS B n sb j → sb j ≤ s / bN B 2 ∧ s / bN B 2 < sb (j + 1) := fun j hj h1 h2 => ⟨(Nat.le_div_iff_mul_le (by omega)).mpr h1, (Nat.div_lt_iff_lt_mul (by omega)).mpr (by unfold toS at h2; split at h2 <;> omega)⟩
  have hout : ∀ j, j < S → sb j ≤ s / bN B 2 → s / bN B 2 < sb (j + 1) → frS B sb j ≤ s ∧ s < toS B n sb j := fun j hj h1 h2 => ⟨(Nat.le_div_iff_mul_le (by omega)).mp h1, by have := (Nat.div_lt_iff_lt_mul (show 0 < bN B 2 by omega)).mp h2; unfold toS; split <;> omega⟩
  have fb : ∀ j, j < S → frS B sb j ≤ 100 * 40 ∧ toS B n sb j ≤ n := fun j hj => ⟨by unfold frS; exact Nat.mul_le_mul (by have := (b2.2.2 j hj).1; omega) (by omega), by unfold toS; split <;> omega⟩
  have stp : ∀ j, j < S → ¬ (L (sb j) ≠ 0 ∧ frS B sb j ≤ s ∧ s < toS B n sb j) → GB_X12_anew_4 a b (s : Int) g2 (j : Int) = some (Sum.inl ((j + 1 : Nat) : Int)) := by
    intro j hj hn'
    have q := fb j hj
    unfold GB_X12_anew_4 GJ_X12_anew_3
    rw [hRl.2.2.1.1, ck_ok (by omega), ck_ok (by omega), if_neg (by omega), hRl.voiced hj, cp_ok]
    by_cases z : L (sb j) = 0
    · rw [if_pos z, ck_ok (by decide), if_pos rfl, lt_ok]; rfl
    · have hn2 : ¬ (frS B sb j ≤ s ∧ s < toS B n sb j) := fun w => hn' ⟨z, w⟩
      rw [if_neg z, ck_ok (by decide), if_neg (by decide), hRl.first hj, cp_ok, hRl.behind hj, cp_ok, m_isIn _ (by omega) (by omega) (by omega), cp_ok, if_neg (by omega), ck_ok (by decide), if_pos rfl, lt_ok]; rfl
  have none' : (∀ j, j < S → ¬ (L (sb j) ≠ 0 ∧ frS B sb j ≤ s ∧ s < toS B n sb j)) → lp (fun z => GB_X12_anew_4 a b (s : Int) g2 z) 0 (fun z => ex2 (fun x => GC_X12_anew_5 (s : Int) g2) (fun q => some q) z) = some (x s, g2) := by
    intro hall
    have he : GB_X12_anew_4 a b (s : Int) g2 (S : Int) = some (Sum.inr (Sum.inl ())) := by
      unfold GB_X12_anew_4
      rw [hRl.2.2.1.1, ck_ok (by omega), ck_ok (by omega), if_pos (by omega)]
    rw [lp_for (fun k => (k : Int)) S (Sum.inl ()) (by rfl) (by omega) (fun j hj => stp j hj (hall j hj)) he]
    unfold ex2 GC_X12_anew_5
    dsimp only
    rw [rdZ_at s rfl (by omega), hRl.1.2.2.1]
  generalize hQ : s / bN B 2 = Q at *
  have hQs : Q ≤ s := by rw [← hQ]; exact Nat.div_le_self _ _
  have hQi : (s : Int) / (bN B 2 : Int) = (Q : Int) := by rw [← hQ]; exact (Int.natCast_ediv _ _).symm
  have xat : GF_X7_at (s : Int) g1 = some (x s) := by
    rw [p7_at c1 c2 (by omega), c3]
    unfold atS
    rw [if_pos (by omega), Int.toNat_natCast]
  have hof : GF_X8_ofSample (s : Int) g1 = some (if Q < nfS B n then (nS L (Q + 1) : Int) - 1 else -1) := by
    unfold GF_X8_ofSample GJ_X8_ofSample_1 GJ_X8_ofSample_2 GF_X5_size
    rw [p0_2, cp_ok, c4, hb2.1, p_quot g1 (by omega) (by omega) (by omega), cp_ok, hQi, ck_ok (by omega), if_neg (by omega), cp_ok, c6, ck_ok (by omega)]
    by_cases q : Q < nfS B n
    · rw [if_pos (by omega), if_pos q, rdZ_at (Q) rfl (by omega), h37 _ q]
    · rw [if_neg (by omega), if_neg q]
  unfold GF_X3_renewed
  rw [hof, cp_ok]
  by_cases q : Q < nfS B n
  · rw [if_pos q]
    obtain ⟨i, ei⟩ : ∃ i, nS L (Q + 1) = i + 1 := ⟨nS L (Q + 1) - 1, by have := nS_pos L (f := Q + 1) (by omega); omega⟩
    have hi : i < S := by
      have := nS_mono L (a := Q + 1) (b := nfS B n) q
      have := b2.1
      omega
    have q1 : sb i ≤ Q := by
      rcases Nat.lt_or_ge (Q) (sb i) with w | w
      · have := nS_mono L (a := Q + 1) (b := sb i) w
        have := (b2.2.2 i hi).2.2
        omega
      · exact w
    have q2 : Q < sb (i + 1) := by
      rcases Nat.lt_or_ge (Q) (sb (i + 1)) with w | w
      · exact w
      · by_cases e : i + 1 = S
        · rw [e, b2.2.1] at w
          omega
        · have u := b2.2.2 (i + 1) (by omega)
          have := nS_mono L (a := sb (i + 1) + 1) (b := Q + 1) (by omega)
          have e2 : nS L (sb (i + 1) + 1) = nS L (sb (i + 1)) + if brS L (sb (i + 1)) then 1 else 0 := rfl
          rw [u.2.1, if_pos rfl, u.2.2] at e2
          omega
    have only : ∀ j, j < S → frS B sb j ≤ s ∧ s < toS B n sb j → j = i := fun j hj w => by
      have v := hin j hj w.1 w.2
      have := b2.frame hj v.1 v.2
      omega
    rw [ei, show ((i + 1 : Nat) : Int) - 1 = (i : Int) by omega, hcl.voiced hi, cp_ok]
    by_cases hv : L (sb i) = 0
    · refine ⟨x s, ?_, none' (fun j hj w => ?_)⟩
      · rw [if_pos hv, ck_ok (by decide), if_pos rfl, xat, cp_ok]
      · have := only j hj w.2
        subst this
        exact w.1 hv
    · obtain ⟨k, e1, e2, e3, -⟩ := (hk.2 i hi).1 hv
      have mk := hk.mark d1 d2 c2 b2 hL S (Nat.le_refl _)
      have mono := hk.mono (S - (i + 1)) (i + 1) (by omega)
      rw [show i + 1 + (S - (i + 1)) = S by omega] at mono
      have k0 : k ≠ 0 := fun z => by
        have w := e1.2
        rw [z] at w
        have w' : ((m0i x B L n sb i : Nat) : Int) = -1 := w
        omega
      have own : ∀ c, cn i ≤ c → c < cn (i + 1) → g1 48 c = (i : Int) := fun c h1 h2 => by
        obtain ⟨j, rfl⟩ : ∃ j, c = cn i + j := ⟨c - cn i, by omega⟩
        exact (e3 j (by omega)).2
      have fbi := fb i hi
      have sn : SN C (cn i) (cn (i + 1)) (frS B sb i) (toS B n sb i) i (g1 47) (g1 48) := by
        refine ⟨⟨by omega, by omega, mq.2.1, by omega, by omega⟩, fun c h1 h2 => ?_, fun c h1 h2 => ?_, fun h1 h2 => ?_, fun c h1 h2 => ?_⟩
        · obtain ⟨i', i1, i2, i3, i4, i5, m, m1, m2, m3, m4⟩ := mk c (by omega)
          have o := own c h1 h2
          rw [i5] at o
          have e : i' = i := by omega
          subst e
          exact ⟨i5, m, m1, m2, m3⟩
        · obtain ⟨i', i1, i2, i3, i4, i5, m, m1, m2, m3, m4⟩ := mk c (by omega)
          have o := own c h1 (by omega)
          rw [i5] at o
          have e : i' = i := by omega
          subst e
          obtain ⟨-, m', w1, w2, -⟩ := m4 h2
          rw [m1, w1]
          omega
        · obtain ⟨i', i1, i2, i3, i4, i5, -⟩ := mk (cn (i + 1)) (by omega)
          rw [i5] at h2
          have e : i' = i := by omega
          subst e
          omega
        · obtain ⟨i', i1, i2, i3, i4, i5, -⟩ := mk c (by omega)
          rw [i5] at h2
          have e : i' = i := by omega
          subst e
          omega
      have io := hout i hi q1 q2
      obtain ⟨z1, y1, T1, t1, v1⟩ := p3_sum h44 mq sn (hcl.spc hi hv) ha hb (show s < 800 by omega)
      obtain ⟨z2, y2, T2, t2, v2⟩ := m_sum hr mq sn (hRl.spm hi hv) (h90 i (by omega)) (h90 (i + 1) (by omega)) ha hb (show s < 800 by omega)
      have eT := t1.uniq t2
      subst eT
      refine ⟨z1, ?_, ?_⟩
      · rw [if_neg hv, ck_ok (by decide), if_neg (by decide), rdZ_at i rfl (by omega), rdZ_at (i + 1) (by omega) (by omega), h49 i (by omega), h49 (i + 1) (by omega), hcl.to hi, cp_ok, p3_at h44 mq.2.1 (by omega), cp_ok]
        exact y1
      · have he : GB_X12_anew_4 a b (s : Int) g2 (i : Int) = some (Sum.inr (Sum.inr (z1, g2))) := by
          unfold GB_X12_anew_4
          rw [hRl.2.2.1.1, ck_ok (by omega), ck_ok (by omega), if_neg (by omega), hRl.voiced hi, cp_ok, if_neg hv, ck_ok (by decide), if_neg (by decide), hRl.first hi, cp_ok, hRl.behind hi, cp_ok, m_isIn _ (by omega) (by omega) (by omega), cp_ok, if_pos (by omega), ck_ok (by decide), if_neg (by decide), y2, cp_ok, v1, v2]
        rw [lp_for (fun k => (k : Int)) i (Sum.inr (z1, g2)) (by rfl) (by omega) (fun j hj => stp j (by omega) (fun w => absurd (only j (by omega) w.2) (by omega))) he]
        rfl
  · refine ⟨x s, ?_, none' (fun j hj w => ?_)⟩
    · have hv : GF_X8_isVoiced (-1) g1 = some 0 := by
        unfold GF_X8_isVoiced GJ_X8_isVoiced_1 GJ_X8_isVoiced_2
        rw [p8_has b1 hS (by decide), cp_ok, if_neg (by omega), ck_ok (by decide), if_pos rfl, bzZ_0]
      rw [if_neg q, hv, cp_ok, ck_ok (by decide), if_pos rfl, xat, cp_ok]
    · have v := hin j hj w.2.1 w.2.2
      have := (b2.nx hj).2.2
      omega
theorem o_anew {R : uZ → Prop} (hR : KpL exR R) {a b s : Int} (ha : inR a) (hb : inR b) (hs : inR s) : opT (IV R MKg) [(1, 1), (2, 2)] (GF_X11_anew a b s) (GF_X12_anew a b s) := by
  have hR' : Kp R := hR.kp (by decide)
  have hM' : Kp MKg := kM.kp (by decide)
  rintro g ⟨n, hI⟩
  have hn := hI.n
  have h9 : ∀ q : uZ, upZ q 55 9 0 55 9 = 0 := fun q => upZ_ss _ _ _ _
  have e6 : upZ g 55 9 0 55 6 = (n : Int) := by rw [upZ_sn (by decide)]; exact hI.sz.1
  unfold GF_X11_anew
  rw [p7_has hI.s hn hs, cp_ok]
  by_cases hA : 0 ≤ s ∧ s < (n : Int)
  · rw [if_pos hA, ck_ok (show inR 1 by decide), if_neg (show ¬ (1 : Int) = 0 by decide), ck_ok ha, ck_ok hb]
    unfold GJ_X11_anew_1
    by_cases hab : (1 ≤ a ∧ a ≤ 4) ∧ 1 ≤ b ∧ b ≤ 4
    · left
      obtain ⟨j, rfl⟩ : ∃ j : Nat, s = (j : Int) := ⟨s.toNat, by omega⟩
      obtain ⟨g1, h1, hI1, hP, ⟨cn, hm⟩, -⟩ := iv_findMarks hR hI
      obtain ⟨g2, h2, k9, hRl, c49, c88, c90, -⟩ := iv_marks hI1 hP hm (fr9 g1 0)
      rw [upZ_ss] at k9
      have mq := hm.q hP hI1.s hI1.n hI1.x hI1.b
      obtain ⟨z, z1, z2⟩ := anew_both (a := a) (b := b) (s := j) (PW.cls (x := g1 2) (B := g1 5) hP hI1.s hI1.n hI1.x hI1.b) hP.2.2.2.2.2.1.2.2.2.2 hm.1 hm.2.1 rfl hm.2.2.1 mq hRl ⟨c49, c88⟩ c90 hab.1 hab.2 (by omega)
      have e6' : upZ g1 55 9 0 55 6 = (n : Int) := by rw [upZ_sn (by decide)]; exact hI1.sz.1
      have hB : GF_X12_anew a b (j : Int) g1 = some (z, g2) := by
        unfold GF_X12_anew GJ_X12_anew_6
        rw [pfZ_ok, e6', m_isIn _ hs (by decide) (by omega), cp_ok, if_pos (by omega), m_right1 (h9 g1), clZ_ok, ck_ok (by decide), if_neg (by decide), m_isIn _ ha (by decide) (by decide), cp_ok, if_pos hab.1, ck_ok (by decide), if_neg (by decide), m_isIn _ hb (by decide) (by decide), cp_ok, if_pos hab.2, ck_ok (by decide), if_neg (by decide), m_right1 (h9 g1), clZ_ok, ck_ok (by decide), if_neg (by decide), h2, cp_ok]
        exact z2
      refine ⟨z, g1, g2, ?_, hB, k9, n, hI1.fr hR' hM' (show Fr _ _ g1 g2 from fF_X12_anew Fr.rf hB) (by decide) (by decide)⟩
      unfold GJ_X11_anew_2
      rw [if_neg (show ¬ a < 1 by omega), if_neg (show ¬ 4 < a by omega), if_neg (show ¬ b < 1 by omega), if_neg (show ¬ 4 < b by omega), ck_ok (by decide), if_neg (by decide), h1, cp_ok, z1, cp_ok]
    · right
      have hB : GF_X12_anew a b s g = some (0, upZ (upZ g 55 9 0) 55 9 2) := by
        unfold GF_X12_anew GJ_X12_anew_1 GJ_X12_anew_6 GJ_X12_anew_7
        rw [pfZ_ok, e6, m_isIn _ hs (by decide) (by omega), cp_ok, if_pos (by omega), m_right1 (h9 g), clZ_ok, ck_ok (by decide), if_neg (by decide), m_isIn _ ha (by decide) (by decide), cp_ok]
        by_cases w : 1 ≤ a ∧ a ≤ 4
        · rw [if_pos w, ck_ok (by decide), if_neg (by decide), m_isIn _ hb (by decide) (by decide), cp_ok, if_neg (fun w' => hab ⟨w, w'⟩), ck_ok (by decide), if_pos rfl, m_right0 (h9 g) (Or.inr rfl), clZ_ok, ck_ok (by decide), if_pos rfl]
        · rw [if_neg w, ck_ok (by decide), if_pos rfl, m_right0 (h9 g) (Or.inr rfl), clZ_ok, ck_ok (by decide), if_pos rfl]
      refine ⟨(2, 2), by simp, _, g, _, ?_, hB, upZ_ss _ _ _ _, n, (hI.flag hR' hM' 0).flag hR' hM' 2⟩
      have e0 : GJ_X11_anew_2 a b s g 0 = some (Sum.inr 2, g) := by
        unfold GJ_X11_anew_2
        rw [ck_ok (by decide), if_pos rfl]
      rw [e0]
      by_cases w1 : a < 1
      · rw [if_pos w1]
      · rw [if_neg w1]
        by_cases w2 : 4 < a
        · rw [if_pos w2]
        · rw [if_neg w2]
          by_cases w3 : b < 1
          · rw [if_pos w3]
          · rw [if_neg w3, if_pos (show 4 < b by omega)]
  · right
    have hB : GF_X12_anew a b s g = some (0, upZ (upZ g 55 9 0) 55 9 1) := by
      unfold GF_X12_anew GJ_X12_anew_7
      rw [pfZ_ok, e6, m_isIn _ hs (by decide) (by omega), cp_ok, if_neg (by omega), m_right0 (h9 g) (Or.inl rfl), clZ_ok, ck_ok (by decide), if_pos rfl]
    refine ⟨(1, 1), by simp, _, g, _, ?_, hB, upZ_ss _ _ _ _, n, (hI.flag hR' hM' 0).flag hR' hM' 1⟩
    rw [if_neg hA, ck_ok (show inR 0 by decide), if_pos rfl]
