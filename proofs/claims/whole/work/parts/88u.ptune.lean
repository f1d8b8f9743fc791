/-! match, matched, tune, hush -/
theorem m_goesMatch {g : uZ} {K Q cg : Nat} {tl nl : Nat → Int} (h : MMt g K Q cg tl nl) (hE : ∀ p q, p ≤ K → q ≤ Q → g 84 (111 * p + q) = eS cg (pcS K Q tl nl) (K - p) (Q - q)) : ∃ g', GF_X12_goesMatch g = some g' ∧ g' 55 42 = (dbC (prS K Q cg tl nl) K : Int) ∧ ∀ p, p < K → g' 85 p = prS K Q cg tl nl p := by
  obtain ⟨hK, hK12, hQ, hQ100, hc, hc500, htl, hnl⟩ := id h
  have hpn : ∀ a b, 0 ≤ pcS K Q tl nl a b := fun a b => by unfold pcS; have := ab_nn (tl (K - a) - nl (Q - b)); omega
  have hbd := eS_bd (c := (cg : Int)) (pc := pcS K Q tl nl) (by omega) hpn
  have hlim : ∀ a b, a ≤ K → b ≤ Q → (cg : Int) * ((a + b : Nat) : Int) ≤ 500 * 112 := fun a b h1 h2 => Int.mul_le_mul (by omega) (by omega) (by omega) (by omega)
  unfold GF_X12_goesMatch
  rw [pfZ_ok]
  refine lp_go (fun t z => z.1 = (pWS K Q cg tl nl t : Int) ∧ z.2.1 = (t : Int) ∧ Fr [85] [(55, 42)] g z.2.2 ∧ z.2.2 55 42 = (dbC (prS K Q cg tl nl) t : Int) ∧ ∀ p, p < t → z.2.2 85 p = prS K Q cg tl nl p) (fun z => z 55 42 = (dbC (prS K Q cg tl nl) K : Int) ∧ ∀ p, p < K → z 85 p = prS K Q cg tl nl p) K (by omega) ⟨rfl, rfl, Fr.rf.pf (by decide), by dsimp only; rw [upZ_ss]; rfl, fun p hp => absurd hp (Nat.not_lt_zero _)⟩ ?_ ?_ (fun z hz => ⟨z, rfl, hz⟩)
  · rintro t ⟨w2, w3, z⟩ ht ⟨e1, e2, hF, h42, hz⟩
    simp only at e1 e2 hF h42 hz
    subst e1 e2
    dsimp only
    have hMz := h.fr (hF 55 8 (by decide) (by decide)) (hF 55 38 (by decide) (by decide)) (hF.f 56 (by decide) (by decide)) (hF.f 61 (by decide) (by decide)) (hF.f 81 (by decide) (by decide))
    have z84 : z 84 = g 84 := hF.f 84 (by decide) (by decide)
    have hq0 := pWS_le K Q cg tl nl t
    have c2 := hE t (pWS K Q cg tl nl t) (by omega) hq0
    have es : pWS K Q cg tl nl (t + 1) = if ff (fpS K Q cg tl nl t (pWS K Q cg tl nl t)) Q = -1 then pWS K Q cg tl nl t else (ff (fpS K Q cg tl nl t (pWS K Q cg tl nl t)) Q).toNat + 1 := rfl
    have ed : dbC (prS K Q cg tl nl) (t + 1) = dbC (prS K Q cg tl nl) t + if ff (fpS K Q cg tl nl t (pWS K Q cg tl nl t)) Q = -1 then 0 else 1 := rfl
    have b2 := hbd (K - t) (Q - pWS K Q cg tl nl t)
    have l2 := hlim (K - t) (Q - pWS K Q cg tl nl t) (by omega) (by omega)
    have ep : prS K Q cg tl nl t = ff (fpS K Q cg tl nl t (pWS K Q cg tl nl t)) Q := rfl
    generalize hQ0 : pWS K Q cg tl nl t = q0 at *
    unfold GB_X12_goesMatch_6 GF_X12_matchAt
    rw [hMz.1, ck_ok (by omega), ck_ok (by omega), if_neg (by omega), cp_ok, rdZ_at (111 * t + q0) (by omega) (by omega), z84, c2]
    obtain ⟨b, ⟨w, rfl, w1, w2, w3⟩, e⟩ := lp_while (f := fun q => GB_X12_goesMatch_3 (eS cg (pcS K Q tl nl) (K - t) (Q - q0)) (q0 : Int) (t : Int) z q) (a := (q0 : Int)) (k := fun q => GC_X12_goesMatch_5 (q0 : Int) (t : Int) z q) (fun q => ∃ w : Nat, q = (w : Int) ∧ q0 ≤ w ∧ w ≤ Q ∧ ∀ j, j < w → fpS K Q cg tl nl t q0 j = false) (fun q => ∃ w : Nat, q = (w : Int) ∧ w ≤ Q ∧ (∀ j, j < w → fpS K Q cg tl nl t q0 j = false) ∧ (w = Q ∨ fpS K Q cg tl nl t q0 w = true)) (fun q => ((Q : Int) - q).toNat) ⟨q0, rfl, Nat.le_refl _, hq0, fun j hj => by unfold fpS; simp; intro h; omega⟩ (by omega) (by
      rintro q ⟨w, rfl, h1, h2, h3⟩
      unfold GB_X12_goesMatch_3 GF_X12_matchAt
      rw [hMz.2.2.1, ck_ok (by omega), ck_ok (by omega)]
      by_cases c : w = Q
      · right
        rw [if_pos (by omega)]
        exact ⟨_, rfl, w, rfl, h2, h3, Or.inl c⟩
      · have tp := htl t ht
        have nq := hnl w (by omega)
        have c1 := hE (t + 1) (w + 1) (by omega) (by omega)
        have b1 := hbd (K - (t + 1)) (Q - (w + 1))
        have l1 := hlim (K - (t + 1)) (Q - (w + 1)) (by omega) (by omega)
        have abb : 0 ≤ ab (tl t - nl w) ∧ ab (tl t - nl w) ≤ 100 := by unfold ab; split <;> omega
        have cb : 0 ≤ (cg : Int) * ((w : Int) - (q0 : Int)) ∧ (cg : Int) * ((w : Int) - (q0 : Int)) ≤ 500 * 100 := ⟨Int.mul_nonneg (by omega) (by omega), Int.mul_le_mul (by omega) (by omega) (by omega) (by omega)⟩
        rw [if_neg (by omega), rdB15, hMz.2.2.2.2.1, m_pairCost hMz ht (by omega), cp_ok, cp_ok, rdZ_at (111 * (t + 1) + (w + 1)) (by omega) (by omega), z84, c1, Int.mul_comm ((w : Int) - (q0 : Int)) (cg : Int), ck_ok (by omega), ck_ok (by omega)]
        by_cases d : ((cg : Int) * ((w : Int) - (q0 : Int)) + 10 * ab (tl t - nl w)) + eS cg (pcS K Q tl nl) (K - (t + 1)) (Q - (w + 1)) = eS cg (pcS K Q tl nl) (K - t) (Q - q0)
        · right
          rw [if_pos d]
          exact ⟨_, rfl, w, rfl, h2, h3, Or.inr (by unfold fpS; rw [decide_eq_true h1, decide_eq_true d]; rfl)⟩
        · left
          rw [if_neg d, lt_ok]
          refine ⟨_, rfl, ⟨w + 1, by omega, by omega, by omega, fun j hj => ?_⟩, by omega⟩
          by_cases e : j = w
          · subst e
            unfold fpS
            rw [decide_eq_false d]
            simp
          · exact h3 j (by omega))
    rw [e]
    have hv : (if (Q : Int) ≤ (w : Int) then (-1 : Int) else (w : Int)) = ff (fpS K Q cg tl nl t q0) Q := by
      rcases w3 with q | q
      · rw [if_pos (by omega), ff_none (fun j hj => w2 j (by omega))]
      · by_cases c : w = Q
        · rw [if_pos (by omega), ff_none (fun j hj => w2 j (by omega))]
        · rw [if_neg (by omega), ff_some (show w < Q by omega) q w2]
    unfold GC_X12_goesMatch_5 GJ_X12_goesMatch_4
    rw [hMz.2.2.1, ck_ok (by omega), ck_ok (by omega), lt_ok, hv, wrZ_at t rfl (by omega), upZ_n (by decide), hMz.2.2.1, ck_ok (by omega)]
    have cell : ∀ p, p < t + 1 → upZ z 85 t (ff (fpS K Q cg tl nl t q0) Q) 85 p = prS K Q cg tl nl p := fun p hp => by
      by_cases q : p = t
      · subst q
        rw [upZ_ss]
        exact ep.symm
      · rw [upZ_sn q]
        exact hz p (by omega)
    by_cases c : (Q : Int) ≤ (w : Int)
    · rw [if_pos c] at hv
      rw [if_pos hv.symm] at es ed
      rw [if_pos c, lt_ok]
      exact ⟨_, rfl, by dsimp only; rw [es], by dsimp only; omega, hF.wr (by decide), by dsimp only; rw [upZ_n (by decide), h42, ed]; rfl, cell⟩
    · rw [if_neg c] at hv
      rw [if_neg (by omega)] at es ed
      rw [if_neg c, pfZ_ok, lt_ok, lt_ok, h42]
      refine ⟨_, rfl, by dsimp only; rw [es, ← hv]; omega, by dsimp only; omega, (hF.wr (by decide)).pf (by decide), by dsimp only; rw [upZ_ss, ed]; omega, fun p hp => ?_⟩
      dsimp only
      rw [upZ_n (by decide)]
      exact cell p hp
  · rintro ⟨w2, w3, z⟩ ⟨e1, e2, hF, h42, hz⟩
    simp only at e1 e2 hF h42 hz
    subst e1 e2
    dsimp only
    refine ⟨z, ?_, h42, hz⟩
    unfold GB_X12_goesMatch_6
    rw [hF 55 8 (by decide) (by decide), hK, ck_ok (by omega), ck_ok (by omega), if_pos (by omega)]
theorem IVn.tn {R M : uZ → Prop} {n : Nat} {g : uZ} (h : IVn R M n g) : ∃ k : Nat, k ≤ 12 ∧ g 51 5 = (k : Int) ∧ g 55 8 = (k : Int) ∧ (∀ j, j < k → 1 ≤ g 52 j ∧ g 52 j ≤ 48) ∧ g 61 = g 52 := by
  obtain ⟨-, -, -, ⟨k, h1, h2, h3, h4⟩, h5, -⟩ := h.2.2.2.2.2.2.2
  exact ⟨k, h1, h2, h3, h4, h5⟩
theorem iv_match {R M : uZ → Prop} (hR : Kp R) (hM : Kp M) {n : Nat} {g1 : uZ} (hI1 : IVn R M n g1) (hP : PW (g1 2) (g1 5) n g1) : ∃ (g2 g3 : uZ) (K : Nat) (E0 : Int) (pr : Nat → Int), GF_X10_findPairs g1 = some g2 ∧ IVn R M n g2 ∧ GF_X12_laysMatch (upZ g2 55 9 0) = some g3 ∧ g3 55 9 = 0 ∧ K ≤ 12 ∧ g2 51 5 = (K : Int) ∧ g2 54 0 = E0 ∧ g3 84 0 = E0 ∧ (∀ p, p < K → g2 53 p = pr p ∧ g3 85 p = pr p ∧ -1 ≤ pr p ∧ pr p ≤ 100) ∧ g3 55 42 = (dbC pr K : Int) := by
  obtain ⟨K, k1, k2, k3, k4, k5⟩ := hI1.tn
  have hN := hI1.f
  obtain ⟨n1, n2, -⟩ := hP.2.2.2.2.2.2.1
  have hle := nN_le (g1 24) (nfS (g1 5) n)
  have b15 := hI1.b.b15
  have hMC : MCt g1 K (nN (g1 24) (nfS (g1 5) n)) (bN (g1 5) 15) (g1 52) (g1 41) := ⟨k2, k1, n1, by omega, b15.1, b15.2.2, fun p hp => ⟨rfl, k4 p hp⟩, fun q hq => ⟨rfl, by
    obtain ⟨a, l, v, q1, q2, q3, q4, q5⟩ := n2 q hq
    have := q5.1
    omega⟩⟩
  obtain ⟨g2, h2, hE, hpr⟩ := p10_findPairs hMC
  have f2 : Fr [53, 54] [] g1 g2 := fF_X10_findPairs Fr.rf h2
  have hI2 := hI1.fr hR hM f2 (by decide) (by decide)
  have e0 : g2 0 = g1 0 := f2.f 0 (by decide) (by decide)
  have e2 : g2 2 = g1 2 := f2.f 2 (by decide) (by decide)
  have e5 : g2 5 = g1 5 := f2.f 5 (by decide) (by decide)
  have e24 : g2 24 = g1 24 := f2.f 24 (by decide) (by decide)
  have hP2 : PW (g2 2) (g2 5) n g2 := by
    rw [e2, e5]
    exact f2.tra (fun q => PW (g1 2) (g1 5) n q) hP
  obtain ⟨gn, hn1, ⟨m1, m2⟩, k9⟩ := iv_notes hI2 hP2 (fr9 g2 0)
  rw [e5, e24] at m1 m2
  have fn := fF_X12_laysNotes Fr.rf hn1
  have hMM : MMt gn K (nN (g1 24) (nfS (g1 5) n)) (bN (g1 5) 15) (g1 52) (g1 41) := by
    refine ⟨?_, k1, m1, by omega, ?_, b15.2.2, fun p hp => ⟨?_, k4 p hp⟩, fun q hq => ?_⟩
    · rw [fn 55 8 (by decide) (by decide), upZ_sn (by decide), f2 55 8 (by decide) (by decide)]
      exact k3
    · rw [fn.f 56 (by decide) (by decide), upZ_n (by decide), hI2.2.2.2.2.2.2.1.2.2, e5]
      exact b15.1
    · rw [fn.f 61 (by decide) (by decide), upZ_n (by decide), f2.f 61 (by decide) (by decide), k5]
    · obtain ⟨a, l, v, q1, q2, q3, q4, q5⟩ := n2 q hq
      obtain ⟨a', l', v', r1, r2, r3, r4, r5⟩ := m2 q hq
      obtain ⟨u1, u2⟩ := q4.uniq r4
      subst u1 u2
      have u3 := q5.uniq r5
      have := q5.1
      subst u3
      exact ⟨by rw [r3, q3], by omega, by omega⟩
  obtain ⟨g3, h3, q0, q1, q2⟩ := m_layMatch (Kk := fun z => GC_X12_laysMatch_11 z) (Rr := fun z => z 84 0 = eS (bN (g1 5) 15) (pcS K (nN (g1 24) (nfS (g1 5) n)) (g1 52) (g1 41)) K (nN (g1 24) (nfS (g1 5) n)) ∧ z 55 42 = (dbC (prS K (nN (g1 24) (nfS (g1 5) n)) (bN (g1 5) 15) (g1 52) (g1 41)) K : Int) ∧ ∀ p, p < K → z 85 p = prS K (nN (g1 24) (nfS (g1 5) n)) (bN (g1 5) 15) (g1 52) (g1 41) p) hMM (fun z hF hz => by
    have hMz := hMM.fr (hF 55 8 (by decide) (by decide)) (hF 55 38 (by decide) (by decide)) (hF.f 56 (by decide) (by decide)) (hF.f 61 (by decide) (by decide)) (hF.f 81 (by decide) (by decide))
    obtain ⟨g', a1, a2, a3⟩ := m_goesMatch hMz hz
    have f' := fF_X12_goesMatch Fr.rf a1
    unfold GC_X12_laysMatch_11
    rw [a1, cp_ok]
    refine ⟨g', rfl, ?_, a2, a3⟩
    rw [f'.f 84 (by decide) (by decide)]
    have := hz 0 0 (by omega) (by omega)
    rw [Nat.mul_zero, Nat.sub_zero, Nat.sub_zero] at this
    exact this)
  have hL : GF_X12_laysMatch (upZ g2 55 9 0) = some g3 := by
    unfold GF_X12_laysMatch
    rw [hn1, cp_ok, lt_ok, hMM.1]
    exact h3
  have E0 := hE 0 0 (by omega) (by omega)
  rw [Nat.mul_zero, Nat.sub_zero, Nat.sub_zero] at E0
  refine ⟨g2, g3, K, _, prS K (nN (g1 24) (nfS (g1 5) n)) (bN (g1 5) 15) (g1 52) (g1 41), h2, hI2, hL, ?_, k1, (f2 51 5 (by decide) (by decide)).trans k2, E0, q0, fun p hp => ⟨hpr p hp, q2 p hp, ?_⟩, q1⟩
  · rw [fF_X12_laysMatch Fr.rf hL 55 9 (by decide) (by decide), upZ_ss]
  · have := ff_r (fpS K (nN (g1 24) (nfS (g1 5) n)) (bN (g1 5) 15) (g1 52) (g1 41) p (pWS K (nN (g1 24) (nfS (g1 5) n)) (bN (g1 5) 15) (g1 52) (g1 41) p)) (nN (g1 24) (nfS (g1 5) n))
    unfold prS
    omega
theorem o_match {R M : uZ → Prop} (hR : Kp R) (hM : Kp M) {a : Int} (ha : inR a) : opT (IV R M) [(1, 1)] (GF_X11_match a) (GF_X12_match a) := by
  rintro g ⟨n, hI⟩
  have h9 : ∀ q : uZ, upZ q 55 9 0 55 9 = 0 := fun q => upZ_ss _ _ _ _
  by_cases hA : 0 ≤ a ∧ a ≤ 1
  · left
    obtain ⟨g1, h1, hI1, hfl, hP⟩ := iv_findPath hI
    obtain ⟨g2, g3, K, E0, pr, c1, hI2, c3, k9, hK, c5, c6, c7, c8, c9⟩ := iv_match hR hM hI1 hP
    have hB : GF_X12_match a g2 = some (if a = 0 then E0 else (dbC pr K : Int), g3) := by
      unfold GF_X12_match GJ_X12_match_1
      rw [pfZ_ok, m_isIn _ ha (by decide) (by decide), cp_ok, if_pos hA, m_right1 (h9 g2), clZ_ok, ck_ok (by decide), if_neg (by decide), c3, cp_ok, ck_ok ha]
      by_cases a0 : a = 0
      · rw [if_pos a0, if_pos a0, rdZ_at 0 (by rfl) (by omega), c7]
      · rw [if_neg a0, if_neg a0, c9]
    refine ⟨_, g2, g3, ?_, hB, k9, n, hI2.fr hR hM (show Fr _ _ g2 g3 from fF_X12_match Fr.rf hB) (by decide) (by decide)⟩
    have hpairs : GF_X10_pairs g2 = some (dbC pr K : Int) := by
      unfold GF_X10_pairs
      rw [lp_for (fun t => ((dbC pr t : Int), (t : Int))) K (dbC pr K : Int) (by rfl) (by omega)]
      · rfl
      · intro t ht
        have q := c8 t ht
        have e : dbC pr (t + 1) = dbC pr t + if pr t = -1 then 0 else 1 := rfl
        dsimp only
        unfold GB_X10_pairs_2
        rw [c5, ck_ok (by omega), ck_ok (by omega), if_neg (by omega), rdZ_at t rfl (by omega), q.1, ck_ok (by omega), lt_ok, lt_ok, lt_ok, e]
        by_cases c : pr t = -1
        · rw [if_pos c, if_pos c]; rfl
        · rw [if_neg c, if_neg c]; rfl
      · dsimp only
        unfold GB_X10_pairs_2
        rw [c5, ck_ok (by omega), ck_ok (by omega), if_pos (by omega)]
    unfold GF_X11_match GJ_X11_match_3 GJ_X11_match_2 GF_X10_price
    rw [ck_ok ha, if_neg (by omega), if_neg (by omega), ck_ok (by decide), if_neg (by decide), h1, cp_ok, c1, cp_ok, ck_ok ha, hpairs, cp_ok]
    by_cases a0 : a = 0
    · rw [if_pos a0, if_pos a0, rdZ_at 0 (by rfl) (by omega), c6, cp_ok]
    · rw [if_neg a0, if_neg a0]
  · right
    have hB : GF_X12_match a g = some (0, upZ (upZ g 55 9 0) 55 9 1) := by
      unfold GF_X12_match
      rw [pfZ_ok, m_isIn _ ha (by decide) (by decide), cp_ok, if_neg hA, m_right0 (h9 g) (Or.inl rfl), clZ_ok, ck_ok (by decide), if_pos rfl]
    refine ⟨(1, 1), by simp, _, g, _, ?_, hB, upZ_ss _ _ _ _, n, (hI.flag hR hM 0).flag hR hM 1⟩
    unfold GF_X11_match GJ_X11_match_1 GJ_X11_match_3
    rw [ck_ok ha]
    by_cases a0 : a < 0
    · rw [if_pos a0, ck_ok (by decide), if_pos rfl]
    · rw [if_neg a0, if_pos (by omega), ck_ok (by decide), if_pos rfl]
theorem o_matched {R M : uZ → Prop} (hR : Kp R) (hM : Kp M) {a : Int} (ha : inR a) : opT (IV R M) [(1, 1)] (GF_X11_matched a) (GF_X12_matched a) := by
  rintro g ⟨n, hI⟩
  have h9 : ∀ q : uZ, upZ q 55 9 0 55 9 = 0 := fun q => upZ_ss _ _ _ _
  obtain ⟨K, k1, k2, k3, -, -⟩ := hI.tn
  by_cases hA : 0 ≤ a ∧ a < (K : Int)
  · left
    obtain ⟨g1, h1, hI1, hfl, hP⟩ := iv_findPath hI
    have f1 := fF_X11_findPath Fr.rf h1
    obtain ⟨g2, g3, K', E0, pr, c1, hI2, c3, k9, hK, c5, c6, c7, c8, c9⟩ := iv_match hR hM hI1 hP
    have f2 : Fr [53, 54] [] g1 g2 := fF_X10_findPairs Fr.rf c1
    have eK : K' = K := by
      have : g2 51 5 = g 51 5 := (f2 51 5 (by decide) (by decide)).trans (f1 51 5 (by decide) (by decide))
      omega
    subst eK
    obtain ⟨p, rfl⟩ : ∃ p : Nat, a = (p : Int) := ⟨a.toNat, by omega⟩
    have q := c8 p (by omega)
    have e8 : upZ g2 55 9 0 55 8 = (K' : Int) := by
      rw [upZ_sn (by decide), f2 55 8 (by decide) (by decide), f1 55 8 (by decide) (by decide)]
      exact k3
    have hB : GF_X12_matched (p : Int) g2 = some (pr p, g3) := by
      unfold GF_X12_matched
      rw [pfZ_ok, e8, m_isIn _ ha (by decide) (by omega), cp_ok, if_pos (by omega), m_right1 (h9 g2), clZ_ok, ck_ok (by decide), if_neg (by decide), c3, cp_ok, rdZ_at p rfl (by omega), q.2.1]
    refine ⟨_, g2, g3, ?_, hB, k9, n, hI2.fr hR hM (show Fr _ _ g2 g3 from fF_X12_matched Fr.rf hB) (by decide) (by decide)⟩
    unfold GF_X11_matched GJ_X11_matched_2 GF_X10_size GF_X10_pairOf GJ_X10_pairOf_2
    rw [ck_ok ha, if_neg (by omega), cp_ok, k2, ck_ok (by omega), if_neg (by omega), ck_ok (by decide), if_neg (by decide), h1, cp_ok, c1, cp_ok, ck_ok ha, if_neg (by omega), c5, ck_ok (by omega), if_pos (by omega), rdZ_at p rfl (by omega), q.1, cp_ok]
  · right
    have hB : GF_X12_matched a g = some (0, upZ (upZ g 55 9 0) 55 9 1) := by
      unfold GF_X12_matched
      rw [pfZ_ok, upZ_sn (by decide), k3, m_isIn _ ha (by decide) (by omega), cp_ok, if_neg (by omega), m_right0 (h9 g) (Or.inl rfl), clZ_ok, ck_ok (by decide), if_pos rfl]
    refine ⟨(1, 1), by simp, _, g, _, ?_, hB, upZ_ss _ _ _ _, n, (hI.flag hR hM 0).flag hR hM 1⟩
    unfold GF_X11_matched GJ_X11_matched_1 GJ_X11_matched_2 GF_X10_size
    rw [ck_ok ha]
    by_cases a0 : a < 0
    · rw [if_pos a0, ck_ok (by decide), if_pos rfl]
    · rw [if_neg a0, cp_ok, k2, ck_ok (by omega), if_pos (by omega), ck_ok (by decide), if_pos rfl]
