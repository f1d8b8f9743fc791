/-! match: the reference's least costs; the pairs -/
def MMt (g : uZ) (K Q : Nat) (cg : Nat) (tl nl : Nat → Int) : Prop := g 55 8 = (K : Int) ∧ K ≤ 12 ∧ g 55 38 = (Q : Int) ∧ Q ≤ 100 ∧ g 56 15 = (cg : Int) ∧ cg ≤ 500 ∧ (∀ p, p < K → g 61 p = tl p ∧ 1 ≤ tl p ∧ tl p ≤ 48) ∧ ∀ q, q < Q → g 81 q = nl q ∧ 0 ≤ nl q ∧ nl q ≤ 50
theorem MMt.fr {g g' : uZ} {K Q cg : Nat} {tl nl : Nat → Int} (h : MMt g K Q cg tl nl) (h8 : g' 55 8 = g 55 8) (h38 : g' 55 38 = g 55 38) (h56 : g' 56 = g 56) (h61 : g' 61 = g 61) (h81 : g' 81 = g 81) : MMt g' K Q cg tl nl := by
  unfold MMt
  rw [h8, h38, h56, h61, h81]
  exact h
theorem m_pairCost {g : uZ} {K Q cg p q : Nat} {tl nl : Nat → Int} (h : MMt g K Q cg tl nl) (hp : p < K) (hq : q < Q) : GF_X12_pairCost (p : Int) (q : Int) g = some (10 * ab (tl p - nl q)) := by
  obtain ⟨hK, hK12, hQ, hQ100, hc, hc500, htl, hnl⟩ := h
  have tp := htl p hp
  have nq := hnl q hq
  unfold GF_X12_pairCost
  rw [rdZ_at p rfl (by omega), tp.1, rdZ_at q rfl (by omega), nq.1, m_apart g (by omega) (by omega), cp_ok]
theorem m_lesser (g : uZ) {a b : Int} (ha : inR a) (hb : inR b) : GF_X12_lesser a b g = some (mn a b) := by
  unfold GF_X12_lesser mn
  rw [ck_ok hb, ck_ok ha, lt_ok]
  congr 1
  split <;> split <;> omega
theorem m_layMatch {γ : Type} {g : uZ} {K Q cg : Nat} {tl nl : Nat → Int} {Kk : uZ → Option γ} {Rr : γ → Prop} (h : MMt g K Q cg tl nl) (hk : ∀ z, Fr [84] [] g z → (∀ p q, p ≤ K → q ≤ Q → z 84 (111 * p + q) = eS cg (pcS K Q tl nl) (K - p) (Q - q)) → ∃ r, Kk z = some r ∧ Rr r) : ∃ r, lp (fun z => GB_X12_laysMatch_10 z.1 z.2) ((K : Int), g) Kk = some r ∧ Rr r := by
  obtain ⟨hK, hK12, hQ, hQ100, hc, hc500, htl, hnl⟩ := id h
  have hpn : ∀ a b, 0 ≤ pcS K Q tl nl a b := fun a b => by unfold pcS; have := ab_nn (tl (K - a) - nl (Q - b)); omega
  have hbd := eS_bd (c := (cg : Int)) (pc := pcS K Q tl nl) (by omega) hpn
  have hlim : ∀ a b, a ≤ K → b ≤ Q → (cg : Int) * ((a + b : Nat) : Int) ≤ 500 * 112 := fun a b h1 h2 => Int.mul_le_mul (by omega) (by omega) (by omega) (by omega)
  refine lp_go (fun t z => z.1 = (K : Int) - (t : Int) ∧ Fr [84] [] g z.2 ∧ ∀ p q, K < p + t → p ≤ K → q ≤ Q → z.2 84 (111 * p + q) = eS cg (pcS K Q tl nl) (K - p) (Q - q)) (fun z => Fr [84] [] g z ∧ ∀ p q, p ≤ K → q ≤ Q → z 84 (111 * p + q) = eS cg (pcS K Q tl nl) (K - p) (Q - q)) (K + 1) (by omega) ⟨by dsimp only; omega, Fr.rf, fun p q h1 h2 => by omega⟩ ?_ ?_ (fun z hz => hk z hz.1 hz.2)
  · rintro t ⟨w, z⟩ ht ⟨e1, hF, hz⟩
    simp only at e1 hF hz
    subst e1
    dsimp only
    obtain ⟨p, hp⟩ : ∃ p, K = p + t := ⟨K - t, by omega⟩
    have ep : (K : Int) - (t : Int) = (p : Int) := by omega
    unfold GB_X12_laysMatch_10
    rw [ep, ck_ok (by omega), if_neg (by omega), lt_ok, hF 55 38 (by decide) (by decide), hQ]
    refine lp_gi (fun s y => y.1 = (Q : Int) - (s : Int) ∧ Fr [84] [] g y.2 ∧ (∀ p' q, p < p' → p' ≤ K → q ≤ Q → y.2 84 (111 * p' + q) = eS cg (pcS K Q tl nl) (K - p') (Q - q)) ∧ ∀ q, Q < q + s → q ≤ Q → y.2 84 (111 * p + q) = eS cg (pcS K Q tl nl) t (Q - q)) (fun y => Fr [84] [] g y ∧ (∀ p' q, p < p' → p' ≤ K → q ≤ Q → y 84 (111 * p' + q) = eS cg (pcS K Q tl nl) (K - p') (Q - q)) ∧ ∀ q, q ≤ Q → y 84 (111 * p + q) = eS cg (pcS K Q tl nl) t (Q - q)) (Q + 1) (by omega) ⟨by dsimp only; omega, hF, fun p' q h1 h2 h3 => hz p' q (by omega) h2 h3, fun q h1 h2 => by omega⟩ ?_ ?_ ?_
    · rintro s ⟨w, y⟩ hs ⟨e1, hG, hy, hr⟩
      simp only at e1 hG hy hr
      subst e1
      dsimp only
      obtain ⟨q, hq⟩ : ∃ q, Q = q + s := ⟨Q - s, by omega⟩
      have eq : (Q : Int) - (s : Int) = (q : Int) := by omega
      have hMy := h.fr (hG 55 8 (by decide) (by decide)) (hG 55 38 (by decide) (by decide)) (hG.f 56 (by decide) (by decide)) (hG.f 61 (by decide) (by decide)) (hG.f 81 (by decide) (by decide))
      have y8 := hMy.1
      have y38 := hMy.2.2.1
      have y15 := hMy.2.2.2.2.1
      have lim := hlim t s (by omega) (by omega)
      have b0 := hbd t s
      have fin : ∀ v : Int, v = eS cg (pcS K Q tl nl) t s → ∃ a', GJ_X12_laysMatch_4 (p : Int) (q : Int) y v = some (Sum.inl a') ∧ a'.1 = (Q : Int) - ((s + 1 : Nat) : Int) ∧ Fr [84] [] g a'.2 ∧ (∀ p' q, p < p' → p' ≤ K → q ≤ Q → a'.2 84 (111 * p' + q) = eS cg (pcS K Q tl nl) (K - p') (Q - q)) ∧ ∀ q, Q < q + (s + 1) → q ≤ Q → a'.2 84 (111 * p + q) = eS cg (pcS K Q tl nl) t (Q - q) := by
        intro v hv
        unfold GJ_X12_laysMatch_4 GF_X12_matchAt
        rw [cp_ok, wrZ_at (111 * p + q) (by omega) (by omega), lt_ok]
        refine ⟨_, rfl, by dsimp only; omega, hG.wr (by decide), fun p' q' h1 h2 h3 => ?_, fun q' h1 h2 => ?_⟩
        · dsimp only
          rw [upZ_sn (by omega)]
          exact hy p' q' h1 h2 h3
        · dsimp only
          by_cases c : q' = q
          · subst c
            rw [upZ_ss, hv, show Q - q' = s by omega]
          · rw [upZ_sn (by omega)]
            exact hr q' (by omega) h2
      unfold GB_X12_laysMatch_8 GJ_X12_laysMatch_3
      rw [eq, ck_ok (by omega), if_neg (by omega), y8, y38, ck_ok (by omega), ck_ok (by omega)]
      by_cases t0 : t = 0
      · subst t0
        rw [if_pos (by omega), ck_ok (by omega)]
        by_cases s0 : s = 0
        · subst s0
          rw [if_pos (by omega)]
          unfold GJ_X12_laysMatch_7
          rw [y8, ck_ok (by omega), ck_ok (by omega), if_pos (by omega)]
          unfold GJ_X12_laysMatch_6
          rw [y38, ck_ok (by omega), ck_ok (by omega), if_pos (by omega)]
          unfold GJ_X12_laysMatch_5
          rw [y8, ck_ok (by omega), ck_ok (by omega), if_pos (by omega)]
          exact fin _ (by rw [eS_0]; simp)
        · obtain ⟨s', rfl⟩ : ∃ s', s = s' + 1 := ⟨s - 1, by omega⟩
          have c1 := hr (q + 1) (by omega) (by omega)
          rw [show Q - (q + 1) = s' by omega, eS_0] at c1
          have m1 := mul_s (cg : Int) s'
          have l1 := hlim 0 s' (by omega) (by omega)
          rw [Nat.zero_add] at l1
          have nn2 : 0 ≤ (cg : Int) * (s' : Int) := Int.mul_nonneg (by omega) (by omega)
          rw [if_neg (by omega)]
          unfold GJ_X12_laysMatch_7
          rw [y8, ck_ok (by omega), ck_ok (by omega), if_pos (by omega)]
          unfold GJ_X12_laysMatch_6 GF_X12_matchAt
          rw [y38, ck_ok (by omega), ck_ok (by omega), if_neg (by omega), rdB15, y15, cp_ok, rdZ_at (111 * p + (q + 1)) (by omega) (by omega), c1, m_lesser y (by omega) (by omega), cp_ok]
          unfold GJ_X12_laysMatch_5
          rw [y8, ck_ok (by omega), ck_ok (by omega), if_pos (by omega)]
          exact fin _ (by rw [eS_0]; unfold mn; split <;> omega)
      · obtain ⟨t', rfl⟩ : ∃ t', t = t' + 1 := ⟨t - 1, by omega⟩
        have c1 := hy (p + 1) q (by omega) (by omega) (by omega)
        rw [show K - (p + 1) = t' by omega, show Q - q = s by omega] at c1
        have b1 := hbd t' s
        have l1 := hlim t' s (by omega) (by omega)
        rw [if_neg (by omega)]
        unfold GJ_X12_laysMatch_7 GF_X12_matchAt
        rw [y8, ck_ok (by omega), ck_ok (by omega), if_neg (by omega), rdB15, y15, cp_ok, rdZ_at (111 * (p + 1) + q) (by omega) (by omega), c1, m_lesser y (by omega) (by omega), cp_ok]
        have e16 : mn 2000000000 ((cg : Int) + eS cg (pcS K Q tl nl) t' s) = (cg : Int) + eS cg (pcS K Q tl nl) t' s := by
          unfold mn
          split <;> omega
        rw [e16]
        unfold GJ_X12_laysMatch_6 GF_X12_matchAt
        rw [y38, ck_ok (by omega), ck_ok (by omega)]
        by_cases s0 : s = 0
        · subst s0
          rw [if_pos (by omega)]
          unfold GJ_X12_laysMatch_5
          rw [y8, y38, ck_ok (by omega), ck_ok (by omega), if_neg (by omega), ck_ok (by omega), ck_ok (by omega), if_pos (by omega)]
          refine fin _ ?_
          rw [eS_a0, eS_a0, mul_s]
          omega
        · obtain ⟨s', rfl⟩ : ∃ s', s = s' + 1 := ⟨s - 1, by omega⟩
          have c2 := hr (q + 1) (by omega) (by omega)
          rw [show Q - (q + 1) = s' by omega] at c2
          have c3 := hy (p + 1) (q + 1) (by omega) (by omega) (by omega)
          rw [show K - (p + 1) = t' by omega, show Q - (q + 1) = s' by omega] at c3
          have b2 := hbd (t' + 1) s'
          have b3 := hbd t' s'
          have l2 := hlim (t' + 1) s' (by omega) (by omega)
          have l3 := hlim t' s' (by omega) (by omega)
          have tp := htl p (by omega)
          have nq := hnl q (by omega)
          rw [if_neg (by omega), rdB15, y15, cp_ok, rdZ_at (111 * p + (q + 1)) (by omega) (by omega), c2, m_lesser y (by omega) (by omega), cp_ok]
          have b4 := mn_bd (x := (cg : Int) + eS cg (pcS K Q tl nl) t' (s' + 1)) (y := (cg : Int) + eS cg (pcS K Q tl nl) (t' + 1) s') (k := 60000) (by omega) (by omega)
          have abb : 0 ≤ ab (tl p - nl q) ∧ ab (tl p - nl q) ≤ 100 := by unfold ab; split <;> omega
          unfold GJ_X12_laysMatch_5 GF_X12_matchAt
          rw [y8, y38, ck_ok (by omega), ck_ok (by omega), if_neg (by omega), ck_ok (by omega), ck_ok (by omega), if_neg (by omega), m_pairCost hMy (by omega) (by omega), cp_ok, cp_ok, rdZ_at (111 * (p + 1) + (q + 1)) (by omega) (by omega), c3, m_lesser y (by omega) (by omega), cp_ok]
          refine fin _ ?_
          have epc : pcS K Q tl nl (t' + 1) (s' + 1) = 10 * ab (tl p - nl q) := by
            unfold pcS
            rw [show K - (t' + 1) = p by omega, show Q - (s' + 1) = q by omega]
          rw [eS_s, epc]
    · rintro ⟨w, y⟩ ⟨e1, hG, hy, hr⟩
      simp only at e1 hG hy hr
      subst e1
      dsimp only
      refine ⟨y, ?_, hG, hy, fun q hq => hr q (by omega) hq⟩
      unfold GB_X12_laysMatch_8
      rw [ck_ok (by omega), if_pos (by omega)]
    · rintro y ⟨hG, hy, hr⟩
      unfold GC_X12_laysMatch_9
      rw [lt_ok]
      refine ⟨_, rfl, by dsimp only; omega, hG, fun p' q h1 h2 h3 => ?_⟩
      by_cases c : p' = p
      · subst c
        rw [show K - p' = t by omega]
        exact hr q h3
      · exact hy p' q (by omega) h2 h3
  · rintro ⟨w, z⟩ ⟨e1, hF, hz⟩
    simp only at e1 hF hz
    subst e1
    dsimp only
    refine ⟨z, ?_, hF, fun p q h1 h2 => hz p q (by omega) h1 h2⟩
    unfold GB_X12_laysMatch_10
    rw [ck_ok (by omega), if_pos (by omega)]
/-- pairs, one after another -/
def fpS (K Q cg : Nat) (tl nl : Nat → Int) (p q0 w : Nat) : Bool := decide (q0 ≤ w) && decide (((cg : Int) * ((w : Int) - (q0 : Int)) + 10 * ab (tl p - nl w)) + eS cg (pcS K Q tl nl) (K - (p + 1)) (Q - (w + 1)) = eS cg (pcS K Q tl nl) (K - p) (Q - q0))
def pWS (K Q cg : Nat) (tl nl : Nat → Int) : Nat → Nat
  | 0 => 0
  | p + 1 => if ff (fpS K Q cg tl nl p (pWS K Q cg tl nl p)) Q = -1 then pWS K Q cg tl nl p else (ff (fpS K Q cg tl nl p (pWS K Q cg tl nl p)) Q).toNat + 1
def prS (K Q cg : Nat) (tl nl : Nat → Int) (p : Nat) : Int := ff (fpS K Q cg tl nl p (pWS K Q cg tl nl p)) Q
theorem pWS_le (K Q cg : Nat) (tl nl : Nat → Int) (p : Nat) : pWS K Q cg tl nl p ≤ Q := by
  induction p with
  | zero => exact Nat.zero_le _
  | succ p ih =>
    have := ff_r (fpS K Q cg tl nl p (pWS K Q cg tl nl p)) Q
    unfold pWS
    split
    · exact ih
    · omega
theorem p10_firstPair {g : uZ} {K Q cg p q0 : Nat} {tl nl : Nat → Int} (h : MCt g K Q cg tl nl) (hE : EC (cg : Int) (pcS K Q tl nl) K Q g) (hp : p < K) (hq0 : q0 ≤ Q) : GF_X10_firstPair (p : Int) (q0 : Int) g = some (ff (fpS K Q cg tl nl p q0) Q) := by
  obtain ⟨hK, hK12, hQ, hQ100, hc, hc500, htl, hnl⟩ := id h
  have hpn : ∀ a b, 0 ≤ pcS K Q tl nl a b := fun a b => by unfold pcS; have := ab_nn (tl (K - a) - nl (Q - b)); omega
  have hbd := eS_bd (c := (cg : Int)) (pc := pcS K Q tl nl) (by omega) hpn
  have hlim : ∀ a b, a ≤ K → b ≤ Q → (cg : Int) * ((a + b : Nat) : Int) ≤ 500 * 112 := fun a b h1 h2 => Int.mul_le_mul (by omega) (by omega) (by omega) (by omega)
  have : ∃ z, GF_X10_firstPair (p : Int) (q0 : Int) g = some z ∧ z = ff (fpS K Q cg tl nl p q0) Q := by
    unfold GF_X10_firstPair GF_X4_size
    rw [p0_15, cp_ok, cp_ok, hQ, p_min g (by decide) (by omega), cp_ok, hc]
    have e100 : (if (Q : Int) < 100 then (Q : Int) else 100) = (Q : Int) := by split <;> omega
    rw [e100]
    refine lp_wh (fun q => ∃ w : Nat, q = (w : Int) ∧ q0 ≤ w ∧ w ≤ Q ∧ ∀ j, j < w → fpS K Q cg tl nl p q0 j = false) (fun b => b = Sum.inl () ∧ (∀ j, j < Q → fpS K Q cg tl nl p q0 j = false) ∨ ∃ w : Nat, b = Sum.inr (w : Int) ∧ w < Q ∧ fpS K Q cg tl nl p q0 w = true ∧ ∀ j, j < w → fpS K Q cg tl nl p q0 j = false) (fun q => ((Q : Int) - q).toNat) ⟨q0, rfl, Nat.le_refl _, hq0, fun j hj => by unfold fpS; simp; intro h; omega⟩ (by omega) ?_ ?_
    · rintro q ⟨w, rfl, h1, h2, h3⟩
      unfold GB_X10_firstPair_2
      rw [ck_ok (by omega), ck_ok (by omega)]
      by_cases c : w = Q
      · right
        subst c
        rw [if_pos (by omega)]
        exact ⟨_, rfl, Or.inl ⟨rfl, h3⟩⟩
      · have tp := htl p hp
        have nq := hnl w (by omega)
        have c1 := hE (p + 1) (w + 1) (by omega) (by omega)
        have c2 := hE p q0 (by omega) (by omega)
        have b1 := hbd (K - (p + 1)) (Q - (w + 1))
        have b2 := hbd (K - p) (Q - q0)
        have l1 := hlim (K - (p + 1)) (Q - (w + 1)) (by omega) (by omega)
        have l2 := hlim (K - p) (Q - q0) (by omega) (by omega)
        have abb : 0 ≤ ab (tl p - nl w) ∧ ab (tl p - nl w) ≤ 100 := by unfold ab; split <;> omega
        have cb : 0 ≤ (cg : Int) * ((w : Int) - (q0 : Int)) ∧ (cg : Int) * ((w : Int) - (q0 : Int)) ≤ 500 * 100 := ⟨Int.mul_nonneg (by omega) (by omega), Int.mul_le_mul (by omega) (by omega) (by omega) (by omega)⟩
        rw [if_neg (by omega), p10_pairPrice (tl := tl) (nl := nl) (Q := Q) (by omega) tp.1 tp.2 hQ hQ100 (by omega) nq.1 nq.2, cp_ok, rdZ_at (101 * (p + 1) + (w + 1)) (by omega) (by omega), c1, lt_ok, rdZ_at (101 * p + q0) (by omega) (by omega), c2, ck_ok (by omega), ck_ok (by omega)]
        by_cases d : ((cg : Int) * ((w : Int) - (q0 : Int)) + 10 * ab (tl p - nl w)) + eS cg (pcS K Q tl nl) (K - (p + 1)) (Q - (w + 1)) = eS cg (pcS K Q tl nl) (K - p) (Q - q0)
        · right
          rw [if_pos d]
          exact ⟨_, rfl, Or.inr ⟨w, rfl, by omega, by unfold fpS; rw [decide_eq_true h1, decide_eq_true d]; rfl, h3⟩⟩
        · left
          rw [if_neg d, lt_ok]
          refine ⟨_, rfl, ⟨w + 1, by omega, by omega, by omega, fun j hj => ?_⟩, by omega⟩
          by_cases e : j = w
          · subst e
            unfold fpS
            rw [decide_eq_false d]
            simp
          · exact h3 j (by omega)
    · rintro b (⟨rfl, hall⟩ | ⟨w, rfl, h1, h2, h3⟩)
      · exact ⟨_, rfl, (ff_none hall).symm⟩
      · exact ⟨_, rfl, (ff_some h1 h2 h3).symm⟩
  obtain ⟨z, h1, rfl⟩ := this
  exact h1
theorem p10_findPairs {g : uZ} {K Q cg : Nat} {tl nl : Nat → Int} (h : MCt g K Q cg tl nl) : ∃ g', GF_X10_findPairs g = some g' ∧ EC (cg : Int) (pcS K Q tl nl) K Q g' ∧ ∀ p, p < K → g' 53 p = prS K Q cg tl nl p := by
  unfold GF_X10_findPairs
  obtain ⟨g1, h1, hE⟩ := p10_findLeast h
  have f1 : Fr [54] [] g g1 := fF_X10_findLeast Fr.rf h1
  have hc1 : MCt g1 K Q cg tl nl := f1.tra (fun q => MCt q K Q cg tl nl) h
  have hK12 := h.2.1
  rw [h1, cp_ok]
  refine lp_go (fun t z => z.1 = (pWS K Q cg tl nl t : Int) ∧ z.2.1 = (t : Int) ∧ Fr [53] [] g1 z.2.2 ∧ ∀ p, p < t → z.2.2 53 p = prS K Q cg tl nl p) (fun z => Fr [53] [] g1 z ∧ ∀ p, p < K → z 53 p = prS K Q cg tl nl p) K (by omega) ⟨rfl, rfl, Fr.rf, fun p hp => absurd hp (Nat.not_lt_zero _)⟩ ?_ ?_ (fun z hz => ⟨z, rfl, hz.1.tra (fun q => EC (cg : Int) (pcS K Q tl nl) K Q q) hE, hz.2⟩)
  · rintro t ⟨w2, w3, z⟩ ht ⟨e1, e2, hF, hz⟩
    simp only at e1 e2 hF hz
    subst e1 e2
    dsimp only
    have hcz : MCt z K Q cg tl nl := hF.tra (fun q => MCt q K Q cg tl nl) hc1
    have hEz : EC (cg : Int) (pcS K Q tl nl) K Q z := hF.tra (fun q => EC (cg : Int) (pcS K Q tl nl) K Q q) hE
    have hQ100 := h.2.2.2.1
    have r := ff_r (fpS K Q cg tl nl t (pWS K Q cg tl nl t)) Q
    have es : pWS K Q cg tl nl (t + 1) = if ff (fpS K Q cg tl nl t (pWS K Q cg tl nl t)) Q = -1 then pWS K Q cg tl nl t else (ff (fpS K Q cg tl nl t (pWS K Q cg tl nl t)) Q).toNat + 1 := rfl
    unfold GB_X10_findPairs_3 GJ_X10_findPairs_2
    rw [hcz.1, ck_ok (by omega), ck_ok (by omega), if_neg (by omega), p10_firstPair hcz hEz ht (pWS_le _ _ _ _ _ _), cp_ok, wrZ_at t rfl (by omega), rdZ_at t rfl (by omega), upZ_ss, ck_ok (by omega), rdZ_at t rfl (by omega), upZ_ss]
    have cell : ∀ p, p < t + 1 → upZ z 53 t (ff (fpS K Q cg tl nl t (pWS K Q cg tl nl t)) Q) 53 p = prS K Q cg tl nl p := fun p hp => by
      by_cases q : p = t
      · subst q
        rw [upZ_ss]
        rfl
      · rw [upZ_sn q]
        exact hz p (by omega)
    by_cases c : ff (fpS K Q cg tl nl t (pWS K Q cg tl nl t)) Q = -1
    · rw [if_pos c] at es
      rw [if_pos c, lt_ok]
      exact ⟨_, rfl, by dsimp only; rw [es], by dsimp only; omega, hF.wr (by decide), cell⟩
    · rw [if_neg c] at es
      rw [if_neg c, lt_ok]
      exact ⟨_, rfl, by dsimp only; rw [es]; omega, by dsimp only; omega, hF.wr (by decide), cell⟩
  · rintro ⟨w2, w3, z⟩ ⟨e1, e2, hF, hz⟩
    simp only at e1 e2 hF hz
    subst e1 e2
    dsimp only
    refine ⟨z, ?_, hF, hz⟩
    unfold GB_X10_findPairs_3
    rw [hF 51 5 (by decide) (by decide), hc1.1, ck_ok (by omega), ck_ok (by omega), if_pos (by omega)]
