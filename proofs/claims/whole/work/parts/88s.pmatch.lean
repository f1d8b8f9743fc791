/-! match: the least cost -/
theorem mul_s (c : Int) (b : Nat) : c * ((b + 1 : Nat) : Int) = c * (b : Int) + c := by
  rw [Int.natCast_add, Int.mul_add]
  simp
def mn (x y : Int) : Int := if y < x then y else x
def eRow (c : Int) (pc : Nat → Int) (prev : Nat → Int) (a : Nat) : Nat → Int
  | 0 => c * ((a + 1 : Nat) : Int)
  | b + 1 => mn (mn (c + prev (b + 1)) (c + eRow c pc prev a b)) (pc (b + 1) + prev b)
def eS (c : Int) (pc : Nat → Nat → Int) : Nat → Nat → Int
  | 0 => fun b => c * (b : Int)
  | a + 1 => eRow c (pc (a + 1)) (eS c pc a) a
theorem eS_0 (c : Int) (pc : Nat → Nat → Int) (b : Nat) : eS c pc 0 b = c * (b : Int) := rfl
theorem eS_a0 (c : Int) (pc : Nat → Nat → Int) (a : Nat) : eS c pc a 0 = c * (a : Int) := by
  cases a with
  | zero => rfl
  | succ a => rfl
theorem eS_s (c : Int) (pc : Nat → Nat → Int) (a b : Nat) : eS c pc (a + 1) (b + 1) = mn (mn (c + eS c pc a (b + 1)) (c + eS c pc (a + 1) b)) (pc (a + 1) (b + 1) + eS c pc a b) := rfl
theorem eS_bd {c : Int} {pc : Nat → Nat → Int} (hc : 0 ≤ c) (hp : ∀ a b, 0 ≤ pc a b) : ∀ a b, 0 ≤ eS c pc a b ∧ eS c pc a b ≤ c * ((a + b : Nat) : Int) := by
  intro a
  induction a with
  | zero =>
    intro b
    rw [eS_0, Nat.zero_add]
    exact ⟨Int.mul_nonneg hc (by omega), Int.le_refl _⟩
  | succ a ih =>
    intro b
    induction b with
    | zero =>
      rw [eS_a0, Nat.add_zero]
      exact ⟨Int.mul_nonneg hc (by omega), Int.le_refl _⟩
    | succ b ihb =>
      have h1 := ih (b + 1)
      have h2 := ihb
      have h3 := ih b
      have h4 := hp (a + 1) (b + 1)
      rw [eS_s]
      have e1 : c * ((a + 1 + (b + 1) : Nat) : Int) = c * ((a + (b + 1) : Nat) : Int) + c := by rw [show a + 1 + (b + 1) = (a + (b + 1)) + 1 by omega, mul_s]
      rw [e1]
      unfold mn
      split <;> split <;> omega
/-- the tables -/
def EC (c : Int) (pc : Nat → Nat → Int) (K Q : Nat) (g : uZ) : Prop := ∀ p q, p ≤ K → q ≤ Q → g 54 (101 * p + q) = eS c pc (K - p) (Q - q)
theorem p10_pairPrice {g : uZ} {p q Q : Nat} {nl : Nat → Int} {tl : Nat → Int} (hp : p < 12) (htl : g 52 p = tl p) (ht : 1 ≤ tl p ∧ tl p ≤ 48) (h38 : g 38 6 = (Q : Int)) (hQ : Q ≤ 100) (hq : q < Q) (hnl : g 41 q = nl q) (hn : 0 ≤ nl q ∧ nl q ≤ 50) : GF_X10_pairPrice (p : Int) (q : Int) g = some (10 * ab (tl p - nl q)) := by
  unfold GF_X10_pairPrice GF_X4_lagOf GJ_X4_lagOf_1
  rw [rdZ_at p rfl (by omega), p4_has h38 hQ (by omega), cp_ok, if_pos (by omega), ck_ok (by decide), if_neg (by decide), rdZ_at q rfl (by omega), cp_ok, htl, hnl, p_abs g (by omega), cp_ok]
theorem mn_bd {x y : Int} {k : Int} (h1 : 0 ≤ x ∧ x ≤ k) (h2 : 0 ≤ y) : 0 ≤ mn x y ∧ mn x y ≤ k := by
  unfold mn
  split <;> omega
theorem p_mn (g : uZ) {a b : Int} (ha : inR a) (hb : inR b) : GF_J9_min_7cf53 a b g = some (mn a b) := p_min g ha hb
def MCt (g : uZ) (K Q : Nat) (cg : Nat) (tl nl : Nat → Int) : Prop := g 51 5 = (K : Int) ∧ K ≤ 12 ∧ g 38 6 = (Q : Int) ∧ Q ≤ 100 ∧ g 5 15 = (cg : Int) ∧ cg ≤ 500 ∧ (∀ p, p < K → g 52 p = tl p ∧ 1 ≤ tl p ∧ tl p ≤ 48) ∧ ∀ q, q < Q → g 41 q = nl q ∧ 0 ≤ nl q ∧ nl q ≤ 50
def pcS (K Q : Nat) (tl nl : Nat → Int) (a b : Nat) : Int := 10 * ab (tl (K - a) - nl (Q - b))
theorem ab_nn (x : Int) : 0 ≤ ab x := by unfold ab; split <;> omega
theorem p10_findLeast {g : uZ} {K Q cg : Nat} {tl nl : Nat → Int} (h : MCt g K Q cg tl nl) : ∃ g', GF_X10_findLeast g = some g' ∧ EC (cg : Int) (pcS K Q tl nl) K Q g' := by
  obtain ⟨hK, hK12, hQ, hQ100, hc, hc500, htl, hnl⟩ := id h
  have hpn : ∀ a b, 0 ≤ pcS K Q tl nl a b := fun a b => by unfold pcS; have := ab_nn (tl (K - a) - nl (Q - b)); omega
  have hbd := eS_bd (c := (cg : Int)) (pc := pcS K Q tl nl) (by omega) hpn
  have hlim : ∀ a b, a ≤ K → b ≤ Q → (cg : Int) * ((a + b : Nat) : Int) ≤ 500 * 112 := fun a b h1 h2 => Int.mul_le_mul (by omega) (by omega) (by omega) (by omega)
  unfold GF_X10_findLeast GF_X4_size
  rw [p0_15, cp_ok, cp_ok, hQ, p_min g (by decide) (by omega), cp_ok, lt_ok, hK, hc]
  have e100 : (if (Q : Int) < 100 then (Q : Int) else 100) = (Q : Int) := by split <;> omega
  rw [e100]
  refine lp_go (fun t z => z.1 = (K : Int) - (t : Int) ∧ Fr [54] [] g z.2 ∧ ∀ p q, K < p + t → p ≤ K → q ≤ Q → z.2 54 (101 * p + q) = eS cg (pcS K Q tl nl) (K - p) (Q - q)) (fun z => ∀ p q, p ≤ K → q ≤ Q → z 54 (101 * p + q) = eS cg (pcS K Q tl nl) (K - p) (Q - q)) (K + 1) (by omega) ⟨by dsimp only; omega, Fr.rf, fun p q h1 h2 => by omega⟩ ?_ ?_ (fun z hz => ⟨z, rfl, hz⟩)
  · rintro t ⟨w, z⟩ ht ⟨e1, hF, hz⟩
    simp only at e1 hF hz
    subst e1
    dsimp only
    obtain ⟨p, hp⟩ : ∃ p, K = p + t := ⟨K - t, by omega⟩
    have ep : (K : Int) - (t : Int) = (p : Int) := by omega
    unfold GB_X10_findLeast_8
    rw [ep, ck_ok (by omega), if_neg (by omega)]
    refine lp_gi (fun s y => y.1 = (Q : Int) - (s : Int) ∧ Fr [54] [] g y.2 ∧ (∀ p' q, p < p' → p' ≤ K → q ≤ Q → y.2 54 (101 * p' + q) = eS cg (pcS K Q tl nl) (K - p') (Q - q)) ∧ ∀ q, Q < q + s → q ≤ Q → y.2 54 (101 * p + q) = eS cg (pcS K Q tl nl) t (Q - q)) (fun y => Fr [54] [] g y ∧ (∀ p' q, p < p' → p' ≤ K → q ≤ Q → y 54 (101 * p' + q) = eS cg (pcS K Q tl nl) (K - p') (Q - q)) ∧ ∀ q, q ≤ Q → y 54 (101 * p + q) = eS cg (pcS K Q tl nl) t (Q - q)) (Q + 1) (by omega) ⟨by dsimp only; omega, hF, fun p' q h1 h2 h3 => hz p' q (by omega) h2 h3, fun q h1 h2 => by omega⟩ ?_ ?_ ?_
    · rintro s ⟨w, y⟩ hs ⟨e1, hG, hy, hr⟩
      simp only at e1 hG hy hr
      subst e1
      dsimp only
      obtain ⟨q, hq⟩ : ∃ q, Q = q + s := ⟨Q - s, by omega⟩
      have eq : (Q : Int) - (s : Int) = (q : Int) := by omega
      have y51 : y 51 5 = (K : Int) := (hG 51 5 (by decide) (by decide)).trans hK
      have lim := hlim t s (by omega) (by omega)
      have b0 := hbd t s
      have fin : ∀ v : Int, v = eS cg (pcS K Q tl nl) t s → ∃ a', GJ_X10_findLeast_3 (p : Int) (q : Int) y v = some (Sum.inl a') ∧ a'.1 = (Q : Int) - ((s + 1 : Nat) : Int) ∧ Fr [54] [] g a'.2 ∧ (∀ p' q, p < p' → p' ≤ K → q ≤ Q → a'.2 54 (101 * p' + q) = eS cg (pcS K Q tl nl) (K - p') (Q - q)) ∧ ∀ q, Q < q + (s + 1) → q ≤ Q → a'.2 54 (101 * p + q) = eS cg (pcS K Q tl nl) t (Q - q) := by
        intro v hv
        unfold GJ_X10_findLeast_3
        rw [wrZ_at (101 * p + q) (by omega) (by omega), lt_ok]
        refine ⟨_, rfl, by dsimp only; omega, hG.wr (by decide), fun p' q' h1 h2 h3 => ?_, fun q' h1 h2 => ?_⟩
        · dsimp only
          rw [upZ_sn (by omega)]
          exact hy p' q' h1 h2 h3
        · dsimp only
          by_cases c : q' = q
          · subst c
            rw [upZ_ss, hv, show Q - q' = s by omega]
          · rw [upZ_sn (by omega)]
            exact hr q' (by omega) h2
      unfold GB_X10_findLeast_6
      rw [eq, ck_ok (by omega), if_neg (by omega), lt_ok, y51, ck_ok (by omega), ck_ok (by omega)]
      have ev13 : (cg : Int) * ((((K : Int) - (p : Int)) + (Q : Int)) - (q : Int)) = (cg : Int) * ((t + s : Nat) : Int) := by
        congr 1
        omega
      rw [ev13]
      have nn : 0 ≤ (cg : Int) * ((t + s : Nat) : Int) := Int.mul_nonneg (by omega) (by omega)
      by_cases t0 : t = 0
      · -- the last row
        subst t0
        rw [if_pos (by omega)]
        unfold GJ_X10_findLeast_5
        rw [ck_ok (by omega), ck_ok (by omega)]
        by_cases s0 : s = 0
        · subst s0
          rw [if_pos (by omega)]
          unfold GJ_X10_findLeast_4
          rw [y51, ck_ok (by omega), ck_ok (by omega), if_pos (by omega)]
          exact fin _ (by rw [eS_0])
        · obtain ⟨s', rfl⟩ : ∃ s', s = s' + 1 := ⟨s - 1, by omega⟩
          have c1 := hr (q + 1) (by omega) (by omega)
          rw [show Q - (q + 1) = s' by omega, eS_0] at c1
          have m1 := mul_s (cg : Int) s'
          rw [Nat.zero_add] at *
          have nn2 : 0 ≤ (cg : Int) * (s' : Int) := Int.mul_nonneg (by omega) (by omega)
          rw [if_neg (by omega), rdZ_at (101 * p + (q + 1)) (by omega) (by omega), c1, p_mn y (by omega) (by omega), cp_ok]
          unfold GJ_X10_findLeast_4
          rw [y51, ck_ok (by omega), ck_ok (by omega), if_pos (by omega)]
          exact fin _ (by rw [eS_0]; unfold mn; split <;> omega)
      · obtain ⟨t', rfl⟩ : ∃ t', t = t' + 1 := ⟨t - 1, by omega⟩
        have c1 := hy (p + 1) q (by omega) (by omega) (by omega)
        rw [show K - (p + 1) = t' by omega, show Q - q = s by omega] at c1
        have b1 := hbd t' s
        have l1 := hlim t' s (by omega) (by omega)
        have m1 : (cg : Int) * ((t' + 1 + s : Nat) : Int) = (cg : Int) * ((t' + s : Nat) : Int) + (cg : Int) := by rw [show t' + 1 + s = (t' + s) + 1 by omega, mul_s]
        rw [if_neg (by omega), rdZ_at (101 * (p + 1) + q) (by omega) (by omega), c1, p_mn y (by omega) (by omega), cp_ok]
        have e16 : mn ((cg : Int) * ((t' + 1 + s : Nat) : Int)) ((cg : Int) + eS cg (pcS K Q tl nl) t' s) = (cg : Int) + eS cg (pcS K Q tl nl) t' s := by
          unfold mn
          split <;> omega
        rw [e16]
        unfold GJ_X10_findLeast_5
        rw [ck_ok (by omega), ck_ok (by omega)]
        by_cases s0 : s = 0
        · subst s0
          rw [if_pos (by omega)]
          unfold GJ_X10_findLeast_4
          rw [y51, ck_ok (by omega), ck_ok (by omega), if_neg (by omega), ck_ok (by omega), ck_ok (by omega), if_pos (by omega)]
          refine fin _ ?_
          rw [eS_a0, eS_a0, mul_s]
          omega
        · obtain ⟨s', rfl⟩ : ∃ s', s = s' + 1 := ⟨s - 1, by omega⟩
          have c2 := hr (q + 1) (by omega) (by omega)
          rw [show Q - (q + 1) = s' by omega] at c2
          have c3 := hy (p + 1) (q + 1) (by omega) (by omega) (by omega)
          rw [show K - (p + 1) = t' by omega, show Q - (q + 1) = s' by omega] at c3
          have b2 := hbd (t' + 1) s'
          have b3 := hbd t' s'
          have l2 := hlim (t' + 1) s' (by omega) (by omega)
          have l3 := hlim t' s' (by omega) (by omega)
          have tp := htl p (by omega)
          have nq := hnl q (by omega)
          rw [if_neg (by omega), rdZ_at (101 * p + (q + 1)) (by omega) (by omega), c2, p_mn y (by omega) (by omega), cp_ok]
          have b4 := mn_bd (x := (cg : Int) + eS cg (pcS K Q tl nl) t' (s' + 1)) (y := (cg : Int) + eS cg (pcS K Q tl nl) (t' + 1) s') (k := 60000) (by omega) (by omega)
          have abb : 0 ≤ ab (tl p - nl q) ∧ ab (tl p - nl q) ≤ 100 := by unfold ab; split <;> omega
          unfold GJ_X10_findLeast_4
          rw [y51, ck_ok (by omega), ck_ok (by omega), if_neg (by omega), ck_ok (by omega), ck_ok (by omega), if_neg (by omega), p10_pairPrice (tl := tl) (nl := nl) (Q := Q) (by omega) (by rw [hG.f 52 (by decide) (by decide)]; exact tp.1) tp.2 ((hG 38 6 (by decide) (by decide)).trans hQ) hQ100 (by omega) (by rw [hG.f 41 (by decide) (by decide)]; exact nq.1) nq.2, cp_ok, rdZ_at (101 * (p + 1) + (q + 1)) (by omega) (by omega), c3, p_mn y (by omega) (by omega), cp_ok]
          refine fin _ ?_
          have epc : pcS K Q tl nl (t' + 1) (s' + 1) = 10 * ab (tl p - nl q) := by
            unfold pcS
            rw [show K - (t' + 1) = p by omega, show Q - (s' + 1) = q by omega]
          rw [eS_s, epc]
    · rintro ⟨w, y⟩ ⟨e1, hG, hy, hr⟩
      simp only at e1 hG hy hr
      subst e1
      dsimp only
      refine ⟨y, ?_, hG, hy, fun q hq => hr q (by omega) hq⟩
      unfold GB_X10_findLeast_6
      rw [ck_ok (by omega), if_pos (by omega)]
    · rintro y ⟨hG, hy, hr⟩
      unfold GC_X10_findLeast_7
      rw [lt_ok]
      refine ⟨_, rfl, by dsimp only; omega, hG, fun p' q h1 h2 h3 => ?_⟩
      by_cases c : p' = p
      · subst c
        rw [show K - p' = t by omega]
        exact hr q h3
      · exact hy p' q (by omega) h2 h3
  · rintro ⟨w, z⟩ ⟨e1, hF, hz⟩
    simp only at e1 hF hz
    subst e1
    dsimp only
    refine ⟨z, ?_, fun p q h1 h2 => hz p q (by omega) h1 h2⟩
    unfold GB_X10_findLeast_8
    rw [ck_ok (by omega), if_pos (by omega)]
