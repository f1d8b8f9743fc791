/-! calls gaps, rough, roughest, mean -/
theorem o_gaps {R : uZ → Prop} (hR : KpL exR R) {a : Int} (ha : inR a) : opT (IV R MKg) [(1, 1)] (GF_X11_gaps a) (GF_X12_gaps a) := by
  have hR' : Kp R := hR.kp (by decide)
  have hM' : Kp MKg := kM.kp (by decide)
  rintro g ⟨n, hI⟩
  have h9 : ∀ q : uZ, upZ q 55 9 0 55 9 = 0 := fun q => upZ_ss _ _ _ _
  by_cases hA : 0 ≤ a ∧ a ≤ 4
  · left
    obtain ⟨g1, h1, hI1, hP, ⟨cn, hm⟩, -⟩ := iv_findMarks hR hI
    obtain ⟨g2, h2, k9, hRl, c49, c88, -⟩ := iv_marks hI1 hP hm (fr9 g1 0)
    have mq := hm.q hP hI1.s hI1.n hI1.x hI1.b
    have h44 := hm.2.1
    generalize cn (nS (g1 24) (nfS (g1 5) n)) = C at *
    obtain ⟨e1, e2, e3, e4, e5, -⟩ := gaps_cl h44 mq hI1.s hI1.x
    have hr : RM g2 C (g1 47) (g1 48) := ⟨c49, c88⟩
    have hB : GF_X12_gaps a g1 = some (if a = 0 then (dbC (gpS C (g1 47) (g1 48)) C : Int) else if a = 1 then jtS (gpS C (g1 47) (g1 48)) C else if a = 2 then shS (gpS C (g1 47) (g1 48)) (fun c => g1 2 (g1 47 c).toNat) C else if a = 3 then lgG (gpS C (g1 47) (g1 48)) C else sgG (gpS C (g1 47) (g1 48)) C, g2) := by
      unfold GF_X12_gaps
      rw [pfZ_ok, m_isIn _ ha (by decide) (by decide), cp_ok, if_pos hA, m_right1 (h9 g1), clZ_ok, ck_ok (by decide), if_neg (by decide), h2, cp_ok, gaps_rf hr mq hRl.1.2.2.1 hI1.x]
      unfold GC_X12_gaps_8
      dsimp only
      rw [ck_ok ha]
      by_cases a0 : a = 0
      · rw [if_pos a0, if_pos a0]
      · rw [if_neg a0, if_neg a0]
        by_cases a1 : a = 1
        · rw [if_pos a1, if_pos a1]
        · rw [if_neg a1, if_neg a1]
          by_cases a2 : a = 2
          · rw [if_pos a2, if_pos a2]
          · rw [if_neg a2, if_neg a2]
            by_cases a3 : a = 3
            · rw [if_pos a3, if_pos a3]
            · rw [if_neg a3, if_neg a3]
    refine ⟨_, g1, g2, ?_, hB, k9.trans (h9 g1), n, hI1.fr hR' hM' (show Fr _ _ g1 g2 from fF_X12_gaps Fr.rf hB) (by decide) (by decide)⟩
    unfold GF_X11_gaps GJ_X11_gaps_2
    rw [ck_ok ha, if_neg (by omega), if_neg (by omega), ck_ok (by decide), if_neg (by decide), h1, cp_ok, ck_ok ha, e1, e2, e3, e4, e5, cp_ok, cp_ok, cp_ok, cp_ok, cp_ok]
    by_cases a0 : a = 0
    · rw [if_pos a0, if_pos a0]
    · rw [if_neg a0, if_neg a0]
      by_cases a1 : a = 1
      · rw [if_pos a1, if_pos a1]
      · rw [if_neg a1, if_neg a1]
        by_cases a2 : a = 2
        · rw [if_pos a2, if_pos a2]
        · rw [if_neg a2, if_neg a2]
          by_cases a3 : a = 3
          · rw [if_pos a3, if_pos a3]
          · rw [if_neg a3, if_neg a3]
  · right
    have hB : GF_X12_gaps a g = some (0, upZ (upZ g 55 9 0) 55 9 1) := by
      unfold GF_X12_gaps
      rw [pfZ_ok, m_isIn _ ha (by decide) (by decide), cp_ok, if_neg hA, m_right0 (h9 g) (Or.inl rfl), clZ_ok, ck_ok (by decide), if_pos rfl]
    refine ⟨(1, 1), by simp, _, g, _, ?_, hB, upZ_ss _ _ _ _, n, (hI.flag hR' hM' 0).flag hR' hM' 1⟩
    unfold GF_X11_gaps GJ_X11_gaps_1 GJ_X11_gaps_2
    rw [ck_ok ha]
    by_cases a0 : a < 0
    · rw [if_pos a0, ck_ok (by decide), if_pos rfl]
    · rw [if_neg a0, if_pos (by omega), ck_ok (by decide), if_pos rfl]
def rgF (x : Nat → Int) (n : Nat) (p q : Int) : Nat → Int
  | 0 => 0
  | k + 1 => rgF x n p q k + ab (atS x n (p + (k : Int)) - atS x n (q + (k : Int)))
def rgS (x : Nat → Int) (n C : Nat) (pl so : Nat → Int) (c : Nat) : Int := if gpS C pl so c = -1 then -1 else rgF x n (pl c) (pl (c + 1)) (gpS C pl so c).toNat
theorem atS_b {x : Nat → Int} (hx : XOk x) (n : Nat) (a : Int) : -128 ≤ atS x n a ∧ atS x n a ≤ 127 := by
  unfold atS
  split
  · exact hx _
  · omega
theorem rgF_b {x : Nat → Int} (hx : XOk x) (n : Nat) (p q : Int) : ∀ k, 0 ≤ rgF x n p q k ∧ rgF x n p q k ≤ 255 * (k : Int) := by
  intro k
  induction k with
  | zero => exact ⟨Int.le_refl _, Int.le_refl _⟩
  | succ k ih =>
    have h1 := atS_b hx n (p + (k : Int))
    have h2 := atS_b hx n (q + (k : Int))
    have h3 := ab_b (x := atS x n (p + (k : Int)) - atS x n (q + (k : Int))) (k := 255) (by omega)
    unfold rgF
    omega
theorem p3_rough {g : uZ} {n C c : Nat} (h44 : g 44 9 = (C : Int)) (h : MQd n C (g 47) (g 48)) (h1 : g 1 2 = (n : Int)) (hx : XOk (g 2)) (hc : c < C) : GF_X3_roughness (c : Int) g = some (rgS (g 2) n C (g 47) (g 48) c) := by
  have hC := h.2.1
  have hn := h.1
  unfold GF_X3_roughness rgS
  rw [p3_gap h44 h (by omega), cp_ok]
  rcases gp_b h c with ⟨w1, w2⟩ | ⟨w1, w2, w3, w4⟩
  · rw [w1, if_pos rfl]
    rw [lp_for (fun _ => ((0 : Int), (0 : Int))) 0 (0 : Int) (by rfl) (by omega) (fun i hi => by omega) (by
      dsimp only
      unfold GB_X3_roughness_2
      rw [ck_ok (by decide), ck_ok (by decide), if_pos (by decide)])]
    unfold GC_X3_roughness_3
    rw [ck_ok (by decide), lt_ok, if_pos rfl]
  · obtain ⟨G, hG⟩ : ∃ G : Nat, gpS C (g 47) (g 48) c = (G : Int) := ⟨(gpS C (g 47) (g 48) c).toNat, by omega⟩
    have b1 := (h.2.2.1 c hc).1
    have b2 := (h.2.2.1 (c + 1) w1.1).1
    have p1 := p3_at (c := c + 1) h44 hC w1.1
    rw [Int.natCast_add] at p1
    rw [hG, if_neg (by omega), Int.toNat_natCast]
    rw [lp_for (fun k => (rgF (g 2) n (g 47 c) (g 47 (c + 1)) k, (k : Int))) G (rgF (g 2) n (g 47 c) (g 47 (c + 1)) G) (by rfl) (by omega)]
    · unfold GC_X3_roughness_3
      rw [ck_ok (by omega), lt_ok, if_neg (by omega)]
    · intro k hk
      have h3 := atS_b hx n (g 47 c + (k : Int))
      have h4 := atS_b hx n (g 47 (c + 1) + (k : Int))
      dsimp only
      unfold GB_X3_roughness_2
      rw [ck_ok (by omega), ck_ok (by omega), if_neg (by omega), p3_at h44 hC hc, cp_ok, p7_at h1 hn (by omega), cp_ok, show ((c : Int) + 1) = (c : Int) + ((1 : Nat) : Int) from rfl, p1, cp_ok, p7_at h1 hn (by omega), cp_ok, p_abs g (by omega), cp_ok, lt_ok, lt_ok]
      rfl
    · dsimp only
      unfold GB_X3_roughness_2
      rw [ck_ok (by omega), ck_ok (by omega), if_pos (by omega)]
theorem m_at {g2 : uZ} {n : Nat} {x : Nat → Int} (h6 : g2 55 6 = (n : Int)) (hn : n ≤ 800) (h59 : g2 59 = x) {a : Int} (ha : inR a) : GF_X12_at a g2 = some (atS x n a) := by
  unfold GF_X12_at GJ_X12_at_1 atS
  rw [h6, m_isIn _ ha (by decide) (by omega), cp_ok]
  by_cases q : 0 ≤ a ∧ a < (n : Int)
  · rw [if_pos (by omega), ck_ok (by decide), if_neg (by decide), rdZ_ok q.1 (by omega), h59, if_pos q]
  · rw [if_neg (by omega), ck_ok (by decide), if_pos rfl, if_neg q]
theorem m_rough {g2 : uZ} {n C c : Nat} {pl so x : Nat → Int} (hr : RM g2 C pl so) (h : MQd n C pl so) (h6 : g2 55 6 = (n : Int)) (h59 : g2 59 = x) (hx : XOk x) (hc : c < C) : GF_X12_roughOf (c : Int) g2 = some (rgS x n C pl so c) := by
  have hC := h.2.1
  have hn := h.1
  unfold GF_X12_roughOf rgS
  rw [m_hasGap hr h (by omega), cp_ok]
  rcases gp_b h c with ⟨w1, w2⟩ | ⟨w1, w2, w3, w4⟩
  · rw [if_neg w2, ck_ok (by decide), if_pos rfl, if_pos w1]
  · obtain ⟨G, hG⟩ : ∃ G : Nat, gpS C pl so c = (G : Int) := ⟨(gpS C pl so c).toNat, by omega⟩
    have b1 := (h.2.2.1 c hc).1
    have b2 := (h.2.2.1 (c + 1) w1.1).1
    have go := m_gapOf (c := c) hr hC w1.1
    rw [← w2, hG] at go
    rw [if_pos w1, ck_ok (by decide), if_neg (by decide), hG, if_neg (by omega), Int.toNat_natCast]
    rw [lp_for (fun k => (rgF x n (pl c) (pl (c + 1)) k, (k : Int))) G (rgF x n (pl c) (pl (c + 1)) G) (by rfl) (by omega)]
    · rfl
    · intro k hk
      have h3 := atS_b hx n (pl c + (k : Int))
      have h4 := atS_b hx n (pl (c + 1) + (k : Int))
      dsimp only
      unfold GB_X12_roughOf_2
      rw [go, cp_ok, ck_ok (by omega), ck_ok (by omega), if_neg (by omega), rdZ_at c rfl (by omega), (hr.2 c hc).1, m_at h6 hn h59 (by omega), cp_ok, rdZ_at (c + 1) (by omega) (by omega), (hr.2 (c + 1) w1.1).1, m_at h6 hn h59 (by omega), cp_ok, m_apart g2 (by omega) (by omega), cp_ok, lt_ok, lt_ok]
      rfl
    · dsimp only
      unfold GB_X12_roughOf_2
      rw [go, cp_ok, ck_ok (by omega), ck_ok (by omega), if_pos (by omega)]
theorem rgS_b {x : Nat → Int} {n C : Nat} {pl so : Nat → Int} (hx : XOk x) (h : MQd n C pl so) (c : Nat) : -1 ≤ rgS x n C pl so c ∧ rgS x n C pl so c ≤ 300000 := by
  unfold rgS
  rcases gp_b h c with ⟨w1, w2⟩ | ⟨w1, w2, w3, w4⟩
  · rw [if_pos w1]; omega
  · have := rgF_b hx n (pl c) (pl (c + 1)) (gpS C pl so c).toNat
    rw [if_neg (by omega)]
    omega
theorem o_rough {R : uZ → Prop} (hR : KpL exR R) {a : Int} (ha : inR a) : opT (IV R MKg) [(1, 1)] (GF_X11_rough a) (GF_X12_rough a) := by
  have hR' : Kp R := hR.kp (by decide)
  have hM' : Kp MKg := kM.kp (by decide)
  rintro g ⟨n, hI⟩
  obtain ⟨g1, h1, hI1, hP, ⟨cn, hm⟩, -⟩ := iv_findMarks hR hI
  obtain ⟨g2, h2, k9, hRl, c49, c88, -⟩ := iv_marks hI1 hP hm (fr9 g1 0)
  have mq := hm.q hP hI1.s hI1.n hI1.x hI1.b
  have h44 := hm.2.1
  rw [upZ_ss] at k9
  generalize cn (nS (g1 24) (nfS (g1 5) n)) = C at *
  have hC := mq.2.1
  have hr : RM g2 C (g1 47) (g1 48) := ⟨c49, c88⟩
  have fin : ∀ (r : Int) (g3 : uZ), GF_X12_rough a g1 = some (r, g3) → IV R MKg g3 := fun r g3 e => ⟨n, hI1.fr hR' hM' (show Fr _ _ g1 g3 from fF_X12_rough Fr.rf e) (by decide) (by decide)⟩
  unfold GF_X11_rough
  rw [h1, cp_ok, p3_has h44 hC ha, cp_ok]
  by_cases hA : 0 ≤ a ∧ a < (C : Int)
  · left
    obtain ⟨c, rfl⟩ : ∃ c : Nat, a = (c : Int) := ⟨a.toNat, by omega⟩
    have hB : GF_X12_rough (c : Int) g1 = some (rgS (g1 2) n C (g1 47) (g1 48) c, g2) := by
      unfold GF_X12_rough GJ_X12_rough_1
      rw [pfZ_ok, h2, cp_ok, c49, m_isIn _ ha (by decide) (by omega), cp_ok, if_pos (by omega), m_right1 k9, clZ_ok, ck_ok (by decide), if_neg (by decide), m_rough hr mq hRl.1.1 hRl.1.2.2.1 hI1.x (by omega), cp_ok]
    rw [if_pos hA, ck_ok (by decide), if_neg (by decide), p3_rough h44 mq hI1.s hI1.x (by omega), cp_ok]
    exact ⟨_, g1, g2, rfl, hB, k9, fin _ _ hB⟩
  · right
    have hB : GF_X12_rough a g1 = some (0, upZ g2 55 9 1) := by
      unfold GF_X12_rough GJ_X12_rough_1
      rw [pfZ_ok, h2, cp_ok, c49, m_isIn _ ha (by decide) (by omega), cp_ok, if_neg (by omega), m_right0 k9 (Or.inl rfl), clZ_ok, ck_ok (by decide), if_pos rfl]
    rw [if_neg hA, ck_ok (by decide), if_pos rfl]
    exact ⟨(1, 1), by simp, _, g1, _, rfl, hB, upZ_ss _ _ _ _, fin _ _ hB⟩
def rsF (rg : Nat → Int) : Nat → Int × Int
  | 0 => (-1, -1)
  | t + 1 => if rg t ≤ (rsF rg t).2 then rsF rg t else ((t : Int), rg t)
theorem rsF_in {rg : Nat → Int} (h : ∀ c, -1 ≤ rg c) (t : Nat) : rsF rg t = (-1, -1) ∨ ∃ j : Nat, j < t ∧ rsF rg t = ((j : Int), rg j) ∧ 0 ≤ rg j := by
  induction t with
  | zero => exact Or.inl rfl
  | succ t ih =>
    have := h t
    have e : rsF rg (t + 1) = if rg t ≤ (rsF rg t).2 then rsF rg t else ((t : Int), rg t) := rfl
    rw [e]
    by_cases c : rg t ≤ (rsF rg t).2
    · rw [if_pos c]
      rcases ih with q | ⟨j, hj, q⟩
      · exact Or.inl q
      · exact Or.inr ⟨j, by omega, q⟩
    · rw [if_neg c]
      refine Or.inr ⟨t, by omega, rfl, ?_⟩
      rcases ih with q | ⟨j, hj, q, q2⟩
      · rw [q] at c
        dsimp only at c
        omega
      · rw [q] at c
        dsimp only at c
        omega
theorem o_roughest {R : uZ → Prop} (hR : KpL exR R) : opV (IV R MKg) GF_X11_roughest GF_X12_roughest := by
  have hR' : Kp R := hR.kp (by decide)
  have hM' : Kp MKg := kM.kp (by decide)
  rintro g ⟨n, hI⟩
  obtain ⟨g1, h1, hI1, hP, ⟨cn, hm⟩, -⟩ := iv_findMarks hR hI
  obtain ⟨g2, h2, k9, hRl, c49, c88, -⟩ := iv_marks hI1 hP hm (fr9 g1 0)
  have mq := hm.q hP hI1.s hI1.n hI1.x hI1.b
  have h44 := hm.2.1
  generalize cn (nS (g1 24) (nfS (g1 5) n)) = C at *
  have hC := mq.2.1
  have hr : RM g2 C (g1 47) (g1 48) := ⟨c49, c88⟩
  have rb := rgS_b hI1.x mq
  have rin := rsF_in (rg := rgS (g1 2) n C (g1 47) (g1 48)) (fun c => (rb c).1)
  have hB : GF_X12_roughest g1 = some ((rsF (rgS (g1 2) n C (g1 47) (g1 48)) C).1, g2) := by
    unfold GF_X12_roughest
    rw [pfZ_ok, h2, cp_ok]
    rw [lp_for (fun t => ((rsF (rgS (g1 2) n C (g1 47) (g1 48)) t).1, (t : Int))) C (rsF (rgS (g1 2) n C (g1 47) (g1 48)) C).1 (by rfl) (by omega)]
    · rfl
    · intro t ht
      have b := rb t
      have e : rsF (rgS (g1 2) n C (g1 47) (g1 48)) (t + 1) = if rgS (g1 2) n C (g1 47) (g1 48) t ≤ (rsF (rgS (g1 2) n C (g1 47) (g1 48)) t).2 then rsF (rgS (g1 2) n C (g1 47) (g1 48)) t else ((t : Int), rgS (g1 2) n C (g1 47) (g1 48) t) := rfl
      have ei : ((t + 1 : Nat) : Int) = (t : Int) + 1 := by omega
      dsimp only
      unfold GB_X12_roughest_4 GJ_X12_roughest_2 GJ_X12_roughest_3
      rw [c49, ck_ok (by omega), ck_ok (by omega), if_neg (by omega), m_rough hr mq hRl.1.1 hRl.1.2.2.1 hI1.x ht, cp_ok, ck_ok (by omega), e, ei]
      rcases rin t with q | ⟨j, hj, q, q2⟩
      · rw [q]
        dsimp only
        by_cases c : rgS (g1 2) n C (g1 47) (g1 48) t = -1
        · rw [if_pos c, lt_ok, if_pos (by omega)]
        · rw [if_neg c, ck_ok (by decide), if_pos rfl, lt_ok, if_neg (by omega)]
      · have bj := rb j
        rw [q]
        dsimp only
        by_cases c : rgS (g1 2) n C (g1 47) (g1 48) t = -1
        · rw [if_pos c, lt_ok, if_pos (by omega)]
        · rw [if_neg c, ck_ok (by omega), if_neg (by omega), cp_ok, m_rough hr mq hRl.1.1 hRl.1.2.2.1 hI1.x (show j < C by omega), cp_ok, ck_ok (by omega), ck_ok (by omega)]
          by_cases d : rgS (g1 2) n C (g1 47) (g1 48) t ≤ rgS (g1 2) n C (g1 47) (g1 48) j
          · rw [if_pos d, if_pos d, lt_ok]
          · rw [if_neg d, if_neg d, lt_ok]
    · dsimp only
      unfold GB_X12_roughest_4
      rw [c49, ck_ok (by omega), ck_ok (by omega), if_pos (by omega)]
  refine ⟨_, g1, g2, ?_, hB, n, hI1.fr hR' hM' (show Fr _ _ g1 g2 from fF_X12_roughest Fr.rf hB) (by decide) (by decide)⟩
  unfold GF_X11_roughest
  rw [h1, cp_ok]
  rw [lp_for (fun t => ((rsF (rgS (g1 2) n C (g1 47) (g1 48)) t).1, ((rsF (rgS (g1 2) n C (g1 47) (g1 48)) t).2, (t : Int)))) C (rsF (rgS (g1 2) n C (g1 47) (g1 48)) C).1 (by rfl) (by omega)]
  · rfl
  · intro t ht
    have b := rb t
    have e : rsF (rgS (g1 2) n C (g1 47) (g1 48)) (t + 1) = if rgS (g1 2) n C (g1 47) (g1 48) t ≤ (rsF (rgS (g1 2) n C (g1 47) (g1 48)) t).2 then rsF (rgS (g1 2) n C (g1 47) (g1 48)) t else ((t : Int), rgS (g1 2) n C (g1 47) (g1 48) t) := rfl
    have b2 : -1 ≤ (rsF (rgS (g1 2) n C (g1 47) (g1 48)) t).2 ∧ (rsF (rgS (g1 2) n C (g1 47) (g1 48)) t).2 ≤ 300000 := by
      rcases rin t with q | ⟨j, hj, q, q2⟩
      · rw [q]; decide
      · rw [q]; exact rb j
    dsimp only
    unfold GB_X11_roughest_3 GJ_X11_roughest_2 GF_X3_size
    rw [cp_ok, h44, ck_ok (by omega), ck_ok (by omega), if_neg (by omega), p3_rough h44 mq hI1.s hI1.x ht, cp_ok, ck_ok (by omega), ck_ok (by omega), e]
    by_cases d : rgS (g1 2) n C (g1 47) (g1 48) t ≤ (rsF (rgS (g1 2) n C (g1 47) (g1 48)) t).2
    · rw [if_pos d, if_pos d, lt_ok]; rfl
    · rw [if_neg d, if_neg d, lt_ok]; rfl
  · dsimp only
    unfold GB_X11_roughest_3 GF_X3_size
    rw [cp_ok, h44, ck_ok (by omega), ck_ok (by omega), if_pos (by omega)]
theorem o_mean {R : uZ → Prop} (hR : KpL exR R) {a : Int} (ha : inR a) : opT (IV R MKg) [(1, 1)] (GF_X11_mean a) (GF_X12_mean a) := by
  have hR' : Kp R := hR.kp (by decide)
  have hM' : Kp MKg := kM.kp (by decide)
  rintro g ⟨n, hI⟩
  obtain ⟨g1, h1, hI1, hP, ⟨cn, hm⟩, -⟩ := iv_findMarks hR hI
  obtain ⟨g2, h2, k9, hRl, c49, c88, -⟩ := iv_marks hI1 hP hm (fr9 g1 0)
  have mq := hm.q hP hI1.s hI1.n hI1.x hI1.b
  have h44 := hm.2.1
  rw [upZ_ss] at k9
  generalize cn (nS (g1 24) (nfS (g1 5) n)) = C at *
  have hC := mq.2.1
  have hr : RM g2 C (g1 47) (g1 48) := ⟨c49, c88⟩
  have gb := gp_b mq
  obtain ⟨e1, -, -, -, -, e6⟩ := gaps_cl h44 mq hI1.s hI1.x
  have dC := dbC_le (gpS C (g1 47) (g1 48)) C
  have sub : ∀ t, 2 * (dbC (gpS C (g1 47) (g1 48)) t : Int) ≤ suG (gpS C (g1 47) (g1 48)) t ∧ suG (gpS C (g1 47) (g1 48)) t ≤ 800 * (t : Int) := by
    intro t
    induction t with
    | zero => exact ⟨Int.le_refl 0, Int.le_refl 0⟩
    | succ t ih =>
      have x1 : dbC (gpS C (g1 47) (g1 48)) (t + 1) = dbC (gpS C (g1 47) (g1 48)) t + if gpS C (g1 47) (g1 48) t = -1 then 0 else 1 := rfl
      have x2 : suG (gpS C (g1 47) (g1 48)) (t + 1) = suG (gpS C (g1 47) (g1 48)) t + if gpS C (g1 47) (g1 48) t = -1 then 0 else gpS C (g1 47) (g1 48) t := rfl
      rw [x1, x2]
      rcases gb t with ⟨w1, w2⟩ | ⟨w1, w2, w3, w4⟩
      · rw [if_pos w1, if_pos w1]
        omega
      · rw [if_neg (by omega), if_neg (by omega)]
        omega
  have sC := sub C
  have lpr : ∀ {γ : Type} (k : Int × Int → Option γ), lp (fun z => GB_X12_mean_3 g2 z.1 z.2.1 z.2.2) (0, (0, 0)) k = k ((dbC (gpS C (g1 47) (g1 48)) C : Int), suG (gpS C (g1 47) (g1 48)) C) := by
    intro γ k
    rw [lp_for (fun t => ((dbC (gpS C (g1 47) (g1 48)) t : Int), (suG (gpS C (g1 47) (g1 48)) t, (t : Int)))) C ((dbC (gpS C (g1 47) (g1 48)) C : Int), suG (gpS C (g1 47) (g1 48)) C) (by rfl) (by omega)]
    · intro t ht
      have x1 : dbC (gpS C (g1 47) (g1 48)) (t + 1) = dbC (gpS C (g1 47) (g1 48)) t + if gpS C (g1 47) (g1 48) t = -1 then 0 else 1 := rfl
      have x2 : suG (gpS C (g1 47) (g1 48)) (t + 1) = suG (gpS C (g1 47) (g1 48)) t + if gpS C (g1 47) (g1 48) t = -1 then 0 else gpS C (g1 47) (g1 48) t := rfl
      have ei : ((t + 1 : Nat) : Int) = (t : Int) + 1 := by omega
      dsimp only
      unfold GB_X12_mean_3 GJ_X12_mean_2
      rw [c49, ck_ok (by omega), ck_ok (by omega), if_neg (by omega), m_hasGap hr mq (by omega), cp_ok, x1, x2, ei]
      rcases gb t with ⟨w1, w2⟩ | ⟨w1, w2, w3, w4⟩
      · rw [if_neg w2, ck_ok (by decide), lt_ok, if_pos rfl, lt_ok, cp_ok, ck_ok (by decide), if_pos rfl, lt_ok, lt_ok, if_pos w1, if_pos w1]
        rfl
      · have go := m_gapOf (c := t) hr hC w1.1
        rw [← w2] at go
        rw [if_pos w1, ck_ok (by decide), lt_ok, if_neg (by decide), lt_ok, cp_ok, ck_ok (by decide), if_neg (by decide), go, cp_ok, lt_ok, lt_ok, if_neg (by omega), if_neg (by omega)]
        rfl
    · dsimp only
      unfold GB_X12_mean_3
      rw [c49, ck_ok (by omega), ck_ok (by omega), if_pos (by omega)]
  have fin : ∀ (r : Int) (g3 : uZ), GF_X12_mean a g1 = some (r, g3) → IV R MKg g3 := fun r g3 e => ⟨n, hI1.fr hR' hM' (show Fr _ _ g1 g3 from fF_X12_mean Fr.rf e) (by decide) (by decide)⟩
  generalize hD : dbC (gpS C (g1 47) (g1 48)) C = D at *
  generalize hU : suG (gpS C (g1 47) (g1 48)) C = U at *
  unfold GF_X11_mean
  rw [h1, cp_ok, e1, cp_ok, ck_ok (by omega), lt_ok]
  by_cases hA : 0 < D
  · left
    obtain ⟨r, r1, r2⟩ := fr_low (g := g1) (g' := g2) (t := U) (b := (D : Int)) (c := a) (by omega) (by omega) (by omega) ha
    rw [if_pos (by omega)] at r1
    rw [if_pos (by omega), lt_ok, ck_ok ha] at r2
    have hB : GF_X12_mean a g1 = some (r, g2) := by
      unfold GF_X12_mean
      rw [pfZ_ok, h2, cp_ok, lpr]
      unfold GC_X12_mean_5
      dsimp only
      rw [ck_ok (by omega), lt_ok, if_neg (by omega), m_right1 k9, clZ_ok, ck_ok (by decide), if_neg (by decide), m_divisor (by omega) (by omega), cp_ok, ck_ok ha]
      exact r2
    rw [if_neg (by omega), ck_ok (by decide), if_neg (by decide), e6, cp_ok, cp_ok, r1, cp_ok]
    exact ⟨_, g1, g2, rfl, hB, k9, fin _ _ hB⟩
  · right
    have hB : GF_X12_mean a g1 = some (0, upZ g2 55 9 1) := by
      unfold GF_X12_mean
      rw [pfZ_ok, h2, cp_ok, lpr]
      unfold GC_X12_mean_5
      dsimp only
      rw [ck_ok (by omega), lt_ok, if_pos (by omega), m_right0 k9 (Or.inl rfl), clZ_ok, ck_ok (by decide), if_pos rfl]
    rw [if_pos (by omega), ck_ok (by decide), if_pos rfl]
    exact ⟨(1, 1), by simp, _, g1, _, rfl, hB, upZ_ss _ _ _ _, fin _ _ hB⟩
