/-! cycles, noise, bound -/
def cyS (a h k : Nat) : Int := (h : Int) - (2 * (h : Int) * ((k % a : Nat) : Int)) / (a : Int)
theorem cy_b {a h i : Nat} (ha : 2 ≤ a) (ha2 : a ≤ 48) (hh : h ≤ 127) (hi : i < a) : (0 ≤ 2 * (h : Int) * (i : Int) ∧ 2 * (h : Int) * (i : Int) ≤ 254 * 48) ∧ 0 ≤ (2 * (h : Int) * (i : Int)) / (a : Int) ∧ (2 * (h : Int) * (i : Int)) / (a : Int) ≤ 2 * (h : Int) := by
  have h0 : 0 ≤ 2 * (h : Int) * (i : Int) := Int.mul_nonneg (by omega) (by omega)
  have h1 : 2 * (h : Int) * (i : Int) ≤ 254 * 48 := Int.mul_le_mul (by omega) (by omega) (by omega) (by omega)
  have h2 : 2 * (h : Int) * (i : Int) ≤ 2 * (h : Int) * (a : Int) := Int.mul_le_mul_of_nonneg_left (by omega) (by omega)
  refine ⟨⟨h0, h1⟩, Int.ediv_nonneg h0 (by omega), ?_⟩
  have h3 := Int.ediv_le_ediv (c := (a : Int)) (by omega) h2
  rw [Int.mul_ediv_cancel _ (by omega)] at h3
  exact h3
theorem o_cycles {R M : uZ → Prop} (hR : Kp R) (hM : Kp M) {a b c : Int} (ha : inR a) (hb : inR b) (hc : inR c) : opV (IV R M) (GF_X11_cycles a b c) (GF_X12_cycles a b c) := by
  rintro g ⟨n, hI⟩
  have hn := hI.n
  obtain ⟨s1, s2, s3⟩ := hI.sz
  have e6 : upZ g 55 9 0 55 6 = (n : Int) := by rw [upZ_sn (by decide)]; exact s1
  have hht : GF_X11_isHeight b g = some (if 0 ≤ b ∧ b ≤ 127 then 1 else 0) := by
    unfold GF_X11_isHeight GJ_X11_isHeight_1 GJ_X11_isHeight_2
    rw [ck_ok hb]
    by_cases h0 : b < 0
    · rw [if_pos h0, bzZ_0, if_neg (by omega)]
    · rw [if_neg h0]
      by_cases h1 : 127 < b
      · rw [if_pos h1, bzZ_0, if_neg (by omega)]
      · rw [if_neg h1, bzZ_1, if_pos (by omega)]
  by_cases hA : ((2 ≤ a ∧ a ≤ 48) ∧ (0 ≤ b ∧ b ≤ 127) ∧ (1 ≤ c ∧ c ≤ 50)) ∧ (n : Int) + a * c ≤ 800
  · obtain ⟨p, rfl⟩ : ∃ p : Nat, a = (p : Int) := ⟨a.toNat, by omega⟩
    obtain ⟨h, rfl⟩ : ∃ h : Nat, b = (h : Int) := ⟨b.toNat, by omega⟩
    obtain ⟨r, rfl⟩ : ∃ r : Nat, c = (r : Int) := ⟨c.toNat, by omega⟩
    have epr : (p : Int) * (r : Int) = ((r * p : Nat) : Int) := by rw [Int.natCast_mul, Int.mul_comm]
    rw [epr] at hA
    have hrp : n + r * p ≤ 800 := by omega
    have src : ∀ t i, i < p → cyS p h (t * p + i) = (h : Int) - (2 * (h : Int) * (i : Int)) / (p : Int) := fun t i hi => by
      unfold cyS
      rw [Nat.add_comm, Nat.add_mul_mod_self_right, Nat.mod_eq_of_lt hi]
    have mono : ∀ t, t < r → t * p + p ≤ r * p := fun t ht => by
      have : (t + 1) * p ≤ r * p := Nat.mul_le_mul_right p ht
      rw [Nat.succ_mul] at this
      exact this
    obtain ⟨g7, g5, h7, c1, c2, f5, hcp, f7⟩ : ∃ g7 g5, lp (fun z => GB_X11_cycles_5 (p : Int) (h : Int) (r : Int) z.1 z.2) (0, g) (fun z => GC_X11_cycles_6 (n : Int) z) = some (((n + r * p : Nat) : Int), g7) ∧ g5 1 2 = ((n + r * p : Nat) : Int) ∧ g5 2 = apd (g 2) n (cyS p h) (r * p) ∧ Fr [2] [(1, 2), (1, 3)] g g5 ∧ CP (n + r * p) g7 ∧ Fr [10] [(0, 10), (0, 11), (0, 12)] g5 g7 := by
      obtain ⟨z5, ⟨y1, y2, y3⟩, e⟩ := lp_run (f := fun z => GB_X11_cycles_5 (p : Int) (h : Int) (r : Int) z.1 z.2) (a := ((0 : Int), g)) (k := fun z => GC_X11_cycles_6 (n : Int) z) (fun t z => z.1 = (t : Int) ∧ Fr [2] [(1, 2), (1, 3)] g z.2 ∧ z.2 1 2 = ((n + t * p : Nat) : Int) ∧ z.2 2 = apd (g 2) n (cyS p h) (t * p)) (fun z => Fr [2] [(1, 2), (1, 3)] g z ∧ z 1 2 = ((n + r * p : Nat) : Int) ∧ z 2 = apd (g 2) n (cyS p h) (r * p)) r (by omega) ⟨rfl, Fr.rf, by dsimp only; rw [Nat.zero_mul]; exact hI.s, by dsimp only; rw [Nat.zero_mul]; exact (apd_0 _ _ _).symm⟩ (by
        rintro t ⟨w, z⟩ ht ⟨e1, hF, z1, z2⟩
        simp only at e1 hF z1 z2
        subst e1
        dsimp only
        have hm := mono t ht
        unfold GB_X11_cycles_5
        rw [ck_ok (by omega), ck_ok (by omega), if_neg (by omega)]
        refine lp_gi (fun i y => y.1 = (i : Int) ∧ Fr [2] [(1, 2), (1, 3)] g y.2 ∧ y.2 1 2 = ((n + (t * p + i) : Nat) : Int) ∧ y.2 2 = apd (g 2) n (cyS p h) (t * p + i)) (fun y => Fr [2] [(1, 2), (1, 3)] g y ∧ y 1 2 = ((n + (t * p + p) : Nat) : Int) ∧ y 2 = apd (g 2) n (cyS p h) (t * p + p)) p (by omega) ⟨rfl, hF, z1, z2⟩ ?_ ?_ ?_
        · rintro i ⟨w, y⟩ hi ⟨e1, hG, y1, y2⟩
          simp only at e1 hG y1 y2
          subst e1
          dsimp only
          have cb := cy_b (a := p) (h := h) (i := i) (by omega) (by omega) (by omega) hi
          obtain ⟨y', q1, q2, q3⟩ := p7_append (v := (h : Int) - (2 * (h : Int) * (i : Int)) / (p : Int)) y1 y2 (by omega) (src t i hi).symm
          unfold GB_X11_cycles_3
          rw [ck_ok (by omega), ck_ok (by omega), if_neg (by omega), p_quot y (by omega) (by omega) (by omega), cp_ok, q1, cp_ok, lt_ok]
          exact ⟨_, rfl, by dsimp only; omega, hG.tr (fF_X7_append Fr.rf q1) (by decide) (by decide), q2, q3⟩
        · rintro ⟨w, y⟩ ⟨e1, hG, y1, y2⟩
          simp only at e1 hG y1 y2
          subst e1
          dsimp only
          refine ⟨y, ?_, hG, y1, y2⟩
          unfold GB_X11_cycles_3
          rw [ck_ok (by omega), ck_ok (by omega), if_pos (by omega)]
        · rintro y ⟨hG, y1, y2⟩
          unfold GC_X11_cycles_4
          rw [lt_ok]
          exact ⟨_, rfl, by dsimp only; omega, hG, by dsimp only; rw [Nat.succ_mul]; exact y1, by dsimp only; rw [Nat.succ_mul]; exact y2⟩) (by
        rintro ⟨w, z⟩ ⟨e1, hF, z1, z2⟩
        simp only at e1 hF z1 z2
        subst e1
        dsimp only
        refine ⟨z, ?_, hF, z1, z2⟩
        unfold GB_X11_cycles_5
        rw [ck_ok (by omega), ck_ok (by omega), if_pos (by omega)])
      obtain ⟨g7, h7, hcp, f7⟩ := p11_grown hI hrp (fun j hj => by
        have q := cy_b (a := p) (h := h) (i := j % p) (by omega) (by omega) (by omega) (Nat.mod_lt _ (by omega))
        unfold cyS
        omega) y1 y2 y3
      refine ⟨g7, z5, ?_, y2, y3, y1, hcp, f7⟩
      rw [e]
      unfold GC_X11_cycles_6 GF_X7_size
      rw [cp_ok, y2, h7, clZ_ok]
    have f57 : Fr [2, 10] [(0, 10), (0, 11), (0, 12), (1, 2), (1, 3)] g g7 := ((Fr.rf (L := [2, 10]) (M := [(0, 10), (0, 11), (0, 12), (1, 2), (1, 3)])).tr f5 (by decide) (by decide)).tr f7 (by decide) (by decide)
    have k6 : upZ g7 55 9 0 55 6 = (n : Int) := by rw [upZ_sn (by decide), f57 55 6 (by decide) (by decide)]; exact s1
    have k59 : upZ g7 55 9 0 59 = g 2 := by rw [upZ_n (by decide), f57.f 59 (by decide) (by decide)]; exact s2
    obtain ⟨⟨q, g9⟩, h9, d0, d1, d2⟩ : ∃ z, lp (fun z => GB_X12_cycles_5 (p : Int) (h : Int) (r : Int) z.1 z.2) (0, upZ g7 55 9 0) (fun z => GC_X12_cycles_6 z) = some z ∧ z.1 = ((n + r * p : Nat) : Int) ∧ z.2 55 6 = ((n + r * p : Nat) : Int) ∧ z.2 59 = apd (g 2) n (cyS p h) (r * p) := by
      refine lp_go (fun t z => z.1 = (t : Int) ∧ z.2 55 6 = ((n + t * p : Nat) : Int) ∧ z.2 59 = apd (g 2) n (cyS p h) (t * p)) (fun z => z 55 6 = ((n + r * p : Nat) : Int) ∧ z 59 = apd (g 2) n (cyS p h) (r * p)) r (by omega) ⟨rfl, by dsimp only; rw [Nat.zero_mul]; exact k6, by dsimp only; rw [k59, Nat.zero_mul]; exact (apd_0 _ _ _).symm⟩ ?_ ?_ (fun z hz => ⟨_, rfl, hz.1, hz.1, hz.2⟩)
      · rintro t ⟨w, z⟩ ht ⟨e1, z1, z2⟩
        simp only at e1 z1 z2
        subst e1
        dsimp only
        have hm := mono t ht
        unfold GB_X12_cycles_5
        rw [ck_ok (by omega), ck_ok (by omega), if_neg (by omega)]
        refine lp_gi (fun i y => y.1 = (i : Int) ∧ y.2 55 6 = ((n + (t * p + i) : Nat) : Int) ∧ y.2 59 = apd (g 2) n (cyS p h) (t * p + i)) (fun y => y 55 6 = ((n + (t * p + p) : Nat) : Int) ∧ y 59 = apd (g 2) n (cyS p h) (t * p + p)) p (by omega) ⟨rfl, z1, z2⟩ ?_ ?_ ?_
        · rintro i ⟨w, y⟩ hi ⟨e1, y1, y2⟩
          simp only at e1 y1 y2
          subst e1
          dsimp only
          have cb := cy_b (a := p) (h := h) (i := i) (by omega) (by omega) (by omega) hi
          obtain ⟨y', q1, q2, q3⟩ := m_adds (v := (h : Int) - (2 * (h : Int) * (i : Int)) / (p : Int)) y1 y2 (by omega) (src t i hi).symm
          unfold GB_X12_cycles_3
          rw [ck_ok (by omega), ck_ok (by omega), if_neg (by omega), dvZ_ok (by omega) (by omega) (by omega), Int.tdiv_eq_ediv_of_nonneg cb.1.1, q1, cp_ok, lt_ok]
          exact ⟨_, rfl, by dsimp only; omega, q2, q3⟩
        · rintro ⟨w, y⟩ ⟨e1, y1, y2⟩
          simp only at e1 y1 y2
          subst e1
          dsimp only
          refine ⟨y, ?_, y1, y2⟩
          unfold GB_X12_cycles_3
          rw [ck_ok (by omega), ck_ok (by omega), if_pos (by omega)]
        · rintro y ⟨y1, y2⟩
          unfold GC_X12_cycles_4
          rw [lt_ok]
          exact ⟨_, rfl, by dsimp only; omega, by dsimp only; rw [Nat.succ_mul]; exact y1, by dsimp only; rw [Nat.succ_mul]; exact y2⟩
      · rintro ⟨w, z⟩ ⟨e1, z1, z2⟩
        simp only at e1 z1 z2
        subst e1
        dsimp only
        refine ⟨z, ?_, z1, z2⟩
        unfold GB_X12_cycles_5
        rw [ck_ok (by omega), ck_ok (by omega), if_pos (by omega)]
    simp only at d0 d1 d2
    have hB : GF_X12_cycles (p : Int) (h : Int) (r : Int) g7 = some (((n + r * p : Nat) : Int), g9) := by
      unfold GF_X12_cycles
      rw [pfZ_ok, m_isIn _ ha (by decide) (by decide), cp_ok, if_pos hA.1.1, ck_ok (by decide), if_neg (by decide), m_isIn _ hb (by decide) (by decide), cp_ok, if_pos hA.1.2.1, ck_ok (by decide), if_neg (by decide), m_isIn _ hc (by decide) (by decide), cp_ok, if_pos hA.1.2.2, ck_ok (by decide), if_neg (by decide), k6, epr, ck_ok (by omega), if_pos hA.2, h9, d0]
    have hAA : GF_X11_cycles (p : Int) (h : Int) (r : Int) g = some (((n + r * p : Nat) : Int), g7) := by
      unfold GF_X11_cycles GF_X7_size
      rw [ck_ok ha, if_neg (by omega), if_neg (by omega), hht, cp_ok, if_pos hA.1.2.1, ck_ok (by decide), if_neg (by decide), ck_ok hc, if_neg (by omega), if_neg (by omega), epr, p7_room hI.s (by omega), cp_ok, if_neg (by omega), ck_ok (by decide), if_neg (by decide), cp_ok, hI.s, h7]
    have fA : Fr [2, 10] [(0, 10), (0, 11), (0, 12), (1, 2)] g g7 := fF_X11_cycles Fr.rf hAA
    refine ⟨_, g7, g9, hAA, hB, ?_⟩
    · have f9 : Fr [59] [(55, 6), (55, 9)] g7 g9 := fF_X12_cycles Fr.rf hB
      have f97 : Fr [2, 10, 59] [(0, 10), (0, 11), (0, 12), (1, 2), (55, 6), (55, 9)] g g9 := ((Fr.rf (L := [2, 10, 59]) (M := [(0, 10), (0, 11), (0, 12), (1, 2), (55, 6), (55, 9)])).tr fA (by decide) (by decide)).tr f9 (by decide) (by decide)
      exact grown_iv hI f5 c2 hcp f7 f9 (by decide) d1 d2 (f97.tra TT hI.2.2.2.2.2.2.2)
  · have hac : 2 ≤ a → a ≤ 48 → 1 ≤ c → c ≤ 50 → 0 ≤ a * c ∧ a * c ≤ 48 * 50 := fun h1 h2 h3 h4 => ⟨Int.mul_nonneg (by omega) (by omega), Int.mul_le_mul (by omega) (by omega) (by omega) (by omega)⟩
    have hB : GF_X12_cycles a b c g = some (-1000, upZ g 55 9 0) := by
      unfold GF_X12_cycles GJ_X12_cycles_7
      rw [pfZ_ok, m_isIn _ ha (by decide) (by decide), cp_ok]
      by_cases q1 : 2 ≤ a ∧ a ≤ 48
      · rw [if_pos q1, ck_ok (by decide), if_neg (by decide), m_isIn _ hb (by decide) (by decide), cp_ok]
        by_cases q2 : 0 ≤ b ∧ b ≤ 127
        · rw [if_pos q2, ck_ok (by decide), if_neg (by decide), m_isIn _ hc (by decide) (by decide), cp_ok]
          by_cases q3 : 1 ≤ c ∧ c ≤ 50
          · have := hac q1.1 q1.2 q3.1 q3.2
            rw [if_pos q3, ck_ok (by decide), if_neg (by decide), e6, ck_ok (by omega), if_neg (fun q4 => hA ⟨⟨q1, q2, q3⟩, q4⟩)]
          · rw [if_neg q3, ck_ok (by decide), if_pos rfl]
        · rw [if_neg q2, ck_ok (by decide), if_pos rfl]
      · rw [if_neg q1, ck_ok (by decide), if_pos rfl]
    refine ⟨_, g, _, ?_, hB, n, hI.flag hR hM 0⟩
    unfold GF_X11_cycles GJ_X11_cycles_7
    rw [ck_ok ha]
    by_cases q1 : a < 2
    · rw [if_pos q1]
    · rw [if_neg q1]
      by_cases q1' : 48 < a
      · rw [if_pos q1']
      · rw [if_neg q1', hht, cp_ok]
        by_cases q2 : 0 ≤ b ∧ b ≤ 127
        · rw [if_pos q2, ck_ok (by decide), if_neg (by decide), ck_ok hc]
          by_cases q3 : c < 1
          · rw [if_pos q3]
          · rw [if_neg q3]
            by_cases q3' : 50 < c
            · rw [if_pos q3']
            · have := hac (by omega) (by omega) (by omega) (by omega)
              rw [if_neg q3', p7_room hI.s (by omega), cp_ok]
              have q4 : ¬ (n : Int) + a * c ≤ 800 := fun q4 => hA ⟨⟨⟨by omega, by omega⟩, q2, by omega, by omega⟩, q4⟩
              rw [if_pos (show 800 < (n : Int) + a * c by omega), ck_ok (by decide), if_pos rfl]
        · rw [if_neg q2, ck_ok (by decide), if_pos rfl]
def lcS (a : Int) : Nat → Int
  | 0 => a
  | k + 1 => lcS a k * 1103515245 + 12345
def drS (v : Int) : Int := (((((zI v).toUInt32) >>> ((Int32.toUInt32 ((16 : Int32))) &&& (Int32.toUInt32 ((31 : Int32))))).toInt32) &&& ((32767 : Int32))).toInt
theorem and15 (x : Int32) : (x &&& 32767).toInt = x.toInt % 32768 := by
  have h1 : (x &&& 32767).toBitVec.toNat = x.toBitVec.toNat % 32768 := by
    rw [Int32.toBitVec_and, BitVec.toNat_and]
    exact Nat.and_two_pow_sub_one_eq_mod x.toBitVec.toNat 15
  have h2 : (x &&& 32767).toInt = ((x &&& 32767).toBitVec.toNat : Int) := by
    show (x &&& 32767).toBitVec.toInt = _
    rw [BitVec.toInt_eq_toNat_cond, if_pos (by rw [h1]; omega)]
  rw [h2, h1]
  show _ = x.toBitVec.toInt % 32768
  rw [BitVec.toInt_eq_toNat_cond]
  split <;> omega
theorem drS_b (v : Int) : 0 ≤ drS v ∧ drS v ≤ 32767 := by
  unfold drS
  rw [and15]
  omega
def nzS (a : Int) (h k : Nat) : Int := Int.tmod (drS (lcS a (k + 1))) (2 * (h : Int) + 1) - (h : Int)
theorem nz_b (a : Int) (h k : Nat) : -(h : Int) ≤ nzS a h k ∧ nzS a h k ≤ (h : Int) := by
  have d := drS_b (lcS a (k + 1))
  have h1 := Int.tmod_nonneg (2 * (h : Int) + 1) d.1
  have h2 := Int.tmod_lt_of_pos (drS (lcS a (k + 1))) (show 0 < 2 * (h : Int) + 1 by omega)
  unfold nzS
  omega
theorem o_noise {R M : uZ → Prop} (hR : Kp R) (hM : Kp M) {a b c : Int} (ha : inR a) (hb : inR b) (hc : inR c) : opV (IV R M) (GF_X11_noise a b c) (GF_X12_noise a b c) := by
  rintro g ⟨n, hI⟩
  have hn := hI.n
  obtain ⟨s1, s2, s3⟩ := hI.sz
  have e6 : upZ g 55 9 0 55 6 = (n : Int) := by rw [upZ_sn (by decide)]; exact s1
  have hht : GF_X11_isHeight c g = some (if 0 ≤ c ∧ c ≤ 127 then 1 else 0) := by
    unfold GF_X11_isHeight GJ_X11_isHeight_1 GJ_X11_isHeight_2
    rw [ck_ok hc]
    by_cases h0 : c < 0
    · rw [if_pos h0, bzZ_0, if_neg (by omega)]
    · rw [if_neg h0]
      by_cases h1 : 127 < c
      · rw [if_pos h1, bzZ_0, if_neg (by omega)]
      · rw [if_neg h1, bzZ_1, if_pos (by omega)]
  by_cases hA : ((1 ≤ b ∧ b ≤ 400) ∧ (0 ≤ c ∧ c ≤ 127)) ∧ (n : Int) + b ≤ 800
  · obtain ⟨r, rfl⟩ : ∃ r : Nat, b = (r : Int) := ⟨b.toNat, by omega⟩
    obtain ⟨h, rfl⟩ : ∃ h : Nat, c = (h : Int) := ⟨c.toNat, by omega⟩
    obtain ⟨z5, ⟨y1, y2, y3⟩, e⟩ := lp_run (f := fun z => GB_X11_noise_2 (r : Int) (h : Int) z.1 z.2.1 z.2.2) (a := (a, ((0 : Int), g))) (k := fun z => GC_X11_noise_3 (n : Int) z) (fun t z => z.1 = lcS a t ∧ z.2.1 = (t : Int) ∧ Fr [2] [(1, 2), (1, 3)] g z.2.2 ∧ z.2.2 1 2 = ((n + t : Nat) : Int) ∧ z.2.2 2 = apd (g 2) n (nzS a h) t) (fun z => Fr [2] [(1, 2), (1, 3)] g z ∧ z 1 2 = ((n + r : Nat) : Int) ∧ z 2 = apd (g 2) n (nzS a h) r) r (by omega) ⟨rfl, rfl, Fr.rf, hI.s, (apd_0 _ _ _).symm⟩ (by
      rintro t ⟨l, w, z⟩ ht ⟨e0, e1, hF, z1, z2⟩
      simp only at e0 e1 hF z1 z2
      subst e0 e1
      dsimp only
      have d := drS_b (lcS a (t + 1))
      obtain ⟨z', q1, q2, q3⟩ := p7_append (v := nzS a h t) z1 z2 (by omega) rfl
      unfold GB_X11_noise_2
      rw [ck_ok (by omega), ck_ok (by omega), if_neg (by omega), lt_ok]
      refine ⟨(lcS a (t + 1), (((t : Int) + 1), z')), ?_, rfl, by dsimp only; omega, hF.tr (fF_X7_append Fr.rf q1) (by decide) (by decide), q2, q3⟩
      refine (rmdZ_ok (show inR (drS (lcS a (t + 1))) by omega) (by omega) (by omega)).trans ?_
      show (cp (GF_X7_append (nzS a h t) z) _) = _
      rw [q1, cp_ok, lt_ok]
      rfl) (by
      rintro ⟨l, w, z⟩ ⟨e0, e1, hF, z1, z2⟩
      simp only at e0 e1 hF z1 z2
      subst e0 e1
      dsimp only
      refine ⟨z, ?_, hF, z1, z2⟩
      unfold GB_X11_noise_2
      rw [ck_ok (by omega), ck_ok (by omega), if_pos (by omega)])
    obtain ⟨g7, h7, hcp, f7⟩ := p11_grown hI (by omega) (fun j _ => by have := nz_b a h j; omega) y1 y2 y3
    have hAA : GF_X11_noise a (r : Int) (h : Int) g = some (((n + r : Nat) : Int), g7) := by
      unfold GF_X11_noise GF_X7_size
      rw [ck_ok hb, if_neg (by omega), if_neg (by omega), hht, cp_ok, if_pos hA.1.2, ck_ok (by decide), if_neg (by decide), p7_room hI.s (by omega), cp_ok, if_neg (by omega), ck_ok (by decide), if_neg (by decide), cp_ok, hI.s, e]
      unfold GC_X11_noise_3 GF_X7_size
      rw [cp_ok, y2, h7, clZ_ok]
    have fA : Fr [2, 10] [(0, 10), (0, 11), (0, 12), (1, 2)] g g7 := fF_X11_noise Fr.rf hAA
    have k6 : upZ g7 55 9 0 55 6 = (n : Int) := by rw [upZ_sn (by decide), fA 55 6 (by decide) (by decide)]; exact s1
    have k59 : upZ g7 55 9 0 59 = g 2 := by rw [upZ_n (by decide), fA.f 59 (by decide) (by decide)]; exact s2
    obtain ⟨⟨q, g9⟩, h9, d0, d1, d2⟩ : ∃ z, lp (fun z => GB_X12_noise_2 (r : Int) (h : Int) z.1 z.2) (0, upZ (upZ g7 55 9 0) 55 10 a) (fun z => GC_X12_noise_3 z) = some z ∧ z.1 = ((n + r : Nat) : Int) ∧ z.2 55 6 = ((n + r : Nat) : Int) ∧ z.2 59 = apd (g 2) n (nzS a h) r := by
      refine lp_go (fun t z => z.1 = (t : Int) ∧ z.2 55 10 = lcS a t ∧ z.2 55 6 = ((n + t : Nat) : Int) ∧ z.2 59 = apd (g 2) n (nzS a h) t) (fun z => z 55 6 = ((n + r : Nat) : Int) ∧ z 59 = apd (g 2) n (nzS a h) r) r (by omega) ⟨rfl, by dsimp only; rw [upZ_ss]; rfl, by dsimp only; rw [upZ_sn (by decide)]; exact k6, by dsimp only; rw [upZ_n (by decide), k59]; exact (apd_0 _ _ _).symm⟩ ?_ ?_ (fun z hz => ⟨_, rfl, hz.1, hz.1, hz.2⟩)
      · rintro t ⟨w, z⟩ ht ⟨e1, z0, z1, z2⟩
        simp only at e1 z0 z1 z2
        subst e1
        dsimp only
        have d := drS_b (lcS a (t + 1))
        obtain ⟨z', q1, q2, q3⟩ := m_adds (g := upZ z 55 10 (lcS a (t + 1))) (x := g 2) (n := n) (t := t) (s := nzS a h) (v := nzS a h t) (by rw [upZ_sn (by decide)]; exact z1) (by rw [upZ_n (by decide)]; exact z2) (by omega) rfl
        have fq : Fr [59] [(55, 6)] (upZ z 55 10 (lcS a (t + 1))) z' := fF_X12_adds Fr.rf q1
        have hdraw : GF_X12_draw (2 * (h : Int) + 1) z = some (Int.tmod (drS (lcS a (t + 1))) (2 * (h : Int) + 1), upZ z 55 10 (lcS a (t + 1))) := by
          unfold GF_X12_draw
          rw [pfZ_ok, z0, upZ_ss]
          exact rmdZ_ok (show inR (drS (lcS a (t + 1))) by omega) (by omega) (by omega)
        unfold GB_X12_noise_2
        rw [ck_ok (by omega), ck_ok (by omega), if_neg (by omega), hdraw, clZ_ok]
        refine ⟨(((t : Int) + 1), z'), ?_, by dsimp only; omega, ?_, q2, q3⟩
        · show (cp (GF_X12_adds (nzS a h t) _) _) = _
          rw [q1, cp_ok, lt_ok]
        · dsimp only
          rw [fq 55 10 (by decide) (by decide), upZ_ss]
      · rintro ⟨w, z⟩ ⟨e1, z0, z1, z2⟩
        simp only at e1 z0 z1 z2
        subst e1
        dsimp only
        refine ⟨z, ?_, z1, z2⟩
        unfold GB_X12_noise_2
        rw [ck_ok (by omega), ck_ok (by omega), if_pos (by omega)]
    simp only at d0 d1 d2
    have hB : GF_X12_noise a (r : Int) (h : Int) g7 = some (((n + r : Nat) : Int), g9) := by
      unfold GF_X12_noise
      rw [pfZ_ok, m_isIn _ hb (by decide) (by decide), cp_ok, if_pos hA.1.1, ck_ok (by decide), if_neg (by decide), m_isIn _ hc (by decide) (by decide), cp_ok, if_pos hA.1.2, ck_ok (by decide), if_neg (by decide), k6, ck_ok (by omega), if_pos hA.2, pfZ_ok, h9, d0]
    refine ⟨_, g7, g9, hAA, hB, ?_⟩
    have f9 : Fr [59] [(55, 6), (55, 9), (55, 10)] g7 g9 := fF_X12_noise Fr.rf hB
    have f97 : Fr [2, 10, 59] [(0, 10), (0, 11), (0, 12), (1, 2), (55, 6), (55, 9), (55, 10)] g g9 := ((Fr.rf (L := [2, 10, 59]) (M := [(0, 10), (0, 11), (0, 12), (1, 2), (55, 6), (55, 9), (55, 10)])).tr fA (by decide) (by decide)).tr f9 (by decide) (by decide)
    exact grown_iv hI y1 y3 hcp f7 f9 (by decide) d1 d2 (f97.tra TT hI.2.2.2.2.2.2.2)
  · have hB : GF_X12_noise a b c g = some (-1000, upZ g 55 9 0) := by
      unfold GF_X12_noise GJ_X12_noise_4
      rw [pfZ_ok, m_isIn _ hb (by decide) (by decide), cp_ok]
      by_cases q1 : 1 ≤ b ∧ b ≤ 400
      · rw [if_pos q1, ck_ok (by decide), if_neg (by decide), m_isIn _ hc (by decide) (by decide), cp_ok]
        by_cases q2 : 0 ≤ c ∧ c ≤ 127
        · rw [if_pos q2, ck_ok (by decide), if_neg (by decide), e6, ck_ok (by omega), if_neg (fun q4 => hA ⟨⟨q1, q2⟩, q4⟩)]
        · rw [if_neg q2, ck_ok (by decide), if_pos rfl]
      · rw [if_neg q1, ck_ok (by decide), if_pos rfl]
    refine ⟨_, g, _, ?_, hB, n, hI.flag hR hM 0⟩
    unfold GF_X11_noise GJ_X11_noise_4
    rw [ck_ok hb]
    by_cases q1 : b < 1
    · rw [if_pos q1]
    · rw [if_neg q1]
      by_cases q1' : 400 < b
      · rw [if_pos q1']
      · rw [if_neg q1', hht, cp_ok]
        by_cases q2 : 0 ≤ c ∧ c ≤ 127
        · rw [if_pos q2, ck_ok (by decide), if_neg (by decide), p7_room hI.s (by omega), cp_ok, if_pos (show 800 < (n : Int) + b by omega), ck_ok (by decide), if_pos rfl]
        · rw [if_neg q2, ck_ok (by decide), if_pos rfl]
/-! bound -/
theorem u_lm : ∀ j : Nat, j < 16 → (0 ≤ u_leastZ j ∧ u_leastZ j ≤ 2000) ∧ 0 ≤ u_mostZ j ∧ u_mostZ j ≤ 2000 := by decide
def bdS (B : Nat → Int) (a b : Int) : Prop := (2 ≤ a ∧ a ≤ 15) ∧ (u_leastZ a.toNat ≤ b ∧ b ≤ u_mostZ a.toNat) ∧ (a = 4 → b < B 5) ∧ (a = 5 → B 4 < b)
theorem p0_allows {g : uZ} (hB : BOk (g 5)) {a b : Int} (ha : inR a) (hb : inR b) : (bdS (g 5) a b → GF_X0_allows a b g = some 1) ∧ (¬ bdS (g 5) a b → GF_X0_allows a b g = some 0) := by
  have b4 := hB.b4
  have b5 := hB.b5
  unfold GF_X0_allows GJ_X0_allows_1 GJ_X0_allows_2 GJ_X0_allows_3
  rw [ck_ok ha]
  by_cases q1 : a < 2
  · rw [if_pos q1]
    exact ⟨fun h => by have := h.1; omega, fun _ => rfl⟩
  · rw [if_neg q1]
    by_cases q2 : 15 < a
    · rw [if_pos q2]
      exact ⟨fun h => by have := h.1; omega, fun _ => rfl⟩
    · have u := u_lm a.toNat (by omega)
      rw [if_neg q2, rdZ_ok (by omega) (by omega), ck_ok hb, ck_ok (by omega)]
      by_cases q3 : b < u_leastZ a.toNat
      · rw [if_pos q3]
        exact ⟨fun h => by have := h.2.1; omega, fun _ => rfl⟩
      · rw [if_neg q3, rdZ_ok (by omega) (by omega), ck_ok (by omega)]
        by_cases q4 : b ≤ u_mostZ a.toNat
        · rw [if_pos q4]
          by_cases a4 : a = 4
          · rw [if_pos a4, rdB5, ck_ok (by omega), lt_ok]
            by_cases q5 : g 5 5 ≤ b
            · rw [if_pos q5, bzZ_0]
              exact ⟨fun h => by have := h.2.2.1 a4; omega, fun _ => rfl⟩
            · rw [if_neg q5, bzZ_1]
              exact ⟨fun _ => rfl, fun h => absurd ⟨⟨by omega, by omega⟩, ⟨by omega, q4⟩, fun _ => by omega, fun z => by omega⟩ h⟩
          · rw [if_neg a4]
            by_cases a5 : a = 5
            · rw [if_pos a5, rdB4, ck_ok (by omega)]
              by_cases q5 : b ≤ g 5 4
              · rw [if_pos q5, bzZ_0]
                exact ⟨fun h => by have := h.2.2.2 a5; omega, fun _ => rfl⟩
              · rw [if_neg q5, bzZ_1]
                exact ⟨fun _ => rfl, fun h => absurd ⟨⟨by omega, by omega⟩, ⟨by omega, q4⟩, fun z => by omega, fun _ => by omega⟩ h⟩
            · rw [if_neg a5, bzZ_1]
              exact ⟨fun _ => rfl, fun h => absurd ⟨⟨by omega, by omega⟩, ⟨by omega, q4⟩, fun z => by omega, fun z => by omega⟩ h⟩
        · rw [if_neg q4]
          exact ⟨fun h => by have := h.2.1; omega, fun _ => rfl⟩
theorem m_canBe {g : uZ} {B : Nat → Int} (hB : BOk B) (h56 : g 56 = B) (h57 : g 57 = u_leastZ) (h58 : g 58 = u_mostZ) {a b : Int} (ha : inR a) (hb : inR b) : (bdS B a b → GF_X12_canBe a b g = some 1) ∧ (¬ bdS B a b → GF_X12_canBe a b g = some 0) := by
  have b4 := hB.b4
  have b5 := hB.b5
  unfold GF_X12_canBe GJ_X12_canBe_1 GJ_X12_canBe_2 GJ_X12_canBe_3
  rw [m_isIn _ ha (by decide) (by decide), cp_ok]
  by_cases q1 : 2 ≤ a ∧ a ≤ 15
  · have u := u_lm a.toNat (by omega)
    rw [if_pos q1, ck_ok (by decide), if_neg (by decide), rdZ_ok (by omega) (by omega), rdZ_ok (by omega) (by omega), h57, h58, m_isIn _ hb (by omega) (by omega), cp_ok]
    by_cases q2 : u_leastZ a.toNat ≤ b ∧ b ≤ u_mostZ a.toNat
    · rw [if_pos q2, ck_ok (by decide), if_neg (by decide), ck_ok ha]
      by_cases a4 : a = 4
      · rw [if_pos a4, rdB5, h56, ck_ok (by omega), ck_ok hb, lt_ok]
        by_cases q5 : B 5 ≤ b
        · rw [if_pos q5, bzZ_0]
          exact ⟨fun h => by have := h.2.2.1 a4; omega, fun _ => rfl⟩
        · rw [if_neg q5, bzZ_1]
          exact ⟨fun _ => rfl, fun h => absurd ⟨q1, q2, fun _ => by omega, fun z => by omega⟩ h⟩
      · rw [if_neg a4]
        by_cases a5 : a = 5
        · rw [if_pos a5, rdB4, h56, ck_ok hb, ck_ok (by omega)]
          by_cases q5 : b ≤ B 4
          · rw [if_pos q5, bzZ_0]
            exact ⟨fun h => by have := h.2.2.2 a5; omega, fun _ => rfl⟩
          · rw [if_neg q5, bzZ_1]
            exact ⟨fun _ => rfl, fun h => absurd ⟨q1, q2, fun z => by omega, fun _ => by omega⟩ h⟩
        · rw [if_neg a5, bzZ_1]
          exact ⟨fun _ => rfl, fun h => absurd ⟨q1, q2, fun z => by omega, fun z => by omega⟩ h⟩
    · rw [if_neg q2, ck_ok (by decide), if_pos rfl]
      exact ⟨fun h => absurd h.2.1 q2, fun _ => rfl⟩
  · rw [if_neg q1, ck_ok (by decide), if_pos rfl]
    exact ⟨fun h => absurd h.1 q1, fun _ => rfl⟩
theorem o_bound {R M : uZ → Prop} (hR : Kp R) (hM : Kp M) {a b : Int} (ha : inR a) (hb : inR b) : opV (IV R M) (GF_X11_bound a b) (GF_X12_bound a b) := by
  rintro g ⟨n, hI⟩
  have hn := hI.n
  obtain ⟨s1, s2, s3⟩ := hI.sz
  obtain ⟨t1, t3, t4, t5, t6, t7, t8⟩ := id hI.2.2.2.2.2.2.2
  obtain ⟨py, pn⟩ := p0_allows (g := g) hI.b ha hb
  by_cases hA : bdS (g 5) a b
  · have hal := py hA
    obtain ⟨⟨q1, q2⟩, ⟨q3, q4⟩, q5, q6⟩ := id hA
    obtain ⟨k, rfl⟩ : ∃ k : Nat, a = (k : Int) := ⟨a.toNat, by omega⟩
    rw [Int.toNat_natCast] at q3 q4
    have hput : GF_X0_put (k : Int) b g = some (upZ g 5 k b) := by
      unfold GF_X0_put GJ_X0_put_1
      rw [hal, cp_ok, ck_ok (by decide), if_neg (by decide), wrZ_at k rfl (by omega)]
    have hof : GF_X0_of (k : Int) g = some (g 5 k) := by
      unfold GF_X0_of GJ_X0_of_2
      rw [ck_ok ha, if_neg (by omega), if_pos (by omega), rdZ_at k rfl (by omega)]
    have f4 : Fr [5] [] g (upZ g 5 k b) := Fr.rf.wr (by decide)
    have c5n : ∀ j, j ≠ k → upZ g 5 k b 5 j = g 5 j := fun j hj => by rw [upZ_sn hj]
    have c5k : upZ g 5 k b 5 k = b := upZ_ss _ _ _ _
    generalize hg4 : upZ g 5 k b = g4 at *
    have hB4 : BOk (g4 5) := by
      refine ⟨fun j j2 j15 => ?_, ?_⟩
      · by_cases q : j = k
        · rw [q, c5k]; exact ⟨q3, q4⟩
        · rw [c5n j q]; exact hI.b.1 j j2 j15
      · have h45 := hI.b.2
        by_cases k4 : k = 4
        · subst k4
          rw [c5k, c5n 5 (by decide)]
          exact q5 rfl
        · by_cases k5 : k = 5
          · subst k5
            rw [c5k, c5n 4 (by decide)]
            exact q6 rfl
          · rw [c5n 4 (by omega), c5n 5 (by omega)]
            exact h45
    have main : ∃ g7, GF_X11_bound (k : Int) b g = some (g 5 k, g7) ∧ CP n g7 ∧ g7 5 = g4 5 := by
      have fin : ∀ g6 : uZ, Fr [10] [] g4 g6 → Cache (g 2) (g4 5) n g6 → ∃ g7, (cp (GF_X11_forgetAnswers g6) fun g10 => some (g 5 k, g10)) = some (g 5 k, g7) ∧ CP n g7 ∧ g7 5 = g4 5 := by
        intro g6 f6 hc6
        unfold GF_X11_forgetAnswers
        rw [pfZ_ok, pfZ_ok, pfZ_ok, cp_ok]
        have f7 : Fr [] [(0, 10), (0, 11), (0, 12)] g6 (upZ (upZ (upZ g6 0 10 0) 0 11 0) 0 12 0) := ((Fr.rf.pf (by decide)).pf (by decide)).pf (by decide)
        have z0 : upZ (upZ (upZ g6 0 10 0) 0 11 0) 0 12 0 0 10 = 0 := by rw [upZ_sn (by decide), upZ_sn (by decide), upZ_ss]
        have z1 : upZ (upZ (upZ g6 0 10 0) 0 11 0) 0 12 0 0 11 = 0 := by rw [upZ_sn (by decide), upZ_ss]
        have z2 : upZ (upZ (upZ g6 0 10 0) 0 11 0) 0 12 0 0 12 = 0 := by rw [upZ_ss]
        generalize upZ (upZ (upZ g6 0 10 0) 0 11 0) 0 12 0 = g7 at *
        have w2 : g7 2 = g 2 := by rw [f7.f 2 (by decide) (by decide), f6.f 2 (by decide) (by decide), f4.f 2 (by decide) (by decide)]
        have w5 : g7 5 = g4 5 := by rw [f7.f 5 (by decide) (by decide), f6.f 5 (by decide) (by decide)]
        refine ⟨g7, rfl, ⟨?_, hn, by rw [w2]; exact hI.x, by rw [w5]; exact hB4, ?_, z0, z1, z2⟩, w5⟩
        · rw [f7 1 2 (by decide) (by decide), f6 1 2 (by decide) (by decide), f4 1 2 (by decide) (by decide)]
          exact hI.s
        · rw [w2, w5]
          exact f7.tra (fun q => Cache (g 2) (g4 5) n q) hc6
      unfold GF_X11_bound GJ_X11_bound_1 GJ_X11_bound_2
      rw [hal, cp_ok, ck_ok (by decide), if_neg (by decide), hof, cp_ok, hput, cp_ok, ck_ok ha]
      obtain ⟨g6, h6, z6⟩ := p2_forgetAll g4
      have f6 : Fr [10] [] g4 g6 := fF_X2_forgetAll Fr.rf h6
      rw [h6, cp_ok]
      by_cases k2 : k = 2
      · rw [if_pos (by omega)]
        exact fin g6 f6 (fun f hf => Or.inl (z6 f hf))
      · rw [if_neg (by omega)]
        by_cases k3 : k = 3
        · rw [if_pos (by omega)]
          exact fin g6 f6 (fun f hf => Or.inl (z6 f hf))
        · rw [if_neg (by omega)]
          by_cases k5 : k = 5
          · rw [if_pos (by omega)]
            exact fin g6 f6 (fun f hf => Or.inl (z6 f hf))
          · rw [if_neg (by omega)]
            refine fin g4 Fr.rf ?_
            have e2 : bN (g4 5) 2 = bN (g 5) 2 := by unfold bN; rw [c5n 2 (by omega)]
            have e3 : bN (g4 5) 3 = bN (g 5) 3 := by unfold bN; rw [c5n 3 (by omega)]
            have e5 : bN (g4 5) 5 = bN (g 5) 5 := by unfold bN; rw [c5n 5 (by omega)]
            unfold Cache rcS
            rw [e2, e3, e5]
            have := f4.tra (fun q => Cache (g 2) (g 5) n q) hI.2.2.2.2.1
            unfold Cache rcS at this
            exact this
    obtain ⟨g7, hAA, hcp, w5⟩ := main
    have fA : Fr [5, 10] [(0, 10), (0, 11), (0, 12)] g g7 := fF_X11_bound Fr.rf hAA
    have k56 : upZ g7 55 9 0 56 = g 5 := by rw [upZ_n (by decide), fA.f 56 (by decide) (by decide)]; exact s3
    have k57 : upZ g7 55 9 0 57 = u_leastZ := by rw [upZ_n (by decide), fA.f 57 (by decide) (by decide)]; exact t7
    have k58 : upZ g7 55 9 0 58 = u_mostZ := by rw [upZ_n (by decide), fA.f 58 (by decide) (by decide)]; exact t8
    have hcb := (m_canBe (g := upZ g7 55 9 0) hI.b k56 k57 k58 ha hb).1 hA
    have f9 : Fr [56] [(55, 9)] g7 (upZ (upZ g7 55 9 0) 56 k b) := (Fr.rf.pf (by decide)).wr (by decide)
    have hB : GF_X12_bound (k : Int) b g7 = some (g 5 k, upZ (upZ g7 55 9 0) 56 k b) := by
      unfold GF_X12_bound
      rw [pfZ_ok, hcb, cp_ok, ck_ok (by decide), if_neg (by decide), rdZ_at k rfl (by omega), k56, wrZ_at k rfl (by omega)]
    refine ⟨_, g7, _, hAA, hB, ?_⟩
    generalize hg9 : upZ (upZ g7 55 9 0) 56 k b = g9 at f9
    have hcp9 : CP n g9 := f9.tra (fun q => CP n q) hcp
    refine hcp9.iv ⟨?_, ?_, ?_⟩ (f9.tra TT (fA.tra TT hI.2.2.2.2.2.2.2))
    · rw [f9 55 6 (by decide) (by decide), fA 55 6 (by decide) (by decide)]
      exact s1
    · rw [f9.f 59 (by decide) (by decide), fA.f 59 (by decide) (by decide), s2, f9.f 2 (by decide) (by decide), fA.f 2 (by decide) (by decide)]
    · rw [f9.f 5 (by decide) (by decide), w5]
      funext j
      by_cases q : j = k
      · rw [q, c5k, ← hg9, upZ_ss]
      · rw [c5n j q, ← hg9, upZ_sn q, k56]
  · have hal := pn hA
    have k56 : upZ g 55 9 0 56 = g 5 := by rw [upZ_n (by decide)]; exact s3
    have k57 : upZ g 55 9 0 57 = u_leastZ := by rw [upZ_n (by decide)]; exact t7
    have k58 : upZ g 55 9 0 58 = u_mostZ := by rw [upZ_n (by decide)]; exact t8
    have hcb := (m_canBe (g := upZ g 55 9 0) hI.b k56 k57 k58 ha hb).2 hA
    have hB : GF_X12_bound a b g = some (-1000, upZ g 55 9 0) := by
      unfold GF_X12_bound
      rw [pfZ_ok, hcb, cp_ok, ck_ok (by decide), if_pos rfl]
    refine ⟨_, g, _, ?_, hB, n, hI.flag hR hM 0⟩
    unfold GF_X11_bound
    rw [hal, cp_ok, ck_ok (by decide), if_pos rfl]
