/-! the tape -/
def byS (a w : Int) : Int := ((Int32.toInt8 ((zI a) >>> ((zI w) &&& ((31 : Int32))))).toInt32).toInt
theorem byS_r (a w : Int) : -128 ≤ byS a w ∧ byS a w ≤ 127 := by
  unfold byS
  rw [Int8.toInt_toInt32]
  have h1 := Int8.le_toInt (Int32.toInt8 ((zI a) >>> ((zI w) &&& ((31 : Int32)))))
  have h2 := Int8.toInt_lt (Int32.toInt8 ((zI a) >>> ((zI w) &&& ((31 : Int32)))))
  omega
theorem and255 (x : Int32) : (x &&& 255).toInt = x.toInt % 256 := by
  have h1 : (x &&& 255).toBitVec.toNat = x.toBitVec.toNat % 256 := by
    rw [Int32.toBitVec_and, BitVec.toNat_and]
    exact Nat.and_two_pow_sub_one_eq_mod x.toBitVec.toNat 8
  have h2 : (x &&& 255).toInt = ((x &&& 255).toBitVec.toNat : Int) := by
    show (x &&& 255).toBitVec.toInt = _
    rw [BitVec.toInt_eq_toNat_cond, if_pos (by rw [h1]; omega)]
  rw [h2, h1]
  show _ = x.toBitVec.toInt % 256
  rw [BitVec.toInt_eq_toNat_cond]
  split <;> omega
theorem byS_m (a w : Int) : (if (((zI a) >>> ((zI w) &&& ((31 : Int32)))) &&& ((255 : Int32))).toInt ≤ 127 then (((zI a) >>> ((zI w) &&& ((31 : Int32)))) &&& ((255 : Int32))).toInt else ((((zI a) >>> ((zI w) &&& ((31 : Int32)))) &&& ((255 : Int32))).toInt - 256)) = byS a w := by
  unfold byS
  rw [Int8.toInt_toInt32, and255, Int32.toInt_toInt8, Int.bmod_def]
  split <;> split <;> omega
def twS (f : Nat → Int) (tp : Nat) (a : Int) (i : Nat) : Nat → Int := fun j => if tp ≤ j ∧ j < tp + i then byS a (24 - 8 * ((j : Int) - tp)) else f j
theorem twS_0 (f : Nat → Int) (tp : Nat) (a : Int) : twS f tp a 0 = f := by
  funext j
  unfold twS
  rw [if_neg (by omega)]
theorem twS_s (f : Nat → Int) (tp : Nat) (a : Int) (i j : Nat) : twS f tp a (i + 1) j = if j = tp + i then byS a (24 - 8 * (i : Int)) else twS f tp a i j := by
  unfold twS
  by_cases h : j = tp + i
  · subst h
    rw [if_pos rfl, if_pos (by omega)]
    congr 2
    omega
  · rw [if_neg h]
    by_cases h2 : tp ≤ j ∧ j < tp + i
    · rw [if_pos h2, if_pos (by omega)]
    · rw [if_neg h2, if_neg (by omega)]
theorem twS_r {f : Nat → Int} {tp i : Nat} {a : Int} (h : ∀ j, -128 ≤ f j ∧ f j ≤ 127) (j : Nat) : -128 ≤ twS f tp a i j ∧ twS f tp a i j ≤ 127 := by
  unfold twS
  split
  · exact byS_r _ _
  · exact h j
theorem p7_tapeNumber {g : uZ} {tp : Nat} (h : g 1 3 = tp) (ht : tp + 4 ≤ 400) (a : Int) : ∃ g', GF_X7_tapeNumber a g = some g' ∧ g' 1 3 = (tp + 4 : Nat) ∧ g' 3 = twS (g 3) tp a 4 := by
  unfold GF_X7_tapeNumber
  refine lp_go (fun i q => q.1 = 24 - 8 * (i : Int) ∧ q.2 1 3 = (tp + i : Nat) ∧ q.2 3 = twS (g 3) tp a i) (fun b => b 1 3 = (tp + 4 : Nat) ∧ b 3 = twS (g 3) tp a 4) 4 (by omega) ⟨by simp, by simpa using h, (twS_0 _ _ _).symm⟩ ?_ ?_ (fun b hQ => ⟨b, rfl, hQ⟩)
  · rintro i ⟨w, q⟩ hi ⟨h1, h2, h3⟩
    simp only at h1 h2 h3
    subst h1
    unfold GB_X7_tapeNumber_2
    simp (disch := omega) only [ck_ok, if_neg, wrZ_ok, pfZ_ok, lt_ok]
    refine ⟨_, rfl, by simp only; omega, ?_, ?_⟩
    · simp only [upZ_ss, upZ_n (show (1 : Nat) ≠ 3 by decide), h2]
      omega
    · funext j
      simp only [upZ_n (show (3 : Nat) ≠ 1 by decide), upZ_s, h3, twS_s, h2]
      rfl
  · rintro ⟨w, q⟩ ⟨h1, h2, h3⟩
    simp only at h1 h2 h3
    subst h1
    unfold GB_X7_tapeNumber_2
    simp (disch := omega) only [ck_ok, if_pos]
    exact ⟨_, rfl, h2, h3⟩
theorem m_comes {g : uZ} {tp : Nat} (h : g 55 7 = tp) (ht : tp + 4 ≤ 400) (a : Int) : ∃ g', GF_X12_comes a g = some g' ∧ g' 55 7 = (tp + 4 : Nat) ∧ g' 60 = twS (g 60) tp a 4 := by
  unfold GF_X12_comes
  refine lp_go (fun i q => q.1 = 24 - 8 * (i : Int) ∧ q.2 55 7 = (tp + i : Nat) ∧ q.2 60 = twS (g 60) tp a i) (fun b => b 55 7 = (tp + 4 : Nat) ∧ b 60 = twS (g 60) tp a 4) 4 (by omega) ⟨by simp, by simpa using h, (twS_0 _ _ _).symm⟩ ?_ ?_ (fun b hQ => ⟨b, rfl, hQ⟩)
  · rintro i ⟨w, q⟩ hi ⟨h1, h2, h3⟩
    simp only at h1 h2 h3
    subst h1
    unfold GB_X12_comes_2
    simp (disch := omega) only [ck_ok, if_neg, pfZ_ok, lt_ok, ck_t, byS_m]
    simp (disch := omega) only [wrZ_ok]
    refine ⟨_, rfl, by simp only; omega, ?_, ?_⟩
    · simp only [upZ_ss, upZ_n (show (55 : Nat) ≠ 60 by decide), h2]
      omega
    · funext j
      simp only [upZ_n (show (60 : Nat) ≠ 55 by decide), upZ_s, h3, twS_s, h2]
      rfl
  · rintro ⟨w, q⟩ ⟨h1, h2, h3⟩
    simp only at h1 h2 h3
    subst h1
    unfold GB_X12_comes_2
    simp (disch := omega) only [ck_ok, if_pos]
    exact ⟨_, rfl, h2, h3⟩
/-- five numbers behind the tape -/
def tw5 (f : Nat → Int) (tp : Nat) (a b c d e : Int) : Nat → Int := twS (twS (twS (twS (twS f tp a 4) (tp + 4) b 4) (tp + 8) c 4) (tp + 12) d 4) (tp + 16) e 4
theorem p11_feed {g : uZ} {tp : Nat} (h : g 1 3 = tp) (ht : tp ≤ 400) (a b c d e : Int) : ∃ g', GF_X11_feed a b c d e g = some (if tp + 20 ≤ 400 then ((tp + 20 : Nat) : Int) else -1, g') ∧ (if tp + 20 ≤ 400 then g' 1 3 = (tp + 20 : Nat) ∧ g' 3 = tw5 (g 3) tp a b c d e else g' = g) := by
  unfold GF_X11_feed GF_X7_tapeSize
  by_cases h2 : tp + 20 ≤ 400
  · simp (disch := omega) only [cp_ok, ck_ok, if_pos]
    obtain ⟨g1, e1, a1, b1⟩ := p7_tapeNumber h (by omega) a
    obtain ⟨g2, e2, a2, b2⟩ := p7_tapeNumber a1 (by omega) b
    obtain ⟨g3, e3, a3, b3⟩ := p7_tapeNumber a2 (by omega) c
    obtain ⟨g4, e4, a4, b4⟩ := p7_tapeNumber a3 (by omega) d
    obtain ⟨g5, e5, a5, b5⟩ := p7_tapeNumber a4 (by omega) e
    rw [e1, cp_ok, e2, cp_ok, e3, cp_ok, e4, cp_ok, e5, cp_ok, a5]
    refine ⟨g5, rfl, a5, ?_⟩
    rw [b5, b4, b3, b2, b1]
    rfl
  · simp (disch := omega) only [cp_ok, ck_ok, if_neg]
    exact ⟨g, rfl, rfl⟩
theorem m_feed {g : uZ} {tp : Nat} (h : g 55 7 = tp) (ht : tp ≤ 400) (a b c d e : Int) : ∃ g', GF_X12_feed a b c d e g = some (if tp + 20 ≤ 400 then ((tp + 20 : Nat) : Int) else -1, g') ∧ g' 55 7 = (if tp + 20 ≤ 400 then ((tp + 20 : Nat) : Int) else (tp : Int)) ∧ g' 60 = (if tp + 20 ≤ 400 then tw5 (g 60) tp a b c d e else g 60) := by
  unfold GF_X12_feed
  have h' : upZ g 55 9 0 55 7 = tp := by rw [upZ_sn (by decide)]; exact h
  have h6 : upZ g 55 9 0 60 = g 60 := upZ_n (by decide)
  rw [pfZ_ok]
  by_cases h2 : tp + 20 ≤ 400
  · simp (disch := omega) only [ck_ok, if_pos]
    obtain ⟨g1, e1, a1, b1⟩ := m_comes h' (by omega) a
    obtain ⟨g2, e2, a2, b2⟩ := m_comes a1 (by omega) b
    obtain ⟨g3, e3, a3, b3⟩ := m_comes a2 (by omega) c
    obtain ⟨g4, e4, a4, b4⟩ := m_comes a3 (by omega) d
    obtain ⟨g5, e5, a5, b5⟩ := m_comes a4 (by omega) e
    rw [e1, cp_ok, e2, cp_ok, e3, cp_ok, e4, cp_ok, e5, cp_ok, a5]
    refine ⟨g5, rfl, a5, ?_⟩
    rw [b5, b4, b3, b2, b1, h6]
    rfl
  · simp (disch := omega) only [ck_ok, if_neg]
    exact ⟨_, rfl, h', h6⟩
theorem tw5_r {f : Nat → Int} {tp : Nat} {a b c d e : Int} (h : ∀ j, -128 ≤ f j ∧ f j ≤ 127) (j : Nat) : -128 ≤ tw5 f tp a b c d e j ∧ tw5 f tp a b c d e j ≤ 127 := twS_r (twS_r (twS_r (twS_r (twS_r h)))) j
