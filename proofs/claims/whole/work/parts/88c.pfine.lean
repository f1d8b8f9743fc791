/-! doubled, fine, spans -/
def dbC (h : Nat → Int) : Nat → Nat
  | 0 => 0
  | t + 1 => dbC h t + if h t = -1 then 0 else 1
theorem o_doubled {R M : uZ → Prop} (hR : Kp R) (hM : Kp M) : opV (IV R M) GF_X11_doubled GF_X12_doubled := by
  rintro g ⟨n, hI⟩
  obtain ⟨g1, h1, hI1, hfl, hP⟩ := iv_findPath hI
  have hN := hI1.f
  have hCT := hP.ct hI1.b hI1.x hI1.n
  have h16 := hP.2.2.2.1.1
  obtain ⟨g2, h2, hL, h69, k9, hO⟩ := iv_laysPath hI1 hP (fr9 g1 0)
  have hpt : ∀ f, f < nfS (g1 5) n → 0 ≤ g1 23 f ∧ (g1 23 f).toNat < mS (g1 2) (g1 5) f := fun f hf => ⟨(hP.pth hf).1, (hP.pth hf).2.1⟩
  have hr : ∀ f i, -1 ≤ hfS (g1 2) (g1 5) f i ∧ hfS (g1 2) (g1 5) f i ≤ 6 := fun f i => by
    have := ff_r (hlp (lgS (g1 2) (g1 5) f) i) (mS (g1 2) (g1 5) f)
    have := (mS_6 (x := g1 2) hI1.b f).2
    unfold hfS
    omega
  have hB : GF_X12_doubled g1 = some ((dbC (fun f => hfS (g1 2) (g1 5) f (g1 23 f).toNat) (nfS (g1 5) n) : Int), g2) := by
    unfold GF_X12_doubled
    rw [pfZ_ok, h2, cp_ok]
    rw [lp_for (fun t => ((dbC (fun f => hfS (g1 2) (g1 5) f (g1 23 f).toNat) t : Int), (t : Int))) (nfS (g1 5) n) (dbC (fun f => hfS (g1 2) (g1 5) f (g1 23 f).toNat) (nfS (g1 5) n) : Int) (by rfl) (by omega)]
    · rfl
    · intro t ht
      have q := hpt t ht
      have e : g1 23 t = ((g1 23 t).toNat : Int) := by omega
      have r1 := hr t (g1 23 t).toNat
      have hMT := hO.2.1.2 t ht
      have es : dbC (fun f => hfS (g1 2) (g1 5) f (g1 23 f).toNat) (t + 1) = dbC (fun f => hfS (g1 2) (g1 5) f (g1 23 f).toNat) t + if hfS (g1 2) (g1 5) t (g1 23 t).toNat = -1 then 0 else 1 := rfl
      have hd := m_doubleOf (g := g2) (lag := lgS (g1 2) (g1 5) t) (f := t) hMT.2.2.1 hMT.2.1 (by omega) q.2 (fun j hj => ⟨(hMT.2.2.2 j hj).1, (hMT.2.2.2 j hj).2.1⟩)
      dsimp only
      unfold GB_X12_doubled_2
      rw [hO.1, ck_ok (by omega), ck_ok (by omega), if_neg (by omega), rdZ_at t rfl (by omega), h69 t ht, es]
      conv => lhs; rw [e]
      rw [hd, cp_ok]
      show (ck (hfS (g1 2) (g1 5) t (g1 23 t).toNat) _) = _
      rw [ck_ok (by omega), lt_ok, lt_ok, lt_ok]
      by_cases z : hfS (g1 2) (g1 5) t (g1 23 t).toNat = -1
      · rw [if_pos z, if_pos (show ff (hlp (lgS (g1 2) (g1 5) t) (g1 23 t).toNat) (mS (g1 2) (g1 5) t) = -1 from z)]; rfl
      · rw [if_neg z, if_neg (show ¬ ff (hlp (lgS (g1 2) (g1 5) t) (g1 23 t).toNat) (mS (g1 2) (g1 5) t) = -1 from z)]; rfl
    · dsimp only
      unfold GB_X12_doubled_2
      rw [hO.1, ck_ok (by omega), ck_ok (by omega), if_pos (by omega)]
  refine ⟨_, g1, g2, ?_, hB, n, hI1.fr hR hM (show Fr _ _ g1 g2 from fF_X12_doubled Fr.rf hB) (by decide) (by decide)⟩
  unfold GF_X11_doubled GF_X5_doublesChosen
  rw [h1, cp_ok]
  rw [lp_for (fun t => ((dbC (fun f => hfS (g1 2) (g1 5) f (g1 23 f).toNat) t : Int), (t : Int))) (nfS (g1 5) n) (dbC (fun f => hfS (g1 2) (g1 5) f (g1 23 f).toNat) (nfS (g1 5) n) : Int) (by rfl) (by omega)]
  · rfl
  · intro t ht
    have q := hpt t ht
    have e : g1 23 t = ((g1 23 t).toNat : Int) := by omega
    have r1 := hr t (g1 23 t).toNat
    have hCR := hP.2.2.1 t ht
    have es : dbC (fun f => hfS (g1 2) (g1 5) f (g1 23 f).toNat) (t + 1) = dbC (fun f => hfS (g1 2) (g1 5) f (g1 23 f).toNat) t + if hfS (g1 2) (g1 5) t (g1 23 t).toNat = -1 then 0 else 1 := rfl
    dsimp only
    unfold GB_X5_doublesChosen_3 GJ_X5_doublesChosen_2
    rw [h16, ck_ok (by omega), ck_ok (by omega), if_neg (by omega), rdZ_at t rfl (by omega), es]
    conv => lhs; rw [e]
    rw [p1_halfOf hP.2.1 hN ht hCR.1 (mS_6 hI1.b t).2 q.2, cp_ok, (hCR.2 _ q.2).2.2, ck_ok (by omega)]
    by_cases z : hfS (g1 2) (g1 5) t (g1 23 t).toNat = -1
    · rw [if_pos z, if_pos z, lt_ok]; rfl
    · rw [if_neg z, if_neg z, lt_ok, lt_ok]; rfl
  · dsimp only
    unfold GB_X5_doublesChosen_3
    rw [h16, ck_ok (by omega), ck_ok (by omega), if_pos (by omega)]
theorem half_step {a b : Nat} (h : b ≤ a) (hb : 0 < b) : 2 * (b * (a % b)) ≤ a * b := by
  have h1 : 2 * (a % b) ≤ a := by
    have e := Nat.div_add_mod a b
    have l := Nat.mod_lt a hb
    have d : 1 ≤ a / b := (Nat.le_div_iff_mul_le hb).mpr (by omega)
    have m : b * 1 ≤ b * (a / b) := Nat.mul_le_mul_left b d
    omega
  calc 2 * (b * (a % b)) = b * (2 * (a % b)) := by rw [← Nat.mul_assoc, Nat.mul_comm 2 b, Nat.mul_assoc]
    _ ≤ b * a := Nat.mul_le_mul_left b h1
    _ = a * b := Nat.mul_comm b a
theorem p_common {g : uZ} {a b : Nat} (ha : a < 2147483648) (hb : b < 2147483648) : GF_X11_commonPart (a : Int) (b : Int) g = some (Nat.gcd a b : Int) := by
  have : ∃ z, GF_X11_commonPart (a : Int) (b : Int) g = some z ∧ z = (Nat.gcd a b : Int) := by
    unfold GF_X11_commonPart
    refine lp_wh (fun q => ∃ c d t : Nat, q = ((c : Int), ((d : Int), (t : Int))) ∧ c < 2147483648 ∧ d < 2147483648 ∧ t ≤ 64 ∧ Nat.gcd c d = Nat.gcd a b ∧ (t = 0 ∨ (d ≤ c ∧ c * d * 2 ^ t ≤ 2 ^ 63))) (fun z => z = (Nat.gcd a b : Int)) (fun q => (64 - q.2.2).toNat) ⟨a, b, 0, rfl, ha, hb, by omega, rfl, Or.inl rfl⟩ (by dsimp only; omega) ?_ ?_
    · rintro q ⟨c, d, t, rfl, hc, hd, ht, hg, hi⟩
      dsimp only
      unfold GB_X11_commonPart_2
      rw [ck_ok (by omega)]
      by_cases h64 : t = 64
      · right
        rw [if_pos (by omega)]
        refine ⟨_, rfl, ?_⟩
        rcases hi with h | ⟨h1, h2⟩
        · omega
        · have hd0 : d = 0 := by
            rcases Nat.eq_zero_or_pos d with q | q
            · exact q
            · exfalso
              rw [h64] at h2
              have : 1 * 1 ≤ c * d := Nat.mul_le_mul (by omega) q
              have h3 : 1 * 2 ^ 64 ≤ c * d * 2 ^ 64 := Nat.mul_le_mul_right _ (by omega)
              have h4 : (1 : Nat) * 2 ^ 64 ≤ 2 ^ 63 := Nat.le_trans h3 h2
              exact absurd h4 (by decide)
          rw [← hg, hd0, Nat.gcd_zero_right]
      · rw [if_neg (by omega), ck_ok (by omega)]
        by_cases hd0 : d = 0
        · right
          rw [if_pos (by omega)]
          refine ⟨_, rfl, ?_⟩
          rw [← hg, hd0, Nat.gcd_zero_right]
        · left
          have hlt := Nat.mod_lt c (show 0 < d by omega)
          rw [if_neg (by omega), rmdZ_ok (by omega) (by omega) (by omega), lt_ok]
          have em : Int.tmod (c : Int) (d : Int) = ((c % d : Nat) : Int) := rfl
          rw [em]
          refine ⟨_, rfl, ⟨d, c % d, t + 1, rfl, hd, by omega, by omega, ?_, Or.inr ⟨by omega, ?_⟩⟩, by dsimp only; omega⟩
          · rw [← hg, Nat.gcd_comm c d, Nat.gcd_rec d c, Nat.gcd_comm]
          · rcases hi with h0 | ⟨h1, h2⟩
            · subst h0
              have m1 : d * (c % d) ≤ 2147483648 * 2147483648 := Nat.mul_le_mul (by omega) (by omega)
              have : d * (c % d) * 2 ^ (0 + 1) ≤ 2147483648 * 2147483648 * 2 := Nat.mul_le_mul_right 2 m1
              exact Nat.le_trans this (by decide)
            · have m1 := half_step h1 (show 0 < d by omega)
              have e2 : d * (c % d) * 2 ^ (t + 1) = 2 * (d * (c % d)) * 2 ^ t := by
                rw [Nat.pow_succ, Nat.mul_comm (2 ^ t) 2, ← Nat.mul_assoc, Nat.mul_comm (d * (c % d)) 2]
              rw [e2]
              exact Nat.le_trans (Nat.mul_le_mul_right _ m1) h2
    · intro z hz
      exact ⟨z, rfl, hz⟩
  obtain ⟨z, h, rfl⟩ := this
  exact h
theorem m_divisor {g : uZ} {a b : Int} (ha : -2147483648 < a ∧ a < 2147483648) (hb9 : -1000000000 < b ∧ b < 1000000000) : GF_X12_divisor a b g = some (Nat.gcd a.natAbs b.natAbs : Int) := by
  have : ∃ z, GF_X12_divisor a b g = some z ∧ z = (Nat.gcd a.natAbs b.natAbs : Int) := by
    unfold GF_X12_divisor
    refine lp_wh (fun q => (-2147483648 < q.1 ∧ q.1 < 2147483648) ∧ (-2147483648 < q.2 ∧ q.2 < 2147483648) ∧ Nat.gcd q.1.natAbs q.2.natAbs = Nat.gcd a.natAbs b.natAbs) (fun z => (-2147483648 < z ∧ z < 2147483648) ∧ z.natAbs = Nat.gcd a.natAbs b.natAbs) (fun q => q.2.natAbs) ⟨ha, ⟨by dsimp only; omega, by dsimp only; omega⟩, rfl⟩ (by dsimp only; omega) ?_ ?_
    · rintro ⟨c, d⟩ ⟨hc, hd, hg⟩
      simp only at hc hd hg
      dsimp only
      unfold GB_X12_divisor_2
      rw [ck_ok (by omega)]
      by_cases hd0 : d = 0
      · right
        rw [if_pos hd0]
        refine ⟨_, rfl, hc, ?_⟩
        rw [← hg, hd0]
        exact (Nat.gcd_zero_right _).symm
      · left
        have em : (Int.tmod c d).natAbs = c.natAbs % d.natAbs := Int.natAbs_tmod c d
        have hlt := Nat.mod_lt c.natAbs (show 0 < d.natAbs by omega)
        rw [if_neg hd0, rmdZ_ok (by omega) (by omega) hd0]
        refine ⟨_, rfl, ⟨hd, ?_, ?_⟩, ?_⟩
        · dsimp only
          omega
        · dsimp only
          rw [em, ← hg, Nat.gcd_comm c.natAbs d.natAbs, Nat.gcd_rec d.natAbs c.natAbs, Nat.gcd_comm]
        · dsimp only
          omega
    · rintro z ⟨hz, hg⟩
      unfold GC_X12_divisor_3
      rw [ck_ok (by omega), lt_ok]
      refine ⟨_, rfl, ?_⟩
      rw [← hg]
      split <;> omega
  obtain ⟨z, h, rfl⟩ := this
  exact h
/-- one lowest fraction, both ways -/
theorem fr_low {g g' : uZ} {t b c : Int} (ht : -2147483648 < t ∧ t < 2147483648) (hb : -2147483648 < b ∧ b < 2147483648) (hb0 : b ≠ 0) (hc : inR c) : ∃ r, (if 0 ≤ b then GF_X11_lowest t b c g else GF_X11_lowest (-t) (-b) c g) = some r ∧ (lt (if 0 ≤ b then (Nat.gcd t.natAbs b.natAbs : Int) else -(Nat.gcd t.natAbs b.natAbs : Int)) fun v22 => ck c <| if c = 0 then (dvZ t v22 fun v24 => GJ_X12_fine_1 g' v24) else (dvZ b v22 fun v25 => GJ_X12_fine_1 g' v25)) = some (r, g') := by
  have hgp : 0 < Nat.gcd t.natAbs b.natAbs := Nat.gcd_pos_of_pos_right _ (by omega)
  have hgl : Nat.gcd t.natAbs b.natAbs ≤ b.natAbs := Nat.le_of_dvd (by omega) (Nat.gcd_dvd_right _ _)
  have dt : (Nat.gcd t.natAbs b.natAbs : Int) ∣ t := Int.ofNat_dvd_left.mpr (Nat.gcd_dvd_left _ _)
  have db : (Nat.gcd t.natAbs b.natAbs : Int) ∣ b := Int.ofNat_dvd_left.mpr (Nat.gcd_dvd_right _ _)
  have low : ∀ (p q : Int), (-2147483648 < p ∧ p < 2147483648) → (-2147483648 < q ∧ q < 2147483648) → Nat.gcd p.natAbs q.natAbs = Nat.gcd t.natAbs b.natAbs → GF_X11_lowest p q c g = some ((if c = 0 then p else q) / (Nat.gcd t.natAbs b.natAbs : Int)) := by
    intro p q hp hq hpq
    unfold GF_X11_lowest
    have e1 : ab p = (p.natAbs : Int) := by unfold ab; split <;> omega
    have e2 : ab q = (q.natAbs : Int) := by unfold ab; split <;> omega
    rw [p_abs g (by omega), cp_ok, p_abs g (by omega), cp_ok, e1, e2, p_common (by omega) (by omega), cp_ok, ck_ok hc, lt_ok, hpq, p_quot g (by split <;> omega) (by omega) (by omega), cp_ok]
  generalize hG : (Nat.gcd t.natAbs b.natAbs : Int) = G at *
  have hGr : 0 < G ∧ G < 2147483648 := by omega
  unfold GJ_X12_fine_1
  rw [lt_ok, ck_ok hc]
  by_cases h0 : 0 ≤ b
  · rw [if_pos h0, if_pos h0, low t b ht hb (by omega)]
    refine ⟨_, rfl, ?_⟩
    by_cases c0 : c = 0
    · rw [if_pos c0, if_pos c0, dvZ_ok (by omega) (by omega) (by omega), Int.tdiv_eq_ediv_of_dvd dt]
    · rw [if_neg c0, if_neg c0, dvZ_ok (by omega) (by omega) (by omega), Int.tdiv_eq_ediv_of_dvd db]
  · rw [if_neg h0, if_neg h0, low (-t) (-b) (by omega) (by omega) (by rw [Int.natAbs_neg, Int.natAbs_neg])]
    refine ⟨_, rfl, ?_⟩
    by_cases c0 : c = 0
    · rw [if_pos c0, if_pos c0, dvZ_ok (by omega) (by omega) (by omega), Int.tdiv_neg, Int.tdiv_eq_ediv_of_dvd dt, Int.neg_ediv_of_dvd dt]
    · rw [if_neg c0, if_neg c0, dvZ_ok (by omega) (by omega) (by omega), Int.tdiv_neg, Int.tdiv_eq_ediv_of_dvd db, Int.neg_ediv_of_dvd db]
theorem o_fine {R M : uZ → Prop} (hR : Kp R) (hM : Kp M) {a b c : Int} (ha : inR a) (hb : inR b) (hc : inR c) : opT (IV R M) [(1, 1)] (GF_X11_fine a b c) (GF_X12_fine a b c) := by
  rintro g ⟨n, hI⟩
  obtain ⟨g1, h1, hI1, hfl, hP⟩ := iv_findPath hI
  have hN := hI1.f
  have h9 : upZ g1 55 9 0 55 9 = 0 := upZ_ss _ _ _ _
  have hCT := hP.ct hI1.b hI1.x hI1.n
  obtain ⟨g2, hy, hno⟩ := m_isCand (hI1.mb (fr9 g1 0)) hI1.n hI1.b hI1.x h9 ha hb
  obtain ⟨cy, cn⟩ := hP.has hI1.b hI1.n ha hb
  have fin : ∀ (r : Int) (g3 : uZ), GF_X12_fine a b c g1 = some (r, g3) → IV R M g3 := fun r g3 e => ⟨n, hI1.fr hR hM (show Fr _ _ g1 g3 from fF_X12_fine Fr.rf e) (by decide) (by decide)⟩
  by_cases hcd : cdS (g1 2) (g1 5) n a b
  · obtain ⟨hy1, k9, hMR, hdf⟩ := hy hcd
    have hh := cy hcd
    obtain ⟨f, rfl⟩ : ∃ f : Nat, a = (f : Int) := ⟨a.toNat, by have := hcd.1; omega⟩
    obtain ⟨i, rfl⟩ : ∃ i : Nat, b = (i : Int) := ⟨b.toNat, by have := hcd.2.2.1; omega⟩
    rw [Int.toNat_natCast] at hMR hdf
    have hfN : f < nfS (g1 5) n := by have := hcd.2.1; omega
    have hi : i < mS (g1 2) (g1 5) f := by have := hcd.2.2.2; rw [Int.toNat_natCast] at this; omega
    have hm6 := (mS_6 (x := g1 2) hI1.b f).2
    have hlr := lgS_r (x := g1 2) hI1.b f i
    have b4 := hI1.b.b4
    have b5 := hI1.b.b5
    have b3 := hI1.b.b3
    have hlat : GF_X12_lagAt1 (f : Int) (i : Int) g2 = some (lgS (g1 2) (g1 5) f i : Int) := by
      unfold GF_X12_lagAt1
      rw [rdZ_at (6 * f + i) (by omega) (by omega), (hMR.2 i hi).1]
    by_cases hz : lgS (g1 2) (g1 5) f i = 0
    · right
      have hB : GF_X12_fine (f : Int) (i : Int) c g1 = some (0, upZ g2 55 9 1) := by
        unfold GF_X12_fine GJ_X12_fine_2
        rw [pfZ_ok, hy1, clZ_ok, ck_ok (by decide), if_neg (by decide), hlat, cp_ok, ck_ok (by omega), lt_ok, if_pos (by omega), m_right0 k9 (Or.inl rfl), clZ_ok, ck_ok (by decide), if_pos rfl]
      refine ⟨(1, 1), List.mem_singleton.mpr rfl, _, g1, _, ?_, hB, upZ_ss _ _ _ _, fin _ _ hB⟩
      unfold GF_X11_fine
      rw [h1, cp_ok, hh, cp_ok, ck_ok (by decide), if_neg (by decide), hCT.lag hfN hi, cp_ok, ck_ok (by omega), lt_ok, if_pos (by omega), ck_ok (by decide), if_pos rfl]
    · left
      have hl2 : 2 ≤ lgS (g1 2) (g1 5) f i := by
        rcases Nat.lt_or_ge (i + 1) (mS (g1 2) (g1 5) f) with q | q
        · have := hlr.1 q
          omega
        · exact absurd (hlr.2.2 q) hz
      generalize hlg : lgS (g1 2) (g1 5) f i = l at *
      have hrow := hP.1 f hfN
      have d0 := dfS_r hI1.x (bN (g1 5) 2) (bN (g1 5) 3) f (l - 1)
      have d1 := dfS_r hI1.x (bN (g1 5) 2) (bN (g1 5) 3) f l
      have d2 := dfS_r hI1.x (bN (g1 5) 2) (bN (g1 5) 3) f (l + 1)
      have c0 := hdf (l - 1) (by omega)
      have c1 := hdf l (by omega)
      have c2 := hdf (l + 1) (by omega)
      have r0 := (hrow.1 (l - 1) (by omega)).1
      have r1 := (hrow.1 l (by omega)).1
      have r2 := (hrow.1 (l + 1) (by omega)).1
      generalize hD0 : dfS (g1 2) (bN (g1 5) 2) (bN (g1 5) 3) f (l - 1) = D0 at *
      generalize hD1 : dfS (g1 2) (bN (g1 5) 2) (bN (g1 5) 3) f l = D1 at *
      generalize hD2 : dfS (g1 2) (bN (g1 5) 2) (bN (g1 5) 3) f (l + 1) = D2 at *
      have da : ∀ k : Nat, k < 50 → GF_X2_diffAt (f : Int) (k : Int) g1 = some (g1 7 (50 * f + k)) := fun k hk => by
        unfold GF_X2_diffAt
        rw [ck_ok (by omega), if_neg (by omega), if_neg (by omega), ck_ok (by omega), if_neg (by omega), if_pos (by omega), rdZ_at (50 * f + k) (by omega) (by omega)]
      have hbot : -200000 ≤ 2 * ((D0 - 2 * D1) + D2) ∧ 2 * ((D0 - 2 * D1) + D2) ≤ 200000 := by omega
      have htop : -20000000 < ((l : Int) * (2 * ((D0 - 2 * D1) + D2)) + D0) - D2 ∧ ((l : Int) * (2 * ((D0 - 2 * D1) + D2)) + D0) - D2 < 20000000 := by
        generalize 2 * ((D0 - 2 * D1) + D2) = w at hbot
        have m1 : (l : Int) * w ≤ 48 * 200000 := by
          rcases Int.le_total 0 w with q | q
          · exact Int.mul_le_mul (by omega) (by omega) q (by omega)
          · have := Int.mul_nonpos_of_nonneg_of_nonpos (show (0 : Int) ≤ (l : Int) by omega) q
            omega
        have m2 : -(48 * 200000) ≤ (l : Int) * w := by
          rcases Int.le_total 0 w with q | q
          · have := Int.mul_nonneg (show (0 : Int) ≤ (l : Int) by omega) q
            omega
          · have := Int.mul_le_mul (a := (l : Int)) (b := -w) (c := 48) (d := 200000) (by omega) (by omega) (by omega) (by omega)
            rw [Int.mul_neg] at this
            omega
        omega
      have e1 : (l : Int) - 1 = ((l - 1 : Nat) : Int) := by omega
      have e2 : (l : Int) + 1 = ((l + 1 : Nat) : Int) := by omega
      generalize hbt : 2 * ((D0 - 2 * D1) + D2) = bt at *
      generalize htp : ((l : Int) * bt + D0) - D2 = tp at *
      have hA : ∃ r, GF_X11_fine (f : Int) (i : Int) c g = some (Sum.inl r, g1) ∧ GF_X12_fine (f : Int) (i : Int) c g1 = some (r, g2) := by
        by_cases hb0 : bt = 0
        · refine ⟨if c = 0 then (l : Int) else 1, ?_, ?_⟩
          · unfold GF_X11_fine
            rw [h1, cp_ok, hh, cp_ok, ck_ok (by decide), if_neg (by decide), hCT.lag hfN hi, cp_ok, hlg, ck_ok (by omega), lt_ok, if_neg (by omega), ck_ok (by decide), if_neg (by decide), e1, e2, da (l - 1) (by omega), cp_ok, da l (by omega), cp_ok, da (l + 1) (by omega), cp_ok, r0, r1, r2, lt_ok, hbt, ck_ok (by omega), if_pos hb0, ck_ok hc, lt_ok]
          · unfold GF_X12_fine
            rw [pfZ_ok, hy1, clZ_ok, ck_ok (by decide), if_neg (by decide), hlat, cp_ok, ck_ok (by omega), lt_ok, if_neg (by omega), m_right1 k9, clZ_ok, ck_ok (by decide), if_neg (by decide), hlat, cp_ok, e1, e2, rdZ_at (l - 1) rfl (by omega), rdZ_at l rfl (by omega), rdZ_at (l + 1) rfl (by omega), c0, c1, c2, lt_ok, hbt, ck_ok (by omega), if_pos hb0, ck_ok hc, lt_ok]
        · obtain ⟨r, k1, k2⟩ := fr_low (g := g1) (g' := g2) (t := tp) (b := bt) (c := c) (by omega) (by omega) hb0 hc
          refine ⟨r, ?_, ?_⟩
          · unfold GF_X11_fine GJ_X11_fine_1
            rw [h1, cp_ok, hh, cp_ok, ck_ok (by decide), if_neg (by decide), hCT.lag hfN hi, cp_ok, hlg, ck_ok (by omega), lt_ok, if_neg (by omega), ck_ok (by decide), if_neg (by decide), e1, e2, da (l - 1) (by omega), cp_ok, da l (by omega), cp_ok, da (l + 1) (by omega), cp_ok, r0, r1, r2, lt_ok, hbt, ck_ok (by omega), if_neg hb0, lt_ok, htp]
            by_cases p : 0 ≤ bt
            · rw [if_pos p] at k1
              rw [if_pos p, k1, cp_ok]
            · rw [if_neg p] at k1
              rw [if_neg p, k1, cp_ok]
          · unfold GF_X12_fine
            rw [pfZ_ok, hy1, clZ_ok, ck_ok (by decide), if_neg (by decide), hlat, cp_ok, ck_ok (by omega), lt_ok, if_neg (by omega), m_right1 k9, clZ_ok, ck_ok (by decide), if_neg (by decide), hlat, cp_ok, e1, e2, rdZ_at (l - 1) rfl (by omega), rdZ_at l rfl (by omega), rdZ_at (l + 1) rfl (by omega), c0, c1, c2, lt_ok, hbt, ck_ok (by omega), if_neg hb0, rdZ_at (l - 1) rfl (by omega), rdZ_at (l + 1) rfl (by omega), c0, c2, lt_ok, htp, m_divisor (by omega) (by omega), cp_ok]
            exact k2
      obtain ⟨r, hA1, hB⟩ := hA
      exact ⟨r, g1, g2, hA1, hB, k9, fin _ _ hB⟩
  · right
    obtain ⟨hn1, k9⟩ := hno hcd
    have hh := cn hcd
    have hB : GF_X12_fine a b c g1 = some (0, g2) := by
      unfold GF_X12_fine GJ_X12_fine_2
      rw [pfZ_ok, hn1, clZ_ok, ck_ok (by decide), if_pos rfl]
    refine ⟨(1, 1), List.mem_singleton.mpr rfl, _, g1, _, ?_, hB, k9, fin _ _ hB⟩
    unfold GF_X11_fine
    rw [h1, cp_ok, hh, cp_ok, ck_ok (by decide), if_pos rfl]
