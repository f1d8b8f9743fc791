/-! what the path costs, and how -/
theorem IVn.pw {R M : uZ → Prop} {n : Nat} {g : uZ} (h : IVn R M n g) (h1 : g 0 10 = 1) : PW (g 2) (g 5) n g := by
  rcases h.2.2.2.2.2.1 with q | q
  · exact absurd (h1.symm.trans q.1) (by decide)
  · exact q.2.1
theorem PW.pth {x B : Nat → Int} {n : Nat} {g : uZ} (h : PW x B n g) {f : Nat} (hf : f < nfS B n) : 0 ≤ g 23 f ∧ (g 23 f).toNat < mS x B f ∧ g 24 f = (lgS x B f (g 23 f).toNat : Int) := by
  obtain ⟨-, -, -, ⟨p1, p2, p3, p4, p5⟩, -⟩ := h
  exact ⟨(p5 f hf).1, (p4 (by omega)).1 f (by omega), (p5 f hf).2⟩
theorem p5_ownSum {g : uZ} {N : Nat} {m : Nat → Nat} {lag : Nat → Nat → Nat} {own : Nat → Nat → Int} (hC : CT N m lag own g) (h16 : g 16 12 = N) (hp : ∀ f, f < N → 0 ≤ g 23 f ∧ (g 23 f).toNat < m f) : GF_X5_ownSum g = some (sm N (fun f => own f (g 23 f).toNat)) := by
  have hN := hC.2.1
  unfold GF_X5_ownSum
  rw [lp_for (fun t => (sm t (fun f => own f (g 23 f).toNat), (t : Int))) N (sm N (fun f => own f (g 23 f).toNat)) (by rfl) (by omega)]
  · rfl
  · intro t ht
    have q := hp t ht
    have e : g 23 t = ((g 23 t).toNat : Int) := by omega
    dsimp only
    unfold GB_X5_ownSum_2
    rw [h16, ck_ok (by omega), ck_ok (by omega), if_neg (by omega), rdZ_at t rfl (by omega)]
    conv => lhs; rw [e]
    rw [hC.own ht q.2, cp_ok, lt_ok, lt_ok]
    rfl
  · dsimp only
    unfold GB_X5_ownSum_2
    rw [h16, ck_ok (by omega), ck_ok (by omega), if_pos (by omega)]
theorem p5_stepSum {g : uZ} {N j o v : Nat} {l : Nat → Nat} (h16 : g 16 12 = N) (hN : N ≤ 100) (hl : ∀ f, f < N → g 24 f = (l f : Int) ∧ l f ≤ 48) : ∃ g', GF_X5_stepSum (j : Int) (o : Int) (v : Int) g = some (sm (N - 1) (fun f => spS j o v (l f) (l (f + 1))), g') := by
  unfold GF_X5_stepSum GF_X9_set_18
  rw [pfZ_ok, pfZ_ok, pfZ_ok, cp_ok]
  generalize hg : upZ (upZ (upZ g 18 0 (j : Int)) 18 1 (o : Int)) 18 2 (v : Int) = g1
  have a0 : g1 18 0 = (j : Int) := by rw [← hg, upZ_sn (by decide), upZ_sn (by decide), upZ_ss]
  have a1 : g1 18 1 = (o : Int) := by rw [← hg, upZ_sn (by decide), upZ_ss]
  have a2 : g1 18 2 = (v : Int) := by rw [← hg, upZ_ss]
  have b16 : g1 16 12 = (N : Int) := by rw [← hg, upZ_n (by decide), upZ_n (by decide), upZ_n (by decide)]; exact h16
  have b24 : g1 24 = g 24 := by rw [← hg, upZ_n (by decide), upZ_n (by decide), upZ_n (by decide)]
  rw [lp_for (fun t => (sm t (fun f => spS j o v (l f) (l (f + 1))), ((t + 1 : Nat) : Int))) (N - 1) (sm (N - 1) (fun f => spS j o v (l f) (l (f + 1)))) (by rfl) (by omega)]
  · exact ⟨g1, rfl⟩
  · intro t ht
    have q1 := hl t (by omega)
    have q2 := hl (t + 1) (by omega)
    dsimp only
    unfold GB_X5_stepSum_2
    rw [b16, ck_ok (by omega), ck_ok (by omega), if_neg (by omega), rdZ_at t (by omega) (by omega), rdZ_at (t + 1) rfl (by omega), b24, q1.1, q2.1, p9_price18 a0 a1 a2 q1.2 q2.2, cp_ok, lt_ok, lt_ok]
    rfl
  · dsimp only
    unfold GB_X5_stepSum_2
    rw [b16, ck_ok (by omega), ck_ok (by omega), if_pos (by omega)]
theorem sm_shift (h : Nat → Int) (k : Nat) : sm (k + 1) (fun f => if f = 0 then 0 else h (f - 1)) = sm k h := by
  induction k with
  | zero => rfl
  | succ k ih =>
    rw [sm_s, ih, sm_s]
    rfl
theorem sm_cst (own : Nat → Nat → Int) (st : Nat → Nat → Nat → Int) (p : Nat → Nat) (e : Nat) : cst own st p e = sm (e + 1) (fun f => own f (p f)) + sm e (fun f => st f (p f) (p (f + 1))) := by
  induction e with
  | zero =>
    have h1 : cst own st p 0 = own 0 (p 0) := rfl
    have h2 : sm (0 + 1) (fun f => own f (p f)) = 0 + own 0 (p 0) := rfl
    have h3 : sm 0 (fun f => st f (p f) (p (f + 1))) = 0 := rfl
    omega
  | succ e ih =>
    have h1 : cst own st p (e + 1) = cst own st p e + st e (p e) (p (e + 1)) + own (e + 1) (p (e + 1)) := rfl
    have h2 : sm (e + 1 + 1) (fun f => own f (p f)) = sm (e + 1) (fun f => own f (p f)) + own (e + 1) (p (e + 1)) := rfl
    have h3 : sm (e + 1) (fun f => st f (p f) (p (f + 1))) = sm e (fun f => st f (p f) (p (f + 1))) + st e (p e) (p (e + 1)) := rfl
    omega
theorem ab_mm (a b : Nat) : ab ((a : Int) - (b : Int)) = ((max a b : Nat) - (min a b : Nat) : Int) := by
  unfold ab
  by_cases h : a ≤ b
  · rw [Nat.max_eq_right h, Nat.min_eq_left h]
    split <;> omega
  · rw [Nat.max_eq_left (by omega), Nat.min_eq_right (by omega)]
    split <;> omega
/-- what one frame adds to a part of the cost -/
theorem m_part {g : uZ} {N j o v j' o' v' f : Nat} {l : Nat → Nat} {L : Nat → Int} {a : Int} (hP : MP j o v g) (hL : LGP N L g) (hl : ∀ f, f < N → L f = (l f : Int) ∧ l f ≤ 48) (ha : (a = 2 ∧ j' = j ∧ o' = 0 ∧ v' = 0) ∨ (a = 3 ∧ j' = 0 ∧ o' = o ∧ v' = 0) ∨ (a = 4 ∧ j' = 0 ∧ o' = 0 ∧ v' = v)) (hf : f < N) : GF_X12_part (f : Int) a g = some (if f = 0 then 0 else spS j' o' v' (l (f - 1)) (l f)) := by
  obtain ⟨hj, ho, hv, -⟩ := hP
  have hN := hL.le
  unfold GF_X12_part GJ_X12_part_9 GJ_X12_part_8
  rw [ck_ok (by omega), if_neg (by omega), ck_ok (by omega)]
  by_cases h0 : f = 0
  · rw [if_pos (by omega), if_pos h0]
  · have et : ((f : Int) - 1) = ((f - 1 : Nat) : Int) := by omega
    have q1 := hl (f - 1) (by omega)
    have q2 := hl f hf
    rw [if_neg (show ¬ (f : Int) = 0 by omega), if_neg h0, ck_ok (by omega), if_neg (by omega), et, hL.at (by omega), cp_ok, hL.at hf, cp_ok, q1.1, q2.1]
    generalize hA : l (f - 1) = A at *
    generalize hC : l f = C at *
    have hA8 := q1.2
    have hC8 := q2.2
    have key : ∀ w : Int, (w = 0 ∧ (A = 0 ∨ C = 0)) ∨ (w = 1 ∧ A ≠ 0 ∧ C ≠ 0) → GJ_X12_part_7 a (A : Int) (C : Int) g w = some (spS j' o' v' A C) := by
      intro w hw
      unfold GJ_X12_part_7 GJ_X12_part_2 GJ_X12_part_3 GJ_X12_part_4 GJ_X12_part_5 GJ_X12_part_6 spS
      simp only [ck_ok (show inR a by omega), ck_ok (show inR w by omega)]
      rcases ha with ⟨ea, e1, e2, e3⟩ | ⟨ea, e1, e2, e3⟩ | ⟨ea, e1, e2, e3⟩
      · rw [if_pos ea]
        rcases hw with ⟨rfl, hz⟩ | ⟨rfl, n1, n2⟩
        · rw [if_pos rfl, if_pos hz, e3]
          by_cases q : A = C
          · rw [if_pos q]
          · rw [if_neg q]; rfl
        · rw [if_neg (show ¬ (1 : Int) = 0 by decide), if_neg (by omega), rdB10, hj, m_apart g (by omega) (by omega), cp_ok, ab_mm, e1, e2]
          by_cases q : ((max A C : Nat) : Int) < 2 * ((min A C : Nat) : Int) - 1
          · rw [if_pos q, Int.add_zero]
          · rw [if_neg q]
            simp
      · rw [if_neg (by omega), if_pos ea]
        rcases hw with ⟨rfl, hz⟩ | ⟨rfl, n1, n2⟩
        · rw [if_pos rfl, if_pos hz, e3]
          by_cases q : A = C
          · rw [if_pos q]
          · rw [if_neg q]; rfl
        · rw [if_neg (show ¬ (1 : Int) = 0 by decide), if_neg (show ¬ (A = 0 ∨ C = 0) by omega), m_isOctave g hA8 hC8, cp_ok, e1, e2, ho]
          by_cases q : ((max A C : Nat) : Int) < 2 * ((min A C : Nat) : Int) - 1
          · rw [if_pos q, if_pos q, ck_ok (by decide), if_pos rfl]
            simp
          · rw [if_neg q, if_neg q, ck_ok (by decide), if_neg (by decide)]
            simp
      · rw [if_neg (by omega), if_neg (by omega)]
        rcases hw with ⟨rfl, hz⟩ | ⟨rfl, n1, n2⟩
        · rw [if_pos rfl, if_pos hz, e3, ck_ok (by omega), ck_ok (by omega), hv]
          by_cases q : A = C
          · rw [if_pos q, if_pos (by omega)]
          · rw [if_neg q, if_neg (by omega)]
        · rw [if_neg (show ¬ (1 : Int) = 0 by decide), if_neg (show ¬ (A = 0 ∨ C = 0) by omega), e1, e2]
          simp
    unfold GJ_X12_part_1
    rw [ck_ok (by omega)]
    by_cases z1 : A = 0
    · rw [if_pos (by omega)]
      exact key 0 (Or.inl ⟨rfl, Or.inl z1⟩)
    · rw [if_neg (by omega), ck_ok (by omega)]
      by_cases z2 : C = 0
      · rw [if_pos (by omega)]
        exact key 0 (Or.inl ⟨rfl, Or.inr z2⟩)
      · rw [if_neg (by omega)]
        exact key 1 (Or.inr ⟨rfl, z1, z2⟩)
theorem m_costLoop {g : uZ} {N : Nat} {a : Int} {h : Nat → Int} (h17 : g 55 17 = N) (hN : N ≤ 100) (hp : ∀ f, f < N → GF_X12_part (f : Int) a g = some (h f)) : lp (fun z => GB_X12_cost_2 a g z.1 z.2) (0, 0) (fun z => GC_X12_cost_3 g z) = some (sm N h, g) := by
  rw [lp_for (fun t => (sm t h, (t : Int))) N (sm N h) (by rfl) (by omega)]
  · rfl
  · intro t ht
    dsimp only
    unfold GB_X12_cost_2
    rw [h17, ck_ok (by omega), ck_ok (by omega), if_neg (by omega), hp t ht, cp_ok, lt_ok, lt_ok]
    rfl
  · dsimp only
    unfold GB_X12_cost_2
    rw [h17, ck_ok (by omega), ck_ok (by omega), if_pos (by omega)]
theorem bestP.pm {m : Nat → Nat} {own : Nat → Nat → Int} {st : Nat → Nat → Nat → Int} {e : Nat} {p : Nat → Nat} (h : bestP m own st e p) : PM m own st (fun _ _ => true) e (cst own st p e) := by
  refine ⟨⟨p, fun j _ hj => ⟨h.1 j hj, rfl⟩, rfl⟩, fun q hq => ?_⟩
  rcases h.2 q (fun j hj => (hq j (Nat.zero_le _) hj).1) with k | k
  · omega
  · omega
theorem MO.least {N : Nat} {m : Nat → Nat} {lag : Nat → Nat → Nat} {own : Nat → Nat → Int} {j o v : Nat} {g : uZ} (h : MO N m lag own j o v g) : GF_X12_leastOfAll g = some (sm N (fun f => own f (g 69 f).toNat) + sm (N - 1) (fun f => spS j o v (lag f (g 69 f).toNat) (lag (f + 1) (g 69 (f + 1)).toNat))) := by
  obtain ⟨o1, o2, o3, o4, o5, o6, o7⟩ := h
  have hN := o2.1
  by_cases h0 : N = 0
  · subst h0
    unfold GF_X12_leastOfAll
    rw [o4, ck_ok (by omega), if_neg (by omega)]
    rfl
  · have hb := o5 (by omega)
    obtain ⟨r, h1, h2, h3⟩ := m_leastOfAll (m := m) (e := N - 1) (by rw [o4]; omega) (by omega) (o2.2 0 (by omega)).2.2.1 (o2.2 0 (by omega)).2.1 (o7 0 (by omega))
    have hpm := TP.first (T := fun k => g 68 k) (r := r) (fun k hk => by have := (o7 0 (by omega) k hk).1; rw [Nat.mul_zero, Nat.zero_add] at this; exact this) h3 ⟨fun f => (g 69 f).toNat, fun j' _ hj => ⟨hb.1 j' hj, rfl⟩⟩
    have hu := hpm.uniq hb.pm
    rw [h1, hu, sm_cst, show N - 1 + 1 = N by omega]
theorem o_cost {R M : uZ → Prop} (hR : Kp R) (hM : Kp M) {a : Int} (ha : inR a) : opT (IV R M) [(1, 1)] (GF_X11_cost a) (GF_X12_cost a) := by
  rintro g ⟨n, hI⟩
  by_cases hA : 0 ≤ a ∧ a ≤ 4
  · left
    obtain ⟨g1, h1, hI1, hfl, hP⟩ := iv_findPath hI
    have hN := hI1.f
    have hCT := hP.ct hI1.b hI1.x hI1.n
    have b10 := hI1.b.b10
    have b11 := hI1.b.b11
    have b12 := hI1.b.b12
    have h16 := hP.2.2.2.1.1
    have hl : ∀ f, f < nfS (g1 5) n → g1 24 f = (lgS (g1 2) (g1 5) f (g1 23 f).toNat : Int) ∧ lgS (g1 2) (g1 5) f (g1 23 f).toNat ≤ 48 := fun f hf => ⟨(hP.pth hf).2.2, ((hCT.2.2 f hf).2.2.2 _ (hP.pth hf).2.1).2.1⟩
    have hown := p5_ownSum hCT h16 (fun f hf => ⟨(hP.pth hf).1, (hP.pth hf).2.1⟩)
    have hst : ∀ j o v : Nat, ∃ g', GF_X5_stepSum (j : Int) (o : Int) (v : Int) g1 = some (sm (nfS (g1 5) n - 1) (fun f => spS j o v (lgS (g1 2) (g1 5) f (g1 23 f).toNat) (lgS (g1 2) (g1 5) (f + 1) (g1 23 (f + 1)).toNat)), g') := fun j o v => p5_stepSum (l := fun f => lgS (g1 2) (g1 5) f (g1 23 f).toNat) h16 hN hl
    obtain ⟨r, g2, hr1, hr2⟩ : ∃ r g2, GF_X5_priceOf a g1 = some (r, g2) ∧ ((a = 0 ∧ r = sm (nfS (g1 5) n) (fun f => owS (g1 2) (g1 5) f (g1 23 f).toNat) + sm (nfS (g1 5) n - 1) (fun f => spS (bN (g1 5) 10) (bN (g1 5) 11) (bN (g1 5) 12) (lgS (g1 2) (g1 5) f (g1 23 f).toNat) (lgS (g1 2) (g1 5) (f + 1) (g1 23 (f + 1)).toNat))) ∨ (a = 1 ∧ r = sm (nfS (g1 5) n) (fun f => owS (g1 2) (g1 5) f (g1 23 f).toNat)) ∨ ∃ j o v : Nat, ((a = 2 ∧ j = bN (g1 5) 10 ∧ o = 0 ∧ v = 0) ∨ (a = 3 ∧ j = 0 ∧ o = bN (g1 5) 11 ∧ v = 0) ∨ (a = 4 ∧ j = 0 ∧ o = 0 ∧ v = bN (g1 5) 12)) ∧ r = sm (nfS (g1 5) n - 1) (fun f => spS j o v (lgS (g1 2) (g1 5) f (g1 23 f).toNat) (lgS (g1 2) (g1 5) (f + 1) (g1 23 (f + 1)).toNat))) := by
      unfold GF_X5_priceOf
      rw [ck_ok ha]
      by_cases a1 : a = 1
      · rw [if_pos a1, hown, cp_ok]
        exact ⟨_, _, rfl, Or.inr (Or.inl ⟨a1, rfl⟩)⟩
      · rw [if_neg a1]
        by_cases a2 : a = 2
        · obtain ⟨g2, e⟩ := hst (bN (g1 5) 10) 0 0
          rw [if_pos a2, p0_10, cp_ok, b10.1]
          rw [show ((0 : Nat) : Int) = 0 from rfl] at e
          rw [e, clZ_ok]
          exact ⟨_, _, rfl, Or.inr (Or.inr ⟨_, _, _, Or.inl ⟨a2, rfl, rfl, rfl⟩, rfl⟩)⟩
        · rw [if_neg a2]
          by_cases a3 : a = 3
          · obtain ⟨g2, e⟩ := hst 0 (bN (g1 5) 11) 0
            rw [if_pos a3, p0_11, cp_ok, b11.1]
            rw [show ((0 : Nat) : Int) = 0 from rfl] at e
            rw [e, clZ_ok]
            exact ⟨_, _, rfl, Or.inr (Or.inr ⟨_, _, _, Or.inr (Or.inl ⟨a3, rfl, rfl, rfl⟩), rfl⟩)⟩
          · rw [if_neg a3]
            by_cases a4 : a = 4
            · obtain ⟨g2, e⟩ := hst 0 0 (bN (g1 5) 12)
              rw [if_pos a4, p0_12, cp_ok, b12.1]
              rw [show ((0 : Nat) : Int) = 0 from rfl] at e
              rw [e, clZ_ok]
              exact ⟨_, _, rfl, Or.inr (Or.inr ⟨_, _, _, Or.inr (Or.inr ⟨a4, rfl, rfl, rfl⟩), rfl⟩)⟩
            · obtain ⟨g2, e⟩ := hst (bN (g1 5) 10) (bN (g1 5) 11) (bN (g1 5) 12)
              rw [if_neg a4, hown, cp_ok, p0_10, cp_ok, p0_11, cp_ok, p0_12, cp_ok, b10.1, b11.1, b12.1, e, clZ_ok]
              exact ⟨_, _, rfl, Or.inl ⟨by omega, rfl⟩⟩
    have fr : Fr [] [(18, 0), (18, 1), (18, 2)] g1 g2 := fF_X5_priceOf Fr.rf hr1
    have hI2 := hI1.fr hR hM fr (by decide) (by decide)
    have hP2 := hI2.pw ((fr 0 10 (by decide) (by decide)).trans hfl)
    have e2 : g2 2 = g1 2 := fr.f 2 (by decide) (by decide)
    have e5 : g2 5 = g1 5 := fr.f 5 (by decide) (by decide)
    have e23 : g2 23 = g1 23 := fr.f 23 (by decide) (by decide)
    have e24 : g2 24 = g1 24 := fr.f 24 (by decide) (by decide)
    have h9 : upZ g2 55 9 0 55 9 = 0 := upZ_ss _ _ _ _
    obtain ⟨g3, h3, hL, h69, k9, hO⟩ := iv_laysPath hI2 hP2 (fr9 g2 0)
    rw [h9] at k9
    rw [e5, e24] at hL
    rw [e5, e23] at h69
    rw [e2, e5] at hO
    have hB : GF_X12_cost a g2 = some (r, g3) := by
      unfold GF_X12_cost
      rw [pfZ_ok, m_isIn _ ha (by decide) (by decide), cp_ok, if_pos hA, m_right1 h9, clZ_ok, ck_ok (by decide), if_neg (by decide), h3, cp_ok, ck_ok ha]
      rcases hr2 with ⟨a0, er⟩ | ⟨a1, er⟩ | ⟨j, o, v, hc, er⟩
      · rw [if_pos a0, hO.least, cp_ok, er]
        have s1 : sm (nfS (g1 5) n) (fun f => owS (g1 2) (g1 5) f (g3 69 f).toNat) = sm (nfS (g1 5) n) (fun f => owS (g1 2) (g1 5) f (g1 23 f).toNat) := sm_eq (fun f hf => by rw [h69 f hf])
        have s2 : sm (nfS (g1 5) n - 1) (fun f => spS (bN (g1 5) 10) (bN (g1 5) 11) (bN (g1 5) 12) (lgS (g1 2) (g1 5) f (g3 69 f).toNat) (lgS (g1 2) (g1 5) (f + 1) (g3 69 (f + 1)).toNat)) = sm (nfS (g1 5) n - 1) (fun f => spS (bN (g1 5) 10) (bN (g1 5) 11) (bN (g1 5) 12) (lgS (g1 2) (g1 5) f (g1 23 f).toNat) (lgS (g1 2) (g1 5) (f + 1) (g1 23 (f + 1)).toNat)) := sm_eq (fun f hf => by rw [h69 f (by omega), h69 (f + 1) (by omega)])
        rw [s1, s2]
      · rw [if_neg (by omega), er]
        refine m_costLoop hO.1 hN (fun f hf => ?_)
        have q := hP.pth hf
        have e : g1 23 f = ((g1 23 f).toNat : Int) := by omega
        unfold GF_X12_part GJ_X12_part_9 GJ_X12_part_8
        rw [ck_ok ha, if_pos a1, rdZ_at f rfl (by omega), h69 f hf]
        conv => lhs; rw [e]
        rw [hO.2.1.own hf q.2.1, cp_ok, ck_ok (by omega), ck_ok ha, if_pos a1]
        by_cases f0 : (f : Int) = 0
        · rw [if_pos f0]
        · rw [if_neg f0]
      · rw [if_neg (by omega)]
        rw [m_costLoop hO.1 hN (fun f hf => m_part (l := fun f => lgS (g1 2) (g1 5) f (g1 23 f).toNat) hO.2.2.1 hL hl hc hf), er]
        by_cases hz : nfS (g1 5) n = 0
        · rw [hz]; rfl
        · obtain ⟨k, hk⟩ : ∃ k, nfS (g1 5) n = k + 1 := ⟨nfS (g1 5) n - 1, by omega⟩
          have sh := sm_shift (fun f => spS j o v (lgS (g1 2) (g1 5) f (g1 23 f).toNat) (lgS (g1 2) (g1 5) (f + 1) (g1 23 (f + 1)).toNat)) k
          have se : sm (k + 1) (fun f => if f = 0 then 0 else spS j o v (lgS (g1 2) (g1 5) (f - 1) (g1 23 (f - 1)).toNat) (lgS (g1 2) (g1 5) f (g1 23 f).toNat)) = sm (k + 1) (fun f => if f = 0 then 0 else (fun f => spS j o v (lgS (g1 2) (g1 5) f (g1 23 f).toNat) (lgS (g1 2) (g1 5) (f + 1) (g1 23 (f + 1)).toNat)) (f - 1)) := by
            refine sm_eq (fun f _ => ?_)
            by_cases f0 : f = 0
            · rw [if_pos f0, if_pos f0]
            · dsimp only
              rw [if_neg f0, if_neg f0, show f - 1 + 1 = f by omega]
          rw [hk, show k + 1 - 1 = k by omega, se, sh]
    refine ⟨r, g2, g3, ?_, hB, k9, n, hI2.fr hR hM (show Fr _ _ g2 g3 from fF_X12_cost Fr.rf hB) (by decide) (by decide)⟩
    unfold GF_X11_cost GJ_X11_cost_2
    rw [ck_ok ha, if_neg (by omega), if_neg (by omega), ck_ok (by decide), if_neg (by decide), h1, cp_ok, hr1, clZ_ok]
  · right
    have h9 : upZ g 55 9 0 55 9 = 0 := upZ_ss _ _ _ _
    have hB : GF_X12_cost a g = some (0, upZ (upZ g 55 9 0) 55 9 1) := by
      unfold GF_X12_cost
      rw [pfZ_ok, m_isIn _ ha (by decide) (by decide), cp_ok, if_neg hA, m_right0 h9 (Or.inl rfl), clZ_ok, ck_ok (by decide), if_pos rfl]
    refine ⟨(1, 1), List.mem_singleton.mpr rfl, _, g, _, ?_, hB, upZ_ss _ _ _ _, n, (hI.flag hR hM 0).flag hR hM 1⟩
    unfold GF_X11_cost GJ_X11_cost_1 GJ_X11_cost_2
    rw [ck_ok ha]
    by_cases a0 : a < 0
    · rw [if_pos a0, ck_ok (by decide), if_pos rfl]
    · rw [if_neg a0, if_pos (by omega), ck_ok (by decide), if_pos rfl]
