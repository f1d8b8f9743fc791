/-! set anew: the sum -/
theorem mulb {u d : Int} (hu : -128 ≤ u ∧ u ≤ 127) (hd : 0 ≤ d ∧ d ≤ 800) : -102400 ≤ u * d ∧ u * d ≤ 102400 := by
  have h1 : u * d ≤ 127 * d := Int.mul_le_mul_of_nonneg_right hu.2 hd.1
  have h2 : -128 * d ≤ u * d := Int.mul_le_mul_of_nonneg_right hu.1 hd.1
  omega
theorem qab {r a b : Int} (hr : 0 ≤ r ∧ r ≤ 800) (ha : 1 ≤ a ∧ a ≤ 4) (hb : 1 ≤ b ∧ b ≤ 4) : (0 ≤ r * a ∧ r * a ≤ 3200) ∧ 0 ≤ r * a / b ∧ r * a / b ≤ 3200 := by
  have h1 : r * a ≤ r * 4 := Int.mul_le_mul_of_nonneg_left ha.2 hr.1
  have h2 : 0 ≤ r * a := Int.mul_nonneg hr.1 (by omega)
  have h3 := Int.ediv_nonneg h2 (show 0 ≤ b by omega)
  have h4 := Int.ediv_le_self b h2
  exact ⟨⟨h2, by omega⟩, h3, by omega⟩
def adS (x : Nat → Int) (n lo hi : Nat) (pl : Nat → Int) (p : Nat → Nat) (s m : Int) : Int := if grS lo hi pl p (owN lo hi pl m) ≤ ab (m - s) then 0 else atS x n (pl (owN lo hi pl m) + s - m) * (grS lo hi pl p (owN lo hi pl m) - ab (m - s)) / grS lo hi pl p (owN lo hi pl m)
def nxS (lo hi : Nat) (pl : Nat → Int) (p : Nat → Nat) (a b m : Int) : Int := m + if 1 < grS lo hi pl p (owN lo hi pl m) * a / b then grS lo hi pl p (owN lo hi pl m) * a / b else 1
def sqS (x : Nat → Int) (n lo hi : Nat) (pl : Nat → Int) (p : Nat → Nat) (a b s : Int) : Nat → Int × Int
  | 0 => (0, pl lo)
  | t + 1 => ((sqS x n lo hi pl p a b s t).1 + adS x n lo hi pl p s (sqS x n lo hi pl p a b s t).2, nxS lo hi pl p a b (sqS x n lo hi pl p a b s t).2)
def isT (q : Nat → Int × Int) (to T : Nat) : Prop := (∀ t, t < T → (q t).2 < (to : Int)) ∧ (to : Int) ≤ (q T).2
theorem isT.uniq {q : Nat → Int × Int} {to T U : Nat} (h1 : isT q to T) (h2 : isT q to U) : T = U := by
  rcases Nat.lt_trichotomy T U with w | w | w
  · have := h2.1 T w
    have := h1.2
    omega
  · exact w
  · have := h1.1 U w
    have := h2.2
    omega
theorem p3_sum {x B L : Nat → Int} {n N C lo hi fr to i : Nat} {p : Nat → Nat} {g : uZ} (h44 : g 44 9 = (C : Int)) (mq : MQd n C (g 47) (g 48)) (h : SN C lo hi fr to i (g 47) (g 48)) (hS : SpC x B L n N fr to p g) {a b : Int} {s : Nat} (ha : 1 ≤ a ∧ a ≤ 4) (hb : 1 ≤ b ∧ b ≤ 4) (hs : s < 800) : ∃ z, lp (fun z => GB_X3_renewed_3 a b (s : Int) (lo : Int) (hi : Int) (to : Int) g z.1 z.2.1 z.2.2) (0, (g 47 lo, 0)) (fun z => GC_X3_renewed_4 z) = some z ∧ ∃ T, isT (sqS x n lo hi (g 47) p a b (s : Int)) to T ∧ z = (sqS x n lo hi (g 47) p a b (s : Int) T).1 := by
  have hpb : ∀ c, c < C → 0 ≤ g 47 c ∧ g 47 c < 800 := fun c hc => by have := (mq.2.2.1 c hc).1; have := mq.1; omega
  obtain ⟨⟨a1, a2, a3, a4, a5⟩, -⟩ := id h
  have p0 := hpb lo (by omega)
  refine lp_wh (fun z => ∃ t : Nat, z = ((sqS x n lo hi (g 47) p a b (s : Int) t).1, ((sqS x n lo hi (g 47) p a b (s : Int) t).2, (t : Int))) ∧ (∀ j, j < t → (sqS x n lo hi (g 47) p a b (s : Int) j).2 < (to : Int)) ∧ t ≤ 800 ∧ (t : Int) ≤ (sqS x n lo hi (g 47) p a b (s : Int) t).2 ∧ (sqS x n lo hi (g 47) p a b (s : Int) t).2 ≤ 4000) (fun b' => ∃ T, isT (sqS x n lo hi (g 47) p a b (s : Int)) to T ∧ b' = (sqS x n lo hi (g 47) p a b (s : Int) T).1) (fun z => ((to : Int) - z.2.1).toNat) ⟨0, rfl, fun j hj => absurd hj (Nat.not_lt_zero _), by omega, p0.1, show g 47 lo ≤ 4000 by omega⟩ (by dsimp only; omega) ?_ ?_
  · rintro _ ⟨t, rfl, hj, t8, tm, m4⟩
    have e1 : (sqS x n lo hi (g 47) p a b (s : Int) (t + 1)).1 = (sqS x n lo hi (g 47) p a b (s : Int) t).1 + adS x n lo hi (g 47) p (s : Int) (sqS x n lo hi (g 47) p a b (s : Int) t).2 := rfl
    have e2 : (sqS x n lo hi (g 47) p a b (s : Int) (t + 1)).2 = nxS lo hi (g 47) p a b (sqS x n lo hi (g 47) p a b (s : Int) t).2 := rfl
    dsimp only
    unfold GB_X3_renewed_3 GJ_X3_renewed_2
    rw [ck_ok (by omega)]
    by_cases h8 : 800 ≤ t
    · right
      rw [if_pos (by omega)]
      exact ⟨_, rfl, t, ⟨hj, by omega⟩, rfl⟩
    · rw [if_neg (by omega), ck_ok (by omega), ck_ok (by omega)]
      by_cases hto : (to : Int) ≤ (sqS x n lo hi (g 47) p a b (s : Int) t).2
      · right
        rw [if_pos hto]
        exact ⟨_, rfl, t, ⟨hj, hto⟩, rfl⟩
      · left
        rw [if_neg hto]
        generalize hu : (sqS x n lo hi (g 47) p a b (s : Int) t).1 = u at *
        generalize hm : (sqS x n lo hi (g 47) p a b (s : Int) t).2 = m at *
        have ob := owN_b a1 (g 47) m
        have gb := h.gr ⟨hS.p1, hS.p2⟩ ob.1 ob.2
        have ob1 := hpb (owN lo hi (g 47) m) (by omega)
        have av := ab_b (x := m - (s : Int)) (k := 5000) (by omega)
        rw [p3_own h44 h hpb (by omega), cp_ok, p3_grasp h44 mq h hS ob.1 ob.2, cp_ok, p_abs g (by omega), cp_ok]
        unfold adS at e1
        unfold nxS at e2
        generalize grS lo hi (g 47) p (owN lo hi (g 47) m) = r at *
        have qb := qab (r := r) (by omega) ha hb
        rw [ck_ok (by omega), ck_ok (by omega)]
        have fin : ∀ v : Int, v = (sqS x n lo hi (g 47) p a b (s : Int) (t + 1)).1 → ∃ a', (cp (GF_X11_quotient (r * a) b g) fun v23 => cp (GF_J9_max_7cf53 1 v23 g) fun v24 => lt (m + v24) fun v25 => lt ((t : Int) + 1) fun v26 => some (Sum.inl (v, (v25, v26)))) = (some (Sum.inl a') : Option ((Int × (Int × Int)) ⊕ Int)) ∧ (∃ t : Nat, a' = ((sqS x n lo hi (g 47) p a b (s : Int) t).1, ((sqS x n lo hi (g 47) p a b (s : Int) t).2, (t : Int))) ∧ (∀ j, j < t → (sqS x n lo hi (g 47) p a b (s : Int) j).2 < (to : Int)) ∧ t ≤ 800 ∧ (t : Int) ≤ (sqS x n lo hi (g 47) p a b (s : Int) t).2 ∧ (sqS x n lo hi (g 47) p a b (s : Int) t).2 ≤ 4000) ∧ ((to : Int) - a'.2.1).toNat < ((to : Int) - m).toNat := by
          intro v hv
          rw [p_quot g (by omega) (by omega) (by omega), cp_ok, p_max g (by decide) (by omega), cp_ok, lt_ok, lt_ok]
          have nb : 1 ≤ (if 1 < r * a / b then r * a / b else 1) ∧ (if 1 < r * a / b then r * a / b else 1) ≤ 3200 := by split <;> omega
          generalize (if 1 < r * a / b then r * a / b else 1) = d at *
          refine ⟨_, rfl, ⟨t + 1, by rw [hv, e2]; rfl, fun j hjt => ?_, by omega, by omega, by omega⟩, by dsimp only; omega⟩
          by_cases z : j = t
          · rw [z, hm]
            omega
          · exact hj j (by omega)
        by_cases c : r ≤ ab (m - (s : Int))
        · rw [if_pos c]
          rw [if_pos c, Int.add_zero] at e1
          exact fin u e1.symm
        · have xb := atS_b hS.xo n (g 47 (owN lo hi (g 47) m) + (s : Int) - m)
          have mb := mulb xb (d := r - ab (m - (s : Int))) (by omega)
          rw [if_neg c] at e1
          rw [if_neg c, p3_at h44 a3 (by omega), cp_ok, p7_at hS.s hS.n8 (by omega), cp_ok, hS.x, p_quot g (by omega) (by omega) (by omega), cp_ok, lt_ok]
          exact fin _ e1.symm
  · rintro b' hT
    exact ⟨_, rfl, hT⟩
theorem m_sum {x B L : Nat → Int} {n N a' b' C lo hi fr to i : Nat} {p : Nat → Nat} {pl so : Nat → Int} {g : uZ} (hr : RM g C pl so) (mq : MQd n C pl so) (h : SN C lo hi fr to i pl so) (hS : SpM x B L n N i a' b' fr to p g) (h90 : g 90 i = (lo : Int)) (h91 : g 90 (i + 1) = (hi : Int)) {a b : Int} {s : Nat} (ha : 1 ≤ a ∧ a ≤ 4) (hb : 1 ≤ b ∧ b ≤ 4) (hs : s < 800) : ∃ z, GF_X12_setAnew (i : Int) (s : Int) a b g = some z ∧ ∃ T, isT (sqS x n lo hi pl p a b (s : Int)) to T ∧ z = (sqS x n lo hi pl p a b (s : Int) T).1 := by
  have hpb : ∀ c, c < C → 0 ≤ pl c ∧ pl c < 800 := fun c hc => by have := (mq.2.2.1 c hc).1; have := mq.1; omega
  obtain ⟨⟨a1, a2, a3, a4, a5⟩, -⟩ := id h
  obtain ⟨⟨s1, s2, s3, -⟩, -, -, xo, -, -, pp⟩ := id hS
  have p0 := hpb lo (by omega)
  unfold GF_X12_setAnew
  rw [rdZ_at i rfl (by omega), h90, rdZ_at lo rfl (by omega), (hr.2 lo (by omega)).1]
  refine lp_wh (fun z => ∃ t : Nat, z = ((sqS x n lo hi pl p a b (s : Int) t).1, (sqS x n lo hi pl p a b (s : Int) t).2) ∧ (∀ j, j < t → (sqS x n lo hi pl p a b (s : Int) j).2 < (to : Int)) ∧ 0 ≤ (sqS x n lo hi pl p a b (s : Int) t).2 ∧ (sqS x n lo hi pl p a b (s : Int) t).2 ≤ 4000) (fun b' => ∃ T, isT (sqS x n lo hi pl p a b (s : Int)) to T ∧ b' = (sqS x n lo hi pl p a b (s : Int) T).1) (fun z => ((to : Int) - z.2).toNat) ⟨0, rfl, fun j hj => absurd hj (Nat.not_lt_zero _), p0.1, show pl lo ≤ 4000 by omega⟩ (by dsimp only; omega) ?_ ?_
  · rintro _ ⟨t, rfl, hj, tm, m4⟩
    have e1 : (sqS x n lo hi pl p a b (s : Int) (t + 1)).1 = (sqS x n lo hi pl p a b (s : Int) t).1 + adS x n lo hi pl p (s : Int) (sqS x n lo hi pl p a b (s : Int) t).2 := rfl
    have e2 : (sqS x n lo hi pl p a b (s : Int) (t + 1)).2 = nxS lo hi pl p a b (sqS x n lo hi pl p a b (s : Int) t).2 := rfl
    dsimp only
    unfold GB_X12_setAnew_3 GJ_X12_setAnew_2
    rw [hS.behind, cp_ok, ck_ok (by omega), ck_ok (by omega)]
    by_cases hto : (to : Int) ≤ (sqS x n lo hi pl p a b (s : Int) t).2
    · right
      rw [if_pos hto]
      exact ⟨_, rfl, t, ⟨hj, hto⟩, rfl⟩
    · left
      rw [if_neg hto]
      generalize hu : (sqS x n lo hi pl p a b (s : Int) t).1 = u at *
      generalize hm : (sqS x n lo hi pl p a b (s : Int) t).2 = m at *
      have ob := owN_b a1 pl m
      have gb := h.gr pp ob.1 ob.2
      have ob1 := hpb (owN lo hi pl m) (by omega)
      have eab : ab ((s : Int) - m) = ab (m - (s : Int)) := by unfold ab; split <;> split <;> omega
      have av := ab_b (x := m - (s : Int)) (k := 5000) (by omega)
      rw [m_own (n := n) hr h h90 h91 hpb ⟨tm, by omega⟩, cp_ok, m_grasp hr mq h hS h90 ob.1 ob.2, cp_ok, m_apart g (by omega) (by omega), cp_ok, eab]
      unfold adS at e1
      unfold nxS at e2
      generalize grS lo hi pl p (owN lo hi pl m) = r at *
      have qb := qab (r := r) (by omega) ha hb
      rw [ck_ok (by omega), ck_ok (by omega)]
      have fin : ∀ v : Int, v = (sqS x n lo hi pl p a b (s : Int) (t + 1)).1 → ∃ a', (dvZ (r * a) b fun v17 => ck v17 <| lt (if 1 ≤ v17 then v17 else 1) fun v19 => lt (m + v19) fun v20 => some (Sum.inl (v, v20))) = (some (Sum.inl a') : Option ((Int × Int) ⊕ Int)) ∧ (∃ t : Nat, a' = ((sqS x n lo hi pl p a b (s : Int) t).1, (sqS x n lo hi pl p a b (s : Int) t).2) ∧ (∀ j, j < t → (sqS x n lo hi pl p a b (s : Int) j).2 < (to : Int)) ∧ 0 ≤ (sqS x n lo hi pl p a b (s : Int) t).2 ∧ (sqS x n lo hi pl p a b (s : Int) t).2 ≤ 4000) ∧ ((to : Int) - a'.2).toNat < ((to : Int) - m).toNat := by
        intro v hv
        have ei : (if 1 ≤ r * a / b then r * a / b else 1) = (if 1 < r * a / b then r * a / b else 1) := by split <;> split <;> omega
        rw [dvZ_ok (by omega) (by omega) (by omega), Int.tdiv_eq_ediv_of_nonneg qb.1.1, ck_ok (by omega), lt_ok, lt_ok, ei]
        have nb : 1 ≤ (if 1 < r * a / b then r * a / b else 1) ∧ (if 1 < r * a / b then r * a / b else 1) ≤ 3200 := by split <;> omega
        generalize (if 1 < r * a / b then r * a / b else 1) = d at *
        refine ⟨_, rfl, ⟨t + 1, by rw [hv, e2], fun j hjt => ?_, by omega, by omega⟩, by dsimp only; omega⟩
        by_cases z : j = t
        · rw [z, hm]
          omega
        · exact hj j (by omega)
      by_cases c : r ≤ ab (m - (s : Int))
      · rw [if_pos c]
        rw [if_pos c, Int.add_zero] at e1
        exact fin u e1.symm
      · have xb := atS_b xo n (pl (owN lo hi pl m) + (s : Int) - m)
        have mb := mulb xb (d := r - ab (m - (s : Int))) (by omega)
        rw [if_neg c] at e1
        rw [if_neg c, rdZ_at (owN lo hi pl m) rfl (by omega), (hr.2 _ (by omega)).1, m_at s1 s2 s3 (by omega), cp_ok, m_down g (by omega) (by omega) (by omega), cp_ok, lt_ok]
        exact fin _ e1.symm
  · rintro b' hT
    exact ⟨_, rfl, hT⟩
