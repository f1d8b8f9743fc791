/-! the reference: how often each lag is, the steadiest run, a lag by its number -/
theorem m_often {g : uZ} {N : Nat} {L : Nat → Int} (hP : LGP N L g) : ∃ g', lp (fun z => GB_X12_laysOften_2 z.1 z.2) (0, g) (fun z => GC_X12_laysOften_6 z) = some g' ∧ ∀ v : Nat, v < 50 → g' 83 v = taS L N v := by
  have hN := hP.le
  refine lp_go (fun t z => z.1 = (t : Int) ∧ Fr [83] [] g z.2 ∧ ∀ v : Nat, v < t → z.2 83 v = 0) (fun z => Fr [83] [] g z ∧ ∀ v : Nat, v < 50 → z 83 v = 0) 50 (by omega) ⟨rfl, Fr.rf, fun v hv => absurd hv (Nat.not_lt_zero _)⟩ ?_ ?_ ?_
  · rintro t ⟨w, z⟩ ht ⟨e1, hF, hz⟩
    simp only at e1 hF hz
    subst e1
    dsimp only
    unfold GB_X12_laysOften_2
    rw [ck_ok (by omega), if_neg (by omega), wrZ_at t rfl (by omega), lt_ok]
    refine ⟨_, rfl, ?_⟩
    dsimp only
    refine ⟨by omega, hF.wr (by decide), fun v hv => ?_⟩
    by_cases q : v = t
    · subst q
      exact upZ_ss _ _ _ _
    · rw [upZ_sn (by omega)]
      exact hz v (by omega)
  · rintro ⟨w, z⟩ ⟨e1, hF, hz⟩
    simp only at e1 hF hz
    subst e1
    dsimp only
    refine ⟨z, ?_, hF, hz⟩
    unfold GB_X12_laysOften_2
    rw [ck_ok (by omega), if_pos (by omega)]
  · rintro z ⟨hF, hz⟩
    unfold GC_X12_laysOften_6
    refine lp_go (fun t y => y.1 = (t : Int) ∧ Fr [83] [] g y.2 ∧ ∀ v : Nat, v < 50 → y.2 83 v = (ctV L 0 t (v : Int) : Int)) (fun y => ∀ v : Nat, v < 50 → y 83 v = (ctV L 0 N (v : Int) : Int)) N (by omega) ⟨rfl, hF, fun v hv => by dsimp only; rw [hz v hv]; rfl⟩ ?_ ?_ ?_
    · rintro t ⟨w, y⟩ ht ⟨e1, hFy, hy⟩
      simp only at e1 hFy hy
      subst e1
      dsimp only
      have hPy : LGP N L y := hP.fr (hFy 55 17 (by decide) (by decide)) (hFy.f 64 (by decide) (by decide)) (hFy.f 65 (by decide) (by decide)) (hFy.f 66 (by decide) (by decide)) (hFy.f 69 (by decide) (by decide))
      have l1 := hPy.bd ht
      obtain ⟨u, hu⟩ : ∃ u : Nat, L t = (u : Int) := ⟨(L t).toNat, by omega⟩
      unfold GB_X12_laysOften_4
      rw [hPy.1, ck_ok (by omega), ck_ok (by omega), if_neg (by omega), hPy.at ht, cp_ok, rdZ_at u hu (by omega), wrZ_at u hu (by omega), lt_ok]
      refine ⟨_, rfl, ?_⟩
      dsimp only
      refine ⟨by omega, hFy.wr (by decide), fun v hv => ?_⟩
      have e : ctV L 0 (t + 1) (v : Int) = ctV L 0 t (v : Int) + if L (0 + t) = (v : Int) then 1 else 0 := rfl
      rw [Nat.zero_add, hu] at e
      by_cases q : v = u
      · subst q
        rw [upZ_ss, e, if_pos rfl, hy v hv]
        omega
      · rw [upZ_sn (by omega), e, if_neg (by omega)]
        exact hy v hv
    · rintro ⟨w, y⟩ ⟨e1, hFy, hy⟩
      simp only at e1 hFy hy
      subst e1
      dsimp only
      have hPy : LGP N L y := hP.fr (hFy 55 17 (by decide) (by decide)) (hFy.f 64 (by decide) (by decide)) (hFy.f 65 (by decide) (by decide)) (hFy.f 66 (by decide) (by decide)) (hFy.f 69 (by decide) (by decide))
      refine ⟨y, ?_, hy⟩
      unfold GB_X12_laysOften_4
      rw [hPy.1, ck_ok (by omega), ck_ok (by omega), if_pos (by omega)]
    · intro y hy
      unfold GC_X12_laysOften_5
      rw [wrZ_at 0 (by rfl) (by omega)]
      refine ⟨_, rfl, fun v hv => ?_⟩
      unfold taS
      by_cases q : v = 0
      · subst q
        rw [if_pos rfl]
        exact upZ_ss _ _ _ _
      · rw [upZ_sn (by omega), if_neg q]
        exact hy v hv
theorem m_steady {γ : Type} {g : uZ} {N : Nat} {L : Nat → Int} {k : Int × Int → Option γ} (hP : LGP N L g) : ∃ b : Int × Int, lp (fun z => GB_X12_steady_6 g z.1 z.2.1 z.2.2) ((-1), (0, 0)) k = k b ∧ stS L N b.1 b.2 := by
  have hN := hP.le
  have z17 := hP.1
  obtain ⟨b, hQ, h⟩ := lp_while (f := fun z => GB_X12_steady_6 g z.1 z.2.1 z.2.2) (a := ((-1 : Int), ((0 : Int), (0 : Int)))) (k := k) (fun q => ∃ w : Nat, q.2.2 = (w : Int) ∧ w ≤ N ∧ stS L w q.1 q.2.1 ∧ (w < N → w = 0 ∨ L (w - 1) ≠ L w)) (fun q => stS L N q.1 q.2) (fun q => ((N : Int) - q.2.2).toNat) ⟨0, rfl, Nat.zero_le _, stS.zero L, fun _ => Or.inl rfl⟩ (by dsimp only; omega) (by
    rintro ⟨a, l, wi⟩ ⟨w, e1, hw, hst, hbr⟩
    simp only at e1 hst
    subst e1
    dsimp only
    unfold GB_X12_steady_6
    rw [z17, ck_ok (by omega), ck_ok (by omega)]
    by_cases hwN : w = N
    · right
      rw [if_pos (by omega)]
      subst hwN
      exact ⟨_, rfl, hst⟩
    · left
      have hwl : w < N := by omega
      rw [if_neg (by omega), lt_ok]
      obtain ⟨b, ⟨u, e, h1, h2, h3, h4⟩, hl⟩ := lp_while (f := fun q => GB_X12_steady_3 (w : Int) g q) (a := (w : Int) + 1) (k := fun q => GC_X12_steady_5 a l (w : Int) g q) (fun q => ∃ u : Nat, q = (u : Int) ∧ w < u ∧ u ≤ N ∧ ∀ j, w ≤ j → j < u → L j = L w) (fun q => ∃ u : Nat, q = (u : Int) ∧ w < u ∧ u ≤ N ∧ (∀ j, w ≤ j → j < u → L j = L w) ∧ (u < N → L u ≠ L w)) (fun q => ((N : Int) - q).toNat) ⟨w + 1, by omega, by omega, by omega, fun j h1 h2 => by rw [show j = w by omega]⟩ (by omega) (by
        rintro q ⟨u, rfl, h1, h2, h3⟩
        unfold GB_X12_steady_3
        rw [z17, ck_ok (by omega), ck_ok (by omega)]
        by_cases hu : u = N
        · right
          rw [if_pos (by omega)]
          exact ⟨_, rfl, u, rfl, h1, h2, h3, fun h => by omega⟩
        · have l1 := hP.bd (f := u) (by omega)
          have l2 := hP.bd hwl
          rw [if_neg (by omega), hP.at (by omega), cp_ok, hP.at hwl, cp_ok, ck_ok (by omega), ck_ok (by omega)]
          by_cases hc : L u = L w
          · left
            rw [if_pos hc, lt_ok]
            refine ⟨_, rfl, ⟨u + 1, by omega, by omega, by omega, fun j q1 q2 => ?_⟩, by omega⟩
            by_cases hj : j = u
            · subst hj; exact hc
            · exact h3 j q1 (by omega)
          · right
            rw [if_neg hc]
            exact ⟨_, rfl, u, rfl, h1, h2, h3, fun _ => hc⟩)
      rw [hl]
      subst e
      have bw := hP.bd hwl
      have hx := hst.ext (t' := u) (w := w) h1 (Nat.le_refl _) h3 (hbr hwl)
      have hbr' : u < N → u = 0 ∨ L (u - 1) ≠ L u := fun q => Or.inr (by rw [h3 (u - 1) (by omega) (by omega)]; exact fun h => h4 q h.symm)
      have hlen : 0 ≤ l ∧ l ≤ 100 := by
        rcases hst with ⟨-, p2, -⟩ | ⟨c, d, -, p2, p3, -⟩
        · omega
        · have := p3.2.1
          omega
      unfold GC_X12_steady_5 GJ_X12_steady_4
      rw [hP.at hwl, cp_ok, ck_ok (by omega)]
      by_cases h0 : L w = 0
      · rw [if_pos (by omega)]
        exact ⟨_, rfl, ⟨u, rfl, h2, hx.1 h0, hbr'⟩, by dsimp only; omega⟩
      · rw [if_neg (by omega), ck_ok (by omega), ck_ok (by omega)]
        by_cases hc : (u : Int) - (w : Int) ≤ l
        · rw [if_pos hc]
          exact ⟨_, rfl, ⟨u, rfl, h2, hx.2.1 h0 hc, hbr'⟩, by dsimp only; omega⟩
        · rw [if_neg hc, lt_ok]
          exact ⟨_, rfl, ⟨u, rfl, h2, hx.2.2 h0 (by omega), hbr'⟩, by dsimp only; omega⟩)
  exact ⟨b, h, hQ⟩
/-- one lag by its number -/
theorem m_lagAt {g : uZ} {T : Nat → Int} {a1 a2 : Int} (h1 : inR a1) (h2 : inR a2) (h9 : g 55 9 = 0) (hT : ∀ v, v < 50 → g 83 v = T v) (hb : ∀ v, 0 ≤ T v ∧ T v ≤ 100) (h0 : T 0 = 0) : ∃ z, lp (fun z => GB_X12_lagAt_4 a1 a2 z.1 z.2.1 z.2.2) (a1, (1, g)) (fun z => ex2 (fun x => GC_X12_lagAt_5 x) (fun q => some q) z) = some z ∧ (((a1 < 0 ∨ (ul T 50 : Int) ≤ a1 ∨ a2 < 0 ∨ 1 < a2) ∧ z = (0, upZ g 55 9 1)) ∨ (0 ≤ a1 ∧ a1 < (ul T 50 : Int) ∧ 0 ≤ a2 ∧ a2 ≤ 1 ∧ ∃ v : Nat, v < 50 ∧ 0 < T v ∧ ul T v = a1.toNat ∧ z = ((if a2 = 0 then (v : Int) else T v), g))) := by
  have e0 : ul T 1 = 0 := by unfold ul ul; rw [h0]; rfl
  have hth : ∀ _ : Unit, GC_X12_lagAt_5 g = some ((0 : Int), upZ g 55 9 1) := fun _ => by
    unfold GC_X12_lagAt_5
    rw [m_right0 h9 (Or.inl rfl), clZ_ok]
  have hm50 := ul_le T 50
  refine lp_wh (fun q => ∃ t : Nat, q = (a1 - (ul T t : Int), ((t : Int), g)) ∧ 1 ≤ t ∧ t ≤ 50 ∧ (a1 < 0 ∨ (ul T t : Int) ≤ a1)) (fun b => ((a1 < 0 ∨ (ul T 50 : Int) ≤ a1) ∧ b = Sum.inl g) ∨ (0 ≤ a1 ∧ a1 < (ul T 50 : Int) ∧ ((a2 < 0 ∨ 1 < a2) ∧ b = Sum.inr ((0 : Int), upZ g 55 9 1) ∨ 0 ≤ a2 ∧ a2 ≤ 1 ∧ ∃ v : Nat, v < 50 ∧ 0 < T v ∧ ul T v = a1.toNat ∧ b = Sum.inr ((if a2 = 0 then (v : Int) else T v), g)))) (fun q => (50 - q.2.1).toNat) ⟨1, by rw [e0]; simp, by omega, by omega, by rw [e0]; omega⟩ (by dsimp only; omega) ?_ ?_
  · rintro q ⟨t, rfl, ht1, ht, hc⟩
    have u1 := ul_le T t
    dsimp only
    unfold GB_X12_lagAt_4
    rw [ck_ok (by omega)]
    by_cases h50 : t = 50
    · right
      subst h50
      rw [if_pos (by omega)]
      exact ⟨_, rfl, Or.inl ⟨by omega, rfl⟩⟩
    · rw [if_neg (by omega), ck_ok h1]
      by_cases hn : a1 < 0
      · right
        rw [if_pos hn]
        exact ⟨_, rfl, Or.inl ⟨Or.inl hn, rfl⟩⟩
      · have b1 := hb t
        have e : ul T (t + 1) = ul T t + if T t ≤ 0 then 0 else 1 := rfl
        rw [if_neg hn, rdZ_at t rfl (by omega), hT t (by omega), ck_ok (by omega)]
        unfold GJ_X12_lagAt_3
        by_cases hz : T t = 0
        · left
          rw [if_pos (by omega)] at e
          rw [if_pos hz, lt_ok]
          refine ⟨_, rfl, ⟨t + 1, ?_, by omega, by omega, by omega⟩, by dsimp only; omega⟩
          rw [e]
          rfl
        · rw [if_neg (by omega)] at e
          rw [if_neg hz, ck_ok (by omega)]
          by_cases hk : a1 - (ul T t : Int) = 0
          · right
            have hlt := ul_lt (T := T) (a := t) (b := 50) (by omega) (by omega)
            rw [if_pos hk, m_isIn g h2 (by decide) (by decide), cp_ok]
            unfold GJ_X12_lagAt_2
            by_cases hf : 0 ≤ a2 ∧ a2 ≤ 1
            · rw [if_pos hf, m_right1 h9, clZ_ok, ck_ok (by decide), if_neg (by decide), ck_ok h2]
              by_cases hf0 : a2 = 0
              · rw [if_pos hf0]
                exact ⟨_, rfl, Or.inr ⟨by omega, by omega, Or.inr ⟨hf.1, hf.2, t, by omega, by omega, by omega, by rw [if_pos hf0]⟩⟩⟩
              · rw [if_neg hf0, rdZ_at t rfl (by omega), hT t (by omega)]
                exact ⟨_, rfl, Or.inr ⟨by omega, by omega, Or.inr ⟨hf.1, hf.2, t, by omega, by omega, by omega, by rw [if_neg hf0]⟩⟩⟩
            · rw [if_neg hf, m_right0 h9 (Or.inl rfl), clZ_ok, ck_ok (by decide), if_pos rfl]
              exact ⟨_, rfl, Or.inr ⟨by omega, by omega, Or.inl ⟨by omega, rfl⟩⟩⟩
          · left
            rw [if_neg hk, lt_ok, lt_ok]
            refine ⟨_, rfl, ⟨t + 1, ?_, by omega, by omega, by omega⟩, by dsimp only; omega⟩
            rw [e]
            refine Prod.ext ?_ ?_
            · dsimp only
              omega
            · rfl
  · rintro b (⟨hc, rfl⟩ | ⟨hc1, hc2, ⟨hc3, rfl⟩ | ⟨hc3, hc4, v, v1, v2, v3, rfl⟩⟩)
    · refine ⟨_, hth (), Or.inl ⟨by omega, rfl⟩⟩
    · exact ⟨_, rfl, Or.inl ⟨by omega, rfl⟩⟩
    · exact ⟨_, rfl, Or.inr ⟨hc1, hc2, hc3, hc4, v, v1, v2, v3, rfl⟩⟩
