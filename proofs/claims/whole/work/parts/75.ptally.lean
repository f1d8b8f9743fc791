/-! tallies of lags -/
def ctV (L : Nat → Int) (a : Nat) : Nat → Int → Nat
  | 0, _ => 0
  | l + 1, v => ctV L a l v + if L (a + l) = v then 1 else 0
theorem ctV_le (L : Nat → Int) (a l : Nat) (v : Int) : ctV L a l v ≤ l := by
  induction l with
  | zero => exact Nat.le_refl _
  | succ l ih => unfold ctV; split <;> omega
theorem p4_tally42 {g : uZ} {N a l : Nat} (h16 : g 16 12 = N) (hN : N ≤ 100) (hL : ∀ f, f < N → 0 ≤ g 24 f ∧ g 24 f ≤ 48) (hal : a + l ≤ N) : ∃ z, GF_X4_tallyLags_42 (a : Int) (l : Int) g = some z ∧ z.1 = (l : Int) - (ctV (g 24) a l 0 : Int) ∧ z.2 42 0 = 0 ∧ ∀ v : Nat, 0 < v → v < 50 → z.2 42 v = (ctV (g 24) a l (v : Int) : Int) := by
  unfold GF_X4_tallyLags_42
  refine lp_go (fun t z => z.1 = (t : Int) ∧ z.2 16 12 = (N : Int) ∧ z.2 24 = g 24 ∧ ∀ v : Nat, v < t → z.2 42 v = 0) (fun z => z 16 12 = (N : Int) ∧ z 24 = g 24 ∧ ∀ v : Nat, v < 50 → z 42 v = 0) 50 (by omega) ⟨rfl, h16, rfl, fun v hv => absurd hv (Nat.not_lt_zero _)⟩ ?_ ?_ ?_
  · rintro t ⟨w, z⟩ ht ⟨e1, z16, z24, hz⟩
    simp only at e1 z16 z24 hz
    subst e1
    dsimp only
    unfold GB_X4_tallyLags_42_2
    rw [ck_ok (by omega), if_neg (by omega), wrZ_at t rfl (by omega), lt_ok]
    refine ⟨_, rfl, ?_⟩
    dsimp only
    refine ⟨by omega, by rw [upZ_n (by decide)]; exact z16, by rw [upZ_n (by decide)]; exact z24, fun v hv => ?_⟩
    by_cases q : v = t
    · subst q
      exact upZ_ss _ _ _ _
    · rw [upZ_sn (by omega)]
      exact hz v (by omega)
  · rintro ⟨w, z⟩ ⟨e1, z16, z24, hz⟩
    simp only at e1 z16 z24 hz
    subst e1
    dsimp only
    refine ⟨z, ?_, z16, z24, hz⟩
    unfold GB_X4_tallyLags_42_2
    rw [ck_ok (by omega), if_pos (by omega)]
  · rintro z ⟨z16, z24, hz⟩
    unfold GC_X4_tallyLags_42_7
    refine lp_go (fun t y => y.1 = (t : Int) - (ctV (g 24) a t 0 : Int) ∧ y.2.1 = ((a + t : Nat) : Int) ∧ y.2.2 16 12 = (N : Int) ∧ y.2.2 24 = g 24 ∧ y.2.2 42 0 = 0 ∧ ∀ v : Nat, 0 < v → v < 50 → y.2.2 42 v = (ctV (g 24) a t (v : Int) : Int)) (fun y => y.1 = (l : Int) - (ctV (g 24) a l 0 : Int) ∧ y.2 42 0 = 0 ∧ ∀ v : Nat, 0 < v → v < 50 → y.2 42 v = (ctV (g 24) a l (v : Int) : Int)) l (by omega) ⟨rfl, by simp, z16, z24, hz 0 (by omega), fun v _ hv => by dsimp only; rw [hz v hv]; rfl⟩ ?_ ?_ (fun q hq => ⟨_, rfl, hq⟩)
    · rintro t ⟨c, w, y⟩ ht ⟨e0, e1, y16, y24, y0, hy⟩
      simp only at e0 e1 y16 y24 y0 hy
      subst e0 e1
      have l1 := hL (a + t) (by omega)
      have cl := ctV_le (g 24) a t
      have cl0 := cl 0
      dsimp only
      unfold GB_X4_tallyLags_42_5 GJ_X4_tallyLags_42_4
      rw [ck_ok (by omega), ck_ok (by omega), if_neg (by omega), p5_lagIn y16 hN (by omega), cp_ok, y24, ck_ok (by omega)]
      have e : ∀ v, ctV (g 24) a (t + 1) v = ctV (g 24) a t v + if g 24 (a + t) = v then 1 else 0 := fun v => rfl
      by_cases ha : g 24 (a + t) = 0
      · rw [if_pos (by omega), lt_ok]
        refine ⟨_, rfl, ?_⟩
        dsimp only
        refine ⟨by rw [e, if_pos ha]; omega, by omega, y16, y24, y0, fun v h1 h2 => ?_⟩
        rw [e, if_neg (by omega)]
        exact hy v h1 h2
      · obtain ⟨u, hu⟩ : ∃ u : Nat, g 24 (a + t) = (u : Int) := ⟨(g 24 (a + t)).toNat, by omega⟩
        have hyu := hy u (by omega) (by omega)
        have clu := cl (u : Int)
        rw [if_neg (by omega), if_neg (by omega), rdZ_at u hu (by omega), wrZ_at u hu (by omega), lt_ok, lt_ok]
        refine ⟨_, rfl, ?_⟩
        dsimp only
        refine ⟨by rw [e, if_neg ha]; omega, by omega, by rw [upZ_n (by decide)]; exact y16, by rw [upZ_n (by decide)]; exact y24, by rw [upZ_sn (by omega)]; exact y0, fun v h1 h2 => ?_⟩
        by_cases q : v = u
        · subst q
          rw [upZ_ss, e, if_pos hu, hyu]
          omega
        · rw [upZ_sn (by omega), e, if_neg (by omega)]
          exact hy v h1 h2
    · rintro ⟨c, w, y⟩ ⟨e0, e1, y16, y24, y0, hy⟩
      simp only at e0 e1 y16 y24 y0 hy
      subst e0 e1
      dsimp only
      refine ⟨((l : Int) - (ctV (g 24) a l 0 : Int), y), ?_, rfl, y0, hy⟩
      unfold GB_X4_tallyLags_42_5
      rw [ck_ok (by omega), ck_ok (by omega), if_pos (by omega)]
theorem p4_tally43 {g : uZ} {N a l : Nat} (h16 : g 16 12 = N) (hN : N ≤ 100) (hL : ∀ f, f < N → 0 ≤ g 24 f ∧ g 24 f ≤ 48) (hal : a + l ≤ N) : ∃ z, GF_X4_tallyLags_43 (a : Int) (l : Int) g = some z ∧ z.1 = (l : Int) - (ctV (g 24) a l 0 : Int) ∧ z.2 43 0 = 0 ∧ ∀ v : Nat, 0 < v → v < 50 → z.2 43 v = (ctV (g 24) a l (v : Int) : Int) := by
  unfold GF_X4_tallyLags_43
  refine lp_go (fun t z => z.1 = (t : Int) ∧ z.2 16 12 = (N : Int) ∧ z.2 24 = g 24 ∧ ∀ v : Nat, v < t → z.2 43 v = 0) (fun z => z 16 12 = (N : Int) ∧ z 24 = g 24 ∧ ∀ v : Nat, v < 50 → z 43 v = 0) 50 (by omega) ⟨rfl, h16, rfl, fun v hv => absurd hv (Nat.not_lt_zero _)⟩ ?_ ?_ ?_
  · rintro t ⟨w, z⟩ ht ⟨e1, z16, z24, hz⟩
    simp only at e1 z16 z24 hz
    subst e1
    dsimp only
    unfold GB_X4_tallyLags_43_2
    rw [ck_ok (by omega), if_neg (by omega), wrZ_at t rfl (by omega), lt_ok]
    refine ⟨_, rfl, ?_⟩
    dsimp only
    refine ⟨by omega, by rw [upZ_n (by decide)]; exact z16, by rw [upZ_n (by decide)]; exact z24, fun v hv => ?_⟩
    by_cases q : v = t
    · subst q
      exact upZ_ss _ _ _ _
    · rw [upZ_sn (by omega)]
      exact hz v (by omega)
  · rintro ⟨w, z⟩ ⟨e1, z16, z24, hz⟩
    simp only at e1 z16 z24 hz
    subst e1
    dsimp only
    refine ⟨z, ?_, z16, z24, hz⟩
    unfold GB_X4_tallyLags_43_2
    rw [ck_ok (by omega), if_pos (by omega)]
  · rintro z ⟨z16, z24, hz⟩
    unfold GC_X4_tallyLags_43_7
    refine lp_go (fun t y => y.1 = (t : Int) - (ctV (g 24) a t 0 : Int) ∧ y.2.1 = ((a + t : Nat) : Int) ∧ y.2.2 16 12 = (N : Int) ∧ y.2.2 24 = g 24 ∧ y.2.2 43 0 = 0 ∧ ∀ v : Nat, 0 < v → v < 50 → y.2.2 43 v = (ctV (g 24) a t (v : Int) : Int)) (fun y => y.1 = (l : Int) - (ctV (g 24) a l 0 : Int) ∧ y.2 43 0 = 0 ∧ ∀ v : Nat, 0 < v → v < 50 → y.2 43 v = (ctV (g 24) a l (v : Int) : Int)) l (by omega) ⟨rfl, by simp, z16, z24, hz 0 (by omega), fun v _ hv => by dsimp only; rw [hz v hv]; rfl⟩ ?_ ?_ (fun q hq => ⟨_, rfl, hq⟩)
    · rintro t ⟨c, w, y⟩ ht ⟨e0, e1, y16, y24, y0, hy⟩
      simp only at e0 e1 y16 y24 y0 hy
      subst e0 e1
      have l1 := hL (a + t) (by omega)
      have cl := ctV_le (g 24) a t
      have cl0 := cl 0
      dsimp only
      unfold GB_X4_tallyLags_43_5 GJ_X4_tallyLags_43_4
      rw [ck_ok (by omega), ck_ok (by omega), if_neg (by omega), p5_lagIn y16 hN (by omega), cp_ok, y24, ck_ok (by omega)]
      have e : ∀ v, ctV (g 24) a (t + 1) v = ctV (g 24) a t v + if g 24 (a + t) = v then 1 else 0 := fun v => rfl
      by_cases ha : g 24 (a + t) = 0
      · rw [if_pos (by omega), lt_ok]
        refine ⟨_, rfl, ?_⟩
        dsimp only
        refine ⟨by rw [e, if_pos ha]; omega, by omega, y16, y24, y0, fun v h1 h2 => ?_⟩
        rw [e, if_neg (by omega)]
        exact hy v h1 h2
      · obtain ⟨u, hu⟩ : ∃ u : Nat, g 24 (a + t) = (u : Int) := ⟨(g 24 (a + t)).toNat, by omega⟩
        have hyu := hy u (by omega) (by omega)
        have clu := cl (u : Int)
        rw [if_neg (by omega), if_neg (by omega), rdZ_at u hu (by omega), wrZ_at u hu (by omega), lt_ok, lt_ok]
        refine ⟨_, rfl, ?_⟩
        dsimp only
        refine ⟨by rw [e, if_neg ha]; omega, by omega, by rw [upZ_n (by decide)]; exact y16, by rw [upZ_n (by decide)]; exact y24, by rw [upZ_sn (by omega)]; exact y0, fun v h1 h2 => ?_⟩
        by_cases q : v = u
        · subst q
          rw [upZ_ss, e, if_pos hu, hyu]
          omega
        · rw [upZ_sn (by omega), e, if_neg (by omega)]
          exact hy v h1 h2
    · rintro ⟨c, w, y⟩ ⟨e0, e1, y16, y24, y0, hy⟩
      simp only at e0 e1 y16 y24 y0 hy
      subst e0 e1
      dsimp only
      refine ⟨((l : Int) - (ctV (g 24) a l 0 : Int), y), ?_, rfl, y0, hy⟩
      unfold GB_X4_tallyLags_43_5
      rw [ck_ok (by omega), ck_ok (by omega), if_pos (by omega)]
