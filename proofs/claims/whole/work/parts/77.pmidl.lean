/-! the middle of a tally -/
def cmT (T : Nat → Nat) : Nat → Nat
  | 0 => 0
  | v + 1 => cmT T v + T v
theorem cmT_le {T : Nat → Nat} (h : ∀ v, T v ≤ 100) (n : Nat) : cmT T n ≤ 100 * n := by
  induction n with
  | zero => exact Nat.le_refl _
  | succ n ih => have := h n
                 unfold cmT
                 omega
theorem p_middle42 {g : uZ} {T : Nat → Nat} {l : Nat} (hT : ∀ v, v < 50 → g 42 v = (T v : Int)) (hb : ∀ v, T v ≤ 100) (hl : 1 ≤ l) (hl1 : l ≤ 100) (hh : (l - 1) / 2 < cmT T 50) : ∃ z, GF_X11_middleLag_42 (l : Int) g = some z ∧ ∃ v : Nat, z = (v : Int) ∧ v < 50 ∧ cmT T v ≤ (l - 1) / 2 ∧ (l - 1) / 2 < cmT T (v + 1) := by
  unfold GF_X11_middleLag_42
  refine lp_wh (fun q => ∃ t : Nat, q = ((cmT T t : Int), (t : Int)) ∧ t ≤ 50 ∧ cmT T t ≤ (l - 1) / 2) (fun b => ∃ v : Nat, b = Sum.inr (v : Int) ∧ v < 50 ∧ cmT T v ≤ (l - 1) / 2 ∧ (l - 1) / 2 < cmT T (v + 1)) (fun q => (50 - q.2).toNat) ⟨0, rfl, by omega, Nat.zero_le _⟩ (by decide) ?_ ?_
  · rintro q ⟨t, rfl, ht, hc⟩
    have ht50 : t < 50 := by
      rcases Nat.lt_or_ge t 50 with q | q
      · exact q
      · have : t = 50 := by omega
        subst this
        omega
    have c1 := cmT_le hb t
    have c2 := hb t
    have e : cmT T (t + 1) = cmT T t + T t := rfl
    dsimp only
    unfold GB_X11_middleLag_42_2
    rw [ck_ok (by omega), if_neg (by omega), rdZ_at t rfl (by omega), hT t ht50, lt_ok, dvZ_ok (by omega) (by decide) (by decide), ck_ok (by omega)]
    have hd : Int.tdiv ((l : Int) - 1) 2 = (((l - 1) / 2 : Nat) : Int) := by
      have : (l : Int) - 1 = ((l - 1 : Nat) : Int) := by omega
      rw [this]
      rfl
    rw [hd, ck_ok (by omega)]
    by_cases h : (cmT T t : Int) + (T t : Int) ≤ (((l - 1) / 2 : Nat) : Int)
    · left
      rw [if_pos h, lt_ok]
      refine ⟨_, rfl, ⟨t + 1, ?_, by omega, by omega⟩, ?_⟩
      · rw [e]
        simp
      · dsimp only
        omega
    · right
      rw [if_neg h]
      exact ⟨_, rfl, t, rfl, ht50, hc, by omega⟩
  · rintro b ⟨v, rfl, h1, h2, h3⟩
    exact ⟨_, rfl, v, rfl, h1, h2, h3⟩
theorem p_middle43 {g : uZ} {T : Nat → Nat} {l : Nat} (hT : ∀ v, v < 50 → g 43 v = (T v : Int)) (hb : ∀ v, T v ≤ 100) (hl : 1 ≤ l) (hl1 : l ≤ 100) (hh : (l - 1) / 2 < cmT T 50) : ∃ z, GF_X11_middleLag_43 (l : Int) g = some z ∧ ∃ v : Nat, z = (v : Int) ∧ v < 50 ∧ cmT T v ≤ (l - 1) / 2 ∧ (l - 1) / 2 < cmT T (v + 1) := by
  unfold GF_X11_middleLag_43
  refine lp_wh (fun q => ∃ t : Nat, q = ((cmT T t : Int), (t : Int)) ∧ t ≤ 50 ∧ cmT T t ≤ (l - 1) / 2) (fun b => ∃ v : Nat, b = Sum.inr (v : Int) ∧ v < 50 ∧ cmT T v ≤ (l - 1) / 2 ∧ (l - 1) / 2 < cmT T (v + 1)) (fun q => (50 - q.2).toNat) ⟨0, rfl, by omega, Nat.zero_le _⟩ (by decide) ?_ ?_
  · rintro q ⟨t, rfl, ht, hc⟩
    have ht50 : t < 50 := by
      rcases Nat.lt_or_ge t 50 with q | q
      · exact q
      · have : t = 50 := by omega
        subst this
        omega
    have c1 := cmT_le hb t
    have c2 := hb t
    have e : cmT T (t + 1) = cmT T t + T t := rfl
    dsimp only
    unfold GB_X11_middleLag_43_2
    rw [ck_ok (by omega), if_neg (by omega), rdZ_at t rfl (by omega), hT t ht50, lt_ok, dvZ_ok (by omega) (by decide) (by decide), ck_ok (by omega)]
    have hd : Int.tdiv ((l : Int) - 1) 2 = (((l - 1) / 2 : Nat) : Int) := by
      have : (l : Int) - 1 = ((l - 1 : Nat) : Int) := by omega
      rw [this]
      rfl
    rw [hd, ck_ok (by omega)]
    by_cases h : (cmT T t : Int) + (T t : Int) ≤ (((l - 1) / 2 : Nat) : Int)
    · left
      rw [if_pos h, lt_ok]
      refine ⟨_, rfl, ⟨t + 1, ?_, by omega, by omega⟩, ?_⟩
      · rw [e]
        simp
      · dsimp only
        omega
    · right
      rw [if_neg h]
      exact ⟨_, rfl, t, rfl, ht50, hc, by omega⟩
  · rintro b ⟨v, rfl, h1, h2, h3⟩
    exact ⟨_, rfl, v, rfl, h1, h2, h3⟩
