/-! which lags there are -/
def taS (L : Nat → Int) (N v : Nat) : Int := if v = 0 then 0 else (ctV L 0 N (v : Int) : Int)
theorem taS_bd {L : Nat → Int} {N v : Nat} (hN : N ≤ 100) : 0 ≤ taS L N v ∧ taS L N v ≤ 100 := by
  unfold taS
  have := ctV_le L 0 N (v : Int)
  split <;> omega
def ul (T : Nat → Int) : Nat → Nat
  | 0 => 0
  | t + 1 => ul T t + if T t ≤ 0 then 0 else 1
theorem ul_le (T : Nat → Int) (t : Nat) : ul T t ≤ t := by
  induction t with
  | zero => exact Nat.le_refl _
  | succ t ih => unfold ul; split <;> omega
theorem ul_mono (T : Nat → Int) {a b : Nat} (h : a ≤ b) : ul T a ≤ ul T b := by
  induction b with
  | zero => have : a = 0 := by omega
            subst this; exact Nat.le_refl _
  | succ b ih =>
    by_cases hb : a = b + 1
    · subst hb; exact Nat.le_refl _
    · have := ih (by omega)
      have e : ul T (b + 1) = ul T b + if T b ≤ 0 then 0 else 1 := rfl
      rw [e]; split <;> omega
theorem ul_lt {T : Nat → Int} {a b : Nat} (ha : 0 < T a) (hab : a < b) : ul T a < ul T b := by
  have h1 := ul_mono T (a := a + 1) (b := b) hab
  have e : ul T (a + 1) = ul T a + if T a ≤ 0 then 0 else 1 := rfl
  rw [if_neg (by omega)] at e
  omega
theorem ul_uniq {T : Nat → Int} {a b : Nat} (ha : 0 < T a) (hb : 0 < T b) (h : ul T a = ul T b) : a = b := by
  rcases Nat.lt_trichotomy a b with q | q | q
  · have := ul_lt ha q
    omega
  · exact q
  · have := ul_lt hb q
    omega
theorem p4_unlikeLags {g : uZ} {T : Nat → Int} (hT : ∀ v, v < 50 → g 42 v = T v) (hb : ∀ v, 0 ≤ T v ∧ T v ≤ 100) : GF_X4_unlikeLags g = some (ul T 50 : Int) := by
  unfold GF_X4_unlikeLags
  rw [lp_for (fun t => ((ul T t : Int), (t : Int))) 50 (ul T 50 : Int) (by rfl) (by omega)]
  · rfl
  · intro t ht
    have b1 := hb t
    dsimp only
    unfold GB_X4_unlikeLags_2
    rw [ck_ok (by omega), if_neg (by omega), rdZ_at t rfl (by omega), hT t ht, ck_ok (by omega), lt_ok, lt_ok, lt_ok]
    have e : ul T (t + 1) = ul T t + if T t ≤ 0 then 0 else 1 := rfl
    rw [e]
    by_cases h : T t ≤ 0
    · rw [if_pos h, if_pos h]; rfl
    · rw [if_neg h, if_neg h]; rfl
  · dsimp only
    unfold GB_X4_unlikeLags_2
    rw [ck_ok (by omega), if_pos (by omega)]
theorem m_lags {g : uZ} {T : Nat → Int} (hT : ∀ v, v < 50 → g 83 v = T v) (hb : ∀ v, 0 ≤ T v ∧ T v ≤ 100) (h0 : T 0 = 0) : lp (fun z => GB_X12_lags_2 g z.1 z.2) (0, 1) (fun z => GC_X12_lags_3 g z) = some ((ul T 50 : Int), g) := by
  have e0 : ul T 1 = 0 := by unfold ul ul; rw [h0]; rfl
  rw [lp_for (fun t => ((ul T (t + 1) : Int), ((t + 1 : Nat) : Int))) 49 (ul T 50 : Int) (by rw [e0]; rfl) (by omega)]
  · rfl
  · intro t ht
    have b1 := hb (t + 1)
    dsimp only
    unfold GB_X12_lags_2
    rw [ck_ok (by omega), if_neg (by omega), rdZ_at (t + 1) rfl (by omega), hT (t + 1) (by omega), ck_ok (by omega), lt_ok, lt_ok, lt_ok]
    have e : ul T (t + 1 + 1) = ul T (t + 1) + if T (t + 1) ≤ 0 then 0 else 1 := rfl
    rw [e]
    by_cases h : T (t + 1) ≤ 0
    · rw [if_pos h, if_pos h]; rfl
    · rw [if_neg h, if_neg h]; rfl
  · dsimp only
    unfold GB_X12_lags_2
    rw [ck_ok (by omega), if_pos (by omega)]
theorem p4_unlikeLag {g : uZ} {T : Nat → Int} {k : Nat} (hT : ∀ v, v < 50 → g 42 v = T v) (hb : ∀ v, 0 ≤ T v ∧ T v ≤ 100) (hk : k < ul T 50) : ∃ v : Nat, GF_X4_unlikeLag (k : Int) g = some (v : Int) ∧ v < 50 ∧ 0 < T v ∧ ul T v = k := by
  have hk50 := ul_le T 50
  have : ∃ z, GF_X4_unlikeLag (k : Int) g = some z ∧ ∃ v : Nat, z = (v : Int) ∧ v < 50 ∧ 0 < T v ∧ ul T v = k := by
    unfold GF_X4_unlikeLag
    refine lp_wh (fun q => ∃ t : Nat, q = ((ul T t : Int), (t : Int)) ∧ t ≤ 50 ∧ ul T t ≤ k) (fun b => ∃ v : Nat, b = Sum.inr (v : Int) ∧ v < 50 ∧ 0 < T v ∧ ul T v = k) (fun q => (50 - q.2).toNat) ⟨0, rfl, by omega, Nat.zero_le _⟩ (by decide) ?_ ?_
    · rintro q ⟨t, rfl, ht, hle⟩
      have ht50 : t < 50 := by
        rcases Nat.lt_or_ge t 50 with q | q
        · exact q
        · have : t = 50 := by omega
          subst this
          omega
      have b1 := hb t
      have e : ul T (t + 1) = ul T t + if T t ≤ 0 then 0 else 1 := rfl
      dsimp only
      unfold GB_X4_unlikeLag_3 GJ_X4_unlikeLag_2
      rw [ck_ok (by omega), if_neg (by omega), rdZ_at t rfl (by omega), hT t ht50, ck_ok (by omega)]
      by_cases h : T t ≤ 0
      · left
        rw [if_pos h] at e
        rw [if_pos h, lt_ok]
        refine ⟨_, rfl, ⟨t + 1, ?_, by omega, by omega⟩, by dsimp only; omega⟩
        rw [e]
        rfl
      · rw [if_neg h] at e
        rw [if_neg h, ck_ok (by omega), ck_ok (by omega)]
        by_cases h2 : (ul T t : Int) = (k : Int)
        · right
          rw [if_pos h2]
          exact ⟨_, rfl, t, rfl, ht50, by omega, by omega⟩
        · left
          rw [if_neg h2, lt_ok, lt_ok]
          refine ⟨_, rfl, ⟨t + 1, ?_, by omega, by omega⟩, by dsimp only; omega⟩
          rw [e]
          rfl
    · rintro b ⟨v, rfl, h1, h2, h3⟩
      exact ⟨_, rfl, v, rfl, h1, h2, h3⟩
  obtain ⟨z, h1, v, rfl, h2⟩ := this
  exact ⟨v, h1, h2⟩
def cmF (T : Nat → Int) : Nat → Int × Int
  | 0 => (-1, 0)
  | t + 1 => if T t ≤ (cmF T t).2 then cmF T t else ((t : Int), T t)
theorem cmF_in {T : Nat → Int} (hb : ∀ v, 0 ≤ T v ∧ T v ≤ 100) (t : Nat) : ((cmF T t).1 = -1 ∧ (cmF T t).2 = 0) ∨ ∃ u : Nat, u < t ∧ (cmF T t).1 = (u : Int) ∧ (cmF T t).2 = T u ∧ 0 < T u := by
  induction t with
  | zero => exact Or.inl ⟨rfl, rfl⟩
  | succ t ih =>
    have e : cmF T (t + 1) = if T t ≤ (cmF T t).2 then cmF T t else ((t : Int), T t) := rfl
    rw [e]
    by_cases h : T t ≤ (cmF T t).2
    · rw [if_pos h]
      rcases ih with q | ⟨u, h1, h2⟩
      · exact Or.inl q
      · exact Or.inr ⟨u, by omega, h2⟩
    · rw [if_neg h]
      refine Or.inr ⟨t, by omega, rfl, rfl, ?_⟩
      rcases ih with q | ⟨u, h1, h2, h3, h4⟩ <;> omega
theorem p4_commonest {g : uZ} {T : Nat → Int} (hT : ∀ v, v < 50 → g 42 v = T v) (hb : ∀ v, 0 ≤ T v ∧ T v ≤ 100) : GF_X4_commonest g = some (cmF T 50).1 := by
  unfold GF_X4_commonest
  rw [lp_for (fun t => ((cmF T t).1, ((cmF T t).2, (t : Int)))) 50 (cmF T 50).1 (by rfl) (by omega)]
  · rfl
  · intro t ht
    have b1 := hb t
    have b2 : 0 ≤ (cmF T t).2 ∧ (cmF T t).2 ≤ 100 := by
      rcases cmF_in hb t with q | ⟨u, h1, h2, h3, h4⟩
      · omega
      · have := hb u
        omega
    have e : cmF T (t + 1) = if T t ≤ (cmF T t).2 then cmF T t else ((t : Int), T t) := rfl
    dsimp only
    unfold GB_X4_commonest_3 GJ_X4_commonest_2
    rw [ck_ok (by omega), if_neg (by omega), rdZ_at t rfl (by omega), hT t ht, ck_ok (by omega), ck_ok (by omega), e]
    by_cases h : T t ≤ (cmF T t).2
    · rw [if_pos h, if_pos h, lt_ok]
      rfl
    · rw [if_neg h, if_neg h, rdZ_at t rfl (by omega), hT t ht, lt_ok]
      rfl
  · dsimp only
    unfold GB_X4_commonest_3
    rw [ck_ok (by omega), if_pos (by omega)]
def smT (T : Nat → Int) : Nat → Int
  | 0 => 0
  | t + 1 => smT T t + T t
theorem smT_bd {T : Nat → Int} (hb : ∀ v, 0 ≤ T v ∧ T v ≤ 100) (t : Nat) : 0 ≤ smT T t ∧ smT T t ≤ 100 * (t : Int) := by
  induction t with
  | zero => exact ⟨Int.le_refl _, Int.le_refl _⟩
  | succ t ih =>
    have := hb t
    have e : smT T (t + 1) = smT T t + T t := rfl
    rw [e]
    omega
theorem m_common {γ : Type} {g : uZ} {T : Nat → Int} {k : Int × Int → Option γ} (hT : ∀ v, v < 50 → g 83 v = T v) (hb : ∀ v, 0 ≤ T v ∧ T v ≤ 100) (h0 : T 0 = 0) : lp (fun z => GB_X12_common_4 g z.1 z.2.1 z.2.2) ((-1), (0, 1)) k = k ((cmF T 50).1, smT T 50) := by
  have e0 : cmF T 1 = (-1, 0) := by unfold cmF cmF; rw [h0]; rfl
  have e1 : smT T 1 = 0 := by unfold smT smT; rw [h0]; rfl
  rw [lp_for (fun t => ((cmF T (t + 1)).1, (smT T (t + 1), ((t + 1 : Nat) : Int)))) 49 ((cmF T 50).1, smT T 50) (by rw [e0, e1]; rfl) (by omega)]
  · intro t ht
    have b1 := hb (t + 1)
    have b3 := smT_bd hb (t + 1)
    have e : cmF T (t + 1 + 1) = if T (t + 1) ≤ (cmF T (t + 1)).2 then cmF T (t + 1) else (((t + 1 : Nat) : Int), T (t + 1)) := rfl
    have e' : smT T (t + 1 + 1) = smT T (t + 1) + T (t + 1) := rfl
    have ei : (((t + 1 + 1 : Nat)) : Int) = ((t + 1 : Nat) : Int) + 1 := by omega
    dsimp only
    unfold GB_X12_common_4 GJ_X12_common_2 GJ_X12_common_3
    rw [ck_ok (by omega), if_neg (by omega), rdZ_at (t + 1) rfl (by omega), hT (t + 1) (by omega), lt_ok, rdZ_at (t + 1) rfl (by omega), hT (t + 1) (by omega), ck_ok (by omega), e, e', ei]
    rcases cmF_in hb (t + 1) with ⟨c1, c2⟩ | ⟨u, c0, c1, c2, c3⟩
    · rw [c1, c2]
      by_cases h : T (t + 1) ≤ 0
      · rw [if_pos h, if_pos h, lt_ok, c1]
      · rw [if_neg h, if_neg h, ck_ok (by omega), if_pos rfl, lt_ok]
    · have b4 := hb u
      rw [c1, c2]
      by_cases h : T (t + 1) ≤ 0
      · rw [if_pos h, if_pos (by omega), lt_ok, c1]
      · rw [if_neg h, ck_ok (by omega), if_neg (by omega), rdZ_at (t + 1) rfl (by omega), hT (t + 1) (by omega), rdZ_at u rfl (by omega), hT u (by omega), ck_ok (by omega), ck_ok (by omega)]
        by_cases h2 : T (t + 1) ≤ T u
        · rw [if_pos h2, if_pos h2, lt_ok, c1]
        · rw [if_neg h2, if_neg h2, lt_ok]
  · dsimp only
    unfold GB_X12_common_4
    rw [ck_ok (by omega), if_pos (by omega)]
theorem smT_cmT {T : Nat → Int} (hb : ∀ v, 0 ≤ T v ∧ T v ≤ 100) (t : Nat) : smT T t = (cmT (fun v => (T v).toNat) t : Int) := by
  induction t with
  | zero => rfl
  | succ t ih =>
    have := hb t
    have e : smT T (t + 1) = smT T t + T t := rfl
    have e2 : cmT (fun v => (T v).toNat) (t + 1) = cmT (fun v => (T v).toNat) t + (T t).toNat := rfl
    rw [e, e2, ih]
    omega
theorem m_inMiddle {g : uZ} {T : Nat → Int} {l : Nat} (hT : ∀ v, v < 50 → g 83 v = T v) (hb : ∀ v, 0 ≤ T v ∧ T v ≤ 100) (h0 : T 0 = 0) (hl : 1 ≤ l) (hl1 : l ≤ 100) (hh : (l - 1) / 2 < cmT (fun v => (T v).toNat) 50) : ∃ z, GF_X12_inMiddle (l : Int) g = some z ∧ ∃ v : Nat, z = (v : Int) ∧ v < 50 ∧ cmT (fun v => (T v).toNat) v ≤ (l - 1) / 2 ∧ (l - 1) / 2 < cmT (fun v => (T v).toNat) (v + 1) := by
  have e0 : cmT (fun v => (T v).toNat) 1 = 0 := by unfold cmT cmT; rw [h0]; rfl
  have hd : Int.tdiv ((l : Int) - 1) 2 = (((l - 1) / 2 : Nat) : Int) := by
    have : (l : Int) - 1 = ((l - 1 : Nat) : Int) := by omega
    rw [this]
    rfl
  unfold GF_X12_inMiddle
  rw [dvZ_ok (by omega) (by decide) (by decide), hd]
  refine lp_wh (fun q => ∃ t : Nat, q = ((((l - 1) / 2 : Nat) : Int) - (cmT (fun v => (T v).toNat) t : Int), (t : Int)) ∧ t ≤ 50 ∧ cmT (fun v => (T v).toNat) t ≤ (l - 1) / 2) (fun b => ∃ v : Nat, b = (v : Int) ∧ v < 50 ∧ cmT (fun v => (T v).toNat) v ≤ (l - 1) / 2 ∧ (l - 1) / 2 < cmT (fun v => (T v).toNat) (v + 1)) (fun q => (50 - q.2).toNat) ⟨1, by rw [e0]; simp, by omega, by omega⟩ (by dsimp only; omega) ?_ ?_
  · rintro q ⟨t, rfl, ht, hc⟩
    have ht50 : t < 50 := by
      rcases Nat.lt_or_ge t 50 with q | q
      · exact q
      · have : t = 50 := by omega
        subst this
        omega
    have b1 := hb t
    have e : cmT (fun v => (T v).toNat) (t + 1) = cmT (fun v => (T v).toNat) t + (T t).toNat := rfl
    dsimp only
    unfold GB_X12_inMiddle_2
    rw [rdZ_at t rfl (by omega), hT t ht50, ck_ok (by omega), ck_ok (by omega)]
    by_cases h : (((l - 1) / 2 : Nat) : Int) - (cmT (fun v => (T v).toNat) t : Int) < T t
    · right
      rw [if_pos h]
      exact ⟨_, rfl, t, rfl, ht50, hc, by omega⟩
    · left
      rw [if_neg h, rdZ_at t rfl (by omega), hT t ht50, lt_ok, lt_ok]
      refine ⟨_, rfl, ⟨t + 1, ?_, by omega, by omega⟩, by dsimp only; omega⟩
      rw [e]
      refine Prod.ext ?_ ?_ <;> dsimp only <;> omega
  · rintro b ⟨v, rfl, h⟩
    exact ⟨_, rfl, v, rfl, h⟩
theorem cmT_cmT {T : Nat → Int} {S : Nat → Nat} (h : ∀ v, v < 50 → (T v).toNat = S v) {n : Nat} (hn : n ≤ 50) : cmT (fun v => (T v).toNat) n = cmT S n := by
  induction n with
  | zero => rfl
  | succ n ih =>
    unfold cmT
    rw [ih (by omega), h n (by omega)]
