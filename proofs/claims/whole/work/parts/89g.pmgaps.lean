/-! gaps, rough, roughest, mean -/
def gpS (C : Nat) (pl so : Nat → Int) (c : Nat) : Int := if c + 1 < C ∧ so c = so (c + 1) then pl (c + 1) - pl c else -1
theorem gp_b {n C : Nat} {pl so : Nat → Int} (h : MQd n C pl so) (c : Nat) : (gpS C pl so c = -1 ∧ ¬ (c + 1 < C ∧ so c = so (c + 1))) ∨ ((c + 1 < C ∧ so c = so (c + 1)) ∧ gpS C pl so c = pl (c + 1) - pl c ∧ 2 ≤ gpS C pl so c ∧ gpS C pl so c < 800) := by
  unfold gpS
  by_cases q : c + 1 < C ∧ so c = so (c + 1)
  · right
    have b1 := (h.2.2.1 c (by omega)).1
    have b2 := (h.2.2.1 (c + 1) q.1).1
    have b3 := h.2.2.2 c q.1 q.2
    have := h.1
    rw [if_pos q]
    exact ⟨q, rfl, by omega, by omega⟩
  · left
    rw [if_neg q]
    exact ⟨rfl, q⟩
theorem p3_gap {g : uZ} {n C c : Nat} (h44 : g 44 9 = (C : Int)) (h : MQd n C (g 47) (g 48)) (hc : c ≤ 401) : GF_X3_gapBehind (c : Int) g = some (gpS C (g 47) (g 48) c) := by
  have hC := h.2.1
  unfold GF_X3_gapBehind GJ_X3_gapBehind_1 GJ_X3_gapBehind_2 gpS
  rw [p3_has h44 hC (by omega), cp_ok]
  by_cases q1 : c < C
  · rw [if_pos (by omega), ck_ok (by decide), if_neg (by decide), p3_has h44 hC (by omega), cp_ok]
    by_cases q2 : c + 1 < C
    · have b1 := (h.2.2.1 c q1).2
      have b2 := (h.2.2.1 (c + 1) q2).2
      rw [if_pos (by omega), ck_ok (by decide), if_neg (by decide), rdZ_at c rfl (by omega), rdZ_at (c + 1) (by omega) (by omega), ck_ok (by omega), ck_ok (by omega)]
      by_cases q3 : g 48 c = g 48 (c + 1)
      · rw [if_pos q3, rdZ_at (c + 1) (by omega) (by omega), rdZ_at c rfl (by omega), if_pos ⟨q2, q3⟩]
      · rw [if_neg q3, if_neg (fun z => q3 z.2)]
    · rw [if_neg (by omega), ck_ok (by decide), if_pos rfl, if_neg (fun z => q2 z.1)]
  · rw [if_neg (by omega), ck_ok (by decide), if_pos rfl, if_neg (by omega)]
def RM (g2 : uZ) (C : Nat) (pl so : Nat → Int) : Prop := g2 55 49 = (C : Int) ∧ ∀ c, c < C → g2 88 c = pl c ∧ g2 89 c = so c
theorem m_hasGap {g2 : uZ} {n C c : Nat} {pl so : Nat → Int} (hr : RM g2 C pl so) (h : MQd n C pl so) (hc : c ≤ 401) : GF_X12_hasGap (c : Int) g2 = some (if c + 1 < C ∧ so c = so (c + 1) then 1 else 0) := by
  have hC := h.2.1
  unfold GF_X12_hasGap GJ_X12_hasGap_1 GJ_X12_hasGap_2
  rw [hr.1, ck_ok (by omega), ck_ok (by omega)]
  by_cases q2 : c + 1 < C
  · have b1 := (h.2.2.1 c (by omega)).2
    have b2 := (h.2.2.1 (c + 1) q2).2
    rw [if_neg (by omega), rdZ_at (c + 1) (by omega) (by omega), (hr.2 (c + 1) q2).2, rdZ_at c rfl (by omega), (hr.2 c (by omega)).2, ck_ok (by omega), ck_ok (by omega)]
    by_cases q3 : so c = so (c + 1)
    · rw [if_pos q3.symm, bzZ_1, if_pos ⟨q2, q3⟩]
    · rw [if_neg (fun z => q3 z.symm), bzZ_0, if_neg (fun z => q3 z.2)]
  · rw [if_pos (by omega), bzZ_0, if_neg (fun z => q2 z.1)]
theorem m_gapOf {g2 : uZ} {C c : Nat} {pl so : Nat → Int} (hr : RM g2 C pl so) (hC : C ≤ 400) (hc : c + 1 < C) : GF_X12_gapOf (c : Int) g2 = some (pl (c + 1) - pl c) := by
  unfold GF_X12_gapOf
  rw [rdZ_at (c + 1) (by omega) (by omega), (hr.2 (c + 1) hc).1, rdZ_at c rfl (by omega), (hr.2 c (by omega)).1]
def jtS (gp : Nat → Int) : Nat → Int
  | 0 => 0
  | t + 1 => jtS gp t + if gp t = -1 ∨ gp (t + 1) = -1 then 0 else ab (gp (t + 1) - gp t)
def shS (gp : Nat → Int) (v : Nat → Int) : Nat → Int
  | 0 => 0
  | t + 1 => shS gp v t + if gp t = -1 then 0 else ab (v (t + 1) - v t)
def lgG (gp : Nat → Int) : Nat → Int
  | 0 => -1
  | t + 1 => if lgG gp t < gp t then gp t else lgG gp t
def sgG (gp : Nat → Int) : Nat → Int
  | 0 => -1
  | t + 1 => if gp t = -1 then sgG gp t else if sgG gp t = -1 then gp t else if sgG gp t ≤ gp t then sgG gp t else gp t
def suG (gp : Nat → Int) : Nat → Int
  | 0 => 0
  | t + 1 => suG gp t + if gp t = -1 then 0 else gp t
theorem dbC_le (h : Nat → Int) (t : Nat) : dbC h t ≤ t := by
  induction t with
  | zero => exact Nat.le_refl _
  | succ t ih => unfold dbC; split <;> omega
theorem gaps_cl {g : uZ} {n C : Nat} (h44 : g 44 9 = (C : Int)) (h : MQd n C (g 47) (g 48)) (h1 : g 1 2 = (n : Int)) (hx : XOk (g 2)) : GF_X3_gapCount g = some (dbC (gpS C (g 47) (g 48)) C : Int) ∧ GF_X3_jitter g = some (jtS (gpS C (g 47) (g 48)) C) ∧ GF_X3_shimmer g = some (shS (gpS C (g 47) (g 48)) (fun c => g 2 (g 47 c).toNat) C) ∧ GF_X3_longestGap g = some (lgG (gpS C (g 47) (g 48)) C) ∧ GF_X3_shortestGap g = some (sgG (gpS C (g 47) (g 48)) C) ∧ GF_X3_gapSum g = some (suG (gpS C (g 47) (g 48)) C) := by
  have hC := h.2.1
  have hn := h.1
  have gb := gp_b h
  have gr : ∀ c, -1 ≤ gpS C (g 47) (g 48) c ∧ gpS C (g 47) (g 48) c < 800 := fun c => by rcases gb c with q | q <;> omega
  have lr : ∀ t, -1 ≤ lgG (gpS C (g 47) (g 48)) t ∧ lgG (gpS C (g 47) (g 48)) t < 800 := by
    intro t
    induction t with
    | zero => unfold lgG; omega
    | succ t ih => have := gr t; unfold lgG; split <;> omega
  have sr : ∀ t, -1 ≤ sgG (gpS C (g 47) (g 48)) t ∧ sgG (gpS C (g 47) (g 48)) t < 800 := by
    intro t
    induction t with
    | zero => unfold sgG; omega
    | succ t ih => have := gr t; unfold sgG; split <;> (try split) <;> (try split) <;> omega
  have xat : ∀ c, c < C → GF_X7_at (g 47 c) g = some (g 2 (g 47 c).toNat) := fun c hc => by
    have b := (h.2.2.1 c hc).1
    rw [p7_at h1 hn (by omega)]
    unfold atS
    rw [if_pos (by omega)]
  refine ⟨?_, ?_, ?_, ?_, ?_, ?_⟩
  · unfold GF_X3_gapCount
    rw [lp_for (fun t => ((dbC (gpS C (g 47) (g 48)) t : Int), (t : Int))) C (dbC (gpS C (g 47) (g 48)) C : Int) (by rfl) (by omega)]
    · rfl
    · intro t ht
      have q := gr t
      have e : dbC (gpS C (g 47) (g 48)) (t + 1) = dbC (gpS C (g 47) (g 48)) t + if gpS C (g 47) (g 48) t = -1 then 0 else 1 := rfl
      dsimp only
      unfold GB_X3_gapCount_2
      rw [h44, ck_ok (by omega), ck_ok (by omega), if_neg (by omega), p3_gap h44 h (by omega), cp_ok, ck_ok (by omega), lt_ok, lt_ok, lt_ok, e]
      by_cases c : gpS C (g 47) (g 48) t = -1
      · rw [if_pos c, if_pos c]; rfl
      · rw [if_neg c, if_neg c]; rfl
    · dsimp only
      unfold GB_X3_gapCount_2
      rw [h44, ck_ok (by omega), ck_ok (by omega), if_pos (by omega)]
  · unfold GF_X3_jitter
    rw [lp_for (fun t => (jtS (gpS C (g 47) (g 48)) t, (t : Int))) C (jtS (gpS C (g 47) (g 48)) C) (by rfl) (by omega)]
    · rfl
    · intro t ht
      have q := gr t
      have q' := gr (t + 1)
      have e : jtS (gpS C (g 47) (g 48)) (t + 1) = jtS (gpS C (g 47) (g 48)) t + if gpS C (g 47) (g 48) t = -1 ∨ gpS C (g 47) (g 48) (t + 1) = -1 then 0 else ab (gpS C (g 47) (g 48) (t + 1) - gpS C (g 47) (g 48) t) := rfl
      have p1 := p3_gap (c := t + 1) h44 h (by omega)
      rw [Int.natCast_add] at p1
      dsimp only
      unfold GB_X3_jitter_3 GJ_X3_jitter_2
      rw [h44, ck_ok (by omega), ck_ok (by omega), if_neg (by omega), p3_gap h44 h (by omega), cp_ok, ck_ok (by omega), e]
      by_cases c : gpS C (g 47) (g 48) t = -1
      · rw [if_pos c, lt_ok, if_pos (Or.inl c), Int.add_zero]; rfl
      · rw [if_neg c, show ((t : Int) + 1) = (t : Int) + ((1 : Nat) : Int) from rfl, p1, cp_ok, ck_ok (by omega)]
        by_cases d : gpS C (g 47) (g 48) (t + 1) = -1
        · rw [if_pos d, lt_ok, if_pos (Or.inr d), Int.add_zero]; rfl
        · rw [if_neg d, cp_ok, cp_ok, p_abs g (by omega), cp_ok, lt_ok, lt_ok, if_neg (fun z => z.elim c d)]; rfl
    · dsimp only
      unfold GB_X3_jitter_3
      rw [h44, ck_ok (by omega), ck_ok (by omega), if_pos (by omega)]
  · unfold GF_X3_shimmer
    rw [lp_for (fun t => (shS (gpS C (g 47) (g 48)) (fun c => g 2 (g 47 c).toNat) t, (t : Int))) C (shS (gpS C (g 47) (g 48)) (fun c => g 2 (g 47 c).toNat) C) (by rfl) (by omega)]
    · rfl
    · intro t ht
      have q := gr t
      have e : shS (gpS C (g 47) (g 48)) (fun c => g 2 (g 47 c).toNat) (t + 1) = shS (gpS C (g 47) (g 48)) (fun c => g 2 (g 47 c).toNat) t + if gpS C (g 47) (g 48) t = -1 then 0 else ab (g 2 (g 47 (t + 1)).toNat - g 2 (g 47 t).toNat) := rfl
      dsimp only
      unfold GB_X3_shimmer_3 GJ_X3_shimmer_2
      rw [h44, ck_ok (by omega), ck_ok (by omega), if_neg (by omega), p3_gap h44 h (by omega), cp_ok, ck_ok (by omega), e]
      by_cases c : gpS C (g 47) (g 48) t = -1
      · rw [if_pos c, lt_ok, if_pos c, Int.add_zero]; rfl
      · have z : t + 1 < C := by
          rcases gb t with w | w
          · exact absurd w.1 c
          · exact w.1.1
        have x1 := hx (g 47 (t + 1)).toNat
        have x2 := hx (g 47 t).toNat
        have p1 := p3_at (c := t + 1) h44 hC z
        rw [Int.natCast_add] at p1
        rw [if_neg c, show ((t : Int) + 1) = (t : Int) + ((1 : Nat) : Int) from rfl, p1, cp_ok, xat (t + 1) z, cp_ok, p3_at h44 hC ht, cp_ok, xat t ht, cp_ok, p_abs g (by omega), cp_ok, lt_ok, lt_ok, if_neg c]; rfl
    · dsimp only
      unfold GB_X3_shimmer_3
      rw [h44, ck_ok (by omega), ck_ok (by omega), if_pos (by omega)]
  · unfold GF_X3_longestGap
    rw [lp_for (fun t => (lgG (gpS C (g 47) (g 48)) t, (t : Int))) C (lgG (gpS C (g 47) (g 48)) C) (by rfl) (by omega)]
    · rfl
    · intro t ht
      have q := gr t
      have l := lr t
      have e : lgG (gpS C (g 47) (g 48)) (t + 1) = if lgG (gpS C (g 47) (g 48)) t < gpS C (g 47) (g 48) t then gpS C (g 47) (g 48) t else lgG (gpS C (g 47) (g 48)) t := rfl
      dsimp only
      unfold GB_X3_longestGap_2
      rw [h44, ck_ok (by omega), ck_ok (by omega), if_neg (by omega), p3_gap h44 h (by omega), cp_ok, p_max g (by omega) (by omega), cp_ok, lt_ok, e]; rfl
    · dsimp only
      unfold GB_X3_longestGap_2
      rw [h44, ck_ok (by omega), ck_ok (by omega), if_pos (by omega)]
  · unfold GF_X3_shortestGap
    rw [lp_for (fun t => (sgG (gpS C (g 47) (g 48)) t, (t : Int))) C (sgG (gpS C (g 47) (g 48)) C) (by rfl) (by omega)]
    · rfl
    · intro t ht
      have q := gr t
      have l := sr t
      have e : sgG (gpS C (g 47) (g 48)) (t + 1) = if gpS C (g 47) (g 48) t = -1 then sgG (gpS C (g 47) (g 48)) t else if sgG (gpS C (g 47) (g 48)) t = -1 then gpS C (g 47) (g 48) t else if sgG (gpS C (g 47) (g 48)) t ≤ gpS C (g 47) (g 48) t then sgG (gpS C (g 47) (g 48)) t else gpS C (g 47) (g 48) t := rfl
      dsimp only
      unfold GB_X3_shortestGap_4 GJ_X3_shortestGap_2 GJ_X3_shortestGap_3
      rw [h44, ck_ok (by omega), ck_ok (by omega), if_neg (by omega), p3_gap h44 h (by omega), cp_ok, ck_ok (by omega), e]
      by_cases c : gpS C (g 47) (g 48) t = -1
      · rw [if_pos c, if_pos c, lt_ok]; rfl
      · rw [if_neg c, if_neg c, ck_ok (by omega)]
        by_cases d : sgG (gpS C (g 47) (g 48)) t = -1
        · rw [if_pos d, if_pos d, lt_ok]; rfl
        · rw [if_neg d, if_neg d]
          by_cases f : sgG (gpS C (g 47) (g 48)) t ≤ gpS C (g 47) (g 48) t
          · rw [if_pos f, if_pos f, lt_ok]; rfl
          · rw [if_neg f, if_neg f, lt_ok]; rfl
    · dsimp only
      unfold GB_X3_shortestGap_4
      rw [h44, ck_ok (by omega), ck_ok (by omega), if_pos (by omega)]
  · unfold GF_X3_gapSum
    rw [lp_for (fun t => (suG (gpS C (g 47) (g 48)) t, (t : Int))) C (suG (gpS C (g 47) (g 48)) C) (by rfl) (by omega)]
    · rfl
    · intro t ht
      have q := gr t
      have e : suG (gpS C (g 47) (g 48)) (t + 1) = suG (gpS C (g 47) (g 48)) t + if gpS C (g 47) (g 48) t = -1 then 0 else gpS C (g 47) (g 48) t := rfl
      dsimp only
      unfold GB_X3_gapSum_2
      rw [h44, ck_ok (by omega), ck_ok (by omega), if_neg (by omega), p3_gap h44 h (by omega), cp_ok, p_max g (by decide) (by omega), cp_ok, lt_ok, lt_ok, e]
      have e2 : (if 0 < gpS C (g 47) (g 48) t then gpS C (g 47) (g 48) t else 0) = (if gpS C (g 47) (g 48) t = -1 then 0 else gpS C (g 47) (g 48) t) := by
        rcases gb t with w | w
        · rw [w.1]; rfl
        · rw [if_pos (by omega), if_neg (by omega)]
      rw [e2]; rfl
    · dsimp only
      unfold GB_X3_gapSum_2
      rw [h44, ck_ok (by omega), ck_ok (by omega), if_pos (by omega)]
theorem gaps_rf {γ : Type} {g2 : uZ} {n C : Nat} {pl so x : Nat → Int} {k : Int × (Int × (Int × (Int × Int))) → Option γ} (hr : RM g2 C pl so) (h : MQd n C pl so) (h59 : g2 59 = x) (hx : XOk x) : lp (fun z => GB_X12_gaps_7 g2 z.1 z.2.1 z.2.2.1 z.2.2.2.1 z.2.2.2.2.1 z.2.2.2.2.2) (0, (0, (0, ((-1), ((-1), 0))))) k = k ((dbC (gpS C pl so) C : Int), (jtS (gpS C pl so) C, (shS (gpS C pl so) (fun c => x (pl c).toNat) C, (lgG (gpS C pl so) C, sgG (gpS C pl so) C)))) := by
  have hC := h.2.1
  have hn := h.1
  have gb := gp_b h
  have gr : ∀ c, -1 ≤ gpS C pl so c ∧ gpS C pl so c < 800 := fun c => by rcases gb c with q | q <;> omega
  have lr : ∀ t, -1 ≤ lgG (gpS C pl so) t ∧ lgG (gpS C pl so) t < 800 := by
    intro t
    induction t with
    | zero => unfold lgG; omega
    | succ t ih => have := gr t; unfold lgG; split <;> omega
  have sr : ∀ t, -1 ≤ sgG (gpS C pl so) t ∧ sgG (gpS C pl so) t < 800 := by
    intro t
    induction t with
    | zero => unfold sgG; omega
    | succ t ih => have := gr t; unfold sgG; split <;> (try split) <;> (try split) <;> omega
  rw [lp_for (fun t => ((dbC (gpS C pl so) t : Int), (jtS (gpS C pl so) t, (shS (gpS C pl so) (fun c => x (pl c).toNat) t, (lgG (gpS C pl so) t, (sgG (gpS C pl so) t, (t : Int))))))) C ((dbC (gpS C pl so) C : Int), (jtS (gpS C pl so) C, (shS (gpS C pl so) (fun c => x (pl c).toNat) C, (lgG (gpS C pl so) C, sgG (gpS C pl so) C)))) (by rfl) (by omega)]
  · intro t ht
    have ed : dbC (gpS C pl so) (t + 1) = dbC (gpS C pl so) t + if gpS C pl so t = -1 then 0 else 1 := rfl
    have ej : jtS (gpS C pl so) (t + 1) = jtS (gpS C pl so) t + if gpS C pl so t = -1 ∨ gpS C pl so (t + 1) = -1 then 0 else ab (gpS C pl so (t + 1) - gpS C pl so t) := rfl
    have es : shS (gpS C pl so) (fun c => x (pl c).toNat) (t + 1) = shS (gpS C pl so) (fun c => x (pl c).toNat) t + if gpS C pl so t = -1 then 0 else ab (x (pl (t + 1)).toNat - x (pl t).toNat) := rfl
    have el : lgG (gpS C pl so) (t + 1) = if lgG (gpS C pl so) t < gpS C pl so t then gpS C pl so t else lgG (gpS C pl so) t := rfl
    have eg : sgG (gpS C pl so) (t + 1) = if gpS C pl so t = -1 then sgG (gpS C pl so) t else if sgG (gpS C pl so) t = -1 then gpS C pl so t else if sgG (gpS C pl so) t ≤ gpS C pl so t then sgG (gpS C pl so) t else gpS C pl so t := rfl
    have lt' := lr t
    have st' := sr t
    have ei : ((t + 1 : Nat) : Int) = (t : Int) + 1 := by omega
    dsimp only
    unfold GB_X12_gaps_7 GJ_X12_gaps_6
    rw [hr.1, ck_ok (by omega), ck_ok (by omega), if_neg (by omega), m_hasGap hr h (by omega), cp_ok, ed, ej, es, el, eg, ei]
    rcases gb t with ⟨w1, w2⟩ | ⟨w1, w2, w3, w4⟩
    · rw [if_neg w2, ck_ok (by decide), if_pos rfl, lt_ok, w1, if_pos rfl, if_pos (Or.inl rfl), if_pos rfl, if_neg (by omega), if_pos rfl, Int.add_zero, Int.add_zero]
      rfl
    · have b1 := (h.2.2.1 t ht).1
      have b2 := (h.2.2.1 (t + 1) w1.1).1
      have x1 := hx (pl t).toNat
      have x2 := hx (pl (t + 1)).toNat
      have go := m_gapOf (c := t) hr hC w1.1
      rw [← w2] at go
      have hne : ¬ gpS C pl so t = -1 := by omega
      have abs : ab (x (pl t).toNat - x (pl (t + 1)).toNat) = ab (x (pl (t + 1)).toNat - x (pl t).toNat) := by unfold ab; split <;> split <;> omega
      rw [if_pos w1, ck_ok (by decide), if_neg (by decide), lt_ok, rdZ_at t rfl (by omega), (hr.2 t ht).1, rdZ_ok (by omega) (by omega), rdZ_at (t + 1) (by omega) (by omega), (hr.2 (t + 1) w1.1).1, rdZ_ok (by omega) (by omega), h59, m_apart g2 (by omega) (by omega), cp_ok, lt_ok, abs]
      have hg1 := m_hasGap (c := t + 1) hr h (by omega)
      rw [ei] at hg1
      rw [hg1, cp_ok, if_neg hne, if_neg hne, if_neg hne]
      -- the rest: longest and shortest
      have rest : ∀ v33 : Int, GJ_X12_gaps_5 ((dbC (gpS C pl so) t : Int) + 1) (shS (gpS C pl so) (fun c => x (pl c).toNat) t + ab (x (pl (t + 1)).toNat - x (pl t).toNat)) (jtS (gpS C pl so) t) (lgG (gpS C pl so) t) (sgG (gpS C pl so) t) (t : Int) g2 v33 = some (Sum.inl ((dbC (gpS C pl so) t : Int) + 1, (jtS (gpS C pl so) t + v33, (shS (gpS C pl so) (fun c => x (pl c).toNat) t + ab (x (pl (t + 1)).toNat - x (pl t).toNat), ((if lgG (gpS C pl so) t < gpS C pl so t then gpS C pl so t else lgG (gpS C pl so) t), ((if sgG (gpS C pl so) t = -1 then gpS C pl so t else if sgG (gpS C pl so) t ≤ gpS C pl so t then sgG (gpS C pl so) t else gpS C pl so t), (t : Int) + 1)))))) := by
        intro v33
        have l4 : ∀ v38 : Int, GJ_X12_gaps_4 ((dbC (gpS C pl so) t : Int) + 1) (shS (gpS C pl so) (fun c => x (pl c).toNat) t + ab (x (pl (t + 1)).toNat - x (pl t).toNat)) (jtS (gpS C pl so) t + v33) (sgG (gpS C pl so) t) (t : Int) g2 v38 = some (Sum.inl ((dbC (gpS C pl so) t : Int) + 1, (jtS (gpS C pl so) t + v33, (shS (gpS C pl so) (fun c => x (pl c).toNat) t + ab (x (pl (t + 1)).toNat - x (pl t).toNat), (v38, ((if sgG (gpS C pl so) t = -1 then gpS C pl so t else if sgG (gpS C pl so) t ≤ gpS C pl so t then sgG (gpS C pl so) t else gpS C pl so t), (t : Int) + 1)))))) := by
          intro v38
          unfold GJ_X12_gaps_4 GJ_X12_gaps_2 GJ_X12_gaps_3 GJ_X12_gaps_6
          rw [ck_ok (by omega), go, cp_ok]
          by_cases d : sgG (gpS C pl so) t = -1
          · rw [if_pos d, if_pos d, lt_ok]
          · rw [if_neg d, if_neg d, cp_ok, ck_ok (by omega)]
            by_cases f : sgG (gpS C pl so) t ≤ gpS C pl so t
            · rw [if_pos f, if_pos f, lt_ok]
            · rw [if_neg f, if_neg f, lt_ok]
        unfold GJ_X12_gaps_5
        rw [lt_ok, go, cp_ok, ck_ok (by omega), ck_ok (by omega)]
        by_cases c : gpS C pl so t ≤ lgG (gpS C pl so) t
        · rw [if_pos c, l4, if_neg (show ¬ lgG (gpS C pl so) t < gpS C pl so t by omega)]
        · rw [if_neg c, cp_ok, l4, if_pos (show lgG (gpS C pl so) t < gpS C pl so t by omega)]
      rcases gb (t + 1) with ⟨u1, u2⟩ | ⟨u1, u2, u3, u4⟩
      · rw [if_neg u2, ck_ok (by decide), if_pos rfl, rest, if_pos (Or.inr u1)]
        rfl
      · have go1 := m_gapOf (c := t + 1) hr hC u1.1
        rw [← u2, ei] at go1
        have abs2 : ab (gpS C pl so t - gpS C pl so (t + 1)) = ab (gpS C pl so (t + 1) - gpS C pl so t) := by unfold ab; split <;> split <;> omega
        rw [if_pos u1, ck_ok (by decide), if_neg (by decide), go, cp_ok, go1, cp_ok, m_apart g2 (by omega) (by omega), cp_ok, abs2, rest, if_neg (show ¬ (gpS C pl so t = -1 ∨ gpS C pl so (t + 1) = -1) by omega)]
        rfl
  · dsimp only
    unfold GB_X12_gaps_7
    rw [hr.1, ck_ok (by omega), ck_ok (by omega), if_pos (by omega)]
