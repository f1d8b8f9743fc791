/-! frames -/
def Fr (L : List Nat) (M : List (Nat × Nat)) (g g' : uZ) : Prop := ∀ c j, c ∉ L → (c, j) ∉ M → g' c j = g c j
theorem Fr.rf {L : List Nat} {M : List (Nat × Nat)} {g : uZ} : Fr L M g g := fun _ _ _ _ => rfl
theorem Fr.tr {L L' : List Nat} {M M' : List (Nat × Nat)} {g g1 g2 : uZ} (h1 : Fr L M g g1) (h2 : Fr L' M' g1 g2) (hL : ∀ c ∈ L', c ∈ L) (hM : ∀ q ∈ M', q ∈ M) : Fr L M g g2 := fun c j hc hj => (h2 c j (fun h => hc (hL c h)) (fun h => hj (hM _ h))).trans (h1 c j hc hj)
theorem Fr.wr {L : List Nat} {M : List (Nat × Nat)} {g g1 : uZ} {c k : Nat} {x : Int} (h1 : Fr L M g g1) (hc : c ∈ L) : Fr L M g (upZ g1 c k x) := fun c' j h9 hj => by
  have hn : c' ≠ c := fun e => h9 (e ▸ hc)
  show upZ g1 c k x c' j = _
  unfold upZ
  rw [if_neg hn]
  exact h1 c' j h9 hj
theorem Fr.pf {L : List Nat} {M : List (Nat × Nat)} {g g1 : uZ} {c k : Nat} {x : Int} (h1 : Fr L M g g1) (hc : (c, k) ∈ M) : Fr L M g (upZ g1 c k x) := fun c' j h9 hj => by
  show upZ g1 c k x c' j = _
  unfold upZ
  by_cases hn : c' = c
  · subst hn
    rw [if_pos rfl]
    have hk : j ≠ k := fun e => hj (e ▸ hc)
    simp only [if_neg hk]
    exact h1 c' j h9 hj
  · rw [if_neg hn]
    exact h1 c' j h9 hj
theorem lt_x {α β : Type} {e : α} {k : α → Option β} {z : β} (h : lt e k = some z) : ∃ v, k v = some z := ⟨_, h⟩
theorem rdZ_x {β : Type} {f : Nat → Int} {n : Nat} {i : Int} {k : Int → Option β} {z : β} (h : rdZ f n i k = some z) : ∃ v, k v = some z := by
  unfold rdZ at h
  split at h
  · exact ⟨_, h⟩
  · cases h
theorem wrZ_x {β : Type} {g : uZ} {c n : Nat} {i x : Int} {k : uZ → Option β} {z : β} (h : wrZ g c n i x k = some z) : ∃ j, k (upZ g c j x) = some z := by
  unfold wrZ at h
  split at h
  · exact ⟨_, h⟩
  · cases h
theorem dvZ_x {β : Type} {x y : Int} {k : Int → Option β} {z : β} (h : dvZ x y k = some z) : ∃ v, k v = some z := by
  unfold dvZ at h
  split at h
  · exact ⟨_, h⟩
  · cases h
theorem rmdZ_x {β : Type} {x y : Int} {k : Int → Option β} {z : β} (h : rmdZ x y k = some z) : ∃ v, k v = some z := by
  unfold rmdZ at h
  split at h
  · exact ⟨_, h⟩
  · cases h
theorem bzZ_x {β : Type} {x : Int} {k : Option β} {z : β} (h : bzZ x k = some z) : k = some z := by
  unfold bzZ at h
  split at h
  · exact h
  · cases h
theorem clZ_x {α β : Type} {f : Option (α × uZ)} {k : α → uZ → Option β} {z : β} (h : clZ f k = some z) : ∃ v g, f = some (v, g) ∧ k v g = some z := by
  unfold clZ at h
  split at h
  · exact ⟨_, _, rfl, h⟩
  · cases h
theorem iter_x {α β : Type} {f : α → Option (α ⊕ β)} {P : α → Prop} {Q : β → Prop} (hf : ∀ a r, P a → f a = some r → (match r with | .inl a2 => P a2 | .inr b => Q b)) : ∀ (n : Nat) (a : α) (b : β), P a → iter n f a = some b → Q b
  | 0, _, _, _, h => by unfold iter at h; cases h
  | n + 1, a, b, hP, h => by
    unfold iter at h
    split at h
    · rename_i a2 e
      exact iter_x hf n a2 b (hf a _ hP e) h
    · rename_i b2 e
      cases h
      exact hf a _ hP e
    · cases h
theorem lp_x {α β γ : Type} {f : α → Option (α ⊕ β)} {a : α} {k : β → Option γ} {z : γ} {P : α → Prop} {Q : β → Prop} (h : lp f a k = some z) (ha : P a) (hf : ∀ a r, P a → f a = some r → (match r with | .inl a2 => P a2 | .inr b => Q b)) : ∃ b, Q b ∧ k b = some z := by
  obtain ⟨b, h1, h2⟩ := lp_e h
  exact ⟨b, iter_x hf FU a b ha h1, h2⟩
theorem wrZ_f {β : Type} {L : List Nat} {M : List (Nat × Nat)} {g0 g : uZ} {c n : Nat} {i x : Int} {k : uZ → Option β} {z : β} (hf : Fr L M g0 g) (hc : c ∈ L) (h : wrZ g c n i x k = some z) : ∃ g2, Fr L M g0 g2 ∧ k g2 = some z := by
  obtain ⟨j, h⟩ := wrZ_x h
  exact ⟨_, Fr.wr hf hc, h⟩
theorem pfZ_f {β : Type} {L : List Nat} {M : List (Nat × Nat)} {g0 g : uZ} {c j : Nat} {x : Int} {k : uZ → Option β} {z : β} (hf : Fr L M g0 g) (hc : (c, j) ∈ M) (h : pfZ g c j x k = some z) : ∃ g2, Fr L M g0 g2 ∧ k g2 = some z := ⟨_, Fr.pf hf hc, h⟩
theorem pfZ_x {β : Type} {g : uZ} {c j : Nat} {x : Int} {k : uZ → Option β} {z : β} (h : pfZ g c j x k = some z) : ∃ v, v = upZ g c j x ∧ k v = some z := ⟨_, rfl, h⟩
theorem it_x {α : Type} {c : Prop} [Decidable c] {x y : Option α} {z : α} (h : (if c then x else y) = some z) : x = some z ∨ y = some z := by
  split at h
  · exact Or.inl h
  · exact Or.inr h
def OpV (Inv : uS → Prop) (A B : uS → Option (Int32 × uS)) : Prop := ∀ σ, Inv σ → ∃ r σ1 σ2, A σ = some (r, σ1) ∧ B σ1 = some (r, σ2) ∧ Inv σ2
def OpT (Inv : uS → Prop) (xs : List (Nat × Int32)) (A : uS → Option ((Int32 ⊕ Nat) × uS)) (B : uS → Option (Int32 × uS)) : Prop := ∀ σ, Inv σ → (∃ r σ1 σ2, A σ = some (.inl r, σ1) ∧ B σ1 = some (r, σ2) ∧ σ2 55 9 = 0 ∧ Inv σ2) ∨ (∃ q ∈ xs, ∃ r σ1 σ2, A σ = some (.inr q.1, σ1) ∧ B σ1 = some (r, σ2) ∧ σ2 55 9 = q.2 ∧ Inv σ2)
def fp_0 (L : List Nat) (M : List (Nat × Nat)) (g0 : uZ) (z : (Int × uZ)) : Prop := Fr L M g0 z.2
def fp_1 (L : List Nat) (M : List (Nat × Nat)) (g0 : uZ) (z : ((Int × uZ) ⊕ uZ)) : Prop := match z with
  | .inl q => fp_0 L M g0 q
  | .inr q => Fr L M g0 q
def fp_2 (L : List Nat) (M : List (Nat × Nat)) (g0 : uZ) (z : (Int × (Int × uZ))) : Prop := fp_0 L M g0 z.2
def fp_3 (L : List Nat) (M : List (Nat × Nat)) (g0 : uZ) (z : ((Int × (Int × uZ)) ⊕ uZ)) : Prop := match z with
  | .inl q => fp_2 L M g0 q
  | .inr q => Fr L M g0 q
def fp_4 (L : List Nat) (M : List (Nat × Nat)) (g0 : uZ) (z : ((Int × (Int × uZ)) ⊕ (Int × uZ))) : Prop := match z with
  | .inl q => fp_2 L M g0 q
  | .inr q => fp_0 L M g0 q
def fp_5 (L : List Nat) (M : List (Nat × Nat)) (g0 : uZ) (z : (Unit ⊕ (Int × uZ))) : Prop := match z with
  | .inl q => True
  | .inr q => fp_0 L M g0 q
def fp_6 (L : List Nat) (M : List (Nat × Nat)) (g0 : uZ) (z : (Int ⊕ (Unit ⊕ (Int × uZ)))) : Prop := match z with
  | .inl q => True
  | .inr q => fp_5 L M g0 q
def fp_7 (L : List Nat) (M : List (Nat × Nat)) (g0 : uZ) (z : ((Int × uZ) ⊕ (Int × uZ))) : Prop := match z with
  | .inl q => fp_0 L M g0 q
  | .inr q => fp_0 L M g0 q
def fp_8 (L : List Nat) (M : List (Nat × Nat)) (g0 : uZ) (z : (uZ ⊕ (Int × uZ))) : Prop := match z with
  | .inl q => Fr L M g0 q
  | .inr q => fp_0 L M g0 q
def fp_9 (L : List Nat) (M : List (Nat × Nat)) (g0 : uZ) (z : ((Int × (Int × uZ)) ⊕ (uZ ⊕ (Int × uZ)))) : Prop := match z with
  | .inl q => fp_2 L M g0 q
  | .inr q => fp_8 L M g0 q
def fp_10 (L : List Nat) (M : List (Nat × Nat)) (g0 : uZ) (z : ((Int ⊕ Nat) × uZ)) : Prop := Fr L M g0 z.2
theorem fJ_X7_put_1 {g0 : uZ} {g4 : uZ} {zr : uZ} (hf : Fr [2] [] g0 g4) (h : GJ_X7_put_1 g4 = some zr) : Fr [2] [] g0 zr := by
  unfold GJ_X7_put_1 at h
  cases h
  exact hf
theorem fF_X7_put {g0 : uZ} {a1 : Int} {a2 : Int} {g : uZ} {zr : uZ} (hf : Fr [2] [] g0 g) (h : GF_X7_put a1 a2 g = some zr) : Fr [2] [] g0 zr := by
  unfold GF_X7_put at h
  obtain ⟨_, hc, h⟩ := cp_e h
  clear hc
  replace h := (ck_e h).2
  rcases it_x h with h | h
  · skip
    exact fJ_X7_put_1 hf h
  · skip
    obtain ⟨_, hf1, h⟩ := wrZ_f hf (by decide) h
    exact fJ_X7_put_1 hf1 h
theorem fJ_X7_append_1 {g0 : uZ} {g4 : uZ} {zr : uZ} (hf : Fr [2] [(1, 2)] g0 g4) (h : GJ_X7_append_1 g4 = some zr) : Fr [2] [(1, 2)] g0 zr := by
  unfold GJ_X7_append_1 at h
  cases h
  exact hf
theorem fF_X7_append {g0 : uZ} {a1 : Int} {g : uZ} {zr : uZ} (hf : Fr [2] [(1, 2)] g0 g) (h : GF_X7_append a1 g = some zr) : Fr [2] [(1, 2)] g0 zr := by
  unfold GF_X7_append at h
  replace h := (ck_e h).2
  rcases it_x h with h | h
  · skip
    exact fJ_X7_append_1 hf h
  · skip
    obtain ⟨_, hf1, h⟩ := wrZ_f hf (by decide) h
    obtain ⟨_, hf2, h⟩ := pfZ_f hf1 (by decide) h
    exact fJ_X7_append_1 hf2 h
theorem fF_X7_drop {g0 : uZ} {a1 : Int} {g : uZ} {zr : uZ} (hf : Fr [] [(1, 2)] g0 g) (h : GF_X7_drop a1 g = some zr) : Fr [] [(1, 2)] g0 zr := by
  unfold GF_X7_drop at h
  obtain ⟨_, hc, h⟩ := cp_e h
  clear hc
  obtain ⟨_, hf1, h⟩ := pfZ_f hf (by decide) h
  cases h
  exact hf1
theorem fB_X7_tapeNumber_2 {g0 : uZ} {a1 : Int} {w1 : Int} {g2 : uZ} {zr : ((Int × uZ) ⊕ uZ)} (hf : Fr [3] [(1, 3)] g0 g2) (h : GB_X7_tapeNumber_2 a1 w1 g2 = some zr) : fp_1 [3] [(1, 3)] g0 zr := by
  unfold GB_X7_tapeNumber_2 at h
  replace h := (ck_e h).2
  rcases it_x h with h | h
  · skip
    cases h
    exact hf
  · skip
    replace h := (ck_e h).2
    rcases it_x h with h | h
    · skip
      cases h
      exact hf
    · skip
      obtain ⟨_, hf1, h⟩ := wrZ_f hf (by decide) h
      obtain ⟨_, hf2, h⟩ := pfZ_f hf1 (by decide) h
      obtain ⟨_, h⟩ := lt_x h
      cases h
      exact hf2
theorem fC_X7_tapeNumber_3 {g0 : uZ} {g3 : uZ} {zr : uZ} (hf : Fr [3] [(1, 3)] g0 g3) (h : GC_X7_tapeNumber_3 g3 = some zr) : Fr [3] [(1, 3)] g0 zr := by
  unfold GC_X7_tapeNumber_3 at h
  cases h
  exact hf
theorem fF_X7_tapeNumber {g0 : uZ} {a1 : Int} {g : uZ} {zr : uZ} (hf : Fr [3] [(1, 3)] g0 g) (h : GF_X7_tapeNumber a1 g = some zr) : Fr [3] [(1, 3)] g0 zr := by
  unfold GF_X7_tapeNumber at h
  obtain ⟨z, hz, h⟩ := lp_x (P := (fun q => fp_0 [3] [(1, 3)] g0 q)) (Q := (fun q => Fr [3] [(1, 3)] g0 q)) h hf (fun q r hq h => by have h9 := fB_X7_tapeNumber_2 hq h; rcases r with r | r <;> exact h9)
  exact fC_X7_tapeNumber_3 hz h
theorem fB_X7_appendFromTape_2 {g0 : uZ} {a1 : Int} {w1 : Int} {g2 : uZ} {zr : ((Int × uZ) ⊕ uZ)} (hf : Fr [2] [(1, 2), (1, 3)] g0 g2) (h : GB_X7_appendFromTape_2 a1 w1 g2 = some zr) : fp_1 [2] [(1, 2), (1, 3)] g0 zr := by
  unfold GB_X7_appendFromTape_2 at h
  replace h := (ck_e h).2
  replace h := (ck_e h).2
  rcases it_x h with h | h
  · skip
    cases h
    exact hf
  · skip
    replace h := (ck_e h).2
    rcases it_x h with h | h
    · skip
      cases h
      exact hf
    · skip
      obtain ⟨_, h⟩ := rdZ_x h
      obtain ⟨_, hc, h⟩ := cp_e h
      have hf1 := Fr.tr hf (fF_X7_append Fr.rf hc) (by decide) (by decide)
      clear hc
      obtain ⟨_, h⟩ := lt_x h
      cases h
      exact hf1
theorem fC_X7_appendFromTape_3 {g0 : uZ} {g3 : uZ} {zr : uZ} (hf : Fr [2] [(1, 2), (1, 3)] g0 g3) (h : GC_X7_appendFromTape_3 g3 = some zr) : Fr [2] [(1, 2), (1, 3)] g0 zr := by
  unfold GC_X7_appendFromTape_3 at h
  obtain ⟨_, hf1, h⟩ := pfZ_f hf (by decide) h
  cases h
  exact hf1
theorem fF_X7_appendFromTape {g0 : uZ} {a1 : Int} {g : uZ} {zr : uZ} (hf : Fr [2] [(1, 2), (1, 3)] g0 g) (h : GF_X7_appendFromTape a1 g = some zr) : Fr [2] [(1, 2), (1, 3)] g0 zr := by
  unfold GF_X7_appendFromTape at h
  obtain ⟨z, hz, h⟩ := lp_x (P := (fun q => fp_0 [2] [(1, 2), (1, 3)] g0 q)) (Q := (fun q => Fr [2] [(1, 2), (1, 3)] g0 q)) h hf (fun q r hq h => by have h9 := fB_X7_appendFromTape_2 hq h; rcases r with r | r <;> exact h9)
  exact fC_X7_appendFromTape_3 hz h
theorem fJ_X0_put_1 {g0 : uZ} {g4 : uZ} {zr : uZ} (hf : Fr [5] [] g0 g4) (h : GJ_X0_put_1 g4 = some zr) : Fr [5] [] g0 zr := by
  unfold GJ_X0_put_1 at h
  cases h
  exact hf
theorem fF_X0_put {g0 : uZ} {a1 : Int} {a2 : Int} {g : uZ} {zr : uZ} (hf : Fr [5] [] g0 g) (h : GF_X0_put a1 a2 g = some zr) : Fr [5] [] g0 zr := by
  unfold GF_X0_put at h
  obtain ⟨_, hc, h⟩ := cp_e h
  clear hc
  replace h := (ck_e h).2
  rcases it_x h with h | h
  · skip
    exact fJ_X0_put_1 hf h
  · skip
    obtain ⟨_, hf1, h⟩ := wrZ_f hf (by decide) h
    exact fJ_X0_put_1 hf1 h
theorem fF_X9_set_17 {g0 : uZ} {a1 : Int} {a2 : Int} {a3 : Int} {g : uZ} {zr : uZ} (hf : Fr [] [(17, 0), (17, 1), (17, 2)] g0 g) (h : GF_X9_set_17 a1 a2 a3 g = some zr) : Fr [] [(17, 0), (17, 1), (17, 2)] g0 zr := by
  unfold GF_X9_set_17 at h
  obtain ⟨_, hf1, h⟩ := pfZ_f hf (by decide) h
  obtain ⟨_, hf2, h⟩ := pfZ_f hf1 (by decide) h
  obtain ⟨_, hf3, h⟩ := pfZ_f hf2 (by decide) h
  cases h
  exact hf3
theorem fF_X9_set_18 {g0 : uZ} {a1 : Int} {a2 : Int} {a3 : Int} {g : uZ} {zr : uZ} (hf : Fr [] [(18, 0), (18, 1), (18, 2)] g0 g) (h : GF_X9_set_18 a1 a2 a3 g = some zr) : Fr [] [(18, 0), (18, 1), (18, 2)] g0 zr := by
  unfold GF_X9_set_18 at h
  obtain ⟨_, hf1, h⟩ := pfZ_f hf (by decide) h
  obtain ⟨_, hf2, h⟩ := pfZ_f hf1 (by decide) h
  obtain ⟨_, hf3, h⟩ := pfZ_f hf2 (by decide) h
  cases h
  exact hf3
theorem fF_X9_set_28 {g0 : uZ} {a1 : Int} {a2 : Int} {a3 : Int} {g : uZ} {zr : uZ} (hf : Fr [] [(28, 0), (28, 1), (28, 2)] g0 g) (h : GF_X9_set_28 a1 a2 a3 g = some zr) : Fr [] [(28, 0), (28, 1), (28, 2)] g0 zr := by
  unfold GF_X9_set_28 at h
  obtain ⟨_, hf1, h⟩ := pfZ_f hf (by decide) h
  obtain ⟨_, hf2, h⟩ := pfZ_f hf1 (by decide) h
  obtain ⟨_, hf3, h⟩ := pfZ_f hf2 (by decide) h
  cases h
  exact hf3
theorem fJ_X2_measure_2 {g0 : uZ} {a1 : Int} {v16 : Int} {w11 : Int} {g17 : uZ} {v20 : Int} {zr : ((Int × (Int × uZ)) ⊕ uZ)} (hf : Fr [7, 8, 9, 10] [] g0 g17) (h : GJ_X2_measure_2 a1 v16 w11 g17 v20 = some zr) : fp_3 [7, 8, 9, 10] [] g0 zr := by
  unfold GJ_X2_measure_2 at h
  obtain ⟨_, hf1, h⟩ := wrZ_f hf (by decide) h
  obtain ⟨_, h⟩ := lt_x h
  cases h
  exact hf1
theorem fB_X2_measure_3 {g0 : uZ} {a1 : Int} {v6 : Int} {v7 : Int} {v9 : Int} {w10 : Int} {w11 : Int} {g12 : uZ} {zr : ((Int × (Int × uZ)) ⊕ uZ)} (hf : Fr [7, 8, 9, 10] [] g0 g12) (h : GB_X2_measure_3 a1 v6 v7 v9 w10 w11 g12 = some zr) : fp_3 [7, 8, 9, 10] [] g0 zr := by
  unfold GB_X2_measure_3 at h
  replace h := (ck_e h).2
  replace h := (ck_e h).2
  rcases it_x h with h | h
  · skip
    cases h
    exact hf
  · skip
    obtain ⟨_, hc, h⟩ := cp_e h
    clear hc
    obtain ⟨_, h⟩ := lt_x h
    obtain ⟨_, hf1, h⟩ := wrZ_f hf (by decide) h
    replace h := (ck_e h).2
    rcases it_x h with h | h
    · skip
      exact fJ_X2_measure_2 hf1 h
    · skip
      obtain ⟨_, hc, h⟩ := cp_e h
      clear hc
      exact fJ_X2_measure_2 hf1 h
theorem fC_X2_measure_4 {g0 : uZ} {a1 : Int} {v6 : Int} {v7 : Int} {g13 : uZ} {zr : uZ} (hf : Fr [7, 8, 9, 10] [] g0 g13) (h : GC_X2_measure_4 a1 v6 v7 g13 = some zr) : Fr [7, 8, 9, 10] [] g0 zr := by
  unfold GC_X2_measure_4 at h
  obtain ⟨_, hc, h⟩ := cp_e h
  clear hc
  obtain ⟨_, hf1, h⟩ := wrZ_f hf (by decide) h
  obtain ⟨_, hf2, h⟩ := wrZ_f hf1 (by decide) h
  cases h
  exact hf2
theorem fJ_X2_measure_5 {g0 : uZ} {g : uZ} {zr : uZ} (hf : Fr [7, 8, 9, 10] [] g0 g) (h : GJ_X2_measure_5 g = some zr) : Fr [7, 8, 9, 10] [] g0 zr := by
  unfold GJ_X2_measure_5 at h
  cases h
  exact hf
theorem fF_X2_measure {g0 : uZ} {a1 : Int} {g : uZ} {zr : uZ} (hf : Fr [7, 8, 9, 10] [] g0 g) (h : GF_X2_measure a1 g = some zr) : Fr [7, 8, 9, 10] [] g0 zr := by
  unfold GF_X2_measure at h
  replace h := (ck_e h).2
  rcases it_x h with h | h
  · skip
    exact fJ_X2_measure_5 hf h
  · skip
    rcases it_x h with h | h
    · skip
      exact fJ_X2_measure_5 hf h
    · skip
      obtain ⟨_, h⟩ := rdZ_x h
      replace h := (ck_e h).2
      rcases it_x h with h | h
      · skip
        obtain ⟨_, hc, h⟩ := cp_e h
        clear hc
        obtain ⟨_, h⟩ := lt_x h
        obtain ⟨_, hc, h⟩ := cp_e h
        clear hc
        obtain ⟨_, hc, h⟩ := cp_e h
        clear hc
        obtain ⟨_, hc, h⟩ := cp_e h
        clear hc
        obtain ⟨z, hz, h⟩ := lp_x (P := (fun q => fp_2 [7, 8, 9, 10] [] g0 q)) (Q := (fun q => Fr [7, 8, 9, 10] [] g0 q)) h hf (fun q r hq h => by have h9 := fB_X2_measure_3 hq h; rcases r with r | r <;> exact h9)
        exact fC_X2_measure_4 hz h
      · skip
        exact fJ_X2_measure_5 hf h
theorem fB_X2_find_2 {g0 : uZ} {v1 : Int} {w2 : Int} {g3 : uZ} {zr : ((Int × uZ) ⊕ uZ)} (hf : Fr [7, 8, 9, 10] [] g0 g3) (h : GB_X2_find_2 v1 w2 g3 = some zr) : fp_1 [7, 8, 9, 10] [] g0 zr := by
  unfold GB_X2_find_2 at h
  replace h := (ck_e h).2
  replace h := (ck_e h).2
  rcases it_x h with h | h
  · skip
    cases h
    exact hf
  · skip
    obtain ⟨_, hc, h⟩ := cp_e h
    have hf1 := Fr.tr hf (fF_X2_measure Fr.rf hc) (by decide) (by decide)
    clear hc
    obtain ⟨_, h⟩ := lt_x h
    cases h
    exact hf1
theorem fC_X2_find_3 {g0 : uZ} {g4 : uZ} {zr : uZ} (hf : Fr [7, 8, 9, 10] [] g0 g4) (h : GC_X2_find_3 g4 = some zr) : Fr [7, 8, 9, 10] [] g0 zr := by
  unfold GC_X2_find_3 at h
  cases h
  exact hf
theorem fF_X2_find {g0 : uZ} {g : uZ} {zr : uZ} (hf : Fr [7, 8, 9, 10] [] g0 g) (h : GF_X2_find g = some zr) : Fr [7, 8, 9, 10] [] g0 zr := by
  unfold GF_X2_find at h
  obtain ⟨_, hc, h⟩ := cp_e h
  clear hc
  obtain ⟨z, hz, h⟩ := lp_x (P := (fun q => fp_0 [7, 8, 9, 10] [] g0 q)) (Q := (fun q => Fr [7, 8, 9, 10] [] g0 q)) h hf (fun q r hq h => by have h9 := fB_X2_find_2 hq h; rcases r with r | r <;> exact h9)
  exact fC_X2_find_3 hz h
theorem fB_X2_forgetAll_2 {g0 : uZ} {w1 : Int} {g2 : uZ} {zr : ((Int × uZ) ⊕ uZ)} (hf : Fr [10] [] g0 g2) (h : GB_X2_forgetAll_2 w1 g2 = some zr) : fp_1 [10] [] g0 zr := by
  unfold GB_X2_forgetAll_2 at h
  replace h := (ck_e h).2
  rcases it_x h with h | h
  · skip
    cases h
    exact hf
  · skip
    obtain ⟨_, hf1, h⟩ := wrZ_f hf (by decide) h
    obtain ⟨_, h⟩ := lt_x h
    cases h
    exact hf1
theorem fC_X2_forgetAll_3 {g0 : uZ} {g3 : uZ} {zr : uZ} (hf : Fr [10] [] g0 g3) (h : GC_X2_forgetAll_3 g3 = some zr) : Fr [10] [] g0 zr := by
  unfold GC_X2_forgetAll_3 at h
  cases h
  exact hf
theorem fF_X2_forgetAll {g0 : uZ} {g : uZ} {zr : uZ} (hf : Fr [10] [] g0 g) (h : GF_X2_forgetAll g = some zr) : Fr [10] [] g0 zr := by
  unfold GF_X2_forgetAll at h
  obtain ⟨z, hz, h⟩ := lp_x (P := (fun q => fp_0 [10] [] g0 q)) (Q := (fun q => Fr [10] [] g0 q)) h hf (fun q r hq h => by have h9 := fB_X2_forgetAll_2 hq h; rcases r with r | r <;> exact h9)
  exact fC_X2_forgetAll_3 hz h
theorem fJ_X2_forgetThose_2 {g0 : uZ} {w1 : Int} {w2 : Int} {g10 : uZ} {zr : ((Int × (Int × uZ)) ⊕ uZ)} (hf : Fr [10] [] g0 g10) (h : GJ_X2_forgetThose_2 w1 w2 g10 = some zr) : fp_3 [10] [] g0 zr := by
  unfold GJ_X2_forgetThose_2 at h
  obtain ⟨_, hc, h⟩ := cp_e h
  clear hc
  obtain ⟨_, h⟩ := lt_x h
  obtain ⟨_, h⟩ := lt_x h
  cases h
  exact hf
theorem fB_X2_forgetThose_3 {g0 : uZ} {a1 : Int} {a2 : Int} {w1 : Int} {w2 : Int} {g3 : uZ} {zr : ((Int × (Int × uZ)) ⊕ uZ)} (hf : Fr [10] [] g0 g3) (h : GB_X2_forgetThose_3 a1 a2 w1 w2 g3 = some zr) : fp_3 [10] [] g0 zr := by
  unfold GB_X2_forgetThose_3 at h
  replace h := (ck_e h).2
  rcases it_x h with h | h
  · skip
    cases h
    exact hf
  · skip
    replace h := (ck_e h).2
    replace h := (ck_e h).2
    rcases it_x h with h | h
    · skip
      exact fJ_X2_forgetThose_2 hf h
    · skip
      obtain ⟨_, hc, h⟩ := cp_e h
      clear hc
      replace h := (ck_e h).2
      replace h := (ck_e h).2
      rcases it_x h with h | h
      · skip
        exact fJ_X2_forgetThose_2 hf h
      · skip
        obtain ⟨_, hf1, h⟩ := wrZ_f hf (by decide) h
        exact fJ_X2_forgetThose_2 hf1 h
theorem fC_X2_forgetThose_4 {g0 : uZ} {g4 : uZ} {zr : uZ} (hf : Fr [10] [] g0 g4) (h : GC_X2_forgetThose_4 g4 = some zr) : Fr [10] [] g0 zr := by
  unfold GC_X2_forgetThose_4 at h
  cases h
  exact hf
theorem fF_X2_forgetThose {g0 : uZ} {a1 : Int} {a2 : Int} {g : uZ} {zr : uZ} (hf : Fr [10] [] g0 g) (h : GF_X2_forgetThose a1 a2 g = some zr) : Fr [10] [] g0 zr := by
  unfold GF_X2_forgetThose at h
  obtain ⟨z, hz, h⟩ := lp_x (P := (fun q => fp_2 [10] [] g0 q)) (Q := (fun q => Fr [10] [] g0 q)) h hf (fun q r hq h => by have h9 := fB_X2_forgetThose_3 hq h; rcases r with r | r <;> exact h9)
  exact fC_X2_forgetThose_4 hz h
theorem fB_X1_dropWorst_4 {g0 : uZ} {a1 : Int} {a2 : Int} {w14 : Int} {g15 : uZ} {zr : ((Int × uZ) ⊕ uZ)} (hf : Fr [12] [] g0 g15) (h : GB_X1_dropWorst_4 a1 a2 w14 g15 = some zr) : fp_1 [12] [] g0 zr := by
  unfold GB_X1_dropWorst_4 at h
  replace h := (ck_e h).2
  replace h := (ck_e h).2
  rcases it_x h with h | h
  · skip
    cases h
    exact hf
  · skip
    obtain ⟨_, hc, h⟩ := cp_e h
    clear hc
    obtain ⟨_, hc, h⟩ := cp_e h
    clear hc
    obtain ⟨_, h⟩ := rdZ_x h
    obtain ⟨_, hf1, h⟩ := wrZ_f hf (by decide) h
    obtain ⟨_, h⟩ := lt_x h
    cases h
    exact hf1
theorem fC_X1_dropWorst_5 {g0 : uZ} {g16 : uZ} {zr : uZ} (hf : Fr [12] [] g0 g16) (h : GC_X1_dropWorst_5 g16 = some zr) : Fr [12] [] g0 zr := by
  unfold GC_X1_dropWorst_5 at h
  cases h
  exact hf
theorem fC_X1_dropWorst_6 {g0 : uZ} {a1 : Int} {a2 : Int} {g : uZ} {v3 : Int} {zr : uZ} (hf : Fr [12] [] g0 g) (h : GC_X1_dropWorst_6 a1 a2 g v3 = some zr) : Fr [12] [] g0 zr := by
  unfold GC_X1_dropWorst_6 at h
  obtain ⟨z, hz, h⟩ := lp_x (P := (fun q => fp_0 [12] [] g0 q)) (Q := (fun q => Fr [12] [] g0 q)) h hf (fun q r hq h => by have h9 := fB_X1_dropWorst_4 hq h; rcases r with r | r <;> exact h9)
  exact fC_X1_dropWorst_5 hz h
theorem fF_X1_dropWorst {g0 : uZ} {a1 : Int} {a2 : Int} {g : uZ} {zr : uZ} (hf : Fr [12] [] g0 g) (h : GF_X1_dropWorst a1 a2 g = some zr) : Fr [12] [] g0 zr := by
  unfold GF_X1_dropWorst at h
  obtain ⟨z, hz, h⟩ := lp_x (P := (fun _ => True)) (Q := (fun _ => True)) h trivial (fun q r hq h => by rcases r with r | r <;> trivial)
  exact fC_X1_dropWorst_6 hf h
theorem fJ_X1_keepDips_2 {g0 : uZ} {w6 : Int} {v19 : Int} {g20 : uZ} {zr : ((Int × (Int × uZ)) ⊕ (Int × uZ))} (hf : Fr [12] [] g0 g20) (h : GJ_X1_keepDips_2 w6 v19 g20 = some zr) : fp_4 [12] [] g0 zr := by
  unfold GJ_X1_keepDips_2 at h
  obtain ⟨_, h⟩ := lt_x h
  cases h
  exact hf
theorem fB_X1_keepDips_3 {g0 : uZ} {a1 : Int} {v2 : Int} {v3 : Int} {w5 : Int} {w6 : Int} {g7 : uZ} {zr : ((Int × (Int × uZ)) ⊕ (Int × uZ))} (hf : Fr [12] [] g0 g7) (h : GB_X1_keepDips_3 a1 v2 v3 w5 w6 g7 = some zr) : fp_4 [12] [] g0 zr := by
  unfold GB_X1_keepDips_3 at h
  replace h := (ck_e h).2
  replace h := (ck_e h).2
  rcases it_x h with h | h
  · skip
    cases h
    exact hf
  · skip
    obtain ⟨_, hc, h⟩ := cp_e h
    clear hc
    replace h := (ck_e h).2
    rcases it_x h with h | h
    · skip
      exact fJ_X1_keepDips_2 hf h
    · skip
      obtain ⟨_, hc, h⟩ := cp_e h
      clear hc
      obtain ⟨_, hf1, h⟩ := wrZ_f hf (by decide) h
      obtain ⟨_, h⟩ := lt_x h
      replace h := (ck_e h).2
      replace h := (ck_e h).2
      rcases it_x h with h | h
      · skip
        exact fJ_X1_keepDips_2 hf1 h
      · skip
        obtain ⟨_, hc, h⟩ := cp_e h
        have hf2 := Fr.tr hf1 (fF_X1_dropWorst Fr.rf hc) (by decide) (by decide)
        clear hc
        obtain ⟨_, h⟩ := lt_x h
        exact fJ_X1_keepDips_2 hf2 h
theorem fC_X1_keepDips_4 {g0 : uZ} {v8 : Int} {g9 : uZ} {zr : (Int × uZ)} (hf : Fr [12] [] g0 g9) (h : GC_X1_keepDips_4 v8 g9 = some zr) : fp_0 [12] [] g0 zr := by
  unfold GC_X1_keepDips_4 at h
  cases h
  exact hf
theorem fF_X1_keepDips {g0 : uZ} {a1 : Int} {g : uZ} {zr : (Int × uZ)} (hf : Fr [12] [] g0 g) (h : GF_X1_keepDips a1 g = some zr) : fp_0 [12] [] g0 zr := by
  unfold GF_X1_keepDips at h
  obtain ⟨_, hc, h⟩ := cp_e h
  clear hc
  obtain ⟨_, hc, h⟩ := cp_e h
  clear hc
  obtain ⟨_, hc, h⟩ := cp_e h
  clear hc
  obtain ⟨_, hc, h⟩ := cp_e h
  clear hc
  obtain ⟨z, hz, h⟩ := lp_x (P := (fun q => fp_2 [12] [] g0 q)) (Q := (fun q => fp_0 [12] [] g0 q)) h hf (fun q r hq h => by have h9 := fB_X1_keepDips_3 hq h; rcases r with r | r <;> exact h9)
  exact fC_X1_keepDips_4 hz h
theorem fB_X1_find_3 {g0 : uZ} {v12 : Int} {w3 : Int} {w17 : Int} {g18 : uZ} {zr : ((Int × uZ) ⊕ uZ)} (hf : Fr [12, 13, 14, 15] [(11, 6)] g0 g18) (h : GB_X1_find_3 v12 w3 w17 g18 = some zr) : fp_1 [12, 13, 14, 15] [(11, 6)] g0 zr := by
  unfold GB_X1_find_3 at h
  replace h := (ck_e h).2
  replace h := (ck_e h).2
  rcases it_x h with h | h
  · skip
    cases h
    exact hf
  · skip
    obtain ⟨_, hc, h⟩ := cp_e h
    clear hc
    obtain ⟨_, hc, h⟩ := cp_e h
    clear hc
    obtain ⟨_, hc, h⟩ := cp_e h
    clear hc
    obtain ⟨_, hf1, h⟩ := wrZ_f hf (by decide) h
    obtain ⟨_, hc, h⟩ := cp_e h
    clear hc
    obtain ⟨_, hc, h⟩ := cp_e h
    clear hc
    obtain ⟨_, hf2, h⟩ := wrZ_f hf1 (by decide) h
    obtain ⟨_, h⟩ := lt_x h
    cases h
    exact hf2
theorem fC_X1_find_4 {g0 : uZ} {w3 : Int} {g19 : uZ} {zr : ((Int × uZ) ⊕ uZ)} (hf : Fr [12, 13, 14, 15] [(11, 6)] g0 g19) (h : GC_X1_find_4 w3 g19 = some zr) : fp_1 [12, 13, 14, 15] [(11, 6)] g0 zr := by
  unfold GC_X1_find_4 at h
  obtain ⟨_, h⟩ := lt_x h
  cases h
  exact hf
theorem fJ_X1_find_5 {g0 : uZ} {w3 : Int} {v12 : Int} {g13 : uZ} {zr : ((Int × uZ) ⊕ uZ)} (hf : Fr [12, 13, 14, 15] [(11, 6)] g0 g13) (h : GJ_X1_find_5 w3 v12 g13 = some zr) : fp_1 [12, 13, 14, 15] [(11, 6)] g0 zr := by
  unfold GJ_X1_find_5 at h
  obtain ⟨_, hc, h⟩ := cp_e h
  clear hc
  obtain ⟨_, hf1, h⟩ := wrZ_f hf (by decide) h
  obtain ⟨_, hf2, h⟩ := wrZ_f hf1 (by decide) h
  obtain ⟨z, hz, h⟩ := lp_x (P := (fun q => fp_0 [12, 13, 14, 15] [(11, 6)] g0 q)) (Q := (fun q => Fr [12, 13, 14, 15] [(11, 6)] g0 q)) h hf2 (fun q r hq h => by have h9 := fB_X1_find_3 hq h; rcases r with r | r <;> exact h9)
  exact fC_X1_find_4 hz h
theorem fB_X1_find_6 {g0 : uZ} {w3 : Int} {g4 : uZ} {zr : ((Int × uZ) ⊕ uZ)} (hf : Fr [12, 13, 14, 15] [(11, 6)] g0 g4) (h : GB_X1_find_6 w3 g4 = some zr) : fp_1 [12, 13, 14, 15] [(11, 6)] g0 zr := by
  unfold GB_X1_find_6 at h
  replace h := (ck_e h).2
  replace h := (ck_e h).2
  rcases it_x h with h | h
  · skip
    cases h
    exact hf
  · skip
    obtain ⟨_, hc, h⟩ := cp_e h
    clear hc
    obtain ⟨_, hc, h⟩ := cp_e h
    clear hc
    replace h := (ck_e h).2
    replace h := (ck_e h).2
    rcases it_x h with h | h
    · skip
      obtain ⟨_, _, hc, h⟩ := clZ_x h
      have hf1 := Fr.tr hf (fF_X1_keepDips Fr.rf hc) (by decide) (by decide)
      clear hc
      exact fJ_X1_find_5 hf1 h
    · skip
      exact fJ_X1_find_5 hf h
theorem fC_X1_find_7 {g0 : uZ} {g5 : uZ} {zr : uZ} (hf : Fr [12, 13, 14, 15] [(11, 6)] g0 g5) (h : GC_X1_find_7 g5 = some zr) : Fr [12, 13, 14, 15] [(11, 6)] g0 zr := by
  unfold GC_X1_find_7 at h
  cases h
  exact hf
theorem fF_X1_find {g0 : uZ} {g : uZ} {zr : uZ} (hf : Fr [12, 13, 14, 15] [(11, 6)] g0 g) (h : GF_X1_find g = some zr) : Fr [12, 13, 14, 15] [(11, 6)] g0 zr := by
  unfold GF_X1_find at h
  obtain ⟨_, hc, h⟩ := cp_e h
  clear hc
  obtain ⟨_, hf1, h⟩ := pfZ_f hf (by decide) h
  obtain ⟨z, hz, h⟩ := lp_x (P := (fun q => fp_0 [12, 13, 14, 15] [(11, 6)] g0 q)) (Q := (fun q => Fr [12, 13, 14, 15] [(11, 6)] g0 q)) h hf1 (fun q r hq h => by have h9 := fB_X1_find_6 hq h; rcases r with r | r <;> exact h9)
  exact fC_X1_find_7 hz h
theorem fF_X9_setBy_17_4 {g0 : uZ} {g : uZ} {zr : uZ} (hf : Fr [] [(17, 0), (17, 1), (17, 2)] g0 g) (h : GF_X9_setBy_17_4 g = some zr) : Fr [] [(17, 0), (17, 1), (17, 2)] g0 zr := by
  unfold GF_X9_setBy_17_4 at h
  obtain ⟨_, hc, h⟩ := cp_e h
  clear hc
  obtain ⟨_, hc, h⟩ := cp_e h
  clear hc
  obtain ⟨_, hc, h⟩ := cp_e h
  clear hc
  obtain ⟨_, hc, h⟩ := cp_e h
  have hf1 := Fr.tr hf (fF_X9_set_17 Fr.rf hc) (by decide) (by decide)
  clear hc
  cases h
  exact hf1
theorem fC_X5_findHeads_6 {g0 : uZ} {a1 : Int} {w1 : Int} {g2 : uZ} {v10 : Int} {v11 : Int} {zr : ((Int × uZ) ⊕ uZ)} (hf : Fr [19, 21] [] g0 g2) (h : GC_X5_findHeads_6 a1 w1 g2 v10 v11 = some zr) : fp_1 [19, 21] [] g0 zr := by
  unfold GC_X5_findHeads_6 at h
  obtain ⟨_, hc, h⟩ := cp_e h
  clear hc
  obtain ⟨_, hc, h⟩ := cp_e h
  clear hc
  obtain ⟨_, hf1, h⟩ := wrZ_f hf (by decide) h
  obtain ⟨_, hc, h⟩ := cp_e h
  clear hc
  obtain ⟨_, hf2, h⟩ := wrZ_f hf1 (by decide) h
  obtain ⟨_, h⟩ := lt_x h
  cases h
  exact hf2
theorem fB_X5_findHeads_7 {g0 : uZ} {a1 : Int} {w1 : Int} {g2 : uZ} {zr : ((Int × uZ) ⊕ uZ)} (hf : Fr [19, 21] [] g0 g2) (h : GB_X5_findHeads_7 a1 w1 g2 = some zr) : fp_1 [19, 21] [] g0 zr := by
  unfold GB_X5_findHeads_7 at h
  obtain ⟨_, hc, h⟩ := cp_e h
  clear hc
  replace h := (ck_e h).2
  replace h := (ck_e h).2
  rcases it_x h with h | h
  · skip
    cases h
    exact hf
  · skip
    obtain ⟨_, hc, h⟩ := cp_e h
    clear hc
    obtain ⟨z, hz, h⟩ := lp_x (P := (fun _ => True)) (Q := (fun _ => True)) h trivial (fun q r hq h => by rcases r with r | r <;> trivial)
    exact fC_X5_findHeads_6 hf h
theorem fC_X5_findHeads_8 {g0 : uZ} {g3 : uZ} {zr : uZ} (hf : Fr [19, 21] [] g0 g3) (h : GC_X5_findHeads_8 g3 = some zr) : Fr [19, 21] [] g0 zr := by
  unfold GC_X5_findHeads_8 at h
  cases h
  exact hf
theorem fF_X5_findHeads {g0 : uZ} {a1 : Int} {g : uZ} {zr : uZ} (hf : Fr [19, 21] [] g0 g) (h : GF_X5_findHeads a1 g = some zr) : Fr [19, 21] [] g0 zr := by
  unfold GF_X5_findHeads at h
  obtain ⟨z, hz, h⟩ := lp_x (P := (fun q => fp_0 [19, 21] [] g0 q)) (Q := (fun q => Fr [19, 21] [] g0 q)) h hf (fun q r hq h => by have h9 := fB_X5_findHeads_7 hq h; rcases r with r | r <;> exact h9)
  exact fC_X5_findHeads_8 hz h
theorem fC_X5_findRanks_5 {g0 : uZ} {a1 : Int} {w1 : Int} {g2 : uZ} {v8 : Int} {zr : ((Int × uZ) ⊕ uZ)} (hf : Fr [20] [] g0 g2) (h : GC_X5_findRanks_5 a1 w1 g2 v8 = some zr) : fp_1 [20] [] g0 zr := by
  unfold GC_X5_findRanks_5 at h
  obtain ⟨_, hc, h⟩ := cp_e h
  clear hc
  obtain ⟨_, hf1, h⟩ := wrZ_f hf (by decide) h
  obtain ⟨_, h⟩ := lt_x h
  cases h
  exact hf1
theorem fB_X5_findRanks_6 {g0 : uZ} {a1 : Int} {w1 : Int} {g2 : uZ} {zr : ((Int × uZ) ⊕ uZ)} (hf : Fr [20] [] g0 g2) (h : GB_X5_findRanks_6 a1 w1 g2 = some zr) : fp_1 [20] [] g0 zr := by
  unfold GB_X5_findRanks_6 at h
  obtain ⟨_, hc, h⟩ := cp_e h
  clear hc
  replace h := (ck_e h).2
  replace h := (ck_e h).2
  rcases it_x h with h | h
  · skip
    cases h
    exact hf
  · skip
    obtain ⟨z, hz, h⟩ := lp_x (P := (fun _ => True)) (Q := (fun _ => True)) h trivial (fun q r hq h => by rcases r with r | r <;> trivial)
    exact fC_X5_findRanks_5 hf h
theorem fC_X5_findRanks_7 {g0 : uZ} {g3 : uZ} {zr : uZ} (hf : Fr [20] [] g0 g3) (h : GC_X5_findRanks_7 g3 = some zr) : Fr [20] [] g0 zr := by
  unfold GC_X5_findRanks_7 at h
  cases h
  exact hf
theorem fF_X5_findRanks {g0 : uZ} {a1 : Int} {g : uZ} {zr : uZ} (hf : Fr [20] [] g0 g) (h : GF_X5_findRanks a1 g = some zr) : Fr [20] [] g0 zr := by
  unfold GF_X5_findRanks at h
  obtain ⟨z, hz, h⟩ := lp_x (P := (fun q => fp_0 [20] [] g0 q)) (Q := (fun q => Fr [20] [] g0 q)) h hf (fun q r hq h => by have h9 := fB_X5_findRanks_6 hq h; rcases r with r | r <;> exact h9)
  exact fC_X5_findRanks_7 hz h
theorem fC_X5_findTails_4 {g0 : uZ} {a1 : Int} {w1 : Int} {g2 : uZ} {v11 : Int} {zr : ((Int × uZ) ⊕ uZ)} (hf : Fr [22] [] g0 g2) (h : GC_X5_findTails_4 a1 w1 g2 v11 = some zr) : fp_1 [22] [] g0 zr := by
  unfold GC_X5_findTails_4 at h
  obtain ⟨_, hc, h⟩ := cp_e h
  clear hc
  obtain ⟨_, hc, h⟩ := cp_e h
  clear hc
  obtain ⟨_, hf1, h⟩ := wrZ_f hf (by decide) h
  obtain ⟨_, h⟩ := lt_x h
  cases h
  exact hf1
theorem fB_X5_findTails_5 {g0 : uZ} {a1 : Int} {w1 : Int} {g2 : uZ} {zr : ((Int × uZ) ⊕ uZ)} (hf : Fr [22] [] g0 g2) (h : GB_X5_findTails_5 a1 w1 g2 = some zr) : fp_1 [22] [] g0 zr := by
  unfold GB_X5_findTails_5 at h
  obtain ⟨_, hc, h⟩ := cp_e h
  clear hc
  replace h := (ck_e h).2
  replace h := (ck_e h).2
  rcases it_x h with h | h
  · skip
    cases h
    exact hf
  · skip
    obtain ⟨_, hc, h⟩ := cp_e h
    clear hc
    replace h := (ck_e h).2
    replace h := (ck_e h).2
    obtain ⟨_, h⟩ := lt_x h
    obtain ⟨z, hz, h⟩ := lp_x (P := (fun _ => True)) (Q := (fun _ => True)) h trivial (fun q r hq h => by rcases r with r | r <;> trivial)
    exact fC_X5_findTails_4 hf h
theorem fC_X5_findTails_6 {g0 : uZ} {g3 : uZ} {zr : uZ} (hf : Fr [22] [] g0 g3) (h : GC_X5_findTails_6 g3 = some zr) : Fr [22] [] g0 zr := by
  unfold GC_X5_findTails_6 at h
  cases h
  exact hf
theorem fF_X5_findTails {g0 : uZ} {a1 : Int} {g : uZ} {zr : uZ} (hf : Fr [22] [] g0 g) (h : GF_X5_findTails a1 g = some zr) : Fr [22] [] g0 zr := by
  unfold GF_X5_findTails at h
  obtain ⟨z, hz, h⟩ := lp_x (P := (fun q => fp_0 [22] [] g0 q)) (Q := (fun q => Fr [22] [] g0 q)) h hf (fun q r hq h => by have h9 := fB_X5_findTails_5 hq h; rcases r with r | r <;> exact h9)
  exact fC_X5_findTails_6 hz h
theorem fB_X5_find_2 {g0 : uZ} {w4 : Int} {g5 : uZ} {zr : ((Int × uZ) ⊕ uZ)} (hf : Fr [19, 20, 21, 22, 23, 24] [(16, 12), (17, 0), (17, 1), (17, 2)] g0 g5) (h : GB_X5_find_2 w4 g5 = some zr) : fp_1 [19, 20, 21, 22, 23, 24] [(16, 12), (17, 0), (17, 1), (17, 2)] g0 zr := by
  unfold GB_X5_find_2 at h
  replace h := (ck_e h).2
  replace h := (ck_e h).2
  rcases it_x h with h | h
  · skip
    cases h
    exact hf
  · skip
    obtain ⟨_, hc, h⟩ := cp_e h
    have hf1 := Fr.tr hf (fF_X5_findHeads Fr.rf hc) (by decide) (by decide)
    clear hc
    obtain ⟨_, hc, h⟩ := cp_e h
    have hf2 := Fr.tr hf1 (fF_X5_findRanks Fr.rf hc) (by decide) (by decide)
    clear hc
    obtain ⟨_, h⟩ := lt_x h
    cases h
    exact hf2
theorem fB_X5_find_4 {g0 : uZ} {w12 : Int} {g13 : uZ} {zr : ((Int × uZ) ⊕ uZ)} (hf : Fr [19, 20, 21, 22, 23, 24] [(16, 12), (17, 0), (17, 1), (17, 2)] g0 g13) (h : GB_X5_find_4 w12 g13 = some zr) : fp_1 [19, 20, 21, 22, 23, 24] [(16, 12), (17, 0), (17, 1), (17, 2)] g0 zr := by
  unfold GB_X5_find_4 at h
  replace h := (ck_e h).2
  rcases it_x h with h | h
  · skip
    cases h
    exact hf
  · skip
    obtain ⟨_, hc, h⟩ := cp_e h
    have hf1 := Fr.tr hf (fF_X5_findTails Fr.rf hc) (by decide) (by decide)
    clear hc
    obtain ⟨_, h⟩ := lt_x h
    cases h
    exact hf1
theorem fB_X5_find_6 {g0 : uZ} {w22 : Int} {w23 : Int} {g24 : uZ} {zr : ((Int × (Int × uZ)) ⊕ uZ)} (hf : Fr [19, 20, 21, 22, 23, 24] [(16, 12), (17, 0), (17, 1), (17, 2)] g0 g24) (h : GB_X5_find_6 w22 w23 g24 = some zr) : fp_3 [19, 20, 21, 22, 23, 24] [(16, 12), (17, 0), (17, 1), (17, 2)] g0 zr := by
  unfold GB_X5_find_6 at h
  replace h := (ck_e h).2
  rcases it_x h with h | h
  · skip
    cases h
    exact hf
  · skip
    obtain ⟨_, hf1, h⟩ := wrZ_f hf (by decide) h
    obtain ⟨_, hc, h⟩ := cp_e h
    clear hc
    obtain ⟨_, hf2, h⟩ := wrZ_f hf1 (by decide) h
    obtain ⟨_, hc, h⟩ := cp_e h
    clear hc
    obtain ⟨_, h⟩ := lt_x h
    cases h
    exact hf2
theorem fC_X5_find_7 {g0 : uZ} {g25 : uZ} {zr : uZ} (hf : Fr [19, 20, 21, 22, 23, 24] [(16, 12), (17, 0), (17, 1), (17, 2)] g0 g25) (h : GC_X5_find_7 g25 = some zr) : Fr [19, 20, 21, 22, 23, 24] [(16, 12), (17, 0), (17, 1), (17, 2)] g0 zr := by
  unfold GC_X5_find_7 at h
  cases h
  exact hf
theorem fJ_X5_find_8 {g0 : uZ} {g14 : uZ} {v20 : Int} {zr : uZ} (hf : Fr [19, 20, 21, 22, 23, 24] [(16, 12), (17, 0), (17, 1), (17, 2)] g0 g14) (h : GJ_X5_find_8 g14 v20 = some zr) : Fr [19, 20, 21, 22, 23, 24] [(16, 12), (17, 0), (17, 1), (17, 2)] g0 zr := by
  unfold GJ_X5_find_8 at h
  obtain ⟨_, h⟩ := lt_x h
  obtain ⟨z, hz, h⟩ := lp_x (P := (fun q => fp_2 [19, 20, 21, 22, 23, 24] [(16, 12), (17, 0), (17, 1), (17, 2)] g0 q)) (Q := (fun q => Fr [19, 20, 21, 22, 23, 24] [(16, 12), (17, 0), (17, 1), (17, 2)] g0 q)) h hf (fun q r hq h => by have h9 := fB_X5_find_6 hq h; rcases r with r | r <;> exact h9)
  exact fC_X5_find_7 hz h
theorem fC_X5_find_9 {g0 : uZ} {g14 : uZ} {zr : uZ} (hf : Fr [19, 20, 21, 22, 23, 24] [(16, 12), (17, 0), (17, 1), (17, 2)] g0 g14) (h : GC_X5_find_9 g14 = some zr) : Fr [19, 20, 21, 22, 23, 24] [(16, 12), (17, 0), (17, 1), (17, 2)] g0 zr := by
  unfold GC_X5_find_9 at h
  replace h := (ck_e h).2
  rcases it_x h with h | h
  · skip
    exact fJ_X5_find_8 hf h
  · skip
    obtain ⟨_, hc, h⟩ := cp_e h
    clear hc
    exact fJ_X5_find_8 hf h
theorem fC_X5_find_10 {g0 : uZ} {g6 : uZ} {zr : uZ} (hf : Fr [19, 20, 21, 22, 23, 24] [(16, 12), (17, 0), (17, 1), (17, 2)] g0 g6) (h : GC_X5_find_10 g6 = some zr) : Fr [19, 20, 21, 22, 23, 24] [(16, 12), (17, 0), (17, 1), (17, 2)] g0 zr := by
  unfold GC_X5_find_10 at h
  obtain ⟨_, h⟩ := lt_x h
  obtain ⟨z, hz, h⟩ := lp_x (P := (fun q => fp_0 [19, 20, 21, 22, 23, 24] [(16, 12), (17, 0), (17, 1), (17, 2)] g0 q)) (Q := (fun q => Fr [19, 20, 21, 22, 23, 24] [(16, 12), (17, 0), (17, 1), (17, 2)] g0 q)) h hf (fun q r hq h => by have h9 := fB_X5_find_4 hq h; rcases r with r | r <;> exact h9)
  exact fC_X5_find_9 hz h
theorem fF_X5_find {g0 : uZ} {g : uZ} {zr : uZ} (hf : Fr [19, 20, 21, 22, 23, 24] [(16, 12), (17, 0), (17, 1), (17, 2)] g0 g) (h : GF_X5_find g = some zr) : Fr [19, 20, 21, 22, 23, 24] [(16, 12), (17, 0), (17, 1), (17, 2)] g0 zr := by
  unfold GF_X5_find at h
  obtain ⟨_, hc, h⟩ := cp_e h
  clear hc
  obtain ⟨_, hf1, h⟩ := pfZ_f hf (by decide) h
  obtain ⟨_, hc, h⟩ := cp_e h
  have hf2 := Fr.tr hf1 (fF_X9_setBy_17_4 Fr.rf hc) (by decide) (by decide)
  clear hc
  obtain ⟨z, hz, h⟩ := lp_x (P := (fun q => fp_0 [19, 20, 21, 22, 23, 24] [(16, 12), (17, 0), (17, 1), (17, 2)] g0 q)) (Q := (fun q => Fr [19, 20, 21, 22, 23, 24] [(16, 12), (17, 0), (17, 1), (17, 2)] g0 q)) h hf2 (fun q r hq h => by have h9 := fB_X5_find_2 hq h; rcases r with r | r <;> exact h9)
  exact fC_X5_find_10 hz h
theorem fC_X5_stepSum_3 {g0 : uZ} {g1 : uZ} {v4 : Int} {zr : (Int × uZ)} (hf : Fr [] [(18, 0), (18, 1), (18, 2)] g0 g1) (h : GC_X5_stepSum_3 g1 v4 = some zr) : fp_0 [] [(18, 0), (18, 1), (18, 2)] g0 zr := by
  unfold GC_X5_stepSum_3 at h
  cases h
  exact hf
theorem fF_X5_stepSum {g0 : uZ} {a1 : Int} {a2 : Int} {a3 : Int} {g : uZ} {zr : (Int × uZ)} (hf : Fr [] [(18, 0), (18, 1), (18, 2)] g0 g) (h : GF_X5_stepSum a1 a2 a3 g = some zr) : fp_0 [] [(18, 0), (18, 1), (18, 2)] g0 zr := by
  unfold GF_X5_stepSum at h
  obtain ⟨_, hc, h⟩ := cp_e h
  have hf1 := Fr.tr hf (fF_X9_set_18 Fr.rf hc) (by decide) (by decide)
  clear hc
  obtain ⟨z, hz, h⟩ := lp_x (P := (fun _ => True)) (Q := (fun _ => True)) h trivial (fun q r hq h => by rcases r with r | r <;> trivial)
  exact fC_X5_stepSum_3 hf1 h
theorem fF_X5_priceOf {g0 : uZ} {a1 : Int} {g : uZ} {zr : (Int × uZ)} (hf : Fr [] [(18, 0), (18, 1), (18, 2)] g0 g) (h : GF_X5_priceOf a1 g = some zr) : fp_0 [] [(18, 0), (18, 1), (18, 2)] g0 zr := by
  unfold GF_X5_priceOf at h
  replace h := (ck_e h).2
  rcases it_x h with h | h
  · skip
    obtain ⟨_, hc, h⟩ := cp_e h
    clear hc
    cases h
    exact hf
  · skip
    rcases it_x h with h | h
    · skip
      obtain ⟨_, hc, h⟩ := cp_e h
      clear hc
      obtain ⟨_, _, hc, h⟩ := clZ_x h
      have hf1 := Fr.tr hf (fF_X5_stepSum Fr.rf hc) (by decide) (by decide)
      clear hc
      cases h
      exact hf1
    · skip
      rcases it_x h with h | h
      · skip
        obtain ⟨_, hc, h⟩ := cp_e h
        clear hc
        obtain ⟨_, _, hc, h⟩ := clZ_x h
        have hf2 := Fr.tr hf (fF_X5_stepSum Fr.rf hc) (by decide) (by decide)
        clear hc
        cases h
        exact hf2
      · skip
        rcases it_x h with h | h
        · skip
          obtain ⟨_, hc, h⟩ := cp_e h
          clear hc
          obtain ⟨_, _, hc, h⟩ := clZ_x h
          have hf3 := Fr.tr hf (fF_X5_stepSum Fr.rf hc) (by decide) (by decide)
          clear hc
          cases h
          exact hf3
        · skip
          obtain ⟨_, hc, h⟩ := cp_e h
          clear hc
          obtain ⟨_, hc, h⟩ := cp_e h
          clear hc
          obtain ⟨_, hc, h⟩ := cp_e h
          clear hc
          obtain ⟨_, hc, h⟩ := cp_e h
          clear hc
          obtain ⟨_, _, hc, h⟩ := clZ_x h
          have hf4 := Fr.tr hf (fF_X5_stepSum Fr.rf hc) (by decide) (by decide)
          clear hc
          cases h
          exact hf4
theorem fC_X5_advance_17_4 {g0 : uZ} {a1 : Int} {w1 : Int} {g2 : uZ} {v9 : Int} {zr : ((Int × uZ) ⊕ uZ)} (hf : Fr [25, 26] [] g0 g2) (h : GC_X5_advance_17_4 a1 w1 g2 v9 = some zr) : fp_1 [25, 26] [] g0 zr := by
  unfold GC_X5_advance_17_4 at h
  obtain ⟨_, hc, h⟩ := cp_e h
  clear hc
  obtain ⟨_, hf1, h⟩ := wrZ_f hf (by decide) h
  obtain ⟨_, h⟩ := lt_x h
  cases h
  exact hf1
theorem fB_X5_advance_17_5 {g0 : uZ} {a1 : Int} {w1 : Int} {g2 : uZ} {zr : ((Int × uZ) ⊕ uZ)} (hf : Fr [25, 26] [] g0 g2) (h : GB_X5_advance_17_5 a1 w1 g2 = some zr) : fp_1 [25, 26] [] g0 zr := by
  unfold GB_X5_advance_17_5 at h
  obtain ⟨_, hc, h⟩ := cp_e h
  clear hc
  replace h := (ck_e h).2
  replace h := (ck_e h).2
  rcases it_x h with h | h
  · skip
    cases h
    exact hf
  · skip
    obtain ⟨_, hc, h⟩ := cp_e h
    clear hc
    obtain ⟨z, hz, h⟩ := lp_x (P := (fun _ => True)) (Q := (fun _ => True)) h trivial (fun q r hq h => by rcases r with r | r <;> trivial)
    exact fC_X5_advance_17_4 hf h
theorem fB_X5_advance_17_7 {g0 : uZ} {a1 : Int} {w20 : Int} {g21 : uZ} {zr : ((Int × uZ) ⊕ uZ)} (hf : Fr [25, 26] [] g0 g21) (h : GB_X5_advance_17_7 a1 w20 g21 = some zr) : fp_1 [25, 26] [] g0 zr := by
  unfold GB_X5_advance_17_7 at h
  obtain ⟨_, hc, h⟩ := cp_e h
  clear hc
  replace h := (ck_e h).2
  replace h := (ck_e h).2
  rcases it_x h with h | h
  · skip
    cases h
    exact hf
  · skip
    obtain ⟨_, h⟩ := rdZ_x h
    obtain ⟨_, hf1, h⟩ := wrZ_f hf (by decide) h
    obtain ⟨_, h⟩ := lt_x h
    cases h
    exact hf1
theorem fC_X5_advance_17_8 {g0 : uZ} {g22 : uZ} {zr : uZ} (hf : Fr [25, 26] [] g0 g22) (h : GC_X5_advance_17_8 g22 = some zr) : Fr [25, 26] [] g0 zr := by
  unfold GC_X5_advance_17_8 at h
  cases h
  exact hf
theorem fC_X5_advance_17_9 {g0 : uZ} {a1 : Int} {g3 : uZ} {zr : uZ} (hf : Fr [25, 26] [] g0 g3) (h : GC_X5_advance_17_9 a1 g3 = some zr) : Fr [25, 26] [] g0 zr := by
  unfold GC_X5_advance_17_9 at h
  obtain ⟨z, hz, h⟩ := lp_x (P := (fun q => fp_0 [25, 26] [] g0 q)) (Q := (fun q => Fr [25, 26] [] g0 q)) h hf (fun q r hq h => by have h9 := fB_X5_advance_17_7 hq h; rcases r with r | r <;> exact h9)
  exact fC_X5_advance_17_8 hz h
theorem fF_X5_advance_17 {g0 : uZ} {a1 : Int} {g : uZ} {zr : uZ} (hf : Fr [25, 26] [] g0 g) (h : GF_X5_advance_17 a1 g = some zr) : Fr [25, 26] [] g0 zr := by
  unfold GF_X5_advance_17 at h
  obtain ⟨z, hz, h⟩ := lp_x (P := (fun q => fp_0 [25, 26] [] g0 q)) (Q := (fun q => Fr [25, 26] [] g0 q)) h hf (fun q r hq h => by have h9 := fB_X5_advance_17_5 hq h; rcases r with r | r <;> exact h9)
  exact fC_X5_advance_17_9 hz h
theorem fJ_X5_leastThroughTwo_2 {g0 : uZ} {w5 : Int} {g6 : uZ} {v13 : Int} {zr : ((Int × uZ) ⊕ uZ)} (hf : Fr [25, 26] [] g0 g6) (h : GJ_X5_leastThroughTwo_2 w5 g6 v13 = some zr) : fp_1 [25, 26] [] g0 zr := by
  unfold GJ_X5_leastThroughTwo_2 at h
  obtain ⟨_, hf1, h⟩ := wrZ_f hf (by decide) h
  obtain ⟨_, h⟩ := lt_x h
  cases h
  exact hf1
theorem fB_X5_leastThroughTwo_3 {g0 : uZ} {a1 : Int} {a2 : Int} {w5 : Int} {g6 : uZ} {zr : ((Int × uZ) ⊕ uZ)} (hf : Fr [25, 26] [] g0 g6) (h : GB_X5_leastThroughTwo_3 a1 a2 w5 g6 = some zr) : fp_1 [25, 26] [] g0 zr := by
  unfold GB_X5_leastThroughTwo_3 at h
  obtain ⟨_, hc, h⟩ := cp_e h
  clear hc
  replace h := (ck_e h).2
  replace h := (ck_e h).2
  rcases it_x h with h | h
  · skip
    cases h
    exact hf
  · skip
    replace h := (ck_e h).2
    rcases it_x h with h | h
    · skip
      obtain ⟨_, hc, h⟩ := cp_e h
      clear hc
      obtain ⟨_, h⟩ := rdZ_x h
      exact fJ_X5_leastThroughTwo_2 hf h
    · skip
      exact fJ_X5_leastThroughTwo_2 hf h
theorem fB_X5_leastThroughTwo_5 {g0 : uZ} {a3 : Int} {w17 : Int} {g18 : uZ} {zr : ((Int × uZ) ⊕ uZ)} (hf : Fr [25, 26] [] g0 g18) (h : GB_X5_leastThroughTwo_5 a3 w17 g18 = some zr) : fp_1 [25, 26] [] g0 zr := by
  unfold GB_X5_leastThroughTwo_5 at h
  replace h := (ck_e h).2
  replace h := (ck_e h).2
  rcases it_x h with h | h
  · skip
    cases h
    exact hf
  · skip
    obtain ⟨_, hc, h⟩ := cp_e h
    have hf1 := Fr.tr hf (fF_X5_advance_17 Fr.rf hc) (by decide) (by decide)
    clear hc
    obtain ⟨_, h⟩ := lt_x h
    cases h
    exact hf1
theorem fC_X5_leastThroughTwo_6 {g0 : uZ} {a3 : Int} {a4 : Int} {g19 : uZ} {zr : (Int × uZ)} (hf : Fr [25, 26] [] g0 g19) (h : GC_X5_leastThroughTwo_6 a3 a4 g19 = some zr) : fp_0 [25, 26] [] g0 zr := by
  unfold GC_X5_leastThroughTwo_6 at h
  obtain ⟨_, h⟩ := rdZ_x h
  obtain ⟨_, hc, h⟩ := cp_e h
  clear hc
  obtain ⟨_, h⟩ := rdZ_x h
  obtain ⟨_, hc, h⟩ := cp_e h
  clear hc
  cases h
  exact hf
theorem fC_X5_leastThroughTwo_7 {g0 : uZ} {a1 : Int} {a3 : Int} {a4 : Int} {g7 : uZ} {zr : (Int × uZ)} (hf : Fr [25, 26] [] g0 g7) (h : GC_X5_leastThroughTwo_7 a1 a3 a4 g7 = some zr) : fp_0 [25, 26] [] g0 zr := by
  unfold GC_X5_leastThroughTwo_7 at h
  obtain ⟨_, h⟩ := lt_x h
  obtain ⟨z, hz, h⟩ := lp_x (P := (fun q => fp_0 [25, 26] [] g0 q)) (Q := (fun q => Fr [25, 26] [] g0 q)) h hf (fun q r hq h => by have h9 := fB_X5_leastThroughTwo_5 hq h; rcases r with r | r <;> exact h9)
  exact fC_X5_leastThroughTwo_6 hz h
theorem fJ_X5_leastThroughTwo_8 {g0 : uZ} {g : uZ} {zr : (Int × uZ)} (hf : Fr [25, 26] [] g0 g) (h : GJ_X5_leastThroughTwo_8 g = some zr) : fp_0 [25, 26] [] g0 zr := by
  unfold GJ_X5_leastThroughTwo_8 at h
  cases h
  exact hf
theorem fF_X5_leastThroughTwo {g0 : uZ} {a1 : Int} {a2 : Int} {a3 : Int} {a4 : Int} {g : uZ} {zr : (Int × uZ)} (hf : Fr [25, 26] [] g0 g) (h : GF_X5_leastThroughTwo a1 a2 a3 a4 g = some zr) : fp_0 [25, 26] [] g0 zr := by
  unfold GF_X5_leastThroughTwo at h
  obtain ⟨_, hc, h⟩ := cp_e h
  clear hc
  replace h := (ck_e h).2
  rcases it_x h with h | h
  · skip
    exact fJ_X5_leastThroughTwo_8 hf h
  · skip
    obtain ⟨_, hc, h⟩ := cp_e h
    clear hc
    replace h := (ck_e h).2
    rcases it_x h with h | h
    · skip
      exact fJ_X5_leastThroughTwo_8 hf h
    · skip
      obtain ⟨z, hz, h⟩ := lp_x (P := (fun q => fp_0 [25, 26] [] g0 q)) (Q := (fun q => Fr [25, 26] [] g0 q)) h hf (fun q r hq h => by have h9 := fB_X5_leastThroughTwo_3 hq h; rcases r with r | r <;> exact h9)
      exact fC_X5_leastThroughTwo_7 hz h
theorem fB_X5_leastOfAll_17_3 {g0 : uZ} {w8 : Int} {g9 : uZ} {zr : ((Int × uZ) ⊕ uZ)} (hf : Fr [25, 26] [] g0 g9) (h : GB_X5_leastOfAll_17_3 w8 g9 = some zr) : fp_1 [25, 26] [] g0 zr := by
  unfold GB_X5_leastOfAll_17_3 at h
  obtain ⟨_, hc, h⟩ := cp_e h
  clear hc
  replace h := (ck_e h).2
  replace h := (ck_e h).2
  rcases it_x h with h | h
  · skip
    cases h
    exact hf
  · skip
    obtain ⟨_, hc, h⟩ := cp_e h
    clear hc
    obtain ⟨_, hf1, h⟩ := wrZ_f hf (by decide) h
    obtain ⟨_, h⟩ := lt_x h
    cases h
    exact hf1
theorem fJ_X5_leastOfAll_17_6 {g0 : uZ} {w17 : Int} {g18 : uZ} {v26 : Int} {zr : ((Int × uZ) ⊕ uZ)} (hf : Fr [25, 26] [] g0 g18) (h : GJ_X5_leastOfAll_17_6 w17 g18 v26 = some zr) : fp_1 [25, 26] [] g0 zr := by
  unfold GJ_X5_leastOfAll_17_6 at h
  obtain ⟨_, hf1, h⟩ := wrZ_f hf (by decide) h
  obtain ⟨_, h⟩ := lt_x h
  cases h
  exact hf1
theorem fB_X5_leastOfAll_17_7 {g0 : uZ} {a2 : Int} {w2 : Int} {w17 : Int} {g18 : uZ} {zr : ((Int × uZ) ⊕ uZ)} (hf : Fr [25, 26] [] g0 g18) (h : GB_X5_leastOfAll_17_7 a2 w2 w17 g18 = some zr) : fp_1 [25, 26] [] g0 zr := by
  unfold GB_X5_leastOfAll_17_7 at h
  replace h := (ck_e h).2
  rcases it_x h with h | h
  · skip
    obtain ⟨_, hc, h⟩ := cp_e h
    clear hc
    replace h := (ck_e h).2
    replace h := (ck_e h).2
    rcases it_x h with h | h
    · skip
      cases h
      exact hf
    · skip
      obtain ⟨_, hc, h⟩ := cp_e h
      clear hc
      replace h := (ck_e h).2
      rcases it_x h with h | h
      · skip
        obtain ⟨_, h⟩ := rdZ_x h
        exact fJ_X5_leastOfAll_17_6 hf h
      · skip
        exact fJ_X5_leastOfAll_17_6 hf h
  · skip
    cases h
    exact hf
theorem fC_X5_leastOfAll_17_8 {g0 : uZ} {w2 : Int} {g19 : uZ} {zr : ((Int × uZ) ⊕ uZ)} (hf : Fr [25, 26] [] g0 g19) (h : GC_X5_leastOfAll_17_8 w2 g19 = some zr) : fp_1 [25, 26] [] g0 zr := by
  unfold GC_X5_leastOfAll_17_8 at h
  obtain ⟨_, h⟩ := lt_x h
  cases h
  exact hf
theorem fJ_X5_leastOfAll_17_9 {g0 : uZ} {a2 : Int} {w2 : Int} {g16 : uZ} {zr : ((Int × uZ) ⊕ uZ)} (hf : Fr [25, 26] [] g0 g16) (h : GJ_X5_leastOfAll_17_9 a2 w2 g16 = some zr) : fp_1 [25, 26] [] g0 zr := by
  unfold GJ_X5_leastOfAll_17_9 at h
  obtain ⟨z, hz, h⟩ := lp_x (P := (fun q => fp_0 [25, 26] [] g0 q)) (Q := (fun q => Fr [25, 26] [] g0 q)) h hf (fun q r hq h => by have h9 := fB_X5_leastOfAll_17_7 hq h; rcases r with r | r <;> exact h9)
  exact fC_X5_leastOfAll_17_8 hz h
theorem fC_X5_leastOfAll_17_4 {g0 : uZ} {a2 : Int} {w2 : Int} {g10 : uZ} {zr : ((Int × uZ) ⊕ uZ)} (hf : Fr [25, 26] [] g0 g10) (h : GC_X5_leastOfAll_17_4 a2 w2 g10 = some zr) : fp_1 [25, 26] [] g0 zr := by
  unfold GC_X5_leastOfAll_17_4 at h
  exact fJ_X5_leastOfAll_17_9 hf h
theorem fB_X5_leastOfAll_17_10 {g0 : uZ} {a2 : Int} {w2 : Int} {g3 : uZ} {zr : ((Int × uZ) ⊕ uZ)} (hf : Fr [25, 26] [] g0 g3) (h : GB_X5_leastOfAll_17_10 a2 w2 g3 = some zr) : fp_1 [25, 26] [] g0 zr := by
  unfold GB_X5_leastOfAll_17_10 at h
  replace h := (ck_e h).2
  replace h := (ck_e h).2
  rcases it_x h with h | h
  · skip
    cases h
    exact hf
  · skip
    rcases it_x h with h | h
    · skip
      obtain ⟨z, hz, h⟩ := lp_x (P := (fun q => fp_0 [25, 26] [] g0 q)) (Q := (fun q => Fr [25, 26] [] g0 q)) h hf (fun q r hq h => by have h9 := fB_X5_leastOfAll_17_3 hq h; rcases r with r | r <;> exact h9)
      exact fC_X5_leastOfAll_17_4 hz h
    · skip
      obtain ⟨_, hc, h⟩ := cp_e h
      have hf1 := Fr.tr hf (fF_X5_advance_17 Fr.rf hc) (by decide) (by decide)
      clear hc
      exact fJ_X5_leastOfAll_17_9 hf1 h
theorem fC_X5_leastOfAll_17_13 {g0 : uZ} {g4 : uZ} {v32 : Int} {zr : (Int × uZ)} (hf : Fr [25, 26] [] g0 g4) (h : GC_X5_leastOfAll_17_13 g4 v32 = some zr) : fp_0 [25, 26] [] g0 zr := by
  unfold GC_X5_leastOfAll_17_13 at h
  cases h
  exact hf
theorem fC_X5_leastOfAll_17_14 {g0 : uZ} {g4 : uZ} {zr : (Int × uZ)} (hf : Fr [25, 26] [] g0 g4) (h : GC_X5_leastOfAll_17_14 g4 = some zr) : fp_0 [25, 26] [] g0 zr := by
  unfold GC_X5_leastOfAll_17_14 at h
  obtain ⟨z, hz, h⟩ := lp_x (P := (fun _ => True)) (Q := (fun _ => True)) h trivial (fun q r hq h => by rcases r with r | r <;> trivial)
  exact fC_X5_leastOfAll_17_13 hf h
theorem fF_X5_leastOfAll_17 {g0 : uZ} {a2 : Int} {g : uZ} {zr : (Int × uZ)} (hf : Fr [25, 26] [] g0 g) (h : GF_X5_leastOfAll_17 a2 g = some zr) : fp_0 [25, 26] [] g0 zr := by
  unfold GF_X5_leastOfAll_17 at h
  replace h := (ck_e h).2
  rcases it_x h with h | h
  · skip
    cases h
    exact hf
  · skip
    obtain ⟨z, hz, h⟩ := lp_x (P := (fun q => fp_0 [25, 26] [] g0 q)) (Q := (fun q => Fr [25, 26] [] g0 q)) h hf (fun q r hq h => by have h9 := fB_X5_leastOfAll_17_10 hq h; rcases r with r | r <;> exact h9)
    exact fC_X5_leastOfAll_17_14 hz h
theorem fF_X5_leastWithoutDoubles {g0 : uZ} {g : uZ} {zr : (Int × uZ)} (hf : Fr [25, 26] [] g0 g) (h : GF_X5_leastWithoutDoubles g = some zr) : fp_0 [25, 26] [] g0 zr := by
  unfold GF_X5_leastWithoutDoubles at h
  obtain ⟨_, _, hc, h⟩ := clZ_x h
  have hf1 := Fr.tr hf (fF_X5_leastOfAll_17 Fr.rf hc) (by decide) (by decide)
  clear hc
  cases h
  exact hf1
theorem fC_X5_advance_18_4 {g0 : uZ} {a1 : Int} {w1 : Int} {g2 : uZ} {v9 : Int} {zr : ((Int × uZ) ⊕ uZ)} (hf : Fr [25, 26] [] g0 g2) (h : GC_X5_advance_18_4 a1 w1 g2 v9 = some zr) : fp_1 [25, 26] [] g0 zr := by
  unfold GC_X5_advance_18_4 at h
  obtain ⟨_, hc, h⟩ := cp_e h
  clear hc
  obtain ⟨_, hf1, h⟩ := wrZ_f hf (by decide) h
  obtain ⟨_, h⟩ := lt_x h
  cases h
  exact hf1
theorem fB_X5_advance_18_5 {g0 : uZ} {a1 : Int} {w1 : Int} {g2 : uZ} {zr : ((Int × uZ) ⊕ uZ)} (hf : Fr [25, 26] [] g0 g2) (h : GB_X5_advance_18_5 a1 w1 g2 = some zr) : fp_1 [25, 26] [] g0 zr := by
  unfold GB_X5_advance_18_5 at h
  obtain ⟨_, hc, h⟩ := cp_e h
  clear hc
  replace h := (ck_e h).2
  replace h := (ck_e h).2
  rcases it_x h with h | h
  · skip
    cases h
    exact hf
  · skip
    obtain ⟨_, hc, h⟩ := cp_e h
    clear hc
    obtain ⟨z, hz, h⟩ := lp_x (P := (fun _ => True)) (Q := (fun _ => True)) h trivial (fun q r hq h => by rcases r with r | r <;> trivial)
    exact fC_X5_advance_18_4 hf h
theorem fB_X5_advance_18_7 {g0 : uZ} {a1 : Int} {w20 : Int} {g21 : uZ} {zr : ((Int × uZ) ⊕ uZ)} (hf : Fr [25, 26] [] g0 g21) (h : GB_X5_advance_18_7 a1 w20 g21 = some zr) : fp_1 [25, 26] [] g0 zr := by
  unfold GB_X5_advance_18_7 at h
  obtain ⟨_, hc, h⟩ := cp_e h
  clear hc
  replace h := (ck_e h).2
  replace h := (ck_e h).2
  rcases it_x h with h | h
  · skip
    cases h
    exact hf
  · skip
    obtain ⟨_, h⟩ := rdZ_x h
    obtain ⟨_, hf1, h⟩ := wrZ_f hf (by decide) h
    obtain ⟨_, h⟩ := lt_x h
    cases h
    exact hf1
theorem fC_X5_advance_18_8 {g0 : uZ} {g22 : uZ} {zr : uZ} (hf : Fr [25, 26] [] g0 g22) (h : GC_X5_advance_18_8 g22 = some zr) : Fr [25, 26] [] g0 zr := by
  unfold GC_X5_advance_18_8 at h
  cases h
  exact hf
theorem fC_X5_advance_18_9 {g0 : uZ} {a1 : Int} {g3 : uZ} {zr : uZ} (hf : Fr [25, 26] [] g0 g3) (h : GC_X5_advance_18_9 a1 g3 = some zr) : Fr [25, 26] [] g0 zr := by
  unfold GC_X5_advance_18_9 at h
  obtain ⟨z, hz, h⟩ := lp_x (P := (fun q => fp_0 [25, 26] [] g0 q)) (Q := (fun q => Fr [25, 26] [] g0 q)) h hf (fun q r hq h => by have h9 := fB_X5_advance_18_7 hq h; rcases r with r | r <;> exact h9)
  exact fC_X5_advance_18_8 hz h
theorem fF_X5_advance_18 {g0 : uZ} {a1 : Int} {g : uZ} {zr : uZ} (hf : Fr [25, 26] [] g0 g) (h : GF_X5_advance_18 a1 g = some zr) : Fr [25, 26] [] g0 zr := by
  unfold GF_X5_advance_18 at h
  obtain ⟨z, hz, h⟩ := lp_x (P := (fun q => fp_0 [25, 26] [] g0 q)) (Q := (fun q => Fr [25, 26] [] g0 q)) h hf (fun q r hq h => by have h9 := fB_X5_advance_18_5 hq h; rcases r with r | r <;> exact h9)
  exact fC_X5_advance_18_9 hz h
theorem fB_X5_leastOfAll_18_3 {g0 : uZ} {w8 : Int} {g9 : uZ} {zr : ((Int × uZ) ⊕ uZ)} (hf : Fr [25, 26] [] g0 g9) (h : GB_X5_leastOfAll_18_3 w8 g9 = some zr) : fp_1 [25, 26] [] g0 zr := by
  unfold GB_X5_leastOfAll_18_3 at h
  obtain ⟨_, hc, h⟩ := cp_e h
  clear hc
  replace h := (ck_e h).2
  replace h := (ck_e h).2
  rcases it_x h with h | h
  · skip
    cases h
    exact hf
  · skip
    obtain ⟨_, hc, h⟩ := cp_e h
    clear hc
    obtain ⟨_, hf1, h⟩ := wrZ_f hf (by decide) h
    obtain ⟨_, h⟩ := lt_x h
    cases h
    exact hf1
theorem fJ_X5_leastOfAll_18_6 {g0 : uZ} {w17 : Int} {g18 : uZ} {v26 : Int} {zr : ((Int × uZ) ⊕ uZ)} (hf : Fr [25, 26] [] g0 g18) (h : GJ_X5_leastOfAll_18_6 w17 g18 v26 = some zr) : fp_1 [25, 26] [] g0 zr := by
  unfold GJ_X5_leastOfAll_18_6 at h
  obtain ⟨_, hf1, h⟩ := wrZ_f hf (by decide) h
  obtain ⟨_, h⟩ := lt_x h
  cases h
  exact hf1
theorem fB_X5_leastOfAll_18_7 {g0 : uZ} {a2 : Int} {w2 : Int} {w17 : Int} {g18 : uZ} {zr : ((Int × uZ) ⊕ uZ)} (hf : Fr [25, 26] [] g0 g18) (h : GB_X5_leastOfAll_18_7 a2 w2 w17 g18 = some zr) : fp_1 [25, 26] [] g0 zr := by
  unfold GB_X5_leastOfAll_18_7 at h
  replace h := (ck_e h).2
  rcases it_x h with h | h
  · skip
    obtain ⟨_, hc, h⟩ := cp_e h
    clear hc
    replace h := (ck_e h).2
    replace h := (ck_e h).2
    rcases it_x h with h | h
    · skip
      cases h
      exact hf
    · skip
      obtain ⟨_, hc, h⟩ := cp_e h
      clear hc
      replace h := (ck_e h).2
      rcases it_x h with h | h
      · skip
        obtain ⟨_, h⟩ := rdZ_x h
        exact fJ_X5_leastOfAll_18_6 hf h
      · skip
        exact fJ_X5_leastOfAll_18_6 hf h
  · skip
    cases h
    exact hf
theorem fC_X5_leastOfAll_18_8 {g0 : uZ} {w2 : Int} {g19 : uZ} {zr : ((Int × uZ) ⊕ uZ)} (hf : Fr [25, 26] [] g0 g19) (h : GC_X5_leastOfAll_18_8 w2 g19 = some zr) : fp_1 [25, 26] [] g0 zr := by
  unfold GC_X5_leastOfAll_18_8 at h
  obtain ⟨_, h⟩ := lt_x h
  cases h
  exact hf
theorem fJ_X5_leastOfAll_18_9 {g0 : uZ} {a2 : Int} {w2 : Int} {g16 : uZ} {zr : ((Int × uZ) ⊕ uZ)} (hf : Fr [25, 26] [] g0 g16) (h : GJ_X5_leastOfAll_18_9 a2 w2 g16 = some zr) : fp_1 [25, 26] [] g0 zr := by
  unfold GJ_X5_leastOfAll_18_9 at h
  obtain ⟨z, hz, h⟩ := lp_x (P := (fun q => fp_0 [25, 26] [] g0 q)) (Q := (fun q => Fr [25, 26] [] g0 q)) h hf (fun q r hq h => by have h9 := fB_X5_leastOfAll_18_7 hq h; rcases r with r | r <;> exact h9)
  exact fC_X5_leastOfAll_18_8 hz h
theorem fC_X5_leastOfAll_18_4 {g0 : uZ} {a2 : Int} {w2 : Int} {g10 : uZ} {zr : ((Int × uZ) ⊕ uZ)} (hf : Fr [25, 26] [] g0 g10) (h : GC_X5_leastOfAll_18_4 a2 w2 g10 = some zr) : fp_1 [25, 26] [] g0 zr := by
  unfold GC_X5_leastOfAll_18_4 at h
  exact fJ_X5_leastOfAll_18_9 hf h
theorem fB_X5_leastOfAll_18_10 {g0 : uZ} {a2 : Int} {w2 : Int} {g3 : uZ} {zr : ((Int × uZ) ⊕ uZ)} (hf : Fr [25, 26] [] g0 g3) (h : GB_X5_leastOfAll_18_10 a2 w2 g3 = some zr) : fp_1 [25, 26] [] g0 zr := by
  unfold GB_X5_leastOfAll_18_10 at h
  replace h := (ck_e h).2
  replace h := (ck_e h).2
  rcases it_x h with h | h
  · skip
    cases h
    exact hf
  · skip
    rcases it_x h with h | h
    · skip
      obtain ⟨z, hz, h⟩ := lp_x (P := (fun q => fp_0 [25, 26] [] g0 q)) (Q := (fun q => Fr [25, 26] [] g0 q)) h hf (fun q r hq h => by have h9 := fB_X5_leastOfAll_18_3 hq h; rcases r with r | r <;> exact h9)
      exact fC_X5_leastOfAll_18_4 hz h
    · skip
      obtain ⟨_, hc, h⟩ := cp_e h
      have hf1 := Fr.tr hf (fF_X5_advance_18 Fr.rf hc) (by decide) (by decide)
      clear hc
      exact fJ_X5_leastOfAll_18_9 hf1 h
theorem fC_X5_leastOfAll_18_13 {g0 : uZ} {g4 : uZ} {v32 : Int} {zr : (Int × uZ)} (hf : Fr [25, 26] [] g0 g4) (h : GC_X5_leastOfAll_18_13 g4 v32 = some zr) : fp_0 [25, 26] [] g0 zr := by
  unfold GC_X5_leastOfAll_18_13 at h
  cases h
  exact hf
theorem fC_X5_leastOfAll_18_14 {g0 : uZ} {g4 : uZ} {zr : (Int × uZ)} (hf : Fr [25, 26] [] g0 g4) (h : GC_X5_leastOfAll_18_14 g4 = some zr) : fp_0 [25, 26] [] g0 zr := by
  unfold GC_X5_leastOfAll_18_14 at h
  obtain ⟨z, hz, h⟩ := lp_x (P := (fun _ => True)) (Q := (fun _ => True)) h trivial (fun q r hq h => by rcases r with r | r <;> trivial)
  exact fC_X5_leastOfAll_18_13 hf h
theorem fF_X5_leastOfAll_18 {g0 : uZ} {a2 : Int} {g : uZ} {zr : (Int × uZ)} (hf : Fr [25, 26] [] g0 g) (h : GF_X5_leastOfAll_18 a2 g = some zr) : fp_0 [25, 26] [] g0 zr := by
  unfold GF_X5_leastOfAll_18 at h
  replace h := (ck_e h).2
  rcases it_x h with h | h
  · skip
    cases h
    exact hf
  · skip
    obtain ⟨z, hz, h⟩ := lp_x (P := (fun q => fp_0 [25, 26] [] g0 q)) (Q := (fun q => Fr [25, 26] [] g0 q)) h hf (fun q r hq h => by have h9 := fB_X5_leastOfAll_18_10 hq h; rcases r with r | r <;> exact h9)
    exact fC_X5_leastOfAll_18_14 hz h
theorem fF_X5_leastWith {g0 : uZ} {a1 : Int} {a2 : Int} {g : uZ} {zr : (Int × uZ)} (hf : Fr [25, 26] [(18, 0), (18, 1), (18, 2)] g0 g) (h : GF_X5_leastWith a1 a2 g = some zr) : fp_0 [25, 26] [(18, 0), (18, 1), (18, 2)] g0 zr := by
  unfold GF_X5_leastWith at h
  obtain ⟨_, hc, h⟩ := cp_e h
  clear hc
  obtain ⟨_, hc, h⟩ := cp_e h
  have hf1 := Fr.tr hf (fF_X9_set_18 Fr.rf hc) (by decide) (by decide)
  clear hc
  obtain ⟨_, _, hc, h⟩ := clZ_x h
  have hf2 := Fr.tr hf1 (fF_X5_leastOfAll_18 Fr.rf hc) (by decide) (by decide)
  clear hc
  cases h
  exact hf2
theorem fF_X9_setBy_28_4 {g0 : uZ} {g : uZ} {zr : uZ} (hf : Fr [] [(28, 0), (28, 1), (28, 2)] g0 g) (h : GF_X9_setBy_28_4 g = some zr) : Fr [] [(28, 0), (28, 1), (28, 2)] g0 zr := by
  unfold GF_X9_setBy_28_4 at h
  obtain ⟨_, hc, h⟩ := cp_e h
  clear hc
  obtain ⟨_, hc, h⟩ := cp_e h
  clear hc
  obtain ⟨_, hc, h⟩ := cp_e h
  clear hc
  obtain ⟨_, hc, h⟩ := cp_e h
  have hf1 := Fr.tr hf (fF_X9_set_28 Fr.rf hc) (by decide) (by decide)
  clear hc
  cases h
  exact hf1
theorem fJ_X6_findWays_2 {g0 : uZ} {w5 : Int} {g10 : uZ} {v15 : Int} {zr : ((Int × uZ) ⊕ uZ)} (hf : Fr [29, 30, 31, 32, 33] [] g0 g10) (h : GJ_X6_findWays_2 w5 g10 v15 = some zr) : fp_1 [29, 30, 31, 32, 33] [] g0 zr := by
  unfold GJ_X6_findWays_2 at h
  obtain ⟨_, hf1, h⟩ := wrZ_f hf (by decide) h
  obtain ⟨_, h⟩ := lt_x h
  cases h
  exact hf1
theorem fB_X6_findWays_3 {g0 : uZ} {a1 : Int} {a2 : Int} {w5 : Int} {g6 : uZ} {zr : ((Int × uZ) ⊕ uZ)} (hf : Fr [29, 30, 31, 32, 33] [] g0 g6) (h : GB_X6_findWays_3 a1 a2 w5 g6 = some zr) : fp_1 [29, 30, 31, 32, 33] [] g0 zr := by
  unfold GB_X6_findWays_3 at h
  obtain ⟨_, hc, h⟩ := cp_e h
  clear hc
  replace h := (ck_e h).2
  replace h := (ck_e h).2
  rcases it_x h with h | h
  · skip
    cases h
    exact hf
  · skip
    obtain ⟨_, hf1, h⟩ := wrZ_f hf (by decide) h
    replace h := (ck_e h).2
    rcases it_x h with h | h
    · skip
      obtain ⟨_, hc, h⟩ := cp_e h
      clear hc
      obtain ⟨_, hc, h⟩ := cp_e h
      clear hc
      obtain ⟨_, hc, h⟩ := cp_e h
      clear hc
      exact fJ_X6_findWays_2 hf1 h
    · skip
      exact fJ_X6_findWays_2 hf1 h
theorem fB_X6_findWays_5 {g0 : uZ} {a1 : Int} {v1 : Int} {v2 : Int} {w19 : Int} {w20 : Int} {g21 : uZ} {zr : ((Int × (Int × uZ)) ⊕ (Int × uZ))} (hf : Fr [29, 30, 31, 32, 33] [] g0 g21) (h : GB_X6_findWays_5 a1 v1 v2 w19 w20 g21 = some zr) : fp_4 [29, 30, 31, 32, 33] [] g0 zr := by
  unfold GB_X6_findWays_5 at h
  replace h := (ck_e h).2
  rcases it_x h with h | h
  · skip
    cases h
    exact hf
  · skip
    replace h := (ck_e h).2
    rcases it_x h with h | h
    · skip
      cases h
      exact hf
    · skip
      obtain ⟨_, h⟩ := rdZ_x h
      obtain ⟨_, hc, h⟩ := cp_e h
      clear hc
      obtain ⟨_, h⟩ := rdZ_x h
      obtain ⟨_, h⟩ := rdZ_x h
      obtain ⟨_, hf1, h⟩ := wrZ_f hf (by decide) h
      obtain ⟨_, h⟩ := rdZ_x h
      obtain ⟨_, hf2, h⟩ := wrZ_f hf1 (by decide) h
      obtain ⟨_, h⟩ := rdZ_x h
      obtain ⟨_, hf3, h⟩ := wrZ_f hf2 (by decide) h
      obtain ⟨_, h⟩ := lt_x h
      obtain ⟨_, hc, h⟩ := cp_e h
      clear hc
      cases h
      exact hf3
theorem fC_X6_findWays_6 {g0 : uZ} {a1 : Int} {a2 : Int} {v22 : Int} {g23 : uZ} {zr : uZ} (hf : Fr [29, 30, 31, 32, 33] [] g0 g23) (h : GC_X6_findWays_6 a1 a2 v22 g23 = some zr) : Fr [29, 30, 31, 32, 33] [] g0 zr := by
  unfold GC_X6_findWays_6 at h
  obtain ⟨_, hc, h⟩ := cp_e h
  clear hc
  obtain ⟨_, hf1, h⟩ := wrZ_f hf (by decide) h
  cases h
  exact hf1
theorem fC_X6_findWays_7 {g0 : uZ} {a1 : Int} {a2 : Int} {v1 : Int} {v2 : Int} {g7 : uZ} {zr : uZ} (hf : Fr [29, 30, 31, 32, 33] [] g0 g7) (h : GC_X6_findWays_7 a1 a2 v1 v2 g7 = some zr) : Fr [29, 30, 31, 32, 33] [] g0 zr := by
  unfold GC_X6_findWays_7 at h
  obtain ⟨_, hc, h⟩ := cp_e h
  clear hc
  obtain ⟨z, hz, h⟩ := lp_x (P := (fun q => fp_2 [29, 30, 31, 32, 33] [] g0 q)) (Q := (fun q => fp_0 [29, 30, 31, 32, 33] [] g0 q)) h hf (fun q r hq h => by have h9 := fB_X6_findWays_5 hq h; rcases r with r | r <;> exact h9)
  exact fC_X6_findWays_6 hz h
theorem fF_X6_findWays {g0 : uZ} {a1 : Int} {a2 : Int} {g : uZ} {zr : uZ} (hf : Fr [29, 30, 31, 32, 33] [] g0 g) (h : GF_X6_findWays a1 a2 g = some zr) : Fr [29, 30, 31, 32, 33] [] g0 zr := by
  unfold GF_X6_findWays at h
  obtain ⟨_, hc, h⟩ := cp_e h
  clear hc
  obtain ⟨_, hc, h⟩ := cp_e h
  clear hc
  obtain ⟨_, hc, h⟩ := cp_e h
  clear hc
  replace h := (ck_e h).2
  replace h := (ck_e h).2
  rcases it_x h with h | h
  · skip
    obtain ⟨z, hz, h⟩ := lp_x (P := (fun q => fp_0 [29, 30, 31, 32, 33] [] g0 q)) (Q := (fun q => Fr [29, 30, 31, 32, 33] [] g0 q)) h hf (fun q r hq h => by have h9 := fB_X6_findWays_3 hq h; rcases r with r | r <;> exact h9)
    exact fC_X6_findWays_7 hz h
  · skip
    obtain ⟨_, hf1, h⟩ := wrZ_f hf (by decide) h
    obtain ⟨_, hc, h⟩ := cp_e h
    clear hc
    obtain ⟨_, hf2, h⟩ := wrZ_f hf1 (by decide) h
    cases h
    exact hf2
theorem fB_X6_find_3 {g0 : uZ} {w4 : Int} {w8 : Int} {g9 : uZ} {zr : ((Int × uZ) ⊕ uZ)} (hf : Fr [29, 30, 31, 32, 33] [(28, 0), (28, 1), (28, 2)] g0 g9) (h : GB_X6_find_3 w4 w8 g9 = some zr) : fp_1 [29, 30, 31, 32, 33] [(28, 0), (28, 1), (28, 2)] g0 zr := by
  unfold GB_X6_find_3 at h
  obtain ⟨_, hc, h⟩ := cp_e h
  clear hc
  replace h := (ck_e h).2
  replace h := (ck_e h).2
  rcases it_x h with h | h
  · skip
    cases h
    exact hf
  · skip
    obtain ⟨_, hc, h⟩ := cp_e h
    have hf1 := Fr.tr hf (fF_X6_findWays Fr.rf hc) (by decide) (by decide)
    clear hc
    obtain ⟨_, h⟩ := lt_x h
    cases h
    exact hf1
theorem fC_X6_find_4 {g0 : uZ} {w4 : Int} {g10 : uZ} {zr : ((Int × uZ) ⊕ uZ)} (hf : Fr [29, 30, 31, 32, 33] [(28, 0), (28, 1), (28, 2)] g0 g10) (h : GC_X6_find_4 w4 g10 = some zr) : fp_1 [29, 30, 31, 32, 33] [(28, 0), (28, 1), (28, 2)] g0 zr := by
  unfold GC_X6_find_4 at h
  obtain ⟨_, h⟩ := lt_x h
  cases h
  exact hf
theorem fB_X6_find_5 {g0 : uZ} {w4 : Int} {g5 : uZ} {zr : ((Int × uZ) ⊕ uZ)} (hf : Fr [29, 30, 31, 32, 33] [(28, 0), (28, 1), (28, 2)] g0 g5) (h : GB_X6_find_5 w4 g5 = some zr) : fp_1 [29, 30, 31, 32, 33] [(28, 0), (28, 1), (28, 2)] g0 zr := by
  unfold GB_X6_find_5 at h
  replace h := (ck_e h).2
  rcases it_x h with h | h
  · skip
    cases h
    exact hf
  · skip
    obtain ⟨z, hz, h⟩ := lp_x (P := (fun q => fp_0 [29, 30, 31, 32, 33] [(28, 0), (28, 1), (28, 2)] g0 q)) (Q := (fun q => Fr [29, 30, 31, 32, 33] [(28, 0), (28, 1), (28, 2)] g0 q)) h hf (fun q r hq h => by have h9 := fB_X6_find_3 hq h; rcases r with r | r <;> exact h9)
    exact fC_X6_find_4 hz h
theorem fC_X6_find_6 {g0 : uZ} {g6 : uZ} {zr : uZ} (hf : Fr [29, 30, 31, 32, 33] [(28, 0), (28, 1), (28, 2)] g0 g6) (h : GC_X6_find_6 g6 = some zr) : Fr [29, 30, 31, 32, 33] [(28, 0), (28, 1), (28, 2)] g0 zr := by
  unfold GC_X6_find_6 at h
  obtain ⟨_, hc, h⟩ := cp_e h
  have hf1 := Fr.tr hf (fF_X6_findWays Fr.rf hc) (by decide) (by decide)
  clear hc
  cases h
  exact hf1
theorem fF_X6_find {g0 : uZ} {g : uZ} {zr : uZ} (hf : Fr [29, 30, 31, 32, 33] [(28, 0), (28, 1), (28, 2)] g0 g) (h : GF_X6_find g = some zr) : Fr [29, 30, 31, 32, 33] [(28, 0), (28, 1), (28, 2)] g0 zr := by
  unfold GF_X6_find at h
  obtain ⟨_, hc, h⟩ := cp_e h
  have hf1 := Fr.tr hf (fF_X9_setBy_28_4 Fr.rf hc) (by decide) (by decide)
  clear hc
  obtain ⟨_, hc, h⟩ := cp_e h
  clear hc
  obtain ⟨_, h⟩ := lt_x h
  obtain ⟨z, hz, h⟩ := lp_x (P := (fun q => fp_0 [29, 30, 31, 32, 33] [(28, 0), (28, 1), (28, 2)] g0 q)) (Q := (fun q => Fr [29, 30, 31, 32, 33] [(28, 0), (28, 1), (28, 2)] g0 q)) h hf1 (fun q r hq h => by have h9 := fB_X6_find_5 hq h; rcases r with r | r <;> exact h9)
  exact fC_X6_find_6 hz h
theorem fJ_X8_find_3 {g0 : uZ} {w2 : Int} {g18 : uZ} {zr : ((Int × uZ) ⊕ uZ)} (hf : Fr [35, 36, 37] [(34, 6)] g0 g18) (h : GJ_X8_find_3 w2 g18 = some zr) : fp_1 [35, 36, 37] [(34, 6)] g0 zr := by
  unfold GJ_X8_find_3 at h
  obtain ⟨_, h⟩ := rdZ_x h
  obtain ⟨_, hf1, h⟩ := wrZ_f hf (by decide) h
  obtain ⟨_, hf2, h⟩ := wrZ_f hf1 (by decide) h
  obtain ⟨_, h⟩ := lt_x h
  cases h
  exact hf2
theorem fJ_X8_find_2 {g0 : uZ} {w2 : Int} {g3 : uZ} {zr : ((Int × uZ) ⊕ uZ)} (hf : Fr [35, 36, 37] [(34, 6)] g0 g3) (h : GJ_X8_find_2 w2 g3 = some zr) : fp_1 [35, 36, 37] [(34, 6)] g0 zr := by
  unfold GJ_X8_find_2 at h
  obtain ⟨_, hf1, h⟩ := wrZ_f hf (by decide) h
  obtain ⟨_, hf2, h⟩ := wrZ_f hf1 (by decide) h
  obtain ⟨_, hf3, h⟩ := pfZ_f hf2 (by decide) h
  exact fJ_X8_find_3 hf3 h
theorem fB_X8_find_4 {g0 : uZ} {w2 : Int} {g3 : uZ} {zr : ((Int × uZ) ⊕ uZ)} (hf : Fr [35, 36, 37] [(34, 6)] g0 g3) (h : GB_X8_find_4 w2 g3 = some zr) : fp_1 [35, 36, 37] [(34, 6)] g0 zr := by
  unfold GB_X8_find_4 at h
  obtain ⟨_, hc, h⟩ := cp_e h
  clear hc
  replace h := (ck_e h).2
  replace h := (ck_e h).2
  rcases it_x h with h | h
  · skip
    cases h
    exact hf
  · skip
    rcases it_x h with h | h
    · skip
      exact fJ_X8_find_2 hf h
    · skip
      obtain ⟨_, hc, h⟩ := cp_e h
      clear hc
      replace h := (ck_e h).2
      obtain ⟨_, h⟩ := lt_x h
      obtain ⟨_, hc, h⟩ := cp_e h
      clear hc
      replace h := (ck_e h).2
      obtain ⟨_, h⟩ := lt_x h
      replace h := (ck_e h).2
      replace h := (ck_e h).2
      rcases it_x h with h | h
      · skip
        exact fJ_X8_find_3 hf h
      · skip
        exact fJ_X8_find_2 hf h
theorem fC_X8_find_5 {g0 : uZ} {g4 : uZ} {zr : uZ} (hf : Fr [35, 36, 37] [(34, 6)] g0 g4) (h : GC_X8_find_5 g4 = some zr) : Fr [35, 36, 37] [(34, 6)] g0 zr := by
  unfold GC_X8_find_5 at h
  cases h
  exact hf
theorem fF_X8_find {g0 : uZ} {g : uZ} {zr : uZ} (hf : Fr [35, 36, 37] [(34, 6)] g0 g) (h : GF_X8_find g = some zr) : Fr [35, 36, 37] [(34, 6)] g0 zr := by
  unfold GF_X8_find at h
  obtain ⟨_, hf1, h⟩ := pfZ_f hf (by decide) h
  obtain ⟨z, hz, h⟩ := lp_x (P := (fun q => fp_0 [35, 36, 37] [(34, 6)] g0 q)) (Q := (fun q => Fr [35, 36, 37] [(34, 6)] g0 q)) h hf1 (fun q r hq h => by have h9 := fB_X8_find_4 hq h; rcases r with r | r <;> exact h9)
  exact fC_X8_find_5 hz h
theorem fJ_X4_findNotes_5 {g0 : uZ} {w2 : Int} {g21 : uZ} {zr : ((Int × uZ) ⊕ uZ)} (hf : Fr [39, 40] [(38, 6)] g0 g21) (h : GJ_X4_findNotes_5 w2 g21 = some zr) : fp_1 [39, 40] [(38, 6)] g0 zr := by
  unfold GJ_X4_findNotes_5 at h
  obtain ⟨_, h⟩ := lt_x h
  cases h
  exact hf
theorem fJ_X4_findNotes_3 {g0 : uZ} {w2 : Int} {g18 : uZ} {zr : ((Int × uZ) ⊕ uZ)} (hf : Fr [39, 40] [(38, 6)] g0 g18) (h : GJ_X4_findNotes_3 w2 g18 = some zr) : fp_1 [39, 40] [(38, 6)] g0 zr := by
  unfold GJ_X4_findNotes_3 at h
  obtain ⟨_, h⟩ := rdZ_x h
  obtain ⟨_, hf1, h⟩ := wrZ_f hf (by decide) h
  exact fJ_X4_findNotes_5 hf1 h
theorem fJ_X4_findNotes_2 {g0 : uZ} {w2 : Int} {g3 : uZ} {zr : ((Int × uZ) ⊕ uZ)} (hf : Fr [39, 40] [(38, 6)] g0 g3) (h : GJ_X4_findNotes_2 w2 g3 = some zr) : fp_1 [39, 40] [(38, 6)] g0 zr := by
  unfold GJ_X4_findNotes_2 at h
  obtain ⟨_, hf1, h⟩ := wrZ_f hf (by decide) h
  obtain ⟨_, hf2, h⟩ := wrZ_f hf1 (by decide) h
  obtain ⟨_, hf3, h⟩ := pfZ_f hf2 (by decide) h
  exact fJ_X4_findNotes_3 hf3 h
theorem fJ_X4_findNotes_4 {g0 : uZ} {v7 : Int} {w2 : Int} {g3 : uZ} {v11 : Int} {zr : ((Int × uZ) ⊕ uZ)} (hf : Fr [39, 40] [(38, 6)] g0 g3) (h : GJ_X4_findNotes_4 v7 w2 g3 v11 = some zr) : fp_1 [39, 40] [(38, 6)] g0 zr := by
  unfold GJ_X4_findNotes_4 at h
  replace h := (ck_e h).2
  rcases it_x h with h | h
  · skip
    exact fJ_X4_findNotes_2 hf h
  · skip
    obtain ⟨_, hc, h⟩ := cp_e h
    clear hc
    replace h := (ck_e h).2
    rcases it_x h with h | h
    · skip
      exact fJ_X4_findNotes_3 hf h
    · skip
      exact fJ_X4_findNotes_2 hf h
theorem fB_X4_findNotes_6 {g0 : uZ} {w2 : Int} {g3 : uZ} {zr : ((Int × uZ) ⊕ uZ)} (hf : Fr [39, 40] [(38, 6)] g0 g3) (h : GB_X4_findNotes_6 w2 g3 = some zr) : fp_1 [39, 40] [(38, 6)] g0 zr := by
  unfold GB_X4_findNotes_6 at h
  obtain ⟨_, hc, h⟩ := cp_e h
  clear hc
  replace h := (ck_e h).2
  replace h := (ck_e h).2
  rcases it_x h with h | h
  · skip
    cases h
    exact hf
  · skip
    obtain ⟨_, hc, h⟩ := cp_e h
    clear hc
    replace h := (ck_e h).2
    rcases it_x h with h | h
    · skip
      exact fJ_X4_findNotes_5 hf h
    · skip
      rcases it_x h with h | h
      · skip
        exact fJ_X4_findNotes_4 hf h
      · skip
        obtain ⟨_, hc, h⟩ := cp_e h
        clear hc
        exact fJ_X4_findNotes_4 hf h
theorem fC_X4_findNotes_7 {g0 : uZ} {g4 : uZ} {zr : uZ} (hf : Fr [39, 40] [(38, 6)] g0 g4) (h : GC_X4_findNotes_7 g4 = some zr) : Fr [39, 40] [(38, 6)] g0 zr := by
  unfold GC_X4_findNotes_7 at h
  cases h
  exact hf
theorem fF_X4_findNotes {g0 : uZ} {g : uZ} {zr : uZ} (hf : Fr [39, 40] [(38, 6)] g0 g) (h : GF_X4_findNotes g = some zr) : Fr [39, 40] [(38, 6)] g0 zr := by
  unfold GF_X4_findNotes at h
  obtain ⟨_, hf1, h⟩ := pfZ_f hf (by decide) h
  obtain ⟨z, hz, h⟩ := lp_x (P := (fun q => fp_0 [39, 40] [(38, 6)] g0 q)) (Q := (fun q => Fr [39, 40] [(38, 6)] g0 q)) h hf1 (fun q r hq h => by have h9 := fB_X4_findNotes_6 hq h; rcases r with r | r <;> exact h9)
  exact fC_X4_findNotes_7 hz h
theorem fB_X4_tallyLags_43_2 {g0 : uZ} {w1 : Int} {g2 : uZ} {zr : ((Int × uZ) ⊕ uZ)} (hf : Fr [43] [] g0 g2) (h : GB_X4_tallyLags_43_2 w1 g2 = some zr) : fp_1 [43] [] g0 zr := by
  unfold GB_X4_tallyLags_43_2 at h
  replace h := (ck_e h).2
  rcases it_x h with h | h
  · skip
    cases h
    exact hf
  · skip
    obtain ⟨_, hf1, h⟩ := wrZ_f hf (by decide) h
    obtain ⟨_, h⟩ := lt_x h
    cases h
    exact hf1
theorem fJ_X4_tallyLags_43_4 {g0 : uZ} {w8 : Int} {v19 : Int} {g20 : uZ} {zr : ((Int × (Int × uZ)) ⊕ (Int × uZ))} (hf : Fr [43] [] g0 g20) (h : GJ_X4_tallyLags_43_4 w8 v19 g20 = some zr) : fp_4 [43] [] g0 zr := by
  unfold GJ_X4_tallyLags_43_4 at h
  obtain ⟨_, h⟩ := lt_x h
  cases h
  exact hf
theorem fB_X4_tallyLags_43_5 {g0 : uZ} {a2 : Int} {a3 : Int} {w7 : Int} {w8 : Int} {g9 : uZ} {zr : ((Int × (Int × uZ)) ⊕ (Int × uZ))} (hf : Fr [43] [] g0 g9) (h : GB_X4_tallyLags_43_5 a2 a3 w7 w8 g9 = some zr) : fp_4 [43] [] g0 zr := by
  unfold GB_X4_tallyLags_43_5 at h
  replace h := (ck_e h).2
  replace h := (ck_e h).2
  rcases it_x h with h | h
  · skip
    cases h
    exact hf
  · skip
    obtain ⟨_, hc, h⟩ := cp_e h
    clear hc
    replace h := (ck_e h).2
    rcases it_x h with h | h
    · skip
      exact fJ_X4_tallyLags_43_4 hf h
    · skip
      rcases it_x h with h | h
      · skip
        exact fJ_X4_tallyLags_43_4 hf h
      · skip
        obtain ⟨_, h⟩ := rdZ_x h
        obtain ⟨_, hf1, h⟩ := wrZ_f hf (by decide) h
        obtain ⟨_, h⟩ := lt_x h
        exact fJ_X4_tallyLags_43_4 hf1 h
theorem fC_X4_tallyLags_43_6 {g0 : uZ} {v10 : Int} {g11 : uZ} {zr : (Int × uZ)} (hf : Fr [43] [] g0 g11) (h : GC_X4_tallyLags_43_6 v10 g11 = some zr) : fp_0 [43] [] g0 zr := by
  unfold GC_X4_tallyLags_43_6 at h
  cases h
  exact hf
theorem fC_X4_tallyLags_43_7 {g0 : uZ} {a2 : Int} {a3 : Int} {g3 : uZ} {zr : (Int × uZ)} (hf : Fr [43] [] g0 g3) (h : GC_X4_tallyLags_43_7 a2 a3 g3 = some zr) : fp_0 [43] [] g0 zr := by
  unfold GC_X4_tallyLags_43_7 at h
  obtain ⟨z, hz, h⟩ := lp_x (P := (fun q => fp_2 [43] [] g0 q)) (Q := (fun q => fp_0 [43] [] g0 q)) h hf (fun q r hq h => by have h9 := fB_X4_tallyLags_43_5 hq h; rcases r with r | r <;> exact h9)
  exact fC_X4_tallyLags_43_6 hz h
theorem fF_X4_tallyLags_43 {g0 : uZ} {a2 : Int} {a3 : Int} {g : uZ} {zr : (Int × uZ)} (hf : Fr [43] [] g0 g) (h : GF_X4_tallyLags_43 a2 a3 g = some zr) : fp_0 [43] [] g0 zr := by
  unfold GF_X4_tallyLags_43 at h
  obtain ⟨z, hz, h⟩ := lp_x (P := (fun q => fp_0 [43] [] g0 q)) (Q := (fun q => Fr [43] [] g0 q)) h hf (fun q r hq h => by have h9 := fB_X4_tallyLags_43_2 hq h; rcases r with r | r <;> exact h9)
  exact fC_X4_tallyLags_43_7 hz h
theorem fB_X4_tallyLags_42_2 {g0 : uZ} {w1 : Int} {g2 : uZ} {zr : ((Int × uZ) ⊕ uZ)} (hf : Fr [42] [] g0 g2) (h : GB_X4_tallyLags_42_2 w1 g2 = some zr) : fp_1 [42] [] g0 zr := by
  unfold GB_X4_tallyLags_42_2 at h
  replace h := (ck_e h).2
  rcases it_x h with h | h
  · skip
    cases h
    exact hf
  · skip
    obtain ⟨_, hf1, h⟩ := wrZ_f hf (by decide) h
    obtain ⟨_, h⟩ := lt_x h
    cases h
    exact hf1
theorem fJ_X4_tallyLags_42_4 {g0 : uZ} {w8 : Int} {v19 : Int} {g20 : uZ} {zr : ((Int × (Int × uZ)) ⊕ (Int × uZ))} (hf : Fr [42] [] g0 g20) (h : GJ_X4_tallyLags_42_4 w8 v19 g20 = some zr) : fp_4 [42] [] g0 zr := by
  unfold GJ_X4_tallyLags_42_4 at h
  obtain ⟨_, h⟩ := lt_x h
  cases h
  exact hf
theorem fB_X4_tallyLags_42_5 {g0 : uZ} {a2 : Int} {a3 : Int} {w7 : Int} {w8 : Int} {g9 : uZ} {zr : ((Int × (Int × uZ)) ⊕ (Int × uZ))} (hf : Fr [42] [] g0 g9) (h : GB_X4_tallyLags_42_5 a2 a3 w7 w8 g9 = some zr) : fp_4 [42] [] g0 zr := by
  unfold GB_X4_tallyLags_42_5 at h
  replace h := (ck_e h).2
  replace h := (ck_e h).2
  rcases it_x h with h | h
  · skip
    cases h
    exact hf
  · skip
    obtain ⟨_, hc, h⟩ := cp_e h
    clear hc
    replace h := (ck_e h).2
    rcases it_x h with h | h
    · skip
      exact fJ_X4_tallyLags_42_4 hf h
    · skip
      rcases it_x h with h | h
      · skip
        exact fJ_X4_tallyLags_42_4 hf h
      · skip
        obtain ⟨_, h⟩ := rdZ_x h
        obtain ⟨_, hf1, h⟩ := wrZ_f hf (by decide) h
        obtain ⟨_, h⟩ := lt_x h
        exact fJ_X4_tallyLags_42_4 hf1 h
theorem fC_X4_tallyLags_42_6 {g0 : uZ} {v10 : Int} {g11 : uZ} {zr : (Int × uZ)} (hf : Fr [42] [] g0 g11) (h : GC_X4_tallyLags_42_6 v10 g11 = some zr) : fp_0 [42] [] g0 zr := by
  unfold GC_X4_tallyLags_42_6 at h
  cases h
  exact hf
theorem fC_X4_tallyLags_42_7 {g0 : uZ} {a2 : Int} {a3 : Int} {g3 : uZ} {zr : (Int × uZ)} (hf : Fr [42] [] g0 g3) (h : GC_X4_tallyLags_42_7 a2 a3 g3 = some zr) : fp_0 [42] [] g0 zr := by
  unfold GC_X4_tallyLags_42_7 at h
  obtain ⟨z, hz, h⟩ := lp_x (P := (fun q => fp_2 [42] [] g0 q)) (Q := (fun q => fp_0 [42] [] g0 q)) h hf (fun q r hq h => by have h9 := fB_X4_tallyLags_42_5 hq h; rcases r with r | r <;> exact h9)
  exact fC_X4_tallyLags_42_6 hz h
theorem fF_X4_tallyLags_42 {g0 : uZ} {a2 : Int} {a3 : Int} {g : uZ} {zr : (Int × uZ)} (hf : Fr [42] [] g0 g) (h : GF_X4_tallyLags_42 a2 a3 g = some zr) : fp_0 [42] [] g0 zr := by
  unfold GF_X4_tallyLags_42 at h
  obtain ⟨z, hz, h⟩ := lp_x (P := (fun q => fp_0 [42] [] g0 q)) (Q := (fun q => Fr [42] [] g0 q)) h hf (fun q r hq h => by have h9 := fB_X4_tallyLags_42_2 hq h; rcases r with r | r <;> exact h9)
  exact fC_X4_tallyLags_42_7 hz h
theorem fJ_X4_findSteady_2 {g0 : uZ} {v12 : Int} {w4 : Int} {g18 : uZ} {zr : ((Int × (Int × uZ)) ⊕ uZ)} (hf : Fr [] [(38, 8), (38, 9)] g0 g18) (h : GJ_X4_findSteady_2 v12 w4 g18 = some zr) : fp_3 [] [(38, 8), (38, 9)] g0 zr := by
  unfold GJ_X4_findSteady_2 at h
  obtain ⟨_, h⟩ := lt_x h
  cases h
  exact hf
theorem fB_X4_findSteady_3 {g0 : uZ} {w3 : Int} {w4 : Int} {g5 : uZ} {zr : ((Int × (Int × uZ)) ⊕ uZ)} (hf : Fr [] [(38, 8), (38, 9)] g0 g5) (h : GB_X4_findSteady_3 w3 w4 g5 = some zr) : fp_3 [] [(38, 8), (38, 9)] g0 zr := by
  unfold GB_X4_findSteady_3 at h
  obtain ⟨_, hc, h⟩ := cp_e h
  clear hc
  replace h := (ck_e h).2
  replace h := (ck_e h).2
  rcases it_x h with h | h
  · skip
    cases h
    exact hf
  · skip
    obtain ⟨_, hc, h⟩ := cp_e h
    clear hc
    obtain ⟨_, hc, h⟩ := cp_e h
    clear hc
    replace h := (ck_e h).2
    replace h := (ck_e h).2
    obtain ⟨_, h⟩ := lt_x h
    obtain ⟨_, hc, h⟩ := cp_e h
    clear hc
    replace h := (ck_e h).2
    rcases it_x h with h | h
    · skip
      exact fJ_X4_findSteady_2 hf h
    · skip
      replace h := (ck_e h).2
      replace h := (ck_e h).2
      rcases it_x h with h | h
      · skip
        exact fJ_X4_findSteady_2 hf h
      · skip
        obtain ⟨_, hf1, h⟩ := pfZ_f hf (by decide) h
        obtain ⟨_, hf2, h⟩ := pfZ_f hf1 (by decide) h
        exact fJ_X4_findSteady_2 hf2 h
theorem fC_X4_findSteady_4 {g0 : uZ} {g6 : uZ} {zr : uZ} (hf : Fr [] [(38, 8), (38, 9)] g0 g6) (h : GC_X4_findSteady_4 g6 = some zr) : Fr [] [(38, 8), (38, 9)] g0 zr := by
  unfold GC_X4_findSteady_4 at h
  cases h
  exact hf
theorem fF_X4_findSteady {g0 : uZ} {g : uZ} {zr : uZ} (hf : Fr [] [(38, 8), (38, 9)] g0 g) (h : GF_X4_findSteady g = some zr) : Fr [] [(38, 8), (38, 9)] g0 zr := by
  unfold GF_X4_findSteady at h
  obtain ⟨_, hf1, h⟩ := pfZ_f hf (by decide) h
  obtain ⟨_, hf2, h⟩ := pfZ_f hf1 (by decide) h
  obtain ⟨z, hz, h⟩ := lp_x (P := (fun q => fp_2 [] [(38, 8), (38, 9)] g0 q)) (Q := (fun q => Fr [] [(38, 8), (38, 9)] g0 q)) h hf2 (fun q r hq h => by have h9 := fB_X4_findSteady_3 hq h; rcases r with r | r <;> exact h9)
  exact fC_X4_findSteady_4 hz h
theorem fB_X4_find_2 {g0 : uZ} {w2 : Int} {g3 : uZ} {zr : ((Int × uZ) ⊕ uZ)} (hf : Fr [39, 40, 41, 42, 43] [(38, 6), (38, 7), (38, 8), (38, 9)] g0 g3) (h : GB_X4_find_2 w2 g3 = some zr) : fp_1 [39, 40, 41, 42, 43] [(38, 6), (38, 7), (38, 8), (38, 9)] g0 zr := by
  unfold GB_X4_find_2 at h
  replace h := (ck_e h).2
  replace h := (ck_e h).2
  rcases it_x h with h | h
  · skip
    cases h
    exact hf
  · skip
    obtain ⟨_, h⟩ := rdZ_x h
    obtain ⟨_, h⟩ := rdZ_x h
    obtain ⟨_, _, hc, h⟩ := clZ_x h
    have hf1 := Fr.tr hf (fF_X4_tallyLags_43 Fr.rf hc) (by decide) (by decide)
    clear hc
    obtain ⟨_, h⟩ := rdZ_x h
    obtain ⟨_, hc, h⟩ := cp_e h
    clear hc
    obtain ⟨_, hf2, h⟩ := wrZ_f hf1 (by decide) h
    obtain ⟨_, h⟩ := lt_x h
    cases h
    exact hf2
theorem fC_X4_find_3 {g0 : uZ} {g4 : uZ} {zr : uZ} (hf : Fr [39, 40, 41, 42, 43] [(38, 6), (38, 7), (38, 8), (38, 9)] g0 g4) (h : GC_X4_find_3 g4 = some zr) : Fr [39, 40, 41, 42, 43] [(38, 6), (38, 7), (38, 8), (38, 9)] g0 zr := by
  unfold GC_X4_find_3 at h
  obtain ⟨_, hc, h⟩ := cp_e h
  clear hc
  obtain ⟨_, _, hc, h⟩ := clZ_x h
  have hf1 := Fr.tr hf (fF_X4_tallyLags_42 Fr.rf hc) (by decide) (by decide)
  clear hc
  obtain ⟨_, hf2, h⟩ := pfZ_f hf1 (by decide) h
  obtain ⟨_, hc, h⟩ := cp_e h
  have hf3 := Fr.tr hf2 (fF_X4_findSteady Fr.rf hc) (by decide) (by decide)
  clear hc
  cases h
  exact hf3
theorem fF_X4_find {g0 : uZ} {g : uZ} {zr : uZ} (hf : Fr [39, 40, 41, 42, 43] [(38, 6), (38, 7), (38, 8), (38, 9)] g0 g) (h : GF_X4_find g = some zr) : Fr [39, 40, 41, 42, 43] [(38, 6), (38, 7), (38, 8), (38, 9)] g0 zr := by
  unfold GF_X4_find at h
  obtain ⟨_, hc, h⟩ := cp_e h
  have hf1 := Fr.tr hf (fF_X4_findNotes Fr.rf hc) (by decide) (by decide)
  clear hc
  obtain ⟨z, hz, h⟩ := lp_x (P := (fun q => fp_0 [39, 40, 41, 42, 43] [(38, 6), (38, 7), (38, 8), (38, 9)] g0 q)) (Q := (fun q => Fr [39, 40, 41, 42, 43] [(38, 6), (38, 7), (38, 8), (38, 9)] g0 q)) h hf1 (fun q r hq h => by have h9 := fB_X4_find_2 hq h; rcases r with r | r <;> exact h9)
  exact fC_X4_find_3 hz h
theorem fJ_X3_findWorths_4 {g0 : uZ} {w14 : Int} {v28 : Int} {g29 : uZ} {zr : ((Int × (Int × uZ)) ⊕ (Int × uZ))} (hf : Fr [45, 46] [] g0 g29) (h : GJ_X3_findWorths_4 w14 v28 g29 = some zr) : fp_4 [45, 46] [] g0 zr := by
  unfold GJ_X3_findWorths_4 at h
  obtain ⟨_, h⟩ := lt_x h
  cases h
  exact hf
theorem fJ_X3_findWorths_3 {g0 : uZ} {v23 : Int} {w4 : Int} {w14 : Int} {g15 : uZ} {zr : ((Int × (Int × uZ)) ⊕ (Int × uZ))} (hf : Fr [45, 46] [] g0 g15) (h : GJ_X3_findWorths_3 v23 w4 w14 g15 = some zr) : fp_4 [45, 46] [] g0 zr := by
  unfold GJ_X3_findWorths_3 at h
  obtain ⟨_, hf1, h⟩ := wrZ_f hf (by decide) h
  exact fJ_X3_findWorths_4 hf1 h
theorem fB_X3_findWorths_5 {g0 : uZ} {a2 : Int} {v1 : Int} {v9 : Int} {v10 : Int} {w4 : Int} {w13 : Int} {w14 : Int} {g15 : uZ} {zr : ((Int × (Int × uZ)) ⊕ (Int × uZ))} (hf : Fr [45, 46] [] g0 g15) (h : GB_X3_findWorths_5 a2 v1 v9 v10 w4 w13 w14 g15 = some zr) : fp_4 [45, 46] [] g0 zr := by
  unfold GB_X3_findWorths_5 at h
  replace h := (ck_e h).2
  replace h := (ck_e h).2
  rcases it_x h with h | h
  · skip
    cases h
    exact hf
  · skip
    replace h := (ck_e h).2
    rcases it_x h with h | h
    · skip
      cases h
      exact hf
    · skip
      replace h := (ck_e h).2
      rcases it_x h with h | h
      · skip
        cases h
        exact hf
      · skip
        obtain ⟨_, h⟩ := rdZ_x h
        obtain ⟨_, hc, h⟩ := cp_e h
        clear hc
        obtain ⟨_, h⟩ := lt_x h
        obtain ⟨_, h⟩ := rdZ_x h
        replace h := (ck_e h).2
        rcases it_x h with h | h
        · skip
          exact fJ_X3_findWorths_3 hf h
        · skip
          replace h := (ck_e h).2
          replace h := (ck_e h).2
          rcases it_x h with h | h
          · skip
            exact fJ_X3_findWorths_4 hf h
          · skip
            exact fJ_X3_findWorths_3 hf h
theorem fC_X3_findWorths_6 {g0 : uZ} {w4 : Int} {v16 : Int} {g17 : uZ} {zr : ((Int × uZ) ⊕ uZ)} (hf : Fr [45, 46] [] g0 g17) (h : GC_X3_findWorths_6 w4 v16 g17 = some zr) : fp_1 [45, 46] [] g0 zr := by
  unfold GC_X3_findWorths_6 at h
  obtain ⟨_, hc, h⟩ := cp_e h
  clear hc
  obtain ⟨_, hf1, h⟩ := wrZ_f hf (by decide) h
  obtain ⟨_, h⟩ := lt_x h
  cases h
  exact hf1
theorem fB_X3_findWorths_7 {g0 : uZ} {a1 : Int} {a2 : Int} {v1 : Int} {w4 : Int} {g5 : uZ} {zr : ((Int × uZ) ⊕ uZ)} (hf : Fr [45, 46] [] g0 g5) (h : GB_X3_findWorths_7 a1 a2 v1 w4 g5 = some zr) : fp_1 [45, 46] [] g0 zr := by
  unfold GB_X3_findWorths_7 at h
  replace h := (ck_e h).2
  replace h := (ck_e h).2
  rcases it_x h with h | h
  · skip
    cases h
    exact hf
  · skip
    obtain ⟨_, hc, h⟩ := cp_e h
    clear hc
    obtain ⟨_, h⟩ := lt_x h
    obtain ⟨_, h⟩ := dvZ_x h
    obtain ⟨_, hf1, h⟩ := wrZ_f hf (by decide) h
    obtain ⟨_, h⟩ := lt_x h
    obtain ⟨z, hz, h⟩ := lp_x (P := (fun q => fp_2 [45, 46] [] g0 q)) (Q := (fun q => fp_0 [45, 46] [] g0 q)) h hf1 (fun q r hq h => by have h9 := fB_X3_findWorths_5 hq h; rcases r with r | r <;> exact h9)
    exact fC_X3_findWorths_6 hz h
theorem fC_X3_findWorths_8 {g0 : uZ} {g6 : uZ} {zr : uZ} (hf : Fr [45, 46] [] g0 g6) (h : GC_X3_findWorths_8 g6 = some zr) : Fr [45, 46] [] g0 zr := by
  unfold GC_X3_findWorths_8 at h
  cases h
  exact hf
theorem fF_X3_findWorths {g0 : uZ} {a1 : Int} {a2 : Int} {g : uZ} {zr : uZ} (hf : Fr [45, 46] [] g0 g) (h : GF_X3_findWorths a1 a2 g = some zr) : Fr [45, 46] [] g0 zr := by
  unfold GF_X3_findWorths at h
  obtain ⟨_, hc, h⟩ := cp_e h
  clear hc
  obtain ⟨_, hc, h⟩ := cp_e h
  clear hc
  obtain ⟨_, h⟩ := lt_x h
  obtain ⟨z, hz, h⟩ := lp_x (P := (fun q => fp_0 [45, 46] [] g0 q)) (Q := (fun q => Fr [45, 46] [] g0 q)) h hf (fun q r hq h => by have h9 := fB_X3_findWorths_7 hq h; rcases r with r | r <;> exact h9)
  exact fC_X3_findWorths_8 hz h
theorem fB_X3_markSpan_4 {g0 : uZ} {a1 : Int} {a2 : Int} {a3 : Int} {w14 : Int} {g15 : uZ} {zr : ((Int × uZ) ⊕ uZ)} (hf : Fr [47, 48, 50] [(44, 9)] g0 g15) (h : GB_X3_markSpan_4 a1 a2 a3 w14 g15 = some zr) : fp_1 [47, 48, 50] [(44, 9)] g0 zr := by
  unfold GB_X3_markSpan_4 at h
  replace h := (ck_e h).2
  replace h := (ck_e h).2
  rcases it_x h with h | h
  · skip
    cases h
    exact hf
  · skip
    replace h := (ck_e h).2
    rcases it_x h with h | h
    · skip
      cases h
      exact hf
    · skip
      replace h := (ck_e h).2
      rcases it_x h with h | h
      · skip
        cases h
        exact hf
      · skip
        obtain ⟨_, hf1, h⟩ := wrZ_f hf (by decide) h
        obtain ⟨_, hf2, h⟩ := wrZ_f hf1 (by decide) h
        obtain ⟨_, hf3, h⟩ := pfZ_f hf2 (by decide) h
        obtain ⟨_, h⟩ := rdZ_x h
        cases h
        exact hf3
theorem fC_X3_markSpan_5 {g0 : uZ} {g16 : uZ} {zr : uZ} (hf : Fr [47, 48, 50] [(44, 9)] g0 g16) (h : GC_X3_markSpan_5 g16 = some zr) : Fr [47, 48, 50] [(44, 9)] g0 zr := by
  unfold GC_X3_markSpan_5 at h
  cases h
  exact hf
theorem fC_X3_markSpan_6 {g0 : uZ} {a1 : Int} {a2 : Int} {a3 : Int} {g : uZ} {v3 : Int} {zr : uZ} (hf : Fr [47, 48, 50] [(44, 9)] g0 g) (h : GC_X3_markSpan_6 a1 a2 a3 g v3 = some zr) : Fr [47, 48, 50] [(44, 9)] g0 zr := by
  unfold GC_X3_markSpan_6 at h
  obtain ⟨_, h⟩ := rdZ_x h
  obtain ⟨_, hf1, h⟩ := wrZ_f hf (by decide) h
  obtain ⟨z, hz, h⟩ := lp_x (P := (fun q => fp_0 [47, 48, 50] [(44, 9)] g0 q)) (Q := (fun q => Fr [47, 48, 50] [(44, 9)] g0 q)) h hf1 (fun q r hq h => by have h9 := fB_X3_markSpan_4 hq h; rcases r with r | r <;> exact h9)
  exact fC_X3_markSpan_5 hz h
theorem fF_X3_markSpan {g0 : uZ} {a1 : Int} {a2 : Int} {a3 : Int} {g : uZ} {zr : uZ} (hf : Fr [47, 48, 50] [(44, 9)] g0 g) (h : GF_X3_markSpan a1 a2 a3 g = some zr) : Fr [47, 48, 50] [(44, 9)] g0 zr := by
  unfold GF_X3_markSpan at h
  obtain ⟨z, hz, h⟩ := lp_x (P := (fun _ => True)) (Q := (fun _ => True)) h trivial (fun q r hq h => by rcases r with r | r <;> trivial)
  exact fC_X3_markSpan_6 hf h
theorem fJ_X3_find_2 {g0 : uZ} {w2 : Int} {g17 : uZ} {zr : ((Int × uZ) ⊕ uZ)} (hf : Fr [45, 46, 47, 48, 49, 50] [(44, 9)] g0 g17) (h : GJ_X3_find_2 w2 g17 = some zr) : fp_1 [45, 46, 47, 48, 49, 50] [(44, 9)] g0 zr := by
  unfold GJ_X3_find_2 at h
  obtain ⟨_, h⟩ := lt_x h
  cases h
  exact hf
theorem fB_X3_find_3 {g0 : uZ} {w2 : Int} {g3 : uZ} {zr : ((Int × uZ) ⊕ uZ)} (hf : Fr [45, 46, 47, 48, 49, 50] [(44, 9)] g0 g3) (h : GB_X3_find_3 w2 g3 = some zr) : fp_1 [45, 46, 47, 48, 49, 50] [(44, 9)] g0 zr := by
  unfold GB_X3_find_3 at h
  obtain ⟨_, hc, h⟩ := cp_e h
  clear hc
  replace h := (ck_e h).2
  replace h := (ck_e h).2
  rcases it_x h with h | h
  · skip
    cases h
    exact hf
  · skip
    obtain ⟨_, hf1, h⟩ := wrZ_f hf (by decide) h
    obtain ⟨_, hf2, h⟩ := wrZ_f hf1 (by decide) h
    obtain ⟨_, hc, h⟩ := cp_e h
    clear hc
    replace h := (ck_e h).2
    rcases it_x h with h | h
    · skip
      exact fJ_X3_find_2 hf2 h
    · skip
      obtain ⟨_, hc, h⟩ := cp_e h
      clear hc
      obtain ⟨_, hc, h⟩ := cp_e h
      clear hc
      obtain ⟨_, hc, h⟩ := cp_e h
      have hf3 := Fr.tr hf2 (fF_X3_findWorths Fr.rf hc) (by decide) (by decide)
      clear hc
      obtain ⟨_, hc, h⟩ := cp_e h
      clear hc
      obtain ⟨_, hc, h⟩ := cp_e h
      clear hc
      obtain ⟨_, hc, h⟩ := cp_e h
      have hf4 := Fr.tr hf3 (fF_X3_markSpan Fr.rf hc) (by decide) (by decide)
      clear hc
      exact fJ_X3_find_2 hf4 h
theorem fC_X3_find_4 {g0 : uZ} {g4 : uZ} {zr : uZ} (hf : Fr [45, 46, 47, 48, 49, 50] [(44, 9)] g0 g4) (h : GC_X3_find_4 g4 = some zr) : Fr [45, 46, 47, 48, 49, 50] [(44, 9)] g0 zr := by
  unfold GC_X3_find_4 at h
  obtain ⟨_, hc, h⟩ := cp_e h
  clear hc
  obtain ⟨_, hf1, h⟩ := wrZ_f hf (by decide) h
  cases h
  exact hf1
theorem fF_X3_find {g0 : uZ} {g : uZ} {zr : uZ} (hf : Fr [45, 46, 47, 48, 49, 50] [(44, 9)] g0 g) (h : GF_X3_find g = some zr) : Fr [45, 46, 47, 48, 49, 50] [(44, 9)] g0 zr := by
  unfold GF_X3_find at h
  obtain ⟨_, hf1, h⟩ := pfZ_f hf (by decide) h
  obtain ⟨z, hz, h⟩ := lp_x (P := (fun q => fp_0 [45, 46, 47, 48, 49, 50] [(44, 9)] g0 q)) (Q := (fun q => Fr [45, 46, 47, 48, 49, 50] [(44, 9)] g0 q)) h hf1 (fun q r hq h => by have h9 := fB_X3_find_3 hq h; rcases r with r | r <;> exact h9)
  exact fC_X3_find_4 hz h
theorem fJ_X10_add_1 {g0 : uZ} {g5 : uZ} {zr : uZ} (hf : Fr [52] [(51, 5)] g0 g5) (h : GJ_X10_add_1 g5 = some zr) : Fr [52] [(51, 5)] g0 zr := by
  unfold GJ_X10_add_1 at h
  cases h
  exact hf
theorem fF_X10_add {g0 : uZ} {a1 : Int} {g : uZ} {zr : uZ} (hf : Fr [52] [(51, 5)] g0 g) (h : GF_X10_add a1 g = some zr) : Fr [52] [(51, 5)] g0 zr := by
  unfold GF_X10_add at h
  obtain ⟨_, hc, h⟩ := cp_e h
  clear hc
  replace h := (ck_e h).2
  rcases it_x h with h | h
  · skip
    exact fJ_X10_add_1 hf h
  · skip
    obtain ⟨_, hf1, h⟩ := wrZ_f hf (by decide) h
    obtain ⟨_, hf2, h⟩ := pfZ_f hf1 (by decide) h
    exact fJ_X10_add_1 hf2 h
theorem fF_X10_clear {g0 : uZ} {g : uZ} {zr : uZ} (hf : Fr [] [(51, 5)] g0 g) (h : GF_X10_clear g = some zr) : Fr [] [(51, 5)] g0 zr := by
  unfold GF_X10_clear at h
  obtain ⟨_, hf1, h⟩ := pfZ_f hf (by decide) h
  cases h
  exact hf1
theorem fJ_X10_findLeast_3 {g0 : uZ} {w5 : Int} {w9 : Int} {g10 : uZ} {v27 : Int} {zr : ((Int × uZ) ⊕ uZ)} (hf : Fr [54] [] g0 g10) (h : GJ_X10_findLeast_3 w5 w9 g10 v27 = some zr) : fp_1 [54] [] g0 zr := by
  unfold GJ_X10_findLeast_3 at h
  obtain ⟨_, hf1, h⟩ := wrZ_f hf (by decide) h
  obtain ⟨_, h⟩ := lt_x h
  cases h
  exact hf1
theorem fJ_X10_findLeast_4 {g0 : uZ} {v3 : Int} {w5 : Int} {w9 : Int} {g10 : uZ} {v21 : Int} {zr : ((Int × uZ) ⊕ uZ)} (hf : Fr [54] [] g0 g10) (h : GJ_X10_findLeast_4 v3 w5 w9 g10 v21 = some zr) : fp_1 [54] [] g0 zr := by
  unfold GJ_X10_findLeast_4 at h
  replace h := (ck_e h).2
  replace h := (ck_e h).2
  rcases it_x h with h | h
  · skip
    exact fJ_X10_findLeast_3 hf h
  · skip
    replace h := (ck_e h).2
    replace h := (ck_e h).2
    rcases it_x h with h | h
    · skip
      exact fJ_X10_findLeast_3 hf h
    · skip
      obtain ⟨_, hc, h⟩ := cp_e h
      clear hc
      obtain ⟨_, h⟩ := rdZ_x h
      obtain ⟨_, hc, h⟩ := cp_e h
      clear hc
      exact fJ_X10_findLeast_3 hf h
theorem fJ_X10_findLeast_5 {g0 : uZ} {v1 : Int} {v3 : Int} {w5 : Int} {w9 : Int} {g10 : uZ} {v17 : Int} {zr : ((Int × uZ) ⊕ uZ)} (hf : Fr [54] [] g0 g10) (h : GJ_X10_findLeast_5 v1 v3 w5 w9 g10 v17 = some zr) : fp_1 [54] [] g0 zr := by
  unfold GJ_X10_findLeast_5 at h
  replace h := (ck_e h).2
  replace h := (ck_e h).2
  rcases it_x h with h | h
  · skip
    exact fJ_X10_findLeast_4 hf h
  · skip
    obtain ⟨_, h⟩ := rdZ_x h
    obtain ⟨_, hc, h⟩ := cp_e h
    clear hc
    exact fJ_X10_findLeast_4 hf h
theorem fB_X10_findLeast_6 {g0 : uZ} {v1 : Int} {v3 : Int} {w5 : Int} {w9 : Int} {g10 : uZ} {zr : ((Int × uZ) ⊕ uZ)} (hf : Fr [54] [] g0 g10) (h : GB_X10_findLeast_6 v1 v3 w5 w9 g10 = some zr) : fp_1 [54] [] g0 zr := by
  unfold GB_X10_findLeast_6 at h
  replace h := (ck_e h).2
  rcases it_x h with h | h
  · skip
    cases h
    exact hf
  · skip
    obtain ⟨_, h⟩ := lt_x h
    replace h := (ck_e h).2
    replace h := (ck_e h).2
    rcases it_x h with h | h
    · skip
      exact fJ_X10_findLeast_5 hf h
    · skip
      obtain ⟨_, h⟩ := rdZ_x h
      obtain ⟨_, hc, h⟩ := cp_e h
      clear hc
      exact fJ_X10_findLeast_5 hf h
theorem fC_X10_findLeast_7 {g0 : uZ} {w5 : Int} {g11 : uZ} {zr : ((Int × uZ) ⊕ uZ)} (hf : Fr [54] [] g0 g11) (h : GC_X10_findLeast_7 w5 g11 = some zr) : fp_1 [54] [] g0 zr := by
  unfold GC_X10_findLeast_7 at h
  obtain ⟨_, h⟩ := lt_x h
  cases h
  exact hf
theorem fB_X10_findLeast_8 {g0 : uZ} {v1 : Int} {v3 : Int} {w5 : Int} {g6 : uZ} {zr : ((Int × uZ) ⊕ uZ)} (hf : Fr [54] [] g0 g6) (h : GB_X10_findLeast_8 v1 v3 w5 g6 = some zr) : fp_1 [54] [] g0 zr := by
  unfold GB_X10_findLeast_8 at h
  replace h := (ck_e h).2
  rcases it_x h with h | h
  · skip
    cases h
    exact hf
  · skip
    obtain ⟨z, hz, h⟩ := lp_x (P := (fun q => fp_0 [54] [] g0 q)) (Q := (fun q => Fr [54] [] g0 q)) h hf (fun q r hq h => by have h9 := fB_X10_findLeast_6 hq h; rcases r with r | r <;> exact h9)
    exact fC_X10_findLeast_7 hz h
theorem fC_X10_findLeast_9 {g0 : uZ} {g7 : uZ} {zr : uZ} (hf : Fr [54] [] g0 g7) (h : GC_X10_findLeast_9 g7 = some zr) : Fr [54] [] g0 zr := by
  unfold GC_X10_findLeast_9 at h
  cases h
  exact hf
theorem fF_X10_findLeast {g0 : uZ} {g : uZ} {zr : uZ} (hf : Fr [54] [] g0 g) (h : GF_X10_findLeast g = some zr) : Fr [54] [] g0 zr := by
  unfold GF_X10_findLeast at h
  obtain ⟨_, hc, h⟩ := cp_e h
  clear hc
  obtain ⟨_, hc, h⟩ := cp_e h
  clear hc
  obtain ⟨_, hc, h⟩ := cp_e h
  clear hc
  obtain ⟨_, h⟩ := lt_x h
  obtain ⟨z, hz, h⟩ := lp_x (P := (fun q => fp_0 [54] [] g0 q)) (Q := (fun q => Fr [54] [] g0 q)) h hf (fun q r hq h => by have h9 := fB_X10_findLeast_8 hq h; rcases r with r | r <;> exact h9)
  exact fC_X10_findLeast_9 hz h
theorem fJ_X10_findPairs_2 {g0 : uZ} {w3 : Int} {g8 : uZ} {v12 : Int} {zr : ((Int × (Int × uZ)) ⊕ uZ)} (hf : Fr [53, 54] [] g0 g8) (h : GJ_X10_findPairs_2 w3 g8 v12 = some zr) : fp_3 [53, 54] [] g0 zr := by
  unfold GJ_X10_findPairs_2 at h
  obtain ⟨_, h⟩ := lt_x h
  cases h
  exact hf
theorem fB_X10_findPairs_3 {g0 : uZ} {w2 : Int} {w3 : Int} {g4 : uZ} {zr : ((Int × (Int × uZ)) ⊕ uZ)} (hf : Fr [53, 54] [] g0 g4) (h : GB_X10_findPairs_3 w2 w3 g4 = some zr) : fp_3 [53, 54] [] g0 zr := by
  unfold GB_X10_findPairs_3 at h
  replace h := (ck_e h).2
  replace h := (ck_e h).2
  rcases it_x h with h | h
  · skip
    cases h
    exact hf
  · skip
    obtain ⟨_, hc, h⟩ := cp_e h
    clear hc
    obtain ⟨_, hf1, h⟩ := wrZ_f hf (by decide) h
    obtain ⟨_, h⟩ := rdZ_x h
    replace h := (ck_e h).2
    rcases it_x h with h | h
    · skip
      exact fJ_X10_findPairs_2 hf1 h
    · skip
      obtain ⟨_, h⟩ := rdZ_x h
      exact fJ_X10_findPairs_2 hf1 h
theorem fC_X10_findPairs_4 {g0 : uZ} {g5 : uZ} {zr : uZ} (hf : Fr [53, 54] [] g0 g5) (h : GC_X10_findPairs_4 g5 = some zr) : Fr [53, 54] [] g0 zr := by
  unfold GC_X10_findPairs_4 at h
  cases h
  exact hf
theorem fF_X10_findPairs {g0 : uZ} {g : uZ} {zr : uZ} (hf : Fr [53, 54] [] g0 g) (h : GF_X10_findPairs g = some zr) : Fr [53, 54] [] g0 zr := by
  unfold GF_X10_findPairs at h
  obtain ⟨_, hc, h⟩ := cp_e h
  have hf1 := Fr.tr hf (fF_X10_findLeast Fr.rf hc) (by decide) (by decide)
  clear hc
  obtain ⟨z, hz, h⟩ := lp_x (P := (fun q => fp_2 [53, 54] [] g0 q)) (Q := (fun q => Fr [53, 54] [] g0 q)) h hf1 (fun q r hq h => by have h9 := fB_X10_findPairs_3 hq h; rcases r with r | r <;> exact h9)
  exact fC_X10_findPairs_4 hz h
theorem fF_X11_feed {g0 : uZ} {a1 : Int} {a2 : Int} {a3 : Int} {a4 : Int} {a5 : Int} {g : uZ} {zr : (Int × uZ)} (hf : Fr [3] [(1, 3)] g0 g) (h : GF_X11_feed a1 a2 a3 a4 a5 g = some zr) : fp_0 [3] [(1, 3)] g0 zr := by
  unfold GF_X11_feed at h
  obtain ⟨_, hc, h⟩ := cp_e h
  clear hc
  replace h := (ck_e h).2
  rcases it_x h with h | h
  · skip
    obtain ⟨_, hc, h⟩ := cp_e h
    have hf1 := Fr.tr hf (fF_X7_tapeNumber Fr.rf hc) (by decide) (by decide)
    clear hc
    obtain ⟨_, hc, h⟩ := cp_e h
    have hf2 := Fr.tr hf1 (fF_X7_tapeNumber Fr.rf hc) (by decide) (by decide)
    clear hc
    obtain ⟨_, hc, h⟩ := cp_e h
    have hf3 := Fr.tr hf2 (fF_X7_tapeNumber Fr.rf hc) (by decide) (by decide)
    clear hc
    obtain ⟨_, hc, h⟩ := cp_e h
    have hf4 := Fr.tr hf3 (fF_X7_tapeNumber Fr.rf hc) (by decide) (by decide)
    clear hc
    obtain ⟨_, hc, h⟩ := cp_e h
    have hf5 := Fr.tr hf4 (fF_X7_tapeNumber Fr.rf hc) (by decide) (by decide)
    clear hc
    obtain ⟨_, hc, h⟩ := cp_e h
    clear hc
    cases h
    exact hf5
  · skip
    cases h
    exact hf
theorem fF_X11_forgetAnswers {g0 : uZ} {g : uZ} {zr : uZ} (hf : Fr [] [(0, 10), (0, 11), (0, 12)] g0 g) (h : GF_X11_forgetAnswers g = some zr) : Fr [] [(0, 10), (0, 11), (0, 12)] g0 zr := by
  unfold GF_X11_forgetAnswers at h
  obtain ⟨_, hf1, h⟩ := pfZ_f hf (by decide) h
  obtain ⟨_, hf2, h⟩ := pfZ_f hf1 (by decide) h
  obtain ⟨_, hf3, h⟩ := pfZ_f hf2 (by decide) h
  cases h
  exact hf3
theorem fF_X11_changedFrom {g0 : uZ} {a1 : Int} {a2 : Int} {g : uZ} {zr : (Int × uZ)} (hf : Fr [10] [(0, 10), (0, 11), (0, 12)] g0 g) (h : GF_X11_changedFrom a1 a2 g = some zr) : fp_0 [10] [(0, 10), (0, 11), (0, 12)] g0 zr := by
  unfold GF_X11_changedFrom at h
  obtain ⟨_, hc, h⟩ := cp_e h
  have hf1 := Fr.tr hf (fF_X2_forgetThose Fr.rf hc) (by decide) (by decide)
  clear hc
  obtain ⟨_, hc, h⟩ := cp_e h
  have hf2 := Fr.tr hf1 (fF_X11_forgetAnswers Fr.rf hc) (by decide) (by decide)
  clear hc
  obtain ⟨_, hc, h⟩ := cp_e h
  clear hc
  cases h
  exact hf2
theorem fJ_X11_samples_1 {g0 : uZ} {g : uZ} {zr : (Int × uZ)} (hf : Fr [2, 10] [(0, 10), (0, 11), (0, 12), (1, 2), (1, 3)] g0 g) (h : GJ_X11_samples_1 g = some zr) : fp_0 [2, 10] [(0, 10), (0, 11), (0, 12), (1, 2), (1, 3)] g0 zr := by
  unfold GJ_X11_samples_1 at h
  cases h
  exact hf
theorem fF_X11_samples {g0 : uZ} {a1 : Int} {g : uZ} {zr : (Int × uZ)} (hf : Fr [2, 10] [(0, 10), (0, 11), (0, 12), (1, 2), (1, 3)] g0 g) (h : GF_X11_samples a1 g = some zr) : fp_0 [2, 10] [(0, 10), (0, 11), (0, 12), (1, 2), (1, 3)] g0 zr := by
  unfold GF_X11_samples at h
  replace h := (ck_e h).2
  rcases it_x h with h | h
  · skip
    exact fJ_X11_samples_1 hf h
  · skip
    obtain ⟨_, hc, h⟩ := cp_e h
    clear hc
    replace h := (ck_e h).2
    rcases it_x h with h | h
    · skip
      exact fJ_X11_samples_1 hf h
    · skip
      obtain ⟨_, hc, h⟩ := cp_e h
      clear hc
      replace h := (ck_e h).2
      rcases it_x h with h | h
      · skip
        exact fJ_X11_samples_1 hf h
      · skip
        obtain ⟨_, hc, h⟩ := cp_e h
        clear hc
        obtain ⟨_, hc, h⟩ := cp_e h
        have hf1 := Fr.tr hf (fF_X7_appendFromTape Fr.rf hc) (by decide) (by decide)
        clear hc
        obtain ⟨_, hc, h⟩ := cp_e h
        clear hc
        obtain ⟨_, _, hc, h⟩ := clZ_x h
        have hf2 := Fr.tr hf1 (fF_X11_changedFrom Fr.rf hc) (by decide) (by decide)
        clear hc
        cases h
        exact hf2
theorem fB_X11_cycles_3 {g0 : uZ} {a1 : Int} {a2 : Int} {w14 : Int} {g15 : uZ} {zr : ((Int × uZ) ⊕ uZ)} (hf : Fr [2, 10] [(0, 10), (0, 11), (0, 12), (1, 2)] g0 g15) (h : GB_X11_cycles_3 a1 a2 w14 g15 = some zr) : fp_1 [2, 10] [(0, 10), (0, 11), (0, 12), (1, 2)] g0 zr := by
  unfold GB_X11_cycles_3 at h
  replace h := (ck_e h).2
  replace h := (ck_e h).2
  rcases it_x h with h | h
  · skip
    cases h
    exact hf
  · skip
    obtain ⟨_, hc, h⟩ := cp_e h
    clear hc
    obtain ⟨_, hc, h⟩ := cp_e h
    have hf1 := Fr.tr hf (fF_X7_append Fr.rf hc) (by decide) (by decide)
    clear hc
    obtain ⟨_, h⟩ := lt_x h
    cases h
    exact hf1
theorem fC_X11_cycles_4 {g0 : uZ} {w10 : Int} {g16 : uZ} {zr : ((Int × uZ) ⊕ uZ)} (hf : Fr [2, 10] [(0, 10), (0, 11), (0, 12), (1, 2)] g0 g16) (h : GC_X11_cycles_4 w10 g16 = some zr) : fp_1 [2, 10] [(0, 10), (0, 11), (0, 12), (1, 2)] g0 zr := by
  unfold GC_X11_cycles_4 at h
  obtain ⟨_, h⟩ := lt_x h
  cases h
  exact hf
theorem fB_X11_cycles_5 {g0 : uZ} {a1 : Int} {a2 : Int} {a3 : Int} {w10 : Int} {g11 : uZ} {zr : ((Int × uZ) ⊕ uZ)} (hf : Fr [2, 10] [(0, 10), (0, 11), (0, 12), (1, 2)] g0 g11) (h : GB_X11_cycles_5 a1 a2 a3 w10 g11 = some zr) : fp_1 [2, 10] [(0, 10), (0, 11), (0, 12), (1, 2)] g0 zr := by
  unfold GB_X11_cycles_5 at h
  replace h := (ck_e h).2
  replace h := (ck_e h).2
  rcases it_x h with h | h
  · skip
    cases h
    exact hf
  · skip
    obtain ⟨z, hz, h⟩ := lp_x (P := (fun q => fp_0 [2, 10] [(0, 10), (0, 11), (0, 12), (1, 2)] g0 q)) (Q := (fun q => Fr [2, 10] [(0, 10), (0, 11), (0, 12), (1, 2)] g0 q)) h hf (fun q r hq h => by have h9 := fB_X11_cycles_3 hq h; rcases r with r | r <;> exact h9)
    exact fC_X11_cycles_4 hz h
theorem fC_X11_cycles_6 {g0 : uZ} {v9 : Int} {g12 : uZ} {zr : (Int × uZ)} (hf : Fr [2, 10] [(0, 10), (0, 11), (0, 12), (1, 2)] g0 g12) (h : GC_X11_cycles_6 v9 g12 = some zr) : fp_0 [2, 10] [(0, 10), (0, 11), (0, 12), (1, 2)] g0 zr := by
  unfold GC_X11_cycles_6 at h
  obtain ⟨_, hc, h⟩ := cp_e h
  clear hc
  obtain ⟨_, _, hc, h⟩ := clZ_x h
  have hf1 := Fr.tr hf (fF_X11_changedFrom Fr.rf hc) (by decide) (by decide)
  clear hc
  cases h
  exact hf1
theorem fJ_X11_cycles_7 {g0 : uZ} {g : uZ} {zr : (Int × uZ)} (hf : Fr [2, 10] [(0, 10), (0, 11), (0, 12), (1, 2)] g0 g) (h : GJ_X11_cycles_7 g = some zr) : fp_0 [2, 10] [(0, 10), (0, 11), (0, 12), (1, 2)] g0 zr := by
  unfold GJ_X11_cycles_7 at h
  cases h
  exact hf
theorem fF_X11_cycles {g0 : uZ} {a1 : Int} {a2 : Int} {a3 : Int} {g : uZ} {zr : (Int × uZ)} (hf : Fr [2, 10] [(0, 10), (0, 11), (0, 12), (1, 2)] g0 g) (h : GF_X11_cycles a1 a2 a3 g = some zr) : fp_0 [2, 10] [(0, 10), (0, 11), (0, 12), (1, 2)] g0 zr := by
  unfold GF_X11_cycles at h
  replace h := (ck_e h).2
  rcases it_x h with h | h
  · skip
    exact fJ_X11_cycles_7 hf h
  · skip
    rcases it_x h with h | h
    · skip
      exact fJ_X11_cycles_7 hf h
    · skip
      obtain ⟨_, hc, h⟩ := cp_e h
      clear hc
      replace h := (ck_e h).2
      rcases it_x h with h | h
      · skip
        exact fJ_X11_cycles_7 hf h
      · skip
        replace h := (ck_e h).2
        rcases it_x h with h | h
        · skip
          exact fJ_X11_cycles_7 hf h
        · skip
          rcases it_x h with h | h
          · skip
            exact fJ_X11_cycles_7 hf h
          · skip
            obtain ⟨_, hc, h⟩ := cp_e h
            clear hc
            replace h := (ck_e h).2
            rcases it_x h with h | h
            · skip
              exact fJ_X11_cycles_7 hf h
            · skip
              obtain ⟨_, hc, h⟩ := cp_e h
              clear hc
              obtain ⟨z, hz, h⟩ := lp_x (P := (fun q => fp_0 [2, 10] [(0, 10), (0, 11), (0, 12), (1, 2)] g0 q)) (Q := (fun q => Fr [2, 10] [(0, 10), (0, 11), (0, 12), (1, 2)] g0 q)) h hf (fun q r hq h => by have h9 := fB_X11_cycles_5 hq h; rcases r with r | r <;> exact h9)
              exact fC_X11_cycles_6 hz h
theorem fB_X11_noise_2 {g0 : uZ} {a2 : Int} {a3 : Int} {w8 : Int} {w9 : Int} {g10 : uZ} {zr : ((Int × (Int × uZ)) ⊕ uZ)} (hf : Fr [2, 10] [(0, 10), (0, 11), (0, 12), (1, 2)] g0 g10) (h : GB_X11_noise_2 a2 a3 w8 w9 g10 = some zr) : fp_3 [2, 10] [(0, 10), (0, 11), (0, 12), (1, 2)] g0 zr := by
  unfold GB_X11_noise_2 at h
  replace h := (ck_e h).2
  replace h := (ck_e h).2
  rcases it_x h with h | h
  · skip
    cases h
    exact hf
  · skip
    obtain ⟨_, h⟩ := lt_x h
    obtain ⟨_, h⟩ := rmdZ_x h
    obtain ⟨_, hc, h⟩ := cp_e h
    have hf1 := Fr.tr hf (fF_X7_append Fr.rf hc) (by decide) (by decide)
    clear hc
    obtain ⟨_, h⟩ := lt_x h
    cases h
    exact hf1
theorem fC_X11_noise_3 {g0 : uZ} {v7 : Int} {g11 : uZ} {zr : (Int × uZ)} (hf : Fr [2, 10] [(0, 10), (0, 11), (0, 12), (1, 2)] g0 g11) (h : GC_X11_noise_3 v7 g11 = some zr) : fp_0 [2, 10] [(0, 10), (0, 11), (0, 12), (1, 2)] g0 zr := by
  unfold GC_X11_noise_3 at h
  obtain ⟨_, hc, h⟩ := cp_e h
  clear hc
  obtain ⟨_, _, hc, h⟩ := clZ_x h
  have hf1 := Fr.tr hf (fF_X11_changedFrom Fr.rf hc) (by decide) (by decide)
  clear hc
  cases h
  exact hf1
theorem fJ_X11_noise_4 {g0 : uZ} {g : uZ} {zr : (Int × uZ)} (hf : Fr [2, 10] [(0, 10), (0, 11), (0, 12), (1, 2)] g0 g) (h : GJ_X11_noise_4 g = some zr) : fp_0 [2, 10] [(0, 10), (0, 11), (0, 12), (1, 2)] g0 zr := by
  unfold GJ_X11_noise_4 at h
  cases h
  exact hf
theorem fF_X11_noise {g0 : uZ} {a1 : Int} {a2 : Int} {a3 : Int} {g : uZ} {zr : (Int × uZ)} (hf : Fr [2, 10] [(0, 10), (0, 11), (0, 12), (1, 2)] g0 g) (h : GF_X11_noise a1 a2 a3 g = some zr) : fp_0 [2, 10] [(0, 10), (0, 11), (0, 12), (1, 2)] g0 zr := by
  unfold GF_X11_noise at h
  replace h := (ck_e h).2
  rcases it_x h with h | h
  · skip
    exact fJ_X11_noise_4 hf h
  · skip
    rcases it_x h with h | h
    · skip
      exact fJ_X11_noise_4 hf h
    · skip
      obtain ⟨_, hc, h⟩ := cp_e h
      clear hc
      replace h := (ck_e h).2
      rcases it_x h with h | h
      · skip
        exact fJ_X11_noise_4 hf h
      · skip
        obtain ⟨_, hc, h⟩ := cp_e h
        clear hc
        replace h := (ck_e h).2
        rcases it_x h with h | h
        · skip
          exact fJ_X11_noise_4 hf h
        · skip
          obtain ⟨_, hc, h⟩ := cp_e h
          clear hc
          obtain ⟨z, hz, h⟩ := lp_x (P := (fun q => fp_2 [2, 10] [(0, 10), (0, 11), (0, 12), (1, 2)] g0 q)) (Q := (fun q => Fr [2, 10] [(0, 10), (0, 11), (0, 12), (1, 2)] g0 q)) h hf (fun q r hq h => by have h9 := fB_X11_noise_2 hq h; rcases r with r | r <;> exact h9)
          exact fC_X11_noise_3 hz h
theorem fJ_X11_poke_1 {g0 : uZ} {g : uZ} {zr : (Int × uZ)} (hf : Fr [2, 10] [(0, 10), (0, 11), (0, 12)] g0 g) (h : GJ_X11_poke_1 g = some zr) : fp_0 [2, 10] [(0, 10), (0, 11), (0, 12)] g0 zr := by
  unfold GJ_X11_poke_1 at h
  cases h
  exact hf
theorem fF_X11_poke {g0 : uZ} {a1 : Int} {a2 : Int} {g : uZ} {zr : (Int × uZ)} (hf : Fr [2, 10] [(0, 10), (0, 11), (0, 12)] g0 g) (h : GF_X11_poke a1 a2 g = some zr) : fp_0 [2, 10] [(0, 10), (0, 11), (0, 12)] g0 zr := by
  unfold GF_X11_poke at h
  obtain ⟨_, hc, h⟩ := cp_e h
  clear hc
  replace h := (ck_e h).2
  rcases it_x h with h | h
  · skip
    exact fJ_X11_poke_1 hf h
  · skip
    replace h := (ck_e h).2
    rcases it_x h with h | h
    · skip
      exact fJ_X11_poke_1 hf h
    · skip
      rcases it_x h with h | h
      · skip
        obtain ⟨_, hc, h⟩ := cp_e h
        clear hc
        obtain ⟨_, hc, h⟩ := cp_e h
        have hf1 := Fr.tr hf (fF_X7_put Fr.rf hc) (by decide) (by decide)
        clear hc
        obtain ⟨_, _, hc, h⟩ := clZ_x h
        have hf2 := Fr.tr hf1 (fF_X11_changedFrom Fr.rf hc) (by decide) (by decide)
        clear hc
        cases h
        exact hf2
      · skip
        exact fJ_X11_poke_1 hf h
theorem fJ_X11_cut_1 {g0 : uZ} {g : uZ} {zr : (Int × uZ)} (hf : Fr [10] [(0, 10), (0, 11), (0, 12), (1, 2)] g0 g) (h : GJ_X11_cut_1 g = some zr) : fp_0 [10] [(0, 10), (0, 11), (0, 12), (1, 2)] g0 zr := by
  unfold GJ_X11_cut_1 at h
  cases h
  exact hf
theorem fF_X11_cut {g0 : uZ} {a1 : Int} {g : uZ} {zr : (Int × uZ)} (hf : Fr [10] [(0, 10), (0, 11), (0, 12), (1, 2)] g0 g) (h : GF_X11_cut a1 g = some zr) : fp_0 [10] [(0, 10), (0, 11), (0, 12), (1, 2)] g0 zr := by
  unfold GF_X11_cut at h
  replace h := (ck_e h).2
  rcases it_x h with h | h
  · skip
    exact fJ_X11_cut_1 hf h
  · skip
    obtain ⟨_, hc, h⟩ := cp_e h
    clear hc
    replace h := (ck_e h).2
    rcases it_x h with h | h
    · skip
      obtain ⟨_, hc, h⟩ := cp_e h
      clear hc
      obtain ⟨_, hc, h⟩ := cp_e h
      have hf1 := Fr.tr hf (fF_X7_drop Fr.rf hc) (by decide) (by decide)
      clear hc
      obtain ⟨_, hc, h⟩ := cp_e h
      clear hc
      obtain ⟨_, _, hc, h⟩ := clZ_x h
      have hf2 := Fr.tr hf1 (fF_X11_changedFrom Fr.rf hc) (by decide) (by decide)
      clear hc
      cases h
      exact hf2
    · skip
      exact fJ_X11_cut_1 hf h
theorem fJ_X11_bound_2 {g0 : uZ} {v3 : Int} {g9 : uZ} {zr : (Int × uZ)} (hf : Fr [5, 10] [(0, 10), (0, 11), (0, 12)] g0 g9) (h : GJ_X11_bound_2 v3 g9 = some zr) : fp_0 [5, 10] [(0, 10), (0, 11), (0, 12)] g0 zr := by
  unfold GJ_X11_bound_2 at h
  obtain ⟨_, hc, h⟩ := cp_e h
  have hf1 := Fr.tr hf (fF_X11_forgetAnswers Fr.rf hc) (by decide) (by decide)
  clear hc
  cases h
  exact hf1
theorem fJ_X11_bound_1 {g0 : uZ} {v3 : Int} {g4 : uZ} {zr : (Int × uZ)} (hf : Fr [5, 10] [(0, 10), (0, 11), (0, 12)] g0 g4) (h : GJ_X11_bound_1 v3 g4 = some zr) : fp_0 [5, 10] [(0, 10), (0, 11), (0, 12)] g0 zr := by
  unfold GJ_X11_bound_1 at h
  obtain ⟨_, hc, h⟩ := cp_e h
  have hf1 := Fr.tr hf (fF_X2_forgetAll Fr.rf hc) (by decide) (by decide)
  clear hc
  exact fJ_X11_bound_2 hf1 h
theorem fF_X11_bound {g0 : uZ} {a1 : Int} {a2 : Int} {g : uZ} {zr : (Int × uZ)} (hf : Fr [5, 10] [(0, 10), (0, 11), (0, 12)] g0 g) (h : GF_X11_bound a1 a2 g = some zr) : fp_0 [5, 10] [(0, 10), (0, 11), (0, 12)] g0 zr := by
  unfold GF_X11_bound at h
  obtain ⟨_, hc, h⟩ := cp_e h
  clear hc
  replace h := (ck_e h).2
  rcases it_x h with h | h
  · skip
    cases h
    exact hf
  · skip
    obtain ⟨_, hc, h⟩ := cp_e h
    clear hc
    obtain ⟨_, hc, h⟩ := cp_e h
    have hf1 := Fr.tr hf (fF_X0_put Fr.rf hc) (by decide) (by decide)
    clear hc
    replace h := (ck_e h).2
    rcases it_x h with h | h
    · skip
      exact fJ_X11_bound_1 hf1 h
    · skip
      rcases it_x h with h | h
      · skip
        exact fJ_X11_bound_1 hf1 h
      · skip
        rcases it_x h with h | h
        · skip
          exact fJ_X11_bound_1 hf1 h
        · skip
          exact fJ_X11_bound_2 hf1 h
theorem fF_X11_findPath {g0 : uZ} {g : uZ} {zr : uZ} (hf : Fr [7, 8, 9, 10, 12, 13, 14, 15, 19, 20, 21, 22, 23, 24, 35, 36, 37, 39, 40, 41, 42, 43] [(0, 10), (11, 6), (16, 12), (17, 0), (17, 1), (17, 2), (34, 6), (38, 6), (38, 7), (38, 8), (38, 9)] g0 g) (h : GF_X11_findPath g = some zr) : Fr [7, 8, 9, 10, 12, 13, 14, 15, 19, 20, 21, 22, 23, 24, 35, 36, 37, 39, 40, 41, 42, 43] [(0, 10), (11, 6), (16, 12), (17, 0), (17, 1), (17, 2), (34, 6), (38, 6), (38, 7), (38, 8), (38, 9)] g0 zr := by
  unfold GF_X11_findPath at h
  replace h := (ck_e h).2
  rcases it_x h with h | h
  · skip
    obtain ⟨_, hc, h⟩ := cp_e h
    have hf1 := Fr.tr hf (fF_X2_find Fr.rf hc) (by decide) (by decide)
    clear hc
    obtain ⟨_, hc, h⟩ := cp_e h
    have hf2 := Fr.tr hf1 (fF_X1_find Fr.rf hc) (by decide) (by decide)
    clear hc
    obtain ⟨_, hc, h⟩ := cp_e h
    have hf3 := Fr.tr hf2 (fF_X5_find Fr.rf hc) (by decide) (by decide)
    clear hc
    obtain ⟨_, hc, h⟩ := cp_e h
    have hf4 := Fr.tr hf3 (fF_X8_find Fr.rf hc) (by decide) (by decide)
    clear hc
    obtain ⟨_, hc, h⟩ := cp_e h
    have hf5 := Fr.tr hf4 (fF_X4_find Fr.rf hc) (by decide) (by decide)
    clear hc
    obtain ⟨_, hf6, h⟩ := pfZ_f hf5 (by decide) h
    cases h
    exact hf6
  · skip
    cases h
    exact hf
theorem fF_X11_single {g0 : uZ} {g : uZ} {zr : (Int × uZ)} (hf : Fr [7, 8, 9, 10, 12, 13, 14, 15, 19, 20, 21, 22, 23, 24, 25, 26, 35, 36, 37, 39, 40, 41, 42, 43] [(0, 10), (11, 6), (16, 12), (17, 0), (17, 1), (17, 2), (34, 6), (38, 6), (38, 7), (38, 8), (38, 9)] g0 g) (h : GF_X11_single g = some zr) : fp_0 [7, 8, 9, 10, 12, 13, 14, 15, 19, 20, 21, 22, 23, 24, 25, 26, 35, 36, 37, 39, 40, 41, 42, 43] [(0, 10), (11, 6), (16, 12), (17, 0), (17, 1), (17, 2), (34, 6), (38, 6), (38, 7), (38, 8), (38, 9)] g0 zr := by
  unfold GF_X11_single at h
  obtain ⟨_, hc, h⟩ := cp_e h
  have hf1 := Fr.tr hf (fF_X11_findPath Fr.rf hc) (by decide) (by decide)
  clear hc
  obtain ⟨_, _, hc, h⟩ := clZ_x h
  have hf2 := Fr.tr hf1 (fF_X5_leastWithoutDoubles Fr.rf hc) (by decide) (by decide)
  clear hc
  cases h
  exact hf2
theorem fF_X11_doubled {g0 : uZ} {g : uZ} {zr : (Int × uZ)} (hf : Fr [7, 8, 9, 10, 12, 13, 14, 15, 19, 20, 21, 22, 23, 24, 35, 36, 37, 39, 40, 41, 42, 43] [(0, 10), (11, 6), (16, 12), (17, 0), (17, 1), (17, 2), (34, 6), (38, 6), (38, 7), (38, 8), (38, 9)] g0 g) (h : GF_X11_doubled g = some zr) : fp_0 [7, 8, 9, 10, 12, 13, 14, 15, 19, 20, 21, 22, 23, 24, 35, 36, 37, 39, 40, 41, 42, 43] [(0, 10), (11, 6), (16, 12), (17, 0), (17, 1), (17, 2), (34, 6), (38, 6), (38, 7), (38, 8), (38, 9)] g0 zr := by
  unfold GF_X11_doubled at h
  obtain ⟨_, hc, h⟩ := cp_e h
  have hf1 := Fr.tr hf (fF_X11_findPath Fr.rf hc) (by decide) (by decide)
  clear hc
  obtain ⟨_, hc, h⟩ := cp_e h
  clear hc
  cases h
  exact hf1
theorem fF_X11_spans {g0 : uZ} {g : uZ} {zr : (Int × uZ)} (hf : Fr [7, 8, 9, 10, 12, 13, 14, 15, 19, 20, 21, 22, 23, 24, 35, 36, 37, 39, 40, 41, 42, 43] [(0, 10), (11, 6), (16, 12), (17, 0), (17, 1), (17, 2), (34, 6), (38, 6), (38, 7), (38, 8), (38, 9)] g0 g) (h : GF_X11_spans g = some zr) : fp_0 [7, 8, 9, 10, 12, 13, 14, 15, 19, 20, 21, 22, 23, 24, 35, 36, 37, 39, 40, 41, 42, 43] [(0, 10), (11, 6), (16, 12), (17, 0), (17, 1), (17, 2), (34, 6), (38, 6), (38, 7), (38, 8), (38, 9)] g0 zr := by
  unfold GF_X11_spans at h
  obtain ⟨_, hc, h⟩ := cp_e h
  have hf1 := Fr.tr hf (fF_X11_findPath Fr.rf hc) (by decide) (by decide)
  clear hc
  obtain ⟨_, hc, h⟩ := cp_e h
  clear hc
  cases h
  exact hf1
theorem fF_X11_notes {g0 : uZ} {g : uZ} {zr : (Int × uZ)} (hf : Fr [7, 8, 9, 10, 12, 13, 14, 15, 19, 20, 21, 22, 23, 24, 35, 36, 37, 39, 40, 41, 42, 43] [(0, 10), (11, 6), (16, 12), (17, 0), (17, 1), (17, 2), (34, 6), (38, 6), (38, 7), (38, 8), (38, 9)] g0 g) (h : GF_X11_notes g = some zr) : fp_0 [7, 8, 9, 10, 12, 13, 14, 15, 19, 20, 21, 22, 23, 24, 35, 36, 37, 39, 40, 41, 42, 43] [(0, 10), (11, 6), (16, 12), (17, 0), (17, 1), (17, 2), (34, 6), (38, 6), (38, 7), (38, 8), (38, 9)] g0 zr := by
  unfold GF_X11_notes at h
  obtain ⟨_, hc, h⟩ := cp_e h
  have hf1 := Fr.tr hf (fF_X11_findPath Fr.rf hc) (by decide) (by decide)
  clear hc
  obtain ⟨_, hc, h⟩ := cp_e h
  clear hc
  cases h
  exact hf1
theorem fF_X11_lags {g0 : uZ} {g : uZ} {zr : (Int × uZ)} (hf : Fr [7, 8, 9, 10, 12, 13, 14, 15, 19, 20, 21, 22, 23, 24, 35, 36, 37, 39, 40, 41, 42, 43] [(0, 10), (11, 6), (16, 12), (17, 0), (17, 1), (17, 2), (34, 6), (38, 6), (38, 7), (38, 8), (38, 9)] g0 g) (h : GF_X11_lags g = some zr) : fp_0 [7, 8, 9, 10, 12, 13, 14, 15, 19, 20, 21, 22, 23, 24, 35, 36, 37, 39, 40, 41, 42, 43] [(0, 10), (11, 6), (16, 12), (17, 0), (17, 1), (17, 2), (34, 6), (38, 6), (38, 7), (38, 8), (38, 9)] g0 zr := by
  unfold GF_X11_lags at h
  obtain ⟨_, hc, h⟩ := cp_e h
  have hf1 := Fr.tr hf (fF_X11_findPath Fr.rf hc) (by decide) (by decide)
  clear hc
  obtain ⟨_, hc, h⟩ := cp_e h
  clear hc
  cases h
  exact hf1
theorem fJ_X11_tune_1 {g0 : uZ} {g : uZ} {zr : (Int × uZ)} (hf : Fr [52] [(51, 5)] g0 g) (h : GJ_X11_tune_1 g = some zr) : fp_0 [52] [(51, 5)] g0 zr := by
  unfold GJ_X11_tune_1 at h
  cases h
  exact hf
theorem fF_X11_tune {g0 : uZ} {a1 : Int} {g : uZ} {zr : (Int × uZ)} (hf : Fr [52] [(51, 5)] g0 g) (h : GF_X11_tune a1 g = some zr) : fp_0 [52] [(51, 5)] g0 zr := by
  unfold GF_X11_tune at h
  replace h := (ck_e h).2
  rcases it_x h with h | h
  · skip
    exact fJ_X11_tune_1 hf h
  · skip
    rcases it_x h with h | h
    · skip
      exact fJ_X11_tune_1 hf h
    · skip
      obtain ⟨_, hc, h⟩ := cp_e h
      clear hc
      replace h := (ck_e h).2
      rcases it_x h with h | h
      · skip
        exact fJ_X11_tune_1 hf h
      · skip
        obtain ⟨_, hc, h⟩ := cp_e h
        have hf1 := Fr.tr hf (fF_X10_add Fr.rf hc) (by decide) (by decide)
        clear hc
        obtain ⟨_, hc, h⟩ := cp_e h
        clear hc
        cases h
        exact hf1
theorem fF_X11_hush {g0 : uZ} {g : uZ} {zr : (Int × uZ)} (hf : Fr [] [(51, 5)] g0 g) (h : GF_X11_hush g = some zr) : fp_0 [] [(51, 5)] g0 zr := by
  unfold GF_X11_hush at h
  obtain ⟨_, hc, h⟩ := cp_e h
  clear hc
  obtain ⟨_, hc, h⟩ := cp_e h
  have hf1 := Fr.tr hf (fF_X10_clear Fr.rf hc) (by decide) (by decide)
  clear hc
  cases h
  exact hf1
theorem fJ_X11_findMarks_1 {g0 : uZ} {g5 : uZ} {zr : uZ} (hf : Fr [7, 8, 9, 10, 12, 13, 14, 15, 19, 20, 21, 22, 23, 24, 35, 36, 37, 39, 40, 41, 42, 43, 45, 46, 47, 48, 49, 50] [(0, 10), (0, 12), (11, 6), (16, 12), (17, 0), (17, 1), (17, 2), (34, 6), (38, 6), (38, 7), (38, 8), (38, 9), (44, 9)] g0 g5) (h : GJ_X11_findMarks_1 g5 = some zr) : Fr [7, 8, 9, 10, 12, 13, 14, 15, 19, 20, 21, 22, 23, 24, 35, 36, 37, 39, 40, 41, 42, 43, 45, 46, 47, 48, 49, 50] [(0, 10), (0, 12), (11, 6), (16, 12), (17, 0), (17, 1), (17, 2), (34, 6), (38, 6), (38, 7), (38, 8), (38, 9), (44, 9)] g0 zr := by
  unfold GJ_X11_findMarks_1 at h
  cases h
  exact hf
theorem fF_X11_findMarks {g0 : uZ} {g : uZ} {zr : uZ} (hf : Fr [7, 8, 9, 10, 12, 13, 14, 15, 19, 20, 21, 22, 23, 24, 35, 36, 37, 39, 40, 41, 42, 43, 45, 46, 47, 48, 49, 50] [(0, 10), (0, 12), (11, 6), (16, 12), (17, 0), (17, 1), (17, 2), (34, 6), (38, 6), (38, 7), (38, 8), (38, 9), (44, 9)] g0 g) (h : GF_X11_findMarks g = some zr) : Fr [7, 8, 9, 10, 12, 13, 14, 15, 19, 20, 21, 22, 23, 24, 35, 36, 37, 39, 40, 41, 42, 43, 45, 46, 47, 48, 49, 50] [(0, 10), (0, 12), (11, 6), (16, 12), (17, 0), (17, 1), (17, 2), (34, 6), (38, 6), (38, 7), (38, 8), (38, 9), (44, 9)] g0 zr := by
  unfold GF_X11_findMarks at h
  obtain ⟨_, hc, h⟩ := cp_e h
  have hf1 := Fr.tr hf (fF_X11_findPath Fr.rf hc) (by decide) (by decide)
  clear hc
  replace h := (ck_e h).2
  rcases it_x h with h | h
  · skip
    obtain ⟨_, hc, h⟩ := cp_e h
    have hf2 := Fr.tr hf1 (fF_X3_find Fr.rf hc) (by decide) (by decide)
    clear hc
    obtain ⟨_, hf3, h⟩ := pfZ_f hf2 (by decide) h
    exact fJ_X11_findMarks_1 hf3 h
  · skip
    exact fJ_X11_findMarks_1 hf1 h
theorem fF_X11_marks {g0 : uZ} {g : uZ} {zr : (Int × uZ)} (hf : Fr [7, 8, 9, 10, 12, 13, 14, 15, 19, 20, 21, 22, 23, 24, 35, 36, 37, 39, 40, 41, 42, 43, 45, 46, 47, 48, 49, 50] [(0, 10), (0, 12), (11, 6), (16, 12), (17, 0), (17, 1), (17, 2), (34, 6), (38, 6), (38, 7), (38, 8), (38, 9), (44, 9)] g0 g) (h : GF_X11_marks g = some zr) : fp_0 [7, 8, 9, 10, 12, 13, 14, 15, 19, 20, 21, 22, 23, 24, 35, 36, 37, 39, 40, 41, 42, 43, 45, 46, 47, 48, 49, 50] [(0, 10), (0, 12), (11, 6), (16, 12), (17, 0), (17, 1), (17, 2), (34, 6), (38, 6), (38, 7), (38, 8), (38, 9), (44, 9)] g0 zr := by
  unfold GF_X11_marks at h
  obtain ⟨_, hc, h⟩ := cp_e h
  have hf1 := Fr.tr hf (fF_X11_findMarks Fr.rf hc) (by decide) (by decide)
  clear hc
  obtain ⟨_, hc, h⟩ := cp_e h
  clear hc
  cases h
  exact hf1
theorem fJ_X11_near_1 {g0 : uZ} {g1 : uZ} {v6 : Int} {zr : (Int × uZ)} (hf : Fr [7, 8, 9, 10, 12, 13, 14, 15, 19, 20, 21, 22, 23, 24, 35, 36, 37, 39, 40, 41, 42, 43, 45, 46, 47, 48, 49, 50] [(0, 10), (0, 12), (11, 6), (16, 12), (17, 0), (17, 1), (17, 2), (34, 6), (38, 6), (38, 7), (38, 8), (38, 9), (44, 9)] g0 g1) (h : GJ_X11_near_1 g1 v6 = some zr) : fp_0 [7, 8, 9, 10, 12, 13, 14, 15, 19, 20, 21, 22, 23, 24, 35, 36, 37, 39, 40, 41, 42, 43, 45, 46, 47, 48, 49, 50] [(0, 10), (0, 12), (11, 6), (16, 12), (17, 0), (17, 1), (17, 2), (34, 6), (38, 6), (38, 7), (38, 8), (38, 9), (44, 9)] g0 zr := by
  unfold GJ_X11_near_1 at h
  cases h
  exact hf
theorem fF_X11_near {g0 : uZ} {a1 : Int} {g : uZ} {zr : (Int × uZ)} (hf : Fr [7, 8, 9, 10, 12, 13, 14, 15, 19, 20, 21, 22, 23, 24, 35, 36, 37, 39, 40, 41, 42, 43, 45, 46, 47, 48, 49, 50] [(0, 10), (0, 12), (11, 6), (16, 12), (17, 0), (17, 1), (17, 2), (34, 6), (38, 6), (38, 7), (38, 8), (38, 9), (44, 9)] g0 g) (h : GF_X11_near a1 g = some zr) : fp_0 [7, 8, 9, 10, 12, 13, 14, 15, 19, 20, 21, 22, 23, 24, 35, 36, 37, 39, 40, 41, 42, 43, 45, 46, 47, 48, 49, 50] [(0, 10), (0, 12), (11, 6), (16, 12), (17, 0), (17, 1), (17, 2), (34, 6), (38, 6), (38, 7), (38, 8), (38, 9), (44, 9)] g0 zr := by
  unfold GF_X11_near at h
  obtain ⟨_, hc, h⟩ := cp_e h
  have hf1 := Fr.tr hf (fF_X11_findMarks Fr.rf hc) (by decide) (by decide)
  clear hc
  obtain ⟨_, hc, h⟩ := cp_e h
  clear hc
  obtain ⟨_, hc, h⟩ := cp_e h
  clear hc
  replace h := (ck_e h).2
  rcases it_x h with h | h
  · skip
    exact fJ_X11_near_1 hf1 h
  · skip
    obtain ⟨_, hc, h⟩ := cp_e h
    clear hc
    exact fJ_X11_near_1 hf1 h
theorem fB_X11_behind_2 {g0 : uZ} {a1 : Int} {g1 : uZ} {w2 : Int} {zr : (Int ⊕ (Unit ⊕ (Int × uZ)))} (hf : Fr [7, 8, 9, 10, 12, 13, 14, 15, 19, 20, 21, 22, 23, 24, 35, 36, 37, 39, 40, 41, 42, 43, 45, 46, 47, 48, 49, 50] [(0, 10), (0, 12), (11, 6), (16, 12), (17, 0), (17, 1), (17, 2), (34, 6), (38, 6), (38, 7), (38, 8), (38, 9), (44, 9)] g0 g1) (h : GB_X11_behind_2 a1 g1 w2 = some zr) : fp_6 [7, 8, 9, 10, 12, 13, 14, 15, 19, 20, 21, 22, 23, 24, 35, 36, 37, 39, 40, 41, 42, 43, 45, 46, 47, 48, 49, 50] [(0, 10), (0, 12), (11, 6), (16, 12), (17, 0), (17, 1), (17, 2), (34, 6), (38, 6), (38, 7), (38, 8), (38, 9), (44, 9)] g0 zr := by
  unfold GB_X11_behind_2 at h
  obtain ⟨_, hc, h⟩ := cp_e h
  clear hc
  replace h := (ck_e h).2
  replace h := (ck_e h).2
  rcases it_x h with h | h
  · skip
    cases h
    trivial
  · skip
    obtain ⟨_, hc, h⟩ := cp_e h
    clear hc
    replace h := (ck_e h).2
    replace h := (ck_e h).2
    rcases it_x h with h | h
    · skip
      obtain ⟨_, h⟩ := lt_x h
      cases h
      trivial
    · skip
      obtain ⟨_, hc, h⟩ := cp_e h
      clear hc
      cases h
      exact hf
theorem fC_X11_behind_3 {g0 : uZ} {g1 : uZ} {zr : (Int × uZ)} (hf : Fr [7, 8, 9, 10, 12, 13, 14, 15, 19, 20, 21, 22, 23, 24, 35, 36, 37, 39, 40, 41, 42, 43, 45, 46, 47, 48, 49, 50] [(0, 10), (0, 12), (11, 6), (16, 12), (17, 0), (17, 1), (17, 2), (34, 6), (38, 6), (38, 7), (38, 8), (38, 9), (44, 9)] g0 g1) (h : GC_X11_behind_3 g1 = some zr) : fp_0 [7, 8, 9, 10, 12, 13, 14, 15, 19, 20, 21, 22, 23, 24, 35, 36, 37, 39, 40, 41, 42, 43, 45, 46, 47, 48, 49, 50] [(0, 10), (0, 12), (11, 6), (16, 12), (17, 0), (17, 1), (17, 2), (34, 6), (38, 6), (38, 7), (38, 8), (38, 9), (44, 9)] g0 zr := by
  unfold GC_X11_behind_3 at h
  cases h
  exact hf
theorem fF_X11_behind {g0 : uZ} {a1 : Int} {g : uZ} {zr : (Int × uZ)} (hf : Fr [7, 8, 9, 10, 12, 13, 14, 15, 19, 20, 21, 22, 23, 24, 35, 36, 37, 39, 40, 41, 42, 43, 45, 46, 47, 48, 49, 50] [(0, 10), (0, 12), (11, 6), (16, 12), (17, 0), (17, 1), (17, 2), (34, 6), (38, 6), (38, 7), (38, 8), (38, 9), (44, 9)] g0 g) (h : GF_X11_behind a1 g = some zr) : fp_0 [7, 8, 9, 10, 12, 13, 14, 15, 19, 20, 21, 22, 23, 24, 35, 36, 37, 39, 40, 41, 42, 43, 45, 46, 47, 48, 49, 50] [(0, 10), (0, 12), (11, 6), (16, 12), (17, 0), (17, 1), (17, 2), (34, 6), (38, 6), (38, 7), (38, 8), (38, 9), (44, 9)] g0 zr := by
  unfold GF_X11_behind at h
  obtain ⟨_, hc, h⟩ := cp_e h
  have hf1 := Fr.tr hf (fF_X11_findMarks Fr.rf hc) (by decide) (by decide)
  clear hc
  obtain ⟨z, hz, h⟩ := lp_x (P := (fun _ => True)) (Q := (fun q => fp_5 [7, 8, 9, 10, 12, 13, 14, 15, 19, 20, 21, 22, 23, 24, 35, 36, 37, 39, 40, 41, 42, 43, 45, 46, 47, 48, 49, 50] [(0, 10), (0, 12), (11, 6), (16, 12), (17, 0), (17, 1), (17, 2), (34, 6), (38, 6), (38, 7), (38, 8), (38, 9), (44, 9)] g0 q)) h trivial (fun q r hq h => by have h9 := fB_X11_behind_2 hf1 h; rcases r with r | r <;> exact h9)
  rcases z with z | z
  · exact fC_X11_behind_3 hf1 h
  · cases h
    exact hz
theorem fC_X11_roughest_4 {g0 : uZ} {g1 : uZ} {v5 : Int} {zr : (Int × uZ)} (hf : Fr [7, 8, 9, 10, 12, 13, 14, 15, 19, 20, 21, 22, 23, 24, 35, 36, 37, 39, 40, 41, 42, 43, 45, 46, 47, 48, 49, 50] [(0, 10), (0, 12), (11, 6), (16, 12), (17, 0), (17, 1), (17, 2), (34, 6), (38, 6), (38, 7), (38, 8), (38, 9), (44, 9)] g0 g1) (h : GC_X11_roughest_4 g1 v5 = some zr) : fp_0 [7, 8, 9, 10, 12, 13, 14, 15, 19, 20, 21, 22, 23, 24, 35, 36, 37, 39, 40, 41, 42, 43, 45, 46, 47, 48, 49, 50] [(0, 10), (0, 12), (11, 6), (16, 12), (17, 0), (17, 1), (17, 2), (34, 6), (38, 6), (38, 7), (38, 8), (38, 9), (44, 9)] g0 zr := by
  unfold GC_X11_roughest_4 at h
  cases h
  exact hf
theorem fF_X11_roughest {g0 : uZ} {g : uZ} {zr : (Int × uZ)} (hf : Fr [7, 8, 9, 10, 12, 13, 14, 15, 19, 20, 21, 22, 23, 24, 35, 36, 37, 39, 40, 41, 42, 43, 45, 46, 47, 48, 49, 50] [(0, 10), (0, 12), (11, 6), (16, 12), (17, 0), (17, 1), (17, 2), (34, 6), (38, 6), (38, 7), (38, 8), (38, 9), (44, 9)] g0 g) (h : GF_X11_roughest g = some zr) : fp_0 [7, 8, 9, 10, 12, 13, 14, 15, 19, 20, 21, 22, 23, 24, 35, 36, 37, 39, 40, 41, 42, 43, 45, 46, 47, 48, 49, 50] [(0, 10), (0, 12), (11, 6), (16, 12), (17, 0), (17, 1), (17, 2), (34, 6), (38, 6), (38, 7), (38, 8), (38, 9), (44, 9)] g0 zr := by
  unfold GF_X11_roughest at h
  obtain ⟨_, hc, h⟩ := cp_e h
  have hf1 := Fr.tr hf (fF_X11_findMarks Fr.rf hc) (by decide) (by decide)
  clear hc
  obtain ⟨z, hz, h⟩ := lp_x (P := (fun _ => True)) (Q := (fun _ => True)) h trivial (fun q r hq h => by rcases r with r | r <;> trivial)
  exact fC_X11_roughest_4 hf1 h
theorem fJ_X11_findRanking_1 {g0 : uZ} {g5 : uZ} {zr : uZ} (hf : Fr [7, 8, 9, 10, 12, 13, 14, 15, 19, 20, 21, 22, 23, 24, 29, 30, 31, 32, 33, 35, 36, 37, 39, 40, 41, 42, 43] [(0, 10), (0, 11), (11, 6), (16, 12), (17, 0), (17, 1), (17, 2), (28, 0), (28, 1), (28, 2), (34, 6), (38, 6), (38, 7), (38, 8), (38, 9)] g0 g5) (h : GJ_X11_findRanking_1 g5 = some zr) : Fr [7, 8, 9, 10, 12, 13, 14, 15, 19, 20, 21, 22, 23, 24, 29, 30, 31, 32, 33, 35, 36, 37, 39, 40, 41, 42, 43] [(0, 10), (0, 11), (11, 6), (16, 12), (17, 0), (17, 1), (17, 2), (28, 0), (28, 1), (28, 2), (34, 6), (38, 6), (38, 7), (38, 8), (38, 9)] g0 zr := by
  unfold GJ_X11_findRanking_1 at h
  cases h
  exact hf
theorem fF_X11_findRanking {g0 : uZ} {g : uZ} {zr : uZ} (hf : Fr [7, 8, 9, 10, 12, 13, 14, 15, 19, 20, 21, 22, 23, 24, 29, 30, 31, 32, 33, 35, 36, 37, 39, 40, 41, 42, 43] [(0, 10), (0, 11), (11, 6), (16, 12), (17, 0), (17, 1), (17, 2), (28, 0), (28, 1), (28, 2), (34, 6), (38, 6), (38, 7), (38, 8), (38, 9)] g0 g) (h : GF_X11_findRanking g = some zr) : Fr [7, 8, 9, 10, 12, 13, 14, 15, 19, 20, 21, 22, 23, 24, 29, 30, 31, 32, 33, 35, 36, 37, 39, 40, 41, 42, 43] [(0, 10), (0, 11), (11, 6), (16, 12), (17, 0), (17, 1), (17, 2), (28, 0), (28, 1), (28, 2), (34, 6), (38, 6), (38, 7), (38, 8), (38, 9)] g0 zr := by
  unfold GF_X11_findRanking at h
  obtain ⟨_, hc, h⟩ := cp_e h
  have hf1 := Fr.tr hf (fF_X11_findPath Fr.rf hc) (by decide) (by decide)
  clear hc
  replace h := (ck_e h).2
  rcases it_x h with h | h
  · skip
    obtain ⟨_, hc, h⟩ := cp_e h
    have hf2 := Fr.tr hf1 (fF_X6_find Fr.rf hc) (by decide) (by decide)
    clear hc
    obtain ⟨_, hf3, h⟩ := pfZ_f hf2 (by decide) h
    exact fJ_X11_findRanking_1 hf3 h
  · skip
    exact fJ_X11_findRanking_1 hf1 h
theorem fJ_X12_right_1 {g0 : uZ} {g4 : uZ} {zr : (Int × uZ)} (hf : Fr [] [(55, 9)] g0 g4) (h : GJ_X12_right_1 g4 = some zr) : fp_0 [] [(55, 9)] g0 zr := by
  unfold GJ_X12_right_1 at h
  replace h := (ck_e h).2
  obtain ⟨_, h⟩ := lt_x h
  replace h := bzZ_x h
  cases h
  exact hf
theorem fF_X12_right {g0 : uZ} {a1 : Int} {a2 : Int} {g : uZ} {zr : (Int × uZ)} (hf : Fr [] [(55, 9)] g0 g) (h : GF_X12_right a1 a2 g = some zr) : fp_0 [] [(55, 9)] g0 zr := by
  unfold GF_X12_right at h
  replace h := (ck_e h).2
  rcases it_x h with h | h
  · skip
    replace h := (ck_e h).2
    rcases it_x h with h | h
    · skip
      obtain ⟨_, hf1, h⟩ := pfZ_f hf (by decide) h
      exact fJ_X12_right_1 hf1 h
    · skip
      exact fJ_X12_right_1 hf h
  · skip
    exact fJ_X12_right_1 hf h
theorem fB_X12_comes_2 {g0 : uZ} {a1 : Int} {w1 : Int} {g2 : uZ} {zr : ((Int × uZ) ⊕ uZ)} (hf : Fr [60] [(55, 7)] g0 g2) (h : GB_X12_comes_2 a1 w1 g2 = some zr) : fp_1 [60] [(55, 7)] g0 zr := by
  unfold GB_X12_comes_2 at h
  replace h := (ck_e h).2
  rcases it_x h with h | h
  · skip
    cases h
    exact hf
  · skip
    obtain ⟨_, h⟩ := lt_x h
    replace h := (ck_e h).2
    obtain ⟨_, h⟩ := lt_x h
    obtain ⟨_, hf1, h⟩ := wrZ_f hf (by decide) h
    obtain ⟨_, hf2, h⟩ := pfZ_f hf1 (by decide) h
    obtain ⟨_, h⟩ := lt_x h
    cases h
    exact hf2
theorem fC_X12_comes_3 {g0 : uZ} {g3 : uZ} {zr : uZ} (hf : Fr [60] [(55, 7)] g0 g3) (h : GC_X12_comes_3 g3 = some zr) : Fr [60] [(55, 7)] g0 zr := by
  unfold GC_X12_comes_3 at h
  cases h
  exact hf
theorem fF_X12_comes {g0 : uZ} {a1 : Int} {g : uZ} {zr : uZ} (hf : Fr [60] [(55, 7)] g0 g) (h : GF_X12_comes a1 g = some zr) : Fr [60] [(55, 7)] g0 zr := by
  unfold GF_X12_comes at h
  obtain ⟨z, hz, h⟩ := lp_x (P := (fun q => fp_0 [60] [(55, 7)] g0 q)) (Q := (fun q => Fr [60] [(55, 7)] g0 q)) h hf (fun q r hq h => by have h9 := fB_X12_comes_2 hq h; rcases r with r | r <;> exact h9)
  exact fC_X12_comes_3 hz h
theorem fF_X12_feed {g0 : uZ} {a1 : Int} {a2 : Int} {a3 : Int} {a4 : Int} {a5 : Int} {g : uZ} {zr : (Int × uZ)} (hf : Fr [60] [(55, 7), (55, 9)] g0 g) (h : GF_X12_feed a1 a2 a3 a4 a5 g = some zr) : fp_0 [60] [(55, 7), (55, 9)] g0 zr := by
  unfold GF_X12_feed at h
  obtain ⟨_, hf1, h⟩ := pfZ_f hf (by decide) h
  replace h := (ck_e h).2
  rcases it_x h with h | h
  · skip
    obtain ⟨_, hc, h⟩ := cp_e h
    have hf2 := Fr.tr hf1 (fF_X12_comes Fr.rf hc) (by decide) (by decide)
    clear hc
    obtain ⟨_, hc, h⟩ := cp_e h
    have hf3 := Fr.tr hf2 (fF_X12_comes Fr.rf hc) (by decide) (by decide)
    clear hc
    obtain ⟨_, hc, h⟩ := cp_e h
    have hf4 := Fr.tr hf3 (fF_X12_comes Fr.rf hc) (by decide) (by decide)
    clear hc
    obtain ⟨_, hc, h⟩ := cp_e h
    have hf5 := Fr.tr hf4 (fF_X12_comes Fr.rf hc) (by decide) (by decide)
    clear hc
    obtain ⟨_, hc, h⟩ := cp_e h
    have hf6 := Fr.tr hf5 (fF_X12_comes Fr.rf hc) (by decide) (by decide)
    clear hc
    cases h
    exact hf6
  · skip
    cases h
    exact hf1
theorem fF_X12_adds {g0 : uZ} {a1 : Int} {g : uZ} {zr : uZ} (hf : Fr [59] [(55, 6)] g0 g) (h : GF_X12_adds a1 g = some zr) : Fr [59] [(55, 6)] g0 zr := by
  unfold GF_X12_adds at h
  obtain ⟨_, hf1, h⟩ := wrZ_f hf (by decide) h
  obtain ⟨_, hf2, h⟩ := pfZ_f hf1 (by decide) h
  cases h
  exact hf2
theorem fB_X12_samples_2 {g0 : uZ} {a1 : Int} {w5 : Int} {g6 : uZ} {zr : ((Int × uZ) ⊕ uZ)} (hf : Fr [59] [(55, 6), (55, 7), (55, 9)] g0 g6) (h : GB_X12_samples_2 a1 w5 g6 = some zr) : fp_1 [59] [(55, 6), (55, 7), (55, 9)] g0 zr := by
  unfold GB_X12_samples_2 at h
  replace h := (ck_e h).2
  replace h := (ck_e h).2
  rcases it_x h with h | h
  · skip
    cases h
    exact hf
  · skip
    obtain ⟨_, h⟩ := rdZ_x h
    obtain ⟨_, hc, h⟩ := cp_e h
    have hf1 := Fr.tr hf (fF_X12_adds Fr.rf hc) (by decide) (by decide)
    clear hc
    obtain ⟨_, h⟩ := lt_x h
    cases h
    exact hf1
theorem fC_X12_samples_3 {g0 : uZ} {g7 : uZ} {zr : (Int × uZ)} (hf : Fr [59] [(55, 6), (55, 7), (55, 9)] g0 g7) (h : GC_X12_samples_3 g7 = some zr) : fp_0 [59] [(55, 6), (55, 7), (55, 9)] g0 zr := by
  unfold GC_X12_samples_3 at h
  obtain ⟨_, hf1, h⟩ := pfZ_f hf (by decide) h
  cases h
  exact hf1
theorem fJ_X12_samples_4 {g0 : uZ} {g1 : uZ} {zr : (Int × uZ)} (hf : Fr [59] [(55, 6), (55, 7), (55, 9)] g0 g1) (h : GJ_X12_samples_4 g1 = some zr) : fp_0 [59] [(55, 6), (55, 7), (55, 9)] g0 zr := by
  unfold GJ_X12_samples_4 at h
  cases h
  exact hf
theorem fF_X12_samples {g0 : uZ} {a1 : Int} {g : uZ} {zr : (Int × uZ)} (hf : Fr [59] [(55, 6), (55, 7), (55, 9)] g0 g) (h : GF_X12_samples a1 g = some zr) : fp_0 [59] [(55, 6), (55, 7), (55, 9)] g0 zr := by
  unfold GF_X12_samples at h
  obtain ⟨_, hf1, h⟩ := pfZ_f hf (by decide) h
  obtain ⟨_, hc, h⟩ := cp_e h
  clear hc
  replace h := (ck_e h).2
  rcases it_x h with h | h
  · skip
    exact fJ_X12_samples_4 hf1 h
  · skip
    replace h := (ck_e h).2
    rcases it_x h with h | h
    · skip
      obtain ⟨z, hz, h⟩ := lp_x (P := (fun q => fp_0 [59] [(55, 6), (55, 7), (55, 9)] g0 q)) (Q := (fun q => Fr [59] [(55, 6), (55, 7), (55, 9)] g0 q)) h hf1 (fun q r hq h => by have h9 := fB_X12_samples_2 hq h; rcases r with r | r <;> exact h9)
      exact fC_X12_samples_3 hz h
    · skip
      exact fJ_X12_samples_4 hf1 h
theorem fB_X12_cycles_3 {g0 : uZ} {a1 : Int} {a2 : Int} {w13 : Int} {g14 : uZ} {zr : ((Int × uZ) ⊕ uZ)} (hf : Fr [59] [(55, 6), (55, 9)] g0 g14) (h : GB_X12_cycles_3 a1 a2 w13 g14 = some zr) : fp_1 [59] [(55, 6), (55, 9)] g0 zr := by
  unfold GB_X12_cycles_3 at h
  replace h := (ck_e h).2
  replace h := (ck_e h).2
  rcases it_x h with h | h
  · skip
    cases h
    exact hf
  · skip
    obtain ⟨_, h⟩ := dvZ_x h
    obtain ⟨_, hc, h⟩ := cp_e h
    have hf1 := Fr.tr hf (fF_X12_adds Fr.rf hc) (by decide) (by decide)
    clear hc
    obtain ⟨_, h⟩ := lt_x h
    cases h
    exact hf1
theorem fC_X12_cycles_4 {g0 : uZ} {w9 : Int} {g15 : uZ} {zr : ((Int × uZ) ⊕ uZ)} (hf : Fr [59] [(55, 6), (55, 9)] g0 g15) (h : GC_X12_cycles_4 w9 g15 = some zr) : fp_1 [59] [(55, 6), (55, 9)] g0 zr := by
  unfold GC_X12_cycles_4 at h
  obtain ⟨_, h⟩ := lt_x h
  cases h
  exact hf
theorem fB_X12_cycles_5 {g0 : uZ} {a1 : Int} {a2 : Int} {a3 : Int} {w9 : Int} {g10 : uZ} {zr : ((Int × uZ) ⊕ uZ)} (hf : Fr [59] [(55, 6), (55, 9)] g0 g10) (h : GB_X12_cycles_5 a1 a2 a3 w9 g10 = some zr) : fp_1 [59] [(55, 6), (55, 9)] g0 zr := by
  unfold GB_X12_cycles_5 at h
  replace h := (ck_e h).2
  replace h := (ck_e h).2
  rcases it_x h with h | h
  · skip
    cases h
    exact hf
  · skip
    obtain ⟨z, hz, h⟩ := lp_x (P := (fun q => fp_0 [59] [(55, 6), (55, 9)] g0 q)) (Q := (fun q => Fr [59] [(55, 6), (55, 9)] g0 q)) h hf (fun q r hq h => by have h9 := fB_X12_cycles_3 hq h; rcases r with r | r <;> exact h9)
    exact fC_X12_cycles_4 hz h
theorem fC_X12_cycles_6 {g0 : uZ} {g11 : uZ} {zr : (Int × uZ)} (hf : Fr [59] [(55, 6), (55, 9)] g0 g11) (h : GC_X12_cycles_6 g11 = some zr) : fp_0 [59] [(55, 6), (55, 9)] g0 zr := by
  unfold GC_X12_cycles_6 at h
  cases h
  exact hf
theorem fJ_X12_cycles_7 {g0 : uZ} {g1 : uZ} {zr : (Int × uZ)} (hf : Fr [59] [(55, 6), (55, 9)] g0 g1) (h : GJ_X12_cycles_7 g1 = some zr) : fp_0 [59] [(55, 6), (55, 9)] g0 zr := by
  unfold GJ_X12_cycles_7 at h
  cases h
  exact hf
theorem fF_X12_cycles {g0 : uZ} {a1 : Int} {a2 : Int} {a3 : Int} {g : uZ} {zr : (Int × uZ)} (hf : Fr [59] [(55, 6), (55, 9)] g0 g) (h : GF_X12_cycles a1 a2 a3 g = some zr) : fp_0 [59] [(55, 6), (55, 9)] g0 zr := by
  unfold GF_X12_cycles at h
  obtain ⟨_, hf1, h⟩ := pfZ_f hf (by decide) h
  obtain ⟨_, hc, h⟩ := cp_e h
  clear hc
  replace h := (ck_e h).2
  rcases it_x h with h | h
  · skip
    exact fJ_X12_cycles_7 hf1 h
  · skip
    obtain ⟨_, hc, h⟩ := cp_e h
    clear hc
    replace h := (ck_e h).2
    rcases it_x h with h | h
    · skip
      exact fJ_X12_cycles_7 hf1 h
    · skip
      obtain ⟨_, hc, h⟩ := cp_e h
      clear hc
      replace h := (ck_e h).2
      rcases it_x h with h | h
      · skip
        exact fJ_X12_cycles_7 hf1 h
      · skip
        replace h := (ck_e h).2
        rcases it_x h with h | h
        · skip
          obtain ⟨z, hz, h⟩ := lp_x (P := (fun q => fp_0 [59] [(55, 6), (55, 9)] g0 q)) (Q := (fun q => Fr [59] [(55, 6), (55, 9)] g0 q)) h hf1 (fun q r hq h => by have h9 := fB_X12_cycles_5 hq h; rcases r with r | r <;> exact h9)
          exact fC_X12_cycles_6 hz h
        · skip
          exact fJ_X12_cycles_7 hf1 h
theorem fF_X12_draw {g0 : uZ} {a1 : Int} {g : uZ} {zr : (Int × uZ)} (hf : Fr [] [(55, 10)] g0 g) (h : GF_X12_draw a1 g = some zr) : fp_0 [] [(55, 10)] g0 zr := by
  unfold GF_X12_draw at h
  obtain ⟨_, hf1, h⟩ := pfZ_f hf (by decide) h
  obtain ⟨_, h⟩ := rmdZ_x h
  cases h
  exact hf1
theorem fB_X12_noise_2 {g0 : uZ} {a2 : Int} {a3 : Int} {w8 : Int} {g9 : uZ} {zr : ((Int × uZ) ⊕ uZ)} (hf : Fr [59] [(55, 6), (55, 9), (55, 10)] g0 g9) (h : GB_X12_noise_2 a2 a3 w8 g9 = some zr) : fp_1 [59] [(55, 6), (55, 9), (55, 10)] g0 zr := by
  unfold GB_X12_noise_2 at h
  replace h := (ck_e h).2
  replace h := (ck_e h).2
  rcases it_x h with h | h
  · skip
    cases h
    exact hf
  · skip
    obtain ⟨_, _, hc, h⟩ := clZ_x h
    have hf1 := Fr.tr hf (fF_X12_draw Fr.rf hc) (by decide) (by decide)
    clear hc
    obtain ⟨_, hc, h⟩ := cp_e h
    have hf2 := Fr.tr hf1 (fF_X12_adds Fr.rf hc) (by decide) (by decide)
    clear hc
    obtain ⟨_, h⟩ := lt_x h
    cases h
    exact hf2
theorem fC_X12_noise_3 {g0 : uZ} {g10 : uZ} {zr : (Int × uZ)} (hf : Fr [59] [(55, 6), (55, 9), (55, 10)] g0 g10) (h : GC_X12_noise_3 g10 = some zr) : fp_0 [59] [(55, 6), (55, 9), (55, 10)] g0 zr := by
  unfold GC_X12_noise_3 at h
  cases h
  exact hf
theorem fJ_X12_noise_4 {g0 : uZ} {g1 : uZ} {zr : (Int × uZ)} (hf : Fr [59] [(55, 6), (55, 9), (55, 10)] g0 g1) (h : GJ_X12_noise_4 g1 = some zr) : fp_0 [59] [(55, 6), (55, 9), (55, 10)] g0 zr := by
  unfold GJ_X12_noise_4 at h
  cases h
  exact hf
theorem fF_X12_noise {g0 : uZ} {a1 : Int} {a2 : Int} {a3 : Int} {g : uZ} {zr : (Int × uZ)} (hf : Fr [59] [(55, 6), (55, 9), (55, 10)] g0 g) (h : GF_X12_noise a1 a2 a3 g = some zr) : fp_0 [59] [(55, 6), (55, 9), (55, 10)] g0 zr := by
  unfold GF_X12_noise at h
  obtain ⟨_, hf1, h⟩ := pfZ_f hf (by decide) h
  obtain ⟨_, hc, h⟩ := cp_e h
  clear hc
  replace h := (ck_e h).2
  rcases it_x h with h | h
  · skip
    exact fJ_X12_noise_4 hf1 h
  · skip
    obtain ⟨_, hc, h⟩ := cp_e h
    clear hc
    replace h := (ck_e h).2
    rcases it_x h with h | h
    · skip
      exact fJ_X12_noise_4 hf1 h
    · skip
      replace h := (ck_e h).2
      rcases it_x h with h | h
      · skip
        obtain ⟨_, hf2, h⟩ := pfZ_f hf1 (by decide) h
        obtain ⟨z, hz, h⟩ := lp_x (P := (fun q => fp_0 [59] [(55, 6), (55, 9), (55, 10)] g0 q)) (Q := (fun q => Fr [59] [(55, 6), (55, 9), (55, 10)] g0 q)) h hf2 (fun q r hq h => by have h9 := fB_X12_noise_2 hq h; rcases r with r | r <;> exact h9)
        exact fC_X12_noise_3 hz h
      · skip
        exact fJ_X12_noise_4 hf1 h
theorem fJ_X12_poke_1 {g0 : uZ} {g1 : uZ} {zr : (Int × uZ)} (hf : Fr [59] [(55, 9)] g0 g1) (h : GJ_X12_poke_1 g1 = some zr) : fp_0 [59] [(55, 9)] g0 zr := by
  unfold GJ_X12_poke_1 at h
  cases h
  exact hf
theorem fF_X12_poke {g0 : uZ} {a1 : Int} {a2 : Int} {g : uZ} {zr : (Int × uZ)} (hf : Fr [59] [(55, 9)] g0 g) (h : GF_X12_poke a1 a2 g = some zr) : fp_0 [59] [(55, 9)] g0 zr := by
  unfold GF_X12_poke at h
  obtain ⟨_, hf1, h⟩ := pfZ_f hf (by decide) h
  obtain ⟨_, hc, h⟩ := cp_e h
  clear hc
  replace h := (ck_e h).2
  rcases it_x h with h | h
  · skip
    exact fJ_X12_poke_1 hf1 h
  · skip
    obtain ⟨_, hc, h⟩ := cp_e h
    clear hc
    replace h := (ck_e h).2
    rcases it_x h with h | h
    · skip
      exact fJ_X12_poke_1 hf1 h
    · skip
      obtain ⟨_, h⟩ := rdZ_x h
      obtain ⟨_, hf2, h⟩ := wrZ_f hf1 (by decide) h
      cases h
      exact hf2
theorem fF_X12_cut {g0 : uZ} {a1 : Int} {g : uZ} {zr : (Int × uZ)} (hf : Fr [] [(55, 6), (55, 9)] g0 g) (h : GF_X12_cut a1 g = some zr) : fp_0 [] [(55, 6), (55, 9)] g0 zr := by
  unfold GF_X12_cut at h
  obtain ⟨_, hf1, h⟩ := pfZ_f hf (by decide) h
  obtain ⟨_, hc, h⟩ := cp_e h
  clear hc
  replace h := (ck_e h).2
  rcases it_x h with h | h
  · skip
    cases h
    exact hf1
  · skip
    obtain ⟨_, hf2, h⟩ := pfZ_f hf1 (by decide) h
    cases h
    exact hf2
theorem fJ_X12_sample_1 {g0 : uZ} {g3 : uZ} {v7 : Int} {zr : (Int × uZ)} (hf : Fr [] [(55, 9)] g0 g3) (h : GJ_X12_sample_1 g3 v7 = some zr) : fp_0 [] [(55, 9)] g0 zr := by
  unfold GJ_X12_sample_1 at h
  cases h
  exact hf
theorem fF_X12_sample {g0 : uZ} {a1 : Int} {g : uZ} {zr : (Int × uZ)} (hf : Fr [] [(55, 9)] g0 g) (h : GF_X12_sample a1 g = some zr) : fp_0 [] [(55, 9)] g0 zr := by
  unfold GF_X12_sample at h
  obtain ⟨_, hf1, h⟩ := pfZ_f hf (by decide) h
  obtain ⟨_, hc, h⟩ := cp_e h
  clear hc
  obtain ⟨_, _, hc, h⟩ := clZ_x h
  have hf2 := Fr.tr hf1 (fF_X12_right Fr.rf hc) (by decide) (by decide)
  clear hc
  replace h := (ck_e h).2
  rcases it_x h with h | h
  · skip
    exact fJ_X12_sample_1 hf2 h
  · skip
    obtain ⟨_, h⟩ := rdZ_x h
    exact fJ_X12_sample_1 hf2 h
theorem fF_X12_bound {g0 : uZ} {a1 : Int} {a2 : Int} {g : uZ} {zr : (Int × uZ)} (hf : Fr [56] [(55, 9)] g0 g) (h : GF_X12_bound a1 a2 g = some zr) : fp_0 [56] [(55, 9)] g0 zr := by
  unfold GF_X12_bound at h
  obtain ⟨_, hf1, h⟩ := pfZ_f hf (by decide) h
  obtain ⟨_, hc, h⟩ := cp_e h
  clear hc
  replace h := (ck_e h).2
  rcases it_x h with h | h
  · skip
    cases h
    exact hf1
  · skip
    obtain ⟨_, h⟩ := rdZ_x h
    obtain ⟨_, hf2, h⟩ := wrZ_f hf1 (by decide) h
    cases h
    exact hf2
theorem fF_X12_count {g0 : uZ} {a1 : Int} {g : uZ} {zr : (Int × uZ)} (hf : Fr [] [(55, 9)] g0 g) (h : GF_X12_count a1 g = some zr) : fp_0 [] [(55, 9)] g0 zr := by
  unfold GF_X12_count at h
  obtain ⟨_, hf1, h⟩ := pfZ_f hf (by decide) h
  obtain ⟨_, hc, h⟩ := cp_e h
  clear hc
  obtain ⟨_, _, hc, h⟩ := clZ_x h
  have hf2 := Fr.tr hf1 (fF_X12_right Fr.rf hc) (by decide) (by decide)
  clear hc
  replace h := (ck_e h).2
  rcases it_x h with h | h
  · skip
    cases h
    exact hf2
  · skip
    replace h := (ck_e h).2
    rcases it_x h with h | h
    · skip
      cases h
      exact hf2
    · skip
      rcases it_x h with h | h
      · skip
        obtain ⟨_, hc, h⟩ := cp_e h
        clear hc
        cases h
        exact hf2
      · skip
        rcases it_x h with h | h
        · skip
          cases h
          exact hf2
        · skip
          rcases it_x h with h | h
          · skip
            cases h
            exact hf2
          · skip
            obtain ⟨_, h⟩ := rdZ_x h
            cases h
            exact hf2
theorem fJ_X12_laysDiffs_5 {g0 : uZ} {v22 : Int} {w4 : Int} {g19 : uZ} {v26 : Int} {zr : ((Int × (Int × uZ)) ⊕ uZ)} (hf : Fr [62, 63] [] g0 g19) (h : GJ_X12_laysDiffs_5 v22 w4 g19 v26 = some zr) : fp_3 [62, 63] [] g0 zr := by
  unfold GJ_X12_laysDiffs_5 at h
  obtain ⟨_, hf1, h⟩ := wrZ_f hf (by decide) h
  obtain ⟨_, h⟩ := lt_x h
  cases h
  exact hf1
theorem fJ_X12_laysDiffs_4 {g0 : uZ} {v22 : Int} {w4 : Int} {g19 : uZ} {zr : ((Int × (Int × uZ)) ⊕ uZ)} (hf : Fr [62, 63] [] g0 g19) (h : GJ_X12_laysDiffs_4 v22 w4 g19 = some zr) : fp_3 [62, 63] [] g0 zr := by
  unfold GJ_X12_laysDiffs_4 at h
  exact fJ_X12_laysDiffs_5 hf h
theorem fC_X12_laysDiffs_6 {g0 : uZ} {w3 : Int} {w4 : Int} {g5 : uZ} {v11 : Int} {zr : ((Int × (Int × uZ)) ⊕ uZ)} (hf : Fr [62, 63] [] g0 g5) (h : GC_X12_laysDiffs_6 w3 w4 g5 v11 = some zr) : fp_3 [62, 63] [] g0 zr := by
  unfold GC_X12_laysDiffs_6 at h
  obtain ⟨_, hf1, h⟩ := wrZ_f hf (by decide) h
  replace h := (ck_e h).2
  obtain ⟨_, h⟩ := lt_x h
  obtain ⟨_, h⟩ := lt_x h
  rcases it_x h with h | h
  · skip
    exact fJ_X12_laysDiffs_4 hf1 h
  · skip
    replace h := (ck_e h).2
    rcases it_x h with h | h
    · skip
      exact fJ_X12_laysDiffs_4 hf1 h
    · skip
      obtain ⟨_, h⟩ := dvZ_x h
      exact fJ_X12_laysDiffs_5 hf1 h
theorem fB_X12_laysDiffs_7 {g0 : uZ} {v2 : Int} {w3 : Int} {w4 : Int} {g5 : uZ} {zr : ((Int × (Int × uZ)) ⊕ uZ)} (hf : Fr [62, 63] [] g0 g5) (h : GB_X12_laysDiffs_7 v2 w3 w4 g5 = some zr) : fp_3 [62, 63] [] g0 zr := by
  unfold GB_X12_laysDiffs_7 at h
  obtain ⟨_, h⟩ := rdZ_x h
  replace h := (ck_e h).2
  replace h := (ck_e h).2
  rcases it_x h with h | h
  · skip
    cases h
    exact hf
  · skip
    obtain ⟨z, hz, h⟩ := lp_x (P := (fun _ => True)) (Q := (fun _ => True)) h trivial (fun q r hq h => by rcases r with r | r <;> trivial)
    exact fC_X12_laysDiffs_6 hf h
theorem fC_X12_laysDiffs_8 {g0 : uZ} {g6 : uZ} {zr : uZ} (hf : Fr [62, 63] [] g0 g6) (h : GC_X12_laysDiffs_8 g6 = some zr) : Fr [62, 63] [] g0 zr := by
  unfold GC_X12_laysDiffs_8 at h
  cases h
  exact hf
theorem fF_X12_laysDiffs {g0 : uZ} {a1 : Int} {g : uZ} {zr : uZ} (hf : Fr [62, 63] [] g0 g) (h : GF_X12_laysDiffs a1 g = some zr) : Fr [62, 63] [] g0 zr := by
  unfold GF_X12_laysDiffs at h
  obtain ⟨_, h⟩ := rdZ_x h
  obtain ⟨_, h⟩ := lt_x h
  obtain ⟨z, hz, h⟩ := lp_x (P := (fun q => fp_2 [62, 63] [] g0 q)) (Q := (fun q => Fr [62, 63] [] g0 q)) h hf (fun q r hq h => by have h9 := fB_X12_laysDiffs_7 hq h; rcases r with r | r <;> exact h9)
  exact fC_X12_laysDiffs_8 hz h
theorem fF_X12_isFrame {g0 : uZ} {a1 : Int} {g : uZ} {zr : (Int × uZ)} (hf : Fr [] [(55, 9)] g0 g) (h : GF_X12_isFrame a1 g = some zr) : fp_0 [] [(55, 9)] g0 zr := by
  unfold GF_X12_isFrame at h
  obtain ⟨_, hc, h⟩ := cp_e h
  clear hc
  obtain ⟨_, hc, h⟩ := cp_e h
  clear hc
  obtain ⟨_, _, hc, h⟩ := clZ_x h
  have hf1 := Fr.tr hf (fF_X12_right Fr.rf hc) (by decide) (by decide)
  clear hc
  replace h := bzZ_x h
  cases h
  exact hf1
theorem fF_X12_isLag {g0 : uZ} {a1 : Int} {g : uZ} {zr : (Int × uZ)} (hf : Fr [] [(55, 9)] g0 g) (h : GF_X12_isLag a1 g = some zr) : fp_0 [] [(55, 9)] g0 zr := by
  unfold GF_X12_isLag at h
  obtain ⟨_, h⟩ := rdZ_x h
  obtain ⟨_, hc, h⟩ := cp_e h
  clear hc
  obtain ⟨_, _, hc, h⟩ := clZ_x h
  have hf1 := Fr.tr hf (fF_X12_right Fr.rf hc) (by decide) (by decide)
  clear hc
  replace h := bzZ_x h
  cases h
  exact hf1
theorem fJ_X12_diff_1 {g0 : uZ} {g10 : uZ} {zr : (Int × uZ)} (hf : Fr [62, 63] [(55, 9)] g0 g10) (h : GJ_X12_diff_1 g10 = some zr) : fp_0 [62, 63] [(55, 9)] g0 zr := by
  unfold GJ_X12_diff_1 at h
  cases h
  exact hf
theorem fF_X12_diff {g0 : uZ} {a1 : Int} {a2 : Int} {g : uZ} {zr : (Int × uZ)} (hf : Fr [62, 63] [(55, 9)] g0 g) (h : GF_X12_diff a1 a2 g = some zr) : fp_0 [62, 63] [(55, 9)] g0 zr := by
  unfold GF_X12_diff at h
  obtain ⟨_, hf1, h⟩ := pfZ_f hf (by decide) h
  obtain ⟨_, _, hc, h⟩ := clZ_x h
  have hf2 := Fr.tr hf1 (fF_X12_isFrame Fr.rf hc) (by decide) (by decide)
  clear hc
  replace h := (ck_e h).2
  rcases it_x h with h | h
  · skip
    exact fJ_X12_diff_1 hf2 h
  · skip
    obtain ⟨_, _, hc, h⟩ := clZ_x h
    have hf3 := Fr.tr hf2 (fF_X12_isLag Fr.rf hc) (by decide) (by decide)
    clear hc
    replace h := (ck_e h).2
    rcases it_x h with h | h
    · skip
      exact fJ_X12_diff_1 hf3 h
    · skip
      obtain ⟨_, hc, h⟩ := cp_e h
      have hf4 := Fr.tr hf3 (fF_X12_laysDiffs Fr.rf hc) (by decide) (by decide)
      clear hc
      obtain ⟨_, h⟩ := rdZ_x h
      cases h
      exact hf4
theorem fJ_X12_rel_1 {g0 : uZ} {g10 : uZ} {zr : (Int × uZ)} (hf : Fr [62, 63] [(55, 9)] g0 g10) (h : GJ_X12_rel_1 g10 = some zr) : fp_0 [62, 63] [(55, 9)] g0 zr := by
  unfold GJ_X12_rel_1 at h
  cases h
  exact hf
theorem fF_X12_rel {g0 : uZ} {a1 : Int} {a2 : Int} {g : uZ} {zr : (Int × uZ)} (hf : Fr [62, 63] [(55, 9)] g0 g) (h : GF_X12_rel a1 a2 g = some zr) : fp_0 [62, 63] [(55, 9)] g0 zr := by
  unfold GF_X12_rel at h
  obtain ⟨_, hf1, h⟩ := pfZ_f hf (by decide) h
  obtain ⟨_, _, hc, h⟩ := clZ_x h
  have hf2 := Fr.tr hf1 (fF_X12_isFrame Fr.rf hc) (by decide) (by decide)
  clear hc
  replace h := (ck_e h).2
  rcases it_x h with h | h
  · skip
    exact fJ_X12_rel_1 hf2 h
  · skip
    obtain ⟨_, _, hc, h⟩ := clZ_x h
    have hf3 := Fr.tr hf2 (fF_X12_isLag Fr.rf hc) (by decide) (by decide)
    clear hc
    replace h := (ck_e h).2
    rcases it_x h with h | h
    · skip
      exact fJ_X12_rel_1 hf3 h
    · skip
      obtain ⟨_, hc, h⟩ := cp_e h
      have hf4 := Fr.tr hf3 (fF_X12_laysDiffs Fr.rf hc) (by decide) (by decide)
      clear hc
      obtain ⟨_, h⟩ := rdZ_x h
      cases h
      exact hf4
theorem fJ_X12_loud_1 {g0 : uZ} {g2 : uZ} {v6 : Int} {zr : (Int × uZ)} (hf : Fr [] [(55, 9)] g0 g2) (h : GJ_X12_loud_1 g2 v6 = some zr) : fp_0 [] [(55, 9)] g0 zr := by
  unfold GJ_X12_loud_1 at h
  cases h
  exact hf
theorem fF_X12_loud {g0 : uZ} {a1 : Int} {g : uZ} {zr : (Int × uZ)} (hf : Fr [] [(55, 9)] g0 g) (h : GF_X12_loud a1 g = some zr) : fp_0 [] [(55, 9)] g0 zr := by
  unfold GF_X12_loud at h
  obtain ⟨_, hf1, h⟩ := pfZ_f hf (by decide) h
  obtain ⟨_, _, hc, h⟩ := clZ_x h
  have hf2 := Fr.tr hf1 (fF_X12_isFrame Fr.rf hc) (by decide) (by decide)
  clear hc
  replace h := (ck_e h).2
  rcases it_x h with h | h
  · skip
    exact fJ_X12_loud_1 hf2 h
  · skip
    obtain ⟨_, hc, h⟩ := cp_e h
    clear hc
    exact fJ_X12_loud_1 hf2 h
theorem fJ_X12_laysDips_3 {g0 : uZ} {w6 : Int} {g7 : uZ} {v14 : Int} {zr : ((Int × uZ) ⊕ uZ)} (hf : Fr [67] [] g0 g7) (h : GJ_X12_laysDips_3 w6 g7 v14 = some zr) : fp_1 [67] [] g0 zr := by
  unfold GJ_X12_laysDips_3 at h
  obtain ⟨_, hf1, h⟩ := wrZ_f hf (by decide) h
  obtain ⟨_, h⟩ := lt_x h
  cases h
  exact hf1
theorem fJ_X12_laysDips_2 {g0 : uZ} {w6 : Int} {g7 : uZ} {zr : ((Int × uZ) ⊕ uZ)} (hf : Fr [67] [] g0 g7) (h : GJ_X12_laysDips_2 w6 g7 = some zr) : fp_1 [67] [] g0 zr := by
  unfold GJ_X12_laysDips_2 at h
  exact fJ_X12_laysDips_3 hf h
theorem fB_X12_laysDips_4 {g0 : uZ} {v4 : Int} {w6 : Int} {g7 : uZ} {zr : ((Int × uZ) ⊕ uZ)} (hf : Fr [67] [] g0 g7) (h : GB_X12_laysDips_4 v4 w6 g7 = some zr) : fp_1 [67] [] g0 zr := by
  unfold GB_X12_laysDips_4 at h
  obtain ⟨_, h⟩ := rdZ_x h
  replace h := (ck_e h).2
  replace h := (ck_e h).2
  rcases it_x h with h | h
  · skip
    cases h
    exact hf
  · skip
    replace h := (ck_e h).2
    rcases it_x h with h | h
    · skip
      exact fJ_X12_laysDips_2 hf h
    · skip
      obtain ⟨_, hc, h⟩ := cp_e h
      clear hc
      replace h := (ck_e h).2
      rcases it_x h with h | h
      · skip
        exact fJ_X12_laysDips_2 hf h
      · skip
        exact fJ_X12_laysDips_3 hf h
theorem fC_X12_laysDips_5 {g0 : uZ} {g8 : uZ} {zr : uZ} (hf : Fr [67] [] g0 g8) (h : GC_X12_laysDips_5 g8 = some zr) : Fr [67] [] g0 zr := by
  unfold GC_X12_laysDips_5 at h
  cases h
  exact hf
theorem fF_X12_laysDips {g0 : uZ} {a1 : Int} {g : uZ} {zr : uZ} (hf : Fr [67] [] g0 g) (h : GF_X12_laysDips a1 g = some zr) : Fr [67] [] g0 zr := by
  unfold GF_X12_laysDips at h
  obtain ⟨_, hc, h⟩ := cp_e h
  clear hc
  obtain ⟨_, h⟩ := rdZ_x h
  replace h := (ck_e h).2
  replace h := (ck_e h).2
  obtain ⟨_, h⟩ := lt_x h
  obtain ⟨_, h⟩ := rdZ_x h
  obtain ⟨z, hz, h⟩ := lp_x (P := (fun q => fp_0 [67] [] g0 q)) (Q := (fun q => Fr [67] [] g0 q)) h hf (fun q r hq h => by have h9 := fB_X12_laysDips_4 hq h; rcases r with r | r <;> exact h9)
  exact fC_X12_laysDips_5 hz h
theorem fJ_X12_laysFrame_2 {g0 : uZ} {w5 : Int} {v21 : Int} {g22 : uZ} {zr : ((Int × (Int × uZ)) ⊕ (Int × uZ))} (hf : Fr [62, 63, 64, 65, 66, 67] [] g0 g22) (h : GJ_X12_laysFrame_2 w5 v21 g22 = some zr) : fp_4 [62, 63, 64, 65, 66, 67] [] g0 zr := by
  unfold GJ_X12_laysFrame_2 at h
  obtain ⟨_, h⟩ := lt_x h
  cases h
  exact hf
theorem fB_X12_laysFrame_3 {g0 : uZ} {a1 : Int} {w4 : Int} {w5 : Int} {g6 : uZ} {zr : ((Int × (Int × uZ)) ⊕ (Int × uZ))} (hf : Fr [62, 63, 64, 65, 66, 67] [] g0 g6) (h : GB_X12_laysFrame_3 a1 w4 w5 g6 = some zr) : fp_4 [62, 63, 64, 65, 66, 67] [] g0 zr := by
  unfold GB_X12_laysFrame_3 at h
  obtain ⟨_, h⟩ := rdZ_x h
  replace h := (ck_e h).2
  replace h := (ck_e h).2
  rcases it_x h with h | h
  · skip
    cases h
    exact hf
  · skip
    obtain ⟨_, h⟩ := rdZ_x h
    replace h := (ck_e h).2
    rcases it_x h with h | h
    · skip
      exact fJ_X12_laysFrame_2 hf h
    · skip
      obtain ⟨_, hc, h⟩ := cp_e h
      clear hc
      obtain ⟨_, h⟩ := rdZ_x h
      replace h := (ck_e h).2
      replace h := (ck_e h).2
      rcases it_x h with h | h
      · skip
        obtain ⟨_, hf1, h⟩ := wrZ_f hf (by decide) h
        obtain ⟨_, h⟩ := rdZ_x h
        obtain ⟨_, h⟩ := rdZ_x h
        obtain ⟨_, hf2, h⟩ := wrZ_f hf1 (by decide) h
        obtain ⟨_, h⟩ := lt_x h
        exact fJ_X12_laysFrame_2 hf2 h
      · skip
        exact fJ_X12_laysFrame_2 hf h
theorem fC_X12_laysFrame_4 {g0 : uZ} {a1 : Int} {v7 : Int} {g8 : uZ} {zr : uZ} (hf : Fr [62, 63, 64, 65, 66, 67] [] g0 g8) (h : GC_X12_laysFrame_4 a1 v7 g8 = some zr) : Fr [62, 63, 64, 65, 66, 67] [] g0 zr := by
  unfold GC_X12_laysFrame_4 at h
  obtain ⟨_, hf1, h⟩ := wrZ_f hf (by decide) h
  obtain ⟨_, h⟩ := rdZ_x h
  obtain ⟨_, hf2, h⟩ := wrZ_f hf1 (by decide) h
  obtain ⟨_, hf3, h⟩ := wrZ_f hf2 (by decide) h
  cases h
  exact hf3
theorem fF_X12_laysFrame {g0 : uZ} {a1 : Int} {g : uZ} {zr : uZ} (hf : Fr [62, 63, 64, 65, 66, 67] [] g0 g) (h : GF_X12_laysFrame a1 g = some zr) : Fr [62, 63, 64, 65, 66, 67] [] g0 zr := by
  unfold GF_X12_laysFrame at h
  obtain ⟨_, hc, h⟩ := cp_e h
  have hf1 := Fr.tr hf (fF_X12_laysDiffs Fr.rf hc) (by decide) (by decide)
  clear hc
  obtain ⟨_, hc, h⟩ := cp_e h
  have hf2 := Fr.tr hf1 (fF_X12_laysDips Fr.rf hc) (by decide) (by decide)
  clear hc
  obtain ⟨_, h⟩ := rdZ_x h
  obtain ⟨z, hz, h⟩ := lp_x (P := (fun q => fp_2 [62, 63, 64, 65, 66, 67] [] g0 q)) (Q := (fun q => fp_0 [62, 63, 64, 65, 66, 67] [] g0 q)) h hf2 (fun q r hq h => by have h9 := fB_X12_laysFrame_3 hq h; rcases r with r | r <;> exact h9)
  exact fC_X12_laysFrame_4 hz h
theorem fB_X12_laysAll_2 {g0 : uZ} {w3 : Int} {g4 : uZ} {zr : ((Int × uZ) ⊕ uZ)} (hf : Fr [62, 63, 64, 65, 66, 67] [(55, 17)] g0 g4) (h : GB_X12_laysAll_2 w3 g4 = some zr) : fp_1 [62, 63, 64, 65, 66, 67] [(55, 17)] g0 zr := by
  unfold GB_X12_laysAll_2 at h
  replace h := (ck_e h).2
  replace h := (ck_e h).2
  rcases it_x h with h | h
  · skip
    cases h
    exact hf
  · skip
    obtain ⟨_, hc, h⟩ := cp_e h
    have hf1 := Fr.tr hf (fF_X12_laysFrame Fr.rf hc) (by decide) (by decide)
    clear hc
    obtain ⟨_, h⟩ := lt_x h
    cases h
    exact hf1
theorem fC_X12_laysAll_3 {g0 : uZ} {g5 : uZ} {zr : uZ} (hf : Fr [62, 63, 64, 65, 66, 67] [(55, 17)] g0 g5) (h : GC_X12_laysAll_3 g5 = some zr) : Fr [62, 63, 64, 65, 66, 67] [(55, 17)] g0 zr := by
  unfold GC_X12_laysAll_3 at h
  cases h
  exact hf
theorem fF_X12_laysAll {g0 : uZ} {g : uZ} {zr : uZ} (hf : Fr [62, 63, 64, 65, 66, 67] [(55, 17)] g0 g) (h : GF_X12_laysAll g = some zr) : Fr [62, 63, 64, 65, 66, 67] [(55, 17)] g0 zr := by
  unfold GF_X12_laysAll at h
  obtain ⟨_, hc, h⟩ := cp_e h
  clear hc
  obtain ⟨_, hf1, h⟩ := pfZ_f hf (by decide) h
  obtain ⟨z, hz, h⟩ := lp_x (P := (fun q => fp_0 [62, 63, 64, 65, 66, 67] [(55, 17)] g0 q)) (Q := (fun q => Fr [62, 63, 64, 65, 66, 67] [(55, 17)] g0 q)) h hf1 (fun q r hq h => by have h9 := fB_X12_laysAll_2 hq h; rcases r with r | r <;> exact h9)
  exact fC_X12_laysAll_3 hz h
theorem fF_X12_candidates {g0 : uZ} {a1 : Int} {g : uZ} {zr : (Int × uZ)} (hf : Fr [62, 63, 64, 65, 66, 67] [(55, 9)] g0 g) (h : GF_X12_candidates a1 g = some zr) : fp_0 [62, 63, 64, 65, 66, 67] [(55, 9)] g0 zr := by
  unfold GF_X12_candidates at h
  obtain ⟨_, hf1, h⟩ := pfZ_f hf (by decide) h
  obtain ⟨_, _, hc, h⟩ := clZ_x h
  have hf2 := Fr.tr hf1 (fF_X12_isFrame Fr.rf hc) (by decide) (by decide)
  clear hc
  replace h := (ck_e h).2
  rcases it_x h with h | h
  · skip
    cases h
    exact hf2
  · skip
    obtain ⟨_, hc, h⟩ := cp_e h
    have hf3 := Fr.tr hf2 (fF_X12_laysFrame Fr.rf hc) (by decide) (by decide)
    clear hc
    obtain ⟨_, h⟩ := rdZ_x h
    cases h
    exact hf3
theorem fF_X12_isCandidate {g0 : uZ} {a1 : Int} {a2 : Int} {g : uZ} {zr : (Int × uZ)} (hf : Fr [62, 63, 64, 65, 66, 67] [(55, 9)] g0 g) (h : GF_X12_isCandidate a1 a2 g = some zr) : fp_0 [62, 63, 64, 65, 66, 67] [(55, 9)] g0 zr := by
  unfold GF_X12_isCandidate at h
  obtain ⟨_, _, hc, h⟩ := clZ_x h
  have hf1 := Fr.tr hf (fF_X12_isFrame Fr.rf hc) (by decide) (by decide)
  clear hc
  replace h := (ck_e h).2
  rcases it_x h with h | h
  · skip
    cases h
    exact hf1
  · skip
    obtain ⟨_, hc, h⟩ := cp_e h
    have hf2 := Fr.tr hf1 (fF_X12_laysFrame Fr.rf hc) (by decide) (by decide)
    clear hc
    obtain ⟨_, h⟩ := rdZ_x h
    obtain ⟨_, hc, h⟩ := cp_e h
    clear hc
    obtain ⟨_, _, hc, h⟩ := clZ_x h
    have hf3 := Fr.tr hf2 (fF_X12_right Fr.rf hc) (by decide) (by decide)
    clear hc
    replace h := bzZ_x h
    cases h
    exact hf3
theorem fC_X12_candidate_3 {g0 : uZ} {g6 : uZ} {v17 : Int} {zr : (Int × uZ)} (hf : Fr [62, 63, 64, 65, 66, 67] [(55, 9)] g0 g6) (h : GC_X12_candidate_3 g6 v17 = some zr) : fp_0 [62, 63, 64, 65, 66, 67] [(55, 9)] g0 zr := by
  unfold GC_X12_candidate_3 at h
  cases h
  exact hf
theorem fJ_X12_candidate_4 {g0 : uZ} {g26 : uZ} {zr : (Int × uZ)} (hf : Fr [62, 63, 64, 65, 66, 67] [(55, 9)] g0 g26) (h : GJ_X12_candidate_4 g26 = some zr) : fp_0 [62, 63, 64, 65, 66, 67] [(55, 9)] g0 zr := by
  unfold GJ_X12_candidate_4 at h
  cases h
  exact hf
theorem fF_X12_candidate {g0 : uZ} {a1 : Int} {a2 : Int} {a3 : Int} {g : uZ} {zr : (Int × uZ)} (hf : Fr [62, 63, 64, 65, 66, 67] [(55, 9)] g0 g) (h : GF_X12_candidate a1 a2 a3 g = some zr) : fp_0 [62, 63, 64, 65, 66, 67] [(55, 9)] g0 zr := by
  unfold GF_X12_candidate at h
  obtain ⟨_, hf1, h⟩ := pfZ_f hf (by decide) h
  obtain ⟨_, _, hc, h⟩ := clZ_x h
  have hf2 := Fr.tr hf1 (fF_X12_isCandidate Fr.rf hc) (by decide) (by decide)
  clear hc
  replace h := (ck_e h).2
  rcases it_x h with h | h
  · skip
    exact fJ_X12_candidate_4 hf2 h
  · skip
    obtain ⟨_, hc, h⟩ := cp_e h
    clear hc
    obtain ⟨_, _, hc, h⟩ := clZ_x h
    have hf3 := Fr.tr hf2 (fF_X12_right Fr.rf hc) (by decide) (by decide)
    clear hc
    replace h := (ck_e h).2
    rcases it_x h with h | h
    · skip
      exact fJ_X12_candidate_4 hf3 h
    · skip
      replace h := (ck_e h).2
      rcases it_x h with h | h
      · skip
        obtain ⟨_, hc, h⟩ := cp_e h
        clear hc
        cases h
        exact hf3
      · skip
        rcases it_x h with h | h
        · skip
          obtain ⟨_, hc, h⟩ := cp_e h
          clear hc
          cases h
          exact hf3
        · skip
          rcases it_x h with h | h
          · skip
            obtain ⟨_, hc, h⟩ := cp_e h
            clear hc
            cases h
            exact hf3
          · skip
            obtain ⟨z, hz, h⟩ := lp_x (P := (fun _ => True)) (Q := (fun _ => True)) h trivial (fun q r hq h => by rcases r with r | r <;> trivial)
            exact fC_X12_candidate_3 hf3 h
theorem fJ_X12_fine_1 {g0 : uZ} {g8 : uZ} {v26 : Int} {zr : (Int × uZ)} (hf : Fr [62, 63, 64, 65, 66, 67] [(55, 9)] g0 g8) (h : GJ_X12_fine_1 g8 v26 = some zr) : fp_0 [62, 63, 64, 65, 66, 67] [(55, 9)] g0 zr := by
  unfold GJ_X12_fine_1 at h
  cases h
  exact hf
theorem fJ_X12_fine_2 {g0 : uZ} {g29 : uZ} {zr : (Int × uZ)} (hf : Fr [62, 63, 64, 65, 66, 67] [(55, 9)] g0 g29) (h : GJ_X12_fine_2 g29 = some zr) : fp_0 [62, 63, 64, 65, 66, 67] [(55, 9)] g0 zr := by
  unfold GJ_X12_fine_2 at h
  cases h
  exact hf
theorem fF_X12_fine {g0 : uZ} {a1 : Int} {a2 : Int} {a3 : Int} {g : uZ} {zr : (Int × uZ)} (hf : Fr [62, 63, 64, 65, 66, 67] [(55, 9)] g0 g) (h : GF_X12_fine a1 a2 a3 g = some zr) : fp_0 [62, 63, 64, 65, 66, 67] [(55, 9)] g0 zr := by
  unfold GF_X12_fine at h
  obtain ⟨_, hf1, h⟩ := pfZ_f hf (by decide) h
  obtain ⟨_, _, hc, h⟩ := clZ_x h
  have hf2 := Fr.tr hf1 (fF_X12_isCandidate Fr.rf hc) (by decide) (by decide)
  clear hc
  replace h := (ck_e h).2
  rcases it_x h with h | h
  · skip
    exact fJ_X12_fine_2 hf2 h
  · skip
    obtain ⟨_, hc, h⟩ := cp_e h
    clear hc
    replace h := (ck_e h).2
    obtain ⟨_, h⟩ := lt_x h
    obtain ⟨_, _, hc, h⟩ := clZ_x h
    have hf3 := Fr.tr hf2 (fF_X12_right Fr.rf hc) (by decide) (by decide)
    clear hc
    replace h := (ck_e h).2
    rcases it_x h with h | h
    · skip
      exact fJ_X12_fine_2 hf3 h
    · skip
      obtain ⟨_, hc, h⟩ := cp_e h
      clear hc
      obtain ⟨_, h⟩ := rdZ_x h
      obtain ⟨_, h⟩ := rdZ_x h
      obtain ⟨_, h⟩ := rdZ_x h
      obtain ⟨_, h⟩ := lt_x h
      replace h := (ck_e h).2
      rcases it_x h with h | h
      · skip
        replace h := (ck_e h).2
        obtain ⟨_, h⟩ := lt_x h
        cases h
        exact hf3
      · skip
        obtain ⟨_, h⟩ := rdZ_x h
        obtain ⟨_, h⟩ := rdZ_x h
        obtain ⟨_, h⟩ := lt_x h
        obtain ⟨_, hc, h⟩ := cp_e h
        clear hc
        obtain ⟨_, h⟩ := lt_x h
        replace h := (ck_e h).2
        rcases it_x h with h | h
        · skip
          obtain ⟨_, h⟩ := dvZ_x h
          exact fJ_X12_fine_1 hf3 h
        · skip
          obtain ⟨_, h⟩ := dvZ_x h
          exact fJ_X12_fine_1 hf3 h
theorem fB_X12_opens_2 {g0 : uZ} {w1 : Int} {g2 : uZ} {zr : ((Int × uZ) ⊕ uZ)} (hf : Fr [70] [(55, 21), (55, 22)] g0 g2) (h : GB_X12_opens_2 w1 g2 = some zr) : fp_1 [70] [(55, 21), (55, 22)] g0 zr := by
  unfold GB_X12_opens_2 at h
  replace h := (ck_e h).2
  rcases it_x h with h | h
  · skip
    cases h
    exact hf
  · skip
    obtain ⟨_, hf1, h⟩ := wrZ_f hf (by decide) h
    obtain ⟨_, h⟩ := lt_x h
    cases h
    exact hf1
theorem fC_X12_opens_3 {g0 : uZ} {g3 : uZ} {zr : uZ} (hf : Fr [70] [(55, 21), (55, 22)] g0 g3) (h : GC_X12_opens_3 g3 = some zr) : Fr [70] [(55, 21), (55, 22)] g0 zr := by
  unfold GC_X12_opens_3 at h
  obtain ⟨_, h⟩ := rdZ_x h
  obtain ⟨_, hf1, h⟩ := pfZ_f hf (by decide) h
  obtain ⟨_, h⟩ := rdZ_x h
  obtain ⟨_, hf2, h⟩ := pfZ_f hf1 (by decide) h
  cases h
  exact hf2
theorem fF_X12_opens {g0 : uZ} {g : uZ} {zr : uZ} (hf : Fr [70] [(55, 21), (55, 22)] g0 g) (h : GF_X12_opens g = some zr) : Fr [70] [(55, 21), (55, 22)] g0 zr := by
  unfold GF_X12_opens at h
  obtain ⟨z, hz, h⟩ := lp_x (P := (fun q => fp_0 [70] [(55, 21), (55, 22)] g0 q)) (Q := (fun q => Fr [70] [(55, 21), (55, 22)] g0 q)) h hf (fun q r hq h => by have h9 := fB_X12_opens_2 hq h; rcases r with r | r <;> exact h9)
  exact fC_X12_opens_3 hz h
theorem fJ_X12_leavesOnly_2 {g0 : uZ} {w1 : Int} {g8 : uZ} {zr : ((Int × uZ) ⊕ uZ)} (hf : Fr [70] [] g0 g8) (h : GJ_X12_leavesOnly_2 w1 g8 = some zr) : fp_1 [70] [] g0 zr := by
  unfold GJ_X12_leavesOnly_2 at h
  obtain ⟨_, h⟩ := lt_x h
  cases h
  exact hf
theorem fB_X12_leavesOnly_3 {g0 : uZ} {a1 : Int} {a2 : Int} {w1 : Int} {g2 : uZ} {zr : ((Int × uZ) ⊕ uZ)} (hf : Fr [70] [] g0 g2) (h : GB_X12_leavesOnly_3 a1 a2 w1 g2 = some zr) : fp_1 [70] [] g0 zr := by
  unfold GB_X12_leavesOnly_3 at h
  obtain ⟨_, h⟩ := rdZ_x h
  replace h := (ck_e h).2
  replace h := (ck_e h).2
  rcases it_x h with h | h
  · skip
    cases h
    exact hf
  · skip
    replace h := (ck_e h).2
    rcases it_x h with h | h
    · skip
      exact fJ_X12_leavesOnly_2 hf h
    · skip
      obtain ⟨_, hf1, h⟩ := wrZ_f hf (by decide) h
      exact fJ_X12_leavesOnly_2 hf1 h
theorem fC_X12_leavesOnly_4 {g0 : uZ} {g3 : uZ} {zr : uZ} (hf : Fr [70] [] g0 g3) (h : GC_X12_leavesOnly_4 g3 = some zr) : Fr [70] [] g0 zr := by
  unfold GC_X12_leavesOnly_4 at h
  cases h
  exact hf
theorem fF_X12_leavesOnly {g0 : uZ} {a1 : Int} {a2 : Int} {g : uZ} {zr : uZ} (hf : Fr [70] [] g0 g) (h : GF_X12_leavesOnly a1 a2 g = some zr) : Fr [70] [] g0 zr := by
  unfold GF_X12_leavesOnly at h
  obtain ⟨z, hz, h⟩ := lp_x (P := (fun q => fp_0 [70] [] g0 q)) (Q := (fun q => Fr [70] [] g0 q)) h hf (fun q r hq h => by have h9 := fB_X12_leavesOnly_3 hq h; rcases r with r | r <;> exact h9)
  exact fC_X12_leavesOnly_4 hz h
theorem fJ_X12_laysCosts_4 {g0 : uZ} {w2 : Int} {w6 : Int} {g7 : uZ} {v18 : Int} {zr : ((Int × uZ) ⊕ uZ)} (hf : Fr [68] [(55, 23)] g0 g7) (h : GJ_X12_laysCosts_4 w2 w6 g7 v18 = some zr) : fp_1 [68] [(55, 23)] g0 zr := by
  unfold GJ_X12_laysCosts_4 at h
  obtain ⟨_, hf1, h⟩ := wrZ_f hf (by decide) h
  obtain ⟨_, h⟩ := lt_x h
  cases h
  exact hf1
theorem fJ_X12_laysCosts_3 {g0 : uZ} {w2 : Int} {w6 : Int} {g7 : uZ} {zr : ((Int × uZ) ⊕ uZ)} (hf : Fr [68] [(55, 23)] g0 g7) (h : GJ_X12_laysCosts_3 w2 w6 g7 = some zr) : fp_1 [68] [(55, 23)] g0 zr := by
  unfold GJ_X12_laysCosts_3 at h
  exact fJ_X12_laysCosts_4 hf h
theorem fJ_X12_laysCosts_5 {g0 : uZ} {w2 : Int} {w6 : Int} {g7 : uZ} {v13 : Int} {zr : ((Int × uZ) ⊕ uZ)} (hf : Fr [68] [(55, 23)] g0 g7) (h : GJ_X12_laysCosts_5 w2 w6 g7 v13 = some zr) : fp_1 [68] [(55, 23)] g0 zr := by
  unfold GJ_X12_laysCosts_5 at h
  obtain ⟨_, h⟩ := rdZ_x h
  replace h := (ck_e h).2
  rcases it_x h with h | h
  · skip
    replace h := (ck_e h).2
    rcases it_x h with h | h
    · skip
      exact fJ_X12_laysCosts_3 hf h
    · skip
      obtain ⟨_, hc, h⟩ := cp_e h
      clear hc
      exact fJ_X12_laysCosts_4 hf h
  · skip
    exact fJ_X12_laysCosts_3 hf h
theorem fB_X12_laysCosts_6 {g0 : uZ} {a1 : Int} {w2 : Int} {w6 : Int} {g7 : uZ} {zr : ((Int × uZ) ⊕ uZ)} (hf : Fr [68] [(55, 23)] g0 g7) (h : GB_X12_laysCosts_6 a1 w2 w6 g7 = some zr) : fp_1 [68] [(55, 23)] g0 zr := by
  unfold GB_X12_laysCosts_6 at h
  obtain ⟨_, h⟩ := rdZ_x h
  replace h := (ck_e h).2
  replace h := (ck_e h).2
  rcases it_x h with h | h
  · skip
    cases h
    exact hf
  · skip
    replace h := (ck_e h).2
    replace h := (ck_e h).2
    rcases it_x h with h | h
    · skip
      exact fJ_X12_laysCosts_5 hf h
    · skip
      obtain ⟨_, hc, h⟩ := cp_e h
      clear hc
      exact fJ_X12_laysCosts_5 hf h
theorem fC_X12_laysCosts_7 {g0 : uZ} {w2 : Int} {g8 : uZ} {zr : ((Int × uZ) ⊕ uZ)} (hf : Fr [68] [(55, 23)] g0 g8) (h : GC_X12_laysCosts_7 w2 g8 = some zr) : fp_1 [68] [(55, 23)] g0 zr := by
  unfold GC_X12_laysCosts_7 at h
  obtain ⟨_, h⟩ := lt_x h
  cases h
  exact hf
theorem fB_X12_laysCosts_8 {g0 : uZ} {a1 : Int} {w2 : Int} {g3 : uZ} {zr : ((Int × uZ) ⊕ uZ)} (hf : Fr [68] [(55, 23)] g0 g3) (h : GB_X12_laysCosts_8 a1 w2 g3 = some zr) : fp_1 [68] [(55, 23)] g0 zr := by
  unfold GB_X12_laysCosts_8 at h
  replace h := (ck_e h).2
  rcases it_x h with h | h
  · skip
    cases h
    exact hf
  · skip
    obtain ⟨z, hz, h⟩ := lp_x (P := (fun q => fp_0 [68] [(55, 23)] g0 q)) (Q := (fun q => Fr [68] [(55, 23)] g0 q)) h hf (fun q r hq h => by have h9 := fB_X12_laysCosts_6 hq h; rcases r with r | r <;> exact h9)
    exact fC_X12_laysCosts_7 hz h
theorem fC_X12_laysCosts_9 {g0 : uZ} {g4 : uZ} {zr : uZ} (hf : Fr [68] [(55, 23)] g0 g4) (h : GC_X12_laysCosts_9 g4 = some zr) : Fr [68] [(55, 23)] g0 zr := by
  unfold GC_X12_laysCosts_9 at h
  cases h
  exact hf
theorem fF_X12_laysCosts {g0 : uZ} {a1 : Int} {g : uZ} {zr : uZ} (hf : Fr [68] [(55, 23)] g0 g) (h : GF_X12_laysCosts a1 g = some zr) : Fr [68] [(55, 23)] g0 zr := by
  unfold GF_X12_laysCosts at h
  obtain ⟨_, hf1, h⟩ := pfZ_f hf (by decide) h
  obtain ⟨z, hz, h⟩ := lp_x (P := (fun q => fp_0 [68] [(55, 23)] g0 q)) (Q := (fun q => Fr [68] [(55, 23)] g0 q)) h hf1 (fun q r hq h => by have h9 := fB_X12_laysCosts_8 hq h; rcases r with r | r <;> exact h9)
  exact fC_X12_laysCosts_9 hz h
theorem fC_X12_goesAlong_4 {g0 : uZ} {w3 : Int} {g4 : uZ} {v8 : Int} {zr : ((Int × (Int × uZ)) ⊕ uZ)} (hf : Fr [69] [] g0 g4) (h : GC_X12_goesAlong_4 w3 g4 v8 = some zr) : fp_3 [69] [] g0 zr := by
  unfold GC_X12_goesAlong_4 at h
  obtain ⟨_, hf1, h⟩ := wrZ_f hf (by decide) h
  obtain ⟨_, h⟩ := rdZ_x h
  obtain ⟨_, hc, h⟩ := cp_e h
  clear hc
  obtain ⟨_, h⟩ := lt_x h
  obtain ⟨_, h⟩ := lt_x h
  cases h
  exact hf1
theorem fB_X12_goesAlong_5 {g0 : uZ} {w2 : Int} {w3 : Int} {g4 : uZ} {zr : ((Int × (Int × uZ)) ⊕ uZ)} (hf : Fr [69] [] g0 g4) (h : GB_X12_goesAlong_5 w2 w3 g4 = some zr) : fp_3 [69] [] g0 zr := by
  unfold GB_X12_goesAlong_5 at h
  replace h := (ck_e h).2
  replace h := (ck_e h).2
  rcases it_x h with h | h
  · skip
    cases h
    exact hf
  · skip
    obtain ⟨z, hz, h⟩ := lp_x (P := (fun _ => True)) (Q := (fun _ => True)) h trivial (fun q r hq h => by rcases r with r | r <;> trivial)
    exact fC_X12_goesAlong_4 hf h
theorem fC_X12_goesAlong_6 {g0 : uZ} {g5 : uZ} {zr : uZ} (hf : Fr [69] [] g0 g5) (h : GC_X12_goesAlong_6 g5 = some zr) : Fr [69] [] g0 zr := by
  unfold GC_X12_goesAlong_6 at h
  cases h
  exact hf
theorem fF_X12_goesAlong {g0 : uZ} {g : uZ} {zr : uZ} (hf : Fr [69] [] g0 g) (h : GF_X12_goesAlong g = some zr) : Fr [69] [] g0 zr := by
  unfold GF_X12_goesAlong at h
  obtain ⟨_, hc, h⟩ := cp_e h
  clear hc
  obtain ⟨z, hz, h⟩ := lp_x (P := (fun q => fp_2 [69] [] g0 q)) (Q := (fun q => Fr [69] [] g0 q)) h hf (fun q r hq h => by have h9 := fB_X12_goesAlong_5 hq h; rcases r with r | r <;> exact h9)
  exact fC_X12_goesAlong_6 hz h
theorem fF_X12_laysPath {g0 : uZ} {g : uZ} {zr : uZ} (hf : Fr [62, 63, 64, 65, 66, 67, 68, 69, 70] [(55, 17), (55, 21), (55, 22), (55, 23)] g0 g) (h : GF_X12_laysPath g = some zr) : Fr [62, 63, 64, 65, 66, 67, 68, 69, 70] [(55, 17), (55, 21), (55, 22), (55, 23)] g0 zr := by
  unfold GF_X12_laysPath at h
  obtain ⟨_, hc, h⟩ := cp_e h
  have hf1 := Fr.tr hf (fF_X12_laysAll Fr.rf hc) (by decide) (by decide)
  clear hc
  obtain ⟨_, hc, h⟩ := cp_e h
  have hf2 := Fr.tr hf1 (fF_X12_opens Fr.rf hc) (by decide) (by decide)
  clear hc
  obtain ⟨_, hc, h⟩ := cp_e h
  have hf3 := Fr.tr hf2 (fF_X12_laysCosts Fr.rf hc) (by decide) (by decide)
  clear hc
  obtain ⟨_, hc, h⟩ := cp_e h
  have hf4 := Fr.tr hf3 (fF_X12_goesAlong Fr.rf hc) (by decide) (by decide)
  clear hc
  cases h
  exact hf4
theorem fC_X12_cost_3 {g0 : uZ} {g6 : uZ} {v10 : Int} {zr : (Int × uZ)} (hf : Fr [62, 63, 64, 65, 66, 67, 68, 69, 70] [(55, 9), (55, 17), (55, 21), (55, 22), (55, 23)] g0 g6) (h : GC_X12_cost_3 g6 v10 = some zr) : fp_0 [62, 63, 64, 65, 66, 67, 68, 69, 70] [(55, 9), (55, 17), (55, 21), (55, 22), (55, 23)] g0 zr := by
  unfold GC_X12_cost_3 at h
  cases h
  exact hf
theorem fF_X12_cost {g0 : uZ} {a1 : Int} {g : uZ} {zr : (Int × uZ)} (hf : Fr [62, 63, 64, 65, 66, 67, 68, 69, 70] [(55, 9), (55, 17), (55, 21), (55, 22), (55, 23)] g0 g) (h : GF_X12_cost a1 g = some zr) : fp_0 [62, 63, 64, 65, 66, 67, 68, 69, 70] [(55, 9), (55, 17), (55, 21), (55, 22), (55, 23)] g0 zr := by
  unfold GF_X12_cost at h
  obtain ⟨_, hf1, h⟩ := pfZ_f hf (by decide) h
  obtain ⟨_, hc, h⟩ := cp_e h
  clear hc
  obtain ⟨_, _, hc, h⟩ := clZ_x h
  have hf2 := Fr.tr hf1 (fF_X12_right Fr.rf hc) (by decide) (by decide)
  clear hc
  replace h := (ck_e h).2
  rcases it_x h with h | h
  · skip
    cases h
    exact hf2
  · skip
    obtain ⟨_, hc, h⟩ := cp_e h
    have hf3 := Fr.tr hf2 (fF_X12_laysPath Fr.rf hc) (by decide) (by decide)
    clear hc
    replace h := (ck_e h).2
    rcases it_x h with h | h
    · skip
      obtain ⟨_, hc, h⟩ := cp_e h
      clear hc
      cases h
      exact hf3
    · skip
      obtain ⟨z, hz, h⟩ := lp_x (P := (fun _ => True)) (Q := (fun _ => True)) h trivial (fun q r hq h => by rcases r with r | r <;> trivial)
      exact fC_X12_cost_3 hf3 h
theorem fF_X12_path {g0 : uZ} {a1 : Int} {g : uZ} {zr : (Int × uZ)} (hf : Fr [62, 63, 64, 65, 66, 67, 68, 69, 70] [(55, 9), (55, 17), (55, 21), (55, 22), (55, 23)] g0 g) (h : GF_X12_path a1 g = some zr) : fp_0 [62, 63, 64, 65, 66, 67, 68, 69, 70] [(55, 9), (55, 17), (55, 21), (55, 22), (55, 23)] g0 zr := by
  unfold GF_X12_path at h
  obtain ⟨_, hf1, h⟩ := pfZ_f hf (by decide) h
  obtain ⟨_, _, hc, h⟩ := clZ_x h
  have hf2 := Fr.tr hf1 (fF_X12_isFrame Fr.rf hc) (by decide) (by decide)
  clear hc
  replace h := (ck_e h).2
  rcases it_x h with h | h
  · skip
    cases h
    exact hf2
  · skip
    obtain ⟨_, hc, h⟩ := cp_e h
    have hf3 := Fr.tr hf2 (fF_X12_laysPath Fr.rf hc) (by decide) (by decide)
    clear hc
    obtain ⟨_, h⟩ := rdZ_x h
    cases h
    exact hf3
theorem fF_X12_lag {g0 : uZ} {a1 : Int} {g : uZ} {zr : (Int × uZ)} (hf : Fr [62, 63, 64, 65, 66, 67, 68, 69, 70] [(55, 9), (55, 17), (55, 21), (55, 22), (55, 23)] g0 g) (h : GF_X12_lag a1 g = some zr) : fp_0 [62, 63, 64, 65, 66, 67, 68, 69, 70] [(55, 9), (55, 17), (55, 21), (55, 22), (55, 23)] g0 zr := by
  unfold GF_X12_lag at h
  obtain ⟨_, hf1, h⟩ := pfZ_f hf (by decide) h
  obtain ⟨_, _, hc, h⟩ := clZ_x h
  have hf2 := Fr.tr hf1 (fF_X12_isFrame Fr.rf hc) (by decide) (by decide)
  clear hc
  replace h := (ck_e h).2
  rcases it_x h with h | h
  · skip
    cases h
    exact hf2
  · skip
    obtain ⟨_, hc, h⟩ := cp_e h
    have hf3 := Fr.tr hf2 (fF_X12_laysPath Fr.rf hc) (by decide) (by decide)
    clear hc
    obtain ⟨_, hc, h⟩ := cp_e h
    clear hc
    cases h
    exact hf3
theorem fF_X12_through {g0 : uZ} {a1 : Int} {a2 : Int} {g : uZ} {zr : (Int × uZ)} (hf : Fr [62, 63, 64, 65, 66, 67, 68, 70] [(55, 9), (55, 17), (55, 21), (55, 22), (55, 23)] g0 g) (h : GF_X12_through a1 a2 g = some zr) : fp_0 [62, 63, 64, 65, 66, 67, 68, 70] [(55, 9), (55, 17), (55, 21), (55, 22), (55, 23)] g0 zr := by
  unfold GF_X12_through at h
  obtain ⟨_, hf1, h⟩ := pfZ_f hf (by decide) h
  obtain ⟨_, _, hc, h⟩ := clZ_x h
  have hf2 := Fr.tr hf1 (fF_X12_isCandidate Fr.rf hc) (by decide) (by decide)
  clear hc
  replace h := (ck_e h).2
  rcases it_x h with h | h
  · skip
    cases h
    exact hf2
  · skip
    obtain ⟨_, hc, h⟩ := cp_e h
    have hf3 := Fr.tr hf2 (fF_X12_laysAll Fr.rf hc) (by decide) (by decide)
    clear hc
    obtain ⟨_, hc, h⟩ := cp_e h
    have hf4 := Fr.tr hf3 (fF_X12_opens Fr.rf hc) (by decide) (by decide)
    clear hc
    obtain ⟨_, hc, h⟩ := cp_e h
    have hf5 := Fr.tr hf4 (fF_X12_leavesOnly Fr.rf hc) (by decide) (by decide)
    clear hc
    obtain ⟨_, hc, h⟩ := cp_e h
    have hf6 := Fr.tr hf5 (fF_X12_laysCosts Fr.rf hc) (by decide) (by decide)
    clear hc
    obtain ⟨_, hc, h⟩ := cp_e h
    clear hc
    cases h
    exact hf6
theorem fJ_X12_both_1 {g0 : uZ} {g19 : uZ} {zr : (Int × uZ)} (hf : Fr [62, 63, 64, 65, 66, 67, 68, 70] [(55, 9), (55, 17), (55, 21), (55, 22), (55, 23)] g0 g19) (h : GJ_X12_both_1 g19 = some zr) : fp_0 [62, 63, 64, 65, 66, 67, 68, 70] [(55, 9), (55, 17), (55, 21), (55, 22), (55, 23)] g0 zr := by
  unfold GJ_X12_both_1 at h
  cases h
  exact hf
theorem fF_X12_both {g0 : uZ} {a1 : Int} {a2 : Int} {a3 : Int} {a4 : Int} {g : uZ} {zr : (Int × uZ)} (hf : Fr [62, 63, 64, 65, 66, 67, 68, 70] [(55, 9), (55, 17), (55, 21), (55, 22), (55, 23)] g0 g) (h : GF_X12_both a1 a2 a3 a4 g = some zr) : fp_0 [62, 63, 64, 65, 66, 67, 68, 70] [(55, 9), (55, 17), (55, 21), (55, 22), (55, 23)] g0 zr := by
  unfold GF_X12_both at h
  obtain ⟨_, hf1, h⟩ := pfZ_f hf (by decide) h
  obtain ⟨_, _, hc, h⟩ := clZ_x h
  have hf2 := Fr.tr hf1 (fF_X12_isCandidate Fr.rf hc) (by decide) (by decide)
  clear hc
  replace h := (ck_e h).2
  rcases it_x h with h | h
  · skip
    exact fJ_X12_both_1 hf2 h
  · skip
    obtain ⟨_, _, hc, h⟩ := clZ_x h
    have hf3 := Fr.tr hf2 (fF_X12_isCandidate Fr.rf hc) (by decide) (by decide)
    clear hc
    replace h := (ck_e h).2
    rcases it_x h with h | h
    · skip
      exact fJ_X12_both_1 hf3 h
    · skip
      replace h := (ck_e h).2
      replace h := (ck_e h).2
      obtain ⟨_, h⟩ := lt_x h
      obtain ⟨_, _, hc, h⟩ := clZ_x h
      have hf4 := Fr.tr hf3 (fF_X12_right Fr.rf hc) (by decide) (by decide)
      clear hc
      replace h := (ck_e h).2
      rcases it_x h with h | h
      · skip
        exact fJ_X12_both_1 hf4 h
      · skip
        obtain ⟨_, hc, h⟩ := cp_e h
        have hf5 := Fr.tr hf4 (fF_X12_laysAll Fr.rf hc) (by decide) (by decide)
        clear hc
        obtain ⟨_, hc, h⟩ := cp_e h
        have hf6 := Fr.tr hf5 (fF_X12_opens Fr.rf hc) (by decide) (by decide)
        clear hc
        obtain ⟨_, hc, h⟩ := cp_e h
        have hf7 := Fr.tr hf6 (fF_X12_leavesOnly Fr.rf hc) (by decide) (by decide)
        clear hc
        obtain ⟨_, hc, h⟩ := cp_e h
        have hf8 := Fr.tr hf7 (fF_X12_leavesOnly Fr.rf hc) (by decide) (by decide)
        clear hc
        obtain ⟨_, hc, h⟩ := cp_e h
        have hf9 := Fr.tr hf8 (fF_X12_laysCosts Fr.rf hc) (by decide) (by decide)
        clear hc
        obtain ⟨_, hc, h⟩ := cp_e h
        clear hc
        cases h
        exact hf9
theorem fB_X12_single_3 {g0 : uZ} {w4 : Int} {w8 : Int} {g9 : uZ} {zr : ((Int × uZ) ⊕ uZ)} (hf : Fr [62, 63, 64, 65, 66, 67, 68, 70] [(55, 9), (55, 17), (55, 21), (55, 22), (55, 23)] g0 g9) (h : GB_X12_single_3 w4 w8 g9 = some zr) : fp_1 [62, 63, 64, 65, 66, 67, 68, 70] [(55, 9), (55, 17), (55, 21), (55, 22), (55, 23)] g0 zr := by
  unfold GB_X12_single_3 at h
  obtain ⟨_, h⟩ := rdZ_x h
  replace h := (ck_e h).2
  replace h := (ck_e h).2
  rcases it_x h with h | h
  · skip
    cases h
    exact hf
  · skip
    obtain ⟨_, hc, h⟩ := cp_e h
    clear hc
    replace h := (ck_e h).2
    obtain ⟨_, h⟩ := lt_x h
    obtain ⟨_, hf1, h⟩ := wrZ_f hf (by decide) h
    obtain ⟨_, h⟩ := lt_x h
    cases h
    exact hf1
theorem fC_X12_single_4 {g0 : uZ} {w4 : Int} {g10 : uZ} {zr : ((Int × uZ) ⊕ uZ)} (hf : Fr [62, 63, 64, 65, 66, 67, 68, 70] [(55, 9), (55, 17), (55, 21), (55, 22), (55, 23)] g0 g10) (h : GC_X12_single_4 w4 g10 = some zr) : fp_1 [62, 63, 64, 65, 66, 67, 68, 70] [(55, 9), (55, 17), (55, 21), (55, 22), (55, 23)] g0 zr := by
  unfold GC_X12_single_4 at h
  obtain ⟨_, h⟩ := lt_x h
  cases h
  exact hf
theorem fB_X12_single_5 {g0 : uZ} {w4 : Int} {g5 : uZ} {zr : ((Int × uZ) ⊕ uZ)} (hf : Fr [62, 63, 64, 65, 66, 67, 68, 70] [(55, 9), (55, 17), (55, 21), (55, 22), (55, 23)] g0 g5) (h : GB_X12_single_5 w4 g5 = some zr) : fp_1 [62, 63, 64, 65, 66, 67, 68, 70] [(55, 9), (55, 17), (55, 21), (55, 22), (55, 23)] g0 zr := by
  unfold GB_X12_single_5 at h
  replace h := (ck_e h).2
  replace h := (ck_e h).2
  rcases it_x h with h | h
  · skip
    cases h
    exact hf
  · skip
    obtain ⟨z, hz, h⟩ := lp_x (P := (fun q => fp_0 [62, 63, 64, 65, 66, 67, 68, 70] [(55, 9), (55, 17), (55, 21), (55, 22), (55, 23)] g0 q)) (Q := (fun q => Fr [62, 63, 64, 65, 66, 67, 68, 70] [(55, 9), (55, 17), (55, 21), (55, 22), (55, 23)] g0 q)) h hf (fun q r hq h => by have h9 := fB_X12_single_3 hq h; rcases r with r | r <;> exact h9)
    exact fC_X12_single_4 hz h
theorem fC_X12_single_6 {g0 : uZ} {g6 : uZ} {zr : (Int × uZ)} (hf : Fr [62, 63, 64, 65, 66, 67, 68, 70] [(55, 9), (55, 17), (55, 21), (55, 22), (55, 23)] g0 g6) (h : GC_X12_single_6 g6 = some zr) : fp_0 [62, 63, 64, 65, 66, 67, 68, 70] [(55, 9), (55, 17), (55, 21), (55, 22), (55, 23)] g0 zr := by
  unfold GC_X12_single_6 at h
  obtain ⟨_, hc, h⟩ := cp_e h
  have hf1 := Fr.tr hf (fF_X12_laysCosts Fr.rf hc) (by decide) (by decide)
  clear hc
  obtain ⟨_, hc, h⟩ := cp_e h
  clear hc
  cases h
  exact hf1
theorem fF_X12_single {g0 : uZ} {g : uZ} {zr : (Int × uZ)} (hf : Fr [62, 63, 64, 65, 66, 67, 68, 70] [(55, 9), (55, 17), (55, 21), (55, 22), (55, 23)] g0 g) (h : GF_X12_single g = some zr) : fp_0 [62, 63, 64, 65, 66, 67, 68, 70] [(55, 9), (55, 17), (55, 21), (55, 22), (55, 23)] g0 zr := by
  unfold GF_X12_single at h
  obtain ⟨_, hf1, h⟩ := pfZ_f hf (by decide) h
  obtain ⟨_, hc, h⟩ := cp_e h
  have hf2 := Fr.tr hf1 (fF_X12_laysAll Fr.rf hc) (by decide) (by decide)
  clear hc
  obtain ⟨_, hc, h⟩ := cp_e h
  have hf3 := Fr.tr hf2 (fF_X12_opens Fr.rf hc) (by decide) (by decide)
  clear hc
  obtain ⟨z, hz, h⟩ := lp_x (P := (fun q => fp_0 [62, 63, 64, 65, 66, 67, 68, 70] [(55, 9), (55, 17), (55, 21), (55, 22), (55, 23)] g0 q)) (Q := (fun q => Fr [62, 63, 64, 65, 66, 67, 68, 70] [(55, 9), (55, 17), (55, 21), (55, 22), (55, 23)] g0 q)) h hf3 (fun q r hq h => by have h9 := fB_X12_single_5 hq h; rcases r with r | r <;> exact h9)
  exact fC_X12_single_6 hz h
theorem fF_X12_livesBy {g0 : uZ} {a1 : Int} {a2 : Int} {g : uZ} {zr : (Int × uZ)} (hf : Fr [68, 69] [(55, 23)] g0 g) (h : GF_X12_livesBy a1 a2 g = some zr) : fp_0 [68, 69] [(55, 23)] g0 zr := by
  unfold GF_X12_livesBy at h
  replace h := (ck_e h).2
  replace h := (ck_e h).2
  obtain ⟨_, h⟩ := lt_x h
  obtain ⟨_, hc, h⟩ := cp_e h
  have hf1 := Fr.tr hf (fF_X12_laysCosts Fr.rf hc) (by decide) (by decide)
  clear hc
  obtain ⟨_, hc, h⟩ := cp_e h
  have hf2 := Fr.tr hf1 (fF_X12_goesAlong Fr.rf hc) (by decide) (by decide)
  clear hc
  obtain ⟨_, h⟩ := rdZ_x h
  cases h
  exact hf2
theorem fJ_X12_live_1 {g0 : uZ} {g13 : uZ} {zr : (Int × uZ)} (hf : Fr [62, 63, 64, 65, 66, 67, 68, 69, 70] [(55, 9), (55, 17), (55, 21), (55, 22), (55, 23)] g0 g13) (h : GJ_X12_live_1 g13 = some zr) : fp_0 [62, 63, 64, 65, 66, 67, 68, 69, 70] [(55, 9), (55, 17), (55, 21), (55, 22), (55, 23)] g0 zr := by
  unfold GJ_X12_live_1 at h
  cases h
  exact hf
theorem fF_X12_live {g0 : uZ} {a1 : Int} {a2 : Int} {g : uZ} {zr : (Int × uZ)} (hf : Fr [62, 63, 64, 65, 66, 67, 68, 69, 70] [(55, 9), (55, 17), (55, 21), (55, 22), (55, 23)] g0 g) (h : GF_X12_live a1 a2 g = some zr) : fp_0 [62, 63, 64, 65, 66, 67, 68, 69, 70] [(55, 9), (55, 17), (55, 21), (55, 22), (55, 23)] g0 zr := by
  unfold GF_X12_live at h
  obtain ⟨_, hf1, h⟩ := pfZ_f hf (by decide) h
  obtain ⟨_, _, hc, h⟩ := clZ_x h
  have hf2 := Fr.tr hf1 (fF_X12_isFrame Fr.rf hc) (by decide) (by decide)
  clear hc
  replace h := (ck_e h).2
  rcases it_x h with h | h
  · skip
    exact fJ_X12_live_1 hf2 h
  · skip
    obtain ⟨_, hc, h⟩ := cp_e h
    clear hc
    obtain ⟨_, _, hc, h⟩ := clZ_x h
    have hf3 := Fr.tr hf2 (fF_X12_right Fr.rf hc) (by decide) (by decide)
    clear hc
    replace h := (ck_e h).2
    rcases it_x h with h | h
    · skip
      exact fJ_X12_live_1 hf3 h
    · skip
      obtain ⟨_, hc, h⟩ := cp_e h
      have hf4 := Fr.tr hf3 (fF_X12_laysAll Fr.rf hc) (by decide) (by decide)
      clear hc
      obtain ⟨_, hc, h⟩ := cp_e h
      have hf5 := Fr.tr hf4 (fF_X12_opens Fr.rf hc) (by decide) (by decide)
      clear hc
      obtain ⟨_, _, hc, h⟩ := clZ_x h
      have hf6 := Fr.tr hf5 (fF_X12_livesBy Fr.rf hc) (by decide) (by decide)
      clear hc
      cases h
      exact hf6
theorem fB_X12_settles_2 {g0 : uZ} {a1 : Int} {v8 : Int} {w9 : Int} {g10 : uZ} {zr : ((Int × uZ) ⊕ (Int × uZ))} (hf : Fr [62, 63, 64, 65, 66, 67, 68, 69, 70] [(55, 9), (55, 17), (55, 21), (55, 22), (55, 23)] g0 g10) (h : GB_X12_settles_2 a1 v8 w9 g10 = some zr) : fp_7 [62, 63, 64, 65, 66, 67, 68, 69, 70] [(55, 9), (55, 17), (55, 21), (55, 22), (55, 23)] g0 zr := by
  unfold GB_X12_settles_2 at h
  replace h := (ck_e h).2
  rcases it_x h with h | h
  · skip
    cases h
    exact hf
  · skip
    obtain ⟨_, _, hc, h⟩ := clZ_x h
    have hf1 := Fr.tr hf (fF_X12_livesBy Fr.rf hc) (by decide) (by decide)
    clear hc
    replace h := (ck_e h).2
    replace h := (ck_e h).2
    rcases it_x h with h | h
    · skip
      obtain ⟨_, h⟩ := lt_x h
      cases h
      exact hf1
    · skip
      cases h
      exact hf1
theorem fC_X12_settles_3 {g0 : uZ} {v11 : Int} {g12 : uZ} {zr : (Int × uZ)} (hf : Fr [62, 63, 64, 65, 66, 67, 68, 69, 70] [(55, 9), (55, 17), (55, 21), (55, 22), (55, 23)] g0 g12) (h : GC_X12_settles_3 v11 g12 = some zr) : fp_0 [62, 63, 64, 65, 66, 67, 68, 69, 70] [(55, 9), (55, 17), (55, 21), (55, 22), (55, 23)] g0 zr := by
  unfold GC_X12_settles_3 at h
  cases h
  exact hf
theorem fF_X12_settles {g0 : uZ} {a1 : Int} {g : uZ} {zr : (Int × uZ)} (hf : Fr [62, 63, 64, 65, 66, 67, 68, 69, 70] [(55, 9), (55, 17), (55, 21), (55, 22), (55, 23)] g0 g) (h : GF_X12_settles a1 g = some zr) : fp_0 [62, 63, 64, 65, 66, 67, 68, 69, 70] [(55, 9), (55, 17), (55, 21), (55, 22), (55, 23)] g0 zr := by
  unfold GF_X12_settles at h
  obtain ⟨_, hf1, h⟩ := pfZ_f hf (by decide) h
  obtain ⟨_, _, hc, h⟩ := clZ_x h
  have hf2 := Fr.tr hf1 (fF_X12_isFrame Fr.rf hc) (by decide) (by decide)
  clear hc
  replace h := (ck_e h).2
  rcases it_x h with h | h
  · skip
    cases h
    exact hf2
  · skip
    obtain ⟨_, hc, h⟩ := cp_e h
    have hf3 := Fr.tr hf2 (fF_X12_laysAll Fr.rf hc) (by decide) (by decide)
    clear hc
    obtain ⟨_, hc, h⟩ := cp_e h
    have hf4 := Fr.tr hf3 (fF_X12_opens Fr.rf hc) (by decide) (by decide)
    clear hc
    obtain ⟨_, _, hc, h⟩ := clZ_x h
    have hf5 := Fr.tr hf4 (fF_X12_livesBy Fr.rf hc) (by decide) (by decide)
    clear hc
    obtain ⟨z, hz, h⟩ := lp_x (P := (fun q => fp_0 [62, 63, 64, 65, 66, 67, 68, 69, 70] [(55, 9), (55, 17), (55, 21), (55, 22), (55, 23)] g0 q)) (Q := (fun q => fp_0 [62, 63, 64, 65, 66, 67, 68, 69, 70] [(55, 9), (55, 17), (55, 21), (55, 22), (55, 23)] g0 q)) h hf5 (fun q r hq h => by have h9 := fB_X12_settles_2 hq h; rcases r with r | r <;> exact h9)
    exact fC_X12_settles_3 hz h
theorem fJ_X12_would_2 {g0 : uZ} {a1 : Int} {a2 : Int} {g1 : uZ} {v6 : Int} {zr : (Int × uZ)} (hf : Fr [62, 63, 64, 65, 66, 67, 68, 70] [(55, 9), (55, 17), (55, 21), (55, 22), (55, 23)] g0 g1) (h : GJ_X12_would_2 a1 a2 g1 v6 = some zr) : fp_0 [62, 63, 64, 65, 66, 67, 68, 70] [(55, 9), (55, 17), (55, 21), (55, 22), (55, 23)] g0 zr := by
  unfold GJ_X12_would_2 at h
  obtain ⟨_, _, hc, h⟩ := clZ_x h
  have hf1 := Fr.tr hf (fF_X12_right Fr.rf hc) (by decide) (by decide)
  clear hc
  replace h := (ck_e h).2
  rcases it_x h with h | h
  · skip
    cases h
    exact hf1
  · skip
    obtain ⟨_, hc, h⟩ := cp_e h
    have hf2 := Fr.tr hf1 (fF_X12_laysAll Fr.rf hc) (by decide) (by decide)
    clear hc
    obtain ⟨_, hc, h⟩ := cp_e h
    have hf3 := Fr.tr hf2 (fF_X12_opens Fr.rf hc) (by decide) (by decide)
    clear hc
    obtain ⟨_, hf4, h⟩ := pfZ_f hf3 (by decide) h
    obtain ⟨_, hf5, h⟩ := pfZ_f hf4 (by decide) h
    obtain ⟨_, hc, h⟩ := cp_e h
    have hf6 := Fr.tr hf5 (fF_X12_laysCosts Fr.rf hc) (by decide) (by decide)
    clear hc
    obtain ⟨_, hc, h⟩ := cp_e h
    clear hc
    cases h
    exact hf6
theorem fJ_X12_would_1 {g0 : uZ} {a1 : Int} {a2 : Int} {g1 : uZ} {zr : (Int × uZ)} (hf : Fr [62, 63, 64, 65, 66, 67, 68, 70] [(55, 9), (55, 17), (55, 21), (55, 22), (55, 23)] g0 g1) (h : GJ_X12_would_1 a1 a2 g1 = some zr) : fp_0 [62, 63, 64, 65, 66, 67, 68, 70] [(55, 9), (55, 17), (55, 21), (55, 22), (55, 23)] g0 zr := by
  unfold GJ_X12_would_1 at h
  exact fJ_X12_would_2 hf h
theorem fF_X12_would {g0 : uZ} {a1 : Int} {a2 : Int} {g : uZ} {zr : (Int × uZ)} (hf : Fr [62, 63, 64, 65, 66, 67, 68, 70] [(55, 9), (55, 17), (55, 21), (55, 22), (55, 23)] g0 g) (h : GF_X12_would a1 a2 g = some zr) : fp_0 [62, 63, 64, 65, 66, 67, 68, 70] [(55, 9), (55, 17), (55, 21), (55, 22), (55, 23)] g0 zr := by
  unfold GF_X12_would at h
  obtain ⟨_, hf1, h⟩ := pfZ_f hf (by decide) h
  obtain ⟨_, hc, h⟩ := cp_e h
  clear hc
  replace h := (ck_e h).2
  rcases it_x h with h | h
  · skip
    exact fJ_X12_would_1 hf1 h
  · skip
    obtain ⟨_, hc, h⟩ := cp_e h
    clear hc
    replace h := (ck_e h).2
    rcases it_x h with h | h
    · skip
      exact fJ_X12_would_1 hf1 h
    · skip
      exact fJ_X12_would_2 hf1 h
theorem fC_X12_doubled_3 {g0 : uZ} {g2 : uZ} {v5 : Int} {zr : (Int × uZ)} (hf : Fr [62, 63, 64, 65, 66, 67, 68, 69, 70] [(55, 9), (55, 17), (55, 21), (55, 22), (55, 23)] g0 g2) (h : GC_X12_doubled_3 g2 v5 = some zr) : fp_0 [62, 63, 64, 65, 66, 67, 68, 69, 70] [(55, 9), (55, 17), (55, 21), (55, 22), (55, 23)] g0 zr := by
  unfold GC_X12_doubled_3 at h
  cases h
  exact hf
theorem fF_X12_doubled {g0 : uZ} {g : uZ} {zr : (Int × uZ)} (hf : Fr [62, 63, 64, 65, 66, 67, 68, 69, 70] [(55, 9), (55, 17), (55, 21), (55, 22), (55, 23)] g0 g) (h : GF_X12_doubled g = some zr) : fp_0 [62, 63, 64, 65, 66, 67, 68, 69, 70] [(55, 9), (55, 17), (55, 21), (55, 22), (55, 23)] g0 zr := by
  unfold GF_X12_doubled at h
  obtain ⟨_, hf1, h⟩ := pfZ_f hf (by decide) h
  obtain ⟨_, hc, h⟩ := cp_e h
  have hf2 := Fr.tr hf1 (fF_X12_laysPath Fr.rf hc) (by decide) (by decide)
  clear hc
  obtain ⟨z, hz, h⟩ := lp_x (P := (fun _ => True)) (Q := (fun _ => True)) h trivial (fun q r hq h => by rcases r with r | r <;> trivial)
  exact fC_X12_doubled_3 hf2 h
theorem fB_X12_ranks_4 {g0 : uZ} {a1 : Int} {a2 : Int} {v4 : Int} {w15 : Int} {g16 : uZ} {zr : ((Int × uZ) ⊕ uZ)} (hf : Fr [71, 72, 73, 74] [] g0 g16) (h : GB_X12_ranks_4 a1 a2 v4 w15 g16 = some zr) : fp_1 [71, 72, 73, 74] [] g0 zr := by
  unfold GB_X12_ranks_4 at h
  replace h := (ck_e h).2
  replace h := (ck_e h).2
  rcases it_x h with h | h
  · skip
    cases h
    exact hf
  · skip
    obtain ⟨_, hc, h⟩ := cp_e h
    clear hc
    obtain ⟨_, hc, h⟩ := cp_e h
    clear hc
    obtain ⟨_, h⟩ := rdZ_x h
    obtain ⟨_, hf1, h⟩ := wrZ_f hf (by decide) h
    obtain ⟨_, hc, h⟩ := cp_e h
    clear hc
    obtain ⟨_, hc, h⟩ := cp_e h
    clear hc
    obtain ⟨_, h⟩ := rdZ_x h
    obtain ⟨_, hf2, h⟩ := wrZ_f hf1 (by decide) h
    obtain ⟨_, hc, h⟩ := cp_e h
    clear hc
    obtain ⟨_, hc, h⟩ := cp_e h
    clear hc
    obtain ⟨_, h⟩ := rdZ_x h
    obtain ⟨_, hf3, h⟩ := wrZ_f hf2 (by decide) h
    obtain ⟨_, h⟩ := lt_x h
    cases h
    exact hf3
theorem fC_X12_ranks_5 {g0 : uZ} {a1 : Int} {a2 : Int} {a3 : Int} {a4 : Int} {a5 : Int} {v1 : Int} {v4 : Int} {v14 : Int} {g17 : uZ} {zr : uZ} (hf : Fr [71, 72, 73, 74] [] g0 g17) (h : GC_X12_ranks_5 a1 a2 a3 a4 a5 v1 v4 v14 g17 = some zr) : Fr [71, 72, 73, 74] [] g0 zr := by
  unfold GC_X12_ranks_5 at h
  obtain ⟨_, hc, h⟩ := cp_e h
  clear hc
  obtain ⟨_, hf1, h⟩ := wrZ_f hf (by decide) h
  obtain ⟨_, hc, h⟩ := cp_e h
  clear hc
  obtain ⟨_, hf2, h⟩ := wrZ_f hf1 (by decide) h
  obtain ⟨_, hc, h⟩ := cp_e h
  clear hc
  obtain ⟨_, hf3, h⟩ := wrZ_f hf2 (by decide) h
  obtain ⟨_, hf4, h⟩ := wrZ_f hf3 (by decide) h
  cases h
  exact hf4
theorem fJ_X12_ranks_6 {g0 : uZ} {a1 : Int} {a2 : Int} {a3 : Int} {a4 : Int} {a5 : Int} {v1 : Int} {v4 : Int} {g : uZ} {v14 : Int} {zr : uZ} (hf : Fr [71, 72, 73, 74] [] g0 g) (h : GJ_X12_ranks_6 a1 a2 a3 a4 a5 v1 v4 g v14 = some zr) : Fr [71, 72, 73, 74] [] g0 zr := by
  unfold GJ_X12_ranks_6 at h
  obtain ⟨z, hz, h⟩ := lp_x (P := (fun q => fp_0 [71, 72, 73, 74] [] g0 q)) (Q := (fun q => Fr [71, 72, 73, 74] [] g0 q)) h hf (fun q r hq h => by have h9 := fB_X12_ranks_4 hq h; rcases r with r | r <;> exact h9)
  exact fC_X12_ranks_5 hz h
theorem fC_X12_ranks_7 {g0 : uZ} {a1 : Int} {a2 : Int} {a3 : Int} {a4 : Int} {a5 : Int} {v1 : Int} {g : uZ} {v4 : Int} {zr : uZ} (hf : Fr [71, 72, 73, 74] [] g0 g) (h : GC_X12_ranks_7 a1 a2 a3 a4 a5 v1 g v4 = some zr) : Fr [71, 72, 73, 74] [] g0 zr := by
  unfold GC_X12_ranks_7 at h
  replace h := (ck_e h).2
  rcases it_x h with h | h
  · skip
    cases h
    exact hf
  · skip
    obtain ⟨_, h⟩ := rdZ_x h
    replace h := (ck_e h).2
    rcases it_x h with h | h
    · skip
      exact fJ_X12_ranks_6 hf h
    · skip
      obtain ⟨_, h⟩ := rdZ_x h
      exact fJ_X12_ranks_6 hf h
theorem fF_X12_ranks {g0 : uZ} {a1 : Int} {a2 : Int} {a3 : Int} {a4 : Int} {a5 : Int} {g : uZ} {zr : uZ} (hf : Fr [71, 72, 73, 74] [] g0 g) (h : GF_X12_ranks a1 a2 a3 a4 a5 g = some zr) : Fr [71, 72, 73, 74] [] g0 zr := by
  unfold GF_X12_ranks at h
  obtain ⟨_, h⟩ := lt_x h
  obtain ⟨_, h⟩ := rdZ_x h
  obtain ⟨z, hz, h⟩ := lp_x (P := (fun _ => True)) (Q := (fun _ => True)) h trivial (fun q r hq h => by rcases r with r | r <;> trivial)
  exact fC_X12_ranks_7 hf h
theorem fB_X12_ranksFrom_3 {g0 : uZ} {a1 : Int} {a2 : Int} {v10 : Int} {w3 : Int} {w11 : Int} {g12 : uZ} {zr : ((Int × uZ) ⊕ uZ)} (hf : Fr [71, 72, 73, 74] [] g0 g12) (h : GB_X12_ranksFrom_3 a1 a2 v10 w3 w11 g12 = some zr) : fp_1 [71, 72, 73, 74] [] g0 zr := by
  unfold GB_X12_ranksFrom_3 at h
  obtain ⟨_, h⟩ := rdZ_x h
  replace h := (ck_e h).2
  replace h := (ck_e h).2
  rcases it_x h with h | h
  · skip
    cases h
    exact hf
  · skip
    obtain ⟨_, hc, h⟩ := cp_e h
    clear hc
    obtain ⟨_, h⟩ := rdZ_x h
    obtain ⟨_, hc, h⟩ := cp_e h
    have hf1 := Fr.tr hf (fF_X12_ranks Fr.rf hc) (by decide) (by decide)
    clear hc
    obtain ⟨_, h⟩ := lt_x h
    cases h
    exact hf1
theorem fC_X12_ranksFrom_4 {g0 : uZ} {w3 : Int} {g13 : uZ} {zr : ((Int × uZ) ⊕ uZ)} (hf : Fr [71, 72, 73, 74] [] g0 g13) (h : GC_X12_ranksFrom_4 w3 g13 = some zr) : fp_1 [71, 72, 73, 74] [] g0 zr := by
  unfold GC_X12_ranksFrom_4 at h
  obtain ⟨_, h⟩ := lt_x h
  cases h
  exact hf
theorem fB_X12_ranksFrom_5 {g0 : uZ} {a1 : Int} {a2 : Int} {w3 : Int} {g4 : uZ} {zr : ((Int × uZ) ⊕ uZ)} (hf : Fr [71, 72, 73, 74] [] g0 g4) (h : GB_X12_ranksFrom_5 a1 a2 w3 g4 = some zr) : fp_1 [71, 72, 73, 74] [] g0 zr := by
  unfold GB_X12_ranksFrom_5 at h
  obtain ⟨_, h⟩ := rdZ_x h
  replace h := (ck_e h).2
  replace h := (ck_e h).2
  rcases it_x h with h | h
  · skip
    cases h
    exact hf
  · skip
    obtain ⟨_, hc, h⟩ := cp_e h
    clear hc
    obtain ⟨_, hc, h⟩ := cp_e h
    clear hc
    obtain ⟨_, h⟩ := lt_x h
    obtain ⟨z, hz, h⟩ := lp_x (P := (fun q => fp_0 [71, 72, 73, 74] [] g0 q)) (Q := (fun q => Fr [71, 72, 73, 74] [] g0 q)) h hf (fun q r hq h => by have h9 := fB_X12_ranksFrom_3 hq h; rcases r with r | r <;> exact h9)
    exact fC_X12_ranksFrom_4 hz h
theorem fC_X12_ranksFrom_6 {g0 : uZ} {g5 : uZ} {zr : uZ} (hf : Fr [71, 72, 73, 74] [] g0 g5) (h : GC_X12_ranksFrom_6 g5 = some zr) : Fr [71, 72, 73, 74] [] g0 zr := by
  unfold GC_X12_ranksFrom_6 at h
  cases h
  exact hf
theorem fF_X12_ranksFrom {g0 : uZ} {a1 : Int} {a2 : Int} {g : uZ} {zr : uZ} (hf : Fr [71, 72, 73, 74] [] g0 g) (h : GF_X12_ranksFrom a1 a2 g = some zr) : Fr [71, 72, 73, 74] [] g0 zr := by
  unfold GF_X12_ranksFrom at h
  obtain ⟨_, hf1, h⟩ := wrZ_f hf (by decide) h
  replace h := (ck_e h).2
  replace h := (ck_e h).2
  rcases it_x h with h | h
  · skip
    obtain ⟨_, hc, h⟩ := cp_e h
    clear hc
    obtain ⟨_, hc, h⟩ := cp_e h
    have hf2 := Fr.tr hf1 (fF_X12_ranks Fr.rf hc) (by decide) (by decide)
    clear hc
    cases h
    exact hf2
  · skip
    obtain ⟨z, hz, h⟩ := lp_x (P := (fun q => fp_0 [71, 72, 73, 74] [] g0 q)) (Q := (fun q => Fr [71, 72, 73, 74] [] g0 q)) h hf1 (fun q r hq h => by have h9 := fB_X12_ranksFrom_5 hq h; rcases r with r | r <;> exact h9)
    exact fC_X12_ranksFrom_6 hz h
theorem fB_X12_tops_4 {g0 : uZ} {v3 : Int} {w13 : Int} {g14 : uZ} {zr : ((Int × uZ) ⊕ uZ)} (hf : Fr [75, 76, 77] [(55, 31)] g0 g14) (h : GB_X12_tops_4 v3 w13 g14 = some zr) : fp_1 [75, 76, 77] [(55, 31)] g0 zr := by
  unfold GB_X12_tops_4 at h
  replace h := (ck_e h).2
  replace h := (ck_e h).2
  rcases it_x h with h | h
  · skip
    cases h
    exact hf
  · skip
    obtain ⟨_, h⟩ := rdZ_x h
    obtain ⟨_, hf1, h⟩ := wrZ_f hf (by decide) h
    obtain ⟨_, h⟩ := rdZ_x h
    obtain ⟨_, hf2, h⟩ := wrZ_f hf1 (by decide) h
    obtain ⟨_, h⟩ := rdZ_x h
    obtain ⟨_, hf3, h⟩ := wrZ_f hf2 (by decide) h
    obtain ⟨_, h⟩ := lt_x h
    cases h
    exact hf3
theorem fC_X12_tops_5 {g0 : uZ} {a1 : Int} {a2 : Int} {a3 : Int} {v3 : Int} {g15 : uZ} {zr : uZ} (hf : Fr [75, 76, 77] [(55, 31)] g0 g15) (h : GC_X12_tops_5 a1 a2 a3 v3 g15 = some zr) : Fr [75, 76, 77] [(55, 31)] g0 zr := by
  unfold GC_X12_tops_5 at h
  obtain ⟨_, hf1, h⟩ := wrZ_f hf (by decide) h
  obtain ⟨_, hf2, h⟩ := wrZ_f hf1 (by decide) h
  obtain ⟨_, hf3, h⟩ := wrZ_f hf2 (by decide) h
  cases h
  exact hf3
theorem fC_X12_tops_6 {g0 : uZ} {a1 : Int} {a2 : Int} {a3 : Int} {g : uZ} {v3 : Int} {zr : uZ} (hf : Fr [75, 76, 77] [(55, 31)] g0 g) (h : GC_X12_tops_6 a1 a2 a3 g v3 = some zr) : Fr [75, 76, 77] [(55, 31)] g0 zr := by
  unfold GC_X12_tops_6 at h
  replace h := (ck_e h).2
  rcases it_x h with h | h
  · skip
    cases h
    exact hf
  · skip
    replace h := (ck_e h).2
    obtain ⟨_, h⟩ := lt_x h
    obtain ⟨_, hf1, h⟩ := pfZ_f hf (by decide) h
    obtain ⟨_, h⟩ := lt_x h
    obtain ⟨z, hz, h⟩ := lp_x (P := (fun q => fp_0 [75, 76, 77] [(55, 31)] g0 q)) (Q := (fun q => Fr [75, 76, 77] [(55, 31)] g0 q)) h hf1 (fun q r hq h => by have h9 := fB_X12_tops_4 hq h; rcases r with r | r <;> exact h9)
    exact fC_X12_tops_5 hz h
theorem fF_X12_tops {g0 : uZ} {a1 : Int} {a2 : Int} {a3 : Int} {g : uZ} {zr : uZ} (hf : Fr [75, 76, 77] [(55, 31)] g0 g) (h : GF_X12_tops a1 a2 a3 g = some zr) : Fr [75, 76, 77] [(55, 31)] g0 zr := by
  unfold GF_X12_tops at h
  obtain ⟨_, h⟩ := lt_x h
  obtain ⟨z, hz, h⟩ := lp_x (P := (fun _ => True)) (Q := (fun _ => True)) h trivial (fun q r hq h => by rcases r with r | r <;> trivial)
  exact fC_X12_tops_6 hf h
theorem fB_X12_laysTops_3 {g0 : uZ} {w5 : Int} {w9 : Int} {g10 : uZ} {zr : ((Int × uZ) ⊕ uZ)} (hf : Fr [62, 63, 64, 65, 66, 67, 70, 71, 72, 73, 74, 75, 76, 77] [(55, 17), (55, 21), (55, 22), (55, 31)] g0 g10) (h : GB_X12_laysTops_3 w5 w9 g10 = some zr) : fp_1 [62, 63, 64, 65, 66, 67, 70, 71, 72, 73, 74, 75, 76, 77] [(55, 17), (55, 21), (55, 22), (55, 31)] g0 zr := by
  unfold GB_X12_laysTops_3 at h
  obtain ⟨_, h⟩ := rdZ_x h
  replace h := (ck_e h).2
  replace h := (ck_e h).2
  rcases it_x h with h | h
  · skip
    cases h
    exact hf
  · skip
    obtain ⟨_, hc, h⟩ := cp_e h
    have hf1 := Fr.tr hf (fF_X12_ranksFrom Fr.rf hc) (by decide) (by decide)
    clear hc
    obtain ⟨_, h⟩ := lt_x h
    cases h
    exact hf1
theorem fC_X12_laysTops_4 {g0 : uZ} {w5 : Int} {g11 : uZ} {zr : ((Int × uZ) ⊕ uZ)} (hf : Fr [62, 63, 64, 65, 66, 67, 70, 71, 72, 73, 74, 75, 76, 77] [(55, 17), (55, 21), (55, 22), (55, 31)] g0 g11) (h : GC_X12_laysTops_4 w5 g11 = some zr) : fp_1 [62, 63, 64, 65, 66, 67, 70, 71, 72, 73, 74, 75, 76, 77] [(55, 17), (55, 21), (55, 22), (55, 31)] g0 zr := by
  unfold GC_X12_laysTops_4 at h
  obtain ⟨_, h⟩ := lt_x h
  cases h
  exact hf
theorem fB_X12_laysTops_5 {g0 : uZ} {w5 : Int} {g6 : uZ} {zr : ((Int × uZ) ⊕ uZ)} (hf : Fr [62, 63, 64, 65, 66, 67, 70, 71, 72, 73, 74, 75, 76, 77] [(55, 17), (55, 21), (55, 22), (55, 31)] g0 g6) (h : GB_X12_laysTops_5 w5 g6 = some zr) : fp_1 [62, 63, 64, 65, 66, 67, 70, 71, 72, 73, 74, 75, 76, 77] [(55, 17), (55, 21), (55, 22), (55, 31)] g0 zr := by
  unfold GB_X12_laysTops_5 at h
  replace h := (ck_e h).2
  rcases it_x h with h | h
  · skip
    cases h
    exact hf
  · skip
    obtain ⟨z, hz, h⟩ := lp_x (P := (fun q => fp_0 [62, 63, 64, 65, 66, 67, 70, 71, 72, 73, 74, 75, 76, 77] [(55, 17), (55, 21), (55, 22), (55, 31)] g0 q)) (Q := (fun q => Fr [62, 63, 64, 65, 66, 67, 70, 71, 72, 73, 74, 75, 76, 77] [(55, 17), (55, 21), (55, 22), (55, 31)] g0 q)) h hf (fun q r hq h => by have h9 := fB_X12_laysTops_3 hq h; rcases r with r | r <;> exact h9)
    exact fC_X12_laysTops_4 hz h
theorem fB_X12_laysTops_8 {g0 : uZ} {w18 : Int} {w23 : Int} {g24 : uZ} {zr : ((Int × uZ) ⊕ uZ)} (hf : Fr [62, 63, 64, 65, 66, 67, 70, 71, 72, 73, 74, 75, 76, 77] [(55, 17), (55, 21), (55, 22), (55, 31)] g0 g24) (h : GB_X12_laysTops_8 w18 w23 g24 = some zr) : fp_1 [62, 63, 64, 65, 66, 67, 70, 71, 72, 73, 74, 75, 76, 77] [(55, 17), (55, 21), (55, 22), (55, 31)] g0 zr := by
  unfold GB_X12_laysTops_8 at h
  obtain ⟨_, h⟩ := rdZ_x h
  replace h := (ck_e h).2
  replace h := (ck_e h).2
  rcases it_x h with h | h
  · skip
    cases h
    exact hf
  · skip
    obtain ⟨_, hc, h⟩ := cp_e h
    clear hc
    obtain ⟨_, h⟩ := rdZ_x h
    obtain ⟨_, hc, h⟩ := cp_e h
    have hf1 := Fr.tr hf (fF_X12_tops Fr.rf hc) (by decide) (by decide)
    clear hc
    obtain ⟨_, h⟩ := lt_x h
    cases h
    exact hf1
theorem fC_X12_laysTops_9 {g0 : uZ} {w18 : Int} {g25 : uZ} {zr : ((Int × uZ) ⊕ uZ)} (hf : Fr [62, 63, 64, 65, 66, 67, 70, 71, 72, 73, 74, 75, 76, 77] [(55, 17), (55, 21), (55, 22), (55, 31)] g0 g25) (h : GC_X12_laysTops_9 w18 g25 = some zr) : fp_1 [62, 63, 64, 65, 66, 67, 70, 71, 72, 73, 74, 75, 76, 77] [(55, 17), (55, 21), (55, 22), (55, 31)] g0 zr := by
  unfold GC_X12_laysTops_9 at h
  obtain ⟨_, h⟩ := lt_x h
  cases h
  exact hf
theorem fB_X12_laysTops_10 {g0 : uZ} {w18 : Int} {g19 : uZ} {zr : ((Int × uZ) ⊕ uZ)} (hf : Fr [62, 63, 64, 65, 66, 67, 70, 71, 72, 73, 74, 75, 76, 77] [(55, 17), (55, 21), (55, 22), (55, 31)] g0 g19) (h : GB_X12_laysTops_10 w18 g19 = some zr) : fp_1 [62, 63, 64, 65, 66, 67, 70, 71, 72, 73, 74, 75, 76, 77] [(55, 17), (55, 21), (55, 22), (55, 31)] g0 zr := by
  unfold GB_X12_laysTops_10 at h
  obtain ⟨_, h⟩ := rdZ_x h
  replace h := (ck_e h).2
  replace h := (ck_e h).2
  rcases it_x h with h | h
  · skip
    cases h
    exact hf
  · skip
    obtain ⟨z, hz, h⟩ := lp_x (P := (fun q => fp_0 [62, 63, 64, 65, 66, 67, 70, 71, 72, 73, 74, 75, 76, 77] [(55, 17), (55, 21), (55, 22), (55, 31)] g0 q)) (Q := (fun q => Fr [62, 63, 64, 65, 66, 67, 70, 71, 72, 73, 74, 75, 76, 77] [(55, 17), (55, 21), (55, 22), (55, 31)] g0 q)) h hf (fun q r hq h => by have h9 := fB_X12_laysTops_8 hq h; rcases r with r | r <;> exact h9)
    exact fC_X12_laysTops_9 hz h
theorem fC_X12_laysTops_11 {g0 : uZ} {g20 : uZ} {zr : uZ} (hf : Fr [62, 63, 64, 65, 66, 67, 70, 71, 72, 73, 74, 75, 76, 77] [(55, 17), (55, 21), (55, 22), (55, 31)] g0 g20) (h : GC_X12_laysTops_11 g20 = some zr) : Fr [62, 63, 64, 65, 66, 67, 70, 71, 72, 73, 74, 75, 76, 77] [(55, 17), (55, 21), (55, 22), (55, 31)] g0 zr := by
  unfold GC_X12_laysTops_11 at h
  cases h
  exact hf
theorem fC_X12_laysTops_12 {g0 : uZ} {g7 : uZ} {zr : uZ} (hf : Fr [62, 63, 64, 65, 66, 67, 70, 71, 72, 73, 74, 75, 76, 77] [(55, 17), (55, 21), (55, 22), (55, 31)] g0 g7) (h : GC_X12_laysTops_12 g7 = some zr) : Fr [62, 63, 64, 65, 66, 67, 70, 71, 72, 73, 74, 75, 76, 77] [(55, 17), (55, 21), (55, 22), (55, 31)] g0 zr := by
  unfold GC_X12_laysTops_12 at h
  replace h := (ck_e h).2
  rcases it_x h with h | h
  · skip
    obtain ⟨_, hc, h⟩ := cp_e h
    have hf1 := Fr.tr hf (fF_X12_tops Fr.rf hc) (by decide) (by decide)
    clear hc
    cases h
    exact hf1
  · skip
    obtain ⟨z, hz, h⟩ := lp_x (P := (fun q => fp_0 [62, 63, 64, 65, 66, 67, 70, 71, 72, 73, 74, 75, 76, 77] [(55, 17), (55, 21), (55, 22), (55, 31)] g0 q)) (Q := (fun q => Fr [62, 63, 64, 65, 66, 67, 70, 71, 72, 73, 74, 75, 76, 77] [(55, 17), (55, 21), (55, 22), (55, 31)] g0 q)) h hf (fun q r hq h => by have h9 := fB_X12_laysTops_10 hq h; rcases r with r | r <;> exact h9)
    exact fC_X12_laysTops_11 hz h
theorem fF_X12_laysTops {g0 : uZ} {g : uZ} {zr : uZ} (hf : Fr [62, 63, 64, 65, 66, 67, 70, 71, 72, 73, 74, 75, 76, 77] [(55, 17), (55, 21), (55, 22), (55, 31)] g0 g) (h : GF_X12_laysTops g = some zr) : Fr [62, 63, 64, 65, 66, 67, 70, 71, 72, 73, 74, 75, 76, 77] [(55, 17), (55, 21), (55, 22), (55, 31)] g0 zr := by
  unfold GF_X12_laysTops at h
  obtain ⟨_, hc, h⟩ := cp_e h
  have hf1 := Fr.tr hf (fF_X12_laysAll Fr.rf hc) (by decide) (by decide)
  clear hc
  obtain ⟨_, hc, h⟩ := cp_e h
  have hf2 := Fr.tr hf1 (fF_X12_opens Fr.rf hc) (by decide) (by decide)
  clear hc
  obtain ⟨_, hf3, h⟩ := pfZ_f hf2 (by decide) h
  obtain ⟨_, h⟩ := lt_x h
  obtain ⟨z, hz, h⟩ := lp_x (P := (fun q => fp_0 [62, 63, 64, 65, 66, 67, 70, 71, 72, 73, 74, 75, 76, 77] [(55, 17), (55, 21), (55, 22), (55, 31)] g0 q)) (Q := (fun q => Fr [62, 63, 64, 65, 66, 67, 70, 71, 72, 73, 74, 75, 76, 77] [(55, 17), (55, 21), (55, 22), (55, 31)] g0 q)) h hf3 (fun q r hq h => by have h9 := fB_X12_laysTops_5 hq h; rcases r with r | r <;> exact h9)
  exact fC_X12_laysTops_12 hz h
theorem fJ_X12_best_1 {g0 : uZ} {g6 : uZ} {v9 : Int} {zr : (Int × uZ)} (hf : Fr [62, 63, 64, 65, 66, 67, 70, 71, 72, 73, 74, 75, 76, 77] [(55, 9), (55, 17), (55, 21), (55, 22), (55, 31)] g0 g6) (h : GJ_X12_best_1 g6 v9 = some zr) : fp_0 [62, 63, 64, 65, 66, 67, 70, 71, 72, 73, 74, 75, 76, 77] [(55, 9), (55, 17), (55, 21), (55, 22), (55, 31)] g0 zr := by
  unfold GJ_X12_best_1 at h
  cases h
  exact hf
theorem fF_X12_best {g0 : uZ} {a1 : Int} {g : uZ} {zr : (Int × uZ)} (hf : Fr [62, 63, 64, 65, 66, 67, 70, 71, 72, 73, 74, 75, 76, 77] [(55, 9), (55, 17), (55, 21), (55, 22), (55, 31)] g0 g) (h : GF_X12_best a1 g = some zr) : fp_0 [62, 63, 64, 65, 66, 67, 70, 71, 72, 73, 74, 75, 76, 77] [(55, 9), (55, 17), (55, 21), (55, 22), (55, 31)] g0 zr := by
  unfold GF_X12_best at h
  obtain ⟨_, hf1, h⟩ := pfZ_f hf (by decide) h
  obtain ⟨_, hc, h⟩ := cp_e h
  clear hc
  obtain ⟨_, _, hc, h⟩ := clZ_x h
  have hf2 := Fr.tr hf1 (fF_X12_right Fr.rf hc) (by decide) (by decide)
  clear hc
  replace h := (ck_e h).2
  rcases it_x h with h | h
  · skip
    cases h
    exact hf2
  · skip
    obtain ⟨_, hc, h⟩ := cp_e h
    have hf3 := Fr.tr hf2 (fF_X12_laysTops Fr.rf hc) (by decide) (by decide)
    clear hc
    replace h := (ck_e h).2
    replace h := (ck_e h).2
    rcases it_x h with h | h
    · skip
      exact fJ_X12_best_1 hf3 h
    · skip
      obtain ⟨_, h⟩ := rdZ_x h
      exact fJ_X12_best_1 hf3 h
theorem fC_X12_bestAt_3 {g0 : uZ} {g11 : uZ} {v18 : Int} {zr : (Int × uZ)} (hf : Fr [62, 63, 64, 65, 66, 67, 70, 71, 72, 73, 74, 75, 76, 77] [(55, 9), (55, 17), (55, 21), (55, 22), (55, 31)] g0 g11) (h : GC_X12_bestAt_3 g11 v18 = some zr) : fp_0 [62, 63, 64, 65, 66, 67, 70, 71, 72, 73, 74, 75, 76, 77] [(55, 9), (55, 17), (55, 21), (55, 22), (55, 31)] g0 zr := by
  unfold GC_X12_bestAt_3 at h
  cases h
  exact hf
theorem fJ_X12_bestAt_4 {g0 : uZ} {g24 : uZ} {zr : (Int × uZ)} (hf : Fr [62, 63, 64, 65, 66, 67, 70, 71, 72, 73, 74, 75, 76, 77] [(55, 9), (55, 17), (55, 21), (55, 22), (55, 31)] g0 g24) (h : GJ_X12_bestAt_4 g24 = some zr) : fp_0 [62, 63, 64, 65, 66, 67, 70, 71, 72, 73, 74, 75, 76, 77] [(55, 9), (55, 17), (55, 21), (55, 22), (55, 31)] g0 zr := by
  unfold GJ_X12_bestAt_4 at h
  cases h
  exact hf
theorem fF_X12_bestAt {g0 : uZ} {a1 : Int} {a2 : Int} {g : uZ} {zr : (Int × uZ)} (hf : Fr [62, 63, 64, 65, 66, 67, 70, 71, 72, 73, 74, 75, 76, 77] [(55, 9), (55, 17), (55, 21), (55, 22), (55, 31)] g0 g) (h : GF_X12_bestAt a1 a2 g = some zr) : fp_0 [62, 63, 64, 65, 66, 67, 70, 71, 72, 73, 74, 75, 76, 77] [(55, 9), (55, 17), (55, 21), (55, 22), (55, 31)] g0 zr := by
  unfold GF_X12_bestAt at h
  obtain ⟨_, hf1, h⟩ := pfZ_f hf (by decide) h
  obtain ⟨_, hc, h⟩ := cp_e h
  clear hc
  obtain ⟨_, _, hc, h⟩ := clZ_x h
  have hf2 := Fr.tr hf1 (fF_X12_right Fr.rf hc) (by decide) (by decide)
  clear hc
  replace h := (ck_e h).2
  rcases it_x h with h | h
  · skip
    exact fJ_X12_bestAt_4 hf2 h
  · skip
    obtain ⟨_, hc, h⟩ := cp_e h
    clear hc
    obtain ⟨_, hc, h⟩ := cp_e h
    clear hc
    obtain ⟨_, _, hc, h⟩ := clZ_x h
    have hf3 := Fr.tr hf2 (fF_X12_right Fr.rf hc) (by decide) (by decide)
    clear hc
    replace h := (ck_e h).2
    rcases it_x h with h | h
    · skip
      exact fJ_X12_bestAt_4 hf3 h
    · skip
      obtain ⟨_, hc, h⟩ := cp_e h
      have hf4 := Fr.tr hf3 (fF_X12_laysTops Fr.rf hc) (by decide) (by decide)
      clear hc
      replace h := (ck_e h).2
      replace h := (ck_e h).2
      rcases it_x h with h | h
      · skip
        obtain ⟨_, h⟩ := rdZ_x h
        obtain ⟨_, h⟩ := rdZ_x h
        obtain ⟨z, hz, h⟩ := lp_x (P := (fun _ => True)) (Q := (fun _ => True)) h trivial (fun q r hq h => by rcases r with r | r <;> trivial)
        exact fC_X12_bestAt_3 hf4 h
      · skip
        cases h
        exact hf4
theorem fJ_X12_laysSpans_3 {g0 : uZ} {w3 : Int} {g17 : uZ} {zr : ((Int × uZ) ⊕ uZ)} (hf : Fr [62, 63, 64, 65, 66, 67, 68, 69, 70, 78] [(55, 17), (55, 21), (55, 22), (55, 23), (55, 33)] g0 g17) (h : GJ_X12_laysSpans_3 w3 g17 = some zr) : fp_1 [62, 63, 64, 65, 66, 67, 68, 69, 70, 78] [(55, 17), (55, 21), (55, 22), (55, 23), (55, 33)] g0 zr := by
  unfold GJ_X12_laysSpans_3 at h
  obtain ⟨_, h⟩ := lt_x h
  cases h
  exact hf
theorem fJ_X12_laysSpans_2 {g0 : uZ} {w3 : Int} {g4 : uZ} {zr : ((Int × uZ) ⊕ uZ)} (hf : Fr [62, 63, 64, 65, 66, 67, 68, 69, 70, 78] [(55, 17), (55, 21), (55, 22), (55, 23), (55, 33)] g0 g4) (h : GJ_X12_laysSpans_2 w3 g4 = some zr) : fp_1 [62, 63, 64, 65, 66, 67, 68, 69, 70, 78] [(55, 17), (55, 21), (55, 22), (55, 23), (55, 33)] g0 zr := by
  unfold GJ_X12_laysSpans_2 at h
  obtain ⟨_, hf1, h⟩ := wrZ_f hf (by decide) h
  obtain ⟨_, hf2, h⟩ := pfZ_f hf1 (by decide) h
  exact fJ_X12_laysSpans_3 hf2 h
theorem fB_X12_laysSpans_4 {g0 : uZ} {w3 : Int} {g4 : uZ} {zr : ((Int × uZ) ⊕ uZ)} (hf : Fr [62, 63, 64, 65, 66, 67, 68, 69, 70, 78] [(55, 17), (55, 21), (55, 22), (55, 23), (55, 33)] g0 g4) (h : GB_X12_laysSpans_4 w3 g4 = some zr) : fp_1 [62, 63, 64, 65, 66, 67, 68, 69, 70, 78] [(55, 17), (55, 21), (55, 22), (55, 23), (55, 33)] g0 zr := by
  unfold GB_X12_laysSpans_4 at h
  replace h := (ck_e h).2
  replace h := (ck_e h).2
  rcases it_x h with h | h
  · skip
    cases h
    exact hf
  · skip
    rcases it_x h with h | h
    · skip
      exact fJ_X12_laysSpans_2 hf h
    · skip
      obtain ⟨_, hc, h⟩ := cp_e h
      clear hc
      replace h := (ck_e h).2
      obtain ⟨_, h⟩ := lt_x h
      obtain ⟨_, hc, h⟩ := cp_e h
      clear hc
      replace h := (ck_e h).2
      obtain ⟨_, h⟩ := lt_x h
      replace h := (ck_e h).2
      replace h := (ck_e h).2
      rcases it_x h with h | h
      · skip
        exact fJ_X12_laysSpans_3 hf h
      · skip
        exact fJ_X12_laysSpans_2 hf h
theorem fC_X12_laysSpans_5 {g0 : uZ} {g5 : uZ} {zr : uZ} (hf : Fr [62, 63, 64, 65, 66, 67, 68, 69, 70, 78] [(55, 17), (55, 21), (55, 22), (55, 23), (55, 33)] g0 g5) (h : GC_X12_laysSpans_5 g5 = some zr) : Fr [62, 63, 64, 65, 66, 67, 68, 69, 70, 78] [(55, 17), (55, 21), (55, 22), (55, 23), (55, 33)] g0 zr := by
  unfold GC_X12_laysSpans_5 at h
  obtain ⟨_, hf1, h⟩ := wrZ_f hf (by decide) h
  cases h
  exact hf1
theorem fF_X12_laysSpans {g0 : uZ} {g : uZ} {zr : uZ} (hf : Fr [62, 63, 64, 65, 66, 67, 68, 69, 70, 78] [(55, 17), (55, 21), (55, 22), (55, 23), (55, 33)] g0 g) (h : GF_X12_laysSpans g = some zr) : Fr [62, 63, 64, 65, 66, 67, 68, 69, 70, 78] [(55, 17), (55, 21), (55, 22), (55, 23), (55, 33)] g0 zr := by
  unfold GF_X12_laysSpans at h
  obtain ⟨_, hc, h⟩ := cp_e h
  have hf1 := Fr.tr hf (fF_X12_laysPath Fr.rf hc) (by decide) (by decide)
  clear hc
  obtain ⟨_, hf2, h⟩ := pfZ_f hf1 (by decide) h
  obtain ⟨z, hz, h⟩ := lp_x (P := (fun q => fp_0 [62, 63, 64, 65, 66, 67, 68, 69, 70, 78] [(55, 17), (55, 21), (55, 22), (55, 23), (55, 33)] g0 q)) (Q := (fun q => Fr [62, 63, 64, 65, 66, 67, 68, 69, 70, 78] [(55, 17), (55, 21), (55, 22), (55, 23), (55, 33)] g0 q)) h hf2 (fun q r hq h => by have h9 := fB_X12_laysSpans_4 hq h; rcases r with r | r <;> exact h9)
  exact fC_X12_laysSpans_5 hz h
theorem fF_X12_spans {g0 : uZ} {g : uZ} {zr : (Int × uZ)} (hf : Fr [62, 63, 64, 65, 66, 67, 68, 69, 70, 78] [(55, 9), (55, 17), (55, 21), (55, 22), (55, 23), (55, 33)] g0 g) (h : GF_X12_spans g = some zr) : fp_0 [62, 63, 64, 65, 66, 67, 68, 69, 70, 78] [(55, 9), (55, 17), (55, 21), (55, 22), (55, 23), (55, 33)] g0 zr := by
  unfold GF_X12_spans at h
  obtain ⟨_, hf1, h⟩ := pfZ_f hf (by decide) h
  obtain ⟨_, hc, h⟩ := cp_e h
  have hf2 := Fr.tr hf1 (fF_X12_laysSpans Fr.rf hc) (by decide) (by decide)
  clear hc
  cases h
  exact hf2
theorem fC_X12_laysBehind_5 {g0 : uZ} {a2 : Int} {g : uZ} {v10 : Int} {v11 : Int} {zr : uZ} (hf : Fr [86, 87] [] g0 g) (h : GC_X12_laysBehind_5 a2 g v10 v11 = some zr) : Fr [86, 87] [] g0 zr := by
  unfold GC_X12_laysBehind_5 at h
  obtain ⟨_, hf1, h⟩ := wrZ_f hf (by decide) h
  obtain ⟨_, h⟩ := rdZ_x h
  obtain ⟨_, hf2, h⟩ := wrZ_f hf1 (by decide) h
  cases h
  exact hf2
theorem fF_X12_laysBehind {g0 : uZ} {a1 : Int} {a2 : Int} {g : uZ} {zr : uZ} (hf : Fr [86, 87] [] g0 g) (h : GF_X12_laysBehind a1 a2 g = some zr) : Fr [86, 87] [] g0 zr := by
  unfold GF_X12_laysBehind at h
  obtain ⟨_, hc, h⟩ := cp_e h
  clear hc
  obtain ⟨_, h⟩ := dvZ_x h
  obtain ⟨_, h⟩ := lt_x h
  obtain ⟨_, h⟩ := dvZ_x h
  obtain ⟨_, hc, h⟩ := cp_e h
  clear hc
  obtain ⟨_, hc, h⟩ := cp_e h
  clear hc
  obtain ⟨z, hz, h⟩ := lp_x (P := (fun _ => True)) (Q := (fun _ => True)) h trivial (fun q r hq h => by rcases r with r | r <;> trivial)
  exact fC_X12_laysBehind_5 hf h
theorem fB_X12_marksOf_2 {g0 : uZ} {a1 : Int} {v1 : Int} {w4 : Int} {g5 : uZ} {zr : ((Int × uZ) ⊕ uZ)} (hf : Fr [86, 87, 88, 89, 91] [(55, 49)] g0 g5) (h : GB_X12_marksOf_2 a1 v1 w4 g5 = some zr) : fp_1 [86, 87, 88, 89, 91] [(55, 49)] g0 zr := by
  unfold GB_X12_marksOf_2 at h
  replace h := (ck_e h).2
  replace h := (ck_e h).2
  rcases it_x h with h | h
  · skip
    cases h
    exact hf
  · skip
    obtain ⟨_, hc, h⟩ := cp_e h
    have hf1 := Fr.tr hf (fF_X12_laysBehind Fr.rf hc) (by decide) (by decide)
    clear hc
    obtain ⟨_, h⟩ := lt_x h
    cases h
    exact hf1
theorem fB_X12_marksOf_6 {g0 : uZ} {a1 : Int} {w23 : Int} {g24 : uZ} {zr : ((Int × uZ) ⊕ uZ)} (hf : Fr [86, 87, 88, 89, 91] [(55, 49)] g0 g24) (h : GB_X12_marksOf_6 a1 w23 g24 = some zr) : fp_1 [86, 87, 88, 89, 91] [(55, 49)] g0 zr := by
  unfold GB_X12_marksOf_6 at h
  replace h := (ck_e h).2
  rcases it_x h with h | h
  · skip
    cases h
    exact hf
  · skip
    obtain ⟨_, hf1, h⟩ := wrZ_f hf (by decide) h
    obtain ⟨_, hf2, h⟩ := wrZ_f hf1 (by decide) h
    obtain ⟨_, hf3, h⟩ := pfZ_f hf2 (by decide) h
    obtain ⟨_, h⟩ := rdZ_x h
    cases h
    exact hf3
theorem fC_X12_marksOf_7 {g0 : uZ} {g25 : uZ} {zr : uZ} (hf : Fr [86, 87, 88, 89, 91] [(55, 49)] g0 g25) (h : GC_X12_marksOf_7 g25 = some zr) : Fr [86, 87, 88, 89, 91] [(55, 49)] g0 zr := by
  unfold GC_X12_marksOf_7 at h
  cases h
  exact hf
theorem fC_X12_marksOf_8 {g0 : uZ} {a1 : Int} {g6 : uZ} {v12 : Int} {zr : uZ} (hf : Fr [86, 87, 88, 89, 91] [(55, 49)] g0 g6) (h : GC_X12_marksOf_8 a1 g6 v12 = some zr) : Fr [86, 87, 88, 89, 91] [(55, 49)] g0 zr := by
  unfold GC_X12_marksOf_8 at h
  obtain ⟨_, h⟩ := rdZ_x h
  obtain ⟨_, hf1, h⟩ := wrZ_f hf (by decide) h
  obtain ⟨z, hz, h⟩ := lp_x (P := (fun q => fp_0 [86, 87, 88, 89, 91] [(55, 49)] g0 q)) (Q := (fun q => Fr [86, 87, 88, 89, 91] [(55, 49)] g0 q)) h hf1 (fun q r hq h => by have h9 := fB_X12_marksOf_6 hq h; rcases r with r | r <;> exact h9)
  exact fC_X12_marksOf_7 hz h
theorem fC_X12_marksOf_9 {g0 : uZ} {a1 : Int} {v1 : Int} {v2 : Int} {g6 : uZ} {zr : uZ} (hf : Fr [86, 87, 88, 89, 91] [(55, 49)] g0 g6) (h : GC_X12_marksOf_9 a1 v1 v2 g6 = some zr) : Fr [86, 87, 88, 89, 91] [(55, 49)] g0 zr := by
  unfold GC_X12_marksOf_9 at h
  obtain ⟨z, hz, h⟩ := lp_x (P := (fun _ => True)) (Q := (fun _ => True)) h trivial (fun q r hq h => by rcases r with r | r <;> trivial)
  exact fC_X12_marksOf_8 hf h
theorem fF_X12_marksOf {g0 : uZ} {a1 : Int} {g : uZ} {zr : uZ} (hf : Fr [86, 87, 88, 89, 91] [(55, 49)] g0 g) (h : GF_X12_marksOf a1 g = some zr) : Fr [86, 87, 88, 89, 91] [(55, 49)] g0 zr := by
  unfold GF_X12_marksOf at h
  obtain ⟨_, hc, h⟩ := cp_e h
  clear hc
  obtain ⟨_, hc, h⟩ := cp_e h
  clear hc
  obtain ⟨_, h⟩ := lt_x h
  obtain ⟨z, hz, h⟩ := lp_x (P := (fun q => fp_0 [86, 87, 88, 89, 91] [(55, 49)] g0 q)) (Q := (fun q => Fr [86, 87, 88, 89, 91] [(55, 49)] g0 q)) h hf (fun q r hq h => by have h9 := fB_X12_marksOf_2 hq h; rcases r with r | r <;> exact h9)
  exact fC_X12_marksOf_9 hz h
theorem fJ_X12_laysMarks_2 {g0 : uZ} {w3 : Int} {g12 : uZ} {zr : ((Int × uZ) ⊕ uZ)} (hf : Fr [62, 63, 64, 65, 66, 67, 68, 69, 70, 78, 86, 87, 88, 89, 90, 91] [(55, 17), (55, 21), (55, 22), (55, 23), (55, 33), (55, 49)] g0 g12) (h : GJ_X12_laysMarks_2 w3 g12 = some zr) : fp_1 [62, 63, 64, 65, 66, 67, 68, 69, 70, 78, 86, 87, 88, 89, 90, 91] [(55, 17), (55, 21), (55, 22), (55, 23), (55, 33), (55, 49)] g0 zr := by
  unfold GJ_X12_laysMarks_2 at h
  obtain ⟨_, h⟩ := lt_x h
  cases h
  exact hf
theorem fB_X12_laysMarks_3 {g0 : uZ} {w3 : Int} {g4 : uZ} {zr : ((Int × uZ) ⊕ uZ)} (hf : Fr [62, 63, 64, 65, 66, 67, 68, 69, 70, 78, 86, 87, 88, 89, 90, 91] [(55, 17), (55, 21), (55, 22), (55, 23), (55, 33), (55, 49)] g0 g4) (h : GB_X12_laysMarks_3 w3 g4 = some zr) : fp_1 [62, 63, 64, 65, 66, 67, 68, 69, 70, 78, 86, 87, 88, 89, 90, 91] [(55, 17), (55, 21), (55, 22), (55, 23), (55, 33), (55, 49)] g0 zr := by
  unfold GB_X12_laysMarks_3 at h
  replace h := (ck_e h).2
  replace h := (ck_e h).2
  rcases it_x h with h | h
  · skip
    cases h
    exact hf
  · skip
    obtain ⟨_, hf1, h⟩ := wrZ_f hf (by decide) h
    obtain ⟨_, hf2, h⟩ := wrZ_f hf1 (by decide) h
    obtain ⟨_, hc, h⟩ := cp_e h
    clear hc
    replace h := (ck_e h).2
    rcases it_x h with h | h
    · skip
      exact fJ_X12_laysMarks_2 hf2 h
    · skip
      obtain ⟨_, hc, h⟩ := cp_e h
      have hf3 := Fr.tr hf2 (fF_X12_marksOf Fr.rf hc) (by decide) (by decide)
      clear hc
      exact fJ_X12_laysMarks_2 hf3 h
theorem fC_X12_laysMarks_4 {g0 : uZ} {g5 : uZ} {zr : uZ} (hf : Fr [62, 63, 64, 65, 66, 67, 68, 69, 70, 78, 86, 87, 88, 89, 90, 91] [(55, 17), (55, 21), (55, 22), (55, 23), (55, 33), (55, 49)] g0 g5) (h : GC_X12_laysMarks_4 g5 = some zr) : Fr [62, 63, 64, 65, 66, 67, 68, 69, 70, 78, 86, 87, 88, 89, 90, 91] [(55, 17), (55, 21), (55, 22), (55, 23), (55, 33), (55, 49)] g0 zr := by
  unfold GC_X12_laysMarks_4 at h
  obtain ⟨_, hf1, h⟩ := wrZ_f hf (by decide) h
  cases h
  exact hf1
theorem fF_X12_laysMarks {g0 : uZ} {g : uZ} {zr : uZ} (hf : Fr [62, 63, 64, 65, 66, 67, 68, 69, 70, 78, 86, 87, 88, 89, 90, 91] [(55, 17), (55, 21), (55, 22), (55, 23), (55, 33), (55, 49)] g0 g) (h : GF_X12_laysMarks g = some zr) : Fr [62, 63, 64, 65, 66, 67, 68, 69, 70, 78, 86, 87, 88, 89, 90, 91] [(55, 17), (55, 21), (55, 22), (55, 23), (55, 33), (55, 49)] g0 zr := by
  unfold GF_X12_laysMarks at h
  obtain ⟨_, hc, h⟩ := cp_e h
  have hf1 := Fr.tr hf (fF_X12_laysSpans Fr.rf hc) (by decide) (by decide)
  clear hc
  obtain ⟨_, hf2, h⟩ := pfZ_f hf1 (by decide) h
  obtain ⟨z, hz, h⟩ := lp_x (P := (fun q => fp_0 [62, 63, 64, 65, 66, 67, 68, 69, 70, 78, 86, 87, 88, 89, 90, 91] [(55, 17), (55, 21), (55, 22), (55, 23), (55, 33), (55, 49)] g0 q)) (Q := (fun q => Fr [62, 63, 64, 65, 66, 67, 68, 69, 70, 78, 86, 87, 88, 89, 90, 91] [(55, 17), (55, 21), (55, 22), (55, 23), (55, 33), (55, 49)] g0 q)) h hf2 (fun q r hq h => by have h9 := fB_X12_laysMarks_3 hq h; rcases r with r | r <;> exact h9)
  exact fC_X12_laysMarks_4 hz h
theorem fJ_X12_span_2 {g0 : uZ} {a1 : Int} {a2 : Int} {g2 : uZ} {v7 : Int} {zr : (Int × uZ)} (hf : Fr [62, 63, 64, 65, 66, 67, 68, 69, 70, 78, 86, 87, 88, 89, 90, 91] [(55, 9), (55, 17), (55, 21), (55, 22), (55, 23), (55, 33), (55, 49)] g0 g2) (h : GJ_X12_span_2 a1 a2 g2 v7 = some zr) : fp_0 [62, 63, 64, 65, 66, 67, 68, 69, 70, 78, 86, 87, 88, 89, 90, 91] [(55, 9), (55, 17), (55, 21), (55, 22), (55, 23), (55, 33), (55, 49)] g0 zr := by
  unfold GJ_X12_span_2 at h
  obtain ⟨_, _, hc, h⟩ := clZ_x h
  have hf1 := Fr.tr hf (fF_X12_right Fr.rf hc) (by decide) (by decide)
  clear hc
  replace h := (ck_e h).2
  rcases it_x h with h | h
  · skip
    cases h
    exact hf1
  · skip
    replace h := (ck_e h).2
    rcases it_x h with h | h
    · skip
      obtain ⟨_, h⟩ := rdZ_x h
      cases h
      exact hf1
    · skip
      rcases it_x h with h | h
      · skip
        obtain ⟨_, h⟩ := rdZ_x h
        obtain ⟨_, h⟩ := rdZ_x h
        cases h
        exact hf1
      · skip
        rcases it_x h with h | h
        · skip
          obtain ⟨_, hc, h⟩ := cp_e h
          clear hc
          replace h := (ck_e h).2
          obtain ⟨_, h⟩ := lt_x h
          cases h
          exact hf1
        · skip
          rcases it_x h with h | h
          · skip
            obtain ⟨_, hc, h⟩ := cp_e h
            clear hc
            cases h
            exact hf1
          · skip
            rcases it_x h with h | h
            · skip
              obtain ⟨_, hc, h⟩ := cp_e h
              clear hc
              cases h
              exact hf1
            · skip
              rcases it_x h with h | h
              · skip
                obtain ⟨_, h⟩ := rdZ_x h
                obtain ⟨_, h⟩ := rdZ_x h
                cases h
                exact hf1
              · skip
                obtain ⟨_, h⟩ := rdZ_x h
                cases h
                exact hf1
theorem fJ_X12_span_1 {g0 : uZ} {a1 : Int} {a2 : Int} {g2 : uZ} {zr : (Int × uZ)} (hf : Fr [62, 63, 64, 65, 66, 67, 68, 69, 70, 78, 86, 87, 88, 89, 90, 91] [(55, 9), (55, 17), (55, 21), (55, 22), (55, 23), (55, 33), (55, 49)] g0 g2) (h : GJ_X12_span_1 a1 a2 g2 = some zr) : fp_0 [62, 63, 64, 65, 66, 67, 68, 69, 70, 78, 86, 87, 88, 89, 90, 91] [(55, 9), (55, 17), (55, 21), (55, 22), (55, 23), (55, 33), (55, 49)] g0 zr := by
  unfold GJ_X12_span_1 at h
  exact fJ_X12_span_2 hf h
theorem fF_X12_span {g0 : uZ} {a1 : Int} {a2 : Int} {g : uZ} {zr : (Int × uZ)} (hf : Fr [62, 63, 64, 65, 66, 67, 68, 69, 70, 78, 86, 87, 88, 89, 90, 91] [(55, 9), (55, 17), (55, 21), (55, 22), (55, 23), (55, 33), (55, 49)] g0 g) (h : GF_X12_span a1 a2 g = some zr) : fp_0 [62, 63, 64, 65, 66, 67, 68, 69, 70, 78, 86, 87, 88, 89, 90, 91] [(55, 9), (55, 17), (55, 21), (55, 22), (55, 23), (55, 33), (55, 49)] g0 zr := by
  unfold GF_X12_span at h
  obtain ⟨_, hf1, h⟩ := pfZ_f hf (by decide) h
  obtain ⟨_, hc, h⟩ := cp_e h
  have hf2 := Fr.tr hf1 (fF_X12_laysMarks Fr.rf hc) (by decide) (by decide)
  clear hc
  obtain ⟨_, hc, h⟩ := cp_e h
  clear hc
  replace h := (ck_e h).2
  rcases it_x h with h | h
  · skip
    exact fJ_X12_span_1 hf2 h
  · skip
    obtain ⟨_, hc, h⟩ := cp_e h
    clear hc
    replace h := (ck_e h).2
    rcases it_x h with h | h
    · skip
      exact fJ_X12_span_1 hf2 h
    · skip
      exact fJ_X12_span_2 hf2 h
theorem fB_X12_sorts_2 {g0 : uZ} {a2 : Int} {w1 : Int} {g2 : uZ} {zr : ((Int × uZ) ⊕ (Int × uZ))} (hf : Fr [82] [] g0 g2) (h : GB_X12_sorts_2 a2 w1 g2 = some zr) : fp_7 [82] [] g0 zr := by
  unfold GB_X12_sorts_2 at h
  replace h := (ck_e h).2
  rcases it_x h with h | h
  · skip
    cases h
    exact hf
  · skip
    obtain ⟨_, h⟩ := rdZ_x h
    replace h := (ck_e h).2
    replace h := (ck_e h).2
    rcases it_x h with h | h
    · skip
      cases h
      exact hf
    · skip
      obtain ⟨_, h⟩ := rdZ_x h
      obtain ⟨_, hf1, h⟩ := wrZ_f hf (by decide) h
      obtain ⟨_, h⟩ := lt_x h
      cases h
      exact hf1
theorem fC_X12_sorts_3 {g0 : uZ} {a1 : Int} {a2 : Int} {v3 : Int} {g4 : uZ} {zr : (Int × uZ)} (hf : Fr [82] [] g0 g4) (h : GC_X12_sorts_3 a1 a2 v3 g4 = some zr) : fp_0 [82] [] g0 zr := by
  unfold GC_X12_sorts_3 at h
  obtain ⟨_, hf1, h⟩ := wrZ_f hf (by decide) h
  cases h
  exact hf1
theorem fF_X12_sorts {g0 : uZ} {a1 : Int} {a2 : Int} {g : uZ} {zr : (Int × uZ)} (hf : Fr [82] [] g0 g) (h : GF_X12_sorts a1 a2 g = some zr) : fp_0 [82] [] g0 zr := by
  unfold GF_X12_sorts at h
  obtain ⟨z, hz, h⟩ := lp_x (P := (fun q => fp_0 [82] [] g0 q)) (Q := (fun q => fp_0 [82] [] g0 q)) h hf (fun q r hq h => by have h9 := fB_X12_sorts_2 hq h; rcases r with r | r <;> exact h9)
  exact fC_X12_sorts_3 hz h
theorem fB_X12_middleOf_2 {g0 : uZ} {a1 : Int} {a2 : Int} {w1 : Int} {w2 : Int} {g3 : uZ} {zr : ((Int × (Int × uZ)) ⊕ (Int × uZ))} (hf : Fr [82] [] g0 g3) (h : GB_X12_middleOf_2 a1 a2 w1 w2 g3 = some zr) : fp_4 [82] [] g0 zr := by
  unfold GB_X12_middleOf_2 at h
  replace h := (ck_e h).2
  replace h := (ck_e h).2
  rcases it_x h with h | h
  · skip
    cases h
    exact hf
  · skip
    obtain ⟨_, hc, h⟩ := cp_e h
    clear hc
    obtain ⟨_, _, hc, h⟩ := clZ_x h
    have hf1 := Fr.tr hf (fF_X12_sorts Fr.rf hc) (by decide) (by decide)
    clear hc
    obtain ⟨_, h⟩ := lt_x h
    cases h
    exact hf1
theorem fC_X12_middleOf_3 {g0 : uZ} {v4 : Int} {g5 : uZ} {zr : (Int × uZ)} (hf : Fr [82] [] g0 g5) (h : GC_X12_middleOf_3 v4 g5 = some zr) : fp_0 [82] [] g0 zr := by
  unfold GC_X12_middleOf_3 at h
  obtain ⟨_, h⟩ := dvZ_x h
  obtain ⟨_, h⟩ := rdZ_x h
  cases h
  exact hf
theorem fF_X12_middleOf {g0 : uZ} {a1 : Int} {a2 : Int} {g : uZ} {zr : (Int × uZ)} (hf : Fr [82] [] g0 g) (h : GF_X12_middleOf a1 a2 g = some zr) : fp_0 [82] [] g0 zr := by
  unfold GF_X12_middleOf at h
  obtain ⟨z, hz, h⟩ := lp_x (P := (fun q => fp_2 [82] [] g0 q)) (Q := (fun q => fp_0 [82] [] g0 q)) h hf (fun q r hq h => by have h9 := fB_X12_middleOf_2 hq h; rcases r with r | r <;> exact h9)
  exact fC_X12_middleOf_3 hz h
theorem fJ_X12_laysNotes_4 {g0 : uZ} {v9 : Int} {g22 : uZ} {zr : ((Int × uZ) ⊕ uZ)} (hf : Fr [62, 63, 64, 65, 66, 67, 68, 69, 70, 79, 80, 81, 82] [(55, 17), (55, 21), (55, 22), (55, 23), (55, 38)] g0 g22) (h : GJ_X12_laysNotes_4 v9 g22 = some zr) : fp_1 [62, 63, 64, 65, 66, 67, 68, 69, 70, 79, 80, 81, 82] [(55, 17), (55, 21), (55, 22), (55, 23), (55, 38)] g0 zr := by
  unfold GJ_X12_laysNotes_4 at h
  cases h
  exact hf
theorem fC_X12_laysNotes_5 {g0 : uZ} {w3 : Int} {g4 : uZ} {v9 : Int} {zr : ((Int × uZ) ⊕ uZ)} (hf : Fr [62, 63, 64, 65, 66, 67, 68, 69, 70, 79, 80, 81, 82] [(55, 17), (55, 21), (55, 22), (55, 23), (55, 38)] g0 g4) (h : GC_X12_laysNotes_5 w3 g4 v9 = some zr) : fp_1 [62, 63, 64, 65, 66, 67, 68, 69, 70, 79, 80, 81, 82] [(55, 17), (55, 21), (55, 22), (55, 23), (55, 38)] g0 zr := by
  unfold GC_X12_laysNotes_5 at h
  obtain ⟨_, hc, h⟩ := cp_e h
  clear hc
  replace h := (ck_e h).2
  rcases it_x h with h | h
  · skip
    exact fJ_X12_laysNotes_4 hf h
  · skip
    obtain ⟨_, hf1, h⟩ := wrZ_f hf (by decide) h
    obtain ⟨_, hf2, h⟩ := wrZ_f hf1 (by decide) h
    obtain ⟨_, _, hc, h⟩ := clZ_x h
    have hf3 := Fr.tr hf2 (fF_X12_middleOf Fr.rf hc) (by decide) (by decide)
    clear hc
    obtain ⟨_, hf4, h⟩ := wrZ_f hf3 (by decide) h
    obtain ⟨_, hf5, h⟩ := pfZ_f hf4 (by decide) h
    exact fJ_X12_laysNotes_4 hf5 h
theorem fB_X12_laysNotes_6 {g0 : uZ} {w3 : Int} {g4 : uZ} {zr : ((Int × uZ) ⊕ uZ)} (hf : Fr [62, 63, 64, 65, 66, 67, 68, 69, 70, 79, 80, 81, 82] [(55, 17), (55, 21), (55, 22), (55, 23), (55, 38)] g0 g4) (h : GB_X12_laysNotes_6 w3 g4 = some zr) : fp_1 [62, 63, 64, 65, 66, 67, 68, 69, 70, 79, 80, 81, 82] [(55, 17), (55, 21), (55, 22), (55, 23), (55, 38)] g0 zr := by
  unfold GB_X12_laysNotes_6 at h
  replace h := (ck_e h).2
  replace h := (ck_e h).2
  rcases it_x h with h | h
  · skip
    cases h
    exact hf
  · skip
    obtain ⟨_, h⟩ := lt_x h
    obtain ⟨z, hz, h⟩ := lp_x (P := (fun _ => True)) (Q := (fun _ => True)) h trivial (fun q r hq h => by rcases r with r | r <;> trivial)
    exact fC_X12_laysNotes_5 hf h
theorem fC_X12_laysNotes_7 {g0 : uZ} {g5 : uZ} {zr : uZ} (hf : Fr [62, 63, 64, 65, 66, 67, 68, 69, 70, 79, 80, 81, 82] [(55, 17), (55, 21), (55, 22), (55, 23), (55, 38)] g0 g5) (h : GC_X12_laysNotes_7 g5 = some zr) : Fr [62, 63, 64, 65, 66, 67, 68, 69, 70, 79, 80, 81, 82] [(55, 17), (55, 21), (55, 22), (55, 23), (55, 38)] g0 zr := by
  unfold GC_X12_laysNotes_7 at h
  cases h
  exact hf
theorem fF_X12_laysNotes {g0 : uZ} {g : uZ} {zr : uZ} (hf : Fr [62, 63, 64, 65, 66, 67, 68, 69, 70, 79, 80, 81, 82] [(55, 17), (55, 21), (55, 22), (55, 23), (55, 38)] g0 g) (h : GF_X12_laysNotes g = some zr) : Fr [62, 63, 64, 65, 66, 67, 68, 69, 70, 79, 80, 81, 82] [(55, 17), (55, 21), (55, 22), (55, 23), (55, 38)] g0 zr := by
  unfold GF_X12_laysNotes at h
  obtain ⟨_, hc, h⟩ := cp_e h
  have hf1 := Fr.tr hf (fF_X12_laysPath Fr.rf hc) (by decide) (by decide)
  clear hc
  obtain ⟨_, hf2, h⟩ := pfZ_f hf1 (by decide) h
  obtain ⟨z, hz, h⟩ := lp_x (P := (fun q => fp_0 [62, 63, 64, 65, 66, 67, 68, 69, 70, 79, 80, 81, 82] [(55, 17), (55, 21), (55, 22), (55, 23), (55, 38)] g0 q)) (Q := (fun q => Fr [62, 63, 64, 65, 66, 67, 68, 69, 70, 79, 80, 81, 82] [(55, 17), (55, 21), (55, 22), (55, 23), (55, 38)] g0 q)) h hf2 (fun q r hq h => by have h9 := fB_X12_laysNotes_6 hq h; rcases r with r | r <;> exact h9)
  exact fC_X12_laysNotes_7 hz h
theorem fF_X12_notes {g0 : uZ} {g : uZ} {zr : (Int × uZ)} (hf : Fr [62, 63, 64, 65, 66, 67, 68, 69, 70, 79, 80, 81, 82] [(55, 9), (55, 17), (55, 21), (55, 22), (55, 23), (55, 38)] g0 g) (h : GF_X12_notes g = some zr) : fp_0 [62, 63, 64, 65, 66, 67, 68, 69, 70, 79, 80, 81, 82] [(55, 9), (55, 17), (55, 21), (55, 22), (55, 23), (55, 38)] g0 zr := by
  unfold GF_X12_notes at h
  obtain ⟨_, hf1, h⟩ := pfZ_f hf (by decide) h
  obtain ⟨_, hc, h⟩ := cp_e h
  have hf2 := Fr.tr hf1 (fF_X12_laysNotes Fr.rf hc) (by decide) (by decide)
  clear hc
  cases h
  exact hf2
theorem fJ_X12_note_2 {g0 : uZ} {g8 : uZ} {v16 : Int} {zr : (Int × uZ)} (hf : Fr [62, 63, 64, 65, 66, 67, 68, 69, 70, 79, 80, 81, 82] [(55, 9), (55, 17), (55, 21), (55, 22), (55, 23), (55, 38)] g0 g8) (h : GJ_X12_note_2 g8 v16 = some zr) : fp_0 [62, 63, 64, 65, 66, 67, 68, 69, 70, 79, 80, 81, 82] [(55, 9), (55, 17), (55, 21), (55, 22), (55, 23), (55, 38)] g0 zr := by
  unfold GJ_X12_note_2 at h
  cases h
  exact hf
theorem fJ_X12_note_3 {g0 : uZ} {a1 : Int} {a2 : Int} {g2 : uZ} {v7 : Int} {zr : (Int × uZ)} (hf : Fr [62, 63, 64, 65, 66, 67, 68, 69, 70, 79, 80, 81, 82] [(55, 9), (55, 17), (55, 21), (55, 22), (55, 23), (55, 38)] g0 g2) (h : GJ_X12_note_3 a1 a2 g2 v7 = some zr) : fp_0 [62, 63, 64, 65, 66, 67, 68, 69, 70, 79, 80, 81, 82] [(55, 9), (55, 17), (55, 21), (55, 22), (55, 23), (55, 38)] g0 zr := by
  unfold GJ_X12_note_3 at h
  obtain ⟨_, _, hc, h⟩ := clZ_x h
  have hf1 := Fr.tr hf (fF_X12_right Fr.rf hc) (by decide) (by decide)
  clear hc
  replace h := (ck_e h).2
  rcases it_x h with h | h
  · skip
    cases h
    exact hf1
  · skip
    replace h := (ck_e h).2
    rcases it_x h with h | h
    · skip
      obtain ⟨_, h⟩ := rdZ_x h
      exact fJ_X12_note_2 hf1 h
    · skip
      rcases it_x h with h | h
      · skip
        obtain ⟨_, h⟩ := rdZ_x h
        exact fJ_X12_note_2 hf1 h
      · skip
        obtain ⟨_, h⟩ := rdZ_x h
        exact fJ_X12_note_2 hf1 h
theorem fJ_X12_note_1 {g0 : uZ} {a1 : Int} {a2 : Int} {g2 : uZ} {zr : (Int × uZ)} (hf : Fr [62, 63, 64, 65, 66, 67, 68, 69, 70, 79, 80, 81, 82] [(55, 9), (55, 17), (55, 21), (55, 22), (55, 23), (55, 38)] g0 g2) (h : GJ_X12_note_1 a1 a2 g2 = some zr) : fp_0 [62, 63, 64, 65, 66, 67, 68, 69, 70, 79, 80, 81, 82] [(55, 9), (55, 17), (55, 21), (55, 22), (55, 23), (55, 38)] g0 zr := by
  unfold GJ_X12_note_1 at h
  exact fJ_X12_note_3 hf h
theorem fF_X12_note {g0 : uZ} {a1 : Int} {a2 : Int} {g : uZ} {zr : (Int × uZ)} (hf : Fr [62, 63, 64, 65, 66, 67, 68, 69, 70, 79, 80, 81, 82] [(55, 9), (55, 17), (55, 21), (55, 22), (55, 23), (55, 38)] g0 g) (h : GF_X12_note a1 a2 g = some zr) : fp_0 [62, 63, 64, 65, 66, 67, 68, 69, 70, 79, 80, 81, 82] [(55, 9), (55, 17), (55, 21), (55, 22), (55, 23), (55, 38)] g0 zr := by
  unfold GF_X12_note at h
  obtain ⟨_, hf1, h⟩ := pfZ_f hf (by decide) h
  obtain ⟨_, hc, h⟩ := cp_e h
  have hf2 := Fr.tr hf1 (fF_X12_laysNotes Fr.rf hc) (by decide) (by decide)
  clear hc
  obtain ⟨_, hc, h⟩ := cp_e h
  clear hc
  replace h := (ck_e h).2
  rcases it_x h with h | h
  · skip
    exact fJ_X12_note_1 hf2 h
  · skip
    obtain ⟨_, hc, h⟩ := cp_e h
    clear hc
    replace h := (ck_e h).2
    rcases it_x h with h | h
    · skip
      exact fJ_X12_note_1 hf2 h
    · skip
      exact fJ_X12_note_3 hf2 h
theorem fJ_X12_steady_7 {g0 : uZ} {g6 : uZ} {v32 : Int} {zr : (Int × uZ)} (hf : Fr [62, 63, 64, 65, 66, 67, 68, 69, 70] [(55, 9), (55, 17), (55, 21), (55, 22), (55, 23)] g0 g6) (h : GJ_X12_steady_7 g6 v32 = some zr) : fp_0 [62, 63, 64, 65, 66, 67, 68, 69, 70] [(55, 9), (55, 17), (55, 21), (55, 22), (55, 23)] g0 zr := by
  unfold GJ_X12_steady_7 at h
  cases h
  exact hf
theorem fC_X12_steady_8 {g0 : uZ} {a1 : Int} {g6 : uZ} {v10 : Int} {v11 : Int} {zr : (Int × uZ)} (hf : Fr [62, 63, 64, 65, 66, 67, 68, 69, 70] [(55, 9), (55, 17), (55, 21), (55, 22), (55, 23)] g0 g6) (h : GC_X12_steady_8 a1 g6 v10 v11 = some zr) : fp_0 [62, 63, 64, 65, 66, 67, 68, 69, 70] [(55, 9), (55, 17), (55, 21), (55, 22), (55, 23)] g0 zr := by
  unfold GC_X12_steady_8 at h
  replace h := (ck_e h).2
  rcases it_x h with h | h
  · skip
    replace h := (ck_e h).2
    rcases it_x h with h | h
    · skip
      exact fJ_X12_steady_7 hf h
    · skip
      obtain ⟨_, hc, h⟩ := cp_e h
      clear hc
      exact fJ_X12_steady_7 hf h
  · skip
    obtain ⟨_, h⟩ := lt_x h
    cases h
    exact hf
theorem fF_X12_steady {g0 : uZ} {a1 : Int} {g : uZ} {zr : (Int × uZ)} (hf : Fr [62, 63, 64, 65, 66, 67, 68, 69, 70] [(55, 9), (55, 17), (55, 21), (55, 22), (55, 23)] g0 g) (h : GF_X12_steady a1 g = some zr) : fp_0 [62, 63, 64, 65, 66, 67, 68, 69, 70] [(55, 9), (55, 17), (55, 21), (55, 22), (55, 23)] g0 zr := by
  unfold GF_X12_steady at h
  obtain ⟨_, hf1, h⟩ := pfZ_f hf (by decide) h
  obtain ⟨_, hc, h⟩ := cp_e h
  clear hc
  obtain ⟨_, _, hc, h⟩ := clZ_x h
  have hf2 := Fr.tr hf1 (fF_X12_right Fr.rf hc) (by decide) (by decide)
  clear hc
  replace h := (ck_e h).2
  rcases it_x h with h | h
  · skip
    cases h
    exact hf2
  · skip
    obtain ⟨_, hc, h⟩ := cp_e h
    have hf3 := Fr.tr hf2 (fF_X12_laysPath Fr.rf hc) (by decide) (by decide)
    clear hc
    obtain ⟨z, hz, h⟩ := lp_x (P := (fun _ => True)) (Q := (fun _ => True)) h trivial (fun q r hq h => by rcases r with r | r <;> trivial)
    exact fC_X12_steady_8 hf3 h
theorem fB_X12_laysOften_2 {g0 : uZ} {w2 : Int} {g3 : uZ} {zr : ((Int × uZ) ⊕ uZ)} (hf : Fr [62, 63, 64, 65, 66, 67, 68, 69, 70, 83] [(55, 17), (55, 21), (55, 22), (55, 23)] g0 g3) (h : GB_X12_laysOften_2 w2 g3 = some zr) : fp_1 [62, 63, 64, 65, 66, 67, 68, 69, 70, 83] [(55, 17), (55, 21), (55, 22), (55, 23)] g0 zr := by
  unfold GB_X12_laysOften_2 at h
  replace h := (ck_e h).2
  rcases it_x h with h | h
  · skip
    cases h
    exact hf
  · skip
    obtain ⟨_, hf1, h⟩ := wrZ_f hf (by decide) h
    obtain ⟨_, h⟩ := lt_x h
    cases h
    exact hf1
theorem fB_X12_laysOften_4 {g0 : uZ} {w8 : Int} {g9 : uZ} {zr : ((Int × uZ) ⊕ uZ)} (hf : Fr [62, 63, 64, 65, 66, 67, 68, 69, 70, 83] [(55, 17), (55, 21), (55, 22), (55, 23)] g0 g9) (h : GB_X12_laysOften_4 w8 g9 = some zr) : fp_1 [62, 63, 64, 65, 66, 67, 68, 69, 70, 83] [(55, 17), (55, 21), (55, 22), (55, 23)] g0 zr := by
  unfold GB_X12_laysOften_4 at h
  replace h := (ck_e h).2
  replace h := (ck_e h).2
  rcases it_x h with h | h
  · skip
    cases h
    exact hf
  · skip
    obtain ⟨_, hc, h⟩ := cp_e h
    clear hc
    obtain ⟨_, h⟩ := rdZ_x h
    obtain ⟨_, hf1, h⟩ := wrZ_f hf (by decide) h
    obtain ⟨_, h⟩ := lt_x h
    cases h
    exact hf1
theorem fC_X12_laysOften_5 {g0 : uZ} {g10 : uZ} {zr : uZ} (hf : Fr [62, 63, 64, 65, 66, 67, 68, 69, 70, 83] [(55, 17), (55, 21), (55, 22), (55, 23)] g0 g10) (h : GC_X12_laysOften_5 g10 = some zr) : Fr [62, 63, 64, 65, 66, 67, 68, 69, 70, 83] [(55, 17), (55, 21), (55, 22), (55, 23)] g0 zr := by
  unfold GC_X12_laysOften_5 at h
  obtain ⟨_, hf1, h⟩ := wrZ_f hf (by decide) h
  cases h
  exact hf1
theorem fC_X12_laysOften_6 {g0 : uZ} {g4 : uZ} {zr : uZ} (hf : Fr [62, 63, 64, 65, 66, 67, 68, 69, 70, 83] [(55, 17), (55, 21), (55, 22), (55, 23)] g0 g4) (h : GC_X12_laysOften_6 g4 = some zr) : Fr [62, 63, 64, 65, 66, 67, 68, 69, 70, 83] [(55, 17), (55, 21), (55, 22), (55, 23)] g0 zr := by
  unfold GC_X12_laysOften_6 at h
  obtain ⟨z, hz, h⟩ := lp_x (P := (fun q => fp_0 [62, 63, 64, 65, 66, 67, 68, 69, 70, 83] [(55, 17), (55, 21), (55, 22), (55, 23)] g0 q)) (Q := (fun q => Fr [62, 63, 64, 65, 66, 67, 68, 69, 70, 83] [(55, 17), (55, 21), (55, 22), (55, 23)] g0 q)) h hf (fun q r hq h => by have h9 := fB_X12_laysOften_4 hq h; rcases r with r | r <;> exact h9)
  exact fC_X12_laysOften_5 hz h
theorem fF_X12_laysOften {g0 : uZ} {g : uZ} {zr : uZ} (hf : Fr [62, 63, 64, 65, 66, 67, 68, 69, 70, 83] [(55, 17), (55, 21), (55, 22), (55, 23)] g0 g) (h : GF_X12_laysOften g = some zr) : Fr [62, 63, 64, 65, 66, 67, 68, 69, 70, 83] [(55, 17), (55, 21), (55, 22), (55, 23)] g0 zr := by
  unfold GF_X12_laysOften at h
  obtain ⟨_, hc, h⟩ := cp_e h
  have hf1 := Fr.tr hf (fF_X12_laysPath Fr.rf hc) (by decide) (by decide)
  clear hc
  obtain ⟨z, hz, h⟩ := lp_x (P := (fun q => fp_0 [62, 63, 64, 65, 66, 67, 68, 69, 70, 83] [(55, 17), (55, 21), (55, 22), (55, 23)] g0 q)) (Q := (fun q => Fr [62, 63, 64, 65, 66, 67, 68, 69, 70, 83] [(55, 17), (55, 21), (55, 22), (55, 23)] g0 q)) h hf1 (fun q r hq h => by have h9 := fB_X12_laysOften_2 hq h; rcases r with r | r <;> exact h9)
  exact fC_X12_laysOften_6 hz h
theorem fC_X12_lags_3 {g0 : uZ} {g2 : uZ} {v5 : Int} {zr : (Int × uZ)} (hf : Fr [62, 63, 64, 65, 66, 67, 68, 69, 70, 83] [(55, 9), (55, 17), (55, 21), (55, 22), (55, 23)] g0 g2) (h : GC_X12_lags_3 g2 v5 = some zr) : fp_0 [62, 63, 64, 65, 66, 67, 68, 69, 70, 83] [(55, 9), (55, 17), (55, 21), (55, 22), (55, 23)] g0 zr := by
  unfold GC_X12_lags_3 at h
  cases h
  exact hf
theorem fF_X12_lags {g0 : uZ} {g : uZ} {zr : (Int × uZ)} (hf : Fr [62, 63, 64, 65, 66, 67, 68, 69, 70, 83] [(55, 9), (55, 17), (55, 21), (55, 22), (55, 23)] g0 g) (h : GF_X12_lags g = some zr) : fp_0 [62, 63, 64, 65, 66, 67, 68, 69, 70, 83] [(55, 9), (55, 17), (55, 21), (55, 22), (55, 23)] g0 zr := by
  unfold GF_X12_lags at h
  obtain ⟨_, hf1, h⟩ := pfZ_f hf (by decide) h
  obtain ⟨_, hc, h⟩ := cp_e h
  have hf2 := Fr.tr hf1 (fF_X12_laysOften Fr.rf hc) (by decide) (by decide)
  clear hc
  obtain ⟨z, hz, h⟩ := lp_x (P := (fun _ => True)) (Q := (fun _ => True)) h trivial (fun q r hq h => by rcases r with r | r <;> trivial)
  exact fC_X12_lags_3 hf2 h
theorem fJ_X12_lagAt_2 {g0 : uZ} {g14 : uZ} {v19 : Int} {zr : ((Int × (Int × uZ)) ⊕ (uZ ⊕ (Int × uZ)))} (hf : Fr [62, 63, 64, 65, 66, 67, 68, 69, 70, 83] [(55, 9), (55, 17), (55, 21), (55, 22), (55, 23)] g0 g14) (h : GJ_X12_lagAt_2 g14 v19 = some zr) : fp_9 [62, 63, 64, 65, 66, 67, 68, 69, 70, 83] [(55, 9), (55, 17), (55, 21), (55, 22), (55, 23)] g0 zr := by
  unfold GJ_X12_lagAt_2 at h
  cases h
  exact hf
theorem fJ_X12_lagAt_3 {g0 : uZ} {w4 : Int} {g5 : uZ} {v20 : Int} {zr : ((Int × (Int × uZ)) ⊕ (uZ ⊕ (Int × uZ)))} (hf : Fr [62, 63, 64, 65, 66, 67, 68, 69, 70, 83] [(55, 9), (55, 17), (55, 21), (55, 22), (55, 23)] g0 g5) (h : GJ_X12_lagAt_3 w4 g5 v20 = some zr) : fp_9 [62, 63, 64, 65, 66, 67, 68, 69, 70, 83] [(55, 9), (55, 17), (55, 21), (55, 22), (55, 23)] g0 zr := by
  unfold GJ_X12_lagAt_3 at h
  obtain ⟨_, h⟩ := lt_x h
  cases h
  exact hf
theorem fB_X12_lagAt_4 {g0 : uZ} {a1 : Int} {a2 : Int} {w3 : Int} {w4 : Int} {g5 : uZ} {zr : ((Int × (Int × uZ)) ⊕ (uZ ⊕ (Int × uZ)))} (hf : Fr [62, 63, 64, 65, 66, 67, 68, 69, 70, 83] [(55, 9), (55, 17), (55, 21), (55, 22), (55, 23)] g0 g5) (h : GB_X12_lagAt_4 a1 a2 w3 w4 g5 = some zr) : fp_9 [62, 63, 64, 65, 66, 67, 68, 69, 70, 83] [(55, 9), (55, 17), (55, 21), (55, 22), (55, 23)] g0 zr := by
  unfold GB_X12_lagAt_4 at h
  replace h := (ck_e h).2
  rcases it_x h with h | h
  · skip
    cases h
    exact hf
  · skip
    replace h := (ck_e h).2
    rcases it_x h with h | h
    · skip
      cases h
      exact hf
    · skip
      obtain ⟨_, h⟩ := rdZ_x h
      replace h := (ck_e h).2
      rcases it_x h with h | h
      · skip
        exact fJ_X12_lagAt_3 hf h
      · skip
        replace h := (ck_e h).2
        rcases it_x h with h | h
        · skip
          obtain ⟨_, hc, h⟩ := cp_e h
          clear hc
          obtain ⟨_, _, hc, h⟩ := clZ_x h
          have hf1 := Fr.tr hf (fF_X12_right Fr.rf hc) (by decide) (by decide)
          clear hc
          replace h := (ck_e h).2
          rcases it_x h with h | h
          · skip
            exact fJ_X12_lagAt_2 hf1 h
          · skip
            replace h := (ck_e h).2
            rcases it_x h with h | h
            · skip
              exact fJ_X12_lagAt_2 hf1 h
            · skip
              obtain ⟨_, h⟩ := rdZ_x h
              exact fJ_X12_lagAt_2 hf1 h
        · skip
          obtain ⟨_, h⟩ := lt_x h
          exact fJ_X12_lagAt_3 hf h
theorem fC_X12_lagAt_5 {g0 : uZ} {g6 : uZ} {zr : (Int × uZ)} (hf : Fr [62, 63, 64, 65, 66, 67, 68, 69, 70, 83] [(55, 9), (55, 17), (55, 21), (55, 22), (55, 23)] g0 g6) (h : GC_X12_lagAt_5 g6 = some zr) : fp_0 [62, 63, 64, 65, 66, 67, 68, 69, 70, 83] [(55, 9), (55, 17), (55, 21), (55, 22), (55, 23)] g0 zr := by
  unfold GC_X12_lagAt_5 at h
  obtain ⟨_, _, hc, h⟩ := clZ_x h
  have hf1 := Fr.tr hf (fF_X12_right Fr.rf hc) (by decide) (by decide)
  clear hc
  cases h
  exact hf1
theorem fF_X12_lagAt {g0 : uZ} {a1 : Int} {a2 : Int} {g : uZ} {zr : (Int × uZ)} (hf : Fr [62, 63, 64, 65, 66, 67, 68, 69, 70, 83] [(55, 9), (55, 17), (55, 21), (55, 22), (55, 23)] g0 g) (h : GF_X12_lagAt a1 a2 g = some zr) : fp_0 [62, 63, 64, 65, 66, 67, 68, 69, 70, 83] [(55, 9), (55, 17), (55, 21), (55, 22), (55, 23)] g0 zr := by
  unfold GF_X12_lagAt at h
  obtain ⟨_, hf1, h⟩ := pfZ_f hf (by decide) h
  obtain ⟨_, hc, h⟩ := cp_e h
  have hf2 := Fr.tr hf1 (fF_X12_laysOften Fr.rf hc) (by decide) (by decide)
  clear hc
  obtain ⟨z, hz, h⟩ := lp_x (P := (fun q => fp_2 [62, 63, 64, 65, 66, 67, 68, 69, 70, 83] [(55, 9), (55, 17), (55, 21), (55, 22), (55, 23)] g0 q)) (Q := (fun q => fp_8 [62, 63, 64, 65, 66, 67, 68, 69, 70, 83] [(55, 9), (55, 17), (55, 21), (55, 22), (55, 23)] g0 q)) h hf2 (fun q r hq h => by have h9 := fB_X12_lagAt_4 hq h; rcases r with r | r <;> exact h9)
  rcases z with z | z
  · exact fC_X12_lagAt_5 hz h
  · cases h
    exact hz
theorem fJ_X12_common_6 {g0 : uZ} {g6 : uZ} {v26 : Int} {zr : (Int × uZ)} (hf : Fr [62, 63, 64, 65, 66, 67, 68, 69, 70, 83] [(55, 9), (55, 17), (55, 21), (55, 22), (55, 23)] g0 g6) (h : GJ_X12_common_6 g6 v26 = some zr) : fp_0 [62, 63, 64, 65, 66, 67, 68, 69, 70, 83] [(55, 9), (55, 17), (55, 21), (55, 22), (55, 23)] g0 zr := by
  unfold GJ_X12_common_6 at h
  cases h
  exact hf
theorem fJ_X12_common_5 {g0 : uZ} {v10 : Int} {g6 : uZ} {zr : (Int × uZ)} (hf : Fr [62, 63, 64, 65, 66, 67, 68, 69, 70, 83] [(55, 9), (55, 17), (55, 21), (55, 22), (55, 23)] g0 g6) (h : GJ_X12_common_5 v10 g6 = some zr) : fp_0 [62, 63, 64, 65, 66, 67, 68, 69, 70, 83] [(55, 9), (55, 17), (55, 21), (55, 22), (55, 23)] g0 zr := by
  unfold GJ_X12_common_5 at h
  exact fJ_X12_common_6 hf h
theorem fC_X12_common_7 {g0 : uZ} {a1 : Int} {g6 : uZ} {v10 : Int} {v11 : Int} {zr : (Int × uZ)} (hf : Fr [62, 63, 64, 65, 66, 67, 68, 69, 70, 83] [(55, 9), (55, 17), (55, 21), (55, 22), (55, 23)] g0 g6) (h : GC_X12_common_7 a1 g6 v10 v11 = some zr) : fp_0 [62, 63, 64, 65, 66, 67, 68, 69, 70, 83] [(55, 9), (55, 17), (55, 21), (55, 22), (55, 23)] g0 zr := by
  unfold GC_X12_common_7 at h
  replace h := (ck_e h).2
  rcases it_x h with h | h
  · skip
    exact fJ_X12_common_5 hf h
  · skip
    replace h := (ck_e h).2
    rcases it_x h with h | h
    · skip
      exact fJ_X12_common_5 hf h
    · skip
      obtain ⟨_, hc, h⟩ := cp_e h
      clear hc
      exact fJ_X12_common_6 hf h
theorem fF_X12_common {g0 : uZ} {a1 : Int} {g : uZ} {zr : (Int × uZ)} (hf : Fr [62, 63, 64, 65, 66, 67, 68, 69, 70, 83] [(55, 9), (55, 17), (55, 21), (55, 22), (55, 23)] g0 g) (h : GF_X12_common a1 g = some zr) : fp_0 [62, 63, 64, 65, 66, 67, 68, 69, 70, 83] [(55, 9), (55, 17), (55, 21), (55, 22), (55, 23)] g0 zr := by
  unfold GF_X12_common at h
  obtain ⟨_, hf1, h⟩ := pfZ_f hf (by decide) h
  obtain ⟨_, hc, h⟩ := cp_e h
  clear hc
  obtain ⟨_, _, hc, h⟩ := clZ_x h
  have hf2 := Fr.tr hf1 (fF_X12_right Fr.rf hc) (by decide) (by decide)
  clear hc
  replace h := (ck_e h).2
  rcases it_x h with h | h
  · skip
    cases h
    exact hf2
  · skip
    obtain ⟨_, hc, h⟩ := cp_e h
    have hf3 := Fr.tr hf2 (fF_X12_laysOften Fr.rf hc) (by decide) (by decide)
    clear hc
    obtain ⟨z, hz, h⟩ := lp_x (P := (fun _ => True)) (Q := (fun _ => True)) h trivial (fun q r hq h => by rcases r with r | r <;> trivial)
    exact fC_X12_common_7 hf3 h
theorem fJ_X12_tune_1 {g0 : uZ} {g1 : uZ} {zr : (Int × uZ)} (hf : Fr [61] [(55, 8), (55, 9)] g0 g1) (h : GJ_X12_tune_1 g1 = some zr) : fp_0 [61] [(55, 8), (55, 9)] g0 zr := by
  unfold GJ_X12_tune_1 at h
  cases h
  exact hf
theorem fF_X12_tune {g0 : uZ} {a1 : Int} {g : uZ} {zr : (Int × uZ)} (hf : Fr [61] [(55, 8), (55, 9)] g0 g) (h : GF_X12_tune a1 g = some zr) : fp_0 [61] [(55, 8), (55, 9)] g0 zr := by
  unfold GF_X12_tune at h
  obtain ⟨_, hf1, h⟩ := pfZ_f hf (by decide) h
  obtain ⟨_, hc, h⟩ := cp_e h
  clear hc
  replace h := (ck_e h).2
  rcases it_x h with h | h
  · skip
    exact fJ_X12_tune_1 hf1 h
  · skip
    replace h := (ck_e h).2
    rcases it_x h with h | h
    · skip
      exact fJ_X12_tune_1 hf1 h
    · skip
      obtain ⟨_, hf2, h⟩ := wrZ_f hf1 (by decide) h
      obtain ⟨_, hf3, h⟩ := pfZ_f hf2 (by decide) h
      cases h
      exact hf3
theorem fF_X12_hush {g0 : uZ} {g : uZ} {zr : (Int × uZ)} (hf : Fr [] [(55, 8), (55, 9)] g0 g) (h : GF_X12_hush g = some zr) : fp_0 [] [(55, 8), (55, 9)] g0 zr := by
  unfold GF_X12_hush at h
  obtain ⟨_, hf1, h⟩ := pfZ_f hf (by decide) h
  obtain ⟨_, h⟩ := lt_x h
  obtain ⟨_, hf2, h⟩ := pfZ_f hf1 (by decide) h
  cases h
  exact hf2
theorem fJ_X12_goesMatch_4 {g0 : uZ} {w3 : Int} {v24 : Int} {g25 : uZ} {zr : ((Int × (Int × uZ)) ⊕ uZ)} (hf : Fr [85] [(55, 42)] g0 g25) (h : GJ_X12_goesMatch_4 w3 v24 g25 = some zr) : fp_3 [85] [(55, 42)] g0 zr := by
  unfold GJ_X12_goesMatch_4 at h
  obtain ⟨_, h⟩ := lt_x h
  cases h
  exact hf
theorem fC_X12_goesMatch_5 {g0 : uZ} {w2 : Int} {w3 : Int} {g4 : uZ} {v10 : Int} {zr : ((Int × (Int × uZ)) ⊕ uZ)} (hf : Fr [85] [(55, 42)] g0 g4) (h : GC_X12_goesMatch_5 w2 w3 g4 v10 = some zr) : fp_3 [85] [(55, 42)] g0 zr := by
  unfold GC_X12_goesMatch_5 at h
  replace h := (ck_e h).2
  replace h := (ck_e h).2
  obtain ⟨_, h⟩ := lt_x h
  obtain ⟨_, hf1, h⟩ := wrZ_f hf (by decide) h
  replace h := (ck_e h).2
  rcases it_x h with h | h
  · skip
    exact fJ_X12_goesMatch_4 hf1 h
  · skip
    obtain ⟨_, hf2, h⟩ := pfZ_f hf1 (by decide) h
    obtain ⟨_, h⟩ := lt_x h
    exact fJ_X12_goesMatch_4 hf2 h
theorem fB_X12_goesMatch_6 {g0 : uZ} {w2 : Int} {w3 : Int} {g4 : uZ} {zr : ((Int × (Int × uZ)) ⊕ uZ)} (hf : Fr [85] [(55, 42)] g0 g4) (h : GB_X12_goesMatch_6 w2 w3 g4 = some zr) : fp_3 [85] [(55, 42)] g0 zr := by
  unfold GB_X12_goesMatch_6 at h
  replace h := (ck_e h).2
  replace h := (ck_e h).2
  rcases it_x h with h | h
  · skip
    cases h
    exact hf
  · skip
    obtain ⟨_, hc, h⟩ := cp_e h
    clear hc
    obtain ⟨_, h⟩ := rdZ_x h
    obtain ⟨z, hz, h⟩ := lp_x (P := (fun _ => True)) (Q := (fun _ => True)) h trivial (fun q r hq h => by rcases r with r | r <;> trivial)
    exact fC_X12_goesMatch_5 hf h
theorem fC_X12_goesMatch_7 {g0 : uZ} {g5 : uZ} {zr : uZ} (hf : Fr [85] [(55, 42)] g0 g5) (h : GC_X12_goesMatch_7 g5 = some zr) : Fr [85] [(55, 42)] g0 zr := by
  unfold GC_X12_goesMatch_7 at h
  cases h
  exact hf
theorem fF_X12_goesMatch {g0 : uZ} {g : uZ} {zr : uZ} (hf : Fr [85] [(55, 42)] g0 g) (h : GF_X12_goesMatch g = some zr) : Fr [85] [(55, 42)] g0 zr := by
  unfold GF_X12_goesMatch at h
  obtain ⟨_, hf1, h⟩ := pfZ_f hf (by decide) h
  obtain ⟨z, hz, h⟩ := lp_x (P := (fun q => fp_2 [85] [(55, 42)] g0 q)) (Q := (fun q => Fr [85] [(55, 42)] g0 q)) h hf1 (fun q r hq h => by have h9 := fB_X12_goesMatch_6 hq h; rcases r with r | r <;> exact h9)
  exact fC_X12_goesMatch_7 hz h
theorem fJ_X12_laysMatch_4 {g0 : uZ} {w3 : Int} {w8 : Int} {g9 : uZ} {v33 : Int} {zr : ((Int × uZ) ⊕ uZ)} (hf : Fr [62, 63, 64, 65, 66, 67, 68, 69, 70, 79, 80, 81, 82, 84, 85] [(55, 17), (55, 21), (55, 22), (55, 23), (55, 38), (55, 42)] g0 g9) (h : GJ_X12_laysMatch_4 w3 w8 g9 v33 = some zr) : fp_1 [62, 63, 64, 65, 66, 67, 68, 69, 70, 79, 80, 81, 82, 84, 85] [(55, 17), (55, 21), (55, 22), (55, 23), (55, 38), (55, 42)] g0 zr := by
  unfold GJ_X12_laysMatch_4 at h
  obtain ⟨_, hc, h⟩ := cp_e h
  clear hc
  obtain ⟨_, hf1, h⟩ := wrZ_f hf (by decide) h
  obtain ⟨_, h⟩ := lt_x h
  cases h
  exact hf1
theorem fJ_X12_laysMatch_5 {g0 : uZ} {w3 : Int} {w8 : Int} {g9 : uZ} {v26 : Int} {zr : ((Int × uZ) ⊕ uZ)} (hf : Fr [62, 63, 64, 65, 66, 67, 68, 69, 70, 79, 80, 81, 82, 84, 85] [(55, 17), (55, 21), (55, 22), (55, 23), (55, 38), (55, 42)] g0 g9) (h : GJ_X12_laysMatch_5 w3 w8 g9 v26 = some zr) : fp_1 [62, 63, 64, 65, 66, 67, 68, 69, 70, 79, 80, 81, 82, 84, 85] [(55, 17), (55, 21), (55, 22), (55, 23), (55, 38), (55, 42)] g0 zr := by
  unfold GJ_X12_laysMatch_5 at h
  replace h := (ck_e h).2
  replace h := (ck_e h).2
  rcases it_x h with h | h
  · skip
    exact fJ_X12_laysMatch_4 hf h
  · skip
    replace h := (ck_e h).2
    replace h := (ck_e h).2
    rcases it_x h with h | h
    · skip
      exact fJ_X12_laysMatch_4 hf h
    · skip
      obtain ⟨_, hc, h⟩ := cp_e h
      clear hc
      obtain ⟨_, hc, h⟩ := cp_e h
      clear hc
      obtain ⟨_, h⟩ := rdZ_x h
      obtain ⟨_, hc, h⟩ := cp_e h
      clear hc
      exact fJ_X12_laysMatch_4 hf h
theorem fJ_X12_laysMatch_6 {g0 : uZ} {w3 : Int} {w8 : Int} {g9 : uZ} {v20 : Int} {zr : ((Int × uZ) ⊕ uZ)} (hf : Fr [62, 63, 64, 65, 66, 67, 68, 69, 70, 79, 80, 81, 82, 84, 85] [(55, 17), (55, 21), (55, 22), (55, 23), (55, 38), (55, 42)] g0 g9) (h : GJ_X12_laysMatch_6 w3 w8 g9 v20 = some zr) : fp_1 [62, 63, 64, 65, 66, 67, 68, 69, 70, 79, 80, 81, 82, 84, 85] [(55, 17), (55, 21), (55, 22), (55, 23), (55, 38), (55, 42)] g0 zr := by
  unfold GJ_X12_laysMatch_6 at h
  replace h := (ck_e h).2
  replace h := (ck_e h).2
  rcases it_x h with h | h
  · skip
    exact fJ_X12_laysMatch_5 hf h
  · skip
    obtain ⟨_, h⟩ := rdZ_x h
    obtain ⟨_, hc, h⟩ := cp_e h
    clear hc
    obtain ⟨_, h⟩ := rdZ_x h
    obtain ⟨_, hc, h⟩ := cp_e h
    clear hc
    exact fJ_X12_laysMatch_5 hf h
theorem fJ_X12_laysMatch_7 {g0 : uZ} {w3 : Int} {w8 : Int} {g9 : uZ} {v14 : Int} {zr : ((Int × uZ) ⊕ uZ)} (hf : Fr [62, 63, 64, 65, 66, 67, 68, 69, 70, 79, 80, 81, 82, 84, 85] [(55, 17), (55, 21), (55, 22), (55, 23), (55, 38), (55, 42)] g0 g9) (h : GJ_X12_laysMatch_7 w3 w8 g9 v14 = some zr) : fp_1 [62, 63, 64, 65, 66, 67, 68, 69, 70, 79, 80, 81, 82, 84, 85] [(55, 17), (55, 21), (55, 22), (55, 23), (55, 38), (55, 42)] g0 zr := by
  unfold GJ_X12_laysMatch_7 at h
  replace h := (ck_e h).2
  replace h := (ck_e h).2
  rcases it_x h with h | h
  · skip
    exact fJ_X12_laysMatch_6 hf h
  · skip
    obtain ⟨_, h⟩ := rdZ_x h
    obtain ⟨_, hc, h⟩ := cp_e h
    clear hc
    obtain ⟨_, h⟩ := rdZ_x h
    obtain ⟨_, hc, h⟩ := cp_e h
    clear hc
    exact fJ_X12_laysMatch_6 hf h
theorem fJ_X12_laysMatch_3 {g0 : uZ} {w3 : Int} {w8 : Int} {g9 : uZ} {zr : ((Int × uZ) ⊕ uZ)} (hf : Fr [62, 63, 64, 65, 66, 67, 68, 69, 70, 79, 80, 81, 82, 84, 85] [(55, 17), (55, 21), (55, 22), (55, 23), (55, 38), (55, 42)] g0 g9) (h : GJ_X12_laysMatch_3 w3 w8 g9 = some zr) : fp_1 [62, 63, 64, 65, 66, 67, 68, 69, 70, 79, 80, 81, 82, 84, 85] [(55, 17), (55, 21), (55, 22), (55, 23), (55, 38), (55, 42)] g0 zr := by
  unfold GJ_X12_laysMatch_3 at h
  exact fJ_X12_laysMatch_7 hf h
theorem fB_X12_laysMatch_8 {g0 : uZ} {w3 : Int} {w8 : Int} {g9 : uZ} {zr : ((Int × uZ) ⊕ uZ)} (hf : Fr [62, 63, 64, 65, 66, 67, 68, 69, 70, 79, 80, 81, 82, 84, 85] [(55, 17), (55, 21), (55, 22), (55, 23), (55, 38), (55, 42)] g0 g9) (h : GB_X12_laysMatch_8 w3 w8 g9 = some zr) : fp_1 [62, 63, 64, 65, 66, 67, 68, 69, 70, 79, 80, 81, 82, 84, 85] [(55, 17), (55, 21), (55, 22), (55, 23), (55, 38), (55, 42)] g0 zr := by
  unfold GB_X12_laysMatch_8 at h
  replace h := (ck_e h).2
  rcases it_x h with h | h
  · skip
    cases h
    exact hf
  · skip
    replace h := (ck_e h).2
    replace h := (ck_e h).2
    rcases it_x h with h | h
    · skip
      replace h := (ck_e h).2
      rcases it_x h with h | h
      · skip
        exact fJ_X12_laysMatch_7 hf h
      · skip
        exact fJ_X12_laysMatch_3 hf h
    · skip
      exact fJ_X12_laysMatch_3 hf h
theorem fC_X12_laysMatch_9 {g0 : uZ} {w3 : Int} {g10 : uZ} {zr : ((Int × uZ) ⊕ uZ)} (hf : Fr [62, 63, 64, 65, 66, 67, 68, 69, 70, 79, 80, 81, 82, 84, 85] [(55, 17), (55, 21), (55, 22), (55, 23), (55, 38), (55, 42)] g0 g10) (h : GC_X12_laysMatch_9 w3 g10 = some zr) : fp_1 [62, 63, 64, 65, 66, 67, 68, 69, 70, 79, 80, 81, 82, 84, 85] [(55, 17), (55, 21), (55, 22), (55, 23), (55, 38), (55, 42)] g0 zr := by
  unfold GC_X12_laysMatch_9 at h
  obtain ⟨_, h⟩ := lt_x h
  cases h
  exact hf
theorem fB_X12_laysMatch_10 {g0 : uZ} {w3 : Int} {g4 : uZ} {zr : ((Int × uZ) ⊕ uZ)} (hf : Fr [62, 63, 64, 65, 66, 67, 68, 69, 70, 79, 80, 81, 82, 84, 85] [(55, 17), (55, 21), (55, 22), (55, 23), (55, 38), (55, 42)] g0 g4) (h : GB_X12_laysMatch_10 w3 g4 = some zr) : fp_1 [62, 63, 64, 65, 66, 67, 68, 69, 70, 79, 80, 81, 82, 84, 85] [(55, 17), (55, 21), (55, 22), (55, 23), (55, 38), (55, 42)] g0 zr := by
  unfold GB_X12_laysMatch_10 at h
  replace h := (ck_e h).2
  rcases it_x h with h | h
  · skip
    cases h
    exact hf
  · skip
    obtain ⟨_, h⟩ := lt_x h
    obtain ⟨z, hz, h⟩ := lp_x (P := (fun q => fp_0 [62, 63, 64, 65, 66, 67, 68, 69, 70, 79, 80, 81, 82, 84, 85] [(55, 17), (55, 21), (55, 22), (55, 23), (55, 38), (55, 42)] g0 q)) (Q := (fun q => Fr [62, 63, 64, 65, 66, 67, 68, 69, 70, 79, 80, 81, 82, 84, 85] [(55, 17), (55, 21), (55, 22), (55, 23), (55, 38), (55, 42)] g0 q)) h hf (fun q r hq h => by have h9 := fB_X12_laysMatch_8 hq h; rcases r with r | r <;> exact h9)
    exact fC_X12_laysMatch_9 hz h
theorem fC_X12_laysMatch_11 {g0 : uZ} {g5 : uZ} {zr : uZ} (hf : Fr [62, 63, 64, 65, 66, 67, 68, 69, 70, 79, 80, 81, 82, 84, 85] [(55, 17), (55, 21), (55, 22), (55, 23), (55, 38), (55, 42)] g0 g5) (h : GC_X12_laysMatch_11 g5 = some zr) : Fr [62, 63, 64, 65, 66, 67, 68, 69, 70, 79, 80, 81, 82, 84, 85] [(55, 17), (55, 21), (55, 22), (55, 23), (55, 38), (55, 42)] g0 zr := by
  unfold GC_X12_laysMatch_11 at h
  obtain ⟨_, hc, h⟩ := cp_e h
  have hf1 := Fr.tr hf (fF_X12_goesMatch Fr.rf hc) (by decide) (by decide)
  clear hc
  cases h
  exact hf1
theorem fF_X12_laysMatch {g0 : uZ} {g : uZ} {zr : uZ} (hf : Fr [62, 63, 64, 65, 66, 67, 68, 69, 70, 79, 80, 81, 82, 84, 85] [(55, 17), (55, 21), (55, 22), (55, 23), (55, 38), (55, 42)] g0 g) (h : GF_X12_laysMatch g = some zr) : Fr [62, 63, 64, 65, 66, 67, 68, 69, 70, 79, 80, 81, 82, 84, 85] [(55, 17), (55, 21), (55, 22), (55, 23), (55, 38), (55, 42)] g0 zr := by
  unfold GF_X12_laysMatch at h
  obtain ⟨_, hc, h⟩ := cp_e h
  have hf1 := Fr.tr hf (fF_X12_laysNotes Fr.rf hc) (by decide) (by decide)
  clear hc
  obtain ⟨_, h⟩ := lt_x h
  obtain ⟨z, hz, h⟩ := lp_x (P := (fun q => fp_0 [62, 63, 64, 65, 66, 67, 68, 69, 70, 79, 80, 81, 82, 84, 85] [(55, 17), (55, 21), (55, 22), (55, 23), (55, 38), (55, 42)] g0 q)) (Q := (fun q => Fr [62, 63, 64, 65, 66, 67, 68, 69, 70, 79, 80, 81, 82, 84, 85] [(55, 17), (55, 21), (55, 22), (55, 23), (55, 38), (55, 42)] g0 q)) h hf1 (fun q r hq h => by have h9 := fB_X12_laysMatch_10 hq h; rcases r with r | r <;> exact h9)
  exact fC_X12_laysMatch_11 hz h
theorem fJ_X12_match_1 {g0 : uZ} {g6 : uZ} {v9 : Int} {zr : (Int × uZ)} (hf : Fr [62, 63, 64, 65, 66, 67, 68, 69, 70, 79, 80, 81, 82, 84, 85] [(55, 9), (55, 17), (55, 21), (55, 22), (55, 23), (55, 38), (55, 42)] g0 g6) (h : GJ_X12_match_1 g6 v9 = some zr) : fp_0 [62, 63, 64, 65, 66, 67, 68, 69, 70, 79, 80, 81, 82, 84, 85] [(55, 9), (55, 17), (55, 21), (55, 22), (55, 23), (55, 38), (55, 42)] g0 zr := by
  unfold GJ_X12_match_1 at h
  cases h
  exact hf
theorem fF_X12_match {g0 : uZ} {a1 : Int} {g : uZ} {zr : (Int × uZ)} (hf : Fr [62, 63, 64, 65, 66, 67, 68, 69, 70, 79, 80, 81, 82, 84, 85] [(55, 9), (55, 17), (55, 21), (55, 22), (55, 23), (55, 38), (55, 42)] g0 g) (h : GF_X12_match a1 g = some zr) : fp_0 [62, 63, 64, 65, 66, 67, 68, 69, 70, 79, 80, 81, 82, 84, 85] [(55, 9), (55, 17), (55, 21), (55, 22), (55, 23), (55, 38), (55, 42)] g0 zr := by
  unfold GF_X12_match at h
  obtain ⟨_, hf1, h⟩ := pfZ_f hf (by decide) h
  obtain ⟨_, hc, h⟩ := cp_e h
  clear hc
  obtain ⟨_, _, hc, h⟩ := clZ_x h
  have hf2 := Fr.tr hf1 (fF_X12_right Fr.rf hc) (by decide) (by decide)
  clear hc
  replace h := (ck_e h).2
  rcases it_x h with h | h
  · skip
    cases h
    exact hf2
  · skip
    obtain ⟨_, hc, h⟩ := cp_e h
    have hf3 := Fr.tr hf2 (fF_X12_laysMatch Fr.rf hc) (by decide) (by decide)
    clear hc
    replace h := (ck_e h).2
    rcases it_x h with h | h
    · skip
      obtain ⟨_, h⟩ := rdZ_x h
      exact fJ_X12_match_1 hf3 h
    · skip
      exact fJ_X12_match_1 hf3 h
theorem fF_X12_matched {g0 : uZ} {a1 : Int} {g : uZ} {zr : (Int × uZ)} (hf : Fr [62, 63, 64, 65, 66, 67, 68, 69, 70, 79, 80, 81, 82, 84, 85] [(55, 9), (55, 17), (55, 21), (55, 22), (55, 23), (55, 38), (55, 42)] g0 g) (h : GF_X12_matched a1 g = some zr) : fp_0 [62, 63, 64, 65, 66, 67, 68, 69, 70, 79, 80, 81, 82, 84, 85] [(55, 9), (55, 17), (55, 21), (55, 22), (55, 23), (55, 38), (55, 42)] g0 zr := by
  unfold GF_X12_matched at h
  obtain ⟨_, hf1, h⟩ := pfZ_f hf (by decide) h
  obtain ⟨_, hc, h⟩ := cp_e h
  clear hc
  obtain ⟨_, _, hc, h⟩ := clZ_x h
  have hf2 := Fr.tr hf1 (fF_X12_right Fr.rf hc) (by decide) (by decide)
  clear hc
  replace h := (ck_e h).2
  rcases it_x h with h | h
  · skip
    cases h
    exact hf2
  · skip
    obtain ⟨_, hc, h⟩ := cp_e h
    have hf3 := Fr.tr hf2 (fF_X12_laysMatch Fr.rf hc) (by decide) (by decide)
    clear hc
    obtain ⟨_, h⟩ := rdZ_x h
    cases h
    exact hf3
theorem fF_X12_marks {g0 : uZ} {g : uZ} {zr : (Int × uZ)} (hf : Fr [62, 63, 64, 65, 66, 67, 68, 69, 70, 78, 86, 87, 88, 89, 90, 91] [(55, 9), (55, 17), (55, 21), (55, 22), (55, 23), (55, 33), (55, 49)] g0 g) (h : GF_X12_marks g = some zr) : fp_0 [62, 63, 64, 65, 66, 67, 68, 69, 70, 78, 86, 87, 88, 89, 90, 91] [(55, 9), (55, 17), (55, 21), (55, 22), (55, 23), (55, 33), (55, 49)] g0 zr := by
  unfold GF_X12_marks at h
  obtain ⟨_, hf1, h⟩ := pfZ_f hf (by decide) h
  obtain ⟨_, hc, h⟩ := cp_e h
  have hf2 := Fr.tr hf1 (fF_X12_laysMarks Fr.rf hc) (by decide) (by decide)
  clear hc
  cases h
  exact hf2
theorem fJ_X12_mark_1 {g0 : uZ} {g4 : uZ} {v8 : Int} {zr : (Int × uZ)} (hf : Fr [62, 63, 64, 65, 66, 67, 68, 69, 70, 78, 86, 87, 88, 89, 90, 91] [(55, 9), (55, 17), (55, 21), (55, 22), (55, 23), (55, 33), (55, 49)] g0 g4) (h : GJ_X12_mark_1 g4 v8 = some zr) : fp_0 [62, 63, 64, 65, 66, 67, 68, 69, 70, 78, 86, 87, 88, 89, 90, 91] [(55, 9), (55, 17), (55, 21), (55, 22), (55, 23), (55, 33), (55, 49)] g0 zr := by
  unfold GJ_X12_mark_1 at h
  cases h
  exact hf
theorem fF_X12_mark {g0 : uZ} {a1 : Int} {g : uZ} {zr : (Int × uZ)} (hf : Fr [62, 63, 64, 65, 66, 67, 68, 69, 70, 78, 86, 87, 88, 89, 90, 91] [(55, 9), (55, 17), (55, 21), (55, 22), (55, 23), (55, 33), (55, 49)] g0 g) (h : GF_X12_mark a1 g = some zr) : fp_0 [62, 63, 64, 65, 66, 67, 68, 69, 70, 78, 86, 87, 88, 89, 90, 91] [(55, 9), (55, 17), (55, 21), (55, 22), (55, 23), (55, 33), (55, 49)] g0 zr := by
  unfold GF_X12_mark at h
  obtain ⟨_, hf1, h⟩ := pfZ_f hf (by decide) h
  obtain ⟨_, hc, h⟩ := cp_e h
  have hf2 := Fr.tr hf1 (fF_X12_laysMarks Fr.rf hc) (by decide) (by decide)
  clear hc
  obtain ⟨_, hc, h⟩ := cp_e h
  clear hc
  obtain ⟨_, _, hc, h⟩ := clZ_x h
  have hf3 := Fr.tr hf2 (fF_X12_right Fr.rf hc) (by decide) (by decide)
  clear hc
  replace h := (ck_e h).2
  rcases it_x h with h | h
  · skip
    exact fJ_X12_mark_1 hf3 h
  · skip
    obtain ⟨_, h⟩ := rdZ_x h
    exact fJ_X12_mark_1 hf3 h
theorem fJ_X12_near_5 {g0 : uZ} {g2 : uZ} {v17 : Int} {zr : (Int × uZ)} (hf : Fr [62, 63, 64, 65, 66, 67, 68, 69, 70, 78, 86, 87, 88, 89, 90, 91] [(55, 9), (55, 17), (55, 21), (55, 22), (55, 23), (55, 33), (55, 49)] g0 g2) (h : GJ_X12_near_5 g2 v17 = some zr) : fp_0 [62, 63, 64, 65, 66, 67, 68, 69, 70, 78, 86, 87, 88, 89, 90, 91] [(55, 9), (55, 17), (55, 21), (55, 22), (55, 23), (55, 33), (55, 49)] g0 zr := by
  unfold GJ_X12_near_5 at h
  cases h
  exact hf
theorem fC_X12_near_6 {g0 : uZ} {g2 : uZ} {v5 : Int} {zr : (Int × uZ)} (hf : Fr [62, 63, 64, 65, 66, 67, 68, 69, 70, 78, 86, 87, 88, 89, 90, 91] [(55, 9), (55, 17), (55, 21), (55, 22), (55, 23), (55, 33), (55, 49)] g0 g2) (h : GC_X12_near_6 g2 v5 = some zr) : fp_0 [62, 63, 64, 65, 66, 67, 68, 69, 70, 78, 86, 87, 88, 89, 90, 91] [(55, 9), (55, 17), (55, 21), (55, 22), (55, 23), (55, 33), (55, 49)] g0 zr := by
  unfold GC_X12_near_6 at h
  replace h := (ck_e h).2
  rcases it_x h with h | h
  · skip
    exact fJ_X12_near_5 hf h
  · skip
    obtain ⟨_, h⟩ := rdZ_x h
    exact fJ_X12_near_5 hf h
theorem fF_X12_near {g0 : uZ} {a1 : Int} {g : uZ} {zr : (Int × uZ)} (hf : Fr [62, 63, 64, 65, 66, 67, 68, 69, 70, 78, 86, 87, 88, 89, 90, 91] [(55, 9), (55, 17), (55, 21), (55, 22), (55, 23), (55, 33), (55, 49)] g0 g) (h : GF_X12_near a1 g = some zr) : fp_0 [62, 63, 64, 65, 66, 67, 68, 69, 70, 78, 86, 87, 88, 89, 90, 91] [(55, 9), (55, 17), (55, 21), (55, 22), (55, 23), (55, 33), (55, 49)] g0 zr := by
  unfold GF_X12_near at h
  obtain ⟨_, hf1, h⟩ := pfZ_f hf (by decide) h
  obtain ⟨_, hc, h⟩ := cp_e h
  have hf2 := Fr.tr hf1 (fF_X12_laysMarks Fr.rf hc) (by decide) (by decide)
  clear hc
  obtain ⟨z, hz, h⟩ := lp_x (P := (fun _ => True)) (Q := (fun _ => True)) h trivial (fun q r hq h => by rcases r with r | r <;> trivial)
  exact fC_X12_near_6 hf2 h
theorem fB_X12_behind_2 {g0 : uZ} {a1 : Int} {g2 : uZ} {w3 : Int} {zr : (Int ⊕ (Unit ⊕ (Int × uZ)))} (hf : Fr [62, 63, 64, 65, 66, 67, 68, 69, 70, 78, 86, 87, 88, 89, 90, 91] [(55, 9), (55, 17), (55, 21), (55, 22), (55, 23), (55, 33), (55, 49)] g0 g2) (h : GB_X12_behind_2 a1 g2 w3 = some zr) : fp_6 [62, 63, 64, 65, 66, 67, 68, 69, 70, 78, 86, 87, 88, 89, 90, 91] [(55, 9), (55, 17), (55, 21), (55, 22), (55, 23), (55, 33), (55, 49)] g0 zr := by
  unfold GB_X12_behind_2 at h
  replace h := (ck_e h).2
  replace h := (ck_e h).2
  rcases it_x h with h | h
  · skip
    cases h
    trivial
  · skip
    obtain ⟨_, h⟩ := rdZ_x h
    replace h := (ck_e h).2
    replace h := (ck_e h).2
    rcases it_x h with h | h
    · skip
      obtain ⟨_, h⟩ := lt_x h
      cases h
      trivial
    · skip
      obtain ⟨_, h⟩ := rdZ_x h
      cases h
      exact hf
theorem fC_X12_behind_3 {g0 : uZ} {g2 : uZ} {zr : (Int × uZ)} (hf : Fr [62, 63, 64, 65, 66, 67, 68, 69, 70, 78, 86, 87, 88, 89, 90, 91] [(55, 9), (55, 17), (55, 21), (55, 22), (55, 23), (55, 33), (55, 49)] g0 g2) (h : GC_X12_behind_3 g2 = some zr) : fp_0 [62, 63, 64, 65, 66, 67, 68, 69, 70, 78, 86, 87, 88, 89, 90, 91] [(55, 9), (55, 17), (55, 21), (55, 22), (55, 23), (55, 33), (55, 49)] g0 zr := by
  unfold GC_X12_behind_3 at h
  cases h
  exact hf
theorem fF_X12_behind {g0 : uZ} {a1 : Int} {g : uZ} {zr : (Int × uZ)} (hf : Fr [62, 63, 64, 65, 66, 67, 68, 69, 70, 78, 86, 87, 88, 89, 90, 91] [(55, 9), (55, 17), (55, 21), (55, 22), (55, 23), (55, 33), (55, 49)] g0 g) (h : GF_X12_behind a1 g = some zr) : fp_0 [62, 63, 64, 65, 66, 67, 68, 69, 70, 78, 86, 87, 88, 89, 90, 91] [(55, 9), (55, 17), (55, 21), (55, 22), (55, 23), (55, 33), (55, 49)] g0 zr := by
  unfold GF_X12_behind at h
  obtain ⟨_, hf1, h⟩ := pfZ_f hf (by decide) h
  obtain ⟨_, hc, h⟩ := cp_e h
  have hf2 := Fr.tr hf1 (fF_X12_laysMarks Fr.rf hc) (by decide) (by decide)
  clear hc
  obtain ⟨z, hz, h⟩ := lp_x (P := (fun _ => True)) (Q := (fun q => fp_5 [62, 63, 64, 65, 66, 67, 68, 69, 70, 78, 86, 87, 88, 89, 90, 91] [(55, 9), (55, 17), (55, 21), (55, 22), (55, 23), (55, 33), (55, 49)] g0 q)) h trivial (fun q r hq h => by have h9 := fB_X12_behind_2 hf2 h; rcases r with r | r <;> exact h9)
  rcases z with z | z
  · exact fC_X12_behind_3 hf2 h
  · cases h
    exact hz
theorem fC_X12_gaps_8 {g0 : uZ} {a1 : Int} {g6 : uZ} {v13 : Int} {v14 : Int} {v15 : Int} {v16 : Int} {v17 : Int} {zr : (Int × uZ)} (hf : Fr [62, 63, 64, 65, 66, 67, 68, 69, 70, 78, 86, 87, 88, 89, 90, 91] [(55, 9), (55, 17), (55, 21), (55, 22), (55, 23), (55, 33), (55, 49)] g0 g6) (h : GC_X12_gaps_8 a1 g6 v13 v14 v15 v16 v17 = some zr) : fp_0 [62, 63, 64, 65, 66, 67, 68, 69, 70, 78, 86, 87, 88, 89, 90, 91] [(55, 9), (55, 17), (55, 21), (55, 22), (55, 23), (55, 33), (55, 49)] g0 zr := by
  unfold GC_X12_gaps_8 at h
  replace h := (ck_e h).2
  rcases it_x h with h | h
  · skip
    cases h
    exact hf
  · skip
    rcases it_x h with h | h
    · skip
      cases h
      exact hf
    · skip
      rcases it_x h with h | h
      · skip
        cases h
        exact hf
      · skip
        rcases it_x h with h | h
        · skip
          cases h
          exact hf
        · skip
          cases h
          exact hf
theorem fF_X12_gaps {g0 : uZ} {a1 : Int} {g : uZ} {zr : (Int × uZ)} (hf : Fr [62, 63, 64, 65, 66, 67, 68, 69, 70, 78, 86, 87, 88, 89, 90, 91] [(55, 9), (55, 17), (55, 21), (55, 22), (55, 23), (55, 33), (55, 49)] g0 g) (h : GF_X12_gaps a1 g = some zr) : fp_0 [62, 63, 64, 65, 66, 67, 68, 69, 70, 78, 86, 87, 88, 89, 90, 91] [(55, 9), (55, 17), (55, 21), (55, 22), (55, 23), (55, 33), (55, 49)] g0 zr := by
  unfold GF_X12_gaps at h
  obtain ⟨_, hf1, h⟩ := pfZ_f hf (by decide) h
  obtain ⟨_, hc, h⟩ := cp_e h
  clear hc
  obtain ⟨_, _, hc, h⟩ := clZ_x h
  have hf2 := Fr.tr hf1 (fF_X12_right Fr.rf hc) (by decide) (by decide)
  clear hc
  replace h := (ck_e h).2
  rcases it_x h with h | h
  · skip
    cases h
    exact hf2
  · skip
    obtain ⟨_, hc, h⟩ := cp_e h
    have hf3 := Fr.tr hf2 (fF_X12_laysMarks Fr.rf hc) (by decide) (by decide)
    clear hc
    obtain ⟨z, hz, h⟩ := lp_x (P := (fun _ => True)) (Q := (fun _ => True)) h trivial (fun q r hq h => by rcases r with r | r <;> trivial)
    exact fC_X12_gaps_8 hf3 h
theorem fJ_X12_rough_1 {g0 : uZ} {g4 : uZ} {v8 : Int} {zr : (Int × uZ)} (hf : Fr [62, 63, 64, 65, 66, 67, 68, 69, 70, 78, 86, 87, 88, 89, 90, 91] [(55, 9), (55, 17), (55, 21), (55, 22), (55, 23), (55, 33), (55, 49)] g0 g4) (h : GJ_X12_rough_1 g4 v8 = some zr) : fp_0 [62, 63, 64, 65, 66, 67, 68, 69, 70, 78, 86, 87, 88, 89, 90, 91] [(55, 9), (55, 17), (55, 21), (55, 22), (55, 23), (55, 33), (55, 49)] g0 zr := by
  unfold GJ_X12_rough_1 at h
  cases h
  exact hf
theorem fF_X12_rough {g0 : uZ} {a1 : Int} {g : uZ} {zr : (Int × uZ)} (hf : Fr [62, 63, 64, 65, 66, 67, 68, 69, 70, 78, 86, 87, 88, 89, 90, 91] [(55, 9), (55, 17), (55, 21), (55, 22), (55, 23), (55, 33), (55, 49)] g0 g) (h : GF_X12_rough a1 g = some zr) : fp_0 [62, 63, 64, 65, 66, 67, 68, 69, 70, 78, 86, 87, 88, 89, 90, 91] [(55, 9), (55, 17), (55, 21), (55, 22), (55, 23), (55, 33), (55, 49)] g0 zr := by
  unfold GF_X12_rough at h
  obtain ⟨_, hf1, h⟩ := pfZ_f hf (by decide) h
  obtain ⟨_, hc, h⟩ := cp_e h
  have hf2 := Fr.tr hf1 (fF_X12_laysMarks Fr.rf hc) (by decide) (by decide)
  clear hc
  obtain ⟨_, hc, h⟩ := cp_e h
  clear hc
  obtain ⟨_, _, hc, h⟩ := clZ_x h
  have hf3 := Fr.tr hf2 (fF_X12_right Fr.rf hc) (by decide) (by decide)
  clear hc
  replace h := (ck_e h).2
  rcases it_x h with h | h
  · skip
    exact fJ_X12_rough_1 hf3 h
  · skip
    obtain ⟨_, hc, h⟩ := cp_e h
    clear hc
    exact fJ_X12_rough_1 hf3 h
theorem fC_X12_roughest_5 {g0 : uZ} {g2 : uZ} {v5 : Int} {zr : (Int × uZ)} (hf : Fr [62, 63, 64, 65, 66, 67, 68, 69, 70, 78, 86, 87, 88, 89, 90, 91] [(55, 9), (55, 17), (55, 21), (55, 22), (55, 23), (55, 33), (55, 49)] g0 g2) (h : GC_X12_roughest_5 g2 v5 = some zr) : fp_0 [62, 63, 64, 65, 66, 67, 68, 69, 70, 78, 86, 87, 88, 89, 90, 91] [(55, 9), (55, 17), (55, 21), (55, 22), (55, 23), (55, 33), (55, 49)] g0 zr := by
  unfold GC_X12_roughest_5 at h
  cases h
  exact hf
theorem fF_X12_roughest {g0 : uZ} {g : uZ} {zr : (Int × uZ)} (hf : Fr [62, 63, 64, 65, 66, 67, 68, 69, 70, 78, 86, 87, 88, 89, 90, 91] [(55, 9), (55, 17), (55, 21), (55, 22), (55, 23), (55, 33), (55, 49)] g0 g) (h : GF_X12_roughest g = some zr) : fp_0 [62, 63, 64, 65, 66, 67, 68, 69, 70, 78, 86, 87, 88, 89, 90, 91] [(55, 9), (55, 17), (55, 21), (55, 22), (55, 23), (55, 33), (55, 49)] g0 zr := by
  unfold GF_X12_roughest at h
  obtain ⟨_, hf1, h⟩ := pfZ_f hf (by decide) h
  obtain ⟨_, hc, h⟩ := cp_e h
  have hf2 := Fr.tr hf1 (fF_X12_laysMarks Fr.rf hc) (by decide) (by decide)
  clear hc
  obtain ⟨z, hz, h⟩ := lp_x (P := (fun _ => True)) (Q := (fun _ => True)) h trivial (fun q r hq h => by rcases r with r | r <;> trivial)
  exact fC_X12_roughest_5 hf2 h
theorem fJ_X12_mean_4 {g0 : uZ} {g21 : uZ} {v28 : Int} {zr : (Int × uZ)} (hf : Fr [62, 63, 64, 65, 66, 67, 68, 69, 70, 78, 86, 87, 88, 89, 90, 91] [(55, 9), (55, 17), (55, 21), (55, 22), (55, 23), (55, 33), (55, 49)] g0 g21) (h : GJ_X12_mean_4 g21 v28 = some zr) : fp_0 [62, 63, 64, 65, 66, 67, 68, 69, 70, 78, 86, 87, 88, 89, 90, 91] [(55, 9), (55, 17), (55, 21), (55, 22), (55, 23), (55, 33), (55, 49)] g0 zr := by
  unfold GJ_X12_mean_4 at h
  cases h
  exact hf
theorem fC_X12_mean_5 {g0 : uZ} {a1 : Int} {g2 : uZ} {v6 : Int} {v7 : Int} {zr : (Int × uZ)} (hf : Fr [62, 63, 64, 65, 66, 67, 68, 69, 70, 78, 86, 87, 88, 89, 90, 91] [(55, 9), (55, 17), (55, 21), (55, 22), (55, 23), (55, 33), (55, 49)] g0 g2) (h : GC_X12_mean_5 a1 g2 v6 v7 = some zr) : fp_0 [62, 63, 64, 65, 66, 67, 68, 69, 70, 78, 86, 87, 88, 89, 90, 91] [(55, 9), (55, 17), (55, 21), (55, 22), (55, 23), (55, 33), (55, 49)] g0 zr := by
  unfold GC_X12_mean_5 at h
  replace h := (ck_e h).2
  obtain ⟨_, h⟩ := lt_x h
  obtain ⟨_, _, hc, h⟩ := clZ_x h
  have hf1 := Fr.tr hf (fF_X12_right Fr.rf hc) (by decide) (by decide)
  clear hc
  replace h := (ck_e h).2
  rcases it_x h with h | h
  · skip
    cases h
    exact hf1
  · skip
    obtain ⟨_, hc, h⟩ := cp_e h
    clear hc
    replace h := (ck_e h).2
    rcases it_x h with h | h
    · skip
      obtain ⟨_, h⟩ := dvZ_x h
      exact fJ_X12_mean_4 hf1 h
    · skip
      obtain ⟨_, h⟩ := dvZ_x h
      exact fJ_X12_mean_4 hf1 h
theorem fF_X12_mean {g0 : uZ} {a1 : Int} {g : uZ} {zr : (Int × uZ)} (hf : Fr [62, 63, 64, 65, 66, 67, 68, 69, 70, 78, 86, 87, 88, 89, 90, 91] [(55, 9), (55, 17), (55, 21), (55, 22), (55, 23), (55, 33), (55, 49)] g0 g) (h : GF_X12_mean a1 g = some zr) : fp_0 [62, 63, 64, 65, 66, 67, 68, 69, 70, 78, 86, 87, 88, 89, 90, 91] [(55, 9), (55, 17), (55, 21), (55, 22), (55, 23), (55, 33), (55, 49)] g0 zr := by
  unfold GF_X12_mean at h
  obtain ⟨_, hf1, h⟩ := pfZ_f hf (by decide) h
  obtain ⟨_, hc, h⟩ := cp_e h
  have hf2 := Fr.tr hf1 (fF_X12_laysMarks Fr.rf hc) (by decide) (by decide)
  clear hc
  obtain ⟨z, hz, h⟩ := lp_x (P := (fun _ => True)) (Q := (fun _ => True)) h trivial (fun q r hq h => by rcases r with r | r <;> trivial)
  exact fC_X12_mean_5 hf2 h
theorem fJ_X12_anew_7 {g0 : uZ} {g26 : uZ} {zr : (Int × uZ)} (hf : Fr [62, 63, 64, 65, 66, 67, 68, 69, 70, 78, 86, 87, 88, 89, 90, 91] [(55, 9), (55, 17), (55, 21), (55, 22), (55, 23), (55, 33), (55, 49)] g0 g26) (h : GJ_X12_anew_7 g26 = some zr) : fp_0 [62, 63, 64, 65, 66, 67, 68, 69, 70, 78, 86, 87, 88, 89, 90, 91] [(55, 9), (55, 17), (55, 21), (55, 22), (55, 23), (55, 33), (55, 49)] g0 zr := by
  unfold GJ_X12_anew_7 at h
  cases h
  exact hf
theorem fJ_X12_anew_3 {g0 : uZ} {w15 : Int} {zr : (Int ⊕ (Unit ⊕ (Int × uZ)))} (h : GJ_X12_anew_3 w15 = some zr) : fp_6 [62, 63, 64, 65, 66, 67, 68, 69, 70, 78, 86, 87, 88, 89, 90, 91] [(55, 9), (55, 17), (55, 21), (55, 22), (55, 23), (55, 33), (55, 49)] g0 zr := by
  unfold GJ_X12_anew_3 at h
  obtain ⟨_, h⟩ := lt_x h
  cases h
  trivial
theorem fB_X12_anew_4 {g0 : uZ} {a1 : Int} {a2 : Int} {a3 : Int} {g14 : uZ} {w15 : Int} {zr : (Int ⊕ (Unit ⊕ (Int × uZ)))} (hf : Fr [62, 63, 64, 65, 66, 67, 68, 69, 70, 78, 86, 87, 88, 89, 90, 91] [(55, 9), (55, 17), (55, 21), (55, 22), (55, 23), (55, 33), (55, 49)] g0 g14) (h : GB_X12_anew_4 a1 a2 a3 g14 w15 = some zr) : fp_6 [62, 63, 64, 65, 66, 67, 68, 69, 70, 78, 86, 87, 88, 89, 90, 91] [(55, 9), (55, 17), (55, 21), (55, 22), (55, 23), (55, 33), (55, 49)] g0 zr := by
  unfold GB_X12_anew_4 at h
  replace h := (ck_e h).2
  replace h := (ck_e h).2
  rcases it_x h with h | h
  · skip
    cases h
    trivial
  · skip
    obtain ⟨_, hc, h⟩ := cp_e h
    clear hc
    replace h := (ck_e h).2
    rcases it_x h with h | h
    · skip
      exact fJ_X12_anew_3 h
    · skip
      obtain ⟨_, hc, h⟩ := cp_e h
      clear hc
      obtain ⟨_, hc, h⟩ := cp_e h
      clear hc
      obtain ⟨_, hc, h⟩ := cp_e h
      clear hc
      replace h := (ck_e h).2
      rcases it_x h with h | h
      · skip
        exact fJ_X12_anew_3 h
      · skip
        obtain ⟨_, hc, h⟩ := cp_e h
        clear hc
        cases h
        exact hf
theorem fC_X12_anew_5 {g0 : uZ} {a3 : Int} {g14 : uZ} {zr : (Int × uZ)} (hf : Fr [62, 63, 64, 65, 66, 67, 68, 69, 70, 78, 86, 87, 88, 89, 90, 91] [(55, 9), (55, 17), (55, 21), (55, 22), (55, 23), (55, 33), (55, 49)] g0 g14) (h : GC_X12_anew_5 a3 g14 = some zr) : fp_0 [62, 63, 64, 65, 66, 67, 68, 69, 70, 78, 86, 87, 88, 89, 90, 91] [(55, 9), (55, 17), (55, 21), (55, 22), (55, 23), (55, 33), (55, 49)] g0 zr := by
  unfold GC_X12_anew_5 at h
  obtain ⟨_, h⟩ := rdZ_x h
  cases h
  exact hf
theorem fJ_X12_anew_6 {g0 : uZ} {a1 : Int} {a2 : Int} {a3 : Int} {g3 : uZ} {v10 : Int} {zr : (Int × uZ)} (hf : Fr [62, 63, 64, 65, 66, 67, 68, 69, 70, 78, 86, 87, 88, 89, 90, 91] [(55, 9), (55, 17), (55, 21), (55, 22), (55, 23), (55, 33), (55, 49)] g0 g3) (h : GJ_X12_anew_6 a1 a2 a3 g3 v10 = some zr) : fp_0 [62, 63, 64, 65, 66, 67, 68, 69, 70, 78, 86, 87, 88, 89, 90, 91] [(55, 9), (55, 17), (55, 21), (55, 22), (55, 23), (55, 33), (55, 49)] g0 zr := by
  unfold GJ_X12_anew_6 at h
  obtain ⟨_, _, hc, h⟩ := clZ_x h
  have hf1 := Fr.tr hf (fF_X12_right Fr.rf hc) (by decide) (by decide)
  clear hc
  replace h := (ck_e h).2
  rcases it_x h with h | h
  · skip
    exact fJ_X12_anew_7 hf1 h
  · skip
    obtain ⟨_, hc, h⟩ := cp_e h
    have hf2 := Fr.tr hf1 (fF_X12_laysMarks Fr.rf hc) (by decide) (by decide)
    clear hc
    obtain ⟨z, hz, h⟩ := lp_x (P := (fun _ => True)) (Q := (fun q => fp_5 [62, 63, 64, 65, 66, 67, 68, 69, 70, 78, 86, 87, 88, 89, 90, 91] [(55, 9), (55, 17), (55, 21), (55, 22), (55, 23), (55, 33), (55, 49)] g0 q)) h trivial (fun q r hq h => by have h9 := fB_X12_anew_4 hf2 h; rcases r with r | r <;> exact h9)
    rcases z with z | z
    · exact fC_X12_anew_5 hf2 h
    · cases h
      exact hz
theorem fJ_X12_anew_1 {g0 : uZ} {a1 : Int} {a2 : Int} {a3 : Int} {g3 : uZ} {zr : (Int × uZ)} (hf : Fr [62, 63, 64, 65, 66, 67, 68, 69, 70, 78, 86, 87, 88, 89, 90, 91] [(55, 9), (55, 17), (55, 21), (55, 22), (55, 23), (55, 33), (55, 49)] g0 g3) (h : GJ_X12_anew_1 a1 a2 a3 g3 = some zr) : fp_0 [62, 63, 64, 65, 66, 67, 68, 69, 70, 78, 86, 87, 88, 89, 90, 91] [(55, 9), (55, 17), (55, 21), (55, 22), (55, 23), (55, 33), (55, 49)] g0 zr := by
  unfold GJ_X12_anew_1 at h
  exact fJ_X12_anew_6 hf h
theorem fF_X12_anew {g0 : uZ} {a1 : Int} {a2 : Int} {a3 : Int} {g : uZ} {zr : (Int × uZ)} (hf : Fr [62, 63, 64, 65, 66, 67, 68, 69, 70, 78, 86, 87, 88, 89, 90, 91] [(55, 9), (55, 17), (55, 21), (55, 22), (55, 23), (55, 33), (55, 49)] g0 g) (h : GF_X12_anew a1 a2 a3 g = some zr) : fp_0 [62, 63, 64, 65, 66, 67, 68, 69, 70, 78, 86, 87, 88, 89, 90, 91] [(55, 9), (55, 17), (55, 21), (55, 22), (55, 23), (55, 33), (55, 49)] g0 zr := by
  unfold GF_X12_anew at h
  obtain ⟨_, hf1, h⟩ := pfZ_f hf (by decide) h
  obtain ⟨_, hc, h⟩ := cp_e h
  clear hc
  obtain ⟨_, _, hc, h⟩ := clZ_x h
  have hf2 := Fr.tr hf1 (fF_X12_right Fr.rf hc) (by decide) (by decide)
  clear hc
  replace h := (ck_e h).2
  rcases it_x h with h | h
  · skip
    exact fJ_X12_anew_7 hf2 h
  · skip
    obtain ⟨_, hc, h⟩ := cp_e h
    clear hc
    replace h := (ck_e h).2
    rcases it_x h with h | h
    · skip
      exact fJ_X12_anew_1 hf2 h
    · skip
      obtain ⟨_, hc, h⟩ := cp_e h
      clear hc
      replace h := (ck_e h).2
      rcases it_x h with h | h
      · skip
        exact fJ_X12_anew_1 hf2 h
      · skip
        exact fJ_X12_anew_6 hf2 h
theorem fF_X11_sample {g0 : uZ} {a1 : Int} {g : uZ} {zr : ((Int ⊕ Nat) × uZ)} (hf : Fr [] [] g0 g) (h : GF_X11_sample a1 g = some zr) : fp_10 [] [] g0 zr := by
  unfold GF_X11_sample at h
  obtain ⟨_, hc, h⟩ := cp_e h
  clear hc
  replace h := (ck_e h).2
  rcases it_x h with h | h
  · skip
    cases h
    exact hf
  · skip
    obtain ⟨_, hc, h⟩ := cp_e h
    clear hc
    cases h
    exact hf
theorem fJ_X11_count_2 {g0 : uZ} {a1 : Int} {g : uZ} {v3 : Int} {zr : ((Int ⊕ Nat) × uZ)} (hf : Fr [] [] g0 g) (h : GJ_X11_count_2 a1 g v3 = some zr) : fp_10 [] [] g0 zr := by
  unfold GJ_X11_count_2 at h
  replace h := (ck_e h).2
  rcases it_x h with h | h
  · skip
    cases h
    exact hf
  · skip
    replace h := (ck_e h).2
    rcases it_x h with h | h
    · skip
      obtain ⟨_, hc, h⟩ := cp_e h
      clear hc
      cases h
      exact hf
    · skip
      rcases it_x h with h | h
      · skip
        obtain ⟨_, hc, h⟩ := cp_e h
        clear hc
        cases h
        exact hf
      · skip
        rcases it_x h with h | h
        · skip
          obtain ⟨_, hc, h⟩ := cp_e h
          clear hc
          cases h
          exact hf
        · skip
          rcases it_x h with h | h
          · skip
            obtain ⟨_, hc, h⟩ := cp_e h
            clear hc
            cases h
            exact hf
          · skip
            obtain ⟨_, hc, h⟩ := cp_e h
            clear hc
            cases h
            exact hf
theorem fJ_X11_count_1 {g0 : uZ} {a1 : Int} {g : uZ} {zr : ((Int ⊕ Nat) × uZ)} (hf : Fr [] [] g0 g) (h : GJ_X11_count_1 a1 g = some zr) : fp_10 [] [] g0 zr := by
  unfold GJ_X11_count_1 at h
  exact fJ_X11_count_2 hf h
theorem fF_X11_count {g0 : uZ} {a1 : Int} {g : uZ} {zr : ((Int ⊕ Nat) × uZ)} (hf : Fr [] [] g0 g) (h : GF_X11_count a1 g = some zr) : fp_10 [] [] g0 zr := by
  unfold GF_X11_count at h
  replace h := (ck_e h).2
  rcases it_x h with h | h
  · skip
    exact fJ_X11_count_1 hf h
  · skip
    rcases it_x h with h | h
    · skip
      exact fJ_X11_count_1 hf h
    · skip
      exact fJ_X11_count_2 hf h
theorem fJ_X11_diff_2 {g0 : uZ} {a1 : Int} {a2 : Int} {g : uZ} {v5 : Int} {zr : ((Int ⊕ Nat) × uZ)} (hf : Fr [7, 8, 9, 10] [] g0 g) (h : GJ_X11_diff_2 a1 a2 g v5 = some zr) : fp_10 [7, 8, 9, 10] [] g0 zr := by
  unfold GJ_X11_diff_2 at h
  replace h := (ck_e h).2
  rcases it_x h with h | h
  · skip
    cases h
    exact hf
  · skip
    obtain ⟨_, hc, h⟩ := cp_e h
    have hf1 := Fr.tr hf (fF_X2_measure Fr.rf hc) (by decide) (by decide)
    clear hc
    obtain ⟨_, hc, h⟩ := cp_e h
    clear hc
    cases h
    exact hf1
theorem fJ_X11_diff_1 {g0 : uZ} {a1 : Int} {a2 : Int} {g : uZ} {zr : ((Int ⊕ Nat) × uZ)} (hf : Fr [7, 8, 9, 10] [] g0 g) (h : GJ_X11_diff_1 a1 a2 g = some zr) : fp_10 [7, 8, 9, 10] [] g0 zr := by
  unfold GJ_X11_diff_1 at h
  exact fJ_X11_diff_2 hf h
theorem fF_X11_diff {g0 : uZ} {a1 : Int} {a2 : Int} {g : uZ} {zr : ((Int ⊕ Nat) × uZ)} (hf : Fr [7, 8, 9, 10] [] g0 g) (h : GF_X11_diff a1 a2 g = some zr) : fp_10 [7, 8, 9, 10] [] g0 zr := by
  unfold GF_X11_diff at h
  obtain ⟨_, hc, h⟩ := cp_e h
  clear hc
  replace h := (ck_e h).2
  rcases it_x h with h | h
  · skip
    exact fJ_X11_diff_1 hf h
  · skip
    obtain ⟨_, hc, h⟩ := cp_e h
    clear hc
    replace h := (ck_e h).2
    rcases it_x h with h | h
    · skip
      exact fJ_X11_diff_1 hf h
    · skip
      exact fJ_X11_diff_2 hf h
theorem fJ_X11_rel_2 {g0 : uZ} {a1 : Int} {a2 : Int} {g : uZ} {v5 : Int} {zr : ((Int ⊕ Nat) × uZ)} (hf : Fr [7, 8, 9, 10] [] g0 g) (h : GJ_X11_rel_2 a1 a2 g v5 = some zr) : fp_10 [7, 8, 9, 10] [] g0 zr := by
  unfold GJ_X11_rel_2 at h
  replace h := (ck_e h).2
  rcases it_x h with h | h
  · skip
    cases h
    exact hf
  · skip
    obtain ⟨_, hc, h⟩ := cp_e h
    have hf1 := Fr.tr hf (fF_X2_measure Fr.rf hc) (by decide) (by decide)
    clear hc
    obtain ⟨_, hc, h⟩ := cp_e h
    clear hc
    cases h
    exact hf1
theorem fJ_X11_rel_1 {g0 : uZ} {a1 : Int} {a2 : Int} {g : uZ} {zr : ((Int ⊕ Nat) × uZ)} (hf : Fr [7, 8, 9, 10] [] g0 g) (h : GJ_X11_rel_1 a1 a2 g = some zr) : fp_10 [7, 8, 9, 10] [] g0 zr := by
  unfold GJ_X11_rel_1 at h
  exact fJ_X11_rel_2 hf h
theorem fF_X11_rel {g0 : uZ} {a1 : Int} {a2 : Int} {g : uZ} {zr : ((Int ⊕ Nat) × uZ)} (hf : Fr [7, 8, 9, 10] [] g0 g) (h : GF_X11_rel a1 a2 g = some zr) : fp_10 [7, 8, 9, 10] [] g0 zr := by
  unfold GF_X11_rel at h
  obtain ⟨_, hc, h⟩ := cp_e h
  clear hc
  replace h := (ck_e h).2
  rcases it_x h with h | h
  · skip
    exact fJ_X11_rel_1 hf h
  · skip
    obtain ⟨_, hc, h⟩ := cp_e h
    clear hc
    replace h := (ck_e h).2
    rcases it_x h with h | h
    · skip
      exact fJ_X11_rel_1 hf h
    · skip
      exact fJ_X11_rel_2 hf h
theorem fF_X11_loud {g0 : uZ} {a1 : Int} {g : uZ} {zr : ((Int ⊕ Nat) × uZ)} (hf : Fr [7, 8, 9, 10] [] g0 g) (h : GF_X11_loud a1 g = some zr) : fp_10 [7, 8, 9, 10] [] g0 zr := by
  unfold GF_X11_loud at h
  obtain ⟨_, hc, h⟩ := cp_e h
  clear hc
  replace h := (ck_e h).2
  rcases it_x h with h | h
  · skip
    cases h
    exact hf
  · skip
    obtain ⟨_, hc, h⟩ := cp_e h
    have hf1 := Fr.tr hf (fF_X2_measure Fr.rf hc) (by decide) (by decide)
    clear hc
    obtain ⟨_, hc, h⟩ := cp_e h
    clear hc
    cases h
    exact hf1
theorem fF_X11_candidates {g0 : uZ} {a1 : Int} {g : uZ} {zr : ((Int ⊕ Nat) × uZ)} (hf : Fr [7, 8, 9, 10, 12, 13, 14, 15, 19, 20, 21, 22, 23, 24, 35, 36, 37, 39, 40, 41, 42, 43] [(0, 10), (11, 6), (16, 12), (17, 0), (17, 1), (17, 2), (34, 6), (38, 6), (38, 7), (38, 8), (38, 9)] g0 g) (h : GF_X11_candidates a1 g = some zr) : fp_10 [7, 8, 9, 10, 12, 13, 14, 15, 19, 20, 21, 22, 23, 24, 35, 36, 37, 39, 40, 41, 42, 43] [(0, 10), (11, 6), (16, 12), (17, 0), (17, 1), (17, 2), (34, 6), (38, 6), (38, 7), (38, 8), (38, 9)] g0 zr := by
  unfold GF_X11_candidates at h
  obtain ⟨_, hc, h⟩ := cp_e h
  clear hc
  replace h := (ck_e h).2
  rcases it_x h with h | h
  · skip
    cases h
    exact hf
  · skip
    obtain ⟨_, hc, h⟩ := cp_e h
    have hf1 := Fr.tr hf (fF_X11_findPath Fr.rf hc) (by decide) (by decide)
    clear hc
    obtain ⟨_, hc, h⟩ := cp_e h
    clear hc
    cases h
    exact hf1
theorem fJ_X11_candidate_2 {g0 : uZ} {a1 : Int} {a2 : Int} {a3 : Int} {g1 : uZ} {v6 : Int} {zr : ((Int ⊕ Nat) × uZ)} (hf : Fr [7, 8, 9, 10, 12, 13, 14, 15, 19, 20, 21, 22, 23, 24, 35, 36, 37, 39, 40, 41, 42, 43] [(0, 10), (11, 6), (16, 12), (17, 0), (17, 1), (17, 2), (34, 6), (38, 6), (38, 7), (38, 8), (38, 9)] g0 g1) (h : GJ_X11_candidate_2 a1 a2 a3 g1 v6 = some zr) : fp_10 [7, 8, 9, 10, 12, 13, 14, 15, 19, 20, 21, 22, 23, 24, 35, 36, 37, 39, 40, 41, 42, 43] [(0, 10), (11, 6), (16, 12), (17, 0), (17, 1), (17, 2), (34, 6), (38, 6), (38, 7), (38, 8), (38, 9)] g0 zr := by
  unfold GJ_X11_candidate_2 at h
  replace h := (ck_e h).2
  rcases it_x h with h | h
  · skip
    cases h
    exact hf
  · skip
    replace h := (ck_e h).2
    rcases it_x h with h | h
    · skip
      obtain ⟨_, hc, h⟩ := cp_e h
      clear hc
      cases h
      exact hf
    · skip
      rcases it_x h with h | h
      · skip
        obtain ⟨_, hc, h⟩ := cp_e h
        clear hc
        cases h
        exact hf
      · skip
        rcases it_x h with h | h
        · skip
          obtain ⟨_, hc, h⟩ := cp_e h
          clear hc
          cases h
          exact hf
        · skip
          obtain ⟨_, hc, h⟩ := cp_e h
          clear hc
          cases h
          exact hf
theorem fJ_X11_candidate_1 {g0 : uZ} {a1 : Int} {a2 : Int} {a3 : Int} {g1 : uZ} {zr : ((Int ⊕ Nat) × uZ)} (hf : Fr [7, 8, 9, 10, 12, 13, 14, 15, 19, 20, 21, 22, 23, 24, 35, 36, 37, 39, 40, 41, 42, 43] [(0, 10), (11, 6), (16, 12), (17, 0), (17, 1), (17, 2), (34, 6), (38, 6), (38, 7), (38, 8), (38, 9)] g0 g1) (h : GJ_X11_candidate_1 a1 a2 a3 g1 = some zr) : fp_10 [7, 8, 9, 10, 12, 13, 14, 15, 19, 20, 21, 22, 23, 24, 35, 36, 37, 39, 40, 41, 42, 43] [(0, 10), (11, 6), (16, 12), (17, 0), (17, 1), (17, 2), (34, 6), (38, 6), (38, 7), (38, 8), (38, 9)] g0 zr := by
  unfold GJ_X11_candidate_1 at h
  exact fJ_X11_candidate_2 hf h
theorem fF_X11_candidate {g0 : uZ} {a1 : Int} {a2 : Int} {a3 : Int} {g : uZ} {zr : ((Int ⊕ Nat) × uZ)} (hf : Fr [7, 8, 9, 10, 12, 13, 14, 15, 19, 20, 21, 22, 23, 24, 35, 36, 37, 39, 40, 41, 42, 43] [(0, 10), (11, 6), (16, 12), (17, 0), (17, 1), (17, 2), (34, 6), (38, 6), (38, 7), (38, 8), (38, 9)] g0 g) (h : GF_X11_candidate a1 a2 a3 g = some zr) : fp_10 [7, 8, 9, 10, 12, 13, 14, 15, 19, 20, 21, 22, 23, 24, 35, 36, 37, 39, 40, 41, 42, 43] [(0, 10), (11, 6), (16, 12), (17, 0), (17, 1), (17, 2), (34, 6), (38, 6), (38, 7), (38, 8), (38, 9)] g0 zr := by
  unfold GF_X11_candidate at h
  obtain ⟨_, hc, h⟩ := cp_e h
  have hf1 := Fr.tr hf (fF_X11_findPath Fr.rf hc) (by decide) (by decide)
  clear hc
  obtain ⟨_, hc, h⟩ := cp_e h
  clear hc
  replace h := (ck_e h).2
  rcases it_x h with h | h
  · skip
    cases h
    exact hf1
  · skip
    replace h := (ck_e h).2
    rcases it_x h with h | h
    · skip
      exact fJ_X11_candidate_1 hf1 h
    · skip
      rcases it_x h with h | h
      · skip
        exact fJ_X11_candidate_1 hf1 h
      · skip
        exact fJ_X11_candidate_2 hf1 h
theorem fJ_X11_fine_1 {g0 : uZ} {g1 : uZ} {v17 : Int} {zr : ((Int ⊕ Nat) × uZ)} (hf : Fr [7, 8, 9, 10, 12, 13, 14, 15, 19, 20, 21, 22, 23, 24, 35, 36, 37, 39, 40, 41, 42, 43] [(0, 10), (11, 6), (16, 12), (17, 0), (17, 1), (17, 2), (34, 6), (38, 6), (38, 7), (38, 8), (38, 9)] g0 g1) (h : GJ_X11_fine_1 g1 v17 = some zr) : fp_10 [7, 8, 9, 10, 12, 13, 14, 15, 19, 20, 21, 22, 23, 24, 35, 36, 37, 39, 40, 41, 42, 43] [(0, 10), (11, 6), (16, 12), (17, 0), (17, 1), (17, 2), (34, 6), (38, 6), (38, 7), (38, 8), (38, 9)] g0 zr := by
  unfold GJ_X11_fine_1 at h
  cases h
  exact hf
theorem fF_X11_fine {g0 : uZ} {a1 : Int} {a2 : Int} {a3 : Int} {g : uZ} {zr : ((Int ⊕ Nat) × uZ)} (hf : Fr [7, 8, 9, 10, 12, 13, 14, 15, 19, 20, 21, 22, 23, 24, 35, 36, 37, 39, 40, 41, 42, 43] [(0, 10), (11, 6), (16, 12), (17, 0), (17, 1), (17, 2), (34, 6), (38, 6), (38, 7), (38, 8), (38, 9)] g0 g) (h : GF_X11_fine a1 a2 a3 g = some zr) : fp_10 [7, 8, 9, 10, 12, 13, 14, 15, 19, 20, 21, 22, 23, 24, 35, 36, 37, 39, 40, 41, 42, 43] [(0, 10), (11, 6), (16, 12), (17, 0), (17, 1), (17, 2), (34, 6), (38, 6), (38, 7), (38, 8), (38, 9)] g0 zr := by
  unfold GF_X11_fine at h
  obtain ⟨_, hc, h⟩ := cp_e h
  have hf1 := Fr.tr hf (fF_X11_findPath Fr.rf hc) (by decide) (by decide)
  clear hc
  obtain ⟨_, hc, h⟩ := cp_e h
  clear hc
  replace h := (ck_e h).2
  rcases it_x h with h | h
  · skip
    cases h
    exact hf1
  · skip
    obtain ⟨_, hc, h⟩ := cp_e h
    clear hc
    replace h := (ck_e h).2
    obtain ⟨_, h⟩ := lt_x h
    replace h := (ck_e h).2
    rcases it_x h with h | h
    · skip
      cases h
      exact hf1
    · skip
      obtain ⟨_, hc, h⟩ := cp_e h
      clear hc
      obtain ⟨_, hc, h⟩ := cp_e h
      clear hc
      obtain ⟨_, hc, h⟩ := cp_e h
      clear hc
      obtain ⟨_, h⟩ := lt_x h
      replace h := (ck_e h).2
      rcases it_x h with h | h
      · skip
        replace h := (ck_e h).2
        obtain ⟨_, h⟩ := lt_x h
        cases h
        exact hf1
      · skip
        obtain ⟨_, h⟩ := lt_x h
        rcases it_x h with h | h
        · skip
          obtain ⟨_, hc, h⟩ := cp_e h
          clear hc
          exact fJ_X11_fine_1 hf1 h
        · skip
          obtain ⟨_, hc, h⟩ := cp_e h
          clear hc
          exact fJ_X11_fine_1 hf1 h
theorem fJ_X11_cost_2 {g0 : uZ} {a1 : Int} {g : uZ} {v3 : Int} {zr : ((Int ⊕ Nat) × uZ)} (hf : Fr [7, 8, 9, 10, 12, 13, 14, 15, 19, 20, 21, 22, 23, 24, 35, 36, 37, 39, 40, 41, 42, 43] [(0, 10), (11, 6), (16, 12), (17, 0), (17, 1), (17, 2), (18, 0), (18, 1), (18, 2), (34, 6), (38, 6), (38, 7), (38, 8), (38, 9)] g0 g) (h : GJ_X11_cost_2 a1 g v3 = some zr) : fp_10 [7, 8, 9, 10, 12, 13, 14, 15, 19, 20, 21, 22, 23, 24, 35, 36, 37, 39, 40, 41, 42, 43] [(0, 10), (11, 6), (16, 12), (17, 0), (17, 1), (17, 2), (18, 0), (18, 1), (18, 2), (34, 6), (38, 6), (38, 7), (38, 8), (38, 9)] g0 zr := by
  unfold GJ_X11_cost_2 at h
  replace h := (ck_e h).2
  rcases it_x h with h | h
  · skip
    cases h
    exact hf
  · skip
    obtain ⟨_, hc, h⟩ := cp_e h
    have hf1 := Fr.tr hf (fF_X11_findPath Fr.rf hc) (by decide) (by decide)
    clear hc
    obtain ⟨_, _, hc, h⟩ := clZ_x h
    have hf2 := Fr.tr hf1 (fF_X5_priceOf Fr.rf hc) (by decide) (by decide)
    clear hc
    cases h
    exact hf2
theorem fJ_X11_cost_1 {g0 : uZ} {a1 : Int} {g : uZ} {zr : ((Int ⊕ Nat) × uZ)} (hf : Fr [7, 8, 9, 10, 12, 13, 14, 15, 19, 20, 21, 22, 23, 24, 35, 36, 37, 39, 40, 41, 42, 43] [(0, 10), (11, 6), (16, 12), (17, 0), (17, 1), (17, 2), (18, 0), (18, 1), (18, 2), (34, 6), (38, 6), (38, 7), (38, 8), (38, 9)] g0 g) (h : GJ_X11_cost_1 a1 g = some zr) : fp_10 [7, 8, 9, 10, 12, 13, 14, 15, 19, 20, 21, 22, 23, 24, 35, 36, 37, 39, 40, 41, 42, 43] [(0, 10), (11, 6), (16, 12), (17, 0), (17, 1), (17, 2), (18, 0), (18, 1), (18, 2), (34, 6), (38, 6), (38, 7), (38, 8), (38, 9)] g0 zr := by
  unfold GJ_X11_cost_1 at h
  exact fJ_X11_cost_2 hf h
theorem fF_X11_cost {g0 : uZ} {a1 : Int} {g : uZ} {zr : ((Int ⊕ Nat) × uZ)} (hf : Fr [7, 8, 9, 10, 12, 13, 14, 15, 19, 20, 21, 22, 23, 24, 35, 36, 37, 39, 40, 41, 42, 43] [(0, 10), (11, 6), (16, 12), (17, 0), (17, 1), (17, 2), (18, 0), (18, 1), (18, 2), (34, 6), (38, 6), (38, 7), (38, 8), (38, 9)] g0 g) (h : GF_X11_cost a1 g = some zr) : fp_10 [7, 8, 9, 10, 12, 13, 14, 15, 19, 20, 21, 22, 23, 24, 35, 36, 37, 39, 40, 41, 42, 43] [(0, 10), (11, 6), (16, 12), (17, 0), (17, 1), (17, 2), (18, 0), (18, 1), (18, 2), (34, 6), (38, 6), (38, 7), (38, 8), (38, 9)] g0 zr := by
  unfold GF_X11_cost at h
  replace h := (ck_e h).2
  rcases it_x h with h | h
  · skip
    exact fJ_X11_cost_1 hf h
  · skip
    rcases it_x h with h | h
    · skip
      exact fJ_X11_cost_1 hf h
    · skip
      exact fJ_X11_cost_2 hf h
theorem fF_X11_path {g0 : uZ} {a1 : Int} {g : uZ} {zr : ((Int ⊕ Nat) × uZ)} (hf : Fr [7, 8, 9, 10, 12, 13, 14, 15, 19, 20, 21, 22, 23, 24, 35, 36, 37, 39, 40, 41, 42, 43] [(0, 10), (11, 6), (16, 12), (17, 0), (17, 1), (17, 2), (34, 6), (38, 6), (38, 7), (38, 8), (38, 9)] g0 g) (h : GF_X11_path a1 g = some zr) : fp_10 [7, 8, 9, 10, 12, 13, 14, 15, 19, 20, 21, 22, 23, 24, 35, 36, 37, 39, 40, 41, 42, 43] [(0, 10), (11, 6), (16, 12), (17, 0), (17, 1), (17, 2), (34, 6), (38, 6), (38, 7), (38, 8), (38, 9)] g0 zr := by
  unfold GF_X11_path at h
  obtain ⟨_, hc, h⟩ := cp_e h
  clear hc
  replace h := (ck_e h).2
  rcases it_x h with h | h
  · skip
    cases h
    exact hf
  · skip
    obtain ⟨_, hc, h⟩ := cp_e h
    have hf1 := Fr.tr hf (fF_X11_findPath Fr.rf hc) (by decide) (by decide)
    clear hc
    obtain ⟨_, hc, h⟩ := cp_e h
    clear hc
    cases h
    exact hf1
theorem fF_X11_lag {g0 : uZ} {a1 : Int} {g : uZ} {zr : ((Int ⊕ Nat) × uZ)} (hf : Fr [7, 8, 9, 10, 12, 13, 14, 15, 19, 20, 21, 22, 23, 24, 35, 36, 37, 39, 40, 41, 42, 43] [(0, 10), (11, 6), (16, 12), (17, 0), (17, 1), (17, 2), (34, 6), (38, 6), (38, 7), (38, 8), (38, 9)] g0 g) (h : GF_X11_lag a1 g = some zr) : fp_10 [7, 8, 9, 10, 12, 13, 14, 15, 19, 20, 21, 22, 23, 24, 35, 36, 37, 39, 40, 41, 42, 43] [(0, 10), (11, 6), (16, 12), (17, 0), (17, 1), (17, 2), (34, 6), (38, 6), (38, 7), (38, 8), (38, 9)] g0 zr := by
  unfold GF_X11_lag at h
  obtain ⟨_, hc, h⟩ := cp_e h
  clear hc
  replace h := (ck_e h).2
  rcases it_x h with h | h
  · skip
    cases h
    exact hf
  · skip
    obtain ⟨_, hc, h⟩ := cp_e h
    have hf1 := Fr.tr hf (fF_X11_findPath Fr.rf hc) (by decide) (by decide)
    clear hc
    obtain ⟨_, hc, h⟩ := cp_e h
    clear hc
    cases h
    exact hf1
theorem fF_X11_through {g0 : uZ} {a1 : Int} {a2 : Int} {g : uZ} {zr : ((Int ⊕ Nat) × uZ)} (hf : Fr [7, 8, 9, 10, 12, 13, 14, 15, 19, 20, 21, 22, 23, 24, 35, 36, 37, 39, 40, 41, 42, 43] [(0, 10), (11, 6), (16, 12), (17, 0), (17, 1), (17, 2), (34, 6), (38, 6), (38, 7), (38, 8), (38, 9)] g0 g) (h : GF_X11_through a1 a2 g = some zr) : fp_10 [7, 8, 9, 10, 12, 13, 14, 15, 19, 20, 21, 22, 23, 24, 35, 36, 37, 39, 40, 41, 42, 43] [(0, 10), (11, 6), (16, 12), (17, 0), (17, 1), (17, 2), (34, 6), (38, 6), (38, 7), (38, 8), (38, 9)] g0 zr := by
  unfold GF_X11_through at h
  obtain ⟨_, hc, h⟩ := cp_e h
  have hf1 := Fr.tr hf (fF_X11_findPath Fr.rf hc) (by decide) (by decide)
  clear hc
  obtain ⟨_, hc, h⟩ := cp_e h
  clear hc
  replace h := (ck_e h).2
  rcases it_x h with h | h
  · skip
    cases h
    exact hf1
  · skip
    obtain ⟨_, hc, h⟩ := cp_e h
    clear hc
    cases h
    exact hf1
theorem fF_X11_both {g0 : uZ} {a1 : Int} {a2 : Int} {a3 : Int} {a4 : Int} {g : uZ} {zr : ((Int ⊕ Nat) × uZ)} (hf : Fr [7, 8, 9, 10, 12, 13, 14, 15, 19, 20, 21, 22, 23, 24, 25, 26, 35, 36, 37, 39, 40, 41, 42, 43] [(0, 10), (11, 6), (16, 12), (17, 0), (17, 1), (17, 2), (34, 6), (38, 6), (38, 7), (38, 8), (38, 9)] g0 g) (h : GF_X11_both a1 a2 a3 a4 g = some zr) : fp_10 [7, 8, 9, 10, 12, 13, 14, 15, 19, 20, 21, 22, 23, 24, 25, 26, 35, 36, 37, 39, 40, 41, 42, 43] [(0, 10), (11, 6), (16, 12), (17, 0), (17, 1), (17, 2), (34, 6), (38, 6), (38, 7), (38, 8), (38, 9)] g0 zr := by
  unfold GF_X11_both at h
  obtain ⟨_, hc, h⟩ := cp_e h
  have hf1 := Fr.tr hf (fF_X11_findPath Fr.rf hc) (by decide) (by decide)
  clear hc
  obtain ⟨_, hc, h⟩ := cp_e h
  clear hc
  replace h := (ck_e h).2
  rcases it_x h with h | h
  · skip
    cases h
    exact hf1
  · skip
    obtain ⟨_, hc, h⟩ := cp_e h
    clear hc
    replace h := (ck_e h).2
    rcases it_x h with h | h
    · skip
      cases h
      exact hf1
    · skip
      replace h := (ck_e h).2
      replace h := (ck_e h).2
      obtain ⟨_, h⟩ := lt_x h
      replace h := (ck_e h).2
      rcases it_x h with h | h
      · skip
        cases h
        exact hf1
      · skip
        obtain ⟨_, _, hc, h⟩ := clZ_x h
        have hf2 := Fr.tr hf1 (fF_X5_leastThroughTwo Fr.rf hc) (by decide) (by decide)
        clear hc
        cases h
        exact hf2
theorem fJ_X11_live_2 {g0 : uZ} {a1 : Int} {a2 : Int} {g3 : uZ} {v6 : Int} {zr : ((Int ⊕ Nat) × uZ)} (hf : Fr [7, 8, 9, 10, 12, 13, 14, 15, 19, 20, 21, 22, 23, 24, 35, 36, 37, 39, 40, 41, 42, 43] [(0, 10), (11, 6), (16, 12), (17, 0), (17, 1), (17, 2), (34, 6), (38, 6), (38, 7), (38, 8), (38, 9)] g0 g3) (h : GJ_X11_live_2 a1 a2 g3 v6 = some zr) : fp_10 [7, 8, 9, 10, 12, 13, 14, 15, 19, 20, 21, 22, 23, 24, 35, 36, 37, 39, 40, 41, 42, 43] [(0, 10), (11, 6), (16, 12), (17, 0), (17, 1), (17, 2), (34, 6), (38, 6), (38, 7), (38, 8), (38, 9)] g0 zr := by
  unfold GJ_X11_live_2 at h
  replace h := (ck_e h).2
  rcases it_x h with h | h
  · skip
    cases h
    exact hf
  · skip
    obtain ⟨_, hc, h⟩ := cp_e h
    clear hc
    cases h
    exact hf
theorem fJ_X11_live_1 {g0 : uZ} {a1 : Int} {a2 : Int} {g3 : uZ} {zr : ((Int ⊕ Nat) × uZ)} (hf : Fr [7, 8, 9, 10, 12, 13, 14, 15, 19, 20, 21, 22, 23, 24, 35, 36, 37, 39, 40, 41, 42, 43] [(0, 10), (11, 6), (16, 12), (17, 0), (17, 1), (17, 2), (34, 6), (38, 6), (38, 7), (38, 8), (38, 9)] g0 g3) (h : GJ_X11_live_1 a1 a2 g3 = some zr) : fp_10 [7, 8, 9, 10, 12, 13, 14, 15, 19, 20, 21, 22, 23, 24, 35, 36, 37, 39, 40, 41, 42, 43] [(0, 10), (11, 6), (16, 12), (17, 0), (17, 1), (17, 2), (34, 6), (38, 6), (38, 7), (38, 8), (38, 9)] g0 zr := by
  unfold GJ_X11_live_1 at h
  exact fJ_X11_live_2 hf h
theorem fF_X11_live {g0 : uZ} {a1 : Int} {a2 : Int} {g : uZ} {zr : ((Int ⊕ Nat) × uZ)} (hf : Fr [7, 8, 9, 10, 12, 13, 14, 15, 19, 20, 21, 22, 23, 24, 35, 36, 37, 39, 40, 41, 42, 43] [(0, 10), (11, 6), (16, 12), (17, 0), (17, 1), (17, 2), (34, 6), (38, 6), (38, 7), (38, 8), (38, 9)] g0 g) (h : GF_X11_live a1 a2 g = some zr) : fp_10 [7, 8, 9, 10, 12, 13, 14, 15, 19, 20, 21, 22, 23, 24, 35, 36, 37, 39, 40, 41, 42, 43] [(0, 10), (11, 6), (16, 12), (17, 0), (17, 1), (17, 2), (34, 6), (38, 6), (38, 7), (38, 8), (38, 9)] g0 zr := by
  unfold GF_X11_live at h
  obtain ⟨_, hc, h⟩ := cp_e h
  clear hc
  replace h := (ck_e h).2
  rcases it_x h with h | h
  · skip
    cases h
    exact hf
  · skip
    obtain ⟨_, hc, h⟩ := cp_e h
    have hf1 := Fr.tr hf (fF_X11_findPath Fr.rf hc) (by decide) (by decide)
    clear hc
    replace h := (ck_e h).2
    rcases it_x h with h | h
    · skip
      exact fJ_X11_live_1 hf1 h
    · skip
      rcases it_x h with h | h
      · skip
        exact fJ_X11_live_1 hf1 h
      · skip
        exact fJ_X11_live_2 hf1 h
theorem fC_X11_settles_3 {g0 : uZ} {g3 : uZ} {v6 : Int} {zr : ((Int ⊕ Nat) × uZ)} (hf : Fr [7, 8, 9, 10, 12, 13, 14, 15, 19, 20, 21, 22, 23, 24, 35, 36, 37, 39, 40, 41, 42, 43] [(0, 10), (11, 6), (16, 12), (17, 0), (17, 1), (17, 2), (34, 6), (38, 6), (38, 7), (38, 8), (38, 9)] g0 g3) (h : GC_X11_settles_3 g3 v6 = some zr) : fp_10 [7, 8, 9, 10, 12, 13, 14, 15, 19, 20, 21, 22, 23, 24, 35, 36, 37, 39, 40, 41, 42, 43] [(0, 10), (11, 6), (16, 12), (17, 0), (17, 1), (17, 2), (34, 6), (38, 6), (38, 7), (38, 8), (38, 9)] g0 zr := by
  unfold GC_X11_settles_3 at h
  cases h
  exact hf
theorem fF_X11_settles {g0 : uZ} {a1 : Int} {g : uZ} {zr : ((Int ⊕ Nat) × uZ)} (hf : Fr [7, 8, 9, 10, 12, 13, 14, 15, 19, 20, 21, 22, 23, 24, 35, 36, 37, 39, 40, 41, 42, 43] [(0, 10), (11, 6), (16, 12), (17, 0), (17, 1), (17, 2), (34, 6), (38, 6), (38, 7), (38, 8), (38, 9)] g0 g) (h : GF_X11_settles a1 g = some zr) : fp_10 [7, 8, 9, 10, 12, 13, 14, 15, 19, 20, 21, 22, 23, 24, 35, 36, 37, 39, 40, 41, 42, 43] [(0, 10), (11, 6), (16, 12), (17, 0), (17, 1), (17, 2), (34, 6), (38, 6), (38, 7), (38, 8), (38, 9)] g0 zr := by
  unfold GF_X11_settles at h
  obtain ⟨_, hc, h⟩ := cp_e h
  clear hc
  replace h := (ck_e h).2
  rcases it_x h with h | h
  · skip
    cases h
    exact hf
  · skip
    obtain ⟨_, hc, h⟩ := cp_e h
    have hf1 := Fr.tr hf (fF_X11_findPath Fr.rf hc) (by decide) (by decide)
    clear hc
    obtain ⟨_, hc, h⟩ := cp_e h
    clear hc
    obtain ⟨z, hz, h⟩ := lp_x (P := (fun _ => True)) (Q := (fun _ => True)) h trivial (fun q r hq h => by rcases r with r | r <;> trivial)
    exact fC_X11_settles_3 hf1 h
theorem fJ_X11_best_2 {g0 : uZ} {a1 : Int} {g : uZ} {v3 : Int} {zr : ((Int ⊕ Nat) × uZ)} (hf : Fr [7, 8, 9, 10, 12, 13, 14, 15, 19, 20, 21, 22, 23, 24, 29, 30, 31, 32, 33, 35, 36, 37, 39, 40, 41, 42, 43] [(0, 10), (0, 11), (11, 6), (16, 12), (17, 0), (17, 1), (17, 2), (28, 0), (28, 1), (28, 2), (34, 6), (38, 6), (38, 7), (38, 8), (38, 9)] g0 g) (h : GJ_X11_best_2 a1 g v3 = some zr) : fp_10 [7, 8, 9, 10, 12, 13, 14, 15, 19, 20, 21, 22, 23, 24, 29, 30, 31, 32, 33, 35, 36, 37, 39, 40, 41, 42, 43] [(0, 10), (0, 11), (11, 6), (16, 12), (17, 0), (17, 1), (17, 2), (28, 0), (28, 1), (28, 2), (34, 6), (38, 6), (38, 7), (38, 8), (38, 9)] g0 zr := by
  unfold GJ_X11_best_2 at h
  replace h := (ck_e h).2
  rcases it_x h with h | h
  · skip
    cases h
    exact hf
  · skip
    obtain ⟨_, hc, h⟩ := cp_e h
    have hf1 := Fr.tr hf (fF_X11_findRanking Fr.rf hc) (by decide) (by decide)
    clear hc
    obtain ⟨_, hc, h⟩ := cp_e h
    clear hc
    cases h
    exact hf1
theorem fJ_X11_best_1 {g0 : uZ} {a1 : Int} {g : uZ} {zr : ((Int ⊕ Nat) × uZ)} (hf : Fr [7, 8, 9, 10, 12, 13, 14, 15, 19, 20, 21, 22, 23, 24, 29, 30, 31, 32, 33, 35, 36, 37, 39, 40, 41, 42, 43] [(0, 10), (0, 11), (11, 6), (16, 12), (17, 0), (17, 1), (17, 2), (28, 0), (28, 1), (28, 2), (34, 6), (38, 6), (38, 7), (38, 8), (38, 9)] g0 g) (h : GJ_X11_best_1 a1 g = some zr) : fp_10 [7, 8, 9, 10, 12, 13, 14, 15, 19, 20, 21, 22, 23, 24, 29, 30, 31, 32, 33, 35, 36, 37, 39, 40, 41, 42, 43] [(0, 10), (0, 11), (11, 6), (16, 12), (17, 0), (17, 1), (17, 2), (28, 0), (28, 1), (28, 2), (34, 6), (38, 6), (38, 7), (38, 8), (38, 9)] g0 zr := by
  unfold GJ_X11_best_1 at h
  exact fJ_X11_best_2 hf h
theorem fF_X11_best {g0 : uZ} {a1 : Int} {g : uZ} {zr : ((Int ⊕ Nat) × uZ)} (hf : Fr [7, 8, 9, 10, 12, 13, 14, 15, 19, 20, 21, 22, 23, 24, 29, 30, 31, 32, 33, 35, 36, 37, 39, 40, 41, 42, 43] [(0, 10), (0, 11), (11, 6), (16, 12), (17, 0), (17, 1), (17, 2), (28, 0), (28, 1), (28, 2), (34, 6), (38, 6), (38, 7), (38, 8), (38, 9)] g0 g) (h : GF_X11_best a1 g = some zr) : fp_10 [7, 8, 9, 10, 12, 13, 14, 15, 19, 20, 21, 22, 23, 24, 29, 30, 31, 32, 33, 35, 36, 37, 39, 40, 41, 42, 43] [(0, 10), (0, 11), (11, 6), (16, 12), (17, 0), (17, 1), (17, 2), (28, 0), (28, 1), (28, 2), (34, 6), (38, 6), (38, 7), (38, 8), (38, 9)] g0 zr := by
  unfold GF_X11_best at h
  replace h := (ck_e h).2
  rcases it_x h with h | h
  · skip
    exact fJ_X11_best_1 hf h
  · skip
    rcases it_x h with h | h
    · skip
      exact fJ_X11_best_1 hf h
    · skip
      exact fJ_X11_best_2 hf h
theorem fJ_X11_bestAt_2 {g0 : uZ} {a1 : Int} {a2 : Int} {g : uZ} {v3 : Int} {zr : ((Int ⊕ Nat) × uZ)} (hf : Fr [7, 8, 9, 10, 12, 13, 14, 15, 19, 20, 21, 22, 23, 24, 29, 30, 31, 32, 33, 35, 36, 37, 39, 40, 41, 42, 43] [(0, 10), (0, 11), (11, 6), (16, 12), (17, 0), (17, 1), (17, 2), (28, 0), (28, 1), (28, 2), (34, 6), (38, 6), (38, 7), (38, 8), (38, 9)] g0 g) (h : GJ_X11_bestAt_2 a1 a2 g v3 = some zr) : fp_10 [7, 8, 9, 10, 12, 13, 14, 15, 19, 20, 21, 22, 23, 24, 29, 30, 31, 32, 33, 35, 36, 37, 39, 40, 41, 42, 43] [(0, 10), (0, 11), (11, 6), (16, 12), (17, 0), (17, 1), (17, 2), (28, 0), (28, 1), (28, 2), (34, 6), (38, 6), (38, 7), (38, 8), (38, 9)] g0 zr := by
  unfold GJ_X11_bestAt_2 at h
  replace h := (ck_e h).2
  rcases it_x h with h | h
  · skip
    cases h
    exact hf
  · skip
    obtain ⟨_, hc, h⟩ := cp_e h
    clear hc
    replace h := (ck_e h).2
    rcases it_x h with h | h
    · skip
      cases h
      exact hf
    · skip
      obtain ⟨_, hc, h⟩ := cp_e h
      have hf1 := Fr.tr hf (fF_X11_findRanking Fr.rf hc) (by decide) (by decide)
      clear hc
      obtain ⟨_, hc, h⟩ := cp_e h
      clear hc
      cases h
      exact hf1
theorem fJ_X11_bestAt_1 {g0 : uZ} {a1 : Int} {a2 : Int} {g : uZ} {zr : ((Int ⊕ Nat) × uZ)} (hf : Fr [7, 8, 9, 10, 12, 13, 14, 15, 19, 20, 21, 22, 23, 24, 29, 30, 31, 32, 33, 35, 36, 37, 39, 40, 41, 42, 43] [(0, 10), (0, 11), (11, 6), (16, 12), (17, 0), (17, 1), (17, 2), (28, 0), (28, 1), (28, 2), (34, 6), (38, 6), (38, 7), (38, 8), (38, 9)] g0 g) (h : GJ_X11_bestAt_1 a1 a2 g = some zr) : fp_10 [7, 8, 9, 10, 12, 13, 14, 15, 19, 20, 21, 22, 23, 24, 29, 30, 31, 32, 33, 35, 36, 37, 39, 40, 41, 42, 43] [(0, 10), (0, 11), (11, 6), (16, 12), (17, 0), (17, 1), (17, 2), (28, 0), (28, 1), (28, 2), (34, 6), (38, 6), (38, 7), (38, 8), (38, 9)] g0 zr := by
  unfold GJ_X11_bestAt_1 at h
  exact fJ_X11_bestAt_2 hf h
theorem fF_X11_bestAt {g0 : uZ} {a1 : Int} {a2 : Int} {g : uZ} {zr : ((Int ⊕ Nat) × uZ)} (hf : Fr [7, 8, 9, 10, 12, 13, 14, 15, 19, 20, 21, 22, 23, 24, 29, 30, 31, 32, 33, 35, 36, 37, 39, 40, 41, 42, 43] [(0, 10), (0, 11), (11, 6), (16, 12), (17, 0), (17, 1), (17, 2), (28, 0), (28, 1), (28, 2), (34, 6), (38, 6), (38, 7), (38, 8), (38, 9)] g0 g) (h : GF_X11_bestAt a1 a2 g = some zr) : fp_10 [7, 8, 9, 10, 12, 13, 14, 15, 19, 20, 21, 22, 23, 24, 29, 30, 31, 32, 33, 35, 36, 37, 39, 40, 41, 42, 43] [(0, 10), (0, 11), (11, 6), (16, 12), (17, 0), (17, 1), (17, 2), (28, 0), (28, 1), (28, 2), (34, 6), (38, 6), (38, 7), (38, 8), (38, 9)] g0 zr := by
  unfold GF_X11_bestAt at h
  replace h := (ck_e h).2
  rcases it_x h with h | h
  · skip
    exact fJ_X11_bestAt_1 hf h
  · skip
    rcases it_x h with h | h
    · skip
      exact fJ_X11_bestAt_1 hf h
    · skip
      exact fJ_X11_bestAt_2 hf h
theorem fJ_X11_would_2 {g0 : uZ} {a1 : Int} {a2 : Int} {g : uZ} {v5 : Int} {zr : ((Int ⊕ Nat) × uZ)} (hf : Fr [7, 8, 9, 10, 12, 13, 14, 15, 19, 20, 21, 22, 23, 24, 25, 26, 35, 36, 37, 39, 40, 41, 42, 43] [(0, 10), (11, 6), (16, 12), (17, 0), (17, 1), (17, 2), (18, 0), (18, 1), (18, 2), (34, 6), (38, 6), (38, 7), (38, 8), (38, 9)] g0 g) (h : GJ_X11_would_2 a1 a2 g v5 = some zr) : fp_10 [7, 8, 9, 10, 12, 13, 14, 15, 19, 20, 21, 22, 23, 24, 25, 26, 35, 36, 37, 39, 40, 41, 42, 43] [(0, 10), (11, 6), (16, 12), (17, 0), (17, 1), (17, 2), (18, 0), (18, 1), (18, 2), (34, 6), (38, 6), (38, 7), (38, 8), (38, 9)] g0 zr := by
  unfold GJ_X11_would_2 at h
  replace h := (ck_e h).2
  rcases it_x h with h | h
  · skip
    cases h
    exact hf
  · skip
    obtain ⟨_, hc, h⟩ := cp_e h
    have hf1 := Fr.tr hf (fF_X11_findPath Fr.rf hc) (by decide) (by decide)
    clear hc
    obtain ⟨_, _, hc, h⟩ := clZ_x h
    have hf2 := Fr.tr hf1 (fF_X5_leastWith Fr.rf hc) (by decide) (by decide)
    clear hc
    cases h
    exact hf2
theorem fJ_X11_would_1 {g0 : uZ} {a1 : Int} {a2 : Int} {g : uZ} {zr : ((Int ⊕ Nat) × uZ)} (hf : Fr [7, 8, 9, 10, 12, 13, 14, 15, 19, 20, 21, 22, 23, 24, 25, 26, 35, 36, 37, 39, 40, 41, 42, 43] [(0, 10), (11, 6), (16, 12), (17, 0), (17, 1), (17, 2), (18, 0), (18, 1), (18, 2), (34, 6), (38, 6), (38, 7), (38, 8), (38, 9)] g0 g) (h : GJ_X11_would_1 a1 a2 g = some zr) : fp_10 [7, 8, 9, 10, 12, 13, 14, 15, 19, 20, 21, 22, 23, 24, 25, 26, 35, 36, 37, 39, 40, 41, 42, 43] [(0, 10), (11, 6), (16, 12), (17, 0), (17, 1), (17, 2), (18, 0), (18, 1), (18, 2), (34, 6), (38, 6), (38, 7), (38, 8), (38, 9)] g0 zr := by
  unfold GJ_X11_would_1 at h
  exact fJ_X11_would_2 hf h
theorem fF_X11_would {g0 : uZ} {a1 : Int} {a2 : Int} {g : uZ} {zr : ((Int ⊕ Nat) × uZ)} (hf : Fr [7, 8, 9, 10, 12, 13, 14, 15, 19, 20, 21, 22, 23, 24, 25, 26, 35, 36, 37, 39, 40, 41, 42, 43] [(0, 10), (11, 6), (16, 12), (17, 0), (17, 1), (17, 2), (18, 0), (18, 1), (18, 2), (34, 6), (38, 6), (38, 7), (38, 8), (38, 9)] g0 g) (h : GF_X11_would a1 a2 g = some zr) : fp_10 [7, 8, 9, 10, 12, 13, 14, 15, 19, 20, 21, 22, 23, 24, 25, 26, 35, 36, 37, 39, 40, 41, 42, 43] [(0, 10), (11, 6), (16, 12), (17, 0), (17, 1), (17, 2), (18, 0), (18, 1), (18, 2), (34, 6), (38, 6), (38, 7), (38, 8), (38, 9)] g0 zr := by
  unfold GF_X11_would at h
  replace h := (ck_e h).2
  rcases it_x h with h | h
  · skip
    exact fJ_X11_would_1 hf h
  · skip
    rcases it_x h with h | h
    · skip
      exact fJ_X11_would_1 hf h
    · skip
      replace h := (ck_e h).2
      rcases it_x h with h | h
      · skip
        exact fJ_X11_would_1 hf h
      · skip
        rcases it_x h with h | h
        · skip
          exact fJ_X11_would_1 hf h
        · skip
          exact fJ_X11_would_2 hf h
theorem fJ_X11_span_2 {g0 : uZ} {a1 : Int} {a2 : Int} {g1 : uZ} {v6 : Int} {zr : ((Int ⊕ Nat) × uZ)} (hf : Fr [7, 8, 9, 10, 12, 13, 14, 15, 19, 20, 21, 22, 23, 24, 35, 36, 37, 39, 40, 41, 42, 43, 45, 46, 47, 48, 49, 50] [(0, 10), (0, 12), (11, 6), (16, 12), (17, 0), (17, 1), (17, 2), (34, 6), (38, 6), (38, 7), (38, 8), (38, 9), (44, 9)] g0 g1) (h : GJ_X11_span_2 a1 a2 g1 v6 = some zr) : fp_10 [7, 8, 9, 10, 12, 13, 14, 15, 19, 20, 21, 22, 23, 24, 35, 36, 37, 39, 40, 41, 42, 43, 45, 46, 47, 48, 49, 50] [(0, 10), (0, 12), (11, 6), (16, 12), (17, 0), (17, 1), (17, 2), (34, 6), (38, 6), (38, 7), (38, 8), (38, 9), (44, 9)] g0 zr := by
  unfold GJ_X11_span_2 at h
  replace h := (ck_e h).2
  rcases it_x h with h | h
  · skip
    cases h
    exact hf
  · skip
    replace h := (ck_e h).2
    rcases it_x h with h | h
    · skip
      obtain ⟨_, hc, h⟩ := cp_e h
      clear hc
      cases h
      exact hf
    · skip
      rcases it_x h with h | h
      · skip
        obtain ⟨_, hc, h⟩ := cp_e h
        clear hc
        cases h
        exact hf
      · skip
        rcases it_x h with h | h
        · skip
          obtain ⟨_, hc, h⟩ := cp_e h
          clear hc
          replace h := (ck_e h).2
          obtain ⟨_, h⟩ := lt_x h
          cases h
          exact hf
        · skip
          rcases it_x h with h | h
          · skip
            obtain ⟨_, hc, h⟩ := cp_e h
            clear hc
            cases h
            exact hf
          · skip
            rcases it_x h with h | h
            · skip
              obtain ⟨_, hc, h⟩ := cp_e h
              clear hc
              cases h
              exact hf
            · skip
              rcases it_x h with h | h
              · skip
                obtain ⟨_, hc, h⟩ := cp_e h
                have hf1 := Fr.tr hf (fF_X11_findMarks Fr.rf hc) (by decide) (by decide)
                clear hc
                obtain ⟨_, hc, h⟩ := cp_e h
                clear hc
                cases h
                exact hf1
              · skip
                obtain ⟨_, hc, h⟩ := cp_e h
                have hf2 := Fr.tr hf (fF_X11_findMarks Fr.rf hc) (by decide) (by decide)
                clear hc
                obtain ⟨_, hc, h⟩ := cp_e h
                clear hc
                cases h
                exact hf2
theorem fJ_X11_span_1 {g0 : uZ} {a1 : Int} {a2 : Int} {g1 : uZ} {zr : ((Int ⊕ Nat) × uZ)} (hf : Fr [7, 8, 9, 10, 12, 13, 14, 15, 19, 20, 21, 22, 23, 24, 35, 36, 37, 39, 40, 41, 42, 43, 45, 46, 47, 48, 49, 50] [(0, 10), (0, 12), (11, 6), (16, 12), (17, 0), (17, 1), (17, 2), (34, 6), (38, 6), (38, 7), (38, 8), (38, 9), (44, 9)] g0 g1) (h : GJ_X11_span_1 a1 a2 g1 = some zr) : fp_10 [7, 8, 9, 10, 12, 13, 14, 15, 19, 20, 21, 22, 23, 24, 35, 36, 37, 39, 40, 41, 42, 43, 45, 46, 47, 48, 49, 50] [(0, 10), (0, 12), (11, 6), (16, 12), (17, 0), (17, 1), (17, 2), (34, 6), (38, 6), (38, 7), (38, 8), (38, 9), (44, 9)] g0 zr := by
  unfold GJ_X11_span_1 at h
  exact fJ_X11_span_2 hf h
theorem fF_X11_span {g0 : uZ} {a1 : Int} {a2 : Int} {g : uZ} {zr : ((Int ⊕ Nat) × uZ)} (hf : Fr [7, 8, 9, 10, 12, 13, 14, 15, 19, 20, 21, 22, 23, 24, 35, 36, 37, 39, 40, 41, 42, 43, 45, 46, 47, 48, 49, 50] [(0, 10), (0, 12), (11, 6), (16, 12), (17, 0), (17, 1), (17, 2), (34, 6), (38, 6), (38, 7), (38, 8), (38, 9), (44, 9)] g0 g) (h : GF_X11_span a1 a2 g = some zr) : fp_10 [7, 8, 9, 10, 12, 13, 14, 15, 19, 20, 21, 22, 23, 24, 35, 36, 37, 39, 40, 41, 42, 43, 45, 46, 47, 48, 49, 50] [(0, 10), (0, 12), (11, 6), (16, 12), (17, 0), (17, 1), (17, 2), (34, 6), (38, 6), (38, 7), (38, 8), (38, 9), (44, 9)] g0 zr := by
  unfold GF_X11_span at h
  obtain ⟨_, hc, h⟩ := cp_e h
  have hf1 := Fr.tr hf (fF_X11_findPath Fr.rf hc) (by decide) (by decide)
  clear hc
  obtain ⟨_, hc, h⟩ := cp_e h
  clear hc
  replace h := (ck_e h).2
  rcases it_x h with h | h
  · skip
    exact fJ_X11_span_1 hf1 h
  · skip
    replace h := (ck_e h).2
    rcases it_x h with h | h
    · skip
      exact fJ_X11_span_1 hf1 h
    · skip
      rcases it_x h with h | h
      · skip
        exact fJ_X11_span_1 hf1 h
      · skip
        exact fJ_X11_span_2 hf1 h
theorem fJ_X11_note_2 {g0 : uZ} {a1 : Int} {a2 : Int} {g1 : uZ} {v6 : Int} {zr : ((Int ⊕ Nat) × uZ)} (hf : Fr [7, 8, 9, 10, 12, 13, 14, 15, 19, 20, 21, 22, 23, 24, 35, 36, 37, 39, 40, 41, 42, 43] [(0, 10), (11, 6), (16, 12), (17, 0), (17, 1), (17, 2), (34, 6), (38, 6), (38, 7), (38, 8), (38, 9)] g0 g1) (h : GJ_X11_note_2 a1 a2 g1 v6 = some zr) : fp_10 [7, 8, 9, 10, 12, 13, 14, 15, 19, 20, 21, 22, 23, 24, 35, 36, 37, 39, 40, 41, 42, 43] [(0, 10), (11, 6), (16, 12), (17, 0), (17, 1), (17, 2), (34, 6), (38, 6), (38, 7), (38, 8), (38, 9)] g0 zr := by
  unfold GJ_X11_note_2 at h
  replace h := (ck_e h).2
  rcases it_x h with h | h
  · skip
    cases h
    exact hf
  · skip
    replace h := (ck_e h).2
    rcases it_x h with h | h
    · skip
      obtain ⟨_, hc, h⟩ := cp_e h
      clear hc
      cases h
      exact hf
    · skip
      rcases it_x h with h | h
      · skip
        obtain ⟨_, hc, h⟩ := cp_e h
        clear hc
        cases h
        exact hf
      · skip
        obtain ⟨_, hc, h⟩ := cp_e h
        clear hc
        cases h
        exact hf
theorem fJ_X11_note_1 {g0 : uZ} {a1 : Int} {a2 : Int} {g1 : uZ} {zr : ((Int ⊕ Nat) × uZ)} (hf : Fr [7, 8, 9, 10, 12, 13, 14, 15, 19, 20, 21, 22, 23, 24, 35, 36, 37, 39, 40, 41, 42, 43] [(0, 10), (11, 6), (16, 12), (17, 0), (17, 1), (17, 2), (34, 6), (38, 6), (38, 7), (38, 8), (38, 9)] g0 g1) (h : GJ_X11_note_1 a1 a2 g1 = some zr) : fp_10 [7, 8, 9, 10, 12, 13, 14, 15, 19, 20, 21, 22, 23, 24, 35, 36, 37, 39, 40, 41, 42, 43] [(0, 10), (11, 6), (16, 12), (17, 0), (17, 1), (17, 2), (34, 6), (38, 6), (38, 7), (38, 8), (38, 9)] g0 zr := by
  unfold GJ_X11_note_1 at h
  exact fJ_X11_note_2 hf h
theorem fF_X11_note {g0 : uZ} {a1 : Int} {a2 : Int} {g : uZ} {zr : ((Int ⊕ Nat) × uZ)} (hf : Fr [7, 8, 9, 10, 12, 13, 14, 15, 19, 20, 21, 22, 23, 24, 35, 36, 37, 39, 40, 41, 42, 43] [(0, 10), (11, 6), (16, 12), (17, 0), (17, 1), (17, 2), (34, 6), (38, 6), (38, 7), (38, 8), (38, 9)] g0 g) (h : GF_X11_note a1 a2 g = some zr) : fp_10 [7, 8, 9, 10, 12, 13, 14, 15, 19, 20, 21, 22, 23, 24, 35, 36, 37, 39, 40, 41, 42, 43] [(0, 10), (11, 6), (16, 12), (17, 0), (17, 1), (17, 2), (34, 6), (38, 6), (38, 7), (38, 8), (38, 9)] g0 zr := by
  unfold GF_X11_note at h
  obtain ⟨_, hc, h⟩ := cp_e h
  have hf1 := Fr.tr hf (fF_X11_findPath Fr.rf hc) (by decide) (by decide)
  clear hc
  obtain ⟨_, hc, h⟩ := cp_e h
  clear hc
  replace h := (ck_e h).2
  rcases it_x h with h | h
  · skip
    exact fJ_X11_note_1 hf1 h
  · skip
    replace h := (ck_e h).2
    rcases it_x h with h | h
    · skip
      exact fJ_X11_note_1 hf1 h
    · skip
      rcases it_x h with h | h
      · skip
        exact fJ_X11_note_1 hf1 h
      · skip
        exact fJ_X11_note_2 hf1 h
theorem fJ_X11_steady_2 {g0 : uZ} {a1 : Int} {g : uZ} {v3 : Int} {zr : ((Int ⊕ Nat) × uZ)} (hf : Fr [7, 8, 9, 10, 12, 13, 14, 15, 19, 20, 21, 22, 23, 24, 35, 36, 37, 39, 40, 41, 42, 43] [(0, 10), (11, 6), (16, 12), (17, 0), (17, 1), (17, 2), (34, 6), (38, 6), (38, 7), (38, 8), (38, 9)] g0 g) (h : GJ_X11_steady_2 a1 g v3 = some zr) : fp_10 [7, 8, 9, 10, 12, 13, 14, 15, 19, 20, 21, 22, 23, 24, 35, 36, 37, 39, 40, 41, 42, 43] [(0, 10), (11, 6), (16, 12), (17, 0), (17, 1), (17, 2), (34, 6), (38, 6), (38, 7), (38, 8), (38, 9)] g0 zr := by
  unfold GJ_X11_steady_2 at h
  replace h := (ck_e h).2
  rcases it_x h with h | h
  · skip
    cases h
    exact hf
  · skip
    obtain ⟨_, hc, h⟩ := cp_e h
    have hf1 := Fr.tr hf (fF_X11_findPath Fr.rf hc) (by decide) (by decide)
    clear hc
    replace h := (ck_e h).2
    rcases it_x h with h | h
    · skip
      obtain ⟨_, hc, h⟩ := cp_e h
      clear hc
      cases h
      exact hf1
    · skip
      rcases it_x h with h | h
      · skip
        obtain ⟨_, hc, h⟩ := cp_e h
        clear hc
        cases h
        exact hf1
      · skip
        obtain ⟨_, hc, h⟩ := cp_e h
        clear hc
        cases h
        exact hf1
theorem fJ_X11_steady_1 {g0 : uZ} {a1 : Int} {g : uZ} {zr : ((Int ⊕ Nat) × uZ)} (hf : Fr [7, 8, 9, 10, 12, 13, 14, 15, 19, 20, 21, 22, 23, 24, 35, 36, 37, 39, 40, 41, 42, 43] [(0, 10), (11, 6), (16, 12), (17, 0), (17, 1), (17, 2), (34, 6), (38, 6), (38, 7), (38, 8), (38, 9)] g0 g) (h : GJ_X11_steady_1 a1 g = some zr) : fp_10 [7, 8, 9, 10, 12, 13, 14, 15, 19, 20, 21, 22, 23, 24, 35, 36, 37, 39, 40, 41, 42, 43] [(0, 10), (11, 6), (16, 12), (17, 0), (17, 1), (17, 2), (34, 6), (38, 6), (38, 7), (38, 8), (38, 9)] g0 zr := by
  unfold GJ_X11_steady_1 at h
  exact fJ_X11_steady_2 hf h
theorem fF_X11_steady {g0 : uZ} {a1 : Int} {g : uZ} {zr : ((Int ⊕ Nat) × uZ)} (hf : Fr [7, 8, 9, 10, 12, 13, 14, 15, 19, 20, 21, 22, 23, 24, 35, 36, 37, 39, 40, 41, 42, 43] [(0, 10), (11, 6), (16, 12), (17, 0), (17, 1), (17, 2), (34, 6), (38, 6), (38, 7), (38, 8), (38, 9)] g0 g) (h : GF_X11_steady a1 g = some zr) : fp_10 [7, 8, 9, 10, 12, 13, 14, 15, 19, 20, 21, 22, 23, 24, 35, 36, 37, 39, 40, 41, 42, 43] [(0, 10), (11, 6), (16, 12), (17, 0), (17, 1), (17, 2), (34, 6), (38, 6), (38, 7), (38, 8), (38, 9)] g0 zr := by
  unfold GF_X11_steady at h
  replace h := (ck_e h).2
  rcases it_x h with h | h
  · skip
    exact fJ_X11_steady_1 hf h
  · skip
    rcases it_x h with h | h
    · skip
      exact fJ_X11_steady_1 hf h
    · skip
      exact fJ_X11_steady_2 hf h
theorem fJ_X11_lagAt_2 {g0 : uZ} {g1 : uZ} {v12 : Int} {zr : ((Int ⊕ Nat) × uZ)} (hf : Fr [7, 8, 9, 10, 12, 13, 14, 15, 19, 20, 21, 22, 23, 24, 35, 36, 37, 39, 40, 41, 42, 43] [(0, 10), (11, 6), (16, 12), (17, 0), (17, 1), (17, 2), (34, 6), (38, 6), (38, 7), (38, 8), (38, 9)] g0 g1) (h : GJ_X11_lagAt_2 g1 v12 = some zr) : fp_10 [7, 8, 9, 10, 12, 13, 14, 15, 19, 20, 21, 22, 23, 24, 35, 36, 37, 39, 40, 41, 42, 43] [(0, 10), (11, 6), (16, 12), (17, 0), (17, 1), (17, 2), (34, 6), (38, 6), (38, 7), (38, 8), (38, 9)] g0 zr := by
  unfold GJ_X11_lagAt_2 at h
  cases h
  exact hf
theorem fJ_X11_lagAt_3 {g0 : uZ} {a1 : Int} {a2 : Int} {g1 : uZ} {v7 : Int} {zr : ((Int ⊕ Nat) × uZ)} (hf : Fr [7, 8, 9, 10, 12, 13, 14, 15, 19, 20, 21, 22, 23, 24, 35, 36, 37, 39, 40, 41, 42, 43] [(0, 10), (11, 6), (16, 12), (17, 0), (17, 1), (17, 2), (34, 6), (38, 6), (38, 7), (38, 8), (38, 9)] g0 g1) (h : GJ_X11_lagAt_3 a1 a2 g1 v7 = some zr) : fp_10 [7, 8, 9, 10, 12, 13, 14, 15, 19, 20, 21, 22, 23, 24, 35, 36, 37, 39, 40, 41, 42, 43] [(0, 10), (11, 6), (16, 12), (17, 0), (17, 1), (17, 2), (34, 6), (38, 6), (38, 7), (38, 8), (38, 9)] g0 zr := by
  unfold GJ_X11_lagAt_3 at h
  replace h := (ck_e h).2
  rcases it_x h with h | h
  · skip
    cases h
    exact hf
  · skip
    obtain ⟨_, hc, h⟩ := cp_e h
    clear hc
    replace h := (ck_e h).2
    rcases it_x h with h | h
    · skip
      exact fJ_X11_lagAt_2 hf h
    · skip
      obtain ⟨_, hc, h⟩ := cp_e h
      clear hc
      exact fJ_X11_lagAt_2 hf h
theorem fJ_X11_lagAt_1 {g0 : uZ} {a1 : Int} {a2 : Int} {g1 : uZ} {zr : ((Int ⊕ Nat) × uZ)} (hf : Fr [7, 8, 9, 10, 12, 13, 14, 15, 19, 20, 21, 22, 23, 24, 35, 36, 37, 39, 40, 41, 42, 43] [(0, 10), (11, 6), (16, 12), (17, 0), (17, 1), (17, 2), (34, 6), (38, 6), (38, 7), (38, 8), (38, 9)] g0 g1) (h : GJ_X11_lagAt_1 a1 a2 g1 = some zr) : fp_10 [7, 8, 9, 10, 12, 13, 14, 15, 19, 20, 21, 22, 23, 24, 35, 36, 37, 39, 40, 41, 42, 43] [(0, 10), (11, 6), (16, 12), (17, 0), (17, 1), (17, 2), (34, 6), (38, 6), (38, 7), (38, 8), (38, 9)] g0 zr := by
  unfold GJ_X11_lagAt_1 at h
  exact fJ_X11_lagAt_3 hf h
theorem fF_X11_lagAt {g0 : uZ} {a1 : Int} {a2 : Int} {g : uZ} {zr : ((Int ⊕ Nat) × uZ)} (hf : Fr [7, 8, 9, 10, 12, 13, 14, 15, 19, 20, 21, 22, 23, 24, 35, 36, 37, 39, 40, 41, 42, 43] [(0, 10), (11, 6), (16, 12), (17, 0), (17, 1), (17, 2), (34, 6), (38, 6), (38, 7), (38, 8), (38, 9)] g0 g) (h : GF_X11_lagAt a1 a2 g = some zr) : fp_10 [7, 8, 9, 10, 12, 13, 14, 15, 19, 20, 21, 22, 23, 24, 35, 36, 37, 39, 40, 41, 42, 43] [(0, 10), (11, 6), (16, 12), (17, 0), (17, 1), (17, 2), (34, 6), (38, 6), (38, 7), (38, 8), (38, 9)] g0 zr := by
  unfold GF_X11_lagAt at h
  obtain ⟨_, hc, h⟩ := cp_e h
  have hf1 := Fr.tr hf (fF_X11_findPath Fr.rf hc) (by decide) (by decide)
  clear hc
  replace h := (ck_e h).2
  rcases it_x h with h | h
  · skip
    exact fJ_X11_lagAt_1 hf1 h
  · skip
    obtain ⟨_, hc, h⟩ := cp_e h
    clear hc
    replace h := (ck_e h).2
    rcases it_x h with h | h
    · skip
      exact fJ_X11_lagAt_1 hf1 h
    · skip
      replace h := (ck_e h).2
      rcases it_x h with h | h
      · skip
        exact fJ_X11_lagAt_1 hf1 h
      · skip
        rcases it_x h with h | h
        · skip
          exact fJ_X11_lagAt_1 hf1 h
        · skip
          exact fJ_X11_lagAt_3 hf1 h
theorem fJ_X11_common_2 {g0 : uZ} {g5 : uZ} {v9 : Int} {zr : ((Int ⊕ Nat) × uZ)} (hf : Fr [7, 8, 9, 10, 12, 13, 14, 15, 19, 20, 21, 22, 23, 24, 35, 36, 37, 39, 40, 41, 42, 43] [(0, 10), (11, 6), (16, 12), (17, 0), (17, 1), (17, 2), (34, 6), (38, 6), (38, 7), (38, 8), (38, 9)] g0 g5) (h : GJ_X11_common_2 g5 v9 = some zr) : fp_10 [7, 8, 9, 10, 12, 13, 14, 15, 19, 20, 21, 22, 23, 24, 35, 36, 37, 39, 40, 41, 42, 43] [(0, 10), (11, 6), (16, 12), (17, 0), (17, 1), (17, 2), (34, 6), (38, 6), (38, 7), (38, 8), (38, 9)] g0 zr := by
  unfold GJ_X11_common_2 at h
  cases h
  exact hf
theorem fJ_X11_common_3 {g0 : uZ} {a1 : Int} {g : uZ} {v3 : Int} {zr : ((Int ⊕ Nat) × uZ)} (hf : Fr [7, 8, 9, 10, 12, 13, 14, 15, 19, 20, 21, 22, 23, 24, 35, 36, 37, 39, 40, 41, 42, 43] [(0, 10), (11, 6), (16, 12), (17, 0), (17, 1), (17, 2), (34, 6), (38, 6), (38, 7), (38, 8), (38, 9)] g0 g) (h : GJ_X11_common_3 a1 g v3 = some zr) : fp_10 [7, 8, 9, 10, 12, 13, 14, 15, 19, 20, 21, 22, 23, 24, 35, 36, 37, 39, 40, 41, 42, 43] [(0, 10), (11, 6), (16, 12), (17, 0), (17, 1), (17, 2), (34, 6), (38, 6), (38, 7), (38, 8), (38, 9)] g0 zr := by
  unfold GJ_X11_common_3 at h
  replace h := (ck_e h).2
  rcases it_x h with h | h
  · skip
    cases h
    exact hf
  · skip
    obtain ⟨_, hc, h⟩ := cp_e h
    have hf1 := Fr.tr hf (fF_X11_findPath Fr.rf hc) (by decide) (by decide)
    clear hc
    replace h := (ck_e h).2
    rcases it_x h with h | h
    · skip
      obtain ⟨_, hc, h⟩ := cp_e h
      clear hc
      exact fJ_X11_common_2 hf1 h
    · skip
      obtain ⟨_, hc, h⟩ := cp_e h
      clear hc
      exact fJ_X11_common_2 hf1 h
theorem fJ_X11_common_1 {g0 : uZ} {a1 : Int} {g : uZ} {zr : ((Int ⊕ Nat) × uZ)} (hf : Fr [7, 8, 9, 10, 12, 13, 14, 15, 19, 20, 21, 22, 23, 24, 35, 36, 37, 39, 40, 41, 42, 43] [(0, 10), (11, 6), (16, 12), (17, 0), (17, 1), (17, 2), (34, 6), (38, 6), (38, 7), (38, 8), (38, 9)] g0 g) (h : GJ_X11_common_1 a1 g = some zr) : fp_10 [7, 8, 9, 10, 12, 13, 14, 15, 19, 20, 21, 22, 23, 24, 35, 36, 37, 39, 40, 41, 42, 43] [(0, 10), (11, 6), (16, 12), (17, 0), (17, 1), (17, 2), (34, 6), (38, 6), (38, 7), (38, 8), (38, 9)] g0 zr := by
  unfold GJ_X11_common_1 at h
  exact fJ_X11_common_3 hf h
theorem fF_X11_common {g0 : uZ} {a1 : Int} {g : uZ} {zr : ((Int ⊕ Nat) × uZ)} (hf : Fr [7, 8, 9, 10, 12, 13, 14, 15, 19, 20, 21, 22, 23, 24, 35, 36, 37, 39, 40, 41, 42, 43] [(0, 10), (11, 6), (16, 12), (17, 0), (17, 1), (17, 2), (34, 6), (38, 6), (38, 7), (38, 8), (38, 9)] g0 g) (h : GF_X11_common a1 g = some zr) : fp_10 [7, 8, 9, 10, 12, 13, 14, 15, 19, 20, 21, 22, 23, 24, 35, 36, 37, 39, 40, 41, 42, 43] [(0, 10), (11, 6), (16, 12), (17, 0), (17, 1), (17, 2), (34, 6), (38, 6), (38, 7), (38, 8), (38, 9)] g0 zr := by
  unfold GF_X11_common at h
  replace h := (ck_e h).2
  rcases it_x h with h | h
  · skip
    exact fJ_X11_common_1 hf h
  · skip
    rcases it_x h with h | h
    · skip
      exact fJ_X11_common_1 hf h
    · skip
      exact fJ_X11_common_3 hf h
theorem fJ_X11_match_2 {g0 : uZ} {g6 : uZ} {v10 : Int} {zr : ((Int ⊕ Nat) × uZ)} (hf : Fr [7, 8, 9, 10, 12, 13, 14, 15, 19, 20, 21, 22, 23, 24, 35, 36, 37, 39, 40, 41, 42, 43, 53, 54] [(0, 10), (11, 6), (16, 12), (17, 0), (17, 1), (17, 2), (34, 6), (38, 6), (38, 7), (38, 8), (38, 9)] g0 g6) (h : GJ_X11_match_2 g6 v10 = some zr) : fp_10 [7, 8, 9, 10, 12, 13, 14, 15, 19, 20, 21, 22, 23, 24, 35, 36, 37, 39, 40, 41, 42, 43, 53, 54] [(0, 10), (11, 6), (16, 12), (17, 0), (17, 1), (17, 2), (34, 6), (38, 6), (38, 7), (38, 8), (38, 9)] g0 zr := by
  unfold GJ_X11_match_2 at h
  cases h
  exact hf
theorem fJ_X11_match_3 {g0 : uZ} {a1 : Int} {g : uZ} {v3 : Int} {zr : ((Int ⊕ Nat) × uZ)} (hf : Fr [7, 8, 9, 10, 12, 13, 14, 15, 19, 20, 21, 22, 23, 24, 35, 36, 37, 39, 40, 41, 42, 43, 53, 54] [(0, 10), (11, 6), (16, 12), (17, 0), (17, 1), (17, 2), (34, 6), (38, 6), (38, 7), (38, 8), (38, 9)] g0 g) (h : GJ_X11_match_3 a1 g v3 = some zr) : fp_10 [7, 8, 9, 10, 12, 13, 14, 15, 19, 20, 21, 22, 23, 24, 35, 36, 37, 39, 40, 41, 42, 43, 53, 54] [(0, 10), (11, 6), (16, 12), (17, 0), (17, 1), (17, 2), (34, 6), (38, 6), (38, 7), (38, 8), (38, 9)] g0 zr := by
  unfold GJ_X11_match_3 at h
  replace h := (ck_e h).2
  rcases it_x h with h | h
  · skip
    cases h
    exact hf
  · skip
    obtain ⟨_, hc, h⟩ := cp_e h
    have hf1 := Fr.tr hf (fF_X11_findPath Fr.rf hc) (by decide) (by decide)
    clear hc
    obtain ⟨_, hc, h⟩ := cp_e h
    have hf2 := Fr.tr hf1 (fF_X10_findPairs Fr.rf hc) (by decide) (by decide)
    clear hc
    replace h := (ck_e h).2
    rcases it_x h with h | h
    · skip
      obtain ⟨_, hc, h⟩ := cp_e h
      clear hc
      exact fJ_X11_match_2 hf2 h
    · skip
      obtain ⟨_, hc, h⟩ := cp_e h
      clear hc
      exact fJ_X11_match_2 hf2 h
theorem fJ_X11_match_1 {g0 : uZ} {a1 : Int} {g : uZ} {zr : ((Int ⊕ Nat) × uZ)} (hf : Fr [7, 8, 9, 10, 12, 13, 14, 15, 19, 20, 21, 22, 23, 24, 35, 36, 37, 39, 40, 41, 42, 43, 53, 54] [(0, 10), (11, 6), (16, 12), (17, 0), (17, 1), (17, 2), (34, 6), (38, 6), (38, 7), (38, 8), (38, 9)] g0 g) (h : GJ_X11_match_1 a1 g = some zr) : fp_10 [7, 8, 9, 10, 12, 13, 14, 15, 19, 20, 21, 22, 23, 24, 35, 36, 37, 39, 40, 41, 42, 43, 53, 54] [(0, 10), (11, 6), (16, 12), (17, 0), (17, 1), (17, 2), (34, 6), (38, 6), (38, 7), (38, 8), (38, 9)] g0 zr := by
  unfold GJ_X11_match_1 at h
  exact fJ_X11_match_3 hf h
theorem fF_X11_match {g0 : uZ} {a1 : Int} {g : uZ} {zr : ((Int ⊕ Nat) × uZ)} (hf : Fr [7, 8, 9, 10, 12, 13, 14, 15, 19, 20, 21, 22, 23, 24, 35, 36, 37, 39, 40, 41, 42, 43, 53, 54] [(0, 10), (11, 6), (16, 12), (17, 0), (17, 1), (17, 2), (34, 6), (38, 6), (38, 7), (38, 8), (38, 9)] g0 g) (h : GF_X11_match a1 g = some zr) : fp_10 [7, 8, 9, 10, 12, 13, 14, 15, 19, 20, 21, 22, 23, 24, 35, 36, 37, 39, 40, 41, 42, 43, 53, 54] [(0, 10), (11, 6), (16, 12), (17, 0), (17, 1), (17, 2), (34, 6), (38, 6), (38, 7), (38, 8), (38, 9)] g0 zr := by
  unfold GF_X11_match at h
  replace h := (ck_e h).2
  rcases it_x h with h | h
  · skip
    exact fJ_X11_match_1 hf h
  · skip
    rcases it_x h with h | h
    · skip
      exact fJ_X11_match_1 hf h
    · skip
      exact fJ_X11_match_3 hf h
theorem fJ_X11_matched_2 {g0 : uZ} {a1 : Int} {g : uZ} {v4 : Int} {zr : ((Int ⊕ Nat) × uZ)} (hf : Fr [7, 8, 9, 10, 12, 13, 14, 15, 19, 20, 21, 22, 23, 24, 35, 36, 37, 39, 40, 41, 42, 43, 53, 54] [(0, 10), (11, 6), (16, 12), (17, 0), (17, 1), (17, 2), (34, 6), (38, 6), (38, 7), (38, 8), (38, 9)] g0 g) (h : GJ_X11_matched_2 a1 g v4 = some zr) : fp_10 [7, 8, 9, 10, 12, 13, 14, 15, 19, 20, 21, 22, 23, 24, 35, 36, 37, 39, 40, 41, 42, 43, 53, 54] [(0, 10), (11, 6), (16, 12), (17, 0), (17, 1), (17, 2), (34, 6), (38, 6), (38, 7), (38, 8), (38, 9)] g0 zr := by
  unfold GJ_X11_matched_2 at h
  replace h := (ck_e h).2
  rcases it_x h with h | h
  · skip
    cases h
    exact hf
  · skip
    obtain ⟨_, hc, h⟩ := cp_e h
    have hf1 := Fr.tr hf (fF_X11_findPath Fr.rf hc) (by decide) (by decide)
    clear hc
    obtain ⟨_, hc, h⟩ := cp_e h
    have hf2 := Fr.tr hf1 (fF_X10_findPairs Fr.rf hc) (by decide) (by decide)
    clear hc
    obtain ⟨_, hc, h⟩ := cp_e h
    clear hc
    cases h
    exact hf2
theorem fJ_X11_matched_1 {g0 : uZ} {a1 : Int} {g : uZ} {zr : ((Int ⊕ Nat) × uZ)} (hf : Fr [7, 8, 9, 10, 12, 13, 14, 15, 19, 20, 21, 22, 23, 24, 35, 36, 37, 39, 40, 41, 42, 43, 53, 54] [(0, 10), (11, 6), (16, 12), (17, 0), (17, 1), (17, 2), (34, 6), (38, 6), (38, 7), (38, 8), (38, 9)] g0 g) (h : GJ_X11_matched_1 a1 g = some zr) : fp_10 [7, 8, 9, 10, 12, 13, 14, 15, 19, 20, 21, 22, 23, 24, 35, 36, 37, 39, 40, 41, 42, 43, 53, 54] [(0, 10), (11, 6), (16, 12), (17, 0), (17, 1), (17, 2), (34, 6), (38, 6), (38, 7), (38, 8), (38, 9)] g0 zr := by
  unfold GJ_X11_matched_1 at h
  exact fJ_X11_matched_2 hf h
theorem fF_X11_matched {g0 : uZ} {a1 : Int} {g : uZ} {zr : ((Int ⊕ Nat) × uZ)} (hf : Fr [7, 8, 9, 10, 12, 13, 14, 15, 19, 20, 21, 22, 23, 24, 35, 36, 37, 39, 40, 41, 42, 43, 53, 54] [(0, 10), (11, 6), (16, 12), (17, 0), (17, 1), (17, 2), (34, 6), (38, 6), (38, 7), (38, 8), (38, 9)] g0 g) (h : GF_X11_matched a1 g = some zr) : fp_10 [7, 8, 9, 10, 12, 13, 14, 15, 19, 20, 21, 22, 23, 24, 35, 36, 37, 39, 40, 41, 42, 43, 53, 54] [(0, 10), (11, 6), (16, 12), (17, 0), (17, 1), (17, 2), (34, 6), (38, 6), (38, 7), (38, 8), (38, 9)] g0 zr := by
  unfold GF_X11_matched at h
  replace h := (ck_e h).2
  rcases it_x h with h | h
  · skip
    exact fJ_X11_matched_1 hf h
  · skip
    obtain ⟨_, hc, h⟩ := cp_e h
    clear hc
    replace h := (ck_e h).2
    rcases it_x h with h | h
    · skip
      exact fJ_X11_matched_1 hf h
    · skip
      exact fJ_X11_matched_2 hf h
theorem fF_X11_mark {g0 : uZ} {a1 : Int} {g : uZ} {zr : ((Int ⊕ Nat) × uZ)} (hf : Fr [7, 8, 9, 10, 12, 13, 14, 15, 19, 20, 21, 22, 23, 24, 35, 36, 37, 39, 40, 41, 42, 43, 45, 46, 47, 48, 49, 50] [(0, 10), (0, 12), (11, 6), (16, 12), (17, 0), (17, 1), (17, 2), (34, 6), (38, 6), (38, 7), (38, 8), (38, 9), (44, 9)] g0 g) (h : GF_X11_mark a1 g = some zr) : fp_10 [7, 8, 9, 10, 12, 13, 14, 15, 19, 20, 21, 22, 23, 24, 35, 36, 37, 39, 40, 41, 42, 43, 45, 46, 47, 48, 49, 50] [(0, 10), (0, 12), (11, 6), (16, 12), (17, 0), (17, 1), (17, 2), (34, 6), (38, 6), (38, 7), (38, 8), (38, 9), (44, 9)] g0 zr := by
  unfold GF_X11_mark at h
  obtain ⟨_, hc, h⟩ := cp_e h
  have hf1 := Fr.tr hf (fF_X11_findMarks Fr.rf hc) (by decide) (by decide)
  clear hc
  obtain ⟨_, hc, h⟩ := cp_e h
  clear hc
  replace h := (ck_e h).2
  rcases it_x h with h | h
  · skip
    cases h
    exact hf1
  · skip
    obtain ⟨_, hc, h⟩ := cp_e h
    clear hc
    cases h
    exact hf1
theorem fJ_X11_gaps_2 {g0 : uZ} {a1 : Int} {g : uZ} {v3 : Int} {zr : ((Int ⊕ Nat) × uZ)} (hf : Fr [7, 8, 9, 10, 12, 13, 14, 15, 19, 20, 21, 22, 23, 24, 35, 36, 37, 39, 40, 41, 42, 43, 45, 46, 47, 48, 49, 50] [(0, 10), (0, 12), (11, 6), (16, 12), (17, 0), (17, 1), (17, 2), (34, 6), (38, 6), (38, 7), (38, 8), (38, 9), (44, 9)] g0 g) (h : GJ_X11_gaps_2 a1 g v3 = some zr) : fp_10 [7, 8, 9, 10, 12, 13, 14, 15, 19, 20, 21, 22, 23, 24, 35, 36, 37, 39, 40, 41, 42, 43, 45, 46, 47, 48, 49, 50] [(0, 10), (0, 12), (11, 6), (16, 12), (17, 0), (17, 1), (17, 2), (34, 6), (38, 6), (38, 7), (38, 8), (38, 9), (44, 9)] g0 zr := by
  unfold GJ_X11_gaps_2 at h
  replace h := (ck_e h).2
  rcases it_x h with h | h
  · skip
    cases h
    exact hf
  · skip
    obtain ⟨_, hc, h⟩ := cp_e h
    have hf1 := Fr.tr hf (fF_X11_findMarks Fr.rf hc) (by decide) (by decide)
    clear hc
    replace h := (ck_e h).2
    rcases it_x h with h | h
    · skip
      obtain ⟨_, hc, h⟩ := cp_e h
      clear hc
      cases h
      exact hf1
    · skip
      rcases it_x h with h | h
      · skip
        obtain ⟨_, hc, h⟩ := cp_e h
        clear hc
        cases h
        exact hf1
      · skip
        rcases it_x h with h | h
        · skip
          obtain ⟨_, hc, h⟩ := cp_e h
          clear hc
          cases h
          exact hf1
        · skip
          rcases it_x h with h | h
          · skip
            obtain ⟨_, hc, h⟩ := cp_e h
            clear hc
            cases h
            exact hf1
          · skip
            obtain ⟨_, hc, h⟩ := cp_e h
            clear hc
            cases h
            exact hf1
theorem fJ_X11_gaps_1 {g0 : uZ} {a1 : Int} {g : uZ} {zr : ((Int ⊕ Nat) × uZ)} (hf : Fr [7, 8, 9, 10, 12, 13, 14, 15, 19, 20, 21, 22, 23, 24, 35, 36, 37, 39, 40, 41, 42, 43, 45, 46, 47, 48, 49, 50] [(0, 10), (0, 12), (11, 6), (16, 12), (17, 0), (17, 1), (17, 2), (34, 6), (38, 6), (38, 7), (38, 8), (38, 9), (44, 9)] g0 g) (h : GJ_X11_gaps_1 a1 g = some zr) : fp_10 [7, 8, 9, 10, 12, 13, 14, 15, 19, 20, 21, 22, 23, 24, 35, 36, 37, 39, 40, 41, 42, 43, 45, 46, 47, 48, 49, 50] [(0, 10), (0, 12), (11, 6), (16, 12), (17, 0), (17, 1), (17, 2), (34, 6), (38, 6), (38, 7), (38, 8), (38, 9), (44, 9)] g0 zr := by
  unfold GJ_X11_gaps_1 at h
  exact fJ_X11_gaps_2 hf h
theorem fF_X11_gaps {g0 : uZ} {a1 : Int} {g : uZ} {zr : ((Int ⊕ Nat) × uZ)} (hf : Fr [7, 8, 9, 10, 12, 13, 14, 15, 19, 20, 21, 22, 23, 24, 35, 36, 37, 39, 40, 41, 42, 43, 45, 46, 47, 48, 49, 50] [(0, 10), (0, 12), (11, 6), (16, 12), (17, 0), (17, 1), (17, 2), (34, 6), (38, 6), (38, 7), (38, 8), (38, 9), (44, 9)] g0 g) (h : GF_X11_gaps a1 g = some zr) : fp_10 [7, 8, 9, 10, 12, 13, 14, 15, 19, 20, 21, 22, 23, 24, 35, 36, 37, 39, 40, 41, 42, 43, 45, 46, 47, 48, 49, 50] [(0, 10), (0, 12), (11, 6), (16, 12), (17, 0), (17, 1), (17, 2), (34, 6), (38, 6), (38, 7), (38, 8), (38, 9), (44, 9)] g0 zr := by
  unfold GF_X11_gaps at h
  replace h := (ck_e h).2
  rcases it_x h with h | h
  · skip
    exact fJ_X11_gaps_1 hf h
  · skip
    rcases it_x h with h | h
    · skip
      exact fJ_X11_gaps_1 hf h
    · skip
      exact fJ_X11_gaps_2 hf h
theorem fF_X11_rough {g0 : uZ} {a1 : Int} {g : uZ} {zr : ((Int ⊕ Nat) × uZ)} (hf : Fr [7, 8, 9, 10, 12, 13, 14, 15, 19, 20, 21, 22, 23, 24, 35, 36, 37, 39, 40, 41, 42, 43, 45, 46, 47, 48, 49, 50] [(0, 10), (0, 12), (11, 6), (16, 12), (17, 0), (17, 1), (17, 2), (34, 6), (38, 6), (38, 7), (38, 8), (38, 9), (44, 9)] g0 g) (h : GF_X11_rough a1 g = some zr) : fp_10 [7, 8, 9, 10, 12, 13, 14, 15, 19, 20, 21, 22, 23, 24, 35, 36, 37, 39, 40, 41, 42, 43, 45, 46, 47, 48, 49, 50] [(0, 10), (0, 12), (11, 6), (16, 12), (17, 0), (17, 1), (17, 2), (34, 6), (38, 6), (38, 7), (38, 8), (38, 9), (44, 9)] g0 zr := by
  unfold GF_X11_rough at h
  obtain ⟨_, hc, h⟩ := cp_e h
  have hf1 := Fr.tr hf (fF_X11_findMarks Fr.rf hc) (by decide) (by decide)
  clear hc
  obtain ⟨_, hc, h⟩ := cp_e h
  clear hc
  replace h := (ck_e h).2
  rcases it_x h with h | h
  · skip
    cases h
    exact hf1
  · skip
    obtain ⟨_, hc, h⟩ := cp_e h
    clear hc
    cases h
    exact hf1
theorem fF_X11_mean {g0 : uZ} {a1 : Int} {g : uZ} {zr : ((Int ⊕ Nat) × uZ)} (hf : Fr [7, 8, 9, 10, 12, 13, 14, 15, 19, 20, 21, 22, 23, 24, 35, 36, 37, 39, 40, 41, 42, 43, 45, 46, 47, 48, 49, 50] [(0, 10), (0, 12), (11, 6), (16, 12), (17, 0), (17, 1), (17, 2), (34, 6), (38, 6), (38, 7), (38, 8), (38, 9), (44, 9)] g0 g) (h : GF_X11_mean a1 g = some zr) : fp_10 [7, 8, 9, 10, 12, 13, 14, 15, 19, 20, 21, 22, 23, 24, 35, 36, 37, 39, 40, 41, 42, 43, 45, 46, 47, 48, 49, 50] [(0, 10), (0, 12), (11, 6), (16, 12), (17, 0), (17, 1), (17, 2), (34, 6), (38, 6), (38, 7), (38, 8), (38, 9), (44, 9)] g0 zr := by
  unfold GF_X11_mean at h
  obtain ⟨_, hc, h⟩ := cp_e h
  have hf1 := Fr.tr hf (fF_X11_findMarks Fr.rf hc) (by decide) (by decide)
  clear hc
  obtain ⟨_, hc, h⟩ := cp_e h
  clear hc
  replace h := (ck_e h).2
  obtain ⟨_, h⟩ := lt_x h
  replace h := (ck_e h).2
  rcases it_x h with h | h
  · skip
    cases h
    exact hf1
  · skip
    obtain ⟨_, hc, h⟩ := cp_e h
    clear hc
    obtain ⟨_, hc, h⟩ := cp_e h
    clear hc
    obtain ⟨_, hc, h⟩ := cp_e h
    clear hc
    cases h
    exact hf1
theorem fJ_X11_anew_2 {g0 : uZ} {a1 : Int} {a2 : Int} {a3 : Int} {g : uZ} {v7 : Int} {zr : ((Int ⊕ Nat) × uZ)} (hf : Fr [7, 8, 9, 10, 12, 13, 14, 15, 19, 20, 21, 22, 23, 24, 35, 36, 37, 39, 40, 41, 42, 43, 45, 46, 47, 48, 49, 50] [(0, 10), (0, 12), (11, 6), (16, 12), (17, 0), (17, 1), (17, 2), (34, 6), (38, 6), (38, 7), (38, 8), (38, 9), (44, 9)] g0 g) (h : GJ_X11_anew_2 a1 a2 a3 g v7 = some zr) : fp_10 [7, 8, 9, 10, 12, 13, 14, 15, 19, 20, 21, 22, 23, 24, 35, 36, 37, 39, 40, 41, 42, 43, 45, 46, 47, 48, 49, 50] [(0, 10), (0, 12), (11, 6), (16, 12), (17, 0), (17, 1), (17, 2), (34, 6), (38, 6), (38, 7), (38, 8), (38, 9), (44, 9)] g0 zr := by
  unfold GJ_X11_anew_2 at h
  replace h := (ck_e h).2
  rcases it_x h with h | h
  · skip
    cases h
    exact hf
  · skip
    obtain ⟨_, hc, h⟩ := cp_e h
    have hf1 := Fr.tr hf (fF_X11_findMarks Fr.rf hc) (by decide) (by decide)
    clear hc
    obtain ⟨_, hc, h⟩ := cp_e h
    clear hc
    cases h
    exact hf1
theorem fJ_X11_anew_1 {g0 : uZ} {a1 : Int} {a2 : Int} {a3 : Int} {g : uZ} {zr : ((Int ⊕ Nat) × uZ)} (hf : Fr [7, 8, 9, 10, 12, 13, 14, 15, 19, 20, 21, 22, 23, 24, 35, 36, 37, 39, 40, 41, 42, 43, 45, 46, 47, 48, 49, 50] [(0, 10), (0, 12), (11, 6), (16, 12), (17, 0), (17, 1), (17, 2), (34, 6), (38, 6), (38, 7), (38, 8), (38, 9), (44, 9)] g0 g) (h : GJ_X11_anew_1 a1 a2 a3 g = some zr) : fp_10 [7, 8, 9, 10, 12, 13, 14, 15, 19, 20, 21, 22, 23, 24, 35, 36, 37, 39, 40, 41, 42, 43, 45, 46, 47, 48, 49, 50] [(0, 10), (0, 12), (11, 6), (16, 12), (17, 0), (17, 1), (17, 2), (34, 6), (38, 6), (38, 7), (38, 8), (38, 9), (44, 9)] g0 zr := by
  unfold GJ_X11_anew_1 at h
  exact fJ_X11_anew_2 hf h
theorem fF_X11_anew {g0 : uZ} {a1 : Int} {a2 : Int} {a3 : Int} {g : uZ} {zr : ((Int ⊕ Nat) × uZ)} (hf : Fr [7, 8, 9, 10, 12, 13, 14, 15, 19, 20, 21, 22, 23, 24, 35, 36, 37, 39, 40, 41, 42, 43, 45, 46, 47, 48, 49, 50] [(0, 10), (0, 12), (11, 6), (16, 12), (17, 0), (17, 1), (17, 2), (34, 6), (38, 6), (38, 7), (38, 8), (38, 9), (44, 9)] g0 g) (h : GF_X11_anew a1 a2 a3 g = some zr) : fp_10 [7, 8, 9, 10, 12, 13, 14, 15, 19, 20, 21, 22, 23, 24, 35, 36, 37, 39, 40, 41, 42, 43, 45, 46, 47, 48, 49, 50] [(0, 10), (0, 12), (11, 6), (16, 12), (17, 0), (17, 1), (17, 2), (34, 6), (38, 6), (38, 7), (38, 8), (38, 9), (44, 9)] g0 zr := by
  unfold GF_X11_anew at h
  obtain ⟨_, hc, h⟩ := cp_e h
  clear hc
  replace h := (ck_e h).2
  rcases it_x h with h | h
  · skip
    cases h
    exact hf
  · skip
    replace h := (ck_e h).2
    rcases it_x h with h | h
    · skip
      exact fJ_X11_anew_1 hf h
    · skip
      rcases it_x h with h | h
      · skip
        exact fJ_X11_anew_1 hf h
      · skip
        replace h := (ck_e h).2
        rcases it_x h with h | h
        · skip
          exact fJ_X11_anew_1 hf h
        · skip
          rcases it_x h with h | h
          · skip
            exact fJ_X11_anew_1 hf h
          · skip
            exact fJ_X11_anew_2 hf h
