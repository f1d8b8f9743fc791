/-! the reference: marks along a SPAN -/
/-- what the reference needs of span i -/
def SpM (x B L : Nat → Int) (n N i a b fr to : Nat) (p : Nat → Nat) (g : uZ) : Prop := (g 55 6 = (n : Int) ∧ n ≤ 800 ∧ g 59 = x ∧ g 56 = B ∧ LGP N L g) ∧ (i < 100 ∧ g 78 i = (a : Int) ∧ g 78 (i + 1) = (b : Int) ∧ a < b ∧ b ≤ N) ∧ (fr = a * bN B 2 ∧ to = (if n ≤ b * bN B 2 then n else b * bN B 2)) ∧ XOk x ∧ BOk B ∧ (∀ s, fr ≤ s → s < to → s / bN B 2 < b ∧ L (s / bN B 2) = (p s : Int)) ∧ (∀ s, p s ≤ 48) ∧ ∀ s, s < to → 2 ≤ p s
theorem SpM.fr {x B L : Nat → Int} {n N i a b fr to : Nat} {p : Nat → Nat} {g g' : uZ} (h : SpM x B L n N i a b fr to p g) {Ls : List Nat} {Ms : List (Nat × Nat)} (hF : Fr Ls Ms g g') (h1 : ∀ c ∈ [55, 59, 56, 64, 65, 66, 69, 78], c ∉ Ls) (h2 : ∀ c ∈ [59, 56, 64, 65, 66, 69, 78], c ∉ Ms.map Prod.fst) (h3 : (55, 6) ∉ Ms ∧ (55, 17) ∉ Ms) : SpM x B L n N i a b fr to p g' := by
  obtain ⟨⟨a1, a2, a3, a4, a5⟩, ⟨b1, b2, b3, b4⟩, c, d⟩ := h
  have f := fun (c : Nat) (hc : c ∈ [59, 56, 64, 65, 66, 69, 78]) => hF.f c (h1 c (List.mem_cons_of_mem _ hc)) (h2 c hc)
  have e78 := f 78 (by decide)
  refine ⟨⟨(hF 55 6 (h1 55 (by decide)) h3.1).trans a1, a2, (f 59 (by decide)).trans a3, (f 56 (by decide)).trans a4, a5.fr (hF 55 17 (h1 55 (by decide)) h3.2) (f 64 (by decide)) (f 65 (by decide)) (f 66 (by decide)) (f 69 (by decide))⟩, ⟨b1, by rw [e78]; exact b2, by rw [e78]; exact b3, b4⟩, c, d⟩
theorem SpM.first {x B L : Nat → Int} {n N i a b fr to : Nat} {p : Nat → Nat} {g : uZ} (h : SpM x B L n N i a b fr to p g) : GF_X12_firstSample (i : Int) g = some (fr : Int) := by
  obtain ⟨⟨a1, a2, a3, a4, a5⟩, ⟨b1, b2, b3, b4, b5⟩, ⟨c1, c2⟩, d1, d2, -⟩ := h
  unfold GF_X12_firstSample
  rw [rdZ_at i rfl (by omega), b2, rdB2, a4, d2.b2.1, c1, Int.natCast_mul]
theorem SpM.behind {x B L : Nat → Int} {n N i a b fr to : Nat} {p : Nat → Nat} {g : uZ} (h : SpM x B L n N i a b fr to p g) : GF_X12_behindSpan (i : Int) g = some (to : Int) := by
  obtain ⟨⟨a1, a2, a3, a4, a5⟩, ⟨b1, b2, b3, b4, b5⟩, ⟨c1, c2⟩, d1, d2, -⟩ := h
  have hN := a5.le
  have h2 := d2.b2
  have hm : b * bN B 2 ≤ 100 * 40 := Nat.mul_le_mul (by omega) (by omega)
  unfold GF_X12_behindSpan
  rw [rdZ_at (i + 1) (by omega) (by omega), b3, rdB2, a4, h2.1, lt_ok, ← Int.natCast_mul, a1, ck_ok (by omega), ck_ok (by omega), lt_ok, c2]
  congr 1
  split <;> split <;> omega
theorem SpM.per {x B L : Nat → Int} {n N i a b fr to : Nat} {p : Nat → Nat} {g : uZ} (h : SpM x B L n N i a b fr to p g) {s : Nat} (h1 : fr ≤ s) (h2 : s < to) : GF_X12_periodAt (i : Int) (s : Int) g = some (p s : Int) := by
  obtain ⟨⟨a1, a2, a3, a4, a5⟩, ⟨b1, b2, b3, b4, b5⟩, ⟨c1, c2⟩, d1, d2, d3, d4, d5⟩ := h
  have hN := a5.le
  have hb2 := d2.b2
  have q := d3 s h1 h2
  have hs : s < 800 := by
    have : to ≤ n := by rw [c2]; split <;> omega
    omega
  unfold GF_X12_periodAt
  rw [rdB2, a4, hb2.1, dvZ_ok (by omega) (by omega) (by omega), rdZ_at (i + 1) (by omega) (by omega), b3, lt_ok]
  have e : Int.tdiv (s : Int) ((bN B 2 : Nat) : Int) = ((s / bN B 2 : Nat) : Int) := rfl
  generalize hd : s / bN B 2 = dd at *
  rw [e, ck_ok (by omega), ck_ok (by omega), lt_ok]
  have e2 : (if (b : Int) - 1 ≤ (dd : Int) then (b : Int) - 1 else (dd : Int)) = (dd : Int) := by split <;> omega
  rw [e2, a5.at (by omega), cp_ok, q.2]
theorem m_worths {x B L : Nat → Int} {n N i a b fr to : Nat} {p : Nat → Nat} {g : uZ} {γ : Type} {Kk : uZ → Option γ} {Rr : γ → Prop} (h : SpM x B L n N i a b fr to p g) (hft : fr ≤ to) (hk : ∀ z, Fr [86, 87] [] g z → (∀ s, fr ≤ s → s < to → z 86 s = (WF x p (bN B 13 : Int) to (to - fr) s).1 ∧ z 87 s = (WF x p (bN B 13 : Int) to (to - fr) s).2) → ∃ r, Kk z = some r ∧ Rr r) : ∃ r, lp (fun z => GB_X12_marksOf_2 (i : Int) (fr : Int) z.1 z.2) ((to : Int) - 1, g) Kk = some r ∧ Rr r := by
  obtain ⟨⟨a1, a2, a3, a4, a5⟩, ⟨b1, b2, b3, b4, b5⟩, ⟨c1, c2⟩, d1, d2, d3, d4, d5⟩ := id h
  have hton : to ≤ n := by rw [c2]; split <;> omega
  have b13 := d2.b13
  have hb := WF_b (c := (bN B 13 : Int)) (to := to) d1 d4 d5 ⟨by omega, by omega⟩
  refine lp_go (fun t z => z.1 = (to : Int) - 1 - (t : Int) ∧ Fr [86, 87] [] g z.2 ∧ ∀ s, to ≤ s + t → s < to → z.2 86 s = (WF x p (bN B 13 : Int) to t s).1 ∧ z.2 87 s = (WF x p (bN B 13 : Int) to t s).2) (fun z => Fr [86, 87] [] g z ∧ ∀ s, fr ≤ s → s < to → z 86 s = (WF x p (bN B 13 : Int) to (to - fr) s).1 ∧ z 87 s = (WF x p (bN B 13 : Int) to (to - fr) s).2) (to - fr) (by omega) ⟨by dsimp only; omega, Fr.rf, fun s h1 h2 => by omega⟩ ?_ ?_ (fun z hz => hk z hz.1 hz.2)
  · rintro t ⟨w, z⟩ ht ⟨e1, hF, hz⟩
    simp only at e1 hF hz
    subst e1
    dsimp only
    obtain ⟨s, hs⟩ : ∃ s, to = s + (t + 1) := ⟨to - (t + 1), by omega⟩
    have es : (to : Int) - 1 - (t : Int) = (s : Int) := by omega
    have hsz := h.fr hF (by decide) (by decide) (by decide)
    have p1 := d4 s
    have p2 := d5 s (by omega)
    have e4 : Int.tdiv (p s : Int) 4 = ((p s / 4 : Nat) : Int) := rfl
    have h4 : p s / 4 ≤ 12 ∧ 2 ≤ p s - p s / 4 := by omega
    have hhi : hiS p to s ≤ to - 1 ∧ hiS p to s ≤ s + p s + p s / 4 ∧ (hiS p to s = to - 1 ∨ hiS p to s = s + p s + p s / 4) := by unfold hiS; split <;> omega
    have ehi : mn ((s : Int) + (p s : Int) + ((p s / 4 : Nat) : Int)) ((to : Int) - 1) = (hiS p to s : Int) := by
      unfold mn hiS
      split <;> split <;> omega
    have hct : ctS p to s = hiS p to s + 1 - (s + p s - p s / 4) := rfl
    have hlb : GF_X12_laysBehind (i : Int) (s : Int) z = some (upZ (upZ z 87 s (wN x p (bN B 13 : Int) to (WF x p (bN B 13 : Int) to t) s).2) 86 s (wN x p (bN B 13 : Int) to (WF x p (bN B 13 : Int) to t) s).1) := by
      unfold GF_X12_laysBehind
      rw [hsz.per (by omega) (by omega), cp_ok, dvZ_ok (by omega) (by decide) (by decide), e4, lt_ok, dvZ_ok (by omega) (by decide) (by decide), e4, hsz.behind, cp_ok, m_lesser z (by omega) (by omega), cp_ok, ehi]
      rw [lp_for (fun k => ((bst (fwS p (bN B 13 : Int) (WF x p (bN B 13 : Int) to t) s) (s + p s - p s / 4) k).1, ((bst (fwS p (bN B 13 : Int) (WF x p (bN B 13 : Int) to t) s) (s + p s - p s / 4) k).2, ((s + p s - p s / 4 + k : Nat) : Int)))) (ctS p to s) ((bst (fwS p (bN B 13 : Int) (WF x p (bN B 13 : Int) to t) s) (s + p s - p s / 4) (ctS p to s)).1, (bst (fwS p (bN B 13 : Int) (WF x p (bN B 13 : Int) to t) s) (s + p s - p s / 4) (ctS p to s)).2) (by
        refine Prod.ext rfl (Prod.ext rfl ?_)
        dsimp only
        omega) (by omega)]
      · unfold GC_X12_laysBehind_5
        dsimp only
        rw [wrZ_at s rfl (by omega), rdZ_at s rfl (by omega), upZ_n (by decide), hsz.1.2.2.1, wrZ_at s rfl (by omega), Int.add_comm (x s)]
        rfl
      · intro k hk'
        have fb : ∀ j, j ≤ k → -400000 ≤ fwS p (bN B 13 : Int) (WF x p (bN B 13 : Int) to t) s (s + p s - p s / 4 + j) ∧ fwS p (bN B 13 : Int) (WF x p (bN B 13 : Int) to t) s (s + p s - p s / 4 + j) ≤ 400000 := fun j hj => by
          have i2 := (hb t (by omega) (s + p s - p s / 4 + j) (by omega) (by omega)).1
          unfold fwS
          have ab1 : 0 ≤ ab (((s + p s - p s / 4 + j : Nat) : Int) - ((s + p s : Nat) : Int)) ∧ ab (((s + p s - p s / 4 + j : Nat) : Int) - ((s + p s : Nat) : Int)) ≤ 12 := by unfold ab; split <;> omega
          have m1 : 0 ≤ (bN B 13 : Int) * ab (((s + p s - p s / 4 + j : Nat) : Int) - ((s + p s : Nat) : Int)) := Int.mul_nonneg (by omega) ab1.1
          have m2 : (bN B 13 : Int) * ab (((s + p s - p s / 4 + j : Nat) : Int) - ((s + p s : Nat) : Int)) ≤ 20 * 12 := Int.mul_le_mul (by omega) ab1.2 ab1.1 (by omega)
          omega
        have fk := fb k (Nat.le_refl _)
        have c86 := (hz (s + p s - p s / 4 + k) (by omega) (by omega)).1
        have e23 : (WF x p (bN B 13 : Int) to t (s + p s - p s / 4 + k)).1 - (bN B 13 : Int) * ab ((((s + p s - p s / 4 + k : Nat) : Int) - (s : Int)) - (p s : Int)) = fwS p (bN B 13 : Int) (WF x p (bN B 13 : Int) to t) s (s + p s - p s / 4 + k) := by
          unfold fwS
          rw [show (((s + p s - p s / 4 + k : Nat) : Int) - (s : Int)) - (p s : Int) = ((s + p s - p s / 4 + k : Nat) : Int) - ((s + p s : Nat) : Int) by omega]
        have eb : bst (fwS p (bN B 13 : Int) (WF x p (bN B 13 : Int) to t) s) (s + p s - p s / 4) (k + 1) = if (bst (fwS p (bN B 13 : Int) (WF x p (bN B 13 : Int) to t) s) (s + p s - p s / 4) k).1 = -1 ∨ (bst (fwS p (bN B 13 : Int) (WF x p (bN B 13 : Int) to t) s) (s + p s - p s / 4) k).2 < fwS p (bN B 13 : Int) (WF x p (bN B 13 : Int) to t) s (s + p s - p s / 4 + k) then (((s + p s - p s / 4 + k : Nat) : Int), fwS p (bN B 13 : Int) (WF x p (bN B 13 : Int) to t) s (s + p s - p s / 4 + k)) else bst (fwS p (bN B 13 : Int) (WF x p (bN B 13 : Int) to t) s) (s + p s - p s / 4) k := rfl
        dsimp only
        unfold GB_X12_laysBehind_4 GJ_X12_laysBehind_2 GJ_X12_laysBehind_3
        rw [ck_ok (by omega), ck_ok (by omega), if_neg (by omega), rdZ_at (s + p s - p s / 4 + k) rfl (by omega), c86, rdB13, hsz.1.2.2.2.1, b13.1, m_apart z (by omega) (by omega), cp_ok, lt_ok, e23, eb]
        have ei : ((s + p s - p s / 4 + (k + 1) : Nat) : Int) = ((s + p s - p s / 4 + k : Nat) : Int) + 1 := by omega
        rw [ei]
        rcases bst_in (fwS p (bN B 13 : Int) (WF x p (bN B 13 : Int) to t) s) (s + p s - p s / 4) k with ⟨k0, z0⟩ | ⟨j, hj, zj⟩
        · rw [z0]
          dsimp only
          rw [ck_ok (by decide), if_pos rfl, lt_ok, if_pos (Or.inl rfl)]
        · have fj := fb j (by omega)
          rw [zj]
          dsimp only
          rw [ck_ok (by omega), if_neg (by omega), ck_ok (by omega), ck_ok (by omega)]
          by_cases c : fwS p (bN B 13 : Int) (WF x p (bN B 13 : Int) to t) s (s + p s - p s / 4 + k) ≤ fwS p (bN B 13 : Int) (WF x p (bN B 13 : Int) to t) s (s + p s - p s / 4 + j)
          · rw [if_pos c, lt_ok, if_neg (by omega)]
          · rw [if_neg c, lt_ok, if_pos (Or.inr (by omega))]
      · dsimp only
        unfold GB_X12_laysBehind_4
        rw [ck_ok (by omega), ck_ok (by omega), if_pos (by omega)]
    unfold GB_X12_marksOf_2
    rw [es, ck_ok (by omega), ck_ok (by omega), if_neg (by omega), hlb, cp_ok, lt_ok]
    refine ⟨_, rfl, by dsimp only; omega, (hF.wr (by decide)).wr (by decide), fun s' h1 h2 => ?_⟩
    have ew : WF x p (bN B 13 : Int) to (t + 1) s' = if s' + (t + 1) = to then wN x p (bN B 13 : Int) to (WF x p (bN B 13 : Int) to t) s' else WF x p (bN B 13 : Int) to t s' := rfl
    dsimp only
    rw [ew, upZ_n (show (87 : Nat) ≠ 86 by decide)]
    by_cases c : s' = s
    · subst c
      rw [if_pos (by omega), upZ_ss, upZ_ss]
      exact ⟨rfl, rfl⟩
    · rw [if_neg (by omega), upZ_sn c, upZ_sn c, upZ_n (by decide)]
      exact hz s' (by omega) h2
  · rintro ⟨w, z⟩ ⟨e1, hF, hz⟩
    simp only at e1 hF hz
    subst e1
    dsimp only
    refine ⟨z, ?_, hF, fun s h1 h2 => hz s (by omega) h2⟩
    unfold GB_X12_marksOf_2
    rw [ck_ok (by omega), ck_ok (by omega), if_pos (by omega)]
