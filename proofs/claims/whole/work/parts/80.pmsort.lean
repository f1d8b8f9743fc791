/-! the reference: lags along the path, and their middle by sorting -/
def LGP (N : Nat) (L : Nat → Int) (g : uZ) : Prop := g 55 17 = N ∧ ∃ (m : Nat → Nat) (lag : Nat → Nat → Nat) (own : Nat → Nat → Int), MT N m lag own g ∧ ∀ f, f < N → 0 ≤ g 69 f ∧ (g 69 f).toNat < m f ∧ L f = (lag f (g 69 f).toNat : Int)
theorem LGP.le {N : Nat} {L : Nat → Int} {g : uZ} (h : LGP N L g) : N ≤ 100 := by
  obtain ⟨-, m, lag, own, hT, -⟩ := h
  exact hT.1
theorem LGP.at {N : Nat} {L : Nat → Int} {g : uZ} (h : LGP N L g) {f : Nat} (hf : f < N) : GF_X12_lagOnPath (f : Int) g = some (L f) := by
  obtain ⟨-, m, lag, own, hT, hp⟩ := h
  obtain ⟨p1, p2, p3⟩ := hp f hf
  rw [m_lagOnPath hT p1 p2 hf, p3]
theorem LGP.bd {N : Nat} {L : Nat → Int} {g : uZ} (h : LGP N L g) {f : Nat} (hf : f < N) : 0 ≤ L f ∧ L f ≤ 48 := by
  obtain ⟨-, m, lag, own, hT, hp⟩ := h
  obtain ⟨p1, p2, p3⟩ := hp f hf
  have := ((hT.2 f hf).2.2.2 _ p2).2.1
  omega
theorem LGP.fr {N : Nat} {L : Nat → Int} {g g' : uZ} (h : LGP N L g) (h17 : g' 55 17 = g 55 17) (h64 : g' 64 = g 64) (h65 : g' 65 = g 65) (h66 : g' 66 = g 66) (h69 : g' 69 = g 69) : LGP N L g' := by
  obtain ⟨h0, m, lag, own, hT, hp⟩ := h
  refine ⟨h17.trans h0, m, lag, own, ?_, ?_⟩
  · unfold MT
    rw [h64, h65, h66]
    exact hT
  · rw [h69]
    exact hp
def ltC (x : Nat → Int) : Nat → Int → Nat
  | 0, _ => 0
  | c + 1, n => ltC x c n + if x c < n then 1 else 0
theorem ltC_le (x : Nat → Int) (c : Nat) (n : Int) : ltC x c n ≤ c := by
  induction c with
  | zero => exact Nat.le_refl _
  | succ c ih => unfold ltC; split <;> omega
theorem cmV_ltC {L : Nat → Int} {a l : Nat} (h : ∀ j, j < l → 0 ≤ L (a + j)) (n : Nat) : cmV L a l n = ltC (fun j => L (a + j)) l (n : Int) := by
  induction l with
  | zero => exact cmV_nil L a n
  | succ l ih => rw [cmV_step L a l (h l (by omega)), ih (fun j hj => h j (by omega))]; rfl
theorem ltC_eq {x y : Nat → Int} {c : Nat} {n : Int} (h : ∀ j, j < c → x j = y j) : ltC x c n = ltC y c n := by
  induction c with
  | zero => rfl
  | succ c ih => unfold ltC; rw [ih (fun j hj => h j (by omega)), h c (by omega)]
theorem ltC_ins {x y : Nat → Int} {c p : Nat} {v n : Int} (hp : p ≤ c) (h1 : ∀ j, j < p → y j = x j) (h2 : y p = v) (h3 : ∀ j, p ≤ j → j < c → y (j + 1) = x j) : ltC y (c + 1) n = ltC x c n + if v < n then 1 else 0 := by
  induction c with
  | zero =>
    obtain rfl : p = 0 := by omega
    unfold ltC
    rw [h2]
    rfl
  | succ c ih =>
    by_cases hpc : p = c + 1
    · have e : ltC y (c + 1 + 1) n = ltC y (c + 1) n + if y (c + 1) < n then 1 else 0 := rfl
      rw [e, ltC_eq (y := x) (fun j hj => h1 j (by omega)), ← hpc, h2]
    · have e : ltC y (c + 1 + 1) n = ltC y (c + 1) n + if y (c + 1) < n then 1 else 0 := rfl
      have e2 : ltC x (c + 1) n = ltC x c n + if x c < n then 1 else 0 := rfl
      rw [e, e2, ih (by omega) (fun j hj h => h3 j hj (by omega)), h3 c (by omega) (by omega)]
      omega
def srt (x : Nat → Int) (c : Nat) : Prop := ∀ i, i + 1 < c → x i ≤ x (i + 1)
theorem srt.le {x : Nat → Int} {c i d : Nat} (h : srt x c) (hd : i + d < c) : x i ≤ x (i + d) := by
  induction d with
  | zero => exact Int.le_refl _
  | succ d ih => exact Int.le_trans (ih (by omega)) (h (i + d) (by omega))
theorem ltC_low {x : Nat → Int} {c h : Nat} (hs : srt x c) (hh : h < c) : ∀ k, k ≤ c → ltC x k (x h) ≤ h := by
  intro k
  induction k with
  | zero => intro _; exact Nat.zero_le _
  | succ k ih =>
    intro hk
    have i1 := ih (by omega)
    have i2 := ltC_le x k (x h)
    have e : ltC x (k + 1) (x h) = ltC x k (x h) + if x k < x h then 1 else 0 := rfl
    rcases Nat.lt_or_ge k h with q | q
    · rw [e]
      split <;> omega
    · have := hs.le (i := h) (d := k - h) (by omega)
      rw [show h + (k - h) = k by omega] at this
      rw [e, if_neg (by omega)]
      exact i1
theorem ltC_high {x : Nat → Int} {c h : Nat} (hs : srt x c) (hh : h < c) : ∀ k, k ≤ h + 1 → ltC x k (x h + 1) = k := by
  intro k
  induction k with
  | zero => intro _; rfl
  | succ k ih =>
    intro hk
    have e : ltC x (k + 1) (x h + 1) = ltC x k (x h + 1) + if x k < x h + 1 then 1 else 0 := rfl
    have := hs.le (i := k) (d := h - k) (by omega)
    rw [show k + (h - k) = h by omega] at this
    rw [e, if_pos (by omega), ih (by omega)]
theorem ltC_mono {x : Nat → Int} {c k : Nat} {n : Int} (h : c ≤ k) : ltC x c n ≤ ltC x k n := by
  induction k with
  | zero => have : c = 0 := by omega
            subst this; exact Nat.le_refl _
  | succ k ih =>
    by_cases hb : c = k + 1
    · subst hb; exact Nat.le_refl _
    · have := ih (by omega)
      have e : ltC x (k + 1) n = ltC x k n + if x k < n then 1 else 0 := rfl
      rw [e]
      omega
theorem m_sorts {g : uZ} {c : Nat} {v : Int} (hc : c < 110) (hv : 0 ≤ v ∧ v ≤ 48) (hx : ∀ j, j < c → 0 ≤ g 82 j ∧ g 82 j ≤ 48) (hs : srt (g 82) c) : ∃ z, GF_X12_sorts (c : Int) v g = some z ∧ z.1 = (c : Int) + 1 ∧ (∀ j, j < c + 1 → 0 ≤ z.2 82 j ∧ z.2 82 j ≤ 48) ∧ srt (z.2 82) (c + 1) ∧ ∀ n, ltC (z.2 82) (c + 1) n = ltC (g 82) c n + if v < n then 1 else 0 := by
  unfold GF_X12_sorts
  refine lp_wh (fun q => ∃ p : Nat, q.1 = (p : Int) ∧ p ≤ c ∧ (∀ j, j < p → q.2 82 j = g 82 j) ∧ (∀ j, p ≤ j → j < c → q.2 82 (j + 1) = g 82 j ∧ v < g 82 j)) (fun q => ∃ p : Nat, q.1 = (p : Int) ∧ p ≤ c ∧ (∀ j, j < p → q.2 82 j = g 82 j) ∧ (∀ j, p ≤ j → j < c → q.2 82 (j + 1) = g 82 j ∧ v < g 82 j) ∧ (p = 0 ∨ g 82 (p - 1) ≤ v)) (fun q => q.1.toNat) ⟨c, rfl, Nat.le_refl _, fun j hj => rfl, fun j h1 h2 => by omega⟩ (by dsimp only; omega) ?_ ?_
  · rintro ⟨w, z⟩ ⟨p, e1, hp, ha, hb⟩
    simp only at e1 ha hb
    subst e1
    dsimp only
    unfold GB_X12_sorts_2
    rw [ck_ok (by omega)]
    by_cases h0 : p = 0
    · right
      rw [if_pos (by omega)]
      exact ⟨_, rfl, p, rfl, hp, ha, hb, Or.inl h0⟩
    · have b1 := hx (p - 1) (by omega)
      have a1 := ha (p - 1) (by omega)
      rw [if_neg (by omega), rdZ_at (p - 1) (by omega) (by omega), a1, ck_ok (by omega), ck_ok (by omega)]
      by_cases hle : g 82 (p - 1) ≤ v
      · right
        rw [if_pos hle]
        exact ⟨_, rfl, p, rfl, hp, ha, hb, Or.inr hle⟩
      · left
        rw [if_neg hle, rdZ_at (p - 1) (by omega) (by omega), a1, wrZ_at p rfl (by omega), lt_ok]
        refine ⟨_, rfl, ⟨p - 1, by dsimp only; omega, by omega, fun j hj => ?_, fun j h1 h2 => ?_⟩, by dsimp only; omega⟩
        · dsimp only
          rw [upZ_sn (by omega)]
          exact ha j (by omega)
        · dsimp only
          by_cases hj : j = p - 1
          · have hj2 : j + 1 = p := by omega
            rw [hj2, upZ_ss, hj]
            exact ⟨rfl, by omega⟩
          · rw [upZ_sn (by omega)]
            exact hb j (by omega) h2
  · rintro ⟨w, z⟩ ⟨p, e1, hp, ha, hb, hend⟩
    simp only at e1 ha hb
    subst e1
    dsimp only
    unfold GC_X12_sorts_3
    rw [wrZ_at p rfl (by omega)]
    generalize hy : upZ z 82 p v = y
    have y1 : ∀ j, j < p → y 82 j = g 82 j := fun j hj => by rw [← hy, upZ_sn (by omega)]; exact ha j hj
    have y2 : y 82 p = v := by rw [← hy, upZ_ss]
    have y3 : ∀ j, p ≤ j → j < c → y 82 (j + 1) = g 82 j := fun j h1 h2 => by rw [← hy, upZ_sn (by omega)]; exact (hb j h1 h2).1
    refine ⟨_, rfl, rfl, fun j hj => ?_, fun i hi => ?_, fun n => ltC_ins hp y1 y2 y3⟩
    · dsimp only
      rcases Nat.lt_trichotomy j p with q | q | q
      · rw [y1 j q]
        exact hx j (by omega)
      · rw [q, y2]
        exact hv
      · obtain ⟨k, rfl⟩ : ∃ k, j = k + 1 := ⟨j - 1, by omega⟩
        rw [y3 k (by omega) (by omega)]
        exact hx k (by omega)
    · dsimp only
      rcases Nat.lt_trichotomy i p with q | q | q
      · rw [y1 i q]
        by_cases h : i + 1 = p
        · rw [h, y2]
          rcases hend with h5 | h5
          · omega
          · rw [show p - 1 = i by omega] at h5
            exact h5
        · rw [y1 (i + 1) (by omega)]
          exact hs i (by omega)
      · subst q
        rw [y2, y3 i (by omega) (by omega)]
        have := (hb i (by omega) (by omega)).2
        omega
      · obtain ⟨k, rfl⟩ : ∃ k, i = k + 1 := ⟨i - 1, by omega⟩
        rw [y3 k (by omega) (by omega), y3 (k + 1) (by omega) (by omega)]
        exact hs k (by omega)
theorem m_middleOf {g : uZ} {N a l : Nat} {L : Nat → Int} (hP : LGP N L g) (hl : 1 ≤ l) (hal : a + l ≤ N) : ∃ z, GF_X12_middleOf (a : Int) (l : Int) g = some z ∧ ∃ v : Nat, z.1 = (v : Int) ∧ mdV L a l v := by
  have hN := hP.le
  unfold GF_X12_middleOf
  refine lp_go (fun t z => z.1 = (t : Int) ∧ z.2.1 = ((a + t : Nat) : Int) ∧ Fr [82] [] g z.2.2 ∧ (∀ j, j < t → 0 ≤ z.2.2 82 j ∧ z.2.2 82 j ≤ 48) ∧ srt (z.2.2 82) t ∧ ∀ n, ltC (z.2.2 82) t n = ltC (fun j => L (a + j)) t n) (fun z => z.1 = (l : Int) ∧ (∀ j, j < l → 0 ≤ z.2 82 j ∧ z.2 82 j ≤ 48) ∧ srt (z.2 82) l ∧ ∀ n, ltC (z.2 82) l n = ltC (fun j => L (a + j)) l n) l (by omega) ⟨rfl, rfl, Fr.rf, fun j hj => absurd hj (Nat.not_lt_zero _), fun i hi => absurd hi (Nat.not_lt_zero _), fun n => rfl⟩ ?_ ?_ ?_
  · rintro t ⟨c, w, z⟩ ht ⟨e0, e1, hF, hb, hs, hn⟩
    simp only at e0 e1 hF hb hs hn
    subst e0 e1
    dsimp only
    have hPz : LGP N L z := hP.fr (hF 55 17 (by decide) (by decide)) (hF.f 64 (by decide) (by decide)) (hF.f 65 (by decide) (by decide)) (hF.f 66 (by decide) (by decide)) (hF.f 69 (by decide) (by decide))
    unfold GB_X12_middleOf_2
    rw [ck_ok (by omega), ck_ok (by omega), if_neg (by omega), hPz.at (by omega), cp_ok]
    obtain ⟨⟨c2, y⟩, h1, r1, r2, r3, r4⟩ := m_sorts (g := z) (c := t) (by omega) (hPz.bd (f := a + t) (by omega)) hb hs
    simp only at r1 r2 r3 r4
    have f1 := fF_X12_sorts Fr.rf h1
    unfold fp_0 at f1
    simp only at f1
    rw [h1, clZ_ok, lt_ok]
    refine ⟨_, rfl, ?_⟩
    dsimp only
    refine ⟨by omega, by omega, hF.tr f1 (by decide) (by decide), r2, r3, fun n => ?_⟩
    rw [r4, hn]
    rfl
  · rintro ⟨c, w, z⟩ ⟨e0, e1, hF, hb, hs, hn⟩
    simp only at e0 e1 hF hb hs hn
    subst e0 e1
    dsimp only
    refine ⟨((l : Int), z), ?_, rfl, hb, hs, hn⟩
    unfold GB_X12_middleOf_2
    rw [ck_ok (by omega), ck_ok (by omega), if_pos (by omega)]
  · rintro ⟨c, z⟩ ⟨e0, hb, hs, hn⟩
    simp only at e0 hb hs hn
    subst e0
    dsimp only
    unfold GC_X12_middleOf_3
    have hd : Int.tdiv ((l : Int) - 1) 2 = (((l - 1) / 2 : Nat) : Int) := by
      have : (l : Int) - 1 = ((l - 1 : Nat) : Int) := by omega
      rw [this]
      rfl
    rw [dvZ_ok (by omega) (by decide) (by decide), hd, rdZ_at ((l - 1) / 2) rfl (by omega)]
    have b1 := hb ((l - 1) / 2) (by omega)
    have c1 := ltC_low hs (h := (l - 1) / 2) (by omega) l (Nat.le_refl _)
    have c2 := ltC_high hs (h := (l - 1) / 2) (by omega) ((l - 1) / 2 + 1) (Nat.le_refl _)
    have c3 := ltC_mono (x := z 82) (c := (l - 1) / 2 + 1) (k := l) (n := z 82 ((l - 1) / 2) + 1) (by omega)
    obtain ⟨v, hv⟩ : ∃ v : Nat, z 82 ((l - 1) / 2) = (v : Int) := ⟨(z 82 ((l - 1) / 2)).toNat, by omega⟩
    rw [hv] at c1 c2 c3 b1
    rw [hn] at c1 c3
    have k1 := cmV_ltC (L := L) (a := a) (l := l) (fun j hj => (hP.bd (f := a + j) (by omega)).1) v
    have k2 := cmV_ltC (L := L) (a := a) (l := l) (fun j hj => (hP.bd (f := a + j) (by omega)).1) (v + 1)
    rw [show ((v + 1 : Nat) : Int) = (v : Int) + 1 by omega] at k2
    refine ⟨_, rfl, v, hv, by omega, by omega, by omega⟩
