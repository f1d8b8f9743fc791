/-! the reference's least of all, and its walk along -/
theorem TM.next {m : Nat → Nat} {own : Nat → Nat → Int} {st : Nat → Nat → Nat → Int} {e d i : Nat} {v : Int} {T : Nat → Int} (h : TM m own st (fun _ _ => true) e d i v) (hd : d < e) (hi : i < m d) (hT : ∀ k, k < m (d + 1) → TM m own st (fun _ _ => true) e (d + 1) k (T k)) : ∃ k, k < m (d + 1) ∧ st d i k + T k = v - own d i := by
  obtain ⟨⟨q, hq, hqa, hqc⟩, hmin⟩ := h
  have hn : e - d = (e - (d + 1)) + 1 := by omega
  have hk := (hqa (d + 1) (by omega) (by omega)).1
  refine ⟨q (d + 1), hk, ?_⟩
  obtain ⟨⟨r, hr, hra, hrc⟩, hmin2⟩ := hT _ hk
  have h1 := hmin2 q rfl (fun j h1 h2 => hqa j (by omega) h2)
  rw [hn] at hqc
  have h2 : own d (q d) + (st d (q d) (q (d + 1)) + rmc own st q (d + 1) (e - (d + 1))) = v := hqc
  rw [hq] at h2
  have h3 := hmin (ov r d i) (ov_s _ _ _) (fun j h1 h2 => by
    by_cases hjd : j = d
    · rw [hjd, ov_s]
      exact ⟨hi, rfl⟩
    · rw [ov_n hjd]
      exact hra j (by omega) h2)
  rw [hn] at h3
  have h4 : rmc own st (ov r d i) d (e - (d + 1) + 1) = own d i + (st d i (q (d + 1)) + T (q (d + 1))) := by
    show own d (ov r d i d) + (st d (ov r d i d) (ov r d i (d + 1)) + rmc own st (ov r d i) (d + 1) (e - (d + 1))) = _
    rw [ov_s, ov_n (by omega), hr, rmc_cg (q := r) (fun l l1 _ => ov_n (by omega)), hrc]
  omega
theorem m_leastOfAll {m : Nat → Nat} {own : Nat → Nat → Int} {st : Nat → Nat → Nat → Int} {A : Nat → Nat → Bool} {g : uZ} {e : Nat} (h23 : g 55 23 = (e : Int)) (he : e < 100) (h66 : g 66 0 = m 0) (hm : m 0 ≤ 6) (hr : RowC m own st A e g 0) : ∃ r, GF_X12_leastOfAll g = some r ∧ 0 ≤ r ∧ ((r = 2000000000 ∧ ∀ k, k < m 0 → g 68 k = 2000000000) ∨ (r < 2000000000 ∧ (∃ k, k < m 0 ∧ r = g 68 k) ∧ ∀ k, k < m 0 → r ≤ g 68 k)) := by
  have hV : ∀ k, k < m 0 → 0 ≤ g 68 k ∧ (g 68 k = 2000000000 ∨ g 68 k ≤ 60000 * ((e + 1 : Nat) : Int)) := fun k hk => by
    have := hr k hk
    rw [Nat.mul_zero, Nat.zero_add, Nat.sub_zero] at this
    exact this.2
  unfold GF_X12_leastOfAll
  rw [h23, ck_ok (by omega), if_pos (by omega)]
  refine lp_go (fun (s : Nat) (z : Int × Int) => z.2 = (s : Int) ∧ 0 ≤ z.1 ∧ ((z.1 = 2000000000 ∧ ∀ k, k < s → g 68 k = 2000000000) ∨ (z.1 < 2000000000 ∧ (∃ k, k < s ∧ z.1 = g 68 k) ∧ ∀ k, k < s → z.1 ≤ g 68 k))) (fun z : Int => 0 ≤ z ∧ ((z = 2000000000 ∧ ∀ k, k < m 0 → g 68 k = 2000000000) ∨ (z < 2000000000 ∧ (∃ k, k < m 0 ∧ z = g 68 k) ∧ ∀ k, k < m 0 → z ≤ g 68 k))) (m 0) (by omega) ⟨rfl, by dsimp only; omega, Or.inl ⟨rfl, fun k hk => by omega⟩⟩ ?_ ?_ (fun q hq => ⟨q, rfl, hq⟩)
  · rintro s ⟨z1, z2⟩ hs ⟨e2, hz0, hz⟩
    simp only at e2 hz0 hz
    subst e2
    have hvs := hV s hs
    have hz1 : z1 ≤ 2000000000 := by
      rcases hz with ⟨h, -⟩ | ⟨h, -⟩ <;> omega
    dsimp only
    unfold GB_X12_leastOfAll_3 GJ_X12_leastOfAll_2
    rw [rdZ_at 0 (by rfl) (by omega), h66, ck_ok (by omega), ck_ok (by omega), if_neg (by omega), rdZ_at s rfl (by omega), ck_ok (by omega), ck_ok (by omega)]
    by_cases hle : z1 ≤ g 68 s
    · rw [if_pos hle, lt_ok]
      refine ⟨_, rfl, ?_⟩
      dsimp only
      refine ⟨by omega, hz0, ?_⟩
      rcases hz with ⟨h1, h2⟩ | ⟨h1, ⟨k, hk, h2⟩, h3⟩
      · refine Or.inl ⟨h1, fun k hk => ?_⟩
        by_cases hks : k = s
        · rw [hks]; omega
        · exact h2 k (by omega)
      · refine Or.inr ⟨h1, ⟨k, by omega, h2⟩, fun l hl => ?_⟩
        by_cases hls : l = s
        · rw [hls]; omega
        · exact h3 l (by omega)
    · rw [if_neg hle, rdZ_at s rfl (by omega), lt_ok]
      refine ⟨_, rfl, ?_⟩
      dsimp only
      refine ⟨by omega, by omega, Or.inr ⟨by omega, ⟨s, by omega, rfl⟩, fun l hl => ?_⟩⟩
      by_cases hls : l = s
      · rw [hls]; omega
      · rcases hz with ⟨h1, h2⟩ | ⟨h1, -, h3⟩
        · have := h2 l (by omega)
          omega
        · have := h3 l (by omega)
          omega
  · rintro ⟨z1, z2⟩ ⟨e2, hz0, hz⟩
    simp only at e2 hz0 hz
    subst e2
    dsimp only
    unfold GB_X12_leastOfAll_3
    rw [rdZ_at 0 (by rfl) (by omega), h66, ck_ok (by omega), ck_ok (by omega), if_pos (by omega)]
    exact ⟨_, rfl, hz0, hz⟩
