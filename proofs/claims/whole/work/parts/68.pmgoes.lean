/-! the reference goes along -/
def CA (m : Nat → Nat) (own : Nat → Nat → Int) (st : Nat → Nat → Nat → Int) (T : Nat → Nat → Int) (p : Nat → Nat) (d : Nat) : Prop := match d with
  | 0 => p 0 < m 0 ∧ (∀ k, k < m 0 → T 0 (p 0) ≤ T 0 k) ∧ ∀ k, k < p 0 → T 0 k ≠ T 0 (p 0)
  | d + 1 => p (d + 1) < m (d + 1) ∧ st d (p d) (p (d + 1)) + T (d + 1) (p (d + 1)) = T d (p d) - own d (p d) ∧ ∀ k, k < p (d + 1) → st d (p d) k + T (d + 1) k ≠ T d (p d) - own d (p d)
theorem CA.cg {m : Nat → Nat} {own : Nat → Nat → Int} {st : Nat → Nat → Nat → Int} {T : Nat → Nat → Int} {p q : Nat → Nat} {d : Nat} (h : CA m own st T p d) (e : ∀ j, j ≤ d → q j = p j) : CA m own st T q d := by
  cases d with
  | zero =>
    unfold CA at *
    rw [e 0 (by omega)]
    exact h
  | succ d =>
    obtain ⟨h1, h2, h3⟩ := h
    refine ⟨?_, ?_, ?_⟩
    · rw [e (d + 1) (by omega)]; exact h1
    · rw [e d (by omega), e (d + 1) (by omega)]; exact h2
    · rw [e d (by omega), e (d + 1) (by omega)]; exact h3
theorem CA.lt {m : Nat → Nat} {own : Nat → Nat → Int} {st : Nat → Nat → Nat → Int} {T : Nat → Nat → Int} {p : Nat → Nat} {d : Nat} (h : CA m own st T p d) : p d < m d := by
  cases d with
  | zero => exact h.1
  | succ d => exact h.1
theorem m_goesAlong {N : Nat} {m : Nat → Nat} {lag : Nat → Nat → Nat} {own : Nat → Nat → Int} {g : uZ} {j o v e : Nat} (hT : MT N m lag own g) (hP : MP j o v g) (he : e < N) (h23 : g 55 23 = (e : Int)) (hr : ∀ f, f ≤ e → RowC m own (fun e a b => spS j o v (lag e a) (lag (e + 1) b)) (fun _ _ => true) e g f) : ∃ g', GF_X12_goesAlong g = some g' ∧ (∀ f, f ≤ e → 0 ≤ g' 69 f) ∧ bestP m own (fun e a b => spS j o v (lag e a) (lag (e + 1) b)) e (fun f => (g' 69 f).toNat) := by
  have h100 := hT.1
  generalize hst : (fun e a b => spS j o v (lag e a) (lag (e + 1) b)) = st at *
  have hste : ∀ a b c, st a b c = spS j o v (lag a b) (lag (a + 1) c) := fun a b c => by rw [← hst]
  -- nothing is shut: every cost is real
  have hreal : ∀ f, f ≤ e → ∀ i, i < m f → TM m own st (fun _ _ => true) e f i (g 68 (6 * f + i)) ∧ 0 ≤ g 68 (6 * f + i) ∧ g 68 (6 * f + i) ≤ 60000 * ((e + 1 - f : Nat) : Int) := by
    intro f hf i hi
    obtain ⟨h1, h2, h3⟩ := hr f hf i hi
    have hlt : g 68 (6 * f + i) < 2000000000 := by
      rcases h1 with ⟨-, hno⟩ | h1
      · exfalso
        refine hno (ov (fun _ => 0) f i) (ov_s _ _ _) (fun l l1 l2 => ⟨?_, rfl⟩)
        by_cases hlf : l = f
        · rw [hlf, ov_s]; exact hi
        · rw [ov_n hlf]
          have := (hT.2 l (by omega)).1
          omega
      · exact h1.1
    refine ⟨?_, h2, by omega⟩
    rcases h1 with ⟨h, -⟩ | h1
    · omega
    · exact h1.2
  obtain ⟨m1, m6, mz, hc0⟩ := hT.2 0 (by omega)
  obtain ⟨r, er, hr0, hrr⟩ := m_leastOfAll (m := m) (own := own) (st := st) (A := fun _ _ => true) h23 (by omega) mz m6 (hr 0 (by omega))
  have hrr : (∃ k, k < m 0 ∧ r = g 68 k) ∧ ∀ k, k < m 0 → r ≤ g 68 k := by
    rcases hrr with ⟨-, h⟩ | ⟨-, h⟩
    · exfalso
      have h1 := h 0 (by omega)
      have h2 := hreal 0 (by omega) 0 (by omega)
      rw [Nat.mul_zero, Nat.zero_add] at h2
      omega
    · exact h
  generalize hTT : (fun f i => g 68 (6 * f + i)) = T at *
  have hTe : ∀ f i, g 68 (6 * f + i) = T f i := fun f i => by rw [← hTT]
  have hT0 : ∀ i, g 68 i = T 0 i := fun i => by rw [← hTe, Nat.mul_zero, Nat.zero_add]
  unfold GF_X12_goesAlong
  rw [er, cp_ok]
  refine lp_go (fun t q => q.2.1 = (t : Int) ∧ Fr [69] [] g q.2.2 ∧ (∀ d, d < t → 0 ≤ q.2.2 69 d ∧ CA m own st T (fun f => (q.2.2 69 f).toNat) d) ∧ (t = 0 → q.1 = r) ∧ ∀ d, t = d + 1 → q.1 = T d (q.2.2 69 d).toNat - own d (q.2.2 69 d).toNat) (fun q => ∀ d, d ≤ e → 0 ≤ q 69 d ∧ CA m own st T (fun f => (q 69 f).toNat) d) (e + 1) (by omega) ⟨rfl, Fr.rf, fun d hd => by omega, fun _ => rfl, fun d hd => by omega⟩ ?_ ?_ ?_
  · rintro t ⟨left, w, q⟩ ht ⟨e1, hF, hq, hl0, hl1⟩
    simp only at e1 hF hq hl0 hl1
    subst e1
    have hTq : MT N m lag own q := hT.cg (hF.f 64 (by decide) (by decide)) (hF.f 65 (by decide) (by decide)) (hF.f 66 (by decide) (by decide))
    have hPq : MP j o v q := by
      obtain ⟨p1, p2, p3, p4⟩ := hP
      refine ⟨?_, ?_, ?_, p4⟩
      · rw [hF.f 56 (by decide) (by decide)]; exact p1
      · rw [hF 55 21 (by decide) (by decide)]; exact p2
      · rw [hF 55 22 (by decide) (by decide)]; exact p3
    have q68 : ∀ f i, q 68 (6 * f + i) = T f i := fun f i => by rw [hF.f 68 (by decide) (by decide)]; exact hTe f i
    have q23 : q 55 23 = (e : Int) := (hF 55 23 (by decide) (by decide)).trans h23
    obtain ⟨n1, n6, nz, hcand⟩ := hT.2 t (by omega)
    -- what it costs to come to each candidate, as a plain number
    obtain ⟨V, hV, hVr, hex⟩ : ∃ V : Nat → Int, (∀ i, i < m t → GF_X12_reached t i q = some (V i)) ∧ (∀ i, i < m t → inR (V i)) ∧ inR left ∧ (∃ k, k < m t ∧ V k = left) ∧ ∀ c : Nat, c < m t → V c = left → (∀ k, k < c → V k ≠ left) → ∀ p : Nat → Nat, (∀ d, d < t → p d = (q 69 d).toNat) → p t = c → CA m own st T p t := by
      cases t with
      | zero =>
        refine ⟨fun i => T 0 i, fun i hi => ?_, fun i hi => ?_, ?_, ?_, ?_⟩
        · have h1 := hreal 0 (by omega) i hi
          rw [hTe] at h1
          unfold GF_X12_reached GJ_X12_reached_1
          rw [rdZ_at (6 * 0 + i) (by omega) (by omega), q68, ck_ok (by omega), if_neg (by omega), ck_ok (by omega), if_pos (by omega)]
        · have h1 := hreal 0 (by omega) i hi
          rw [hTe] at h1
          show inR (T 0 i)
          omega
        · have := hl0 rfl
          obtain ⟨k, hk, hk2⟩ := hrr.1
          have h1 := hreal 0 (by omega) k hk
          rw [Nat.mul_zero, Nat.zero_add] at h1
          omega
        · obtain ⟨k, hk, hk2⟩ := hrr.1
          exact ⟨k, hk, by rw [hl0 rfl, hk2, hT0]⟩
        · intro c hc hVc hfirst p _ hpc
          have hl := hl0 rfl
          dsimp only at hVc hfirst
          show p 0 < m 0 ∧ (∀ k, k < m 0 → T 0 (p 0) ≤ T 0 k) ∧ ∀ k, k < p 0 → T 0 k ≠ T 0 (p 0)
          rw [hpc]
          refine ⟨hc, fun k hk => ?_, fun k hk => ?_⟩
          · have := hrr.2 k hk
            rw [hT0] at this
            omega
          · have := hfirst k hk
            omega
      | succ d =>
        obtain ⟨hqd0, hqd⟩ := hq d (by omega)
        have hpd : (q 69 d).toNat < m d := hqd.lt
        have hll := hl1 d rfl
        have hqe : q 69 d = ((q 69 d).toNat : Int) := by omega
        have hTd := hreal d (by omega) _ hpd
        rw [hTe] at hTd
        have hod := ((hT.2 d (by omega)).2.2.2 _ hpd)
        have hstr : ∀ i, i < m (d + 1) → 0 ≤ st d (q 69 d).toNat i ∧ st d (q 69 d).toNat i ≤ 4400 := fun i hi => by
          rw [hste]
          exact spS_r hP.2.2.2.1 hP.2.2.2.2.1 hP.2.2.2.2.2 hod.2.1 (hcand i hi).2.1
        refine ⟨fun i => st d (q 69 d).toNat i + T (d + 1) i, fun i hi => ?_, fun i hi => ?_, by omega, ?_, ?_⟩
        · have h1 := hreal (d + 1) (by omega) i hi
          have h2 := hstr i hi
          rw [hTe] at h1
          have ee : ((d + 1 : Nat) : Int) - 1 = (d : Int) := by omega
          have hb := hTq.btw hPq (f := d) (by omega) hpd hi
          rw [← hqe] at hb
          unfold GF_X12_reached GJ_X12_reached_1
          rw [rdZ_at (6 * (d + 1) + i) (by omega) (by omega), q68, ck_ok (by omega), if_neg (by omega), ck_ok (by omega), if_neg (by omega), ee, rdZ_at d rfl (by omega), hb, cp_ok, ← hste, Int.add_comm]
        · have h1 := hreal (d + 1) (by omega) i hi
          have h2 := hstr i hi
          rw [hTe] at h1
          show inR (st d (q 69 d).toNat i + T (d + 1) i)
          omega
        · obtain ⟨k, hk, hk2⟩ := TM.next (T := fun k => T (d + 1) k) hTd.1 (by omega) hpd (fun k hk => by
            have := (hreal (d + 1) (by omega) k hk).1
            rw [hTe] at this
            exact this)
          exact ⟨k, hk, by rw [hll]; exact hk2⟩
        · intro c hc hVc hfirst p hp hpc
          dsimp only at hVc hfirst
          show p (d + 1) < m (d + 1) ∧ st d (p d) (p (d + 1)) + T (d + 1) (p (d + 1)) = T d (p d) - own d (p d) ∧ ∀ k, k < p (d + 1) → st d (p d) k + T (d + 1) k ≠ T d (p d) - own d (p d)
          rw [hpc, hp d (by omega)]
          refine ⟨hc, by rw [← hll]; exact hVc, fun k hk => by rw [← hll]; exact hfirst k hk⟩
    obtain ⟨hlr, ⟨k0, hk0, hk0v⟩, hca⟩ := hex
    dsimp only
    unfold GB_X12_goesAlong_5
    rw [q23, ck_ok (by omega), ck_ok (by omega), if_neg (by omega)]
    have hfin : ∀ c : Nat, c < m t → V c = left → (∀ k, k < c → V k ≠ left) → ∃ a', GC_X12_goesAlong_4 t q c = some (Sum.inl a') ∧ a'.2.1 = ((t + 1 : Nat) : Int) ∧ Fr [69] [] g a'.2.2 ∧ (∀ d, d < t + 1 → 0 ≤ a'.2.2 69 d ∧ CA m own st T (fun f => (a'.2.2 69 f).toNat) d) ∧ (t + 1 = 0 → a'.1 = r) ∧ ∀ d, t + 1 = d + 1 → a'.1 = T d (a'.2.2 69 d).toNat - own d (a'.2.2 69 d).toNat := by
      intro c hc hVc hfirst
      have hTq2 : MT N m lag own (upZ q 69 t (c : Int)) := hTq.cg (by rw [upZ_n (by decide)]) (by rw [upZ_n (by decide)]) (by rw [upZ_n (by decide)])
      unfold GC_X12_goesAlong_4
      rw [wrZ_at t rfl (by omega), rdZ_at (6 * t + c) (by omega) (by omega), hTq2.own (by omega) hc, cp_ok, lt_ok, lt_ok, upZ_n (by decide : (68 : Nat) ≠ 69), q68]
      refine ⟨_, rfl, ?_⟩
      dsimp only
      have hold : ∀ d, d < t → upZ q 69 t (c : Int) 69 d = q 69 d := fun d hd => upZ_sn (by omega)
      refine ⟨by omega, hF.wr (by decide), fun d hd => ?_, fun h => by omega, fun d hd => ?_⟩
      · by_cases hdt : d = t
        · subst hdt
          refine ⟨by rw [upZ_ss]; omega, hca c hc hVc hfirst _ (fun l hl => by rw [hold l hl]) (by rw [upZ_ss]; simp)⟩
        · obtain ⟨a1, a2⟩ := hq d (by omega)
          refine ⟨by rw [hold d (by omega)]; exact a1, a2.cg (fun l hl => by rw [hold l (by omega)])⟩
      · obtain rfl : t = d := by omega
        rw [upZ_ss]
        simp
    obtain ⟨b, hb, hbe⟩ := lp_while (f := fun z => GB_X12_goesAlong_3 left t q z) (a := (0 : Int)) (k := fun z => GC_X12_goesAlong_4 t q z) (fun z => ∃ i : Nat, z = (i : Int) ∧ i < m t ∧ ∀ k, k < i → V k ≠ left) (fun b => ∃ c : Nat, b = (c : Int) ∧ c < m t ∧ V c = left ∧ ∀ k, k < c → V k ≠ left) (fun z => (m t - z).toNat) ⟨0, rfl, by omega, fun k hk => by omega⟩ (by omega) (by
      rintro z ⟨i, rfl, hi, hno⟩
      have h1 := hVr i hi
      unfold GB_X12_goesAlong_3
      rw [hV i hi, cp_ok, ck_ok h1, ck_ok hlr]
      by_cases heq : V i = left
      · rw [if_pos heq]
        exact Or.inr ⟨_, rfl, i, rfl, hi, heq, hno⟩
      · rw [if_neg heq, lt_ok]
        left
        have hno2 : ∀ k, k < i + 1 → V k ≠ left := fun k hk => by
          by_cases hki : k = i
          · rw [hki]; exact heq
          · exact hno k (by omega)
        have hi2 : i + 1 < m t := by
          refine Nat.lt_of_not_le (fun hle => ?_)
          exact hno2 k0 (by omega) hk0v
        exact ⟨_, rfl, ⟨i + 1, by simp, hi2, hno2⟩, by omega⟩)
    obtain ⟨c, rfl, hc, hVc, hfirst⟩ := hb
    rw [hbe]
    exact hfin c hc hVc hfirst
  · rintro ⟨left, w, q⟩ ⟨e1, hF, hq, hl0, hl1⟩
    simp only at e1 hF hq hl0 hl1
    subst e1
    have q23 : q 55 23 = (e : Int) := (hF 55 23 (by decide) (by decide)).trans h23
    dsimp only
    unfold GB_X12_goesAlong_5
    rw [q23, ck_ok (by omega), ck_ok (by omega), if_pos (by omega)]
    exact ⟨_, rfl, fun d hd => hq d (by omega)⟩
  · intro q hq
    refine ⟨q, rfl, fun f hf => (hq f hf).1, ?_⟩
    refine (along (m := m) (own := own) (st := st) (p := fun f => (q 69 f).toNat) (T := T) (fun f hf i hi => ?_) (hq 0 (by omega)).2 (fun f hf => (hq (f + 1) (by omega)).2)).1
    have := (hreal f hf i hi).1
    rw [hTe] at this
    exact this
