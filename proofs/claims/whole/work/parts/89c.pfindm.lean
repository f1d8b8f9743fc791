/-! all marks -/
def frS (B : Nat → Int) (sb : Nat → Nat) (i : Nat) : Nat := sb i * bN B 2
def toS (B : Nat → Int) (n : Nat) (sb : Nat → Nat) (i : Nat) : Nat := if n ≤ sb (i + 1) * bN B 2 then n else sb (i + 1) * bN B 2
def prP (B L : Nat → Int) (n : Nat) (sb : Nat → Nat) (i s : Nat) : Nat := if frS B sb i ≤ s ∧ s < toS B n sb i then (L (s / bN B 2)).toNat else 2
def Wi (x B L : Nat → Int) (n : Nat) (sb : Nat → Nat) (i : Nat) : Nat → Int × Int := WF x (prP B L n sb i) (bN B 13 : Int) (toS B n sb i) (toS B n sb i - frS B sb i)
def m0i (x B L : Nat → Int) (n : Nat) (sb : Nat → Nat) (i : Nat) : Nat := mk0 (fun s => (Wi x B L n sb i s).1) (prP B L n sb i) (frS B sb i) (toS B n sb i)
def MKp (x B L : Nat → Int) (n : Nat) (sb : Nat → Nat) (t : Nat) (cn : Nat → Nat) (pl so sw : Nat → Int) : Prop := cn 0 = 0 ∧ ∀ i, i < t → (L (sb i) ≠ 0 → ∃ k, isK (fun s => (Wi x B L n sb i s).2) (m0i x B L n sb i) k ∧ cn (i + 1) = cn i + k ∧ (∀ j, j < k → pl (cn i + j) = ch (fun s => (Wi x B L n sb i s).2) (m0i x B L n sb i) j ∧ so (cn i + j) = (i : Int)) ∧ sw i = (Wi x B L n sb i (m0i x B L n sb i)).1) ∧ (L (sb i) = 0 → cn (i + 1) = cn i ∧ sw i = 0)
theorem MKp.mono {x B L : Nat → Int} {n : Nat} {sb : Nat → Nat} {t : Nat} {cn : Nat → Nat} {pl so sw : Nat → Int} (h : MKp x B L n sb t cn pl so sw) : ∀ d i, i + d ≤ t → cn i ≤ cn (i + d) := by
  intro d
  induction d with
  | zero => intro i _; exact Nat.le_refl _
  | succ d ih =>
    intro i hi
    have a := ih i (by omega)
    have b := h.2 (i + d) (by omega)
    by_cases q : L (sb (i + d)) = 0
    · have := (b.2 q).1
      rw [show i + (d + 1) = i + d + 1 by omega]
      omega
    · obtain ⟨k, -, c, -⟩ := b.1 q
      rw [show i + (d + 1) = i + d + 1 by omega]
      omega
theorem MKp.uniq {x B L : Nat → Int} {n : Nat} {sb : Nat → Nat} {t : Nat} {cn cn' : Nat → Nat} {pl so sw pl' so' sw' : Nat → Int} (h : MKp x B L n sb t cn pl so sw) (h' : MKp x B L n sb t cn' pl' so' sw') : ∀ i, i ≤ t → cn i = cn' i ∧ (∀ c, c < cn i → pl c = pl' c ∧ so c = so' c) ∧ ∀ i', i' < i → sw i' = sw' i' := by
  intro i
  induction i with
  | zero => intro _; exact ⟨h.1.trans h'.1.symm, fun c hc => by have := h.1; omega, fun i' hi => absurd hi (Nat.not_lt_zero _)⟩
  | succ i ih =>
    intro hi
    obtain ⟨a1, a2, a3⟩ := ih (by omega)
    have b := h.2 i (by omega)
    have b' := h'.2 i (by omega)
    by_cases q : L (sb i) = 0
    · obtain ⟨c1, c2⟩ := b.2 q
      obtain ⟨d1, d2⟩ := b'.2 q
      refine ⟨by omega, fun c hc => a2 c (by omega), fun i' hi' => ?_⟩
      by_cases z : i' = i
      · rw [z, c2, d2]
      · exact a3 i' (by omega)
    · obtain ⟨k, e1, e2, e3, e4⟩ := b.1 q
      obtain ⟨k', f1, f2, f3, f4⟩ := b'.1 q
      have ek := e1.uniq f1
      subst ek
      refine ⟨by omega, fun c hc => ?_, fun i' hi' => ?_⟩
      · by_cases z : c < cn i
        · exact a2 c z
        · obtain ⟨j, rfl⟩ : ∃ j, c = cn i + j := ⟨c - cn i, by omega⟩
          have g1 := e3 j (by omega)
          have g2 := f3 j (by omega)
          rw [← a1] at g2
          rw [g1.1, g1.2, g2.1, g2.2]
          exact ⟨rfl, rfl⟩
      · by_cases z : i' = i
        · rw [z, e4, f4]
        · exact a3 i' (by omega)
theorem sp_facts {B L : Nat → Int} {n S i : Nat} {sb : Nat → Nat} (hB : BOk B) (hn : n ≤ 800) (hSB : SB L (nfS B n) S sb) (hi : i < S) (hL : ∀ f, f < nfS B n → L f = 0 ∨ (2 ≤ L f ∧ L f ≤ 48)) (hv : L (sb i) ≠ 0) : frS B sb i < toS B n sb i ∧ toS B n sb i ≤ n ∧ (∀ s, frS B sb i ≤ s → s < toS B n sb i → (sb i ≤ s / bN B 2 ∧ s / bN B 2 < sb (i + 1)) ∧ L (s / bN B 2) = (prP B L n sb i s : Int)) ∧ (∀ s, prP B L n sb i s ≤ 48) ∧ ∀ s, s < toS B n sb i → 2 ≤ prP B L n sb i s := by
  have b2 := hB.b2
  have a := hSB.2.2 i hi
  have nx := hSB.nx hi
  have fit := (nfS_lt hB n (sb i)).mp a.1
  have rc : 0 < rcS B := by unfold rcS; omega
  have m1 : (sb i + 1) * bN B 2 ≤ sb (i + 1) * bN B 2 := Nat.mul_le_mul_right _ nx.2.1
  rw [Nat.succ_mul] at m1
  have hto : toS B n sb i ≤ n ∧ toS B n sb i ≤ sb (i + 1) * bN B 2 ∧ frS B sb i < toS B n sb i := by
    unfold toS frS
    split <;> omega
  have hfr : ∀ s, frS B sb i ≤ s → s < toS B n sb i → sb i ≤ s / bN B 2 ∧ s / bN B 2 < sb (i + 1) := fun s h1 h2 => ⟨(Nat.le_div_iff_mul_le (by omega)).mpr h1, (Nat.div_lt_iff_lt_mul (by omega)).mpr (by omega)⟩
  have hval : ∀ s, frS B sb i ≤ s → s < toS B n sb i → 2 ≤ L (s / bN B 2) ∧ L (s / bN B 2) ≤ 48 := fun s h1 h2 => by
    have q := hfr s h1 h2
    have z := hSB.flat hi (s / bN B 2 - sb i) (by omega)
    rw [show sb i + (s / bN B 2 - sb i) = s / bN B 2 by omega] at z
    rcases hL (s / bN B 2) (by omega) with w | w
    · exact absurd (z.mp w) hv
    · exact w
  refine ⟨hto.2.2, hto.1, fun s h1 h2 => ⟨hfr s h1 h2, ?_⟩, fun s => ?_, fun s hs => ?_⟩
  · have := hval s h1 h2
    unfold prP
    rw [if_pos ⟨h1, h2⟩]
    omega
  · unfold prP
    split
    · rename_i c
      have := hval s c.1 c.2
      omega
    · omega
  · unfold prP
    split
    · rename_i c
      have := hval s c.1 c.2
      omega
    · omega
/-- marks so far are few -/
def few (B L : Nat → Int) (n S : Nat) (sb : Nat → Nat) (i c : Nat) : Prop := 2 * c ≤ n + 1 ∧ (2 * c ≤ frS B sb i ∨ (2 * c ≤ frS B sb i + 1 ∧ (i < S → L (sb i) = 0)))
theorem few.v {B L : Nat → Int} {n S : Nat} {sb : Nat → Nat} {i c : Nat} (h : few B L n S sb i c) (hi : i < S) (hv : L (sb i) ≠ 0) : 2 * c ≤ frS B sb i := by
  rcases h.2 with q | q
  · exact q
  · exact absurd (q.2 hi) hv
theorem few.u {B L : Nat → Int} {n S : Nat} {sb : Nat → Nat} {i c : Nat} (hB : BOk B) (hSB : SB L (nfS B n) S sb) (h : few B L n S sb i c) (hi : i < S) : few B L n S sb (i + 1) c := by
  have b2 := hB.b2
  have nx := hSB.nx hi
  have m1 : (sb i + 1) * bN B 2 ≤ sb (i + 1) * bN B 2 := Nat.mul_le_mul_right _ nx.2.1
  rw [Nat.succ_mul] at m1
  refine ⟨h.1, Or.inl ?_⟩
  have h2 := h.2
  unfold frS at *
  rcases h2 with q | q <;> omega
theorem few.n {B L : Nat → Int} {n S : Nat} {sb : Nat → Nat} {i c : Nat} (hSB : SB L (nfS B n) S sb) (hi : i < S) (hv : L (sb i) ≠ 0) (h : 2 * c ≤ toS B n sb i + 1) : few B L n S sb (i + 1) c := by
  have t1 : toS B n sb i ≤ sb (i + 1) * bN B 2 ∧ toS B n sb i ≤ n := by unfold toS; split <;> omega
  refine ⟨by omega, Or.inr ⟨?_, fun q => (hSB.alt q).mpr hv⟩⟩
  unfold frS
  omega
theorem MKp.ext {x B L : Nat → Int} {n : Nat} {sb : Nat → Nat} {t k : Nat} {cn : Nat → Nat} {pl so sw pl' so' sw' : Nat → Int} (h : MKp x B L n sb t cn pl so sw) (hpl : ∀ c, c < cn t → pl' c = pl c ∧ so' c = so c) (hsw : ∀ i, i < t → sw' i = sw i) (hv : L (sb t) ≠ 0 → isK (fun s => (Wi x B L n sb t s).2) (m0i x B L n sb t) k ∧ (∀ j, j < k → pl' (cn t + j) = ch (fun s => (Wi x B L n sb t s).2) (m0i x B L n sb t) j ∧ so' (cn t + j) = (t : Int)) ∧ sw' t = (Wi x B L n sb t (m0i x B L n sb t)).1) (hu : L (sb t) = 0 → k = 0 ∧ sw' t = 0) : MKp x B L n sb (t + 1) (fun j => if j = t + 1 then cn t + k else cn j) pl' so' sw' := by
  refine ⟨by dsimp only; rw [if_neg (by omega)]; exact h.1, fun i hi => ?_⟩
  dsimp only
  rw [if_neg (show ¬ i = t + 1 by omega)]
  by_cases q : i = t
  · subst q
    rw [if_pos rfl]
    refine ⟨fun z => ?_, fun z => ?_⟩
    · obtain ⟨a, b, c⟩ := hv z
      exact ⟨k, a, rfl, b, c⟩
    · obtain ⟨a, b⟩ := hu z
      exact ⟨by omega, b⟩
  · have hi' : i < t := by omega
    have m1 := h.mono (t - (i + 1)) (i + 1) (by omega)
    rw [show i + 1 + (t - (i + 1)) = t by omega] at m1
    rw [if_neg (by omega), hsw i hi']
    obtain ⟨a, b⟩ := h.2 i hi'
    refine ⟨fun z => ?_, b⟩
    obtain ⟨k', e1, e2, e3, e4⟩ := a z
    refine ⟨k', e1, e2, fun j hj => ?_, e4⟩
    have := hpl (cn i + j) (by omega)
    rw [this.1, this.2]
    exact e3 j hj
/-- the class's spans -/
theorem p8_has {g : uZ} {S : Nat} (h : g 34 6 = (S : Int)) (hS : S ≤ 100) {a : Int} (ha : inR a) : GF_X8_has a g = some (if 0 ≤ a ∧ a < (S : Int) then 1 else 0) := by
  unfold GF_X8_has GJ_X8_has_1 GJ_X8_has_2
  rw [ck_ok ha, h]
  by_cases h0 : a < 0
  · rw [if_pos h0, bzZ_0, if_neg (by omega)]
  · rw [if_neg h0, ck_ok (by omega)]
    by_cases h1 : (S : Int) ≤ a
    · rw [if_pos h1, bzZ_0, if_neg (by omega)]
    · rw [if_neg h1, bzZ_1, if_pos (by omega)]
def ClS (x B L : Nat → Int) (n S : Nat) (sb : Nat → Nat) (g : uZ) : Prop := (g 1 2 = (n : Int) ∧ n ≤ 800 ∧ g 2 = x ∧ g 5 = B ∧ g 24 = L ∧ g 16 12 = (nfS B n : Int)) ∧ (XOk x ∧ BOk B) ∧ (g 34 6 = (S : Int) ∧ SB L (nfS B n) S sb ∧ ∀ i, i < S → g 35 i = (sb i : Int) ∧ g 35 i + g 36 i = (sb (i + 1) : Int)) ∧ ∀ f, f < nfS B n → L f = 0 ∨ (2 ≤ L f ∧ L f ≤ 48)
theorem ClS.cg {x B L : Nat → Int} {n S : Nat} {sb : Nat → Nat} {g g' : uZ} (h : ClS x B L n S sb g) (h1 : g' 1 2 = g 1 2) (h2 : g' 2 = g 2) (h5 : g' 5 = g 5) (h24 : g' 24 = g 24) (h16 : g' 16 12 = g 16 12) (h34 : g' 34 6 = g 34 6) (h35 : g' 35 = g 35) (h36 : g' 36 = g 36) : ClS x B L n S sb g' := by
  unfold ClS
  rw [h1, h2, h5, h24, h16, h34, h35, h36]
  exact h
theorem ClS.S {x B L : Nat → Int} {n S : Nat} {sb : Nat → Nat} {g : uZ} (h : ClS x B L n S sb g) : S ≤ 100 := by
  obtain ⟨⟨-, hn, -⟩, ⟨-, hB⟩, ⟨-, hSB, -⟩, -⟩ := h
  have := nfS_100 hB hn
  have := nS_le L (nfS B n)
  have := hSB.1
  omega
theorem ClS.voiced {x B L : Nat → Int} {n S i : Nat} {sb : Nat → Nat} {g : uZ} (h : ClS x B L n S sb g) (hi : i < S) : GF_X8_isVoiced (i : Int) g = some (if L (sb i) = 0 then 0 else 1) := by
  have hS := h.S
  obtain ⟨⟨a1, a2, a3, a4, a5, a6⟩, ⟨d1, d2⟩, ⟨b1, b2, b3⟩, hL⟩ := h
  have hN := nfS_100 d2 a2
  have q := b2.2.2 i hi
  have l := hL (sb i) q.1
  unfold GF_X8_isVoiced GJ_X8_isVoiced_1 GJ_X8_isVoiced_2
  rw [p8_has b1 hS (by omega), cp_ok, if_pos (by omega), ck_ok (by decide), if_neg (by decide), rdZ_at i rfl (by omega), (b3 i hi).1, p5_lagIn a6 hN q.1, cp_ok, a5, ck_ok (by omega)]
  by_cases z : L (sb i) = 0
  · rw [if_pos z, if_pos z, bzZ_0]
  · rw [if_neg z, if_neg z, bzZ_1]
theorem ClS.from {x B L : Nat → Int} {n S i : Nat} {sb : Nat → Nat} {g : uZ} (h : ClS x B L n S sb g) (hi : i < S) : GF_X8_from (i : Int) g = some (frS B sb i : Int) := by
  have hS := h.S
  obtain ⟨⟨a1, a2, a3, a4, a5, a6⟩, ⟨d1, d2⟩, ⟨b1, b2, b3⟩, hL⟩ := h
  unfold GF_X8_from GJ_X8_from_1
  rw [p8_has b1 hS (by omega), cp_ok, if_pos (by omega), ck_ok (by decide), if_neg (by decide), rdZ_at i rfl (by omega), (b3 i hi).1, p0_2, cp_ok, a4, d2.b2.1]
  unfold frS
  rw [Int.natCast_mul]
theorem ClS.to {x B L : Nat → Int} {n S i : Nat} {sb : Nat → Nat} {g : uZ} (h : ClS x B L n S sb g) (hi : i < S) : GF_X8_to (i : Int) g = some (toS B n sb i : Int) := by
  have hS := h.S
  obtain ⟨⟨a1, a2, a3, a4, a5, a6⟩, ⟨d1, d2⟩, ⟨b1, b2, b3⟩, hL⟩ := h
  have hN := nfS_100 d2 a2
  have nx := b2.nx hi
  have hb2 := d2.b2
  have hm : sb (i + 1) * bN B 2 ≤ 100 * 40 := Nat.mul_le_mul (by omega) (by omega)
  unfold GF_X8_to GJ_X8_to_1 GF_X7_size
  rw [p8_has b1 hS (by omega), cp_ok, if_pos (by omega), ck_ok (by decide), if_neg (by decide), cp_ok, rdZ_at i rfl (by omega), rdZ_at i rfl (by omega), p0_2, cp_ok, (b3 i hi).2, a4, hb2.1, a1, ← Int.natCast_mul, p_min g (by omega) (by omega), cp_ok]
  unfold toS
  congr 1
  split <;> split <;> omega
theorem ClS.spc {x B L : Nat → Int} {n S i : Nat} {sb : Nat → Nat} {g : uZ} (h : ClS x B L n S sb g) (hi : i < S) (hv : L (sb i) ≠ 0) : SpC x B L n (nfS B n) (frS B sb i) (toS B n sb i) (prP B L n sb i) g := by
  obtain ⟨⟨a1, a2, a3, a4, a5, a6⟩, ⟨d1, d2⟩, ⟨b1, b2, b3⟩, hL⟩ := h
  have f := sp_facts d2 a2 b2 hi hL hv
  have nx := b2.nx hi
  exact ⟨a1, a2, a3, a4, a5, a6, nfS_100 d2 a2, d1, d2, f.2.1, fun s h1 h2 => ⟨by have := (f.2.2.1 s h1 h2).1; omega, (f.2.2.1 s h1 h2).2⟩, f.2.2.2.1, f.2.2.2.2⟩
theorem Wi_b {x B L : Nat → Int} {n S i : Nat} {sb : Nat → Nat} (hx : XOk x) (hB : BOk B) (hn : n ≤ 800) (hSB : SB L (nfS B n) S sb) (hi : i < S) (hL : ∀ f, f < nfS B n → L f = 0 ∨ (2 ≤ L f ∧ L f ≤ 48)) (hv : L (sb i) ≠ 0) : ∀ s, frS B sb i ≤ s → s < toS B n sb i → (-400000 ≤ (Wi x B L n sb i s).1 ∧ (Wi x B L n sb i s).1 ≤ 400000) ∧ ((Wi x B L n sb i s).2 = -1 ∨ ∃ w : Nat, (Wi x B L n sb i s).2 = (w : Int) ∧ s + 2 ≤ w ∧ w < toS B n sb i) := by
  intro s h1 h2
  have f := sp_facts hB hn hSB hi hL hv
  have b13 := hB.b13
  have q := WF_b (c := (bN B 13 : Int)) (to := toS B n sb i) hx f.2.2.2.1 f.2.2.2.2 ⟨by omega, by omega⟩ (toS B n sb i - frS B sb i) (by omega) s (by omega) h2
  unfold Wi
  exact ⟨by omega, q.2⟩
theorem p3_find {x B L : Nat → Int} {n S : Nat} {sb : Nat → Nat} {g : uZ} (h : ClS x B L n S sb g) : ∃ g' cn, GF_X3_find g = some g' ∧ MKp x B L n sb S cn (g' 47) (g' 48) (g' 50) ∧ g' 44 9 = (cn S : Int) ∧ (∀ i, i ≤ S → g' 49 i = (cn i : Int)) ∧ few B L n S sb S (cn S) := by
  have hS := h.S
  obtain ⟨⟨a1, a2, a3, a4, a5, a6⟩, ⟨d1, d2⟩, ⟨b1, b2, b3⟩, hL⟩ := id h
  unfold GF_X3_find
  rw [pfZ_ok]
  have main : ∃ g', lp (fun z => GB_X3_find_3 z.1 z.2) (0, upZ g 44 9 0) (fun z => GC_X3_find_4 z) = some g' ∧ ∃ cn, MKp x B L n sb S cn (g' 47) (g' 48) (g' 50) ∧ g' 44 9 = (cn S : Int) ∧ (∀ i, i ≤ S → g' 49 i = (cn i : Int)) ∧ few B L n S sb S (cn S) := by
    refine lp_go (fun t z => z.1 = (t : Int) ∧ Fr [45, 46, 47, 48, 49, 50] [(44, 9)] g z.2 ∧ ∃ cn : Nat → Nat, MKp x B L n sb t cn (z.2 47) (z.2 48) (z.2 50) ∧ z.2 44 9 = (cn t : Int) ∧ (∀ i, i < t → z.2 49 i = (cn i : Int)) ∧ few B L n S sb t (cn t)) (fun z => Fr [45, 46, 47, 48, 49, 50] [(44, 9)] g z ∧ ∃ cn : Nat → Nat, MKp x B L n sb S cn (z 47) (z 48) (z 50) ∧ z 44 9 = (cn S : Int) ∧ (∀ i, i < S → z 49 i = (cn i : Int)) ∧ few B L n S sb S (cn S)) S (by omega) ⟨rfl, Fr.rf.pf (by decide), fun _ => 0, ⟨rfl, fun i hi => absurd hi (Nat.not_lt_zero _)⟩, by dsimp only; rw [upZ_ss]; rfl, fun i hi => absurd hi (Nat.not_lt_zero _), Nat.zero_le _, Or.inl (Nat.zero_le _)⟩ ?_ ?_ ?_
    · rintro t ⟨w, z⟩ ht ⟨e1, hF, cn, hM, z44, z49, hfew⟩
      simp only at e1 hF hM z44 z49
      subst e1
      dsimp only
      have hc : ∀ y : uZ, Fr [45, 46, 47, 48, 49, 50] [(44, 9)] g y → ClS x B L n S sb y := fun y hy => h.cg (hy 1 2 (by decide) (by decide)) (hy.f 2 (by decide) (by decide)) (hy.f 5 (by decide) (by decide)) (hy.f 24 (by decide) (by decide)) (hy 16 12 (by decide) (by decide)) (hy 34 6 (by decide) (by decide)) (hy.f 35 (by decide) (by decide)) (hy.f 36 (by decide) (by decide))
      unfold GB_X3_find_3 GF_X8_size
      rw [cp_ok, (hc z hF).2.2.1.1, ck_ok (by omega), ck_ok (by omega), if_neg (by omega), z44, wrZ_at t rfl (by omega), wrZ_at t rfl (by omega)]
      generalize hz1 : upZ (upZ z 49 t (cn t : Int)) 50 t 0 = z1
      have f1 : Fr [45, 46, 47, 48, 49, 50] [(44, 9)] g z1 := by rw [← hz1]; exact (hF.wr (by decide)).wr (by decide)
      have m44 : z1 44 9 = (cn t : Int) := by rw [← hz1, upZ_n (by decide), upZ_n (by decide)]; exact z44
      have m47 : z1 47 = z 47 := by rw [← hz1, upZ_n (by decide), upZ_n (by decide)]
      have m48 : z1 48 = z 48 := by rw [← hz1, upZ_n (by decide), upZ_n (by decide)]
      have m49 : z1 49 = upZ z 49 t (cn t : Int) 49 := by rw [← hz1, upZ_n (by decide)]
      have m50t : z1 50 t = 0 := by rw [← hz1, upZ_ss]
      have m50 : ∀ j, j ≠ t → z1 50 j = z 50 j := fun j hj => by rw [← hz1, upZ_sn hj, upZ_n (by decide)]
      have c49 : ∀ (y : uZ) (k : Nat), y 49 = z1 49 → ∀ i, i < t + 1 → y 49 i = (((fun j => if j = t + 1 then cn t + k else cn j) i : Nat) : Int) := fun y k hy i hi => by
        dsimp only
        rw [if_neg (by omega), hy, m49]
        by_cases q : i = t
        · rw [q, upZ_ss]
        · rw [upZ_sn q]
          exact z49 i (by omega)
      rw [(hc z1 f1).voiced ht, cp_ok]
      unfold GJ_X3_find_2
      by_cases hv : L (sb t) = 0
      · rw [if_pos hv, ck_ok (by decide), if_pos rfl, lt_ok]
        refine ⟨_, rfl, by dsimp only; omega, f1, fun j => if j = t + 1 then cn t + 0 else cn j, ?_, by dsimp only; rw [if_pos rfl]; exact m44, c49 z1 0 rfl, by dsimp only; rw [if_pos rfl]; exact few.u d2 b2 hfew ht⟩
        exact hM.ext (fun c _ => by dsimp only; rw [m47, m48]; exact ⟨rfl, rfl⟩) (fun i hi => m50 i (by omega)) (fun q => absurd hv q) (fun _ => ⟨rfl, m50t⟩)
      · have hsp := sp_facts d2 a2 b2 ht hL hv
        rw [if_neg hv, ck_ok (by decide), if_neg (by decide), (hc z1 f1).from ht, cp_ok, (hc z1 f1).to ht, cp_ok]
        obtain ⟨z2, w1, w2⟩ := p3_findWorths ((hc z1 f1).spc ht hv) (Nat.le_of_lt hsp.1)
        have g2 : Fr [45, 46] [] z1 z2 := fF_X3_findWorths Fr.rf w1
        have f2 : Fr [45, 46, 47, 48, 49, 50] [(44, 9)] g z2 := f1.tr g2 (by decide) (by decide)
        rw [w1, cp_ok, (hc z2 f2).from ht, cp_ok, (hc z2 f2).to ht, cp_ok]
        obtain ⟨z3, k, s1, s2, s3, s4, s5, s6, s7, s8⟩ := p3_markSpan (W := Wi x B L n sb t) (c0 := cn t) ((hc z2 f2).spc ht hv) hsp.1 (show t < 100 by omega) (hfew.v ht hv) (by rw [g2 44 9 (by decide) (by decide)]; exact m44) (fun s h1 h2 => w2 s h1 h2) (Wi_b d1 d2 a2 b2 ht hL hv)
        have g3 : Fr [47, 48, 50] [(44, 9)] z2 z3 := fF_X3_markSpan Fr.rf s1
        have f3 : Fr [45, 46, 47, 48, 49, 50] [(44, 9)] g z3 := f2.tr g3 (by decide) (by decide)
        rw [s1, cp_ok, lt_ok]
        refine ⟨_, rfl, by dsimp only; omega, f3, fun j => if j = t + 1 then cn t + k else cn j, ?_, by dsimp only; rw [if_pos rfl]; exact s3, c49 z3 k (by rw [g3.f 49 (by decide) (by decide), g2.f 49 (by decide) (by decide)]), by dsimp only; rw [if_pos rfl]; exact few.n b2 ht hv s4⟩
        refine hM.ext (fun c hcn => ?_) (fun i hi => ?_) (fun _ => ⟨s2, s5, s7⟩) (fun q => absurd q hv)
        · dsimp only
          rw [(s6 c hcn).1, (s6 c hcn).2, g2.f 47 (by decide) (by decide), g2.f 48 (by decide) (by decide), m47, m48]
          exact ⟨rfl, rfl⟩
        · dsimp only
          rw [s8 i (by omega), g2.f 50 (by decide) (by decide), m50 i (by omega)]
    · rintro ⟨w, z⟩ ⟨e1, hF, hr⟩
      simp only at e1 hF hr
      subst e1
      dsimp only
      refine ⟨z, ?_, hF, hr⟩
      unfold GB_X3_find_3 GF_X8_size
      rw [cp_ok, hF 34 6 (by decide) (by decide), b1, ck_ok (by omega), ck_ok (by omega), if_pos (by omega)]
    · rintro z ⟨hF, cn, hM, z44, z49, hfew⟩
      unfold GC_X3_find_4 GF_X8_size
      rw [cp_ok, hF 34 6 (by decide) (by decide), b1, z44, wrZ_at S rfl (by omega)]
      refine ⟨_, rfl, cn, ?_, by rw [upZ_n (by decide)]; exact z44, fun i hi => ?_, hfew⟩
      · rw [upZ_n (by decide), upZ_n (by decide), upZ_n (by decide)]
        exact hM
      · by_cases q : i = S
        · rw [q, upZ_ss]
        · rw [upZ_sn q]
          exact z49 i (by omega)
  obtain ⟨g', e, cn, r⟩ := main
  exact ⟨g', cn, e, r⟩
