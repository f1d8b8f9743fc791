/-! what holds between two calls -/
def TT (g : uZ) : Prop := (∃ tp : Nat, tp ≤ 400 ∧ g 1 3 = (tp : Int) ∧ g 55 7 = (tp : Int)) ∧ (∀ j, -128 ≤ g 3 j ∧ g 3 j ≤ 127) ∧ g 60 = g 3 ∧ (∃ k : Nat, k ≤ 12 ∧ g 51 5 = (k : Int) ∧ g 55 8 = (k : Int) ∧ ∀ j, j < k → 1 ≤ g 52 j ∧ g 52 j ≤ 48) ∧ g 61 = g 52 ∧ g 57 = u_leastZ ∧ g 58 = u_mostZ
def IVn (R M : uZ → Prop) (n : Nat) (g : uZ) : Prop := g 1 2 = (n : Int) ∧ n ≤ 800 ∧ XOk (g 2) ∧ BOk (g 5) ∧ Cache (g 2) (g 5) n g ∧ ((g 0 10 = 0 ∧ g 0 11 = 0 ∧ g 0 12 = 0) ∨ (g 0 10 = 1 ∧ PW (g 2) (g 5) n g ∧ (g 0 11 = 0 ∨ (g 0 11 = 1 ∧ R g)) ∧ (g 0 12 = 0 ∨ (g 0 12 = 1 ∧ M g)))) ∧ MB (g 2) (g 5) n g ∧ TT g
def IV (R M : uZ → Prop) (g : uZ) : Prop := ∃ n : Nat, IVn R M n g
def okC (c : Nat) : Bool := c == 18 || c == 25 || c == 26 || c == 53 || c == 54 || Nat.blt 61 c
def okM (q : Nat × Nat) : Bool := q.1 == 18 || (q.1 == 55 && Nat.blt 8 q.2)
/-- R is of cells that only some calls change -/
def Kp (R : uZ → Prop) : Prop := ∀ g g' : uZ, (∀ c, c < 53 → inN [7, 8, 9, 10, 18, 25, 26] c = false → g' c = g c) → R g → R g'
theorem Fr.low {L : List Nat} {M : List (Nat × Nat)} {g g' : uZ} (hF : Fr L M g g') (hL : ∀ c ∈ L, okC c = true) (hM : ∀ q ∈ M, okM q = true) : (∀ c, okC c = false → c ≠ 55 → g' c = g c) ∧ ∀ j, j ≤ 8 → g' 55 j = g 55 j := by
  refine ⟨fun c hc h55 => ?_, fun j hj => ?_⟩
  · refine funext fun j => hF c j (fun h => ?_) (fun h => ?_)
    · have := hL c h
      rw [hc] at this
      exact absurd this (by decide)
    · have := hM _ h
      unfold okM at this
      simp only [Bool.or_eq_true, Bool.and_eq_true, beq_iff_eq] at this
      rcases this with q | q
      · subst q
        exact absurd hc (by decide)
      · exact h55 q.1
  · refine hF 55 j (fun h => ?_) (fun h => ?_)
    · exact absurd (hL 55 h) (by decide)
    · have := hM _ h
      unfold okM at this
      simp only [Bool.or_eq_true, Bool.and_eq_true, beq_iff_eq] at this
      rcases this with q | q
      · exact absurd q (by decide)
      · have := Nat.le_of_ble_eq_true q.2
        omega
theorem okC_lt {c : Nat} (h : c < 53) (h1 : c ≠ 18) (h2 : c ≠ 25) (h3 : c ≠ 26) : okC c = false := by
  unfold okC
  have : Nat.blt 61 c = false := by
    cases h4 : Nat.blt 61 c with
    | false => rfl
    | true =>
      have := Nat.le_of_ble_eq_true h4
      omega
  simp [this, h1, h2, h3]
  omega
def mix2 (g g' : uZ) : uZ := fun c => match okC c with
  | true => g' c
  | false => match Nat.beq c 55 with
    | true => fun j => match Nat.ble j 8 with
      | true => g 55 j
      | false => g' 55 j
    | false => g c
theorem mix2_e {g g' : uZ} (h : (∀ c, okC c = false → c ≠ 55 → g' c = g c) ∧ ∀ j, j ≤ 8 → g' 55 j = g 55 j) : g' = mix2 g g' := by
  funext c j
  unfold mix2
  cases h1 : okC c with
  | true => rfl
  | false =>
    dsimp only
    cases h2 : Nat.beq c 55 with
    | true =>
      have e : c = 55 := Nat.eq_of_beq_eq_true h2
      subst e
      dsimp only
      cases h3 : Nat.ble j 8 with
      | true => exact h.2 j (Nat.le_of_ble_eq_true h3)
      | false => rfl
    | false =>
      dsimp only
      have : c ≠ 55 := fun e => by
        subst e
        exact absurd h2 (by decide)
      rw [h.1 c h1 this]
theorem IVn.keep {R M : uZ → Prop} (hR : Kp R) (hM : Kp M) {n : Nat} {g g' : uZ} (h : IVn R M n g) (hk : (∀ c, okC c = false → c ≠ 55 → g' c = g c) ∧ ∀ j, j ≤ 8 → g' 55 j = g 55 j) : IVn R M n g' := by
  have hr : R g → R g' := hR g g' (fun c h0 h1 => hk.1 c (okC_lt h0 (fun e => by subst e; exact absurd h1 (by decide)) (fun e => by subst e; exact absurd h1 (by decide)) (fun e => by subst e; exact absurd h1 (by decide))) (by omega))
  have hm : M g → M g' := hM g g' (fun c h0 h1 => hk.1 c (okC_lt h0 (fun e => by subst e; exact absurd h1 (by decide)) (fun e => by subst e; exact absurd h1 (by decide)) (fun e => by subst e; exact absurd h1 (by decide))) (by omega))
  obtain ⟨i1, i2, i3, i4, i5, i6, i7, i8⟩ := h
  have e := mix2_e hk
  have j1 : g' 1 2 = (n : Int) := by rw [e]; exact i1
  have j3 : g' 2 = g 2 := by rw [e]; rfl
  have j4 : g' 5 = g 5 := by rw [e]; rfl
  have j0 : g' 0 = g 0 := by rw [e]; rfl
  refine ⟨j1, i2, by rw [j3]; exact i3, by rw [j4]; exact i4, ?_, ?_, ?_, ?_⟩
  · rw [j3, j4, e]
    exact i5
  · rw [j0, j3, j4]
    rcases i6 with i6 | ⟨k1, k2, k3, k4⟩
    · exact Or.inl i6
    · refine Or.inr ⟨k1, ?_, ?_, ?_⟩
      · rw [e]
        exact k2
      · rcases k3 with k3 | k3
        · exact Or.inl k3
        · exact Or.inr ⟨k3.1, hr k3.2⟩
      · rcases k4 with k4 | k4
        · exact Or.inl k4
        · exact Or.inr ⟨k4.1, hm k4.2⟩
  · rw [j3, j4, e]
    exact i7
  · rw [e]
    exact i8
theorem IVn.fr {R M : uZ → Prop} (hR : Kp R) (hM : Kp M) {n : Nat} {g g' : uZ} (h : IVn R M n g) {L : List Nat} {Ms : List (Nat × Nat)} (hF : Fr L Ms g g') (h1 : ∀ c ∈ L, okC c = true) (h2 : ∀ q ∈ Ms, okM q = true) : IVn R M n g' := h.keep hR hM (hF.low h1 h2)
theorem p11_findPath {g : uZ} {n : Nat} (h : g 1 2 = n) (hn : n ≤ 800) (hB : BOk (g 5)) (hx : XOk (g 2)) (hc : Cache (g 2) (g 5) n g) (h0 : g 0 10 = 0) : ∃ g', GF_X11_findPath g = some g' ∧ g' 0 10 = 1 ∧ PW (g 2) (g 5) n g' ∧ Cache (g 2) (g 5) n g' := by
  have hN := nfS_100 hB hn
  unfold GF_X11_findPath
  rw [h0, ck_ok (by decide), if_pos rfl]
  obtain ⟨g2, h2, c2, r2⟩ := p2_find h hn hB hx hc
  have f2 := fF_X2_find Fr.rf h2
  have b2 : g2 2 = g 2 := f2.f 2 (by decide) (by decide)
  have b5 : g2 5 = g 5 := f2.f 5 (by decide) (by decide)
  have b1 : g2 1 2 = (n : Int) := (f2 1 2 (by decide) (by decide)).trans h
  obtain ⟨g3, h3, e3, c3⟩ := p1_find (g := g2) b1 hn (by rw [b5]; exact hB) (by rw [b2]; exact hx) (by rw [b2, b5]; exact r2)
  rw [b2, b5] at c3
  rw [b5] at e3
  have f3 := fF_X1_find Fr.rf h3
  have b5' : g3 5 = g 5 := (f3.f 5 (by decide) (by decide)).trans b5
  have hC := CR.ct hB hx hN e3 c3
  obtain ⟨g4, h4, p4, q0, q1, q2⟩ := p5_find hC (by rw [b5']; exact hB)
  rw [b5'] at p4 q0 q1 q2
  have f4 := fF_X5_find Fr.rf h4
  have hL : ∀ f, f < nfS (g 5) n → 0 ≤ g4 24 f ∧ g4 24 f ≤ 48 := fun f hf => by
    have k1 := p4.2.2.2.2 f hf
    have k2 := (p4.2.2.2.1 (by omega)).1 f (by omega)
    have k3 := ((hC.2.2 f hf).2.2.2 _ k2).2.1
    dsimp only at k3
    omega
  obtain ⟨g5, h5, s5⟩ := p8_find (g := g4) p4.1 hN (fun f hf => ⟨(hL f hf).1, by have := (hL f hf).2; omega⟩)
  have f5 := fF_X8_find Fr.rf h5
  have d24 : g5 24 = g4 24 := f5.f 24 (by decide) (by decide)
  obtain ⟨g6, h6, n6⟩ := p4_find (g := g5) ((f5 16 12 (by decide) (by decide)).trans p4.1) hN (by rw [d24]; exact hL)
  have f6 := fF_X4_find Fr.rf h6
  rw [d24] at n6
  rw [h2, cp_ok, h3, cp_ok, h4, cp_ok, h5, cp_ok, h6, cp_ok, pfZ_ok]
  have w6 : Fr [39, 40, 41, 42, 43] [(0, 10), (38, 6), (38, 7), (38, 8), (38, 9)] g5 (upZ g6 0 10 1) := ((Fr.rf (L := [39, 40, 41, 42, 43]) (M := [(0, 10), (38, 6), (38, 7), (38, 8), (38, 9)])).tr f6 (by decide) (by decide)).pf (by decide)
  have w5 : Fr [35, 36, 37, 39, 40, 41, 42, 43] [(0, 10), (34, 6), (38, 6), (38, 7), (38, 8), (38, 9)] g4 (upZ g6 0 10 1) := ((Fr.rf (L := [35, 36, 37, 39, 40, 41, 42, 43]) (M := [(0, 10), (34, 6), (38, 6), (38, 7), (38, 8), (38, 9)])).tr f5 (by decide) (by decide)).tr w6 (by decide) (by decide)
  have w4 : Fr [19, 20, 21, 22, 23, 24, 35, 36, 37, 39, 40, 41, 42, 43] [(0, 10), (16, 12), (17, 0), (17, 1), (17, 2), (34, 6), (38, 6), (38, 7), (38, 8), (38, 9)] g3 (upZ g6 0 10 1) := ((Fr.rf (L := [19, 20, 21, 22, 23, 24, 35, 36, 37, 39, 40, 41, 42, 43]) (M := [(0, 10), (16, 12), (17, 0), (17, 1), (17, 2), (34, 6), (38, 6), (38, 7), (38, 8), (38, 9)])).tr f4 (by decide) (by decide)).tr w5 (by decide) (by decide)
  have w3 : Fr [12, 13, 14, 15, 19, 20, 21, 22, 23, 24, 35, 36, 37, 39, 40, 41, 42, 43] [(0, 10), (11, 6), (16, 12), (17, 0), (17, 1), (17, 2), (34, 6), (38, 6), (38, 7), (38, 8), (38, 9)] g2 (upZ g6 0 10 1) := ((Fr.rf (L := [12, 13, 14, 15, 19, 20, 21, 22, 23, 24, 35, 36, 37, 39, 40, 41, 42, 43]) (M := [(0, 10), (11, 6), (16, 12), (17, 0), (17, 1), (17, 2), (34, 6), (38, 6), (38, 7), (38, 8), (38, 9)])).tr f3 (by decide) (by decide)).tr w4 (by decide) (by decide)
  have k24 : upZ g6 0 10 1 24 = g4 24 := w5.f 24 (by decide) (by decide)
  refine ⟨_, rfl, upZ_ss _ _ _ _, ⟨?_, ?_, ?_, ?_, ?_, ?_, ?_, ?_⟩, ?_⟩
  · intro f hf
    exact w3.tra (fun q => rowOk (g 2) (bN (g 5) 2) (bN (g 5) 3) (bN (g 5) 5) q f) (r2 f hf)
  · exact w4.tra (fun q => q 11 6 = (nfS (g 5) n : Int)) e3
  · intro f hf
    exact w4.tra (fun q => CR (g 2) (g 5) q f) (c3 f hf)
  · exact w5.tra (fun q => PO (nfS (g 5) n) (mS (g 2) (g 5)) (lgS (g 2) (g 5)) (owS (g 2) (g 5)) (stB (g 2) (g 5)) q) p4
  · exact w5.tra (fun q => q 17 0 = (bN (g 5) 10 : Int) ∧ q 17 1 = (bN (g 5) 11 : Int) ∧ q 17 2 = (bN (g 5) 12 : Int)) ⟨q0, q1, q2⟩
  · rw [k24]
    exact w6.tra (fun q => SP (g4 24) (nfS (g 5) n) q) s5
  · rw [k24]
    exact n6
  · rw [k24]
    exact hL
  · exact w3.tra (fun q => Cache (g 2) (g 5) n q) c2
theorem iv_findPath {R M : uZ → Prop} {n : Nat} {g : uZ} (h : IVn R M n g) : ∃ g', GF_X11_findPath g = some g' ∧ IVn R M n g' ∧ g' 0 10 = 1 ∧ PW (g' 2) (g' 5) n g' := by
  obtain ⟨i1, i2, i3, i4, i5, i6, i7, i8⟩ := h
  rcases i6 with ⟨k1, k2, k3⟩ | ⟨k1, k2, k3, k4⟩
  · obtain ⟨g', h1, h2, h3, h4⟩ := p11_findPath i1 i2 i4 i3 i5 k1
    have f := fF_X11_findPath Fr.rf h1
    have e2 : g' 2 = g 2 := f.f 2 (by decide) (by decide)
    have e5 : g' 5 = g 5 := f.f 5 (by decide) (by decide)
    refine ⟨g', h1, ⟨(f 1 2 (by decide) (by decide)).trans i1, i2, by rw [e2]; exact i3, by rw [e5]; exact i4, by rw [e2, e5]; exact h4, Or.inr ⟨h2, by rw [e2, e5]; exact h3, Or.inl ((f 0 11 (by decide) (by decide)).trans k2), Or.inl ((f 0 12 (by decide) (by decide)).trans k3)⟩, ?_, ?_⟩, h2, by rw [e2, e5]; exact h3⟩
    · rw [e2, e5]
      exact i7.cg f (by decide) (by decide) (by decide)
    · exact f.tra TT i8
  · refine ⟨g, ?_, ⟨i1, i2, i3, i4, i5, Or.inr ⟨k1, k2, k3, k4⟩, i7, i8⟩, k1, k2⟩
    unfold GF_X11_findPath
    rw [k1, ck_ok (by decide), if_neg (by decide)]
/-- both sides have the same path -/
theorem PW.lp {x B : Nat → Int} {n : Nat} {g g' : uZ} (hB : BOk B) (hx : XOk x) (hn : n ≤ 800) (h : PW x B n g) (hO : MO (nfS B n) (mS x B) (lgS x B) (owS x B) (bN B 10) (bN B 11) (bN B 12) g') : LGP (nfS B n) (g 24) g' ∧ ∀ f, f < nfS B n → g' 69 f = g 23 f := by
  obtain ⟨o1, o2, o3, o4, o5, o6, o7⟩ := hO
  obtain ⟨-, -, -, ⟨p1, p2, p3, p4, p5⟩, -⟩ := h
  have he : ∀ f, f < nfS B n → g' 69 f = g 23 f := fun f hf => by
    have u := (o5 (by omega)).uniq (p4 (by omega)) f (by omega)
    have a := o6 f hf
    have b := (p5 f hf).1
    omega
  refine ⟨⟨o1, mS x B, lgS x B, owS x B, o2, fun f hf => ?_⟩, he⟩
  refine ⟨o6 f hf, (o5 (by omega)).1 f (by omega), ?_⟩
  rw [(p5 f hf).2, he f hf]
