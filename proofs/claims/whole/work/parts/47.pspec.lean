/-! bounds, frames as the document has them -/
theorem p0_2 (g : uZ) : GF_X0_of 2 g = some (g 5 2) := by
  unfold GF_X0_of GJ_X0_of_2
  simp (disch := omega) only [ck_ok, if_neg, if_pos, rdZ_ok]
  rfl
theorem p0_3 (g : uZ) : GF_X0_of 3 g = some (g 5 3) := by
  unfold GF_X0_of GJ_X0_of_2
  simp (disch := omega) only [ck_ok, if_neg, if_pos, rdZ_ok]
  rfl
theorem p0_4 (g : uZ) : GF_X0_of 4 g = some (g 5 4) := by
  unfold GF_X0_of GJ_X0_of_2
  simp (disch := omega) only [ck_ok, if_neg, if_pos, rdZ_ok]
  rfl
theorem p0_5 (g : uZ) : GF_X0_of 5 g = some (g 5 5) := by
  unfold GF_X0_of GJ_X0_of_2
  simp (disch := omega) only [ck_ok, if_neg, if_pos, rdZ_ok]
  rfl
theorem p0_6 (g : uZ) : GF_X0_of 6 g = some (g 5 6) := by
  unfold GF_X0_of GJ_X0_of_2
  simp (disch := omega) only [ck_ok, if_neg, if_pos, rdZ_ok]
  rfl
theorem p0_7 (g : uZ) : GF_X0_of 7 g = some (g 5 7) := by
  unfold GF_X0_of GJ_X0_of_2
  simp (disch := omega) only [ck_ok, if_neg, if_pos, rdZ_ok]
  rfl
theorem p0_8 (g : uZ) : GF_X0_of 8 g = some (g 5 8) := by
  unfold GF_X0_of GJ_X0_of_2
  simp (disch := omega) only [ck_ok, if_neg, if_pos, rdZ_ok]
  rfl
theorem p0_9 (g : uZ) : GF_X0_of 9 g = some (g 5 9) := by
  unfold GF_X0_of GJ_X0_of_2
  simp (disch := omega) only [ck_ok, if_neg, if_pos, rdZ_ok]
  rfl
theorem p0_10 (g : uZ) : GF_X0_of 10 g = some (g 5 10) := by
  unfold GF_X0_of GJ_X0_of_2
  simp (disch := omega) only [ck_ok, if_neg, if_pos, rdZ_ok]
  rfl
theorem p0_11 (g : uZ) : GF_X0_of 11 g = some (g 5 11) := by
  unfold GF_X0_of GJ_X0_of_2
  simp (disch := omega) only [ck_ok, if_neg, if_pos, rdZ_ok]
  rfl
theorem p0_12 (g : uZ) : GF_X0_of 12 g = some (g 5 12) := by
  unfold GF_X0_of GJ_X0_of_2
  simp (disch := omega) only [ck_ok, if_neg, if_pos, rdZ_ok]
  rfl
theorem p0_13 (g : uZ) : GF_X0_of 13 g = some (g 5 13) := by
  unfold GF_X0_of GJ_X0_of_2
  simp (disch := omega) only [ck_ok, if_neg, if_pos, rdZ_ok]
  rfl
theorem p0_14 (g : uZ) : GF_X0_of 14 g = some (g 5 14) := by
  unfold GF_X0_of GJ_X0_of_2
  simp (disch := omega) only [ck_ok, if_neg, if_pos, rdZ_ok]
  rfl
theorem p0_15 (g : uZ) : GF_X0_of 15 g = some (g 5 15) := by
  unfold GF_X0_of GJ_X0_of_2
  simp (disch := omega) only [ck_ok, if_neg, if_pos, rdZ_ok]
  rfl
def bN (B : Nat → Int) (k : Nat) : Nat := (B k).toNat
def BOk (B : Nat → Int) : Prop := (∀ k, 2 ≤ k → k ≤ 15 → u_leastZ k ≤ B k ∧ B k ≤ u_mostZ k) ∧ B 4 < B 5
theorem BOk.b {B : Nat → Int} (h : BOk B) (k : Nat) (h2 : 2 ≤ k) (h15 : k ≤ 15) (h0 : 0 ≤ u_leastZ k) : B k = bN B k ∧ u_leastZ k ≤ bN B k ∧ bN B k ≤ u_mostZ k := by
  have := h.1 k h2 h15
  have e : B k = bN B k := by unfold bN; omega
  rw [← e]
  exact ⟨rfl, this⟩
theorem BOk.b2 {B : Nat → Int} (h : BOk B) : B 2 = bN B 2 ∧ 8 ≤ bN B 2 ∧ bN B 2 ≤ 40 := by
  have h9 : B 2 = bN B 2 ∧ (8 : Int) ≤ bN B 2 ∧ (bN B 2 : Int) ≤ 40 := h.b 2 (by decide) (by decide) (by decide)
  omega
theorem BOk.b3 {B : Nat → Int} (h : BOk B) : B 3 = bN B 3 ∧ 4 ≤ bN B 3 ∧ bN B 3 ≤ 60 := by
  have h9 : B 3 = bN B 3 ∧ (4 : Int) ≤ bN B 3 ∧ (bN B 3 : Int) ≤ 60 := h.b 3 (by decide) (by decide) (by decide)
  omega
theorem BOk.b4 {B : Nat → Int} (h : BOk B) : B 4 = bN B 4 ∧ 2 ≤ bN B 4 ∧ bN B 4 ≤ 47 := by
  have h9 : B 4 = bN B 4 ∧ (2 : Int) ≤ bN B 4 ∧ (bN B 4 : Int) ≤ 47 := h.b 4 (by decide) (by decide) (by decide)
  omega
theorem BOk.b5 {B : Nat → Int} (h : BOk B) : B 5 = bN B 5 ∧ 3 ≤ bN B 5 ∧ bN B 5 ≤ 48 := by
  have h9 : B 5 = bN B 5 ∧ (3 : Int) ≤ bN B 5 ∧ (bN B 5 : Int) ≤ 48 := h.b 5 (by decide) (by decide) (by decide)
  omega
theorem BOk.b6 {B : Nat → Int} (h : BOk B) : B 6 = bN B 6 ∧ 0 ≤ bN B 6 ∧ bN B 6 ≤ 2000 := by
  have h9 : B 6 = bN B 6 ∧ (0 : Int) ≤ bN B 6 ∧ (bN B 6 : Int) ≤ 2000 := h.b 6 (by decide) (by decide) (by decide)
  omega
theorem BOk.b7 {B : Nat → Int} (h : BOk B) : B 7 = bN B 7 ∧ 1 ≤ bN B 7 ∧ bN B 7 ≤ 5 := by
  have h9 : B 7 = bN B 7 ∧ (1 : Int) ≤ bN B 7 ∧ (bN B 7 : Int) ≤ 5 := h.b 7 (by decide) (by decide) (by decide)
  omega
theorem BOk.b8 {B : Nat → Int} (h : BOk B) : B 8 = bN B 8 ∧ 0 ≤ bN B 8 ∧ bN B 8 ≤ 20 := by
  have h9 : B 8 = bN B 8 ∧ (0 : Int) ≤ bN B 8 ∧ (bN B 8 : Int) ≤ 20 := h.b 8 (by decide) (by decide) (by decide)
  omega
theorem BOk.b9 {B : Nat → Int} (h : BOk B) : B 9 = bN B 9 ∧ 0 ≤ bN B 9 ∧ bN B 9 ≤ 2000 := by
  have h9 : B 9 = bN B 9 ∧ (0 : Int) ≤ bN B 9 ∧ (bN B 9 : Int) ≤ 2000 := h.b 9 (by decide) (by decide) (by decide)
  omega
theorem BOk.b10 {B : Nat → Int} (h : BOk B) : B 10 = bN B 10 ∧ 0 ≤ bN B 10 ∧ bN B 10 ≤ 50 := by
  have h9 : B 10 = bN B 10 ∧ (0 : Int) ≤ bN B 10 ∧ (bN B 10 : Int) ≤ 50 := h.b 10 (by decide) (by decide) (by decide)
  omega
theorem BOk.b11 {B : Nat → Int} (h : BOk B) : B 11 = bN B 11 ∧ 0 ≤ bN B 11 ∧ bN B 11 ≤ 2000 := by
  have h9 : B 11 = bN B 11 ∧ (0 : Int) ≤ bN B 11 ∧ (bN B 11 : Int) ≤ 2000 := h.b 11 (by decide) (by decide) (by decide)
  omega
theorem BOk.b12 {B : Nat → Int} (h : BOk B) : B 12 = bN B 12 ∧ 0 ≤ bN B 12 ∧ bN B 12 ≤ 2000 := by
  have h9 : B 12 = bN B 12 ∧ (0 : Int) ≤ bN B 12 ∧ (bN B 12 : Int) ≤ 2000 := h.b 12 (by decide) (by decide) (by decide)
  omega
theorem BOk.b13 {B : Nat → Int} (h : BOk B) : B 13 = bN B 13 ∧ 0 ≤ bN B 13 ∧ bN B 13 ≤ 20 := by
  have h9 : B 13 = bN B 13 ∧ (0 : Int) ≤ bN B 13 ∧ (bN B 13 : Int) ≤ 20 := h.b 13 (by decide) (by decide) (by decide)
  omega
theorem BOk.b14 {B : Nat → Int} (h : BOk B) : B 14 = bN B 14 ∧ 0 ≤ bN B 14 ∧ bN B 14 ≤ 2000 := by
  have h9 : B 14 = bN B 14 ∧ (0 : Int) ≤ bN B 14 ∧ (bN B 14 : Int) ≤ 2000 := h.b 14 (by decide) (by decide) (by decide)
  omega
theorem BOk.b15 {B : Nat → Int} (h : BOk B) : B 15 = bN B 15 ∧ 0 ≤ bN B 15 ∧ bN B 15 ≤ 500 := by
  have h9 : B 15 = bN B 15 ∧ (0 : Int) ≤ bN B 15 ∧ (bN B 15 : Int) ≤ 500 := h.b 15 (by decide) (by decide) (by decide)
  omega
theorem BOk.lh {B : Nat → Int} (h : BOk B) : bN B 4 < bN B 5 := by
  have h4 := h.b4
  have h5 := h.b5
  have := h.2
  omega
def XOk (x : Nat → Int) : Prop := ∀ j, -128 ≤ x j ∧ x j ≤ 127
theorem ab_r {x y : Int} (hx : -128 ≤ x ∧ x ≤ 127) (hy : -128 ≤ y ∧ y ≤ 127) : 0 ≤ ab (x - y) ∧ ab (x - y) ≤ 255 := by
  unfold ab
  split <;> omega
/-- DIFF -/
def dfS (x : Nat → Int) (hop wide f L : Nat) : Int := sm wide (fun i => ab (x (f * hop + i) - x (f * hop + i + L)))
/-- DIFFS up to a lag, together -/
def tgS (x : Nat → Int) (hop wide f L : Nat) : Int := sm (L + 1) (fun l => dfS x hop wide f l)
/-- REL -/
def rlS (x : Nat → Int) (hop wide f L : Nat) : Int := if tgS x hop wide f L = 0 then 1000 else (1000 * L * dfS x hop wide f L) / tgS x hop wide f L
/-- LOUD -/
def ldS (x : Nat → Int) (hop wide f : Nat) : Int := sm wide (fun i => ab (x (f * hop + i)))
def rcS (B : Nat → Int) : Nat := bN B 3 + bN B 5 + 1
/-- how many FRAMES -/
def nfS (B : Nat → Int) (n : Nat) : Nat := if n < rcS B then 0 else (n - rcS B) / bN B 2 + 1
theorem dfS_r {x : Nat → Int} (hx : XOk x) (hop wide f L : Nat) : 0 ≤ dfS x hop wide f L ∧ dfS x hop wide f L ≤ wide * 255 := sm_bd (fun i _ => ab_r (hx _) (hx _))
theorem dfS_0 (x : Nat → Int) (hop wide f : Nat) : dfS x hop wide f 0 = 0 := by
  unfold dfS
  induction wide with
  | zero => rfl
  | succ n ih =>
    rw [sm_s, ih]
    simp [ab]
theorem ldS_r {x : Nat → Int} (hx : XOk x) (hop wide f : Nat) : 0 ≤ ldS x hop wide f ∧ ldS x hop wide f ≤ wide * 128 := sm_bd (fun i _ => by have := hx (f * hop + i); unfold ab; split <;> omega)
theorem tgS_r {x : Nat → Int} (hx : XOk x) (hop wide f L : Nat) : 0 ≤ tgS x hop wide f L ∧ tgS x hop wide f L ≤ ((L + 1 : Nat) : Int) * (wide * 255) := sm_bd (fun l _ => dfS_r hx hop wide f l)
theorem dfS_tg {x : Nat → Int} (hx : XOk x) (hop wide f L : Nat) : dfS x hop wide f L ≤ tgS x hop wide f L := by
  unfold tgS
  rw [sm_s]
  have := (sm_bd (n := L) (h := fun l => dfS x hop wide f l) (b := wide * 255) (fun l _ => dfS_r hx hop wide f l)).1
  omega
/-- DIFF, LOUD, REL rest on no more than the frame's samples -/
theorem dfS_eq {x y : Nat → Int} {hop wide f L n : Nat} (h : ∀ j, f * hop ≤ j → j < f * hop + n → x j = y j) (hn : wide + L ≤ n) : dfS x hop wide f L = dfS y hop wide f L := sm_eq (fun i hi => by rw [h _ (by omega) (by omega), h _ (by omega) (by omega)])
theorem ldS_eq {x y : Nat → Int} {hop wide f n : Nat} (h : ∀ j, f * hop ≤ j → j < f * hop + n → x j = y j) (hn : wide ≤ n) : ldS x hop wide f = ldS y hop wide f := sm_eq (fun i hi => by rw [h _ (by omega) (by omega)])
theorem tgS_eq {x y : Nat → Int} {hop wide f L n : Nat} (h : ∀ j, f * hop ≤ j → j < f * hop + n → x j = y j) (hn : wide + L ≤ n) : tgS x hop wide f L = tgS y hop wide f L := sm_eq (fun l hl => dfS_eq h (by omega))
theorem rlS_eq {x y : Nat → Int} {hop wide f L n : Nat} (h : ∀ j, f * hop ≤ j → j < f * hop + n → x j = y j) (hn : wide + L ≤ n) : rlS x hop wide f L = rlS y hop wide f L := by
  unfold rlS
  rw [tgS_eq h hn, dfS_eq h hn]
/-- frames that fit -/
theorem nfS_lt {B : Nat → Int} (hB : BOk B) (n f : Nat) : f < nfS B n ↔ f * bN B 2 + rcS B ≤ n := by
  have h2 := hB.b2
  unfold nfS
  split
  · constructor
    · omega
    · intro h
      have := Nat.zero_le (f * bN B 2)
      omega
  · rw [Nat.lt_succ_iff, Nat.le_div_iff_mul_le (by omega)]
    omega
theorem nfS_100 {B : Nat → Int} (hB : BOk B) {n : Nat} (hn : n ≤ 800) : nfS B n ≤ 100 := by
  have h2 := hB.b2
  have h3 := hB.b3
  have h5 := hB.b5
  have := (nfS_lt hB n 100)
  have h8 : 100 * 8 ≤ 100 * bN B 2 := Nat.mul_le_mul_left 100 h2.2.1
  unfold rcS at this
  omega
