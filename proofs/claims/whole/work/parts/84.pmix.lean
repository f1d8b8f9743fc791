/-! what a frame leaves alone stays true -/
def inN : List Nat → Nat → Bool
  | [], _ => false
  | a :: l, c => Nat.beq a c || inN l c
def inM : List (Nat × Nat) → Nat → Nat → Bool
  | [], _, _ => false
  | q :: l, c, j => (Nat.beq q.1 c && Nat.beq q.2 j) || inM l c j
theorem inN_no {l : List Nat} {c : Nat} (h : inN l c = false) : c ∉ l := by
  induction l with
  | nil => exact List.not_mem_nil
  | cons a l ih =>
    unfold inN at h
    rw [Bool.or_eq_false_iff] at h
    intro hm
    rcases List.mem_cons.mp hm with q | q
    · subst q
      rw [Nat.beq_refl] at h
      exact absurd h.1 (by decide)
    · exact ih h.2 q
theorem inM_no {l : List (Nat × Nat)} {c j : Nat} (h : inM l c j = false) : (c, j) ∉ l := by
  induction l with
  | nil => exact List.not_mem_nil
  | cons a l ih =>
    unfold inM at h
    rw [Bool.or_eq_false_iff] at h
    intro hm
    rcases List.mem_cons.mp hm with q | q
    · subst q
      simp only [Nat.beq_refl] at h
      exact absurd h.1 (by decide)
    · exact ih h.2 q
def mixL (L : List Nat) (M : List (Nat × Nat)) (g g' : uZ) : uZ := fun c => match inN L c with
  | true => g' c
  | false => fun j => match inM M c j with
    | true => g' c j
    | false => g c j
theorem Fr.mix {L : List Nat} {M : List (Nat × Nat)} {g g' : uZ} (h : Fr L M g g') : g' = mixL L M g g' := by
  funext c j
  unfold mixL
  cases h1 : inN L c with
  | true => rfl
  | false =>
    dsimp only
    cases h2 : inM M c j with
    | true => rfl
    | false => exact h c j (inN_no h1) (inM_no h2)
theorem Fr.tra {L : List Nat} {M : List (Nat × Nat)} {g g' : uZ} (P : uZ → Prop) (h : Fr L M g g') (hp : P (mixL L M g g')) : P g' := by
  rw [h.mix]
  exact hp
def stB (x B : Nat → Int) : Nat → Nat → Nat → Int := fun e a b => spS (bN B 10) (bN B 11) (bN B 12) (lgS x B e a) (lgS x B (e + 1) b)
/-- the path and all that is found with it -/
def PW (x B : Nat → Int) (n : Nat) (g : uZ) : Prop := (∀ f, f < nfS B n → rowOk x (bN B 2) (bN B 3) (bN B 5) g f) ∧ g 11 6 = (nfS B n : Int) ∧ (∀ f, f < nfS B n → CR x B g f) ∧ PO (nfS B n) (mS x B) (lgS x B) (owS x B) (stB x B) g ∧ (g 17 0 = (bN B 10 : Int) ∧ g 17 1 = (bN B 11 : Int) ∧ g 17 2 = (bN B 12 : Int)) ∧ SP (g 24) (nfS B n) g ∧ NQ (g 24) (nfS B n) g ∧ ∀ f, f < nfS B n → 0 ≤ g 24 f ∧ g 24 f ≤ 48
theorem PW.try1 {x B : Nat → Int} {n : Nat} {g g' : uZ} (h : PW x B n g) (hF : Fr [45, 46, 47, 48, 49, 50, 62, 63, 64] [(0, 12), (44, 9), (55, 9), (55, 17)] g g') : PW x B n g' := hF.tra (PW x B n) h
