/-! the middle lag, by counts -/
def cmV (L : Nat → Int) (a l : Nat) : Nat → Nat
  | 0 => 0
  | v + 1 => cmV L a l v + ctV L a l (v : Int)
theorem cmV_mono (L : Nat → Int) (a l : Nat) {u v : Nat} (h : u ≤ v) : cmV L a l u ≤ cmV L a l v := by
  induction v with
  | zero => have : u = 0 := by omega
            subst this; exact Nat.le_refl _
  | succ v ih =>
    by_cases hb : u = v + 1
    · subst hb; exact Nat.le_refl _
    · have := ih (by omega)
      have e : cmV L a l (v + 1) = cmV L a l v + ctV L a l (v : Int) := rfl
      omega
theorem cmV_uniq {L : Nat → Int} {a l h u v : Nat} (u1 : cmV L a l u ≤ h) (u2 : h < cmV L a l (u + 1)) (v1 : cmV L a l v ≤ h) (v2 : h < cmV L a l (v + 1)) : u = v := by
  rcases Nat.lt_trichotomy u v with q | q | q
  · have := cmV_mono L a l (u := u + 1) (v := v) q
    omega
  · exact q
  · have := cmV_mono L a l (u := v + 1) (v := u) q
    omega
theorem cmV_step (L : Nat → Int) (a l : Nat) {n : Nat} (h0 : 0 ≤ L (a + l)) : cmV L a (l + 1) n = cmV L a l n + if L (a + l) < (n : Int) then 1 else 0 := by
  induction n with
  | zero => rw [if_neg (by omega)]; rfl
  | succ n ih =>
    have e1 : cmV L a (l + 1) (n + 1) = cmV L a (l + 1) n + ctV L a (l + 1) (n : Int) := rfl
    have e2 : cmV L a l (n + 1) = cmV L a l n + ctV L a l (n : Int) := rfl
    have e3 : ctV L a (l + 1) (n : Int) = ctV L a l (n : Int) + if L (a + l) = (n : Int) then 1 else 0 := rfl
    rw [e1, e2, e3, ih]
    by_cases h1 : L (a + l) < (n : Int)
    · rw [if_pos h1, if_neg (by omega), if_pos (by omega)]
      omega
    · by_cases h2 : L (a + l) = (n : Int)
      · rw [if_neg h1, if_pos h2, if_pos (by omega)]
        omega
      · rw [if_neg h1, if_neg h2, if_neg (by omega)]
        omega
