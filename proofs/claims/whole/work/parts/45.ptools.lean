/-! tools for the meanings over Int -/
theorem ck_ok {β : Type} {a : Int} {k : Option β} (h : inR a) : ck a k = k := if_pos h
theorem rdZ_ok {β : Type} {f : Nat → Int} {n : Nat} {i : Int} {k : Int → Option β} (h0 : 0 ≤ i) (h1 : i < n) : rdZ f n i k = k (f i.toNat) := if_pos ⟨h0, h1⟩
theorem wrZ_ok {β : Type} {g : uZ} {c n : Nat} {i x : Int} {k : uZ → Option β} (h0 : 0 ≤ i) (h1 : i < n) : wrZ g c n i x k = k (upZ g c i.toNat x) := if_pos ⟨h0, h1⟩
theorem rdZ_at {β : Type} {f : Nat → Int} {n : Nat} {i : Int} {k : Int → Option β} (j : Nat) (h0 : i = (j : Int)) (h1 : j < n) : rdZ f n i k = k (f j) := by
  subst h0
  rw [rdZ_ok (by omega) (by omega)]
  simp
theorem wrZ_at {β : Type} {g : uZ} {c n : Nat} {i x : Int} {k : uZ → Option β} (j : Nat) (h0 : i = (j : Int)) (h1 : j < n) : wrZ g c n i x k = k (upZ g c j x) := by
  subst h0
  rw [wrZ_ok (by omega) (by omega)]
  simp
theorem dvZ_ok {β : Type} {x y : Int} {k : Int → Option β} (hx : inR x) (hy : inR y) (h0 : ¬ y = 0) : dvZ x y k = k (x.tdiv y) := if_pos ⟨hx, hy, h0⟩
theorem rmdZ_ok {β : Type} {x y : Int} {k : Int → Option β} (hx : inR x) (hy : inR y) (h0 : ¬ y = 0) : rmdZ x y k = k (x.tmod y) := if_pos ⟨hx, hy, h0⟩
theorem bzZ_0 {β : Type} {k : Option β} : bzZ 0 k = k := if_pos (Or.inl rfl)
theorem bzZ_1 {β : Type} {k : Option β} : bzZ 1 k = k := if_pos (Or.inr rfl)
theorem bzZ_ok {β : Type} {x : Int} {k : Option β} (h : x = 0 ∨ x = 1) : bzZ x k = k := if_pos h
theorem lt_ok {α β : Type} (e : α) (k : α → β) : lt e k = k e := rfl
theorem cp_ok {α β : Type} (v : α) (k : α → Option β) : cp (some v) k = k v := rfl
theorem clZ_ok {α β : Type} (v : α) (g : uZ) (k : α → uZ → Option β) : clZ (some (v, g)) k = k v g := rfl
theorem pfZ_ok {β : Type} (g : uZ) (c j : Nat) (x : Int) (k : uZ → Option β) : pfZ g c j x k = k (upZ g c j x) := rfl
theorem upZ_s (g : uZ) (c j : Nat) (x : Int) (j' : Nat) : upZ g c j x c j' = if j' = j then x else g c j' := by unfold upZ; rw [if_pos rfl]
theorem upZ_n {g : uZ} {c j : Nat} {x : Int} {c' : Nat} (h : c' ≠ c) : upZ g c j x c' = g c' := by unfold upZ; rw [if_neg h]
theorem upZ_ss (g : uZ) (c j : Nat) (x : Int) : upZ g c j x c j = x := by rw [upZ_s, if_pos rfl]
theorem upZ_sn {g : uZ} {c j : Nat} {x : Int} {j' : Nat} (h : j' ≠ j) : upZ g c j x c j' = g c j' := by rw [upZ_s, if_neg h]
theorem iter_while {α β : Type} {f : α → Option (α ⊕ β)} (P : α → Prop) (Q : β → Prop) (m : α → Nat) (hs : ∀ a, P a → (∃ a', f a = some (.inl a') ∧ P a' ∧ m a' < m a) ∨ (∃ b, f a = some (.inr b) ∧ Q b)) : ∀ (n : Nat) (a : α), P a → m a < n → ∃ b, Q b ∧ iter n f a = some b
  | 0, a, _, h => absurd h (Nat.not_lt_zero _)
  | n + 1, a, hP, h => by
    rcases hs a hP with ⟨a', e, hP', hm⟩ | ⟨b, e, hQ⟩
    · obtain ⟨b, hQ, hi⟩ := iter_while P Q m hs n a' hP' (by omega)
      refine ⟨b, hQ, ?_⟩
      unfold iter
      rw [e]
      exact hi
    · refine ⟨b, hQ, ?_⟩
      unfold iter
      rw [e]
theorem lp_while {α β γ : Type} {f : α → Option (α ⊕ β)} {a : α} {k : β → Option γ} (P : α → Prop) (Q : β → Prop) (m : α → Nat) (h0 : P a) (hm : m a < 1000000000) (hs : ∀ a, P a → (∃ a', f a = some (.inl a') ∧ P a' ∧ m a' < m a) ∨ (∃ b, f a = some (.inr b) ∧ Q b)) : ∃ b, Q b ∧ lp f a k = k b := by
  obtain ⟨b, hQ, hi⟩ := iter_while P Q m hs FU a h0 (Nat.lt_trans hm (by decide +kernel))
  refine ⟨b, hQ, ?_⟩
  unfold lp
  rw [hi]
theorem lp_run {α β γ : Type} {f : α → Option (α ⊕ β)} {a : α} {k : β → Option γ} (P : Nat → α → Prop) (Q : β → Prop) (n : Nat) (hn : n < 1000000000) (h0 : P 0 a) (hs : ∀ i a, i < n → P i a → ∃ a', f a = some (.inl a') ∧ P (i + 1) a') (he : ∀ a, P n a → ∃ b, f a = some (.inr b) ∧ Q b) : ∃ b, Q b ∧ lp f a k = k b := by
  have key : ∀ (d i : Nat) (a : α), i + d = n → P i a → ∃ b, Q b ∧ iter (d + 1) f a = some b := by
    intro d
    induction d with
    | zero =>
      intro i a hi hP
      obtain rfl : i = n := by omega
      obtain ⟨b, e, hQ⟩ := he a hP
      refine ⟨b, hQ, ?_⟩
      unfold iter
      rw [e]
    | succ d ih =>
      intro i a hi hP
      obtain ⟨a', e, hP'⟩ := hs i a (by omega) hP
      obtain ⟨b, hQ, hi2⟩ := ih (i + 1) a' (by omega) hP'
      refine ⟨b, hQ, ?_⟩
      unfold iter
      rw [e]
      exact hi2
  obtain ⟨b, hQ, hi⟩ := key n 0 a (by omega) h0
  refine ⟨b, hQ, ?_⟩
  have hmono : ∀ (p q : Nat) (a : α) (b : β), iter p f a = some b → p ≤ q → iter q f a = some b := by
    intro p
    induction p with
    | zero => intro q a b h _; unfold iter at h; cases h
    | succ p ih =>
      intro q a b h hq
      obtain ⟨q, rfl⟩ : ∃ r, q = r + 1 := ⟨q - 1, by omega⟩
      unfold iter at h ⊢
      split at h
      · rename_i a2 e
        exact ih q a2 b h (by omega)
      · exact h
      · cases h
  have := hmono (n + 1) FU a b hi (Nat.le_of_lt (Nat.lt_of_le_of_lt hn (by decide +kernel)))
  unfold lp
  rw [this]
/-- a loop whose state is known at each step -/
theorem lp_for {α β γ : Type} {f : α → Option (α ⊕ β)} {a : α} {k : β → Option γ} (st : Nat → α) (n : Nat) (b : β) (h0 : a = st 0) (hn : n < 1000000000) (hs : ∀ i, i < n → f (st i) = some (.inl (st (i + 1)))) (he : f (st n) = some (.inr b)) : lp f a k = k b := by
  obtain ⟨b2, hQ, h⟩ := lp_run (f := f) (a := a) (k := k) (fun i a => a = st i) (fun c => c = b) n hn h0 (fun i a hi e => ⟨_, by rw [e]; exact hs i hi, rfl⟩) (fun a e => ⟨b, by rw [e]; exact he, rfl⟩)
  rw [h, hQ]
def sm : Nat → (Nat → Int) → Int
  | 0, _ => 0
  | n + 1, h => sm n h + h n
theorem sm_s (n : Nat) (h : Nat → Int) : sm (n + 1) h = sm n h + h n := rfl
theorem sm_bd {n : Nat} {h : Nat → Int} {b : Int} (hb : ∀ i, i < n → 0 ≤ h i ∧ h i ≤ b) : 0 ≤ sm n h ∧ sm n h ≤ n * b := by
  induction n with
  | zero => simp [sm]
  | succ n ih =>
    have h1 := ih (fun i hi => hb i (by omega))
    have h2 := hb n (by omega)
    rw [sm_s, Int.natCast_add, Int.add_mul]
    omega
theorem sm_eq {n : Nat} {h h' : Nat → Int} (e : ∀ i, i < n → h i = h' i) : sm n h = sm n h' := by
  induction n with
  | zero => rfl
  | succ n ih => rw [sm_s, sm_s, ih (fun i hi => e i (by omega)), e n (by omega)]
def ab (x : Int) : Int := if 0 ≤ x then x else -x
def atS (x : Nat → Int) (n : Nat) (a : Int) : Int := if 0 ≤ a ∧ a < n then x a.toNat else 0
theorem p7_at {g : uZ} {n : Nat} (h : g 1 2 = n) (hn : n ≤ 800) {a : Int} (ha : inR a) : GF_X7_at a g = some (atS (g 2) n a) := by
  unfold GF_X7_at GJ_X7_at_1 GJ_X7_at_2 atS
  by_cases h1 : a < 0
  · simp (disch := omega) only [ck_ok, if_pos, if_neg]
  · by_cases h2 : a < n
    · simp (disch := omega) only [ck_ok, if_pos, if_neg, rdZ_ok]
    · simp (disch := omega) only [ck_ok, if_pos, if_neg]
theorem lp_go {α β γ : Type} {f : α → Option (α ⊕ β)} {a : α} {k : β → Option γ} {R : γ → Prop} (P : Nat → α → Prop) (Q : β → Prop) (n : Nat) (hn : n < 1000000000) (h0 : P 0 a) (hs : ∀ i a, i < n → P i a → ∃ a', f a = some (.inl a') ∧ P (i + 1) a') (he : ∀ a, P n a → ∃ b, f a = some (.inr b) ∧ Q b) (hk : ∀ b, Q b → ∃ z, k b = some z ∧ R z) : ∃ z, lp f a k = some z ∧ R z := by
  obtain ⟨b, hQ, h⟩ := lp_run (k := k) P Q n hn h0 hs he
  rw [h]
  exact hk b hQ
theorem lp_wh {α β γ : Type} {f : α → Option (α ⊕ β)} {a : α} {k : β → Option γ} {R : γ → Prop} (P : α → Prop) (Q : β → Prop) (m : α → Nat) (h0 : P a) (hm : m a < 1000000000) (hs : ∀ a, P a → (∃ a', f a = some (.inl a') ∧ P a' ∧ m a' < m a) ∨ (∃ b, f a = some (.inr b) ∧ Q b)) (hk : ∀ b, Q b → ∃ z, k b = some z ∧ R z) : ∃ z, lp f a k = some z ∧ R z := by
  obtain ⟨b, hQ, h⟩ := lp_while (k := k) P Q m h0 hm hs
  rw [h]
  exact hk b hQ
theorem ck_t {β : Type} (x : Int32) (k : Option β) : ck x.toInt k = k := ck_ok (toInt_inR x)
