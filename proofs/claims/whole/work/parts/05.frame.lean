/-! the steady world: cells by number, their ints by place; one set of words for all methods -/
def TG : List Cond := lw_tbl.filter goodWord
theorem tg_good {y : MethodName} {bytes : ByteArray} {n : Nat} {ret : Option FieldType} (h : Cond.code y bytes n ret ∈ TG) : GoodIn TG (Cond.code y bytes n ret :: TG) := by
  intro w hw
  have hm : w ∈ TG := (List.mem_cons.mp hw).elim (fun e => e ▸ h) id
  exact ⟨hm, good_of_word (List.mem_filter.mp hm).2⟩
theorem tg_1 {w : Cond} (h : w ∈ tables_1_1) (g : goodWord w = true) : w ∈ TG := List.mem_filter.mpr ⟨List.mem_append_right _ (List.mem_append_left _ h), g⟩
theorem tg_2 {w : Cond} (h : w ∈ tables_1_2) (g : goodWord w = true) : w ∈ TG := List.mem_filter.mpr ⟨List.mem_append_right _ (List.mem_append_right _ (List.mem_append_left _ h)), g⟩
theorem tg_3 {w : Cond} (h : w ∈ tables_1_3) (g : goodWord w = true) : w ∈ TG := List.mem_filter.mpr ⟨List.mem_append_right _ (List.mem_append_right _ (List.mem_append_right _ (List.mem_append_left _ h))), g⟩
theorem tg_4 {w : Cond} (h : w ∈ tables_1_4) (g : goodWord w = true) : w ∈ TG := List.mem_filter.mpr ⟨List.mem_append_right _ (List.mem_append_right _ (List.mem_append_right _ (List.mem_append_right _ (List.mem_append_left _ h)))), g⟩
theorem tg_5 {w : Cond} (h : w ∈ tables_1_5) (g : goodWord w = true) : w ∈ TG := List.mem_filter.mpr ⟨List.mem_append_right _ (List.mem_append_right _ (List.mem_append_right _ (List.mem_append_right _ (List.mem_append_right _ (List.mem_append_left _ h))))), g⟩
theorem tg_6 {w : Cond} (h : w ∈ tables_1_6) (g : goodWord w = true) : w ∈ TG := List.mem_filter.mpr ⟨List.mem_append_right _ (List.mem_append_right _ (List.mem_append_right _ (List.mem_append_right _ (List.mem_append_right _ (List.mem_append_right _ (List.mem_append_left _ h)))))), g⟩
theorem tg_7 {w : Cond} (h : w ∈ tables_1_7) (g : goodWord w = true) : w ∈ TG := List.mem_filter.mpr ⟨List.mem_append_right _ (List.mem_append_right _ (List.mem_append_right _ (List.mem_append_right _ (List.mem_append_right _ (List.mem_append_right _ (List.mem_append_right _ (List.mem_append_left _ h))))))), g⟩
theorem tg_8 {w : Cond} (h : w ∈ tables_1_8) (g : goodWord w = true) : w ∈ TG := List.mem_filter.mpr ⟨List.mem_append_right _ (List.mem_append_right _ (List.mem_append_right _ (List.mem_append_right _ (List.mem_append_right _ (List.mem_append_right _ (List.mem_append_right _ (List.mem_append_right _ (List.mem_append_left _ h)))))))), g⟩
theorem tg_9 {w : Cond} (h : w ∈ tables_1_9) (g : goodWord w = true) : w ∈ TG := List.mem_filter.mpr ⟨List.mem_append_right _ (List.mem_append_right _ (List.mem_append_right _ (List.mem_append_right _ (List.mem_append_right _ (List.mem_append_right _ (List.mem_append_right _ (List.mem_append_right _ (List.mem_append_right _ h)))))))), g⟩
theorem tg_s {q : MethodName × Nat} (h : q ∈ lw_privs) (g : goodWord (Cond.selects q.1.cls q.1 q.1) = true) : Cond.selects q.1.cls q.1 q.1 ∈ TG := List.mem_filter.mpr ⟨List.mem_append_left _ (List.mem_map.mpr ⟨q, h, rfl⟩), g⟩
abbrev uS : Type := Nat → Nat → Int32
abbrev uE : Type := va_G × (Nat → Nat) × (ClassId × ClassId × ClassId) × (Nat × Nat)
def up (σ : uS) (k j : Nat) (x : Int32) : uS := fun k' => if k' = k then upd (σ k) j x else σ k'
def u_N : Nat := 93
def u_ce (E : uE) (o : Int64) (k : Nat) (f : Nat → Int32) : va_E := match k with
  | 0 => .inr (11, [.ref (E.2.1 1), .ref (E.2.1 4), .ref (E.2.1 6), .ref (E.2.1 11), .ref (E.2.1 16), .ref (E.2.1 27), .ref (E.2.1 34), .ref (E.2.1 38), .ref (E.2.1 44), .ref (E.2.1 51), .int (f 10), .int (f 11), .int (f 12)])
  | 1 => .inr (7, [.ref (E.2.1 2), .ref (E.2.1 3), .int (f 2), .int (f 3)])
  | 2 => .inl (E.2.2.1.1, 800, .inl f)
  | 3 => .inl (E.2.2.1.1, 400, .inl f)
  | 4 => .inr (0, [.ref (E.2.1 5)])
  | 5 => .inl (E.2.2.1.1, 16, .inl f)
  | 6 => .inr (2, [.ref (E.2.1 1), .ref (E.2.1 4), .ref (E.2.1 7), .ref (E.2.1 8), .ref (E.2.1 9), .ref (E.2.1 10)])
  | 7 => .inl (E.2.2.1.1, 5000, .inl f)
  | 8 => .inl (E.2.2.1.1, 5000, .inl f)
  | 9 => .inl (E.2.2.1.1, 100, .inl f)
  | 10 => .inl (E.2.2.1.2.1, 100, .inl f)
  | 11 => .inr (1, [.ref (E.2.1 6), .ref (E.2.1 4), .ref (E.2.1 12), .ref (E.2.1 13), .ref (E.2.1 14), .ref (E.2.1 15), .int (f 6)])
  | 12 => .inl (E.2.2.1.1, 600, .inl f)
  | 13 => .inl (E.2.2.1.1, 600, .inl f)
  | 14 => .inl (E.2.2.1.1, 600, .inl f)
  | 15 => .inl (E.2.2.1.1, 100, .inl f)
  | 16 => .inr (5, [.ref (E.2.1 11), .ref (E.2.1 4), .ref (E.2.1 17), .ref (E.2.1 18), .ref (E.2.1 19), .ref (E.2.1 20), .ref (E.2.1 21), .ref (E.2.1 22), .ref (E.2.1 23), .ref (E.2.1 24), .ref (E.2.1 25), .ref (E.2.1 26), .int (f 12)])
  | 17 => .inr (9, [.int (f 0), .int (f 1), .int (f 2)])
  | 18 => .inr (9, [.int (f 0), .int (f 1), .int (f 2)])
  | 19 => .inl (E.2.2.1.1, 600, .inl f)
  | 20 => .inl (E.2.2.1.1, 600, .inl f)
  | 21 => .inl (E.2.2.1.1, 600, .inl f)
  | 22 => .inl (E.2.2.1.1, 600, .inl f)
  | 23 => .inl (E.2.2.1.1, 100, .inl f)
  | 24 => .inl (E.2.2.1.1, 100, .inl f)
  | 25 => .inl (E.2.2.1.1, 6, .inl f)
  | 26 => .inl (E.2.2.1.1, 6, .inl f)
  | 27 => .inr (6, [.ref (E.2.1 11), .ref (E.2.1 4), .ref (E.2.1 28), .ref (E.2.1 29), .ref (E.2.1 30), .ref (E.2.1 31), .ref (E.2.1 32), .ref (E.2.1 33)])
  | 28 => .inr (9, [.int (f 0), .int (f 1), .int (f 2)])
  | 29 => .inl (E.2.2.1.1, 4848, .inl f)
  | 30 => .inl (E.2.2.1.1, 4848, .inl f)
  | 31 => .inl (E.2.2.1.1, 606, .inl f)
  | 32 => .inl (E.2.2.1.1, 6, .inl f)
  | 33 => .inl (E.2.2.1.1, 6, .inl f)
  | 34 => .inr (8, [.ref (E.2.1 16), .ref (E.2.1 1), .ref (E.2.1 4), .ref (E.2.1 35), .ref (E.2.1 36), .ref (E.2.1 37), .int (f 6)])
  | 35 => .inl (E.2.2.1.1, 100, .inl f)
  | 36 => .inl (E.2.2.1.1, 100, .inl f)
  | 37 => .inl (E.2.2.1.1, 100, .inl f)
  | 38 => .inr (4, [.ref (E.2.1 16), .ref (E.2.1 39), .ref (E.2.1 40), .ref (E.2.1 41), .ref (E.2.1 42), .ref (E.2.1 43), .int (f 6), .int (f 7), .int (f 8), .int (f 9)])
  | 39 => .inl (E.2.2.1.1, 100, .inl f)
  | 40 => .inl (E.2.2.1.1, 100, .inl f)
  | 41 => .inl (E.2.2.1.1, 100, .inl f)
  | 42 => .inl (E.2.2.1.1, 50, .inl f)
  | 43 => .inl (E.2.2.1.1, 50, .inl f)
  | 44 => .inr (3, [.ref (E.2.1 34), .ref (E.2.1 1), .ref (E.2.1 4), .ref (E.2.1 45), .ref (E.2.1 46), .ref (E.2.1 47), .ref (E.2.1 48), .ref (E.2.1 49), .ref (E.2.1 50), .int (f 9)])
  | 45 => .inl (E.2.2.1.1, 800, .inl f)
  | 46 => .inl (E.2.2.1.1, 800, .inl f)
  | 47 => .inl (E.2.2.1.1, 800, .inl f)
  | 48 => .inl (E.2.2.1.1, 800, .inl f)
  | 49 => .inl (E.2.2.1.1, 101, .inl f)
  | 50 => .inl (E.2.2.1.1, 100, .inl f)
  | 51 => .inr (10, [.ref (E.2.1 38), .ref (E.2.1 4), .ref (E.2.1 52), .ref (E.2.1 53), .ref (E.2.1 54), .int (f 5)])
  | 52 => .inl (E.2.2.1.1, 12, .inl f)
  | 53 => .inl (E.2.2.1.1, 12, .inl f)
  | 54 => .inl (E.2.2.1.1, 1313, .inl f)
  | 55 => .inr (12, [.ref (E.2.1 56), .ref (E.2.1 57), .ref (E.2.1 58), .ref (E.2.1 59), .ref (E.2.1 60), .ref (E.2.1 61), .int (f 6), .int (f 7), .int (f 8), .int (f 9), .int (f 10), .ref (E.2.1 62), .ref (E.2.1 63), .ref (E.2.1 64), .ref (E.2.1 65), .ref (E.2.1 66), .ref (E.2.1 67), .int (f 17), .ref (E.2.1 68), .ref (E.2.1 69), .ref (E.2.1 70), .int (f 21), .int (f 22), .int (f 23), .ref (E.2.1 71), .ref (E.2.1 72), .ref (E.2.1 73), .ref (E.2.1 74), .ref (E.2.1 75), .ref (E.2.1 76), .ref (E.2.1 77), .int (f 31), .ref (E.2.1 78), .int (f 33), .ref (E.2.1 79), .ref (E.2.1 80), .ref (E.2.1 81), .ref (E.2.1 82), .int (f 38), .ref (E.2.1 83), .ref (E.2.1 84), .ref (E.2.1 85), .int (f 42), .ref (E.2.1 86), .ref (E.2.1 87), .ref (E.2.1 88), .ref (E.2.1 89), .ref (E.2.1 90), .ref (E.2.1 91), .int (f 49)])
  | 56 => .inl (E.2.2.1.1, 16, .inl f)
  | 57 => .inl (E.2.2.1.1, 16, .inl f)
  | 58 => .inl (E.2.2.1.1, 16, .inl f)
  | 59 => .inl (E.2.2.1.1, 800, .inl f)
  | 60 => .inl (E.2.2.1.1, 400, .inl f)
  | 61 => .inl (E.2.2.1.1, 12, .inl f)
  | 62 => .inl (E.2.2.1.1, 50, .inl f)
  | 63 => .inl (E.2.2.1.1, 50, .inl f)
  | 64 => .inl (E.2.2.1.1, 660, .inl f)
  | 65 => .inl (E.2.2.1.1, 660, .inl f)
  | 66 => .inl (E.2.2.1.1, 110, .inl f)
  | 67 => .inl (E.2.2.1.2.1, 50, .inl f)
  | 68 => .inl (E.2.2.1.1, 660, .inl f)
  | 69 => .inl (E.2.2.1.1, 110, .inl f)
  | 70 => .inl (E.2.2.1.2.1, 660, .inl f)
  | 71 => .inl (E.2.2.1.1, 5280, .inl f)
  | 72 => .inl (E.2.2.1.1, 5280, .inl f)
  | 73 => .inl (E.2.2.1.1, 5280, .inl f)
  | 74 => .inl (E.2.2.1.1, 660, .inl f)
  | 75 => .inl (E.2.2.1.1, 9, .inl f)
  | 76 => .inl (E.2.2.1.1, 9, .inl f)
  | 77 => .inl (E.2.2.1.1, 9, .inl f)
  | 78 => .inl (E.2.2.1.1, 111, .inl f)
  | 79 => .inl (E.2.2.1.1, 110, .inl f)
  | 80 => .inl (E.2.2.1.1, 110, .inl f)
  | 81 => .inl (E.2.2.1.1, 110, .inl f)
  | 82 => .inl (E.2.2.1.1, 110, .inl f)
  | 83 => .inl (E.2.2.1.1, 50, .inl f)
  | 84 => .inl (E.2.2.1.1, 1450, .inl f)
  | 85 => .inl (E.2.2.1.1, 12, .inl f)
  | 86 => .inl (E.2.2.1.1, 800, .inl f)
  | 87 => .inl (E.2.2.1.1, 800, .inl f)
  | 88 => .inl (E.2.2.1.1, 400, .inl f)
  | 89 => .inl (E.2.2.1.1, 400, .inl f)
  | 90 => .inl (E.2.2.1.1, 111, .inl f)
  | 91 => .inl (E.2.2.1.1, 110, .inl f)
  | _ => .inl (E.2.2.1.2.2, 1, .inr (.inl (fun _ => o)))
def u_least (j : Nat) : Int32 := ([0, 0, 8, 4, 2, 3, 0, 1, 0, 0, 0, 0, 0, 0, 0, 0] : List Int32).getD j 0
def u_most (j : Nat) : Int32 := ([0, 0, 40, 60, 47, 48, 2000, 5, 20, 2000, 50, 2000, 2000, 20, 2000, 500] : List Int32).getD j 0
def u_ns : List (String × Nat × MethodName) := [(RX2, 48, yX11_quotient), (RX1, 40, yX11_cell), (RX5, 108, yX11_cell), (RX4, 42, yX11_middleLag), (RX8, 64, yX11_quotient), (RX6, 68, yX11_cell), (RX3, 105, yX11_quotient)]
theorem u_Nw_warmD {x : MethodName} {s U : State} (hW : s.WarmedH U.vm) (h : va_Nw (.declares x) s) : va_Nw (.declares x) U := va_tabs rfl (rfl : (s.setVm U.vm).vm = U.vm) (by rw [Cond.declares_setVm hW.alike]; exact h)
def u_ds : List String := ["java/lang/RuntimeException", "java/lang/Exception", "java/lang/Throwable"]
def u_cs : List String := ["java/util/NoSuchElementException", "java/lang/IllegalArgumentException"]
def u_wl (E : uE) (o : Int64) (σ : uS) : va_W := (List.range u_N).map fun k => (E.2.1 k, u_ce E o k (σ k))
theorem u_wl_get {E : uE} {o : Int64} {σ : uS} {k : Nat} (hk : k < u_N) : (u_wl E o σ)[k]? = some (E.2.1 k, u_ce E o k (σ k)) := by
  unfold u_wl
  rw [List.getElem?_map, List.getElem?_range hk]
  rfl
theorem u_wl_lt {E : uE} {o : Int64} {σ : uS} {k : Nat} {q : Nat × va_E} (h : (u_wl E o σ)[k]? = some q) : k < u_N ∧ q = (E.2.1 k, u_ce E o k (σ k)) := by
  have hl : (u_wl E o σ).length = u_N := by unfold u_wl; rw [List.length_map, List.length_range]
  have hk : k < u_N := by
    have := (List.getElem?_eq_some_iff.mp h).1
    omega
  rw [u_wl_get hk] at h
  exact ⟨hk, (Option.some.inj h).symm⟩
theorem u_wl_set {E : uE} {o : Int64} {σ : uS} {k : Nat} (f : Nat → Int32) (hk : k < u_N) : (u_wl E o σ).set k (E.2.1 k, u_ce E o k f) = u_wl E o (fun j => if j = k then f else σ j) := by
  apply List.ext_getElem?
  intro i
  have hl : (u_wl E o σ).length = u_N := by unfold u_wl; rw [List.length_map, List.length_range]
  by_cases hi : i = k
  · subst hi
    rw [List.getElem?_set_self (by omega), u_wl_get hk]
    simp
  · rw [List.getElem?_set_ne (fun q => hi q.symm)]
    by_cases h9 : i < u_N
    · rw [u_wl_get h9, u_wl_get h9, if_neg hi]
    · rw [List.getElem?_eq_none (by omega), List.getElem?_eq_none (by unfold u_wl; rw [List.length_map, List.length_range]; omega)]
def u_inj (E : uE) : Prop := ∀ i j : Nat, i < u_N → j < u_N → E.2.1 i = E.2.1 j → i = j
def u_A (E : uE) (sz : Nat) : Nat → Prop := fun q => (∃ k : Nat, k < u_N ∧ q = E.2.1 k) ∨ sz ≤ q
theorem u_A.le {E : uE} {a b : Nat} (h : a ≤ b) : ∀ q, u_A E b q → u_A E a q := fun _ h9 => h9.imp id (fun z => Nat.le_trans h z)
theorem u_D {E : uE} {o : Int64} {σ : uS} {sz : Nat} (h : u_inj E) : va_D (u_A E sz) (u_wl E o σ) := by
  refine ⟨fun i j p q hp hq e => ?_, fun k q hq => ?_⟩
  · obtain ⟨h1, rfl⟩ := u_wl_lt hp
    obtain ⟨h2, rfl⟩ := u_wl_lt hq
    exact h i j h1 h2 e
  · obtain ⟨h1, rfl⟩ := u_wl_lt hq
    exact Or.inl ⟨k, h1, rfl⟩
abbrev u_ty (E : uE) : List (ClassId × FieldType) := [(E.2.2.1.1, .int), (E.2.2.1.2.1, .boolean), (E.2.2.1.2.2, .long)]
def u_Z (E : uE) (sz : Nat) (U : State) (H : Heap) : Prop :=
  va_Z "PitchMarks$Bounds" "LEAST" "[I" (.ref E.2.2.2.1) (u_A E sz) U H ∧ va_X E.2.2.2.1 16 u_least U H ∧ ¬ u_A E sz E.2.2.2.1 ∧ E.2.2.2.1 < H.size ∧
  va_Z "PitchMarks$Bounds" "MOST" "[I" (.ref E.2.2.2.2) (u_A E sz) U H ∧ va_X E.2.2.2.2 16 u_most U H ∧ ¬ u_A E sz E.2.2.2.2 ∧ E.2.2.2.2 < H.size ∧
  vx_Zq Bundle.tN "UNASSIGNED_STACK" Bundle.steD (u_A E sz) U H ∧ vx_Zq Bundle.tN "SUPPRESSED_SENTINEL" Bundle.listD (u_A E sz) U H ∧
  (∃ sa, vk_R "PitchMarks" 346 "there is none such" sa U) ∧ (∃ sa, vk_R "PitchMarks" 353 "not as told" sa U) ∧ (∀ q ∈ u_ns, va_Nw (.methodLinkNest q.1 q.2.1 q.2.2 "PitchMarks") U) ∧ (∀ q ∈ u_cs, va_Nw (.castable q q) U) ∧ (∀ q ∈ u_ds, va_Nw (.declares (Bundle.initS q)) U) ∧ va_Nc "java/lang/IllegalArgumentException" "java/util/NoSuchElementException" U ∧ va_Nc "java/util/NoSuchElementException" "java/lang/IllegalArgumentException" U
theorem u_Z.to {E : uE} {s U : State} {H : Heap} {locs : List Loc} (h : u_Z E s.heap.size s s.heap) (hS : va_S (u_A E s.heap.size) s.heap H locs) (hU : U.heap = H) (hW : s.WarmedH U.vm) : u_Z E H.size U U.heap := by
  obtain ⟨a1, a2, a3, a4, b1, b2, b3, b4, c1, c2, ⟨x, d1⟩, ⟨y, d2⟩, d3, d4, d4b, d5, d6⟩ := h
  have hn : ∀ q, u_A E H.size q → u_A E s.heap.size q := u_A.le hS.1
  have hq := hS.2.1
  rw [hU]
  refine ⟨((a1.kept hq).moved hW.alike).narrow hn, (a2.kept (hq _ a4 a3)).moved hW.alike, fun z => a3 (hn _ z), Nat.lt_of_lt_of_le a4 hS.1, ((b1.kept hq).moved hW.alike).narrow hn, (b2.kept (hq _ b4 b3)).moved hW.alike, fun z => b3 (hn _ z), Nat.lt_of_lt_of_le b4 hS.1, ((c1.kept hq).moved hW.alike).narrow hn, ((c2.kept hq).moved hW.alike).narrow hn, ⟨x, d1.warm hW⟩, ⟨y, d2.warm hW⟩, fun q hq => va_Nw.warmM hW (d3 q hq), fun q hq => va_Nw.warmC hW (d4 q hq), fun q hq => u_Nw_warmD hW (d4b q hq), d5.moved hW.alike, d6.moved hW.alike⟩
theorem u_Z.same {E : uE} {sz : Nat} {u U : State} {H : Heap} (h : u_Z E sz u H) (hv : U.vm = u.vm) : u_Z E sz U H := by
  obtain ⟨a1, a2, a3, a4, b1, b2, b3, b4, c1, c2, ⟨x, d1⟩, ⟨y, d2⟩, d3, d4, d4b, d5, d6⟩ := h
  have hA : u.vm.Alike U.vm := by rw [hv]; exact Vm.Alike.refl _
  exact ⟨a1.moved hA, a2.moved hA, a3, a4, b1.moved hA, b2.moved hA, b3, b4, c1.moved hA, c2.moved hA, ⟨x, d1.same hv⟩, ⟨y, d2.same hv⟩, fun q hq => va_Nw.same rfl hv.symm (d3 q hq), fun q hq => va_Nw.same rfl hv.symm (d4 q hq), fun q hq => va_Nw.same rfl hv.symm (d4b q hq), d5.moved hA, d6.moved hA⟩
def u_Pc (E : uE) (argv : List Value) (σ : uS) (o : Int64) (sz : Nat) : Array Value → State → Prop := va_Pc argv (fun U => U.heap.size = sz ∧ va_P E.1 vwCl (u_wl E o σ) U.heap ∧ va_K E.1 vwCl (u_ty E) U ∧ u_inj E ∧ u_Z E sz U U.heap)
theorem u_Pc.blind {E : uE} {argv : List Value} {σ : uS} {o : Int64} {sz : Nat} : FrameBlind (u_Pc E argv σ o sz) := by
  intro a U g mk q
  obtain ⟨q0, q1, qP, qK, qJ, qZ⟩ := q
  exact ⟨q0, q1, qP, va_K.moved (u := U) (U := U.calling g mk a) (Vm.Alike.refl U.vm) qK, qJ, u_Z.same (U := U.calling g mk a) qZ rfl⟩
abbrev u_rm (fr lo a b : Nat) : Room := { frames := fr, cells := a, slots := b, locals := lo }
abbrev u_QI (E : uE) (sz : Nat) (o : Int64) (r : Int32) (σ : uS) : Array Value → State → Outcome → State → Prop := va_Qi (fun (x : Int32) (_ : Unit) => x = r) (fun _ t => va_P E.1 vwCl (u_wl E o σ) t.heap) (u_A E sz)
abbrev u_QV (E : uE) (sz : Nat) (o : Int64) (σ : uS) : Array Value → State → Outcome → State → Prop := va_Qv (fun (_ : Unit) => True) (fun _ t => va_P E.1 vwCl (u_wl E o σ) t.heap) (u_A E sz)
def CtI (l : Launch) (E : uE) (y : MethodName) (cc : ByteArray) (nL : Nat) (ret : Option FieldType) (fr lo : Nat) (argv : List Value) (σ : uS) (r : Int32) (σ' : uS) : Prop :=
  ∀ (o : Int64) (sz : Nat), Met l y (Cond.code y cc nL ret :: TG) (u_rm fr lo 0 0) (u_Pc E argv σ o sz) (u_QI E sz o r σ') 0 0 (u_A E sz)
def CtV (l : Launch) (E : uE) (y : MethodName) (cc : ByteArray) (nL : Nat) (fr lo : Nat) (argv : List Value) (σ : uS) (σ' : uS) : Prop :=
  ∀ (o : Int64) (sz : Nat), Met l y (Cond.code y cc nL none :: TG) (u_rm fr lo 0 0) (u_Pc E argv σ o sz) (u_QV E sz o σ') 0 0 (u_A E sz)
/-! locals by place -/
def lo_has (ls : Array Slot) (nL : Nat) (lv : List (Option Value)) : Prop := ls.size = nL ∧ lv_wf ls ∧ ∀ (k : Nat) (v : Value), lv[k]? = some (some v) → ls[k]? = some (.val v)
def lo_as : Nat → List (Option Value) → List (Nat × Value)
  | _, [] => []
  | i, some v :: r => (i, v) :: lo_as (i + 1) r
  | i, none :: r => lo_as (i + 1) r
theorem lo_as_mem : ∀ (lv : List (Option Value)) (i : Nat) (q : Nat × Value), q ∈ lo_as i lv ↔ i ≤ q.1 ∧ lv[q.1 - i]? = some (some q.2)
  | [], i, q => by simp [lo_as]
  | some v :: r, i, q => by
    rw [lo_as, List.mem_cons, lo_as_mem r (i + 1) q]
    constructor
    · rintro (rfl | ⟨h1, h2⟩)
      · simp
      · refine ⟨by omega, ?_⟩
        rw [show q.1 - i = (q.1 - (i + 1)) + 1 by omega]
        simpa using h2
    · rintro ⟨h1, h2⟩
      by_cases h : q.1 = i
      · left
        rw [h, Nat.sub_self] at h2
        simp at h2
        obtain ⟨a, b⟩ := q
        simp_all
      · right
        refine ⟨by omega, ?_⟩
        rw [show q.1 - i = (q.1 - (i + 1)) + 1 by omega] at h2
        simpa using h2
  | none :: r, i, q => by
    rw [lo_as, lo_as_mem r (i + 1) q]
    constructor
    · rintro ⟨h1, h2⟩
      refine ⟨by omega, ?_⟩
      rw [show q.1 - i = (q.1 - (i + 1)) + 1 by omega]
      simpa using h2
    · rintro ⟨h1, h2⟩
      by_cases h : q.1 = i
      · rw [h, Nat.sub_self] at h2
        simp at h2
      · refine ⟨by omega, ?_⟩
        rw [show q.1 - i = (q.1 - (i + 1)) + 1 by omega] at h2
        simpa using h2
theorem lo_has.to {ls : Array Slot} {nL : Nat} {lv : List (Option Value)} (h : lo_has ls nL lv) : lv_has ls nL (lo_as 0 lv) := by
  refine ⟨h.1, h.2.1, fun q hq => ?_⟩
  exact h.2.2 _ _ ((lo_as_mem lv 0 q).mp hq).2
def lo_n2 (x : Option (Option Value)) : Bool := match x with
  | some (some v) => !(v.category == 2)
  | _ => true
def lo_set (lv : List (Option Value)) (i : Nat) (v : Value) : List (Option Value) := lv.set i (some v)
/-- after a store of one word -/
theorem lo_put {ls ls' : Array Slot} {nL i : Nat} {v : Value} {lv : List (Option Value)} (h : lo_has ls nL lv) (h2 : lv_has ls' nL ((i, v) :: (lo_as 0 lv).filter (fun q => !(q.1 == i) && !(q.1 + 1 == i && q.2.category == 2)))) (hp : i = 0 ∨ lo_n2 lv[i - 1]? = true) : lo_has ls' nL (lo_set lv i v) := by
  refine ⟨h2.1, h2.2.1, fun k w hk => ?_⟩
  by_cases hi : k = i
  · subst hi
    have hw : w = v := by
      unfold lo_set at hk
      rw [List.getElem?_set_self' ] at hk
      cases hq : lv[k]? <;> simp_all
    subst hw
    exact h2.2.2 (k, w) List.mem_cons_self
  · unfold lo_set at hk
    rw [List.getElem?_set_ne (fun q => hi q.symm)] at hk
    refine h2.2.2 (k, w) (List.mem_cons_of_mem _ (List.mem_filter.mpr ⟨(lo_as_mem lv 0 (k, w)).mpr ⟨Nat.zero_le _, hk⟩, ?_⟩))
    have e1 : (k == i) = false := by simpa using hi
    simp only [e1, Bool.not_false, Bool.true_and]
    by_cases hk1 : k + 1 = i
    · subst hk1
      rcases hp with hp | hp
      · omega
      · rw [Nat.add_sub_cancel, hk] at hp
        simp only [lo_n2] at hp
        simp [hp]
    · have e2 : (k + 1 == i) = false := by simpa using hk1
      simp [e2]
def lo_mask : List Bool → List (Option Value) → List (Option Value)
  | [], _ => []
  | _, [] => []
  | true :: bs, x :: xs => x :: lo_mask bs xs
  | false :: bs, _ :: xs => none :: lo_mask bs xs
theorem lo_mask_get : ∀ (bs : List Bool) (lv : List (Option Value)) (k : Nat) (v : Value), (lo_mask bs lv)[k]? = some (some v) → lv[k]? = some (some v)
  | [], lv, k, v, h => by simp [lo_mask] at h
  | b :: bs, [], k, v, h => by cases b <;> simp [lo_mask] at h
  | true :: bs, x :: xs, 0, v, h => by simpa [lo_mask] using h
  | false :: bs, x :: xs, 0, v, h => by simp [lo_mask] at h
  | true :: bs, x :: xs, k + 1, v, h => by
    simp only [lo_mask, List.getElem?_cons_succ] at h ⊢
    exact lo_mask_get bs xs k v h
  | false :: bs, x :: xs, k + 1, v, h => by
    simp only [lo_mask, List.getElem?_cons_succ] at h ⊢
    exact lo_mask_get bs xs k v h
def lo_args : List Value → List (Option Value)
  | [] => []
  | v :: r => if v.category = 2 then some v :: none :: lo_args r else some v :: lo_args r
theorem lo_args_get : ∀ (vs : List Value) (i k : Nat) (v : Value), (lo_args vs)[k]? = some (some v) → (i + k, v) ∈ lv_args i vs
  | [], i, k, v, h => by simp [lo_args] at h
  | w :: r, i, k, v, h => by
    rw [lv_args]
    rw [lo_args] at h
    split at h
    · rename_i hc
      rw [if_pos hc]
      match k, h with
      | 0, h => simp at h; subst h; simp
      | 1, h => simp at h
      | k + 2, h =>
        simp only [List.getElem?_cons_succ] at h
        have := lo_args_get r (i + 2) k v h
        rw [show i + 2 + k = i + (k + 2) by omega] at this
        exact List.mem_cons_of_mem _ this
    · rename_i hc
      rw [if_neg hc]
      match k, h with
      | 0, h => simp at h; subst h; simp
      | k + 1, h =>
        simp only [List.getElem?_cons_succ] at h
        have := lo_args_get r (i + 1) k v h
        rw [show i + 1 + k = i + (k + 1) by omega] at this
        exact List.mem_cons_of_mem _ this
theorem lo_mask_len {bs : List Bool} {lv : List (Option Value)} : (lo_mask bs lv).length ≤ lv.length := by
  induction bs generalizing lv with
  | nil => simp [lo_mask]
  | cons b bs ih => cases lv with
    | nil => cases b <;> simp [lo_mask]
    | cons x xs => cases b <;> simp [lo_mask, ih]
/-- the locals at a method's start, filled up with unknown ones -/
theorem lo_start {ls : Array Slot} {nL n : Nat} {vs : List Value} (h : lv_has ls nL (lv_args 0 vs)) : lo_has ls nL (lo_args vs ++ List.replicate n none) := by
  refine ⟨h.1, h.2.1, fun k v hk => ?_⟩
  by_cases hl : k < (lo_args vs).length
  · rw [List.getElem?_append_left hl] at hk
    have := lo_args_get vs 0 k v hk
    rw [Nat.zero_add] at this
    exact h.2.2 _ this
  · rw [List.getElem?_append_right (by omega)] at hk
    have := List.mem_of_getElem? hk
    have := List.eq_of_mem_replicate this
    cases this
