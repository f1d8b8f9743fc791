abbrev uK : Type := (Program × Env × Room × State × MethodId × Array Value) × (List Frame × Method × Code × (State → Prop) × Nat)
def Gd (l : Launch) (E : uE) (K : uK) (a b : Nat) (o : Int64) (σ : uS) (pc : Nat) (lv : List (Option Value)) (st : List Value) : Prop := match K with
  | ((p, e, R, s, m, args), (below, meth, c, Q, nL)) => ∀ (H : Heap) (locs : List Loc) (ls : Array Slot), va_P E.1 vwCl (u_wl E o σ) H → va_S (u_A E s.heap.size) s.heap H locs → lo_has ls nL lv → W p l e R s m args below meth c H locs a b Q (F0 m pc ls st)
def Cx (E : uE) (K : uK) (own : String) (cc : ByteArray) (ret : Option FieldType) (fr lo : Nat) : Prop := match K with
  | ((p, _, R, s, m, args), (_, meth, c, _, nL)) => p.tables.exec = Jvm.exec ∧ c.code = cc ∧ meth.sig.returnType = ret ∧ c.maxLocals = nL ∧ s.vm.findClass own = some m.cls ∧ (∀ w ∈ TG, w.before args s = true) ∧ meth.locks = false ∧ va_K E.1 vwCl (u_ty E) s ∧ u_inj E ∧ u_Z E s.heap.size s s.heap ∧ R.frames = fr ∧ R.locals = lo
def Rm (K : uK) (a b : Nat) : Prop := a ≤ K.1.2.2.1.cells ∧ b ≤ K.1.2.2.1.slots
def RetI (E : uE) (K : uK) (a b : Nat) (o : Int64) (r : Int32) (σ : uS) : Prop := match K with
  | ((_, _, _, s, _, args), (below, _, _, Q, _)) => Q = MQ below (u_QI E s.heap.size o r σ) args s a b (u_A E s.heap.size)
def RetV (E : uE) (K : uK) (a b : Nat) (o : Int64) (σ : uS) : Prop := match K with
  | ((_, _, _, s, _, args), (below, _, _, Q, _)) => Q = MQ below (u_QV E s.heap.size o σ) args s a b (u_A E s.heap.size)
def RetL (E : uE) (K : uK) (a b : Nat) (o : Int64) (r : Int64) (σ : uS) : Prop := match K with
  | ((_, _, _, s, _, args), (below, _, _, Q, _)) => Q = MQ below (va_Ql (fun (x : Int64) (_ : Unit) => x = r) (fun _ t => va_P E.1 vwCl (u_wl E o σ) t.heap) (u_A E s.heap.size)) args s a b (u_A E s.heap.size)

theorem g_iconst {l : Launch} {E : uE} {K : uK} {own : String} {cc : ByteArray} {ret : Option FieldType} {fr lo a b : Nat} {o : Int64} {σ : uS} {pc : Nat} {lv : List (Option Value)} {st : List Value} (hC : Cx E K own cc ret fr lo) {n : Int} {v : Int32} (hv : Int32.ofInt n = v) (hd : decode cc pc = .ok (.iconst n, 1)) (kk : Gd l E K a b o σ (pc + 1) lv (.int v :: st)) : Gd l E K a b o σ pc lv st := by
  obtain ⟨⟨p, e, R, s, m, args⟩, ⟨below, meth, c, Q, nL⟩⟩ := K
  obtain ⟨hx, hb, hr, hml, hown, hts, hlk, hK, hj, hz, hfr, hlo⟩ := hC
  intro H locs ls hP hS hl
  exact lv_iconst hx hb hd hv (kk H locs ls hP hS hl)

theorem g_bipush {l : Launch} {E : uE} {K : uK} {own : String} {cc : ByteArray} {ret : Option FieldType} {fr lo a b : Nat} {o : Int64} {σ : uS} {pc : Nat} {lv : List (Option Value)} {st : List Value} (hC : Cx E K own cc ret fr lo) {n : Int} {v : Int32} (hv : (Int8.ofInt n).toInt32 = v) (hd : decode cc pc = .ok (.bipush n, 2)) (kk : Gd l E K a b o σ (pc + 2) lv (.int v :: st)) : Gd l E K a b o σ pc lv st := by
  obtain ⟨⟨p, e, R, s, m, args⟩, ⟨below, meth, c, Q, nL⟩⟩ := K
  obtain ⟨hx, hb, hr, hml, hown, hts, hlk, hK, hj, hz, hfr, hlo⟩ := hC
  intro H locs ls hP hS hl
  exact lv_bipush hx hb hd hv (kk H locs ls hP hS hl)

theorem g_sipush {l : Launch} {E : uE} {K : uK} {own : String} {cc : ByteArray} {ret : Option FieldType} {fr lo a b : Nat} {o : Int64} {σ : uS} {pc : Nat} {lv : List (Option Value)} {st : List Value} (hC : Cx E K own cc ret fr lo) {n : Int} {v : Int32} (hv : (Int16.ofInt n).toInt32 = v) (hd : decode cc pc = .ok (.sipush n, 3)) (kk : Gd l E K a b o σ (pc + 3) lv (.int v :: st)) : Gd l E K a b o σ pc lv st := by
  obtain ⟨⟨p, e, R, s, m, args⟩, ⟨below, meth, c, Q, nL⟩⟩ := K
  obtain ⟨hx, hb, hr, hml, hown, hts, hlk, hK, hj, hz, hfr, hlo⟩ := hC
  intro H locs ls hP hS hl
  exact lv_sipush hx hb hd hv (kk H locs ls hP hS hl)

theorem g_lconst {l : Launch} {E : uE} {K : uK} {own : String} {cc : ByteArray} {ret : Option FieldType} {fr lo a b : Nat} {o : Int64} {σ : uS} {pc : Nat} {lv : List (Option Value)} {st : List Value} (hC : Cx E K own cc ret fr lo) {n : Fin 2} {v : Int64} (hv : Int64.ofNat (n : Nat) = v) (hd : decode cc pc = .ok (.lconst n, 1)) (kk : Gd l E K a b o σ (pc + 1) lv (.long v :: st)) : Gd l E K a b o σ pc lv st := by
  obtain ⟨⟨p, e, R, s, m, args⟩, ⟨below, meth, c, Q, nL⟩⟩ := K
  obtain ⟨hx, hb, hr, hml, hown, hts, hlk, hK, hj, hz, hfr, hlo⟩ := hC
  intro H locs ls hP hS hl
  exact lv_lconst hx hb hd hv (kk H locs ls hP hS hl)

theorem g_ldc {l : Launch} {E : uE} {K : uK} {own : String} {cc : ByteArray} {ret : Option FieldType} {fr lo a b : Nat} {o : Int64} {σ : uS} {pc : Nat} {lv : List (Option Value)} {st : List Value} (hC : Cx E K own cc ret fr lo) {index : Nat} {v : Int32} (hc : Cond.constant own index v ∈ TG) (hd : decode cc pc = .ok (.ldc index, 2)) (kk : Gd l E K a b o σ (pc + 2) lv (.int v :: st)) : Gd l E K a b o σ pc lv st := by
  obtain ⟨⟨p, e, R, s, m, args⟩, ⟨below, meth, c, Q, nL⟩⟩ := K
  obtain ⟨hx, hb, hr, hml, hown, hts, hlk, hK, hj, hz, hfr, hlo⟩ := hC
  intro H locs ls hP hS hl
  exact lv_ldc hx hb hown (hts _ hc) hd (kk H locs ls hP hS hl)

theorem g_ldcw {l : Launch} {E : uE} {K : uK} {own : String} {cc : ByteArray} {ret : Option FieldType} {fr lo a b : Nat} {o : Int64} {σ : uS} {pc : Nat} {lv : List (Option Value)} {st : List Value} (hC : Cx E K own cc ret fr lo) {index : Nat} {v : Int32} (hc : Cond.constant own index v ∈ TG) (hd : decode cc pc = .ok (.ldc_w index, 3)) (kk : Gd l E K a b o σ (pc + 3) lv (.int v :: st)) : Gd l E K a b o σ pc lv st := by
  obtain ⟨⟨p, e, R, s, m, args⟩, ⟨below, meth, c, Q, nL⟩⟩ := K
  obtain ⟨hx, hb, hr, hml, hown, hts, hlk, hK, hj, hz, hfr, hlo⟩ := hC
  intro H locs ls hP hS hl
  exact lv_ldcw hx hb hown (hts _ hc) hd (kk H locs ls hP hS hl)

theorem g_iload {l : Launch} {E : uE} {K : uK} {own : String} {cc : ByteArray} {ret : Option FieldType} {fr lo a b : Nat} {o : Int64} {σ : uS} {pc : Nat} {lv : List (Option Value)} {st : List Value} (hC : Cx E K own cc ret fr lo) {k : Nat} {x : Int32} (hd : decode cc pc = .ok (.iload k, 2)) (hk : lv[k]? = some (some (.int x))) (kk : Gd l E K a b o σ (pc + 2) lv (.int x :: st)) : Gd l E K a b o σ pc lv st := by
  obtain ⟨⟨p, e, R, s, m, args⟩, ⟨below, meth, c, Q, nL⟩⟩ := K
  obtain ⟨hx, hb, hr, hml, hown, hts, hlk, hK, hj, hz, hfr, hlo⟩ := hC
  intro H locs ls hP hS hl
  exact lv_iload hx hb hd (hl.2.2 k _ hk) (kk H locs ls hP hS hl)

theorem g_iload_n {l : Launch} {E : uE} {K : uK} {own : String} {cc : ByteArray} {ret : Option FieldType} {fr lo a b : Nat} {o : Int64} {σ : uS} {pc : Nat} {lv : List (Option Value)} {st : List Value} (hC : Cx E K own cc ret fr lo) {k : Fin 4} {x : Int32} (hd : decode cc pc = .ok (.iload_n k, 1)) (hk : lv[k.val]? = some (some (.int x))) (kk : Gd l E K a b o σ (pc + 1) lv (.int x :: st)) : Gd l E K a b o σ pc lv st := by
  obtain ⟨⟨p, e, R, s, m, args⟩, ⟨below, meth, c, Q, nL⟩⟩ := K
  obtain ⟨hx, hb, hr, hml, hown, hts, hlk, hK, hj, hz, hfr, hlo⟩ := hC
  intro H locs ls hP hS hl
  exact lv_iload_n hx hb hd rfl (hl.2.2 _ _ hk) (kk H locs ls hP hS hl)

theorem g_lload {l : Launch} {E : uE} {K : uK} {own : String} {cc : ByteArray} {ret : Option FieldType} {fr lo a b : Nat} {o : Int64} {σ : uS} {pc : Nat} {lv : List (Option Value)} {st : List Value} (hC : Cx E K own cc ret fr lo) {k : Nat} {x : Int64} (hd : decode cc pc = .ok (.lload k, 2)) (hk : lv[k]? = some (some (.long x))) (kk : Gd l E K a b o σ (pc + 2) lv (.long x :: st)) : Gd l E K a b o σ pc lv st := by
  obtain ⟨⟨p, e, R, s, m, args⟩, ⟨below, meth, c, Q, nL⟩⟩ := K
  obtain ⟨hx, hb, hr, hml, hown, hts, hlk, hK, hj, hz, hfr, hlo⟩ := hC
  intro H locs ls hP hS hl
  exact lv_lload hx hb hd (hl.2.2 k _ hk) (kk H locs ls hP hS hl)

theorem g_lload_n {l : Launch} {E : uE} {K : uK} {own : String} {cc : ByteArray} {ret : Option FieldType} {fr lo a b : Nat} {o : Int64} {σ : uS} {pc : Nat} {lv : List (Option Value)} {st : List Value} (hC : Cx E K own cc ret fr lo) {k : Fin 4} {x : Int64} (hd : decode cc pc = .ok (.lload_n k, 1)) (hk : lv[k.val]? = some (some (.long x))) (kk : Gd l E K a b o σ (pc + 1) lv (.long x :: st)) : Gd l E K a b o σ pc lv st := by
  obtain ⟨⟨p, e, R, s, m, args⟩, ⟨below, meth, c, Q, nL⟩⟩ := K
  obtain ⟨hx, hb, hr, hml, hown, hts, hlk, hK, hj, hz, hfr, hlo⟩ := hC
  intro H locs ls hP hS hl
  exact lv_lload_n hx hb hd rfl (hl.2.2 _ _ hk) (kk H locs ls hP hS hl)

theorem g_aload {l : Launch} {E : uE} {K : uK} {own : String} {cc : ByteArray} {ret : Option FieldType} {fr lo a b : Nat} {o : Int64} {σ : uS} {pc : Nat} {lv : List (Option Value)} {st : List Value} (hC : Cx E K own cc ret fr lo) {k : Nat} {x : Nat} (hd : decode cc pc = .ok (.aload k, 2)) (hk : lv[k]? = some (some (.ref x))) (kk : Gd l E K a b o σ (pc + 2) lv (.ref x :: st)) : Gd l E K a b o σ pc lv st := by
  obtain ⟨⟨p, e, R, s, m, args⟩, ⟨below, meth, c, Q, nL⟩⟩ := K
  obtain ⟨hx, hb, hr, hml, hown, hts, hlk, hK, hj, hz, hfr, hlo⟩ := hC
  intro H locs ls hP hS hl
  exact lv_aload hx hb hd (hl.2.2 k _ hk) (kk H locs ls hP hS hl)

theorem g_aload_n {l : Launch} {E : uE} {K : uK} {own : String} {cc : ByteArray} {ret : Option FieldType} {fr lo a b : Nat} {o : Int64} {σ : uS} {pc : Nat} {lv : List (Option Value)} {st : List Value} (hC : Cx E K own cc ret fr lo) {k : Fin 4} {x : Nat} (hd : decode cc pc = .ok (.aload_n k, 1)) (hk : lv[k.val]? = some (some (.ref x))) (kk : Gd l E K a b o σ (pc + 1) lv (.ref x :: st)) : Gd l E K a b o σ pc lv st := by
  obtain ⟨⟨p, e, R, s, m, args⟩, ⟨below, meth, c, Q, nL⟩⟩ := K
  obtain ⟨hx, hb, hr, hml, hown, hts, hlk, hK, hj, hz, hfr, hlo⟩ := hC
  intro H locs ls hP hS hl
  exact lv_aload_n hx hb hd rfl (hl.2.2 _ _ hk) (kk H locs ls hP hS hl)

theorem g_istore {l : Launch} {E : uE} {K : uK} {own : String} {cc : ByteArray} {ret : Option FieldType} {fr lo a b : Nat} {o : Int64} {σ : uS} {pc : Nat} {lv : List (Option Value)} {st : List Value} (hC : Cx E K own cc ret fr lo) {k : Nat} {x : Int32} {lv2 : List (Option Value)} (hd : decode cc pc = .ok (.istore k, 2)) (h2 : lo_set lv k (.int x) = lv2) (hp : k = 0 ∨ lo_n2 lv[k - 1]? = true) (hn : k < K.2.2.2.2.2) (kk : Gd l E K a b o σ (pc + 2) lv2 st) : Gd l E K a b o σ pc lv (.int x :: st) := by
  obtain ⟨⟨p, e, R, s, m, args⟩, ⟨below, meth, c, Q, nL⟩⟩ := K
  obtain ⟨hx, hb, hr, hml, hown, hts, hlk, hK, hj, hz, hfr, hlo⟩ := hC
  intro H locs ls hP hS hl
  exact lv_istore hx hb hd hl.to hn rfl (fun ls2 h9 => kk H locs ls2 hP hS (h2 ▸ lo_put hl h9 hp))

theorem g_istore_n {l : Launch} {E : uE} {K : uK} {own : String} {cc : ByteArray} {ret : Option FieldType} {fr lo a b : Nat} {o : Int64} {σ : uS} {pc : Nat} {lv : List (Option Value)} {st : List Value} (hC : Cx E K own cc ret fr lo) {k : Fin 4} {x : Int32} {lv2 : List (Option Value)} (hd : decode cc pc = .ok (.istore_n k, 1)) (h2 : lo_set lv k.val (.int x) = lv2) (hp : k.val = 0 ∨ lo_n2 lv[k.val - 1]? = true) (hn : k.val < K.2.2.2.2.2) (kk : Gd l E K a b o σ (pc + 1) lv2 st) : Gd l E K a b o σ pc lv (.int x :: st) := by
  obtain ⟨⟨p, e, R, s, m, args⟩, ⟨below, meth, c, Q, nL⟩⟩ := K
  obtain ⟨hx, hb, hr, hml, hown, hts, hlk, hK, hj, hz, hfr, hlo⟩ := hC
  intro H locs ls hP hS hl
  exact lv_istore_n hx hb hd rfl hl.to hn rfl (fun ls2 h9 => kk H locs ls2 hP hS (h2 ▸ lo_put hl h9 hp))

theorem g_astore {l : Launch} {E : uE} {K : uK} {own : String} {cc : ByteArray} {ret : Option FieldType} {fr lo a b : Nat} {o : Int64} {σ : uS} {pc : Nat} {lv : List (Option Value)} {st : List Value} (hC : Cx E K own cc ret fr lo) {k : Nat} {x : Nat} {lv2 : List (Option Value)} (hd : decode cc pc = .ok (.astore k, 2)) (h2 : lo_set lv k (.ref x) = lv2) (hp : k = 0 ∨ lo_n2 lv[k - 1]? = true) (hn : k < K.2.2.2.2.2) (kk : Gd l E K a b o σ (pc + 2) lv2 st) : Gd l E K a b o σ pc lv (.ref x :: st) := by
  obtain ⟨⟨p, e, R, s, m, args⟩, ⟨below, meth, c, Q, nL⟩⟩ := K
  obtain ⟨hx, hb, hr, hml, hown, hts, hlk, hK, hj, hz, hfr, hlo⟩ := hC
  intro H locs ls hP hS hl
  exact lv_astore hx hb hd hl.to hn rfl (fun ls2 h9 => kk H locs ls2 hP hS (h2 ▸ lo_put hl h9 hp))

theorem g_astore_n {l : Launch} {E : uE} {K : uK} {own : String} {cc : ByteArray} {ret : Option FieldType} {fr lo a b : Nat} {o : Int64} {σ : uS} {pc : Nat} {lv : List (Option Value)} {st : List Value} (hC : Cx E K own cc ret fr lo) {k : Fin 4} {x : Nat} {lv2 : List (Option Value)} (hd : decode cc pc = .ok (.astore_n k, 1)) (h2 : lo_set lv k.val (.ref x) = lv2) (hp : k.val = 0 ∨ lo_n2 lv[k.val - 1]? = true) (hn : k.val < K.2.2.2.2.2) (kk : Gd l E K a b o σ (pc + 1) lv2 st) : Gd l E K a b o σ pc lv (.ref x :: st) := by
  obtain ⟨⟨p, e, R, s, m, args⟩, ⟨below, meth, c, Q, nL⟩⟩ := K
  obtain ⟨hx, hb, hr, hml, hown, hts, hlk, hK, hj, hz, hfr, hlo⟩ := hC
  intro H locs ls hP hS hl
  exact lv_astore_n hx hb hd rfl hl.to hn rfl (fun ls2 h9 => kk H locs ls2 hP hS (h2 ▸ lo_put hl h9 hp))

theorem g_iinc {l : Launch} {E : uE} {K : uK} {own : String} {cc : ByteArray} {ret : Option FieldType} {fr lo a b : Nat} {o : Int64} {σ : uS} {pc : Nat} {lv : List (Option Value)} {st : List Value} (hC : Cx E K own cc ret fr lo) {k : Nat} {n : Int} {x v : Int32} {lv2 : List (Option Value)} (hd : decode cc pc = .ok (.iinc k n, 3)) (hk : lv[k]? = some (some (.int x))) (hv : v = x + Int32.ofInt n) (h2 : lo_set lv k (.int v) = lv2) (hp : k = 0 ∨ lo_n2 lv[k - 1]? = true) (hn : k < K.2.2.2.2.2) (kk : Gd l E K a b o σ (pc + 3) lv2 st) : Gd l E K a b o σ pc lv st := by
  obtain ⟨⟨p, e, R, s, m, args⟩, ⟨below, meth, c, Q, nL⟩⟩ := K
  obtain ⟨hx, hb, hr, hml, hown, hts, hlk, hK, hj, hz, hfr, hlo⟩ := hC
  intro H locs ls hP hS hl
  obtain ⟨j, hj9⟩ := List.getElem?_of_mem ((lo_as_mem lv 0 (k, .int x)).mpr ⟨Nat.zero_le _, hk⟩)
  exact lv_iinc hx hb hd hl.to hj9 hv.symm hn rfl (fun ls2 h9 => kk H locs ls2 hP hS (h2 ▸ lo_put hl h9 hp))

theorem g_iadd {l : Launch} {E : uE} {K : uK} {own : String} {cc : ByteArray} {ret : Option FieldType} {fr lo a b : Nat} {o : Int64} {σ : uS} {pc : Nat} {lv : List (Option Value)} {st : List Value} (hC : Cx E K own cc ret fr lo) {x y : Int32} (hd : decode cc pc = .ok (.iadd, 1)) (kk : Gd l E K a b o σ (pc + 1) lv (.int (x + y) :: st)) : Gd l E K a b o σ pc lv (.int y :: .int x :: st) := by
  obtain ⟨⟨p, e, R, s, m, args⟩, ⟨below, meth, c, Q, nL⟩⟩ := K
  obtain ⟨hx, hb, hr, hml, hown, hts, hlk, hK, hj, hz, hfr, hlo⟩ := hC
  intro H locs ls hP hS hl
  exact lv_iadd hx hb hd (kk H locs ls hP hS hl)

theorem g_isub {l : Launch} {E : uE} {K : uK} {own : String} {cc : ByteArray} {ret : Option FieldType} {fr lo a b : Nat} {o : Int64} {σ : uS} {pc : Nat} {lv : List (Option Value)} {st : List Value} (hC : Cx E K own cc ret fr lo) {x y : Int32} (hd : decode cc pc = .ok (.isub, 1)) (kk : Gd l E K a b o σ (pc + 1) lv (.int (x - y) :: st)) : Gd l E K a b o σ pc lv (.int y :: .int x :: st) := by
  obtain ⟨⟨p, e, R, s, m, args⟩, ⟨below, meth, c, Q, nL⟩⟩ := K
  obtain ⟨hx, hb, hr, hml, hown, hts, hlk, hK, hj, hz, hfr, hlo⟩ := hC
  intro H locs ls hP hS hl
  exact lv_isub hx hb hd (kk H locs ls hP hS hl)

theorem g_imul {l : Launch} {E : uE} {K : uK} {own : String} {cc : ByteArray} {ret : Option FieldType} {fr lo a b : Nat} {o : Int64} {σ : uS} {pc : Nat} {lv : List (Option Value)} {st : List Value} (hC : Cx E K own cc ret fr lo) {x y : Int32} (hd : decode cc pc = .ok (.imul, 1)) (kk : Gd l E K a b o σ (pc + 1) lv (.int (x * y) :: st)) : Gd l E K a b o σ pc lv (.int y :: .int x :: st) := by
  obtain ⟨⟨p, e, R, s, m, args⟩, ⟨below, meth, c, Q, nL⟩⟩ := K
  obtain ⟨hx, hb, hr, hml, hown, hts, hlk, hK, hj, hz, hfr, hlo⟩ := hC
  intro H locs ls hP hS hl
  exact lv_imul hx hb hd (kk H locs ls hP hS hl)

theorem g_iand {l : Launch} {E : uE} {K : uK} {own : String} {cc : ByteArray} {ret : Option FieldType} {fr lo a b : Nat} {o : Int64} {σ : uS} {pc : Nat} {lv : List (Option Value)} {st : List Value} (hC : Cx E K own cc ret fr lo) {x y : Int32} (hd : decode cc pc = .ok (.iand, 1)) (kk : Gd l E K a b o σ (pc + 1) lv (.int (x &&& y) :: st)) : Gd l E K a b o σ pc lv (.int y :: .int x :: st) := by
  obtain ⟨⟨p, e, R, s, m, args⟩, ⟨below, meth, c, Q, nL⟩⟩ := K
  obtain ⟨hx, hb, hr, hml, hown, hts, hlk, hK, hj, hz, hfr, hlo⟩ := hC
  intro H locs ls hP hS hl
  exact lv_iand hx hb hd (kk H locs ls hP hS hl)

theorem g_ixor {l : Launch} {E : uE} {K : uK} {own : String} {cc : ByteArray} {ret : Option FieldType} {fr lo a b : Nat} {o : Int64} {σ : uS} {pc : Nat} {lv : List (Option Value)} {st : List Value} (hC : Cx E K own cc ret fr lo) {x y : Int32} (hd : decode cc pc = .ok (.ixor, 1)) (kk : Gd l E K a b o σ (pc + 1) lv (.int (x ^^^ y) :: st)) : Gd l E K a b o σ pc lv (.int y :: .int x :: st) := by
  obtain ⟨⟨p, e, R, s, m, args⟩, ⟨below, meth, c, Q, nL⟩⟩ := K
  obtain ⟨hx, hb, hr, hml, hown, hts, hlk, hK, hj, hz, hfr, hlo⟩ := hC
  intro H locs ls hP hS hl
  exact lv_ixor hx hb hd (kk H locs ls hP hS hl)

theorem g_ishr {l : Launch} {E : uE} {K : uK} {own : String} {cc : ByteArray} {ret : Option FieldType} {fr lo a b : Nat} {o : Int64} {σ : uS} {pc : Nat} {lv : List (Option Value)} {st : List Value} (hC : Cx E K own cc ret fr lo) {x y : Int32} (hd : decode cc pc = .ok (.ishr, 1)) (kk : Gd l E K a b o σ (pc + 1) lv (.int (x >>> (y &&& 31)) :: st)) : Gd l E K a b o σ pc lv (.int y :: .int x :: st) := by
  obtain ⟨⟨p, e, R, s, m, args⟩, ⟨below, meth, c, Q, nL⟩⟩ := K
  obtain ⟨hx, hb, hr, hml, hown, hts, hlk, hK, hj, hz, hfr, hlo⟩ := hC
  intro H locs ls hP hS hl
  exact lv_ishr hx hb hd (kk H locs ls hP hS hl)

theorem g_iushr {l : Launch} {E : uE} {K : uK} {own : String} {cc : ByteArray} {ret : Option FieldType} {fr lo a b : Nat} {o : Int64} {σ : uS} {pc : Nat} {lv : List (Option Value)} {st : List Value} (hC : Cx E K own cc ret fr lo) {x y : Int32} (hd : decode cc pc = .ok (.iushr, 1)) (kk : Gd l E K a b o σ (pc + 1) lv (.int ((x.toUInt32 >>> (y.toUInt32 &&& Int32.toUInt32 31)).toInt32) :: st)) : Gd l E K a b o σ pc lv (.int y :: .int x :: st) := by
  obtain ⟨⟨p, e, R, s, m, args⟩, ⟨below, meth, c, Q, nL⟩⟩ := K
  obtain ⟨hx, hb, hr, hml, hown, hts, hlk, hK, hj, hz, hfr, hlo⟩ := hC
  intro H locs ls hP hS hl
  exact lv_iushr hx hb hd rfl (kk H locs ls hP hS hl)

theorem g_idiv {l : Launch} {E : uE} {K : uK} {own : String} {cc : ByteArray} {ret : Option FieldType} {fr lo a b : Nat} {o : Int64} {σ : uS} {pc : Nat} {lv : List (Option Value)} {st : List Value} (hC : Cx E K own cc ret fr lo) {x y : Int32} (hne : ¬ y = 0) (hd : decode cc pc = .ok (.idiv, 1)) (kk : Gd l E K a b o σ (pc + 1) lv (.int (x / y) :: st)) : Gd l E K a b o σ pc lv (.int y :: .int x :: st) := by
  obtain ⟨⟨p, e, R, s, m, args⟩, ⟨below, meth, c, Q, nL⟩⟩ := K
  obtain ⟨hx, hb, hr, hml, hown, hts, hlk, hK, hj, hz, hfr, hlo⟩ := hC
  intro H locs ls hP hS hl
  exact lv_idiv hx hb hd hne (kk H locs ls hP hS hl)

theorem g_irem {l : Launch} {E : uE} {K : uK} {own : String} {cc : ByteArray} {ret : Option FieldType} {fr lo a b : Nat} {o : Int64} {σ : uS} {pc : Nat} {lv : List (Option Value)} {st : List Value} (hC : Cx E K own cc ret fr lo) {x y : Int32} (hne : ¬ y = 0) (hd : decode cc pc = .ok (.irem, 1)) (kk : Gd l E K a b o σ (pc + 1) lv (.int (x - x / y * y) :: st)) : Gd l E K a b o σ pc lv (.int y :: .int x :: st) := by
  obtain ⟨⟨p, e, R, s, m, args⟩, ⟨below, meth, c, Q, nL⟩⟩ := K
  obtain ⟨hx, hb, hr, hml, hown, hts, hlk, hK, hj, hz, hfr, hlo⟩ := hC
  intro H locs ls hP hS hl
  exact lv_irem hx hb hd hne (kk H locs ls hP hS hl)

theorem g_ineg {l : Launch} {E : uE} {K : uK} {own : String} {cc : ByteArray} {ret : Option FieldType} {fr lo a b : Nat} {o : Int64} {σ : uS} {pc : Nat} {lv : List (Option Value)} {st : List Value} (hC : Cx E K own cc ret fr lo) {x : Int32} (hd : decode cc pc = .ok (.ineg, 1)) (kk : Gd l E K a b o σ (pc + 1) lv (.int (-x) :: st)) : Gd l E K a b o σ pc lv (.int x :: st) := by
  obtain ⟨⟨p, e, R, s, m, args⟩, ⟨below, meth, c, Q, nL⟩⟩ := K
  obtain ⟨hx, hb, hr, hml, hown, hts, hlk, hK, hj, hz, hfr, hlo⟩ := hC
  intro H locs ls hP hS hl
  exact lv_ineg hx hb hd (kk H locs ls hP hS hl)

theorem g_lneg {l : Launch} {E : uE} {K : uK} {own : String} {cc : ByteArray} {ret : Option FieldType} {fr lo a b : Nat} {o : Int64} {σ : uS} {pc : Nat} {lv : List (Option Value)} {st : List Value} (hC : Cx E K own cc ret fr lo) {x : Int64} (hd : decode cc pc = .ok (.lneg, 1)) (kk : Gd l E K a b o σ (pc + 1) lv (.long (-x) :: st)) : Gd l E K a b o σ pc lv (.long x :: st) := by
  obtain ⟨⟨p, e, R, s, m, args⟩, ⟨below, meth, c, Q, nL⟩⟩ := K
  obtain ⟨hx, hb, hr, hml, hown, hts, hlk, hK, hj, hz, hfr, hlo⟩ := hC
  intro H locs ls hP hS hl
  exact lv_lneg hx hb hd (kk H locs ls hP hS hl)

theorem g_lsub {l : Launch} {E : uE} {K : uK} {own : String} {cc : ByteArray} {ret : Option FieldType} {fr lo a b : Nat} {o : Int64} {σ : uS} {pc : Nat} {lv : List (Option Value)} {st : List Value} (hC : Cx E K own cc ret fr lo) {x y : Int64} (hd : decode cc pc = .ok (.lsub, 1)) (kk : Gd l E K a b o σ (pc + 1) lv (.long (x - y) :: st)) : Gd l E K a b o σ pc lv (.long y :: .long x :: st) := by
  obtain ⟨⟨p, e, R, s, m, args⟩, ⟨below, meth, c, Q, nL⟩⟩ := K
  obtain ⟨hx, hb, hr, hml, hown, hts, hlk, hK, hj, hz, hfr, hlo⟩ := hC
  intro H locs ls hP hS hl
  exact lv_lsub hx hb hd (kk H locs ls hP hS hl)

theorem g_i2b {l : Launch} {E : uE} {K : uK} {own : String} {cc : ByteArray} {ret : Option FieldType} {fr lo a b : Nat} {o : Int64} {σ : uS} {pc : Nat} {lv : List (Option Value)} {st : List Value} (hC : Cx E K own cc ret fr lo) {x : Int32} (hd : decode cc pc = .ok (.i2b, 1)) (kk : Gd l E K a b o σ (pc + 1) lv (.int x.toInt8.toInt32 :: st)) : Gd l E K a b o σ pc lv (.int x :: st) := by
  obtain ⟨⟨p, e, R, s, m, args⟩, ⟨below, meth, c, Q, nL⟩⟩ := K
  obtain ⟨hx, hb, hr, hml, hown, hts, hlk, hK, hj, hz, hfr, hlo⟩ := hC
  intro H locs ls hP hS hl
  exact lv_i2b hx hb hd rfl (kk H locs ls hP hS hl)

theorem g_i2l {l : Launch} {E : uE} {K : uK} {own : String} {cc : ByteArray} {ret : Option FieldType} {fr lo a b : Nat} {o : Int64} {σ : uS} {pc : Nat} {lv : List (Option Value)} {st : List Value} (hC : Cx E K own cc ret fr lo) {x : Int32} (hd : decode cc pc = .ok (.i2l, 1)) (kk : Gd l E K a b o σ (pc + 1) lv (.long x.toInt64 :: st)) : Gd l E K a b o σ pc lv (.int x :: st) := by
  obtain ⟨⟨p, e, R, s, m, args⟩, ⟨below, meth, c, Q, nL⟩⟩ := K
  obtain ⟨hx, hb, hr, hml, hown, hts, hlk, hK, hj, hz, hfr, hlo⟩ := hC
  intro H locs ls hP hS hl
  exact lv_i2l hx hb hd rfl (kk H locs ls hP hS hl)

theorem g_lcmp {l : Launch} {E : uE} {K : uK} {own : String} {cc : ByteArray} {ret : Option FieldType} {fr lo a b : Nat} {o : Int64} {σ : uS} {pc : Nat} {lv : List (Option Value)} {st : List Value} (hC : Cx E K own cc ret fr lo) {x y : Int64} (hd : decode cc pc = .ok (.lcmp, 1)) (kk : Gd l E K a b o σ (pc + 1) lv (.int (lg_cmp x y) :: st)) : Gd l E K a b o σ pc lv (.long y :: .long x :: st) := by
  obtain ⟨⟨p, e, R, s, m, args⟩, ⟨below, meth, c, Q, nL⟩⟩ := K
  obtain ⟨hx, hb, hr, hml, hown, hts, hlk, hK, hj, hz, hfr, hlo⟩ := hC
  intro H locs ls hP hS hl
  exact W.lcmp hx hb hd (kk H locs ls hP hS hl)

theorem g_dup {l : Launch} {E : uE} {K : uK} {own : String} {cc : ByteArray} {ret : Option FieldType} {fr lo a b : Nat} {o : Int64} {σ : uS} {pc : Nat} {lv : List (Option Value)} {st : List Value} (hC : Cx E K own cc ret fr lo) {v : Value} (hv : v.category = 1) (hd : decode cc pc = .ok (.dup, 1)) (kk : Gd l E K a b o σ (pc + 1) lv (v :: v :: st)) : Gd l E K a b o σ pc lv (v :: st) := by
  obtain ⟨⟨p, e, R, s, m, args⟩, ⟨below, meth, c, Q, nL⟩⟩ := K
  obtain ⟨hx, hb, hr, hml, hown, hts, hlk, hK, hj, hz, hfr, hlo⟩ := hC
  intro H locs ls hP hS hl
  exact lv_dup hx hb hd hv (kk H locs ls hP hS hl)

theorem g_dup2 {l : Launch} {E : uE} {K : uK} {own : String} {cc : ByteArray} {ret : Option FieldType} {fr lo a b : Nat} {o : Int64} {σ : uS} {pc : Nat} {lv : List (Option Value)} {st : List Value} (hC : Cx E K own cc ret fr lo) {v w : Value} (hv : v.category = 1) (hw : w.category = 1) (hd : decode cc pc = .ok (.dup2, 1)) (kk : Gd l E K a b o σ (pc + 1) lv (v :: w :: v :: w :: st)) : Gd l E K a b o σ pc lv (v :: w :: st) := by
  obtain ⟨⟨p, e, R, s, m, args⟩, ⟨below, meth, c, Q, nL⟩⟩ := K
  obtain ⟨hx, hb, hr, hml, hown, hts, hlk, hK, hj, hz, hfr, hlo⟩ := hC
  intro H locs ls hP hS hl
  exact lv_dup2_11 hx hb hd hv hw (kk H locs ls hP hS hl)

theorem g_pop {l : Launch} {E : uE} {K : uK} {own : String} {cc : ByteArray} {ret : Option FieldType} {fr lo a b : Nat} {o : Int64} {σ : uS} {pc : Nat} {lv : List (Option Value)} {st : List Value} (hC : Cx E K own cc ret fr lo) {v : Value} (hv : v.category = 1) (hd : decode cc pc = .ok (.pop, 1)) (kk : Gd l E K a b o σ (pc + 1) lv st) : Gd l E K a b o σ pc lv (v :: st) := by
  obtain ⟨⟨p, e, R, s, m, args⟩, ⟨below, meth, c, Q, nL⟩⟩ := K
  obtain ⟨hx, hb, hr, hml, hown, hts, hlk, hK, hj, hz, hfr, hlo⟩ := hC
  intro H locs ls hP hS hl
  exact lv_pop hx hb hd hv (kk H locs ls hP hS hl)

theorem g_if_eq {l : Launch} {E : uE} {K : uK} {own : String} {cc : ByteArray} {ret : Option FieldType} {fr lo a b : Nat} {o : Int64} {σ : uS} {pc : Nat} {lv : List (Option Value)} {st : List Value} (hC : Cx E K own cc ret fr lo) {x : Int32} {off : Int} {tgt : Nat} (hd : decode cc pc = .ok (.ifCond .eq off, 3)) (ht : (pc : Int) + off = (tgt : Int)) (kt : x = 0 → Gd l E K a b o σ tgt lv st) (kf : ¬ x = 0 → Gd l E K a b o σ (pc + 3) lv st) : Gd l E K a b o σ pc lv (.int x :: st) := by
  obtain ⟨⟨p, e, R, s, m, args⟩, ⟨below, meth, c, Q, nL⟩⟩ := K
  obtain ⟨hx, hb, hr, hml, hown, hts, hlk, hK, hj, hz, hfr, hlo⟩ := hC
  intro H locs ls hP hS hl
  exact lv_if_eq hx hb hd ht (fun h => kt h H locs ls hP hS hl) (fun h => kf h H locs ls hP hS hl)

theorem g_icmp_eq {l : Launch} {E : uE} {K : uK} {own : String} {cc : ByteArray} {ret : Option FieldType} {fr lo a b : Nat} {o : Int64} {σ : uS} {pc : Nat} {lv : List (Option Value)} {st : List Value} (hC : Cx E K own cc ret fr lo) {x y : Int32} {off : Int} {tgt : Nat} (hd : decode cc pc = .ok (.if_icmp .eq off, 3)) (ht : (pc : Int) + off = (tgt : Int)) (kt : x = y → Gd l E K a b o σ tgt lv st) (kf : ¬ x = y → Gd l E K a b o σ (pc + 3) lv st) : Gd l E K a b o σ pc lv (.int y :: .int x :: st) := by
  obtain ⟨⟨p, e, R, s, m, args⟩, ⟨below, meth, c, Q, nL⟩⟩ := K
  obtain ⟨hx, hb, hr, hml, hown, hts, hlk, hK, hj, hz, hfr, hlo⟩ := hC
  intro H locs ls hP hS hl
  exact lv_icmp_eq hx hb hd ht (fun h => kt h H locs ls hP hS hl) (fun h => kf h H locs ls hP hS hl)

theorem g_if_ne {l : Launch} {E : uE} {K : uK} {own : String} {cc : ByteArray} {ret : Option FieldType} {fr lo a b : Nat} {o : Int64} {σ : uS} {pc : Nat} {lv : List (Option Value)} {st : List Value} (hC : Cx E K own cc ret fr lo) {x : Int32} {off : Int} {tgt : Nat} (hd : decode cc pc = .ok (.ifCond .ne off, 3)) (ht : (pc : Int) + off = (tgt : Int)) (kt : ¬ x = 0 → Gd l E K a b o σ tgt lv st) (kf : x = 0 → Gd l E K a b o σ (pc + 3) lv st) : Gd l E K a b o σ pc lv (.int x :: st) := by
  obtain ⟨⟨p, e, R, s, m, args⟩, ⟨below, meth, c, Q, nL⟩⟩ := K
  obtain ⟨hx, hb, hr, hml, hown, hts, hlk, hK, hj, hz, hfr, hlo⟩ := hC
  intro H locs ls hP hS hl
  exact lv_if_ne hx hb hd ht (fun h => kt h H locs ls hP hS hl) (fun h => kf h H locs ls hP hS hl)

theorem g_icmp_ne {l : Launch} {E : uE} {K : uK} {own : String} {cc : ByteArray} {ret : Option FieldType} {fr lo a b : Nat} {o : Int64} {σ : uS} {pc : Nat} {lv : List (Option Value)} {st : List Value} (hC : Cx E K own cc ret fr lo) {x y : Int32} {off : Int} {tgt : Nat} (hd : decode cc pc = .ok (.if_icmp .ne off, 3)) (ht : (pc : Int) + off = (tgt : Int)) (kt : ¬ x = y → Gd l E K a b o σ tgt lv st) (kf : x = y → Gd l E K a b o σ (pc + 3) lv st) : Gd l E K a b o σ pc lv (.int y :: .int x :: st) := by
  obtain ⟨⟨p, e, R, s, m, args⟩, ⟨below, meth, c, Q, nL⟩⟩ := K
  obtain ⟨hx, hb, hr, hml, hown, hts, hlk, hK, hj, hz, hfr, hlo⟩ := hC
  intro H locs ls hP hS hl
  exact lv_icmp_ne hx hb hd ht (fun h => kt h H locs ls hP hS hl) (fun h => kf h H locs ls hP hS hl)

theorem g_if_lt {l : Launch} {E : uE} {K : uK} {own : String} {cc : ByteArray} {ret : Option FieldType} {fr lo a b : Nat} {o : Int64} {σ : uS} {pc : Nat} {lv : List (Option Value)} {st : List Value} (hC : Cx E K own cc ret fr lo) {x : Int32} {off : Int} {tgt : Nat} (hd : decode cc pc = .ok (.ifCond .lt off, 3)) (ht : (pc : Int) + off = (tgt : Int)) (kt : x < 0 → Gd l E K a b o σ tgt lv st) (kf : ¬ x < 0 → Gd l E K a b o σ (pc + 3) lv st) : Gd l E K a b o σ pc lv (.int x :: st) := by
  obtain ⟨⟨p, e, R, s, m, args⟩, ⟨below, meth, c, Q, nL⟩⟩ := K
  obtain ⟨hx, hb, hr, hml, hown, hts, hlk, hK, hj, hz, hfr, hlo⟩ := hC
  intro H locs ls hP hS hl
  exact lv_if_lt hx hb hd ht (fun h => kt h H locs ls hP hS hl) (fun h => kf h H locs ls hP hS hl)

theorem g_icmp_lt {l : Launch} {E : uE} {K : uK} {own : String} {cc : ByteArray} {ret : Option FieldType} {fr lo a b : Nat} {o : Int64} {σ : uS} {pc : Nat} {lv : List (Option Value)} {st : List Value} (hC : Cx E K own cc ret fr lo) {x y : Int32} {off : Int} {tgt : Nat} (hd : decode cc pc = .ok (.if_icmp .lt off, 3)) (ht : (pc : Int) + off = (tgt : Int)) (kt : x < y → Gd l E K a b o σ tgt lv st) (kf : ¬ x < y → Gd l E K a b o σ (pc + 3) lv st) : Gd l E K a b o σ pc lv (.int y :: .int x :: st) := by
  obtain ⟨⟨p, e, R, s, m, args⟩, ⟨below, meth, c, Q, nL⟩⟩ := K
  obtain ⟨hx, hb, hr, hml, hown, hts, hlk, hK, hj, hz, hfr, hlo⟩ := hC
  intro H locs ls hP hS hl
  exact lv_icmp_lt hx hb hd ht (fun h => kt h H locs ls hP hS hl) (fun h => kf h H locs ls hP hS hl)

theorem g_if_ge {l : Launch} {E : uE} {K : uK} {own : String} {cc : ByteArray} {ret : Option FieldType} {fr lo a b : Nat} {o : Int64} {σ : uS} {pc : Nat} {lv : List (Option Value)} {st : List Value} (hC : Cx E K own cc ret fr lo) {x : Int32} {off : Int} {tgt : Nat} (hd : decode cc pc = .ok (.ifCond .ge off, 3)) (ht : (pc : Int) + off = (tgt : Int)) (kt : 0 ≤ x → Gd l E K a b o σ tgt lv st) (kf : ¬ 0 ≤ x → Gd l E K a b o σ (pc + 3) lv st) : Gd l E K a b o σ pc lv (.int x :: st) := by
  obtain ⟨⟨p, e, R, s, m, args⟩, ⟨below, meth, c, Q, nL⟩⟩ := K
  obtain ⟨hx, hb, hr, hml, hown, hts, hlk, hK, hj, hz, hfr, hlo⟩ := hC
  intro H locs ls hP hS hl
  exact lv_if_ge hx hb hd ht (fun h => kt h H locs ls hP hS hl) (fun h => kf h H locs ls hP hS hl)

theorem g_icmp_ge {l : Launch} {E : uE} {K : uK} {own : String} {cc : ByteArray} {ret : Option FieldType} {fr lo a b : Nat} {o : Int64} {σ : uS} {pc : Nat} {lv : List (Option Value)} {st : List Value} (hC : Cx E K own cc ret fr lo) {x y : Int32} {off : Int} {tgt : Nat} (hd : decode cc pc = .ok (.if_icmp .ge off, 3)) (ht : (pc : Int) + off = (tgt : Int)) (kt : y ≤ x → Gd l E K a b o σ tgt lv st) (kf : ¬ y ≤ x → Gd l E K a b o σ (pc + 3) lv st) : Gd l E K a b o σ pc lv (.int y :: .int x :: st) := by
  obtain ⟨⟨p, e, R, s, m, args⟩, ⟨below, meth, c, Q, nL⟩⟩ := K
  obtain ⟨hx, hb, hr, hml, hown, hts, hlk, hK, hj, hz, hfr, hlo⟩ := hC
  intro H locs ls hP hS hl
  exact lv_icmp_ge hx hb hd ht (fun h => kt h H locs ls hP hS hl) (fun h => kf h H locs ls hP hS hl)

theorem g_if_gt {l : Launch} {E : uE} {K : uK} {own : String} {cc : ByteArray} {ret : Option FieldType} {fr lo a b : Nat} {o : Int64} {σ : uS} {pc : Nat} {lv : List (Option Value)} {st : List Value} (hC : Cx E K own cc ret fr lo) {x : Int32} {off : Int} {tgt : Nat} (hd : decode cc pc = .ok (.ifCond .gt off, 3)) (ht : (pc : Int) + off = (tgt : Int)) (kt : 0 < x → Gd l E K a b o σ tgt lv st) (kf : ¬ 0 < x → Gd l E K a b o σ (pc + 3) lv st) : Gd l E K a b o σ pc lv (.int x :: st) := by
  obtain ⟨⟨p, e, R, s, m, args⟩, ⟨below, meth, c, Q, nL⟩⟩ := K
  obtain ⟨hx, hb, hr, hml, hown, hts, hlk, hK, hj, hz, hfr, hlo⟩ := hC
  intro H locs ls hP hS hl
  exact lv_if_gt hx hb hd ht (fun h => kt h H locs ls hP hS hl) (fun h => kf h H locs ls hP hS hl)

theorem g_icmp_gt {l : Launch} {E : uE} {K : uK} {own : String} {cc : ByteArray} {ret : Option FieldType} {fr lo a b : Nat} {o : Int64} {σ : uS} {pc : Nat} {lv : List (Option Value)} {st : List Value} (hC : Cx E K own cc ret fr lo) {x y : Int32} {off : Int} {tgt : Nat} (hd : decode cc pc = .ok (.if_icmp .gt off, 3)) (ht : (pc : Int) + off = (tgt : Int)) (kt : y < x → Gd l E K a b o σ tgt lv st) (kf : ¬ y < x → Gd l E K a b o σ (pc + 3) lv st) : Gd l E K a b o σ pc lv (.int y :: .int x :: st) := by
  obtain ⟨⟨p, e, R, s, m, args⟩, ⟨below, meth, c, Q, nL⟩⟩ := K
  obtain ⟨hx, hb, hr, hml, hown, hts, hlk, hK, hj, hz, hfr, hlo⟩ := hC
  intro H locs ls hP hS hl
  exact lv_icmp_gt hx hb hd ht (fun h => kt h H locs ls hP hS hl) (fun h => kf h H locs ls hP hS hl)

theorem g_if_le {l : Launch} {E : uE} {K : uK} {own : String} {cc : ByteArray} {ret : Option FieldType} {fr lo a b : Nat} {o : Int64} {σ : uS} {pc : Nat} {lv : List (Option Value)} {st : List Value} (hC : Cx E K own cc ret fr lo) {x : Int32} {off : Int} {tgt : Nat} (hd : decode cc pc = .ok (.ifCond .le off, 3)) (ht : (pc : Int) + off = (tgt : Int)) (kt : x ≤ 0 → Gd l E K a b o σ tgt lv st) (kf : ¬ x ≤ 0 → Gd l E K a b o σ (pc + 3) lv st) : Gd l E K a b o σ pc lv (.int x :: st) := by
  obtain ⟨⟨p, e, R, s, m, args⟩, ⟨below, meth, c, Q, nL⟩⟩ := K
  obtain ⟨hx, hb, hr, hml, hown, hts, hlk, hK, hj, hz, hfr, hlo⟩ := hC
  intro H locs ls hP hS hl
  exact lv_if_le hx hb hd ht (fun h => kt h H locs ls hP hS hl) (fun h => kf h H locs ls hP hS hl)

theorem g_icmp_le {l : Launch} {E : uE} {K : uK} {own : String} {cc : ByteArray} {ret : Option FieldType} {fr lo a b : Nat} {o : Int64} {σ : uS} {pc : Nat} {lv : List (Option Value)} {st : List Value} (hC : Cx E K own cc ret fr lo) {x y : Int32} {off : Int} {tgt : Nat} (hd : decode cc pc = .ok (.if_icmp .le off, 3)) (ht : (pc : Int) + off = (tgt : Int)) (kt : x ≤ y → Gd l E K a b o σ tgt lv st) (kf : ¬ x ≤ y → Gd l E K a b o σ (pc + 3) lv st) : Gd l E K a b o σ pc lv (.int y :: .int x :: st) := by
  obtain ⟨⟨p, e, R, s, m, args⟩, ⟨below, meth, c, Q, nL⟩⟩ := K
  obtain ⟨hx, hb, hr, hml, hown, hts, hlk, hK, hj, hz, hfr, hlo⟩ := hC
  intro H locs ls hP hS hl
  exact lv_icmp_le hx hb hd ht (fun h => kt h H locs ls hP hS hl) (fun h => kf h H locs ls hP hS hl)

theorem g_goto {l : Launch} {E : uE} {K : uK} {own : String} {cc : ByteArray} {ret : Option FieldType} {fr lo a b : Nat} {o : Int64} {σ : uS} {pc : Nat} {lv : List (Option Value)} {st : List Value} (hC : Cx E K own cc ret fr lo) {off : Int} {tgt : Nat} (hd : decode cc pc = .ok (.goto off, 3)) (ht : (pc : Int) + off = (tgt : Int)) (kk : Gd l E K a b o σ tgt lv st) : Gd l E K a b o σ pc lv st := by
  obtain ⟨⟨p, e, R, s, m, args⟩, ⟨below, meth, c, Q, nL⟩⟩ := K
  obtain ⟨hx, hb, hr, hml, hown, hts, hlk, hK, hj, hz, hfr, hlo⟩ := hC
  intro H locs ls hP hS hl
  exact lv_goto hx hb hd ht (kk H locs ls hP hS hl)

theorem g_tabIn {l : Launch} {E : uE} {K : uK} {own : String} {cc : ByteArray} {ret : Option FieldType} {fr lo a b : Nat} {o : Int64} {σ : uS} {pc : Nat} {lv : List (Option Value)} {st : List Value} (hC : Cx E K own cc ret fr lo) {dflt lo9 hi9 : Int} {offs : Array Int} {len : Nat} {x : Int32} {off : Int} {tgt : Nat} (hd : decode cc pc = .ok (.tableswitch dflt lo9 hi9 offs, len)) (h1 : ¬ x.toInt < lo9) (h2 : ¬ hi9 < x.toInt) (ho : offs[(x.toInt - lo9).toNat]? = some off) (ht : (pc : Int) + off = (tgt : Int)) (kk : Gd l E K a b o σ tgt lv st) : Gd l E K a b o σ pc lv (.int x :: st) := by
  obtain ⟨⟨p, e, R, s, m, args⟩, ⟨below, meth, c, Q, nL⟩⟩ := K
  obtain ⟨hx, hb, hr, hml, hown, hts, hlk, hK, hj, hz, hfr, hlo⟩ := hC
  intro H locs ls hP hS hl
  exact lv_tableIn hx hb hd h1 h2 ho ht (kk H locs ls hP hS hl)

theorem g_tabOut {l : Launch} {E : uE} {K : uK} {own : String} {cc : ByteArray} {ret : Option FieldType} {fr lo a b : Nat} {o : Int64} {σ : uS} {pc : Nat} {lv : List (Option Value)} {st : List Value} (hC : Cx E K own cc ret fr lo) {dflt lo9 hi9 : Int} {offs : Array Int} {len : Nat} {x : Int32} {tgt : Nat} (hd : decode cc pc = .ok (.tableswitch dflt lo9 hi9 offs, len)) (h1 : x.toInt < lo9 ∨ hi9 < x.toInt) (ht : (pc : Int) + dflt = (tgt : Int)) (kk : Gd l E K a b o σ tgt lv st) : Gd l E K a b o σ pc lv (.int x :: st) := by
  obtain ⟨⟨p, e, R, s, m, args⟩, ⟨below, meth, c, Q, nL⟩⟩ := K
  obtain ⟨hx, hb, hr, hml, hown, hts, hlk, hK, hj, hz, hfr, hlo⟩ := hC
  intro H locs ls hP hS hl
  exact lv_tableOut hx hb hd h1 ht (kk H locs ls hP hS hl)

theorem g_look {l : Launch} {E : uE} {K : uK} {own : String} {cc : ByteArray} {ret : Option FieldType} {fr lo a b : Nat} {o : Int64} {σ : uS} {pc : Nat} {lv : List (Option Value)} {st : List Value} (hC : Cx E K own cc ret fr lo) {dflt : Int} {ps : Array (Int × Int)} {len : Nat} {x : Int32} {off : Int} {tgt : Nat} (hd : decode cc pc = .ok (.lookupswitch dflt ps, len)) (hp : (ps.toList.zip (ps.toList.drop 1)).all (fun (a, next) => a.1 < next.1) = true) (ho : Op.lookupswitch.offset ps.toList dflt x.toInt = off) (ht : (pc : Int) + off = (tgt : Int)) (kk : Gd l E K a b o σ tgt lv st) : Gd l E K a b o σ pc lv (.int x :: st) := by
  obtain ⟨⟨p, e, R, s, m, args⟩, ⟨below, meth, c, Q, nL⟩⟩ := K
  obtain ⟨hx, hb, hr, hml, hown, hts, hlk, hK, hj, hz, hfr, hlo⟩ := hC
  intro H locs ls hP hS hl
  exact lv_lookup hx hb hd hp ho ht (kk H locs ls hP hS hl)

theorem g_get {l : Launch} {E : uE} {K : uK} {own : String} {cc : ByteArray} {ret : Option FieldType} {fr lo a b : Nat} {o : Int64} {σ : uS} {pc : Nat} {lv : List (Option Value)} {st : List Value} (hC : Cx E K own cc ret fr lo) (k ci j : Nat) {fs : List Value} {v : Value} {C : String} {T : u_T} {N index : Nat} (hk : k < u_N) (he : u_ce E o k (σ k) = .inr (ci, fs)) (hc : vwCl[ci]? = some (C, T, N)) (hin : ∀ w ∈ u_ws C T N, w ∈ TG) (hjN : j < N) (hlink : Cond.fieldLink own index (T j).1 (T j).2.1 (T j).2.2.1 ∈ TG) (hv : fs[j]? = some v) (hd : decode cc pc = .ok (.getfield index, 3)) (kk : Gd l E K a b o σ (pc + 3) lv (v :: st)) : Gd l E K a b o σ pc lv (.ref (E.2.1 k) :: st) := by
  obtain ⟨⟨p, e, R, s, m, args⟩, ⟨below, meth, c, Q, nL⟩⟩ := K
  obtain ⟨hx, hb, hr, hml, hown, hts, hlk, hK, hj, hz, hfr, hlo⟩ := hC
  intro H locs ls hP hS hl
  exact va_get hx hb hts hin hown hK hP k (by rw [u_wl_get hk, he]) hc j hjN (hts _ hlink) (fun _ h9 => h9) hv hd (kk H locs ls hP hS hl)

theorem g_put {l : Launch} {E : uE} {K : uK} {own : String} {cc : ByteArray} {ret : Option FieldType} {fr lo a b : Nat} {o : Int64} {σ : uS} {pc : Nat} {lv : List (Option Value)} {st : List Value} (hC : Cx E K own cc ret fr lo) (k ci j : Nat) {fs : List Value} {x : Int32} {σ2 : uS} {C : String} {T : u_T} {N index : Nat} {ty : FieldType} (hk : k < u_N) (he : u_ce E o k (σ k) = .inr (ci, fs)) (he2 : u_ce E o k (upd (σ k) j x) = .inr (ci, fs.set j (.int x))) (hc : vwCl[ci]? = some (C, T, N)) (hin : ∀ w ∈ u_ws C T N, w ∈ TG) (ty0 : Nat → FieldType) (hty : ∀ k, k < N → parseFieldDescriptor (T k).2.2.1 = some (ty0 k)) (hnm : ∀ a, a < N → ∀ b, b < N → a ≠ b → (T a).2.1 ≠ (T b).2.1) (hjN : j < N) (hlink : Cond.fieldLink own index (T j).1 (T j).2.1 (T j).2.2.1 ∈ TG) (hfin : (T j).2.2.2 = false) (hd9 : parseFieldDescriptor (T j).2.2.1 = some ty) (hn : narrow ty (.int x) = .int x) (hfit : fits ty (.int x) = true) (hl9 : j < fs.length) (hd : decode cc pc = .ok (.putfield index, 3)) (h2 : σ2 = up σ k j x) (kk : Gd l E K a b o σ2 (pc + 3) lv st) : Gd l E K a b o σ pc lv (.int x :: .ref (E.2.1 k) :: st) := by
  obtain ⟨⟨p, e, R, s, m, args⟩, ⟨below, meth, c, Q, nL⟩⟩ := K
  obtain ⟨hx, hb, hr, hml, hown, hts, hlk, hK, hj, hz, hfr, hlo⟩ := hC
  intro H locs ls hP hS hl
  subst h2
  refine va_put hx hb hts hin ty0 hty hnm hown hK hP (u_D hj) hS k (by rw [u_wl_get hk, he]) hc j hjN (hts _ hlink) (fun _ h9 => h9) hfin hd9 hn hfit hl9 hd (fun H1 locs1 hP1 _ hS1 => kk H1 locs1 ls ?_ hS1 hl)
  rw [← he2, u_wl_set _ hk] at hP1
  exact hP1

theorem g_iald {l : Launch} {E : uE} {K : uK} {own : String} {cc : ByteArray} {ret : Option FieldType} {fr lo a b : Nat} {o : Int64} {σ : uS} {pc : Nat} {lv : List (Option Value)} {st : List Value} (hC : Cx E K own cc ret fr lo) (k : Nat) {n : Nat} {i : Int32} (hk : k < u_N) (he : u_ce E o k (σ k) = .inl (E.2.2.1.1, n, .inl (σ k))) (hin : vp_in i n) (hd : decode cc pc = .ok (.iaload, 1)) (kk : Gd l E K a b o σ (pc + 1) lv (.int (σ k i.toNatClampNeg) :: st)) : Gd l E K a b o σ pc lv (.int i :: .ref (E.2.1 k) :: st) := by
  obtain ⟨⟨p, e, R, s, m, args⟩, ⟨below, meth, c, Q, nL⟩⟩ := K
  obtain ⟨hx, hb, hr, hml, hown, hts, hlk, hK, hj, hz, hfr, hlo⟩ := hC
  intro H locs ls hP hS hl
  exact va_iald hx hb hK hP k 0 (by rw [u_wl_get hk, he]) rfl hin hd (kk H locs ls hP hS hl)

theorem g_zald {l : Launch} {E : uE} {K : uK} {own : String} {cc : ByteArray} {ret : Option FieldType} {fr lo a b : Nat} {o : Int64} {σ : uS} {pc : Nat} {lv : List (Option Value)} {st : List Value} (hC : Cx E K own cc ret fr lo) (k : Nat) {n : Nat} {i : Int32} (hk : k < u_N) (he : u_ce E o k (σ k) = .inl (E.2.2.1.2.1, n, .inl (σ k))) (hin : vp_in i n) (hd : decode cc pc = .ok (.baload, 1)) (kk : Gd l E K a b o σ (pc + 1) lv (.int (σ k i.toNatClampNeg) :: st)) : Gd l E K a b o σ pc lv (.int i :: .ref (E.2.1 k) :: st) := by
  obtain ⟨⟨p, e, R, s, m, args⟩, ⟨below, meth, c, Q, nL⟩⟩ := K
  obtain ⟨hx, hb, hr, hml, hown, hts, hlk, hK, hj, hz, hfr, hlo⟩ := hC
  intro H locs ls hP hS hl
  exact va_zald hx hb hK hP k 1 (by rw [u_wl_get hk, he]) rfl hin hd (kk H locs ls hP hS hl)

theorem g_iast {l : Launch} {E : uE} {K : uK} {own : String} {cc : ByteArray} {ret : Option FieldType} {fr lo a b : Nat} {o : Int64} {σ : uS} {pc : Nat} {lv : List (Option Value)} {st : List Value} (hC : Cx E K own cc ret fr lo) (k : Nat) {n : Nat} {i x : Int32} {σ2 : uS} (hk : k < u_N) (he : ∀ f, u_ce E o k f = .inl (E.2.2.1.1, n, .inl f)) (hin : vp_in i n) (hd : decode cc pc = .ok (.iastore, 1)) (h2 : σ2 = up σ k i.toNatClampNeg x) (kk : Gd l E K a b o σ2 (pc + 1) lv st) : Gd l E K a b o σ pc lv (.int x :: .int i :: .ref (E.2.1 k) :: st) := by
  obtain ⟨⟨p, e, R, s, m, args⟩, ⟨below, meth, c, Q, nL⟩⟩ := K
  obtain ⟨hx, hb, hr, hml, hown, hts, hlk, hK, hj, hz, hfr, hlo⟩ := hC
  intro H locs ls hP hS hl
  subst h2
  refine va_iast hx hb hK hP (u_D hj) hS k 0 (by rw [u_wl_get hk, he]) rfl hin hd (fun H1 locs1 hP1 _ hS1 => kk H1 locs1 ls ?_ hS1 hl)
  rw [← he, u_wl_set _ hk] at hP1
  exact hP1

theorem g_zast {l : Launch} {E : uE} {K : uK} {own : String} {cc : ByteArray} {ret : Option FieldType} {fr lo a b : Nat} {o : Int64} {σ : uS} {pc : Nat} {lv : List (Option Value)} {st : List Value} (hC : Cx E K own cc ret fr lo) (k : Nat) {n : Nat} {i x : Int32} {σ2 : uS} (hk : k < u_N) (he : ∀ f, u_ce E o k f = .inl (E.2.2.1.2.1, n, .inl f)) (hin : vp_in i n) (hd : decode cc pc = .ok (.bastore, 1)) (h2 : σ2 = up σ k i.toNatClampNeg (vp_nar .boolean x)) (kk : Gd l E K a b o σ2 (pc + 1) lv st) : Gd l E K a b o σ pc lv (.int x :: .int i :: .ref (E.2.1 k) :: st) := by
  obtain ⟨⟨p, e, R, s, m, args⟩, ⟨below, meth, c, Q, nL⟩⟩ := K
  obtain ⟨hx, hb, hr, hml, hown, hts, hlk, hK, hj, hz, hfr, hlo⟩ := hC
  intro H locs ls hP hS hl
  subst h2
  refine va_zast hx hb hK hP (u_D hj) hS k 1 (by rw [u_wl_get hk, he]) rfl hin hd (fun H1 locs1 hP1 _ hS1 => kk H1 locs1 ls ?_ hS1 hl)
  rw [← he, u_wl_set _ hk] at hP1
  exact hP1

theorem g_alen {l : Launch} {E : uE} {K : uK} {own : String} {cc : ByteArray} {ret : Option FieldType} {fr lo a b : Nat} {o : Int64} {σ : uS} {pc : Nat} {lv : List (Option Value)} {st : List Value} (hC : Cx E K own cc ret fr lo) (k : Nat) {n : Nat} {v : Int32} (hk : k < u_N) (he : u_ce E o k (σ k) = .inl (E.2.2.1.1, n, .inl (σ k))) (hv : Int32.ofNat n = v) (hd : decode cc pc = .ok (.arraylength, 1)) (kk : Gd l E K a b o σ (pc + 1) lv (.int v :: st)) : Gd l E K a b o σ pc lv (.ref (E.2.1 k) :: st) := by
  obtain ⟨⟨p, e, R, s, m, args⟩, ⟨below, meth, c, Q, nL⟩⟩ := K
  obtain ⟨hx, hb, hr, hml, hown, hts, hlk, hK, hj, hz, hfr, hlo⟩ := hC
  intro H locs ls hP hS hl
  exact va_alen hx hb hK hP k 0 (by rw [u_wl_get hk, he]) rfl hv hd (kk H locs ls hP hS hl)

theorem g_stLEAST {l : Launch} {E : uE} {K : uK} {own : String} {cc : ByteArray} {ret : Option FieldType} {fr lo a b : Nat} {o : Int64} {σ : uS} {pc : Nat} {lv : List (Option Value)} {st : List Value} (hC : Cx E K own cc ret fr lo) {index : Nat} (hlink : Cond.fieldLink own index "PitchMarks$Bounds" "LEAST" "[I" ∈ TG) (hd : decode cc pc = .ok (.getstatic index, 3)) (kk : Gd l E K a b o σ (pc + 3) lv (.ref E.2.2.2.1 :: st)) : Gd l E K a b o σ pc lv st := by
  obtain ⟨⟨p, e, R, s, m, args⟩, ⟨below, meth, c, Q, nL⟩⟩ := K
  obtain ⟨hx, hb, hr, hml, hown, hts, hlk, hK, hj, hz, hfr, hlo⟩ := hC
  intro H locs ls hP hS hl
  exact va_gets hx hb hz.1 hS hown (hts _ hlink) (fun _ h9 => h9) hd (kk H locs ls hP hS hl)

theorem g_slLEAST {l : Launch} {E : uE} {K : uK} {own : String} {cc : ByteArray} {ret : Option FieldType} {fr lo a b : Nat} {o : Int64} {σ : uS} {pc : Nat} {lv : List (Option Value)} {st : List Value} (hC : Cx E K own cc ret fr lo) {i : Int32} (hin : vp_in i 16) (hd : decode cc pc = .ok (.iaload, 1)) (kk : Gd l E K a b o σ (pc + 1) lv (.int (u_least i.toNatClampNeg) :: st)) : Gd l E K a b o σ pc lv (.int i :: .ref E.2.2.2.1 :: st) := by
  obtain ⟨⟨p, e, R, s, m, args⟩, ⟨below, meth, c, Q, nL⟩⟩ := K
  obtain ⟨hx, hb, hr, hml, hown, hts, hlk, hK, hj, hz, hfr, hlo⟩ := hC
  intro H locs ls hP hS hl
  exact va_sld hx hb hz.2.1 hz.2.2.2.1 hz.2.2.1 hS hin hd (kk H locs ls hP hS hl)

theorem g_stMOST {l : Launch} {E : uE} {K : uK} {own : String} {cc : ByteArray} {ret : Option FieldType} {fr lo a b : Nat} {o : Int64} {σ : uS} {pc : Nat} {lv : List (Option Value)} {st : List Value} (hC : Cx E K own cc ret fr lo) {index : Nat} (hlink : Cond.fieldLink own index "PitchMarks$Bounds" "MOST" "[I" ∈ TG) (hd : decode cc pc = .ok (.getstatic index, 3)) (kk : Gd l E K a b o σ (pc + 3) lv (.ref E.2.2.2.2 :: st)) : Gd l E K a b o σ pc lv st := by
  obtain ⟨⟨p, e, R, s, m, args⟩, ⟨below, meth, c, Q, nL⟩⟩ := K
  obtain ⟨hx, hb, hr, hml, hown, hts, hlk, hK, hj, hz, hfr, hlo⟩ := hC
  intro H locs ls hP hS hl
  exact va_gets hx hb hz.2.2.2.2.1 hS hown (hts _ hlink) (fun _ h9 => h9) hd (kk H locs ls hP hS hl)

theorem g_slMOST {l : Launch} {E : uE} {K : uK} {own : String} {cc : ByteArray} {ret : Option FieldType} {fr lo a b : Nat} {o : Int64} {σ : uS} {pc : Nat} {lv : List (Option Value)} {st : List Value} (hC : Cx E K own cc ret fr lo) {i : Int32} (hin : vp_in i 16) (hd : decode cc pc = .ok (.iaload, 1)) (kk : Gd l E K a b o σ (pc + 1) lv (.int (u_most i.toNatClampNeg) :: st)) : Gd l E K a b o σ pc lv (.int i :: .ref E.2.2.2.2 :: st) := by
  obtain ⟨⟨p, e, R, s, m, args⟩, ⟨below, meth, c, Q, nL⟩⟩ := K
  obtain ⟨hx, hb, hr, hml, hown, hts, hlk, hK, hj, hz, hfr, hlo⟩ := hC
  intro H locs ls hP hS hl
  exact va_sld hx hb hz.2.2.2.2.2.1 hz.2.2.2.2.2.2.2.1 hz.2.2.2.2.2.2.1 hS hin hd (kk H locs ls hP hS hl)

theorem g_mask {l : Launch} {E : uE} {K : uK} {a b : Nat} {o : Int64} {σ : uS} {pc : Nat} {lv lv2 : List (Option Value)} {st : List Value} (bs : List Bool) (h : lo_mask bs lv = lv2) (kk : Gd l E K a b o σ pc lv2 st) : Gd l E K a b o σ pc lv st := by
  obtain ⟨⟨p, e, R, s, m, args⟩, ⟨below, meth, c, Q, nL⟩⟩ := K
  intro H locs ls hP hS hl
  exact kk H locs ls hP hS ⟨hl.1, hl.2.1, fun k v hk => hl.2.2 k v (lo_mask_get bs lv k v (h ▸ hk))⟩

theorem g_iret {l : Launch} {E : uE} {K : uK} {own : String} {cc : ByteArray} {ret : Option FieldType} {fr lo a b : Nat} {o : Int64} {σ : uS} {pc : Nat} {lv : List (Option Value)} (hC : Cx E K own cc ret fr lo) {r : Int32} (he : ret = some .int) (hR : RetI E K a b o r σ) (hd : decode cc pc = .ok (.ireturn, 1))  : Gd l E K a b o σ pc lv [.int r] := by
  obtain ⟨⟨p, e, R, s, m, args⟩, ⟨below, meth, c, Q, nL⟩⟩ := K
  obtain ⟨hx, hb, hr, hml, hown, hts, hlk, hK, hj, hz, hfr, hlo⟩ := hC
  intro H locs ls hP hS hl
  have hR : Q = _ := hR
  subst hR
  exact W.iret hx hb (hr.trans he) (fun t ht hW => ⟨⟨r, (), rfl, rfl, by show va_P _ _ _ t.heap; rw [ht]; exact hP⟩, hS.F ht⟩) hS.2.2 hd

theorem g_zret {l : Launch} {E : uE} {K : uK} {own : String} {cc : ByteArray} {ret : Option FieldType} {fr lo a b : Nat} {o : Int64} {σ : uS} {pc : Nat} {lv : List (Option Value)} (hC : Cx E K own cc ret fr lo) {r : Int32} (he : ret = some .boolean) (h01 : r = 0 ∨ r = 1) (hR : RetI E K a b o r σ) (hd : decode cc pc = .ok (.ireturn, 1))  : Gd l E K a b o σ pc lv [.int r] := by
  obtain ⟨⟨p, e, R, s, m, args⟩, ⟨below, meth, c, Q, nL⟩⟩ := K
  obtain ⟨hx, hb, hr, hml, hown, hts, hlk, hK, hj, hz, hfr, hlo⟩ := hC
  intro H locs ls hP hS hl
  have hR : Q = _ := hR
  subst hR
  exact W.zret hx hb (hr.trans he) (by rcases h01 with rfl | rfl <;> rfl) (fun t ht hW => ⟨⟨r, (), rfl, rfl, by show va_P _ _ _ t.heap; rw [ht]; exact hP⟩, hS.F ht⟩) hS.2.2 hd

theorem g_vret {l : Launch} {E : uE} {K : uK} {own : String} {cc : ByteArray} {ret : Option FieldType} {fr lo a b : Nat} {o : Int64} {σ : uS} {pc : Nat} {lv : List (Option Value)} (hC : Cx E K own cc ret fr lo) (he : ret = none) (hR : RetV E K a b o σ) (hd : decode cc pc = .ok (.return_, 1))  : Gd l E K a b o σ pc lv [] := by
  obtain ⟨⟨p, e, R, s, m, args⟩, ⟨below, meth, c, Q, nL⟩⟩ := K
  obtain ⟨hx, hb, hr, hml, hown, hts, hlk, hK, hj, hz, hfr, hlo⟩ := hC
  intro H locs ls hP hS hl
  have hR : Q = _ := hR
  subst hR
  exact W.vret hx hb (hr.trans he) (fun t ht hW => ⟨⟨(), rfl, trivial, by show va_P _ _ _ t.heap; rw [ht]; exact hP⟩, hS.F ht⟩) hS.2.2 hd

theorem g_lret {l : Launch} {E : uE} {K : uK} {own : String} {cc : ByteArray} {ret : Option FieldType} {fr lo a b : Nat} {o : Int64} {σ : uS} {pc : Nat} {lv : List (Option Value)} (hC : Cx E K own cc ret fr lo) {r : Int64} (he : ret = some .long) (hR : RetL E K a b o r σ) (hd : decode cc pc = .ok (.lreturn, 1))  : Gd l E K a b o σ pc lv [.long r] := by
  obtain ⟨⟨p, e, R, s, m, args⟩, ⟨below, meth, c, Q, nL⟩⟩ := K
  obtain ⟨hx, hb, hr, hml, hown, hts, hlk, hK, hj, hz, hfr, hlo⟩ := hC
  intro H locs ls hP hS hl
  have hR : Q = _ := hR
  subst hR
  exact W.lret hx hb (hr.trans he) (fun t ht hW => ⟨⟨r, (), rfl, rfl, by show va_P _ _ _ t.heap; rw [ht]; exact hP⟩, hS.F ht⟩) hS.2.2 hd

def Mi (y : MethodName) (cc : ByteArray) (nL : Nat) (ret : Option FieldType) (n : Nat) : Prop := Cond.code y cc nL ret ∈ TG ∧ Cond.initialized y.cls ∈ TG ∧ (y.cls ≠ "java/lang/invoke/MethodHandle" ∧ y.cls ≠ "java/lang/invoke/VarHandle" ∧ (parseMethodDescriptor y.desc).map (fun d => d.parameters.length) = some n)
def Mv (y : MethodName) : Prop := Cond.instanceMethod y ∈ TG ∧ Cond.selects y.cls y y ∈ TG
/-- the object cells: their kinds by number -/
def Ob (k ci : Nat) : Prop := k < u_N ∧ ∀ (E : uE) (o : Int64) (f : Nat → Int32), ∃ fs, u_ce E o k f = .inr (ci, fs)

def CtL (l : Launch) (E : uE) (y : MethodName) (cc : ByteArray) (nL : Nat) (fr lo : Nat) (argv : List Value) (σ : uS) (r : Int64) (σ' : uS) : Prop :=
  ∀ (o : Int64) (sz : Nat), Met l y (Cond.code y cc nL (some .long) :: TG) (u_rm fr lo 0 0) (u_Pc E argv σ o sz) (va_Ql (fun (x : Int64) (_ : Unit) => x = r) (fun _ t => va_P E.1 vwCl (u_wl E o σ') t.heap) (u_A E sz)) 0 0 (u_A E sz)

theorem g_callVi {l : Launch} {E : uE} {K : uK} {own : String} {cc : ByteArray} {ret : Option FieldType} {fr lo a b : Nat} {o : Int64} {σ : uS} {pc : Nat} {lv : List (Option Value)} (hC : Cx E K own cc ret fr lo) {y : MethodName} {cc2 : ByteArray} {nL2 fr2 lo2 n index : Nat} {ret2 : Option FieldType} {As : List Value} {rest st0 : List Value} {σ2 : uS} {r : Int32} {k ci : Nat} (hM : CtI l E y cc2 nL2 ret2 fr2 lo2 (.ref (E.2.1 k) :: As) σ r σ2) (hi : Mi y cc2 nL2 ret2 n) (hv9 : Mv y) {q : vw_C} (hob : Ob k ci) (hq : vwCl[ci]? = some q) (hqc : q.1 = y.cls) (hlink : Cond.methodLink own index y ∈ TG) (hst : st0 = As.reverse ++ .ref (E.2.1 k) :: rest) (hn : As.length = n) (hw : (rest.map fun v => v.category).sum ≤ 8) (hR9 : fr2 + 1 ≤ fr ∧ 8 + (nL2 + 11) + lo2 ≤ lo) (hab : Rm K a b) (hd : decode cc pc = .ok (.invokevirtual index, 3)) (kk : Gd l E K a b o σ2 (pc + 3) lv (.int r :: rest)) : Gd l E K a b o σ pc lv st0 := by
  obtain ⟨⟨p, e, R, s, m, args⟩, ⟨below, meth, c, Q, nL⟩⟩ := K
  obtain ⟨hx, hb, hr, hml, hown, hts, hlk, hK, hj, hz, hfr, hlo⟩ := hC
  intro H locs ls hP hS hl
  obtain ⟨fs, hfs⟩ := hob.2 E o (σ k)
  subst hst
  refine va_calli (va_runV (As := As) (rest := rest) ⟨hx, hb, hml, hown, hts⟩ (hM o H.size) ⟨callB_of n hts (tg_good hi.1) rfl rfl rfl (hts _ hi.2.1) (hts _ hlink) hi.2.2 ⟨Nat.le_trans hR9.1 (Nat.le_of_eq hfr.symm), Nat.le_trans hR9.2 (Nat.le_of_eq hlo.symm)⟩, hts _ hv9.1, hts _ hv9.2⟩ ⟨u_Pc.blind, (hqc ▸ va_recv hK hP hq (by rw [u_wl_get hob.1, hfs])), fun U hU hW => ⟨rfl, by rw [hU], by rw [hU]; exact hP, va_K.moved hW.alike hK, hj, by have := hz.to hS hU hW; exact this⟩⟩ rfl hn (hl.1.trans rfl) rfl (lv_room hw) hd ⟨hab.1, hab.2⟩) hS (fun q _ h => u_A.le hS.1 q h) (u_A.le hS.1) (fun r1 _ t H1 locs1 ht _ hw1 hB1 _ _ hS1 => ?_)
  subst hw1
  exact kk H1 locs1 ls (ht ▸ hB1) hS1 hl

theorem g_callVv {l : Launch} {E : uE} {K : uK} {own : String} {cc : ByteArray} {ret : Option FieldType} {fr lo a b : Nat} {o : Int64} {σ : uS} {pc : Nat} {lv : List (Option Value)} (hC : Cx E K own cc ret fr lo) {y : MethodName} {cc2 : ByteArray} {nL2 fr2 lo2 n index : Nat} {As : List Value} {rest st0 : List Value} {σ2 : uS} {k ci : Nat} (hM : CtV l E y cc2 nL2 fr2 lo2 (.ref (E.2.1 k) :: As) σ σ2) (hi : Mi y cc2 nL2 none n) (hv9 : Mv y) {q : vw_C} (hob : Ob k ci) (hq : vwCl[ci]? = some q) (hqc : q.1 = y.cls) (hlink : Cond.methodLink own index y ∈ TG) (hst : st0 = As.reverse ++ .ref (E.2.1 k) :: rest) (hn : As.length = n) (hw : (rest.map fun v => v.category).sum ≤ 8) (hR9 : fr2 + 1 ≤ fr ∧ 8 + (nL2 + 11) + lo2 ≤ lo) (hab : Rm K a b) (hd : decode cc pc = .ok (.invokevirtual index, 3)) (kk : Gd l E K a b o σ2 (pc + 3) lv rest) : Gd l E K a b o σ pc lv st0 := by
  obtain ⟨⟨p, e, R, s, m, args⟩, ⟨below, meth, c, Q, nL⟩⟩ := K
  obtain ⟨hx, hb, hr, hml, hown, hts, hlk, hK, hj, hz, hfr, hlo⟩ := hC
  intro H locs ls hP hS hl
  obtain ⟨fs, hfs⟩ := hob.2 E o (σ k)
  subst hst
  refine va_callv (va_runV (As := As) (rest := rest) ⟨hx, hb, hml, hown, hts⟩ (hM o H.size) ⟨callB_of n hts (tg_good hi.1) rfl rfl rfl (hts _ hi.2.1) (hts _ hlink) hi.2.2 ⟨Nat.le_trans hR9.1 (Nat.le_of_eq hfr.symm), Nat.le_trans hR9.2 (Nat.le_of_eq hlo.symm)⟩, hts _ hv9.1, hts _ hv9.2⟩ ⟨u_Pc.blind, (hqc ▸ va_recv hK hP hq (by rw [u_wl_get hob.1, hfs])), fun U hU hW => ⟨rfl, by rw [hU], by rw [hU]; exact hP, va_K.moved hW.alike hK, hj, by have := hz.to hS hU hW; exact this⟩⟩ rfl hn (hl.1.trans rfl) rfl (lv_room hw) hd ⟨hab.1, hab.2⟩) hS (fun q _ h => u_A.le hS.1 q h) (u_A.le hS.1) (fun _ t H1 locs1 ht _ hw1 hB1 _ _ hS1 => ?_)
  exact kk H1 locs1 ls (ht ▸ hB1) hS1 hl

theorem g_callSi {l : Launch} {E : uE} {K : uK} {own : String} {cc : ByteArray} {ret : Option FieldType} {fr lo a b : Nat} {o : Int64} {σ : uS} {pc : Nat} {lv : List (Option Value)} (hC : Cx E K own cc ret fr lo) {y : MethodName} {cc2 : ByteArray} {nL2 fr2 lo2 n index : Nat} {ret2 : Option FieldType} {As : List Value} {rest st0 : List Value} {σ2 : uS} {r : Int32} (hM : CtI l E y cc2 nL2 ret2 fr2 lo2 As σ r σ2) (hi : Mi y cc2 nL2 ret2 n) (hs9 : Cond.static y ∈ TG) (hlink : Cond.methodLink own index y ∈ TG) (hst : st0 = As.reverse ++ rest) (hn : As.length = n) (hw : (rest.map fun v => v.category).sum ≤ 8) (hR9 : fr2 + 1 ≤ fr ∧ 8 + (nL2 + 11) + lo2 ≤ lo) (hab : Rm K a b) (hd : decode cc pc = .ok (.invokestatic index, 3)) (kk : Gd l E K a b o σ2 (pc + 3) lv (.int r :: rest)) : Gd l E K a b o σ pc lv st0 := by
  obtain ⟨⟨p, e, R, s, m, args⟩, ⟨below, meth, c, Q, nL⟩⟩ := K
  obtain ⟨hx, hb, hr, hml, hown, hts, hlk, hK, hj, hz, hfr, hlo⟩ := hC
  intro H locs ls hP hS hl
  subst hst
  refine va_calli (va_runS (As := As) (rest := rest) ⟨hx, hb, hml, hown, hts⟩ (hM o H.size) ⟨callB_of n hts (tg_good hi.1) rfl rfl rfl (hts _ hi.2.1) (hts _ hlink) hi.2.2 ⟨Nat.le_trans hR9.1 (Nat.le_of_eq hfr.symm), Nat.le_trans hR9.2 (Nat.le_of_eq hlo.symm)⟩, hts _ hs9⟩ ⟨u_Pc.blind, fun U hU hW => ⟨rfl, by rw [hU], by rw [hU]; exact hP, va_K.moved hW.alike hK, hj, by have := hz.to hS hU hW; exact this⟩⟩ rfl hn (hl.1.trans rfl) rfl (lv_room hw) hd ⟨hab.1, hab.2⟩) hS (fun q _ h => u_A.le hS.1 q h) (u_A.le hS.1) (fun r1 _ t H1 locs1 ht _ hw1 hB1 _ _ hS1 => ?_)
  subst hw1
  exact kk H1 locs1 ls (ht ▸ hB1) hS1 hl

theorem g_callNi {l : Launch} {E : uE} {K : uK} {own : String} {cc : ByteArray} {ret : Option FieldType} {fr lo a b : Nat} {o : Int64} {σ : uS} {pc : Nat} {lv : List (Option Value)} (hC : Cx E K own cc ret fr lo) {y : MethodName} {cc2 : ByteArray} {nL2 fr2 lo2 n index : Nat} {ret2 : Option FieldType} {As : List Value} {rest st0 : List Value} {σ2 : uS} {r : Int32} (hM : CtI l E y cc2 nL2 ret2 fr2 lo2 As σ r σ2) (hi : Mi y cc2 nL2 ret2 n) (hs9 : Cond.static y ∈ TG) (hlink : (own, index, y) ∈ u_ns) (hst : st0 = As.reverse ++ rest) (hn : As.length = n) (hw : (rest.map fun v => v.category).sum ≤ 8) (hR9 : fr2 + 1 ≤ fr ∧ 8 + (nL2 + 11) + lo2 ≤ lo) (hab : Rm K a b) (hd : decode cc pc = .ok (.invokestatic index, 3)) (kk : Gd l E K a b o σ2 (pc + 3) lv (.int r :: rest)) : Gd l E K a b o σ pc lv st0 := by
  obtain ⟨⟨p, e, R, s, m, args⟩, ⟨below, meth, c, Q, nL⟩⟩ := K
  obtain ⟨hx, hb, hr, hml, hown, hts, hlk, hK, hj, hz, hfr, hlo⟩ := hC
  intro H locs ls hP hS hl
  subst hst
  refine va_calli (va_runSN (As := As) (rest := rest) ⟨hx, hb, hml, hown, hts⟩ (hM o H.size) ⟨va_cnB n hts (tg_good hi.1) rfl rfl rfl (hz.2.2.2.2.2.2.2.2.2.2.2.2.1 _ hlink) (hts _ hi.2.1) hi.2.2 ⟨Nat.le_trans hR9.1 (Nat.le_of_eq hfr.symm), Nat.le_trans hR9.2 (Nat.le_of_eq hlo.symm)⟩, hts _ hs9, trivial⟩ ⟨u_Pc.blind, fun U hU hW => ⟨rfl, by rw [hU], by rw [hU]; exact hP, va_K.moved hW.alike hK, hj, by have := hz.to hS hU hW; exact this⟩⟩ rfl hn (hl.1.trans rfl) rfl (lv_room hw) hd ⟨hab.1, hab.2⟩) hS (fun q _ h => u_A.le hS.1 q h) (u_A.le hS.1) (fun r1 _ t H1 locs1 ht _ hw1 hB1 _ _ hS1 => ?_)
  subst hw1
  exact kk H1 locs1 ls (ht ▸ hB1) hS1 hl

theorem g_callSl {l : Launch} {E : uE} {K : uK} {own : String} {cc : ByteArray} {ret : Option FieldType} {fr lo a b : Nat} {o : Int64} {σ : uS} {pc : Nat} {lv : List (Option Value)} (hC : Cx E K own cc ret fr lo) {y : MethodName} {cc2 : ByteArray} {nL2 fr2 lo2 n index : Nat} {As : List Value} {rest st0 : List Value} {σ2 : uS} {r : Int64} (hM : CtL l E y cc2 nL2 fr2 lo2 As σ r σ2) (hi : Mi y cc2 nL2 (some .long) n) (hs9 : Cond.static y ∈ TG) (hlink : Cond.methodLink own index y ∈ TG) (hst : st0 = As.reverse ++ rest) (hn : As.length = n) (hw : (rest.map fun v => v.category).sum ≤ 8) (hR9 : fr2 + 1 ≤ fr ∧ 8 + (nL2 + 11) + lo2 ≤ lo) (hab : Rm K a b) (hd : decode cc pc = .ok (.invokestatic index, 3)) (kk : Gd l E K a b o σ2 (pc + 3) lv (.long r :: rest)) : Gd l E K a b o σ pc lv st0 := by
  obtain ⟨⟨p, e, R, s, m, args⟩, ⟨below, meth, c, Q, nL⟩⟩ := K
  obtain ⟨hx, hb, hr, hml, hown, hts, hlk, hK, hj, hz, hfr, hlo⟩ := hC
  intro H locs ls hP hS hl
  subst hst
  refine va_calll (va_runS (As := As) (rest := rest) ⟨hx, hb, hml, hown, hts⟩ (hM o H.size) ⟨callB_of n hts (tg_good hi.1) rfl rfl rfl (hts _ hi.2.1) (hts _ hlink) hi.2.2 ⟨Nat.le_trans hR9.1 (Nat.le_of_eq hfr.symm), Nat.le_trans hR9.2 (Nat.le_of_eq hlo.symm)⟩, hts _ hs9⟩ ⟨u_Pc.blind, fun U hU hW => ⟨rfl, by rw [hU], by rw [hU]; exact hP, va_K.moved hW.alike hK, hj, by have := hz.to hS hU hW; exact this⟩⟩ rfl hn (hl.1.trans rfl) rfl (lv_room hw) hd ⟨hab.1, hab.2⟩) hS (fun q _ h => u_A.le hS.1 q h) (u_A.le hS.1) (fun r1 _ t H1 locs1 ht _ hw1 hB1 _ _ hS1 => ?_)
  subst hw1
  exact kk H1 locs1 ls (ht ▸ hB1) hS1 hl

theorem enterI {l : Launch} {E : uE} {y : MethodName} {cc : ByteArray} {nL fr lo : Nat} {ret : Option FieldType} {argv : List Value} {σ σ2 : uS} {r : Int32} (n : Nat) (lv0 : List (Option Value)) (hy : plainFor y = true) (hlv : lo_args argv ++ List.replicate n none = lv0) (hn : (lg_sl argv).length ≤ nL)
    (h : ∀ (o : Int64) (K : uK), K.2.2.2.2.2 = nL → Cx E K y.cls cc ret fr lo → Rm K 0 0 → RetI E K 0 0 o r σ2 → Gd l E K 0 0 o σ 0 lv0 []) : CtI l E y cc nL ret fr lo argv σ r σ2 := by
  intro o sz
  refine va_MetF (cc := cc) (maxL := nL) (ret := ret) hy rfl ?_
  intro p e s m args below meth c s₁ B hml hv
  obtain ⟨rfl, hsz, hP, hK, hj, hz⟩ := hv
  have hts : ∀ w ∈ TG, w.before argv.toArray s = true := fun w hw => atoms_spec (ws := Cond.code y cc nL ret :: TG) B.pre w (List.mem_cons_of_mem _ hw)
  subst hsz
  have hl := lv_entry argv (n := nL) hn
  rw [lg_entry_eq]
  have hl2 := lo_start (n := n) hl
  rw [hlv] at hl2
  exact h o ((p, e, _, s, m, argv.toArray), (below, meth, c, _, nL)) rfl ⟨B.exec, B.bytes, B.returns, hml, findClass_of_methodNamed B.named, hts, B.notSynchronized, hK, hj, hz, rfl, rfl⟩ ⟨Nat.zero_le _, Nat.zero_le _⟩ rfl s.heap [] _ hP va_S.rf hl2

theorem enterV {l : Launch} {E : uE} {y : MethodName} {cc : ByteArray} {nL fr lo : Nat} {argv : List Value} {σ σ2 : uS} (n : Nat) (lv0 : List (Option Value)) (hy : plainFor y = true) (hlv : lo_args argv ++ List.replicate n none = lv0) (hn : (lg_sl argv).length ≤ nL)
    (h : ∀ (o : Int64) (K : uK), K.2.2.2.2.2 = nL → Cx E K y.cls cc none fr lo → Rm K 0 0 → RetV E K 0 0 o σ2 → Gd l E K 0 0 o σ 0 lv0 []) : CtV l E y cc nL fr lo argv σ σ2 := by
  intro o sz
  refine va_MetF (cc := cc) (maxL := nL) (ret := none) hy rfl ?_
  intro p e s m args below meth c s₁ B hml hv
  obtain ⟨rfl, hsz, hP, hK, hj, hz⟩ := hv
  have hts : ∀ w ∈ TG, w.before argv.toArray s = true := fun w hw => atoms_spec (ws := Cond.code y cc nL none :: TG) B.pre w (List.mem_cons_of_mem _ hw)
  subst hsz
  have hl := lv_entry argv (n := nL) hn
  rw [lg_entry_eq]
  have hl2 := lo_start (n := n) hl
  rw [hlv] at hl2
  exact h o ((p, e, _, s, m, argv.toArray), (below, meth, c, _, nL)) rfl ⟨B.exec, B.bytes, B.returns, hml, findClass_of_methodNamed B.named, hts, B.notSynchronized, hK, hj, hz, rfl, rfl⟩ ⟨Nat.zero_le _, Nat.zero_le _⟩ rfl s.heap [] _ hP va_S.rf hl2

theorem enterL {l : Launch} {E : uE} {y : MethodName} {cc : ByteArray} {nL fr lo : Nat} {argv : List Value} {σ σ2 : uS} {r : Int64} (n : Nat) (lv0 : List (Option Value)) (hy : plainFor y = true) (hlv : lo_args argv ++ List.replicate n none = lv0) (hn : (lg_sl argv).length ≤ nL)
    (h : ∀ (o : Int64) (K : uK), K.2.2.2.2.2 = nL → Cx E K y.cls cc (some .long) fr lo → Rm K 0 0 → RetL E K 0 0 o r σ2 → Gd l E K 0 0 o σ 0 lv0 []) : CtL l E y cc nL fr lo argv σ r σ2 := by
  intro o sz
  refine va_MetF (cc := cc) (maxL := nL) (ret := (some .long)) hy rfl ?_
  intro p e s m args below meth c s₁ B hml hv
  obtain ⟨rfl, hsz, hP, hK, hj, hz⟩ := hv
  have hts : ∀ w ∈ TG, w.before argv.toArray s = true := fun w hw => atoms_spec (ws := Cond.code y cc nL (some .long) :: TG) B.pre w (List.mem_cons_of_mem _ hw)
  subst hsz
  have hl := lv_entry argv (n := nL) hn
  rw [lg_entry_eq]
  have hl2 := lo_start (n := n) hl
  rw [hlv] at hl2
  exact h o ((p, e, _, s, m, argv.toArray), (below, meth, c, _, nL)) rfl ⟨B.exec, B.bytes, B.returns, hml, findClass_of_methodNamed B.named, hts, B.notSynchronized, hK, hj, hz, rfl, rfl⟩ ⟨Nat.zero_le _, Nat.zero_le _⟩ rfl s.heap [] _ hP va_S.rf hl2
