def em_0 (q : (Int × Int)) : (Int32 × Int32) := (zI q.1, zI q.2)
def em_1 (q : ((Int × Int) ⊕ Int)) : ((Int32 × Int32) ⊕ Int32) := Sum.map em_0 zI q
def em_2 (q : (Int × uZ)) : (Int32 × uS) := (zI q.1, zS q.2)
def em_3 (q : ((Int × uZ) ⊕ uZ)) : ((Int32 × uS) ⊕ uS) := Sum.map em_2 zS q
def em_4 (q : (Int × (Int × uZ))) : (Int32 × (Int32 × uS)) := (zI q.1, em_2 q.2)
def em_5 (q : ((Int × (Int × uZ)) ⊕ uZ)) : ((Int32 × (Int32 × uS)) ⊕ uS) := Sum.map em_4 zS q
def em_6 (q : ((Int × (Int × uZ)) ⊕ (Int × uZ))) : ((Int32 × (Int32 × uS)) ⊕ (Int32 × uS)) := Sum.map em_4 em_2 q
def em_7 (q : (Unit ⊕ Int)) : (Unit ⊕ Int32) := Sum.map id zI q
def em_8 (q : (Int ⊕ (Unit ⊕ Int))) : (Int32 ⊕ (Unit ⊕ Int32)) := Sum.map zI em_7 q
def em_9 (q : (Int × (Int × Int))) : (Int32 × (Int32 × Int32)) := (zI q.1, em_0 q.2)
def em_10 (q : ((Int × (Int × Int)) ⊕ (Int × Int))) : ((Int32 × (Int32 × Int32)) ⊕ (Int32 × Int32)) := Sum.map em_9 em_0 q
def em_11 (q : ((Int × (Int × Int)) ⊕ Int)) : ((Int32 × (Int32 × Int32)) ⊕ Int32) := Sum.map em_9 zI q
def em_12 (q : (Int ⊕ Int)) : (Int32 ⊕ Int32) := Sum.map zI zI q
def em_13 (q : ((Int × Int) ⊕ (Int ⊕ Int))) : ((Int32 × Int32) ⊕ (Int32 ⊕ Int32)) := Sum.map em_0 em_12 q
def em_14 (q : ((Int × Int) ⊕ (Unit ⊕ Int))) : ((Int32 × Int32) ⊕ (Unit ⊕ Int32)) := Sum.map em_0 em_7 q
def em_15 (q : (Int × Int)) : (Int64 × Int32) := (zL q.1, zI q.2)
def em_16 (q : (Int × (Int × Int))) : (Int32 × (Int64 × Int32)) := (zI q.1, em_15 q.2)
def em_17 (q : ((Int × (Int × Int)) ⊕ Int)) : ((Int32 × (Int64 × Int32)) ⊕ Int32) := Sum.map em_16 zI q
def em_18 (q : (Unit ⊕ (Int × uZ))) : (Unit ⊕ (Int32 × uS)) := Sum.map id em_2 q
def em_19 (q : (Int ⊕ (Unit ⊕ (Int × uZ)))) : (Int32 ⊕ (Unit ⊕ (Int32 × uS))) := Sum.map zI em_18 q
def em_20 (q : ((Int × uZ) ⊕ (Int × uZ))) : ((Int32 × uS) ⊕ (Int32 × uS)) := Sum.map em_2 em_2 q
def em_21 (q : (uZ ⊕ (Int × uZ))) : (uS ⊕ (Int32 × uS)) := Sum.map zS em_2 q
def em_22 (q : ((Int × (Int × uZ)) ⊕ (uZ ⊕ (Int × uZ)))) : ((Int32 × (Int32 × uS)) ⊕ (uS ⊕ (Int32 × uS))) := Sum.map em_4 em_21 q
def em_23 (q : (Int × (Int × (Int × Int)))) : (Int32 × (Int32 × (Int32 × Int32))) := (zI q.1, em_9 q.2)
def em_24 (q : (Int × (Int × (Int × (Int × Int))))) : (Int32 × (Int32 × (Int32 × (Int32 × Int32)))) := (zI q.1, em_23 q.2)
def em_25 (q : (Int × (Int × (Int × (Int × (Int × Int)))))) : (Int32 × (Int32 × (Int32 × (Int32 × (Int32 × Int32))))) := (zI q.1, em_24 q.2)
def em_26 (q : ((Int × (Int × (Int × (Int × (Int × Int))))) ⊕ (Int × (Int × (Int × (Int × Int)))))) : ((Int32 × (Int32 × (Int32 × (Int32 × (Int32 × Int32))))) ⊕ (Int32 × (Int32 × (Int32 × (Int32 × Int32))))) := Sum.map em_25 em_24 q
def em_27 (q : (Int ⊕ Nat)) : (Int32 ⊕ Nat) := Sum.map zI id q
def em_28 (q : ((Int ⊕ Nat) × uZ)) : ((Int32 ⊕ Nat) × uS) := (em_27 q.1, zS q.2)
theorem kz_m1000 : ((-1000) : Int32) = zI (-1000) := by decide +kernel
theorem ir_m1000 : inR (-1000) := by decide +kernel
theorem kz_m128 : ((-128) : Int32) = zI (-128) := by decide +kernel
theorem ir_m128 : inR (-128) := by decide +kernel
theorem kz_m8 : ((-8) : Int32) = zI (-8) := by decide +kernel
theorem ir_m8 : inR (-8) := by decide +kernel
theorem kz_m1 : ((-1) : Int32) = zI (-1) := by decide +kernel
theorem ir_m1 : inR (-1) := by decide +kernel
theorem kz_0 : (0 : Int32) = zI 0 := by decide +kernel
theorem ir_0 : inR 0 := by decide +kernel
theorem kz_1 : (1 : Int32) = zI 1 := by decide +kernel
theorem ir_1 : inR 1 := by decide +kernel
theorem kz_2 : (2 : Int32) = zI 2 := by decide +kernel
theorem ir_2 : inR 2 := by decide +kernel
theorem kz_3 : (3 : Int32) = zI 3 := by decide +kernel
theorem ir_3 : inR 3 := by decide +kernel
theorem kz_4 : (4 : Int32) = zI 4 := by decide +kernel
theorem ir_4 : inR 4 := by decide +kernel
theorem kz_5 : (5 : Int32) = zI 5 := by decide +kernel
theorem ir_5 : inR 5 := by decide +kernel
theorem kz_6 : (6 : Int32) = zI 6 := by decide +kernel
theorem ir_6 : inR 6 := by decide +kernel
theorem kz_7 : (7 : Int32) = zI 7 := by decide +kernel
theorem ir_7 : inR 7 := by decide +kernel
theorem kz_8 : (8 : Int32) = zI 8 := by decide +kernel
theorem ir_8 : inR 8 := by decide +kernel
theorem kz_9 : (9 : Int32) = zI 9 := by decide +kernel
theorem ir_9 : inR 9 := by decide +kernel
theorem kz_10 : (10 : Int32) = zI 10 := by decide +kernel
theorem ir_10 : inR 10 := by decide +kernel
theorem kz_11 : (11 : Int32) = zI 11 := by decide +kernel
theorem ir_11 : inR 11 := by decide +kernel
theorem kz_12 : (12 : Int32) = zI 12 := by decide +kernel
theorem ir_12 : inR 12 := by decide +kernel
theorem kz_13 : (13 : Int32) = zI 13 := by decide +kernel
theorem ir_13 : inR 13 := by decide +kernel
theorem kz_14 : (14 : Int32) = zI 14 := by decide +kernel
theorem ir_14 : inR 14 := by decide +kernel
theorem kz_15 : (15 : Int32) = zI 15 := by decide +kernel
theorem ir_15 : inR 15 := by decide +kernel
theorem kz_16 : (16 : Int32) = zI 16 := by decide +kernel
theorem ir_16 : inR 16 := by decide +kernel
theorem kz_17 : (17 : Int32) = zI 17 := by decide +kernel
theorem ir_17 : inR 17 := by decide +kernel
theorem kz_20 : (20 : Int32) = zI 20 := by decide +kernel
theorem ir_20 : inR 20 := by decide +kernel
theorem kz_24 : (24 : Int32) = zI 24 := by decide +kernel
theorem ir_24 : inR 24 := by decide +kernel
theorem kz_48 : (48 : Int32) = zI 48 := by decide +kernel
theorem ir_48 : inR 48 := by decide +kernel
theorem kz_50 : (50 : Int32) = zI 50 := by decide +kernel
theorem ir_50 : inR 50 := by decide +kernel
theorem kz_64 : (64 : Int32) = zI 64 := by decide +kernel
theorem ir_64 : inR 64 := by decide +kernel
theorem kz_100 : (100 : Int32) = zI 100 := by decide +kernel
theorem ir_100 : inR 100 := by decide +kernel
theorem kz_101 : (101 : Int32) = zI 101 := by decide +kernel
theorem ir_101 : inR 101 := by decide +kernel
theorem kz_111 : (111 : Int32) = zI 111 := by decide +kernel
theorem ir_111 : inR 111 := by decide +kernel
theorem kz_127 : (127 : Int32) = zI 127 := by decide +kernel
theorem ir_127 : inR 127 := by decide +kernel
theorem kz_256 : (256 : Int32) = zI 256 := by decide +kernel
theorem ir_256 : inR 256 := by decide +kernel
theorem kz_400 : (400 : Int32) = zI 400 := by decide +kernel
theorem ir_400 : inR 400 := by decide +kernel
theorem kz_660 : (660 : Int32) = zI 660 := by decide +kernel
theorem ir_660 : inR 660 := by decide +kernel
theorem kz_800 : (800 : Int32) = zI 800 := by decide +kernel
theorem ir_800 : inR 800 := by decide +kernel
theorem kz_1000 : (1000 : Int32) = zI 1000 := by decide +kernel
theorem ir_1000 : inR 1000 := by decide +kernel
theorem kz_2000 : (2000 : Int32) = zI 2000 := by decide +kernel
theorem ir_2000 : inR 2000 := by decide +kernel
theorem kz_12345 : (12345 : Int32) = zI 12345 := by decide +kernel
theorem ir_12345 : inR 12345 := by decide +kernel
theorem kz_536870912 : (536870912 : Int32) = zI 536870912 := by decide +kernel
theorem ir_536870912 : inR 536870912 := by decide +kernel
theorem kz_1103515245 : (1103515245 : Int32) = zI 1103515245 := by decide +kernel
theorem ir_1103515245 : inR 1103515245 := by decide +kernel
theorem kz_2000000000 : (2000000000 : Int32) = zI 2000000000 := by decide +kernel
theorem ir_2000000000 : inR 2000000000 := by decide +kernel
