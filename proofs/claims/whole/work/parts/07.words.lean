theorem mi_X0_of : Mi yX0_of cX0_of 2 (some .int) 1 := ⟨tg_2 (List.mem_of_getElem? (i := 183) rfl) rfl, tg_1 (List.mem_of_getElem? (i := 3) rfl) rfl, by decide +kernel, by decide +kernel, by decide +kernel⟩
theorem mv_X0_of : Mv yX0_of := ⟨tg_2 (List.mem_of_getElem? (i := 181) rfl) rfl, tg_2 (List.mem_of_getElem? (i := 182) rfl) rfl⟩
theorem mi_X0_allows : Mi yX0_allows cX0_allows 3 (some .boolean) 2 := ⟨tg_3 (List.mem_of_getElem? (i := 2) rfl) rfl, tg_1 (List.mem_of_getElem? (i := 3) rfl) rfl, by decide +kernel, by decide +kernel, by decide +kernel⟩
theorem mv_X0_allows : Mv yX0_allows := ⟨tg_3 (List.mem_of_getElem? (i := 0) rfl) rfl, tg_3 (List.mem_of_getElem? (i := 1) rfl) rfl⟩
theorem mi_X0_put : Mi yX0_put cX0_put 3 none 2 := ⟨tg_3 (List.mem_of_getElem? (i := 11) rfl) rfl, tg_1 (List.mem_of_getElem? (i := 3) rfl) rfl, by decide +kernel, by decide +kernel, by decide +kernel⟩
theorem mv_X0_put : Mv yX0_put := ⟨tg_3 (List.mem_of_getElem? (i := 9) rfl) rfl, tg_3 (List.mem_of_getElem? (i := 10) rfl) rfl⟩
theorem mi_X1_frameCount : Mi yX1_frameCount cX1_frameCount 1 (some .int) 0 := ⟨tg_3 (List.mem_of_getElem? (i := 112) rfl) rfl, tg_1 (List.mem_of_getElem? (i := 5) rfl) rfl, by decide +kernel, by decide +kernel, by decide +kernel⟩
theorem mv_X1_frameCount : Mv yX1_frameCount := ⟨tg_3 (List.mem_of_getElem? (i := 110) rfl) rfl, tg_3 (List.mem_of_getElem? (i := 111) rfl) rfl⟩
theorem mi_X1_has : Mi yX1_has cX1_has 3 (some .boolean) 2 := ⟨tg_3 (List.mem_of_getElem? (i := 91) rfl) rfl, tg_1 (List.mem_of_getElem? (i := 5) rfl) rfl, by decide +kernel, by decide +kernel, by decide +kernel⟩
theorem mv_X1_has : Mv yX1_has := ⟨tg_3 (List.mem_of_getElem? (i := 89) rfl) rfl, tg_3 (List.mem_of_getElem? (i := 90) rfl) rfl⟩
theorem mi_X1_sizeOf : Mi yX1_sizeOf cX1_sizeOf 2 (some .int) 1 := ⟨tg_3 (List.mem_of_getElem? (i := 103) rfl) rfl, tg_1 (List.mem_of_getElem? (i := 5) rfl) rfl, by decide +kernel, by decide +kernel, by decide +kernel⟩
theorem mv_X1_sizeOf : Mv yX1_sizeOf := ⟨tg_3 (List.mem_of_getElem? (i := 101) rfl) rfl, tg_3 (List.mem_of_getElem? (i := 102) rfl) rfl⟩
theorem mi_X1_lagOf : Mi yX1_lagOf cX1_lagOf 3 (some .int) 2 := ⟨tg_3 (List.mem_of_getElem? (i := 87) rfl) rfl, tg_1 (List.mem_of_getElem? (i := 5) rfl) rfl, by decide +kernel, by decide +kernel, by decide +kernel⟩
theorem mv_X1_lagOf : Mv yX1_lagOf := ⟨tg_3 (List.mem_of_getElem? (i := 85) rfl) rfl, tg_3 (List.mem_of_getElem? (i := 86) rfl) rfl⟩
theorem mi_X1_ownOf : Mi yX1_ownOf cX1_ownOf 3 (some .int) 2 := ⟨tg_3 (List.mem_of_getElem? (i := 136) rfl) rfl, tg_1 (List.mem_of_getElem? (i := 5) rfl) rfl, by decide +kernel, by decide +kernel, by decide +kernel⟩
theorem mv_X1_ownOf : Mv yX1_ownOf := ⟨tg_3 (List.mem_of_getElem? (i := 134) rfl) rfl, tg_3 (List.mem_of_getElem? (i := 135) rfl) rfl⟩
theorem mi_X1_halfOf : Mi yX1_halfOf cX1_halfOf 3 (some .int) 2 := ⟨tg_3 (List.mem_of_getElem? (i := 209) rfl) rfl, tg_1 (List.mem_of_getElem? (i := 5) rfl) rfl, by decide +kernel, by decide +kernel, by decide +kernel⟩
theorem mv_X1_halfOf : Mv yX1_halfOf := ⟨tg_3 (List.mem_of_getElem? (i := 207) rfl) rfl, tg_3 (List.mem_of_getElem? (i := 208) rfl) rfl⟩
theorem mi_X1_cheaperThan : Mi yX1_cheaperThan cX1_cheaperThan 5 (some .int) 2 := ⟨tg_5 (List.mem_of_getElem? (i := 20) rfl) rfl, tg_1 (List.mem_of_getElem? (i := 5) rfl) rfl, by decide +kernel, by decide +kernel, by decide +kernel⟩
theorem mv_X1_cheaperThan : Mv yX1_cheaperThan := ⟨tg_5 (List.mem_of_getElem? (i := 18) rfl) rfl, tg_5 (List.mem_of_getElem? (i := 19) rfl) rfl⟩
theorem mi_X1_find : Mi yX1_find cX1_find 4 none 0 := ⟨tg_3 (List.mem_of_getElem? (i := 57) rfl) rfl, tg_1 (List.mem_of_getElem? (i := 5) rfl) rfl, by decide +kernel, by decide +kernel, by decide +kernel⟩
theorem mv_X1_find : Mv yX1_find := ⟨tg_3 (List.mem_of_getElem? (i := 55) rfl) rfl, tg_3 (List.mem_of_getElem? (i := 56) rfl) rfl⟩
theorem mi_X1_keepDips : Mi yX1_keepDips cX1_keepDips 6 (some .int) 1 := ⟨tg_3 (List.mem_of_getElem? (i := 67) rfl) rfl, tg_1 (List.mem_of_getElem? (i := 5) rfl) rfl, by decide +kernel, by decide +kernel, by decide +kernel⟩
theorem mv_X1_keepDips : Mv yX1_keepDips := ⟨tg_3 (List.mem_of_getElem? (i := 66) rfl) rfl, tg_s (q := (yX1_keepDips, 7)) (List.mem_append_left _ (List.mem_of_getElem? (i := 4) (by decide +kernel) : (yX1_keepDips, 7) ∈ lw_privs_1)) (by decide +kernel)⟩
theorem mi_X1_isDip : Mi yX1_isDip cX1_isDip 4 (some .boolean) 2 := ⟨tg_3 (List.mem_of_getElem? (i := 72) rfl) rfl, tg_1 (List.mem_of_getElem? (i := 5) rfl) rfl, by decide +kernel, by decide +kernel, by decide +kernel⟩
theorem mv_X1_isDip : Mv yX1_isDip := ⟨tg_3 (List.mem_of_getElem? (i := 71) rfl) rfl, tg_s (q := (yX1_isDip, 7)) (List.mem_append_left _ (List.mem_of_getElem? (i := 5) (by decide +kernel) : (yX1_isDip, 7) ∈ lw_privs_1)) (by decide +kernel)⟩
theorem mi_X1_dropWorst : Mi yX1_dropWorst cX1_dropWorst 5 none 2 := ⟨tg_3 (List.mem_of_getElem? (i := 83) rfl) rfl, tg_1 (List.mem_of_getElem? (i := 5) rfl) rfl, by decide +kernel, by decide +kernel, by decide +kernel⟩
theorem mv_X1_dropWorst : Mv yX1_dropWorst := ⟨tg_3 (List.mem_of_getElem? (i := 82) rfl) rfl, tg_s (q := (yX1_dropWorst, 7)) (List.mem_append_left _ (List.mem_of_getElem? (i := 6) (by decide +kernel) : (yX1_dropWorst, 7) ∈ lw_privs_1)) (by decide +kernel)⟩
theorem mi_X1_ownCost : Mi yX1_ownCost cX1_ownCost 3 (some .int) 2 := ⟨tg_3 (List.mem_of_getElem? (i := 95) rfl) rfl, tg_1 (List.mem_of_getElem? (i := 5) rfl) rfl, by decide +kernel, by decide +kernel, by decide +kernel⟩
theorem mv_X1_ownCost : Mv yX1_ownCost := ⟨tg_3 (List.mem_of_getElem? (i := 94) rfl) rfl, tg_s (q := (yX1_ownCost, 7)) (List.mem_append_left _ (List.mem_of_getElem? (i := 7) (by decide +kernel) : (yX1_ownCost, 7) ∈ lw_privs_1)) (by decide +kernel)⟩
theorem mi_X1_findHalf : Mi yX1_findHalf cX1_findHalf 6 (some .int) 2 := ⟨tg_3 (List.mem_of_getElem? (i := 99) rfl) rfl, tg_1 (List.mem_of_getElem? (i := 5) rfl) rfl, by decide +kernel, by decide +kernel, by decide +kernel⟩
theorem mv_X1_findHalf : Mv yX1_findHalf := ⟨tg_3 (List.mem_of_getElem? (i := 98) rfl) rfl, tg_s (q := (yX1_findHalf, 7)) (List.mem_append_left _ (List.mem_of_getElem? (i := 8) (by decide +kernel) : (yX1_findHalf, 7) ∈ lw_privs_1)) (by decide +kernel)⟩
theorem mi_X2_size : Mi yX2_size cX2_size 2 (some .int) 0 := ⟨tg_3 (List.mem_of_getElem? (i := 32) rfl) rfl, tg_1 (List.mem_of_getElem? (i := 4) rfl) rfl, by decide +kernel, by decide +kernel, by decide +kernel⟩
theorem mv_X2_size : Mv yX2_size := ⟨tg_3 (List.mem_of_getElem? (i := 30) rfl) rfl, tg_3 (List.mem_of_getElem? (i := 31) rfl) rfl⟩
theorem mi_X2_has : Mi yX2_has cX2_has 2 (some .boolean) 1 := ⟨tg_4 (List.mem_of_getElem? (i := 212) rfl) rfl, tg_1 (List.mem_of_getElem? (i := 4) rfl) rfl, by decide +kernel, by decide +kernel, by decide +kernel⟩
theorem mv_X2_has : Mv yX2_has := ⟨tg_4 (List.mem_of_getElem? (i := 210) rfl) rfl, tg_4 (List.mem_of_getElem? (i := 211) rfl) rfl⟩
theorem mi_X2_diffAt : Mi yX2_diffAt cX2_diffAt 3 (some .int) 2 := ⟨tg_4 (List.mem_of_getElem? (i := 221) rfl) rfl, tg_1 (List.mem_of_getElem? (i := 4) rfl) rfl, by decide +kernel, by decide +kernel, by decide +kernel⟩
theorem mv_X2_diffAt : Mv yX2_diffAt := ⟨tg_4 (List.mem_of_getElem? (i := 219) rfl) rfl, tg_4 (List.mem_of_getElem? (i := 220) rfl) rfl⟩
theorem mi_X2_relAt : Mi yX2_relAt cX2_relAt 3 (some .int) 2 := ⟨tg_3 (List.mem_of_getElem? (i := 76) rfl) rfl, tg_1 (List.mem_of_getElem? (i := 4) rfl) rfl, by decide +kernel, by decide +kernel, by decide +kernel⟩
theorem mv_X2_relAt : Mv yX2_relAt := ⟨tg_3 (List.mem_of_getElem? (i := 74) rfl) rfl, tg_3 (List.mem_of_getElem? (i := 75) rfl) rfl⟩
theorem mi_X2_loudAt : Mi yX2_loudAt cX2_loudAt 2 (some .int) 1 := ⟨tg_3 (List.mem_of_getElem? (i := 62) rfl) rfl, tg_1 (List.mem_of_getElem? (i := 4) rfl) rfl, by decide +kernel, by decide +kernel, by decide +kernel⟩
theorem mv_X2_loudAt : Mv yX2_loudAt := ⟨tg_3 (List.mem_of_getElem? (i := 60) rfl) rfl, tg_3 (List.mem_of_getElem? (i := 61) rfl) rfl⟩
theorem mi_X2_find : Mi yX2_find cX2_find 3 none 0 := ⟨tg_3 (List.mem_of_getElem? (i := 28) rfl) rfl, tg_1 (List.mem_of_getElem? (i := 4) rfl) rfl, by decide +kernel, by decide +kernel, by decide +kernel⟩
theorem mv_X2_find : Mv yX2_find := ⟨tg_3 (List.mem_of_getElem? (i := 26) rfl) rfl, tg_3 (List.mem_of_getElem? (i := 27) rfl) rfl⟩
theorem mi_X2_measure : Mi yX2_measure cX2_measure 8 none 1 := ⟨tg_3 (List.mem_of_getElem? (i := 41) rfl) rfl, tg_1 (List.mem_of_getElem? (i := 4) rfl) rfl, by decide +kernel, by decide +kernel, by decide +kernel⟩
theorem mv_X2_measure : Mv yX2_measure := ⟨tg_3 (List.mem_of_getElem? (i := 39) rfl) rfl, tg_3 (List.mem_of_getElem? (i := 40) rfl) rfl⟩
theorem mi_X2_forgetAll : Mi yX2_forgetAll cX2_forgetAll 2 none 0 := ⟨tg_3 (List.mem_of_getElem? (i := 16) rfl) rfl, tg_1 (List.mem_of_getElem? (i := 4) rfl) rfl, by decide +kernel, by decide +kernel, by decide +kernel⟩
theorem mv_X2_forgetAll : Mv yX2_forgetAll := ⟨tg_3 (List.mem_of_getElem? (i := 14) rfl) rfl, tg_3 (List.mem_of_getElem? (i := 15) rfl) rfl⟩
theorem mi_X2_forgetThose : Mi yX2_forgetThose cX2_forgetThose 5 none 2 := ⟨tg_2 (List.mem_of_getElem? (i := 175) rfl) rfl, tg_1 (List.mem_of_getElem? (i := 4) rfl) rfl, by decide +kernel, by decide +kernel, by decide +kernel⟩
theorem mv_X2_forgetThose : Mv yX2_forgetThose := ⟨tg_2 (List.mem_of_getElem? (i := 173) rfl) rfl, tg_2 (List.mem_of_getElem? (i := 174) rfl) rfl⟩
theorem mi_X2_reach : Mi yX2_reach cX2_reach 1 (some .int) 0 := ⟨tg_2 (List.mem_of_getElem? (i := 179) rfl) rfl, tg_1 (List.mem_of_getElem? (i := 4) rfl) rfl, by decide +kernel, by decide +kernel, by decide +kernel⟩
theorem mv_X2_reach : Mv yX2_reach := ⟨tg_2 (List.mem_of_getElem? (i := 178) rfl) rfl, tg_s (q := (yX2_reach, 6)) (List.mem_append_left _ (List.mem_of_getElem? (i := 1) (by decide +kernel) : (yX2_reach, 6) ∈ lw_privs_1)) (by decide +kernel)⟩
theorem mi_X3_find : Mi yX3_find cX3_find 2 none 0 := ⟨tg_4 (List.mem_of_getElem? (i := 38) rfl) rfl, tg_1 (List.mem_of_getElem? (i := 11) rfl) rfl, by decide +kernel, by decide +kernel, by decide +kernel⟩
theorem mv_X3_find : Mv yX3_find := ⟨tg_4 (List.mem_of_getElem? (i := 36) rfl) rfl, tg_4 (List.mem_of_getElem? (i := 37) rfl) rfl⟩
theorem mi_X3_size : Mi yX3_size cX3_size 1 (some .int) 0 := ⟨tg_4 (List.mem_of_getElem? (i := 79) rfl) rfl, tg_1 (List.mem_of_getElem? (i := 11) rfl) rfl, by decide +kernel, by decide +kernel, by decide +kernel⟩
theorem mv_X3_size : Mv yX3_size := ⟨tg_4 (List.mem_of_getElem? (i := 77) rfl) rfl, tg_4 (List.mem_of_getElem? (i := 78) rfl) rfl⟩
theorem mi_X3_has : Mi yX3_has cX3_has 2 (some .boolean) 1 := ⟨tg_4 (List.mem_of_getElem? (i := 95) rfl) rfl, tg_1 (List.mem_of_getElem? (i := 11) rfl) rfl, by decide +kernel, by decide +kernel, by decide +kernel⟩
theorem mv_X3_has : Mv yX3_has := ⟨tg_4 (List.mem_of_getElem? (i := 93) rfl) rfl, tg_4 (List.mem_of_getElem? (i := 94) rfl) rfl⟩
theorem mi_X3_at : Mi yX3_at cX3_at 2 (some .int) 1 := ⟨tg_4 (List.mem_of_getElem? (i := 91) rfl) rfl, tg_1 (List.mem_of_getElem? (i := 11) rfl) rfl, by decide +kernel, by decide +kernel, by decide +kernel⟩
theorem mv_X3_at : Mv yX3_at := ⟨tg_4 (List.mem_of_getElem? (i := 89) rfl) rfl, tg_4 (List.mem_of_getElem? (i := 90) rfl) rfl⟩
theorem mi_X3_sizeIn : Mi yX3_sizeIn cX3_sizeIn 2 (some .int) 1 := ⟨tg_5 (List.mem_of_getElem? (i := 218) rfl) rfl, tg_1 (List.mem_of_getElem? (i := 11) rfl) rfl, by decide +kernel, by decide +kernel, by decide +kernel⟩
theorem mv_X3_sizeIn : Mv yX3_sizeIn := ⟨tg_5 (List.mem_of_getElem? (i := 216) rfl) rfl, tg_5 (List.mem_of_getElem? (i := 217) rfl) rfl⟩
theorem mi_X3_worthIn : Mi yX3_worthIn cX3_worthIn 2 (some .int) 1 := ⟨tg_5 (List.mem_of_getElem? (i := 223) rfl) rfl, tg_1 (List.mem_of_getElem? (i := 11) rfl) rfl, by decide +kernel, by decide +kernel, by decide +kernel⟩
theorem mv_X3_worthIn : Mv yX3_worthIn := ⟨tg_5 (List.mem_of_getElem? (i := 221) rfl) rfl, tg_5 (List.mem_of_getElem? (i := 222) rfl) rfl⟩
theorem mi_X3_nearest : Mi yX3_nearest cX3_nearest 10 (some .int) 3 := ⟨tg_4 (List.mem_of_getElem? (i := 87) rfl) rfl, tg_1 (List.mem_of_getElem? (i := 11) rfl) rfl, by decide +kernel, by decide +kernel, by decide +kernel⟩
theorem mv_X3_nearest : Mv yX3_nearest := ⟨tg_4 (List.mem_of_getElem? (i := 85) rfl) rfl, tg_4 (List.mem_of_getElem? (i := 86) rfl) rfl⟩
theorem mi_X3_gapBehind : Mi yX3_gapBehind cX3_gapBehind 2 (some .int) 1 := ⟨tg_4 (List.mem_of_getElem? (i := 115) rfl) rfl, tg_1 (List.mem_of_getElem? (i := 11) rfl) rfl, by decide +kernel, by decide +kernel, by decide +kernel⟩
theorem mv_X3_gapBehind : Mv yX3_gapBehind := ⟨tg_4 (List.mem_of_getElem? (i := 113) rfl) rfl, tg_4 (List.mem_of_getElem? (i := 114) rfl) rfl⟩
theorem mi_X3_gapCount : Mi yX3_gapCount cX3_gapCount 3 (some .int) 0 := ⟨tg_6 (List.mem_of_getElem? (i := 122) rfl) rfl, tg_1 (List.mem_of_getElem? (i := 11) rfl) rfl, by decide +kernel, by decide +kernel, by decide +kernel⟩
theorem mv_X3_gapCount : Mv yX3_gapCount := ⟨tg_6 (List.mem_of_getElem? (i := 120) rfl) rfl, tg_6 (List.mem_of_getElem? (i := 121) rfl) rfl⟩
theorem mi_X3_gapSum : Mi yX3_gapSum cX3_gapSum 3 (some .int) 0 := ⟨tg_6 (List.mem_of_getElem? (i := 157) rfl) rfl, tg_1 (List.mem_of_getElem? (i := 11) rfl) rfl, by decide +kernel, by decide +kernel, by decide +kernel⟩
theorem mv_X3_gapSum : Mv yX3_gapSum := ⟨tg_6 (List.mem_of_getElem? (i := 155) rfl) rfl, tg_6 (List.mem_of_getElem? (i := 156) rfl) rfl⟩
theorem mi_X3_longestGap : Mi yX3_longestGap cX3_longestGap 3 (some .int) 0 := ⟨tg_6 (List.mem_of_getElem? (i := 134) rfl) rfl, tg_1 (List.mem_of_getElem? (i := 11) rfl) rfl, by decide +kernel, by decide +kernel, by decide +kernel⟩
theorem mv_X3_longestGap : Mv yX3_longestGap := ⟨tg_6 (List.mem_of_getElem? (i := 132) rfl) rfl, tg_6 (List.mem_of_getElem? (i := 133) rfl) rfl⟩
theorem mi_X3_shortestGap : Mi yX3_shortestGap cX3_shortestGap 4 (some .int) 0 := ⟨tg_6 (List.mem_of_getElem? (i := 139) rfl) rfl, tg_1 (List.mem_of_getElem? (i := 11) rfl) rfl, by decide +kernel, by decide +kernel, by decide +kernel⟩
theorem mv_X3_shortestGap : Mv yX3_shortestGap := ⟨tg_6 (List.mem_of_getElem? (i := 137) rfl) rfl, tg_6 (List.mem_of_getElem? (i := 138) rfl) rfl⟩
theorem mi_X3_jitter : Mi yX3_jitter cX3_jitter 3 (some .int) 0 := ⟨tg_6 (List.mem_of_getElem? (i := 126) rfl) rfl, tg_1 (List.mem_of_getElem? (i := 11) rfl) rfl, by decide +kernel, by decide +kernel, by decide +kernel⟩
theorem mv_X3_jitter : Mv yX3_jitter := ⟨tg_6 (List.mem_of_getElem? (i := 124) rfl) rfl, tg_6 (List.mem_of_getElem? (i := 125) rfl) rfl⟩
theorem mi_X3_shimmer : Mi yX3_shimmer cX3_shimmer 3 (some .int) 0 := ⟨tg_6 (List.mem_of_getElem? (i := 130) rfl) rfl, tg_1 (List.mem_of_getElem? (i := 11) rfl) rfl, by decide +kernel, by decide +kernel, by decide +kernel⟩
theorem mv_X3_shimmer : Mv yX3_shimmer := ⟨tg_6 (List.mem_of_getElem? (i := 128) rfl) rfl, tg_6 (List.mem_of_getElem? (i := 129) rfl) rfl⟩
theorem mi_X3_roughness : Mi yX3_roughness cX3_roughness 5 (some .int) 1 := ⟨tg_4 (List.mem_of_getElem? (i := 111) rfl) rfl, tg_1 (List.mem_of_getElem? (i := 11) rfl) rfl, by decide +kernel, by decide +kernel, by decide +kernel⟩
theorem mv_X3_roughness : Mv yX3_roughness := ⟨tg_4 (List.mem_of_getElem? (i := 109) rfl) rfl, tg_4 (List.mem_of_getElem? (i := 110) rfl) rfl⟩
theorem mi_X3_renewed : Mi yX3_renewed cX3_renewed 14 (some .int) 3 := ⟨tg_6 (List.mem_of_getElem? (i := 168) rfl) rfl, tg_1 (List.mem_of_getElem? (i := 11) rfl) rfl, by decide +kernel, by decide +kernel, by decide +kernel⟩
theorem mv_X3_renewed : Mv yX3_renewed := ⟨tg_6 (List.mem_of_getElem? (i := 166) rfl) rfl, tg_6 (List.mem_of_getElem? (i := 167) rfl) rfl⟩
theorem mi_X3_grasp : Mi yX3_grasp cX3_grasp 2 (some .int) 1 := ⟨tg_6 (List.mem_of_getElem? (i := 177) rfl) rfl, tg_1 (List.mem_of_getElem? (i := 11) rfl) rfl, by decide +kernel, by decide +kernel, by decide +kernel⟩
theorem mv_X3_grasp : Mv yX3_grasp := ⟨tg_6 (List.mem_of_getElem? (i := 176) rfl) rfl, tg_s (q := (yX3_grasp, 10)) (List.mem_append_right _ (List.mem_append_right _ (List.mem_append_left _ (List.mem_of_getElem? (i := 1) (by decide +kernel) : (yX3_grasp, 10) ∈ lw_privs_3)))) (by decide +kernel)⟩
theorem mi_X3_findWorths : Mi yX3_findWorths cX3_findWorths 10 none 2 := ⟨tg_4 (List.mem_of_getElem? (i := 62) rfl) rfl, tg_1 (List.mem_of_getElem? (i := 11) rfl) rfl, by decide +kernel, by decide +kernel, by decide +kernel⟩
theorem mv_X3_findWorths : Mv yX3_findWorths := ⟨tg_4 (List.mem_of_getElem? (i := 61) rfl) rfl, tg_s (q := (yX3_findWorths, 10)) (List.mem_append_right _ (List.mem_append_left _ (List.mem_of_getElem? (i := 5) (by decide +kernel) : (yX3_findWorths, 10) ∈ lw_privs_2))) (by decide +kernel)⟩
theorem mi_X3_markSpan : Mi yX3_markSpan cX3_markSpan 6 none 3 := ⟨tg_4 (List.mem_of_getElem? (i := 75) rfl) rfl, tg_1 (List.mem_of_getElem? (i := 11) rfl) rfl, by decide +kernel, by decide +kernel, by decide +kernel⟩
theorem mv_X3_markSpan : Mv yX3_markSpan := ⟨tg_4 (List.mem_of_getElem? (i := 74) rfl) rfl, tg_s (q := (yX3_markSpan, 10)) (List.mem_append_right _ (List.mem_append_left _ (List.mem_of_getElem? (i := 6) (by decide +kernel) : (yX3_markSpan, 10) ∈ lw_privs_2))) (by decide +kernel)⟩
theorem mi_X4_find : Mi yX4_find cX4_find 2 none 0 := ⟨tg_3 (List.mem_of_getElem? (i := 175) rfl) rfl, tg_1 (List.mem_of_getElem? (i := 10) rfl) rfl, by decide +kernel, by decide +kernel, by decide +kernel⟩
theorem mv_X4_find : Mv yX4_find := ⟨tg_3 (List.mem_of_getElem? (i := 173) rfl) rfl, tg_3 (List.mem_of_getElem? (i := 174) rfl) rfl⟩
theorem mi_X4_size : Mi yX4_size cX4_size 1 (some .int) 0 := ⟨tg_3 (List.mem_of_getElem? (i := 233) rfl) rfl, tg_1 (List.mem_of_getElem? (i := 10) rfl) rfl, by decide +kernel, by decide +kernel, by decide +kernel⟩
theorem mv_X4_size : Mv yX4_size := ⟨tg_3 (List.mem_of_getElem? (i := 231) rfl) rfl, tg_3 (List.mem_of_getElem? (i := 232) rfl) rfl⟩
theorem mi_X4_has : Mi yX4_has cX4_has 2 (some .boolean) 1 := ⟨tg_5 (List.mem_of_getElem? (i := 234) rfl) rfl, tg_1 (List.mem_of_getElem? (i := 10) rfl) rfl, by decide +kernel, by decide +kernel, by decide +kernel⟩
theorem mv_X4_has : Mv yX4_has := ⟨tg_5 (List.mem_of_getElem? (i := 232) rfl) rfl, tg_5 (List.mem_of_getElem? (i := 233) rfl) rfl⟩
theorem mi_X4_firstFrame : Mi yX4_firstFrame cX4_firstFrame 2 (some .int) 1 := ⟨tg_5 (List.mem_of_getElem? (i := 238) rfl) rfl, tg_1 (List.mem_of_getElem? (i := 10) rfl) rfl, by decide +kernel, by decide +kernel, by decide +kernel⟩
theorem mv_X4_firstFrame : Mv yX4_firstFrame := ⟨tg_5 (List.mem_of_getElem? (i := 236) rfl) rfl, tg_5 (List.mem_of_getElem? (i := 237) rfl) rfl⟩
theorem mi_X4_length : Mi yX4_length cX4_length 2 (some .int) 1 := ⟨tg_6 (List.mem_of_getElem? (i := 3) rfl) rfl, tg_1 (List.mem_of_getElem? (i := 10) rfl) rfl, by decide +kernel, by decide +kernel, by decide +kernel⟩
theorem mv_X4_length : Mv yX4_length := ⟨tg_6 (List.mem_of_getElem? (i := 1) rfl) rfl, tg_6 (List.mem_of_getElem? (i := 2) rfl) rfl⟩
theorem mi_X4_lagOf : Mi yX4_lagOf cX4_lagOf 2 (some .int) 1 := ⟨tg_6 (List.mem_of_getElem? (i := 7) rfl) rfl, tg_1 (List.mem_of_getElem? (i := 10) rfl) rfl, by decide +kernel, by decide +kernel, by decide +kernel⟩
theorem mv_X4_lagOf : Mv yX4_lagOf := ⟨tg_6 (List.mem_of_getElem? (i := 5) rfl) rfl, tg_6 (List.mem_of_getElem? (i := 6) rfl) rfl⟩
theorem mi_X4_steadyFirst : Mi yX4_steadyFirst cX4_steadyFirst 1 (some .int) 0 := ⟨tg_6 (List.mem_of_getElem? (i := 18) rfl) rfl, tg_1 (List.mem_of_getElem? (i := 10) rfl) rfl, by decide +kernel, by decide +kernel, by decide +kernel⟩
theorem mv_X4_steadyFirst : Mv yX4_steadyFirst := ⟨tg_6 (List.mem_of_getElem? (i := 16) rfl) rfl, tg_6 (List.mem_of_getElem? (i := 17) rfl) rfl⟩
theorem mi_X4_steadyLength : Mi yX4_steadyLength cX4_steadyLength 1 (some .int) 0 := ⟨tg_6 (List.mem_of_getElem? (i := 22) rfl) rfl, tg_1 (List.mem_of_getElem? (i := 10) rfl) rfl, by decide +kernel, by decide +kernel, by decide +kernel⟩
theorem mv_X4_steadyLength : Mv yX4_steadyLength := ⟨tg_6 (List.mem_of_getElem? (i := 20) rfl) rfl, tg_6 (List.mem_of_getElem? (i := 21) rfl) rfl⟩
theorem mi_X4_steadyLag : Mi yX4_steadyLag cX4_steadyLag 1 (some .int) 0 := ⟨tg_6 (List.mem_of_getElem? (i := 26) rfl) rfl, tg_1 (List.mem_of_getElem? (i := 10) rfl) rfl, by decide +kernel, by decide +kernel, by decide +kernel⟩
theorem mv_X4_steadyLag : Mv yX4_steadyLag := ⟨tg_6 (List.mem_of_getElem? (i := 24) rfl) rfl, tg_6 (List.mem_of_getElem? (i := 25) rfl) rfl⟩
theorem mi_X4_unlikeLags : Mi yX4_unlikeLags cX4_unlikeLags 3 (some .int) 0 := ⟨tg_4 (List.mem_of_getElem? (i := 1) rfl) rfl, tg_1 (List.mem_of_getElem? (i := 10) rfl) rfl, by decide +kernel, by decide +kernel, by decide +kernel⟩
theorem mv_X4_unlikeLags : Mv yX4_unlikeLags := ⟨tg_3 (List.mem_of_getElem? (i := 239) rfl) rfl, tg_4 (List.mem_of_getElem? (i := 0) rfl) rfl⟩
theorem mi_X4_unlikeLag : Mi yX4_unlikeLag cX4_unlikeLag 4 (some .int) 1 := ⟨tg_6 (List.mem_of_getElem? (i := 37) rfl) rfl, tg_1 (List.mem_of_getElem? (i := 10) rfl) rfl, by decide +kernel, by decide +kernel, by decide +kernel⟩
theorem mv_X4_unlikeLag : Mv yX4_unlikeLag := ⟨tg_6 (List.mem_of_getElem? (i := 35) rfl) rfl, tg_6 (List.mem_of_getElem? (i := 36) rfl) rfl⟩
theorem mi_X4_framesWith : Mi yX4_framesWith cX4_framesWith 2 (some .int) 1 := ⟨tg_6 (List.mem_of_getElem? (i := 41) rfl) rfl, tg_1 (List.mem_of_getElem? (i := 10) rfl) rfl, by decide +kernel, by decide +kernel, by decide +kernel⟩
theorem mv_X4_framesWith : Mv yX4_framesWith := ⟨tg_6 (List.mem_of_getElem? (i := 39) rfl) rfl, tg_6 (List.mem_of_getElem? (i := 40) rfl) rfl⟩
theorem mi_X4_commonest : Mi yX4_commonest cX4_commonest 4 (some .int) 0 := ⟨tg_6 (List.mem_of_getElem? (i := 52) rfl) rfl, tg_1 (List.mem_of_getElem? (i := 10) rfl) rfl, by decide +kernel, by decide +kernel, by decide +kernel⟩
theorem mv_X4_commonest : Mv yX4_commonest := ⟨tg_6 (List.mem_of_getElem? (i := 50) rfl) rfl, tg_6 (List.mem_of_getElem? (i := 51) rfl) rfl⟩
theorem mi_X4_middleOfAll : Mi yX4_middleOfAll cX4_middleOfAll 1 (some .int) 0 := ⟨tg_6 (List.mem_of_getElem? (i := 56) rfl) rfl, tg_1 (List.mem_of_getElem? (i := 10) rfl) rfl, by decide +kernel, by decide +kernel, by decide +kernel⟩
theorem mv_X4_middleOfAll : Mv yX4_middleOfAll := ⟨tg_6 (List.mem_of_getElem? (i := 54) rfl) rfl, tg_6 (List.mem_of_getElem? (i := 55) rfl) rfl⟩
theorem mi_X4_findNotes : Mi yX4_findNotes cX4_findNotes 4 none 0 := ⟨tg_3 (List.mem_of_getElem? (i := 179) rfl) rfl, tg_1 (List.mem_of_getElem? (i := 10) rfl) rfl, by decide +kernel, by decide +kernel, by decide +kernel⟩
theorem mv_X4_findNotes : Mv yX4_findNotes := ⟨tg_3 (List.mem_of_getElem? (i := 178) rfl) rfl, tg_s (q := (yX4_findNotes, 10)) (List.mem_append_left _ (List.mem_of_getElem? (i := 15) (by decide +kernel) : (yX4_findNotes, 10) ∈ lw_privs_1)) (by decide +kernel)⟩
theorem mi_X4_tallyLags : Mi yX4_tallyLags cX4_tallyLags 7 (some .int) 3 := ⟨tg_3 (List.mem_of_getElem? (i := 186) rfl) rfl, tg_1 (List.mem_of_getElem? (i := 10) rfl) rfl, by decide +kernel, by decide +kernel, by decide +kernel⟩
theorem mv_X4_tallyLags : Mv yX4_tallyLags := ⟨tg_3 (List.mem_of_getElem? (i := 185) rfl) rfl, tg_s (q := (yX4_tallyLags, 10)) (List.mem_append_right _ (List.mem_append_left _ (List.mem_of_getElem? (i := 0) (by decide +kernel) : (yX4_tallyLags, 10) ∈ lw_privs_2))) (by decide +kernel)⟩
theorem mi_X4_findSteady : Mi yX4_findSteady cX4_findSteady 3 none 0 := ⟨tg_3 (List.mem_of_getElem? (i := 193) rfl) rfl, tg_1 (List.mem_of_getElem? (i := 10) rfl) rfl, by decide +kernel, by decide +kernel, by decide +kernel⟩
theorem mv_X4_findSteady : Mv yX4_findSteady := ⟨tg_3 (List.mem_of_getElem? (i := 192) rfl) rfl, tg_s (q := (yX4_findSteady, 10)) (List.mem_append_right _ (List.mem_append_left _ (List.mem_of_getElem? (i := 1) (by decide +kernel) : (yX4_findSteady, 10) ∈ lw_privs_2))) (by decide +kernel)⟩
theorem mi_X5_find : Mi yX5_find cX5_find 3 none 0 := ⟨tg_3 (List.mem_of_getElem? (i := 108) rfl) rfl, tg_1 (List.mem_of_getElem? (i := 6) rfl) rfl, by decide +kernel, by decide +kernel, by decide +kernel⟩
theorem mv_X5_find : Mv yX5_find := ⟨tg_3 (List.mem_of_getElem? (i := 106) rfl) rfl, tg_3 (List.mem_of_getElem? (i := 107) rfl) rfl⟩
theorem mi_X5_size : Mi yX5_size cX5_size 1 (some .int) 0 := ⟨tg_3 (List.mem_of_getElem? (i := 167) rfl) rfl, tg_1 (List.mem_of_getElem? (i := 6) rfl) rfl, by decide +kernel, by decide +kernel, by decide +kernel⟩
theorem mv_X5_size : Mv yX5_size := ⟨tg_3 (List.mem_of_getElem? (i := 165) rfl) rfl, tg_3 (List.mem_of_getElem? (i := 166) rfl) rfl⟩
theorem mi_X5_chosenIn : Mi yX5_chosenIn cX5_chosenIn 2 (some .int) 1 := ⟨tg_5 (List.mem_of_getElem? (i := 67) rfl) rfl, tg_1 (List.mem_of_getElem? (i := 6) rfl) rfl, by decide +kernel, by decide +kernel, by decide +kernel⟩
theorem mv_X5_chosenIn : Mv yX5_chosenIn := ⟨tg_5 (List.mem_of_getElem? (i := 65) rfl) rfl, tg_5 (List.mem_of_getElem? (i := 66) rfl) rfl⟩
theorem mi_X5_lagIn : Mi yX5_lagIn cX5_lagIn 2 (some .int) 1 := ⟨tg_3 (List.mem_of_getElem? (i := 171) rfl) rfl, tg_1 (List.mem_of_getElem? (i := 6) rfl) rfl, by decide +kernel, by decide +kernel, by decide +kernel⟩
theorem mv_X5_lagIn : Mv yX5_lagIn := ⟨tg_3 (List.mem_of_getElem? (i := 169) rfl) rfl, tg_3 (List.mem_of_getElem? (i := 170) rfl) rfl⟩
theorem mi_X5_priceOf : Mi yX5_priceOf cX5_priceOf 2 (some .int) 1 := ⟨tg_5 (List.mem_of_getElem? (i := 46) rfl) rfl, tg_1 (List.mem_of_getElem? (i := 6) rfl) rfl, by decide +kernel, by decide +kernel, by decide +kernel⟩
theorem mv_X5_priceOf : Mv yX5_priceOf := ⟨tg_5 (List.mem_of_getElem? (i := 44) rfl) rfl, tg_5 (List.mem_of_getElem? (i := 45) rfl) rfl⟩
theorem mi_X5_doublesChosen : Mi yX5_doublesChosen cX5_doublesChosen 3 (some .int) 0 := ⟨tg_3 (List.mem_of_getElem? (i := 217) rfl) rfl, tg_1 (List.mem_of_getElem? (i := 6) rfl) rfl, by decide +kernel, by decide +kernel, by decide +kernel⟩
theorem mv_X5_doublesChosen : Mv yX5_doublesChosen := ⟨tg_3 (List.mem_of_getElem? (i := 215) rfl) rfl, tg_3 (List.mem_of_getElem? (i := 216) rfl) rfl⟩
theorem mi_X5_leastThrough : Mi yX5_leastThrough cX5_leastThrough 3 (some .int) 2 := ⟨tg_5 (List.mem_of_getElem? (i := 86) rfl) rfl, tg_1 (List.mem_of_getElem? (i := 6) rfl) rfl, by decide +kernel, by decide +kernel, by decide +kernel⟩
theorem mv_X5_leastThrough : Mv yX5_leastThrough := ⟨tg_5 (List.mem_of_getElem? (i := 84) rfl) rfl, tg_5 (List.mem_of_getElem? (i := 85) rfl) rfl⟩
theorem mi_X5_leastThroughTwo : Mi yX5_leastThroughTwo cX5_leastThroughTwo 6 (some .int) 4 := ⟨tg_5 (List.mem_of_getElem? (i := 117) rfl) rfl, tg_1 (List.mem_of_getElem? (i := 6) rfl) rfl, by decide +kernel, by decide +kernel, by decide +kernel⟩
theorem mv_X5_leastThroughTwo : Mv yX5_leastThroughTwo := ⟨tg_5 (List.mem_of_getElem? (i := 115) rfl) rfl, tg_5 (List.mem_of_getElem? (i := 116) rfl) rfl⟩
theorem mi_X5_leastWithoutDoubles : Mi yX5_leastWithoutDoubles cX5_leastWithoutDoubles 1 (some .int) 0 := ⟨tg_3 (List.mem_of_getElem? (i := 197) rfl) rfl, tg_1 (List.mem_of_getElem? (i := 6) rfl) rfl, by decide +kernel, by decide +kernel, by decide +kernel⟩
theorem mv_X5_leastWithoutDoubles : Mv yX5_leastWithoutDoubles := ⟨tg_3 (List.mem_of_getElem? (i := 195) rfl) rfl, tg_3 (List.mem_of_getElem? (i := 196) rfl) rfl⟩
theorem mi_X5_leastWith : Mi yX5_leastWith cX5_leastWith 3 (some .int) 2 := ⟨tg_5 (List.mem_of_getElem? (i := 195) rfl) rfl, tg_1 (List.mem_of_getElem? (i := 6) rfl) rfl, by decide +kernel, by decide +kernel, by decide +kernel⟩
theorem mv_X5_leastWith : Mv yX5_leastWith := ⟨tg_5 (List.mem_of_getElem? (i := 193) rfl) rfl, tg_5 (List.mem_of_getElem? (i := 194) rfl) rfl⟩
theorem mi_X5_chosenLive : Mi yX5_chosenLive cX5_chosenLive 6 (some .int) 2 := ⟨tg_5 (List.mem_of_getElem? (i := 128) rfl) rfl, tg_1 (List.mem_of_getElem? (i := 6) rfl) rfl, by decide +kernel, by decide +kernel, by decide +kernel⟩
theorem mv_X5_chosenLive : Mv yX5_chosenLive := ⟨tg_5 (List.mem_of_getElem? (i := 126) rfl) rfl, tg_5 (List.mem_of_getElem? (i := 127) rfl) rfl⟩
theorem mi_X5_ownSum : Mi yX5_ownSum cX5_ownSum 3 (some .int) 0 := ⟨tg_5 (List.mem_of_getElem? (i := 50) rfl) rfl, tg_1 (List.mem_of_getElem? (i := 6) rfl) rfl, by decide +kernel, by decide +kernel, by decide +kernel⟩
theorem mv_X5_ownSum : Mv yX5_ownSum := ⟨tg_5 (List.mem_of_getElem? (i := 49) rfl) rfl, tg_s (q := (yX5_ownSum, 13)) (List.mem_append_right _ (List.mem_append_left _ (List.mem_of_getElem? (i := 9) (by decide +kernel) : (yX5_ownSum, 13) ∈ lw_privs_2))) (by decide +kernel)⟩
theorem mi_X5_stepSum : Mi yX5_stepSum cX5_stepSum 6 (some .int) 3 := ⟨tg_5 (List.mem_of_getElem? (i := 55) rfl) rfl, tg_1 (List.mem_of_getElem? (i := 6) rfl) rfl, by decide +kernel, by decide +kernel, by decide +kernel⟩
theorem mv_X5_stepSum : Mv yX5_stepSum := ⟨tg_5 (List.mem_of_getElem? (i := 54) rfl) rfl, tg_s (q := (yX5_stepSum, 13)) (List.mem_append_right _ (List.mem_append_left _ (List.mem_of_getElem? (i := 10) (by decide +kernel) : (yX5_stepSum, 13) ∈ lw_privs_2))) (by decide +kernel)⟩
theorem mi_X5_findHeads : Mi yX5_findHeads cX5_findHeads 8 none 1 := ⟨tg_3 (List.mem_of_getElem? (i := 125) rfl) rfl, tg_1 (List.mem_of_getElem? (i := 6) rfl) rfl, by decide +kernel, by decide +kernel, by decide +kernel⟩
theorem mv_X5_findHeads : Mv yX5_findHeads := ⟨tg_3 (List.mem_of_getElem? (i := 124) rfl) rfl, tg_s (q := (yX5_findHeads, 13)) (List.mem_append_left _ (List.mem_of_getElem? (i := 9) (by decide +kernel) : (yX5_findHeads, 13) ∈ lw_privs_1)) (by decide +kernel)⟩
theorem mi_X5_findRanks : Mi yX5_findRanks cX5_findRanks 5 none 1 := ⟨tg_3 (List.mem_of_getElem? (i := 140) rfl) rfl, tg_1 (List.mem_of_getElem? (i := 6) rfl) rfl, by decide +kernel, by decide +kernel, by decide +kernel⟩
theorem mv_X5_findRanks : Mv yX5_findRanks := ⟨tg_3 (List.mem_of_getElem? (i := 139) rfl) rfl, tg_s (q := (yX5_findRanks, 13)) (List.mem_append_left _ (List.mem_of_getElem? (i := 10) (by decide +kernel) : (yX5_findRanks, 13) ∈ lw_privs_1)) (by decide +kernel)⟩
theorem mi_X5_isAhead : Mi yX5_isAhead cX5_isAhead 6 (some .boolean) 3 := ⟨tg_3 (List.mem_of_getElem? (i := 144) rfl) rfl, tg_1 (List.mem_of_getElem? (i := 6) rfl) rfl, by decide +kernel, by decide +kernel, by decide +kernel⟩
theorem mv_X5_isAhead : Mv yX5_isAhead := ⟨tg_3 (List.mem_of_getElem? (i := 143) rfl) rfl, tg_s (q := (yX5_isAhead, 13)) (List.mem_append_left _ (List.mem_of_getElem? (i := 11) (by decide +kernel) : (yX5_isAhead, 13) ∈ lw_privs_1)) (by decide +kernel)⟩
theorem mi_X5_aheadOf : Mi yX5_aheadOf cX5_aheadOf 4 (some .int) 2 := ⟨tg_3 (List.mem_of_getElem? (i := 159) rfl) rfl, tg_1 (List.mem_of_getElem? (i := 6) rfl) rfl, by decide +kernel, by decide +kernel, by decide +kernel⟩
theorem mv_X5_aheadOf : Mv yX5_aheadOf := ⟨tg_3 (List.mem_of_getElem? (i := 158) rfl) rfl, tg_s (q := (yX5_aheadOf, 13)) (List.mem_append_left _ (List.mem_of_getElem? (i := 14) (by decide +kernel) : (yX5_aheadOf, 13) ∈ lw_privs_1)) (by decide +kernel)⟩
theorem mi_X5_firstAtEnd : Mi yX5_firstAtEnd cX5_firstAtEnd 5 (some .int) 1 := ⟨tg_3 (List.mem_of_getElem? (i := 155) rfl) rfl, tg_1 (List.mem_of_getElem? (i := 6) rfl) rfl, by decide +kernel, by decide +kernel, by decide +kernel⟩
theorem mv_X5_firstAtEnd : Mv yX5_firstAtEnd := ⟨tg_3 (List.mem_of_getElem? (i := 154) rfl) rfl, tg_s (q := (yX5_firstAtEnd, 13)) (List.mem_append_left _ (List.mem_of_getElem? (i := 13) (by decide +kernel) : (yX5_firstAtEnd, 13) ∈ lw_privs_1)) (by decide +kernel)⟩
theorem mi_X5_findTails : Mi yX5_findTails cX5_findTails 7 none 1 := ⟨tg_3 (List.mem_of_getElem? (i := 149) rfl) rfl, tg_1 (List.mem_of_getElem? (i := 6) rfl) rfl, by decide +kernel, by decide +kernel, by decide +kernel⟩
theorem mv_X5_findTails : Mv yX5_findTails := ⟨tg_3 (List.mem_of_getElem? (i := 148) rfl) rfl, tg_s (q := (yX5_findTails, 13)) (List.mem_append_left _ (List.mem_of_getElem? (i := 12) (by decide +kernel) : (yX5_findTails, 13) ∈ lw_privs_1)) (by decide +kernel)⟩
theorem mi_X5_leastOfAll : Mi yX5_leastOfAll cX5_leastOfAll 5 (some .int) 2 := ⟨tg_3 (List.mem_of_getElem? (i := 201) rfl) rfl, tg_1 (List.mem_of_getElem? (i := 6) rfl) rfl, by decide +kernel, by decide +kernel, by decide +kernel⟩
theorem mv_X5_leastOfAll : Mv yX5_leastOfAll := ⟨tg_3 (List.mem_of_getElem? (i := 200) rfl) rfl, tg_s (q := (yX5_leastOfAll, 13)) (List.mem_append_right _ (List.mem_append_left _ (List.mem_of_getElem? (i := 2) (by decide +kernel) : (yX5_leastOfAll, 13) ∈ lw_privs_2))) (by decide +kernel)⟩
theorem mi_X5_advance : Mi yX5_advance cX5_advance 7 none 2 := ⟨tg_3 (List.mem_of_getElem? (i := 205) rfl) rfl, tg_1 (List.mem_of_getElem? (i := 6) rfl) rfl, by decide +kernel, by decide +kernel, by decide +kernel⟩
theorem mv_X5_advance : Mv yX5_advance := ⟨tg_3 (List.mem_of_getElem? (i := 204) rfl) rfl, tg_s (q := (yX5_advance, 13)) (List.mem_append_right _ (List.mem_append_left _ (List.mem_of_getElem? (i := 3) (by decide +kernel) : (yX5_advance, 13) ∈ lw_privs_2))) (by decide +kernel)⟩
theorem mi_X6_find : Mi yX6_find cX6_find 3 none 0 := ⟨tg_5 (List.mem_of_getElem? (i := 150) rfl) rfl, tg_1 (List.mem_of_getElem? (i := 8) rfl) rfl, by decide +kernel, by decide +kernel, by decide +kernel⟩
theorem mv_X6_find : Mv yX6_find := ⟨tg_5 (List.mem_of_getElem? (i := 148) rfl) rfl, tg_5 (List.mem_of_getElem? (i := 149) rfl) rfl⟩
theorem mi_X6_priceOf : Mi yX6_priceOf cX6_priceOf 2 (some .int) 1 := ⟨tg_5 (List.mem_of_getElem? (i := 172) rfl) rfl, tg_1 (List.mem_of_getElem? (i := 8) rfl) rfl, by decide +kernel, by decide +kernel, by decide +kernel⟩
theorem mv_X6_priceOf : Mv yX6_priceOf := ⟨tg_5 (List.mem_of_getElem? (i := 170) rfl) rfl, tg_5 (List.mem_of_getElem? (i := 171) rfl) rfl⟩
theorem mi_X6_chosenIn : Mi yX6_chosenIn cX6_chosenIn 5 (some .int) 2 := ⟨tg_5 (List.mem_of_getElem? (i := 183) rfl) rfl, tg_1 (List.mem_of_getElem? (i := 8) rfl) rfl, by decide +kernel, by decide +kernel, by decide +kernel⟩
theorem mv_X6_chosenIn : Mv yX6_chosenIn := ⟨tg_5 (List.mem_of_getElem? (i := 181) rfl) rfl, tg_5 (List.mem_of_getElem? (i := 182) rfl) rfl⟩
theorem mi_X6_place : Mi yX6_place cX6_place 2 (some .int) 2 := ⟨tg_5 (List.mem_of_getElem? (i := 161) rfl) rfl, tg_1 (List.mem_of_getElem? (i := 8) rfl) rfl, by decide +kernel, by decide +kernel, by decide +kernel⟩
theorem ms_X6_place : Cond.static yX6_place ∈ TG := tg_5 (List.mem_of_getElem? (i := 160) rfl) rfl
theorem mi_X6_findWays : Mi yX6_findWays cX6_findWays 7 none 2 := ⟨tg_5 (List.mem_of_getElem? (i := 157) rfl) rfl, tg_1 (List.mem_of_getElem? (i := 8) rfl) rfl, by decide +kernel, by decide +kernel, by decide +kernel⟩
theorem mv_X6_findWays : Mv yX6_findWays := ⟨tg_5 (List.mem_of_getElem? (i := 156) rfl) rfl, tg_s (q := (yX6_findWays, 8)) (List.mem_append_right _ (List.mem_append_left _ (List.mem_of_getElem? (i := 12) (by decide +kernel) : (yX6_findWays, 8) ∈ lw_privs_2))) (by decide +kernel)⟩
theorem mi_X6_cheapestNext : Mi yX6_cheapestNext cX6_cheapestNext 6 (some .int) 1 := ⟨tg_5 (List.mem_of_getElem? (i := 168) rfl) rfl, tg_1 (List.mem_of_getElem? (i := 8) rfl) rfl, by decide +kernel, by decide +kernel, by decide +kernel⟩
theorem mv_X6_cheapestNext : Mv yX6_cheapestNext := ⟨tg_5 (List.mem_of_getElem? (i := 167) rfl) rfl, tg_s (q := (yX6_cheapestNext, 8)) (List.mem_append_right _ (List.mem_append_left _ (List.mem_of_getElem? (i := 13) (by decide +kernel) : (yX6_cheapestNext, 8) ∈ lw_privs_2))) (by decide +kernel)⟩
theorem mi_X7_size : Mi yX7_size cX7_size 1 (some .int) 0 := ⟨tg_2 (List.mem_of_getElem? (i := 159) rfl) rfl, tg_1 (List.mem_of_getElem? (i := 2) rfl) rfl, by decide +kernel, by decide +kernel, by decide +kernel⟩
theorem mv_X7_size : Mv yX7_size := ⟨tg_2 (List.mem_of_getElem? (i := 157) rfl) rfl, tg_2 (List.mem_of_getElem? (i := 158) rfl) rfl⟩
theorem mi_X7_has : Mi yX7_has cX7_has 2 (some .boolean) 1 := ⟨tg_2 (List.mem_of_getElem? (i := 214) rfl) rfl, tg_1 (List.mem_of_getElem? (i := 2) rfl) rfl, by decide +kernel, by decide +kernel, by decide +kernel⟩
theorem mv_X7_has : Mv yX7_has := ⟨tg_2 (List.mem_of_getElem? (i := 212) rfl) rfl, tg_2 (List.mem_of_getElem? (i := 213) rfl) rfl⟩
theorem mi_X7_hasRoom : Mi yX7_hasRoom cX7_hasRoom 2 (some .boolean) 1 := ⟨tg_2 (List.mem_of_getElem? (i := 155) rfl) rfl, tg_1 (List.mem_of_getElem? (i := 2) rfl) rfl, by decide +kernel, by decide +kernel, by decide +kernel⟩
theorem mv_X7_hasRoom : Mv yX7_hasRoom := ⟨tg_2 (List.mem_of_getElem? (i := 153) rfl) rfl, tg_2 (List.mem_of_getElem? (i := 154) rfl) rfl⟩
theorem mi_X7_at : Mi yX7_at cX7_at 2 (some .int) 1 := ⟨tg_2 (List.mem_of_getElem? (i := 218) rfl) rfl, tg_1 (List.mem_of_getElem? (i := 2) rfl) rfl, by decide +kernel, by decide +kernel, by decide +kernel⟩
theorem mv_X7_at : Mv yX7_at := ⟨tg_2 (List.mem_of_getElem? (i := 216) rfl) rfl, tg_2 (List.mem_of_getElem? (i := 217) rfl) rfl⟩
theorem mi_X7_put : Mi yX7_put cX7_put 3 none 2 := ⟨tg_2 (List.mem_of_getElem? (i := 222) rfl) rfl, tg_1 (List.mem_of_getElem? (i := 2) rfl) rfl, by decide +kernel, by decide +kernel, by decide +kernel⟩
theorem mv_X7_put : Mv yX7_put := ⟨tg_2 (List.mem_of_getElem? (i := 220) rfl) rfl, tg_2 (List.mem_of_getElem? (i := 221) rfl) rfl⟩
theorem mi_X7_append : Mi yX7_append cX7_append 2 none 1 := ⟨tg_2 (List.mem_of_getElem? (i := 167) rfl) rfl, tg_1 (List.mem_of_getElem? (i := 2) rfl) rfl, by decide +kernel, by decide +kernel, by decide +kernel⟩
theorem mv_X7_append : Mv yX7_append := ⟨tg_2 (List.mem_of_getElem? (i := 165) rfl) rfl, tg_2 (List.mem_of_getElem? (i := 166) rfl) rfl⟩
theorem mi_X7_drop : Mi yX7_drop cX7_drop 2 none 1 := ⟨tg_2 (List.mem_of_getElem? (i := 231) rfl) rfl, tg_1 (List.mem_of_getElem? (i := 2) rfl) rfl, by decide +kernel, by decide +kernel, by decide +kernel⟩
theorem mv_X7_drop : Mv yX7_drop := ⟨tg_2 (List.mem_of_getElem? (i := 229) rfl) rfl, tg_2 (List.mem_of_getElem? (i := 230) rfl) rfl⟩
theorem mi_X7_offItself : Mi yX7_offItself cX7_offItself 7 (some .int) 3 := ⟨tg_3 (List.mem_of_getElem? (i := 45) rfl) rfl, tg_1 (List.mem_of_getElem? (i := 2) rfl) rfl, by decide +kernel, by decide +kernel, by decide +kernel⟩
theorem mv_X7_offItself : Mv yX7_offItself := ⟨tg_3 (List.mem_of_getElem? (i := 43) rfl) rfl, tg_3 (List.mem_of_getElem? (i := 44) rfl) rfl⟩
theorem mi_X7_loudness : Mi yX7_loudness cX7_loudness 5 (some .int) 2 := ⟨tg_3 (List.mem_of_getElem? (i := 49) rfl) rfl, tg_1 (List.mem_of_getElem? (i := 2) rfl) rfl, by decide +kernel, by decide +kernel, by decide +kernel⟩
theorem mv_X7_loudness : Mv yX7_loudness := ⟨tg_3 (List.mem_of_getElem? (i := 47) rfl) rfl, tg_3 (List.mem_of_getElem? (i := 48) rfl) rfl⟩
theorem mi_X7_tapeSize : Mi yX7_tapeSize cX7_tapeSize 1 (some .int) 0 := ⟨tg_2 (List.mem_of_getElem? (i := 143) rfl) rfl, tg_1 (List.mem_of_getElem? (i := 2) rfl) rfl, by decide +kernel, by decide +kernel, by decide +kernel⟩
theorem mv_X7_tapeSize : Mv yX7_tapeSize := ⟨tg_2 (List.mem_of_getElem? (i := 141) rfl) rfl, tg_2 (List.mem_of_getElem? (i := 142) rfl) rfl⟩
theorem mi_X7_tapeNumber : Mi yX7_tapeNumber cX7_tapeNumber 3 none 1 := ⟨tg_2 (List.mem_of_getElem? (i := 147) rfl) rfl, tg_1 (List.mem_of_getElem? (i := 2) rfl) rfl, by decide +kernel, by decide +kernel, by decide +kernel⟩
theorem mv_X7_tapeNumber : Mv yX7_tapeNumber := ⟨tg_2 (List.mem_of_getElem? (i := 145) rfl) rfl, tg_2 (List.mem_of_getElem? (i := 146) rfl) rfl⟩
theorem mi_X7_appendFromTape : Mi yX7_appendFromTape cX7_appendFromTape 3 none 1 := ⟨tg_2 (List.mem_of_getElem? (i := 163) rfl) rfl, tg_1 (List.mem_of_getElem? (i := 2) rfl) rfl, by decide +kernel, by decide +kernel, by decide +kernel⟩
theorem mv_X7_appendFromTape : Mv yX7_appendFromTape := ⟨tg_2 (List.mem_of_getElem? (i := 161) rfl) rfl, tg_2 (List.mem_of_getElem? (i := 162) rfl) rfl⟩
theorem mi_X8_find : Mi yX8_find cX8_find 2 none 0 := ⟨tg_3 (List.mem_of_getElem? (i := 163) rfl) rfl, tg_1 (List.mem_of_getElem? (i := 9) rfl) rfl, by decide +kernel, by decide +kernel, by decide +kernel⟩
theorem mv_X8_find : Mv yX8_find := ⟨tg_3 (List.mem_of_getElem? (i := 161) rfl) rfl, tg_3 (List.mem_of_getElem? (i := 162) rfl) rfl⟩
theorem mi_X8_size : Mi yX8_size cX8_size 1 (some .int) 0 := ⟨tg_3 (List.mem_of_getElem? (i := 225) rfl) rfl, tg_1 (List.mem_of_getElem? (i := 9) rfl) rfl, by decide +kernel, by decide +kernel, by decide +kernel⟩
theorem mv_X8_size : Mv yX8_size := ⟨tg_3 (List.mem_of_getElem? (i := 223) rfl) rfl, tg_3 (List.mem_of_getElem? (i := 224) rfl) rfl⟩
theorem mi_X8_has : Mi yX8_has cX8_has 2 (some .boolean) 1 := ⟨tg_4 (List.mem_of_getElem? (i := 47) rfl) rfl, tg_1 (List.mem_of_getElem? (i := 9) rfl) rfl, by decide +kernel, by decide +kernel, by decide +kernel⟩
theorem mv_X8_has : Mv yX8_has := ⟨tg_4 (List.mem_of_getElem? (i := 45) rfl) rfl, tg_4 (List.mem_of_getElem? (i := 46) rfl) rfl⟩
theorem mi_X8_firstFrame : Mi yX8_firstFrame cX8_firstFrame 2 (some .int) 1 := ⟨tg_5 (List.mem_of_getElem? (i := 207) rfl) rfl, tg_1 (List.mem_of_getElem? (i := 9) rfl) rfl, by decide +kernel, by decide +kernel, by decide +kernel⟩
theorem mv_X8_firstFrame : Mv yX8_firstFrame := ⟨tg_5 (List.mem_of_getElem? (i := 205) rfl) rfl, tg_5 (List.mem_of_getElem? (i := 206) rfl) rfl⟩
theorem mi_X8_length : Mi yX8_length cX8_length 2 (some .int) 1 := ⟨tg_5 (List.mem_of_getElem? (i := 211) rfl) rfl, tg_1 (List.mem_of_getElem? (i := 9) rfl) rfl, by decide +kernel, by decide +kernel, by decide +kernel⟩
theorem mv_X8_length : Mv yX8_length := ⟨tg_5 (List.mem_of_getElem? (i := 209) rfl) rfl, tg_5 (List.mem_of_getElem? (i := 210) rfl) rfl⟩
theorem mi_X8_isVoiced : Mi yX8_isVoiced cX8_isVoiced 2 (some .boolean) 1 := ⟨tg_4 (List.mem_of_getElem? (i := 43) rfl) rfl, tg_1 (List.mem_of_getElem? (i := 9) rfl) rfl, by decide +kernel, by decide +kernel, by decide +kernel⟩
theorem mv_X8_isVoiced : Mv yX8_isVoiced := ⟨tg_4 (List.mem_of_getElem? (i := 41) rfl) rfl, tg_4 (List.mem_of_getElem? (i := 42) rfl) rfl⟩
theorem mi_X8_from : Mi yX8_from cX8_from 2 (some .int) 1 := ⟨tg_4 (List.mem_of_getElem? (i := 51) rfl) rfl, tg_1 (List.mem_of_getElem? (i := 9) rfl) rfl, by decide +kernel, by decide +kernel, by decide +kernel⟩
theorem mv_X8_from : Mv yX8_from := ⟨tg_4 (List.mem_of_getElem? (i := 49) rfl) rfl, tg_4 (List.mem_of_getElem? (i := 50) rfl) rfl⟩
theorem mi_X8_to : Mi yX8_to cX8_to 2 (some .int) 1 := ⟨tg_4 (List.mem_of_getElem? (i := 56) rfl) rfl, tg_1 (List.mem_of_getElem? (i := 9) rfl) rfl, by decide +kernel, by decide +kernel, by decide +kernel⟩
theorem mv_X8_to : Mv yX8_to := ⟨tg_4 (List.mem_of_getElem? (i := 54) rfl) rfl, tg_4 (List.mem_of_getElem? (i := 55) rfl) rfl⟩
theorem mi_X8_lagAtSample : Mi yX8_lagAtSample cX8_lagAtSample 2 (some .int) 1 := ⟨tg_4 (List.mem_of_getElem? (i := 68) rfl) rfl, tg_1 (List.mem_of_getElem? (i := 9) rfl) rfl, by decide +kernel, by decide +kernel, by decide +kernel⟩
theorem mv_X8_lagAtSample : Mv yX8_lagAtSample := ⟨tg_4 (List.mem_of_getElem? (i := 66) rfl) rfl, tg_4 (List.mem_of_getElem? (i := 67) rfl) rfl⟩
theorem mi_X8_ofSample : Mi yX8_ofSample cX8_ofSample 3 (some .int) 1 := ⟨tg_6 (List.mem_of_getElem? (i := 172) rfl) rfl, tg_1 (List.mem_of_getElem? (i := 9) rfl) rfl, by decide +kernel, by decide +kernel, by decide +kernel⟩
theorem mv_X8_ofSample : Mv yX8_ofSample := ⟨tg_6 (List.mem_of_getElem? (i := 170) rfl) rfl, tg_6 (List.mem_of_getElem? (i := 171) rfl) rfl⟩
theorem mi_X9_set : Mi yX9_set cX9_set 4 none 3 := ⟨tg_3 (List.mem_of_getElem? (i := 121) rfl) rfl, tg_1 (List.mem_of_getElem? (i := 7) rfl) rfl, by decide +kernel, by decide +kernel, by decide +kernel⟩
theorem mv_X9_set : Mv yX9_set := ⟨tg_3 (List.mem_of_getElem? (i := 119) rfl) rfl, tg_3 (List.mem_of_getElem? (i := 120) rfl) rfl⟩
theorem mi_X9_setBy : Mi yX9_setBy cX9_setBy 2 none 1 := ⟨tg_3 (List.mem_of_getElem? (i := 116) rfl) rfl, tg_1 (List.mem_of_getElem? (i := 7) rfl) rfl, by decide +kernel, by decide +kernel, by decide +kernel⟩
theorem mv_X9_setBy : Mv yX9_setBy := ⟨tg_3 (List.mem_of_getElem? (i := 114) rfl) rfl, tg_3 (List.mem_of_getElem? (i := 115) rfl) rfl⟩
theorem mi_X9_price : Mi yX9_price cX9_price 5 (some .int) 2 := ⟨tg_3 (List.mem_of_getElem? (i := 132) rfl) rfl, tg_1 (List.mem_of_getElem? (i := 7) rfl) rfl, by decide +kernel, by decide +kernel, by decide +kernel⟩
theorem mv_X9_price : Mv yX9_price := ⟨tg_3 (List.mem_of_getElem? (i := 130) rfl) rfl, tg_3 (List.mem_of_getElem? (i := 131) rfl) rfl⟩
theorem mi_X10_size : Mi yX10_size cX10_size 1 (some .int) 0 := ⟨tg_4 (List.mem_of_getElem? (i := 18) rfl) rfl, tg_1 (List.mem_of_getElem? (i := 12) rfl) rfl, by decide +kernel, by decide +kernel, by decide +kernel⟩
theorem mv_X10_size : Mv yX10_size := ⟨tg_4 (List.mem_of_getElem? (i := 16) rfl) rfl, tg_4 (List.mem_of_getElem? (i := 17) rfl) rfl⟩
theorem mi_X10_hasRoom : Mi yX10_hasRoom cX10_hasRoom 1 (some .boolean) 0 := ⟨tg_4 (List.mem_of_getElem? (i := 9) rfl) rfl, tg_1 (List.mem_of_getElem? (i := 12) rfl) rfl, by decide +kernel, by decide +kernel, by decide +kernel⟩
theorem mv_X10_hasRoom : Mv yX10_hasRoom := ⟨tg_4 (List.mem_of_getElem? (i := 7) rfl) rfl, tg_4 (List.mem_of_getElem? (i := 8) rfl) rfl⟩
theorem mi_X10_add : Mi yX10_add cX10_add 2 none 1 := ⟨tg_4 (List.mem_of_getElem? (i := 13) rfl) rfl, tg_1 (List.mem_of_getElem? (i := 12) rfl) rfl, by decide +kernel, by decide +kernel, by decide +kernel⟩
theorem mv_X10_add : Mv yX10_add := ⟨tg_4 (List.mem_of_getElem? (i := 11) rfl) rfl, tg_4 (List.mem_of_getElem? (i := 12) rfl) rfl⟩
theorem mi_X10_clear : Mi yX10_clear cX10_clear 1 none 0 := ⟨tg_4 (List.mem_of_getElem? (i := 26) rfl) rfl, tg_1 (List.mem_of_getElem? (i := 12) rfl) rfl, by decide +kernel, by decide +kernel, by decide +kernel⟩
theorem mv_X10_clear : Mv yX10_clear := ⟨tg_4 (List.mem_of_getElem? (i := 24) rfl) rfl, tg_4 (List.mem_of_getElem? (i := 25) rfl) rfl⟩
theorem mi_X10_price : Mi yX10_price cX10_price 1 (some .int) 0 := ⟨tg_6 (List.mem_of_getElem? (i := 88) rfl) rfl, tg_1 (List.mem_of_getElem? (i := 12) rfl) rfl, by decide +kernel, by decide +kernel, by decide +kernel⟩
theorem mv_X10_price : Mv yX10_price := ⟨tg_6 (List.mem_of_getElem? (i := 86) rfl) rfl, tg_6 (List.mem_of_getElem? (i := 87) rfl) rfl⟩
theorem mi_X10_pairs : Mi yX10_pairs cX10_pairs 3 (some .int) 0 := ⟨tg_6 (List.mem_of_getElem? (i := 92) rfl) rfl, tg_1 (List.mem_of_getElem? (i := 12) rfl) rfl, by decide +kernel, by decide +kernel, by decide +kernel⟩
theorem mv_X10_pairs : Mv yX10_pairs := ⟨tg_6 (List.mem_of_getElem? (i := 90) rfl) rfl, tg_6 (List.mem_of_getElem? (i := 91) rfl) rfl⟩
theorem mi_X10_pairOf : Mi yX10_pairOf cX10_pairOf 2 (some .int) 1 := ⟨tg_6 (List.mem_of_getElem? (i := 103) rfl) rfl, tg_1 (List.mem_of_getElem? (i := 12) rfl) rfl, by decide +kernel, by decide +kernel, by decide +kernel⟩
theorem mv_X10_pairOf : Mv yX10_pairOf := ⟨tg_6 (List.mem_of_getElem? (i := 101) rfl) rfl, tg_6 (List.mem_of_getElem? (i := 102) rfl) rfl⟩
theorem mi_X10_findPairs : Mi yX10_findPairs cX10_findPairs 3 none 0 := ⟨tg_6 (List.mem_of_getElem? (i := 67) rfl) rfl, tg_1 (List.mem_of_getElem? (i := 12) rfl) rfl, by decide +kernel, by decide +kernel, by decide +kernel⟩
theorem mv_X10_findPairs : Mv yX10_findPairs := ⟨tg_6 (List.mem_of_getElem? (i := 65) rfl) rfl, tg_6 (List.mem_of_getElem? (i := 66) rfl) rfl⟩
theorem mi_X10_findLeast : Mi yX10_findLeast cX10_findLeast 6 none 0 := ⟨tg_6 (List.mem_of_getElem? (i := 71) rfl) rfl, tg_1 (List.mem_of_getElem? (i := 12) rfl) rfl, by decide +kernel, by decide +kernel, by decide +kernel⟩
theorem mv_X10_findLeast : Mv yX10_findLeast := ⟨tg_6 (List.mem_of_getElem? (i := 70) rfl) rfl, tg_s (q := (yX10_findLeast, 6)) (List.mem_append_right _ (List.mem_append_left _ (List.mem_of_getElem? (i := 14) (by decide +kernel) : (yX10_findLeast, 6) ∈ lw_privs_2))) (by decide +kernel)⟩
theorem mi_X10_firstPair : Mi yX10_firstPair cX10_firstPair 7 (some .int) 2 := ⟨tg_6 (List.mem_of_getElem? (i := 84) rfl) rfl, tg_1 (List.mem_of_getElem? (i := 12) rfl) rfl, by decide +kernel, by decide +kernel, by decide +kernel⟩
theorem mv_X10_firstPair : Mv yX10_firstPair := ⟨tg_6 (List.mem_of_getElem? (i := 83) rfl) rfl, tg_s (q := (yX10_firstPair, 6)) (List.mem_append_right _ (List.mem_append_right _ (List.mem_append_left _ (List.mem_of_getElem? (i := 0) (by decide +kernel) : (yX10_firstPair, 6) ∈ lw_privs_3)))) (by decide +kernel)⟩
theorem mi_X10_pairPrice : Mi yX10_pairPrice cX10_pairPrice 3 (some .int) 2 := ⟨tg_6 (List.mem_of_getElem? (i := 78) rfl) rfl, tg_1 (List.mem_of_getElem? (i := 12) rfl) rfl, by decide +kernel, by decide +kernel, by decide +kernel⟩
theorem mv_X10_pairPrice : Mv yX10_pairPrice := ⟨tg_6 (List.mem_of_getElem? (i := 77) rfl) rfl, tg_s (q := (yX10_pairPrice, 6)) (List.mem_append_right _ (List.mem_append_left _ (List.mem_of_getElem? (i := 15) (by decide +kernel) : (yX10_pairPrice, 6) ∈ lw_privs_2))) (by decide +kernel)⟩
theorem mi_X11_feed : Mi yX11_feed cX11_feed 6 (some .int) 5 := ⟨tg_2 (List.mem_of_getElem? (i := 139) rfl) rfl, tg_1 (List.mem_of_getElem? (i := 1) rfl) rfl, by decide +kernel, by decide +kernel, by decide +kernel⟩
theorem mv_X11_feed : Mv yX11_feed := ⟨tg_2 (List.mem_of_getElem? (i := 137) rfl) rfl, tg_2 (List.mem_of_getElem? (i := 138) rfl) rfl⟩
theorem mi_X11_samples : Mi yX11_samples cX11_samples 3 (some .int) 1 := ⟨tg_2 (List.mem_of_getElem? (i := 151) rfl) rfl, tg_1 (List.mem_of_getElem? (i := 1) rfl) rfl, by decide +kernel, by decide +kernel, by decide +kernel⟩
theorem mv_X11_samples : Mv yX11_samples := ⟨tg_2 (List.mem_of_getElem? (i := 149) rfl) rfl, tg_2 (List.mem_of_getElem? (i := 150) rfl) rfl⟩
theorem mi_X11_cycles : Mi yX11_cycles cX11_cycles 7 (some .int) 3 := ⟨tg_2 (List.mem_of_getElem? (i := 191) rfl) rfl, tg_1 (List.mem_of_getElem? (i := 1) rfl) rfl, by decide +kernel, by decide +kernel, by decide +kernel⟩
theorem mv_X11_cycles : Mv yX11_cycles := ⟨tg_2 (List.mem_of_getElem? (i := 189) rfl) rfl, tg_2 (List.mem_of_getElem? (i := 190) rfl) rfl⟩
theorem mi_X11_noise : Mi yX11_noise cX11_noise 7 (some .int) 3 := ⟨tg_2 (List.mem_of_getElem? (i := 205) rfl) rfl, tg_1 (List.mem_of_getElem? (i := 1) rfl) rfl, by decide +kernel, by decide +kernel, by decide +kernel⟩
theorem mv_X11_noise : Mv yX11_noise := ⟨tg_2 (List.mem_of_getElem? (i := 203) rfl) rfl, tg_2 (List.mem_of_getElem? (i := 204) rfl) rfl⟩
theorem mi_X11_poke : Mi yX11_poke cX11_poke 4 (some .int) 2 := ⟨tg_2 (List.mem_of_getElem? (i := 210) rfl) rfl, tg_1 (List.mem_of_getElem? (i := 1) rfl) rfl, by decide +kernel, by decide +kernel, by decide +kernel⟩
theorem mv_X11_poke : Mv yX11_poke := ⟨tg_2 (List.mem_of_getElem? (i := 208) rfl) rfl, tg_2 (List.mem_of_getElem? (i := 209) rfl) rfl⟩
theorem mi_X11_cut : Mi yX11_cut cX11_cut 3 (some .int) 1 := ⟨tg_2 (List.mem_of_getElem? (i := 227) rfl) rfl, tg_1 (List.mem_of_getElem? (i := 1) rfl) rfl, by decide +kernel, by decide +kernel, by decide +kernel⟩
theorem mv_X11_cut : Mv yX11_cut := ⟨tg_2 (List.mem_of_getElem? (i := 225) rfl) rfl, tg_2 (List.mem_of_getElem? (i := 226) rfl) rfl⟩
theorem mi_X11_sample : Mi yX11_sample cX11_sample 2 (some .int) 1 := ⟨tg_4 (List.mem_of_getElem? (i := 123) rfl) rfl, tg_1 (List.mem_of_getElem? (i := 1) rfl) rfl, by decide +kernel, by decide +kernel, by decide +kernel⟩
theorem mv_X11_sample : Mv yX11_sample := ⟨tg_4 (List.mem_of_getElem? (i := 121) rfl) rfl, tg_4 (List.mem_of_getElem? (i := 122) rfl) rfl⟩
theorem mi_X11_bound : Mi yX11_bound cX11_bound 4 (some .int) 2 := ⟨tg_2 (List.mem_of_getElem? (i := 238) rfl) rfl, tg_1 (List.mem_of_getElem? (i := 1) rfl) rfl, by decide +kernel, by decide +kernel, by decide +kernel⟩
theorem mv_X11_bound : Mv yX11_bound := ⟨tg_2 (List.mem_of_getElem? (i := 236) rfl) rfl, tg_2 (List.mem_of_getElem? (i := 237) rfl) rfl⟩
theorem mi_X11_count : Mi yX11_count cX11_count 2 (some .int) 1 := ⟨tg_4 (List.mem_of_getElem? (i := 200) rfl) rfl, tg_1 (List.mem_of_getElem? (i := 1) rfl) rfl, by decide +kernel, by decide +kernel, by decide +kernel⟩
theorem mv_X11_count : Mv yX11_count := ⟨tg_4 (List.mem_of_getElem? (i := 198) rfl) rfl, tg_4 (List.mem_of_getElem? (i := 199) rfl) rfl⟩
theorem mi_X11_diff : Mi yX11_diff cX11_diff 3 (some .int) 2 := ⟨tg_4 (List.mem_of_getElem? (i := 208) rfl) rfl, tg_1 (List.mem_of_getElem? (i := 1) rfl) rfl, by decide +kernel, by decide +kernel, by decide +kernel⟩
theorem mv_X11_diff : Mv yX11_diff := ⟨tg_4 (List.mem_of_getElem? (i := 206) rfl) rfl, tg_4 (List.mem_of_getElem? (i := 207) rfl) rfl⟩
theorem mi_X11_rel : Mi yX11_rel cX11_rel 3 (some .int) 2 := ⟨tg_4 (List.mem_of_getElem? (i := 228) rfl) rfl, tg_1 (List.mem_of_getElem? (i := 1) rfl) rfl, by decide +kernel, by decide +kernel, by decide +kernel⟩
theorem mv_X11_rel : Mv yX11_rel := ⟨tg_4 (List.mem_of_getElem? (i := 226) rfl) rfl, tg_4 (List.mem_of_getElem? (i := 227) rfl) rfl⟩
theorem mi_X11_loud : Mi yX11_loud cX11_loud 2 (some .int) 1 := ⟨tg_4 (List.mem_of_getElem? (i := 236) rfl) rfl, tg_1 (List.mem_of_getElem? (i := 1) rfl) rfl, by decide +kernel, by decide +kernel, by decide +kernel⟩
theorem mv_X11_loud : Mv yX11_loud := ⟨tg_4 (List.mem_of_getElem? (i := 234) rfl) rfl, tg_4 (List.mem_of_getElem? (i := 235) rfl) rfl⟩
theorem mi_X11_candidates : Mi yX11_candidates cX11_candidates 2 (some .int) 1 := ⟨tg_5 (List.mem_of_getElem? (i := 4) rfl) rfl, tg_1 (List.mem_of_getElem? (i := 1) rfl) rfl, by decide +kernel, by decide +kernel, by decide +kernel⟩
theorem mv_X11_candidates : Mv yX11_candidates := ⟨tg_5 (List.mem_of_getElem? (i := 2) rfl) rfl, tg_5 (List.mem_of_getElem? (i := 3) rfl) rfl⟩
theorem mi_X11_candidate : Mi yX11_candidate cX11_candidate 4 (some .int) 3 := ⟨tg_5 (List.mem_of_getElem? (i := 12) rfl) rfl, tg_1 (List.mem_of_getElem? (i := 1) rfl) rfl, by decide +kernel, by decide +kernel, by decide +kernel⟩
theorem mv_X11_candidate : Mv yX11_candidate := ⟨tg_5 (List.mem_of_getElem? (i := 10) rfl) rfl, tg_5 (List.mem_of_getElem? (i := 11) rfl) rfl⟩
theorem mi_X11_fine : Mi yX11_fine cX11_fine 10 (some .int) 3 := ⟨tg_5 (List.mem_of_getElem? (i := 28) rfl) rfl, tg_1 (List.mem_of_getElem? (i := 1) rfl) rfl, by decide +kernel, by decide +kernel, by decide +kernel⟩
theorem mv_X11_fine : Mv yX11_fine := ⟨tg_5 (List.mem_of_getElem? (i := 26) rfl) rfl, tg_5 (List.mem_of_getElem? (i := 27) rfl) rfl⟩
theorem mi_X11_cost : Mi yX11_cost cX11_cost 2 (some .int) 1 := ⟨tg_5 (List.mem_of_getElem? (i := 42) rfl) rfl, tg_1 (List.mem_of_getElem? (i := 1) rfl) rfl, by decide +kernel, by decide +kernel, by decide +kernel⟩
theorem mv_X11_cost : Mv yX11_cost := ⟨tg_5 (List.mem_of_getElem? (i := 40) rfl) rfl, tg_5 (List.mem_of_getElem? (i := 41) rfl) rfl⟩
theorem mi_X11_path : Mi yX11_path cX11_path 2 (some .int) 1 := ⟨tg_5 (List.mem_of_getElem? (i := 63) rfl) rfl, tg_1 (List.mem_of_getElem? (i := 1) rfl) rfl, by decide +kernel, by decide +kernel, by decide +kernel⟩
theorem mv_X11_path : Mv yX11_path := ⟨tg_5 (List.mem_of_getElem? (i := 61) rfl) rfl, tg_5 (List.mem_of_getElem? (i := 62) rfl) rfl⟩
theorem mi_X11_lag : Mi yX11_lag cX11_lag 2 (some .int) 1 := ⟨tg_5 (List.mem_of_getElem? (i := 74) rfl) rfl, tg_1 (List.mem_of_getElem? (i := 1) rfl) rfl, by decide +kernel, by decide +kernel, by decide +kernel⟩
theorem mv_X11_lag : Mv yX11_lag := ⟨tg_5 (List.mem_of_getElem? (i := 72) rfl) rfl, tg_5 (List.mem_of_getElem? (i := 73) rfl) rfl⟩
theorem mi_X11_through : Mi yX11_through cX11_through 3 (some .int) 2 := ⟨tg_5 (List.mem_of_getElem? (i := 82) rfl) rfl, tg_1 (List.mem_of_getElem? (i := 1) rfl) rfl, by decide +kernel, by decide +kernel, by decide +kernel⟩
theorem mv_X11_through : Mv yX11_through := ⟨tg_5 (List.mem_of_getElem? (i := 80) rfl) rfl, tg_5 (List.mem_of_getElem? (i := 81) rfl) rfl⟩
theorem mi_X11_both : Mi yX11_both cX11_both 5 (some .int) 4 := ⟨tg_5 (List.mem_of_getElem? (i := 94) rfl) rfl, tg_1 (List.mem_of_getElem? (i := 1) rfl) rfl, by decide +kernel, by decide +kernel, by decide +kernel⟩
theorem mv_X11_both : Mv yX11_both := ⟨tg_5 (List.mem_of_getElem? (i := 92) rfl) rfl, tg_5 (List.mem_of_getElem? (i := 93) rfl) rfl⟩
theorem mi_X11_single : Mi yX11_single cX11_single 1 (some .int) 0 := ⟨tg_3 (List.mem_of_getElem? (i := 20) rfl) rfl, tg_1 (List.mem_of_getElem? (i := 1) rfl) rfl, by decide +kernel, by decide +kernel, by decide +kernel⟩
theorem mv_X11_single : Mv yX11_single := ⟨tg_3 (List.mem_of_getElem? (i := 18) rfl) rfl, tg_3 (List.mem_of_getElem? (i := 19) rfl) rfl⟩
theorem mi_X11_live : Mi yX11_live cX11_live 3 (some .int) 2 := ⟨tg_5 (List.mem_of_getElem? (i := 124) rfl) rfl, tg_1 (List.mem_of_getElem? (i := 1) rfl) rfl, by decide +kernel, by decide +kernel, by decide +kernel⟩
theorem mv_X11_live : Mv yX11_live := ⟨tg_5 (List.mem_of_getElem? (i := 122) rfl) rfl, tg_5 (List.mem_of_getElem? (i := 123) rfl) rfl⟩
theorem mi_X11_settles : Mi yX11_settles cX11_settles 4 (some .int) 1 := ⟨tg_5 (List.mem_of_getElem? (i := 135) rfl) rfl, tg_1 (List.mem_of_getElem? (i := 1) rfl) rfl, by decide +kernel, by decide +kernel, by decide +kernel⟩
theorem mv_X11_settles : Mv yX11_settles := ⟨tg_5 (List.mem_of_getElem? (i := 133) rfl) rfl, tg_5 (List.mem_of_getElem? (i := 134) rfl) rfl⟩
theorem mi_X11_best : Mi yX11_best cX11_best 2 (some .int) 1 := ⟨tg_5 (List.mem_of_getElem? (i := 142) rfl) rfl, tg_1 (List.mem_of_getElem? (i := 1) rfl) rfl, by decide +kernel, by decide +kernel, by decide +kernel⟩
theorem mv_X11_best : Mv yX11_best := ⟨tg_5 (List.mem_of_getElem? (i := 140) rfl) rfl, tg_5 (List.mem_of_getElem? (i := 141) rfl) rfl⟩
theorem mi_X11_bestAt : Mi yX11_bestAt cX11_bestAt 3 (some .int) 2 := ⟨tg_5 (List.mem_of_getElem? (i := 179) rfl) rfl, tg_1 (List.mem_of_getElem? (i := 1) rfl) rfl, by decide +kernel, by decide +kernel, by decide +kernel⟩
theorem mv_X11_bestAt : Mv yX11_bestAt := ⟨tg_5 (List.mem_of_getElem? (i := 177) rfl) rfl, tg_5 (List.mem_of_getElem? (i := 178) rfl) rfl⟩
theorem mi_X11_would : Mi yX11_would cX11_would 3 (some .int) 2 := ⟨tg_5 (List.mem_of_getElem? (i := 191) rfl) rfl, tg_1 (List.mem_of_getElem? (i := 1) rfl) rfl, by decide +kernel, by decide +kernel, by decide +kernel⟩
theorem mv_X11_would : Mv yX11_would := ⟨tg_5 (List.mem_of_getElem? (i := 189) rfl) rfl, tg_5 (List.mem_of_getElem? (i := 190) rfl) rfl⟩
theorem mi_X11_doubled : Mi yX11_doubled cX11_doubled 1 (some .int) 0 := ⟨tg_3 (List.mem_of_getElem? (i := 213) rfl) rfl, tg_1 (List.mem_of_getElem? (i := 1) rfl) rfl, by decide +kernel, by decide +kernel, by decide +kernel⟩
theorem mv_X11_doubled : Mv yX11_doubled := ⟨tg_3 (List.mem_of_getElem? (i := 211) rfl) rfl, tg_3 (List.mem_of_getElem? (i := 212) rfl) rfl⟩
theorem mi_X11_spans : Mi yX11_spans cX11_spans 1 (some .int) 0 := ⟨tg_3 (List.mem_of_getElem? (i := 221) rfl) rfl, tg_1 (List.mem_of_getElem? (i := 1) rfl) rfl, by decide +kernel, by decide +kernel, by decide +kernel⟩
theorem mv_X11_spans : Mv yX11_spans := ⟨tg_3 (List.mem_of_getElem? (i := 219) rfl) rfl, tg_3 (List.mem_of_getElem? (i := 220) rfl) rfl⟩
theorem mi_X11_span : Mi yX11_span cX11_span 3 (some .int) 2 := ⟨tg_5 (List.mem_of_getElem? (i := 202) rfl) rfl, tg_1 (List.mem_of_getElem? (i := 1) rfl) rfl, by decide +kernel, by decide +kernel, by decide +kernel⟩
theorem mv_X11_span : Mv yX11_span := ⟨tg_5 (List.mem_of_getElem? (i := 200) rfl) rfl, tg_5 (List.mem_of_getElem? (i := 201) rfl) rfl⟩
theorem mi_X11_notes : Mi yX11_notes cX11_notes 1 (some .int) 0 := ⟨tg_3 (List.mem_of_getElem? (i := 229) rfl) rfl, tg_1 (List.mem_of_getElem? (i := 1) rfl) rfl, by decide +kernel, by decide +kernel, by decide +kernel⟩
theorem mv_X11_notes : Mv yX11_notes := ⟨tg_3 (List.mem_of_getElem? (i := 227) rfl) rfl, tg_3 (List.mem_of_getElem? (i := 228) rfl) rfl⟩
theorem mi_X11_note : Mi yX11_note cX11_note 3 (some .int) 2 := ⟨tg_5 (List.mem_of_getElem? (i := 230) rfl) rfl, tg_1 (List.mem_of_getElem? (i := 1) rfl) rfl, by decide +kernel, by decide +kernel, by decide +kernel⟩
theorem mv_X11_note : Mv yX11_note := ⟨tg_5 (List.mem_of_getElem? (i := 228) rfl) rfl, tg_5 (List.mem_of_getElem? (i := 229) rfl) rfl⟩
theorem mi_X11_steady : Mi yX11_steady cX11_steady 2 (some .int) 1 := ⟨tg_6 (List.mem_of_getElem? (i := 14) rfl) rfl, tg_1 (List.mem_of_getElem? (i := 1) rfl) rfl, by decide +kernel, by decide +kernel, by decide +kernel⟩
theorem mv_X11_steady : Mv yX11_steady := ⟨tg_6 (List.mem_of_getElem? (i := 12) rfl) rfl, tg_6 (List.mem_of_getElem? (i := 13) rfl) rfl⟩
theorem mi_X11_lags : Mi yX11_lags cX11_lags 1 (some .int) 0 := ⟨tg_3 (List.mem_of_getElem? (i := 237) rfl) rfl, tg_1 (List.mem_of_getElem? (i := 1) rfl) rfl, by decide +kernel, by decide +kernel, by decide +kernel⟩
theorem mv_X11_lags : Mv yX11_lags := ⟨tg_3 (List.mem_of_getElem? (i := 235) rfl) rfl, tg_3 (List.mem_of_getElem? (i := 236) rfl) rfl⟩
theorem mi_X11_lagAt : Mi yX11_lagAt cX11_lagAt 4 (some .int) 2 := ⟨tg_6 (List.mem_of_getElem? (i := 33) rfl) rfl, tg_1 (List.mem_of_getElem? (i := 1) rfl) rfl, by decide +kernel, by decide +kernel, by decide +kernel⟩
theorem mv_X11_lagAt : Mv yX11_lagAt := ⟨tg_6 (List.mem_of_getElem? (i := 31) rfl) rfl, tg_6 (List.mem_of_getElem? (i := 32) rfl) rfl⟩
theorem mi_X11_common : Mi yX11_common cX11_common 2 (some .int) 1 := ⟨tg_6 (List.mem_of_getElem? (i := 48) rfl) rfl, tg_1 (List.mem_of_getElem? (i := 1) rfl) rfl, by decide +kernel, by decide +kernel, by decide +kernel⟩
theorem mv_X11_common : Mv yX11_common := ⟨tg_6 (List.mem_of_getElem? (i := 46) rfl) rfl, tg_6 (List.mem_of_getElem? (i := 47) rfl) rfl⟩
theorem mi_X11_tune : Mi yX11_tune cX11_tune 2 (some .int) 1 := ⟨tg_4 (List.mem_of_getElem? (i := 5) rfl) rfl, tg_1 (List.mem_of_getElem? (i := 1) rfl) rfl, by decide +kernel, by decide +kernel, by decide +kernel⟩
theorem mv_X11_tune : Mv yX11_tune := ⟨tg_4 (List.mem_of_getElem? (i := 3) rfl) rfl, tg_4 (List.mem_of_getElem? (i := 4) rfl) rfl⟩
theorem mi_X11_hush : Mi yX11_hush cX11_hush 2 (some .int) 0 := ⟨tg_4 (List.mem_of_getElem? (i := 22) rfl) rfl, tg_1 (List.mem_of_getElem? (i := 1) rfl) rfl, by decide +kernel, by decide +kernel, by decide +kernel⟩
theorem mv_X11_hush : Mv yX11_hush := ⟨tg_4 (List.mem_of_getElem? (i := 20) rfl) rfl, tg_4 (List.mem_of_getElem? (i := 21) rfl) rfl⟩
theorem mi_X11_match : Mi yX11_match cX11_match 2 (some .int) 1 := ⟨tg_6 (List.mem_of_getElem? (i := 63) rfl) rfl, tg_1 (List.mem_of_getElem? (i := 1) rfl) rfl, by decide +kernel, by decide +kernel, by decide +kernel⟩
theorem mv_X11_match : Mv yX11_match := ⟨tg_6 (List.mem_of_getElem? (i := 61) rfl) rfl, tg_6 (List.mem_of_getElem? (i := 62) rfl) rfl⟩
theorem mi_X11_matched : Mi yX11_matched cX11_matched 2 (some .int) 1 := ⟨tg_6 (List.mem_of_getElem? (i := 99) rfl) rfl, tg_1 (List.mem_of_getElem? (i := 1) rfl) rfl, by decide +kernel, by decide +kernel, by decide +kernel⟩
theorem mv_X11_matched : Mv yX11_matched := ⟨tg_6 (List.mem_of_getElem? (i := 97) rfl) rfl, tg_6 (List.mem_of_getElem? (i := 98) rfl) rfl⟩
theorem mi_X11_marks : Mi yX11_marks cX11_marks 1 (some .int) 0 := ⟨tg_4 (List.mem_of_getElem? (i := 30) rfl) rfl, tg_1 (List.mem_of_getElem? (i := 1) rfl) rfl, by decide +kernel, by decide +kernel, by decide +kernel⟩
theorem mv_X11_marks : Mv yX11_marks := ⟨tg_4 (List.mem_of_getElem? (i := 28) rfl) rfl, tg_4 (List.mem_of_getElem? (i := 29) rfl) rfl⟩
theorem mi_X11_mark : Mi yX11_mark cX11_mark 2 (some .int) 1 := ⟨tg_6 (List.mem_of_getElem? (i := 110) rfl) rfl, tg_1 (List.mem_of_getElem? (i := 1) rfl) rfl, by decide +kernel, by decide +kernel, by decide +kernel⟩
theorem mv_X11_mark : Mv yX11_mark := ⟨tg_6 (List.mem_of_getElem? (i := 108) rfl) rfl, tg_6 (List.mem_of_getElem? (i := 109) rfl) rfl⟩
theorem mi_X11_near : Mi yX11_near cX11_near 3 (some .int) 1 := ⟨tg_4 (List.mem_of_getElem? (i := 83) rfl) rfl, tg_1 (List.mem_of_getElem? (i := 1) rfl) rfl, by decide +kernel, by decide +kernel, by decide +kernel⟩
theorem mv_X11_near : Mv yX11_near := ⟨tg_4 (List.mem_of_getElem? (i := 81) rfl) rfl, tg_4 (List.mem_of_getElem? (i := 82) rfl) rfl⟩
theorem mi_X11_behind : Mi yX11_behind cX11_behind 3 (some .int) 1 := ⟨tg_4 (List.mem_of_getElem? (i := 103) rfl) rfl, tg_1 (List.mem_of_getElem? (i := 1) rfl) rfl, by decide +kernel, by decide +kernel, by decide +kernel⟩
theorem mv_X11_behind : Mv yX11_behind := ⟨tg_4 (List.mem_of_getElem? (i := 101) rfl) rfl, tg_4 (List.mem_of_getElem? (i := 102) rfl) rfl⟩
theorem mi_X11_gaps : Mi yX11_gaps cX11_gaps 2 (some .int) 1 := ⟨tg_6 (List.mem_of_getElem? (i := 118) rfl) rfl, tg_1 (List.mem_of_getElem? (i := 1) rfl) rfl, by decide +kernel, by decide +kernel, by decide +kernel⟩
theorem mv_X11_gaps : Mv yX11_gaps := ⟨tg_6 (List.mem_of_getElem? (i := 116) rfl) rfl, tg_6 (List.mem_of_getElem? (i := 117) rfl) rfl⟩
theorem mi_X11_rough : Mi yX11_rough cX11_rough 2 (some .int) 1 := ⟨tg_6 (List.mem_of_getElem? (i := 146) rfl) rfl, tg_1 (List.mem_of_getElem? (i := 1) rfl) rfl, by decide +kernel, by decide +kernel, by decide +kernel⟩
theorem mv_X11_rough : Mv yX11_rough := ⟨tg_6 (List.mem_of_getElem? (i := 144) rfl) rfl, tg_6 (List.mem_of_getElem? (i := 145) rfl) rfl⟩
theorem mi_X11_roughest : Mi yX11_roughest cX11_roughest 5 (some .int) 0 := ⟨tg_4 (List.mem_of_getElem? (i := 107) rfl) rfl, tg_1 (List.mem_of_getElem? (i := 1) rfl) rfl, by decide +kernel, by decide +kernel, by decide +kernel⟩
theorem mv_X11_roughest : Mv yX11_roughest := ⟨tg_4 (List.mem_of_getElem? (i := 105) rfl) rfl, tg_4 (List.mem_of_getElem? (i := 106) rfl) rfl⟩
theorem mi_X11_mean : Mi yX11_mean cX11_mean 2 (some .int) 1 := ⟨tg_6 (List.mem_of_getElem? (i := 153) rfl) rfl, tg_1 (List.mem_of_getElem? (i := 1) rfl) rfl, by decide +kernel, by decide +kernel, by decide +kernel⟩
theorem mv_X11_mean : Mv yX11_mean := ⟨tg_6 (List.mem_of_getElem? (i := 151) rfl) rfl, tg_6 (List.mem_of_getElem? (i := 152) rfl) rfl⟩
theorem mi_X11_anew : Mi yX11_anew cX11_anew 4 (some .int) 3 := ⟨tg_6 (List.mem_of_getElem? (i := 164) rfl) rfl, tg_1 (List.mem_of_getElem? (i := 1) rfl) rfl, by decide +kernel, by decide +kernel, by decide +kernel⟩
theorem mv_X11_anew : Mv yX11_anew := ⟨tg_6 (List.mem_of_getElem? (i := 162) rfl) rfl, tg_6 (List.mem_of_getElem? (i := 163) rfl) rfl⟩
theorem mi_X11_need : Mi yX11_need cX11_need 1 none 1 := ⟨tg_4 (List.mem_of_getElem? (i := 126) rfl) rfl, tg_1 (List.mem_of_getElem? (i := 1) rfl) rfl, by decide +kernel, by decide +kernel, by decide +kernel⟩
theorem ms_X11_need : Cond.static yX11_need ∈ TG := tg_4 (List.mem_of_getElem? (i := 125) rfl) rfl
theorem mi_X11_allow : Mi yX11_allow cX11_allow 1 none 1 := ⟨tg_5 (List.mem_of_getElem? (i := 97) rfl) rfl, tg_1 (List.mem_of_getElem? (i := 1) rfl) rfl, by decide +kernel, by decide +kernel, by decide +kernel⟩
theorem ms_X11_allow : Cond.static yX11_allow ∈ TG := tg_5 (List.mem_of_getElem? (i := 96) rfl) rfl
theorem mi_X11_isLag : Mi yX11_isLag cX11_isLag 2 (some .boolean) 1 := ⟨tg_4 (List.mem_of_getElem? (i := 216) rfl) rfl, tg_1 (List.mem_of_getElem? (i := 1) rfl) rfl, by decide +kernel, by decide +kernel, by decide +kernel⟩
theorem mv_X11_isLag : Mv yX11_isLag := ⟨tg_4 (List.mem_of_getElem? (i := 215) rfl) rfl, tg_s (q := (yX11_isLag, 13)) (List.mem_append_right _ (List.mem_append_left _ (List.mem_of_getElem? (i := 8) (by decide +kernel) : (yX11_isLag, 13) ∈ lw_privs_2))) (by decide +kernel)⟩
theorem mi_X11_isHeight : Mi yX11_isHeight cX11_isHeight 1 (some .boolean) 1 := ⟨tg_2 (List.mem_of_getElem? (i := 194) rfl) rfl, tg_1 (List.mem_of_getElem? (i := 1) rfl) rfl, by decide +kernel, by decide +kernel, by decide +kernel⟩
theorem ms_X11_isHeight : Cond.static yX11_isHeight ∈ TG := tg_2 (List.mem_of_getElem? (i := 193) rfl) rfl
theorem mi_X11_changedFrom : Mi yX11_changedFrom cX11_changedFrom 3 (some .int) 2 := ⟨tg_2 (List.mem_of_getElem? (i := 171) rfl) rfl, tg_1 (List.mem_of_getElem? (i := 1) rfl) rfl, by decide +kernel, by decide +kernel, by decide +kernel⟩
theorem mv_X11_changedFrom : Mv yX11_changedFrom := ⟨tg_2 (List.mem_of_getElem? (i := 170) rfl) rfl, tg_s (q := (yX11_changedFrom, 13)) (List.mem_append_left _ (List.mem_of_getElem? (i := 0) (by decide +kernel) : (yX11_changedFrom, 13) ∈ lw_privs_1)) (by decide +kernel)⟩
theorem mi_X11_forgetAnswers : Mi yX11_forgetAnswers cX11_forgetAnswers 1 none 0 := ⟨tg_2 (List.mem_of_getElem? (i := 187) rfl) rfl, tg_1 (List.mem_of_getElem? (i := 1) rfl) rfl, by decide +kernel, by decide +kernel, by decide +kernel⟩
theorem mv_X11_forgetAnswers : Mv yX11_forgetAnswers := ⟨tg_2 (List.mem_of_getElem? (i := 186) rfl) rfl, tg_s (q := (yX11_forgetAnswers, 13)) (List.mem_append_left _ (List.mem_of_getElem? (i := 2) (by decide +kernel) : (yX11_forgetAnswers, 13) ∈ lw_privs_1)) (by decide +kernel)⟩
theorem mi_X11_findPath : Mi yX11_findPath cX11_findPath 1 none 0 := ⟨tg_3 (List.mem_of_getElem? (i := 24) rfl) rfl, tg_1 (List.mem_of_getElem? (i := 1) rfl) rfl, by decide +kernel, by decide +kernel, by decide +kernel⟩
theorem mv_X11_findPath : Mv yX11_findPath := ⟨tg_3 (List.mem_of_getElem? (i := 23) rfl) rfl, tg_s (q := (yX11_findPath, 13)) (List.mem_append_left _ (List.mem_of_getElem? (i := 3) (by decide +kernel) : (yX11_findPath, 13) ∈ lw_privs_1)) (by decide +kernel)⟩
theorem mi_X11_findRanking : Mi yX11_findRanking cX11_findRanking 1 none 0 := ⟨tg_5 (List.mem_of_getElem? (i := 146) rfl) rfl, tg_1 (List.mem_of_getElem? (i := 1) rfl) rfl, by decide +kernel, by decide +kernel, by decide +kernel⟩
theorem mv_X11_findRanking : Mv yX11_findRanking := ⟨tg_5 (List.mem_of_getElem? (i := 145) rfl) rfl, tg_s (q := (yX11_findRanking, 13)) (List.mem_append_right _ (List.mem_append_left _ (List.mem_of_getElem? (i := 11) (by decide +kernel) : (yX11_findRanking, 13) ∈ lw_privs_2))) (by decide +kernel)⟩
theorem mi_X11_findMarks : Mi yX11_findMarks cX11_findMarks 1 none 0 := ⟨tg_4 (List.mem_of_getElem? (i := 34) rfl) rfl, tg_1 (List.mem_of_getElem? (i := 1) rfl) rfl, by decide +kernel, by decide +kernel, by decide +kernel⟩
theorem mv_X11_findMarks : Mv yX11_findMarks := ⟨tg_4 (List.mem_of_getElem? (i := 33) rfl) rfl, tg_s (q := (yX11_findMarks, 13)) (List.mem_append_right _ (List.mem_append_left _ (List.mem_of_getElem? (i := 4) (by decide +kernel) : (yX11_findMarks, 13) ∈ lw_privs_2))) (by decide +kernel)⟩
theorem mi_X11_quotient : Mi yX11_quotient cX11_quotient 2 (some .int) 2 := ⟨tg_2 (List.mem_of_getElem? (i := 197) rfl) rfl, tg_1 (List.mem_of_getElem? (i := 1) rfl) rfl, by decide +kernel, by decide +kernel, by decide +kernel⟩
theorem ms_X11_quotient : Cond.static yX11_quotient ∈ TG := tg_2 (List.mem_of_getElem? (i := 196) rfl) rfl
theorem mi_X11_lowest : Mi yX11_lowest cX11_lowest 4 (some .int) 3 := ⟨tg_5 (List.mem_of_getElem? (i := 31) rfl) rfl, tg_1 (List.mem_of_getElem? (i := 1) rfl) rfl, by decide +kernel, by decide +kernel, by decide +kernel⟩
theorem ms_X11_lowest : Cond.static yX11_lowest ∈ TG := tg_5 (List.mem_of_getElem? (i := 30) rfl) rfl
theorem mi_X11_commonPart : Mi yX11_commonPart cX11_commonPart 6 (some .int) 2 := ⟨tg_5 (List.mem_of_getElem? (i := 35) rfl) rfl, tg_1 (List.mem_of_getElem? (i := 1) rfl) rfl, by decide +kernel, by decide +kernel, by decide +kernel⟩
theorem ms_X11_commonPart : Cond.static yX11_commonPart ∈ TG := tg_5 (List.mem_of_getElem? (i := 34) rfl) rfl
theorem mi_X11_cell : Mi yX11_cell cX11_cell 2 (some .int) 2 := ⟨tg_3 (List.mem_of_getElem? (i := 79) rfl) rfl, tg_1 (List.mem_of_getElem? (i := 1) rfl) rfl, by decide +kernel, by decide +kernel, by decide +kernel⟩
theorem ms_X11_cell : Cond.static yX11_cell ∈ TG := tg_3 (List.mem_of_getElem? (i := 78) rfl) rfl
theorem mi_X11_middleLag : Mi yX11_middleLag cX11_middleLag 4 (some .int) 2 := ⟨tg_3 (List.mem_of_getElem? (i := 189) rfl) rfl, tg_1 (List.mem_of_getElem? (i := 1) rfl) rfl, by decide +kernel, by decide +kernel, by decide +kernel⟩
theorem ms_X11_middleLag : Cond.static yX11_middleLag ∈ TG := tg_3 (List.mem_of_getElem? (i := 188) rfl) rfl
theorem mi_X12_thrown : Mi yX12_thrown cX12_thrown 1 (some .int) 0 := ⟨tg_7 (List.mem_of_getElem? (i := 99) rfl) rfl, tg_1 (List.mem_of_getElem? (i := 13) rfl) rfl, by decide +kernel, by decide +kernel, by decide +kernel⟩
theorem mv_X12_thrown : Mv yX12_thrown := ⟨tg_7 (List.mem_of_getElem? (i := 97) rfl) rfl, tg_7 (List.mem_of_getElem? (i := 98) rfl) rfl⟩
theorem mi_X12_right : Mi yX12_right cX12_right 3 (some .boolean) 2 := ⟨tg_7 (List.mem_of_getElem? (i := 147) rfl) rfl, tg_1 (List.mem_of_getElem? (i := 13) rfl) rfl, by decide +kernel, by decide +kernel, by decide +kernel⟩
theorem mv_X12_right : Mv yX12_right := ⟨tg_7 (List.mem_of_getElem? (i := 146) rfl) rfl, tg_s (q := (yX12_right, 50)) (List.mem_append_right _ (List.mem_append_right _ (List.mem_append_left _ (List.mem_of_getElem? (i := 5) (by decide +kernel) : (yX12_right, 50) ∈ lw_privs_3)))) (by decide +kernel)⟩
theorem mi_X12_isIn : Mi yX12_isIn cX12_isIn 3 (some .boolean) 3 := ⟨tg_7 (List.mem_of_getElem? (i := 114) rfl) rfl, tg_1 (List.mem_of_getElem? (i := 13) rfl) rfl, by decide +kernel, by decide +kernel, by decide +kernel⟩
theorem ms_X12_isIn : Cond.static yX12_isIn ∈ TG := tg_7 (List.mem_of_getElem? (i := 113) rfl) rfl
theorem mi_X12_apart : Mi yX12_apart cX12_apart 2 (some .int) 2 := ⟨tg_7 (List.mem_of_getElem? (i := 182) rfl) rfl, tg_1 (List.mem_of_getElem? (i := 13) rfl) rfl, by decide +kernel, by decide +kernel, by decide +kernel⟩
theorem ms_X12_apart : Cond.static yX12_apart ∈ TG := tg_7 (List.mem_of_getElem? (i := 181) rfl) rfl
theorem mi_X12_divisor : Mi yX12_divisor cX12_divisor 5 (some .int) 2 := ⟨tg_8 (List.mem_of_getElem? (i := 1) rfl) rfl, tg_1 (List.mem_of_getElem? (i := 13) rfl) rfl, by decide +kernel, by decide +kernel, by decide +kernel⟩
theorem ms_X12_divisor : Cond.static yX12_divisor ∈ TG := tg_8 (List.mem_of_getElem? (i := 0) rfl) rfl
theorem mi_X12_down : Mi yX12_down cX12_down 3 (some .int) 2 := ⟨tg_9 (List.mem_of_getElem? (i := 80) rfl) rfl, tg_1 (List.mem_of_getElem? (i := 13) rfl) rfl, by decide +kernel, by decide +kernel, by decide +kernel⟩
theorem ms_X12_down : Cond.static yX12_down ∈ TG := tg_9 (List.mem_of_getElem? (i := 79) rfl) rfl
theorem mi_X12_feed : Mi yX12_feed cX12_feed 6 (some .int) 5 := ⟨tg_7 (List.mem_of_getElem? (i := 103) rfl) rfl, tg_1 (List.mem_of_getElem? (i := 13) rfl) rfl, by decide +kernel, by decide +kernel, by decide +kernel⟩
theorem mv_X12_feed : Mv yX12_feed := ⟨tg_7 (List.mem_of_getElem? (i := 101) rfl) rfl, tg_7 (List.mem_of_getElem? (i := 102) rfl) rfl⟩
theorem mi_X12_comes : Mi yX12_comes cX12_comes 4 none 1 := ⟨tg_7 (List.mem_of_getElem? (i := 107) rfl) rfl, tg_1 (List.mem_of_getElem? (i := 13) rfl) rfl, by decide +kernel, by decide +kernel, by decide +kernel⟩
theorem mv_X12_comes : Mv yX12_comes := ⟨tg_7 (List.mem_of_getElem? (i := 106) rfl) rfl, tg_s (q := (yX12_comes, 50)) (List.mem_append_right _ (List.mem_append_right _ (List.mem_append_left _ (List.mem_of_getElem? (i := 2) (by decide +kernel) : (yX12_comes, 50) ∈ lw_privs_3)))) (by decide +kernel)⟩
theorem mi_X12_adds : Mi yX12_adds cX12_adds 2 none 1 := ⟨tg_7 (List.mem_of_getElem? (i := 118) rfl) rfl, tg_1 (List.mem_of_getElem? (i := 13) rfl) rfl, by decide +kernel, by decide +kernel, by decide +kernel⟩
theorem mv_X12_adds : Mv yX12_adds := ⟨tg_7 (List.mem_of_getElem? (i := 117) rfl) rfl, tg_s (q := (yX12_adds, 50)) (List.mem_append_right _ (List.mem_append_right _ (List.mem_append_left _ (List.mem_of_getElem? (i := 3) (by decide +kernel) : (yX12_adds, 50) ∈ lw_privs_3)))) (by decide +kernel)⟩
theorem mi_X12_samples : Mi yX12_samples cX12_samples 3 (some .int) 1 := ⟨tg_7 (List.mem_of_getElem? (i := 111) rfl) rfl, tg_1 (List.mem_of_getElem? (i := 13) rfl) rfl, by decide +kernel, by decide +kernel, by decide +kernel⟩
theorem mv_X12_samples : Mv yX12_samples := ⟨tg_7 (List.mem_of_getElem? (i := 109) rfl) rfl, tg_7 (List.mem_of_getElem? (i := 110) rfl) rfl⟩
theorem mi_X12_cycles : Mi yX12_cycles cX12_cycles 6 (some .int) 3 := ⟨tg_7 (List.mem_of_getElem? (i := 122) rfl) rfl, tg_1 (List.mem_of_getElem? (i := 13) rfl) rfl, by decide +kernel, by decide +kernel, by decide +kernel⟩
theorem mv_X12_cycles : Mv yX12_cycles := ⟨tg_7 (List.mem_of_getElem? (i := 120) rfl) rfl, tg_7 (List.mem_of_getElem? (i := 121) rfl) rfl⟩
theorem mi_X12_draw : Mi yX12_draw cX12_draw 2 (some .int) 1 := ⟨tg_7 (List.mem_of_getElem? (i := 130) rfl) rfl, tg_1 (List.mem_of_getElem? (i := 13) rfl) rfl, by decide +kernel, by decide +kernel, by decide +kernel⟩
theorem mv_X12_draw : Mv yX12_draw := ⟨tg_7 (List.mem_of_getElem? (i := 129) rfl) rfl, tg_s (q := (yX12_draw, 50)) (List.mem_append_right _ (List.mem_append_right _ (List.mem_append_left _ (List.mem_of_getElem? (i := 4) (by decide +kernel) : (yX12_draw, 50) ∈ lw_privs_3)))) (by decide +kernel)⟩
theorem mi_X12_noise : Mi yX12_noise cX12_noise 5 (some .int) 3 := ⟨tg_7 (List.mem_of_getElem? (i := 126) rfl) rfl, tg_1 (List.mem_of_getElem? (i := 13) rfl) rfl, by decide +kernel, by decide +kernel, by decide +kernel⟩
theorem mv_X12_noise : Mv yX12_noise := ⟨tg_7 (List.mem_of_getElem? (i := 124) rfl) rfl, tg_7 (List.mem_of_getElem? (i := 125) rfl) rfl⟩
theorem mi_X12_poke : Mi yX12_poke cX12_poke 4 (some .int) 2 := ⟨tg_7 (List.mem_of_getElem? (i := 135) rfl) rfl, tg_1 (List.mem_of_getElem? (i := 13) rfl) rfl, by decide +kernel, by decide +kernel, by decide +kernel⟩
theorem mv_X12_poke : Mv yX12_poke := ⟨tg_7 (List.mem_of_getElem? (i := 133) rfl) rfl, tg_7 (List.mem_of_getElem? (i := 134) rfl) rfl⟩
theorem mi_X12_cut : Mi yX12_cut cX12_cut 2 (some .int) 1 := ⟨tg_7 (List.mem_of_getElem? (i := 139) rfl) rfl, tg_1 (List.mem_of_getElem? (i := 13) rfl) rfl, by decide +kernel, by decide +kernel, by decide +kernel⟩
theorem mv_X12_cut : Mv yX12_cut := ⟨tg_7 (List.mem_of_getElem? (i := 137) rfl) rfl, tg_7 (List.mem_of_getElem? (i := 138) rfl) rfl⟩
theorem mi_X12_sample : Mi yX12_sample cX12_sample 2 (some .int) 1 := ⟨tg_7 (List.mem_of_getElem? (i := 143) rfl) rfl, tg_1 (List.mem_of_getElem? (i := 13) rfl) rfl, by decide +kernel, by decide +kernel, by decide +kernel⟩
theorem mv_X12_sample : Mv yX12_sample := ⟨tg_7 (List.mem_of_getElem? (i := 141) rfl) rfl, tg_7 (List.mem_of_getElem? (i := 142) rfl) rfl⟩
theorem mi_X12_at : Mi yX12_at cX12_at 2 (some .int) 1 := ⟨tg_9 (List.mem_of_getElem? (i := 53) rfl) rfl, tg_1 (List.mem_of_getElem? (i := 13) rfl) rfl, by decide +kernel, by decide +kernel, by decide +kernel⟩
theorem mv_X12_at : Mv yX12_at := ⟨tg_9 (List.mem_of_getElem? (i := 52) rfl) rfl, tg_s (q := (yX12_at, 50)) (List.mem_append_right _ (List.mem_append_right _ (List.mem_append_right _ (List.mem_append_right _ (List.mem_append_right _ ((List.mem_of_getElem? (i := 10) (by decide +kernel) : (yX12_at, 50) ∈ lw_privs_6))))))) (by decide +kernel)⟩
theorem mi_X12_canBe : Mi yX12_canBe cX12_canBe 3 (some .boolean) 2 := ⟨tg_7 (List.mem_of_getElem? (i := 155) rfl) rfl, tg_1 (List.mem_of_getElem? (i := 13) rfl) rfl, by decide +kernel, by decide +kernel, by decide +kernel⟩
theorem mv_X12_canBe : Mv yX12_canBe := ⟨tg_7 (List.mem_of_getElem? (i := 154) rfl) rfl, tg_s (q := (yX12_canBe, 50)) (List.mem_append_right _ (List.mem_append_right _ (List.mem_append_left _ (List.mem_of_getElem? (i := 6) (by decide +kernel) : (yX12_canBe, 50) ∈ lw_privs_3)))) (by decide +kernel)⟩
theorem mi_X12_bound : Mi yX12_bound cX12_bound 4 (some .int) 2 := ⟨tg_7 (List.mem_of_getElem? (i := 151) rfl) rfl, tg_1 (List.mem_of_getElem? (i := 13) rfl) rfl, by decide +kernel, by decide +kernel, by decide +kernel⟩
theorem mv_X12_bound : Mv yX12_bound := ⟨tg_7 (List.mem_of_getElem? (i := 149) rfl) rfl, tg_7 (List.mem_of_getElem? (i := 150) rfl) rfl⟩
theorem mi_X12_frames : Mi yX12_frames cX12_frames 2 (some .int) 0 := ⟨tg_7 (List.mem_of_getElem? (i := 163) rfl) rfl, tg_1 (List.mem_of_getElem? (i := 13) rfl) rfl, by decide +kernel, by decide +kernel, by decide +kernel⟩
theorem mv_X12_frames : Mv yX12_frames := ⟨tg_7 (List.mem_of_getElem? (i := 162) rfl) rfl, tg_s (q := (yX12_frames, 50)) (List.mem_append_right _ (List.mem_append_right _ (List.mem_append_left _ (List.mem_of_getElem? (i := 7) (by decide +kernel) : (yX12_frames, 50) ∈ lw_privs_3)))) (by decide +kernel)⟩
theorem mi_X12_count : Mi yX12_count cX12_count 2 (some .int) 1 := ⟨tg_7 (List.mem_of_getElem? (i := 159) rfl) rfl, tg_1 (List.mem_of_getElem? (i := 13) rfl) rfl, by decide +kernel, by decide +kernel, by decide +kernel⟩
theorem mv_X12_count : Mv yX12_count := ⟨tg_7 (List.mem_of_getElem? (i := 157) rfl) rfl, tg_7 (List.mem_of_getElem? (i := 158) rfl) rfl⟩
theorem mi_X12_laysDiffs : Mi yX12_laysDiffs cX12_laysDiffs 7 none 1 := ⟨tg_7 (List.mem_of_getElem? (i := 179) rfl) rfl, tg_1 (List.mem_of_getElem? (i := 13) rfl) rfl, by decide +kernel, by decide +kernel, by decide +kernel⟩
theorem mv_X12_laysDiffs : Mv yX12_laysDiffs := ⟨tg_7 (List.mem_of_getElem? (i := 178) rfl) rfl, tg_s (q := (yX12_laysDiffs, 50)) (List.mem_append_right _ (List.mem_append_right _ (List.mem_append_left _ (List.mem_of_getElem? (i := 10) (by decide +kernel) : (yX12_laysDiffs, 50) ∈ lw_privs_3)))) (by decide +kernel)⟩
theorem mi_X12_loudOf : Mi yX12_loudOf cX12_loudOf 4 (some .int) 1 := ⟨tg_7 (List.mem_of_getElem? (i := 194) rfl) rfl, tg_1 (List.mem_of_getElem? (i := 13) rfl) rfl, by decide +kernel, by decide +kernel, by decide +kernel⟩
theorem mv_X12_loudOf : Mv yX12_loudOf := ⟨tg_7 (List.mem_of_getElem? (i := 193) rfl) rfl, tg_s (q := (yX12_loudOf, 50)) (List.mem_append_right _ (List.mem_append_right _ (List.mem_append_left _ (List.mem_of_getElem? (i := 11) (by decide +kernel) : (yX12_loudOf, 50) ∈ lw_privs_3)))) (by decide +kernel)⟩
theorem mi_X12_isFrame : Mi yX12_isFrame cX12_isFrame 2 (some .boolean) 1 := ⟨tg_7 (List.mem_of_getElem? (i := 171) rfl) rfl, tg_1 (List.mem_of_getElem? (i := 13) rfl) rfl, by decide +kernel, by decide +kernel, by decide +kernel⟩
theorem mv_X12_isFrame : Mv yX12_isFrame := ⟨tg_7 (List.mem_of_getElem? (i := 170) rfl) rfl, tg_s (q := (yX12_isFrame, 50)) (List.mem_append_right _ (List.mem_append_right _ (List.mem_append_left _ (List.mem_of_getElem? (i := 8) (by decide +kernel) : (yX12_isFrame, 50) ∈ lw_privs_3)))) (by decide +kernel)⟩
theorem mi_X12_isLag : Mi yX12_isLag cX12_isLag 2 (some .boolean) 1 := ⟨tg_7 (List.mem_of_getElem? (i := 175) rfl) rfl, tg_1 (List.mem_of_getElem? (i := 13) rfl) rfl, by decide +kernel, by decide +kernel, by decide +kernel⟩
theorem mv_X12_isLag : Mv yX12_isLag := ⟨tg_7 (List.mem_of_getElem? (i := 174) rfl) rfl, tg_s (q := (yX12_isLag, 50)) (List.mem_append_right _ (List.mem_append_right _ (List.mem_append_left _ (List.mem_of_getElem? (i := 9) (by decide +kernel) : (yX12_isLag, 50) ∈ lw_privs_3)))) (by decide +kernel)⟩
theorem mi_X12_diff : Mi yX12_diff cX12_diff 3 (some .int) 2 := ⟨tg_7 (List.mem_of_getElem? (i := 167) rfl) rfl, tg_1 (List.mem_of_getElem? (i := 13) rfl) rfl, by decide +kernel, by decide +kernel, by decide +kernel⟩
theorem mv_X12_diff : Mv yX12_diff := ⟨tg_7 (List.mem_of_getElem? (i := 165) rfl) rfl, tg_7 (List.mem_of_getElem? (i := 166) rfl) rfl⟩
theorem mi_X12_rel : Mi yX12_rel cX12_rel 3 (some .int) 2 := ⟨tg_7 (List.mem_of_getElem? (i := 186) rfl) rfl, tg_1 (List.mem_of_getElem? (i := 13) rfl) rfl, by decide +kernel, by decide +kernel, by decide +kernel⟩
theorem mv_X12_rel : Mv yX12_rel := ⟨tg_7 (List.mem_of_getElem? (i := 184) rfl) rfl, tg_7 (List.mem_of_getElem? (i := 185) rfl) rfl⟩
theorem mi_X12_loud : Mi yX12_loud cX12_loud 2 (some .int) 1 := ⟨tg_7 (List.mem_of_getElem? (i := 190) rfl) rfl, tg_1 (List.mem_of_getElem? (i := 13) rfl) rfl, by decide +kernel, by decide +kernel, by decide +kernel⟩
theorem mv_X12_loud : Mv yX12_loud := ⟨tg_7 (List.mem_of_getElem? (i := 188) rfl) rfl, tg_7 (List.mem_of_getElem? (i := 189) rfl) rfl⟩
theorem mi_X12_isDipAt : Mi yX12_isDipAt cX12_isDipAt 2 (some .boolean) 1 := ⟨tg_7 (List.mem_of_getElem? (i := 210) rfl) rfl, tg_1 (List.mem_of_getElem? (i := 13) rfl) rfl, by decide +kernel, by decide +kernel, by decide +kernel⟩
theorem mv_X12_isDipAt : Mv yX12_isDipAt := ⟨tg_7 (List.mem_of_getElem? (i := 209) rfl) rfl, tg_s (q := (yX12_isDipAt, 50)) (List.mem_append_right _ (List.mem_append_right _ (List.mem_append_left _ (List.mem_of_getElem? (i := 14) (by decide +kernel) : (yX12_isDipAt, 50) ∈ lw_privs_3)))) (by decide +kernel)⟩
theorem mi_X12_laysDips : Mi yX12_laysDips cX12_laysDips 4 none 1 := ⟨tg_7 (List.mem_of_getElem? (i := 206) rfl) rfl, tg_1 (List.mem_of_getElem? (i := 13) rfl) rfl, by decide +kernel, by decide +kernel, by decide +kernel⟩
theorem mv_X12_laysDips : Mv yX12_laysDips := ⟨tg_7 (List.mem_of_getElem? (i := 205) rfl) rfl, tg_s (q := (yX12_laysDips, 50)) (List.mem_append_right _ (List.mem_append_right _ (List.mem_append_left _ (List.mem_of_getElem? (i := 13) (by decide +kernel) : (yX12_laysDips, 50) ∈ lw_privs_3)))) (by decide +kernel)⟩
theorem mi_X12_aheadOf : Mi yX12_aheadOf cX12_aheadOf 4 (some .int) 1 := ⟨tg_7 (List.mem_of_getElem? (i := 214) rfl) rfl, tg_1 (List.mem_of_getElem? (i := 13) rfl) rfl, by decide +kernel, by decide +kernel, by decide +kernel⟩
theorem mv_X12_aheadOf : Mv yX12_aheadOf := ⟨tg_7 (List.mem_of_getElem? (i := 213) rfl) rfl, tg_s (q := (yX12_aheadOf, 50)) (List.mem_append_right _ (List.mem_append_right _ (List.mem_append_left _ (List.mem_of_getElem? (i := 15) (by decide +kernel) : (yX12_aheadOf, 50) ∈ lw_privs_3)))) (by decide +kernel)⟩
theorem mi_X12_laysFrame : Mi yX12_laysFrame cX12_laysFrame 4 none 1 := ⟨tg_7 (List.mem_of_getElem? (i := 202) rfl) rfl, tg_1 (List.mem_of_getElem? (i := 13) rfl) rfl, by decide +kernel, by decide +kernel, by decide +kernel⟩
theorem mv_X12_laysFrame : Mv yX12_laysFrame := ⟨tg_7 (List.mem_of_getElem? (i := 201) rfl) rfl, tg_s (q := (yX12_laysFrame, 50)) (List.mem_append_right _ (List.mem_append_right _ (List.mem_append_left _ (List.mem_of_getElem? (i := 12) (by decide +kernel) : (yX12_laysFrame, 50) ∈ lw_privs_3)))) (by decide +kernel)⟩
theorem mi_X12_laysAll : Mi yX12_laysAll cX12_laysAll 2 none 0 := ⟨tg_8 (List.mem_of_getElem? (i := 13) rfl) rfl, tg_1 (List.mem_of_getElem? (i := 13) rfl) rfl, by decide +kernel, by decide +kernel, by decide +kernel⟩
theorem mv_X12_laysAll : Mv yX12_laysAll := ⟨tg_8 (List.mem_of_getElem? (i := 12) rfl) rfl, tg_s (q := (yX12_laysAll, 50)) (List.mem_append_right _ (List.mem_append_right _ (List.mem_append_right _ (List.mem_append_left _ (List.mem_of_getElem? (i := 5) (by decide +kernel) : (yX12_laysAll, 50) ∈ lw_privs_4))))) (by decide +kernel)⟩
theorem mi_X12_lagAt1 : Mi yX12_lagAt1 cX12_lagAt1 3 (some .int) 2 := ⟨tg_7 (List.mem_of_getElem? (i := 226) rfl) rfl, tg_1 (List.mem_of_getElem? (i := 13) rfl) rfl, by decide +kernel, by decide +kernel, by decide +kernel⟩
theorem mv_X12_lagAt1 : Mv yX12_lagAt1 := ⟨tg_7 (List.mem_of_getElem? (i := 225) rfl) rfl, tg_s (q := (yX12_lagAt1, 50)) (List.mem_append_right _ (List.mem_append_right _ (List.mem_append_right _ (List.mem_append_left _ (List.mem_of_getElem? (i := 1) (by decide +kernel) : (yX12_lagAt1, 50) ∈ lw_privs_4))))) (by decide +kernel)⟩
theorem mi_X12_ownAt : Mi yX12_ownAt cX12_ownAt 3 (some .int) 2 := ⟨tg_7 (List.mem_of_getElem? (i := 230) rfl) rfl, tg_1 (List.mem_of_getElem? (i := 13) rfl) rfl, by decide +kernel, by decide +kernel, by decide +kernel⟩
theorem mv_X12_ownAt : Mv yX12_ownAt := ⟨tg_7 (List.mem_of_getElem? (i := 229) rfl) rfl, tg_s (q := (yX12_ownAt, 50)) (List.mem_append_right _ (List.mem_append_right _ (List.mem_append_right _ (List.mem_append_left _ (List.mem_of_getElem? (i := 2) (by decide +kernel) : (yX12_ownAt, 50) ∈ lw_privs_4))))) (by decide +kernel)⟩
theorem mi_X12_doubleOf : Mi yX12_doubleOf cX12_doubleOf 6 (some .int) 2 := ⟨tg_7 (List.mem_of_getElem? (i := 234) rfl) rfl, tg_1 (List.mem_of_getElem? (i := 13) rfl) rfl, by decide +kernel, by decide +kernel, by decide +kernel⟩
theorem mv_X12_doubleOf : Mv yX12_doubleOf := ⟨tg_7 (List.mem_of_getElem? (i := 233) rfl) rfl, tg_s (q := (yX12_doubleOf, 50)) (List.mem_append_right _ (List.mem_append_right _ (List.mem_append_right _ (List.mem_append_left _ (List.mem_of_getElem? (i := 3) (by decide +kernel) : (yX12_doubleOf, 50) ∈ lw_privs_4))))) (by decide +kernel)⟩
theorem mi_X12_candidates : Mi yX12_candidates cX12_candidates 2 (some .int) 1 := ⟨tg_7 (List.mem_of_getElem? (i := 198) rfl) rfl, tg_1 (List.mem_of_getElem? (i := 13) rfl) rfl, by decide +kernel, by decide +kernel, by decide +kernel⟩
theorem mv_X12_candidates : Mv yX12_candidates := ⟨tg_7 (List.mem_of_getElem? (i := 196) rfl) rfl, tg_7 (List.mem_of_getElem? (i := 197) rfl) rfl⟩
theorem mi_X12_isCandidate : Mi yX12_isCandidate cX12_isCandidate 3 (some .boolean) 2 := ⟨tg_7 (List.mem_of_getElem? (i := 222) rfl) rfl, tg_1 (List.mem_of_getElem? (i := 13) rfl) rfl, by decide +kernel, by decide +kernel, by decide +kernel⟩
theorem mv_X12_isCandidate : Mv yX12_isCandidate := ⟨tg_7 (List.mem_of_getElem? (i := 221) rfl) rfl, tg_s (q := (yX12_isCandidate, 50)) (List.mem_append_right _ (List.mem_append_right _ (List.mem_append_right _ (List.mem_append_left _ (List.mem_of_getElem? (i := 0) (by decide +kernel) : (yX12_isCandidate, 50) ∈ lw_privs_4))))) (by decide +kernel)⟩
theorem mi_X12_candidate : Mi yX12_candidate cX12_candidate 6 (some .int) 3 := ⟨tg_7 (List.mem_of_getElem? (i := 218) rfl) rfl, tg_1 (List.mem_of_getElem? (i := 13) rfl) rfl, by decide +kernel, by decide +kernel, by decide +kernel⟩
theorem mv_X12_candidate : Mv yX12_candidate := ⟨tg_7 (List.mem_of_getElem? (i := 216) rfl) rfl, tg_7 (List.mem_of_getElem? (i := 217) rfl) rfl⟩
theorem mi_X12_fine : Mi yX12_fine cX12_fine 8 (some .int) 3 := ⟨tg_7 (List.mem_of_getElem? (i := 238) rfl) rfl, tg_1 (List.mem_of_getElem? (i := 13) rfl) rfl, by decide +kernel, by decide +kernel, by decide +kernel⟩
theorem mv_X12_fine : Mv yX12_fine := ⟨tg_7 (List.mem_of_getElem? (i := 236) rfl) rfl, tg_7 (List.mem_of_getElem? (i := 237) rfl) rfl⟩
theorem mi_X12_step : Mi yX12_step cX12_step 3 (some .int) 2 := ⟨tg_8 (List.mem_of_getElem? (i := 34) rfl) rfl, tg_1 (List.mem_of_getElem? (i := 13) rfl) rfl, by decide +kernel, by decide +kernel, by decide +kernel⟩
theorem mv_X12_step : Mv yX12_step := ⟨tg_8 (List.mem_of_getElem? (i := 33) rfl) rfl, tg_s (q := (yX12_step, 50)) (List.mem_append_right _ (List.mem_append_right _ (List.mem_append_right _ (List.mem_append_left _ (List.mem_of_getElem? (i := 10) (by decide +kernel) : (yX12_step, 50) ∈ lw_privs_4))))) (by decide +kernel)⟩
theorem mi_X12_isOctave : Mi yX12_isOctave cX12_isOctave 4 (some .boolean) 2 := ⟨tg_8 (List.mem_of_getElem? (i := 37) rfl) rfl, tg_1 (List.mem_of_getElem? (i := 13) rfl) rfl, by decide +kernel, by decide +kernel, by decide +kernel⟩
theorem ms_X12_isOctave : Cond.static yX12_isOctave ∈ TG := tg_8 (List.mem_of_getElem? (i := 36) rfl) rfl
theorem mi_X12_between : Mi yX12_between cX12_between 4 (some .int) 3 := ⟨tg_8 (List.mem_of_getElem? (i := 30) rfl) rfl, tg_1 (List.mem_of_getElem? (i := 13) rfl) rfl, by decide +kernel, by decide +kernel, by decide +kernel⟩
theorem mv_X12_between : Mv yX12_between := ⟨tg_8 (List.mem_of_getElem? (i := 29) rfl) rfl, tg_s (q := (yX12_between, 50)) (List.mem_append_right _ (List.mem_append_right _ (List.mem_append_right _ (List.mem_append_left _ (List.mem_of_getElem? (i := 9) (by decide +kernel) : (yX12_between, 50) ∈ lw_privs_4))))) (by decide +kernel)⟩
theorem mi_X12_opens : Mi yX12_opens cX12_opens 2 none 0 := ⟨tg_8 (List.mem_of_getElem? (i := 17) rfl) rfl, tg_1 (List.mem_of_getElem? (i := 13) rfl) rfl, by decide +kernel, by decide +kernel, by decide +kernel⟩
theorem mv_X12_opens : Mv yX12_opens := ⟨tg_8 (List.mem_of_getElem? (i := 16) rfl) rfl, tg_s (q := (yX12_opens, 50)) (List.mem_append_right _ (List.mem_append_right _ (List.mem_append_right _ (List.mem_append_left _ (List.mem_of_getElem? (i := 6) (by decide +kernel) : (yX12_opens, 50) ∈ lw_privs_4))))) (by decide +kernel)⟩
theorem mi_X12_leavesOnly : Mi yX12_leavesOnly cX12_leavesOnly 4 none 2 := ⟨tg_8 (List.mem_of_getElem? (i := 73) rfl) rfl, tg_1 (List.mem_of_getElem? (i := 13) rfl) rfl, by decide +kernel, by decide +kernel, by decide +kernel⟩
theorem mv_X12_leavesOnly : Mv yX12_leavesOnly := ⟨tg_8 (List.mem_of_getElem? (i := 72) rfl) rfl, tg_s (q := (yX12_leavesOnly, 50)) (List.mem_append_right _ (List.mem_append_right _ (List.mem_append_right _ (List.mem_append_right _ (List.mem_append_left _ (List.mem_of_getElem? (i := 0) (by decide +kernel) : (yX12_leavesOnly, 50) ∈ lw_privs_5)))))) (by decide +kernel)⟩
theorem mi_X12_leastBehind : Mi yX12_leastBehind cX12_leastBehind 6 (some .int) 2 := ⟨tg_8 (List.mem_of_getElem? (i := 25) rfl) rfl, tg_1 (List.mem_of_getElem? (i := 13) rfl) rfl, by decide +kernel, by decide +kernel, by decide +kernel⟩
theorem mv_X12_leastBehind : Mv yX12_leastBehind := ⟨tg_8 (List.mem_of_getElem? (i := 24) rfl) rfl, tg_s (q := (yX12_leastBehind, 50)) (List.mem_append_right _ (List.mem_append_right _ (List.mem_append_right _ (List.mem_append_left _ (List.mem_of_getElem? (i := 8) (by decide +kernel) : (yX12_leastBehind, 50) ∈ lw_privs_4))))) (by decide +kernel)⟩
theorem mi_X12_laysCosts : Mi yX12_laysCosts cX12_laysCosts 5 none 1 := ⟨tg_8 (List.mem_of_getElem? (i := 21) rfl) rfl, tg_1 (List.mem_of_getElem? (i := 13) rfl) rfl, by decide +kernel, by decide +kernel, by decide +kernel⟩
theorem mv_X12_laysCosts : Mv yX12_laysCosts := ⟨tg_8 (List.mem_of_getElem? (i := 20) rfl) rfl, tg_s (q := (yX12_laysCosts, 50)) (List.mem_append_right _ (List.mem_append_right _ (List.mem_append_right _ (List.mem_append_left _ (List.mem_of_getElem? (i := 7) (by decide +kernel) : (yX12_laysCosts, 50) ∈ lw_privs_4))))) (by decide +kernel)⟩
theorem mi_X12_leastOfAll : Mi yX12_leastOfAll cX12_leastOfAll 3 (some .int) 0 := ⟨tg_8 (List.mem_of_getElem? (i := 45) rfl) rfl, tg_1 (List.mem_of_getElem? (i := 13) rfl) rfl, by decide +kernel, by decide +kernel, by decide +kernel⟩
theorem mv_X12_leastOfAll : Mv yX12_leastOfAll := ⟨tg_8 (List.mem_of_getElem? (i := 44) rfl) rfl, tg_s (q := (yX12_leastOfAll, 50)) (List.mem_append_right _ (List.mem_append_right _ (List.mem_append_right _ (List.mem_append_left _ (List.mem_of_getElem? (i := 12) (by decide +kernel) : (yX12_leastOfAll, 50) ∈ lw_privs_4))))) (by decide +kernel)⟩
theorem mi_X12_goesAlong : Mi yX12_goesAlong cX12_goesAlong 4 none 0 := ⟨tg_8 (List.mem_of_getElem? (i := 41) rfl) rfl, tg_1 (List.mem_of_getElem? (i := 13) rfl) rfl, by decide +kernel, by decide +kernel, by decide +kernel⟩
theorem mv_X12_goesAlong : Mv yX12_goesAlong := ⟨tg_8 (List.mem_of_getElem? (i := 40) rfl) rfl, tg_s (q := (yX12_goesAlong, 50)) (List.mem_append_right _ (List.mem_append_right _ (List.mem_append_right _ (List.mem_append_left _ (List.mem_of_getElem? (i := 11) (by decide +kernel) : (yX12_goesAlong, 50) ∈ lw_privs_4))))) (by decide +kernel)⟩
theorem mi_X12_reached : Mi yX12_reached cX12_reached 4 (some .int) 2 := ⟨tg_8 (List.mem_of_getElem? (i := 49) rfl) rfl, tg_1 (List.mem_of_getElem? (i := 13) rfl) rfl, by decide +kernel, by decide +kernel, by decide +kernel⟩
theorem mv_X12_reached : Mv yX12_reached := ⟨tg_8 (List.mem_of_getElem? (i := 48) rfl) rfl, tg_s (q := (yX12_reached, 50)) (List.mem_append_right _ (List.mem_append_right _ (List.mem_append_right _ (List.mem_append_left _ (List.mem_of_getElem? (i := 13) (by decide +kernel) : (yX12_reached, 50) ∈ lw_privs_4))))) (by decide +kernel)⟩
theorem mi_X12_laysPath : Mi yX12_laysPath cX12_laysPath 1 none 0 := ⟨tg_8 (List.mem_of_getElem? (i := 9) rfl) rfl, tg_1 (List.mem_of_getElem? (i := 13) rfl) rfl, by decide +kernel, by decide +kernel, by decide +kernel⟩
theorem mv_X12_laysPath : Mv yX12_laysPath := ⟨tg_8 (List.mem_of_getElem? (i := 8) rfl) rfl, tg_s (q := (yX12_laysPath, 50)) (List.mem_append_right _ (List.mem_append_right _ (List.mem_append_right _ (List.mem_append_left _ (List.mem_of_getElem? (i := 4) (by decide +kernel) : (yX12_laysPath, 50) ∈ lw_privs_4))))) (by decide +kernel)⟩
theorem mi_X12_lagOnPath : Mi yX12_lagOnPath cX12_lagOnPath 2 (some .int) 1 := ⟨tg_8 (List.mem_of_getElem? (i := 57) rfl) rfl, tg_1 (List.mem_of_getElem? (i := 13) rfl) rfl, by decide +kernel, by decide +kernel, by decide +kernel⟩
theorem mv_X12_lagOnPath : Mv yX12_lagOnPath := ⟨tg_8 (List.mem_of_getElem? (i := 56) rfl) rfl, tg_s (q := (yX12_lagOnPath, 50)) (List.mem_append_right _ (List.mem_append_right _ (List.mem_append_right _ (List.mem_append_left _ (List.mem_of_getElem? (i := 15) (by decide +kernel) : (yX12_lagOnPath, 50) ∈ lw_privs_4))))) (by decide +kernel)⟩
theorem mi_X12_part : Mi yX12_part cX12_part 7 (some .int) 2 := ⟨tg_8 (List.mem_of_getElem? (i := 53) rfl) rfl, tg_1 (List.mem_of_getElem? (i := 13) rfl) rfl, by decide +kernel, by decide +kernel, by decide +kernel⟩
theorem mv_X12_part : Mv yX12_part := ⟨tg_8 (List.mem_of_getElem? (i := 52) rfl) rfl, tg_s (q := (yX12_part, 50)) (List.mem_append_right _ (List.mem_append_right _ (List.mem_append_right _ (List.mem_append_left _ (List.mem_of_getElem? (i := 14) (by decide +kernel) : (yX12_part, 50) ∈ lw_privs_4))))) (by decide +kernel)⟩
theorem mi_X12_cost : Mi yX12_cost cX12_cost 4 (some .int) 1 := ⟨tg_8 (List.mem_of_getElem? (i := 5) rfl) rfl, tg_1 (List.mem_of_getElem? (i := 13) rfl) rfl, by decide +kernel, by decide +kernel, by decide +kernel⟩
theorem mv_X12_cost : Mv yX12_cost := ⟨tg_8 (List.mem_of_getElem? (i := 3) rfl) rfl, tg_8 (List.mem_of_getElem? (i := 4) rfl) rfl⟩
theorem mi_X12_path : Mi yX12_path cX12_path 2 (some .int) 1 := ⟨tg_8 (List.mem_of_getElem? (i := 61) rfl) rfl, tg_1 (List.mem_of_getElem? (i := 13) rfl) rfl, by decide +kernel, by decide +kernel, by decide +kernel⟩
theorem mv_X12_path : Mv yX12_path := ⟨tg_8 (List.mem_of_getElem? (i := 59) rfl) rfl, tg_8 (List.mem_of_getElem? (i := 60) rfl) rfl⟩
theorem mi_X12_lag : Mi yX12_lag cX12_lag 2 (some .int) 1 := ⟨tg_8 (List.mem_of_getElem? (i := 65) rfl) rfl, tg_1 (List.mem_of_getElem? (i := 13) rfl) rfl, by decide +kernel, by decide +kernel, by decide +kernel⟩
theorem mv_X12_lag : Mv yX12_lag := ⟨tg_8 (List.mem_of_getElem? (i := 63) rfl) rfl, tg_8 (List.mem_of_getElem? (i := 64) rfl) rfl⟩
theorem mi_X12_through : Mi yX12_through cX12_through 3 (some .int) 2 := ⟨tg_8 (List.mem_of_getElem? (i := 69) rfl) rfl, tg_1 (List.mem_of_getElem? (i := 13) rfl) rfl, by decide +kernel, by decide +kernel, by decide +kernel⟩
theorem mv_X12_through : Mv yX12_through := ⟨tg_8 (List.mem_of_getElem? (i := 67) rfl) rfl, tg_8 (List.mem_of_getElem? (i := 68) rfl) rfl⟩
theorem mi_X12_both : Mi yX12_both cX12_both 5 (some .int) 4 := ⟨tg_8 (List.mem_of_getElem? (i := 77) rfl) rfl, tg_1 (List.mem_of_getElem? (i := 13) rfl) rfl, by decide +kernel, by decide +kernel, by decide +kernel⟩
theorem mv_X12_both : Mv yX12_both := ⟨tg_8 (List.mem_of_getElem? (i := 75) rfl) rfl, tg_8 (List.mem_of_getElem? (i := 76) rfl) rfl⟩
theorem mi_X12_single : Mi yX12_single cX12_single 3 (some .int) 0 := ⟨tg_8 (List.mem_of_getElem? (i := 81) rfl) rfl, tg_1 (List.mem_of_getElem? (i := 13) rfl) rfl, by decide +kernel, by decide +kernel, by decide +kernel⟩
theorem mv_X12_single : Mv yX12_single := ⟨tg_8 (List.mem_of_getElem? (i := 79) rfl) rfl, tg_8 (List.mem_of_getElem? (i := 80) rfl) rfl⟩
theorem mi_X12_livesBy : Mi yX12_livesBy cX12_livesBy 3 (some .int) 2 := ⟨tg_8 (List.mem_of_getElem? (i := 89) rfl) rfl, tg_1 (List.mem_of_getElem? (i := 13) rfl) rfl, by decide +kernel, by decide +kernel, by decide +kernel⟩
theorem mv_X12_livesBy : Mv yX12_livesBy := ⟨tg_8 (List.mem_of_getElem? (i := 88) rfl) rfl, tg_s (q := (yX12_livesBy, 50)) (List.mem_append_right _ (List.mem_append_right _ (List.mem_append_right _ (List.mem_append_right _ (List.mem_append_left _ (List.mem_of_getElem? (i := 1) (by decide +kernel) : (yX12_livesBy, 50) ∈ lw_privs_5)))))) (by decide +kernel)⟩
theorem mi_X12_live : Mi yX12_live cX12_live 3 (some .int) 2 := ⟨tg_8 (List.mem_of_getElem? (i := 85) rfl) rfl, tg_1 (List.mem_of_getElem? (i := 13) rfl) rfl, by decide +kernel, by decide +kernel, by decide +kernel⟩
theorem mv_X12_live : Mv yX12_live := ⟨tg_8 (List.mem_of_getElem? (i := 83) rfl) rfl, tg_8 (List.mem_of_getElem? (i := 84) rfl) rfl⟩
theorem mi_X12_settles : Mi yX12_settles cX12_settles 4 (some .int) 1 := ⟨tg_8 (List.mem_of_getElem? (i := 93) rfl) rfl, tg_1 (List.mem_of_getElem? (i := 13) rfl) rfl, by decide +kernel, by decide +kernel, by decide +kernel⟩
theorem mv_X12_settles : Mv yX12_settles := ⟨tg_8 (List.mem_of_getElem? (i := 91) rfl) rfl, tg_8 (List.mem_of_getElem? (i := 92) rfl) rfl⟩
theorem mi_X12_would : Mi yX12_would cX12_would 3 (some .int) 2 := ⟨tg_8 (List.mem_of_getElem? (i := 97) rfl) rfl, tg_1 (List.mem_of_getElem? (i := 13) rfl) rfl, by decide +kernel, by decide +kernel, by decide +kernel⟩
theorem mv_X12_would : Mv yX12_would := ⟨tg_8 (List.mem_of_getElem? (i := 95) rfl) rfl, tg_8 (List.mem_of_getElem? (i := 96) rfl) rfl⟩
theorem mi_X12_doubled : Mi yX12_doubled cX12_doubled 3 (some .int) 0 := ⟨tg_8 (List.mem_of_getElem? (i := 101) rfl) rfl, tg_1 (List.mem_of_getElem? (i := 13) rfl) rfl, by decide +kernel, by decide +kernel, by decide +kernel⟩
theorem mv_X12_doubled : Mv yX12_doubled := ⟨tg_8 (List.mem_of_getElem? (i := 99) rfl) rfl, tg_8 (List.mem_of_getElem? (i := 100) rfl) rfl⟩
theorem mi_X12_rankAt : Mi yX12_rankAt cX12_rankAt 3 (some .int) 3 := ⟨tg_8 (List.mem_of_getElem? (i := 120) rfl) rfl, tg_1 (List.mem_of_getElem? (i := 13) rfl) rfl, by decide +kernel, by decide +kernel, by decide +kernel⟩
theorem ms_X12_rankAt : Cond.static yX12_rankAt ∈ TG := tg_8 (List.mem_of_getElem? (i := 119) rfl) rfl
theorem mi_X12_ranks : Mi yX12_ranks cX12_ranks 10 none 5 := ⟨tg_8 (List.mem_of_getElem? (i := 117) rfl) rfl, tg_1 (List.mem_of_getElem? (i := 13) rfl) rfl, by decide +kernel, by decide +kernel, by decide +kernel⟩
theorem mv_X12_ranks : Mv yX12_ranks := ⟨tg_8 (List.mem_of_getElem? (i := 116) rfl) rfl, tg_s (q := (yX12_ranks, 50)) (List.mem_append_right _ (List.mem_append_right _ (List.mem_append_right _ (List.mem_append_right _ (List.mem_append_left _ (List.mem_of_getElem? (i := 4) (by decide +kernel) : (yX12_ranks, 50) ∈ lw_privs_5)))))) (by decide +kernel)⟩
theorem mi_X12_ranksFrom : Mi yX12_ranksFrom cX12_ranksFrom 6 none 2 := ⟨tg_8 (List.mem_of_getElem? (i := 113) rfl) rfl, tg_1 (List.mem_of_getElem? (i := 13) rfl) rfl, by decide +kernel, by decide +kernel, by decide +kernel⟩
theorem mv_X12_ranksFrom : Mv yX12_ranksFrom := ⟨tg_8 (List.mem_of_getElem? (i := 112) rfl) rfl, tg_s (q := (yX12_ranksFrom, 50)) (List.mem_append_right _ (List.mem_append_right _ (List.mem_append_right _ (List.mem_append_right _ (List.mem_append_left _ (List.mem_of_getElem? (i := 3) (by decide +kernel) : (yX12_ranksFrom, 50) ∈ lw_privs_5)))))) (by decide +kernel)⟩
theorem mi_X12_tops : Mi yX12_tops cX12_tops 6 none 3 := ⟨tg_8 (List.mem_of_getElem? (i := 124) rfl) rfl, tg_1 (List.mem_of_getElem? (i := 13) rfl) rfl, by decide +kernel, by decide +kernel, by decide +kernel⟩
theorem mv_X12_tops : Mv yX12_tops := ⟨tg_8 (List.mem_of_getElem? (i := 123) rfl) rfl, tg_s (q := (yX12_tops, 50)) (List.mem_append_right _ (List.mem_append_right _ (List.mem_append_right _ (List.mem_append_right _ (List.mem_append_left _ (List.mem_of_getElem? (i := 5) (by decide +kernel) : (yX12_tops, 50) ∈ lw_privs_5)))))) (by decide +kernel)⟩
theorem mi_X12_laysTops : Mi yX12_laysTops cX12_laysTops 3 none 0 := ⟨tg_8 (List.mem_of_getElem? (i := 109) rfl) rfl, tg_1 (List.mem_of_getElem? (i := 13) rfl) rfl, by decide +kernel, by decide +kernel, by decide +kernel⟩
theorem mv_X12_laysTops : Mv yX12_laysTops := ⟨tg_8 (List.mem_of_getElem? (i := 108) rfl) rfl, tg_s (q := (yX12_laysTops, 50)) (List.mem_append_right _ (List.mem_append_right _ (List.mem_append_right _ (List.mem_append_right _ (List.mem_append_left _ (List.mem_of_getElem? (i := 2) (by decide +kernel) : (yX12_laysTops, 50) ∈ lw_privs_5)))))) (by decide +kernel)⟩
theorem mi_X12_best : Mi yX12_best cX12_best 2 (some .int) 1 := ⟨tg_8 (List.mem_of_getElem? (i := 105) rfl) rfl, tg_1 (List.mem_of_getElem? (i := 13) rfl) rfl, by decide +kernel, by decide +kernel, by decide +kernel⟩
theorem mv_X12_best : Mv yX12_best := ⟨tg_8 (List.mem_of_getElem? (i := 103) rfl) rfl, tg_8 (List.mem_of_getElem? (i := 104) rfl) rfl⟩
theorem mi_X12_bestAt : Mi yX12_bestAt cX12_bestAt 7 (some .int) 2 := ⟨tg_8 (List.mem_of_getElem? (i := 128) rfl) rfl, tg_1 (List.mem_of_getElem? (i := 13) rfl) rfl, by decide +kernel, by decide +kernel, by decide +kernel⟩
theorem mv_X12_bestAt : Mv yX12_bestAt := ⟨tg_8 (List.mem_of_getElem? (i := 126) rfl) rfl, tg_8 (List.mem_of_getElem? (i := 127) rfl) rfl⟩
theorem mi_X12_laysSpans : Mi yX12_laysSpans cX12_laysSpans 2 none 0 := ⟨tg_8 (List.mem_of_getElem? (i := 136) rfl) rfl, tg_1 (List.mem_of_getElem? (i := 13) rfl) rfl, by decide +kernel, by decide +kernel, by decide +kernel⟩
theorem mv_X12_laysSpans : Mv yX12_laysSpans := ⟨tg_8 (List.mem_of_getElem? (i := 135) rfl) rfl, tg_s (q := (yX12_laysSpans, 50)) (List.mem_append_right _ (List.mem_append_right _ (List.mem_append_right _ (List.mem_append_right _ (List.mem_append_left _ (List.mem_of_getElem? (i := 6) (by decide +kernel) : (yX12_laysSpans, 50) ∈ lw_privs_5)))))) (by decide +kernel)⟩
theorem mi_X12_isVoiced : Mi yX12_isVoiced cX12_isVoiced 2 (some .boolean) 1 := ⟨tg_8 (List.mem_of_getElem? (i := 148) rfl) rfl, tg_1 (List.mem_of_getElem? (i := 13) rfl) rfl, by decide +kernel, by decide +kernel, by decide +kernel⟩
theorem mv_X12_isVoiced : Mv yX12_isVoiced := ⟨tg_8 (List.mem_of_getElem? (i := 147) rfl) rfl, tg_s (q := (yX12_isVoiced, 50)) (List.mem_append_right _ (List.mem_append_right _ (List.mem_append_right _ (List.mem_append_right _ (List.mem_append_left _ (List.mem_of_getElem? (i := 8) (by decide +kernel) : (yX12_isVoiced, 50) ∈ lw_privs_5)))))) (by decide +kernel)⟩
theorem mi_X12_firstSample : Mi yX12_firstSample cX12_firstSample 2 (some .int) 1 := ⟨tg_8 (List.mem_of_getElem? (i := 156) rfl) rfl, tg_1 (List.mem_of_getElem? (i := 13) rfl) rfl, by decide +kernel, by decide +kernel, by decide +kernel⟩
theorem mv_X12_firstSample : Mv yX12_firstSample := ⟨tg_8 (List.mem_of_getElem? (i := 155) rfl) rfl, tg_s (q := (yX12_firstSample, 50)) (List.mem_append_right _ (List.mem_append_right _ (List.mem_append_right _ (List.mem_append_right _ (List.mem_append_left _ (List.mem_of_getElem? (i := 10) (by decide +kernel) : (yX12_firstSample, 50) ∈ lw_privs_5)))))) (by decide +kernel)⟩
theorem mi_X12_behindSpan : Mi yX12_behindSpan cX12_behindSpan 3 (some .int) 1 := ⟨tg_8 (List.mem_of_getElem? (i := 160) rfl) rfl, tg_1 (List.mem_of_getElem? (i := 13) rfl) rfl, by decide +kernel, by decide +kernel, by decide +kernel⟩
theorem mv_X12_behindSpan : Mv yX12_behindSpan := ⟨tg_8 (List.mem_of_getElem? (i := 159) rfl) rfl, tg_s (q := (yX12_behindSpan, 50)) (List.mem_append_right _ (List.mem_append_right _ (List.mem_append_right _ (List.mem_append_right _ (List.mem_append_left _ (List.mem_of_getElem? (i := 11) (by decide +kernel) : (yX12_behindSpan, 50) ∈ lw_privs_5)))))) (by decide +kernel)⟩
theorem mi_X12_spans : Mi yX12_spans cX12_spans 1 (some .int) 0 := ⟨tg_8 (List.mem_of_getElem? (i := 132) rfl) rfl, tg_1 (List.mem_of_getElem? (i := 13) rfl) rfl, by decide +kernel, by decide +kernel, by decide +kernel⟩
theorem mv_X12_spans : Mv yX12_spans := ⟨tg_8 (List.mem_of_getElem? (i := 130) rfl) rfl, tg_8 (List.mem_of_getElem? (i := 131) rfl) rfl⟩
theorem mi_X12_span : Mi yX12_span cX12_span 3 (some .int) 2 := ⟨tg_8 (List.mem_of_getElem? (i := 140) rfl) rfl, tg_1 (List.mem_of_getElem? (i := 13) rfl) rfl, by decide +kernel, by decide +kernel, by decide +kernel⟩
theorem mv_X12_span : Mv yX12_span := ⟨tg_8 (List.mem_of_getElem? (i := 138) rfl) rfl, tg_8 (List.mem_of_getElem? (i := 139) rfl) rfl⟩
theorem mi_X12_middleOf : Mi yX12_middleOf cX12_middleOf 5 (some .int) 2 := ⟨tg_8 (List.mem_of_getElem? (i := 187) rfl) rfl, tg_1 (List.mem_of_getElem? (i := 13) rfl) rfl, by decide +kernel, by decide +kernel, by decide +kernel⟩
theorem mv_X12_middleOf : Mv yX12_middleOf := ⟨tg_8 (List.mem_of_getElem? (i := 186) rfl) rfl, tg_s (q := (yX12_middleOf, 50)) (List.mem_append_right _ (List.mem_append_right _ (List.mem_append_right _ (List.mem_append_right _ (List.mem_append_right _ ((List.mem_of_getElem? (i := 0) (by decide +kernel) : (yX12_middleOf, 50) ∈ lw_privs_6))))))) (by decide +kernel)⟩
theorem mi_X12_sorts : Mi yX12_sorts cX12_sorts 4 (some .int) 2 := ⟨tg_8 (List.mem_of_getElem? (i := 191) rfl) rfl, tg_1 (List.mem_of_getElem? (i := 13) rfl) rfl, by decide +kernel, by decide +kernel, by decide +kernel⟩
theorem mv_X12_sorts : Mv yX12_sorts := ⟨tg_8 (List.mem_of_getElem? (i := 190) rfl) rfl, tg_s (q := (yX12_sorts, 50)) (List.mem_append_right _ (List.mem_append_right _ (List.mem_append_right _ (List.mem_append_right _ (List.mem_append_right _ ((List.mem_of_getElem? (i := 1) (by decide +kernel) : (yX12_sorts, 50) ∈ lw_privs_6))))))) (by decide +kernel)⟩
theorem mi_X12_goesOnNote : Mi yX12_goesOnNote cX12_goesOnNote 4 (some .boolean) 1 := ⟨tg_8 (List.mem_of_getElem? (i := 183) rfl) rfl, tg_1 (List.mem_of_getElem? (i := 13) rfl) rfl, by decide +kernel, by decide +kernel, by decide +kernel⟩
theorem mv_X12_goesOnNote : Mv yX12_goesOnNote := ⟨tg_8 (List.mem_of_getElem? (i := 182) rfl) rfl, tg_s (q := (yX12_goesOnNote, 50)) (List.mem_append_right _ (List.mem_append_right _ (List.mem_append_right _ (List.mem_append_right _ (List.mem_append_left _ (List.mem_of_getElem? (i := 15) (by decide +kernel) : (yX12_goesOnNote, 50) ∈ lw_privs_5)))))) (by decide +kernel)⟩
theorem mi_X12_laysNotes : Mi yX12_laysNotes cX12_laysNotes 3 none 0 := ⟨tg_8 (List.mem_of_getElem? (i := 179) rfl) rfl, tg_1 (List.mem_of_getElem? (i := 13) rfl) rfl, by decide +kernel, by decide +kernel, by decide +kernel⟩
theorem mv_X12_laysNotes : Mv yX12_laysNotes := ⟨tg_8 (List.mem_of_getElem? (i := 178) rfl) rfl, tg_s (q := (yX12_laysNotes, 50)) (List.mem_append_right _ (List.mem_append_right _ (List.mem_append_right _ (List.mem_append_right _ (List.mem_append_left _ (List.mem_of_getElem? (i := 14) (by decide +kernel) : (yX12_laysNotes, 50) ∈ lw_privs_5)))))) (by decide +kernel)⟩
theorem mi_X12_notes : Mi yX12_notes cX12_notes 1 (some .int) 0 := ⟨tg_8 (List.mem_of_getElem? (i := 175) rfl) rfl, tg_1 (List.mem_of_getElem? (i := 13) rfl) rfl, by decide +kernel, by decide +kernel, by decide +kernel⟩
theorem mv_X12_notes : Mv yX12_notes := ⟨tg_8 (List.mem_of_getElem? (i := 173) rfl) rfl, tg_8 (List.mem_of_getElem? (i := 174) rfl) rfl⟩
theorem mi_X12_note : Mi yX12_note cX12_note 3 (some .int) 2 := ⟨tg_8 (List.mem_of_getElem? (i := 195) rfl) rfl, tg_1 (List.mem_of_getElem? (i := 13) rfl) rfl, by decide +kernel, by decide +kernel, by decide +kernel⟩
theorem mv_X12_note : Mv yX12_note := ⟨tg_8 (List.mem_of_getElem? (i := 193) rfl) rfl, tg_8 (List.mem_of_getElem? (i := 194) rfl) rfl⟩
theorem mi_X12_steady : Mi yX12_steady cX12_steady 6 (some .int) 1 := ⟨tg_8 (List.mem_of_getElem? (i := 199) rfl) rfl, tg_1 (List.mem_of_getElem? (i := 13) rfl) rfl, by decide +kernel, by decide +kernel, by decide +kernel⟩
theorem mv_X12_steady : Mv yX12_steady := ⟨tg_8 (List.mem_of_getElem? (i := 197) rfl) rfl, tg_8 (List.mem_of_getElem? (i := 198) rfl) rfl⟩
theorem mi_X12_laysOften : Mi yX12_laysOften cX12_laysOften 2 none 0 := ⟨tg_8 (List.mem_of_getElem? (i := 207) rfl) rfl, tg_1 (List.mem_of_getElem? (i := 13) rfl) rfl, by decide +kernel, by decide +kernel, by decide +kernel⟩
theorem mv_X12_laysOften : Mv yX12_laysOften := ⟨tg_8 (List.mem_of_getElem? (i := 206) rfl) rfl, tg_s (q := (yX12_laysOften, 50)) (List.mem_append_right _ (List.mem_append_right _ (List.mem_append_right _ (List.mem_append_right _ (List.mem_append_right _ ((List.mem_of_getElem? (i := 2) (by decide +kernel) : (yX12_laysOften, 50) ∈ lw_privs_6))))))) (by decide +kernel)⟩
theorem mi_X12_lags : Mi yX12_lags cX12_lags 3 (some .int) 0 := ⟨tg_8 (List.mem_of_getElem? (i := 203) rfl) rfl, tg_1 (List.mem_of_getElem? (i := 13) rfl) rfl, by decide +kernel, by decide +kernel, by decide +kernel⟩
theorem mv_X12_lags : Mv yX12_lags := ⟨tg_8 (List.mem_of_getElem? (i := 201) rfl) rfl, tg_8 (List.mem_of_getElem? (i := 202) rfl) rfl⟩
theorem mi_X12_lagAt : Mi yX12_lagAt cX12_lagAt 5 (some .int) 2 := ⟨tg_8 (List.mem_of_getElem? (i := 211) rfl) rfl, tg_1 (List.mem_of_getElem? (i := 13) rfl) rfl, by decide +kernel, by decide +kernel, by decide +kernel⟩
theorem mv_X12_lagAt : Mv yX12_lagAt := ⟨tg_8 (List.mem_of_getElem? (i := 209) rfl) rfl, tg_8 (List.mem_of_getElem? (i := 210) rfl) rfl⟩
theorem mi_X12_common : Mi yX12_common cX12_common 5 (some .int) 1 := ⟨tg_8 (List.mem_of_getElem? (i := 215) rfl) rfl, tg_1 (List.mem_of_getElem? (i := 13) rfl) rfl, by decide +kernel, by decide +kernel, by decide +kernel⟩
theorem mv_X12_common : Mv yX12_common := ⟨tg_8 (List.mem_of_getElem? (i := 213) rfl) rfl, tg_8 (List.mem_of_getElem? (i := 214) rfl) rfl⟩
theorem mi_X12_inMiddle : Mi yX12_inMiddle cX12_inMiddle 4 (some .int) 1 := ⟨tg_8 (List.mem_of_getElem? (i := 219) rfl) rfl, tg_1 (List.mem_of_getElem? (i := 13) rfl) rfl, by decide +kernel, by decide +kernel, by decide +kernel⟩
theorem mv_X12_inMiddle : Mv yX12_inMiddle := ⟨tg_8 (List.mem_of_getElem? (i := 218) rfl) rfl, tg_s (q := (yX12_inMiddle, 50)) (List.mem_append_right _ (List.mem_append_right _ (List.mem_append_right _ (List.mem_append_right _ (List.mem_append_right _ ((List.mem_of_getElem? (i := 3) (by decide +kernel) : (yX12_inMiddle, 50) ∈ lw_privs_6))))))) (by decide +kernel)⟩
theorem mi_X12_tune : Mi yX12_tune cX12_tune 2 (some .int) 1 := ⟨tg_8 (List.mem_of_getElem? (i := 223) rfl) rfl, tg_1 (List.mem_of_getElem? (i := 13) rfl) rfl, by decide +kernel, by decide +kernel, by decide +kernel⟩
theorem mv_X12_tune : Mv yX12_tune := ⟨tg_8 (List.mem_of_getElem? (i := 221) rfl) rfl, tg_8 (List.mem_of_getElem? (i := 222) rfl) rfl⟩
theorem mi_X12_hush : Mi yX12_hush cX12_hush 2 (some .int) 0 := ⟨tg_8 (List.mem_of_getElem? (i := 227) rfl) rfl, tg_1 (List.mem_of_getElem? (i := 13) rfl) rfl, by decide +kernel, by decide +kernel, by decide +kernel⟩
theorem mv_X12_hush : Mv yX12_hush := ⟨tg_8 (List.mem_of_getElem? (i := 225) rfl) rfl, tg_8 (List.mem_of_getElem? (i := 226) rfl) rfl⟩
theorem mi_X12_matchAt : Mi yX12_matchAt cX12_matchAt 2 (some .int) 2 := ⟨tg_8 (List.mem_of_getElem? (i := 238) rfl) rfl, tg_1 (List.mem_of_getElem? (i := 13) rfl) rfl, by decide +kernel, by decide +kernel, by decide +kernel⟩
theorem ms_X12_matchAt : Cond.static yX12_matchAt ∈ TG := tg_8 (List.mem_of_getElem? (i := 237) rfl) rfl
theorem mi_X12_pairCost : Mi yX12_pairCost cX12_pairCost 3 (some .int) 2 := ⟨tg_9 (List.mem_of_getElem? (i := 2) rfl) rfl, tg_1 (List.mem_of_getElem? (i := 13) rfl) rfl, by decide +kernel, by decide +kernel, by decide +kernel⟩
theorem mv_X12_pairCost : Mv yX12_pairCost := ⟨tg_9 (List.mem_of_getElem? (i := 1) rfl) rfl, tg_s (q := (yX12_pairCost, 50)) (List.mem_append_right _ (List.mem_append_right _ (List.mem_append_right _ (List.mem_append_right _ (List.mem_append_right _ ((List.mem_of_getElem? (i := 5) (by decide +kernel) : (yX12_pairCost, 50) ∈ lw_privs_6))))))) (by decide +kernel)⟩
theorem mi_X12_laysMatch : Mi yX12_laysMatch cX12_laysMatch 4 none 0 := ⟨tg_8 (List.mem_of_getElem? (i := 235) rfl) rfl, tg_1 (List.mem_of_getElem? (i := 13) rfl) rfl, by decide +kernel, by decide +kernel, by decide +kernel⟩
theorem mv_X12_laysMatch : Mv yX12_laysMatch := ⟨tg_8 (List.mem_of_getElem? (i := 234) rfl) rfl, tg_s (q := (yX12_laysMatch, 50)) (List.mem_append_right _ (List.mem_append_right _ (List.mem_append_right _ (List.mem_append_right _ (List.mem_append_right _ ((List.mem_of_getElem? (i := 4) (by decide +kernel) : (yX12_laysMatch, 50) ∈ lw_privs_6))))))) (by decide +kernel)⟩
theorem mi_X12_lesser : Mi yX12_lesser cX12_lesser 2 (some .int) 2 := ⟨tg_8 (List.mem_of_getElem? (i := 171) rfl) rfl, tg_1 (List.mem_of_getElem? (i := 13) rfl) rfl, by decide +kernel, by decide +kernel, by decide +kernel⟩
theorem ms_X12_lesser : Cond.static yX12_lesser ∈ TG := tg_8 (List.mem_of_getElem? (i := 170) rfl) rfl
theorem mi_X12_goesMatch : Mi yX12_goesMatch cX12_goesMatch 5 none 0 := ⟨tg_9 (List.mem_of_getElem? (i := 6) rfl) rfl, tg_1 (List.mem_of_getElem? (i := 13) rfl) rfl, by decide +kernel, by decide +kernel, by decide +kernel⟩
theorem mv_X12_goesMatch : Mv yX12_goesMatch := ⟨tg_9 (List.mem_of_getElem? (i := 5) rfl) rfl, tg_s (q := (yX12_goesMatch, 50)) (List.mem_append_right _ (List.mem_append_right _ (List.mem_append_right _ (List.mem_append_right _ (List.mem_append_right _ ((List.mem_of_getElem? (i := 6) (by decide +kernel) : (yX12_goesMatch, 50) ∈ lw_privs_6))))))) (by decide +kernel)⟩
theorem mi_X12_match : Mi yX12_match cX12_match 2 (some .int) 1 := ⟨tg_8 (List.mem_of_getElem? (i := 231) rfl) rfl, tg_1 (List.mem_of_getElem? (i := 13) rfl) rfl, by decide +kernel, by decide +kernel, by decide +kernel⟩
theorem mv_X12_match : Mv yX12_match := ⟨tg_8 (List.mem_of_getElem? (i := 229) rfl) rfl, tg_8 (List.mem_of_getElem? (i := 230) rfl) rfl⟩
theorem mi_X12_matched : Mi yX12_matched cX12_matched 2 (some .int) 1 := ⟨tg_9 (List.mem_of_getElem? (i := 10) rfl) rfl, tg_1 (List.mem_of_getElem? (i := 13) rfl) rfl, by decide +kernel, by decide +kernel, by decide +kernel⟩
theorem mv_X12_matched : Mv yX12_matched := ⟨tg_9 (List.mem_of_getElem? (i := 8) rfl) rfl, tg_9 (List.mem_of_getElem? (i := 9) rfl) rfl⟩
theorem mi_X12_periodAt : Mi yX12_periodAt cX12_periodAt 5 (some .int) 2 := ⟨tg_8 (List.mem_of_getElem? (i := 168) rfl) rfl, tg_1 (List.mem_of_getElem? (i := 13) rfl) rfl, by decide +kernel, by decide +kernel, by decide +kernel⟩
theorem mv_X12_periodAt : Mv yX12_periodAt := ⟨tg_8 (List.mem_of_getElem? (i := 167) rfl) rfl, tg_s (q := (yX12_periodAt, 50)) (List.mem_append_right _ (List.mem_append_right _ (List.mem_append_right _ (List.mem_append_right _ (List.mem_append_left _ (List.mem_of_getElem? (i := 13) (by decide +kernel) : (yX12_periodAt, 50) ∈ lw_privs_5)))))) (by decide +kernel)⟩
theorem mi_X12_laysBehind : Mi yX12_laysBehind cX12_laysBehind 10 none 2 := ⟨tg_8 (List.mem_of_getElem? (i := 164) rfl) rfl, tg_1 (List.mem_of_getElem? (i := 13) rfl) rfl, by decide +kernel, by decide +kernel, by decide +kernel⟩
theorem mv_X12_laysBehind : Mv yX12_laysBehind := ⟨tg_8 (List.mem_of_getElem? (i := 163) rfl) rfl, tg_s (q := (yX12_laysBehind, 50)) (List.mem_append_right _ (List.mem_append_right _ (List.mem_append_right _ (List.mem_append_right _ (List.mem_append_left _ (List.mem_of_getElem? (i := 12) (by decide +kernel) : (yX12_laysBehind, 50) ∈ lw_privs_5)))))) (by decide +kernel)⟩
theorem mi_X12_marksOf : Mi yX12_marksOf cX12_marksOf 6 none 1 := ⟨tg_8 (List.mem_of_getElem? (i := 152) rfl) rfl, tg_1 (List.mem_of_getElem? (i := 13) rfl) rfl, by decide +kernel, by decide +kernel, by decide +kernel⟩
theorem mv_X12_marksOf : Mv yX12_marksOf := ⟨tg_8 (List.mem_of_getElem? (i := 151) rfl) rfl, tg_s (q := (yX12_marksOf, 50)) (List.mem_append_right _ (List.mem_append_right _ (List.mem_append_right _ (List.mem_append_right _ (List.mem_append_left _ (List.mem_of_getElem? (i := 9) (by decide +kernel) : (yX12_marksOf, 50) ∈ lw_privs_5)))))) (by decide +kernel)⟩
theorem mi_X12_laysMarks : Mi yX12_laysMarks cX12_laysMarks 2 none 0 := ⟨tg_8 (List.mem_of_getElem? (i := 144) rfl) rfl, tg_1 (List.mem_of_getElem? (i := 13) rfl) rfl, by decide +kernel, by decide +kernel, by decide +kernel⟩
theorem mv_X12_laysMarks : Mv yX12_laysMarks := ⟨tg_8 (List.mem_of_getElem? (i := 143) rfl) rfl, tg_s (q := (yX12_laysMarks, 50)) (List.mem_append_right _ (List.mem_append_right _ (List.mem_append_right _ (List.mem_append_right _ (List.mem_append_left _ (List.mem_of_getElem? (i := 7) (by decide +kernel) : (yX12_laysMarks, 50) ∈ lw_privs_5)))))) (by decide +kernel)⟩
theorem mi_X12_marks : Mi yX12_marks cX12_marks 1 (some .int) 0 := ⟨tg_9 (List.mem_of_getElem? (i := 14) rfl) rfl, tg_1 (List.mem_of_getElem? (i := 13) rfl) rfl, by decide +kernel, by decide +kernel, by decide +kernel⟩
theorem mv_X12_marks : Mv yX12_marks := ⟨tg_9 (List.mem_of_getElem? (i := 12) rfl) rfl, tg_9 (List.mem_of_getElem? (i := 13) rfl) rfl⟩
theorem mi_X12_mark : Mi yX12_mark cX12_mark 2 (some .int) 1 := ⟨tg_9 (List.mem_of_getElem? (i := 18) rfl) rfl, tg_1 (List.mem_of_getElem? (i := 13) rfl) rfl, by decide +kernel, by decide +kernel, by decide +kernel⟩
theorem mv_X12_mark : Mv yX12_mark := ⟨tg_9 (List.mem_of_getElem? (i := 16) rfl) rfl, tg_9 (List.mem_of_getElem? (i := 17) rfl) rfl⟩
theorem mi_X12_off : Mi yX12_off cX12_off 4 (some .long) 2 := ⟨tg_9 (List.mem_of_getElem? (i := 25) rfl) rfl, tg_1 (List.mem_of_getElem? (i := 13) rfl) rfl, by decide +kernel, by decide +kernel, by decide +kernel⟩
theorem ms_X12_off : Cond.static yX12_off ∈ TG := tg_9 (List.mem_of_getElem? (i := 24) rfl) rfl
theorem mi_X12_near : Mi yX12_near cX12_near 4 (some .int) 1 := ⟨tg_9 (List.mem_of_getElem? (i := 22) rfl) rfl, tg_1 (List.mem_of_getElem? (i := 13) rfl) rfl, by decide +kernel, by decide +kernel, by decide +kernel⟩
theorem mv_X12_near : Mv yX12_near := ⟨tg_9 (List.mem_of_getElem? (i := 20) rfl) rfl, tg_9 (List.mem_of_getElem? (i := 21) rfl) rfl⟩
theorem mi_X12_behind : Mi yX12_behind cX12_behind 3 (some .int) 1 := ⟨tg_9 (List.mem_of_getElem? (i := 29) rfl) rfl, tg_1 (List.mem_of_getElem? (i := 13) rfl) rfl, by decide +kernel, by decide +kernel, by decide +kernel⟩
theorem mv_X12_behind : Mv yX12_behind := ⟨tg_9 (List.mem_of_getElem? (i := 27) rfl) rfl, tg_9 (List.mem_of_getElem? (i := 28) rfl) rfl⟩
theorem mi_X12_hasGap : Mi yX12_hasGap cX12_hasGap 2 (some .boolean) 1 := ⟨tg_9 (List.mem_of_getElem? (i := 37) rfl) rfl, tg_1 (List.mem_of_getElem? (i := 13) rfl) rfl, by decide +kernel, by decide +kernel, by decide +kernel⟩
theorem mv_X12_hasGap : Mv yX12_hasGap := ⟨tg_9 (List.mem_of_getElem? (i := 36) rfl) rfl, tg_s (q := (yX12_hasGap, 50)) (List.mem_append_right _ (List.mem_append_right _ (List.mem_append_right _ (List.mem_append_right _ (List.mem_append_right _ ((List.mem_of_getElem? (i := 7) (by decide +kernel) : (yX12_hasGap, 50) ∈ lw_privs_6))))))) (by decide +kernel)⟩
theorem mi_X12_gapOf : Mi yX12_gapOf cX12_gapOf 2 (some .int) 1 := ⟨tg_9 (List.mem_of_getElem? (i := 41) rfl) rfl, tg_1 (List.mem_of_getElem? (i := 13) rfl) rfl, by decide +kernel, by decide +kernel, by decide +kernel⟩
theorem mv_X12_gapOf : Mv yX12_gapOf := ⟨tg_9 (List.mem_of_getElem? (i := 40) rfl) rfl, tg_s (q := (yX12_gapOf, 50)) (List.mem_append_right _ (List.mem_append_right _ (List.mem_append_right _ (List.mem_append_right _ (List.mem_append_right _ ((List.mem_of_getElem? (i := 8) (by decide +kernel) : (yX12_gapOf, 50) ∈ lw_privs_6))))))) (by decide +kernel)⟩
theorem mi_X12_gaps : Mi yX12_gaps cX12_gaps 8 (some .int) 1 := ⟨tg_9 (List.mem_of_getElem? (i := 33) rfl) rfl, tg_1 (List.mem_of_getElem? (i := 13) rfl) rfl, by decide +kernel, by decide +kernel, by decide +kernel⟩
theorem mv_X12_gaps : Mv yX12_gaps := ⟨tg_9 (List.mem_of_getElem? (i := 31) rfl) rfl, tg_9 (List.mem_of_getElem? (i := 32) rfl) rfl⟩
theorem mi_X12_roughOf : Mi yX12_roughOf cX12_roughOf 4 (some .int) 1 := ⟨tg_9 (List.mem_of_getElem? (i := 49) rfl) rfl, tg_1 (List.mem_of_getElem? (i := 13) rfl) rfl, by decide +kernel, by decide +kernel, by decide +kernel⟩
theorem mv_X12_roughOf : Mv yX12_roughOf := ⟨tg_9 (List.mem_of_getElem? (i := 48) rfl) rfl, tg_s (q := (yX12_roughOf, 50)) (List.mem_append_right _ (List.mem_append_right _ (List.mem_append_right _ (List.mem_append_right _ (List.mem_append_right _ ((List.mem_of_getElem? (i := 9) (by decide +kernel) : (yX12_roughOf, 50) ∈ lw_privs_6))))))) (by decide +kernel)⟩
theorem mi_X12_rough : Mi yX12_rough cX12_rough 2 (some .int) 1 := ⟨tg_9 (List.mem_of_getElem? (i := 45) rfl) rfl, tg_1 (List.mem_of_getElem? (i := 13) rfl) rfl, by decide +kernel, by decide +kernel, by decide +kernel⟩
theorem mv_X12_rough : Mv yX12_rough := ⟨tg_9 (List.mem_of_getElem? (i := 43) rfl) rfl, tg_9 (List.mem_of_getElem? (i := 44) rfl) rfl⟩
theorem mi_X12_roughest : Mi yX12_roughest cX12_roughest 3 (some .int) 0 := ⟨tg_9 (List.mem_of_getElem? (i := 57) rfl) rfl, tg_1 (List.mem_of_getElem? (i := 13) rfl) rfl, by decide +kernel, by decide +kernel, by decide +kernel⟩
theorem mv_X12_roughest : Mv yX12_roughest := ⟨tg_9 (List.mem_of_getElem? (i := 55) rfl) rfl, tg_9 (List.mem_of_getElem? (i := 56) rfl) rfl⟩
theorem mi_X12_mean : Mi yX12_mean cX12_mean 5 (some .int) 1 := ⟨tg_9 (List.mem_of_getElem? (i := 61) rfl) rfl, tg_1 (List.mem_of_getElem? (i := 13) rfl) rfl, by decide +kernel, by decide +kernel, by decide +kernel⟩
theorem mv_X12_mean : Mv yX12_mean := ⟨tg_9 (List.mem_of_getElem? (i := 59) rfl) rfl, tg_9 (List.mem_of_getElem? (i := 60) rfl) rfl⟩
theorem mi_X12_graspOf : Mi yX12_graspOf cX12_graspOf 3 (some .int) 1 := ⟨tg_9 (List.mem_of_getElem? (i := 77) rfl) rfl, tg_1 (List.mem_of_getElem? (i := 13) rfl) rfl, by decide +kernel, by decide +kernel, by decide +kernel⟩
theorem mv_X12_graspOf : Mv yX12_graspOf := ⟨tg_9 (List.mem_of_getElem? (i := 76) rfl) rfl, tg_s (q := (yX12_graspOf, 50)) (List.mem_append_right _ (List.mem_append_right _ (List.mem_append_right _ (List.mem_append_right _ (List.mem_append_right _ ((List.mem_of_getElem? (i := 13) (by decide +kernel) : (yX12_graspOf, 50) ∈ lw_privs_6))))))) (by decide +kernel)⟩
theorem mi_X12_markNear : Mi yX12_markNear cX12_markNear 5 (some .int) 2 := ⟨tg_9 (List.mem_of_getElem? (i := 73) rfl) rfl, tg_1 (List.mem_of_getElem? (i := 13) rfl) rfl, by decide +kernel, by decide +kernel, by decide +kernel⟩
theorem mv_X12_markNear : Mv yX12_markNear := ⟨tg_9 (List.mem_of_getElem? (i := 72) rfl) rfl, tg_s (q := (yX12_markNear, 50)) (List.mem_append_right _ (List.mem_append_right _ (List.mem_append_right _ (List.mem_append_right _ (List.mem_append_right _ ((List.mem_of_getElem? (i := 12) (by decide +kernel) : (yX12_markNear, 50) ∈ lw_privs_6))))))) (by decide +kernel)⟩
theorem mi_X12_setAnew : Mi yX12_setAnew cX12_setAnew 11 (some .int) 4 := ⟨tg_9 (List.mem_of_getElem? (i := 69) rfl) rfl, tg_1 (List.mem_of_getElem? (i := 13) rfl) rfl, by decide +kernel, by decide +kernel, by decide +kernel⟩
theorem mv_X12_setAnew : Mv yX12_setAnew := ⟨tg_9 (List.mem_of_getElem? (i := 68) rfl) rfl, tg_s (q := (yX12_setAnew, 50)) (List.mem_append_right _ (List.mem_append_right _ (List.mem_append_right _ (List.mem_append_right _ (List.mem_append_right _ ((List.mem_of_getElem? (i := 11) (by decide +kernel) : (yX12_setAnew, 50) ∈ lw_privs_6))))))) (by decide +kernel)⟩
theorem mi_X12_anew : Mi yX12_anew cX12_anew 5 (some .int) 3 := ⟨tg_9 (List.mem_of_getElem? (i := 65) rfl) rfl, tg_1 (List.mem_of_getElem? (i := 13) rfl) rfl, by decide +kernel, by decide +kernel, by decide +kernel⟩
theorem mv_X12_anew : Mv yX12_anew := ⟨tg_9 (List.mem_of_getElem? (i := 63) rfl) rfl, tg_9 (List.mem_of_getElem? (i := 64) rfl) rfl⟩
theorem mi_J9_floorDiv_7cf53 : Mi yJ9_floorDiv_7cf53 cJ9_floorDiv_7cf53 3 (some .int) 2 := ⟨tg_2 (List.mem_of_getElem? (i := 200) rfl) rfl, tg_1 (List.mem_of_getElem? (i := 14) rfl) rfl, by decide +kernel, by decide +kernel, by decide +kernel⟩
theorem ms_J9_floorDiv_7cf53 : Cond.static yJ9_floorDiv_7cf53 ∈ TG := tg_2 (List.mem_of_getElem? (i := 199) rfl) rfl
theorem mi_J9_abs_0f7a4 : Mi yJ9_abs_0f7a4 cJ9_abs_0f7a4 1 (some .int) 1 := ⟨tg_3 (List.mem_of_getElem? (i := 53) rfl) rfl, tg_1 (List.mem_of_getElem? (i := 14) rfl) rfl, by decide +kernel, by decide +kernel, by decide +kernel⟩
theorem ms_J9_abs_0f7a4 : Cond.static yJ9_abs_0f7a4 ∈ TG := tg_3 (List.mem_of_getElem? (i := 52) rfl) rfl
theorem mi_J9_abs_067f4 : Mi yJ9_abs_067f4 cJ9_abs_067f4 2 (some .long) 1 := ⟨tg_4 (List.mem_of_getElem? (i := 98) rfl) rfl, tg_1 (List.mem_of_getElem? (i := 14) rfl) rfl, by decide +kernel, by decide +kernel, by decide +kernel⟩
theorem ms_J9_abs_067f4 : Cond.static yJ9_abs_067f4 ∈ TG := tg_4 (List.mem_of_getElem? (i := 97) rfl) rfl
theorem mi_J9_max_7cf53 : Mi yJ9_max_7cf53 cJ9_max_7cf53 2 (some .int) 2 := ⟨tg_2 (List.mem_of_getElem? (i := 234) rfl) rfl, tg_1 (List.mem_of_getElem? (i := 14) rfl) rfl, by decide +kernel, by decide +kernel, by decide +kernel⟩
theorem ms_J9_max_7cf53 : Cond.static yJ9_max_7cf53 ∈ TG := tg_2 (List.mem_of_getElem? (i := 233) rfl) rfl
theorem mi_J9_min_7cf53 : Mi yJ9_min_7cf53 cJ9_min_7cf53 2 (some .int) 2 := ⟨tg_3 (List.mem_of_getElem? (i := 37) rfl) rfl, tg_1 (List.mem_of_getElem? (i := 14) rfl) rfl, by decide +kernel, by decide +kernel, by decide +kernel⟩
theorem ms_J9_min_7cf53 : Cond.static yJ9_min_7cf53 ∈ TG := tg_3 (List.mem_of_getElem? (i := 36) rfl) rfl
theorem lk_L_113 : Cond.methodLink RL 113 yX11_feed ∈ TG := tg_2 (List.mem_of_getElem? (i := 136) rfl) rfl
theorem lk_X11_93 : Cond.methodLink RX11 93 yX7_tapeSize ∈ TG := tg_2 (List.mem_of_getElem? (i := 140) rfl) rfl
theorem lk_X11_97 : Cond.methodLink RX11 97 yX7_tapeNumber ∈ TG := tg_2 (List.mem_of_getElem? (i := 144) rfl) rfl
theorem lk_L_118 : Cond.methodLink RL 118 yX11_samples ∈ TG := tg_2 (List.mem_of_getElem? (i := 148) rfl) rfl
theorem lk_X11_101 : Cond.methodLink RX11 101 yX7_hasRoom ∈ TG := tg_2 (List.mem_of_getElem? (i := 152) rfl) rfl
theorem lk_X11_105 : Cond.methodLink RX11 105 yX7_size ∈ TG := tg_2 (List.mem_of_getElem? (i := 156) rfl) rfl
theorem lk_X11_108 : Cond.methodLink RX11 108 yX7_appendFromTape ∈ TG := tg_2 (List.mem_of_getElem? (i := 160) rfl) rfl
theorem lk_X7_42 : Cond.methodLink RX7 42 yX7_append ∈ TG := tg_2 (List.mem_of_getElem? (i := 164) rfl) rfl
theorem lk_X11_111 : Cond.methodLink RX11 111 yX11_changedFrom ∈ TG := tg_2 (List.mem_of_getElem? (i := 168) rfl) rfl
theorem lk_X11_356 : Cond.methodLink RX11 356 yX2_forgetThose ∈ TG := tg_2 (List.mem_of_getElem? (i := 172) rfl) rfl
theorem lk_X2_39 : Cond.methodLink RX2 39 yX2_reach ∈ TG := tg_2 (List.mem_of_getElem? (i := 176) rfl) rfl
theorem lk_X2_44 : Cond.methodLink RX2 44 yX0_of ∈ TG := tg_2 (List.mem_of_getElem? (i := 180) rfl) rfl
theorem lk_X11_154 : Cond.methodLink RX11 154 yX11_forgetAnswers ∈ TG := tg_2 (List.mem_of_getElem? (i := 184) rfl) rfl
theorem lk_L_122 : Cond.methodLink RL 122 yX11_cycles ∈ TG := tg_2 (List.mem_of_getElem? (i := 188) rfl) rfl
theorem lk_X11_115 : Cond.methodLink RX11 115 yX11_isHeight ∈ TG := tg_2 (List.mem_of_getElem? (i := 192) rfl) rfl
theorem lk_X11_118 : Cond.methodLink RX11 118 yX11_quotient ∈ TG := tg_2 (List.mem_of_getElem? (i := 195) rfl) rfl
theorem lk_X11_378 : Cond.methodLink RX11 378 yJ9_floorDiv_7cf53 ∈ TG := tg_2 (List.mem_of_getElem? (i := 198) rfl) rfl
theorem lk_X11_121 : Cond.methodLink RX11 121 yX7_append ∈ TG := tg_2 (List.mem_of_getElem? (i := 201) rfl) rfl
theorem lk_L_126 : Cond.methodLink RL 126 yX11_noise ∈ TG := tg_2 (List.mem_of_getElem? (i := 202) rfl) rfl
theorem lk_L_130 : Cond.methodLink RL 130 yX11_poke ∈ TG := tg_2 (List.mem_of_getElem? (i := 207) rfl) rfl
theorem lk_X11_125 : Cond.methodLink RX11 125 yX7_has ∈ TG := tg_2 (List.mem_of_getElem? (i := 211) rfl) rfl
theorem lk_X11_128 : Cond.methodLink RX11 128 yX7_at ∈ TG := tg_2 (List.mem_of_getElem? (i := 215) rfl) rfl
theorem lk_X11_132 : Cond.methodLink RX11 132 yX7_put ∈ TG := tg_2 (List.mem_of_getElem? (i := 219) rfl) rfl
theorem lk_X7_22 : Cond.methodLink RX7 22 yX7_has ∈ TG := tg_2 (List.mem_of_getElem? (i := 223) rfl) rfl
theorem lk_L_134 : Cond.methodLink RL 134 yX11_cut ∈ TG := tg_2 (List.mem_of_getElem? (i := 224) rfl) rfl
theorem lk_X11_136 : Cond.methodLink RX11 136 yX7_drop ∈ TG := tg_2 (List.mem_of_getElem? (i := 228) rfl) rfl
theorem lk_X7_26 : Cond.methodLink RX7 26 yJ9_max_7cf53 ∈ TG := tg_2 (List.mem_of_getElem? (i := 232) rfl) rfl
theorem lk_L_148 : Cond.methodLink RL 148 yX11_bound ∈ TG := tg_2 (List.mem_of_getElem? (i := 235) rfl) rfl
theorem lk_X11_143 : Cond.methodLink RX11 143 yX0_allows ∈ TG := tg_2 (List.mem_of_getElem? (i := 239) rfl) rfl
theorem lk_X11_147 : Cond.methodLink RX11 147 yX0_of ∈ TG := tg_3 (List.mem_of_getElem? (i := 7) rfl) rfl
theorem lk_X11_150 : Cond.methodLink RX11 150 yX0_put ∈ TG := tg_3 (List.mem_of_getElem? (i := 8) rfl) rfl
theorem lk_X0_22 : Cond.methodLink RX0 22 yX0_allows ∈ TG := tg_3 (List.mem_of_getElem? (i := 12) rfl) rfl
theorem lk_X11_151 : Cond.methodLink RX11 151 yX2_forgetAll ∈ TG := tg_3 (List.mem_of_getElem? (i := 13) rfl) rfl
theorem lk_L_192 : Cond.methodLink RL 192 yX11_single ∈ TG := tg_3 (List.mem_of_getElem? (i := 17) rfl) rfl
theorem lk_X11_175 : Cond.methodLink RX11 175 yX11_findPath ∈ TG := tg_3 (List.mem_of_getElem? (i := 21) rfl) rfl
theorem lk_X11_369 : Cond.methodLink RX11 369 yX2_find ∈ TG := tg_3 (List.mem_of_getElem? (i := 25) rfl) rfl
theorem lk_X2_57 : Cond.methodLink RX2 57 yX2_size ∈ TG := tg_3 (List.mem_of_getElem? (i := 29) rfl) rfl
theorem lk_X2_33 : Cond.methodLink RX2 33 yX7_size ∈ TG := tg_3 (List.mem_of_getElem? (i := 33) rfl) rfl
theorem lk_X2_48 : (RX2, 48, yX11_quotient) ∈ u_ns := List.mem_of_getElem? (i := 0) rfl
theorem lk_X2_52 : Cond.methodLink RX2 52 yJ9_min_7cf53 ∈ TG := tg_3 (List.mem_of_getElem? (i := 35) rfl) rfl
theorem lk_X2_58 : Cond.methodLink RX2 58 yX2_measure ∈ TG := tg_3 (List.mem_of_getElem? (i := 38) rfl) rfl
theorem lk_X2_62 : Cond.methodLink RX2 62 yX7_offItself ∈ TG := tg_3 (List.mem_of_getElem? (i := 42) rfl) rfl
theorem lk_X2_66 : Cond.methodLink RX2 66 yX7_loudness ∈ TG := tg_3 (List.mem_of_getElem? (i := 46) rfl) rfl
theorem lk_X7_32 : Cond.methodLink RX7 32 yX7_at ∈ TG := tg_3 (List.mem_of_getElem? (i := 50) rfl) rfl
theorem lk_X7_36 : Cond.methodLink RX7 36 yJ9_abs_0f7a4 ∈ TG := tg_3 (List.mem_of_getElem? (i := 51) rfl) rfl
theorem lk_X11_372 : Cond.methodLink RX11 372 yX1_find ∈ TG := tg_3 (List.mem_of_getElem? (i := 54) rfl) rfl
theorem lk_X1_51 : Cond.methodLink RX1 51 yX2_size ∈ TG := tg_3 (List.mem_of_getElem? (i := 58) rfl) rfl
theorem lk_X1_57 : Cond.methodLink RX1 57 yX2_loudAt ∈ TG := tg_3 (List.mem_of_getElem? (i := 59) rfl) rfl
theorem lk_X1_62 : Cond.methodLink RX1 62 yX0_of ∈ TG := tg_3 (List.mem_of_getElem? (i := 63) rfl) rfl
theorem lk_X1_65 : Cond.methodLink RX1 65 yX1_keepDips ∈ TG := tg_3 (List.mem_of_getElem? (i := 64) rfl) rfl
theorem lk_X1_77 : Cond.methodLink RX1 77 yJ9_min_7cf53 ∈ TG := tg_3 (List.mem_of_getElem? (i := 68) rfl) rfl
theorem lk_X1_82 : Cond.methodLink RX1 82 yX1_isDip ∈ TG := tg_3 (List.mem_of_getElem? (i := 69) rfl) rfl
theorem lk_X1_89 : Cond.methodLink RX1 89 yX2_relAt ∈ TG := tg_3 (List.mem_of_getElem? (i := 73) rfl) rfl
theorem lk_X1_40 : (RX1, 40, yX11_cell) ∈ u_ns := List.mem_of_getElem? (i := 1) rfl
theorem lk_X1_85 : Cond.methodLink RX1 85 yX1_dropWorst ∈ TG := tg_3 (List.mem_of_getElem? (i := 80) rfl) rfl
theorem lk_X1_68 : Cond.methodLink RX1 68 yX1_lagOf ∈ TG := tg_3 (List.mem_of_getElem? (i := 84) rfl) rfl
theorem lk_X1_36 : Cond.methodLink RX1 36 yX1_has ∈ TG := tg_3 (List.mem_of_getElem? (i := 88) rfl) rfl
theorem lk_X1_71 : Cond.methodLink RX1 71 yX1_ownCost ∈ TG := tg_3 (List.mem_of_getElem? (i := 92) rfl) rfl
theorem lk_X1_74 : Cond.methodLink RX1 74 yX1_findHalf ∈ TG := tg_3 (List.mem_of_getElem? (i := 96) rfl) rfl
theorem lk_X1_44 : Cond.methodLink RX1 44 yX1_sizeOf ∈ TG := tg_3 (List.mem_of_getElem? (i := 100) rfl) rfl
theorem lk_X1_92 : Cond.methodLink RX1 92 yJ9_abs_0f7a4 ∈ TG := tg_3 (List.mem_of_getElem? (i := 104) rfl) rfl
theorem lk_X11_373 : Cond.methodLink RX11 373 yX5_find ∈ TG := tg_3 (List.mem_of_getElem? (i := 105) rfl) rfl
theorem lk_X5_54 : Cond.methodLink RX5 54 yX1_frameCount ∈ TG := tg_3 (List.mem_of_getElem? (i := 109) rfl) rfl
theorem lk_X5_64 : Cond.methodLink RX5 64 yX9_setBy ∈ TG := tg_3 (List.mem_of_getElem? (i := 113) rfl) rfl
theorem lk_X9_23 : Cond.methodLink RX9 23 yX0_of ∈ TG := tg_3 (List.mem_of_getElem? (i := 117) rfl) rfl
theorem lk_X9_27 : Cond.methodLink RX9 27 yX9_set ∈ TG := tg_3 (List.mem_of_getElem? (i := 118) rfl) rfl
theorem lk_X5_68 : Cond.methodLink RX5 68 yX5_findHeads ∈ TG := tg_3 (List.mem_of_getElem? (i := 122) rfl) rfl
theorem lk_X5_114 : Cond.methodLink RX5 114 yX1_sizeOf ∈ TG := tg_3 (List.mem_of_getElem? (i := 126) rfl) rfl
theorem lk_X5_82 : Cond.methodLink RX5 82 yX1_lagOf ∈ TG := tg_3 (List.mem_of_getElem? (i := 127) rfl) rfl
theorem lk_X5_108 : (RX5, 108, yX11_cell) ∈ u_ns := List.mem_of_getElem? (i := 2) rfl
theorem lk_X5_135 : Cond.methodLink RX5 135 yX9_price ∈ TG := tg_3 (List.mem_of_getElem? (i := 129) rfl) rfl
theorem lk_X5_111 : Cond.methodLink RX5 111 yX1_ownOf ∈ TG := tg_3 (List.mem_of_getElem? (i := 133) rfl) rfl
theorem lk_X5_72 : Cond.methodLink RX5 72 yX5_findRanks ∈ TG := tg_3 (List.mem_of_getElem? (i := 137) rfl) rfl
theorem lk_X5_138 : Cond.methodLink RX5 138 yX5_isAhead ∈ TG := tg_3 (List.mem_of_getElem? (i := 141) rfl) rfl
theorem lk_X5_104 : Cond.methodLink RX5 104 yX1_has ∈ TG := tg_3 (List.mem_of_getElem? (i := 145) rfl) rfl
theorem lk_X5_75 : Cond.methodLink RX5 75 yX5_findTails ∈ TG := tg_3 (List.mem_of_getElem? (i := 146) rfl) rfl
theorem lk_X5_130 : Cond.methodLink RX5 130 yJ9_min_7cf53 ∈ TG := tg_3 (List.mem_of_getElem? (i := 151) rfl) rfl
theorem lk_X5_78 : Cond.methodLink RX5 78 yX5_firstAtEnd ∈ TG := tg_3 (List.mem_of_getElem? (i := 152) rfl) rfl
theorem lk_X5_86 : Cond.methodLink RX5 86 yX5_aheadOf ∈ TG := tg_3 (List.mem_of_getElem? (i := 156) rfl) rfl
theorem lk_X11_374 : Cond.methodLink RX11 374 yX8_find ∈ TG := tg_3 (List.mem_of_getElem? (i := 160) rfl) rfl
theorem lk_X8_37 : Cond.methodLink RX8 37 yX5_size ∈ TG := tg_3 (List.mem_of_getElem? (i := 164) rfl) rfl
theorem lk_X8_42 : Cond.methodLink RX8 42 yX5_lagIn ∈ TG := tg_3 (List.mem_of_getElem? (i := 168) rfl) rfl
theorem lk_X11_375 : Cond.methodLink RX11 375 yX4_find ∈ TG := tg_3 (List.mem_of_getElem? (i := 172) rfl) rfl
theorem lk_X4_31 : Cond.methodLink RX4 31 yX4_findNotes ∈ TG := tg_3 (List.mem_of_getElem? (i := 176) rfl) rfl
theorem lk_X4_46 : Cond.methodLink RX4 46 yX5_size ∈ TG := tg_3 (List.mem_of_getElem? (i := 180) rfl) rfl
theorem lk_X4_67 : Cond.methodLink RX4 67 yX5_lagIn ∈ TG := tg_3 (List.mem_of_getElem? (i := 181) rfl) rfl
theorem lk_X4_71 : Cond.methodLink RX4 71 yJ9_abs_0f7a4 ∈ TG := tg_3 (List.mem_of_getElem? (i := 182) rfl) rfl
theorem lk_X4_38 : Cond.methodLink RX4 38 yX4_tallyLags ∈ TG := tg_3 (List.mem_of_getElem? (i := 183) rfl) rfl
theorem lk_X4_42 : (RX4, 42, yX11_middleLag) ∈ u_ns := List.mem_of_getElem? (i := 3) rfl
theorem lk_X4_54 : Cond.methodLink RX4 54 yX4_findSteady ∈ TG := tg_3 (List.mem_of_getElem? (i := 190) rfl) rfl
theorem lk_X11_218 : Cond.methodLink RX11 218 yX5_leastWithoutDoubles ∈ TG := tg_3 (List.mem_of_getElem? (i := 194) rfl) rfl
theorem lk_X5_122 : Cond.methodLink RX5 122 yX5_leastOfAll ∈ TG := tg_3 (List.mem_of_getElem? (i := 198) rfl) rfl
theorem lk_X5_118 : Cond.methodLink RX5 118 yX5_advance ∈ TG := tg_3 (List.mem_of_getElem? (i := 202) rfl) rfl
theorem lk_X5_101 : Cond.methodLink RX5 101 yX1_halfOf ∈ TG := tg_3 (List.mem_of_getElem? (i := 206) rfl) rfl
theorem lk_L_211 : Cond.methodLink RL 211 yX11_doubled ∈ TG := tg_3 (List.mem_of_getElem? (i := 210) rfl) rfl
theorem lk_X11_233 : Cond.methodLink RX11 233 yX5_doublesChosen ∈ TG := tg_3 (List.mem_of_getElem? (i := 214) rfl) rfl
theorem lk_L_215 : Cond.methodLink RL 215 yX11_spans ∈ TG := tg_3 (List.mem_of_getElem? (i := 218) rfl) rfl
theorem lk_X11_236 : Cond.methodLink RX11 236 yX8_size ∈ TG := tg_3 (List.mem_of_getElem? (i := 222) rfl) rfl
theorem lk_L_222 : Cond.methodLink RL 222 yX11_notes ∈ TG := tg_3 (List.mem_of_getElem? (i := 226) rfl) rfl
theorem lk_X11_262 : Cond.methodLink RX11 262 yX4_size ∈ TG := tg_3 (List.mem_of_getElem? (i := 230) rfl) rfl
theorem lk_L_232 : Cond.methodLink RL 232 yX11_lags ∈ TG := tg_3 (List.mem_of_getElem? (i := 234) rfl) rfl
theorem lk_X11_277 : Cond.methodLink RX11 277 yX4_unlikeLags ∈ TG := tg_3 (List.mem_of_getElem? (i := 238) rfl) rfl
theorem lk_L_242 : Cond.methodLink RL 242 yX11_tune ∈ TG := tg_4 (List.mem_of_getElem? (i := 2) rfl) rfl
theorem lk_X11_292 : Cond.methodLink RX11 292 yX10_hasRoom ∈ TG := tg_4 (List.mem_of_getElem? (i := 6) rfl) rfl
theorem lk_X11_295 : Cond.methodLink RX11 295 yX10_add ∈ TG := tg_4 (List.mem_of_getElem? (i := 10) rfl) rfl
theorem lk_X10_33 : Cond.methodLink RX10 33 yX10_hasRoom ∈ TG := tg_4 (List.mem_of_getElem? (i := 14) rfl) rfl
theorem lk_X11_158 : Cond.methodLink RX11 158 yX10_size ∈ TG := tg_4 (List.mem_of_getElem? (i := 15) rfl) rfl
theorem lk_L_246 : Cond.methodLink RL 246 yX11_hush ∈ TG := tg_4 (List.mem_of_getElem? (i := 19) rfl) rfl
theorem lk_X11_298 : Cond.methodLink RX11 298 yX10_clear ∈ TG := tg_4 (List.mem_of_getElem? (i := 23) rfl) rfl
theorem lk_L_256 : Cond.methodLink RL 256 yX11_marks ∈ TG := tg_4 (List.mem_of_getElem? (i := 27) rfl) rfl
theorem lk_X11_253 : Cond.methodLink RX11 253 yX11_findMarks ∈ TG := tg_4 (List.mem_of_getElem? (i := 31) rfl) rfl
theorem lk_X11_377 : Cond.methodLink RX11 377 yX3_find ∈ TG := tg_4 (List.mem_of_getElem? (i := 35) rfl) rfl
theorem lk_X3_46 : Cond.methodLink RX3 46 yX8_size ∈ TG := tg_4 (List.mem_of_getElem? (i := 39) rfl) rfl
theorem lk_X3_51 : Cond.methodLink RX3 51 yX8_isVoiced ∈ TG := tg_4 (List.mem_of_getElem? (i := 40) rfl) rfl
theorem lk_X8_46 : Cond.methodLink RX8 46 yX8_has ∈ TG := tg_4 (List.mem_of_getElem? (i := 44) rfl) rfl
theorem lk_X3_55 : Cond.methodLink RX3 55 yX8_from ∈ TG := tg_4 (List.mem_of_getElem? (i := 48) rfl) rfl
theorem lk_X8_52 : Cond.methodLink RX8 52 yX0_of ∈ TG := tg_4 (List.mem_of_getElem? (i := 52) rfl) rfl
theorem lk_X3_59 : Cond.methodLink RX3 59 yX8_to ∈ TG := tg_4 (List.mem_of_getElem? (i := 53) rfl) rfl
theorem lk_X8_55 : Cond.methodLink RX8 55 yX7_size ∈ TG := tg_4 (List.mem_of_getElem? (i := 57) rfl) rfl
theorem lk_X8_58 : Cond.methodLink RX8 58 yJ9_min_7cf53 ∈ TG := tg_4 (List.mem_of_getElem? (i := 58) rfl) rfl
theorem lk_X3_62 : Cond.methodLink RX3 62 yX3_findWorths ∈ TG := tg_4 (List.mem_of_getElem? (i := 59) rfl) rfl
theorem lk_X3_113 : Cond.methodLink RX3 113 yX0_of ∈ TG := tg_4 (List.mem_of_getElem? (i := 63) rfl) rfl
theorem lk_X3_116 : Cond.methodLink RX3 116 yJ9_min_7cf53 ∈ TG := tg_4 (List.mem_of_getElem? (i := 64) rfl) rfl
theorem lk_X3_108 : Cond.methodLink RX3 108 yX8_lagAtSample ∈ TG := tg_4 (List.mem_of_getElem? (i := 65) rfl) rfl
theorem lk_X8_64 : (RX8, 64, yX11_quotient) ∈ u_ns := List.mem_of_getElem? (i := 4) rfl
theorem lk_X3_90 : Cond.methodLink RX3 90 yJ9_abs_0f7a4 ∈ TG := tg_4 (List.mem_of_getElem? (i := 70) rfl) rfl
theorem lk_X3_92 : Cond.methodLink RX3 92 yX7_at ∈ TG := tg_4 (List.mem_of_getElem? (i := 71) rfl) rfl
theorem lk_X3_66 : Cond.methodLink RX3 66 yX3_markSpan ∈ TG := tg_4 (List.mem_of_getElem? (i := 72) rfl) rfl
theorem lk_X11_313 : Cond.methodLink RX11 313 yX3_size ∈ TG := tg_4 (List.mem_of_getElem? (i := 76) rfl) rfl
theorem lk_L_263 : Cond.methodLink RL 263 yX11_near ∈ TG := tg_4 (List.mem_of_getElem? (i := 80) rfl) rfl
theorem lk_X11_316 : Cond.methodLink RX11 316 yX3_nearest ∈ TG := tg_4 (List.mem_of_getElem? (i := 84) rfl) rfl
theorem lk_X3_74 : Cond.methodLink RX3 74 yX3_at ∈ TG := tg_4 (List.mem_of_getElem? (i := 88) rfl) rfl
theorem lk_X3_70 : Cond.methodLink RX3 70 yX3_has ∈ TG := tg_4 (List.mem_of_getElem? (i := 92) rfl) rfl
theorem lk_X3_77 : Cond.methodLink RX3 77 yJ9_abs_067f4 ∈ TG := tg_4 (List.mem_of_getElem? (i := 96) rfl) rfl
theorem lk_X11_315 : Cond.methodLink RX11 315 yX3_at ∈ TG := tg_4 (List.mem_of_getElem? (i := 99) rfl) rfl
theorem lk_L_267 : Cond.methodLink RL 267 yX11_behind ∈ TG := tg_4 (List.mem_of_getElem? (i := 100) rfl) rfl
theorem lk_L_277 : Cond.methodLink RL 277 yX11_roughest ∈ TG := tg_4 (List.mem_of_getElem? (i := 104) rfl) rfl
theorem lk_X11_335 : Cond.methodLink RX11 335 yX3_roughness ∈ TG := tg_4 (List.mem_of_getElem? (i := 108) rfl) rfl
theorem lk_X3_83 : Cond.methodLink RX3 83 yX3_gapBehind ∈ TG := tg_4 (List.mem_of_getElem? (i := 112) rfl) rfl
theorem lk_L_138 : Cond.methodLink RL 138 yL_sample ∈ TG := tg_4 (List.mem_of_getElem? (i := 116) rfl) rfl
theorem lk_L_7 : Cond.methodLink RL 7 yX11_sample ∈ TG := tg_4 (List.mem_of_getElem? (i := 120) rfl) rfl
theorem lk_X11_139 : Cond.methodLink RX11 139 yX11_need ∈ TG := tg_4 (List.mem_of_getElem? (i := 124) rfl) rfl
theorem lk_L_152 : Cond.methodLink RL 152 yL_count ∈ TG := tg_4 (List.mem_of_getElem? (i := 194) rfl) rfl
theorem lk_L_15 : Cond.methodLink RL 15 yX11_count ∈ TG := tg_4 (List.mem_of_getElem? (i := 197) rfl) rfl
theorem lk_X11_157 : Cond.methodLink RX11 157 yX2_size ∈ TG := tg_4 (List.mem_of_getElem? (i := 201) rfl) rfl
theorem lk_L_155 : Cond.methodLink RL 155 yL_diff ∈ TG := tg_4 (List.mem_of_getElem? (i := 202) rfl) rfl
theorem lk_L_18 : Cond.methodLink RL 18 yX11_diff ∈ TG := tg_4 (List.mem_of_getElem? (i := 205) rfl) rfl
theorem lk_X11_159 : Cond.methodLink RX11 159 yX2_has ∈ TG := tg_4 (List.mem_of_getElem? (i := 209) rfl) rfl
theorem lk_X11_160 : Cond.methodLink RX11 160 yX11_isLag ∈ TG := tg_4 (List.mem_of_getElem? (i := 213) rfl) rfl
theorem lk_X11_163 : Cond.methodLink RX11 163 yX2_measure ∈ TG := tg_4 (List.mem_of_getElem? (i := 217) rfl) rfl
theorem lk_X11_166 : Cond.methodLink RX11 166 yX2_diffAt ∈ TG := tg_4 (List.mem_of_getElem? (i := 218) rfl) rfl
theorem lk_L_159 : Cond.methodLink RL 159 yL_rel ∈ TG := tg_4 (List.mem_of_getElem? (i := 222) rfl) rfl
theorem lk_L_22 : Cond.methodLink RL 22 yX11_rel ∈ TG := tg_4 (List.mem_of_getElem? (i := 225) rfl) rfl
theorem lk_X11_169 : Cond.methodLink RX11 169 yX2_relAt ∈ TG := tg_4 (List.mem_of_getElem? (i := 229) rfl) rfl
theorem lk_L_162 : Cond.methodLink RL 162 yL_loud ∈ TG := tg_4 (List.mem_of_getElem? (i := 230) rfl) rfl
theorem lk_L_25 : Cond.methodLink RL 25 yX11_loud ∈ TG := tg_4 (List.mem_of_getElem? (i := 233) rfl) rfl
theorem lk_X11_172 : Cond.methodLink RX11 172 yX2_loudAt ∈ TG := tg_4 (List.mem_of_getElem? (i := 237) rfl) rfl
theorem lk_L_165 : Cond.methodLink RL 165 yL_candidates ∈ TG := tg_4 (List.mem_of_getElem? (i := 238) rfl) rfl
theorem lk_L_28 : Cond.methodLink RL 28 yX11_candidates ∈ TG := tg_5 (List.mem_of_getElem? (i := 1) rfl) rfl
theorem lk_X11_178 : Cond.methodLink RX11 178 yX1_sizeOf ∈ TG := tg_5 (List.mem_of_getElem? (i := 5) rfl) rfl
theorem lk_L_168 : Cond.methodLink RL 168 yL_candidate ∈ TG := tg_5 (List.mem_of_getElem? (i := 6) rfl) rfl
theorem lk_L_31 : Cond.methodLink RL 31 yX11_candidate ∈ TG := tg_5 (List.mem_of_getElem? (i := 9) rfl) rfl
theorem lk_X11_181 : Cond.methodLink RX11 181 yX1_has ∈ TG := tg_5 (List.mem_of_getElem? (i := 13) rfl) rfl
theorem lk_X11_183 : Cond.methodLink RX11 183 yX1_lagOf ∈ TG := tg_5 (List.mem_of_getElem? (i := 14) rfl) rfl
theorem lk_X11_186 : Cond.methodLink RX11 186 yX1_ownOf ∈ TG := tg_5 (List.mem_of_getElem? (i := 15) rfl) rfl
theorem lk_X11_189 : Cond.methodLink RX11 189 yX1_halfOf ∈ TG := tg_5 (List.mem_of_getElem? (i := 16) rfl) rfl
theorem lk_X11_192 : Cond.methodLink RX11 192 yX1_cheaperThan ∈ TG := tg_5 (List.mem_of_getElem? (i := 17) rfl) rfl
theorem lk_X1_48 : Cond.methodLink RX1 48 yX1_ownOf ∈ TG := tg_5 (List.mem_of_getElem? (i := 21) rfl) rfl
theorem lk_L_172 : Cond.methodLink RL 172 yL_fine ∈ TG := tg_5 (List.mem_of_getElem? (i := 22) rfl) rfl
theorem lk_L_35 : Cond.methodLink RL 35 yX11_fine ∈ TG := tg_5 (List.mem_of_getElem? (i := 25) rfl) rfl
theorem lk_X11_195 : Cond.methodLink RX11 195 yX11_lowest ∈ TG := tg_5 (List.mem_of_getElem? (i := 29) rfl) rfl
theorem lk_X11_383 : Cond.methodLink RX11 383 yJ9_abs_0f7a4 ∈ TG := tg_5 (List.mem_of_getElem? (i := 32) rfl) rfl
theorem lk_X11_386 : Cond.methodLink RX11 386 yX11_commonPart ∈ TG := tg_5 (List.mem_of_getElem? (i := 33) rfl) rfl
theorem lk_L_176 : Cond.methodLink RL 176 yL_cost ∈ TG := tg_5 (List.mem_of_getElem? (i := 36) rfl) rfl
theorem lk_L_39 : Cond.methodLink RL 39 yX11_cost ∈ TG := tg_5 (List.mem_of_getElem? (i := 39) rfl) rfl
theorem lk_X11_199 : Cond.methodLink RX11 199 yX5_priceOf ∈ TG := tg_5 (List.mem_of_getElem? (i := 43) rfl) rfl
theorem lk_X5_89 : Cond.methodLink RX5 89 yX5_ownSum ∈ TG := tg_5 (List.mem_of_getElem? (i := 47) rfl) rfl
theorem lk_X5_94 : Cond.methodLink RX5 94 yX0_of ∈ TG := tg_5 (List.mem_of_getElem? (i := 51) rfl) rfl
theorem lk_X5_97 : Cond.methodLink RX5 97 yX5_stepSum ∈ TG := tg_5 (List.mem_of_getElem? (i := 52) rfl) rfl
theorem lk_X5_126 : Cond.methodLink RX5 126 yX9_set ∈ TG := tg_5 (List.mem_of_getElem? (i := 56) rfl) rfl
theorem lk_L_179 : Cond.methodLink RL 179 yL_path ∈ TG := tg_5 (List.mem_of_getElem? (i := 57) rfl) rfl
theorem lk_L_42 : Cond.methodLink RL 42 yX11_path ∈ TG := tg_5 (List.mem_of_getElem? (i := 60) rfl) rfl
theorem lk_X11_202 : Cond.methodLink RX11 202 yX5_chosenIn ∈ TG := tg_5 (List.mem_of_getElem? (i := 64) rfl) rfl
theorem lk_L_182 : Cond.methodLink RL 182 yL_lag ∈ TG := tg_5 (List.mem_of_getElem? (i := 68) rfl) rfl
theorem lk_L_45 : Cond.methodLink RL 45 yX11_lag ∈ TG := tg_5 (List.mem_of_getElem? (i := 71) rfl) rfl
theorem lk_X11_205 : Cond.methodLink RX11 205 yX5_lagIn ∈ TG := tg_5 (List.mem_of_getElem? (i := 75) rfl) rfl
theorem lk_L_185 : Cond.methodLink RL 185 yL_through ∈ TG := tg_5 (List.mem_of_getElem? (i := 76) rfl) rfl
theorem lk_L_48 : Cond.methodLink RL 48 yX11_through ∈ TG := tg_5 (List.mem_of_getElem? (i := 79) rfl) rfl
theorem lk_X11_208 : Cond.methodLink RX11 208 yX5_leastThrough ∈ TG := tg_5 (List.mem_of_getElem? (i := 83) rfl) rfl
theorem lk_L_188 : Cond.methodLink RL 188 yL_both ∈ TG := tg_5 (List.mem_of_getElem? (i := 87) rfl) rfl
theorem lk_L_51 : Cond.methodLink RL 51 yX11_both ∈ TG := tg_5 (List.mem_of_getElem? (i := 91) rfl) rfl
theorem lk_X11_211 : Cond.methodLink RX11 211 yX11_allow ∈ TG := tg_5 (List.mem_of_getElem? (i := 95) rfl) rfl
theorem lk_X11_214 : Cond.methodLink RX11 214 yX5_leastThroughTwo ∈ TG := tg_5 (List.mem_of_getElem? (i := 114) rfl) rfl
theorem lk_L_196 : Cond.methodLink RL 196 yL_live ∈ TG := tg_5 (List.mem_of_getElem? (i := 118) rfl) rfl
theorem lk_L_57 : Cond.methodLink RL 57 yX11_live ∈ TG := tg_5 (List.mem_of_getElem? (i := 121) rfl) rfl
theorem lk_X11_221 : Cond.methodLink RX11 221 yX5_chosenLive ∈ TG := tg_5 (List.mem_of_getElem? (i := 125) rfl) rfl
theorem lk_L_199 : Cond.methodLink RL 199 yL_settles ∈ TG := tg_5 (List.mem_of_getElem? (i := 129) rfl) rfl
theorem lk_L_60 : Cond.methodLink RL 60 yX11_settles ∈ TG := tg_5 (List.mem_of_getElem? (i := 132) rfl) rfl
theorem lk_L_202 : Cond.methodLink RL 202 yL_best ∈ TG := tg_5 (List.mem_of_getElem? (i := 136) rfl) rfl
theorem lk_L_63 : Cond.methodLink RL 63 yX11_best ∈ TG := tg_5 (List.mem_of_getElem? (i := 139) rfl) rfl
theorem lk_X11_224 : Cond.methodLink RX11 224 yX11_findRanking ∈ TG := tg_5 (List.mem_of_getElem? (i := 143) rfl) rfl
theorem lk_X11_376 : Cond.methodLink RX11 376 yX6_find ∈ TG := tg_5 (List.mem_of_getElem? (i := 147) rfl) rfl
theorem lk_X6_42 : Cond.methodLink RX6 42 yX9_setBy ∈ TG := tg_5 (List.mem_of_getElem? (i := 151) rfl) rfl
theorem lk_X6_46 : Cond.methodLink RX6 46 yX1_frameCount ∈ TG := tg_5 (List.mem_of_getElem? (i := 152) rfl) rfl
theorem lk_X6_52 : Cond.methodLink RX6 52 yX1_sizeOf ∈ TG := tg_5 (List.mem_of_getElem? (i := 153) rfl) rfl
theorem lk_X6_56 : Cond.methodLink RX6 56 yX6_findWays ∈ TG := tg_5 (List.mem_of_getElem? (i := 154) rfl) rfl
theorem lk_X6_71 : Cond.methodLink RX6 71 yX1_ownOf ∈ TG := tg_5 (List.mem_of_getElem? (i := 158) rfl) rfl
theorem lk_X6_64 : Cond.methodLink RX6 64 yX6_place ∈ TG := tg_5 (List.mem_of_getElem? (i := 159) rfl) rfl
theorem lk_X6_68 : (RX6, 68, yX11_cell) ∈ u_ns := List.mem_of_getElem? (i := 5) rfl
theorem lk_X6_74 : Cond.methodLink RX6 74 yX1_lagOf ∈ TG := tg_5 (List.mem_of_getElem? (i := 163) rfl) rfl
theorem lk_X6_77 : Cond.methodLink RX6 77 yX9_price ∈ TG := tg_5 (List.mem_of_getElem? (i := 164) rfl) rfl
theorem lk_X6_80 : Cond.methodLink RX6 80 yX6_cheapestNext ∈ TG := tg_5 (List.mem_of_getElem? (i := 165) rfl) rfl
theorem lk_X11_227 : Cond.methodLink RX11 227 yX6_priceOf ∈ TG := tg_5 (List.mem_of_getElem? (i := 169) rfl) rfl
theorem lk_L_205 : Cond.methodLink RL 205 yL_bestAt ∈ TG := tg_5 (List.mem_of_getElem? (i := 173) rfl) rfl
theorem lk_L_66 : Cond.methodLink RL 66 yX11_bestAt ∈ TG := tg_5 (List.mem_of_getElem? (i := 176) rfl) rfl
theorem lk_X11_228 : Cond.methodLink RX11 228 yX6_chosenIn ∈ TG := tg_5 (List.mem_of_getElem? (i := 180) rfl) rfl
theorem lk_X6_60 : Cond.methodLink RX6 60 yX1_has ∈ TG := tg_5 (List.mem_of_getElem? (i := 184) rfl) rfl
theorem lk_L_208 : Cond.methodLink RL 208 yL_would ∈ TG := tg_5 (List.mem_of_getElem? (i := 185) rfl) rfl
theorem lk_L_69 : Cond.methodLink RL 69 yX11_would ∈ TG := tg_5 (List.mem_of_getElem? (i := 188) rfl) rfl
theorem lk_X11_230 : Cond.methodLink RX11 230 yX5_leastWith ∈ TG := tg_5 (List.mem_of_getElem? (i := 192) rfl) rfl
theorem lk_L_219 : Cond.methodLink RL 219 yL_span ∈ TG := tg_5 (List.mem_of_getElem? (i := 196) rfl) rfl
theorem lk_L_72 : Cond.methodLink RL 72 yX11_span ∈ TG := tg_5 (List.mem_of_getElem? (i := 199) rfl) rfl
theorem lk_X11_237 : Cond.methodLink RX11 237 yX8_has ∈ TG := tg_5 (List.mem_of_getElem? (i := 203) rfl) rfl
theorem lk_X11_238 : Cond.methodLink RX11 238 yX8_firstFrame ∈ TG := tg_5 (List.mem_of_getElem? (i := 204) rfl) rfl
theorem lk_X11_241 : Cond.methodLink RX11 241 yX8_length ∈ TG := tg_5 (List.mem_of_getElem? (i := 208) rfl) rfl
theorem lk_X11_244 : Cond.methodLink RX11 244 yX8_isVoiced ∈ TG := tg_5 (List.mem_of_getElem? (i := 212) rfl) rfl
theorem lk_X11_247 : Cond.methodLink RX11 247 yX8_from ∈ TG := tg_5 (List.mem_of_getElem? (i := 213) rfl) rfl
theorem lk_X11_250 : Cond.methodLink RX11 250 yX8_to ∈ TG := tg_5 (List.mem_of_getElem? (i := 214) rfl) rfl
theorem lk_X11_256 : Cond.methodLink RX11 256 yX3_sizeIn ∈ TG := tg_5 (List.mem_of_getElem? (i := 215) rfl) rfl
theorem lk_X3_73 : Cond.methodLink RX3 73 yX8_has ∈ TG := tg_5 (List.mem_of_getElem? (i := 219) rfl) rfl
theorem lk_X11_259 : Cond.methodLink RX11 259 yX3_worthIn ∈ TG := tg_5 (List.mem_of_getElem? (i := 220) rfl) rfl
theorem lk_L_226 : Cond.methodLink RL 226 yL_note ∈ TG := tg_5 (List.mem_of_getElem? (i := 224) rfl) rfl
theorem lk_L_75 : Cond.methodLink RL 75 yX11_note ∈ TG := tg_5 (List.mem_of_getElem? (i := 227) rfl) rfl
theorem lk_X11_263 : Cond.methodLink RX11 263 yX4_has ∈ TG := tg_5 (List.mem_of_getElem? (i := 231) rfl) rfl
theorem lk_X11_264 : Cond.methodLink RX11 264 yX4_firstFrame ∈ TG := tg_5 (List.mem_of_getElem? (i := 235) rfl) rfl
theorem lk_X4_57 : Cond.methodLink RX4 57 yX4_has ∈ TG := tg_5 (List.mem_of_getElem? (i := 239) rfl) rfl
theorem lk_X11_265 : Cond.methodLink RX11 265 yX4_length ∈ TG := tg_6 (List.mem_of_getElem? (i := 0) rfl) rfl
theorem lk_X11_266 : Cond.methodLink RX11 266 yX4_lagOf ∈ TG := tg_6 (List.mem_of_getElem? (i := 4) rfl) rfl
theorem lk_L_229 : Cond.methodLink RL 229 yL_steady ∈ TG := tg_6 (List.mem_of_getElem? (i := 8) rfl) rfl
theorem lk_L_78 : Cond.methodLink RL 78 yX11_steady ∈ TG := tg_6 (List.mem_of_getElem? (i := 11) rfl) rfl
theorem lk_X11_268 : Cond.methodLink RX11 268 yX4_steadyFirst ∈ TG := tg_6 (List.mem_of_getElem? (i := 15) rfl) rfl
theorem lk_X11_271 : Cond.methodLink RX11 271 yX4_steadyLength ∈ TG := tg_6 (List.mem_of_getElem? (i := 19) rfl) rfl
theorem lk_X11_274 : Cond.methodLink RX11 274 yX4_steadyLag ∈ TG := tg_6 (List.mem_of_getElem? (i := 23) rfl) rfl
theorem lk_L_236 : Cond.methodLink RL 236 yL_lagAt ∈ TG := tg_6 (List.mem_of_getElem? (i := 27) rfl) rfl
theorem lk_L_81 : Cond.methodLink RL 81 yX11_lagAt ∈ TG := tg_6 (List.mem_of_getElem? (i := 30) rfl) rfl
theorem lk_X11_280 : Cond.methodLink RX11 280 yX4_unlikeLag ∈ TG := tg_6 (List.mem_of_getElem? (i := 34) rfl) rfl
theorem lk_X11_283 : Cond.methodLink RX11 283 yX4_framesWith ∈ TG := tg_6 (List.mem_of_getElem? (i := 38) rfl) rfl
theorem lk_L_239 : Cond.methodLink RL 239 yL_common ∈ TG := tg_6 (List.mem_of_getElem? (i := 42) rfl) rfl
theorem lk_L_84 : Cond.methodLink RL 84 yX11_common ∈ TG := tg_6 (List.mem_of_getElem? (i := 45) rfl) rfl
theorem lk_X11_286 : Cond.methodLink RX11 286 yX4_commonest ∈ TG := tg_6 (List.mem_of_getElem? (i := 49) rfl) rfl
theorem lk_X11_289 : Cond.methodLink RX11 289 yX4_middleOfAll ∈ TG := tg_6 (List.mem_of_getElem? (i := 53) rfl) rfl
theorem lk_L_250 : Cond.methodLink RL 250 yL_match ∈ TG := tg_6 (List.mem_of_getElem? (i := 57) rfl) rfl
theorem lk_L_87 : Cond.methodLink RL 87 yX11_match ∈ TG := tg_6 (List.mem_of_getElem? (i := 60) rfl) rfl
theorem lk_X11_301 : Cond.methodLink RX11 301 yX10_findPairs ∈ TG := tg_6 (List.mem_of_getElem? (i := 64) rfl) rfl
theorem lk_X10_37 : Cond.methodLink RX10 37 yX10_findLeast ∈ TG := tg_6 (List.mem_of_getElem? (i := 68) rfl) rfl
theorem lk_X10_46 : Cond.methodLink RX10 46 yX0_of ∈ TG := tg_6 (List.mem_of_getElem? (i := 72) rfl) rfl
theorem lk_X10_50 : Cond.methodLink RX10 50 yX4_size ∈ TG := tg_6 (List.mem_of_getElem? (i := 73) rfl) rfl
theorem lk_X10_55 : Cond.methodLink RX10 55 yJ9_min_7cf53 ∈ TG := tg_6 (List.mem_of_getElem? (i := 74) rfl) rfl
theorem lk_X10_60 : Cond.methodLink RX10 60 yX10_pairPrice ∈ TG := tg_6 (List.mem_of_getElem? (i := 75) rfl) rfl
theorem lk_X10_63 : Cond.methodLink RX10 63 yX4_lagOf ∈ TG := tg_6 (List.mem_of_getElem? (i := 79) rfl) rfl
theorem lk_X10_66 : Cond.methodLink RX10 66 yJ9_abs_0f7a4 ∈ TG := tg_6 (List.mem_of_getElem? (i := 80) rfl) rfl
theorem lk_X10_40 : Cond.methodLink RX10 40 yX10_firstPair ∈ TG := tg_6 (List.mem_of_getElem? (i := 81) rfl) rfl
theorem lk_X11_304 : Cond.methodLink RX11 304 yX10_price ∈ TG := tg_6 (List.mem_of_getElem? (i := 85) rfl) rfl
theorem lk_X11_307 : Cond.methodLink RX11 307 yX10_pairs ∈ TG := tg_6 (List.mem_of_getElem? (i := 89) rfl) rfl
theorem lk_L_253 : Cond.methodLink RL 253 yL_matched ∈ TG := tg_6 (List.mem_of_getElem? (i := 93) rfl) rfl
theorem lk_L_90 : Cond.methodLink RL 90 yX11_matched ∈ TG := tg_6 (List.mem_of_getElem? (i := 96) rfl) rfl
theorem lk_X11_310 : Cond.methodLink RX11 310 yX10_pairOf ∈ TG := tg_6 (List.mem_of_getElem? (i := 100) rfl) rfl
theorem lk_L_260 : Cond.methodLink RL 260 yL_mark ∈ TG := tg_6 (List.mem_of_getElem? (i := 104) rfl) rfl
theorem lk_L_93 : Cond.methodLink RL 93 yX11_mark ∈ TG := tg_6 (List.mem_of_getElem? (i := 107) rfl) rfl
theorem lk_X11_314 : Cond.methodLink RX11 314 yX3_has ∈ TG := tg_6 (List.mem_of_getElem? (i := 111) rfl) rfl
theorem lk_L_271 : Cond.methodLink RL 271 yL_gaps ∈ TG := tg_6 (List.mem_of_getElem? (i := 112) rfl) rfl
theorem lk_L_96 : Cond.methodLink RL 96 yX11_gaps ∈ TG := tg_6 (List.mem_of_getElem? (i := 115) rfl) rfl
theorem lk_X11_320 : Cond.methodLink RX11 320 yX3_gapCount ∈ TG := tg_6 (List.mem_of_getElem? (i := 119) rfl) rfl
theorem lk_X11_323 : Cond.methodLink RX11 323 yX3_jitter ∈ TG := tg_6 (List.mem_of_getElem? (i := 123) rfl) rfl
theorem lk_X11_326 : Cond.methodLink RX11 326 yX3_shimmer ∈ TG := tg_6 (List.mem_of_getElem? (i := 127) rfl) rfl
theorem lk_X11_329 : Cond.methodLink RX11 329 yX3_longestGap ∈ TG := tg_6 (List.mem_of_getElem? (i := 131) rfl) rfl
theorem lk_X3_86 : Cond.methodLink RX3 86 yJ9_max_7cf53 ∈ TG := tg_6 (List.mem_of_getElem? (i := 135) rfl) rfl
theorem lk_X11_332 : Cond.methodLink RX11 332 yX3_shortestGap ∈ TG := tg_6 (List.mem_of_getElem? (i := 136) rfl) rfl
theorem lk_L_274 : Cond.methodLink RL 274 yL_rough ∈ TG := tg_6 (List.mem_of_getElem? (i := 140) rfl) rfl
theorem lk_L_99 : Cond.methodLink RL 99 yX11_rough ∈ TG := tg_6 (List.mem_of_getElem? (i := 143) rfl) rfl
theorem lk_L_281 : Cond.methodLink RL 281 yL_mean ∈ TG := tg_6 (List.mem_of_getElem? (i := 147) rfl) rfl
theorem lk_L_102 : Cond.methodLink RL 102 yX11_mean ∈ TG := tg_6 (List.mem_of_getElem? (i := 150) rfl) rfl
theorem lk_X11_338 : Cond.methodLink RX11 338 yX3_gapSum ∈ TG := tg_6 (List.mem_of_getElem? (i := 154) rfl) rfl
theorem lk_L_285 : Cond.methodLink RL 285 yL_anew ∈ TG := tg_6 (List.mem_of_getElem? (i := 158) rfl) rfl
theorem lk_L_106 : Cond.methodLink RL 106 yX11_anew ∈ TG := tg_6 (List.mem_of_getElem? (i := 161) rfl) rfl
theorem lk_X11_341 : Cond.methodLink RX11 341 yX3_renewed ∈ TG := tg_6 (List.mem_of_getElem? (i := 165) rfl) rfl
theorem lk_X3_95 : Cond.methodLink RX3 95 yX8_ofSample ∈ TG := tg_6 (List.mem_of_getElem? (i := 169) rfl) rfl
theorem lk_X3_98 : Cond.methodLink RX3 98 yX3_nearest ∈ TG := tg_6 (List.mem_of_getElem? (i := 173) rfl) rfl
theorem lk_X3_102 : Cond.methodLink RX3 102 yX3_grasp ∈ TG := tg_6 (List.mem_of_getElem? (i := 174) rfl) rfl
theorem lk_X3_105 : (RX3, 105, yX11_quotient) ∈ u_ns := List.mem_of_getElem? (i := 6) rfl
theorem lk_L_144 : Cond.methodLink RL 144 yX12_thrown ∈ TG := tg_7 (List.mem_of_getElem? (i := 96) rfl) rfl
theorem lk_L_117 : Cond.methodLink RL 117 yX12_feed ∈ TG := tg_7 (List.mem_of_getElem? (i := 100) rfl) rfl
theorem lk_X12_126 : Cond.methodLink RX12 126 yX12_comes ∈ TG := tg_7 (List.mem_of_getElem? (i := 104) rfl) rfl
theorem lk_L_121 : Cond.methodLink RL 121 yX12_samples ∈ TG := tg_7 (List.mem_of_getElem? (i := 108) rfl) rfl
theorem lk_X12_133 : Cond.methodLink RX12 133 yX12_isIn ∈ TG := tg_7 (List.mem_of_getElem? (i := 112) rfl) rfl
theorem lk_X12_137 : Cond.methodLink RX12 137 yX12_adds ∈ TG := tg_7 (List.mem_of_getElem? (i := 115) rfl) rfl
theorem lk_L_125 : Cond.methodLink RL 125 yX12_cycles ∈ TG := tg_7 (List.mem_of_getElem? (i := 119) rfl) rfl
theorem lk_L_129 : Cond.methodLink RL 129 yX12_noise ∈ TG := tg_7 (List.mem_of_getElem? (i := 123) rfl) rfl
theorem lk_X12_144 : Cond.methodLink RX12 144 yX12_draw ∈ TG := tg_7 (List.mem_of_getElem? (i := 127) rfl) rfl
theorem lk_L_133 : Cond.methodLink RL 133 yX12_poke ∈ TG := tg_7 (List.mem_of_getElem? (i := 132) rfl) rfl
theorem lk_L_137 : Cond.methodLink RL 137 yX12_cut ∈ TG := tg_7 (List.mem_of_getElem? (i := 136) rfl) rfl
theorem lk_L_143 : Cond.methodLink RL 143 yX12_sample ∈ TG := tg_7 (List.mem_of_getElem? (i := 140) rfl) rfl
theorem lk_X12_148 : Cond.methodLink RX12 148 yX12_right ∈ TG := tg_7 (List.mem_of_getElem? (i := 144) rfl) rfl
theorem lk_L_151 : Cond.methodLink RL 151 yX12_bound ∈ TG := tg_7 (List.mem_of_getElem? (i := 148) rfl) rfl
theorem lk_X12_152 : Cond.methodLink RX12 152 yX12_canBe ∈ TG := tg_7 (List.mem_of_getElem? (i := 152) rfl) rfl
theorem lk_L_154 : Cond.methodLink RL 154 yX12_count ∈ TG := tg_7 (List.mem_of_getElem? (i := 156) rfl) rfl
theorem lk_X12_156 : Cond.methodLink RX12 156 yX12_frames ∈ TG := tg_7 (List.mem_of_getElem? (i := 160) rfl) rfl
theorem lk_L_158 : Cond.methodLink RL 158 yX12_diff ∈ TG := tg_7 (List.mem_of_getElem? (i := 164) rfl) rfl
theorem lk_X12_167 : Cond.methodLink RX12 167 yX12_isFrame ∈ TG := tg_7 (List.mem_of_getElem? (i := 168) rfl) rfl
theorem lk_X12_171 : Cond.methodLink RX12 171 yX12_isLag ∈ TG := tg_7 (List.mem_of_getElem? (i := 172) rfl) rfl
theorem lk_X12_174 : Cond.methodLink RX12 174 yX12_laysDiffs ∈ TG := tg_7 (List.mem_of_getElem? (i := 176) rfl) rfl
theorem lk_X12_163 : Cond.methodLink RX12 163 yX12_apart ∈ TG := tg_7 (List.mem_of_getElem? (i := 180) rfl) rfl
theorem lk_L_161 : Cond.methodLink RL 161 yX12_rel ∈ TG := tg_7 (List.mem_of_getElem? (i := 183) rfl) rfl
theorem lk_L_164 : Cond.methodLink RL 164 yX12_loud ∈ TG := tg_7 (List.mem_of_getElem? (i := 187) rfl) rfl
theorem lk_X12_177 : Cond.methodLink RX12 177 yX12_loudOf ∈ TG := tg_7 (List.mem_of_getElem? (i := 191) rfl) rfl
theorem lk_L_167 : Cond.methodLink RL 167 yX12_candidates ∈ TG := tg_7 (List.mem_of_getElem? (i := 195) rfl) rfl
theorem lk_X12_192 : Cond.methodLink RX12 192 yX12_laysFrame ∈ TG := tg_7 (List.mem_of_getElem? (i := 199) rfl) rfl
theorem lk_X12_183 : Cond.methodLink RX12 183 yX12_laysDips ∈ TG := tg_7 (List.mem_of_getElem? (i := 203) rfl) rfl
theorem lk_X12_180 : Cond.methodLink RX12 180 yX12_isDipAt ∈ TG := tg_7 (List.mem_of_getElem? (i := 207) rfl) rfl
theorem lk_X12_186 : Cond.methodLink RX12 186 yX12_aheadOf ∈ TG := tg_7 (List.mem_of_getElem? (i := 211) rfl) rfl
theorem lk_L_171 : Cond.methodLink RL 171 yX12_candidate ∈ TG := tg_7 (List.mem_of_getElem? (i := 215) rfl) rfl
theorem lk_X12_198 : Cond.methodLink RX12 198 yX12_isCandidate ∈ TG := tg_7 (List.mem_of_getElem? (i := 219) rfl) rfl
theorem lk_X12_195 : Cond.methodLink RX12 195 yX12_lagAt1 ∈ TG := tg_7 (List.mem_of_getElem? (i := 223) rfl) rfl
theorem lk_X12_201 : Cond.methodLink RX12 201 yX12_ownAt ∈ TG := tg_7 (List.mem_of_getElem? (i := 227) rfl) rfl
theorem lk_X12_204 : Cond.methodLink RX12 204 yX12_doubleOf ∈ TG := tg_7 (List.mem_of_getElem? (i := 231) rfl) rfl
theorem lk_L_175 : Cond.methodLink RL 175 yX12_fine ∈ TG := tg_7 (List.mem_of_getElem? (i := 235) rfl) rfl
theorem lk_X12_207 : Cond.methodLink RX12 207 yX12_divisor ∈ TG := tg_7 (List.mem_of_getElem? (i := 239) rfl) rfl
theorem lk_L_178 : Cond.methodLink RL 178 yX12_cost ∈ TG := tg_8 (List.mem_of_getElem? (i := 2) rfl) rfl
theorem lk_X12_254 : Cond.methodLink RX12 254 yX12_laysPath ∈ TG := tg_8 (List.mem_of_getElem? (i := 6) rfl) rfl
theorem lk_X12_239 : Cond.methodLink RX12 239 yX12_laysAll ∈ TG := tg_8 (List.mem_of_getElem? (i := 10) rfl) rfl
theorem lk_X12_242 : Cond.methodLink RX12 242 yX12_opens ∈ TG := tg_8 (List.mem_of_getElem? (i := 14) rfl) rfl
theorem lk_X12_245 : Cond.methodLink RX12 245 yX12_laysCosts ∈ TG := tg_8 (List.mem_of_getElem? (i := 18) rfl) rfl
theorem lk_X12_230 : Cond.methodLink RX12 230 yX12_leastBehind ∈ TG := tg_8 (List.mem_of_getElem? (i := 22) rfl) rfl
theorem lk_X12_223 : Cond.methodLink RX12 223 yX12_between ∈ TG := tg_8 (List.mem_of_getElem? (i := 27) rfl) rfl
theorem lk_X12_219 : Cond.methodLink RX12 219 yX12_step ∈ TG := tg_8 (List.mem_of_getElem? (i := 31) rfl) rfl
theorem lk_X12_213 : Cond.methodLink RX12 213 yX12_isOctave ∈ TG := tg_8 (List.mem_of_getElem? (i := 35) rfl) rfl
theorem lk_X12_248 : Cond.methodLink RX12 248 yX12_goesAlong ∈ TG := tg_8 (List.mem_of_getElem? (i := 38) rfl) rfl
theorem lk_X12_233 : Cond.methodLink RX12 233 yX12_leastOfAll ∈ TG := tg_8 (List.mem_of_getElem? (i := 42) rfl) rfl
theorem lk_X12_236 : Cond.methodLink RX12 236 yX12_reached ∈ TG := tg_8 (List.mem_of_getElem? (i := 46) rfl) rfl
theorem lk_X12_257 : Cond.methodLink RX12 257 yX12_part ∈ TG := tg_8 (List.mem_of_getElem? (i := 50) rfl) rfl
theorem lk_X12_251 : Cond.methodLink RX12 251 yX12_lagOnPath ∈ TG := tg_8 (List.mem_of_getElem? (i := 54) rfl) rfl
theorem lk_L_181 : Cond.methodLink RL 181 yX12_path ∈ TG := tg_8 (List.mem_of_getElem? (i := 58) rfl) rfl
theorem lk_L_184 : Cond.methodLink RL 184 yX12_lag ∈ TG := tg_8 (List.mem_of_getElem? (i := 62) rfl) rfl
theorem lk_L_187 : Cond.methodLink RL 187 yX12_through ∈ TG := tg_8 (List.mem_of_getElem? (i := 66) rfl) rfl
theorem lk_X12_260 : Cond.methodLink RX12 260 yX12_leavesOnly ∈ TG := tg_8 (List.mem_of_getElem? (i := 70) rfl) rfl
theorem lk_L_191 : Cond.methodLink RL 191 yX12_both ∈ TG := tg_8 (List.mem_of_getElem? (i := 74) rfl) rfl
theorem lk_L_195 : Cond.methodLink RL 195 yX12_single ∈ TG := tg_8 (List.mem_of_getElem? (i := 78) rfl) rfl
theorem lk_L_198 : Cond.methodLink RL 198 yX12_live ∈ TG := tg_8 (List.mem_of_getElem? (i := 82) rfl) rfl
theorem lk_X12_264 : Cond.methodLink RX12 264 yX12_livesBy ∈ TG := tg_8 (List.mem_of_getElem? (i := 86) rfl) rfl
theorem lk_L_201 : Cond.methodLink RL 201 yX12_settles ∈ TG := tg_8 (List.mem_of_getElem? (i := 90) rfl) rfl
theorem lk_L_210 : Cond.methodLink RL 210 yX12_would ∈ TG := tg_8 (List.mem_of_getElem? (i := 94) rfl) rfl
theorem lk_L_214 : Cond.methodLink RL 214 yX12_doubled ∈ TG := tg_8 (List.mem_of_getElem? (i := 98) rfl) rfl
theorem lk_L_204 : Cond.methodLink RL 204 yX12_best ∈ TG := tg_8 (List.mem_of_getElem? (i := 102) rfl) rfl
theorem lk_X12_284 : Cond.methodLink RX12 284 yX12_laysTops ∈ TG := tg_8 (List.mem_of_getElem? (i := 106) rfl) rfl
theorem lk_X12_277 : Cond.methodLink RX12 277 yX12_ranksFrom ∈ TG := tg_8 (List.mem_of_getElem? (i := 110) rfl) rfl
theorem lk_X12_270 : Cond.methodLink RX12 270 yX12_ranks ∈ TG := tg_8 (List.mem_of_getElem? (i := 114) rfl) rfl
theorem lk_X12_267 : Cond.methodLink RX12 267 yX12_rankAt ∈ TG := tg_8 (List.mem_of_getElem? (i := 118) rfl) rfl
theorem lk_X12_280 : Cond.methodLink RX12 280 yX12_tops ∈ TG := tg_8 (List.mem_of_getElem? (i := 121) rfl) rfl
theorem lk_L_207 : Cond.methodLink RL 207 yX12_bestAt ∈ TG := tg_8 (List.mem_of_getElem? (i := 125) rfl) rfl
theorem lk_L_218 : Cond.methodLink RL 218 yX12_spans ∈ TG := tg_8 (List.mem_of_getElem? (i := 129) rfl) rfl
theorem lk_X12_290 : Cond.methodLink RX12 290 yX12_laysSpans ∈ TG := tg_8 (List.mem_of_getElem? (i := 133) rfl) rfl
theorem lk_L_221 : Cond.methodLink RL 221 yX12_span ∈ TG := tg_8 (List.mem_of_getElem? (i := 137) rfl) rfl
theorem lk_X12_293 : Cond.methodLink RX12 293 yX12_laysMarks ∈ TG := tg_8 (List.mem_of_getElem? (i := 141) rfl) rfl
theorem lk_X12_296 : Cond.methodLink RX12 296 yX12_isVoiced ∈ TG := tg_8 (List.mem_of_getElem? (i := 145) rfl) rfl
theorem lk_X12_353 : Cond.methodLink RX12 353 yX12_marksOf ∈ TG := tg_8 (List.mem_of_getElem? (i := 149) rfl) rfl
theorem lk_X12_299 : Cond.methodLink RX12 299 yX12_firstSample ∈ TG := tg_8 (List.mem_of_getElem? (i := 153) rfl) rfl
theorem lk_X12_302 : Cond.methodLink RX12 302 yX12_behindSpan ∈ TG := tg_8 (List.mem_of_getElem? (i := 157) rfl) rfl
theorem lk_X12_347 : Cond.methodLink RX12 347 yX12_laysBehind ∈ TG := tg_8 (List.mem_of_getElem? (i := 161) rfl) rfl
theorem lk_X12_344 : Cond.methodLink RX12 344 yX12_periodAt ∈ TG := tg_8 (List.mem_of_getElem? (i := 165) rfl) rfl
theorem lk_X12_329 : Cond.methodLink RX12 329 yX12_lesser ∈ TG := tg_8 (List.mem_of_getElem? (i := 169) rfl) rfl
theorem lk_L_225 : Cond.methodLink RL 225 yX12_notes ∈ TG := tg_8 (List.mem_of_getElem? (i := 172) rfl) rfl
theorem lk_X12_317 : Cond.methodLink RX12 317 yX12_laysNotes ∈ TG := tg_8 (List.mem_of_getElem? (i := 176) rfl) rfl
theorem lk_X12_311 : Cond.methodLink RX12 311 yX12_goesOnNote ∈ TG := tg_8 (List.mem_of_getElem? (i := 180) rfl) rfl
theorem lk_X12_314 : Cond.methodLink RX12 314 yX12_middleOf ∈ TG := tg_8 (List.mem_of_getElem? (i := 184) rfl) rfl
theorem lk_X12_305 : Cond.methodLink RX12 305 yX12_sorts ∈ TG := tg_8 (List.mem_of_getElem? (i := 188) rfl) rfl
theorem lk_L_228 : Cond.methodLink RL 228 yX12_note ∈ TG := tg_8 (List.mem_of_getElem? (i := 192) rfl) rfl
theorem lk_L_231 : Cond.methodLink RL 231 yX12_steady ∈ TG := tg_8 (List.mem_of_getElem? (i := 196) rfl) rfl
theorem lk_L_235 : Cond.methodLink RL 235 yX12_lags ∈ TG := tg_8 (List.mem_of_getElem? (i := 200) rfl) rfl
theorem lk_X12_320 : Cond.methodLink RX12 320 yX12_laysOften ∈ TG := tg_8 (List.mem_of_getElem? (i := 204) rfl) rfl
theorem lk_L_238 : Cond.methodLink RL 238 yX12_lagAt ∈ TG := tg_8 (List.mem_of_getElem? (i := 208) rfl) rfl
theorem lk_L_241 : Cond.methodLink RL 241 yX12_common ∈ TG := tg_8 (List.mem_of_getElem? (i := 212) rfl) rfl
theorem lk_X12_323 : Cond.methodLink RX12 323 yX12_inMiddle ∈ TG := tg_8 (List.mem_of_getElem? (i := 216) rfl) rfl
theorem lk_L_245 : Cond.methodLink RL 245 yX12_tune ∈ TG := tg_8 (List.mem_of_getElem? (i := 220) rfl) rfl
theorem lk_L_249 : Cond.methodLink RL 249 yX12_hush ∈ TG := tg_8 (List.mem_of_getElem? (i := 224) rfl) rfl
theorem lk_L_252 : Cond.methodLink RL 252 yX12_match ∈ TG := tg_8 (List.mem_of_getElem? (i := 228) rfl) rfl
theorem lk_X12_341 : Cond.methodLink RX12 341 yX12_laysMatch ∈ TG := tg_8 (List.mem_of_getElem? (i := 232) rfl) rfl
theorem lk_X12_326 : Cond.methodLink RX12 326 yX12_matchAt ∈ TG := tg_8 (List.mem_of_getElem? (i := 236) rfl) rfl
theorem lk_X12_332 : Cond.methodLink RX12 332 yX12_pairCost ∈ TG := tg_8 (List.mem_of_getElem? (i := 239) rfl) rfl
theorem lk_X12_335 : Cond.methodLink RX12 335 yX12_goesMatch ∈ TG := tg_9 (List.mem_of_getElem? (i := 3) rfl) rfl
theorem lk_L_255 : Cond.methodLink RL 255 yX12_matched ∈ TG := tg_9 (List.mem_of_getElem? (i := 7) rfl) rfl
theorem lk_L_259 : Cond.methodLink RL 259 yX12_marks ∈ TG := tg_9 (List.mem_of_getElem? (i := 11) rfl) rfl
theorem lk_L_262 : Cond.methodLink RL 262 yX12_mark ∈ TG := tg_9 (List.mem_of_getElem? (i := 15) rfl) rfl
theorem lk_L_266 : Cond.methodLink RL 266 yX12_near ∈ TG := tg_9 (List.mem_of_getElem? (i := 19) rfl) rfl
theorem lk_X12_356 : Cond.methodLink RX12 356 yX12_off ∈ TG := tg_9 (List.mem_of_getElem? (i := 23) rfl) rfl
theorem lk_L_270 : Cond.methodLink RL 270 yX12_behind ∈ TG := tg_9 (List.mem_of_getElem? (i := 26) rfl) rfl
theorem lk_L_273 : Cond.methodLink RL 273 yX12_gaps ∈ TG := tg_9 (List.mem_of_getElem? (i := 30) rfl) rfl
theorem lk_X12_360 : Cond.methodLink RX12 360 yX12_hasGap ∈ TG := tg_9 (List.mem_of_getElem? (i := 34) rfl) rfl
theorem lk_X12_363 : Cond.methodLink RX12 363 yX12_gapOf ∈ TG := tg_9 (List.mem_of_getElem? (i := 38) rfl) rfl
theorem lk_L_276 : Cond.methodLink RL 276 yX12_rough ∈ TG := tg_9 (List.mem_of_getElem? (i := 42) rfl) rfl
theorem lk_X12_369 : Cond.methodLink RX12 369 yX12_roughOf ∈ TG := tg_9 (List.mem_of_getElem? (i := 46) rfl) rfl
theorem lk_X12_366 : Cond.methodLink RX12 366 yX12_at ∈ TG := tg_9 (List.mem_of_getElem? (i := 50) rfl) rfl
theorem lk_L_280 : Cond.methodLink RL 280 yX12_roughest ∈ TG := tg_9 (List.mem_of_getElem? (i := 54) rfl) rfl
theorem lk_L_284 : Cond.methodLink RL 284 yX12_mean ∈ TG := tg_9 (List.mem_of_getElem? (i := 58) rfl) rfl
theorem lk_L_287 : Cond.methodLink RL 287 yX12_anew ∈ TG := tg_9 (List.mem_of_getElem? (i := 62) rfl) rfl
theorem lk_X12_381 : Cond.methodLink RX12 381 yX12_setAnew ∈ TG := tg_9 (List.mem_of_getElem? (i := 66) rfl) rfl
theorem lk_X12_372 : Cond.methodLink RX12 372 yX12_markNear ∈ TG := tg_9 (List.mem_of_getElem? (i := 70) rfl) rfl
theorem lk_X12_375 : Cond.methodLink RX12 375 yX12_graspOf ∈ TG := tg_9 (List.mem_of_getElem? (i := 74) rfl) rfl
theorem lk_X12_378 : Cond.methodLink RX12 378 yX12_down ∈ TG := tg_9 (List.mem_of_getElem? (i := 78) rfl) rfl
theorem in_X0 : ∀ w ∈ u_ws RX0 TX0 1, w ∈ TG := by
  intro w hw
  obtain ⟨k, hk, rfl⟩ := List.mem_map.mp hw
  have hk := List.mem_range.mp hk
  exact match k, hk with
    | 0, _ => tg_1 (List.mem_of_getElem? (i := 57) rfl) rfl
    | k + 1, h => absurd h (by omega)
theorem in_X1 : ∀ w ∈ u_ws RX1 TX1 7, w ∈ TG := by
  intro w hw
  obtain ⟨k, hk, rfl⟩ := List.mem_map.mp hw
  have hk := List.mem_range.mp hk
  exact match k, hk with
    | 0, _ => tg_1 (List.mem_of_getElem? (i := 99) rfl) rfl
    | 1, _ => tg_1 (List.mem_of_getElem? (i := 101) rfl) rfl
    | 2, _ => tg_1 (List.mem_of_getElem? (i := 103) rfl) rfl
    | 3, _ => tg_1 (List.mem_of_getElem? (i := 105) rfl) rfl
    | 4, _ => tg_1 (List.mem_of_getElem? (i := 107) rfl) rfl
    | 5, _ => tg_1 (List.mem_of_getElem? (i := 109) rfl) rfl
    | 6, _ => tg_1 (List.mem_of_getElem? (i := 111) rfl) rfl
    | k + 7, h => absurd h (by omega)
theorem in_X2 : ∀ w ∈ u_ws RX2 TX2 6, w ∈ TG := by
  intro w hw
  obtain ⟨k, hk, rfl⟩ := List.mem_map.mp hw
  have hk := List.mem_range.mp hk
  exact match k, hk with
    | 0, _ => tg_1 (List.mem_of_getElem? (i := 72) rfl) rfl
    | 1, _ => tg_1 (List.mem_of_getElem? (i := 74) rfl) rfl
    | 2, _ => tg_1 (List.mem_of_getElem? (i := 76) rfl) rfl
    | 3, _ => tg_1 (List.mem_of_getElem? (i := 78) rfl) rfl
    | 4, _ => tg_1 (List.mem_of_getElem? (i := 80) rfl) rfl
    | 5, _ => tg_1 (List.mem_of_getElem? (i := 82) rfl) rfl
    | k + 6, h => absurd h (by omega)
theorem in_X3 : ∀ w ∈ u_ws RX3 TX3 10, w ∈ TG := by
  intro w hw
  obtain ⟨k, hk, rfl⟩ := List.mem_map.mp hw
  have hk := List.mem_range.mp hk
  exact match k, hk with
    | 0, _ => tg_2 (List.mem_of_getElem? (i := 50) rfl) rfl
    | 1, _ => tg_2 (List.mem_of_getElem? (i := 52) rfl) rfl
    | 2, _ => tg_2 (List.mem_of_getElem? (i := 54) rfl) rfl
    | 3, _ => tg_2 (List.mem_of_getElem? (i := 56) rfl) rfl
    | 4, _ => tg_2 (List.mem_of_getElem? (i := 58) rfl) rfl
    | 5, _ => tg_2 (List.mem_of_getElem? (i := 60) rfl) rfl
    | 6, _ => tg_2 (List.mem_of_getElem? (i := 62) rfl) rfl
    | 7, _ => tg_2 (List.mem_of_getElem? (i := 64) rfl) rfl
    | 8, _ => tg_2 (List.mem_of_getElem? (i := 66) rfl) rfl
    | 9, _ => tg_2 (List.mem_of_getElem? (i := 68) rfl) rfl
    | k + 10, h => absurd h (by omega)
theorem in_X4 : ∀ w ∈ u_ws RX4 TX4 10, w ∈ TG := by
  intro w hw
  obtain ⟨k, hk, rfl⟩ := List.mem_map.mp hw
  have hk := List.mem_range.mp hk
  exact match k, hk with
    | 0, _ => tg_2 (List.mem_of_getElem? (i := 13) rfl) rfl
    | 1, _ => tg_2 (List.mem_of_getElem? (i := 15) rfl) rfl
    | 2, _ => tg_2 (List.mem_of_getElem? (i := 17) rfl) rfl
    | 3, _ => tg_2 (List.mem_of_getElem? (i := 19) rfl) rfl
    | 4, _ => tg_2 (List.mem_of_getElem? (i := 21) rfl) rfl
    | 5, _ => tg_2 (List.mem_of_getElem? (i := 23) rfl) rfl
    | 6, _ => tg_2 (List.mem_of_getElem? (i := 25) rfl) rfl
    | 7, _ => tg_2 (List.mem_of_getElem? (i := 27) rfl) rfl
    | 8, _ => tg_2 (List.mem_of_getElem? (i := 29) rfl) rfl
    | 9, _ => tg_2 (List.mem_of_getElem? (i := 31) rfl) rfl
    | k + 10, h => absurd h (by omega)
theorem in_X5 : ∀ w ∈ u_ws RX5 TX5 13, w ∈ TG := by
  intro w hw
  obtain ⟨k, hk, rfl⟩ := List.mem_map.mp hw
  have hk := List.mem_range.mp hk
  exact match k, hk with
    | 0, _ => tg_1 (List.mem_of_getElem? (i := 149) rfl) rfl
    | 1, _ => tg_1 (List.mem_of_getElem? (i := 151) rfl) rfl
    | 2, _ => tg_1 (List.mem_of_getElem? (i := 153) rfl) rfl
    | 3, _ => tg_1 (List.mem_of_getElem? (i := 155) rfl) rfl
    | 4, _ => tg_1 (List.mem_of_getElem? (i := 157) rfl) rfl
    | 5, _ => tg_1 (List.mem_of_getElem? (i := 159) rfl) rfl
    | 6, _ => tg_1 (List.mem_of_getElem? (i := 161) rfl) rfl
    | 7, _ => tg_1 (List.mem_of_getElem? (i := 163) rfl) rfl
    | 8, _ => tg_1 (List.mem_of_getElem? (i := 165) rfl) rfl
    | 9, _ => tg_1 (List.mem_of_getElem? (i := 167) rfl) rfl
    | 10, _ => tg_1 (List.mem_of_getElem? (i := 169) rfl) rfl
    | 11, _ => tg_1 (List.mem_of_getElem? (i := 171) rfl) rfl
    | 12, _ => tg_1 (List.mem_of_getElem? (i := 173) rfl) rfl
    | k + 13, h => absurd h (by omega)
theorem in_X6 : ∀ w ∈ u_ws RX6 TX6 8, w ∈ TG := by
  intro w hw
  obtain ⟨k, hk, rfl⟩ := List.mem_map.mp hw
  have hk := List.mem_range.mp hk
  exact match k, hk with
    | 0, _ => tg_1 (List.mem_of_getElem? (i := 192) rfl) rfl
    | 1, _ => tg_1 (List.mem_of_getElem? (i := 194) rfl) rfl
    | 2, _ => tg_1 (List.mem_of_getElem? (i := 196) rfl) rfl
    | 3, _ => tg_1 (List.mem_of_getElem? (i := 198) rfl) rfl
    | 4, _ => tg_1 (List.mem_of_getElem? (i := 200) rfl) rfl
    | 5, _ => tg_1 (List.mem_of_getElem? (i := 202) rfl) rfl
    | 6, _ => tg_1 (List.mem_of_getElem? (i := 204) rfl) rfl
    | 7, _ => tg_1 (List.mem_of_getElem? (i := 206) rfl) rfl
    | k + 8, h => absurd h (by omega)
theorem in_X7 : ∀ w ∈ u_ws RX7 TX7 4, w ∈ TG := by
  intro w hw
  obtain ⟨k, hk, rfl⟩ := List.mem_map.mp hw
  have hk := List.mem_range.mp hk
  exact match k, hk with
    | 0, _ => tg_1 (List.mem_of_getElem? (i := 38) rfl) rfl
    | 1, _ => tg_1 (List.mem_of_getElem? (i := 40) rfl) rfl
    | 2, _ => tg_1 (List.mem_of_getElem? (i := 42) rfl) rfl
    | 3, _ => tg_1 (List.mem_of_getElem? (i := 44) rfl) rfl
    | k + 4, h => absurd h (by omega)
theorem in_X8 : ∀ w ∈ u_ws RX8 TX8 7, w ∈ TG := by
  intro w hw
  obtain ⟨k, hk, rfl⟩ := List.mem_map.mp hw
  have hk := List.mem_range.mp hk
  exact match k, hk with
    | 0, _ => tg_1 (List.mem_of_getElem? (i := 222) rfl) rfl
    | 1, _ => tg_1 (List.mem_of_getElem? (i := 224) rfl) rfl
    | 2, _ => tg_1 (List.mem_of_getElem? (i := 226) rfl) rfl
    | 3, _ => tg_1 (List.mem_of_getElem? (i := 228) rfl) rfl
    | 4, _ => tg_1 (List.mem_of_getElem? (i := 230) rfl) rfl
    | 5, _ => tg_1 (List.mem_of_getElem? (i := 232) rfl) rfl
    | 6, _ => tg_1 (List.mem_of_getElem? (i := 234) rfl) rfl
    | k + 7, h => absurd h (by omega)
theorem in_X9 : ∀ w ∈ u_ws RX9 TX9 3, w ∈ TG := by
  intro w hw
  obtain ⟨k, hk, rfl⟩ := List.mem_map.mp hw
  have hk := List.mem_range.mp hk
  exact match k, hk with
    | 0, _ => tg_1 (List.mem_of_getElem? (i := 129) rfl) rfl
    | 1, _ => tg_1 (List.mem_of_getElem? (i := 131) rfl) rfl
    | 2, _ => tg_1 (List.mem_of_getElem? (i := 133) rfl) rfl
    | k + 3, h => absurd h (by omega)
theorem in_X10 : ∀ w ∈ u_ws RX10 TX10 6, w ∈ TG := by
  intro w hw
  obtain ⟨k, hk, rfl⟩ := List.mem_map.mp hw
  have hk := List.mem_range.mp hk
  exact match k, hk with
    | 0, _ => tg_2 (List.mem_of_getElem? (i := 83) rfl) rfl
    | 1, _ => tg_2 (List.mem_of_getElem? (i := 85) rfl) rfl
    | 2, _ => tg_2 (List.mem_of_getElem? (i := 87) rfl) rfl
    | 3, _ => tg_2 (List.mem_of_getElem? (i := 89) rfl) rfl
    | 4, _ => tg_2 (List.mem_of_getElem? (i := 91) rfl) rfl
    | 5, _ => tg_2 (List.mem_of_getElem? (i := 93) rfl) rfl
    | k + 6, h => absurd h (by omega)
theorem in_X11 : ∀ w ∈ u_ws RX11 TX11 13, w ∈ TG := by
  intro w hw
  obtain ⟨k, hk, rfl⟩ := List.mem_map.mp hw
  have hk := List.mem_range.mp hk
  exact match k, hk with
    | 0, _ => tg_2 (List.mem_of_getElem? (i := 109) rfl) rfl
    | 1, _ => tg_2 (List.mem_of_getElem? (i := 111) rfl) rfl
    | 2, _ => tg_2 (List.mem_of_getElem? (i := 113) rfl) rfl
    | 3, _ => tg_2 (List.mem_of_getElem? (i := 115) rfl) rfl
    | 4, _ => tg_2 (List.mem_of_getElem? (i := 117) rfl) rfl
    | 5, _ => tg_2 (List.mem_of_getElem? (i := 119) rfl) rfl
    | 6, _ => tg_2 (List.mem_of_getElem? (i := 121) rfl) rfl
    | 7, _ => tg_2 (List.mem_of_getElem? (i := 123) rfl) rfl
    | 8, _ => tg_2 (List.mem_of_getElem? (i := 125) rfl) rfl
    | 9, _ => tg_2 (List.mem_of_getElem? (i := 127) rfl) rfl
    | 10, _ => tg_2 (List.mem_of_getElem? (i := 129) rfl) rfl
    | 11, _ => tg_2 (List.mem_of_getElem? (i := 131) rfl) rfl
    | 12, _ => tg_2 (List.mem_of_getElem? (i := 133) rfl) rfl
    | k + 13, h => absurd h (by omega)
theorem in_X12 : ∀ w ∈ u_ws RX12 TX12 50, w ∈ TG := by
  intro w hw
  obtain ⟨k, hk, rfl⟩ := List.mem_map.mp hw
  have hk := List.mem_range.mp hk
  exact match k, hk with
    | 0, _ => tg_6 (List.mem_of_getElem? (i := 235) rfl) rfl
    | 1, _ => tg_6 (List.mem_of_getElem? (i := 237) rfl) rfl
    | 2, _ => tg_6 (List.mem_of_getElem? (i := 239) rfl) rfl
    | 3, _ => tg_7 (List.mem_of_getElem? (i := 1) rfl) rfl
    | 4, _ => tg_7 (List.mem_of_getElem? (i := 3) rfl) rfl
    | 5, _ => tg_7 (List.mem_of_getElem? (i := 5) rfl) rfl
    | 6, _ => tg_7 (List.mem_of_getElem? (i := 7) rfl) rfl
    | 7, _ => tg_7 (List.mem_of_getElem? (i := 9) rfl) rfl
    | 8, _ => tg_7 (List.mem_of_getElem? (i := 11) rfl) rfl
    | 9, _ => tg_7 (List.mem_of_getElem? (i := 13) rfl) rfl
    | 10, _ => tg_7 (List.mem_of_getElem? (i := 15) rfl) rfl
    | 11, _ => tg_7 (List.mem_of_getElem? (i := 17) rfl) rfl
    | 12, _ => tg_7 (List.mem_of_getElem? (i := 19) rfl) rfl
    | 13, _ => tg_7 (List.mem_of_getElem? (i := 21) rfl) rfl
    | 14, _ => tg_7 (List.mem_of_getElem? (i := 23) rfl) rfl
    | 15, _ => tg_7 (List.mem_of_getElem? (i := 25) rfl) rfl
    | 16, _ => tg_7 (List.mem_of_getElem? (i := 27) rfl) rfl
    | 17, _ => tg_7 (List.mem_of_getElem? (i := 29) rfl) rfl
    | 18, _ => tg_7 (List.mem_of_getElem? (i := 31) rfl) rfl
    | 19, _ => tg_7 (List.mem_of_getElem? (i := 33) rfl) rfl
    | 20, _ => tg_7 (List.mem_of_getElem? (i := 35) rfl) rfl
    | 21, _ => tg_7 (List.mem_of_getElem? (i := 37) rfl) rfl
    | 22, _ => tg_7 (List.mem_of_getElem? (i := 39) rfl) rfl
    | 23, _ => tg_7 (List.mem_of_getElem? (i := 41) rfl) rfl
    | 24, _ => tg_7 (List.mem_of_getElem? (i := 43) rfl) rfl
    | 25, _ => tg_7 (List.mem_of_getElem? (i := 45) rfl) rfl
    | 26, _ => tg_7 (List.mem_of_getElem? (i := 47) rfl) rfl
    | 27, _ => tg_7 (List.mem_of_getElem? (i := 49) rfl) rfl
    | 28, _ => tg_7 (List.mem_of_getElem? (i := 51) rfl) rfl
    | 29, _ => tg_7 (List.mem_of_getElem? (i := 53) rfl) rfl
    | 30, _ => tg_7 (List.mem_of_getElem? (i := 55) rfl) rfl
    | 31, _ => tg_7 (List.mem_of_getElem? (i := 57) rfl) rfl
    | 32, _ => tg_7 (List.mem_of_getElem? (i := 59) rfl) rfl
    | 33, _ => tg_7 (List.mem_of_getElem? (i := 61) rfl) rfl
    | 34, _ => tg_7 (List.mem_of_getElem? (i := 63) rfl) rfl
    | 35, _ => tg_7 (List.mem_of_getElem? (i := 65) rfl) rfl
    | 36, _ => tg_7 (List.mem_of_getElem? (i := 67) rfl) rfl
    | 37, _ => tg_7 (List.mem_of_getElem? (i := 69) rfl) rfl
    | 38, _ => tg_7 (List.mem_of_getElem? (i := 71) rfl) rfl
    | 39, _ => tg_7 (List.mem_of_getElem? (i := 73) rfl) rfl
    | 40, _ => tg_7 (List.mem_of_getElem? (i := 75) rfl) rfl
    | 41, _ => tg_7 (List.mem_of_getElem? (i := 77) rfl) rfl
    | 42, _ => tg_7 (List.mem_of_getElem? (i := 79) rfl) rfl
    | 43, _ => tg_7 (List.mem_of_getElem? (i := 81) rfl) rfl
    | 44, _ => tg_7 (List.mem_of_getElem? (i := 83) rfl) rfl
    | 45, _ => tg_7 (List.mem_of_getElem? (i := 85) rfl) rfl
    | 46, _ => tg_7 (List.mem_of_getElem? (i := 87) rfl) rfl
    | 47, _ => tg_7 (List.mem_of_getElem? (i := 89) rfl) rfl
    | 48, _ => tg_7 (List.mem_of_getElem? (i := 91) rfl) rfl
    | 49, _ => tg_7 (List.mem_of_getElem? (i := 93) rfl) rfl
    | k + 50, h => absurd h (by omega)
