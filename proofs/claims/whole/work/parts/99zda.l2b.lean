/-! ===== the law: as a method ===== -/
def tL : List (Nat × List (Nat × zI)) := tL_0 ++ (tL_1 ++ (tL_2 ++ (tL_3 ++ (tL_4 ++ (tL_5 ++ (tL_6 ++ (tL_7 ++ (tL_8 ++ (tL_9 ++ (tL_10 ++ (tL_11 ++ (tL_12 ++ (tL_13 ++ (tL_14 ++ (tL_15 ++ (tL_16 ++ (tL_17 ++ (tL_18 ++ (tL_19 ++ (tL_20 ++ (tL_21 ++ (tL_22 ++ (tL_23)))))))))))))))))))))))
def mLw : zM := (yL_law, cL_law, 4, some .boolean, zf2 tL, [], [], [])
set_option maxRecDepth 20000 in
theorem mLw_ok : zmok mLw := zmok_of (L := tL) (by decide +kernel) rfl (zall_app tL_0_ok (zall_app tL_1_ok (zall_app tL_2_ok (zall_app tL_3_ok (zall_app tL_4_ok (zall_app tL_5_ok (zall_app tL_6_ok (zall_app tL_7_ok (zall_app tL_8_ok (zall_app tL_9_ok (zall_app tL_10_ok (zall_app tL_11_ok (zall_app tL_12_ok (zall_app tL_13_ok (zall_app tL_14_ok (zall_app tL_15_ok (zall_app tL_16_ok (zall_app tL_17_ok (zall_app tL_18_ok (zall_app tL_19_ok (zall_app tL_20_ok (zall_app tL_21_ok (zall_app tL_22_ok tL_23_ok))))))))))))))))))))))) (fun _ h => by cases h) (fun _ h => by cases h) (fun _ h => by cases h)
set_option maxRecDepth 100000 in
set_option maxHeartbeats 4000000 in
theorem zcX7_init : zcm mX7_init 0 := ⟨z_in (List.mem_of_getElem? (i := 15) (by decide +kernel)) rfl, z_in (List.mem_of_getElem? (i := 924) rfl) rfl, by decide +kernel, by decide +kernel, by decide +kernel⟩
theorem lL_12 : zlI RL 12 mX7_init 0 := ⟨z_in (List.mem_of_getElem? (i := 922) (by decide +kernel)) rfl, z_in (List.mem_of_getElem? (i := 923) (by decide +kernel)) rfl, rfl, rfl, zcX7_init⟩
